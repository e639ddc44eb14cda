section
-- ===== PART A: goes FIRST, ahead of the names: the tables' words, and 'selects' of the private methods out of them =====
/-- a private method of a class that the tables say can be made, by its rows of tables_1 -/
def lw_okq (q : MethodName × Nat) : Prop := (q.1.cls ≠ "java/lang/invoke/MethodHandle" ∧ q.1.cls ≠ "java/lang/invoke/VarHandle") ∧ Cond.instantiable q.1.cls q.2 ∈ tables_1 ∧ Cond.privateMethod q.1 ∈ tables_1 ∧ Cond.instanceMethod q.1 ∈ tables_1
theorem lw_p0 : lw_okq (⟨"ToldDrops$History", "dropOldest", "()V"⟩, 2) := ⟨⟨by decide +kernel, by decide +kernel⟩, List.mem_of_getElem? (i := 179) (by decide +kernel), List.mem_of_getElem? (i := 280) (by decide +kernel), List.mem_of_getElem? (i := 281) (by decide +kernel)⟩
theorem lw_p1 : lw_okq (⟨"ToldDrops$Valley", "moveRunners", "()V"⟩, 6) := ⟨⟨by decide +kernel, by decide +kernel⟩, List.mem_of_getElem? (i := 19) (by decide +kernel), List.mem_of_getElem? (i := 308) (by decide +kernel), List.mem_of_getElem? (i := 309) (by decide +kernel)⟩
theorem lw_p2 : lw_okq (⟨"ToldDrops$Valley", "hear", "(LToldDrops$Runner;)V"⟩, 6) := ⟨⟨by decide +kernel, by decide +kernel⟩, List.mem_of_getElem? (i := 19) (by decide +kernel), List.mem_of_getElem? (i := 316) (by decide +kernel), List.mem_of_getElem? (i := 317) (by decide +kernel)⟩
theorem lw_p3 : lw_okq (⟨"ToldDrops$Valley", "wentOn", "(LToldDrops$Gauge;LToldDrops$Runner;)I"⟩, 6) := ⟨⟨by decide +kernel, by decide +kernel⟩, List.mem_of_getElem? (i := 19) (by decide +kernel), List.mem_of_getElem? (i := 328) (by decide +kernel), List.mem_of_getElem? (i := 329) (by decide +kernel)⟩
theorem lw_p4 : lw_okq (⟨"ToldDrops$Valley", "expectedTips", "(LToldDrops$Gauge;LToldDrops$Runner;)I"⟩, 6) := ⟨⟨by decide +kernel, by decide +kernel⟩, List.mem_of_getElem? (i := 19) (by decide +kernel), List.mem_of_getElem? (i := 332) (by decide +kernel), List.mem_of_getElem? (i := 333) (by decide +kernel)⟩
theorem lw_p5 : lw_okq (⟨"ToldDrops$Valley", "roundsFor", "(I)I"⟩, 6) := ⟨⟨by decide +kernel, by decide +kernel⟩, List.mem_of_getElem? (i := 19) (by decide +kernel), List.mem_of_getElem? (i := 336) (by decide +kernel), List.mem_of_getElem? (i := 337) (by decide +kernel)⟩
theorem lw_p6 : lw_okq (⟨"ToldDrops$Valley", "addRunner", "()LToldDrops$Runner;"⟩, 6) := ⟨⟨by decide +kernel, by decide +kernel⟩, List.mem_of_getElem? (i := 19) (by decide +kernel), List.mem_of_getElem? (i := 384) (by decide +kernel), List.mem_of_getElem? (i := 385) (by decide +kernel)⟩
def lw_privs_1 : List (MethodName × Nat) := [(⟨"ToldDrops$History", "dropOldest", "()V"⟩, 2), (⟨"ToldDrops$Valley", "moveRunners", "()V"⟩, 6), (⟨"ToldDrops$Valley", "hear", "(LToldDrops$Runner;)V"⟩, 6), (⟨"ToldDrops$Valley", "wentOn", "(LToldDrops$Gauge;LToldDrops$Runner;)I"⟩, 6), (⟨"ToldDrops$Valley", "expectedTips", "(LToldDrops$Gauge;LToldDrops$Runner;)I"⟩, 6), (⟨"ToldDrops$Valley", "roundsFor", "(I)I"⟩, 6), (⟨"ToldDrops$Valley", "addRunner", "()LToldDrops$Runner;"⟩, 6)]
theorem lw_r1 : ∀ q ∈ lw_privs_1, lw_okq q := List.forall_mem_cons.mpr ⟨lw_p0, List.forall_mem_cons.mpr ⟨lw_p1, List.forall_mem_cons.mpr ⟨lw_p2, List.forall_mem_cons.mpr ⟨lw_p3, List.forall_mem_cons.mpr ⟨lw_p4, List.forall_mem_cons.mpr ⟨lw_p5, List.forall_mem_cons.mpr ⟨lw_p6, fun _ h => absurd h List.not_mem_nil⟩⟩⟩⟩⟩⟩⟩
def lw_privs : List (MethodName × Nat) := lw_privs_1
def lw_tbl : List Cond := k2_sels lw_privs ++ tables_1
theorem lw_privs_ok : ∀ q ∈ lw_privs, lw_okq q := lw_r1
-- ===== end of PART A; then your names; then what follows =====
end
section
def RX0 : String := "ToldDrops$Gauge"
def TX0 : u_T := fun k => match k with
  | 0 => ("ToldDrops$Gauge", "mouth", "I", false)
  | 1 => ("ToldDrops$Gauge", "cup", "I", false)
  | 2 => ("ToldDrops$Gauge", "share", "I", false)
  | 3 => ("ToldDrops$Gauge", "way", "I", false)
  | 4 => ("ToldDrops$Gauge", "drops", "I", false)
  | 5 => ("ToldDrops$Gauge", "tips", "I", false)
  | 6 => ("ToldDrops$Gauge", "caught", "I", false)
  | 7 => ("ToldDrops$Gauge", "poured", "I", false)
  | _ => ("ToldDrops$Gauge", "page", "LToldDrops$Page;", true)
def tyX0 : Nat → FieldType := fun k => match k with
  | 0 => .int
  | 1 => .int
  | 2 => .int
  | 3 => .int
  | 4 => .int
  | 5 => .int
  | 6 => .int
  | 7 => .int
  | _ => .object "ToldDrops$Page"
theorem nmX0 : ∀ a, a < 9 → ∀ b, b < 9 → a ≠ b → (TX0 a).2.1 ≠ (TX0 b).2.1 := by decide +kernel
theorem tyX0_ok : ∀ k, k < 9 → parseFieldDescriptor (TX0 k).2.2.1 = some (tyX0 k) := by decide +kernel
abbrev cX0_init : ByteArray := prog_2_method_1_code
def yX0_init : MethodName := ⟨RX0, "<init>", "(I)V"⟩
abbrev cX0_copyFrom : ByteArray := prog_2_method_2_code
def yX0_copyFrom : MethodName := ⟨RX0, "copyFrom", "(LToldDrops$Gauge;)V"⟩
abbrev cX0_catchRain : ByteArray := prog_2_method_3_code
def yX0_catchRain : MethodName := ⟨RX0, "catchRain", "(I)I"⟩
abbrev cX0_gap : ByteArray := prog_2_method_4_code
def yX0_gap : MethodName := ⟨RX0, "gap", "()I"⟩
abbrev cX0_untold : ByteArray := prog_2_method_5_code
def yX0_untold : MethodName := ⟨RX0, "untold", "()I"⟩
def RX1 : String := "ToldDrops$History"
def TX1 : u_T := fun k => match k with
  | 0 => ("ToldDrops$History", "states", "[LToldDrops$Valley;", true)
  | _ => ("ToldDrops$History", "size", "I", false)
def tyX1 : Nat → FieldType := fun k => match k with
  | 0 => .array (.object "ToldDrops$Valley")
  | _ => .int
theorem nmX1 : ∀ a, a < 2 → ∀ b, b < 2 → a ≠ b → (TX1 a).2.1 ≠ (TX1 b).2.1 := by decide +kernel
theorem tyX1_ok : ∀ k, k < 2 → parseFieldDescriptor (TX1 k).2.2.1 = some (tyX1 k) := by decide +kernel
abbrev cX1_init : ByteArray := prog_3_method_1_code
def yX1_init : MethodName := ⟨RX1, "<init>", "()V"⟩
abbrev cX1_record : ByteArray := prog_3_method_2_code
def yX1_record : MethodName := ⟨RX1, "record", "(LToldDrops$Valley;)V"⟩
abbrev cX1_takeBack : ByteArray := prog_3_method_3_code
def yX1_takeBack : MethodName := ⟨RX1, "takeBack", "(LToldDrops$Valley;)Z"⟩
abbrev cX1_dropOldest : ByteArray := prog_3_method_4_code
def yX1_dropOldest : MethodName := ⟨RX1, "dropOldest", "()V"⟩
def RX2 : String := "ToldDrops$OrderReader"
def TX2 : u_T := fun k => match k with
  | 0 => ("ToldDrops$OrderReader", "pad", "LToldDrops$Pad;", true)
  | 1 => ("ToldDrops$OrderReader", "at", "I", false)
  | 2 => ("ToldDrops$OrderReader", "kind", "C", false)
  | 3 => ("ToldDrops$OrderReader", "amount", "I", false)
  | 4 => ("ToldDrops$OrderReader", "hours", "I", false)
  | _ => ("ToldDrops$OrderReader", "gauge", "I", false)
def tyX2 : Nat → FieldType := fun k => match k with
  | 0 => .object "ToldDrops$Pad"
  | 1 => .int
  | 2 => .char
  | 3 => .int
  | 4 => .int
  | _ => .int
theorem nmX2 : ∀ a, a < 6 → ∀ b, b < 6 → a ≠ b → (TX2 a).2.1 ≠ (TX2 b).2.1 := by decide +kernel
theorem tyX2_ok : ∀ k, k < 6 → parseFieldDescriptor (TX2 k).2.2.1 = some (tyX2 k) := by decide +kernel
abbrev cX2_init : ByteArray := prog_4_method_1_code
def yX2_init : MethodName := ⟨RX2, "<init>", "(LToldDrops$Pad;)V"⟩
def RX3 : String := "ToldDrops$Pad"
def TX3 : u_T := fun k => match k with
  | 0 => ("ToldDrops$Pad", "signs", "[C", true)
  | _ => ("ToldDrops$Pad", "length", "I", false)
def tyX3 : Nat → FieldType := fun k => match k with
  | 0 => .array .char
  | _ => .int
theorem nmX3 : ∀ a, a < 2 → ∀ b, b < 2 → a ≠ b → (TX3 a).2.1 ≠ (TX3 b).2.1 := by decide +kernel
theorem tyX3_ok : ∀ k, k < 2 → parseFieldDescriptor (TX3 k).2.2.1 = some (tyX3 k) := by decide +kernel
abbrev cX3_init : ByteArray := prog_5_method_1_code
def yX3_init : MethodName := ⟨RX3, "<init>", "()V"⟩
def RX4 : String := "ToldDrops$Page"
def TX4 : u_T := fun k => match k with
  | 0 => ("ToldDrops$Page", "told", "I", false)
  | 1 => ("ToldDrops$Page", "latestHour", "I", false)
  | 2 => ("ToldDrops$Page", "latestTips", "I", false)
  | 3 => ("ToldDrops$Page", "latestVillageCaught", "I", false)
  | 4 => ("ToldDrops$Page", "taken", "I", false)
  | 5 => ("ToldDrops$Page", "tooLate", "I", false)
  | 6 => ("ToldDrops$Page", "toldTwice", "I", false)
  | _ => ("ToldDrops$Page", "lost", "I", false)
def tyX4 : Nat → FieldType := fun k => match k with
  | 0 => .int
  | 1 => .int
  | 2 => .int
  | 3 => .int
  | 4 => .int
  | 5 => .int
  | 6 => .int
  | _ => .int
theorem nmX4 : ∀ a, a < 8 → ∀ b, b < 8 → a ≠ b → (TX4 a).2.1 ≠ (TX4 b).2.1 := by decide +kernel
theorem tyX4_ok : ∀ k, k < 8 → parseFieldDescriptor (TX4 k).2.2.1 = some (tyX4 k) := by decide +kernel
abbrev cX4_init : ByteArray := prog_6_method_1_code
def yX4_init : MethodName := ⟨RX4, "<init>", "()V"⟩
abbrev cX4_copyFrom : ByteArray := prog_6_method_2_code
def yX4_copyFrom : MethodName := ⟨RX4, "copyFrom", "(LToldDrops$Page;)V"⟩
def RX5 : String := "ToldDrops$Runner"
def TX5 : u_T := fun k => match k with
  | 0 => ("ToldDrops$Runner", "gauge", "I", false)
  | 1 => ("ToldDrops$Runner", "tips", "I", false)
  | 2 => ("ToldDrops$Runner", "hour", "I", false)
  | 3 => ("ToldDrops$Runner", "villageCaught", "I", false)
  | _ => ("ToldDrops$Runner", "hoursLeft", "I", false)
def tyX5 : Nat → FieldType := fun k => match k with
  | 0 => .int
  | 1 => .int
  | 2 => .int
  | 3 => .int
  | _ => .int
theorem nmX5 : ∀ a, a < 5 → ∀ b, b < 5 → a ≠ b → (TX5 a).2.1 ≠ (TX5 b).2.1 := by decide +kernel
theorem tyX5_ok : ∀ k, k < 5 → parseFieldDescriptor (TX5 k).2.2.1 = some (tyX5 k) := by decide +kernel
abbrev cX5_init : ByteArray := prog_7_method_1_code
def yX5_init : MethodName := ⟨RX5, "<init>", "()V"⟩
abbrev cX5_copyFrom : ByteArray := prog_7_method_2_code
def yX5_copyFrom : MethodName := ⟨RX5, "copyFrom", "(LToldDrops$Runner;)V"⟩
def RX6 : String := "ToldDrops$Valley"
def TX6 : u_T := fun k => match k with
  | 0 => ("ToldDrops$Valley", "wheel", "I", false)
  | 1 => ("ToldDrops$Valley", "guess", "I", false)
  | 2 => ("ToldDrops$Valley", "hours", "I", false)
  | 3 => ("ToldDrops$Valley", "onTheWay", "I", false)
  | 4 => ("ToldDrops$Valley", "gauges", "[LToldDrops$Gauge;", true)
  | _ => ("ToldDrops$Valley", "runners", "[LToldDrops$Runner;", true)
def tyX6 : Nat → FieldType := fun k => match k with
  | 0 => .int
  | 1 => .int
  | 2 => .int
  | 3 => .int
  | 4 => .array (.object "ToldDrops$Gauge")
  | _ => .array (.object "ToldDrops$Runner")
theorem nmX6 : ∀ a, a < 6 → ∀ b, b < 6 → a ≠ b → (TX6 a).2.1 ≠ (TX6 b).2.1 := by decide +kernel
theorem tyX6_ok : ∀ k, k < 6 → parseFieldDescriptor (TX6 k).2.2.1 = some (tyX6 k) := by decide +kernel
abbrev cX6_init : ByteArray := prog_8_method_1_code
def yX6_init : MethodName := ⟨RX6, "<init>", "()V"⟩
abbrev cX6_copyFrom : ByteArray := prog_8_method_2_code
def yX6_copyFrom : MethodName := ⟨RX6, "copyFrom", "(LToldDrops$Valley;)V"⟩
abbrev cX6_gaugeAt : ByteArray := prog_8_method_3_code
def yX6_gaugeAt : MethodName := ⟨RX6, "gaugeAt", "(I)LToldDrops$Gauge;"⟩
abbrev cX6_runnerAt : ByteArray := prog_8_method_4_code
def yX6_runnerAt : MethodName := ⟨RX6, "runnerAt", "(I)LToldDrops$Runner;"⟩
abbrev cX6_isFull : ByteArray := prog_8_method_5_code
def yX6_isFull : MethodName := ⟨RX6, "isFull", "()Z"⟩
abbrev cX6_hasTimeFor : ByteArray := prog_8_method_6_code
def yX6_hasTimeFor : MethodName := ⟨RX6, "hasTimeFor", "(I)Z"⟩
abbrev cX6_wheelAt : ByteArray := prog_8_method_7_code
def yX6_wheelAt : MethodName := ⟨RX6, "wheelAt", "(I)I"⟩
abbrev cX6_changeWheels : ByteArray := prog_8_method_8_code
def yX6_changeWheels : MethodName := ⟨RX6, "changeWheels", "(I)V"⟩
abbrev cX6_passHours : ByteArray := prog_8_method_9_code
def yX6_passHours : MethodName := ⟨RX6, "passHours", "(II)I"⟩
abbrev cX6_moveRunners : ByteArray := prog_8_method_10_code
def yX6_moveRunners : MethodName := ⟨RX6, "moveRunners", "()V"⟩
abbrev cX6_sendRunner : ByteArray := prog_8_method_11_code
def yX6_sendRunner : MethodName := ⟨RX6, "sendRunner", "(I)I"⟩
abbrev cX6_addSecondOf : ByteArray := prog_8_method_12_code
def yX6_addSecondOf : MethodName := ⟨RX6, "addSecondOf", "(LToldDrops$Runner;)V"⟩
abbrev cX6_addRunner : ByteArray := prog_8_method_13_code
def yX6_addRunner : MethodName := ⟨RX6, "addRunner", "()LToldDrops$Runner;"⟩
abbrev cX6_removeRunner : ByteArray := prog_8_method_14_code
def yX6_removeRunner : MethodName := ⟨RX6, "removeRunner", "(I)V"⟩
abbrev cX6_countAsLost : ByteArray := prog_8_method_15_code
def yX6_countAsLost : MethodName := ⟨RX6, "countAsLost", "(LToldDrops$Runner;)V"⟩
abbrev cX6_longestWay : ByteArray := prog_8_method_16_code
def yX6_longestWay : MethodName := ⟨RX6, "longestWay", "()I"⟩
abbrev cX6_hear : ByteArray := prog_8_method_17_code
def yX6_hear : MethodName := ⟨RX6, "hear", "(LToldDrops$Runner;)V"⟩
abbrev cX6_wentOn : ByteArray := prog_8_method_18_code
def yX6_wentOn : MethodName := ⟨RX6, "wentOn", "(LToldDrops$Gauge;LToldDrops$Runner;)I"⟩
abbrev cX6_expectedTips : ByteArray := prog_8_method_19_code
def yX6_expectedTips : MethodName := ⟨RX6, "expectedTips", "(LToldDrops$Gauge;LToldDrops$Runner;)I"⟩
abbrev cX6_roundsFor : ByteArray := prog_8_method_20_code
def yX6_roundsFor : MethodName := ⟨RX6, "roundsFor", "(I)I"⟩
abbrev cX6_factOf : ByteArray := prog_8_method_21_code
def yX6_factOf : MethodName := ⟨RX6, "factOf", "(LToldDrops$Gauge;I)I"⟩
abbrev cX6_sumOf : ByteArray := prog_8_method_22_code
def yX6_sumOf : MethodName := ⟨RX6, "sumOf", "(I)I"⟩
abbrev cX6_sumOfTold : ByteArray := prog_8_method_23_code
def yX6_sumOfTold : MethodName := ⟨RX6, "sumOfTold", "()I"⟩
abbrev cX6_gaugesWithGap : ByteArray := prog_8_method_24_code
def yX6_gaugesWithGap : MethodName := ⟨RX6, "gaugesWithGap", "()I"⟩
def RX7 : String := "ToldDrops"
def TX7 : u_T := fun k => match k with
  | 0 => ("ToldDrops", "now", "LToldDrops$Valley;", true)
  | 1 => ("ToldDrops", "trial", "LToldDrops$Valley;", true)
  | 2 => ("ToldDrops", "history", "LToldDrops$History;", true)
  | 3 => ("ToldDrops", "slots", "[LToldDrops$Valley;", true)
  | 4 => ("ToldDrops", "saved", "[Z", true)
  | 5 => ("ToldDrops", "pad", "LToldDrops$Pad;", true)
  | _ => ("ToldDrops", "reader", "LToldDrops$OrderReader;", true)
def tyX7 : Nat → FieldType := fun k => match k with
  | 0 => .object "ToldDrops$Valley"
  | 1 => .object "ToldDrops$Valley"
  | 2 => .object "ToldDrops$History"
  | 3 => .array (.object "ToldDrops$Valley")
  | 4 => .array .boolean
  | 5 => .object "ToldDrops$Pad"
  | _ => .object "ToldDrops$OrderReader"
theorem nmX7 : ∀ a, a < 7 → ∀ b, b < 7 → a ≠ b → (TX7 a).2.1 ≠ (TX7 b).2.1 := by decide +kernel
theorem tyX7_ok : ∀ k, k < 7 → parseFieldDescriptor (TX7 k).2.2.1 = some (tyX7 k) := by decide +kernel
abbrev cX7_init : ByteArray := prog_1_method_1_code
def yX7_init : MethodName := ⟨RX7, "<init>", "()V"⟩
abbrev cX7_set : ByteArray := prog_1_method_2_code
def yX7_set : MethodName := ⟨RX7, "set", "(II)I"⟩
abbrev cX7_gauge : ByteArray := prog_1_method_3_code
def yX7_gauge : MethodName := ⟨RX7, "gauge", "(IIIII)I"⟩
abbrev cX7_rain : ByteArray := prog_1_method_4_code
def yX7_rain : MethodName := ⟨RX7, "rain", "(II)I"⟩
abbrev cX7_send : ByteArray := prog_1_method_5_code
def yX7_send : MethodName := ⟨RX7, "send", "(I)I"⟩
abbrev cX7_lose : ByteArray := prog_1_method_6_code
def yX7_lose : MethodName := ⟨RX7, "lose", "(I)I"⟩
abbrev cX7_twice : ByteArray := prog_1_method_7_code
def yX7_twice : MethodName := ⟨RX7, "twice", "(I)I"⟩
abbrev cX7_gaugeOf : ByteArray := prog_1_method_9_code
def yX7_gaugeOf : MethodName := ⟨RX7, "gaugeOf", "(II)I"⟩
abbrev cX7_ledger : ByteArray := prog_1_method_10_code
def yX7_ledger : MethodName := ⟨RX7, "ledger", "(II)I"⟩
abbrev cX7_runner : ByteArray := prog_1_method_11_code
def yX7_runner : MethodName := ⟨RX7, "runner", "(II)I"⟩
abbrev cX7_count : ByteArray := prog_1_method_12_code
def yX7_count : MethodName := ⟨RX7, "count", "(I)I"⟩
abbrev cX7_untilRound : ByteArray := prog_1_method_13_code
def yX7_untilRound : MethodName := ⟨RX7, "untilRound", "(II)I"⟩
abbrev cX7_ifSent : ByteArray := prog_1_method_14_code
def yX7_ifSent : MethodName := ⟨RX7, "ifSent", "(I)I"⟩
abbrev cX7_ifAllCome : ByteArray := prog_1_method_15_code
def yX7_ifAllCome : MethodName := ⟨RX7, "ifAllCome", "(I)I"⟩
abbrev cX7_mostUntold : ByteArray := prog_1_method_16_code
def yX7_mostUntold : MethodName := ⟨RX7, "mostUntold", "()I"⟩
abbrev cX7_undo : ByteArray := prog_1_method_20_code
def yX7_undo : MethodName := ⟨RX7, "undo", "()I"⟩
abbrev cX7_within : ByteArray := prog_1_method_23_code
def yX7_within : MethodName := ⟨RX7, "within", "(III)Z"⟩
def RX8 : String := "ToldDropsModel"
def TX8 : u_T := fun k => match k with
  | _ => ("", "", "", false)
def tyX8 : Nat → FieldType := fun k => match k with
  | _ => .int
theorem nmX8 : ∀ a, a < 0 → ∀ b, b < 0 → a ≠ b → (TX8 a).2.1 ≠ (TX8 b).2.1 := by decide +kernel
theorem tyX8_ok : ∀ k, k < 0 → parseFieldDescriptor (TX8 k).2.2.1 = some (tyX8 k) := by decide +kernel
def RL : String := "ToldDropsLaw"
abbrev cL_cell : ByteArray := method_2_code
def yL_cell : MethodName := ⟨RL, "cell", "([II)I"⟩
abbrev cL_low : ByteArray := method_3_code
def yL_low : MethodName := ⟨RL, "low", "(II)I"⟩
abbrev cL_does : ByteArray := method_4_code
def yL_does : MethodName := ⟨RL, "does", "(LToldDrops;I)I"⟩
abbrev cL_isValleySo : ByteArray := method_5_code
def yL_isValleySo : MethodName := ⟨RL, "isValleySo", "(LToldDrops;)Z"⟩
abbrev cL_isSentSo : ByteArray := method_6_code
def yL_isSentSo : MethodName := ⟨RL, "isSentSo", "(LToldDrops;I)Z"⟩
abbrev cL_isAllSo : ByteArray := method_7_code
def yL_isAllSo : MethodName := ⟨RL, "isAllSo", "(LToldDrops;I)Z"⟩
abbrev cL_isRoundSo : ByteArray := method_8_code
def yL_isRoundSo : MethodName := ⟨RL, "isRoundSo", "(LToldDrops;II)Z"⟩
abbrev cL_law : ByteArray := code
def yL_law : MethodName := ⟨RL, "law", "([I)Z"⟩
abbrev vwCl : List vw_C := [(RX0, TX0, 9), (RX1, TX1, 2), (RX2, TX2, 6), (RX3, TX3, 2), (RX4, TX4, 8), (RX5, TX5, 5), (RX6, TX6, 6), (RX7, TX7, 7)]
end
section
/-! the words of the tables, by their places (written by wip/whole/gen/words2.py) -/
def lw_good : List Cond := lw_tbl.filter goodWord
abbrev Uw (y : MethodName) (c : ByteArray) (n : Nat) (r : Option FieldType) : List Cond := Cond.code y c n r :: lw_good
theorem mem_good {w : Cond} (hm : w ∈ lw_tbl) (hg : goodWord w = true) : w ∈ lw_good := List.mem_filter.mpr ⟨hm, hg⟩
theorem all_good : ∀ w ∈ lw_good, (w.onTables && w.keeps) = true ∨ ∃ ty, w = Cond.arrayClass ty := fun w h => good_of_word (List.mem_filter.mp h).2
theorem good_tbl : ∀ w ∈ lw_good, w ∈ lw_tbl := fun w h => (List.mem_filter.mp h).1
theorem gU {own C : String} {idx : Nat} {y : MethodName} {c : ByteArray} {n : Nat} {r : Option FieldType} (h1 : Cond.methodLink own idx y ∈ lw_good) (h2 : Cond.instanceMethod y ∈ lw_good) (h3 : Cond.selects C y y ∈ lw_good) (h4 : Cond.initialized C ∈ lw_good) (h5 : Cond.code y c n r ∈ lw_good) : GoodIn lw_good (wsV own idx C y (Uw y c n r)) := by
  intro w hw
  have hm : w ∈ lw_good := by
    unfold wsV at hw
    rcases List.mem_append.mp hw with h | h
    · simp only [List.mem_cons, List.not_mem_nil, or_false] at h
      rcases h with rfl | rfl | rfl | rfl <;> assumption
    · rcases List.mem_cons.mp h with rfl | h
      · exact h5
      · exact h
  exact ⟨hm, all_good w hm⟩
theorem gUS {own : String} {idx : Nat} {y : MethodName} {c : ByteArray} {n : Nat} {r : Option FieldType} (h1 : Cond.methodLink own idx y ∈ lw_good) (h2 : Cond.static y ∈ lw_good) (h4 : Cond.initialized own ∈ lw_good) (h5 : Cond.code y c n r ∈ lw_good) : GoodIn lw_good (wsS own idx y (Uw y c n r)) := by
  intro w hw
  have hm : w ∈ lw_good := by
    unfold wsS at hw
    rcases List.mem_append.mp hw with h | h
    · simp only [List.mem_cons, List.not_mem_nil, or_false] at h
      rcases h with rfl | rfl | rfl <;> assumption
    · rcases List.mem_cons.mp h with rfl | h
      · exact h5
      · exact h
  exact ⟨hm, all_good w hm⟩
theorem gUI {y : MethodName} {c : ByteArray} {n : Nat} {r : Option FieldType} (h5 : Cond.code y c n r ∈ lw_good) : GoodIn lw_good (Uw y c n r) := by
  intro w hw
  have hm : w ∈ lw_good := by
    rcases List.mem_cons.mp hw with rfl | h
    · exact h5
    · exact h
  exact ⟨hm, all_good w hm⟩
theorem uw_0 : Cond.selects RX1 yX1_dropOldest yX1_dropOldest ∈ lw_good := mem_good (List.mem_of_getElem? (i := 0) (by decide +kernel)) (by decide +kernel)
theorem uw_1 : Cond.selects RX6 yX6_moveRunners yX6_moveRunners ∈ lw_good := mem_good (List.mem_of_getElem? (i := 1) (by decide +kernel)) (by decide +kernel)
theorem uw_2 : Cond.selects RX6 yX6_hear yX6_hear ∈ lw_good := mem_good (List.mem_of_getElem? (i := 2) (by decide +kernel)) (by decide +kernel)
theorem uw_3 : Cond.selects RX6 yX6_wentOn yX6_wentOn ∈ lw_good := mem_good (List.mem_of_getElem? (i := 3) (by decide +kernel)) (by decide +kernel)
theorem uw_4 : Cond.selects RX6 yX6_expectedTips yX6_expectedTips ∈ lw_good := mem_good (List.mem_of_getElem? (i := 4) (by decide +kernel)) (by decide +kernel)
theorem uw_5 : Cond.selects RX6 yX6_roundsFor yX6_roundsFor ∈ lw_good := mem_good (List.mem_of_getElem? (i := 5) (by decide +kernel)) (by decide +kernel)
theorem uw_6 : Cond.selects RX6 yX6_addRunner yX6_addRunner ∈ lw_good := mem_good (List.mem_of_getElem? (i := 6) (by decide +kernel)) (by decide +kernel)
theorem uw_33 : Cond.initialized RL ∈ lw_good := mem_good (List.mem_of_getElem? (i := 7) (by decide +kernel)) (by decide +kernel)
theorem uw_34 : Cond.initialized RX7 ∈ lw_good := mem_good (List.mem_of_getElem? (i := 8) (by decide +kernel)) (by decide +kernel)
theorem uw_35 : Cond.initialized RX6 ∈ lw_good := mem_good (List.mem_of_getElem? (i := 9) (by decide +kernel)) (by decide +kernel)
theorem uw_36 : Cond.initialized RX0 ∈ lw_good := mem_good (List.mem_of_getElem? (i := 10) (by decide +kernel)) (by decide +kernel)
theorem uw_37 : Cond.initialized RX4 ∈ lw_good := mem_good (List.mem_of_getElem? (i := 11) (by decide +kernel)) (by decide +kernel)
theorem uw_38 : Cond.initialized RX5 ∈ lw_good := mem_good (List.mem_of_getElem? (i := 12) (by decide +kernel)) (by decide +kernel)
theorem uw_39 : Cond.initialized RX1 ∈ lw_good := mem_good (List.mem_of_getElem? (i := 13) (by decide +kernel)) (by decide +kernel)
theorem uw_40 : Cond.initialized RX3 ∈ lw_good := mem_good (List.mem_of_getElem? (i := 14) (by decide +kernel)) (by decide +kernel)
theorem uw_41 : Cond.initialized RX2 ∈ lw_good := mem_good (List.mem_of_getElem? (i := 15) (by decide +kernel)) (by decide +kernel)
theorem uw_43 : Cond.initialized "java/lang/Math" ∈ lw_good := mem_good (List.mem_of_getElem? (i := 16) (by decide +kernel)) (by decide +kernel)
theorem uw_2000 : Cond.classLink RL 15 RX7 ∈ lw_good := mem_good (List.mem_of_getElem? (i := 17) (by decide +kernel)) (by decide +kernel)
theorem uw_45 : Cond.instantiable RX7 7 ∈ lw_good := mem_good (List.mem_of_getElem? (i := 18) (by decide +kernel)) (by decide +kernel)
theorem uw_530 : Cond.methodLink RL 65 yX7_init ∈ lw_good := mem_good (List.mem_of_getElem? (i := 19) (by decide +kernel)) (by decide +kernel)
theorem uw_47 : Cond.instanceMethod yX7_init ∈ lw_good := mem_good (List.mem_of_getElem? (i := 20) (by decide +kernel)) (by decide +kernel)
theorem uw_48 : Cond.code yX7_init cX7_init 2 (Option.none : Option ClassFile.FieldType) ∈ lw_good := mem_good (List.mem_of_getElem? (i := 21) (by decide +kernel)) (by decide +kernel)
theorem uw_49 : Cond.methodLink RX7 1 objectInit ∈ lw_good := mem_good (List.mem_of_getElem? (i := 22) (by decide +kernel)) (by decide +kernel)
theorem uw_50 : Cond.instanceMethod objectInit ∈ lw_good := mem_good (List.mem_of_getElem? (i := 23) (by decide +kernel)) (by decide +kernel)
theorem uw_51 : Cond.code objectInit ⟨#[0xb1]⟩ 1 (Option.none : Option ClassFile.FieldType) ∈ lw_good := mem_good (List.mem_of_getElem? (i := 24) (by decide +kernel)) (by decide +kernel)
theorem uw_52 : Cond.classLink RX7 7 RX6 ∈ lw_good := mem_good (List.mem_of_getElem? (i := 25) (by decide +kernel)) (by decide +kernel)
theorem uw_53 : Cond.instantiable RX6 6 ∈ lw_good := mem_good (List.mem_of_getElem? (i := 26) (by decide +kernel)) (by decide +kernel)
theorem uw_54 : Cond.methodLink RX7 9 yX6_init ∈ lw_good := mem_good (List.mem_of_getElem? (i := 27) (by decide +kernel)) (by decide +kernel)
theorem uw_55 : Cond.instanceMethod yX6_init ∈ lw_good := mem_good (List.mem_of_getElem? (i := 28) (by decide +kernel)) (by decide +kernel)
theorem uw_56 : Cond.code yX6_init cX6_init 2 (Option.none : Option ClassFile.FieldType) ∈ lw_good := mem_good (List.mem_of_getElem? (i := 29) (by decide +kernel)) (by decide +kernel)
theorem uw_57 : Cond.methodLink RX6 3 objectInit ∈ lw_good := mem_good (List.mem_of_getElem? (i := 30) (by decide +kernel)) (by decide +kernel)
theorem uw_58 : Cond.classLink RX6 18 RX0 ∈ lw_good := mem_good (List.mem_of_getElem? (i := 31) (by decide +kernel)) (by decide +kernel)
theorem uw_59 : Cond.arrayOver (ClassFile.FieldType.object "ToldDrops$Gauge") ∈ lw_tbl := List.mem_of_getElem? (i := 32) (by decide +kernel)
theorem uw_60 : Cond.classLink RX6 24 RX5 ∈ lw_good := mem_good (List.mem_of_getElem? (i := 33) (by decide +kernel)) (by decide +kernel)
theorem uw_61 : Cond.arrayOver (ClassFile.FieldType.object "ToldDrops$Runner") ∈ lw_tbl := List.mem_of_getElem? (i := 34) (by decide +kernel)
theorem uw_62 : Cond.instantiable RX0 9 ∈ lw_good := mem_good (List.mem_of_getElem? (i := 35) (by decide +kernel)) (by decide +kernel)
theorem uw_63 : Cond.methodLink RX6 30 yX0_init ∈ lw_good := mem_good (List.mem_of_getElem? (i := 36) (by decide +kernel)) (by decide +kernel)
theorem uw_64 : Cond.instanceMethod yX0_init ∈ lw_good := mem_good (List.mem_of_getElem? (i := 37) (by decide +kernel)) (by decide +kernel)
theorem uw_65 : Cond.code yX0_init cX0_init 2 (Option.none : Option ClassFile.FieldType) ∈ lw_good := mem_good (List.mem_of_getElem? (i := 38) (by decide +kernel)) (by decide +kernel)
theorem uw_66 : Cond.methodLink RX0 1 objectInit ∈ lw_good := mem_good (List.mem_of_getElem? (i := 39) (by decide +kernel)) (by decide +kernel)
theorem uw_67 : Cond.classLink RX0 19 RX4 ∈ lw_good := mem_good (List.mem_of_getElem? (i := 40) (by decide +kernel)) (by decide +kernel)
theorem uw_68 : Cond.instantiable RX4 8 ∈ lw_good := mem_good (List.mem_of_getElem? (i := 41) (by decide +kernel)) (by decide +kernel)
theorem uw_69 : Cond.methodLinkNest RX0 21 yX4_init "ToldDrops" ∈ lw_tbl := List.mem_of_getElem? (i := 42) (by decide +kernel)
theorem uw_70 : Cond.instanceMethod yX4_init ∈ lw_good := mem_good (List.mem_of_getElem? (i := 43) (by decide +kernel)) (by decide +kernel)
theorem uw_71 : Cond.code yX4_init cX4_init 1 (Option.none : Option ClassFile.FieldType) ∈ lw_good := mem_good (List.mem_of_getElem? (i := 44) (by decide +kernel)) (by decide +kernel)
theorem uw_72 : Cond.methodLink RX4 1 objectInit ∈ lw_good := mem_good (List.mem_of_getElem? (i := 45) (by decide +kernel)) (by decide +kernel)
theorem uw_73 : Cond.fieldLink RX4 7 "ToldDrops$Page" "told" "I" ∈ lw_good := mem_good (List.mem_of_getElem? (i := 46) (by decide +kernel)) (by decide +kernel)
theorem uw_74 : Cond.fieldLink RX0 45 "ToldDrops$Page" "told" "I" ∈ lw_good := mem_good (List.mem_of_getElem? (i := 47) (by decide +kernel)) (by decide +kernel)
theorem uw_75 : Cond.fieldLink RX7 160 "ToldDrops$Page" "told" "I" ∈ lw_good := mem_good (List.mem_of_getElem? (i := 48) (by decide +kernel)) (by decide +kernel)
theorem uw_76 : Cond.fieldLink RX6 132 "ToldDrops$Page" "told" "I" ∈ lw_good := mem_good (List.mem_of_getElem? (i := 49) (by decide +kernel)) (by decide +kernel)
theorem uw_77 : Cond.fieldLink RX4 13 "ToldDrops$Page" "latestHour" "I" ∈ lw_good := mem_good (List.mem_of_getElem? (i := 50) (by decide +kernel)) (by decide +kernel)
theorem uw_78 : Cond.fieldLink RX7 165 "ToldDrops$Page" "latestHour" "I" ∈ lw_good := mem_good (List.mem_of_getElem? (i := 51) (by decide +kernel)) (by decide +kernel)
theorem uw_79 : Cond.fieldLink RX6 117 "ToldDrops$Page" "latestHour" "I" ∈ lw_good := mem_good (List.mem_of_getElem? (i := 52) (by decide +kernel)) (by decide +kernel)
theorem uw_80 : Cond.fieldLink RX4 16 "ToldDrops$Page" "latestTips" "I" ∈ lw_good := mem_good (List.mem_of_getElem? (i := 53) (by decide +kernel)) (by decide +kernel)
theorem uw_81 : Cond.fieldLink RX0 48 "ToldDrops$Page" "latestTips" "I" ∈ lw_good := mem_good (List.mem_of_getElem? (i := 54) (by decide +kernel)) (by decide +kernel)
theorem uw_82 : Cond.fieldLink RX7 168 "ToldDrops$Page" "latestTips" "I" ∈ lw_good := mem_good (List.mem_of_getElem? (i := 55) (by decide +kernel)) (by decide +kernel)
theorem uw_83 : Cond.fieldLink RX6 126 "ToldDrops$Page" "latestTips" "I" ∈ lw_good := mem_good (List.mem_of_getElem? (i := 56) (by decide +kernel)) (by decide +kernel)
theorem uw_84 : Cond.fieldLink RX4 19 "ToldDrops$Page" "latestVillageCaught" "I" ∈ lw_good := mem_good (List.mem_of_getElem? (i := 57) (by decide +kernel)) (by decide +kernel)
theorem uw_85 : Cond.fieldLink RX6 139 "ToldDrops$Page" "latestVillageCaught" "I" ∈ lw_good := mem_good (List.mem_of_getElem? (i := 58) (by decide +kernel)) (by decide +kernel)
theorem uw_86 : Cond.fieldLink RX4 22 "ToldDrops$Page" "taken" "I" ∈ lw_good := mem_good (List.mem_of_getElem? (i := 59) (by decide +kernel)) (by decide +kernel)
theorem uw_87 : Cond.fieldLink RX7 177 "ToldDrops$Page" "taken" "I" ∈ lw_good := mem_good (List.mem_of_getElem? (i := 60) (by decide +kernel)) (by decide +kernel)
theorem uw_88 : Cond.fieldLink RX6 123 "ToldDrops$Page" "taken" "I" ∈ lw_good := mem_good (List.mem_of_getElem? (i := 61) (by decide +kernel)) (by decide +kernel)
theorem uw_89 : Cond.fieldLink RX4 25 "ToldDrops$Page" "tooLate" "I" ∈ lw_good := mem_good (List.mem_of_getElem? (i := 62) (by decide +kernel)) (by decide +kernel)
theorem uw_90 : Cond.fieldLink RX7 180 "ToldDrops$Page" "tooLate" "I" ∈ lw_good := mem_good (List.mem_of_getElem? (i := 63) (by decide +kernel)) (by decide +kernel)
theorem uw_91 : Cond.fieldLink RX6 120 "ToldDrops$Page" "tooLate" "I" ∈ lw_good := mem_good (List.mem_of_getElem? (i := 64) (by decide +kernel)) (by decide +kernel)
theorem uw_92 : Cond.fieldLink RX4 28 "ToldDrops$Page" "toldTwice" "I" ∈ lw_good := mem_good (List.mem_of_getElem? (i := 65) (by decide +kernel)) (by decide +kernel)
theorem uw_93 : Cond.fieldLink RX7 183 "ToldDrops$Page" "toldTwice" "I" ∈ lw_good := mem_good (List.mem_of_getElem? (i := 66) (by decide +kernel)) (by decide +kernel)
theorem uw_94 : Cond.fieldLink RX6 129 "ToldDrops$Page" "toldTwice" "I" ∈ lw_good := mem_good (List.mem_of_getElem? (i := 67) (by decide +kernel)) (by decide +kernel)
theorem uw_95 : Cond.fieldLink RX4 31 "ToldDrops$Page" "lost" "I" ∈ lw_good := mem_good (List.mem_of_getElem? (i := 68) (by decide +kernel)) (by decide +kernel)
theorem uw_96 : Cond.fieldLink RX7 186 "ToldDrops$Page" "lost" "I" ∈ lw_good := mem_good (List.mem_of_getElem? (i := 69) (by decide +kernel)) (by decide +kernel)
theorem uw_97 : Cond.fieldLink RX6 106 "ToldDrops$Page" "lost" "I" ∈ lw_good := mem_good (List.mem_of_getElem? (i := 70) (by decide +kernel)) (by decide +kernel)
theorem uw_115 : Cond.fieldLink RX0 7 "ToldDrops$Gauge" "mouth" "I" ∈ lw_good := mem_good (List.mem_of_getElem? (i := 88) (by decide +kernel)) (by decide +kernel)
theorem uw_116 : Cond.fieldLink RX7 75 "ToldDrops$Gauge" "mouth" "I" ∈ lw_good := mem_good (List.mem_of_getElem? (i := 89) (by decide +kernel)) (by decide +kernel)
theorem uw_117 : Cond.fieldLink RX6 148 "ToldDrops$Gauge" "mouth" "I" ∈ lw_good := mem_good (List.mem_of_getElem? (i := 90) (by decide +kernel)) (by decide +kernel)
theorem uw_118 : Cond.fieldLink RX0 13 "ToldDrops$Gauge" "cup" "I" ∈ lw_good := mem_good (List.mem_of_getElem? (i := 91) (by decide +kernel)) (by decide +kernel)
theorem uw_119 : Cond.fieldLink RX7 80 "ToldDrops$Gauge" "cup" "I" ∈ lw_good := mem_good (List.mem_of_getElem? (i := 92) (by decide +kernel)) (by decide +kernel)
theorem uw_120 : Cond.fieldLink RX6 151 "ToldDrops$Gauge" "cup" "I" ∈ lw_good := mem_good (List.mem_of_getElem? (i := 93) (by decide +kernel)) (by decide +kernel)
theorem uw_121 : Cond.fieldLink RX0 16 "ToldDrops$Gauge" "share" "I" ∈ lw_good := mem_good (List.mem_of_getElem? (i := 94) (by decide +kernel)) (by decide +kernel)
theorem uw_122 : Cond.fieldLink RX7 83 "ToldDrops$Gauge" "share" "I" ∈ lw_good := mem_good (List.mem_of_getElem? (i := 95) (by decide +kernel)) (by decide +kernel)
theorem uw_123 : Cond.fieldLink RX6 154 "ToldDrops$Gauge" "share" "I" ∈ lw_good := mem_good (List.mem_of_getElem? (i := 96) (by decide +kernel)) (by decide +kernel)
theorem uw_124 : Cond.fieldLink RX0 26 "ToldDrops$Gauge" "way" "I" ∈ lw_good := mem_good (List.mem_of_getElem? (i := 97) (by decide +kernel)) (by decide +kernel)
theorem uw_125 : Cond.fieldLink RX7 86 "ToldDrops$Gauge" "way" "I" ∈ lw_good := mem_good (List.mem_of_getElem? (i := 98) (by decide +kernel)) (by decide +kernel)
theorem uw_126 : Cond.fieldLink RX6 96 "ToldDrops$Gauge" "way" "I" ∈ lw_good := mem_good (List.mem_of_getElem? (i := 99) (by decide +kernel)) (by decide +kernel)
theorem uw_127 : Cond.fieldLink RX0 29 "ToldDrops$Gauge" "drops" "I" ∈ lw_good := mem_good (List.mem_of_getElem? (i := 100) (by decide +kernel)) (by decide +kernel)
theorem uw_128 : Cond.fieldLink RX7 89 "ToldDrops$Gauge" "drops" "I" ∈ lw_good := mem_good (List.mem_of_getElem? (i := 101) (by decide +kernel)) (by decide +kernel)
theorem uw_129 : Cond.fieldLink RX6 157 "ToldDrops$Gauge" "drops" "I" ∈ lw_good := mem_good (List.mem_of_getElem? (i := 102) (by decide +kernel)) (by decide +kernel)
theorem uw_130 : Cond.fieldLink RX0 32 "ToldDrops$Gauge" "tips" "I" ∈ lw_good := mem_good (List.mem_of_getElem? (i := 103) (by decide +kernel)) (by decide +kernel)
theorem uw_131 : Cond.fieldLink RX6 83 "ToldDrops$Gauge" "tips" "I" ∈ lw_good := mem_good (List.mem_of_getElem? (i := 104) (by decide +kernel)) (by decide +kernel)
theorem uw_132 : Cond.fieldLink RX0 35 "ToldDrops$Gauge" "caught" "I" ∈ lw_good := mem_good (List.mem_of_getElem? (i := 105) (by decide +kernel)) (by decide +kernel)
theorem uw_133 : Cond.fieldLink RX6 90 "ToldDrops$Gauge" "caught" "I" ∈ lw_good := mem_good (List.mem_of_getElem? (i := 106) (by decide +kernel)) (by decide +kernel)
theorem uw_134 : Cond.fieldLink RX0 38 "ToldDrops$Gauge" "poured" "I" ∈ lw_good := mem_good (List.mem_of_getElem? (i := 107) (by decide +kernel)) (by decide +kernel)
theorem uw_135 : Cond.fieldLink RX6 160 "ToldDrops$Gauge" "poured" "I" ∈ lw_good := mem_good (List.mem_of_getElem? (i := 108) (by decide +kernel)) (by decide +kernel)
theorem uw_136 : Cond.fieldLink RX0 22 "ToldDrops$Gauge" "page" "LToldDrops$Page;" ∈ lw_good := mem_good (List.mem_of_getElem? (i := 109) (by decide +kernel)) (by decide +kernel)
theorem uw_137 : Cond.fieldLink RX7 156 "ToldDrops$Gauge" "page" "LToldDrops$Page;" ∈ lw_good := mem_good (List.mem_of_getElem? (i := 110) (by decide +kernel)) (by decide +kernel)
theorem uw_138 : Cond.fieldLink RX6 102 "ToldDrops$Gauge" "page" "LToldDrops$Page;" ∈ lw_good := mem_good (List.mem_of_getElem? (i := 111) (by decide +kernel)) (by decide +kernel)
theorem uw_158 : Cond.instantiable RX5 5 ∈ lw_good := mem_good (List.mem_of_getElem? (i := 131) (by decide +kernel)) (by decide +kernel)
theorem uw_159 : Cond.methodLinkNest RX6 33 yX5_init "ToldDrops" ∈ lw_tbl := List.mem_of_getElem? (i := 132) (by decide +kernel)
theorem uw_160 : Cond.instanceMethod yX5_init ∈ lw_good := mem_good (List.mem_of_getElem? (i := 133) (by decide +kernel)) (by decide +kernel)
theorem uw_161 : Cond.code yX5_init cX5_init 1 (Option.none : Option ClassFile.FieldType) ∈ lw_good := mem_good (List.mem_of_getElem? (i := 134) (by decide +kernel)) (by decide +kernel)
theorem uw_162 : Cond.methodLink RX5 1 objectInit ∈ lw_good := mem_good (List.mem_of_getElem? (i := 135) (by decide +kernel)) (by decide +kernel)
theorem uw_163 : Cond.fieldLink RX5 7 "ToldDrops$Runner" "gauge" "I" ∈ lw_good := mem_good (List.mem_of_getElem? (i := 136) (by decide +kernel)) (by decide +kernel)
theorem uw_164 : Cond.fieldLink RX7 113 "ToldDrops$Runner" "gauge" "I" ∈ lw_good := mem_good (List.mem_of_getElem? (i := 137) (by decide +kernel)) (by decide +kernel)
theorem uw_165 : Cond.fieldLink RX6 80 "ToldDrops$Runner" "gauge" "I" ∈ lw_good := mem_good (List.mem_of_getElem? (i := 138) (by decide +kernel)) (by decide +kernel)
theorem uw_166 : Cond.fieldLink RX5 13 "ToldDrops$Runner" "tips" "I" ∈ lw_good := mem_good (List.mem_of_getElem? (i := 139) (by decide +kernel)) (by decide +kernel)
theorem uw_167 : Cond.fieldLink RX6 86 "ToldDrops$Runner" "tips" "I" ∈ lw_good := mem_good (List.mem_of_getElem? (i := 140) (by decide +kernel)) (by decide +kernel)
theorem uw_168 : Cond.fieldLink RX7 189 "ToldDrops$Runner" "tips" "I" ∈ lw_good := mem_good (List.mem_of_getElem? (i := 141) (by decide +kernel)) (by decide +kernel)
theorem uw_169 : Cond.fieldLink RX5 16 "ToldDrops$Runner" "hour" "I" ∈ lw_good := mem_good (List.mem_of_getElem? (i := 142) (by decide +kernel)) (by decide +kernel)
theorem uw_170 : Cond.fieldLink RX6 87 "ToldDrops$Runner" "hour" "I" ∈ lw_good := mem_good (List.mem_of_getElem? (i := 143) (by decide +kernel)) (by decide +kernel)
theorem uw_171 : Cond.fieldLink RX7 192 "ToldDrops$Runner" "hour" "I" ∈ lw_good := mem_good (List.mem_of_getElem? (i := 144) (by decide +kernel)) (by decide +kernel)
theorem uw_172 : Cond.fieldLink RX5 19 "ToldDrops$Runner" "villageCaught" "I" ∈ lw_good := mem_good (List.mem_of_getElem? (i := 145) (by decide +kernel)) (by decide +kernel)
theorem uw_173 : Cond.fieldLink RX6 93 "ToldDrops$Runner" "villageCaught" "I" ∈ lw_good := mem_good (List.mem_of_getElem? (i := 146) (by decide +kernel)) (by decide +kernel)
theorem uw_174 : Cond.fieldLink RX5 22 "ToldDrops$Runner" "hoursLeft" "I" ∈ lw_good := mem_good (List.mem_of_getElem? (i := 147) (by decide +kernel)) (by decide +kernel)
theorem uw_175 : Cond.fieldLink RX6 61 "ToldDrops$Runner" "hoursLeft" "I" ∈ lw_good := mem_good (List.mem_of_getElem? (i := 148) (by decide +kernel)) (by decide +kernel)
theorem uw_176 : Cond.fieldLink RX7 195 "ToldDrops$Runner" "hoursLeft" "I" ∈ lw_good := mem_good (List.mem_of_getElem? (i := 149) (by decide +kernel)) (by decide +kernel)
theorem uw_188 : Cond.fieldLink RX6 9 "ToldDrops$Valley" "wheel" "I" ∈ lw_good := mem_good (List.mem_of_getElem? (i := 161) (by decide +kernel)) (by decide +kernel)
theorem uw_189 : Cond.fieldLink RX7 58 "ToldDrops$Valley" "wheel" "I" ∈ lw_good := mem_good (List.mem_of_getElem? (i := 162) (by decide +kernel)) (by decide +kernel)
theorem uw_190 : Cond.fieldLink RX6 15 "ToldDrops$Valley" "guess" "I" ∈ lw_good := mem_good (List.mem_of_getElem? (i := 163) (by decide +kernel)) (by decide +kernel)
theorem uw_191 : Cond.fieldLink RX7 66 "ToldDrops$Valley" "guess" "I" ∈ lw_good := mem_good (List.mem_of_getElem? (i := 164) (by decide +kernel)) (by decide +kernel)
theorem uw_192 : Cond.fieldLink RX6 34 "ToldDrops$Valley" "hours" "I" ∈ lw_good := mem_good (List.mem_of_getElem? (i := 165) (by decide +kernel)) (by decide +kernel)
theorem uw_193 : Cond.fieldLink RX7 198 "ToldDrops$Valley" "hours" "I" ∈ lw_good := mem_good (List.mem_of_getElem? (i := 166) (by decide +kernel)) (by decide +kernel)
theorem uw_194 : Cond.fieldLink RX6 37 "ToldDrops$Valley" "onTheWay" "I" ∈ lw_good := mem_good (List.mem_of_getElem? (i := 167) (by decide +kernel)) (by decide +kernel)
theorem uw_195 : Cond.fieldLink RX7 128 "ToldDrops$Valley" "onTheWay" "I" ∈ lw_good := mem_good (List.mem_of_getElem? (i := 168) (by decide +kernel)) (by decide +kernel)
theorem uw_196 : Cond.fieldLink RX6 20 "ToldDrops$Valley" "gauges" "[LToldDrops$Gauge;" ∈ lw_good := mem_good (List.mem_of_getElem? (i := 169) (by decide +kernel)) (by decide +kernel)
theorem uw_197 : Cond.fieldLink RX7 225 "ToldDrops$Valley" "gauges" "[LToldDrops$Gauge;" ∈ lw_good := mem_good (List.mem_of_getElem? (i := 170) (by decide +kernel)) (by decide +kernel)
theorem uw_198 : Cond.fieldLink RX6 26 "ToldDrops$Valley" "runners" "[LToldDrops$Runner;" ∈ lw_good := mem_good (List.mem_of_getElem? (i := 171) (by decide +kernel)) (by decide +kernel)
theorem uw_212 : Cond.classLink RX7 19 RX1 ∈ lw_good := mem_good (List.mem_of_getElem? (i := 185) (by decide +kernel)) (by decide +kernel)
theorem uw_213 : Cond.instantiable RX1 2 ∈ lw_good := mem_good (List.mem_of_getElem? (i := 186) (by decide +kernel)) (by decide +kernel)
theorem uw_214 : Cond.methodLink RX7 21 yX1_init ∈ lw_good := mem_good (List.mem_of_getElem? (i := 187) (by decide +kernel)) (by decide +kernel)
theorem uw_215 : Cond.instanceMethod yX1_init ∈ lw_good := mem_good (List.mem_of_getElem? (i := 188) (by decide +kernel)) (by decide +kernel)
theorem uw_216 : Cond.code yX1_init cX1_init 2 (Option.none : Option ClassFile.FieldType) ∈ lw_good := mem_good (List.mem_of_getElem? (i := 189) (by decide +kernel)) (by decide +kernel)
theorem uw_217 : Cond.methodLink RX1 3 objectInit ∈ lw_good := mem_good (List.mem_of_getElem? (i := 190) (by decide +kernel)) (by decide +kernel)
theorem uw_218 : Cond.classLink RX1 9 RX6 ∈ lw_good := mem_good (List.mem_of_getElem? (i := 191) (by decide +kernel)) (by decide +kernel)
theorem uw_219 : Cond.arrayOver (ClassFile.FieldType.object "ToldDrops$Valley") ∈ lw_tbl := List.mem_of_getElem? (i := 192) (by decide +kernel)
theorem uw_220 : Cond.methodLink RX1 17 yX6_init ∈ lw_good := mem_good (List.mem_of_getElem? (i := 193) (by decide +kernel)) (by decide +kernel)
theorem uw_221 : Cond.fieldLink RX1 11 "ToldDrops$History" "states" "[LToldDrops$Valley;" ∈ lw_good := mem_good (List.mem_of_getElem? (i := 194) (by decide +kernel)) (by decide +kernel)
theorem uw_222 : Cond.fieldLink RX1 18 "ToldDrops$History" "size" "I" ∈ lw_good := mem_good (List.mem_of_getElem? (i := 195) (by decide +kernel)) (by decide +kernel)
theorem uw_223 : Cond.fieldLink RX7 210 "ToldDrops$History" "size" "I" ∈ lw_good := mem_good (List.mem_of_getElem? (i := 196) (by decide +kernel)) (by decide +kernel)
theorem uw_229 : Cond.classLink RX7 34 RX3 ∈ lw_good := mem_good (List.mem_of_getElem? (i := 202) (by decide +kernel)) (by decide +kernel)
theorem uw_230 : Cond.instantiable RX3 2 ∈ lw_good := mem_good (List.mem_of_getElem? (i := 203) (by decide +kernel)) (by decide +kernel)
theorem uw_231 : Cond.methodLinkNest RX7 36 yX3_init "ToldDrops" ∈ lw_tbl := List.mem_of_getElem? (i := 204) (by decide +kernel)
theorem uw_232 : Cond.instanceMethod yX3_init ∈ lw_good := mem_good (List.mem_of_getElem? (i := 205) (by decide +kernel)) (by decide +kernel)
theorem uw_233 : Cond.code yX3_init cX3_init 1 (Option.none : Option ClassFile.FieldType) ∈ lw_good := mem_good (List.mem_of_getElem? (i := 206) (by decide +kernel)) (by decide +kernel)
theorem uw_234 : Cond.methodLink RX3 3 objectInit ∈ lw_good := mem_good (List.mem_of_getElem? (i := 207) (by decide +kernel)) (by decide +kernel)
theorem uw_235 : Cond.fieldLink RX3 9 "ToldDrops$Pad" "signs" "[C" ∈ lw_good := mem_good (List.mem_of_getElem? (i := 208) (by decide +kernel)) (by decide +kernel)
theorem uw_238 : Cond.fieldLink RX7 149 "ToldDrops$Pad" "length" "I" ∈ lw_good := mem_good (List.mem_of_getElem? (i := 209) (by decide +kernel)) (by decide +kernel)
theorem uw_244 : Cond.arrayClass ClassFile.FieldType.boolean ∈ lw_good := mem_good (List.mem_of_getElem? (i := 215) (by decide +kernel)) (by decide +kernel)
theorem uw_245 : Cond.arrayClass ClassFile.FieldType.char ∈ lw_good := mem_good (List.mem_of_getElem? (i := 216) (by decide +kernel)) (by decide +kernel)
theorem uw_246 : Cond.classLink RX7 41 RX2 ∈ lw_good := mem_good (List.mem_of_getElem? (i := 217) (by decide +kernel)) (by decide +kernel)
theorem uw_247 : Cond.instantiable RX2 6 ∈ lw_good := mem_good (List.mem_of_getElem? (i := 218) (by decide +kernel)) (by decide +kernel)
theorem uw_248 : Cond.methodLink RX7 43 yX2_init ∈ lw_good := mem_good (List.mem_of_getElem? (i := 219) (by decide +kernel)) (by decide +kernel)
theorem uw_249 : Cond.instanceMethod yX2_init ∈ lw_good := mem_good (List.mem_of_getElem? (i := 220) (by decide +kernel)) (by decide +kernel)
theorem uw_250 : Cond.code yX2_init cX2_init 2 (Option.none : Option ClassFile.FieldType) ∈ lw_good := mem_good (List.mem_of_getElem? (i := 221) (by decide +kernel)) (by decide +kernel)
theorem uw_251 : Cond.methodLink RX2 3 objectInit ∈ lw_good := mem_good (List.mem_of_getElem? (i := 222) (by decide +kernel)) (by decide +kernel)
theorem uw_252 : Cond.fieldLink RX2 9 "ToldDrops$OrderReader" "pad" "LToldDrops$Pad;" ∈ lw_good := mem_good (List.mem_of_getElem? (i := 223) (by decide +kernel)) (by decide +kernel)
theorem uw_275 : Cond.fieldLink RX7 10 "ToldDrops" "now" "LToldDrops$Valley;" ∈ lw_good := mem_good (List.mem_of_getElem? (i := 237) (by decide +kernel)) (by decide +kernel)
theorem uw_276 : Cond.fieldLink RX7 16 "ToldDrops" "trial" "LToldDrops$Valley;" ∈ lw_good := mem_good (List.mem_of_getElem? (i := 238) (by decide +kernel)) (by decide +kernel)
theorem uw_277 : Cond.fieldLink RX7 22 "ToldDrops" "history" "LToldDrops$History;" ∈ lw_good := mem_good (List.mem_of_getElem? (i := 239) (by decide +kernel)) (by decide +kernel)
theorem uw_278 : Cond.fieldLink RX7 26 "ToldDrops" "slots" "[LToldDrops$Valley;" ∈ lw_good := mem_good (List.mem_of_getElem? (i := 240) (by decide +kernel)) (by decide +kernel)
theorem uw_279 : Cond.fieldLink RX7 30 "ToldDrops" "saved" "[Z" ∈ lw_good := mem_good (List.mem_of_getElem? (i := 241) (by decide +kernel)) (by decide +kernel)
theorem uw_280 : Cond.fieldLink RX7 37 "ToldDrops" "pad" "LToldDrops$Pad;" ∈ lw_good := mem_good (List.mem_of_getElem? (i := 242) (by decide +kernel)) (by decide +kernel)
theorem uw_281 : Cond.fieldLink RX7 46 "ToldDrops" "reader" "LToldDrops$OrderReader;" ∈ lw_good := mem_good (List.mem_of_getElem? (i := 243) (by decide +kernel)) (by decide +kernel)
theorem uw_2001 : Cond.methodLink RL 66 yL_cell ∈ lw_good := mem_good (List.mem_of_getElem? (i := 259) (by decide +kernel)) (by decide +kernel)
theorem uw_2002 : Cond.static yL_cell ∈ lw_good := mem_good (List.mem_of_getElem? (i := 260) (by decide +kernel)) (by decide +kernel)
theorem uw_2003 : Cond.code yL_cell cL_cell 2 (Option.some ClassFile.FieldType.int) ∈ lw_good := mem_good (List.mem_of_getElem? (i := 261) (by decide +kernel)) (by decide +kernel)
theorem uw_2004 : Cond.methodLink RL 8 yL_low ∈ lw_good := mem_good (List.mem_of_getElem? (i := 262) (by decide +kernel)) (by decide +kernel)
theorem uw_2005 : Cond.static yL_low ∈ lw_good := mem_good (List.mem_of_getElem? (i := 263) (by decide +kernel)) (by decide +kernel)
theorem uw_2006 : Cond.code yL_low cL_low 2 (Option.some ClassFile.FieldType.int) ∈ lw_good := mem_good (List.mem_of_getElem? (i := 264) (by decide +kernel)) (by decide +kernel)
theorem uw_2007 : Cond.constant RL 7 (2147483647) ∈ lw_good := mem_good (List.mem_of_getElem? (i := 265) (by decide +kernel)) (by decide +kernel)
theorem uw_2008 : Cond.methodLink RL 70 yL_does ∈ lw_good := mem_good (List.mem_of_getElem? (i := 266) (by decide +kernel)) (by decide +kernel)
theorem uw_2009 : Cond.static yL_does ∈ lw_good := mem_good (List.mem_of_getElem? (i := 267) (by decide +kernel)) (by decide +kernel)
theorem uw_2010 : Cond.code yL_does cL_does 3 (Option.some ClassFile.FieldType.int) ∈ lw_good := mem_good (List.mem_of_getElem? (i := 268) (by decide +kernel)) (by decide +kernel)
theorem uw_2011 : Cond.methodLink RL 14 yX7_rain ∈ lw_good := mem_good (List.mem_of_getElem? (i := 269) (by decide +kernel)) (by decide +kernel)
theorem uw_348 : Cond.instanceMethod yX7_rain ∈ lw_good := mem_good (List.mem_of_getElem? (i := 270) (by decide +kernel)) (by decide +kernel)
theorem uw_349 : Cond.selects RX7 yX7_rain yX7_rain ∈ lw_good := mem_good (List.mem_of_getElem? (i := 271) (by decide +kernel)) (by decide +kernel)
theorem uw_350 : Cond.code yX7_rain cX7_rain 3 (Option.some ClassFile.FieldType.int) ∈ lw_good := mem_good (List.mem_of_getElem? (i := 272) (by decide +kernel)) (by decide +kernel)
theorem uw_301 : Cond.methodLink RX7 50 yX7_within ∈ lw_good := mem_good (List.mem_of_getElem? (i := 273) (by decide +kernel)) (by decide +kernel)
theorem uw_302 : Cond.static yX7_within ∈ lw_good := mem_good (List.mem_of_getElem? (i := 274) (by decide +kernel)) (by decide +kernel)
theorem uw_303 : Cond.code yX7_within cX7_within 3 (Option.some ClassFile.FieldType.boolean) ∈ lw_good := mem_good (List.mem_of_getElem? (i := 275) (by decide +kernel)) (by decide +kernel)
theorem uw_340 : Cond.constant RX7 69 (-1000002) ∈ lw_good := mem_good (List.mem_of_getElem? (i := 276) (by decide +kernel)) (by decide +kernel)
theorem uw_351 : Cond.methodLink RX7 92 yX6_hasTimeFor ∈ lw_good := mem_good (List.mem_of_getElem? (i := 277) (by decide +kernel)) (by decide +kernel)
theorem uw_352 : Cond.instanceMethod yX6_hasTimeFor ∈ lw_good := mem_good (List.mem_of_getElem? (i := 278) (by decide +kernel)) (by decide +kernel)
theorem uw_353 : Cond.selects RX6 yX6_hasTimeFor yX6_hasTimeFor ∈ lw_good := mem_good (List.mem_of_getElem? (i := 279) (by decide +kernel)) (by decide +kernel)
theorem uw_354 : Cond.code yX6_hasTimeFor cX6_hasTimeFor 2 (Option.some ClassFile.FieldType.boolean) ∈ lw_good := mem_good (List.mem_of_getElem? (i := 280) (by decide +kernel)) (by decide +kernel)
theorem uw_355 : Cond.constant RX7 96 (-1000004) ∈ lw_good := mem_good (List.mem_of_getElem? (i := 281) (by decide +kernel)) (by decide +kernel)
theorem uw_304 : Cond.methodLink RX7 54 yX1_record ∈ lw_good := mem_good (List.mem_of_getElem? (i := 282) (by decide +kernel)) (by decide +kernel)
theorem uw_305 : Cond.instanceMethod yX1_record ∈ lw_good := mem_good (List.mem_of_getElem? (i := 283) (by decide +kernel)) (by decide +kernel)
theorem uw_306 : Cond.selects RX1 yX1_record yX1_record ∈ lw_good := mem_good (List.mem_of_getElem? (i := 284) (by decide +kernel)) (by decide +kernel)
theorem uw_307 : Cond.code yX1_record cX1_record 2 (Option.none : Option ClassFile.FieldType) ∈ lw_good := mem_good (List.mem_of_getElem? (i := 285) (by decide +kernel)) (by decide +kernel)
theorem uw_308 : Cond.methodLink RX1 22 yX1_dropOldest ∈ lw_good := mem_good (List.mem_of_getElem? (i := 286) (by decide +kernel)) (by decide +kernel)
theorem uw_310 : Cond.instanceMethod yX1_dropOldest ∈ lw_good := mem_good (List.mem_of_getElem? (i := 288) (by decide +kernel)) (by decide +kernel)
theorem uw_311 : Cond.code yX1_dropOldest cX1_dropOldest 4 (Option.none : Option ClassFile.FieldType) ∈ lw_good := mem_good (List.mem_of_getElem? (i := 289) (by decide +kernel)) (by decide +kernel)
theorem uw_312 : Cond.methodLink RX1 25 yX6_copyFrom ∈ lw_good := mem_good (List.mem_of_getElem? (i := 290) (by decide +kernel)) (by decide +kernel)
theorem uw_313 : Cond.instanceMethod yX6_copyFrom ∈ lw_good := mem_good (List.mem_of_getElem? (i := 291) (by decide +kernel)) (by decide +kernel)
theorem uw_314 : Cond.selects RX6 yX6_copyFrom yX6_copyFrom ∈ lw_good := mem_good (List.mem_of_getElem? (i := 292) (by decide +kernel)) (by decide +kernel)
theorem uw_315 : Cond.code yX6_copyFrom cX6_copyFrom 3 (Option.none : Option ClassFile.FieldType) ∈ lw_good := mem_good (List.mem_of_getElem? (i := 293) (by decide +kernel)) (by decide +kernel)
theorem uw_316 : Cond.methodLink RX6 40 yX0_copyFrom ∈ lw_good := mem_good (List.mem_of_getElem? (i := 294) (by decide +kernel)) (by decide +kernel)
theorem uw_317 : Cond.instanceMethod yX0_copyFrom ∈ lw_good := mem_good (List.mem_of_getElem? (i := 295) (by decide +kernel)) (by decide +kernel)
theorem uw_318 : Cond.selects RX0 yX0_copyFrom yX0_copyFrom ∈ lw_good := mem_good (List.mem_of_getElem? (i := 296) (by decide +kernel)) (by decide +kernel)
theorem uw_319 : Cond.code yX0_copyFrom cX0_copyFrom 2 (Option.none : Option ClassFile.FieldType) ∈ lw_good := mem_good (List.mem_of_getElem? (i := 297) (by decide +kernel)) (by decide +kernel)
theorem uw_320 : Cond.methodLink RX0 41 yX4_copyFrom ∈ lw_good := mem_good (List.mem_of_getElem? (i := 298) (by decide +kernel)) (by decide +kernel)
theorem uw_321 : Cond.instanceMethod yX4_copyFrom ∈ lw_good := mem_good (List.mem_of_getElem? (i := 299) (by decide +kernel)) (by decide +kernel)
theorem uw_322 : Cond.selects RX4 yX4_copyFrom yX4_copyFrom ∈ lw_good := mem_good (List.mem_of_getElem? (i := 300) (by decide +kernel)) (by decide +kernel)
theorem uw_323 : Cond.code yX4_copyFrom cX4_copyFrom 2 (Option.none : Option ClassFile.FieldType) ∈ lw_good := mem_good (List.mem_of_getElem? (i := 301) (by decide +kernel)) (by decide +kernel)
theorem uw_324 : Cond.methodLink RX6 44 yX5_copyFrom ∈ lw_good := mem_good (List.mem_of_getElem? (i := 302) (by decide +kernel)) (by decide +kernel)
theorem uw_325 : Cond.instanceMethod yX5_copyFrom ∈ lw_good := mem_good (List.mem_of_getElem? (i := 303) (by decide +kernel)) (by decide +kernel)
theorem uw_326 : Cond.selects RX5 yX5_copyFrom yX5_copyFrom ∈ lw_good := mem_good (List.mem_of_getElem? (i := 304) (by decide +kernel)) (by decide +kernel)
theorem uw_327 : Cond.code yX5_copyFrom cX5_copyFrom 2 (Option.none : Option ClassFile.FieldType) ∈ lw_good := mem_good (List.mem_of_getElem? (i := 305) (by decide +kernel)) (by decide +kernel)
theorem uw_356 : Cond.methodLink RX7 97 yX6_passHours ∈ lw_good := mem_good (List.mem_of_getElem? (i := 306) (by decide +kernel)) (by decide +kernel)
theorem uw_357 : Cond.instanceMethod yX6_passHours ∈ lw_good := mem_good (List.mem_of_getElem? (i := 307) (by decide +kernel)) (by decide +kernel)
theorem uw_358 : Cond.selects RX6 yX6_passHours yX6_passHours ∈ lw_good := mem_good (List.mem_of_getElem? (i := 308) (by decide +kernel)) (by decide +kernel)
theorem uw_359 : Cond.code yX6_passHours cX6_passHours 9 (Option.some ClassFile.FieldType.int) ∈ lw_good := mem_good (List.mem_of_getElem? (i := 309) (by decide +kernel)) (by decide +kernel)
theorem uw_360 : Cond.methodLink RX6 50 yX0_catchRain ∈ lw_good := mem_good (List.mem_of_getElem? (i := 310) (by decide +kernel)) (by decide +kernel)
theorem uw_361 : Cond.instanceMethod yX0_catchRain ∈ lw_good := mem_good (List.mem_of_getElem? (i := 311) (by decide +kernel)) (by decide +kernel)
theorem uw_362 : Cond.selects RX0 yX0_catchRain yX0_catchRain ∈ lw_good := mem_good (List.mem_of_getElem? (i := 312) (by decide +kernel)) (by decide +kernel)
theorem uw_363 : Cond.code yX0_catchRain cX0_catchRain 4 (Option.some ClassFile.FieldType.int) ∈ lw_good := mem_good (List.mem_of_getElem? (i := 313) (by decide +kernel)) (by decide +kernel)
theorem uw_364 : Cond.methodLink RX6 54 yX6_moveRunners ∈ lw_good := mem_good (List.mem_of_getElem? (i := 314) (by decide +kernel)) (by decide +kernel)
theorem uw_366 : Cond.instanceMethod yX6_moveRunners ∈ lw_good := mem_good (List.mem_of_getElem? (i := 316) (by decide +kernel)) (by decide +kernel)
theorem uw_367 : Cond.code yX6_moveRunners cX6_moveRunners 4 (Option.none : Option ClassFile.FieldType) ∈ lw_good := mem_good (List.mem_of_getElem? (i := 317) (by decide +kernel)) (by decide +kernel)
theorem uw_368 : Cond.methodLink RX6 57 yX6_runnerAt ∈ lw_good := mem_good (List.mem_of_getElem? (i := 318) (by decide +kernel)) (by decide +kernel)
theorem uw_369 : Cond.instanceMethod yX6_runnerAt ∈ lw_good := mem_good (List.mem_of_getElem? (i := 319) (by decide +kernel)) (by decide +kernel)
theorem uw_370 : Cond.selects RX6 yX6_runnerAt yX6_runnerAt ∈ lw_good := mem_good (List.mem_of_getElem? (i := 320) (by decide +kernel)) (by decide +kernel)
theorem uw_371 : Cond.code yX6_runnerAt cX6_runnerAt 2 (Option.some (ClassFile.FieldType.object "ToldDrops$Runner")) ∈ lw_good := mem_good (List.mem_of_getElem? (i := 321) (by decide +kernel)) (by decide +kernel)
theorem uw_372 : Cond.methodLink RX6 64 yX6_hear ∈ lw_good := mem_good (List.mem_of_getElem? (i := 322) (by decide +kernel)) (by decide +kernel)
theorem uw_374 : Cond.instanceMethod yX6_hear ∈ lw_good := mem_good (List.mem_of_getElem? (i := 324) (by decide +kernel)) (by decide +kernel)
theorem uw_375 : Cond.code yX6_hear cX6_hear 4 (Option.none : Option ClassFile.FieldType) ∈ lw_good := mem_good (List.mem_of_getElem? (i := 325) (by decide +kernel)) (by decide +kernel)
theorem uw_336 : Cond.methodLink RX6 70 yX6_gaugeAt ∈ lw_good := mem_good (List.mem_of_getElem? (i := 326) (by decide +kernel)) (by decide +kernel)
theorem uw_337 : Cond.instanceMethod yX6_gaugeAt ∈ lw_good := mem_good (List.mem_of_getElem? (i := 327) (by decide +kernel)) (by decide +kernel)
theorem uw_338 : Cond.selects RX6 yX6_gaugeAt yX6_gaugeAt ∈ lw_good := mem_good (List.mem_of_getElem? (i := 328) (by decide +kernel)) (by decide +kernel)
theorem uw_339 : Cond.code yX6_gaugeAt cX6_gaugeAt 2 (Option.some (ClassFile.FieldType.object "ToldDrops$Gauge")) ∈ lw_good := mem_good (List.mem_of_getElem? (i := 329) (by decide +kernel)) (by decide +kernel)
theorem uw_376 : Cond.methodLink RX6 99 yX6_wheelAt ∈ lw_good := mem_good (List.mem_of_getElem? (i := 330) (by decide +kernel)) (by decide +kernel)
theorem uw_377 : Cond.instanceMethod yX6_wheelAt ∈ lw_good := mem_good (List.mem_of_getElem? (i := 331) (by decide +kernel)) (by decide +kernel)
theorem uw_378 : Cond.selects RX6 yX6_wheelAt yX6_wheelAt ∈ lw_good := mem_good (List.mem_of_getElem? (i := 332) (by decide +kernel)) (by decide +kernel)
theorem uw_379 : Cond.code yX6_wheelAt cX6_wheelAt 2 (Option.some ClassFile.FieldType.int) ∈ lw_good := mem_good (List.mem_of_getElem? (i := 333) (by decide +kernel)) (by decide +kernel)
theorem uw_380 : Cond.methodLink RX6 135 yX6_wentOn ∈ lw_good := mem_good (List.mem_of_getElem? (i := 334) (by decide +kernel)) (by decide +kernel)
theorem uw_382 : Cond.instanceMethod yX6_wentOn ∈ lw_good := mem_good (List.mem_of_getElem? (i := 336) (by decide +kernel)) (by decide +kernel)
theorem uw_383 : Cond.code yX6_wentOn cX6_wentOn 4 (Option.some ClassFile.FieldType.int) ∈ lw_good := mem_good (List.mem_of_getElem? (i := 337) (by decide +kernel)) (by decide +kernel)
theorem uw_384 : Cond.methodLink RX6 142 yX6_expectedTips ∈ lw_good := mem_good (List.mem_of_getElem? (i := 338) (by decide +kernel)) (by decide +kernel)
theorem uw_386 : Cond.instanceMethod yX6_expectedTips ∈ lw_good := mem_good (List.mem_of_getElem? (i := 340) (by decide +kernel)) (by decide +kernel)
theorem uw_387 : Cond.code yX6_expectedTips cX6_expectedTips 5 (Option.some ClassFile.FieldType.int) ∈ lw_good := mem_good (List.mem_of_getElem? (i := 341) (by decide +kernel)) (by decide +kernel)
theorem uw_388 : Cond.methodLink RX6 145 yX6_roundsFor ∈ lw_good := mem_good (List.mem_of_getElem? (i := 342) (by decide +kernel)) (by decide +kernel)
theorem uw_390 : Cond.instanceMethod yX6_roundsFor ∈ lw_good := mem_good (List.mem_of_getElem? (i := 344) (by decide +kernel)) (by decide +kernel)
theorem uw_391 : Cond.code yX6_roundsFor cX6_roundsFor 2 (Option.some ClassFile.FieldType.int) ∈ lw_good := mem_good (List.mem_of_getElem? (i := 345) (by decide +kernel)) (by decide +kernel)
theorem uw_392 : Cond.methodLink RX6 67 yX6_removeRunner ∈ lw_good := mem_good (List.mem_of_getElem? (i := 346) (by decide +kernel)) (by decide +kernel)
theorem uw_393 : Cond.instanceMethod yX6_removeRunner ∈ lw_good := mem_good (List.mem_of_getElem? (i := 347) (by decide +kernel)) (by decide +kernel)
theorem uw_394 : Cond.selects RX6 yX6_removeRunner yX6_removeRunner ∈ lw_good := mem_good (List.mem_of_getElem? (i := 348) (by decide +kernel)) (by decide +kernel)
theorem uw_395 : Cond.code yX6_removeRunner cX6_removeRunner 5 (Option.none : Option ClassFile.FieldType) ∈ lw_good := mem_good (List.mem_of_getElem? (i := 349) (by decide +kernel)) (by decide +kernel)
theorem uw_2012 : Cond.methodLink RL 19 yX7_count ∈ lw_good := mem_good (List.mem_of_getElem? (i := 350) (by decide +kernel)) (by decide +kernel)
theorem uw_503 : Cond.instanceMethod yX7_count ∈ lw_good := mem_good (List.mem_of_getElem? (i := 351) (by decide +kernel)) (by decide +kernel)
theorem uw_504 : Cond.selects RX7 yX7_count yX7_count ∈ lw_good := mem_good (List.mem_of_getElem? (i := 352) (by decide +kernel)) (by decide +kernel)
theorem uw_505 : Cond.code yX7_count cX7_count 2 (Option.some ClassFile.FieldType.int) ∈ lw_good := mem_good (List.mem_of_getElem? (i := 353) (by decide +kernel)) (by decide +kernel)
theorem uw_506 : Cond.methodLink RX7 201 yX6_sumOf ∈ lw_good := mem_good (List.mem_of_getElem? (i := 354) (by decide +kernel)) (by decide +kernel)
theorem uw_507 : Cond.instanceMethod yX6_sumOf ∈ lw_good := mem_good (List.mem_of_getElem? (i := 355) (by decide +kernel)) (by decide +kernel)
theorem uw_508 : Cond.selects RX6 yX6_sumOf yX6_sumOf ∈ lw_good := mem_good (List.mem_of_getElem? (i := 356) (by decide +kernel)) (by decide +kernel)
theorem uw_509 : Cond.code yX6_sumOf cX6_sumOf 7 (Option.some ClassFile.FieldType.int) ∈ lw_good := mem_good (List.mem_of_getElem? (i := 357) (by decide +kernel)) (by decide +kernel)
theorem uw_510 : Cond.methodLink RX6 164 yX6_factOf ∈ lw_good := mem_good (List.mem_of_getElem? (i := 358) (by decide +kernel)) (by decide +kernel)
theorem uw_485 : Cond.instanceMethod yX6_factOf ∈ lw_good := mem_good (List.mem_of_getElem? (i := 359) (by decide +kernel)) (by decide +kernel)
theorem uw_486 : Cond.selects RX6 yX6_factOf yX6_factOf ∈ lw_good := mem_good (List.mem_of_getElem? (i := 360) (by decide +kernel)) (by decide +kernel)
theorem uw_487 : Cond.code yX6_factOf cX6_factOf 3 (Option.some ClassFile.FieldType.int) ∈ lw_good := mem_good (List.mem_of_getElem? (i := 361) (by decide +kernel)) (by decide +kernel)
theorem uw_488 : Cond.constant RX6 163 (-1000002) ∈ lw_good := mem_good (List.mem_of_getElem? (i := 362) (by decide +kernel)) (by decide +kernel)
theorem uw_511 : Cond.methodLink RX7 204 yX6_sumOfTold ∈ lw_good := mem_good (List.mem_of_getElem? (i := 363) (by decide +kernel)) (by decide +kernel)
theorem uw_512 : Cond.instanceMethod yX6_sumOfTold ∈ lw_good := mem_good (List.mem_of_getElem? (i := 364) (by decide +kernel)) (by decide +kernel)
theorem uw_513 : Cond.selects RX6 yX6_sumOfTold yX6_sumOfTold ∈ lw_good := mem_good (List.mem_of_getElem? (i := 365) (by decide +kernel)) (by decide +kernel)
theorem uw_514 : Cond.code yX6_sumOfTold cX6_sumOfTold 6 (Option.some ClassFile.FieldType.int) ∈ lw_good := mem_good (List.mem_of_getElem? (i := 366) (by decide +kernel)) (by decide +kernel)
theorem uw_515 : Cond.methodLink RX7 207 yX6_gaugesWithGap ∈ lw_good := mem_good (List.mem_of_getElem? (i := 367) (by decide +kernel)) (by decide +kernel)
theorem uw_516 : Cond.instanceMethod yX6_gaugesWithGap ∈ lw_good := mem_good (List.mem_of_getElem? (i := 368) (by decide +kernel)) (by decide +kernel)
theorem uw_517 : Cond.selects RX6 yX6_gaugesWithGap yX6_gaugesWithGap ∈ lw_good := mem_good (List.mem_of_getElem? (i := 369) (by decide +kernel)) (by decide +kernel)
theorem uw_518 : Cond.code yX6_gaugesWithGap cX6_gaugesWithGap 6 (Option.some ClassFile.FieldType.int) ∈ lw_good := mem_good (List.mem_of_getElem? (i := 370) (by decide +kernel)) (by decide +kernel)
theorem uw_519 : Cond.methodLink RX6 168 yX0_gap ∈ lw_good := mem_good (List.mem_of_getElem? (i := 371) (by decide +kernel)) (by decide +kernel)
theorem uw_495 : Cond.instanceMethod yX0_gap ∈ lw_good := mem_good (List.mem_of_getElem? (i := 372) (by decide +kernel)) (by decide +kernel)
theorem uw_496 : Cond.selects RX0 yX0_gap yX0_gap ∈ lw_good := mem_good (List.mem_of_getElem? (i := 373) (by decide +kernel)) (by decide +kernel)
theorem uw_497 : Cond.code yX0_gap cX0_gap 1 (Option.some ClassFile.FieldType.int) ∈ lw_good := mem_good (List.mem_of_getElem? (i := 374) (by decide +kernel)) (by decide +kernel)
theorem uw_347 : Cond.methodLink RL 23 yX7_send ∈ lw_good := mem_good (List.mem_of_getElem? (i := 375) (by decide +kernel)) (by decide +kernel)
theorem uw_397 : Cond.instanceMethod yX7_send ∈ lw_good := mem_good (List.mem_of_getElem? (i := 376) (by decide +kernel)) (by decide +kernel)
theorem uw_398 : Cond.selects RX7 yX7_send yX7_send ∈ lw_good := mem_good (List.mem_of_getElem? (i := 377) (by decide +kernel)) (by decide +kernel)
theorem uw_399 : Cond.code yX7_send cX7_send 2 (Option.some ClassFile.FieldType.int) ∈ lw_good := mem_good (List.mem_of_getElem? (i := 378) (by decide +kernel)) (by decide +kernel)
theorem uw_345 : Cond.methodLink RX7 70 yX6_gaugeAt ∈ lw_good := mem_good (List.mem_of_getElem? (i := 379) (by decide +kernel)) (by decide +kernel)
theorem uw_346 : Cond.constant RX7 74 (-1000001) ∈ lw_good := mem_good (List.mem_of_getElem? (i := 380) (by decide +kernel)) (by decide +kernel)
theorem uw_400 : Cond.methodLink RX7 101 yX6_isFull ∈ lw_good := mem_good (List.mem_of_getElem? (i := 381) (by decide +kernel)) (by decide +kernel)
theorem uw_401 : Cond.instanceMethod yX6_isFull ∈ lw_good := mem_good (List.mem_of_getElem? (i := 382) (by decide +kernel)) (by decide +kernel)
theorem uw_402 : Cond.selects RX6 yX6_isFull yX6_isFull ∈ lw_good := mem_good (List.mem_of_getElem? (i := 383) (by decide +kernel)) (by decide +kernel)
theorem uw_403 : Cond.code yX6_isFull cX6_isFull 1 (Option.some ClassFile.FieldType.boolean) ∈ lw_good := mem_good (List.mem_of_getElem? (i := 384) (by decide +kernel)) (by decide +kernel)
theorem uw_404 : Cond.methodLink RX7 105 yX6_sendRunner ∈ lw_good := mem_good (List.mem_of_getElem? (i := 385) (by decide +kernel)) (by decide +kernel)
theorem uw_405 : Cond.instanceMethod yX6_sendRunner ∈ lw_good := mem_good (List.mem_of_getElem? (i := 386) (by decide +kernel)) (by decide +kernel)
theorem uw_406 : Cond.selects RX6 yX6_sendRunner yX6_sendRunner ∈ lw_good := mem_good (List.mem_of_getElem? (i := 387) (by decide +kernel)) (by decide +kernel)
theorem uw_407 : Cond.code yX6_sendRunner cX6_sendRunner 4 (Option.some ClassFile.FieldType.int) ∈ lw_good := mem_good (List.mem_of_getElem? (i := 388) (by decide +kernel)) (by decide +kernel)
theorem uw_408 : Cond.constant RX6 74 (-1000001) ∈ lw_good := mem_good (List.mem_of_getElem? (i := 389) (by decide +kernel)) (by decide +kernel)
theorem uw_409 : Cond.methodLink RX6 75 yX6_addRunner ∈ lw_good := mem_good (List.mem_of_getElem? (i := 390) (by decide +kernel)) (by decide +kernel)
theorem uw_411 : Cond.instanceMethod yX6_addRunner ∈ lw_good := mem_good (List.mem_of_getElem? (i := 392) (by decide +kernel)) (by decide +kernel)
theorem uw_412 : Cond.code yX6_addRunner cX6_addRunner 2 (Option.some (ClassFile.FieldType.object "ToldDrops$Runner")) ∈ lw_good := mem_good (List.mem_of_getElem? (i := 393) (by decide +kernel)) (by decide +kernel)
theorem uw_413 : Cond.constant RX6 79 (-1000004) ∈ lw_good := mem_good (List.mem_of_getElem? (i := 394) (by decide +kernel)) (by decide +kernel)
theorem uw_662 : Cond.methodLink RL 26 yX7_lose ∈ lw_good := mem_good (List.mem_of_getElem? (i := 395) (by decide +kernel)) (by decide +kernel)
theorem uw_415 : Cond.instanceMethod yX7_lose ∈ lw_good := mem_good (List.mem_of_getElem? (i := 396) (by decide +kernel)) (by decide +kernel)
theorem uw_416 : Cond.selects RX7 yX7_lose yX7_lose ∈ lw_good := mem_good (List.mem_of_getElem? (i := 397) (by decide +kernel)) (by decide +kernel)
theorem uw_417 : Cond.code yX7_lose cX7_lose 4 (Option.some ClassFile.FieldType.int) ∈ lw_good := mem_good (List.mem_of_getElem? (i := 398) (by decide +kernel)) (by decide +kernel)
theorem uw_418 : Cond.methodLink RX7 109 yX6_runnerAt ∈ lw_good := mem_good (List.mem_of_getElem? (i := 399) (by decide +kernel)) (by decide +kernel)
theorem uw_419 : Cond.methodLink RX7 118 yX6_countAsLost ∈ lw_good := mem_good (List.mem_of_getElem? (i := 400) (by decide +kernel)) (by decide +kernel)
theorem uw_333 : Cond.instanceMethod yX6_countAsLost ∈ lw_good := mem_good (List.mem_of_getElem? (i := 401) (by decide +kernel)) (by decide +kernel)
theorem uw_334 : Cond.selects RX6 yX6_countAsLost yX6_countAsLost ∈ lw_good := mem_good (List.mem_of_getElem? (i := 402) (by decide +kernel)) (by decide +kernel)
theorem uw_335 : Cond.code yX6_countAsLost cX6_countAsLost 3 (Option.none : Option ClassFile.FieldType) ∈ lw_good := mem_good (List.mem_of_getElem? (i := 403) (by decide +kernel)) (by decide +kernel)
theorem uw_420 : Cond.methodLink RX7 122 yX6_removeRunner ∈ lw_good := mem_good (List.mem_of_getElem? (i := 404) (by decide +kernel)) (by decide +kernel)
theorem uw_2013 : Cond.methodLink RL 29 yX7_twice ∈ lw_good := mem_good (List.mem_of_getElem? (i := 405) (by decide +kernel)) (by decide +kernel)
theorem uw_422 : Cond.instanceMethod yX7_twice ∈ lw_good := mem_good (List.mem_of_getElem? (i := 406) (by decide +kernel)) (by decide +kernel)
theorem uw_423 : Cond.selects RX7 yX7_twice yX7_twice ∈ lw_good := mem_good (List.mem_of_getElem? (i := 407) (by decide +kernel)) (by decide +kernel)
theorem uw_424 : Cond.code yX7_twice cX7_twice 3 (Option.some ClassFile.FieldType.int) ∈ lw_good := mem_good (List.mem_of_getElem? (i := 408) (by decide +kernel)) (by decide +kernel)
theorem uw_425 : Cond.methodLink RX7 125 yX6_addSecondOf ∈ lw_good := mem_good (List.mem_of_getElem? (i := 409) (by decide +kernel)) (by decide +kernel)
theorem uw_426 : Cond.instanceMethod yX6_addSecondOf ∈ lw_good := mem_good (List.mem_of_getElem? (i := 410) (by decide +kernel)) (by decide +kernel)
theorem uw_427 : Cond.selects RX6 yX6_addSecondOf yX6_addSecondOf ∈ lw_good := mem_good (List.mem_of_getElem? (i := 411) (by decide +kernel)) (by decide +kernel)
theorem uw_428 : Cond.code yX6_addSecondOf cX6_addSecondOf 3 (Option.none : Option ClassFile.FieldType) ∈ lw_good := mem_good (List.mem_of_getElem? (i := 412) (by decide +kernel)) (by decide +kernel)
theorem uw_414 : Cond.methodLink RL 32 yX7_gauge ∈ lw_good := mem_good (List.mem_of_getElem? (i := 413) (by decide +kernel)) (by decide +kernel)
theorem uw_342 : Cond.instanceMethod yX7_gauge ∈ lw_good := mem_good (List.mem_of_getElem? (i := 414) (by decide +kernel)) (by decide +kernel)
theorem uw_343 : Cond.selects RX7 yX7_gauge yX7_gauge ∈ lw_good := mem_good (List.mem_of_getElem? (i := 415) (by decide +kernel)) (by decide +kernel)
theorem uw_344 : Cond.code yX7_gauge cX7_gauge 8 (Option.some ClassFile.FieldType.int) ∈ lw_good := mem_good (List.mem_of_getElem? (i := 416) (by decide +kernel)) (by decide +kernel)
theorem uw_421 : Cond.methodLink RL 36 yX7_set ∈ lw_good := mem_good (List.mem_of_getElem? (i := 417) (by decide +kernel)) (by decide +kernel)
theorem uw_298 : Cond.instanceMethod yX7_set ∈ lw_good := mem_good (List.mem_of_getElem? (i := 418) (by decide +kernel)) (by decide +kernel)
theorem uw_299 : Cond.selects RX7 yX7_set yX7_set ∈ lw_good := mem_good (List.mem_of_getElem? (i := 419) (by decide +kernel)) (by decide +kernel)
theorem uw_300 : Cond.code yX7_set cX7_set 4 (Option.some ClassFile.FieldType.int) ∈ lw_good := mem_good (List.mem_of_getElem? (i := 420) (by decide +kernel)) (by decide +kernel)
theorem uw_328 : Cond.methodLink RX7 62 yX6_changeWheels ∈ lw_good := mem_good (List.mem_of_getElem? (i := 421) (by decide +kernel)) (by decide +kernel)
theorem uw_329 : Cond.instanceMethod yX6_changeWheels ∈ lw_good := mem_good (List.mem_of_getElem? (i := 422) (by decide +kernel)) (by decide +kernel)
theorem uw_330 : Cond.selects RX6 yX6_changeWheels yX6_changeWheels ∈ lw_good := mem_good (List.mem_of_getElem? (i := 423) (by decide +kernel)) (by decide +kernel)
theorem uw_331 : Cond.code yX6_changeWheels cX6_changeWheels 3 (Option.none : Option ClassFile.FieldType) ∈ lw_good := mem_good (List.mem_of_getElem? (i := 424) (by decide +kernel)) (by decide +kernel)
theorem uw_332 : Cond.methodLink RX6 47 yX6_countAsLost ∈ lw_good := mem_good (List.mem_of_getElem? (i := 425) (by decide +kernel)) (by decide +kernel)
theorem uw_706 : Cond.methodLink RL 39 yX7_undo ∈ lw_good := mem_good (List.mem_of_getElem? (i := 426) (by decide +kernel)) (by decide +kernel)
theorem uw_572 : Cond.instanceMethod yX7_undo ∈ lw_good := mem_good (List.mem_of_getElem? (i := 427) (by decide +kernel)) (by decide +kernel)
theorem uw_573 : Cond.selects RX7 yX7_undo yX7_undo ∈ lw_good := mem_good (List.mem_of_getElem? (i := 428) (by decide +kernel)) (by decide +kernel)
theorem uw_574 : Cond.code yX7_undo cX7_undo 1 (Option.some ClassFile.FieldType.int) ∈ lw_good := mem_good (List.mem_of_getElem? (i := 429) (by decide +kernel)) (by decide +kernel)
theorem uw_575 : Cond.methodLink RX7 241 yX1_takeBack ∈ lw_good := mem_good (List.mem_of_getElem? (i := 430) (by decide +kernel)) (by decide +kernel)
theorem uw_576 : Cond.instanceMethod yX1_takeBack ∈ lw_good := mem_good (List.mem_of_getElem? (i := 431) (by decide +kernel)) (by decide +kernel)
theorem uw_577 : Cond.selects RX1 yX1_takeBack yX1_takeBack ∈ lw_good := mem_good (List.mem_of_getElem? (i := 432) (by decide +kernel)) (by decide +kernel)
theorem uw_578 : Cond.code yX1_takeBack cX1_takeBack 2 (Option.some ClassFile.FieldType.boolean) ∈ lw_good := mem_good (List.mem_of_getElem? (i := 433) (by decide +kernel)) (by decide +kernel)
theorem uw_579 : Cond.constant RX7 245 (-1000005) ∈ lw_good := mem_good (List.mem_of_getElem? (i := 434) (by decide +kernel)) (by decide +kernel)
theorem uw_2014 : Cond.methodLink RL 74 yL_isValleySo ∈ lw_good := mem_good (List.mem_of_getElem? (i := 435) (by decide +kernel)) (by decide +kernel)
theorem uw_2015 : Cond.static yL_isValleySo ∈ lw_good := mem_good (List.mem_of_getElem? (i := 436) (by decide +kernel)) (by decide +kernel)
theorem uw_2016 : Cond.code yL_isValleySo cL_isValleySo 8 (Option.some ClassFile.FieldType.boolean) ∈ lw_good := mem_good (List.mem_of_getElem? (i := 437) (by decide +kernel)) (by decide +kernel)
theorem uw_2017 : Cond.methodLink RL 43 yX7_gaugeOf ∈ lw_good := mem_good (List.mem_of_getElem? (i := 438) (by decide +kernel)) (by decide +kernel)
theorem uw_481 : Cond.instanceMethod yX7_gaugeOf ∈ lw_good := mem_good (List.mem_of_getElem? (i := 439) (by decide +kernel)) (by decide +kernel)
theorem uw_482 : Cond.selects RX7 yX7_gaugeOf yX7_gaugeOf ∈ lw_good := mem_good (List.mem_of_getElem? (i := 440) (by decide +kernel)) (by decide +kernel)
theorem uw_483 : Cond.code yX7_gaugeOf cX7_gaugeOf 4 (Option.some ClassFile.FieldType.int) ∈ lw_good := mem_good (List.mem_of_getElem? (i := 441) (by decide +kernel)) (by decide +kernel)
theorem uw_484 : Cond.methodLink RX7 152 yX6_factOf ∈ lw_good := mem_good (List.mem_of_getElem? (i := 442) (by decide +kernel)) (by decide +kernel)
theorem uw_2018 : Cond.methodLink RL 46 yX7_ledger ∈ lw_good := mem_good (List.mem_of_getElem? (i := 443) (by decide +kernel)) (by decide +kernel)
theorem uw_490 : Cond.instanceMethod yX7_ledger ∈ lw_good := mem_good (List.mem_of_getElem? (i := 444) (by decide +kernel)) (by decide +kernel)
theorem uw_491 : Cond.selects RX7 yX7_ledger yX7_ledger ∈ lw_good := mem_good (List.mem_of_getElem? (i := 445) (by decide +kernel)) (by decide +kernel)
theorem uw_492 : Cond.code yX7_ledger cX7_ledger 5 (Option.some ClassFile.FieldType.int) ∈ lw_good := mem_good (List.mem_of_getElem? (i := 446) (by decide +kernel)) (by decide +kernel)
theorem uw_493 : Cond.methodLink RX7 171 yX6_wheelAt ∈ lw_good := mem_good (List.mem_of_getElem? (i := 447) (by decide +kernel)) (by decide +kernel)
theorem uw_494 : Cond.methodLink RX7 174 yX0_gap ∈ lw_good := mem_good (List.mem_of_getElem? (i := 448) (by decide +kernel)) (by decide +kernel)
theorem uw_489 : Cond.methodLink RL 49 yX7_runner ∈ lw_good := mem_good (List.mem_of_getElem? (i := 449) (by decide +kernel)) (by decide +kernel)
theorem uw_499 : Cond.instanceMethod yX7_runner ∈ lw_good := mem_good (List.mem_of_getElem? (i := 450) (by decide +kernel)) (by decide +kernel)
theorem uw_500 : Cond.selects RX7 yX7_runner yX7_runner ∈ lw_good := mem_good (List.mem_of_getElem? (i := 451) (by decide +kernel)) (by decide +kernel)
theorem uw_501 : Cond.code yX7_runner cX7_runner 4 (Option.some ClassFile.FieldType.int) ∈ lw_good := mem_good (List.mem_of_getElem? (i := 452) (by decide +kernel)) (by decide +kernel)
theorem uw_2019 : Cond.methodLink RL 78 yL_isSentSo ∈ lw_good := mem_good (List.mem_of_getElem? (i := 453) (by decide +kernel)) (by decide +kernel)
theorem uw_2020 : Cond.static yL_isSentSo ∈ lw_good := mem_good (List.mem_of_getElem? (i := 454) (by decide +kernel)) (by decide +kernel)
theorem uw_2021 : Cond.code yL_isSentSo cL_isSentSo 9 (Option.some ClassFile.FieldType.boolean) ∈ lw_good := mem_good (List.mem_of_getElem? (i := 455) (by decide +kernel)) (by decide +kernel)
theorem uw_735 : Cond.methodLink RL 52 yX7_ifSent ∈ lw_good := mem_good (List.mem_of_getElem? (i := 456) (by decide +kernel)) (by decide +kernel)
theorem uw_531 : Cond.instanceMethod yX7_ifSent ∈ lw_good := mem_good (List.mem_of_getElem? (i := 457) (by decide +kernel)) (by decide +kernel)
theorem uw_532 : Cond.selects RX7 yX7_ifSent yX7_ifSent ∈ lw_good := mem_good (List.mem_of_getElem? (i := 458) (by decide +kernel)) (by decide +kernel)
theorem uw_533 : Cond.code yX7_ifSent cX7_ifSent 3 (Option.some ClassFile.FieldType.int) ∈ lw_good := mem_good (List.mem_of_getElem? (i := 459) (by decide +kernel)) (by decide +kernel)
theorem uw_524 : Cond.methodLink RX7 213 yX6_copyFrom ∈ lw_good := mem_good (List.mem_of_getElem? (i := 460) (by decide +kernel)) (by decide +kernel)
theorem uw_2022 : Cond.methodLink RL 82 yL_isAllSo ∈ lw_good := mem_good (List.mem_of_getElem? (i := 461) (by decide +kernel)) (by decide +kernel)
theorem uw_2023 : Cond.static yL_isAllSo ∈ lw_good := mem_good (List.mem_of_getElem? (i := 462) (by decide +kernel)) (by decide +kernel)
theorem uw_2024 : Cond.code yL_isAllSo cL_isAllSo 8 (Option.some ClassFile.FieldType.boolean) ∈ lw_good := mem_good (List.mem_of_getElem? (i := 463) (by decide +kernel)) (by decide +kernel)
theorem uw_2025 : Cond.methodLink RL 55 yX7_ifAllCome ∈ lw_good := mem_good (List.mem_of_getElem? (i := 464) (by decide +kernel)) (by decide +kernel)
theorem uw_535 : Cond.instanceMethod yX7_ifAllCome ∈ lw_good := mem_good (List.mem_of_getElem? (i := 465) (by decide +kernel)) (by decide +kernel)
theorem uw_536 : Cond.selects RX7 yX7_ifAllCome yX7_ifAllCome ∈ lw_good := mem_good (List.mem_of_getElem? (i := 466) (by decide +kernel)) (by decide +kernel)
theorem uw_537 : Cond.code yX7_ifAllCome cX7_ifAllCome 3 (Option.some ClassFile.FieldType.int) ∈ lw_good := mem_good (List.mem_of_getElem? (i := 467) (by decide +kernel)) (by decide +kernel)
theorem uw_538 : Cond.methodLink RX7 222 yX6_longestWay ∈ lw_good := mem_good (List.mem_of_getElem? (i := 468) (by decide +kernel)) (by decide +kernel)
theorem uw_539 : Cond.instanceMethod yX6_longestWay ∈ lw_good := mem_good (List.mem_of_getElem? (i := 469) (by decide +kernel)) (by decide +kernel)
theorem uw_540 : Cond.selects RX6 yX6_longestWay yX6_longestWay ∈ lw_good := mem_good (List.mem_of_getElem? (i := 470) (by decide +kernel)) (by decide +kernel)
theorem uw_541 : Cond.code yX6_longestWay cX6_longestWay 3 (Option.some ClassFile.FieldType.int) ∈ lw_good := mem_good (List.mem_of_getElem? (i := 471) (by decide +kernel)) (by decide +kernel)
theorem uw_542 : Cond.methodLink RX6 111 ⟨"java/lang/Math", "max", "(II)I"⟩ ∈ lw_good := mem_good (List.mem_of_getElem? (i := 472) (by decide +kernel)) (by decide +kernel)
theorem uw_543 : Cond.static ⟨"java/lang/Math", "max", "(II)I"⟩ ∈ lw_good := mem_good (List.mem_of_getElem? (i := 473) (by decide +kernel)) (by decide +kernel)
theorem uw_544 : Cond.code ⟨"java/lang/Math", "max", "(II)I"⟩ prog_11_method_65_code 2 (Option.some ClassFile.FieldType.int) ∈ lw_good := mem_good (List.mem_of_getElem? (i := 474) (by decide +kernel)) (by decide +kernel)
theorem uw_2026 : Cond.methodLink RL 85 yL_isRoundSo ∈ lw_good := mem_good (List.mem_of_getElem? (i := 475) (by decide +kernel)) (by decide +kernel)
theorem uw_2027 : Cond.static yL_isRoundSo ∈ lw_good := mem_good (List.mem_of_getElem? (i := 476) (by decide +kernel)) (by decide +kernel)
theorem uw_2028 : Cond.code yL_isRoundSo cL_isRoundSo 12 (Option.some ClassFile.FieldType.boolean) ∈ lw_good := mem_good (List.mem_of_getElem? (i := 477) (by decide +kernel)) (by decide +kernel)
theorem uw_2029 : Cond.methodLink RL 58 yX7_untilRound ∈ lw_good := mem_good (List.mem_of_getElem? (i := 478) (by decide +kernel)) (by decide +kernel)
theorem uw_521 : Cond.instanceMethod yX7_untilRound ∈ lw_good := mem_good (List.mem_of_getElem? (i := 479) (by decide +kernel)) (by decide +kernel)
theorem uw_522 : Cond.selects RX7 yX7_untilRound yX7_untilRound ∈ lw_good := mem_good (List.mem_of_getElem? (i := 480) (by decide +kernel)) (by decide +kernel)
theorem uw_523 : Cond.code yX7_untilRound cX7_untilRound 5 (Option.some ClassFile.FieldType.int) ∈ lw_good := mem_good (List.mem_of_getElem? (i := 481) (by decide +kernel)) (by decide +kernel)
theorem uw_525 : Cond.methodLink RX7 216 yX0_untold ∈ lw_good := mem_good (List.mem_of_getElem? (i := 482) (by decide +kernel)) (by decide +kernel)
theorem uw_526 : Cond.instanceMethod yX0_untold ∈ lw_good := mem_good (List.mem_of_getElem? (i := 483) (by decide +kernel)) (by decide +kernel)
theorem uw_527 : Cond.selects RX0 yX0_untold yX0_untold ∈ lw_good := mem_good (List.mem_of_getElem? (i := 484) (by decide +kernel)) (by decide +kernel)
theorem uw_528 : Cond.code yX0_untold cX0_untold 1 (Option.some ClassFile.FieldType.int) ∈ lw_good := mem_good (List.mem_of_getElem? (i := 485) (by decide +kernel)) (by decide +kernel)
theorem uw_529 : Cond.methodLink RX7 219 yX0_catchRain ∈ lw_good := mem_good (List.mem_of_getElem? (i := 486) (by decide +kernel)) (by decide +kernel)
theorem uw_471 : Cond.constant RX7 135 (-1000006) ∈ lw_good := mem_good (List.mem_of_getElem? (i := 487) (by decide +kernel)) (by decide +kernel)
theorem uw_520 : Cond.methodLink RL 61 yX7_mostUntold ∈ lw_good := mem_good (List.mem_of_getElem? (i := 488) (by decide +kernel)) (by decide +kernel)
theorem uw_546 : Cond.instanceMethod yX7_mostUntold ∈ lw_good := mem_good (List.mem_of_getElem? (i := 489) (by decide +kernel)) (by decide +kernel)
theorem uw_547 : Cond.selects RX7 yX7_mostUntold yX7_mostUntold ∈ lw_good := mem_good (List.mem_of_getElem? (i := 490) (by decide +kernel)) (by decide +kernel)
theorem uw_548 : Cond.code yX7_mostUntold cX7_mostUntold 5 (Option.some ClassFile.FieldType.int) ∈ lw_good := mem_good (List.mem_of_getElem? (i := 491) (by decide +kernel)) (by decide +kernel)
theorem uw_2030 : Cond.constant RL 64 (-1000006) ∈ lw_good := mem_good (List.mem_of_getElem? (i := 492) (by decide +kernel)) (by decide +kernel)
theorem ui_X0 : ∀ w ∈ u_ws RX0 TX0 9, w ∈ lw_good := by
  intro w h
  exact mem_good ((by decide +kernel : ∀ w ∈ u_ws RX0 TX0 9, w ∈ lw_tbl) w h) ((by decide +kernel : ∀ w ∈ u_ws RX0 TX0 9, goodWord w = true) w h)
theorem ui_X1 : ∀ w ∈ u_ws RX1 TX1 2, w ∈ lw_good := by
  intro w h
  exact mem_good ((by decide +kernel : ∀ w ∈ u_ws RX1 TX1 2, w ∈ lw_tbl) w h) ((by decide +kernel : ∀ w ∈ u_ws RX1 TX1 2, goodWord w = true) w h)
theorem ui_X2 : ∀ w ∈ u_ws RX2 TX2 6, w ∈ lw_good := by
  intro w h
  exact mem_good ((by decide +kernel : ∀ w ∈ u_ws RX2 TX2 6, w ∈ lw_tbl) w h) ((by decide +kernel : ∀ w ∈ u_ws RX2 TX2 6, goodWord w = true) w h)
theorem ui_X3 : ∀ w ∈ u_ws RX3 TX3 2, w ∈ lw_good := by
  intro w h
  exact mem_good ((by decide +kernel : ∀ w ∈ u_ws RX3 TX3 2, w ∈ lw_tbl) w h) ((by decide +kernel : ∀ w ∈ u_ws RX3 TX3 2, goodWord w = true) w h)
theorem ui_X4 : ∀ w ∈ u_ws RX4 TX4 8, w ∈ lw_good := by
  intro w h
  exact mem_good ((by decide +kernel : ∀ w ∈ u_ws RX4 TX4 8, w ∈ lw_tbl) w h) ((by decide +kernel : ∀ w ∈ u_ws RX4 TX4 8, goodWord w = true) w h)
theorem ui_X5 : ∀ w ∈ u_ws RX5 TX5 5, w ∈ lw_good := by
  intro w h
  exact mem_good ((by decide +kernel : ∀ w ∈ u_ws RX5 TX5 5, w ∈ lw_tbl) w h) ((by decide +kernel : ∀ w ∈ u_ws RX5 TX5 5, goodWord w = true) w h)
theorem ui_X6 : ∀ w ∈ u_ws RX6 TX6 6, w ∈ lw_good := by
  intro w h
  exact mem_good ((by decide +kernel : ∀ w ∈ u_ws RX6 TX6 6, w ∈ lw_tbl) w h) ((by decide +kernel : ∀ w ∈ u_ws RX6 TX6 6, goodWord w = true) w h)
theorem ui_X7 : ∀ w ∈ u_ws RX7 TX7 7, w ∈ lw_good := by
  intro w h
  exact mem_good ((by decide +kernel : ∀ w ∈ u_ws RX7 TX7 7, w ∈ lw_tbl) w h) ((by decide +kernel : ∀ w ∈ u_ws RX7 TX7 7, goodWord w = true) w h)
end
section
theorem dX0_init_0 : decode cX0_init 0 = .ok (.aload_n 0, 1) := by decide +kernel
theorem dX0_init_1 : decode cX0_init 1 = .ok (.invokespecial 1, 3) := by decide +kernel
theorem dX0_init_4 : decode cX0_init 4 = .ok (.aload_n 0, 1) := by decide +kernel
theorem dX0_init_5 : decode cX0_init 5 = .ok (.iconst 3, 1) := by decide +kernel
theorem dX0_init_6 : decode cX0_init 6 = .ok (.putfield 7, 3) := by decide +kernel
theorem dX0_init_9 : decode cX0_init 9 = .ok (.aload_n 0, 1) := by decide +kernel
theorem dX0_init_10 : decode cX0_init 10 = .ok (.bipush 10, 2) := by decide +kernel
theorem dX0_init_12 : decode cX0_init 12 = .ok (.putfield 13, 3) := by decide +kernel
theorem dX0_init_15 : decode cX0_init 15 = .ok (.aload_n 0, 1) := by decide +kernel
theorem dX0_init_16 : decode cX0_init 16 = .ok (.bipush 100, 2) := by decide +kernel
theorem dX0_init_18 : decode cX0_init 18 = .ok (.putfield 16, 3) := by decide +kernel
theorem dX0_init_21 : decode cX0_init 21 = .ok (.aload_n 0, 1) := by decide +kernel
theorem dX0_init_22 : decode cX0_init 22 = .ok (.new 19, 3) := by decide +kernel
theorem dX0_init_25 : decode cX0_init 25 = .ok (.dup, 1) := by decide +kernel
theorem dX0_init_26 : decode cX0_init 26 = .ok (.invokespecial 21, 3) := by decide +kernel
theorem dX0_init_29 : decode cX0_init 29 = .ok (.putfield 22, 3) := by decide +kernel
theorem dX0_init_32 : decode cX0_init 32 = .ok (.aload_n 0, 1) := by decide +kernel
theorem dX0_init_33 : decode cX0_init 33 = .ok (.iload_n 1, 1) := by decide +kernel
theorem dX0_init_34 : decode cX0_init 34 = .ok (.putfield 26, 3) := by decide +kernel
theorem dX0_init_37 : decode cX0_init 37 = .ok (.return_, 1) := by decide +kernel
theorem dX0_copyFrom_0 : decode cX0_copyFrom 0 = .ok (.aload_n 0, 1) := by decide +kernel
theorem dX0_copyFrom_1 : decode cX0_copyFrom 1 = .ok (.aload_n 1, 1) := by decide +kernel
theorem dX0_copyFrom_2 : decode cX0_copyFrom 2 = .ok (.getfield 7, 3) := by decide +kernel
theorem dX0_copyFrom_5 : decode cX0_copyFrom 5 = .ok (.putfield 7, 3) := by decide +kernel
theorem dX0_copyFrom_8 : decode cX0_copyFrom 8 = .ok (.aload_n 0, 1) := by decide +kernel
theorem dX0_copyFrom_9 : decode cX0_copyFrom 9 = .ok (.aload_n 1, 1) := by decide +kernel
theorem dX0_copyFrom_10 : decode cX0_copyFrom 10 = .ok (.getfield 13, 3) := by decide +kernel
theorem dX0_copyFrom_13 : decode cX0_copyFrom 13 = .ok (.putfield 13, 3) := by decide +kernel
theorem dX0_copyFrom_16 : decode cX0_copyFrom 16 = .ok (.aload_n 0, 1) := by decide +kernel
theorem dX0_copyFrom_17 : decode cX0_copyFrom 17 = .ok (.aload_n 1, 1) := by decide +kernel
theorem dX0_copyFrom_18 : decode cX0_copyFrom 18 = .ok (.getfield 16, 3) := by decide +kernel
theorem dX0_copyFrom_21 : decode cX0_copyFrom 21 = .ok (.putfield 16, 3) := by decide +kernel
theorem dX0_copyFrom_24 : decode cX0_copyFrom 24 = .ok (.aload_n 0, 1) := by decide +kernel
theorem dX0_copyFrom_25 : decode cX0_copyFrom 25 = .ok (.aload_n 1, 1) := by decide +kernel
theorem dX0_copyFrom_26 : decode cX0_copyFrom 26 = .ok (.getfield 26, 3) := by decide +kernel
theorem dX0_copyFrom_29 : decode cX0_copyFrom 29 = .ok (.putfield 26, 3) := by decide +kernel
theorem dX0_copyFrom_32 : decode cX0_copyFrom 32 = .ok (.aload_n 0, 1) := by decide +kernel
theorem dX0_copyFrom_33 : decode cX0_copyFrom 33 = .ok (.aload_n 1, 1) := by decide +kernel
theorem dX0_copyFrom_34 : decode cX0_copyFrom 34 = .ok (.getfield 29, 3) := by decide +kernel
theorem dX0_copyFrom_37 : decode cX0_copyFrom 37 = .ok (.putfield 29, 3) := by decide +kernel
theorem dX0_copyFrom_40 : decode cX0_copyFrom 40 = .ok (.aload_n 0, 1) := by decide +kernel
theorem dX0_copyFrom_41 : decode cX0_copyFrom 41 = .ok (.aload_n 1, 1) := by decide +kernel
theorem dX0_copyFrom_42 : decode cX0_copyFrom 42 = .ok (.getfield 32, 3) := by decide +kernel
theorem dX0_copyFrom_45 : decode cX0_copyFrom 45 = .ok (.putfield 32, 3) := by decide +kernel
theorem dX0_copyFrom_48 : decode cX0_copyFrom 48 = .ok (.aload_n 0, 1) := by decide +kernel
theorem dX0_copyFrom_49 : decode cX0_copyFrom 49 = .ok (.aload_n 1, 1) := by decide +kernel
theorem dX0_copyFrom_50 : decode cX0_copyFrom 50 = .ok (.getfield 35, 3) := by decide +kernel
theorem dX0_copyFrom_53 : decode cX0_copyFrom 53 = .ok (.putfield 35, 3) := by decide +kernel
theorem dX0_copyFrom_56 : decode cX0_copyFrom 56 = .ok (.aload_n 0, 1) := by decide +kernel
theorem dX0_copyFrom_57 : decode cX0_copyFrom 57 = .ok (.aload_n 1, 1) := by decide +kernel
theorem dX0_copyFrom_58 : decode cX0_copyFrom 58 = .ok (.getfield 38, 3) := by decide +kernel
theorem dX0_copyFrom_61 : decode cX0_copyFrom 61 = .ok (.putfield 38, 3) := by decide +kernel
theorem dX0_copyFrom_64 : decode cX0_copyFrom 64 = .ok (.aload_n 0, 1) := by decide +kernel
theorem dX0_copyFrom_65 : decode cX0_copyFrom 65 = .ok (.getfield 22, 3) := by decide +kernel
theorem dX0_copyFrom_68 : decode cX0_copyFrom 68 = .ok (.aload_n 1, 1) := by decide +kernel
theorem dX0_copyFrom_69 : decode cX0_copyFrom 69 = .ok (.getfield 22, 3) := by decide +kernel
theorem dX0_copyFrom_72 : decode cX0_copyFrom 72 = .ok (.invokevirtual 41, 3) := by decide +kernel
theorem dX0_copyFrom_75 : decode cX0_copyFrom 75 = .ok (.return_, 1) := by decide +kernel
theorem dX0_catchRain_0 : decode cX0_catchRain 0 = .ok (.iload_n 1, 1) := by decide +kernel
theorem dX0_catchRain_1 : decode cX0_catchRain 1 = .ok (.aload_n 0, 1) := by decide +kernel
theorem dX0_catchRain_2 : decode cX0_catchRain 2 = .ok (.getfield 7, 3) := by decide +kernel
theorem dX0_catchRain_5 : decode cX0_catchRain 5 = .ok (.imul, 1) := by decide +kernel
theorem dX0_catchRain_6 : decode cX0_catchRain 6 = .ok (.aload_n 0, 1) := by decide +kernel
theorem dX0_catchRain_7 : decode cX0_catchRain 7 = .ok (.getfield 16, 3) := by decide +kernel
theorem dX0_catchRain_10 : decode cX0_catchRain 10 = .ok (.imul, 1) := by decide +kernel
theorem dX0_catchRain_11 : decode cX0_catchRain 11 = .ok (.bipush 100, 2) := by decide +kernel
theorem dX0_catchRain_13 : decode cX0_catchRain 13 = .ok (.idiv, 1) := by decide +kernel
theorem dX0_catchRain_14 : decode cX0_catchRain 14 = .ok (.istore_n 2, 1) := by decide +kernel
theorem dX0_catchRain_15 : decode cX0_catchRain 15 = .ok (.aload_n 0, 1) := by decide +kernel
theorem dX0_catchRain_16 : decode cX0_catchRain 16 = .ok (.dup, 1) := by decide +kernel
theorem dX0_catchRain_17 : decode cX0_catchRain 17 = .ok (.getfield 35, 3) := by decide +kernel
theorem dX0_catchRain_20 : decode cX0_catchRain 20 = .ok (.iload_n 2, 1) := by decide +kernel
theorem dX0_catchRain_21 : decode cX0_catchRain 21 = .ok (.iadd, 1) := by decide +kernel
theorem dX0_catchRain_22 : decode cX0_catchRain 22 = .ok (.putfield 35, 3) := by decide +kernel
theorem dX0_catchRain_25 : decode cX0_catchRain 25 = .ok (.aload_n 0, 1) := by decide +kernel
theorem dX0_catchRain_26 : decode cX0_catchRain 26 = .ok (.dup, 1) := by decide +kernel
theorem dX0_catchRain_27 : decode cX0_catchRain 27 = .ok (.getfield 29, 3) := by decide +kernel
theorem dX0_catchRain_30 : decode cX0_catchRain 30 = .ok (.iload_n 2, 1) := by decide +kernel
theorem dX0_catchRain_31 : decode cX0_catchRain 31 = .ok (.iadd, 1) := by decide +kernel
theorem dX0_catchRain_32 : decode cX0_catchRain 32 = .ok (.putfield 29, 3) := by decide +kernel
theorem dX0_catchRain_35 : decode cX0_catchRain 35 = .ok (.aload_n 0, 1) := by decide +kernel
theorem dX0_catchRain_36 : decode cX0_catchRain 36 = .ok (.getfield 13, 3) := by decide +kernel
theorem dX0_catchRain_39 : decode cX0_catchRain 39 = .ok (.ifCond .le 15, 3) := by decide +kernel
theorem dX0_catchRain_42 : decode cX0_catchRain 42 = .ok (.aload_n 0, 1) := by decide +kernel
theorem dX0_catchRain_43 : decode cX0_catchRain 43 = .ok (.getfield 29, 3) := by decide +kernel
theorem dX0_catchRain_46 : decode cX0_catchRain 46 = .ok (.aload_n 0, 1) := by decide +kernel
theorem dX0_catchRain_47 : decode cX0_catchRain 47 = .ok (.getfield 13, 3) := by decide +kernel
theorem dX0_catchRain_50 : decode cX0_catchRain 50 = .ok (.idiv, 1) := by decide +kernel
theorem dX0_catchRain_51 : decode cX0_catchRain 51 = .ok (.goto 4, 3) := by decide +kernel
theorem dX0_catchRain_54 : decode cX0_catchRain 54 = .ok (.iconst 0, 1) := by decide +kernel
theorem dX0_catchRain_55 : decode cX0_catchRain 55 = .ok (.istore_n 3, 1) := by decide +kernel
theorem dX0_catchRain_56 : decode cX0_catchRain 56 = .ok (.aload_n 0, 1) := by decide +kernel
theorem dX0_catchRain_57 : decode cX0_catchRain 57 = .ok (.dup, 1) := by decide +kernel
theorem dX0_catchRain_58 : decode cX0_catchRain 58 = .ok (.getfield 29, 3) := by decide +kernel
theorem dX0_catchRain_61 : decode cX0_catchRain 61 = .ok (.iload_n 3, 1) := by decide +kernel
theorem dX0_catchRain_62 : decode cX0_catchRain 62 = .ok (.aload_n 0, 1) := by decide +kernel
theorem dX0_catchRain_63 : decode cX0_catchRain 63 = .ok (.getfield 13, 3) := by decide +kernel
theorem dX0_catchRain_66 : decode cX0_catchRain 66 = .ok (.imul, 1) := by decide +kernel
theorem dX0_catchRain_67 : decode cX0_catchRain 67 = .ok (.isub, 1) := by decide +kernel
theorem dX0_catchRain_68 : decode cX0_catchRain 68 = .ok (.putfield 29, 3) := by decide +kernel
theorem dX0_catchRain_71 : decode cX0_catchRain 71 = .ok (.aload_n 0, 1) := by decide +kernel
theorem dX0_catchRain_72 : decode cX0_catchRain 72 = .ok (.dup, 1) := by decide +kernel
theorem dX0_catchRain_73 : decode cX0_catchRain 73 = .ok (.getfield 38, 3) := by decide +kernel
theorem dX0_catchRain_76 : decode cX0_catchRain 76 = .ok (.iload_n 3, 1) := by decide +kernel
theorem dX0_catchRain_77 : decode cX0_catchRain 77 = .ok (.aload_n 0, 1) := by decide +kernel
theorem dX0_catchRain_78 : decode cX0_catchRain 78 = .ok (.getfield 13, 3) := by decide +kernel
theorem dX0_catchRain_81 : decode cX0_catchRain 81 = .ok (.imul, 1) := by decide +kernel
theorem dX0_catchRain_82 : decode cX0_catchRain 82 = .ok (.iadd, 1) := by decide +kernel
theorem dX0_catchRain_83 : decode cX0_catchRain 83 = .ok (.putfield 38, 3) := by decide +kernel
theorem dX0_catchRain_86 : decode cX0_catchRain 86 = .ok (.aload_n 0, 1) := by decide +kernel
theorem dX0_catchRain_87 : decode cX0_catchRain 87 = .ok (.dup, 1) := by decide +kernel
theorem dX0_catchRain_88 : decode cX0_catchRain 88 = .ok (.getfield 32, 3) := by decide +kernel
theorem dX0_catchRain_91 : decode cX0_catchRain 91 = .ok (.iload_n 3, 1) := by decide +kernel
theorem dX0_catchRain_92 : decode cX0_catchRain 92 = .ok (.iadd, 1) := by decide +kernel
theorem dX0_catchRain_93 : decode cX0_catchRain 93 = .ok (.putfield 32, 3) := by decide +kernel
theorem dX0_catchRain_96 : decode cX0_catchRain 96 = .ok (.iload_n 3, 1) := by decide +kernel
theorem dX0_catchRain_97 : decode cX0_catchRain 97 = .ok (.ireturn, 1) := by decide +kernel
theorem dX0_gap_0 : decode cX0_gap 0 = .ok (.aload_n 0, 1) := by decide +kernel
theorem dX0_gap_1 : decode cX0_gap 1 = .ok (.getfield 32, 3) := by decide +kernel
theorem dX0_gap_4 : decode cX0_gap 4 = .ok (.aload_n 0, 1) := by decide +kernel
theorem dX0_gap_5 : decode cX0_gap 5 = .ok (.getfield 22, 3) := by decide +kernel
theorem dX0_gap_8 : decode cX0_gap 8 = .ok (.getfield 45, 3) := by decide +kernel
theorem dX0_gap_11 : decode cX0_gap 11 = .ok (.isub, 1) := by decide +kernel
theorem dX0_gap_12 : decode cX0_gap 12 = .ok (.ireturn, 1) := by decide +kernel
theorem dX0_untold_0 : decode cX0_untold 0 = .ok (.aload_n 0, 1) := by decide +kernel
theorem dX0_untold_1 : decode cX0_untold 1 = .ok (.getfield 32, 3) := by decide +kernel
theorem dX0_untold_4 : decode cX0_untold 4 = .ok (.aload_n 0, 1) := by decide +kernel
theorem dX0_untold_5 : decode cX0_untold 5 = .ok (.getfield 22, 3) := by decide +kernel
theorem dX0_untold_8 : decode cX0_untold 8 = .ok (.getfield 48, 3) := by decide +kernel
theorem dX0_untold_11 : decode cX0_untold 11 = .ok (.isub, 1) := by decide +kernel
theorem dX0_untold_12 : decode cX0_untold 12 = .ok (.ireturn, 1) := by decide +kernel
theorem dX1_init_0 : decode cX1_init 0 = .ok (.aload_n 0, 1) := by decide +kernel
theorem dX1_init_1 : decode cX1_init 1 = .ok (.invokespecial 3, 3) := by decide +kernel
theorem dX1_init_4 : decode cX1_init 4 = .ok (.aload_n 0, 1) := by decide +kernel
theorem dX1_init_5 : decode cX1_init 5 = .ok (.bipush 6, 2) := by decide +kernel
theorem dX1_init_7 : decode cX1_init 7 = .ok (.anewarray 9, 3) := by decide +kernel
theorem dX1_init_10 : decode cX1_init 10 = .ok (.putfield 11, 3) := by decide +kernel
theorem dX1_init_13 : decode cX1_init 13 = .ok (.iconst 0, 1) := by decide +kernel
theorem dX1_init_14 : decode cX1_init 14 = .ok (.istore_n 1, 1) := by decide +kernel
theorem dX1_init_15 : decode cX1_init 15 = .ok (.iload_n 1, 1) := by decide +kernel
theorem dX1_init_16 : decode cX1_init 16 = .ok (.aload_n 0, 1) := by decide +kernel
theorem dX1_init_17 : decode cX1_init 17 = .ok (.getfield 11, 3) := by decide +kernel
theorem dX1_init_20 : decode cX1_init 20 = .ok (.arraylength, 1) := by decide +kernel
theorem dX1_init_21 : decode cX1_init 21 = .ok (.if_icmp .ge 22, 3) := by decide +kernel
theorem dX1_init_24 : decode cX1_init 24 = .ok (.aload_n 0, 1) := by decide +kernel
theorem dX1_init_25 : decode cX1_init 25 = .ok (.getfield 11, 3) := by decide +kernel
theorem dX1_init_28 : decode cX1_init 28 = .ok (.iload_n 1, 1) := by decide +kernel
theorem dX1_init_29 : decode cX1_init 29 = .ok (.new 9, 3) := by decide +kernel
theorem dX1_init_32 : decode cX1_init 32 = .ok (.dup, 1) := by decide +kernel
theorem dX1_init_33 : decode cX1_init 33 = .ok (.invokespecial 17, 3) := by decide +kernel
theorem dX1_init_36 : decode cX1_init 36 = .ok (.aastore, 1) := by decide +kernel
theorem dX1_init_37 : decode cX1_init 37 = .ok (.iinc 1 1, 3) := by decide +kernel
theorem dX1_init_40 : decode cX1_init 40 = .ok (.goto (-25), 3) := by decide +kernel
theorem dX1_init_43 : decode cX1_init 43 = .ok (.return_, 1) := by decide +kernel
theorem dX1_record_0 : decode cX1_record 0 = .ok (.aload_n 0, 1) := by decide +kernel
theorem dX1_record_1 : decode cX1_record 1 = .ok (.getfield 18, 3) := by decide +kernel
theorem dX1_record_4 : decode cX1_record 4 = .ok (.aload_n 0, 1) := by decide +kernel
theorem dX1_record_5 : decode cX1_record 5 = .ok (.getfield 11, 3) := by decide +kernel
theorem dX1_record_8 : decode cX1_record 8 = .ok (.arraylength, 1) := by decide +kernel
theorem dX1_record_9 : decode cX1_record 9 = .ok (.if_icmp .lt 7, 3) := by decide +kernel
theorem dX1_record_12 : decode cX1_record 12 = .ok (.aload_n 0, 1) := by decide +kernel
theorem dX1_record_13 : decode cX1_record 13 = .ok (.invokevirtual 22, 3) := by decide +kernel
theorem dX1_record_16 : decode cX1_record 16 = .ok (.aload_n 0, 1) := by decide +kernel
theorem dX1_record_17 : decode cX1_record 17 = .ok (.getfield 18, 3) := by decide +kernel
theorem dX1_record_20 : decode cX1_record 20 = .ok (.ifCond .lt 38, 3) := by decide +kernel
theorem dX1_record_23 : decode cX1_record 23 = .ok (.aload_n 0, 1) := by decide +kernel
theorem dX1_record_24 : decode cX1_record 24 = .ok (.getfield 18, 3) := by decide +kernel
theorem dX1_record_27 : decode cX1_record 27 = .ok (.aload_n 0, 1) := by decide +kernel
theorem dX1_record_28 : decode cX1_record 28 = .ok (.getfield 11, 3) := by decide +kernel
theorem dX1_record_31 : decode cX1_record 31 = .ok (.arraylength, 1) := by decide +kernel
theorem dX1_record_32 : decode cX1_record 32 = .ok (.if_icmp .ge 26, 3) := by decide +kernel
theorem dX1_record_35 : decode cX1_record 35 = .ok (.aload_n 0, 1) := by decide +kernel
theorem dX1_record_36 : decode cX1_record 36 = .ok (.getfield 11, 3) := by decide +kernel
theorem dX1_record_39 : decode cX1_record 39 = .ok (.aload_n 0, 1) := by decide +kernel
theorem dX1_record_40 : decode cX1_record 40 = .ok (.getfield 18, 3) := by decide +kernel
theorem dX1_record_43 : decode cX1_record 43 = .ok (.aaload, 1) := by decide +kernel
theorem dX1_record_44 : decode cX1_record 44 = .ok (.aload_n 1, 1) := by decide +kernel
theorem dX1_record_45 : decode cX1_record 45 = .ok (.invokevirtual 25, 3) := by decide +kernel
theorem dX1_record_48 : decode cX1_record 48 = .ok (.aload_n 0, 1) := by decide +kernel
theorem dX1_record_49 : decode cX1_record 49 = .ok (.dup, 1) := by decide +kernel
theorem dX1_record_50 : decode cX1_record 50 = .ok (.getfield 18, 3) := by decide +kernel
theorem dX1_record_53 : decode cX1_record 53 = .ok (.iconst 1, 1) := by decide +kernel
theorem dX1_record_54 : decode cX1_record 54 = .ok (.iadd, 1) := by decide +kernel
theorem dX1_record_55 : decode cX1_record 55 = .ok (.putfield 18, 3) := by decide +kernel
theorem dX1_record_58 : decode cX1_record 58 = .ok (.return_, 1) := by decide +kernel
theorem dX1_takeBack_0 : decode cX1_takeBack 0 = .ok (.aload_n 0, 1) := by decide +kernel
theorem dX1_takeBack_1 : decode cX1_takeBack 1 = .ok (.getfield 18, 3) := by decide +kernel
theorem dX1_takeBack_4 : decode cX1_takeBack 4 = .ok (.ifCond .le 15, 3) := by decide +kernel
theorem dX1_takeBack_7 : decode cX1_takeBack 7 = .ok (.aload_n 0, 1) := by decide +kernel
theorem dX1_takeBack_8 : decode cX1_takeBack 8 = .ok (.getfield 18, 3) := by decide +kernel
theorem dX1_takeBack_11 : decode cX1_takeBack 11 = .ok (.aload_n 0, 1) := by decide +kernel
theorem dX1_takeBack_12 : decode cX1_takeBack 12 = .ok (.getfield 11, 3) := by decide +kernel
theorem dX1_takeBack_15 : decode cX1_takeBack 15 = .ok (.arraylength, 1) := by decide +kernel
theorem dX1_takeBack_16 : decode cX1_takeBack 16 = .ok (.if_icmp .le 5, 3) := by decide +kernel
theorem dX1_takeBack_19 : decode cX1_takeBack 19 = .ok (.iconst 0, 1) := by decide +kernel
theorem dX1_takeBack_20 : decode cX1_takeBack 20 = .ok (.ireturn, 1) := by decide +kernel
theorem dX1_takeBack_21 : decode cX1_takeBack 21 = .ok (.aload_n 0, 1) := by decide +kernel
theorem dX1_takeBack_22 : decode cX1_takeBack 22 = .ok (.dup, 1) := by decide +kernel
theorem dX1_takeBack_23 : decode cX1_takeBack 23 = .ok (.getfield 18, 3) := by decide +kernel
theorem dX1_takeBack_26 : decode cX1_takeBack 26 = .ok (.iconst 1, 1) := by decide +kernel
theorem dX1_takeBack_27 : decode cX1_takeBack 27 = .ok (.isub, 1) := by decide +kernel
theorem dX1_takeBack_28 : decode cX1_takeBack 28 = .ok (.putfield 18, 3) := by decide +kernel
theorem dX1_takeBack_31 : decode cX1_takeBack 31 = .ok (.aload_n 1, 1) := by decide +kernel
theorem dX1_takeBack_32 : decode cX1_takeBack 32 = .ok (.aload_n 0, 1) := by decide +kernel
theorem dX1_takeBack_33 : decode cX1_takeBack 33 = .ok (.getfield 11, 3) := by decide +kernel
theorem dX1_takeBack_36 : decode cX1_takeBack 36 = .ok (.aload_n 0, 1) := by decide +kernel
theorem dX1_takeBack_37 : decode cX1_takeBack 37 = .ok (.getfield 18, 3) := by decide +kernel
theorem dX1_takeBack_40 : decode cX1_takeBack 40 = .ok (.aaload, 1) := by decide +kernel
theorem dX1_takeBack_41 : decode cX1_takeBack 41 = .ok (.invokevirtual 25, 3) := by decide +kernel
theorem dX1_takeBack_44 : decode cX1_takeBack 44 = .ok (.iconst 1, 1) := by decide +kernel
theorem dX1_takeBack_45 : decode cX1_takeBack 45 = .ok (.ireturn, 1) := by decide +kernel
theorem dX1_dropOldest_0 : decode cX1_dropOldest 0 = .ok (.aload_n 0, 1) := by decide +kernel
theorem dX1_dropOldest_1 : decode cX1_dropOldest 1 = .ok (.getfield 11, 3) := by decide +kernel
theorem dX1_dropOldest_4 : decode cX1_dropOldest 4 = .ok (.arraylength, 1) := by decide +kernel
theorem dX1_dropOldest_5 : decode cX1_dropOldest 5 = .ok (.iconst 1, 1) := by decide +kernel
theorem dX1_dropOldest_6 : decode cX1_dropOldest 6 = .ok (.isub, 1) := by decide +kernel
theorem dX1_dropOldest_7 : decode cX1_dropOldest 7 = .ok (.istore_n 1, 1) := by decide +kernel
theorem dX1_dropOldest_8 : decode cX1_dropOldest 8 = .ok (.aload_n 0, 1) := by decide +kernel
theorem dX1_dropOldest_9 : decode cX1_dropOldest 9 = .ok (.getfield 11, 3) := by decide +kernel
theorem dX1_dropOldest_12 : decode cX1_dropOldest 12 = .ok (.iconst 0, 1) := by decide +kernel
theorem dX1_dropOldest_13 : decode cX1_dropOldest 13 = .ok (.aaload, 1) := by decide +kernel
theorem dX1_dropOldest_14 : decode cX1_dropOldest 14 = .ok (.astore_n 2, 1) := by decide +kernel
theorem dX1_dropOldest_15 : decode cX1_dropOldest 15 = .ok (.iconst 0, 1) := by decide +kernel
theorem dX1_dropOldest_16 : decode cX1_dropOldest 16 = .ok (.istore_n 3, 1) := by decide +kernel
theorem dX1_dropOldest_17 : decode cX1_dropOldest 17 = .ok (.iload_n 3, 1) := by decide +kernel
theorem dX1_dropOldest_18 : decode cX1_dropOldest 18 = .ok (.iload_n 1, 1) := by decide +kernel
theorem dX1_dropOldest_19 : decode cX1_dropOldest 19 = .ok (.if_icmp .ge 23, 3) := by decide +kernel
theorem dX1_dropOldest_22 : decode cX1_dropOldest 22 = .ok (.aload_n 0, 1) := by decide +kernel
theorem dX1_dropOldest_23 : decode cX1_dropOldest 23 = .ok (.getfield 11, 3) := by decide +kernel
theorem dX1_dropOldest_26 : decode cX1_dropOldest 26 = .ok (.iload_n 3, 1) := by decide +kernel
theorem dX1_dropOldest_27 : decode cX1_dropOldest 27 = .ok (.aload_n 0, 1) := by decide +kernel
theorem dX1_dropOldest_28 : decode cX1_dropOldest 28 = .ok (.getfield 11, 3) := by decide +kernel
theorem dX1_dropOldest_31 : decode cX1_dropOldest 31 = .ok (.iload_n 3, 1) := by decide +kernel
theorem dX1_dropOldest_32 : decode cX1_dropOldest 32 = .ok (.iconst 1, 1) := by decide +kernel
theorem dX1_dropOldest_33 : decode cX1_dropOldest 33 = .ok (.iadd, 1) := by decide +kernel
theorem dX1_dropOldest_34 : decode cX1_dropOldest 34 = .ok (.aaload, 1) := by decide +kernel
theorem dX1_dropOldest_35 : decode cX1_dropOldest 35 = .ok (.aastore, 1) := by decide +kernel
theorem dX1_dropOldest_36 : decode cX1_dropOldest 36 = .ok (.iinc 3 1, 3) := by decide +kernel
theorem dX1_dropOldest_39 : decode cX1_dropOldest 39 = .ok (.goto (-22), 3) := by decide +kernel
theorem dX1_dropOldest_42 : decode cX1_dropOldest 42 = .ok (.aload_n 0, 1) := by decide +kernel
theorem dX1_dropOldest_43 : decode cX1_dropOldest 43 = .ok (.getfield 11, 3) := by decide +kernel
theorem dX1_dropOldest_46 : decode cX1_dropOldest 46 = .ok (.iload_n 1, 1) := by decide +kernel
theorem dX1_dropOldest_47 : decode cX1_dropOldest 47 = .ok (.aload_n 2, 1) := by decide +kernel
theorem dX1_dropOldest_48 : decode cX1_dropOldest 48 = .ok (.aastore, 1) := by decide +kernel
theorem dX1_dropOldest_49 : decode cX1_dropOldest 49 = .ok (.aload_n 0, 1) := by decide +kernel
theorem dX1_dropOldest_50 : decode cX1_dropOldest 50 = .ok (.iload_n 1, 1) := by decide +kernel
theorem dX1_dropOldest_51 : decode cX1_dropOldest 51 = .ok (.putfield 18, 3) := by decide +kernel
theorem dX1_dropOldest_54 : decode cX1_dropOldest 54 = .ok (.return_, 1) := by decide +kernel
theorem dX2_init_0 : decode cX2_init 0 = .ok (.aload_n 0, 1) := by decide +kernel
theorem dX2_init_1 : decode cX2_init 1 = .ok (.invokespecial 3, 3) := by decide +kernel
theorem dX2_init_4 : decode cX2_init 4 = .ok (.aload_n 0, 1) := by decide +kernel
theorem dX2_init_5 : decode cX2_init 5 = .ok (.aload_n 1, 1) := by decide +kernel
theorem dX2_init_6 : decode cX2_init 6 = .ok (.putfield 9, 3) := by decide +kernel
theorem dX2_init_9 : decode cX2_init 9 = .ok (.return_, 1) := by decide +kernel
theorem dX3_init_0 : decode cX3_init 0 = .ok (.aload_n 0, 1) := by decide +kernel
theorem dX3_init_1 : decode cX3_init 1 = .ok (.invokespecial 3, 3) := by decide +kernel
theorem dX3_init_4 : decode cX3_init 4 = .ok (.aload_n 0, 1) := by decide +kernel
theorem dX3_init_5 : decode cX3_init 5 = .ok (.bipush 60, 2) := by decide +kernel
theorem dX3_init_7 : decode cX3_init 7 = .ok (.newarray .char, 2) := by decide +kernel
theorem dX3_init_9 : decode cX3_init 9 = .ok (.putfield 9, 3) := by decide +kernel
theorem dX3_init_12 : decode cX3_init 12 = .ok (.return_, 1) := by decide +kernel
theorem dX4_init_0 : decode cX4_init 0 = .ok (.aload_n 0, 1) := by decide +kernel
theorem dX4_init_1 : decode cX4_init 1 = .ok (.invokespecial 1, 3) := by decide +kernel
theorem dX4_init_4 : decode cX4_init 4 = .ok (.return_, 1) := by decide +kernel
theorem dX4_copyFrom_0 : decode cX4_copyFrom 0 = .ok (.aload_n 0, 1) := by decide +kernel
theorem dX4_copyFrom_1 : decode cX4_copyFrom 1 = .ok (.aload_n 1, 1) := by decide +kernel
theorem dX4_copyFrom_2 : decode cX4_copyFrom 2 = .ok (.getfield 7, 3) := by decide +kernel
theorem dX4_copyFrom_5 : decode cX4_copyFrom 5 = .ok (.putfield 7, 3) := by decide +kernel
theorem dX4_copyFrom_8 : decode cX4_copyFrom 8 = .ok (.aload_n 0, 1) := by decide +kernel
theorem dX4_copyFrom_9 : decode cX4_copyFrom 9 = .ok (.aload_n 1, 1) := by decide +kernel
theorem dX4_copyFrom_10 : decode cX4_copyFrom 10 = .ok (.getfield 13, 3) := by decide +kernel
theorem dX4_copyFrom_13 : decode cX4_copyFrom 13 = .ok (.putfield 13, 3) := by decide +kernel
theorem dX4_copyFrom_16 : decode cX4_copyFrom 16 = .ok (.aload_n 0, 1) := by decide +kernel
theorem dX4_copyFrom_17 : decode cX4_copyFrom 17 = .ok (.aload_n 1, 1) := by decide +kernel
theorem dX4_copyFrom_18 : decode cX4_copyFrom 18 = .ok (.getfield 16, 3) := by decide +kernel
theorem dX4_copyFrom_21 : decode cX4_copyFrom 21 = .ok (.putfield 16, 3) := by decide +kernel
theorem dX4_copyFrom_24 : decode cX4_copyFrom 24 = .ok (.aload_n 0, 1) := by decide +kernel
theorem dX4_copyFrom_25 : decode cX4_copyFrom 25 = .ok (.aload_n 1, 1) := by decide +kernel
theorem dX4_copyFrom_26 : decode cX4_copyFrom 26 = .ok (.getfield 19, 3) := by decide +kernel
theorem dX4_copyFrom_29 : decode cX4_copyFrom 29 = .ok (.putfield 19, 3) := by decide +kernel
theorem dX4_copyFrom_32 : decode cX4_copyFrom 32 = .ok (.aload_n 0, 1) := by decide +kernel
theorem dX4_copyFrom_33 : decode cX4_copyFrom 33 = .ok (.aload_n 1, 1) := by decide +kernel
theorem dX4_copyFrom_34 : decode cX4_copyFrom 34 = .ok (.getfield 22, 3) := by decide +kernel
theorem dX4_copyFrom_37 : decode cX4_copyFrom 37 = .ok (.putfield 22, 3) := by decide +kernel
theorem dX4_copyFrom_40 : decode cX4_copyFrom 40 = .ok (.aload_n 0, 1) := by decide +kernel
theorem dX4_copyFrom_41 : decode cX4_copyFrom 41 = .ok (.aload_n 1, 1) := by decide +kernel
theorem dX4_copyFrom_42 : decode cX4_copyFrom 42 = .ok (.getfield 25, 3) := by decide +kernel
theorem dX4_copyFrom_45 : decode cX4_copyFrom 45 = .ok (.putfield 25, 3) := by decide +kernel
theorem dX4_copyFrom_48 : decode cX4_copyFrom 48 = .ok (.aload_n 0, 1) := by decide +kernel
theorem dX4_copyFrom_49 : decode cX4_copyFrom 49 = .ok (.aload_n 1, 1) := by decide +kernel
theorem dX4_copyFrom_50 : decode cX4_copyFrom 50 = .ok (.getfield 28, 3) := by decide +kernel
theorem dX4_copyFrom_53 : decode cX4_copyFrom 53 = .ok (.putfield 28, 3) := by decide +kernel
theorem dX4_copyFrom_56 : decode cX4_copyFrom 56 = .ok (.aload_n 0, 1) := by decide +kernel
theorem dX4_copyFrom_57 : decode cX4_copyFrom 57 = .ok (.aload_n 1, 1) := by decide +kernel
theorem dX4_copyFrom_58 : decode cX4_copyFrom 58 = .ok (.getfield 31, 3) := by decide +kernel
theorem dX4_copyFrom_61 : decode cX4_copyFrom 61 = .ok (.putfield 31, 3) := by decide +kernel
theorem dX4_copyFrom_64 : decode cX4_copyFrom 64 = .ok (.return_, 1) := by decide +kernel
theorem dX5_init_0 : decode cX5_init 0 = .ok (.aload_n 0, 1) := by decide +kernel
theorem dX5_init_1 : decode cX5_init 1 = .ok (.invokespecial 1, 3) := by decide +kernel
theorem dX5_init_4 : decode cX5_init 4 = .ok (.return_, 1) := by decide +kernel
theorem dX5_copyFrom_0 : decode cX5_copyFrom 0 = .ok (.aload_n 0, 1) := by decide +kernel
theorem dX5_copyFrom_1 : decode cX5_copyFrom 1 = .ok (.aload_n 1, 1) := by decide +kernel
theorem dX5_copyFrom_2 : decode cX5_copyFrom 2 = .ok (.getfield 7, 3) := by decide +kernel
theorem dX5_copyFrom_5 : decode cX5_copyFrom 5 = .ok (.putfield 7, 3) := by decide +kernel
theorem dX5_copyFrom_8 : decode cX5_copyFrom 8 = .ok (.aload_n 0, 1) := by decide +kernel
theorem dX5_copyFrom_9 : decode cX5_copyFrom 9 = .ok (.aload_n 1, 1) := by decide +kernel
theorem dX5_copyFrom_10 : decode cX5_copyFrom 10 = .ok (.getfield 13, 3) := by decide +kernel
theorem dX5_copyFrom_13 : decode cX5_copyFrom 13 = .ok (.putfield 13, 3) := by decide +kernel
theorem dX5_copyFrom_16 : decode cX5_copyFrom 16 = .ok (.aload_n 0, 1) := by decide +kernel
theorem dX5_copyFrom_17 : decode cX5_copyFrom 17 = .ok (.aload_n 1, 1) := by decide +kernel
theorem dX5_copyFrom_18 : decode cX5_copyFrom 18 = .ok (.getfield 16, 3) := by decide +kernel
theorem dX5_copyFrom_21 : decode cX5_copyFrom 21 = .ok (.putfield 16, 3) := by decide +kernel
theorem dX5_copyFrom_24 : decode cX5_copyFrom 24 = .ok (.aload_n 0, 1) := by decide +kernel
theorem dX5_copyFrom_25 : decode cX5_copyFrom 25 = .ok (.aload_n 1, 1) := by decide +kernel
theorem dX5_copyFrom_26 : decode cX5_copyFrom 26 = .ok (.getfield 19, 3) := by decide +kernel
theorem dX5_copyFrom_29 : decode cX5_copyFrom 29 = .ok (.putfield 19, 3) := by decide +kernel
theorem dX5_copyFrom_32 : decode cX5_copyFrom 32 = .ok (.aload_n 0, 1) := by decide +kernel
theorem dX5_copyFrom_33 : decode cX5_copyFrom 33 = .ok (.aload_n 1, 1) := by decide +kernel
theorem dX5_copyFrom_34 : decode cX5_copyFrom 34 = .ok (.getfield 22, 3) := by decide +kernel
theorem dX5_copyFrom_37 : decode cX5_copyFrom 37 = .ok (.putfield 22, 3) := by decide +kernel
theorem dX5_copyFrom_40 : decode cX5_copyFrom 40 = .ok (.return_, 1) := by decide +kernel
theorem dX6_init_0 : decode cX6_init 0 = .ok (.aload_n 0, 1) := by decide +kernel
theorem dX6_init_1 : decode cX6_init 1 = .ok (.invokespecial 3, 3) := by decide +kernel
theorem dX6_init_4 : decode cX6_init 4 = .ok (.aload_n 0, 1) := by decide +kernel
theorem dX6_init_5 : decode cX6_init 5 = .ok (.bipush 10, 2) := by decide +kernel
theorem dX6_init_7 : decode cX6_init 7 = .ok (.putfield 9, 3) := by decide +kernel
theorem dX6_init_10 : decode cX6_init 10 = .ok (.aload_n 0, 1) := by decide +kernel
theorem dX6_init_11 : decode cX6_init 11 = .ok (.iconst 1, 1) := by decide +kernel
theorem dX6_init_12 : decode cX6_init 12 = .ok (.putfield 15, 3) := by decide +kernel
theorem dX6_init_15 : decode cX6_init 15 = .ok (.aload_n 0, 1) := by decide +kernel
theorem dX6_init_16 : decode cX6_init 16 = .ok (.bipush 6, 2) := by decide +kernel
theorem dX6_init_18 : decode cX6_init 18 = .ok (.anewarray 18, 3) := by decide +kernel
theorem dX6_init_21 : decode cX6_init 21 = .ok (.putfield 20, 3) := by decide +kernel
theorem dX6_init_24 : decode cX6_init 24 = .ok (.aload_n 0, 1) := by decide +kernel
theorem dX6_init_25 : decode cX6_init 25 = .ok (.bipush 20, 2) := by decide +kernel
theorem dX6_init_27 : decode cX6_init 27 = .ok (.anewarray 24, 3) := by decide +kernel
theorem dX6_init_30 : decode cX6_init 30 = .ok (.putfield 26, 3) := by decide +kernel
theorem dX6_init_33 : decode cX6_init 33 = .ok (.iconst 0, 1) := by decide +kernel
theorem dX6_init_34 : decode cX6_init 34 = .ok (.istore_n 1, 1) := by decide +kernel
theorem dX6_init_35 : decode cX6_init 35 = .ok (.iload_n 1, 1) := by decide +kernel
theorem dX6_init_36 : decode cX6_init 36 = .ok (.aload_n 0, 1) := by decide +kernel
theorem dX6_init_37 : decode cX6_init 37 = .ok (.getfield 20, 3) := by decide +kernel
theorem dX6_init_40 : decode cX6_init 40 = .ok (.arraylength, 1) := by decide +kernel
theorem dX6_init_41 : decode cX6_init 41 = .ok (.if_icmp .ge 23, 3) := by decide +kernel
theorem dX6_init_44 : decode cX6_init 44 = .ok (.aload_n 0, 1) := by decide +kernel
theorem dX6_init_45 : decode cX6_init 45 = .ok (.getfield 20, 3) := by decide +kernel
theorem dX6_init_48 : decode cX6_init 48 = .ok (.iload_n 1, 1) := by decide +kernel
theorem dX6_init_49 : decode cX6_init 49 = .ok (.new 18, 3) := by decide +kernel
theorem dX6_init_52 : decode cX6_init 52 = .ok (.dup, 1) := by decide +kernel
theorem dX6_init_53 : decode cX6_init 53 = .ok (.iload_n 1, 1) := by decide +kernel
theorem dX6_init_54 : decode cX6_init 54 = .ok (.invokespecial 30, 3) := by decide +kernel
theorem dX6_init_57 : decode cX6_init 57 = .ok (.aastore, 1) := by decide +kernel
theorem dX6_init_58 : decode cX6_init 58 = .ok (.iinc 1 1, 3) := by decide +kernel
theorem dX6_init_61 : decode cX6_init 61 = .ok (.goto (-26), 3) := by decide +kernel
theorem dX6_init_64 : decode cX6_init 64 = .ok (.iconst 0, 1) := by decide +kernel
theorem dX6_init_65 : decode cX6_init 65 = .ok (.istore_n 1, 1) := by decide +kernel
theorem dX6_init_66 : decode cX6_init 66 = .ok (.iload_n 1, 1) := by decide +kernel
theorem dX6_init_67 : decode cX6_init 67 = .ok (.aload_n 0, 1) := by decide +kernel
theorem dX6_init_68 : decode cX6_init 68 = .ok (.getfield 26, 3) := by decide +kernel
theorem dX6_init_71 : decode cX6_init 71 = .ok (.arraylength, 1) := by decide +kernel
theorem dX6_init_72 : decode cX6_init 72 = .ok (.if_icmp .ge 22, 3) := by decide +kernel
theorem dX6_init_75 : decode cX6_init 75 = .ok (.aload_n 0, 1) := by decide +kernel
theorem dX6_init_76 : decode cX6_init 76 = .ok (.getfield 26, 3) := by decide +kernel
theorem dX6_init_79 : decode cX6_init 79 = .ok (.iload_n 1, 1) := by decide +kernel
theorem dX6_init_80 : decode cX6_init 80 = .ok (.new 24, 3) := by decide +kernel
theorem dX6_init_83 : decode cX6_init 83 = .ok (.dup, 1) := by decide +kernel
theorem dX6_init_84 : decode cX6_init 84 = .ok (.invokespecial 33, 3) := by decide +kernel
theorem dX6_init_87 : decode cX6_init 87 = .ok (.aastore, 1) := by decide +kernel
theorem dX6_init_88 : decode cX6_init 88 = .ok (.iinc 1 1, 3) := by decide +kernel
theorem dX6_init_91 : decode cX6_init 91 = .ok (.goto (-25), 3) := by decide +kernel
theorem dX6_init_94 : decode cX6_init 94 = .ok (.return_, 1) := by decide +kernel
theorem dX6_copyFrom_0 : decode cX6_copyFrom 0 = .ok (.aload_n 0, 1) := by decide +kernel
theorem dX6_copyFrom_1 : decode cX6_copyFrom 1 = .ok (.aload_n 1, 1) := by decide +kernel
theorem dX6_copyFrom_2 : decode cX6_copyFrom 2 = .ok (.getfield 9, 3) := by decide +kernel
theorem dX6_copyFrom_5 : decode cX6_copyFrom 5 = .ok (.putfield 9, 3) := by decide +kernel
theorem dX6_copyFrom_8 : decode cX6_copyFrom 8 = .ok (.aload_n 0, 1) := by decide +kernel
theorem dX6_copyFrom_9 : decode cX6_copyFrom 9 = .ok (.aload_n 1, 1) := by decide +kernel
theorem dX6_copyFrom_10 : decode cX6_copyFrom 10 = .ok (.getfield 15, 3) := by decide +kernel
theorem dX6_copyFrom_13 : decode cX6_copyFrom 13 = .ok (.putfield 15, 3) := by decide +kernel
theorem dX6_copyFrom_16 : decode cX6_copyFrom 16 = .ok (.aload_n 0, 1) := by decide +kernel
theorem dX6_copyFrom_17 : decode cX6_copyFrom 17 = .ok (.aload_n 1, 1) := by decide +kernel
theorem dX6_copyFrom_18 : decode cX6_copyFrom 18 = .ok (.getfield 34, 3) := by decide +kernel
theorem dX6_copyFrom_21 : decode cX6_copyFrom 21 = .ok (.putfield 34, 3) := by decide +kernel
theorem dX6_copyFrom_24 : decode cX6_copyFrom 24 = .ok (.aload_n 0, 1) := by decide +kernel
theorem dX6_copyFrom_25 : decode cX6_copyFrom 25 = .ok (.aload_n 1, 1) := by decide +kernel
theorem dX6_copyFrom_26 : decode cX6_copyFrom 26 = .ok (.getfield 37, 3) := by decide +kernel
theorem dX6_copyFrom_29 : decode cX6_copyFrom 29 = .ok (.putfield 37, 3) := by decide +kernel
theorem dX6_copyFrom_32 : decode cX6_copyFrom 32 = .ok (.iconst 0, 1) := by decide +kernel
theorem dX6_copyFrom_33 : decode cX6_copyFrom 33 = .ok (.istore_n 2, 1) := by decide +kernel
theorem dX6_copyFrom_34 : decode cX6_copyFrom 34 = .ok (.iload_n 2, 1) := by decide +kernel
theorem dX6_copyFrom_35 : decode cX6_copyFrom 35 = .ok (.bipush 6, 2) := by decide +kernel
theorem dX6_copyFrom_37 : decode cX6_copyFrom 37 = .ok (.if_icmp .ge 24, 3) := by decide +kernel
theorem dX6_copyFrom_40 : decode cX6_copyFrom 40 = .ok (.aload_n 0, 1) := by decide +kernel
theorem dX6_copyFrom_41 : decode cX6_copyFrom 41 = .ok (.getfield 20, 3) := by decide +kernel
theorem dX6_copyFrom_44 : decode cX6_copyFrom 44 = .ok (.iload_n 2, 1) := by decide +kernel
theorem dX6_copyFrom_45 : decode cX6_copyFrom 45 = .ok (.aaload, 1) := by decide +kernel
theorem dX6_copyFrom_46 : decode cX6_copyFrom 46 = .ok (.aload_n 1, 1) := by decide +kernel
theorem dX6_copyFrom_47 : decode cX6_copyFrom 47 = .ok (.getfield 20, 3) := by decide +kernel
theorem dX6_copyFrom_50 : decode cX6_copyFrom 50 = .ok (.iload_n 2, 1) := by decide +kernel
theorem dX6_copyFrom_51 : decode cX6_copyFrom 51 = .ok (.aaload, 1) := by decide +kernel
theorem dX6_copyFrom_52 : decode cX6_copyFrom 52 = .ok (.invokevirtual 40, 3) := by decide +kernel
theorem dX6_copyFrom_55 : decode cX6_copyFrom 55 = .ok (.iinc 2 1, 3) := by decide +kernel
theorem dX6_copyFrom_58 : decode cX6_copyFrom 58 = .ok (.goto (-24), 3) := by decide +kernel
theorem dX6_copyFrom_61 : decode cX6_copyFrom 61 = .ok (.iconst 0, 1) := by decide +kernel
theorem dX6_copyFrom_62 : decode cX6_copyFrom 62 = .ok (.istore_n 2, 1) := by decide +kernel
theorem dX6_copyFrom_63 : decode cX6_copyFrom 63 = .ok (.iload_n 2, 1) := by decide +kernel
theorem dX6_copyFrom_64 : decode cX6_copyFrom 64 = .ok (.aload_n 0, 1) := by decide +kernel
theorem dX6_copyFrom_65 : decode cX6_copyFrom 65 = .ok (.getfield 37, 3) := by decide +kernel
theorem dX6_copyFrom_68 : decode cX6_copyFrom 68 = .ok (.if_icmp .ge 30, 3) := by decide +kernel
theorem dX6_copyFrom_71 : decode cX6_copyFrom 71 = .ok (.iload_n 2, 1) := by decide +kernel
theorem dX6_copyFrom_72 : decode cX6_copyFrom 72 = .ok (.bipush 20, 2) := by decide +kernel
theorem dX6_copyFrom_74 : decode cX6_copyFrom 74 = .ok (.if_icmp .ge 24, 3) := by decide +kernel
theorem dX6_copyFrom_77 : decode cX6_copyFrom 77 = .ok (.aload_n 0, 1) := by decide +kernel
theorem dX6_copyFrom_78 : decode cX6_copyFrom 78 = .ok (.getfield 26, 3) := by decide +kernel
theorem dX6_copyFrom_81 : decode cX6_copyFrom 81 = .ok (.iload_n 2, 1) := by decide +kernel
theorem dX6_copyFrom_82 : decode cX6_copyFrom 82 = .ok (.aaload, 1) := by decide +kernel
theorem dX6_copyFrom_83 : decode cX6_copyFrom 83 = .ok (.aload_n 1, 1) := by decide +kernel
theorem dX6_copyFrom_84 : decode cX6_copyFrom 84 = .ok (.getfield 26, 3) := by decide +kernel
theorem dX6_copyFrom_87 : decode cX6_copyFrom 87 = .ok (.iload_n 2, 1) := by decide +kernel
theorem dX6_copyFrom_88 : decode cX6_copyFrom 88 = .ok (.aaload, 1) := by decide +kernel
theorem dX6_copyFrom_89 : decode cX6_copyFrom 89 = .ok (.invokevirtual 44, 3) := by decide +kernel
theorem dX6_copyFrom_92 : decode cX6_copyFrom 92 = .ok (.iinc 2 1, 3) := by decide +kernel
theorem dX6_copyFrom_95 : decode cX6_copyFrom 95 = .ok (.goto (-32), 3) := by decide +kernel
theorem dX6_copyFrom_98 : decode cX6_copyFrom 98 = .ok (.return_, 1) := by decide +kernel
theorem dX6_gaugeAt_0 : decode cX6_gaugeAt 0 = .ok (.iload_n 1, 1) := by decide +kernel
theorem dX6_gaugeAt_1 : decode cX6_gaugeAt 1 = .ok (.ifCond .lt 21, 3) := by decide +kernel
theorem dX6_gaugeAt_4 : decode cX6_gaugeAt 4 = .ok (.iload_n 1, 1) := by decide +kernel
theorem dX6_gaugeAt_5 : decode cX6_gaugeAt 5 = .ok (.aload_n 0, 1) := by decide +kernel
theorem dX6_gaugeAt_6 : decode cX6_gaugeAt 6 = .ok (.getfield 20, 3) := by decide +kernel
theorem dX6_gaugeAt_9 : decode cX6_gaugeAt 9 = .ok (.arraylength, 1) := by decide +kernel
theorem dX6_gaugeAt_10 : decode cX6_gaugeAt 10 = .ok (.if_icmp .ge 12, 3) := by decide +kernel
theorem dX6_gaugeAt_13 : decode cX6_gaugeAt 13 = .ok (.aload_n 0, 1) := by decide +kernel
theorem dX6_gaugeAt_14 : decode cX6_gaugeAt 14 = .ok (.getfield 20, 3) := by decide +kernel
theorem dX6_gaugeAt_17 : decode cX6_gaugeAt 17 = .ok (.iload_n 1, 1) := by decide +kernel
theorem dX6_gaugeAt_18 : decode cX6_gaugeAt 18 = .ok (.aaload, 1) := by decide +kernel
theorem dX6_gaugeAt_19 : decode cX6_gaugeAt 19 = .ok (.goto 4, 3) := by decide +kernel
theorem dX6_gaugeAt_22 : decode cX6_gaugeAt 22 = .ok (.aconst_null, 1) := by decide +kernel
theorem dX6_gaugeAt_23 : decode cX6_gaugeAt 23 = .ok (.areturn, 1) := by decide +kernel
theorem dX6_runnerAt_0 : decode cX6_runnerAt 0 = .ok (.iload_n 1, 1) := by decide +kernel
theorem dX6_runnerAt_1 : decode cX6_runnerAt 1 = .ok (.ifCond .lt 29, 3) := by decide +kernel
theorem dX6_runnerAt_4 : decode cX6_runnerAt 4 = .ok (.iload_n 1, 1) := by decide +kernel
theorem dX6_runnerAt_5 : decode cX6_runnerAt 5 = .ok (.aload_n 0, 1) := by decide +kernel
theorem dX6_runnerAt_6 : decode cX6_runnerAt 6 = .ok (.getfield 37, 3) := by decide +kernel
theorem dX6_runnerAt_9 : decode cX6_runnerAt 9 = .ok (.if_icmp .ge 21, 3) := by decide +kernel
theorem dX6_runnerAt_12 : decode cX6_runnerAt 12 = .ok (.iload_n 1, 1) := by decide +kernel
theorem dX6_runnerAt_13 : decode cX6_runnerAt 13 = .ok (.aload_n 0, 1) := by decide +kernel
theorem dX6_runnerAt_14 : decode cX6_runnerAt 14 = .ok (.getfield 26, 3) := by decide +kernel
theorem dX6_runnerAt_17 : decode cX6_runnerAt 17 = .ok (.arraylength, 1) := by decide +kernel
theorem dX6_runnerAt_18 : decode cX6_runnerAt 18 = .ok (.if_icmp .ge 12, 3) := by decide +kernel
theorem dX6_runnerAt_21 : decode cX6_runnerAt 21 = .ok (.aload_n 0, 1) := by decide +kernel
theorem dX6_runnerAt_22 : decode cX6_runnerAt 22 = .ok (.getfield 26, 3) := by decide +kernel
theorem dX6_runnerAt_25 : decode cX6_runnerAt 25 = .ok (.iload_n 1, 1) := by decide +kernel
theorem dX6_runnerAt_26 : decode cX6_runnerAt 26 = .ok (.aaload, 1) := by decide +kernel
theorem dX6_runnerAt_27 : decode cX6_runnerAt 27 = .ok (.goto 4, 3) := by decide +kernel
theorem dX6_runnerAt_30 : decode cX6_runnerAt 30 = .ok (.aconst_null, 1) := by decide +kernel
theorem dX6_runnerAt_31 : decode cX6_runnerAt 31 = .ok (.areturn, 1) := by decide +kernel
theorem dX6_isFull_0 : decode cX6_isFull 0 = .ok (.aload_n 0, 1) := by decide +kernel
theorem dX6_isFull_1 : decode cX6_isFull 1 = .ok (.getfield 37, 3) := by decide +kernel
theorem dX6_isFull_4 : decode cX6_isFull 4 = .ok (.aload_n 0, 1) := by decide +kernel
theorem dX6_isFull_5 : decode cX6_isFull 5 = .ok (.getfield 26, 3) := by decide +kernel
theorem dX6_isFull_8 : decode cX6_isFull 8 = .ok (.arraylength, 1) := by decide +kernel
theorem dX6_isFull_9 : decode cX6_isFull 9 = .ok (.if_icmp .lt 7, 3) := by decide +kernel
theorem dX6_isFull_12 : decode cX6_isFull 12 = .ok (.iconst 1, 1) := by decide +kernel
theorem dX6_isFull_13 : decode cX6_isFull 13 = .ok (.goto 4, 3) := by decide +kernel
theorem dX6_isFull_16 : decode cX6_isFull 16 = .ok (.iconst 0, 1) := by decide +kernel
theorem dX6_isFull_17 : decode cX6_isFull 17 = .ok (.ireturn, 1) := by decide +kernel
theorem dX6_hasTimeFor_0 : decode cX6_hasTimeFor 0 = .ok (.aload_n 0, 1) := by decide +kernel
theorem dX6_hasTimeFor_1 : decode cX6_hasTimeFor 1 = .ok (.getfield 34, 3) := by decide +kernel
theorem dX6_hasTimeFor_4 : decode cX6_hasTimeFor 4 = .ok (.iload_n 1, 1) := by decide +kernel
theorem dX6_hasTimeFor_5 : decode cX6_hasTimeFor 5 = .ok (.iadd, 1) := by decide +kernel
theorem dX6_hasTimeFor_6 : decode cX6_hasTimeFor 6 = .ok (.sipush 9999, 3) := by decide +kernel
theorem dX6_hasTimeFor_9 : decode cX6_hasTimeFor 9 = .ok (.if_icmp .gt 7, 3) := by decide +kernel
theorem dX6_hasTimeFor_12 : decode cX6_hasTimeFor 12 = .ok (.iconst 1, 1) := by decide +kernel
theorem dX6_hasTimeFor_13 : decode cX6_hasTimeFor 13 = .ok (.goto 4, 3) := by decide +kernel
theorem dX6_hasTimeFor_16 : decode cX6_hasTimeFor 16 = .ok (.iconst 0, 1) := by decide +kernel
theorem dX6_hasTimeFor_17 : decode cX6_hasTimeFor 17 = .ok (.ireturn, 1) := by decide +kernel
theorem dX6_wheelAt_0 : decode cX6_wheelAt 0 = .ok (.aload_n 0, 1) := by decide +kernel
theorem dX6_wheelAt_1 : decode cX6_wheelAt 1 = .ok (.getfield 9, 3) := by decide +kernel
theorem dX6_wheelAt_4 : decode cX6_wheelAt 4 = .ok (.ifCond .le 12, 3) := by decide +kernel
theorem dX6_wheelAt_7 : decode cX6_wheelAt 7 = .ok (.iload_n 1, 1) := by decide +kernel
theorem dX6_wheelAt_8 : decode cX6_wheelAt 8 = .ok (.aload_n 0, 1) := by decide +kernel
theorem dX6_wheelAt_9 : decode cX6_wheelAt 9 = .ok (.getfield 9, 3) := by decide +kernel
theorem dX6_wheelAt_12 : decode cX6_wheelAt 12 = .ok (.irem, 1) := by decide +kernel
theorem dX6_wheelAt_13 : decode cX6_wheelAt 13 = .ok (.goto 4, 3) := by decide +kernel
theorem dX6_wheelAt_16 : decode cX6_wheelAt 16 = .ok (.iconst 0, 1) := by decide +kernel
theorem dX6_wheelAt_17 : decode cX6_wheelAt 17 = .ok (.ireturn, 1) := by decide +kernel
theorem dX6_changeWheels_0 : decode cX6_changeWheels 0 = .ok (.iconst 0, 1) := by decide +kernel
theorem dX6_changeWheels_1 : decode cX6_changeWheels 1 = .ok (.istore_n 2, 1) := by decide +kernel
theorem dX6_changeWheels_2 : decode cX6_changeWheels 2 = .ok (.iload_n 2, 1) := by decide +kernel
theorem dX6_changeWheels_3 : decode cX6_changeWheels 3 = .ok (.aload_n 0, 1) := by decide +kernel
theorem dX6_changeWheels_4 : decode cX6_changeWheels 4 = .ok (.getfield 37, 3) := by decide +kernel
theorem dX6_changeWheels_7 : decode cX6_changeWheels 7 = .ok (.if_icmp .ge 28, 3) := by decide +kernel
theorem dX6_changeWheels_10 : decode cX6_changeWheels 10 = .ok (.iload_n 2, 1) := by decide +kernel
theorem dX6_changeWheels_11 : decode cX6_changeWheels 11 = .ok (.aload_n 0, 1) := by decide +kernel
theorem dX6_changeWheels_12 : decode cX6_changeWheels 12 = .ok (.getfield 26, 3) := by decide +kernel
theorem dX6_changeWheels_15 : decode cX6_changeWheels 15 = .ok (.arraylength, 1) := by decide +kernel
theorem dX6_changeWheels_16 : decode cX6_changeWheels 16 = .ok (.if_icmp .ge 19, 3) := by decide +kernel
theorem dX6_changeWheels_19 : decode cX6_changeWheels 19 = .ok (.aload_n 0, 1) := by decide +kernel
theorem dX6_changeWheels_20 : decode cX6_changeWheels 20 = .ok (.aload_n 0, 1) := by decide +kernel
theorem dX6_changeWheels_21 : decode cX6_changeWheels 21 = .ok (.getfield 26, 3) := by decide +kernel
theorem dX6_changeWheels_24 : decode cX6_changeWheels 24 = .ok (.iload_n 2, 1) := by decide +kernel
theorem dX6_changeWheels_25 : decode cX6_changeWheels 25 = .ok (.aaload, 1) := by decide +kernel
theorem dX6_changeWheels_26 : decode cX6_changeWheels 26 = .ok (.invokevirtual 47, 3) := by decide +kernel
theorem dX6_changeWheels_29 : decode cX6_changeWheels 29 = .ok (.iinc 2 1, 3) := by decide +kernel
theorem dX6_changeWheels_32 : decode cX6_changeWheels 32 = .ok (.goto (-30), 3) := by decide +kernel
theorem dX6_changeWheels_35 : decode cX6_changeWheels 35 = .ok (.aload_n 0, 1) := by decide +kernel
theorem dX6_changeWheels_36 : decode cX6_changeWheels 36 = .ok (.iconst 0, 1) := by decide +kernel
theorem dX6_changeWheels_37 : decode cX6_changeWheels 37 = .ok (.putfield 37, 3) := by decide +kernel
theorem dX6_changeWheels_40 : decode cX6_changeWheels 40 = .ok (.aload_n 0, 1) := by decide +kernel
theorem dX6_changeWheels_41 : decode cX6_changeWheels 41 = .ok (.iload_n 1, 1) := by decide +kernel
theorem dX6_changeWheels_42 : decode cX6_changeWheels 42 = .ok (.putfield 9, 3) := by decide +kernel
theorem dX6_changeWheels_45 : decode cX6_changeWheels 45 = .ok (.return_, 1) := by decide +kernel
theorem dX6_passHours_0 : decode cX6_passHours 0 = .ok (.iconst 0, 1) := by decide +kernel
theorem dX6_passHours_1 : decode cX6_passHours 1 = .ok (.istore_n 3, 1) := by decide +kernel
theorem dX6_passHours_2 : decode cX6_passHours 2 = .ok (.iconst 0, 1) := by decide +kernel
theorem dX6_passHours_3 : decode cX6_passHours 3 = .ok (.istore 4, 2) := by decide +kernel
theorem dX6_passHours_5 : decode cX6_passHours 5 = .ok (.iload 4, 2) := by decide +kernel
theorem dX6_passHours_7 : decode cX6_passHours 7 = .ok (.iload_n 2, 1) := by decide +kernel
theorem dX6_passHours_8 : decode cX6_passHours 8 = .ok (.if_icmp .ge 66, 3) := by decide +kernel
theorem dX6_passHours_11 : decode cX6_passHours 11 = .ok (.aload_n 0, 1) := by decide +kernel
theorem dX6_passHours_12 : decode cX6_passHours 12 = .ok (.getfield 20, 3) := by decide +kernel
theorem dX6_passHours_15 : decode cX6_passHours 15 = .ok (.astore 5, 2) := by decide +kernel
theorem dX6_passHours_17 : decode cX6_passHours 17 = .ok (.aload 5, 2) := by decide +kernel
theorem dX6_passHours_19 : decode cX6_passHours 19 = .ok (.arraylength, 1) := by decide +kernel
theorem dX6_passHours_20 : decode cX6_passHours 20 = .ok (.istore 6, 2) := by decide +kernel
theorem dX6_passHours_22 : decode cX6_passHours 22 = .ok (.iconst 0, 1) := by decide +kernel
theorem dX6_passHours_23 : decode cX6_passHours 23 = .ok (.istore 7, 2) := by decide +kernel
theorem dX6_passHours_25 : decode cX6_passHours 25 = .ok (.iload 7, 2) := by decide +kernel
theorem dX6_passHours_27 : decode cX6_passHours 27 = .ok (.iload 6, 2) := by decide +kernel
theorem dX6_passHours_29 : decode cX6_passHours 29 = .ok (.if_icmp .ge 25, 3) := by decide +kernel
theorem dX6_passHours_32 : decode cX6_passHours 32 = .ok (.aload 5, 2) := by decide +kernel
theorem dX6_passHours_34 : decode cX6_passHours 34 = .ok (.iload 7, 2) := by decide +kernel
theorem dX6_passHours_36 : decode cX6_passHours 36 = .ok (.aaload, 1) := by decide +kernel
theorem dX6_passHours_37 : decode cX6_passHours 37 = .ok (.astore 8, 2) := by decide +kernel
theorem dX6_passHours_39 : decode cX6_passHours 39 = .ok (.iload_n 3, 1) := by decide +kernel
theorem dX6_passHours_40 : decode cX6_passHours 40 = .ok (.aload 8, 2) := by decide +kernel
theorem dX6_passHours_42 : decode cX6_passHours 42 = .ok (.iload_n 1, 1) := by decide +kernel
theorem dX6_passHours_43 : decode cX6_passHours 43 = .ok (.invokevirtual 50, 3) := by decide +kernel
theorem dX6_passHours_46 : decode cX6_passHours 46 = .ok (.iadd, 1) := by decide +kernel
theorem dX6_passHours_47 : decode cX6_passHours 47 = .ok (.istore_n 3, 1) := by decide +kernel
theorem dX6_passHours_48 : decode cX6_passHours 48 = .ok (.iinc 7 1, 3) := by decide +kernel
theorem dX6_passHours_51 : decode cX6_passHours 51 = .ok (.goto (-26), 3) := by decide +kernel
theorem dX6_passHours_54 : decode cX6_passHours 54 = .ok (.aload_n 0, 1) := by decide +kernel
theorem dX6_passHours_55 : decode cX6_passHours 55 = .ok (.dup, 1) := by decide +kernel
theorem dX6_passHours_56 : decode cX6_passHours 56 = .ok (.getfield 34, 3) := by decide +kernel
theorem dX6_passHours_59 : decode cX6_passHours 59 = .ok (.iconst 1, 1) := by decide +kernel
theorem dX6_passHours_60 : decode cX6_passHours 60 = .ok (.iadd, 1) := by decide +kernel
theorem dX6_passHours_61 : decode cX6_passHours 61 = .ok (.putfield 34, 3) := by decide +kernel
theorem dX6_passHours_64 : decode cX6_passHours 64 = .ok (.aload_n 0, 1) := by decide +kernel
theorem dX6_passHours_65 : decode cX6_passHours 65 = .ok (.invokevirtual 54, 3) := by decide +kernel
theorem dX6_passHours_68 : decode cX6_passHours 68 = .ok (.iinc 4 1, 3) := by decide +kernel
theorem dX6_passHours_71 : decode cX6_passHours 71 = .ok (.goto (-66), 3) := by decide +kernel
theorem dX6_passHours_74 : decode cX6_passHours 74 = .ok (.iload_n 3, 1) := by decide +kernel
theorem dX6_passHours_75 : decode cX6_passHours 75 = .ok (.ireturn, 1) := by decide +kernel
theorem dX6_moveRunners_0 : decode cX6_moveRunners 0 = .ok (.iconst 0, 1) := by decide +kernel
theorem dX6_moveRunners_1 : decode cX6_moveRunners 1 = .ok (.istore_n 1, 1) := by decide +kernel
theorem dX6_moveRunners_2 : decode cX6_moveRunners 2 = .ok (.aload_n 0, 1) := by decide +kernel
theorem dX6_moveRunners_3 : decode cX6_moveRunners 3 = .ok (.getfield 37, 3) := by decide +kernel
theorem dX6_moveRunners_6 : decode cX6_moveRunners 6 = .ok (.istore_n 2, 1) := by decide +kernel
theorem dX6_moveRunners_7 : decode cX6_moveRunners 7 = .ok (.iload_n 2, 1) := by decide +kernel
theorem dX6_moveRunners_8 : decode cX6_moveRunners 8 = .ok (.ifCond .le 53, 3) := by decide +kernel
theorem dX6_moveRunners_11 : decode cX6_moveRunners 11 = .ok (.aload_n 0, 1) := by decide +kernel
theorem dX6_moveRunners_12 : decode cX6_moveRunners 12 = .ok (.iload_n 1, 1) := by decide +kernel
theorem dX6_moveRunners_13 : decode cX6_moveRunners 13 = .ok (.invokevirtual 57, 3) := by decide +kernel
theorem dX6_moveRunners_16 : decode cX6_moveRunners 16 = .ok (.astore_n 3, 1) := by decide +kernel
theorem dX6_moveRunners_17 : decode cX6_moveRunners 17 = .ok (.aload_n 3, 1) := by decide +kernel
theorem dX6_moveRunners_18 : decode cX6_moveRunners 18 = .ok (.ifnonnull 4, 3) := by decide +kernel
theorem dX6_moveRunners_21 : decode cX6_moveRunners 21 = .ok (.return_, 1) := by decide +kernel
theorem dX6_moveRunners_22 : decode cX6_moveRunners 22 = .ok (.aload_n 3, 1) := by decide +kernel
theorem dX6_moveRunners_23 : decode cX6_moveRunners 23 = .ok (.dup, 1) := by decide +kernel
theorem dX6_moveRunners_24 : decode cX6_moveRunners 24 = .ok (.getfield 61, 3) := by decide +kernel
theorem dX6_moveRunners_27 : decode cX6_moveRunners 27 = .ok (.iconst 1, 1) := by decide +kernel
theorem dX6_moveRunners_28 : decode cX6_moveRunners 28 = .ok (.isub, 1) := by decide +kernel
theorem dX6_moveRunners_29 : decode cX6_moveRunners 29 = .ok (.putfield 61, 3) := by decide +kernel
theorem dX6_moveRunners_32 : decode cX6_moveRunners 32 = .ok (.aload_n 3, 1) := by decide +kernel
theorem dX6_moveRunners_33 : decode cX6_moveRunners 33 = .ok (.getfield 61, 3) := by decide +kernel
theorem dX6_moveRunners_36 : decode cX6_moveRunners 36 = .ok (.ifCond .le 9, 3) := by decide +kernel
theorem dX6_moveRunners_39 : decode cX6_moveRunners 39 = .ok (.iinc 1 1, 3) := by decide +kernel
theorem dX6_moveRunners_42 : decode cX6_moveRunners 42 = .ok (.goto 13, 3) := by decide +kernel
theorem dX6_moveRunners_45 : decode cX6_moveRunners 45 = .ok (.aload_n 0, 1) := by decide +kernel
theorem dX6_moveRunners_46 : decode cX6_moveRunners 46 = .ok (.aload_n 3, 1) := by decide +kernel
theorem dX6_moveRunners_47 : decode cX6_moveRunners 47 = .ok (.invokevirtual 64, 3) := by decide +kernel
theorem dX6_moveRunners_50 : decode cX6_moveRunners 50 = .ok (.aload_n 0, 1) := by decide +kernel
theorem dX6_moveRunners_51 : decode cX6_moveRunners 51 = .ok (.iload_n 1, 1) := by decide +kernel
theorem dX6_moveRunners_52 : decode cX6_moveRunners 52 = .ok (.invokevirtual 67, 3) := by decide +kernel
theorem dX6_moveRunners_55 : decode cX6_moveRunners 55 = .ok (.iinc 2 (-1), 3) := by decide +kernel
theorem dX6_moveRunners_58 : decode cX6_moveRunners 58 = .ok (.goto (-51), 3) := by decide +kernel
theorem dX6_moveRunners_61 : decode cX6_moveRunners 61 = .ok (.return_, 1) := by decide +kernel
theorem dX6_sendRunner_0 : decode cX6_sendRunner 0 = .ok (.aload_n 0, 1) := by decide +kernel
theorem dX6_sendRunner_1 : decode cX6_sendRunner 1 = .ok (.iload_n 1, 1) := by decide +kernel
theorem dX6_sendRunner_2 : decode cX6_sendRunner 2 = .ok (.invokevirtual 70, 3) := by decide +kernel
theorem dX6_sendRunner_5 : decode cX6_sendRunner 5 = .ok (.astore_n 2, 1) := by decide +kernel
theorem dX6_sendRunner_6 : decode cX6_sendRunner 6 = .ok (.aload_n 2, 1) := by decide +kernel
theorem dX6_sendRunner_7 : decode cX6_sendRunner 7 = .ok (.ifnonnull 6, 3) := by decide +kernel
theorem dX6_sendRunner_10 : decode cX6_sendRunner 10 = .ok (.ldc 74, 2) := by decide +kernel
theorem dX6_sendRunner_12 : decode cX6_sendRunner 12 = .ok (.ireturn, 1) := by decide +kernel
theorem dX6_sendRunner_13 : decode cX6_sendRunner 13 = .ok (.aload_n 0, 1) := by decide +kernel
theorem dX6_sendRunner_14 : decode cX6_sendRunner 14 = .ok (.invokevirtual 75, 3) := by decide +kernel
theorem dX6_sendRunner_17 : decode cX6_sendRunner 17 = .ok (.astore_n 3, 1) := by decide +kernel
theorem dX6_sendRunner_18 : decode cX6_sendRunner 18 = .ok (.aload_n 3, 1) := by decide +kernel
theorem dX6_sendRunner_19 : decode cX6_sendRunner 19 = .ok (.ifnonnull 6, 3) := by decide +kernel
theorem dX6_sendRunner_22 : decode cX6_sendRunner 22 = .ok (.ldc 79, 2) := by decide +kernel
theorem dX6_sendRunner_24 : decode cX6_sendRunner 24 = .ok (.ireturn, 1) := by decide +kernel
theorem dX6_sendRunner_25 : decode cX6_sendRunner 25 = .ok (.aload_n 3, 1) := by decide +kernel
theorem dX6_sendRunner_26 : decode cX6_sendRunner 26 = .ok (.iload_n 1, 1) := by decide +kernel
theorem dX6_sendRunner_27 : decode cX6_sendRunner 27 = .ok (.putfield 80, 3) := by decide +kernel
theorem dX6_sendRunner_30 : decode cX6_sendRunner 30 = .ok (.aload_n 3, 1) := by decide +kernel
theorem dX6_sendRunner_31 : decode cX6_sendRunner 31 = .ok (.aload_n 2, 1) := by decide +kernel
theorem dX6_sendRunner_32 : decode cX6_sendRunner 32 = .ok (.getfield 83, 3) := by decide +kernel
theorem dX6_sendRunner_35 : decode cX6_sendRunner 35 = .ok (.putfield 86, 3) := by decide +kernel
theorem dX6_sendRunner_38 : decode cX6_sendRunner 38 = .ok (.aload_n 3, 1) := by decide +kernel
theorem dX6_sendRunner_39 : decode cX6_sendRunner 39 = .ok (.aload_n 0, 1) := by decide +kernel
theorem dX6_sendRunner_40 : decode cX6_sendRunner 40 = .ok (.getfield 34, 3) := by decide +kernel
theorem dX6_sendRunner_43 : decode cX6_sendRunner 43 = .ok (.putfield 87, 3) := by decide +kernel
theorem dX6_sendRunner_46 : decode cX6_sendRunner 46 = .ok (.aload_n 3, 1) := by decide +kernel
theorem dX6_sendRunner_47 : decode cX6_sendRunner 47 = .ok (.aload_n 0, 1) := by decide +kernel
theorem dX6_sendRunner_48 : decode cX6_sendRunner 48 = .ok (.getfield 20, 3) := by decide +kernel
theorem dX6_sendRunner_51 : decode cX6_sendRunner 51 = .ok (.iconst 0, 1) := by decide +kernel
theorem dX6_sendRunner_52 : decode cX6_sendRunner 52 = .ok (.aaload, 1) := by decide +kernel
theorem dX6_sendRunner_53 : decode cX6_sendRunner 53 = .ok (.getfield 90, 3) := by decide +kernel
theorem dX6_sendRunner_56 : decode cX6_sendRunner 56 = .ok (.putfield 93, 3) := by decide +kernel
theorem dX6_sendRunner_59 : decode cX6_sendRunner 59 = .ok (.aload_n 3, 1) := by decide +kernel
theorem dX6_sendRunner_60 : decode cX6_sendRunner 60 = .ok (.aload_n 2, 1) := by decide +kernel
theorem dX6_sendRunner_61 : decode cX6_sendRunner 61 = .ok (.getfield 96, 3) := by decide +kernel
theorem dX6_sendRunner_64 : decode cX6_sendRunner 64 = .ok (.putfield 61, 3) := by decide +kernel
theorem dX6_sendRunner_67 : decode cX6_sendRunner 67 = .ok (.aload_n 3, 1) := by decide +kernel
theorem dX6_sendRunner_68 : decode cX6_sendRunner 68 = .ok (.getfield 61, 3) := by decide +kernel
theorem dX6_sendRunner_71 : decode cX6_sendRunner 71 = .ok (.ifCond .ne 18, 3) := by decide +kernel
theorem dX6_sendRunner_74 : decode cX6_sendRunner 74 = .ok (.aload_n 0, 1) := by decide +kernel
theorem dX6_sendRunner_75 : decode cX6_sendRunner 75 = .ok (.aload_n 3, 1) := by decide +kernel
theorem dX6_sendRunner_76 : decode cX6_sendRunner 76 = .ok (.invokevirtual 64, 3) := by decide +kernel
theorem dX6_sendRunner_79 : decode cX6_sendRunner 79 = .ok (.aload_n 0, 1) := by decide +kernel
theorem dX6_sendRunner_80 : decode cX6_sendRunner 80 = .ok (.aload_n 0, 1) := by decide +kernel
theorem dX6_sendRunner_81 : decode cX6_sendRunner 81 = .ok (.getfield 37, 3) := by decide +kernel
theorem dX6_sendRunner_84 : decode cX6_sendRunner 84 = .ok (.iconst 1, 1) := by decide +kernel
theorem dX6_sendRunner_85 : decode cX6_sendRunner 85 = .ok (.isub, 1) := by decide +kernel
theorem dX6_sendRunner_86 : decode cX6_sendRunner 86 = .ok (.invokevirtual 67, 3) := by decide +kernel
theorem dX6_sendRunner_89 : decode cX6_sendRunner 89 = .ok (.aload_n 0, 1) := by decide +kernel
theorem dX6_sendRunner_90 : decode cX6_sendRunner 90 = .ok (.aload_n 2, 1) := by decide +kernel
theorem dX6_sendRunner_91 : decode cX6_sendRunner 91 = .ok (.getfield 83, 3) := by decide +kernel
theorem dX6_sendRunner_94 : decode cX6_sendRunner 94 = .ok (.invokevirtual 99, 3) := by decide +kernel
theorem dX6_sendRunner_97 : decode cX6_sendRunner 97 = .ok (.ireturn, 1) := by decide +kernel
theorem dX6_addSecondOf_0 : decode cX6_addSecondOf 0 = .ok (.aload_n 0, 1) := by decide +kernel
theorem dX6_addSecondOf_1 : decode cX6_addSecondOf 1 = .ok (.invokevirtual 75, 3) := by decide +kernel
theorem dX6_addSecondOf_4 : decode cX6_addSecondOf 4 = .ok (.astore_n 2, 1) := by decide +kernel
theorem dX6_addSecondOf_5 : decode cX6_addSecondOf 5 = .ok (.aload_n 2, 1) := by decide +kernel
theorem dX6_addSecondOf_6 : decode cX6_addSecondOf 6 = .ok (.ifnull 18, 3) := by decide +kernel
theorem dX6_addSecondOf_9 : decode cX6_addSecondOf 9 = .ok (.aload_n 2, 1) := by decide +kernel
theorem dX6_addSecondOf_10 : decode cX6_addSecondOf 10 = .ok (.aload_n 1, 1) := by decide +kernel
theorem dX6_addSecondOf_11 : decode cX6_addSecondOf 11 = .ok (.invokevirtual 44, 3) := by decide +kernel
theorem dX6_addSecondOf_14 : decode cX6_addSecondOf 14 = .ok (.aload_n 2, 1) := by decide +kernel
theorem dX6_addSecondOf_15 : decode cX6_addSecondOf 15 = .ok (.dup, 1) := by decide +kernel
theorem dX6_addSecondOf_16 : decode cX6_addSecondOf 16 = .ok (.getfield 61, 3) := by decide +kernel
theorem dX6_addSecondOf_19 : decode cX6_addSecondOf 19 = .ok (.iconst 1, 1) := by decide +kernel
theorem dX6_addSecondOf_20 : decode cX6_addSecondOf 20 = .ok (.iadd, 1) := by decide +kernel
theorem dX6_addSecondOf_21 : decode cX6_addSecondOf 21 = .ok (.putfield 61, 3) := by decide +kernel
theorem dX6_addSecondOf_24 : decode cX6_addSecondOf 24 = .ok (.return_, 1) := by decide +kernel
theorem dX6_addRunner_0 : decode cX6_addRunner 0 = .ok (.aload_n 0, 1) := by decide +kernel
theorem dX6_addRunner_1 : decode cX6_addRunner 1 = .ok (.getfield 37, 3) := by decide +kernel
theorem dX6_addRunner_4 : decode cX6_addRunner 4 = .ok (.ifCond .lt 15, 3) := by decide +kernel
theorem dX6_addRunner_7 : decode cX6_addRunner 7 = .ok (.aload_n 0, 1) := by decide +kernel
theorem dX6_addRunner_8 : decode cX6_addRunner 8 = .ok (.getfield 37, 3) := by decide +kernel
theorem dX6_addRunner_11 : decode cX6_addRunner 11 = .ok (.aload_n 0, 1) := by decide +kernel
theorem dX6_addRunner_12 : decode cX6_addRunner 12 = .ok (.getfield 26, 3) := by decide +kernel
theorem dX6_addRunner_15 : decode cX6_addRunner 15 = .ok (.arraylength, 1) := by decide +kernel
theorem dX6_addRunner_16 : decode cX6_addRunner 16 = .ok (.if_icmp .lt 5, 3) := by decide +kernel
theorem dX6_addRunner_19 : decode cX6_addRunner 19 = .ok (.aconst_null, 1) := by decide +kernel
theorem dX6_addRunner_20 : decode cX6_addRunner 20 = .ok (.areturn, 1) := by decide +kernel
theorem dX6_addRunner_21 : decode cX6_addRunner 21 = .ok (.aload_n 0, 1) := by decide +kernel
theorem dX6_addRunner_22 : decode cX6_addRunner 22 = .ok (.getfield 26, 3) := by decide +kernel
theorem dX6_addRunner_25 : decode cX6_addRunner 25 = .ok (.aload_n 0, 1) := by decide +kernel
theorem dX6_addRunner_26 : decode cX6_addRunner 26 = .ok (.getfield 37, 3) := by decide +kernel
theorem dX6_addRunner_29 : decode cX6_addRunner 29 = .ok (.aaload, 1) := by decide +kernel
theorem dX6_addRunner_30 : decode cX6_addRunner 30 = .ok (.astore_n 1, 1) := by decide +kernel
theorem dX6_addRunner_31 : decode cX6_addRunner 31 = .ok (.aload_n 0, 1) := by decide +kernel
theorem dX6_addRunner_32 : decode cX6_addRunner 32 = .ok (.dup, 1) := by decide +kernel
theorem dX6_addRunner_33 : decode cX6_addRunner 33 = .ok (.getfield 37, 3) := by decide +kernel
theorem dX6_addRunner_36 : decode cX6_addRunner 36 = .ok (.iconst 1, 1) := by decide +kernel
theorem dX6_addRunner_37 : decode cX6_addRunner 37 = .ok (.iadd, 1) := by decide +kernel
theorem dX6_addRunner_38 : decode cX6_addRunner 38 = .ok (.putfield 37, 3) := by decide +kernel
theorem dX6_addRunner_41 : decode cX6_addRunner 41 = .ok (.aload_n 1, 1) := by decide +kernel
theorem dX6_addRunner_42 : decode cX6_addRunner 42 = .ok (.areturn, 1) := by decide +kernel
theorem dX6_removeRunner_0 : decode cX6_removeRunner 0 = .ok (.aload_n 0, 1) := by decide +kernel
theorem dX6_removeRunner_1 : decode cX6_removeRunner 1 = .ok (.iload_n 1, 1) := by decide +kernel
theorem dX6_removeRunner_2 : decode cX6_removeRunner 2 = .ok (.invokevirtual 57, 3) := by decide +kernel
theorem dX6_removeRunner_5 : decode cX6_removeRunner 5 = .ok (.astore_n 2, 1) := by decide +kernel
theorem dX6_removeRunner_6 : decode cX6_removeRunner 6 = .ok (.aload_n 0, 1) := by decide +kernel
theorem dX6_removeRunner_7 : decode cX6_removeRunner 7 = .ok (.getfield 37, 3) := by decide +kernel
theorem dX6_removeRunner_10 : decode cX6_removeRunner 10 = .ok (.iconst 1, 1) := by decide +kernel
theorem dX6_removeRunner_11 : decode cX6_removeRunner 11 = .ok (.isub, 1) := by decide +kernel
theorem dX6_removeRunner_12 : decode cX6_removeRunner 12 = .ok (.istore_n 3, 1) := by decide +kernel
theorem dX6_removeRunner_13 : decode cX6_removeRunner 13 = .ok (.aload_n 2, 1) := by decide +kernel
theorem dX6_removeRunner_14 : decode cX6_removeRunner 14 = .ok (.ifnull 12, 3) := by decide +kernel
theorem dX6_removeRunner_17 : decode cX6_removeRunner 17 = .ok (.iload_n 3, 1) := by decide +kernel
theorem dX6_removeRunner_18 : decode cX6_removeRunner 18 = .ok (.aload_n 0, 1) := by decide +kernel
theorem dX6_removeRunner_19 : decode cX6_removeRunner 19 = .ok (.getfield 26, 3) := by decide +kernel
theorem dX6_removeRunner_22 : decode cX6_removeRunner 22 = .ok (.arraylength, 1) := by decide +kernel
theorem dX6_removeRunner_23 : decode cX6_removeRunner 23 = .ok (.if_icmp .lt 4, 3) := by decide +kernel
theorem dX6_removeRunner_26 : decode cX6_removeRunner 26 = .ok (.return_, 1) := by decide +kernel
theorem dX6_removeRunner_27 : decode cX6_removeRunner 27 = .ok (.iload_n 1, 1) := by decide +kernel
theorem dX6_removeRunner_28 : decode cX6_removeRunner 28 = .ok (.istore 4, 2) := by decide +kernel
theorem dX6_removeRunner_30 : decode cX6_removeRunner 30 = .ok (.iload 4, 2) := by decide +kernel
theorem dX6_removeRunner_32 : decode cX6_removeRunner 32 = .ok (.iload_n 3, 1) := by decide +kernel
theorem dX6_removeRunner_33 : decode cX6_removeRunner 33 = .ok (.if_icmp .ge 25, 3) := by decide +kernel
theorem dX6_removeRunner_36 : decode cX6_removeRunner 36 = .ok (.aload_n 0, 1) := by decide +kernel
theorem dX6_removeRunner_37 : decode cX6_removeRunner 37 = .ok (.getfield 26, 3) := by decide +kernel
theorem dX6_removeRunner_40 : decode cX6_removeRunner 40 = .ok (.iload 4, 2) := by decide +kernel
theorem dX6_removeRunner_42 : decode cX6_removeRunner 42 = .ok (.aload_n 0, 1) := by decide +kernel
theorem dX6_removeRunner_43 : decode cX6_removeRunner 43 = .ok (.getfield 26, 3) := by decide +kernel
theorem dX6_removeRunner_46 : decode cX6_removeRunner 46 = .ok (.iload 4, 2) := by decide +kernel
theorem dX6_removeRunner_48 : decode cX6_removeRunner 48 = .ok (.iconst 1, 1) := by decide +kernel
theorem dX6_removeRunner_49 : decode cX6_removeRunner 49 = .ok (.iadd, 1) := by decide +kernel
theorem dX6_removeRunner_50 : decode cX6_removeRunner 50 = .ok (.aaload, 1) := by decide +kernel
theorem dX6_removeRunner_51 : decode cX6_removeRunner 51 = .ok (.aastore, 1) := by decide +kernel
theorem dX6_removeRunner_52 : decode cX6_removeRunner 52 = .ok (.iinc 4 1, 3) := by decide +kernel
theorem dX6_removeRunner_55 : decode cX6_removeRunner 55 = .ok (.goto (-25), 3) := by decide +kernel
theorem dX6_removeRunner_58 : decode cX6_removeRunner 58 = .ok (.aload_n 0, 1) := by decide +kernel
theorem dX6_removeRunner_59 : decode cX6_removeRunner 59 = .ok (.getfield 26, 3) := by decide +kernel
theorem dX6_removeRunner_62 : decode cX6_removeRunner 62 = .ok (.iload_n 3, 1) := by decide +kernel
theorem dX6_removeRunner_63 : decode cX6_removeRunner 63 = .ok (.aload_n 2, 1) := by decide +kernel
theorem dX6_removeRunner_64 : decode cX6_removeRunner 64 = .ok (.aastore, 1) := by decide +kernel
theorem dX6_removeRunner_65 : decode cX6_removeRunner 65 = .ok (.aload_n 0, 1) := by decide +kernel
theorem dX6_removeRunner_66 : decode cX6_removeRunner 66 = .ok (.iload_n 3, 1) := by decide +kernel
theorem dX6_removeRunner_67 : decode cX6_removeRunner 67 = .ok (.putfield 37, 3) := by decide +kernel
theorem dX6_removeRunner_70 : decode cX6_removeRunner 70 = .ok (.return_, 1) := by decide +kernel
theorem dX6_countAsLost_0 : decode cX6_countAsLost 0 = .ok (.aload_n 0, 1) := by decide +kernel
theorem dX6_countAsLost_1 : decode cX6_countAsLost 1 = .ok (.aload_n 1, 1) := by decide +kernel
theorem dX6_countAsLost_2 : decode cX6_countAsLost 2 = .ok (.getfield 80, 3) := by decide +kernel
theorem dX6_countAsLost_5 : decode cX6_countAsLost 5 = .ok (.invokevirtual 70, 3) := by decide +kernel
theorem dX6_countAsLost_8 : decode cX6_countAsLost 8 = .ok (.astore_n 2, 1) := by decide +kernel
theorem dX6_countAsLost_9 : decode cX6_countAsLost 9 = .ok (.aload_n 2, 1) := by decide +kernel
theorem dX6_countAsLost_10 : decode cX6_countAsLost 10 = .ok (.ifnull 16, 3) := by decide +kernel
theorem dX6_countAsLost_13 : decode cX6_countAsLost 13 = .ok (.aload_n 2, 1) := by decide +kernel
theorem dX6_countAsLost_14 : decode cX6_countAsLost 14 = .ok (.getfield 102, 3) := by decide +kernel
theorem dX6_countAsLost_17 : decode cX6_countAsLost 17 = .ok (.dup, 1) := by decide +kernel
theorem dX6_countAsLost_18 : decode cX6_countAsLost 18 = .ok (.getfield 106, 3) := by decide +kernel
theorem dX6_countAsLost_21 : decode cX6_countAsLost 21 = .ok (.iconst 1, 1) := by decide +kernel
theorem dX6_countAsLost_22 : decode cX6_countAsLost 22 = .ok (.iadd, 1) := by decide +kernel
theorem dX6_countAsLost_23 : decode cX6_countAsLost 23 = .ok (.putfield 106, 3) := by decide +kernel
theorem dX6_countAsLost_26 : decode cX6_countAsLost 26 = .ok (.return_, 1) := by decide +kernel
theorem dX6_longestWay_0 : decode cX6_longestWay 0 = .ok (.iconst 0, 1) := by decide +kernel
theorem dX6_longestWay_1 : decode cX6_longestWay 1 = .ok (.istore_n 1, 1) := by decide +kernel
theorem dX6_longestWay_2 : decode cX6_longestWay 2 = .ok (.iconst 0, 1) := by decide +kernel
theorem dX6_longestWay_3 : decode cX6_longestWay 3 = .ok (.istore_n 2, 1) := by decide +kernel
theorem dX6_longestWay_4 : decode cX6_longestWay 4 = .ok (.iload_n 2, 1) := by decide +kernel
theorem dX6_longestWay_5 : decode cX6_longestWay 5 = .ok (.aload_n 0, 1) := by decide +kernel
theorem dX6_longestWay_6 : decode cX6_longestWay 6 = .ok (.getfield 37, 3) := by decide +kernel
theorem dX6_longestWay_9 : decode cX6_longestWay 9 = .ok (.if_icmp .ge 32, 3) := by decide +kernel
theorem dX6_longestWay_12 : decode cX6_longestWay 12 = .ok (.iload_n 2, 1) := by decide +kernel
theorem dX6_longestWay_13 : decode cX6_longestWay 13 = .ok (.aload_n 0, 1) := by decide +kernel
theorem dX6_longestWay_14 : decode cX6_longestWay 14 = .ok (.getfield 26, 3) := by decide +kernel
theorem dX6_longestWay_17 : decode cX6_longestWay 17 = .ok (.arraylength, 1) := by decide +kernel
theorem dX6_longestWay_18 : decode cX6_longestWay 18 = .ok (.if_icmp .ge 23, 3) := by decide +kernel
theorem dX6_longestWay_21 : decode cX6_longestWay 21 = .ok (.iload_n 1, 1) := by decide +kernel
theorem dX6_longestWay_22 : decode cX6_longestWay 22 = .ok (.aload_n 0, 1) := by decide +kernel
theorem dX6_longestWay_23 : decode cX6_longestWay 23 = .ok (.getfield 26, 3) := by decide +kernel
theorem dX6_longestWay_26 : decode cX6_longestWay 26 = .ok (.iload_n 2, 1) := by decide +kernel
theorem dX6_longestWay_27 : decode cX6_longestWay 27 = .ok (.aaload, 1) := by decide +kernel
theorem dX6_longestWay_28 : decode cX6_longestWay 28 = .ok (.getfield 61, 3) := by decide +kernel
theorem dX6_longestWay_31 : decode cX6_longestWay 31 = .ok (.invokestatic 111, 3) := by decide +kernel
theorem dX6_longestWay_34 : decode cX6_longestWay 34 = .ok (.istore_n 1, 1) := by decide +kernel
theorem dX6_longestWay_35 : decode cX6_longestWay 35 = .ok (.iinc 2 1, 3) := by decide +kernel
theorem dX6_longestWay_38 : decode cX6_longestWay 38 = .ok (.goto (-34), 3) := by decide +kernel
theorem dX6_longestWay_41 : decode cX6_longestWay 41 = .ok (.iload_n 1, 1) := by decide +kernel
theorem dX6_longestWay_42 : decode cX6_longestWay 42 = .ok (.ireturn, 1) := by decide +kernel
theorem dX6_hear_0 : decode cX6_hear 0 = .ok (.aload_n 0, 1) := by decide +kernel
theorem dX6_hear_1 : decode cX6_hear 1 = .ok (.aload_n 1, 1) := by decide +kernel
theorem dX6_hear_2 : decode cX6_hear 2 = .ok (.getfield 80, 3) := by decide +kernel
theorem dX6_hear_5 : decode cX6_hear 5 = .ok (.invokevirtual 70, 3) := by decide +kernel
theorem dX6_hear_8 : decode cX6_hear 8 = .ok (.astore_n 2, 1) := by decide +kernel
theorem dX6_hear_9 : decode cX6_hear 9 = .ok (.aload_n 2, 1) := by decide +kernel
theorem dX6_hear_10 : decode cX6_hear 10 = .ok (.ifnonnull 4, 3) := by decide +kernel
theorem dX6_hear_13 : decode cX6_hear 13 = .ok (.return_, 1) := by decide +kernel
theorem dX6_hear_14 : decode cX6_hear 14 = .ok (.aload_n 2, 1) := by decide +kernel
theorem dX6_hear_15 : decode cX6_hear 15 = .ok (.getfield 102, 3) := by decide +kernel
theorem dX6_hear_18 : decode cX6_hear 18 = .ok (.astore_n 3, 1) := by decide +kernel
theorem dX6_hear_19 : decode cX6_hear 19 = .ok (.aload_n 1, 1) := by decide +kernel
theorem dX6_hear_20 : decode cX6_hear 20 = .ok (.getfield 87, 3) := by decide +kernel
theorem dX6_hear_23 : decode cX6_hear 23 = .ok (.aload_n 3, 1) := by decide +kernel
theorem dX6_hear_24 : decode cX6_hear 24 = .ok (.getfield 117, 3) := by decide +kernel
theorem dX6_hear_27 : decode cX6_hear 27 = .ok (.if_icmp .ge 16, 3) := by decide +kernel
theorem dX6_hear_30 : decode cX6_hear 30 = .ok (.aload_n 3, 1) := by decide +kernel
theorem dX6_hear_31 : decode cX6_hear 31 = .ok (.dup, 1) := by decide +kernel
theorem dX6_hear_32 : decode cX6_hear 32 = .ok (.getfield 120, 3) := by decide +kernel
theorem dX6_hear_35 : decode cX6_hear 35 = .ok (.iconst 1, 1) := by decide +kernel
theorem dX6_hear_36 : decode cX6_hear 36 = .ok (.iadd, 1) := by decide +kernel
theorem dX6_hear_37 : decode cX6_hear 37 = .ok (.putfield 120, 3) := by decide +kernel
theorem dX6_hear_40 : decode cX6_hear 40 = .ok (.goto 102, 3) := by decide +kernel
theorem dX6_hear_43 : decode cX6_hear 43 = .ok (.aload_n 3, 1) := by decide +kernel
theorem dX6_hear_44 : decode cX6_hear 44 = .ok (.getfield 123, 3) := by decide +kernel
theorem dX6_hear_47 : decode cX6_hear 47 = .ok (.ifCond .le 46, 3) := by decide +kernel
theorem dX6_hear_50 : decode cX6_hear 50 = .ok (.aload_n 1, 1) := by decide +kernel
theorem dX6_hear_51 : decode cX6_hear 51 = .ok (.getfield 87, 3) := by decide +kernel
theorem dX6_hear_54 : decode cX6_hear 54 = .ok (.aload_n 3, 1) := by decide +kernel
theorem dX6_hear_55 : decode cX6_hear 55 = .ok (.getfield 117, 3) := by decide +kernel
theorem dX6_hear_58 : decode cX6_hear 58 = .ok (.if_icmp .ne 35, 3) := by decide +kernel
theorem dX6_hear_61 : decode cX6_hear 61 = .ok (.aload_n 0, 1) := by decide +kernel
theorem dX6_hear_62 : decode cX6_hear 62 = .ok (.aload_n 1, 1) := by decide +kernel
theorem dX6_hear_63 : decode cX6_hear 63 = .ok (.getfield 86, 3) := by decide +kernel
theorem dX6_hear_66 : decode cX6_hear 66 = .ok (.invokevirtual 99, 3) := by decide +kernel
theorem dX6_hear_69 : decode cX6_hear 69 = .ok (.aload_n 0, 1) := by decide +kernel
theorem dX6_hear_70 : decode cX6_hear 70 = .ok (.aload_n 3, 1) := by decide +kernel
theorem dX6_hear_71 : decode cX6_hear 71 = .ok (.getfield 126, 3) := by decide +kernel
theorem dX6_hear_74 : decode cX6_hear 74 = .ok (.invokevirtual 99, 3) := by decide +kernel
theorem dX6_hear_77 : decode cX6_hear 77 = .ok (.if_icmp .ne 16, 3) := by decide +kernel
theorem dX6_hear_80 : decode cX6_hear 80 = .ok (.aload_n 3, 1) := by decide +kernel
theorem dX6_hear_81 : decode cX6_hear 81 = .ok (.dup, 1) := by decide +kernel
theorem dX6_hear_82 : decode cX6_hear 82 = .ok (.getfield 129, 3) := by decide +kernel
theorem dX6_hear_85 : decode cX6_hear 85 = .ok (.iconst 1, 1) := by decide +kernel
theorem dX6_hear_86 : decode cX6_hear 86 = .ok (.iadd, 1) := by decide +kernel
theorem dX6_hear_87 : decode cX6_hear 87 = .ok (.putfield 129, 3) := by decide +kernel
theorem dX6_hear_90 : decode cX6_hear 90 = .ok (.goto 52, 3) := by decide +kernel
theorem dX6_hear_93 : decode cX6_hear 93 = .ok (.aload_n 3, 1) := by decide +kernel
theorem dX6_hear_94 : decode cX6_hear 94 = .ok (.dup, 1) := by decide +kernel
theorem dX6_hear_95 : decode cX6_hear 95 = .ok (.getfield 132, 3) := by decide +kernel
theorem dX6_hear_98 : decode cX6_hear 98 = .ok (.aload_n 0, 1) := by decide +kernel
theorem dX6_hear_99 : decode cX6_hear 99 = .ok (.aload_n 2, 1) := by decide +kernel
theorem dX6_hear_100 : decode cX6_hear 100 = .ok (.aload_n 1, 1) := by decide +kernel
theorem dX6_hear_101 : decode cX6_hear 101 = .ok (.invokevirtual 135, 3) := by decide +kernel
theorem dX6_hear_104 : decode cX6_hear 104 = .ok (.iadd, 1) := by decide +kernel
theorem dX6_hear_105 : decode cX6_hear 105 = .ok (.putfield 132, 3) := by decide +kernel
theorem dX6_hear_108 : decode cX6_hear 108 = .ok (.aload_n 3, 1) := by decide +kernel
theorem dX6_hear_109 : decode cX6_hear 109 = .ok (.dup, 1) := by decide +kernel
theorem dX6_hear_110 : decode cX6_hear 110 = .ok (.getfield 123, 3) := by decide +kernel
theorem dX6_hear_113 : decode cX6_hear 113 = .ok (.iconst 1, 1) := by decide +kernel
theorem dX6_hear_114 : decode cX6_hear 114 = .ok (.iadd, 1) := by decide +kernel
theorem dX6_hear_115 : decode cX6_hear 115 = .ok (.putfield 123, 3) := by decide +kernel
theorem dX6_hear_118 : decode cX6_hear 118 = .ok (.aload_n 3, 1) := by decide +kernel
theorem dX6_hear_119 : decode cX6_hear 119 = .ok (.aload_n 1, 1) := by decide +kernel
theorem dX6_hear_120 : decode cX6_hear 120 = .ok (.getfield 87, 3) := by decide +kernel
theorem dX6_hear_123 : decode cX6_hear 123 = .ok (.putfield 117, 3) := by decide +kernel
theorem dX6_hear_126 : decode cX6_hear 126 = .ok (.aload_n 3, 1) := by decide +kernel
theorem dX6_hear_127 : decode cX6_hear 127 = .ok (.aload_n 1, 1) := by decide +kernel
theorem dX6_hear_128 : decode cX6_hear 128 = .ok (.getfield 86, 3) := by decide +kernel
theorem dX6_hear_131 : decode cX6_hear 131 = .ok (.putfield 126, 3) := by decide +kernel
theorem dX6_hear_134 : decode cX6_hear 134 = .ok (.aload_n 3, 1) := by decide +kernel
theorem dX6_hear_135 : decode cX6_hear 135 = .ok (.aload_n 1, 1) := by decide +kernel
theorem dX6_hear_136 : decode cX6_hear 136 = .ok (.getfield 93, 3) := by decide +kernel
theorem dX6_hear_139 : decode cX6_hear 139 = .ok (.putfield 139, 3) := by decide +kernel
theorem dX6_hear_142 : decode cX6_hear 142 = .ok (.return_, 1) := by decide +kernel
theorem dX6_wentOn_0 : decode cX6_wentOn 0 = .ok (.aload_n 0, 1) := by decide +kernel
theorem dX6_wentOn_1 : decode cX6_wentOn 1 = .ok (.aload_n 2, 1) := by decide +kernel
theorem dX6_wentOn_2 : decode cX6_wentOn 2 = .ok (.getfield 86, 3) := by decide +kernel
theorem dX6_wentOn_5 : decode cX6_wentOn 5 = .ok (.invokevirtual 99, 3) := by decide +kernel
theorem dX6_wentOn_8 : decode cX6_wentOn 8 = .ok (.aload_n 0, 1) := by decide +kernel
theorem dX6_wentOn_9 : decode cX6_wentOn 9 = .ok (.aload_n 1, 1) := by decide +kernel
theorem dX6_wentOn_10 : decode cX6_wentOn 10 = .ok (.getfield 102, 3) := by decide +kernel
theorem dX6_wentOn_13 : decode cX6_wentOn 13 = .ok (.getfield 126, 3) := by decide +kernel
theorem dX6_wentOn_16 : decode cX6_wentOn 16 = .ok (.invokevirtual 99, 3) := by decide +kernel
theorem dX6_wentOn_19 : decode cX6_wentOn 19 = .ok (.isub, 1) := by decide +kernel
theorem dX6_wentOn_20 : decode cX6_wentOn 20 = .ok (.istore_n 3, 1) := by decide +kernel
theorem dX6_wentOn_21 : decode cX6_wentOn 21 = .ok (.iload_n 3, 1) := by decide +kernel
theorem dX6_wentOn_22 : decode cX6_wentOn 22 = .ok (.ifCond .ge 10, 3) := by decide +kernel
theorem dX6_wentOn_25 : decode cX6_wentOn 25 = .ok (.iload_n 3, 1) := by decide +kernel
theorem dX6_wentOn_26 : decode cX6_wentOn 26 = .ok (.aload_n 0, 1) := by decide +kernel
theorem dX6_wentOn_27 : decode cX6_wentOn 27 = .ok (.getfield 9, 3) := by decide +kernel
theorem dX6_wentOn_30 : decode cX6_wentOn 30 = .ok (.iadd, 1) := by decide +kernel
theorem dX6_wentOn_31 : decode cX6_wentOn 31 = .ok (.istore_n 3, 1) := by decide +kernel
theorem dX6_wentOn_32 : decode cX6_wentOn 32 = .ok (.aload_n 0, 1) := by decide +kernel
theorem dX6_wentOn_33 : decode cX6_wentOn 33 = .ok (.getfield 15, 3) := by decide +kernel
theorem dX6_wentOn_36 : decode cX6_wentOn 36 = .ok (.iconst 1, 1) := by decide +kernel
theorem dX6_wentOn_37 : decode cX6_wentOn 37 = .ok (.if_icmp .ne 23, 3) := by decide +kernel
theorem dX6_wentOn_40 : decode cX6_wentOn 40 = .ok (.iload_n 3, 1) := by decide +kernel
theorem dX6_wentOn_41 : decode cX6_wentOn 41 = .ok (.aload_n 0, 1) := by decide +kernel
theorem dX6_wentOn_42 : decode cX6_wentOn 42 = .ok (.getfield 9, 3) := by decide +kernel
theorem dX6_wentOn_45 : decode cX6_wentOn 45 = .ok (.aload_n 0, 1) := by decide +kernel
theorem dX6_wentOn_46 : decode cX6_wentOn 46 = .ok (.aload_n 0, 1) := by decide +kernel
theorem dX6_wentOn_47 : decode cX6_wentOn 47 = .ok (.aload_n 1, 1) := by decide +kernel
theorem dX6_wentOn_48 : decode cX6_wentOn 48 = .ok (.aload_n 2, 1) := by decide +kernel
theorem dX6_wentOn_49 : decode cX6_wentOn 49 = .ok (.invokevirtual 142, 3) := by decide +kernel
theorem dX6_wentOn_52 : decode cX6_wentOn 52 = .ok (.iload_n 3, 1) := by decide +kernel
theorem dX6_wentOn_53 : decode cX6_wentOn 53 = .ok (.isub, 1) := by decide +kernel
theorem dX6_wentOn_54 : decode cX6_wentOn 54 = .ok (.invokevirtual 145, 3) := by decide +kernel
theorem dX6_wentOn_57 : decode cX6_wentOn 57 = .ok (.imul, 1) := by decide +kernel
theorem dX6_wentOn_58 : decode cX6_wentOn 58 = .ok (.iadd, 1) := by decide +kernel
theorem dX6_wentOn_59 : decode cX6_wentOn 59 = .ok (.istore_n 3, 1) := by decide +kernel
theorem dX6_wentOn_60 : decode cX6_wentOn 60 = .ok (.iload_n 3, 1) := by decide +kernel
theorem dX6_wentOn_61 : decode cX6_wentOn 61 = .ok (.ireturn, 1) := by decide +kernel
theorem dX6_expectedTips_0 : decode cX6_expectedTips 0 = .ok (.aload_n 0, 1) := by decide +kernel
theorem dX6_expectedTips_1 : decode cX6_expectedTips 1 = .ok (.getfield 20, 3) := by decide +kernel
theorem dX6_expectedTips_4 : decode cX6_expectedTips 4 = .ok (.iconst 0, 1) := by decide +kernel
theorem dX6_expectedTips_5 : decode cX6_expectedTips 5 = .ok (.aaload, 1) := by decide +kernel
theorem dX6_expectedTips_6 : decode cX6_expectedTips 6 = .ok (.getfield 148, 3) := by decide +kernel
theorem dX6_expectedTips_9 : decode cX6_expectedTips 9 = .ok (.istore_n 3, 1) := by decide +kernel
theorem dX6_expectedTips_10 : decode cX6_expectedTips 10 = .ok (.iload_n 3, 1) := by decide +kernel
theorem dX6_expectedTips_11 : decode cX6_expectedTips 11 = .ok (.ifCond .le 10, 3) := by decide +kernel
theorem dX6_expectedTips_14 : decode cX6_expectedTips 14 = .ok (.aload_n 1, 1) := by decide +kernel
theorem dX6_expectedTips_15 : decode cX6_expectedTips 15 = .ok (.getfield 151, 3) := by decide +kernel
theorem dX6_expectedTips_18 : decode cX6_expectedTips 18 = .ok (.ifCond .gt 5, 3) := by decide +kernel
theorem dX6_expectedTips_21 : decode cX6_expectedTips 21 = .ok (.iconst 0, 1) := by decide +kernel
theorem dX6_expectedTips_22 : decode cX6_expectedTips 22 = .ok (.ireturn, 1) := by decide +kernel
theorem dX6_expectedTips_23 : decode cX6_expectedTips 23 = .ok (.aload_n 2, 1) := by decide +kernel
theorem dX6_expectedTips_24 : decode cX6_expectedTips 24 = .ok (.getfield 93, 3) := by decide +kernel
theorem dX6_expectedTips_27 : decode cX6_expectedTips 27 = .ok (.aload_n 1, 1) := by decide +kernel
theorem dX6_expectedTips_28 : decode cX6_expectedTips 28 = .ok (.getfield 102, 3) := by decide +kernel
theorem dX6_expectedTips_31 : decode cX6_expectedTips 31 = .ok (.getfield 139, 3) := by decide +kernel
theorem dX6_expectedTips_34 : decode cX6_expectedTips 34 = .ok (.isub, 1) := by decide +kernel
theorem dX6_expectedTips_35 : decode cX6_expectedTips 35 = .ok (.istore 4, 2) := by decide +kernel
theorem dX6_expectedTips_37 : decode cX6_expectedTips 37 = .ok (.iload 4, 2) := by decide +kernel
theorem dX6_expectedTips_39 : decode cX6_expectedTips 39 = .ok (.aload_n 1, 1) := by decide +kernel
theorem dX6_expectedTips_40 : decode cX6_expectedTips 40 = .ok (.getfield 148, 3) := by decide +kernel
theorem dX6_expectedTips_43 : decode cX6_expectedTips 43 = .ok (.imul, 1) := by decide +kernel
theorem dX6_expectedTips_44 : decode cX6_expectedTips 44 = .ok (.iload_n 3, 1) := by decide +kernel
theorem dX6_expectedTips_45 : decode cX6_expectedTips 45 = .ok (.idiv, 1) := by decide +kernel
theorem dX6_expectedTips_46 : decode cX6_expectedTips 46 = .ok (.aload_n 1, 1) := by decide +kernel
theorem dX6_expectedTips_47 : decode cX6_expectedTips 47 = .ok (.getfield 151, 3) := by decide +kernel
theorem dX6_expectedTips_50 : decode cX6_expectedTips 50 = .ok (.idiv, 1) := by decide +kernel
theorem dX6_expectedTips_51 : decode cX6_expectedTips 51 = .ok (.ireturn, 1) := by decide +kernel
theorem dX6_roundsFor_0 : decode cX6_roundsFor 0 = .ok (.iload_n 1, 1) := by decide +kernel
theorem dX6_roundsFor_1 : decode cX6_roundsFor 1 = .ok (.ifCond .le 10, 3) := by decide +kernel
theorem dX6_roundsFor_4 : decode cX6_roundsFor 4 = .ok (.aload_n 0, 1) := by decide +kernel
theorem dX6_roundsFor_5 : decode cX6_roundsFor 5 = .ok (.getfield 9, 3) := by decide +kernel
theorem dX6_roundsFor_8 : decode cX6_roundsFor 8 = .ok (.ifCond .gt 5, 3) := by decide +kernel
theorem dX6_roundsFor_11 : decode cX6_roundsFor 11 = .ok (.iconst 0, 1) := by decide +kernel
theorem dX6_roundsFor_12 : decode cX6_roundsFor 12 = .ok (.ireturn, 1) := by decide +kernel
theorem dX6_roundsFor_13 : decode cX6_roundsFor 13 = .ok (.iconst 2, 1) := by decide +kernel
theorem dX6_roundsFor_14 : decode cX6_roundsFor 14 = .ok (.iload_n 1, 1) := by decide +kernel
theorem dX6_roundsFor_15 : decode cX6_roundsFor 15 = .ok (.imul, 1) := by decide +kernel
theorem dX6_roundsFor_16 : decode cX6_roundsFor 16 = .ok (.aload_n 0, 1) := by decide +kernel
theorem dX6_roundsFor_17 : decode cX6_roundsFor 17 = .ok (.getfield 9, 3) := by decide +kernel
theorem dX6_roundsFor_20 : decode cX6_roundsFor 20 = .ok (.iadd, 1) := by decide +kernel
theorem dX6_roundsFor_21 : decode cX6_roundsFor 21 = .ok (.iconst 1, 1) := by decide +kernel
theorem dX6_roundsFor_22 : decode cX6_roundsFor 22 = .ok (.isub, 1) := by decide +kernel
theorem dX6_roundsFor_23 : decode cX6_roundsFor 23 = .ok (.iconst 2, 1) := by decide +kernel
theorem dX6_roundsFor_24 : decode cX6_roundsFor 24 = .ok (.aload_n 0, 1) := by decide +kernel
theorem dX6_roundsFor_25 : decode cX6_roundsFor 25 = .ok (.getfield 9, 3) := by decide +kernel
theorem dX6_roundsFor_28 : decode cX6_roundsFor 28 = .ok (.imul, 1) := by decide +kernel
theorem dX6_roundsFor_29 : decode cX6_roundsFor 29 = .ok (.idiv, 1) := by decide +kernel
theorem dX6_roundsFor_30 : decode cX6_roundsFor 30 = .ok (.ireturn, 1) := by decide +kernel
theorem dX6_factOf_0 : decode cX6_factOf 0 = .ok (.iload_n 2, 1) := by decide +kernel
theorem dX6_factOf_1 : decode cX6_factOf 1 = .ok (.tableswitch 100 0 8 #[51, 56, 61, 66, 71, 76, 81, 90, 95], 51) := by decide +kernel
theorem dX6_factOf_52 : decode cX6_factOf 52 = .ok (.aload_n 1, 1) := by decide +kernel
theorem dX6_factOf_53 : decode cX6_factOf 53 = .ok (.getfield 148, 3) := by decide +kernel
theorem dX6_factOf_56 : decode cX6_factOf 56 = .ok (.ireturn, 1) := by decide +kernel
theorem dX6_factOf_57 : decode cX6_factOf 57 = .ok (.aload_n 1, 1) := by decide +kernel
theorem dX6_factOf_58 : decode cX6_factOf 58 = .ok (.getfield 151, 3) := by decide +kernel
theorem dX6_factOf_61 : decode cX6_factOf 61 = .ok (.ireturn, 1) := by decide +kernel
theorem dX6_factOf_62 : decode cX6_factOf 62 = .ok (.aload_n 1, 1) := by decide +kernel
theorem dX6_factOf_63 : decode cX6_factOf 63 = .ok (.getfield 154, 3) := by decide +kernel
theorem dX6_factOf_66 : decode cX6_factOf 66 = .ok (.ireturn, 1) := by decide +kernel
theorem dX6_factOf_67 : decode cX6_factOf 67 = .ok (.aload_n 1, 1) := by decide +kernel
theorem dX6_factOf_68 : decode cX6_factOf 68 = .ok (.getfield 96, 3) := by decide +kernel
theorem dX6_factOf_71 : decode cX6_factOf 71 = .ok (.ireturn, 1) := by decide +kernel
theorem dX6_factOf_72 : decode cX6_factOf 72 = .ok (.aload_n 1, 1) := by decide +kernel
theorem dX6_factOf_73 : decode cX6_factOf 73 = .ok (.getfield 157, 3) := by decide +kernel
theorem dX6_factOf_76 : decode cX6_factOf 76 = .ok (.ireturn, 1) := by decide +kernel
theorem dX6_factOf_77 : decode cX6_factOf 77 = .ok (.aload_n 1, 1) := by decide +kernel
theorem dX6_factOf_78 : decode cX6_factOf 78 = .ok (.getfield 83, 3) := by decide +kernel
theorem dX6_factOf_81 : decode cX6_factOf 81 = .ok (.ireturn, 1) := by decide +kernel
theorem dX6_factOf_82 : decode cX6_factOf 82 = .ok (.aload_n 0, 1) := by decide +kernel
theorem dX6_factOf_83 : decode cX6_factOf 83 = .ok (.aload_n 1, 1) := by decide +kernel
theorem dX6_factOf_84 : decode cX6_factOf 84 = .ok (.getfield 83, 3) := by decide +kernel
theorem dX6_factOf_87 : decode cX6_factOf 87 = .ok (.invokevirtual 99, 3) := by decide +kernel
theorem dX6_factOf_90 : decode cX6_factOf 90 = .ok (.ireturn, 1) := by decide +kernel
theorem dX6_factOf_91 : decode cX6_factOf 91 = .ok (.aload_n 1, 1) := by decide +kernel
theorem dX6_factOf_92 : decode cX6_factOf 92 = .ok (.getfield 90, 3) := by decide +kernel
theorem dX6_factOf_95 : decode cX6_factOf 95 = .ok (.ireturn, 1) := by decide +kernel
theorem dX6_factOf_96 : decode cX6_factOf 96 = .ok (.aload_n 1, 1) := by decide +kernel
theorem dX6_factOf_97 : decode cX6_factOf 97 = .ok (.getfield 160, 3) := by decide +kernel
theorem dX6_factOf_100 : decode cX6_factOf 100 = .ok (.ireturn, 1) := by decide +kernel
theorem dX6_factOf_101 : decode cX6_factOf 101 = .ok (.ldc 163, 2) := by decide +kernel
theorem dX6_factOf_103 : decode cX6_factOf 103 = .ok (.ireturn, 1) := by decide +kernel
theorem dX6_sumOf_0 : decode cX6_sumOf 0 = .ok (.iconst 0, 1) := by decide +kernel
theorem dX6_sumOf_1 : decode cX6_sumOf 1 = .ok (.istore_n 2, 1) := by decide +kernel
theorem dX6_sumOf_2 : decode cX6_sumOf 2 = .ok (.aload_n 0, 1) := by decide +kernel
theorem dX6_sumOf_3 : decode cX6_sumOf 3 = .ok (.getfield 20, 3) := by decide +kernel
theorem dX6_sumOf_6 : decode cX6_sumOf 6 = .ok (.astore_n 3, 1) := by decide +kernel
theorem dX6_sumOf_7 : decode cX6_sumOf 7 = .ok (.aload_n 3, 1) := by decide +kernel
theorem dX6_sumOf_8 : decode cX6_sumOf 8 = .ok (.arraylength, 1) := by decide +kernel
theorem dX6_sumOf_9 : decode cX6_sumOf 9 = .ok (.istore 4, 2) := by decide +kernel
theorem dX6_sumOf_11 : decode cX6_sumOf 11 = .ok (.iconst 0, 1) := by decide +kernel
theorem dX6_sumOf_12 : decode cX6_sumOf 12 = .ok (.istore 5, 2) := by decide +kernel
theorem dX6_sumOf_14 : decode cX6_sumOf 14 = .ok (.iload 5, 2) := by decide +kernel
theorem dX6_sumOf_16 : decode cX6_sumOf 16 = .ok (.iload 4, 2) := by decide +kernel
theorem dX6_sumOf_18 : decode cX6_sumOf 18 = .ok (.if_icmp .ge 25, 3) := by decide +kernel
theorem dX6_sumOf_21 : decode cX6_sumOf 21 = .ok (.aload_n 3, 1) := by decide +kernel
theorem dX6_sumOf_22 : decode cX6_sumOf 22 = .ok (.iload 5, 2) := by decide +kernel
theorem dX6_sumOf_24 : decode cX6_sumOf 24 = .ok (.aaload, 1) := by decide +kernel
theorem dX6_sumOf_25 : decode cX6_sumOf 25 = .ok (.astore 6, 2) := by decide +kernel
theorem dX6_sumOf_27 : decode cX6_sumOf 27 = .ok (.iload_n 2, 1) := by decide +kernel
theorem dX6_sumOf_28 : decode cX6_sumOf 28 = .ok (.aload_n 0, 1) := by decide +kernel
theorem dX6_sumOf_29 : decode cX6_sumOf 29 = .ok (.aload 6, 2) := by decide +kernel
theorem dX6_sumOf_31 : decode cX6_sumOf 31 = .ok (.iload_n 1, 1) := by decide +kernel
theorem dX6_sumOf_32 : decode cX6_sumOf 32 = .ok (.invokevirtual 164, 3) := by decide +kernel
theorem dX6_sumOf_35 : decode cX6_sumOf 35 = .ok (.iadd, 1) := by decide +kernel
theorem dX6_sumOf_36 : decode cX6_sumOf 36 = .ok (.istore_n 2, 1) := by decide +kernel
theorem dX6_sumOf_37 : decode cX6_sumOf 37 = .ok (.iinc 5 1, 3) := by decide +kernel
theorem dX6_sumOf_40 : decode cX6_sumOf 40 = .ok (.goto (-26), 3) := by decide +kernel
theorem dX6_sumOf_43 : decode cX6_sumOf 43 = .ok (.iload_n 2, 1) := by decide +kernel
theorem dX6_sumOf_44 : decode cX6_sumOf 44 = .ok (.ireturn, 1) := by decide +kernel
theorem dX6_sumOfTold_0 : decode cX6_sumOfTold 0 = .ok (.iconst 0, 1) := by decide +kernel
theorem dX6_sumOfTold_1 : decode cX6_sumOfTold 1 = .ok (.istore_n 1, 1) := by decide +kernel
theorem dX6_sumOfTold_2 : decode cX6_sumOfTold 2 = .ok (.aload_n 0, 1) := by decide +kernel
theorem dX6_sumOfTold_3 : decode cX6_sumOfTold 3 = .ok (.getfield 20, 3) := by decide +kernel
theorem dX6_sumOfTold_6 : decode cX6_sumOfTold 6 = .ok (.astore_n 2, 1) := by decide +kernel
theorem dX6_sumOfTold_7 : decode cX6_sumOfTold 7 = .ok (.aload_n 2, 1) := by decide +kernel
theorem dX6_sumOfTold_8 : decode cX6_sumOfTold 8 = .ok (.arraylength, 1) := by decide +kernel
theorem dX6_sumOfTold_9 : decode cX6_sumOfTold 9 = .ok (.istore_n 3, 1) := by decide +kernel
theorem dX6_sumOfTold_10 : decode cX6_sumOfTold 10 = .ok (.iconst 0, 1) := by decide +kernel
theorem dX6_sumOfTold_11 : decode cX6_sumOfTold 11 = .ok (.istore 4, 2) := by decide +kernel
theorem dX6_sumOfTold_13 : decode cX6_sumOfTold 13 = .ok (.iload 4, 2) := by decide +kernel
theorem dX6_sumOfTold_15 : decode cX6_sumOfTold 15 = .ok (.iload_n 3, 1) := by decide +kernel
theorem dX6_sumOfTold_16 : decode cX6_sumOfTold 16 = .ok (.if_icmp .ge 26, 3) := by decide +kernel
theorem dX6_sumOfTold_19 : decode cX6_sumOfTold 19 = .ok (.aload_n 2, 1) := by decide +kernel
theorem dX6_sumOfTold_20 : decode cX6_sumOfTold 20 = .ok (.iload 4, 2) := by decide +kernel
theorem dX6_sumOfTold_22 : decode cX6_sumOfTold 22 = .ok (.aaload, 1) := by decide +kernel
theorem dX6_sumOfTold_23 : decode cX6_sumOfTold 23 = .ok (.astore 5, 2) := by decide +kernel
theorem dX6_sumOfTold_25 : decode cX6_sumOfTold 25 = .ok (.iload_n 1, 1) := by decide +kernel
theorem dX6_sumOfTold_26 : decode cX6_sumOfTold 26 = .ok (.aload 5, 2) := by decide +kernel
theorem dX6_sumOfTold_28 : decode cX6_sumOfTold 28 = .ok (.getfield 102, 3) := by decide +kernel
theorem dX6_sumOfTold_31 : decode cX6_sumOfTold 31 = .ok (.getfield 132, 3) := by decide +kernel
theorem dX6_sumOfTold_34 : decode cX6_sumOfTold 34 = .ok (.iadd, 1) := by decide +kernel
theorem dX6_sumOfTold_35 : decode cX6_sumOfTold 35 = .ok (.istore_n 1, 1) := by decide +kernel
theorem dX6_sumOfTold_36 : decode cX6_sumOfTold 36 = .ok (.iinc 4 1, 3) := by decide +kernel
theorem dX6_sumOfTold_39 : decode cX6_sumOfTold 39 = .ok (.goto (-26), 3) := by decide +kernel
theorem dX6_sumOfTold_42 : decode cX6_sumOfTold 42 = .ok (.iload_n 1, 1) := by decide +kernel
theorem dX6_sumOfTold_43 : decode cX6_sumOfTold 43 = .ok (.ireturn, 1) := by decide +kernel
theorem dX6_gaugesWithGap_0 : decode cX6_gaugesWithGap 0 = .ok (.iconst 0, 1) := by decide +kernel
theorem dX6_gaugesWithGap_1 : decode cX6_gaugesWithGap 1 = .ok (.istore_n 1, 1) := by decide +kernel
theorem dX6_gaugesWithGap_2 : decode cX6_gaugesWithGap 2 = .ok (.aload_n 0, 1) := by decide +kernel
theorem dX6_gaugesWithGap_3 : decode cX6_gaugesWithGap 3 = .ok (.getfield 20, 3) := by decide +kernel
theorem dX6_gaugesWithGap_6 : decode cX6_gaugesWithGap 6 = .ok (.astore_n 2, 1) := by decide +kernel
theorem dX6_gaugesWithGap_7 : decode cX6_gaugesWithGap 7 = .ok (.aload_n 2, 1) := by decide +kernel
theorem dX6_gaugesWithGap_8 : decode cX6_gaugesWithGap 8 = .ok (.arraylength, 1) := by decide +kernel
theorem dX6_gaugesWithGap_9 : decode cX6_gaugesWithGap 9 = .ok (.istore_n 3, 1) := by decide +kernel
theorem dX6_gaugesWithGap_10 : decode cX6_gaugesWithGap 10 = .ok (.iconst 0, 1) := by decide +kernel
theorem dX6_gaugesWithGap_11 : decode cX6_gaugesWithGap 11 = .ok (.istore 4, 2) := by decide +kernel
theorem dX6_gaugesWithGap_13 : decode cX6_gaugesWithGap 13 = .ok (.iload 4, 2) := by decide +kernel
theorem dX6_gaugesWithGap_15 : decode cX6_gaugesWithGap 15 = .ok (.iload_n 3, 1) := by decide +kernel
theorem dX6_gaugesWithGap_16 : decode cX6_gaugesWithGap 16 = .ok (.if_icmp .ge 26, 3) := by decide +kernel
theorem dX6_gaugesWithGap_19 : decode cX6_gaugesWithGap 19 = .ok (.aload_n 2, 1) := by decide +kernel
theorem dX6_gaugesWithGap_20 : decode cX6_gaugesWithGap 20 = .ok (.iload 4, 2) := by decide +kernel
theorem dX6_gaugesWithGap_22 : decode cX6_gaugesWithGap 22 = .ok (.aaload, 1) := by decide +kernel
theorem dX6_gaugesWithGap_23 : decode cX6_gaugesWithGap 23 = .ok (.astore 5, 2) := by decide +kernel
theorem dX6_gaugesWithGap_25 : decode cX6_gaugesWithGap 25 = .ok (.aload 5, 2) := by decide +kernel
theorem dX6_gaugesWithGap_27 : decode cX6_gaugesWithGap 27 = .ok (.invokevirtual 168, 3) := by decide +kernel
theorem dX6_gaugesWithGap_30 : decode cX6_gaugesWithGap 30 = .ok (.ifCond .eq 6, 3) := by decide +kernel
theorem dX6_gaugesWithGap_33 : decode cX6_gaugesWithGap 33 = .ok (.iinc 1 1, 3) := by decide +kernel
theorem dX6_gaugesWithGap_36 : decode cX6_gaugesWithGap 36 = .ok (.iinc 4 1, 3) := by decide +kernel
theorem dX6_gaugesWithGap_39 : decode cX6_gaugesWithGap 39 = .ok (.goto (-26), 3) := by decide +kernel
theorem dX6_gaugesWithGap_42 : decode cX6_gaugesWithGap 42 = .ok (.iload_n 1, 1) := by decide +kernel
theorem dX6_gaugesWithGap_43 : decode cX6_gaugesWithGap 43 = .ok (.ireturn, 1) := by decide +kernel
end
section
/-! MEMORY AS A FUNCTION: the cells of the world, by address; the domain A never changes (but in constructors). -/
abbrev GG : Type := va_G × (Nat → ClassId)
abbrev MM : Type := Nat → va_E
abbrev tysOf (g : GG) : List (ClassId × FieldType) := [(g.2 0, .char), (g.2 1, .boolean), (g.2 2, .boolean), (g.2 3, .object RX0), (g.2 4, .object RX5), (g.2 5, .object RX6)]
def KK (g : GG) (U : State) : Prop := va_K g.1 vwCl (tysOf g) U
def HD (g : GG) (A : Nat → Prop) (M : MM) (H : Heap) : Prop := ∀ a, A a → va_at g.1 vwCl (a, M a) H
theorem HD.one {g : GG} {A : Nat → Prop} {M : MM} {H : Heap} (h : HD g A M H) {a : Nat} (hA : A a) : va_P g.1 vwCl [(a, M a)] H := by
  intro k q hk
  cases k with
  | zero => cases hk; exact h a hA
  | succ k => simp at hk
theorem HD.put {g : GG} {A : Nat → Prop} {M : MM} {H H1 : Heap} (h : HD g A M H) {a : Nat} {e : va_E} (he : va_at g.1 vwCl (a, e) H1) (oq : ∀ q : Nat, q ≠ a → H1[q]? = H[q]?) : HD g A (va_up M a e) H1 := by
  intro b hb
  by_cases hba : b = a
  · subst hba
    rw [va_up_self]
    exact he
  · rw [va_up_ne _ _ hba]
    exact (h b hb).kept (oq b hba)
theorem KK.moved {g : GG} {u U : State} (hvm : u.vm.Alike U.vm) (h : KK g u) : KK g U := va_K.moved hvm h
abbrev PreM (vs : List Value) (g : GG) (A : Nat → Prop) (M : MM) : Array Value → State → Prop := va_Pc vs (fun U => HD g A M U.heap ∧ KK g U)
abbrev BB (g : GG) (A : Nat → Prop) : MM → State → Prop := fun M' t => HD g A M' t.heap ∧ KK g t
abbrev PosI (post : Int32 → MM → Prop) (g : GG) (A : Nat → Prop) := va_Qi post (BB g A) A
abbrev PosV (post : MM → Prop) (g : GG) (A : Nat → Prop) := va_Qv post (BB g A) A
abbrev PosQ (post : Option Nat → MM → Prop) (g : GG) (A : Nat → Prop) := va_Qq post (BB g A) A
abbrev rmD (d : Nat) : Room := { frames := d, cells := 0, slots := 0, locals := 40 * d }
section ROWS
variable {p : Program} {l : Launch} {e : Env} {R : Room} {s : State} {m : MethodId} {args : Array Value} {below : List Frame} {meth : Method} {c : Code} {H H0 : Heap} {locs : List Loc} {cells slots : Nat} {Q : State → Prop} {cc : ByteArray} {pc : Nat} {ls : Array Slot} {rest : List Value} {g : GG} {A : Nat → Prop} {M : MM} {a : Nat}
theorem m_get (hx : p.tables.exec = Jvm.exec) (hb : c.code = cc) {own C : String} {T : u_T} {N ci index : Nat} {Ts : List Cond} (hts : ∀ w ∈ Ts, w.before args s = true) (hin : ∀ w ∈ u_ws C T N, w ∈ Ts) (hown : s.vm.findClass own = some m.cls) (hK : KK g s) (hM : HD g A M H) (hA : A a) {fs : List Value} (he : M a = .inr (ci, fs)) (hc : vwCl[ci]? = some (C, T, N)) (k : Nat) (hk : k < N) (hlink : (Cond.fieldLink own index (T k).1 (T k).2.1 (T k).2.2.1).before args s = true) {v : Value} (hv : fs[k]? = some v) (hdg : decode cc pc = .ok (.getfield index, 3))
    (kk : W p l e R s m args below meth c H locs cells slots Q (F0 m (pc + 3) ls (v :: rest))) : W p l e R s m args below meth c H locs cells slots Q (F0 m pc ls (.ref a :: rest)) :=
  va_get hx hb hts hin hown hK (hM.one hA) 0 (fs := fs) (by rw [he]; rfl) hc k hk hlink (fun _ h => h) hv hdg kk
theorem m_put (hx : p.tables.exec = Jvm.exec) (hb : c.code = cc) {own C : String} {T : u_T} {N ci index : Nat} {Ts : List Cond} (hts : ∀ w ∈ Ts, w.before args s = true) (hin : ∀ w ∈ u_ws C T N, w ∈ Ts) (ty0 : Nat → FieldType) (hty : ∀ k, k < N → parseFieldDescriptor (T k).2.2.1 = some (ty0 k)) (hnm : ∀ a, a < N → ∀ b, b < N → a ≠ b → (T a).2.1 ≠ (T b).2.1) (hown : s.vm.findClass own = some m.cls) (hK : KK g s) (hM : HD g A M H) (hS : va_S A H0 H locs) (hA : A a) {fs : List Value} (he : M a = .inr (ci, fs)) (hc : vwCl[ci]? = some (C, T, N)) (k : Nat) (hk : k < N) (hlink : (Cond.fieldLink own index (T k).1 (T k).2.1 (T k).2.2.1).before args s = true) (hfin : (T k).2.2.2 = false) {v : Value} (hn : narrow (ty0 k) v = v) (hfit : fits (ty0 k) v = true) (hl : k < fs.length) (hdg : decode cc pc = .ok (.putfield index, 3))
    (kk : ∀ (H1 : Heap) (locs1 : List Loc), HD g A (va_up M a (.inr (ci, fs.set k v))) H1 → va_S A H0 H1 locs1 → W p l e R s m args below meth c H1 locs1 cells slots Q (F0 m (pc + 3) ls rest)) : W p l e R s m args below meth c H locs cells slots Q (F0 m pc ls (v :: .ref a :: rest)) := by
  have hap := va_apart (own := own) hts hin ty0 hty hnm hK hc
  have h0 : va_at g.1 vwCl (a, .inr (ci, fs)) H := by rw [← he]; exact hM a hA
  obtain ⟨r, h1, cell, q1, q2, q3, q4⟩ := h0
  have hr : r = (C, T, N) := Option.some.inj (h1.symm.trans hc)
  subst hr
  obtain ⟨hSl, hfc, kC, hkC, hkind⟩ := hK.1 ci _ hc
  obtain ⟨cf, kf, fi, f, hi, hsl⟩ := hSl k hk
  have hlay := hts _ (hin _ (u_in_lay hk))
  unfold u_lay at hlay
  rw [if_neg (by rw [hfin]; decide)] at hlay
  have hst := (u_facts hfc hkC (u_lays hts hin hk) hi).1
  have h6 := u_store hfc hkC hkind hlay hi (hty k hk) hn hfit
  refine W.putK hx hb (f := f) ⟨hown, hlink, ⟨_, _, _, hi⟩, hst⟩ (by rw [q2]; exact h6) q1 q3 (by rw [hsl]; exact k2_hasslot (q4 k hk)) rfl rfl hdg fun H' e1 e2 e3 => ?_
  rw [hsl] at e1 ⊢
  exact kk H' _ (hM.put ⟨_, hc, t_OB.to (V := updV (vp_V fs) k v) ⟨_, e1, q2, q3, t_set q4 hap hk v⟩ (fun j _ => vp_updV_set hl v j)⟩ e3) (hS.put e2 e3 hA)
theorem m_cald (hx : p.tables.exec = Jvm.exec) (hb : c.code = cc) (hK : KK g s) (hM : HD g A M H) (hA : A a) {n : Nat} {f : Nat → Int32} (he : M a = .inl (g.2 0, n, .inl f)) {i : Int32} (hin : vp_in i n) (hdg : decode cc pc = .ok (.caload, 1))
    (kk : W p l e R s m args below meth c H locs cells slots Q (F0 m (pc + 1) ls (.int (f i.toNatClampNeg) :: rest))) : W p l e R s m args below meth c H locs cells slots Q (F0 m pc ls (.int i :: .ref a :: rest)) :=
  va_cald hx hb hK (hM.one hA) 0 0 (cA := g.2 0) (n := n) (f := f) (by rw [he]; rfl) rfl hin hdg kk
theorem m_zald (hx : p.tables.exec = Jvm.exec) (hb : c.code = cc) (hK : KK g s) (hM : HD g A M H) (hA : A a) {n : Nat} {f : Nat → Int32} (he : M a = .inl (g.2 2, n, .inl f)) {i : Int32} (hin : vp_in i n) (hdg : decode cc pc = .ok (.baload, 1))
    (kk : W p l e R s m args below meth c H locs cells slots Q (F0 m (pc + 1) ls (.int (f i.toNatClampNeg) :: rest))) : W p l e R s m args below meth c H locs cells slots Q (F0 m pc ls (.int i :: .ref a :: rest)) :=
  va_zald hx hb hK (hM.one hA) 0 2 (cA := g.2 2) (n := n) (f := f) (by rw [he]; rfl) rfl hin hdg kk
theorem m_aald (hx : p.tables.exec = Jvm.exec) (hb : c.code = cc) (hK : KK g s) (hM : HD g A M H) (hA : A a) (t0 : Nat) {cA : ClassId} {C : String} {n : Nat} {f : Nat → Option Nat} (he : M a = .inl (cA, n, .inr (.inr (.inr (.inr f))))) (ht : (tysOf g)[t0]? = some (cA, .object C)) {i : Int32} (hin : vp_in i n) {r : Value} (hr : va_rf (f i.toNatClampNeg) = r) (hdg : decode cc pc = .ok (.aaload, 1))
    (kk : W p l e R s m args below meth c H locs cells slots Q (F0 m (pc + 1) ls (r :: rest))) : W p l e R s m args below meth c H locs cells slots Q (F0 m pc ls (.int i :: .ref a :: rest)) := by
  subst hr
  exact va_aldq hx hb hK (hM.one hA) 0 t0 (cA := cA) (n := n) (f := f) (C := C) (by rw [he]; rfl) ht hin hdg kk
theorem m_alen (hx : p.tables.exec = Jvm.exec) (hb : c.code = cc) (hK : KK g s) (hM : HD g A M H) (hA : A a) (t0 : Nat) {cA : ClassId} {x : vp_A} {ty : FieldType} (he : M a = .inl (cA, x)) (ht : (tysOf g)[t0]? = some (cA, ty)) {v : Int32} (hv : Int32.ofNat x.1 = v) (hdg : decode cc pc = .ok (.arraylength, 1))
    (kk : W p l e R s m args below meth c H locs cells slots Q (F0 m (pc + 1) ls (.int v :: rest))) : W p l e R s m args below meth c H locs cells slots Q (F0 m pc ls (.ref a :: rest)) :=
  va_alen hx hb hK (hM.one hA) 0 t0 (cA := cA) (x := x) (by rw [he]; rfl) ht hv hdg kk
theorem m_zast (hx : p.tables.exec = Jvm.exec) (hb : c.code = cc) (hK : KK g s) (hM : HD g A M H) (hS : va_S A H0 H locs) (hA : A a) {n : Nat} {f : Nat → Int32} (he : M a = .inl (g.2 2, n, .inl f)) {i x : Int32} (hin : vp_in i n) (hdg : decode cc pc = .ok (.bastore, 1))
    (kk : ∀ (H1 : Heap) (locs1 : List Loc), HD g A (va_up M a (.inl (g.2 2, n, .inl (upd f i.toNatClampNeg (vp_nar .boolean x))))) H1 → va_S A H0 H1 locs1 → W p l e R s m args below meth c H1 locs1 cells slots Q (F0 m (pc + 1) ls rest)) : W p l e R s m args below meth c H locs cells slots Q (F0 m pc ls (.int x :: .int i :: .ref a :: rest)) := by
  have h0 : H[a]? = some (vp_cell (g.2 2) (n, .inl f)) := by
    have := hM a hA
    rw [he] at this
    exact this
  refine W.zast hx hb h0 ((hK.2 2 _ rfl).1 n (fun j => .int (f j))) (fun q => by cases q) (by show ¬ (i < 0 ∨ (arrV _ _ _).slots.size ≤ _); rw [arrV_size]; exact hin) rfl rfl hdg fun H1 e1 z oq => ?_
  refine kk H1 _ (hM.put ?_ oq) (hS.put z oq hA)
  show H1[a]? = some (vp_cell _ _)
  rw [e1]
  rw [vp_cell_i, vp_cell_i, arrV_store]
  congr 2
  funext q
  by_cases hq : q = i.toNatClampNeg
  · subst hq
    simp [updV, upd, vp_nar]
    try rfl
  · simp [updV, upd, hq]
theorem m_cast (hx : p.tables.exec = Jvm.exec) (hb : c.code = cc) (hK : KK g s) (hM : HD g A M H) (hS : va_S A H0 H locs) (hA : A a) {n : Nat} {f : Nat → Int32} (he : M a = .inl (g.2 0, n, .inl f)) {i x : Int32} (hin : vp_in i n) (hdg : decode cc pc = .ok (.castore, 1))
    (kk : ∀ (H1 : Heap) (locs1 : List Loc), HD g A (va_up M a (.inl (g.2 0, n, .inl (upd f i.toNatClampNeg (vp_nar .char x))))) H1 → va_S A H0 H1 locs1 → W p l e R s m args below meth c H1 locs1 cells slots Q (F0 m (pc + 1) ls rest)) : W p l e R s m args below meth c H locs cells slots Q (F0 m pc ls (.int x :: .int i :: .ref a :: rest)) := by
  have h0 : H[a]? = some (vp_cell (g.2 0) (n, .inl f)) := by
    have := hM a hA
    rw [he] at this
    exact this
  refine W.cast hx hb h0 ((hK.2 0 _ rfl).1 n (fun j => .int (f j))) (fun q => by cases q) (by show ¬ (i < 0 ∨ (arrV _ _ _).slots.size ≤ _); rw [arrV_size]; exact hin) rfl rfl hdg fun H1 e1 z oq => ?_
  refine kk H1 _ (hM.put ?_ oq) (hS.put z oq hA)
  show H1[a]? = some (vp_cell _ _)
  rw [e1]
  rw [vp_cell_i, vp_cell_i, arrV_store]
  congr 2
  funext q
  by_cases hq : q = i.toNatClampNeg
  · subst hq
    simp [updV, upd, vp_nar]
    try rfl
  · simp [updV, upd, hq]
theorem m_aast (hx : p.tables.exec = Jvm.exec) (hb : c.code = cc) (hK : KK g s) (hM : HD g A M H) (hS : va_S A H0 H locs) (hA : A a) (t0 ci : Nat) {cA : ClassId} {r : vw_C} {n v : Nat} {vs : List Value} {f : Nat → Option Nat} (he : M a = .inl (cA, n, .inr (.inr (.inr (.inr f))))) (ht : (tysOf g)[t0]? = some (cA, .object r.1)) (hAv : A v) (hv : M v = .inr (ci, vs)) (hc : vwCl[ci]? = some r) {i : Int32} (hin : vp_in i n) (hdg : decode cc pc = .ok (.aastore, 1))
    (kk : ∀ (H1 : Heap) (locs1 : List Loc), HD g A (va_up M a (.inl (cA, n, .inr (.inr (.inr (.inr (va_up f i.toNatClampNeg (some v)))))))) H1 → va_S A H0 H1 locs1 → W p l e R s m args below meth c H1 locs1 cells slots Q (F0 m (pc + 1) ls rest)) : W p l e R s m args below meth c H locs cells slots Q (F0 m pc ls (.ref v :: .int i :: .ref a :: rest)) := by
  have hlt : i.toNatClampNeg < n := Nat.not_le.mp fun q => hin (Or.inr q)
  have h0 : ¬ i < 0 := fun q => hin (Or.inl q)
  have ha : H[a]? = some (vp_cell cA (n, .inr (.inr (.inr (.inr f))))) := by
    have := hM a hA
    rw [he] at this
    exact this
  have hva : va_at g.1 vwCl (v, .inr (ci, vs)) H := by rw [← hv]; exact hM v hAv
  obtain ⟨r', hr', cellV, g1, g2, g3, -⟩ := hva
  have hcls := (hK.1 ci r hc).2
  obtain ⟨kA, comp, k1, k2, k3, -⟩ := (hK.2 t0 _ ht).2
  have hcomp : comp = g.1.1 ci := Option.some.inj (k3.symm.trans hcls.1)
  subst hcomp
  obtain ⟨kC, hkC, -⟩ := hcls.2
  refine W.aast hx hb ha (fun q h => by cases h) (fun h => by cases h) k1 k2 rfl hkC ⟨h0, by show _ < (arrV _ _ _).slots.size; rw [arrV_size]; exact hlt⟩ g1 (fun q h => by rw [g3] at h; cases h) (by rw [g2]; exact hkC) (by rw [g2]; exact va_assign hcls) rfl rfl hdg fun H1 e1 z oq => ?_
  refine kk H1 _ (hM.put ?_ oq) (hS.put z oq hA)
  show H1[a]? = some (vp_cell _ _)
  rw [e1]
  rw [vp_cell_q, vp_cell_q, arrV_store]
  congr 2
  funext q
  by_cases hq : q = i.toNatClampNeg
  · subst hq
    simp [updV, va_up, va_rf]
  · simp [updV, va_up, hq]
/-! the ends of a method -/
theorem m_iret {post : Int32 → MM → Prop} {v : Int32} (hx : p.tables.exec = Jvm.exec) (hb : c.code = cc) (hr : meth.sig.returnType = some .int) (hlk : meth.locks = false) (hK : KK g s) (hM : HD g A M H) (hS : va_S A s.heap H locs) (hdg : decode cc pc = .ok (.ireturn, 1)) (hp : post v M) : W p l e R s m args below meth c H locs cells slots (MQ below (PosI post g A) args s cells slots A) (F0 m pc ls [.int v]) :=
  W.iret hx hb hr (fun t ht hW => ⟨⟨v, M, rfl, hp, by rw [ht]; exact hM, KK.moved hW.alike hK⟩, hS.F ht⟩) hS.2.2 hdg hlk
theorem m_zret {post : Int32 → MM → Prop} {v : Int32} {ty : FieldType} (hx : p.tables.exec = Jvm.exec) (hb : c.code = cc) (hr : meth.sig.returnType = some ty) (hn : narrow ty (.int v) = .int v) (hlk : meth.locks = false) (hK : KK g s) (hM : HD g A M H) (hS : va_S A s.heap H locs) (hdg : decode cc pc = .ok (.ireturn, 1)) (hp : post v M) : W p l e R s m args below meth c H locs cells slots (MQ below (PosI post g A) args s cells slots A) (F0 m pc ls [.int v]) :=
  W.zret hx hb hr hn (fun t ht hW => ⟨⟨v, M, rfl, hp, by rw [ht]; exact hM, KK.moved hW.alike hK⟩, hS.F ht⟩) hS.2.2 hdg hlk
theorem m_vret {post : MM → Prop} (hx : p.tables.exec = Jvm.exec) (hb : c.code = cc) (hr : meth.sig.returnType = none) (hlk : meth.locks = false) (hK : KK g s) (hM : HD g A M H) (hS : va_S A s.heap H locs) (hdg : decode cc pc = .ok (.return_, 1)) (hp : post M) : W p l e R s m args below meth c H locs cells slots (MQ below (PosV post g A) args s cells slots A) (F0 m pc ls []) :=
  W.vret hx hb hr (fun t ht hW => ⟨⟨M, rfl, hp, by rw [ht]; exact hM, KK.moved hW.alike hK⟩, hS.F ht⟩) hS.2.2 hdg hlk
theorem m_aret {post : Option Nat → MM → Prop} {r : Option Nat} {v : Value} {n : String} (hv : v = va_rf r) (hx : p.tables.exec = Jvm.exec) (hb : c.code = cc) (hr : meth.sig.returnType = some (.object n)) (hlk : meth.locks = false) (hK : KK g s) (hM : HD g A M H) (hS : va_S A s.heap H locs) (hdg : decode cc pc = .ok (.areturn, 1)) (hp : post r M) : W p l e R s m args below meth c H locs cells slots (MQ below (PosQ post g A) args s cells slots A) (F0 m pc ls [v]) := by
  subst hv
  exact W.aret hx hb hr (Or.inl ⟨n, rfl⟩) (va_rf_or r) (fun t ht hW => ⟨⟨r, M, rfl, hp, by rw [ht]; exact hM, KK.moved hW.alike hK⟩, hS.F ht⟩) hS.2.2 hdg hlk
/-! calls -/
variable {y : MethodName} {bytes : ByteArray} {maxL nL n index ci : Nat} {ret : Option FieldType} {ws : List Cond} {rm : Room} {Ts : List Cond} {own C : String} {As : List Value} {st0 : List Value}
theorem preM_blind {vs : List Value} : FrameBlind (PreM vs g A M) := fun a U f mk q => ⟨q.1, q.2.1, KK.moved (u := U) (U := U.calling f mk a) (Vm.Alike.refl U.vm) q.2.2⟩
theorem m_recv (hK : KK g s) (hM : HD g A M H) (hA : A a) {fs : List Value} {q : vw_C} (he : M a = .inr (ci, fs)) (hc : vwCl[ci]? = some q) : ∃ cell : Cell, H[a]? = some cell ∧ cell.vm.isStatics = false ∧ s.vm.findClass q.1 = some cell.cls :=
  va_recv hK (hM.one hA) hc (q0 := 0) (fs := fs) (by rw [he]; rfl)
theorem m_callI {post : Int32 → MM → Prop} (S : CallFix p m c cc nL s args Ts own) (hMet : Met l y ws rm (PreM (.ref a :: As) g A M) (PosI post g A) 0 0 A) (cw : CallW R s args own C index y bytes maxL ret ws rm 0 0 n) (hK : KK g s) (hM : HD g A M H) (hS : va_S A H0 H locs) (hrc : ∃ cell : Cell, H[a]? = some cell ∧ cell.vm.isStatics = false ∧ s.vm.findClass C = some cell.cls) (hn : As.length = n) (hsz : ls.size = nL) (hst : st0 = As.reverse ++ .ref a :: rest) (hW : (rest.map fun v => v.category).sum ≤ 8) (hdg : decode cc pc = .ok (.invokevirtual index, 3)) (hf : cells ≤ R.cells ∧ slots ≤ R.slots)
    (kk : ∀ (r : Int32) (M1 : MM) (H1 : Heap) (locs1 : List Loc), post r M1 → HD g A M1 H1 → va_S A H0 H1 locs1 → W p l e R s m args below meth c H1 locs1 cells slots Q (F0 m (pc + 3) ls (.int r :: rest))) : W p l e R s m args below meth c H locs cells slots Q (F0 m pc ls st0) :=
  va_calli (va_runV (As := As) (rest := rest) S hMet cw ⟨preM_blind, hrc, fun U hU hWU => ⟨rfl, by rw [hU]; exact hM, KK.moved hWU.alike hK⟩⟩ rfl hn hsz hst (lv_room (pc := pc) (ls := ls) (rest := st0) (m := m) hW) hdg hf) hS (fun _ _ h => h) (fun _ h => h)
    (fun r u t H1 locs1 ht _ hp hB _ _ hS1 => kk r u H1 locs1 hp (by rw [← ht]; exact hB.1) hS1)
theorem m_callV {post : MM → Prop} (S : CallFix p m c cc nL s args Ts own) (hMet : Met l y ws rm (PreM (.ref a :: As) g A M) (PosV post g A) 0 0 A) (cw : CallW R s args own C index y bytes maxL ret ws rm 0 0 n) (hK : KK g s) (hM : HD g A M H) (hS : va_S A H0 H locs) (hrc : ∃ cell : Cell, H[a]? = some cell ∧ cell.vm.isStatics = false ∧ s.vm.findClass C = some cell.cls) (hn : As.length = n) (hsz : ls.size = nL) (hst : st0 = As.reverse ++ .ref a :: rest) (hW : (rest.map fun v => v.category).sum ≤ 8) (hdg : decode cc pc = .ok (.invokevirtual index, 3)) (hf : cells ≤ R.cells ∧ slots ≤ R.slots)
    (kk : ∀ (M1 : MM) (H1 : Heap) (locs1 : List Loc), post M1 → HD g A M1 H1 → va_S A H0 H1 locs1 → W p l e R s m args below meth c H1 locs1 cells slots Q (F0 m (pc + 3) ls rest)) : W p l e R s m args below meth c H locs cells slots Q (F0 m pc ls st0) :=
  va_callv (va_runV (As := As) (rest := rest) S hMet cw ⟨preM_blind, hrc, fun U hU hWU => ⟨rfl, by rw [hU]; exact hM, KK.moved hWU.alike hK⟩⟩ rfl hn hsz hst (lv_room (pc := pc) (ls := ls) (rest := st0) (m := m) hW) hdg hf) hS (fun _ _ h => h) (fun _ h => h)
    (fun u t H1 locs1 ht _ hp hB _ _ hS1 => kk u H1 locs1 hp (by rw [← ht]; exact hB.1) hS1)
theorem m_callQ {post : Option Nat → MM → Prop} (S : CallFix p m c cc nL s args Ts own) (hMet : Met l y ws rm (PreM (.ref a :: As) g A M) (PosQ post g A) 0 0 A) (cw : CallW R s args own C index y bytes maxL ret ws rm 0 0 n) (hK : KK g s) (hM : HD g A M H) (hS : va_S A H0 H locs) (hrc : ∃ cell : Cell, H[a]? = some cell ∧ cell.vm.isStatics = false ∧ s.vm.findClass C = some cell.cls) (hn : As.length = n) (hsz : ls.size = nL) (hst : st0 = As.reverse ++ .ref a :: rest) (hW : (rest.map fun v => v.category).sum ≤ 8) (hdg : decode cc pc = .ok (.invokevirtual index, 3)) (hf : cells ≤ R.cells ∧ slots ≤ R.slots)
    (kk : ∀ (r : Option Nat) (M1 : MM) (H1 : Heap) (locs1 : List Loc), post r M1 → HD g A M1 H1 → va_S A H0 H1 locs1 → W p l e R s m args below meth c H1 locs1 cells slots Q (F0 m (pc + 3) ls (va_rf r :: rest))) : W p l e R s m args below meth c H locs cells slots Q (F0 m pc ls st0) :=
  va_callq (va_runV (As := As) (rest := rest) S hMet cw ⟨preM_blind, hrc, fun U hU hWU => ⟨rfl, by rw [hU]; exact hM, KK.moved hWU.alike hK⟩⟩ rfl hn hsz hst (lv_room (pc := pc) (ls := ls) (rest := st0) (m := m) hW) hdg hf) hS (fun _ _ h => h) (fun _ h => h)
    (fun r u t H1 locs1 ht _ hp hB _ _ hS1 => kk r u H1 locs1 hp (by rw [← ht]; exact hB.1) hS1)
theorem m_callSI {post : Int32 → MM → Prop} (S : CallFix p m c cc nL s args Ts own) (hMet : Met l y ws rm (PreM As g A M) (PosI post g A) 0 0 A) (cw : CallB R s args own index y bytes maxL ret ws rm 0 0 n ∧ (Cond.static y).before args s = true) (hK : KK g s) (hM : HD g A M H) (hS : va_S A H0 H locs) (hn : As.length = n) (hsz : ls.size = nL) (hst : st0 = As.reverse ++ rest) (hW : (rest.map fun v => v.category).sum ≤ 8) (hdg : decode cc pc = .ok (.invokestatic index, 3)) (hf : cells ≤ R.cells ∧ slots ≤ R.slots)
    (kk : ∀ (r : Int32) (M1 : MM) (H1 : Heap) (locs1 : List Loc), post r M1 → HD g A M1 H1 → va_S A H0 H1 locs1 → W p l e R s m args below meth c H1 locs1 cells slots Q (F0 m (pc + 3) ls (.int r :: rest))) : W p l e R s m args below meth c H locs cells slots Q (F0 m pc ls st0) :=
  va_calli (va_runS (As := As) (rest := rest) S hMet cw ⟨preM_blind, fun U hU hWU => ⟨rfl, by rw [hU]; exact hM, KK.moved hWU.alike hK⟩⟩ rfl hn hsz hst (lv_room (pc := pc) (ls := ls) (rest := st0) (m := m) hW) hdg hf) hS (fun _ _ h => h) (fun _ h => h)
    (fun r u t H1 locs1 ht _ hp hB _ _ hS1 => kk r u H1 locs1 hp (by rw [← ht]; exact hB.1) hS1)
end ROWS
/-- a method by its walk -/
theorem mk_Met {l : Launch} {y : MethodName} {ws ws' : List Cond} {rm : Room} {cc : ByteArray} {maxL : Nat} {ret : Option FieldType} {g : GG} {A : Nat → Prop} {M : MM} {vs : List Value} {Qc : Array Value → State → Outcome → State → Prop} {mc ms : Nat} {own : String} (hw : ws = Cond.code y cc maxL ret :: ws') (hy : y.cls = own) (hpl : plainName own = true) (hlen : (lg_sl vs).length ≤ maxL)
    (body : ∀ (p : Program) (e : Env) (s : State) (m : MethodId) (below : List Frame) (meth : Method) (c : Code) (ls : Array Slot) (aa : Array Value) (Q : State → Prop), aa = vs.toArray → Q = MQ below Qc aa s mc ms A → p.tables.exec = Jvm.exec → c.code = cc → meth.sig.returnType = ret → meth.locks = false → c.maxLocals = maxL → s.vm.findClass own = some m.cls → (∀ w ∈ ws, w.before aa s = true) → KK g s → HD g A M s.heap → va_S A s.heap s.heap [] → lv_has ls maxL (lv_args 0 vs) → meth.name = y.name →
      W p l e rm s m aa below meth c s.heap [] 0 0 Q (F0 m 0 ls [])) : Met l y ws rm (PreM vs g A M) Qc mc ms A := by
  subst hy
  refine Met.ofW (cc := cc) (maxL := maxL) (ret := ret) hpl hw ?_
  intro p e s m args below meth c s₁ B hml hv
  obtain ⟨rfl, hM, hK⟩ := hv
  have hl := lv_entry vs (n := maxL) hlen
  have hts := atoms_spec (ws := ws) B.pre
  rw [lg_entry_eq]
  exact body p e s m below meth c _ _ _ rfl rfl B.exec B.bytes B.returns B.notSynchronized hml (findClass_of_methodNamed B.named) hts hK hM va_S.rf hl (name_of_methodNamed B.named B.method).1
end
section
/-! THE VALLEY: 35 cells in a row: the object b, its two arrays b+1, b+2, six gauges with their pages b+3 .. b+14, twenty runners b+15 .. b+34 (the array of runners is permuted by π). Its value: valley fields, gauge fields (page fields are 8..15), runner fields. -/
abbrev VV : Type := (Nat → Int32) × (Nat → Nat → Int32) × (Nat → Nat → Int32)
def up2 (f : Nat → Nat → Int32) (i k : Nat) (x : Int32) : Nat → Nat → Int32 := va_up f i (va_up (f i) k x)
abbrev vW (v : VV) (k : Nat) (x : Int32) : VV := (va_up v.1 k x, v.2.1, v.2.2)
abbrev vG (v : VV) (i k : Nat) (x : Int32) : VV := (v.1, up2 v.2.1 i k x, v.2.2)
abbrev vR (v : VV) (j k : Nat) (x : Int32) : VV := (v.1, v.2.1, up2 v.2.2 j k x)
abbrev gE (b i : Nat) (f : Nat → Int32) : va_E := .inr (0, [.int (f 0), .int (f 1), .int (f 2), .int (f 3), .int (f 4), .int (f 5), .int (f 6), .int (f 7), .ref (b + 4 + 2 * i)])
abbrev pE (f : Nat → Int32) : va_E := .inr (4, [.int (f 8), .int (f 9), .int (f 10), .int (f 11), .int (f 12), .int (f 13), .int (f 14), .int (f 15)])
abbrev rE (f : Nat → Int32) : va_E := .inr (5, [.int (f 0), .int (f 1), .int (f 2), .int (f 3), .int (f 4)])
abbrev wE (b : Nat) (f : Nat → Int32) : va_E := .inr (6, [.int (f 0), .int (f 1), .int (f 2), .int (f 3), .ref (b + 1), .ref (b + 2)])
abbrev gaE (g : GG) (b : Nat) : va_E := .inl (g.2 3, 6, .inr (.inr (.inr (.inr (fun i => some (b + 3 + 2 * i))))))
abbrev raE (g : GG) (b : Nat) (π : Nat → Nat) : va_E := .inl (g.2 4, 20, .inr (.inr (.inr (.inr (fun j => some (b + 15 + π j))))))
def Perm (n : Nat) (π : Nat → Nat) : Prop := (∀ j, j < n → π j < n) ∧ ∀ i j, i < n → j < n → π i = π j → i = j
def RepV (g : GG) (A : Nat → Prop) (M : MM) (b : Nat) (π : Nat → Nat) (v : VV) : Prop :=
  (∀ q, b ≤ q → q < b + 35 → A q) ∧ Perm 20 π ∧ M b = wE b v.1 ∧ M (b + 1) = gaE g b ∧ M (b + 2) = raE g b π ∧
  (∀ i, i < 6 → M (b + 3 + 2 * i) = gE b i (v.2.1 i)) ∧ (∀ i, i < 6 → M (b + 4 + 2 * i) = pE (v.2.1 i)) ∧ ∀ j, j < 20 → M (b + 15 + π j) = rE (v.2.2 j)
def EV (g : GG) (A : Nat → Prop) (M : MM) (b : Nat) (v : VV) : Prop := ∃ π, RepV g A M b π v
def FrV (b : Nat) (M0 M : MM) : Prop := ∀ q, ¬ (b ≤ q ∧ q < b + 35) → M q = M0 q
theorem FrV.rf {b : Nat} {M : MM} : FrV b M M := fun _ _ => rfl
theorem FrV.tr {b : Nat} {M0 M1 M2 : MM} (h1 : FrV b M0 M1) (h2 : FrV b M1 M2) : FrV b M0 M2 := fun q h => (h2 q h).trans (h1 q h)
section
variable {g : GG} {A : Nat → Prop} {M M0 M1 : MM} {b : Nat} {π : Nat → Nat} {v : VV}
theorem RepV.AW (h : RepV g A M b π v) : A b := h.1 b (by omega) (by omega)
theorem RepV.AGA (h : RepV g A M b π v) : A (b + 1) := h.1 _ (by omega) (by omega)
theorem RepV.ARA (h : RepV g A M b π v) : A (b + 2) := h.1 _ (by omega) (by omega)
theorem RepV.AG (h : RepV g A M b π v) {i : Nat} (hi : i < 6) : A (b + 3 + 2 * i) := h.1 _ (by omega) (by omega)
theorem RepV.AP (h : RepV g A M b π v) {i : Nat} (hi : i < 6) : A (b + 4 + 2 * i) := h.1 _ (by omega) (by omega)
theorem RepV.AR (h : RepV g A M b π v) {j : Nat} (hj : j < 20) : A (b + 15 + π j) := h.1 _ (by omega) (by have := h.2.1.1 j hj; omega)
theorem RepV.perm (h : RepV g A M b π v) : Perm 20 π := h.2.1
theorem RepV.W (h : RepV g A M b π v) : M b = wE b v.1 := h.2.2.1
theorem RepV.GA (h : RepV g A M b π v) : M (b + 1) = gaE g b := h.2.2.2.1
theorem RepV.RA (h : RepV g A M b π v) : M (b + 2) = raE g b π := h.2.2.2.2.1
theorem RepV.G (h : RepV g A M b π v) {i : Nat} (hi : i < 6) : M (b + 3 + 2 * i) = gE b i (v.2.1 i) := h.2.2.2.2.2.1 i hi
theorem RepV.P (h : RepV g A M b π v) {i : Nat} (hi : i < 6) : M (b + 4 + 2 * i) = pE (v.2.1 i) := h.2.2.2.2.2.2.1 i hi
theorem RepV.R (h : RepV g A M b π v) {j : Nat} (hj : j < 20) : M (b + 15 + π j) = rE (v.2.2 j) := h.2.2.2.2.2.2.2 j hj
theorem RepV.fr {b' : Nat} (h : RepV g A M0 b π v) (hF : FrV b' M0 M) (hd : b + 35 ≤ b' ∨ b' + 35 ≤ b) : RepV g A M b π v := by
  obtain ⟨h1, h2, h3, h4, h5, h6, h7, h8⟩ := h
  refine ⟨h1, h2, ?_, ?_, ?_, fun i hi => ?_, fun i hi => ?_, fun j hj => ?_⟩
  · rw [hF _ (by omega)]; exact h3
  · rw [hF _ (by omega)]; exact h4
  · rw [hF _ (by omega)]; exact h5
  · rw [hF _ (by omega)]; exact h6 i hi
  · rw [hF _ (by omega)]; exact h7 i hi
  · have := h2.1 j hj
    rw [hF _ (by omega)]; exact h8 j hj
theorem FrV.up (hF : FrV b M0 M) {a : Nat} {e : va_E} (h1 : b ≤ a) (h2 : a < b + 35) : FrV b M0 (va_up M a e) := fun q h => by
  rw [va_up_ne _ _ (by omega)]
  exact hF q h
theorem RepV.setW (h : RepV g A M b π v) {f : Nat → Int32} : RepV g A (va_up M b (wE b f)) b π (f, v.2) := by
  obtain ⟨h1, h2, h3, h4, h5, h6, h7, h8⟩ := h
  refine ⟨h1, h2, va_up_self _ _ _, ?_, ?_, fun i hi => ?_, fun i hi => ?_, fun j hj => ?_⟩
  · rw [va_up_ne _ _ (by omega)]; exact h4
  · rw [va_up_ne _ _ (by omega)]; exact h5
  · rw [va_up_ne _ _ (by omega)]; exact h6 i hi
  · rw [va_up_ne _ _ (by omega)]; exact h7 i hi
  · rw [va_up_ne _ _ (by omega)]; exact h8 j hj
theorem RepV.setRA (h : RepV g A M b π v) {π' : Nat → Nat} {r' : Nat → Nat → Int32} (hp : Perm 20 π') (hr : ∀ j, j < 20 → ∃ k, k < 20 ∧ π' j = π k ∧ r' j = v.2.2 k) : RepV g A (va_up M (b + 2) (raE g b π')) b π' (v.1, v.2.1, r') := by
  obtain ⟨h1, h2, h3, h4, h5, h6, h7, h8⟩ := h
  refine ⟨h1, hp, ?_, ?_, va_up_self _ _ _, fun i hi => ?_, fun i hi => ?_, fun j hj => ?_⟩
  · rw [va_up_ne _ _ (by omega)]; exact h3
  · rw [va_up_ne _ _ (by omega)]; exact h4
  · rw [va_up_ne _ _ (by omega)]; exact h6 i hi
  · rw [va_up_ne _ _ (by omega)]; exact h7 i hi
  · obtain ⟨k, hk, e1, e2⟩ := hr j hj
    rw [va_up_ne _ _ (by omega), e1]
    show M (b + 15 + π k) = rE (r' j)
    rw [e2]; exact h8 k hk
theorem RepV.setG (h : RepV g A M b π v) {i : Nat} (hi : i < 6) {f : Nat → Int32} (hf : ∀ k, ¬ k < 8 → f k = v.2.1 i k) : RepV g A (va_up M (b + 3 + 2 * i) (gE b i f)) b π (v.1, va_up v.2.1 i f, v.2.2) := by
  obtain ⟨h1, h2, h3, h4, h5, h6, h7, h8⟩ := h
  refine ⟨h1, h2, ?_, ?_, ?_, fun i' hi' => ?_, fun i' hi' => ?_, fun j hj => ?_⟩
  · rw [va_up_ne _ _ (by omega)]; exact h3
  · rw [va_up_ne _ _ (by omega)]; exact h4
  · rw [va_up_ne _ _ (by omega)]; exact h5
  · by_cases hq : i' = i
    · subst hq
      rw [va_up_self]
      show _ = gE b i' (va_up v.2.1 i' f i')
      rw [va_up_self]
    · rw [va_up_ne _ _ (by omega)]
      show _ = gE b i' (va_up v.2.1 i f i')
      rw [va_up_ne _ _ hq]
      exact h6 i' hi'
  · rw [va_up_ne _ _ (by omega)]
    show _ = pE (va_up v.2.1 i f i')
    by_cases hq : i' = i
    · subst hq
      rw [va_up_self, h7 i' hi']
      simp only [pE, hf _ (show ¬ 8 < 8 by omega), hf _ (show ¬ 9 < 8 by omega), hf _ (show ¬ 10 < 8 by omega), hf _ (show ¬ 11 < 8 by omega), hf _ (show ¬ 12 < 8 by omega), hf _ (show ¬ 13 < 8 by omega), hf _ (show ¬ 14 < 8 by omega), hf _ (show ¬ 15 < 8 by omega)]
    · rw [va_up_ne _ _ hq]
      exact h7 i' hi'
  · have := h2.1 j hj
    rw [va_up_ne _ _ (by omega)]; exact h8 j hj
theorem RepV.setP (h : RepV g A M b π v) {i : Nat} (hi : i < 6) {f : Nat → Int32} (hf : ∀ k, k < 8 → f k = v.2.1 i k) : RepV g A (va_up M (b + 4 + 2 * i) (pE f)) b π (v.1, va_up v.2.1 i f, v.2.2) := by
  obtain ⟨h1, h2, h3, h4, h5, h6, h7, h8⟩ := h
  refine ⟨h1, h2, ?_, ?_, ?_, fun i' hi' => ?_, fun i' hi' => ?_, fun j hj => ?_⟩
  · rw [va_up_ne _ _ (by omega)]; exact h3
  · rw [va_up_ne _ _ (by omega)]; exact h4
  · rw [va_up_ne _ _ (by omega)]; exact h5
  · rw [va_up_ne _ _ (by omega)]
    show _ = gE b i' (va_up v.2.1 i f i')
    by_cases hq : i' = i
    · subst hq
      rw [va_up_self, h6 i' hi']
      simp only [gE, hf _ (show 0 < 8 by omega), hf _ (show 1 < 8 by omega), hf _ (show 2 < 8 by omega), hf _ (show 3 < 8 by omega), hf _ (show 4 < 8 by omega), hf _ (show 5 < 8 by omega), hf _ (show 6 < 8 by omega), hf _ (show 7 < 8 by omega)]
    · rw [va_up_ne _ _ hq]
      exact h6 i' hi'
  · by_cases hq : i' = i
    · subst hq
      rw [va_up_self]
      show _ = pE (va_up v.2.1 i' f i')
      rw [va_up_self]
    · rw [va_up_ne _ _ (by omega)]
      show _ = pE (va_up v.2.1 i f i')
      rw [va_up_ne _ _ hq]
      exact h7 i' hi'
  · have := h2.1 j hj
    rw [va_up_ne _ _ (by omega)]; exact h8 j hj
theorem RepV.setR (h : RepV g A M b π v) {j : Nat} (hj : j < 20) {f : Nat → Int32} : RepV g A (va_up M (b + 15 + π j) (rE f)) b π (v.1, v.2.1, va_up v.2.2 j f) := by
  obtain ⟨h1, h2, h3, h4, h5, h6, h7, h8⟩ := h
  refine ⟨h1, h2, ?_, ?_, ?_, fun i hi => ?_, fun i hi => ?_, fun j' hj' => ?_⟩
  · rw [va_up_ne _ _ (by omega)]; exact h3
  · rw [va_up_ne _ _ (by omega)]; exact h4
  · rw [va_up_ne _ _ (by omega)]; exact h5
  · rw [va_up_ne _ _ (by omega)]; exact h6 i hi
  · rw [va_up_ne _ _ (by omega)]; exact h7 i hi
  · by_cases hq : j' = j
    · subst hq
      rw [va_up_self]
      show _ = rE (va_up v.2.2 j' f j')
      rw [va_up_self]
    · have hne : π j' ≠ π j := fun z => hq (h2.2 j' j hj' hj z)
      rw [va_up_ne _ _ (by omega)]
      show _ = rE (va_up v.2.2 j f j')
      rw [va_up_ne _ _ hq]
      exact h8 j' hj'
theorem wE_up {f : Nat → Int32} {k : Nat} (hk : k < 4) (x : Int32) : (Sum.inr (6, ([.int (f 0), .int (f 1), .int (f 2), .int (f 3), .ref (b + 1), .ref (b + 2)] : List Value).set k (.int x)) : va_E) = wE b (va_up f k x) := by
  match k, hk with
  | 0, _ => rfl
  | 1, _ => rfl
  | 2, _ => rfl
  | 3, _ => rfl
theorem gE_up {i : Nat} {f : Nat → Int32} {k : Nat} (hk : k < 8) (x : Int32) : (Sum.inr (0, ([.int (f 0), .int (f 1), .int (f 2), .int (f 3), .int (f 4), .int (f 5), .int (f 6), .int (f 7), .ref (b + 4 + 2 * i)] : List Value).set k (.int x)) : va_E) = gE b i (va_up f k x) := by
  match k, hk with
  | 0, _ => rfl
  | 1, _ => rfl
  | 2, _ => rfl
  | 3, _ => rfl
  | 4, _ => rfl
  | 5, _ => rfl
  | 6, _ => rfl
  | 7, _ => rfl
theorem pE_up {f : Nat → Int32} {k : Nat} (hk : k < 8) (x : Int32) : (Sum.inr (4, ([.int (f 8), .int (f 9), .int (f 10), .int (f 11), .int (f 12), .int (f 13), .int (f 14), .int (f 15)] : List Value).set k (.int x)) : va_E) = pE (va_up f (8 + k) x) := by
  match k, hk with
  | 0, _ => rfl
  | 1, _ => rfl
  | 2, _ => rfl
  | 3, _ => rfl
  | 4, _ => rfl
  | 5, _ => rfl
  | 6, _ => rfl
  | 7, _ => rfl
theorem rE_up {f : Nat → Int32} {k : Nat} (hk : k < 5) (x : Int32) : (Sum.inr (5, ([.int (f 0), .int (f 1), .int (f 2), .int (f 3), .int (f 4)] : List Value).set k (.int x)) : va_E) = rE (va_up f k x) := by
  match k, hk with
  | 0, _ => rfl
  | 1, _ => rfl
  | 2, _ => rfl
  | 3, _ => rfl
  | 4, _ => rfl
end
section VROWS
variable {p : Program} {l : Launch} {e : Env} {R : Room} {s : State} {m : MethodId} {args : Array Value} {below : List Frame} {meth : Method} {c : Code} {H H0 : Heap} {locs : List Loc} {cells slots : Nat} {Q : State → Prop} {cc : ByteArray} {pc : Nat} {ls : Array Slot} {rest : List Value} {g : GG} {A : Nat → Prop} {M M0 : MM} {own : String} {index : Nat} {Ts : List Cond} {b : Nat} {π : Nat → Nat} {v : VV}
theorem rv_getW (hx : p.tables.exec = Jvm.exec) (hb : c.code = cc) (hts : ∀ w ∈ Ts, w.before args s = true) (hin : ∀ w ∈ u_ws RX6 TX6 6, w ∈ Ts) (hown : s.vm.findClass own = some m.cls) (hK : KK g s) (hM : HD g A M H) (hR : RepV g A M b π v) (k : Nat) (hk : k < 4) (hlink : (Cond.fieldLink own index (TX6 k).1 (TX6 k).2.1 (TX6 k).2.2.1).before args s = true) (hdg : decode cc pc = .ok (.getfield index, 3)) (kk : W p l e R s m args below meth c H locs cells slots Q (F0 m (pc + 3) ls (.int (v.1 k) :: rest))) : W p l e R s m args below meth c H locs cells slots Q (F0 m pc ls (.ref (b) :: rest)) :=
  m_get (ci := 6) (C := RX6) (T := TX6) (N := 6) hx hb hts hin hown hK hM hR.AW hR.W rfl k (by omega) hlink (by match k, hk with
    | 0, _ => rfl
    | 1, _ => rfl
    | 2, _ => rfl
    | 3, _ => rfl) hdg kk
theorem rv_getG (hx : p.tables.exec = Jvm.exec) (hb : c.code = cc) (hts : ∀ w ∈ Ts, w.before args s = true) (hin : ∀ w ∈ u_ws RX0 TX0 9, w ∈ Ts) (hown : s.vm.findClass own = some m.cls) (hK : KK g s) (hM : HD g A M H) (hR : RepV g A M b π v) {i : Nat} (hi : i < 6) (k : Nat) (hk : k < 8) (hlink : (Cond.fieldLink own index (TX0 k).1 (TX0 k).2.1 (TX0 k).2.2.1).before args s = true) (hdg : decode cc pc = .ok (.getfield index, 3)) (kk : W p l e R s m args below meth c H locs cells slots Q (F0 m (pc + 3) ls (.int (v.2.1 i k) :: rest))) : W p l e R s m args below meth c H locs cells slots Q (F0 m pc ls (.ref (b + 3 + 2 * i) :: rest)) :=
  m_get (ci := 0) (C := RX0) (T := TX0) (N := 9) hx hb hts hin hown hK hM (hR.AG hi) (hR.G hi) rfl k (by omega) hlink (by match k, hk with
    | 0, _ => rfl
    | 1, _ => rfl
    | 2, _ => rfl
    | 3, _ => rfl
    | 4, _ => rfl
    | 5, _ => rfl
    | 6, _ => rfl
    | 7, _ => rfl) hdg kk
theorem rv_getP (hx : p.tables.exec = Jvm.exec) (hb : c.code = cc) (hts : ∀ w ∈ Ts, w.before args s = true) (hin : ∀ w ∈ u_ws RX4 TX4 8, w ∈ Ts) (hown : s.vm.findClass own = some m.cls) (hK : KK g s) (hM : HD g A M H) (hR : RepV g A M b π v) {i : Nat} (hi : i < 6) (k : Nat) (hk : k < 8) (hlink : (Cond.fieldLink own index (TX4 k).1 (TX4 k).2.1 (TX4 k).2.2.1).before args s = true) (hdg : decode cc pc = .ok (.getfield index, 3)) (kk : W p l e R s m args below meth c H locs cells slots Q (F0 m (pc + 3) ls (.int (v.2.1 i (8 + k)) :: rest))) : W p l e R s m args below meth c H locs cells slots Q (F0 m pc ls (.ref (b + 4 + 2 * i) :: rest)) :=
  m_get (ci := 4) (C := RX4) (T := TX4) (N := 8) hx hb hts hin hown hK hM (hR.AP hi) (hR.P hi) rfl k (by omega) hlink (by match k, hk with
    | 0, _ => rfl
    | 1, _ => rfl
    | 2, _ => rfl
    | 3, _ => rfl
    | 4, _ => rfl
    | 5, _ => rfl
    | 6, _ => rfl
    | 7, _ => rfl) hdg kk
theorem rv_getR (hx : p.tables.exec = Jvm.exec) (hb : c.code = cc) (hts : ∀ w ∈ Ts, w.before args s = true) (hin : ∀ w ∈ u_ws RX5 TX5 5, w ∈ Ts) (hown : s.vm.findClass own = some m.cls) (hK : KK g s) (hM : HD g A M H) (hR : RepV g A M b π v) {j : Nat} (hj : j < 20) (k : Nat) (hk : k < 5) (hlink : (Cond.fieldLink own index (TX5 k).1 (TX5 k).2.1 (TX5 k).2.2.1).before args s = true) (hdg : decode cc pc = .ok (.getfield index, 3)) (kk : W p l e R s m args below meth c H locs cells slots Q (F0 m (pc + 3) ls (.int (v.2.2 j k) :: rest))) : W p l e R s m args below meth c H locs cells slots Q (F0 m pc ls (.ref (b + 15 + π j) :: rest)) :=
  m_get (ci := 5) (C := RX5) (T := TX5) (N := 5) hx hb hts hin hown hK hM (hR.AR hj) (hR.R hj) rfl k (by omega) hlink (by match k, hk with
    | 0, _ => rfl
    | 1, _ => rfl
    | 2, _ => rfl
    | 3, _ => rfl
    | 4, _ => rfl) hdg kk
theorem rv_putW (hx : p.tables.exec = Jvm.exec) (hb : c.code = cc) (hts : ∀ w ∈ Ts, w.before args s = true) (hin : ∀ w ∈ u_ws RX6 TX6 6, w ∈ Ts) (hown : s.vm.findClass own = some m.cls) (hK : KK g s) (hM : HD g A M H) (hS : va_S A H0 H locs) (hR : RepV g A M b π v) (hF : FrV b M0 M) (k : Nat) (hk : k < 4) (hlink : (Cond.fieldLink own index (TX6 k).1 (TX6 k).2.1 (TX6 k).2.2.1).before args s = true) {x : Int32} (hdg : decode cc pc = .ok (.putfield index, 3)) (kk : ∀ (M1 : MM) (H1 : Heap) (locs1 : List Loc), HD g A M1 H1 → RepV g A M1 b π (vW v k x) → FrV b M0 M1 → va_S A H0 H1 locs1 → W p l e R s m args below meth c H1 locs1 cells slots Q (F0 m (pc + 3) ls rest)) : W p l e R s m args below meth c H locs cells slots Q (F0 m pc ls (.int x :: .ref (b) :: rest)) := by
  have e1 : (TX6 k).2.2.2 = false ∧ tyX6 k = .int := by
    match k, hk with
    | 0, _ => exact ⟨rfl, rfl⟩
    | 1, _ => exact ⟨rfl, rfl⟩
    | 2, _ => exact ⟨rfl, rfl⟩
    | 3, _ => exact ⟨rfl, rfl⟩
  refine m_put (ci := 6) (C := RX6) (T := TX6) (N := 6) hx hb hts hin tyX6 tyX6_ok nmX6 hown hK hM hS hR.AW hR.W rfl k (by omega) hlink e1.1 (by rw [e1.2]; rfl) (by rw [e1.2]; rfl) (by simp; omega) hdg (fun H1 locs1 hM1 hS1 => ?_)
  rw [wE_up hk x] at hM1
  exact kk _ H1 locs1 hM1 (hR.setW) (hF.up (by omega) (by omega)) hS1
theorem rv_putG (hx : p.tables.exec = Jvm.exec) (hb : c.code = cc) (hts : ∀ w ∈ Ts, w.before args s = true) (hin : ∀ w ∈ u_ws RX0 TX0 9, w ∈ Ts) (hown : s.vm.findClass own = some m.cls) (hK : KK g s) (hM : HD g A M H) (hS : va_S A H0 H locs) (hR : RepV g A M b π v) (hF : FrV b M0 M) {i : Nat} (hi : i < 6) (k : Nat) (hk : k < 8) (hlink : (Cond.fieldLink own index (TX0 k).1 (TX0 k).2.1 (TX0 k).2.2.1).before args s = true) {x : Int32} (hdg : decode cc pc = .ok (.putfield index, 3)) (kk : ∀ (M1 : MM) (H1 : Heap) (locs1 : List Loc), HD g A M1 H1 → RepV g A M1 b π (vG v i k x) → FrV b M0 M1 → va_S A H0 H1 locs1 → W p l e R s m args below meth c H1 locs1 cells slots Q (F0 m (pc + 3) ls rest)) : W p l e R s m args below meth c H locs cells slots Q (F0 m pc ls (.int x :: .ref (b + 3 + 2 * i) :: rest)) := by
  have e1 : (TX0 k).2.2.2 = false ∧ tyX0 k = .int := by
    match k, hk with
    | 0, _ => exact ⟨rfl, rfl⟩
    | 1, _ => exact ⟨rfl, rfl⟩
    | 2, _ => exact ⟨rfl, rfl⟩
    | 3, _ => exact ⟨rfl, rfl⟩
    | 4, _ => exact ⟨rfl, rfl⟩
    | 5, _ => exact ⟨rfl, rfl⟩
    | 6, _ => exact ⟨rfl, rfl⟩
    | 7, _ => exact ⟨rfl, rfl⟩
  refine m_put (ci := 0) (C := RX0) (T := TX0) (N := 9) hx hb hts hin tyX0 tyX0_ok nmX0 hown hK hM hS (hR.AG hi) (hR.G hi) rfl k (by omega) hlink e1.1 (by rw [e1.2]; rfl) (by rw [e1.2]; rfl) (by simp; omega) hdg (fun H1 locs1 hM1 hS1 => ?_)
  rw [gE_up hk x] at hM1
  exact kk _ H1 locs1 hM1 (hR.setG hi (fun q hq => va_up_ne _ _ (by omega))) (hF.up (by omega) (by omega)) hS1
theorem rv_putP (hx : p.tables.exec = Jvm.exec) (hb : c.code = cc) (hts : ∀ w ∈ Ts, w.before args s = true) (hin : ∀ w ∈ u_ws RX4 TX4 8, w ∈ Ts) (hown : s.vm.findClass own = some m.cls) (hK : KK g s) (hM : HD g A M H) (hS : va_S A H0 H locs) (hR : RepV g A M b π v) (hF : FrV b M0 M) {i : Nat} (hi : i < 6) (k : Nat) (hk : k < 8) (hlink : (Cond.fieldLink own index (TX4 k).1 (TX4 k).2.1 (TX4 k).2.2.1).before args s = true) {x : Int32} (hdg : decode cc pc = .ok (.putfield index, 3)) (kk : ∀ (M1 : MM) (H1 : Heap) (locs1 : List Loc), HD g A M1 H1 → RepV g A M1 b π (vG v i (8 + k) x) → FrV b M0 M1 → va_S A H0 H1 locs1 → W p l e R s m args below meth c H1 locs1 cells slots Q (F0 m (pc + 3) ls rest)) : W p l e R s m args below meth c H locs cells slots Q (F0 m pc ls (.int x :: .ref (b + 4 + 2 * i) :: rest)) := by
  have e1 : (TX4 k).2.2.2 = false ∧ tyX4 k = .int := by
    match k, hk with
    | 0, _ => exact ⟨rfl, rfl⟩
    | 1, _ => exact ⟨rfl, rfl⟩
    | 2, _ => exact ⟨rfl, rfl⟩
    | 3, _ => exact ⟨rfl, rfl⟩
    | 4, _ => exact ⟨rfl, rfl⟩
    | 5, _ => exact ⟨rfl, rfl⟩
    | 6, _ => exact ⟨rfl, rfl⟩
    | 7, _ => exact ⟨rfl, rfl⟩
  refine m_put (ci := 4) (C := RX4) (T := TX4) (N := 8) hx hb hts hin tyX4 tyX4_ok nmX4 hown hK hM hS (hR.AP hi) (hR.P hi) rfl k (by omega) hlink e1.1 (by rw [e1.2]; rfl) (by rw [e1.2]; rfl) (by simp; omega) hdg (fun H1 locs1 hM1 hS1 => ?_)
  rw [pE_up hk x] at hM1
  exact kk _ H1 locs1 hM1 (hR.setP hi (fun q hq => va_up_ne _ _ (by omega))) (hF.up (by omega) (by omega)) hS1
theorem rv_putR (hx : p.tables.exec = Jvm.exec) (hb : c.code = cc) (hts : ∀ w ∈ Ts, w.before args s = true) (hin : ∀ w ∈ u_ws RX5 TX5 5, w ∈ Ts) (hown : s.vm.findClass own = some m.cls) (hK : KK g s) (hM : HD g A M H) (hS : va_S A H0 H locs) (hR : RepV g A M b π v) (hF : FrV b M0 M) {j : Nat} (hj : j < 20) (k : Nat) (hk : k < 5) (hlink : (Cond.fieldLink own index (TX5 k).1 (TX5 k).2.1 (TX5 k).2.2.1).before args s = true) {x : Int32} (hdg : decode cc pc = .ok (.putfield index, 3)) (kk : ∀ (M1 : MM) (H1 : Heap) (locs1 : List Loc), HD g A M1 H1 → RepV g A M1 b π (vR v j k x) → FrV b M0 M1 → va_S A H0 H1 locs1 → W p l e R s m args below meth c H1 locs1 cells slots Q (F0 m (pc + 3) ls rest)) : W p l e R s m args below meth c H locs cells slots Q (F0 m pc ls (.int x :: .ref (b + 15 + π j) :: rest)) := by
  have e1 : (TX5 k).2.2.2 = false ∧ tyX5 k = .int := by
    match k, hk with
    | 0, _ => exact ⟨rfl, rfl⟩
    | 1, _ => exact ⟨rfl, rfl⟩
    | 2, _ => exact ⟨rfl, rfl⟩
    | 3, _ => exact ⟨rfl, rfl⟩
    | 4, _ => exact ⟨rfl, rfl⟩
  refine m_put (ci := 5) (C := RX5) (T := TX5) (N := 5) hx hb hts hin tyX5 tyX5_ok nmX5 hown hK hM hS (hR.AR hj) (hR.R hj) rfl k (by omega) hlink e1.1 (by rw [e1.2]; rfl) (by rw [e1.2]; rfl) (by simp; omega) hdg (fun H1 locs1 hM1 hS1 => ?_)
  rw [rE_up hk x] at hM1
  exact kk _ H1 locs1 hM1 (hR.setR hj) (hF.up (by omega) (by have := hR.perm.1 j hj; omega)) hS1
theorem rv_getga (hx : p.tables.exec = Jvm.exec) (hb : c.code = cc) (hts : ∀ w ∈ Ts, w.before args s = true) (hin : ∀ w ∈ u_ws RX6 TX6 6, w ∈ Ts) (hown : s.vm.findClass own = some m.cls) (hK : KK g s) (hM : HD g A M H) (hR : RepV g A M b π v) (hlink : (Cond.fieldLink own index (TX6 4).1 (TX6 4).2.1 (TX6 4).2.2.1).before args s = true) (hdg : decode cc pc = .ok (.getfield index, 3)) (kk : W p l e R s m args below meth c H locs cells slots Q (F0 m (pc + 3) ls (.ref (b + 1) :: rest))) : W p l e R s m args below meth c H locs cells slots Q (F0 m pc ls (.ref b :: rest)) :=
  m_get (ci := 6) (C := RX6) (T := TX6) (N := 6) hx hb hts hin hown hK hM hR.AW hR.W rfl 4 (by omega) hlink rfl hdg kk
theorem rv_getra (hx : p.tables.exec = Jvm.exec) (hb : c.code = cc) (hts : ∀ w ∈ Ts, w.before args s = true) (hin : ∀ w ∈ u_ws RX6 TX6 6, w ∈ Ts) (hown : s.vm.findClass own = some m.cls) (hK : KK g s) (hM : HD g A M H) (hR : RepV g A M b π v) (hlink : (Cond.fieldLink own index (TX6 5).1 (TX6 5).2.1 (TX6 5).2.2.1).before args s = true) (hdg : decode cc pc = .ok (.getfield index, 3)) (kk : W p l e R s m args below meth c H locs cells slots Q (F0 m (pc + 3) ls (.ref (b + 2) :: rest))) : W p l e R s m args below meth c H locs cells slots Q (F0 m pc ls (.ref b :: rest)) :=
  m_get (ci := 6) (C := RX6) (T := TX6) (N := 6) hx hb hts hin hown hK hM hR.AW hR.W rfl 5 (by omega) hlink rfl hdg kk
theorem rv_getpg (hx : p.tables.exec = Jvm.exec) (hb : c.code = cc) (hts : ∀ w ∈ Ts, w.before args s = true) (hin : ∀ w ∈ u_ws RX0 TX0 9, w ∈ Ts) (hown : s.vm.findClass own = some m.cls) (hK : KK g s) (hM : HD g A M H) (hR : RepV g A M b π v) {i : Nat} (hi : i < 6) (hlink : (Cond.fieldLink own index (TX0 8).1 (TX0 8).2.1 (TX0 8).2.2.1).before args s = true) (hdg : decode cc pc = .ok (.getfield index, 3)) (kk : W p l e R s m args below meth c H locs cells slots Q (F0 m (pc + 3) ls (.ref (b + 4 + 2 * i) :: rest))) : W p l e R s m args below meth c H locs cells slots Q (F0 m pc ls (.ref (b + 3 + 2 * i) :: rest)) :=
  m_get (ci := 0) (C := RX0) (T := TX0) (N := 9) hx hb hts hin hown hK hM (hR.AG hi) (hR.G hi) rfl 8 (by omega) hlink rfl hdg kk
theorem ald_ix {f : Nat → Option Nat} {i a : Nat} (hi : i < 2 ^ 31) (h : f i = some a) : va_rf (f (nI i).toNatClampNeg) = .ref a := by
  rw [nI_clamp hi, h]
  rfl
theorem rv_aldG (hx : p.tables.exec = Jvm.exec) (hb : c.code = cc) (hK : KK g s) (hM : HD g A M H) (hR : RepV g A M b π v) {i : Nat} (hi : i < 6) (hdg : decode cc pc = .ok (.aaload, 1)) (kk : W p l e R s m args below meth c H locs cells slots Q (F0 m (pc + 1) ls (.ref (b + 3 + 2 * i) :: rest))) : W p l e R s m args below meth c H locs cells slots Q (F0 m pc ls (.int (nI i) :: .ref (b + 1) :: rest)) :=
  m_aald hx hb hK hM hR.AGA 3 hR.GA rfl (vp_in_nI hi (by omega)) (r := .ref (b + 3 + 2 * i)) (by rw [nI_clamp (by omega)]; rfl) hdg kk
theorem rv_aldR (hx : p.tables.exec = Jvm.exec) (hb : c.code = cc) (hK : KK g s) (hM : HD g A M H) (hR : RepV g A M b π v) {j : Nat} (hj : j < 20) (hdg : decode cc pc = .ok (.aaload, 1)) (kk : W p l e R s m args below meth c H locs cells slots Q (F0 m (pc + 1) ls (.ref (b + 15 + π j) :: rest))) : W p l e R s m args below meth c H locs cells slots Q (F0 m pc ls (.int (nI j) :: .ref (b + 2) :: rest)) :=
  m_aald hx hb hK hM hR.ARA 4 hR.RA rfl (vp_in_nI hj (by omega)) (r := .ref (b + 15 + π j)) (by rw [nI_clamp (by omega)]; rfl) hdg kk
theorem rv_lenG (hx : p.tables.exec = Jvm.exec) (hb : c.code = cc) (hK : KK g s) (hM : HD g A M H) (hR : RepV g A M b π v) (hdg : decode cc pc = .ok (.arraylength, 1)) (kk : W p l e R s m args below meth c H locs cells slots Q (F0 m (pc + 1) ls (.int (nI 6) :: rest))) : W p l e R s m args below meth c H locs cells slots Q (F0 m pc ls (.ref (b + 1) :: rest)) :=
  m_alen hx hb hK hM hR.AGA 3 hR.GA rfl rfl hdg kk
theorem rv_lenR (hx : p.tables.exec = Jvm.exec) (hb : c.code = cc) (hK : KK g s) (hM : HD g A M H) (hR : RepV g A M b π v) (hdg : decode cc pc = .ok (.arraylength, 1)) (kk : W p l e R s m args below meth c H locs cells slots Q (F0 m (pc + 1) ls (.int (nI 20) :: rest))) : W p l e R s m args below meth c H locs cells slots Q (F0 m pc ls (.ref (b + 2) :: rest)) :=
  m_alen hx hb hK hM hR.ARA 4 hR.RA rfl rfl hdg kk
/-! calls by what they do to the valley -/
variable {a : Nat} {y : MethodName} {bytes : ByteArray} {maxL nL n : Nat} {ret : Option FieldType} {ws : List Cond} {rm : Room} {C : String} {As : List Value} {st0 : List Value}
theorem m_callRI {val : Int32} (S : CallFix p m c cc nL s args Ts own) (hMet : Met l y ws rm (PreM (.ref a :: As) g A M) (PosI (fun r M1 => r = val ∧ M1 = M) g A) 0 0 A) (cw : CallW R s args own C index y bytes maxL ret ws rm 0 0 n) (hK : KK g s) (hM : HD g A M H) (hS : va_S A H0 H locs) (hrc : ∃ cell : Cell, H[a]? = some cell ∧ cell.vm.isStatics = false ∧ s.vm.findClass C = some cell.cls) (hn : As.length = n) (hsz : ls.size = nL) (hst : st0 = As.reverse ++ .ref a :: rest) (hW : (rest.map fun v => v.category).sum ≤ 8) (hdg : decode cc pc = .ok (.invokevirtual index, 3)) (hf : cells ≤ R.cells ∧ slots ≤ R.slots)
    (kk : ∀ (H1 : Heap) (locs1 : List Loc), HD g A M H1 → va_S A H0 H1 locs1 → W p l e R s m args below meth c H1 locs1 cells slots Q (F0 m (pc + 3) ls (.int val :: rest))) : W p l e R s m args below meth c H locs cells slots Q (F0 m pc ls st0) :=
  m_callI S hMet cw hK hM hS hrc hn hsz hst hW hdg hf (fun r M1 H1 locs1 hp hM1 hS1 => by
    obtain ⟨h1, h2⟩ := hp
    rw [h1]
    rw [h2] at hM1
    exact kk H1 locs1 hM1 hS1)
theorem m_callRSI {val : Int32} (S : CallFix p m c cc nL s args Ts own) (hMet : Met l y ws rm (PreM As g A M) (PosI (fun r M1 => r = val ∧ M1 = M) g A) 0 0 A) (cw : CallB R s args own index y bytes maxL ret ws rm 0 0 n ∧ (Cond.static y).before args s = true) (hK : KK g s) (hM : HD g A M H) (hS : va_S A H0 H locs) (hn : As.length = n) (hsz : ls.size = nL) (hst : st0 = As.reverse ++ rest) (hW : (rest.map fun v => v.category).sum ≤ 8) (hdg : decode cc pc = .ok (.invokestatic index, 3)) (hf : cells ≤ R.cells ∧ slots ≤ R.slots)
    (kk : ∀ (H1 : Heap) (locs1 : List Loc), HD g A M H1 → va_S A H0 H1 locs1 → W p l e R s m args below meth c H1 locs1 cells slots Q (F0 m (pc + 3) ls (.int val :: rest))) : W p l e R s m args below meth c H locs cells slots Q (F0 m pc ls st0) :=
  m_callSI S hMet cw hK hM hS hn hsz hst hW hdg hf (fun r M1 H1 locs1 hp hM1 hS1 => by
    obtain ⟨h1, h2⟩ := hp
    rw [h1]
    rw [h2] at hM1
    exact kk H1 locs1 hM1 hS1)
theorem m_callRQ {val : Option Nat} {w : Value} (hw : va_rf val = w) (S : CallFix p m c cc nL s args Ts own) (hMet : Met l y ws rm (PreM (.ref a :: As) g A M) (PosQ (fun r M1 => r = val ∧ M1 = M) g A) 0 0 A) (cw : CallW R s args own C index y bytes maxL ret ws rm 0 0 n) (hK : KK g s) (hM : HD g A M H) (hS : va_S A H0 H locs) (hrc : ∃ cell : Cell, H[a]? = some cell ∧ cell.vm.isStatics = false ∧ s.vm.findClass C = some cell.cls) (hn : As.length = n) (hsz : ls.size = nL) (hst : st0 = As.reverse ++ .ref a :: rest) (hW : (rest.map fun v => v.category).sum ≤ 8) (hdg : decode cc pc = .ok (.invokevirtual index, 3)) (hf : cells ≤ R.cells ∧ slots ≤ R.slots)
    (kk : ∀ (H1 : Heap) (locs1 : List Loc), HD g A M H1 → va_S A H0 H1 locs1 → W p l e R s m args below meth c H1 locs1 cells slots Q (F0 m (pc + 3) ls (w :: rest))) : W p l e R s m args below meth c H locs cells slots Q (F0 m pc ls st0) :=
  m_callQ S hMet cw hK hM hS hrc hn hsz hst hW hdg hf (fun r M1 H1 locs1 hp hM1 hS1 => by
    obtain ⟨h1, h2⟩ := hp
    rw [h1, hw]
    rw [h2] at hM1
    exact kk H1 locs1 hM1 hS1)
end VROWS
end
section
/-! answers and values of the gauges' and the valley's methods, as the code has them -/
def gxn (n : Nat) (x : Int32) : Option Nat := if x < 0 ∨ n ≤ x.toNatClampNeg then none else some x.toNatClampNeg
theorem gxn_cases {n : Nat} (hn : n < 2 ^ 31) (x : Int32) : (gxn n x = none ∧ (x < 0 ∨ nI n ≤ x)) ∨ ∃ i, i < n ∧ x = nI i ∧ gxn n x = some i := by
  rcases pk_ix x hn with h | h | ⟨j, hj, rfl⟩
  · exact Or.inl ⟨by unfold gxn; rw [if_pos (Or.inl h)], Or.inl h⟩
  · refine Or.inl ⟨?_, Or.inr h⟩
    unfold gxn
    by_cases h0 : x < 0
    · rw [if_pos (Or.inl h0)]
    · obtain ⟨j, hj, rfl⟩ := nI_of h0
      rw [if_pos (Or.inr ?_)]
      rw [nI_clamp hj]
      exact (nI_leI hn hj).mp h
  · exact Or.inr ⟨j, hj, rfl, by unfold gxn; rw [if_neg (fun q => vp_in_nI hj hn q), nI_clamp (by omega)]⟩
def fellC (v : VV) (i : Nat) (am : Int32) : Int32 := am * v.2.1 i 0 * v.2.1 i 2 / 100
def tipC (v : VV) (i : Nat) (am : Int32) : Int32 := if 0 < v.2.1 i 1 then (v.2.1 i 4 + fellC v i am) / v.2.1 i 1 else 0
def catT (v : VV) (i : Nat) (f t : Int32) : VV :=
  let v1 := vG v i 6 (v.2.1 i 6 + f)
  let v2 := vG v1 i 4 (v1.2.1 i 4 + f)
  let v3 := vG v2 i 4 (v2.2.1 i 4 - t * v2.2.1 i 1)
  let v4 := vG v3 i 7 (v3.2.1 i 7 + t * v3.2.1 i 1)
  vG v4 i 5 (v4.2.1 i 5 + t)
def catC (v : VV) (i : Nat) (am : Int32) : VV := catT v i (fellC v i am) (tipC v i am)
theorem catch_end {g : GG} {A : Nat → Prop} {M0 M1 : MM} {b : Nat} {π : Nat → Nat} {v : VV} {i : Nat} {am f t : Int32} (hf : f = fellC v i am) (ht : t = tipC v i am) (hR : RepV g A M1 b π (catT v i f t)) (hF : FrV b M0 M1) : t = tipC v i am ∧ RepV g A M1 b π (catC v i am) ∧ FrV b M0 M1 := by
  subst hf
  subst ht
  exact ⟨rfl, hR, hF⟩
theorem Int32_nle {x y : Int32} : ¬ x ≤ y ↔ y < x := Int32.not_le
theorem Int32_nlt {x y : Int32} : ¬ x < y ↔ y ≤ x := Int32.not_lt
theorem c_nz {x : Int32} (h : ¬ x ≤ 0) : ¬ x = 0 := fun q => h (by rw [q]; decide)
theorem ite10 {P : Prop} [Decidable P] : ((if P then (1 : Int32) else 0) = 0) ↔ ¬ P := by
  by_cases h : P
  · simp [h]
  · simp [h]
def whC (v : VV) (t : Int32) : Int32 := if 0 < v.1 0 then t - t / v.1 0 * v.1 0 else 0
end
section
set_option maxHeartbeats 4000000 in
set_option maxRecDepth 100000 in
/-- the gap of a gauge -/
theorem k_X0_gap (l : Launch) (g : GG) (A : Nat → Prop) (M0 : MM) (b : Nat) (π : Nat → Nat) (v : VV) (i : Nat) (hR : RepV g A M0 b π v) (hi : i < 6) : Met l yX0_gap (Uw yX0_gap cX0_gap 1 (Option.some ClassFile.FieldType.int)) (rmD 0) (PreM [.ref (b + 3 + 2 * i)] g A M0) (PosI (fun r M1 => r = (v.2.1 i 5 - v.2.1 i 8) ∧ M1 = M0) g A) 0 0 A := by
  refine mk_Met (own := RX0) rfl rfl (by decide) (Nat.le_of_ble_eq_true rfl) ?_
  intro p e s m below meth c ls aa Q haa hQ hx hb hr hlk hml hown hts hK hM hS hl hnm
  obtain ⟨M, hMM⟩ : ∃ M, M = M0 := ⟨_, rfl⟩
  rw [← hMM] at hM hR
  have ht : ∀ w ∈ lw_good, w.before _ s = true := fun w h => hts w (List.mem_cons_of_mem _ h)
  have hF : FrV b M0 M := by rw [hMM]; exact FrV.rf
  have hl : lv_has ls 1 [(0, .ref (b + 3 + 2 * i))] := hl
  refine lv_aload_n hx hb dX0_gap_0 rfl (lv_at hl 0 rfl) ?_
  refine rv_getG hx hb ht ui_X0 hown hK hM hR hi 5 (by decide) (ht _ uw_130) dX0_gap_1 ?_
  refine lv_aload_n hx hb dX0_gap_4 rfl (lv_at hl 0 rfl) ?_
  refine rv_getpg hx hb ht ui_X0 hown hK hM hR hi (ht _ uw_136) dX0_gap_5 ?_
  refine rv_getP hx hb ht ui_X4 hown hK hM hR hi 0 (by decide) (ht _ uw_74) dX0_gap_8 ?_
  refine lv_isub hx hb dX0_gap_11 ?_
  subst hQ
  exact m_zret hx hb hr rfl hlk hK hM hS dX0_gap_12 (⟨rfl, hMM⟩)

set_option maxHeartbeats 4000000 in
set_option maxRecDepth 100000 in
/-- what it went on since the latest telling -/
theorem k_X0_untold (l : Launch) (g : GG) (A : Nat → Prop) (M0 : MM) (b : Nat) (π : Nat → Nat) (v : VV) (i : Nat) (hR : RepV g A M0 b π v) (hi : i < 6) : Met l yX0_untold (Uw yX0_untold cX0_untold 1 (Option.some ClassFile.FieldType.int)) (rmD 0) (PreM [.ref (b + 3 + 2 * i)] g A M0) (PosI (fun r M1 => r = (v.2.1 i 5 - v.2.1 i 10) ∧ M1 = M0) g A) 0 0 A := by
  refine mk_Met (own := RX0) rfl rfl (by decide) (Nat.le_of_ble_eq_true rfl) ?_
  intro p e s m below meth c ls aa Q haa hQ hx hb hr hlk hml hown hts hK hM hS hl hnm
  obtain ⟨M, hMM⟩ : ∃ M, M = M0 := ⟨_, rfl⟩
  rw [← hMM] at hM hR
  have ht : ∀ w ∈ lw_good, w.before _ s = true := fun w h => hts w (List.mem_cons_of_mem _ h)
  have hF : FrV b M0 M := by rw [hMM]; exact FrV.rf
  have hl : lv_has ls 1 [(0, .ref (b + 3 + 2 * i))] := hl
  refine lv_aload_n hx hb dX0_untold_0 rfl (lv_at hl 0 rfl) ?_
  refine rv_getG hx hb ht ui_X0 hown hK hM hR hi 5 (by decide) (ht _ uw_130) dX0_untold_1 ?_
  refine lv_aload_n hx hb dX0_untold_4 rfl (lv_at hl 0 rfl) ?_
  refine rv_getpg hx hb ht ui_X0 hown hK hM hR hi (ht _ uw_136) dX0_untold_5 ?_
  refine rv_getP hx hb ht ui_X4 hown hK hM hR hi 2 (by decide) (ht _ uw_81) dX0_untold_8 ?_
  refine lv_isub hx hb dX0_untold_11 ?_
  subst hQ
  exact m_zret hx hb hr rfl hlk hK hM hS dX0_untold_12 (⟨rfl, hMM⟩)

set_option maxHeartbeats 4000000 in
set_option maxRecDepth 100000 in
/-- an hour of rain for a gauge -/
theorem k_X0_catchRain (l : Launch) (g : GG) (A : Nat → Prop) (M0 : MM) (b : Nat) (π : Nat → Nat) (v : VV) (i : Nat) (am : Int32) (hR : RepV g A M0 b π v) (hi : i < 6) : Met l yX0_catchRain (Uw yX0_catchRain cX0_catchRain 4 (Option.some ClassFile.FieldType.int)) (rmD 0) (PreM [.ref (b + 3 + 2 * i), .int (am)] g A M0) (PosI (fun r M1 => r = tipC v i am ∧ RepV g A M1 b π (catC v i am) ∧ FrV b M0 M1) g A) 0 0 A := by
  refine mk_Met (own := RX0) rfl rfl (by decide) (Nat.le_of_ble_eq_true rfl) ?_
  intro p e s m below meth c ls aa Q haa hQ hx hb hr hlk hml hown hts hK hM hS hl hnm
  obtain ⟨M, hMM⟩ : ∃ M, M = M0 := ⟨_, rfl⟩
  rw [← hMM] at hM hR
  have ht : ∀ w ∈ lw_good, w.before _ s = true := fun w h => hts w (List.mem_cons_of_mem _ h)
  have hF : FrV b M0 M := by rw [hMM]; exact FrV.rf
  have hl : lv_has ls 4 [(0, .ref (b + 3 + 2 * i)), (1, .int (am))] := hl
  refine lv_iload_n hx hb dX0_catchRain_0 rfl (lv_at hl 1 rfl) ?_
  refine lv_aload_n hx hb dX0_catchRain_1 rfl (lv_at hl 0 rfl) ?_
  refine rv_getG hx hb ht ui_X0 hown hK hM hR hi 0 (by decide) (ht _ uw_115) dX0_catchRain_2 ?_
  refine lv_imul hx hb dX0_catchRain_5 ?_
  refine lv_aload_n hx hb dX0_catchRain_6 rfl (lv_at hl 0 rfl) ?_
  refine rv_getG hx hb ht ui_X0 hown hK hM hR hi 2 (by decide) (ht _ uw_121) dX0_catchRain_7 ?_
  refine lv_imul hx hb dX0_catchRain_10 ?_
  refine lv_bipush (v := 100) hx hb dX0_catchRain_11 (by first | rfl | decide) ?_
  refine lv_idiv hx hb dX0_catchRain_13 (by decide) ?_
  refine lv_topi (fun f e_f => ?_)
  refine lv_istore_n (lv' := [(2, .int (f)), (0, .ref (b + 3 + 2 * i)), (1, .int (am))]) hx hb dX0_catchRain_14 rfl hl (by decide) rfl (fun ls hl => ?_)
  refine lv_aload_n hx hb dX0_catchRain_15 rfl (lv_at hl 1 rfl) ?_
  refine lv_dup hx hb dX0_catchRain_16 rfl ?_
  refine rv_getG hx hb ht ui_X0 hown hK hM hR hi 6 (by decide) (ht _ uw_132) dX0_catchRain_17 ?_
  refine lv_iload_n hx hb dX0_catchRain_20 rfl (lv_at hl 0 rfl) ?_
  refine lv_iadd hx hb dX0_catchRain_21 ?_
  refine rv_putG hx hb ht ui_X0 hown hK hM hS hR hF hi 6 (by decide) (ht _ uw_132) dX0_catchRain_22 (fun M H locs hM hR hF hS => ?_)
  refine lv_aload_n hx hb dX0_catchRain_25 rfl (lv_at hl 1 rfl) ?_
  refine lv_dup hx hb dX0_catchRain_26 rfl ?_
  refine rv_getG hx hb ht ui_X0 hown hK hM hR hi 4 (by decide) (ht _ uw_127) dX0_catchRain_27 ?_
  refine lv_iload_n hx hb dX0_catchRain_30 rfl (lv_at hl 0 rfl) ?_
  refine lv_iadd hx hb dX0_catchRain_31 ?_
  refine rv_putG hx hb ht ui_X0 hown hK hM hS hR hF hi 4 (by decide) (ht _ uw_127) dX0_catchRain_32 (fun M H locs hM hR hF hS => ?_)
  refine lv_aload_n hx hb dX0_catchRain_35 rfl (lv_at hl 1 rfl) ?_
  refine rv_getG hx hb ht ui_X0 hown hK hM hR hi 1 (by decide) (ht _ uw_118) dX0_catchRain_36 ?_
  refine lv_if_le (tgt := 54) hx hb dX0_catchRain_39 (by decide) (fun c_39 => ?_) (fun c_39 => ?_)
  · refine lv_iconst (v := 0) hx hb dX0_catchRain_54 (by first | rfl | decide) ?_
    refine lv_topi (fun t e_t => ?_)
    refine lv_istore_n (lv' := [(3, .int (t)), (2, .int (f)), (0, .ref (b + 3 + 2 * i)), (1, .int (am))]) hx hb dX0_catchRain_55 rfl hl (by decide) rfl (fun ls hl => ?_)
    refine lv_aload_n hx hb dX0_catchRain_56 rfl (lv_at hl 2 rfl) ?_
    refine lv_dup hx hb dX0_catchRain_57 rfl ?_
    refine rv_getG hx hb ht ui_X0 hown hK hM hR hi 4 (by decide) (ht _ uw_127) dX0_catchRain_58 ?_
    refine lv_iload_n hx hb dX0_catchRain_61 rfl (lv_at hl 0 rfl) ?_
    refine lv_aload_n hx hb dX0_catchRain_62 rfl (lv_at hl 2 rfl) ?_
    refine rv_getG hx hb ht ui_X0 hown hK hM hR hi 1 (by decide) (ht _ uw_118) dX0_catchRain_63 ?_
    refine lv_imul hx hb dX0_catchRain_66 ?_
    refine lv_isub hx hb dX0_catchRain_67 ?_
    refine rv_putG hx hb ht ui_X0 hown hK hM hS hR hF hi 4 (by decide) (ht _ uw_127) dX0_catchRain_68 (fun M H locs hM hR hF hS => ?_)
    refine lv_aload_n hx hb dX0_catchRain_71 rfl (lv_at hl 2 rfl) ?_
    refine lv_dup hx hb dX0_catchRain_72 rfl ?_
    refine rv_getG hx hb ht ui_X0 hown hK hM hR hi 7 (by decide) (ht _ uw_134) dX0_catchRain_73 ?_
    refine lv_iload_n hx hb dX0_catchRain_76 rfl (lv_at hl 0 rfl) ?_
    refine lv_aload_n hx hb dX0_catchRain_77 rfl (lv_at hl 2 rfl) ?_
    refine rv_getG hx hb ht ui_X0 hown hK hM hR hi 1 (by decide) (ht _ uw_118) dX0_catchRain_78 ?_
    refine lv_imul hx hb dX0_catchRain_81 ?_
    refine lv_iadd hx hb dX0_catchRain_82 ?_
    refine rv_putG hx hb ht ui_X0 hown hK hM hS hR hF hi 7 (by decide) (ht _ uw_134) dX0_catchRain_83 (fun M H locs hM hR hF hS => ?_)
    refine lv_aload_n hx hb dX0_catchRain_86 rfl (lv_at hl 2 rfl) ?_
    refine lv_dup hx hb dX0_catchRain_87 rfl ?_
    refine rv_getG hx hb ht ui_X0 hown hK hM hR hi 5 (by decide) (ht _ uw_130) dX0_catchRain_88 ?_
    refine lv_iload_n hx hb dX0_catchRain_91 rfl (lv_at hl 0 rfl) ?_
    refine lv_iadd hx hb dX0_catchRain_92 ?_
    refine rv_putG hx hb ht ui_X0 hown hK hM hS hR hF hi 5 (by decide) (ht _ uw_130) dX0_catchRain_93 (fun M H locs hM hR hF hS => ?_)
    refine lv_iload_n hx hb dX0_catchRain_96 rfl (lv_at hl 0 rfl) ?_
    subst hQ
    exact m_zret hx hb hr rfl hlk hK hM hS dX0_catchRain_97 (catch_end e_f (e_t.trans (by unfold tipC; rw [if_neg (fun q => absurd q (Int32.not_lt.mpr (by simpa [up2, va_up] using c_39)))])) hR hF)
  · refine lv_aload_n hx hb dX0_catchRain_42 rfl (lv_at hl 1 rfl) ?_
    refine rv_getG hx hb ht ui_X0 hown hK hM hR hi 4 (by decide) (ht _ uw_127) dX0_catchRain_43 ?_
    refine lv_aload_n hx hb dX0_catchRain_46 rfl (lv_at hl 1 rfl) ?_
    refine rv_getG hx hb ht ui_X0 hown hK hM hR hi 1 (by decide) (ht _ uw_118) dX0_catchRain_47 ?_
    refine lv_idiv hx hb dX0_catchRain_50 (c_nz c_39) ?_
    refine lv_goto (tgt := 55) hx hb dX0_catchRain_51 (by decide) ?_
    refine lv_topi (fun t e_t => ?_)
    refine lv_istore_n (lv' := [(3, .int (t)), (2, .int (f)), (0, .ref (b + 3 + 2 * i)), (1, .int (am))]) hx hb dX0_catchRain_55 rfl hl (by decide) rfl (fun ls hl => ?_)
    refine lv_aload_n hx hb dX0_catchRain_56 rfl (lv_at hl 2 rfl) ?_
    refine lv_dup hx hb dX0_catchRain_57 rfl ?_
    refine rv_getG hx hb ht ui_X0 hown hK hM hR hi 4 (by decide) (ht _ uw_127) dX0_catchRain_58 ?_
    refine lv_iload_n hx hb dX0_catchRain_61 rfl (lv_at hl 0 rfl) ?_
    refine lv_aload_n hx hb dX0_catchRain_62 rfl (lv_at hl 2 rfl) ?_
    refine rv_getG hx hb ht ui_X0 hown hK hM hR hi 1 (by decide) (ht _ uw_118) dX0_catchRain_63 ?_
    refine lv_imul hx hb dX0_catchRain_66 ?_
    refine lv_isub hx hb dX0_catchRain_67 ?_
    refine rv_putG hx hb ht ui_X0 hown hK hM hS hR hF hi 4 (by decide) (ht _ uw_127) dX0_catchRain_68 (fun M H locs hM hR hF hS => ?_)
    refine lv_aload_n hx hb dX0_catchRain_71 rfl (lv_at hl 2 rfl) ?_
    refine lv_dup hx hb dX0_catchRain_72 rfl ?_
    refine rv_getG hx hb ht ui_X0 hown hK hM hR hi 7 (by decide) (ht _ uw_134) dX0_catchRain_73 ?_
    refine lv_iload_n hx hb dX0_catchRain_76 rfl (lv_at hl 0 rfl) ?_
    refine lv_aload_n hx hb dX0_catchRain_77 rfl (lv_at hl 2 rfl) ?_
    refine rv_getG hx hb ht ui_X0 hown hK hM hR hi 1 (by decide) (ht _ uw_118) dX0_catchRain_78 ?_
    refine lv_imul hx hb dX0_catchRain_81 ?_
    refine lv_iadd hx hb dX0_catchRain_82 ?_
    refine rv_putG hx hb ht ui_X0 hown hK hM hS hR hF hi 7 (by decide) (ht _ uw_134) dX0_catchRain_83 (fun M H locs hM hR hF hS => ?_)
    refine lv_aload_n hx hb dX0_catchRain_86 rfl (lv_at hl 2 rfl) ?_
    refine lv_dup hx hb dX0_catchRain_87 rfl ?_
    refine rv_getG hx hb ht ui_X0 hown hK hM hR hi 5 (by decide) (ht _ uw_130) dX0_catchRain_88 ?_
    refine lv_iload_n hx hb dX0_catchRain_91 rfl (lv_at hl 0 rfl) ?_
    refine lv_iadd hx hb dX0_catchRain_92 ?_
    refine rv_putG hx hb ht ui_X0 hown hK hM hS hR hF hi 5 (by decide) (ht _ uw_130) dX0_catchRain_93 (fun M H locs hM hR hF hS => ?_)
    refine lv_iload_n hx hb dX0_catchRain_96 rfl (lv_at hl 0 rfl) ?_
    subst hQ
    exact m_zret hx hb hr rfl hlk hK hM hS dX0_catchRain_97 (catch_end e_f (e_t.trans (by unfold tipC; rw [if_pos (Int32.not_le.mp (by simpa [up2, va_up] using c_39)), show fellC v i am = f from e_f.symm]; simp [up2, va_up])) hR hF)

set_option maxHeartbeats 4000000 in
set_option maxRecDepth 100000 in
/-- the gauge of a number -/
theorem k_X6_gaugeAt (l : Launch) (g : GG) (A : Nat → Prop) (M0 : MM) (b : Nat) (π : Nat → Nat) (v : VV) (x : Int32) (o : Option Nat) (hR : RepV g A M0 b π v) (ho : gxn 6 x = o) : Met l yX6_gaugeAt (Uw yX6_gaugeAt cX6_gaugeAt 2 (Option.some (ClassFile.FieldType.object "ToldDrops$Gauge"))) (rmD 0) (PreM [.ref (b), .int (x)] g A M0) (PosQ (fun r M1 => r = o.map (fun i => b + 3 + 2 * i) ∧ M1 = M0) g A) 0 0 A := by
  refine mk_Met (own := RX6) rfl rfl (by decide) (Nat.le_of_ble_eq_true rfl) ?_
  intro p e s m below meth c ls aa Q haa hQ hx hb hr hlk hml hown hts hK hM hS hl hnm
  obtain ⟨M, hMM⟩ : ∃ M, M = M0 := ⟨_, rfl⟩
  rw [← hMM] at hM hR
  have ht : ∀ w ∈ lw_good, w.before _ s = true := fun w h => hts w (List.mem_cons_of_mem _ h)
  have hF : FrV b M0 M := by rw [hMM]; exact FrV.rf
  have hl : lv_has ls 2 [(0, .ref (b)), (1, .int (x))] := hl
  rcases gxn_cases (n := 6) (by decide) x with ⟨e1, h1⟩ | ⟨i, hi, ex, e1⟩
  · refine lv_iload_n hx hb dX6_gaugeAt_0 rfl (lv_at hl 1 rfl) ?_
    refine lv_if_lt (tgt := 22) hx hb dX6_gaugeAt_1 (by decide) (fun c_1 => ?_) (fun c_1 => ?_)
    · refine lv_null hx hb dX6_gaugeAt_22 ?_
      subst hQ
      exact m_aret (r := none) rfl hx hb hr hlk hK hM hS dX6_gaugeAt_23 (⟨by rw [← ho, e1]; rfl, hMM⟩)
    · refine lv_iload_n hx hb dX6_gaugeAt_4 rfl (lv_at hl 1 rfl) ?_
      refine lv_aload_n hx hb dX6_gaugeAt_5 rfl (lv_at hl 0 rfl) ?_
      refine rv_getga hx hb ht ui_X6 hown hK hM hR (ht _ uw_196) dX6_gaugeAt_6 ?_
      refine rv_lenG hx hb hK hM hR dX6_gaugeAt_9 ?_
      refine lv_icmp_ge (tgt := 22) hx hb dX6_gaugeAt_10 (by decide) (fun c_10 => ?_) (fun c_10 => absurd (h1.resolve_left c_1) c_10)
      refine lv_null hx hb dX6_gaugeAt_22 ?_
      subst hQ
      exact m_aret (r := none) rfl hx hb hr hlk hK hM hS dX6_gaugeAt_23 (⟨by rw [← ho, e1]; rfl, hMM⟩)
  · subst ex
    refine lv_iload_n hx hb dX6_gaugeAt_0 rfl (lv_at hl 1 rfl) ?_
    refine lv_if_lt (tgt := 22) hx hb dX6_gaugeAt_1 (by decide) (fun c_1 => absurd c_1 (nI_pos (by omega))) (fun c_1 => ?_)
    refine lv_iload_n hx hb dX6_gaugeAt_4 rfl (lv_at hl 1 rfl) ?_
    refine lv_aload_n hx hb dX6_gaugeAt_5 rfl (lv_at hl 0 rfl) ?_
    refine rv_getga hx hb ht ui_X6 hown hK hM hR (ht _ uw_196) dX6_gaugeAt_6 ?_
    refine rv_lenG hx hb hK hM hR dX6_gaugeAt_9 ?_
    refine lv_icmp_ge (tgt := 22) hx hb dX6_gaugeAt_10 (by decide) (fun c_10 => absurd c_10 (nI_ge hi (by decide))) (fun c_10 => ?_)
    refine lv_aload_n hx hb dX6_gaugeAt_13 rfl (lv_at hl 0 rfl) ?_
    refine rv_getga hx hb ht ui_X6 hown hK hM hR (ht _ uw_196) dX6_gaugeAt_14 ?_
    refine lv_iload_n hx hb dX6_gaugeAt_17 rfl (lv_at hl 1 rfl) ?_
    refine rv_aldG hx hb hK hM hR (hi) dX6_gaugeAt_18 ?_
    refine lv_goto (tgt := 23) hx hb dX6_gaugeAt_19 (by decide) ?_
    subst hQ
    exact m_aret (r := some (b + 3 + 2 * i)) rfl hx hb hr hlk hK hM hS dX6_gaugeAt_23 (⟨by rw [← ho, e1]; rfl, hMM⟩)

set_option maxHeartbeats 4000000 in
set_option maxRecDepth 100000 in
/-- the runner of a number -/
theorem k_X6_runnerAt (l : Launch) (g : GG) (A : Nat → Prop) (M0 : MM) (b : Nat) (π : Nat → Nat) (v : VV) (x : Int32) (o : Option Nat) (hR : RepV g A M0 b π v) (ho : (if v.1 3 ≤ x then none else gxn 20 x) = o) : Met l yX6_runnerAt (Uw yX6_runnerAt cX6_runnerAt 2 (Option.some (ClassFile.FieldType.object "ToldDrops$Runner"))) (rmD 0) (PreM [.ref (b), .int (x)] g A M0) (PosQ (fun r M1 => r = o.map (fun j => b + 15 + π j) ∧ M1 = M0) g A) 0 0 A := by
  refine mk_Met (own := RX6) rfl rfl (by decide) (Nat.le_of_ble_eq_true rfl) ?_
  intro p e s m below meth c ls aa Q haa hQ hx hb hr hlk hml hown hts hK hM hS hl hnm
  obtain ⟨M, hMM⟩ : ∃ M, M = M0 := ⟨_, rfl⟩
  rw [← hMM] at hM hR
  have ht : ∀ w ∈ lw_good, w.before _ s = true := fun w h => hts w (List.mem_cons_of_mem _ h)
  have hF : FrV b M0 M := by rw [hMM]; exact FrV.rf
  have hl : lv_has ls 2 [(0, .ref (b)), (1, .int (x))] := hl
  rcases gxn_cases (n := 20) (by decide) x with ⟨e1, h1⟩ | ⟨j, hj, ex, e1⟩
  · refine lv_iload_n hx hb dX6_runnerAt_0 rfl (lv_at hl 1 rfl) ?_
    refine lv_if_lt (tgt := 30) hx hb dX6_runnerAt_1 (by decide) (fun c_1 => ?_) (fun c_1 => ?_)
    · refine lv_null hx hb dX6_runnerAt_30 ?_
      subst hQ
      exact m_aret (r := none) rfl hx hb hr hlk hK hM hS dX6_runnerAt_31 (⟨by rw [← ho]; first | (rw [if_pos c_9]; rfl) | (rw [if_neg c_9, e1]; rfl) | (rw [e1]; simp), hMM⟩)
    · refine lv_iload_n hx hb dX6_runnerAt_4 rfl (lv_at hl 1 rfl) ?_
      refine lv_aload_n hx hb dX6_runnerAt_5 rfl (lv_at hl 0 rfl) ?_
      refine rv_getW hx hb ht ui_X6 hown hK hM hR 3 (by decide) (ht _ uw_194) dX6_runnerAt_6 ?_
      refine lv_icmp_ge (tgt := 30) hx hb dX6_runnerAt_9 (by decide) (fun c_9 => ?_) (fun c_9 => ?_)
      · refine lv_null hx hb dX6_runnerAt_30 ?_
        subst hQ
        exact m_aret (r := none) rfl hx hb hr hlk hK hM hS dX6_runnerAt_31 (⟨by rw [← ho]; first | (rw [if_pos c_9]; rfl) | (rw [if_neg c_9, e1]; rfl) | (rw [e1]; simp), hMM⟩)
      · refine lv_iload_n hx hb dX6_runnerAt_12 rfl (lv_at hl 1 rfl) ?_
        refine lv_aload_n hx hb dX6_runnerAt_13 rfl (lv_at hl 0 rfl) ?_
        refine rv_getra hx hb ht ui_X6 hown hK hM hR (ht _ uw_198) dX6_runnerAt_14 ?_
        refine rv_lenR hx hb hK hM hR dX6_runnerAt_17 ?_
        refine lv_icmp_ge (tgt := 30) hx hb dX6_runnerAt_18 (by decide) (fun c_18 => ?_) (fun c_18 => absurd (h1.resolve_left c_1) c_18)
        refine lv_null hx hb dX6_runnerAt_30 ?_
        subst hQ
        exact m_aret (r := none) rfl hx hb hr hlk hK hM hS dX6_runnerAt_31 (⟨by rw [← ho]; first | (rw [if_pos c_9]; rfl) | (rw [if_neg c_9, e1]; rfl) | (rw [e1]; simp), hMM⟩)
  · subst ex
    refine lv_iload_n hx hb dX6_runnerAt_0 rfl (lv_at hl 1 rfl) ?_
    refine lv_if_lt (tgt := 30) hx hb dX6_runnerAt_1 (by decide) (fun c_1 => absurd c_1 (nI_pos (by omega))) (fun c_1 => ?_)
    refine lv_iload_n hx hb dX6_runnerAt_4 rfl (lv_at hl 1 rfl) ?_
    refine lv_aload_n hx hb dX6_runnerAt_5 rfl (lv_at hl 0 rfl) ?_
    refine rv_getW hx hb ht ui_X6 hown hK hM hR 3 (by decide) (ht _ uw_194) dX6_runnerAt_6 ?_
    refine lv_icmp_ge (tgt := 30) hx hb dX6_runnerAt_9 (by decide) (fun c_9 => ?_) (fun c_9 => ?_)
    · refine lv_null hx hb dX6_runnerAt_30 ?_
      subst hQ
      exact m_aret (r := none) rfl hx hb hr hlk hK hM hS dX6_runnerAt_31 (⟨by rw [← ho]; first | (rw [if_pos c_9]; rfl) | (rw [if_neg c_9, e1]; rfl) | (rw [e1]; simp), hMM⟩)
    · refine lv_iload_n hx hb dX6_runnerAt_12 rfl (lv_at hl 1 rfl) ?_
      refine lv_aload_n hx hb dX6_runnerAt_13 rfl (lv_at hl 0 rfl) ?_
      refine rv_getra hx hb ht ui_X6 hown hK hM hR (ht _ uw_198) dX6_runnerAt_14 ?_
      refine rv_lenR hx hb hK hM hR dX6_runnerAt_17 ?_
      refine lv_icmp_ge (tgt := 30) hx hb dX6_runnerAt_18 (by decide) (fun c_18 => absurd c_18 (nI_ge hj (by decide))) (fun c_18 => ?_)
      refine lv_aload_n hx hb dX6_runnerAt_21 rfl (lv_at hl 0 rfl) ?_
      refine rv_getra hx hb ht ui_X6 hown hK hM hR (ht _ uw_198) dX6_runnerAt_22 ?_
      refine lv_iload_n hx hb dX6_runnerAt_25 rfl (lv_at hl 1 rfl) ?_
      refine rv_aldR hx hb hK hM hR (hj) dX6_runnerAt_26 ?_
      refine lv_goto (tgt := 31) hx hb dX6_runnerAt_27 (by decide) ?_
      subst hQ
      exact m_aret (r := some (b + 15 + π j)) rfl hx hb hr hlk hK hM hS dX6_runnerAt_31 (⟨by rw [← ho]; first | (rw [if_pos c_9]; rfl) | (rw [if_neg c_9, e1]; rfl) | (rw [e1]; simp), hMM⟩)

set_option maxHeartbeats 4000000 in
set_option maxRecDepth 100000 in
/-- whether nobody more can be on the way -/
theorem k_X6_isFull (l : Launch) (g : GG) (A : Nat → Prop) (M0 : MM) (b : Nat) (π : Nat → Nat) (v : VV) (hR : RepV g A M0 b π v)  : Met l yX6_isFull (Uw yX6_isFull cX6_isFull 1 (Option.some ClassFile.FieldType.boolean)) (rmD 0) (PreM [.ref (b)] g A M0) (PosI (fun r M1 => r = (if nI 20 ≤ v.1 3 then 1 else 0) ∧ M1 = M0) g A) 0 0 A := by
  refine mk_Met (own := RX6) rfl rfl (by decide) (Nat.le_of_ble_eq_true rfl) ?_
  intro p e s m below meth c ls aa Q haa hQ hx hb hr hlk hml hown hts hK hM hS hl hnm
  obtain ⟨M, hMM⟩ : ∃ M, M = M0 := ⟨_, rfl⟩
  rw [← hMM] at hM hR
  have ht : ∀ w ∈ lw_good, w.before _ s = true := fun w h => hts w (List.mem_cons_of_mem _ h)
  have hF : FrV b M0 M := by rw [hMM]; exact FrV.rf
  have hl : lv_has ls 1 [(0, .ref (b))] := hl
  refine lv_aload_n hx hb dX6_isFull_0 rfl (lv_at hl 0 rfl) ?_
  refine rv_getW hx hb ht ui_X6 hown hK hM hR 3 (by decide) (ht _ uw_194) dX6_isFull_1 ?_
  refine lv_aload_n hx hb dX6_isFull_4 rfl (lv_at hl 0 rfl) ?_
  refine rv_getra hx hb ht ui_X6 hown hK hM hR (ht _ uw_198) dX6_isFull_5 ?_
  refine rv_lenR hx hb hK hM hR dX6_isFull_8 ?_
  refine lv_icmp_lt (tgt := 16) hx hb dX6_isFull_9 (by decide) (fun c_9 => ?_) (fun c_9 => ?_)
  · refine lv_iconst (v := 0) hx hb dX6_isFull_16 (by first | rfl | decide) ?_
    subst hQ
    exact m_zret hx hb hr rfl hlk hK hM hS dX6_isFull_17 (⟨by first | rw [if_pos (Int32.not_lt.mp c_9)] | rw [if_neg (Int32.not_le.mpr c_9)], hMM⟩)
  · refine lv_iconst (v := 1) hx hb dX6_isFull_12 (by first | rfl | decide) ?_
    refine lv_goto (tgt := 17) hx hb dX6_isFull_13 (by decide) ?_
    subst hQ
    exact m_zret hx hb hr rfl hlk hK hM hS dX6_isFull_17 (⟨by first | rw [if_pos (Int32.not_lt.mp c_9)] | rw [if_neg (Int32.not_le.mpr c_9)], hMM⟩)

set_option maxHeartbeats 4000000 in
set_option maxRecDepth 100000 in
/-- whether so many more hours can pass -/
theorem k_X6_hasTimeFor (l : Launch) (g : GG) (A : Nat → Prop) (M0 : MM) (b : Nat) (π : Nat → Nat) (v : VV) (x : Int32) (hR : RepV g A M0 b π v)  : Met l yX6_hasTimeFor (Uw yX6_hasTimeFor cX6_hasTimeFor 2 (Option.some ClassFile.FieldType.boolean)) (rmD 0) (PreM [.ref (b), .int (x)] g A M0) (PosI (fun r M1 => r = (if v.1 2 + x ≤ 9999 then 1 else 0) ∧ M1 = M0) g A) 0 0 A := by
  refine mk_Met (own := RX6) rfl rfl (by decide) (Nat.le_of_ble_eq_true rfl) ?_
  intro p e s m below meth c ls aa Q haa hQ hx hb hr hlk hml hown hts hK hM hS hl hnm
  obtain ⟨M, hMM⟩ : ∃ M, M = M0 := ⟨_, rfl⟩
  rw [← hMM] at hM hR
  have ht : ∀ w ∈ lw_good, w.before _ s = true := fun w h => hts w (List.mem_cons_of_mem _ h)
  have hF : FrV b M0 M := by rw [hMM]; exact FrV.rf
  have hl : lv_has ls 2 [(0, .ref (b)), (1, .int (x))] := hl
  refine lv_aload_n hx hb dX6_hasTimeFor_0 rfl (lv_at hl 0 rfl) ?_
  refine rv_getW hx hb ht ui_X6 hown hK hM hR 2 (by decide) (ht _ uw_192) dX6_hasTimeFor_1 ?_
  refine lv_iload_n hx hb dX6_hasTimeFor_4 rfl (lv_at hl 1 rfl) ?_
  refine lv_iadd hx hb dX6_hasTimeFor_5 ?_
  refine lv_sipush (v := 9999) hx hb dX6_hasTimeFor_6 (by first | rfl | decide) ?_
  refine lv_icmp_gt (tgt := 16) hx hb dX6_hasTimeFor_9 (by decide) (fun c_9 => ?_) (fun c_9 => ?_)
  · refine lv_iconst (v := 0) hx hb dX6_hasTimeFor_16 (by first | rfl | decide) ?_
    subst hQ
    exact m_zret hx hb hr rfl hlk hK hM hS dX6_hasTimeFor_17 (⟨by first | rw [if_pos (Int32.not_lt.mp c_9)] | rw [if_neg (Int32.not_le.mpr c_9)], hMM⟩)
  · refine lv_iconst (v := 1) hx hb dX6_hasTimeFor_12 (by first | rfl | decide) ?_
    refine lv_goto (tgt := 17) hx hb dX6_hasTimeFor_13 (by decide) ?_
    subst hQ
    exact m_zret hx hb hr rfl hlk hK hM hS dX6_hasTimeFor_17 (⟨by first | rw [if_pos (Int32.not_lt.mp c_9)] | rw [if_neg (Int32.not_le.mpr c_9)], hMM⟩)

set_option maxHeartbeats 4000000 in
set_option maxRecDepth 100000 in
/-- where a wheel stands -/
theorem k_X6_wheelAt (l : Launch) (g : GG) (A : Nat → Prop) (M0 : MM) (b : Nat) (π : Nat → Nat) (v : VV) (x : Int32) (hR : RepV g A M0 b π v)  : Met l yX6_wheelAt (Uw yX6_wheelAt cX6_wheelAt 2 (Option.some ClassFile.FieldType.int)) (rmD 0) (PreM [.ref (b), .int (x)] g A M0) (PosI (fun r M1 => r = (whC v x) ∧ M1 = M0) g A) 0 0 A := by
  refine mk_Met (own := RX6) rfl rfl (by decide) (Nat.le_of_ble_eq_true rfl) ?_
  intro p e s m below meth c ls aa Q haa hQ hx hb hr hlk hml hown hts hK hM hS hl hnm
  obtain ⟨M, hMM⟩ : ∃ M, M = M0 := ⟨_, rfl⟩
  rw [← hMM] at hM hR
  have ht : ∀ w ∈ lw_good, w.before _ s = true := fun w h => hts w (List.mem_cons_of_mem _ h)
  have hF : FrV b M0 M := by rw [hMM]; exact FrV.rf
  have hl : lv_has ls 2 [(0, .ref (b)), (1, .int (x))] := hl
  refine lv_aload_n hx hb dX6_wheelAt_0 rfl (lv_at hl 0 rfl) ?_
  refine rv_getW hx hb ht ui_X6 hown hK hM hR 0 (by decide) (ht _ uw_188) dX6_wheelAt_1 ?_
  refine lv_if_le (tgt := 16) hx hb dX6_wheelAt_4 (by decide) (fun c_4 => ?_) (fun c_4 => ?_)
  · refine lv_iconst (v := 0) hx hb dX6_wheelAt_16 (by first | rfl | decide) ?_
    subst hQ
    exact m_zret hx hb hr rfl hlk hK hM hS dX6_wheelAt_17 (⟨by unfold whC; first | rw [if_pos (Int32.not_le.mp c_4)] | rw [if_neg (Int32.not_lt.mpr c_4)], hMM⟩)
  · refine lv_iload_n hx hb dX6_wheelAt_7 rfl (lv_at hl 1 rfl) ?_
    refine lv_aload_n hx hb dX6_wheelAt_8 rfl (lv_at hl 0 rfl) ?_
    refine rv_getW hx hb ht ui_X6 hown hK hM hR 0 (by decide) (ht _ uw_188) dX6_wheelAt_9 ?_
    refine lv_irem hx hb dX6_wheelAt_12 (c_nz c_4) ?_
    refine lv_goto (tgt := 17) hx hb dX6_wheelAt_13 (by decide) ?_
    subst hQ
    exact m_zret hx hb hr rfl hlk hK hM hS dX6_wheelAt_17 (⟨by unfold whC; first | rw [if_pos (Int32.not_le.mp c_4)] | rw [if_neg (Int32.not_lt.mpr c_4)], hMM⟩)
end
section
/-! values of the valley's methods, as the code has them -/
def expC (v : VV) (i j : Nat) : Int32 := if v.2.1 0 0 ≤ 0 ∨ v.2.1 i 1 ≤ 0 then 0 else (v.2.2 j 3 - v.2.1 i 11) * v.2.1 i 0 / v.2.1 0 0 / v.2.1 i 1
def rouC (v : VV) (m : Int32) : Int32 := if m ≤ 0 ∨ v.1 0 ≤ 0 then 0 else (2 * m + v.1 0 - 1) / (2 * v.1 0)
theorem two_nz {w : Int32} (h : ¬ w ≤ 0) : ¬ 2 * w = 0 := by
  intro q
  have h1 : 0 < w.toInt := by
    have := Int32.lt_iff_toInt_lt.mp (Int32.not_le.mp h)
    simpa using this
  have h2 : w.toInt < 2 ^ 31 := Int32.toInt_lt w
  have h3 := congrArg Int32.toInt q
  rw [Int32.toInt_mul] at h3
  have e2 : (2 : Int32).toInt = 2 := rfl
  have e0 : (0 : Int32).toInt = 0 := rfl
  rw [e2, e0] at h3
  simp only [Int.bmod] at h3
  split at h3 <;> omega
def wen1 (v : VV) (i j : Nat) : Int32 := whC v (v.2.2 j 1) - whC v (v.2.1 i 10)
def wen2 (v : VV) (i j : Nat) : Int32 := if wen1 v i j < 0 then wen1 v i j + v.1 0 else wen1 v i j
def wenC (v : VV) (i j : Nat) : Int32 := if v.1 1 = 1 then wen2 v i j + v.1 0 * rouC v (expC v i j - wen2 v i j) else wen2 v i j
def takC (v : VV) (i j : Nat) : VV :=
  let v1 := vG v i 8 (v.2.1 i 8 + wenC v i j)
  let v2 := vG v1 i 12 (v1.2.1 i 12 + 1)
  let v3 := vG v2 i 9 (v2.2.2 j 2)
  let v4 := vG v3 i 10 (v3.2.2 j 1)
  vG v4 i 11 (v4.2.2 j 3)
def heaT (v : VV) (i j : Nat) : VV :=
  if v.2.2 j 2 < v.2.1 i 9 then vG v i 13 (v.2.1 i 13 + 1)
  else if 0 < v.2.1 i 12 ∧ v.2.2 j 2 = v.2.1 i 9 ∧ whC v (v.2.2 j 1) = whC v (v.2.1 i 10) then vG v i 14 (v.2.1 i 14 + 1)
  else takC v i j
def heaC (v : VV) (j : Nat) : VV := match gxn 6 (v.2.2 j 0) with
  | none => v
  | some i => heaT v i j
def cosC (v : VV) (j : Nat) : VV := match gxn 6 (v.2.2 j 0) with
  | none => v
  | some i => vG v i 15 (v.2.1 i 15 + 1)
def cosL (v : VV) : Nat → VV
  | 0 => v
  | k + 1 => cosC (cosL v k) k
theorem cosC_1 (v : VV) (j : Nat) : (cosC v j).1 = v.1 := by unfold cosC; split <;> rfl
theorem cosC_2 (v : VV) (j : Nat) : (cosC v j).2.2 = v.2.2 := by unfold cosC; split <;> rfl
theorem cosL_1 (v : VV) (k : Nat) : (cosL v k).1 = v.1 := by
  induction k with
  | zero => rfl
  | succ k ih => exact (cosC_1 _ _).trans ih
theorem heaT_1 (v : VV) (i j : Nat) : (heaT v i j).1 = v.1 := by unfold heaT takC; split; rfl; split <;> rfl
theorem heaT_2 (v : VV) (i j : Nat) : (heaT v i j).2.2 = v.2.2 := by unfold heaT takC; split; rfl; split <;> rfl
theorem heaC_1 (v : VV) (j : Nat) : (heaC v j).1 = v.1 := by unfold heaC; split; rfl; exact heaT_1 _ _ _
theorem heaC_2 (v : VV) (j : Nat) : (heaC v j).2.2 = v.2.2 := by unfold heaC; split; rfl; exact heaT_2 _ _ _
/-- rows k .. of a list of n: the row k is taken out, and kept behind the last one -/
def rotN {α : Type} (k n : Nat) (f : Nat → α) : Nat → α := fun j => if j + 1 = n then f k else if k ≤ j ∧ j + 1 < n then f (j + 1) else f j
def rmvC (v : VV) (k n : Nat) : VV := (va_up v.1 3 (nI (n - 1)), v.2.1, rotN k n v.2.2)
theorem rmvC_3 (v : VV) (k n : Nat) : (rmvC v k n).1 3 = nI (n - 1) := by simp [rmvC, va_up]
/-- the array in the midst of it -/
def rhoN {α : Type} (k i : Nat) (f : Nat → α) : Nat → α := fun j => if k ≤ j ∧ j < i then f (j + 1) else f j
theorem rho_0 {α : Type} (k : Nat) (f : Nat → α) : rhoN k k f = f := by
  funext j
  unfold rhoN
  rw [if_neg (by omega)]
theorem rho_up (k i : Nat) (hk : k ≤ i) (π : Nat → Nat) (b : Nat) : va_up (fun j => some (b + 15 + rhoN k i π j)) i (some (b + 15 + π (i + 1))) = fun j => some (b + 15 + rhoN k (i + 1) π j) := by
  funext j
  unfold va_up rhoN
  dsimp only
  by_cases h : j = i
  · subst h
    rw [if_pos rfl, if_pos (by omega)]
  · rw [if_neg h]
    by_cases h2 : k ≤ j ∧ j < i
    · rw [if_pos h2, if_pos (by omega)]
    · rw [if_neg h2, if_neg (by omega)]
theorem rho_end (k n : Nat) (hk : k < n) (π : Nat → Nat) (b : Nat) : va_up (fun j => some (b + 15 + rhoN k (n - 1) π j)) (n - 1) (some (b + 15 + π k)) = fun j => some (b + 15 + rotN k n π j) := by
  funext j
  unfold va_up rhoN rotN
  dsimp only
  by_cases h : j + 1 = n
  · rw [if_pos (by omega), if_pos h]
  · rw [if_neg (by omega), if_neg h]
    by_cases h2 : k ≤ j ∧ j < n - 1
    · rw [if_pos h2, if_pos (by omega)]
    · rw [if_neg h2, if_neg (by omega)]
def rotI (k n j : Nat) : Nat := if j + 1 = n then k else if k ≤ j ∧ j + 1 < n then j + 1 else j
theorem rot_I {α : Type} (k n : Nat) (f : Nat → α) (j : Nat) : rotN k n f j = f (rotI k n j) := by
  unfold rotN rotI
  by_cases h : j + 1 = n
  · rw [if_pos h, if_pos h]
  · rw [if_neg h, if_neg h]
    by_cases h2 : k ≤ j ∧ j + 1 < n
    · rw [if_pos h2, if_pos h2]
    · rw [if_neg h2, if_neg h2]
theorem rotI_lt {k n j : Nat} (hk : k < n) (hn : n ≤ 20) (hj : j < 20) : rotI k n j < 20 := by
  unfold rotI
  by_cases h : j + 1 = n
  · rw [if_pos h]; omega
  · rw [if_neg h]
    by_cases h2 : k ≤ j ∧ j + 1 < n
    · rw [if_pos h2]; omega
    · rw [if_neg h2]; omega
theorem rotI_inj {k n i j : Nat} (hk : k < n) (h : rotI k n i = rotI k n j) : i = j := by
  unfold rotI at h
  by_cases h1 : i + 1 = n
  · rw [if_pos h1] at h
    by_cases h2 : j + 1 = n
    · omega
    · rw [if_neg h2] at h
      by_cases h3 : k ≤ j ∧ j + 1 < n
      · rw [if_pos h3] at h; omega
      · rw [if_neg h3] at h; omega
  · rw [if_neg h1] at h
    by_cases h2 : j + 1 = n
    · rw [if_pos h2] at h
      by_cases h3 : k ≤ i ∧ i + 1 < n
      · rw [if_pos h3] at h; omega
      · rw [if_neg h3] at h; omega
    · rw [if_neg h2] at h
      by_cases h3 : k ≤ i ∧ i + 1 < n
      · rw [if_pos h3] at h
        by_cases h4 : k ≤ j ∧ j + 1 < n
        · rw [if_pos h4] at h; omega
        · rw [if_neg h4] at h; omega
      · rw [if_neg h3] at h
        by_cases h4 : k ≤ j ∧ j + 1 < n
        · rw [if_pos h4] at h; omega
        · rw [if_neg h4] at h; omega
theorem rot_perm {k n : Nat} (hk : k < n) (hn : n ≤ 20) {π : Nat → Nat} (hp : Perm 20 π) : Perm 20 (rotN k n π) := by
  refine ⟨fun j hj => ?_, fun i j hi hj h => ?_⟩
  · rw [rot_I]; exact hp.1 _ (rotI_lt hk hn hj)
  · rw [rot_I, rot_I] at h
    exact rotI_inj hk (hp.2 _ _ (rotI_lt hk hn hi) (rotI_lt hk hn hj) h)
theorem rot_rows {k n : Nat} (hk : k < n) (hn : n ≤ 20) {π : Nat → Nat} {r : Nat → Nat → Int32} : ∀ j, j < 20 → ∃ i, i < 20 ∧ rotN k n π j = π i ∧ rotN k n r j = r i := by
  intro j hj
  unfold rotN
  split
  · exact ⟨k, by omega, rfl, rfl⟩
  · split
    · exact ⟨j + 1, by omega, rfl, rfl⟩
    · exact ⟨j, hj, rfl, rfl⟩
/-- all runners an hour nearer: u of them from the number k on -/
def movC : Nat → Nat → VV → VV
  | 0, _, v => v
  | u + 1, k, v => if v.2.2 k 4 - 1 ≤ 0 then movC u k (rmvC (heaC (vR v k 4 (v.2.2 k 4 - 1)) k) k (k + u + 1)) else movC u (k + 1) (vR v k 4 (v.2.2 k 4 - 1))
theorem movC_n : ∀ (u k : Nat) (v : VV), v.1 3 = nI (k + u) → ∃ n, n ≤ k + u ∧ (movC u k v).1 3 = nI n := by
  intro u
  induction u with
  | zero => intro k v h; exact ⟨k, by omega, h⟩
  | succ u ih =>
    intro k v h
    unfold movC
    split
    · obtain ⟨n, h1, h2⟩ := ih k (rmvC (heaC (vR v k 4 (v.2.2 k 4 - 1)) k) k (k + u + 1)) (by rw [rmvC_3]; rfl)
      exact ⟨n, by omega, h2⟩
    · obtain ⟨n, h1, h2⟩ := ih (k + 1) (vR v k 4 (v.2.2 k 4 - 1)) (by show v.1 3 = _; rw [h]; congr 1; omega)
      exact ⟨n, by omega, h2⟩
def catL (am : Int32) (v : VV) : Nat → VV
  | 0 => v
  | i + 1 => catC (catL am v i) i am
def tisL (am : Int32) (v : VV) (t : Int32) : Nat → Int32
  | 0 => t
  | i + 1 => tisL am v t i + tipC (catL am v i) i am
theorem catL_1 (am : Int32) (v : VV) (k : Nat) : (catL am v k).1 = v.1 := by
  induction k with
  | zero => rfl
  | succ k ih => exact ih
theorem catL_2 (am : Int32) (v : VV) (k : Nat) : (catL am v k).2.2 = v.2.2 := by
  induction k with
  | zero => rfl
  | succ k ih => exact ih
def ho1C (am : Int32) (v : VV) : VV := vW (catL am v 6) 2 ((catL am v 6).1 2 + 1)
theorem ho1C_3 (am : Int32) (v : VV) : (ho1C am v).1 3 = v.1 3 := by simp [ho1C, va_up, catL_1]
def houC (am : Int32) (v : VV) : VV := movC (v.1 3).toNatClampNeg 0 (ho1C am v)
def pasC (am : Int32) (v : VV) : Nat → VV
  | 0 => v
  | q + 1 => houC am (pasC am v q)
def pasT (am : Int32) (v : VV) : Nat → Int32
  | 0 => 0
  | q + 1 => tisL am (pasC am v q) (pasT am v q) 6
def OnW (v : VV) : Prop := ∃ n, n ≤ 20 ∧ v.1 3 = nI n
theorem houC_on {am : Int32} {v : VV} (h : OnW v) : OnW (houC am v) := by
  obtain ⟨n, hn, e⟩ := h
  have e1 : (v.1 3).toNatClampNeg = n := by rw [e]; exact nI_clamp (by omega)
  obtain ⟨k, hk, e2⟩ := movC_n n 0 (ho1C am v) (by rw [ho1C_3, e]; congr 1; omega)
  exact ⟨k, by omega, by unfold houC; rw [e1]; exact e2⟩
theorem pasC_on {am : Int32} {v : VV} (h : OnW v) (q : Nat) : OnW (pasC am v q) := by
  induction q with
  | zero => exact h
  | succ q ih => exact houC_on ih
/-- the row of one who is sent -/
def seR (v : VV) (i n : Nat) : VV :=
  let v0 := vW v 3 (nI n + 1)
  let v1 := vR v0 n 0 (nI i)
  let v2 := vR v1 n 1 (v1.2.1 i 5)
  let v3 := vR v2 n 2 (v2.1 2)
  let v4 := vR v3 n 3 (v3.2.1 0 6)
  vR v4 n 4 (v4.2.1 i 3)
def senC (v : VV) (i n : Nat) : VV := if (seR v i n).2.2 n 4 = 0 then rmvC (heaC (seR v i n) n) n (n + 1) else seR v i n
def twiC (v : VV) (j n : Nat) : VV :=
  let v0 := vW v 3 (nI n + 1)
  let v1 := vR v0 n 0 (v0.2.2 j 0)
  let v2 := vR v1 n 1 (v1.2.2 j 1)
  let v3 := vR v2 n 2 (v2.2.2 j 2)
  let v4 := vR v3 n 3 (v3.2.2 j 3)
  let v5 := vR v4 n 4 (v4.2.2 j 4)
  vR v5 n 4 (v5.2.2 n 4 + 1)
def lonC (v : VV) : Nat → Int32
  | 0 => 0
  | j + 1 => if lonC v j < v.2.2 j 4 then v.2.2 j 4 else lonC v j
def facC (v : VV) (i : Nat) (w : Int32) : Int32 :=
  if w = 0 then v.2.1 i 0 else if w = 1 then v.2.1 i 1 else if w = 2 then v.2.1 i 2 else if w = 3 then v.2.1 i 3 else if w = 4 then v.2.1 i 4 else if w = 5 then v.2.1 i 5 else if w = 6 then whC v (v.2.1 i 5) else if w = 7 then v.2.1 i 6 else if w = 8 then v.2.1 i 7 else (-1000002)
def sumN (f : Nat → Int32) : Nat → Int32
  | 0 => 0
  | i + 1 => sumN f i + f i
def gapN (v : VV) : Nat → Int32
  | 0 => 0
  | i + 1 => if v.2.1 i 5 - v.2.1 i 8 = 0 then gapN v i else gapN v i + 1
/-- the copy: rows beyond those on the way stay -/
def cpG (f h : Nat → Int32) : Nat → Int32 := fun k => if k < 16 then h k else f k
def cpR (f h : Nat → Int32) : Nat → Int32 := fun k => if k < 5 then h k else f k
def cpW (f h : Nat → Int32) : Nat → Int32 := fun k => if k < 4 then h k else f k
def mixN {α β : Type} (F : α → β → α) (k : Nat) (f : Nat → α) (h : Nat → β) : Nat → α := fun i => if i < k then F (f i) (h i) else f i
theorem mixN_up {α β : Type} (F : α → β → α) (k : Nat) (f : Nat → α) (h : Nat → β) : mixN F (k + 1) f h = va_up (mixN F k f h) k (F (mixN F k f h k) (h k)) := by
  funext i
  unfold mixN va_up
  dsimp only
  by_cases h1 : i = k
  · subst h1
    rw [if_pos (by omega), if_pos rfl, if_neg (by omega)]
  · rw [if_neg h1]
    by_cases h2 : i < k
    · rw [if_pos h2, if_pos (by omega)]
    · rw [if_neg h2, if_neg (by omega)]
theorem mixN_0 {α β : Type} (F : α → β → α) (f : Nat → α) (h : Nat → β) : mixN F 0 f h = f := by
  funext i
  exact if_neg (by omega)
theorem cpW_eq (f h : Nat → Int32) : cpW f h = va_up (va_up (va_up (va_up f 0 (h 0)) 1 (h 1)) 2 (h 2)) 3 (h 3) := by
  funext k
  unfold cpW va_up
  by_cases h0 : k < 4
  · rw [if_pos h0]
    rcases (by omega : k = 0 ∨ k = 1 ∨ k = 2 ∨ k = 3) with rfl | rfl | rfl | rfl <;> simp
  · rw [if_neg h0]
    simp only [show ¬ k = 0 by omega, show ¬ k = 1 by omega, show ¬ k = 2 by omega, show ¬ k = 3 by omega, if_false]
def cpyC (v w : VV) (n : Nat) : VV := (cpW v.1 w.1, mixN cpG 6 v.2.1 w.2.1, mixN cpR n v.2.2 w.2.2)
def chgC (v : VV) (n : Nat) (x : Int32) : VV := vW (vW (cosL v n) 3 (nI 0)) 0 x
theorem nI_lt_of {a b : Nat} (ha : a < 2 ^ 31) (hb : b < 2 ^ 31) (h : ¬ nI b ≤ nI a) : a < b := Nat.lt_of_not_le (fun q => h ((nI_leI hb ha).mpr q))
theorem nI_le_of {a b : Nat} (ha : a < 2 ^ 31) (hb : b < 2 ^ 31) (h : nI b ≤ nI a) : b ≤ a := (nI_leI hb ha).mp h
theorem facC_out {v : VV} {i : Nat} {w : Int32} (h : w.toInt < 0 ∨ 8 < w.toInt) : facC v i w = -1000002 := by
  have hne : ∀ k : Int32, 0 ≤ k.toInt → k.toInt ≤ 8 → ¬ w = k := fun k h1 h2 q => by subst q; omega
  unfold facC
  rw [if_neg (hne 0 (by decide) (by decide)), if_neg (hne 1 (by decide) (by decide)), if_neg (hne 2 (by decide) (by decide)), if_neg (hne 3 (by decide) (by decide)), if_neg (hne 4 (by decide) (by decide)), if_neg (hne 5 (by decide) (by decide)), if_neg (hne 6 (by decide) (by decide)), if_neg (hne 7 (by decide) (by decide)), if_neg (hne 8 (by decide) (by decide))]
theorem sw_ix (lo hi : Int) {x : Int32} (h : ¬ (x.toInt < lo ∨ hi < x.toInt)) : lo ≤ x.toInt ∧ x.toInt ≤ hi := by omega
end
section
theorem RepV.eq {g : GG} {A : Nat → Prop} {M : MM} {b : Nat} {π : Nat → Nat} {v w : VV} (h : RepV g A M b π v) (e : w = v) : RepV g A M b π w := by rw [e]; exact h
def cp2 (P : Nat → Prop) [DecidablePred P] (v w : VV) (i : Nat) : VV := (v.1, va_up v.2.1 i (fun k => if P k then w.2.1 i k else v.2.1 i k), v.2.2)
theorem cp2_page (f : Nat → Nat → Int32) (h : Nat → Int32) (i : Nat) : va_up f i (fun k => if 8 ≤ k ∧ k < 16 then h k else f i k) = up2 (up2 (up2 (up2 (up2 (up2 (up2 (up2 f i 8 (h 8)) i 9 (h 9)) i 10 (h 10)) i 11 (h 11)) i 12 (h 12)) i 13 (h 13)) i 14 (h 14)) i 15 (h 15) := by
  funext a k
  by_cases ha : a = i
  · subst ha
    simp only [up2, va_up, if_true]
    by_cases h0 : 8 ≤ k ∧ k < 16
    · rw [if_pos h0]
      rcases (by omega : k = 8 ∨ k = 9 ∨ k = 10 ∨ k = 11 ∨ k = 12 ∨ k = 13 ∨ k = 14 ∨ k = 15) with rfl | rfl | rfl | rfl | rfl | rfl | rfl | rfl <;> simp
    · rw [if_neg h0]
      simp only [show ¬ k = 8 by omega, show ¬ k = 9 by omega, show ¬ k = 10 by omega, show ¬ k = 11 by omega, show ¬ k = 12 by omega, show ¬ k = 13 by omega, show ¬ k = 14 by omega, show ¬ k = 15 by omega, if_false]
  · simp only [up2, va_up, if_neg ha]
theorem cp_row (f : Nat → Nat → Int32) (h : Nat → Int32) (i : Nat) : va_up f i (cpR (f i) h) = up2 (up2 (up2 (up2 (up2 f i 0 (h 0)) i 1 (h 1)) i 2 (h 2)) i 3 (h 3)) i 4 (h 4) := by
  funext a k
  by_cases ha : a = i
  · subst ha
    simp only [up2, va_up, cpR, if_true]
    by_cases h0 : k < 5
    · rw [if_pos h0]
      rcases (by omega : k = 0 ∨ k = 1 ∨ k = 2 ∨ k = 3 ∨ k = 4) with rfl | rfl | rfl | rfl | rfl <;> simp
    · rw [if_neg h0]
      simp only [show ¬ k = 0 by omega, show ¬ k = 1 by omega, show ¬ k = 2 by omega, show ¬ k = 3 by omega, show ¬ k = 4 by omega, if_false]
  · simp only [up2, va_up, if_neg ha]
theorem cp_gauge (f : Nat → Nat → Int32) (h : Nat → Int32) (i : Nat) : va_up f i (cpG (f i) h) = va_up (up2 (up2 (up2 (up2 (up2 (up2 (up2 (up2 f i 0 (h 0)) i 1 (h 1)) i 2 (h 2)) i 3 (h 3)) i 4 (h 4)) i 5 (h 5)) i 6 (h 6)) i 7 (h 7)) i (fun k => if 8 ≤ k ∧ k < 16 then h k else (up2 (up2 (up2 (up2 (up2 (up2 (up2 (up2 f i 0 (h 0)) i 1 (h 1)) i 2 (h 2)) i 3 (h 3)) i 4 (h 4)) i 5 (h 5)) i 6 (h 6)) i 7 (h 7)) i k) := by
  funext a k
  by_cases ha : a = i
  · subst ha
    simp only [up2, va_up, cpG, if_true]
    by_cases h0 : k < 16
    · rw [if_pos h0]
      by_cases h1 : 8 ≤ k
      · rw [if_pos ⟨h1, h0⟩]
      · rw [if_neg (by omega)]
        rcases (by omega : k = 0 ∨ k = 1 ∨ k = 2 ∨ k = 3 ∨ k = 4 ∨ k = 5 ∨ k = 6 ∨ k = 7) with rfl | rfl | rfl | rfl | rfl | rfl | rfl | rfl <;> simp
    · rw [if_neg h0, if_neg (by omega)]
      simp only [show ¬ k = 0 by omega, show ¬ k = 1 by omega, show ¬ k = 2 by omega, show ¬ k = 3 by omega, show ¬ k = 4 by omega, show ¬ k = 5 by omega, show ¬ k = 6 by omega, show ¬ k = 7 by omega, if_false]
  · simp only [up2, va_up, if_neg ha]
def cprC (v : VV) (n j : Nat) : VV :=
  let v1 := vR v n 0 (v.2.2 j 0)
  let v2 := vR v1 n 1 (v1.2.2 j 1)
  let v3 := vR v2 n 2 (v2.2.2 j 2)
  let v4 := vR v3 n 3 (v3.2.2 j 3)
  vR v4 n 4 (v4.2.2 j 4)
theorem wen_a {v : VV} {i j : Nat} {n1 : Int32} (e : n1 = wen1 v i j) (c : 0 ≤ n1) (d : ¬ v.1 1 = 1) : n1 = wenC v i j := by
  unfold wenC wen2
  rw [if_neg d, ← e, if_neg (Int32.not_lt.mpr c)]
theorem wen_b {v : VV} {i j : Nat} {n1 : Int32} (e : n1 = wen1 v i j) (c : 0 ≤ n1) (d : v.1 1 = 1) : n1 + v.1 0 * rouC v (expC v i j - n1) = wenC v i j := by
  unfold wenC wen2
  rw [if_pos d, ← e, if_neg (Int32.not_lt.mpr c)]
theorem wen_c {v : VV} {i j : Nat} {n1 n2 : Int32} (e : n1 = wen1 v i j) (c : ¬ 0 ≤ n1) (e2 : n2 = n1 + v.1 0) (d : ¬ v.1 1 = 1) : n2 = wenC v i j := by
  unfold wenC wen2
  rw [if_neg d, ← e, if_pos (Int32.not_le.mp c), e2]
theorem wen_d {v : VV} {i j : Nat} {n1 n2 : Int32} (e : n1 = wen1 v i j) (c : ¬ 0 ≤ n1) (e2 : n2 = n1 + v.1 0) (d : v.1 1 = 1) : n2 + v.1 0 * rouC v (expC v i j - n2) = wenC v i j := by
  unfold wenC wen2
  rw [if_pos d, ← e, if_pos (Int32.not_le.mp c), e2]
section
variable {v : VV} {i j : Nat}
theorem hea_late (e : gxn 6 (v.2.2 j 0) = some i) (h : v.2.2 j 2 < v.2.1 i 9) : heaC v j = vG v i 13 (v.2.1 i 13 + 1) := by
  unfold heaC heaT
  rw [e]
  exact if_pos h
theorem hea_twice (e : gxn 6 (v.2.2 j 0) = some i) (h : v.2.1 i 9 ≤ v.2.2 j 2) (h2 : 0 < v.2.1 i 12) (h3 : v.2.2 j 2 = v.2.1 i 9) (h4 : whC v (v.2.2 j 1) = whC v (v.2.1 i 10)) : heaC v j = vG v i 14 (v.2.1 i 14 + 1) := by
  unfold heaC heaT
  rw [e]
  exact (if_neg (Int32.not_lt.mpr h)).trans (if_pos ⟨h2, h3, h4⟩)
theorem hea_take (e : gxn 6 (v.2.2 j 0) = some i) (h : v.2.1 i 9 ≤ v.2.2 j 2) (h2 : ¬ (0 < v.2.1 i 12 ∧ v.2.2 j 2 = v.2.1 i 9 ∧ whC v (v.2.2 j 1) = whC v (v.2.1 i 10))) : heaC v j = takC v i j := by
  unfold heaC heaT
  rw [e]
  exact (if_neg (Int32.not_lt.mpr h)).trans (if_neg h2)
theorem hea_take1 (e : gxn 6 (v.2.2 j 0) = some i) (h : v.2.1 i 9 ≤ v.2.2 j 2) (h2 : v.2.1 i 12 ≤ 0) : heaC v j = takC v i j := hea_take e h (fun q => Int32.not_lt.mpr h2 q.1)
theorem hea_take2 (e : gxn 6 (v.2.2 j 0) = some i) (h : v.2.1 i 9 ≤ v.2.2 j 2) (h2 : ¬ v.2.2 j 2 = v.2.1 i 9) : heaC v j = takC v i j := hea_take e h (fun q => h2 q.2.1)
theorem hea_take3 (e : gxn 6 (v.2.2 j 0) = some i) (h : v.2.1 i 9 ≤ v.2.2 j 2) (h2 : ¬ whC v (v.2.2 j 1) = whC v (v.2.1 i 10)) : heaC v j = takC v i j := hea_take e h (fun q => h2 q.2.2)
end
set_option maxHeartbeats 4000000 in
set_option maxRecDepth 100000 in
/-- a page takes over another valley's -/
theorem k_X4_copyFrom (l : Launch) (g : GG) (A : Nat → Prop) (M0 : MM) (b : Nat) (π : Nat → Nat) (v : VV) (i : Nat) (b2 : Nat) (π2 : Nat → Nat) (v2 : VV) (hR : RepV g A M0 b π v) (hO : RepV g A M0 b2 π2 v2) (hd : b2 + 35 ≤ b ∨ b + 35 ≤ b2) (hi : i < 6) : Met l yX4_copyFrom (Uw yX4_copyFrom cX4_copyFrom 2 (Option.none : Option ClassFile.FieldType)) (rmD 0) (PreM [.ref (b + 4 + 2 * i), .ref (b2 + 4 + 2 * i)] g A M0) (PosV (fun M1 => RepV g A M1 b π (cp2 (fun k => 8 ≤ k ∧ k < 16) v v2 i) ∧ FrV b M0 M1) g A) 0 0 A := by
  refine mk_Met (own := RX4) rfl rfl (by decide) (Nat.le_of_ble_eq_true rfl) ?_
  intro p e s m below meth c ls aa Q haa hQ hx hb hr hlk hml hown hts hK hM hS hl hnm
  obtain ⟨M, hMM⟩ : ∃ M, M = M0 := ⟨_, rfl⟩
  rw [← hMM] at hM hR
  have ht : ∀ w ∈ lw_good, w.before _ s = true := fun w h => hts w (List.mem_cons_of_mem _ h)
  have hF : FrV b M0 M := by rw [hMM]; exact FrV.rf
  have hl : lv_has ls 2 [(0, .ref (b + 4 + 2 * i)), (1, .ref (b2 + 4 + 2 * i))] := hl
  refine lv_aload_n hx hb dX4_copyFrom_0 rfl (lv_at hl 0 rfl) ?_
  refine lv_aload_n hx hb dX4_copyFrom_1 rfl (lv_at hl 1 rfl) ?_
  refine rv_getP hx hb ht ui_X4 hown hK hM (hO.fr hF hd) hi 0 (by decide) (ht _ uw_73) dX4_copyFrom_2 ?_
  refine rv_putP hx hb ht ui_X4 hown hK hM hS hR hF hi 0 (by decide) (ht _ uw_73) dX4_copyFrom_5 (fun M H locs hM hR hF hS => ?_)
  refine lv_aload_n hx hb dX4_copyFrom_8 rfl (lv_at hl 0 rfl) ?_
  refine lv_aload_n hx hb dX4_copyFrom_9 rfl (lv_at hl 1 rfl) ?_
  refine rv_getP hx hb ht ui_X4 hown hK hM (hO.fr hF hd) hi 1 (by decide) (ht _ uw_77) dX4_copyFrom_10 ?_
  refine rv_putP hx hb ht ui_X4 hown hK hM hS hR hF hi 1 (by decide) (ht _ uw_77) dX4_copyFrom_13 (fun M H locs hM hR hF hS => ?_)
  refine lv_aload_n hx hb dX4_copyFrom_16 rfl (lv_at hl 0 rfl) ?_
  refine lv_aload_n hx hb dX4_copyFrom_17 rfl (lv_at hl 1 rfl) ?_
  refine rv_getP hx hb ht ui_X4 hown hK hM (hO.fr hF hd) hi 2 (by decide) (ht _ uw_80) dX4_copyFrom_18 ?_
  refine rv_putP hx hb ht ui_X4 hown hK hM hS hR hF hi 2 (by decide) (ht _ uw_80) dX4_copyFrom_21 (fun M H locs hM hR hF hS => ?_)
  refine lv_aload_n hx hb dX4_copyFrom_24 rfl (lv_at hl 0 rfl) ?_
  refine lv_aload_n hx hb dX4_copyFrom_25 rfl (lv_at hl 1 rfl) ?_
  refine rv_getP hx hb ht ui_X4 hown hK hM (hO.fr hF hd) hi 3 (by decide) (ht _ uw_84) dX4_copyFrom_26 ?_
  refine rv_putP hx hb ht ui_X4 hown hK hM hS hR hF hi 3 (by decide) (ht _ uw_84) dX4_copyFrom_29 (fun M H locs hM hR hF hS => ?_)
  refine lv_aload_n hx hb dX4_copyFrom_32 rfl (lv_at hl 0 rfl) ?_
  refine lv_aload_n hx hb dX4_copyFrom_33 rfl (lv_at hl 1 rfl) ?_
  refine rv_getP hx hb ht ui_X4 hown hK hM (hO.fr hF hd) hi 4 (by decide) (ht _ uw_86) dX4_copyFrom_34 ?_
  refine rv_putP hx hb ht ui_X4 hown hK hM hS hR hF hi 4 (by decide) (ht _ uw_86) dX4_copyFrom_37 (fun M H locs hM hR hF hS => ?_)
  refine lv_aload_n hx hb dX4_copyFrom_40 rfl (lv_at hl 0 rfl) ?_
  refine lv_aload_n hx hb dX4_copyFrom_41 rfl (lv_at hl 1 rfl) ?_
  refine rv_getP hx hb ht ui_X4 hown hK hM (hO.fr hF hd) hi 5 (by decide) (ht _ uw_89) dX4_copyFrom_42 ?_
  refine rv_putP hx hb ht ui_X4 hown hK hM hS hR hF hi 5 (by decide) (ht _ uw_89) dX4_copyFrom_45 (fun M H locs hM hR hF hS => ?_)
  refine lv_aload_n hx hb dX4_copyFrom_48 rfl (lv_at hl 0 rfl) ?_
  refine lv_aload_n hx hb dX4_copyFrom_49 rfl (lv_at hl 1 rfl) ?_
  refine rv_getP hx hb ht ui_X4 hown hK hM (hO.fr hF hd) hi 6 (by decide) (ht _ uw_92) dX4_copyFrom_50 ?_
  refine rv_putP hx hb ht ui_X4 hown hK hM hS hR hF hi 6 (by decide) (ht _ uw_92) dX4_copyFrom_53 (fun M H locs hM hR hF hS => ?_)
  refine lv_aload_n hx hb dX4_copyFrom_56 rfl (lv_at hl 0 rfl) ?_
  refine lv_aload_n hx hb dX4_copyFrom_57 rfl (lv_at hl 1 rfl) ?_
  refine rv_getP hx hb ht ui_X4 hown hK hM (hO.fr hF hd) hi 7 (by decide) (ht _ uw_95) dX4_copyFrom_58 ?_
  refine rv_putP hx hb ht ui_X4 hown hK hM hS hR hF hi 7 (by decide) (ht _ uw_95) dX4_copyFrom_61 (fun M H locs hM hR hF hS => ?_)
  subst hQ
  exact m_vret hx hb hr hlk hK hM hS dX4_copyFrom_64 (⟨RepV.eq hR (by simp only [cp2]; refine Prod.ext rfl (Prod.ext ?_ rfl); exact cp2_page _ _ _), hF⟩)

set_option maxHeartbeats 4000000 in
set_option maxRecDepth 100000 in
/-- a runner's row takes over another valley's -/
theorem k_X5_copyFrom (l : Launch) (g : GG) (A : Nat → Prop) (M0 : MM) (b : Nat) (π : Nat → Nat) (v : VV) (j : Nat) (b2 : Nat) (π2 : Nat → Nat) (v2 : VV) (hR : RepV g A M0 b π v) (hO : RepV g A M0 b2 π2 v2) (hd : b2 + 35 ≤ b ∨ b + 35 ≤ b2) (hj : j < 20) : Met l yX5_copyFrom (Uw yX5_copyFrom cX5_copyFrom 2 (Option.none : Option ClassFile.FieldType)) (rmD 0) (PreM [.ref (b + 15 + π j), .ref (b2 + 15 + π2 j)] g A M0) (PosV (fun M1 => RepV g A M1 b π (v.1, v.2.1, va_up v.2.2 j (cpR (v.2.2 j) (v2.2.2 j))) ∧ FrV b M0 M1) g A) 0 0 A := by
  refine mk_Met (own := RX5) rfl rfl (by decide) (Nat.le_of_ble_eq_true rfl) ?_
  intro p e s m below meth c ls aa Q haa hQ hx hb hr hlk hml hown hts hK hM hS hl hnm
  obtain ⟨M, hMM⟩ : ∃ M, M = M0 := ⟨_, rfl⟩
  rw [← hMM] at hM hR
  have ht : ∀ w ∈ lw_good, w.before _ s = true := fun w h => hts w (List.mem_cons_of_mem _ h)
  have hF : FrV b M0 M := by rw [hMM]; exact FrV.rf
  have hl : lv_has ls 2 [(0, .ref (b + 15 + π j)), (1, .ref (b2 + 15 + π2 j))] := hl
  refine lv_aload_n hx hb dX5_copyFrom_0 rfl (lv_at hl 0 rfl) ?_
  refine lv_aload_n hx hb dX5_copyFrom_1 rfl (lv_at hl 1 rfl) ?_
  refine rv_getR hx hb ht ui_X5 hown hK hM (hO.fr hF hd) hj 0 (by decide) (ht _ uw_163) dX5_copyFrom_2 ?_
  refine rv_putR hx hb ht ui_X5 hown hK hM hS hR hF hj 0 (by decide) (ht _ uw_163) dX5_copyFrom_5 (fun M H locs hM hR hF hS => ?_)
  refine lv_aload_n hx hb dX5_copyFrom_8 rfl (lv_at hl 0 rfl) ?_
  refine lv_aload_n hx hb dX5_copyFrom_9 rfl (lv_at hl 1 rfl) ?_
  refine rv_getR hx hb ht ui_X5 hown hK hM (hO.fr hF hd) hj 1 (by decide) (ht _ uw_166) dX5_copyFrom_10 ?_
  refine rv_putR hx hb ht ui_X5 hown hK hM hS hR hF hj 1 (by decide) (ht _ uw_166) dX5_copyFrom_13 (fun M H locs hM hR hF hS => ?_)
  refine lv_aload_n hx hb dX5_copyFrom_16 rfl (lv_at hl 0 rfl) ?_
  refine lv_aload_n hx hb dX5_copyFrom_17 rfl (lv_at hl 1 rfl) ?_
  refine rv_getR hx hb ht ui_X5 hown hK hM (hO.fr hF hd) hj 2 (by decide) (ht _ uw_169) dX5_copyFrom_18 ?_
  refine rv_putR hx hb ht ui_X5 hown hK hM hS hR hF hj 2 (by decide) (ht _ uw_169) dX5_copyFrom_21 (fun M H locs hM hR hF hS => ?_)
  refine lv_aload_n hx hb dX5_copyFrom_24 rfl (lv_at hl 0 rfl) ?_
  refine lv_aload_n hx hb dX5_copyFrom_25 rfl (lv_at hl 1 rfl) ?_
  refine rv_getR hx hb ht ui_X5 hown hK hM (hO.fr hF hd) hj 3 (by decide) (ht _ uw_172) dX5_copyFrom_26 ?_
  refine rv_putR hx hb ht ui_X5 hown hK hM hS hR hF hj 3 (by decide) (ht _ uw_172) dX5_copyFrom_29 (fun M H locs hM hR hF hS => ?_)
  refine lv_aload_n hx hb dX5_copyFrom_32 rfl (lv_at hl 0 rfl) ?_
  refine lv_aload_n hx hb dX5_copyFrom_33 rfl (lv_at hl 1 rfl) ?_
  refine rv_getR hx hb ht ui_X5 hown hK hM (hO.fr hF hd) hj 4 (by decide) (ht _ uw_174) dX5_copyFrom_34 ?_
  refine rv_putR hx hb ht ui_X5 hown hK hM hS hR hF hj 4 (by decide) (ht _ uw_174) dX5_copyFrom_37 (fun M H locs hM hR hF hS => ?_)
  subst hQ
  exact m_vret hx hb hr hlk hK hM hS dX5_copyFrom_40 (⟨RepV.eq hR (by refine Prod.ext rfl (Prod.ext rfl ?_); exact cp_row _ _ _), hF⟩)

set_option maxHeartbeats 4000000 in
set_option maxRecDepth 100000 in
/-- a runner's row takes over another of the same valley -/
theorem k_X5_copyFrom_2 (l : Launch) (g : GG) (A : Nat → Prop) (M0 : MM) (b : Nat) (π : Nat → Nat) (v : VV) (n j : Nat) (hR : RepV g A M0 b π v) (hn : n < 20) (hj : j < 20) : Met l yX5_copyFrom (Uw yX5_copyFrom cX5_copyFrom 2 (Option.none : Option ClassFile.FieldType)) (rmD 0) (PreM [.ref (b + 15 + π n), .ref (b + 15 + π j)] g A M0) (PosV (fun M1 => RepV g A M1 b π (cprC v n j) ∧ FrV b M0 M1) g A) 0 0 A := by
  refine mk_Met (own := RX5) rfl rfl (by decide) (Nat.le_of_ble_eq_true rfl) ?_
  intro p e s m below meth c ls aa Q haa hQ hx hb hr hlk hml hown hts hK hM hS hl hnm
  obtain ⟨M, hMM⟩ : ∃ M, M = M0 := ⟨_, rfl⟩
  rw [← hMM] at hM hR
  have ht : ∀ w ∈ lw_good, w.before _ s = true := fun w h => hts w (List.mem_cons_of_mem _ h)
  have hF : FrV b M0 M := by rw [hMM]; exact FrV.rf
  have hl : lv_has ls 2 [(0, .ref (b + 15 + π n)), (1, .ref (b + 15 + π j))] := hl
  refine lv_aload_n hx hb dX5_copyFrom_0 rfl (lv_at hl 0 rfl) ?_
  refine lv_aload_n hx hb dX5_copyFrom_1 rfl (lv_at hl 1 rfl) ?_
  refine rv_getR hx hb ht ui_X5 hown hK hM hR hj 0 (by decide) (ht _ uw_163) dX5_copyFrom_2 ?_
  refine rv_putR hx hb ht ui_X5 hown hK hM hS hR hF hn 0 (by decide) (ht _ uw_163) dX5_copyFrom_5 (fun M H locs hM hR hF hS => ?_)
  refine lv_aload_n hx hb dX5_copyFrom_8 rfl (lv_at hl 0 rfl) ?_
  refine lv_aload_n hx hb dX5_copyFrom_9 rfl (lv_at hl 1 rfl) ?_
  refine rv_getR hx hb ht ui_X5 hown hK hM hR hj 1 (by decide) (ht _ uw_166) dX5_copyFrom_10 ?_
  refine rv_putR hx hb ht ui_X5 hown hK hM hS hR hF hn 1 (by decide) (ht _ uw_166) dX5_copyFrom_13 (fun M H locs hM hR hF hS => ?_)
  refine lv_aload_n hx hb dX5_copyFrom_16 rfl (lv_at hl 0 rfl) ?_
  refine lv_aload_n hx hb dX5_copyFrom_17 rfl (lv_at hl 1 rfl) ?_
  refine rv_getR hx hb ht ui_X5 hown hK hM hR hj 2 (by decide) (ht _ uw_169) dX5_copyFrom_18 ?_
  refine rv_putR hx hb ht ui_X5 hown hK hM hS hR hF hn 2 (by decide) (ht _ uw_169) dX5_copyFrom_21 (fun M H locs hM hR hF hS => ?_)
  refine lv_aload_n hx hb dX5_copyFrom_24 rfl (lv_at hl 0 rfl) ?_
  refine lv_aload_n hx hb dX5_copyFrom_25 rfl (lv_at hl 1 rfl) ?_
  refine rv_getR hx hb ht ui_X5 hown hK hM hR hj 3 (by decide) (ht _ uw_172) dX5_copyFrom_26 ?_
  refine rv_putR hx hb ht ui_X5 hown hK hM hS hR hF hn 3 (by decide) (ht _ uw_172) dX5_copyFrom_29 (fun M H locs hM hR hF hS => ?_)
  refine lv_aload_n hx hb dX5_copyFrom_32 rfl (lv_at hl 0 rfl) ?_
  refine lv_aload_n hx hb dX5_copyFrom_33 rfl (lv_at hl 1 rfl) ?_
  refine rv_getR hx hb ht ui_X5 hown hK hM hR hj 4 (by decide) (ht _ uw_174) dX5_copyFrom_34 ?_
  refine rv_putR hx hb ht ui_X5 hown hK hM hS hR hF hn 4 (by decide) (ht _ uw_174) dX5_copyFrom_37 (fun M H locs hM hR hF hS => ?_)
  subst hQ
  exact m_vret hx hb hr hlk hK hM hS dX5_copyFrom_40 (⟨hR, hF⟩)

set_option maxHeartbeats 4000000 in
set_option maxRecDepth 100000 in
/-- a gauge takes over another valley's -/
theorem k_X0_copyFrom (l : Launch) (g : GG) (A : Nat → Prop) (M0 : MM) (b : Nat) (π : Nat → Nat) (v : VV) (i : Nat) (b2 : Nat) (π2 : Nat → Nat) (v2 : VV) (hR : RepV g A M0 b π v) (hO : RepV g A M0 b2 π2 v2) (hd : b2 + 35 ≤ b ∨ b + 35 ≤ b2) (hi : i < 6) : Met l yX0_copyFrom (Uw yX0_copyFrom cX0_copyFrom 2 (Option.none : Option ClassFile.FieldType)) (rmD 1) (PreM [.ref (b + 3 + 2 * i), .ref (b2 + 3 + 2 * i)] g A M0) (PosV (fun M1 => RepV g A M1 b π ((v.1, va_up v.2.1 i (cpG (v.2.1 i) (v2.2.1 i)), v.2.2)) ∧ FrV b M0 M1) g A) 0 0 A := by
  refine mk_Met (own := RX0) rfl rfl (by decide) (Nat.le_of_ble_eq_true rfl) ?_
  intro p e s m below meth c ls aa Q haa hQ hx hb hr hlk hml hown hts hK hM hS hl hnm
  obtain ⟨M, hMM⟩ : ∃ M, M = M0 := ⟨_, rfl⟩
  rw [← hMM] at hM hR
  have ht : ∀ w ∈ lw_good, w.before _ s = true := fun w h => hts w (List.mem_cons_of_mem _ h)
  have hF : FrV b M0 M := by rw [hMM]; exact FrV.rf
  have hl : lv_has ls 2 [(0, .ref (b + 3 + 2 * i)), (1, .ref (b2 + 3 + 2 * i))] := hl
  refine lv_aload_n hx hb dX0_copyFrom_0 rfl (lv_at hl 0 rfl) ?_
  refine lv_aload_n hx hb dX0_copyFrom_1 rfl (lv_at hl 1 rfl) ?_
  refine rv_getG hx hb ht ui_X0 hown hK hM (hO.fr hF hd) hi 0 (by decide) (ht _ uw_115) dX0_copyFrom_2 ?_
  refine rv_putG hx hb ht ui_X0 hown hK hM hS hR hF hi 0 (by decide) (ht _ uw_115) dX0_copyFrom_5 (fun M H locs hM hR hF hS => ?_)
  refine lv_aload_n hx hb dX0_copyFrom_8 rfl (lv_at hl 0 rfl) ?_
  refine lv_aload_n hx hb dX0_copyFrom_9 rfl (lv_at hl 1 rfl) ?_
  refine rv_getG hx hb ht ui_X0 hown hK hM (hO.fr hF hd) hi 1 (by decide) (ht _ uw_118) dX0_copyFrom_10 ?_
  refine rv_putG hx hb ht ui_X0 hown hK hM hS hR hF hi 1 (by decide) (ht _ uw_118) dX0_copyFrom_13 (fun M H locs hM hR hF hS => ?_)
  refine lv_aload_n hx hb dX0_copyFrom_16 rfl (lv_at hl 0 rfl) ?_
  refine lv_aload_n hx hb dX0_copyFrom_17 rfl (lv_at hl 1 rfl) ?_
  refine rv_getG hx hb ht ui_X0 hown hK hM (hO.fr hF hd) hi 2 (by decide) (ht _ uw_121) dX0_copyFrom_18 ?_
  refine rv_putG hx hb ht ui_X0 hown hK hM hS hR hF hi 2 (by decide) (ht _ uw_121) dX0_copyFrom_21 (fun M H locs hM hR hF hS => ?_)
  refine lv_aload_n hx hb dX0_copyFrom_24 rfl (lv_at hl 0 rfl) ?_
  refine lv_aload_n hx hb dX0_copyFrom_25 rfl (lv_at hl 1 rfl) ?_
  refine rv_getG hx hb ht ui_X0 hown hK hM (hO.fr hF hd) hi 3 (by decide) (ht _ uw_124) dX0_copyFrom_26 ?_
  refine rv_putG hx hb ht ui_X0 hown hK hM hS hR hF hi 3 (by decide) (ht _ uw_124) dX0_copyFrom_29 (fun M H locs hM hR hF hS => ?_)
  refine lv_aload_n hx hb dX0_copyFrom_32 rfl (lv_at hl 0 rfl) ?_
  refine lv_aload_n hx hb dX0_copyFrom_33 rfl (lv_at hl 1 rfl) ?_
  refine rv_getG hx hb ht ui_X0 hown hK hM (hO.fr hF hd) hi 4 (by decide) (ht _ uw_127) dX0_copyFrom_34 ?_
  refine rv_putG hx hb ht ui_X0 hown hK hM hS hR hF hi 4 (by decide) (ht _ uw_127) dX0_copyFrom_37 (fun M H locs hM hR hF hS => ?_)
  refine lv_aload_n hx hb dX0_copyFrom_40 rfl (lv_at hl 0 rfl) ?_
  refine lv_aload_n hx hb dX0_copyFrom_41 rfl (lv_at hl 1 rfl) ?_
  refine rv_getG hx hb ht ui_X0 hown hK hM (hO.fr hF hd) hi 5 (by decide) (ht _ uw_130) dX0_copyFrom_42 ?_
  refine rv_putG hx hb ht ui_X0 hown hK hM hS hR hF hi 5 (by decide) (ht _ uw_130) dX0_copyFrom_45 (fun M H locs hM hR hF hS => ?_)
  refine lv_aload_n hx hb dX0_copyFrom_48 rfl (lv_at hl 0 rfl) ?_
  refine lv_aload_n hx hb dX0_copyFrom_49 rfl (lv_at hl 1 rfl) ?_
  refine rv_getG hx hb ht ui_X0 hown hK hM (hO.fr hF hd) hi 6 (by decide) (ht _ uw_132) dX0_copyFrom_50 ?_
  refine rv_putG hx hb ht ui_X0 hown hK hM hS hR hF hi 6 (by decide) (ht _ uw_132) dX0_copyFrom_53 (fun M H locs hM hR hF hS => ?_)
  refine lv_aload_n hx hb dX0_copyFrom_56 rfl (lv_at hl 0 rfl) ?_
  refine lv_aload_n hx hb dX0_copyFrom_57 rfl (lv_at hl 1 rfl) ?_
  refine rv_getG hx hb ht ui_X0 hown hK hM (hO.fr hF hd) hi 7 (by decide) (ht _ uw_134) dX0_copyFrom_58 ?_
  refine rv_putG hx hb ht ui_X0 hown hK hM hS hR hF hi 7 (by decide) (ht _ uw_134) dX0_copyFrom_61 (fun M H locs hM hR hF hS => ?_)
  refine lv_aload_n hx hb dX0_copyFrom_64 rfl (lv_at hl 0 rfl) ?_
  refine rv_getpg hx hb ht ui_X0 hown hK hM hR hi (ht _ uw_136) dX0_copyFrom_65 ?_
  refine lv_aload_n hx hb dX0_copyFrom_68 rfl (lv_at hl 1 rfl) ?_
  refine rv_getpg hx hb ht ui_X0 hown hK hM (hO.fr hF hd) hi (ht _ uw_136) dX0_copyFrom_69 ?_
  refine m_callV (As := [.ref (b2 + 4 + 2 * i)]) (rest := []) ⟨hx, hb, hml, hown, ht⟩ (k_X4_copyFrom l g A M b π (vG (vG (vG (vG (vG (vG (vG (vG v i 0 (v2.2.1 i 0)) i 1 (v2.2.1 i 1)) i 2 (v2.2.1 i 2)) i 3 (v2.2.1 i 3)) i 4 (v2.2.1 i 4)) i 5 (v2.2.1 i 5)) i 6 (v2.2.1 i 6)) i 7 (v2.2.1 i 7)) i b2 π2 v2 hR (hO.fr hF hd) hd hi) (cwV 1 ht (gU uw_320 uw_321 uw_322 uw_37 uw_323) rfl rfl rfl (by decide +kernel) ⟨by decide, by decide⟩) hK hM hS (m_recv hK hM (hR.AP hi) (hR.P hi) rfl) rfl hl.1 rfl (Nat.le_of_ble_eq_true rfl) dX0_copyFrom_72 ⟨by decide, by decide⟩ (fun M H locs hp hM hS => ?_)
  obtain ⟨hR, hF1⟩ := hp
  have hF := hF.tr hF1
  subst hQ
  exact m_vret hx hb hr hlk hK hM hS dX0_copyFrom_75 (⟨RepV.eq hR (by refine Prod.ext rfl (Prod.ext ?_ rfl); exact cp_gauge _ _ _), hF⟩)

set_option maxHeartbeats 4000000 in
set_option maxRecDepth 100000 in
/-- a runner counts as lost -/
theorem k_X6_countAsLost (l : Launch) (g : GG) (A : Nat → Prop) (M0 : MM) (b : Nat) (π : Nat → Nat) (v : VV) (j : Nat) (hR : RepV g A M0 b π v) (hj : j < 20) : Met l yX6_countAsLost (Uw yX6_countAsLost cX6_countAsLost 3 (Option.none : Option ClassFile.FieldType)) (rmD 1) (PreM [.ref (b), .ref (b + 15 + π j)] g A M0) (PosV (fun M1 => RepV g A M1 b π (cosC v j) ∧ FrV b M0 M1) g A) 0 0 A := by
  refine mk_Met (own := RX6) rfl rfl (by decide) (Nat.le_of_ble_eq_true rfl) ?_
  intro p e s m below meth c ls aa Q haa hQ hx hb hr hlk hml hown hts hK hM hS hl hnm
  obtain ⟨M, hMM⟩ : ∃ M, M = M0 := ⟨_, rfl⟩
  rw [← hMM] at hM hR
  have ht : ∀ w ∈ lw_good, w.before _ s = true := fun w h => hts w (List.mem_cons_of_mem _ h)
  have hF : FrV b M0 M := by rw [hMM]; exact FrV.rf
  have hl : lv_has ls 3 [(0, .ref (b)), (1, .ref (b + 15 + π j))] := hl
  rcases gxn_cases (n := 6) (by decide) (v.2.2 j 0) with ⟨e1, h1⟩ | ⟨i, hi, ex, e1⟩
  · refine lv_aload_n hx hb dX6_countAsLost_0 rfl (lv_at hl 0 rfl) ?_
    refine lv_aload_n hx hb dX6_countAsLost_1 rfl (lv_at hl 1 rfl) ?_
    refine rv_getR hx hb ht ui_X5 hown hK hM hR hj 0 (by decide) (ht _ uw_165) dX6_countAsLost_2 ?_
    refine m_callRQ (val := none) (w := .null) (rfl) (As := [.int (v.2.2 j 0)]) (rest := []) ⟨hx, hb, hml, hown, ht⟩ (k_X6_gaugeAt l g A M b π v (v.2.2 j 0) none hR e1) (cwV 1 ht (gU uw_336 uw_337 uw_338 uw_35 uw_339) rfl rfl rfl (by decide +kernel) ⟨by decide, by decide⟩) hK hM hS (m_recv hK hM hR.AW hR.W rfl) rfl hl.1 rfl (Nat.le_of_ble_eq_true rfl) dX6_countAsLost_5 ⟨by decide, by decide⟩ (fun H locs hM hS => ?_)
    refine lv_astore_nN (lv' := [(2, .null), (0, .ref (b)), (1, .ref (b + 15 + π j))]) hx hb dX6_countAsLost_8 rfl hl (by decide) rfl (fun ls hl => ?_)
    refine lv_aload_nN hx hb dX6_countAsLost_9 rfl (lv_at hl 0 rfl) ?_
    refine lv_ifnullN (tgt := 26) hx hb dX6_countAsLost_10 (by decide) ?_
    subst hQ
    exact m_vret hx hb hr hlk hK hM hS dX6_countAsLost_26 (⟨RepV.eq hR (by unfold cosC; rw [e1]), hF⟩)
  · refine lv_aload_n hx hb dX6_countAsLost_0 rfl (lv_at hl 0 rfl) ?_
    refine lv_aload_n hx hb dX6_countAsLost_1 rfl (lv_at hl 1 rfl) ?_
    refine rv_getR hx hb ht ui_X5 hown hK hM hR hj 0 (by decide) (ht _ uw_165) dX6_countAsLost_2 ?_
    refine m_callRQ (val := some (b + 3 + 2 * i)) (w := .ref (b + 3 + 2 * i)) (rfl) (As := [.int (v.2.2 j 0)]) (rest := []) ⟨hx, hb, hml, hown, ht⟩ (k_X6_gaugeAt l g A M b π v (v.2.2 j 0) (some i) hR e1) (cwV 1 ht (gU uw_336 uw_337 uw_338 uw_35 uw_339) rfl rfl rfl (by decide +kernel) ⟨by decide, by decide⟩) hK hM hS (m_recv hK hM hR.AW hR.W rfl) rfl hl.1 rfl (Nat.le_of_ble_eq_true rfl) dX6_countAsLost_5 ⟨by decide, by decide⟩ (fun H locs hM hS => ?_)
    refine lv_astore_n (lv' := [(2, .ref (b + 3 + 2 * i)), (0, .ref (b)), (1, .ref (b + 15 + π j))]) hx hb dX6_countAsLost_8 rfl hl (by decide) rfl (fun ls hl => ?_)
    refine lv_aload_n hx hb dX6_countAsLost_9 rfl (lv_at hl 0 rfl) ?_
    refine lv_ifnull hx hb dX6_countAsLost_10 ?_
    refine lv_aload_n hx hb dX6_countAsLost_13 rfl (lv_at hl 0 rfl) ?_
    refine rv_getpg hx hb ht ui_X0 hown hK hM hR hi (ht _ uw_138) dX6_countAsLost_14 ?_
    refine lv_dup hx hb dX6_countAsLost_17 rfl ?_
    refine rv_getP hx hb ht ui_X4 hown hK hM hR hi 7 (by decide) (ht _ uw_97) dX6_countAsLost_18 ?_
    refine lv_iconst (v := 1) hx hb dX6_countAsLost_21 (by first | rfl | decide) ?_
    refine lv_iadd hx hb dX6_countAsLost_22 ?_
    refine rv_putP hx hb ht ui_X4 hown hK hM hS hR hF hi 7 (by decide) (ht _ uw_97) dX6_countAsLost_23 (fun M H locs hM hR hF hS => ?_)
    subst hQ
    exact m_vret hx hb hr hlk hK hM hS dX6_countAsLost_26 (⟨RepV.eq hR (by unfold cosC; rw [e1]), hF⟩)

set_option maxHeartbeats 4000000 in
set_option maxRecDepth 100000 in
/-- the tips that the village lets expect -/
theorem k_X6_expectedTips (l : Launch) (g : GG) (A : Nat → Prop) (M0 : MM) (b : Nat) (π : Nat → Nat) (v : VV) (i j : Nat) (hR : RepV g A M0 b π v) (hi : i < 6) (hj : j < 20) : Met l yX6_expectedTips (Uw yX6_expectedTips cX6_expectedTips 5 (Option.some ClassFile.FieldType.int)) (rmD 0) (PreM [.ref (b), .ref (b + 3 + 2 * i), .ref (b + 15 + π j)] g A M0) (PosI (fun r M1 => r = (expC v i j) ∧ M1 = M0) g A) 0 0 A := by
  refine mk_Met (own := RX6) rfl rfl (by decide) (Nat.le_of_ble_eq_true rfl) ?_
  intro p e s m below meth c ls aa Q haa hQ hx hb hr hlk hml hown hts hK hM hS hl hnm
  obtain ⟨M, hMM⟩ : ∃ M, M = M0 := ⟨_, rfl⟩
  rw [← hMM] at hM hR
  have ht : ∀ w ∈ lw_good, w.before _ s = true := fun w h => hts w (List.mem_cons_of_mem _ h)
  have hF : FrV b M0 M := by rw [hMM]; exact FrV.rf
  have hl : lv_has ls 5 [(0, .ref (b)), (1, .ref (b + 3 + 2 * i)), (2, .ref (b + 15 + π j))] := hl
  refine lv_aload_n hx hb dX6_expectedTips_0 rfl (lv_at hl 0 rfl) ?_
  refine rv_getga hx hb ht ui_X6 hown hK hM hR (ht _ uw_196) dX6_expectedTips_1 ?_
  refine lv_iconst (v := nI 0) hx hb dX6_expectedTips_4 (by first | rfl | decide) ?_
  refine rv_aldG hx hb hK hM hR ((by decide : 0 < 6)) dX6_expectedTips_5 ?_
  refine rv_getG hx hb ht ui_X0 hown hK hM hR ((by decide : 0 < 6)) 0 (by decide) (ht _ uw_117) dX6_expectedTips_6 ?_
  refine lv_istore_n (lv' := [(3, .int (v.2.1 0 0)), (0, .ref (b)), (1, .ref (b + 3 + 2 * i)), (2, .ref (b + 15 + π j))]) hx hb dX6_expectedTips_9 rfl hl (by decide) rfl (fun ls hl => ?_)
  refine lv_iload_n hx hb dX6_expectedTips_10 rfl (lv_at hl 0 rfl) ?_
  refine lv_if_le (tgt := 21) hx hb dX6_expectedTips_11 (by decide) (fun c_11 => ?_) (fun c_11 => ?_)
  · refine lv_iconst (v := nI 0) hx hb dX6_expectedTips_21 (by first | rfl | decide) ?_
    subst hQ
    exact m_zret hx hb hr rfl hlk hK hM hS dX6_expectedTips_22 (⟨by unfold expC; first | rw [if_pos (Or.inl c_11)]; rfl | (rw [if_pos (Or.inr (Int32.not_lt.mp c_18))]; rfl) | rw [if_neg (fun q => q.elim c_11 (Int32.not_le.mpr c_18))], hMM⟩)
  · refine lv_aload_n hx hb dX6_expectedTips_14 rfl (lv_at hl 2 rfl) ?_
    refine rv_getG hx hb ht ui_X0 hown hK hM hR hi 1 (by decide) (ht _ uw_120) dX6_expectedTips_15 ?_
    refine lv_if_gt (tgt := 23) hx hb dX6_expectedTips_18 (by decide) (fun c_18 => ?_) (fun c_18 => ?_)
    · refine lv_aload_n hx hb dX6_expectedTips_23 rfl (lv_at hl 3 rfl) ?_
      refine rv_getR hx hb ht ui_X5 hown hK hM hR hj 3 (by decide) (ht _ uw_173) dX6_expectedTips_24 ?_
      refine lv_aload_n hx hb dX6_expectedTips_27 rfl (lv_at hl 2 rfl) ?_
      refine rv_getpg hx hb ht ui_X0 hown hK hM hR hi (ht _ uw_138) dX6_expectedTips_28 ?_
      refine rv_getP hx hb ht ui_X4 hown hK hM hR hi 3 (by decide) (ht _ uw_85) dX6_expectedTips_31 ?_
      refine lv_isub hx hb dX6_expectedTips_34 ?_
      refine lv_istore (lv' := [(4, .int ((v.2.2 j 3) - (v.2.1 i 11))), (3, .int (v.2.1 0 0)), (0, .ref (b)), (1, .ref (b + 3 + 2 * i)), (2, .ref (b + 15 + π j))]) hx hb dX6_expectedTips_35 hl (by decide) rfl (fun ls hl => ?_)
      refine lv_iload hx hb dX6_expectedTips_37 (lv_at hl 0 rfl) ?_
      refine lv_aload_n hx hb dX6_expectedTips_39 rfl (lv_at hl 3 rfl) ?_
      refine rv_getG hx hb ht ui_X0 hown hK hM hR hi 0 (by decide) (ht _ uw_117) dX6_expectedTips_40 ?_
      refine lv_imul hx hb dX6_expectedTips_43 ?_
      refine lv_iload_n hx hb dX6_expectedTips_44 rfl (lv_at hl 1 rfl) ?_
      refine lv_idiv hx hb dX6_expectedTips_45 (c_nz c_11) ?_
      refine lv_aload_n hx hb dX6_expectedTips_46 rfl (lv_at hl 3 rfl) ?_
      refine rv_getG hx hb ht ui_X0 hown hK hM hR hi 1 (by decide) (ht _ uw_120) dX6_expectedTips_47 ?_
      refine lv_idiv hx hb dX6_expectedTips_50 (c_nz (Int32.not_le.mpr c_18)) ?_
      subst hQ
      exact m_zret hx hb hr rfl hlk hK hM hS dX6_expectedTips_51 (⟨by unfold expC; first | rw [if_pos (Or.inl c_11)]; rfl | (rw [if_pos (Or.inr (Int32.not_lt.mp c_18))]; rfl) | rw [if_neg (fun q => q.elim c_11 (Int32.not_le.mpr c_18))], hMM⟩)
    · refine lv_iconst (v := nI 0) hx hb dX6_expectedTips_21 (by first | rfl | decide) ?_
      subst hQ
      exact m_zret hx hb hr rfl hlk hK hM hS dX6_expectedTips_22 (⟨by unfold expC; first | rw [if_pos (Or.inl c_11)]; rfl | (rw [if_pos (Or.inr (Int32.not_lt.mp c_18))]; rfl) | rw [if_neg (fun q => q.elim c_11 (Int32.not_le.mpr c_18))], hMM⟩)

set_option maxHeartbeats 4000000 in
set_option maxRecDepth 100000 in
/-- the rounds of the wheel that come nearer -/
theorem k_X6_roundsFor (l : Launch) (g : GG) (A : Nat → Prop) (M0 : MM) (b : Nat) (π : Nat → Nat) (v : VV) (x : Int32) (hR : RepV g A M0 b π v)  : Met l yX6_roundsFor (Uw yX6_roundsFor cX6_roundsFor 2 (Option.some ClassFile.FieldType.int)) (rmD 0) (PreM [.ref (b), .int (x)] g A M0) (PosI (fun r M1 => r = (rouC v x) ∧ M1 = M0) g A) 0 0 A := by
  refine mk_Met (own := RX6) rfl rfl (by decide) (Nat.le_of_ble_eq_true rfl) ?_
  intro p e s m below meth c ls aa Q haa hQ hx hb hr hlk hml hown hts hK hM hS hl hnm
  obtain ⟨M, hMM⟩ : ∃ M, M = M0 := ⟨_, rfl⟩
  rw [← hMM] at hM hR
  have ht : ∀ w ∈ lw_good, w.before _ s = true := fun w h => hts w (List.mem_cons_of_mem _ h)
  have hF : FrV b M0 M := by rw [hMM]; exact FrV.rf
  have hl : lv_has ls 2 [(0, .ref (b)), (1, .int (x))] := hl
  refine lv_iload_n hx hb dX6_roundsFor_0 rfl (lv_at hl 1 rfl) ?_
  refine lv_if_le (tgt := 11) hx hb dX6_roundsFor_1 (by decide) (fun c_1 => ?_) (fun c_1 => ?_)
  · refine lv_iconst (v := 0) hx hb dX6_roundsFor_11 (by first | rfl | decide) ?_
    subst hQ
    exact m_zret hx hb hr rfl hlk hK hM hS dX6_roundsFor_12 (⟨by unfold rouC; first | rw [if_pos (Or.inl c_1)] | rw [if_pos (Or.inr (Int32.not_lt.mp c_8))] | rw [if_neg (fun q => q.elim c_1 (Int32.not_le.mpr c_8))], hMM⟩)
  · refine lv_aload_n hx hb dX6_roundsFor_4 rfl (lv_at hl 0 rfl) ?_
    refine rv_getW hx hb ht ui_X6 hown hK hM hR 0 (by decide) (ht _ uw_188) dX6_roundsFor_5 ?_
    refine lv_if_gt (tgt := 13) hx hb dX6_roundsFor_8 (by decide) (fun c_8 => ?_) (fun c_8 => ?_)
    · refine lv_iconst (v := 2) hx hb dX6_roundsFor_13 (by first | rfl | decide) ?_
      refine lv_iload_n hx hb dX6_roundsFor_14 rfl (lv_at hl 1 rfl) ?_
      refine lv_imul hx hb dX6_roundsFor_15 ?_
      refine lv_aload_n hx hb dX6_roundsFor_16 rfl (lv_at hl 0 rfl) ?_
      refine rv_getW hx hb ht ui_X6 hown hK hM hR 0 (by decide) (ht _ uw_188) dX6_roundsFor_17 ?_
      refine lv_iadd hx hb dX6_roundsFor_20 ?_
      refine lv_iconst (v := 1) hx hb dX6_roundsFor_21 (by first | rfl | decide) ?_
      refine lv_isub hx hb dX6_roundsFor_22 ?_
      refine lv_iconst (v := 2) hx hb dX6_roundsFor_23 (by first | rfl | decide) ?_
      refine lv_aload_n hx hb dX6_roundsFor_24 rfl (lv_at hl 0 rfl) ?_
      refine rv_getW hx hb ht ui_X6 hown hK hM hR 0 (by decide) (ht _ uw_188) dX6_roundsFor_25 ?_
      refine lv_imul hx hb dX6_roundsFor_28 ?_
      refine lv_idiv hx hb dX6_roundsFor_29 (two_nz (Int32.not_le.mpr c_8)) ?_
      subst hQ
      exact m_zret hx hb hr rfl hlk hK hM hS dX6_roundsFor_30 (⟨by unfold rouC; first | rw [if_pos (Or.inl c_1)] | rw [if_pos (Or.inr (Int32.not_lt.mp c_8))] | rw [if_neg (fun q => q.elim c_1 (Int32.not_le.mpr c_8))], hMM⟩)
    · refine lv_iconst (v := 0) hx hb dX6_roundsFor_11 (by first | rfl | decide) ?_
      subst hQ
      exact m_zret hx hb hr rfl hlk hK hM hS dX6_roundsFor_12 (⟨by unfold rouC; first | rw [if_pos (Or.inl c_1)] | rw [if_pos (Or.inr (Int32.not_lt.mp c_8))] | rw [if_neg (fun q => q.elim c_1 (Int32.not_le.mpr c_8))], hMM⟩)

set_option maxHeartbeats 4000000 in
set_option maxRecDepth 100000 in
/-- what the wheel went on -/
theorem k_X6_wentOn (l : Launch) (g : GG) (A : Nat → Prop) (M0 : MM) (b : Nat) (π : Nat → Nat) (v : VV) (i j : Nat) (hR : RepV g A M0 b π v) (hi : i < 6) (hj : j < 20) : Met l yX6_wentOn (Uw yX6_wentOn cX6_wentOn 4 (Option.some ClassFile.FieldType.int)) (rmD 1) (PreM [.ref (b), .ref (b + 3 + 2 * i), .ref (b + 15 + π j)] g A M0) (PosI (fun r M1 => r = (wenC v i j) ∧ M1 = M0) g A) 0 0 A := by
  refine mk_Met (own := RX6) rfl rfl (by decide) (Nat.le_of_ble_eq_true rfl) ?_
  intro p e s m below meth c ls aa Q haa hQ hx hb hr hlk hml hown hts hK hM hS hl hnm
  obtain ⟨M, hMM⟩ : ∃ M, M = M0 := ⟨_, rfl⟩
  rw [← hMM] at hM hR
  have ht : ∀ w ∈ lw_good, w.before _ s = true := fun w h => hts w (List.mem_cons_of_mem _ h)
  have hF : FrV b M0 M := by rw [hMM]; exact FrV.rf
  have hl : lv_has ls 4 [(0, .ref (b)), (1, .ref (b + 3 + 2 * i)), (2, .ref (b + 15 + π j))] := hl
  refine lv_aload_n hx hb dX6_wentOn_0 rfl (lv_at hl 0 rfl) ?_
  refine lv_aload_n hx hb dX6_wentOn_1 rfl (lv_at hl 2 rfl) ?_
  refine rv_getR hx hb ht ui_X5 hown hK hM hR hj 1 (by decide) (ht _ uw_167) dX6_wentOn_2 ?_
  refine m_callRI (val := whC v (v.2.2 j 1)) (As := [.int (v.2.2 j 1)]) (rest := []) ⟨hx, hb, hml, hown, ht⟩ (k_X6_wheelAt l g A M b π v (v.2.2 j 1) hR) (cwV 1 ht (gU uw_376 uw_377 uw_378 uw_35 uw_379) rfl rfl rfl (by decide +kernel) ⟨by decide, by decide⟩) hK hM hS (m_recv hK hM hR.AW hR.W rfl) rfl hl.1 rfl (Nat.le_of_ble_eq_true rfl) dX6_wentOn_5 ⟨by decide, by decide⟩ (fun H locs hM hS => ?_)
  refine lv_aload_n hx hb dX6_wentOn_8 rfl (lv_at hl 0 rfl) ?_
  refine lv_aload_n hx hb dX6_wentOn_9 rfl (lv_at hl 1 rfl) ?_
  refine rv_getpg hx hb ht ui_X0 hown hK hM hR hi (ht _ uw_138) dX6_wentOn_10 ?_
  refine rv_getP hx hb ht ui_X4 hown hK hM hR hi 2 (by decide) (ht _ uw_83) dX6_wentOn_13 ?_
  refine m_callRI (val := whC v (v.2.1 i 10)) (As := [.int (v.2.1 i 10)]) (rest := [.int (whC v (v.2.2 j 1))]) ⟨hx, hb, hml, hown, ht⟩ (k_X6_wheelAt l g A M b π v (v.2.1 i 10) hR) (cwV 1 ht (gU uw_376 uw_377 uw_378 uw_35 uw_379) rfl rfl rfl (by decide +kernel) ⟨by decide, by decide⟩) hK hM hS (m_recv hK hM hR.AW hR.W rfl) rfl hl.1 rfl (Nat.le_of_ble_eq_true rfl) dX6_wentOn_16 ⟨by decide, by decide⟩ (fun H locs hM hS => ?_)
  refine lv_isub hx hb dX6_wentOn_19 ?_
  refine lv_topi (fun n1 e_n1 => ?_)
  refine lv_istore_n (lv' := [(3, .int (n1)), (0, .ref (b)), (1, .ref (b + 3 + 2 * i)), (2, .ref (b + 15 + π j))]) hx hb dX6_wentOn_20 rfl hl (by decide) rfl (fun ls hl => ?_)
  refine lv_iload_n hx hb dX6_wentOn_21 rfl (lv_at hl 0 rfl) ?_
  refine lv_if_ge (tgt := 32) hx hb dX6_wentOn_22 (by decide) (fun c_22 => ?_) (fun c_22 => ?_)
  · refine lv_aload_n hx hb dX6_wentOn_32 rfl (lv_at hl 1 rfl) ?_
    refine rv_getW hx hb ht ui_X6 hown hK hM hR 1 (by decide) (ht _ uw_190) dX6_wentOn_33 ?_
    refine lv_iconst (v := 1) hx hb dX6_wentOn_36 (by first | rfl | decide) ?_
    refine lv_icmp_ne (tgt := 60) hx hb dX6_wentOn_37 (by decide) (fun c_37 => ?_) (fun c_37 => ?_)
    · refine lv_iload_n hx hb dX6_wentOn_60 rfl (lv_at hl 0 rfl) ?_
      subst hQ
      exact m_zret hx hb hr rfl hlk hK hM hS dX6_wentOn_61 (⟨by first | exact wen_a e_n1 c_22 c_37 | exact wen_b e_n1 c_22 c_37 | exact wen_c e_n1 c_22 e_n2 c_37 | exact wen_d e_n1 c_22 e_n2 c_37, hMM⟩)
    · refine lv_iload_n hx hb dX6_wentOn_40 rfl (lv_at hl 0 rfl) ?_
      refine lv_aload_n hx hb dX6_wentOn_41 rfl (lv_at hl 1 rfl) ?_
      refine rv_getW hx hb ht ui_X6 hown hK hM hR 0 (by decide) (ht _ uw_188) dX6_wentOn_42 ?_
      refine lv_aload_n hx hb dX6_wentOn_45 rfl (lv_at hl 1 rfl) ?_
      refine lv_aload_n hx hb dX6_wentOn_46 rfl (lv_at hl 1 rfl) ?_
      refine lv_aload_n hx hb dX6_wentOn_47 rfl (lv_at hl 2 rfl) ?_
      refine lv_aload_n hx hb dX6_wentOn_48 rfl (lv_at hl 3 rfl) ?_
      refine m_callRI (val := expC v i j) (As := [.ref (b + 3 + 2 * i), .ref (b + 15 + π j)]) (rest := [.ref (b), .int (v.1 0), .int (n1)]) ⟨hx, hb, hml, hown, ht⟩ (k_X6_expectedTips l g A M b π v i j hR hi hj) (cwV 2 ht (gU uw_384 uw_386 uw_4 uw_35 uw_387) rfl rfl rfl (by decide +kernel) ⟨by decide, by decide⟩) hK hM hS (m_recv hK hM hR.AW hR.W rfl) rfl hl.1 rfl (Nat.le_of_ble_eq_true rfl) dX6_wentOn_49 ⟨by decide, by decide⟩ (fun H locs hM hS => ?_)
      refine lv_iload_n hx hb dX6_wentOn_52 rfl (lv_at hl 0 rfl) ?_
      refine lv_isub hx hb dX6_wentOn_53 ?_
      refine m_callRI (val := rouC v ((expC v i j) - (n1))) (As := [.int ((expC v i j) - (n1))]) (rest := [.int (v.1 0), .int (n1)]) ⟨hx, hb, hml, hown, ht⟩ (k_X6_roundsFor l g A M b π v ((expC v i j) - (n1)) hR) (cwV 1 ht (gU uw_388 uw_390 uw_5 uw_35 uw_391) rfl rfl rfl (by decide +kernel) ⟨by decide, by decide⟩) hK hM hS (m_recv hK hM hR.AW hR.W rfl) rfl hl.1 rfl (Nat.le_of_ble_eq_true rfl) dX6_wentOn_54 ⟨by decide, by decide⟩ (fun H locs hM hS => ?_)
      refine lv_imul hx hb dX6_wentOn_57 ?_
      refine lv_iadd hx hb dX6_wentOn_58 ?_
      refine lv_istore_n (lv' := [(3, .int ((n1) + ((v.1 0) * (rouC v ((expC v i j) - (n1)))))), (0, .ref (b)), (1, .ref (b + 3 + 2 * i)), (2, .ref (b + 15 + π j))]) hx hb dX6_wentOn_59 rfl hl (by decide) rfl (fun ls hl => ?_)
      refine lv_iload_n hx hb dX6_wentOn_60 rfl (lv_at hl 0 rfl) ?_
      subst hQ
      exact m_zret hx hb hr rfl hlk hK hM hS dX6_wentOn_61 (⟨by first | exact wen_a e_n1 c_22 c_37 | exact wen_b e_n1 c_22 c_37 | exact wen_c e_n1 c_22 e_n2 c_37 | exact wen_d e_n1 c_22 e_n2 c_37, hMM⟩)
  · refine lv_iload_n hx hb dX6_wentOn_25 rfl (lv_at hl 0 rfl) ?_
    refine lv_aload_n hx hb dX6_wentOn_26 rfl (lv_at hl 1 rfl) ?_
    refine rv_getW hx hb ht ui_X6 hown hK hM hR 0 (by decide) (ht _ uw_188) dX6_wentOn_27 ?_
    refine lv_iadd hx hb dX6_wentOn_30 ?_
    refine lv_topi (fun n2 e_n2 => ?_)
    refine lv_istore_n (lv' := [(3, .int (n2)), (0, .ref (b)), (1, .ref (b + 3 + 2 * i)), (2, .ref (b + 15 + π j))]) hx hb dX6_wentOn_31 rfl hl (by decide) rfl (fun ls hl => ?_)
    refine lv_aload_n hx hb dX6_wentOn_32 rfl (lv_at hl 1 rfl) ?_
    refine rv_getW hx hb ht ui_X6 hown hK hM hR 1 (by decide) (ht _ uw_190) dX6_wentOn_33 ?_
    refine lv_iconst (v := 1) hx hb dX6_wentOn_36 (by first | rfl | decide) ?_
    refine lv_icmp_ne (tgt := 60) hx hb dX6_wentOn_37 (by decide) (fun c_37 => ?_) (fun c_37 => ?_)
    · refine lv_iload_n hx hb dX6_wentOn_60 rfl (lv_at hl 0 rfl) ?_
      subst hQ
      exact m_zret hx hb hr rfl hlk hK hM hS dX6_wentOn_61 (⟨by first | exact wen_a e_n1 c_22 c_37 | exact wen_b e_n1 c_22 c_37 | exact wen_c e_n1 c_22 e_n2 c_37 | exact wen_d e_n1 c_22 e_n2 c_37, hMM⟩)
    · refine lv_iload_n hx hb dX6_wentOn_40 rfl (lv_at hl 0 rfl) ?_
      refine lv_aload_n hx hb dX6_wentOn_41 rfl (lv_at hl 1 rfl) ?_
      refine rv_getW hx hb ht ui_X6 hown hK hM hR 0 (by decide) (ht _ uw_188) dX6_wentOn_42 ?_
      refine lv_aload_n hx hb dX6_wentOn_45 rfl (lv_at hl 1 rfl) ?_
      refine lv_aload_n hx hb dX6_wentOn_46 rfl (lv_at hl 1 rfl) ?_
      refine lv_aload_n hx hb dX6_wentOn_47 rfl (lv_at hl 2 rfl) ?_
      refine lv_aload_n hx hb dX6_wentOn_48 rfl (lv_at hl 3 rfl) ?_
      refine m_callRI (val := expC v i j) (As := [.ref (b + 3 + 2 * i), .ref (b + 15 + π j)]) (rest := [.ref (b), .int (v.1 0), .int (n2)]) ⟨hx, hb, hml, hown, ht⟩ (k_X6_expectedTips l g A M b π v i j hR hi hj) (cwV 2 ht (gU uw_384 uw_386 uw_4 uw_35 uw_387) rfl rfl rfl (by decide +kernel) ⟨by decide, by decide⟩) hK hM hS (m_recv hK hM hR.AW hR.W rfl) rfl hl.1 rfl (Nat.le_of_ble_eq_true rfl) dX6_wentOn_49 ⟨by decide, by decide⟩ (fun H locs hM hS => ?_)
      refine lv_iload_n hx hb dX6_wentOn_52 rfl (lv_at hl 0 rfl) ?_
      refine lv_isub hx hb dX6_wentOn_53 ?_
      refine m_callRI (val := rouC v ((expC v i j) - (n2))) (As := [.int ((expC v i j) - (n2))]) (rest := [.int (v.1 0), .int (n2)]) ⟨hx, hb, hml, hown, ht⟩ (k_X6_roundsFor l g A M b π v ((expC v i j) - (n2)) hR) (cwV 1 ht (gU uw_388 uw_390 uw_5 uw_35 uw_391) rfl rfl rfl (by decide +kernel) ⟨by decide, by decide⟩) hK hM hS (m_recv hK hM hR.AW hR.W rfl) rfl hl.1 rfl (Nat.le_of_ble_eq_true rfl) dX6_wentOn_54 ⟨by decide, by decide⟩ (fun H locs hM hS => ?_)
      refine lv_imul hx hb dX6_wentOn_57 ?_
      refine lv_iadd hx hb dX6_wentOn_58 ?_
      refine lv_istore_n (lv' := [(3, .int ((n2) + ((v.1 0) * (rouC v ((expC v i j) - (n2)))))), (0, .ref (b)), (1, .ref (b + 3 + 2 * i)), (2, .ref (b + 15 + π j))]) hx hb dX6_wentOn_59 rfl hl (by decide) rfl (fun ls hl => ?_)
      refine lv_iload_n hx hb dX6_wentOn_60 rfl (lv_at hl 0 rfl) ?_
      subst hQ
      exact m_zret hx hb hr rfl hlk hK hM hS dX6_wentOn_61 (⟨by first | exact wen_a e_n1 c_22 c_37 | exact wen_b e_n1 c_22 c_37 | exact wen_c e_n1 c_22 e_n2 c_37 | exact wen_d e_n1 c_22 e_n2 c_37, hMM⟩)

set_option maxHeartbeats 4000000 in
set_option maxRecDepth 100000 in
/-- what a runner tells comes into the ledger -/
theorem k_X6_hear (l : Launch) (g : GG) (A : Nat → Prop) (M0 : MM) (b : Nat) (π : Nat → Nat) (v : VV) (j : Nat) (hR : RepV g A M0 b π v) (hj : j < 20) : Met l yX6_hear (Uw yX6_hear cX6_hear 4 (Option.none : Option ClassFile.FieldType)) (rmD 2) (PreM [.ref (b), .ref (b + 15 + π j)] g A M0) (PosV (fun M1 => RepV g A M1 b π (heaC v j) ∧ FrV b M0 M1) g A) 0 0 A := by
  refine mk_Met (own := RX6) rfl rfl (by decide) (Nat.le_of_ble_eq_true rfl) ?_
  intro p e s m below meth c ls aa Q haa hQ hx hb hr hlk hml hown hts hK hM hS hl hnm
  obtain ⟨M, hMM⟩ : ∃ M, M = M0 := ⟨_, rfl⟩
  rw [← hMM] at hM hR
  have ht : ∀ w ∈ lw_good, w.before _ s = true := fun w h => hts w (List.mem_cons_of_mem _ h)
  have hF : FrV b M0 M := by rw [hMM]; exact FrV.rf
  have hl : lv_has ls 4 [(0, .ref (b)), (1, .ref (b + 15 + π j))] := hl
  rcases gxn_cases (n := 6) (by decide) (v.2.2 j 0) with ⟨e1, h1⟩ | ⟨i, hi, ex, e1⟩
  · refine lv_aload_n hx hb dX6_hear_0 rfl (lv_at hl 0 rfl) ?_
    refine lv_aload_n hx hb dX6_hear_1 rfl (lv_at hl 1 rfl) ?_
    refine rv_getR hx hb ht ui_X5 hown hK hM hR hj 0 (by decide) (ht _ uw_165) dX6_hear_2 ?_
    refine m_callRQ (val := none) (w := .null) (rfl) (As := [.int (v.2.2 j 0)]) (rest := []) ⟨hx, hb, hml, hown, ht⟩ (k_X6_gaugeAt l g A M b π v (v.2.2 j 0) none hR e1) (cwV 1 ht (gU uw_336 uw_337 uw_338 uw_35 uw_339) rfl rfl rfl (by decide +kernel) ⟨by decide, by decide⟩) hK hM hS (m_recv hK hM hR.AW hR.W rfl) rfl hl.1 rfl (Nat.le_of_ble_eq_true rfl) dX6_hear_5 ⟨by decide, by decide⟩ (fun H locs hM hS => ?_)
    refine lv_astore_nN (lv' := [(2, .null), (0, .ref (b)), (1, .ref (b + 15 + π j))]) hx hb dX6_hear_8 rfl hl (by decide) rfl (fun ls hl => ?_)
    refine lv_aload_nN hx hb dX6_hear_9 rfl (lv_at hl 0 rfl) ?_
    refine lv_ifnonnullN hx hb dX6_hear_10 ?_
    subst hQ
    exact m_vret hx hb hr hlk hK hM hS dX6_hear_13 (⟨RepV.eq hR (by unfold heaC; rw [e1]), hF⟩)
  · refine lv_aload_n hx hb dX6_hear_0 rfl (lv_at hl 0 rfl) ?_
    refine lv_aload_n hx hb dX6_hear_1 rfl (lv_at hl 1 rfl) ?_
    refine rv_getR hx hb ht ui_X5 hown hK hM hR hj 0 (by decide) (ht _ uw_165) dX6_hear_2 ?_
    refine m_callRQ (val := some (b + 3 + 2 * i)) (w := .ref (b + 3 + 2 * i)) (rfl) (As := [.int (v.2.2 j 0)]) (rest := []) ⟨hx, hb, hml, hown, ht⟩ (k_X6_gaugeAt l g A M b π v (v.2.2 j 0) (some i) hR e1) (cwV 1 ht (gU uw_336 uw_337 uw_338 uw_35 uw_339) rfl rfl rfl (by decide +kernel) ⟨by decide, by decide⟩) hK hM hS (m_recv hK hM hR.AW hR.W rfl) rfl hl.1 rfl (Nat.le_of_ble_eq_true rfl) dX6_hear_5 ⟨by decide, by decide⟩ (fun H locs hM hS => ?_)
    refine lv_astore_n (lv' := [(2, .ref (b + 3 + 2 * i)), (0, .ref (b)), (1, .ref (b + 15 + π j))]) hx hb dX6_hear_8 rfl hl (by decide) rfl (fun ls hl => ?_)
    refine lv_aload_n hx hb dX6_hear_9 rfl (lv_at hl 0 rfl) ?_
    refine lv_ifnonnull (tgt := 14) hx hb dX6_hear_10 (by decide) ?_
    refine lv_aload_n hx hb dX6_hear_14 rfl (lv_at hl 0 rfl) ?_
    refine rv_getpg hx hb ht ui_X0 hown hK hM hR hi (ht _ uw_138) dX6_hear_15 ?_
    refine lv_astore_n (lv' := [(3, .ref (b + 4 + 2 * i)), (2, .ref (b + 3 + 2 * i)), (0, .ref (b)), (1, .ref (b + 15 + π j))]) hx hb dX6_hear_18 rfl hl (by decide) rfl (fun ls hl => ?_)
    refine lv_aload_n hx hb dX6_hear_19 rfl (lv_at hl 3 rfl) ?_
    refine rv_getR hx hb ht ui_X5 hown hK hM hR hj 2 (by decide) (ht _ uw_170) dX6_hear_20 ?_
    refine lv_aload_n hx hb dX6_hear_23 rfl (lv_at hl 0 rfl) ?_
    refine rv_getP hx hb ht ui_X4 hown hK hM hR hi 1 (by decide) (ht _ uw_79) dX6_hear_24 ?_
    refine lv_icmp_ge (tgt := 43) hx hb dX6_hear_27 (by decide) (fun c_27 => ?_) (fun c_27 => ?_)
    · refine lv_aload_n hx hb dX6_hear_43 rfl (lv_at hl 0 rfl) ?_
      refine rv_getP hx hb ht ui_X4 hown hK hM hR hi 4 (by decide) (ht _ uw_88) dX6_hear_44 ?_
      refine lv_if_le (tgt := 93) hx hb dX6_hear_47 (by decide) (fun c_47 => ?_) (fun c_47 => ?_)
      · refine lv_aload_n hx hb dX6_hear_93 rfl (lv_at hl 0 rfl) ?_
        refine lv_dup hx hb dX6_hear_94 rfl ?_
        refine rv_getP hx hb ht ui_X4 hown hK hM hR hi 0 (by decide) (ht _ uw_76) dX6_hear_95 ?_
        refine lv_aload_n hx hb dX6_hear_98 rfl (lv_at hl 2 rfl) ?_
        refine lv_aload_n hx hb dX6_hear_99 rfl (lv_at hl 1 rfl) ?_
        refine lv_aload_n hx hb dX6_hear_100 rfl (lv_at hl 3 rfl) ?_
        refine m_callRI (val := wenC v i j) (As := [.ref (b + 3 + 2 * i), .ref (b + 15 + π j)]) (rest := [.int (v.2.1 i 8), .ref (b + 4 + 2 * i)]) ⟨hx, hb, hml, hown, ht⟩ (k_X6_wentOn l g A M b π v i j hR hi hj) (cwV 2 ht (gU uw_380 uw_382 uw_3 uw_35 uw_383) rfl rfl rfl (by decide +kernel) ⟨by decide, by decide⟩) hK hM hS (m_recv hK hM hR.AW hR.W rfl) rfl hl.1 rfl (Nat.le_of_ble_eq_true rfl) dX6_hear_101 ⟨by decide, by decide⟩ (fun H locs hM hS => ?_)
        refine lv_iadd hx hb dX6_hear_104 ?_
        refine rv_putP hx hb ht ui_X4 hown hK hM hS hR hF hi 0 (by decide) (ht _ uw_76) dX6_hear_105 (fun M H locs hM hR hF hS => ?_)
        refine lv_aload_n hx hb dX6_hear_108 rfl (lv_at hl 0 rfl) ?_
        refine lv_dup hx hb dX6_hear_109 rfl ?_
        refine rv_getP hx hb ht ui_X4 hown hK hM hR hi 4 (by decide) (ht _ uw_88) dX6_hear_110 ?_
        refine lv_iconst (v := 1) hx hb dX6_hear_113 (by first | rfl | decide) ?_
        refine lv_iadd hx hb dX6_hear_114 ?_
        refine rv_putP hx hb ht ui_X4 hown hK hM hS hR hF hi 4 (by decide) (ht _ uw_88) dX6_hear_115 (fun M H locs hM hR hF hS => ?_)
        refine lv_aload_n hx hb dX6_hear_118 rfl (lv_at hl 0 rfl) ?_
        refine lv_aload_n hx hb dX6_hear_119 rfl (lv_at hl 3 rfl) ?_
        refine rv_getR hx hb ht ui_X5 hown hK hM hR hj 2 (by decide) (ht _ uw_170) dX6_hear_120 ?_
        refine rv_putP hx hb ht ui_X4 hown hK hM hS hR hF hi 1 (by decide) (ht _ uw_79) dX6_hear_123 (fun M H locs hM hR hF hS => ?_)
        refine lv_aload_n hx hb dX6_hear_126 rfl (lv_at hl 0 rfl) ?_
        refine lv_aload_n hx hb dX6_hear_127 rfl (lv_at hl 3 rfl) ?_
        refine rv_getR hx hb ht ui_X5 hown hK hM hR hj 1 (by decide) (ht _ uw_167) dX6_hear_128 ?_
        refine rv_putP hx hb ht ui_X4 hown hK hM hS hR hF hi 2 (by decide) (ht _ uw_83) dX6_hear_131 (fun M H locs hM hR hF hS => ?_)
        refine lv_aload_n hx hb dX6_hear_134 rfl (lv_at hl 0 rfl) ?_
        refine lv_aload_n hx hb dX6_hear_135 rfl (lv_at hl 3 rfl) ?_
        refine rv_getR hx hb ht ui_X5 hown hK hM hR hj 3 (by decide) (ht _ uw_173) dX6_hear_136 ?_
        refine rv_putP hx hb ht ui_X4 hown hK hM hS hR hF hi 3 (by decide) (ht _ uw_85) dX6_hear_139 (fun M H locs hM hR hF hS => ?_)
        subst hQ
        exact m_vret hx hb hr hlk hK hM hS dX6_hear_142 (⟨RepV.eq hR (by first | exact hea_take1 e1 c_27 c_47 | exact hea_take2 e1 c_27 c_58 | exact hea_take3 e1 c_27 c_77), hF⟩)
      · refine lv_aload_n hx hb dX6_hear_50 rfl (lv_at hl 3 rfl) ?_
        refine rv_getR hx hb ht ui_X5 hown hK hM hR hj 2 (by decide) (ht _ uw_170) dX6_hear_51 ?_
        refine lv_aload_n hx hb dX6_hear_54 rfl (lv_at hl 0 rfl) ?_
        refine rv_getP hx hb ht ui_X4 hown hK hM hR hi 1 (by decide) (ht _ uw_79) dX6_hear_55 ?_
        refine lv_icmp_ne (tgt := 93) hx hb dX6_hear_58 (by decide) (fun c_58 => ?_) (fun c_58 => ?_)
        · refine lv_aload_n hx hb dX6_hear_93 rfl (lv_at hl 0 rfl) ?_
          refine lv_dup hx hb dX6_hear_94 rfl ?_
          refine rv_getP hx hb ht ui_X4 hown hK hM hR hi 0 (by decide) (ht _ uw_76) dX6_hear_95 ?_
          refine lv_aload_n hx hb dX6_hear_98 rfl (lv_at hl 2 rfl) ?_
          refine lv_aload_n hx hb dX6_hear_99 rfl (lv_at hl 1 rfl) ?_
          refine lv_aload_n hx hb dX6_hear_100 rfl (lv_at hl 3 rfl) ?_
          refine m_callRI (val := wenC v i j) (As := [.ref (b + 3 + 2 * i), .ref (b + 15 + π j)]) (rest := [.int (v.2.1 i 8), .ref (b + 4 + 2 * i)]) ⟨hx, hb, hml, hown, ht⟩ (k_X6_wentOn l g A M b π v i j hR hi hj) (cwV 2 ht (gU uw_380 uw_382 uw_3 uw_35 uw_383) rfl rfl rfl (by decide +kernel) ⟨by decide, by decide⟩) hK hM hS (m_recv hK hM hR.AW hR.W rfl) rfl hl.1 rfl (Nat.le_of_ble_eq_true rfl) dX6_hear_101 ⟨by decide, by decide⟩ (fun H locs hM hS => ?_)
          refine lv_iadd hx hb dX6_hear_104 ?_
          refine rv_putP hx hb ht ui_X4 hown hK hM hS hR hF hi 0 (by decide) (ht _ uw_76) dX6_hear_105 (fun M H locs hM hR hF hS => ?_)
          refine lv_aload_n hx hb dX6_hear_108 rfl (lv_at hl 0 rfl) ?_
          refine lv_dup hx hb dX6_hear_109 rfl ?_
          refine rv_getP hx hb ht ui_X4 hown hK hM hR hi 4 (by decide) (ht _ uw_88) dX6_hear_110 ?_
          refine lv_iconst (v := 1) hx hb dX6_hear_113 (by first | rfl | decide) ?_
          refine lv_iadd hx hb dX6_hear_114 ?_
          refine rv_putP hx hb ht ui_X4 hown hK hM hS hR hF hi 4 (by decide) (ht _ uw_88) dX6_hear_115 (fun M H locs hM hR hF hS => ?_)
          refine lv_aload_n hx hb dX6_hear_118 rfl (lv_at hl 0 rfl) ?_
          refine lv_aload_n hx hb dX6_hear_119 rfl (lv_at hl 3 rfl) ?_
          refine rv_getR hx hb ht ui_X5 hown hK hM hR hj 2 (by decide) (ht _ uw_170) dX6_hear_120 ?_
          refine rv_putP hx hb ht ui_X4 hown hK hM hS hR hF hi 1 (by decide) (ht _ uw_79) dX6_hear_123 (fun M H locs hM hR hF hS => ?_)
          refine lv_aload_n hx hb dX6_hear_126 rfl (lv_at hl 0 rfl) ?_
          refine lv_aload_n hx hb dX6_hear_127 rfl (lv_at hl 3 rfl) ?_
          refine rv_getR hx hb ht ui_X5 hown hK hM hR hj 1 (by decide) (ht _ uw_167) dX6_hear_128 ?_
          refine rv_putP hx hb ht ui_X4 hown hK hM hS hR hF hi 2 (by decide) (ht _ uw_83) dX6_hear_131 (fun M H locs hM hR hF hS => ?_)
          refine lv_aload_n hx hb dX6_hear_134 rfl (lv_at hl 0 rfl) ?_
          refine lv_aload_n hx hb dX6_hear_135 rfl (lv_at hl 3 rfl) ?_
          refine rv_getR hx hb ht ui_X5 hown hK hM hR hj 3 (by decide) (ht _ uw_173) dX6_hear_136 ?_
          refine rv_putP hx hb ht ui_X4 hown hK hM hS hR hF hi 3 (by decide) (ht _ uw_85) dX6_hear_139 (fun M H locs hM hR hF hS => ?_)
          subst hQ
          exact m_vret hx hb hr hlk hK hM hS dX6_hear_142 (⟨RepV.eq hR (by first | exact hea_take1 e1 c_27 c_47 | exact hea_take2 e1 c_27 c_58 | exact hea_take3 e1 c_27 c_77), hF⟩)
        · refine lv_aload_n hx hb dX6_hear_61 rfl (lv_at hl 2 rfl) ?_
          refine lv_aload_n hx hb dX6_hear_62 rfl (lv_at hl 3 rfl) ?_
          refine rv_getR hx hb ht ui_X5 hown hK hM hR hj 1 (by decide) (ht _ uw_167) dX6_hear_63 ?_
          refine m_callRI (val := whC v (v.2.2 j 1)) (As := [.int (v.2.2 j 1)]) (rest := []) ⟨hx, hb, hml, hown, ht⟩ (k_X6_wheelAt l g A M b π v (v.2.2 j 1) hR) (cwV 1 ht (gU uw_376 uw_377 uw_378 uw_35 uw_379) rfl rfl rfl (by decide +kernel) ⟨by decide, by decide⟩) hK hM hS (m_recv hK hM hR.AW hR.W rfl) rfl hl.1 rfl (Nat.le_of_ble_eq_true rfl) dX6_hear_66 ⟨by decide, by decide⟩ (fun H locs hM hS => ?_)
          refine lv_aload_n hx hb dX6_hear_69 rfl (lv_at hl 2 rfl) ?_
          refine lv_aload_n hx hb dX6_hear_70 rfl (lv_at hl 0 rfl) ?_
          refine rv_getP hx hb ht ui_X4 hown hK hM hR hi 2 (by decide) (ht _ uw_83) dX6_hear_71 ?_
          refine m_callRI (val := whC v (v.2.1 i 10)) (As := [.int (v.2.1 i 10)]) (rest := [.int (whC v (v.2.2 j 1))]) ⟨hx, hb, hml, hown, ht⟩ (k_X6_wheelAt l g A M b π v (v.2.1 i 10) hR) (cwV 1 ht (gU uw_376 uw_377 uw_378 uw_35 uw_379) rfl rfl rfl (by decide +kernel) ⟨by decide, by decide⟩) hK hM hS (m_recv hK hM hR.AW hR.W rfl) rfl hl.1 rfl (Nat.le_of_ble_eq_true rfl) dX6_hear_74 ⟨by decide, by decide⟩ (fun H locs hM hS => ?_)
          refine lv_icmp_ne (tgt := 93) hx hb dX6_hear_77 (by decide) (fun c_77 => ?_) (fun c_77 => ?_)
          · refine lv_aload_n hx hb dX6_hear_93 rfl (lv_at hl 0 rfl) ?_
            refine lv_dup hx hb dX6_hear_94 rfl ?_
            refine rv_getP hx hb ht ui_X4 hown hK hM hR hi 0 (by decide) (ht _ uw_76) dX6_hear_95 ?_
            refine lv_aload_n hx hb dX6_hear_98 rfl (lv_at hl 2 rfl) ?_
            refine lv_aload_n hx hb dX6_hear_99 rfl (lv_at hl 1 rfl) ?_
            refine lv_aload_n hx hb dX6_hear_100 rfl (lv_at hl 3 rfl) ?_
            refine m_callRI (val := wenC v i j) (As := [.ref (b + 3 + 2 * i), .ref (b + 15 + π j)]) (rest := [.int (v.2.1 i 8), .ref (b + 4 + 2 * i)]) ⟨hx, hb, hml, hown, ht⟩ (k_X6_wentOn l g A M b π v i j hR hi hj) (cwV 2 ht (gU uw_380 uw_382 uw_3 uw_35 uw_383) rfl rfl rfl (by decide +kernel) ⟨by decide, by decide⟩) hK hM hS (m_recv hK hM hR.AW hR.W rfl) rfl hl.1 rfl (Nat.le_of_ble_eq_true rfl) dX6_hear_101 ⟨by decide, by decide⟩ (fun H locs hM hS => ?_)
            refine lv_iadd hx hb dX6_hear_104 ?_
            refine rv_putP hx hb ht ui_X4 hown hK hM hS hR hF hi 0 (by decide) (ht _ uw_76) dX6_hear_105 (fun M H locs hM hR hF hS => ?_)
            refine lv_aload_n hx hb dX6_hear_108 rfl (lv_at hl 0 rfl) ?_
            refine lv_dup hx hb dX6_hear_109 rfl ?_
            refine rv_getP hx hb ht ui_X4 hown hK hM hR hi 4 (by decide) (ht _ uw_88) dX6_hear_110 ?_
            refine lv_iconst (v := 1) hx hb dX6_hear_113 (by first | rfl | decide) ?_
            refine lv_iadd hx hb dX6_hear_114 ?_
            refine rv_putP hx hb ht ui_X4 hown hK hM hS hR hF hi 4 (by decide) (ht _ uw_88) dX6_hear_115 (fun M H locs hM hR hF hS => ?_)
            refine lv_aload_n hx hb dX6_hear_118 rfl (lv_at hl 0 rfl) ?_
            refine lv_aload_n hx hb dX6_hear_119 rfl (lv_at hl 3 rfl) ?_
            refine rv_getR hx hb ht ui_X5 hown hK hM hR hj 2 (by decide) (ht _ uw_170) dX6_hear_120 ?_
            refine rv_putP hx hb ht ui_X4 hown hK hM hS hR hF hi 1 (by decide) (ht _ uw_79) dX6_hear_123 (fun M H locs hM hR hF hS => ?_)
            refine lv_aload_n hx hb dX6_hear_126 rfl (lv_at hl 0 rfl) ?_
            refine lv_aload_n hx hb dX6_hear_127 rfl (lv_at hl 3 rfl) ?_
            refine rv_getR hx hb ht ui_X5 hown hK hM hR hj 1 (by decide) (ht _ uw_167) dX6_hear_128 ?_
            refine rv_putP hx hb ht ui_X4 hown hK hM hS hR hF hi 2 (by decide) (ht _ uw_83) dX6_hear_131 (fun M H locs hM hR hF hS => ?_)
            refine lv_aload_n hx hb dX6_hear_134 rfl (lv_at hl 0 rfl) ?_
            refine lv_aload_n hx hb dX6_hear_135 rfl (lv_at hl 3 rfl) ?_
            refine rv_getR hx hb ht ui_X5 hown hK hM hR hj 3 (by decide) (ht _ uw_173) dX6_hear_136 ?_
            refine rv_putP hx hb ht ui_X4 hown hK hM hS hR hF hi 3 (by decide) (ht _ uw_85) dX6_hear_139 (fun M H locs hM hR hF hS => ?_)
            subst hQ
            exact m_vret hx hb hr hlk hK hM hS dX6_hear_142 (⟨RepV.eq hR (by first | exact hea_take1 e1 c_27 c_47 | exact hea_take2 e1 c_27 c_58 | exact hea_take3 e1 c_27 c_77), hF⟩)
          · refine lv_aload_n hx hb dX6_hear_80 rfl (lv_at hl 0 rfl) ?_
            refine lv_dup hx hb dX6_hear_81 rfl ?_
            refine rv_getP hx hb ht ui_X4 hown hK hM hR hi 6 (by decide) (ht _ uw_94) dX6_hear_82 ?_
            refine lv_iconst (v := 1) hx hb dX6_hear_85 (by first | rfl | decide) ?_
            refine lv_iadd hx hb dX6_hear_86 ?_
            refine rv_putP hx hb ht ui_X4 hown hK hM hS hR hF hi 6 (by decide) (ht _ uw_94) dX6_hear_87 (fun M H locs hM hR hF hS => ?_)
            refine lv_goto (tgt := 142) hx hb dX6_hear_90 (by decide) ?_
            subst hQ
            exact m_vret hx hb hr hlk hK hM hS dX6_hear_142 (⟨RepV.eq hR (hea_twice e1 c_27 (Int32.not_le.mp c_47) c_58 c_77), hF⟩)
    · refine lv_aload_n hx hb dX6_hear_30 rfl (lv_at hl 0 rfl) ?_
      refine lv_dup hx hb dX6_hear_31 rfl ?_
      refine rv_getP hx hb ht ui_X4 hown hK hM hR hi 5 (by decide) (ht _ uw_91) dX6_hear_32 ?_
      refine lv_iconst (v := 1) hx hb dX6_hear_35 (by first | rfl | decide) ?_
      refine lv_iadd hx hb dX6_hear_36 ?_
      refine rv_putP hx hb ht ui_X4 hown hK hM hS hR hF hi 5 (by decide) (ht _ uw_91) dX6_hear_37 (fun M H locs hM hR hF hS => ?_)
      refine lv_goto (tgt := 142) hx hb dX6_hear_40 (by decide) ?_
      subst hQ
      exact m_vret hx hb hr hlk hK hM hS dX6_hear_142 (⟨RepV.eq hR (hea_late e1 (Int32.not_le.mp c_27)), hF⟩)
end
section
set_option maxHeartbeats 4000000 in
set_option maxRecDepth 100000 in
/-- WHEEL is set -/
theorem k_X6_changeWheels (l : Launch) (g : GG) (A : Nat → Prop) (M0 : MM) (b : Nat) (π : Nat → Nat) (v : VV) (x : Int32) (hR : RepV g A M0 b π v) (n : Nat) (hn : v.1 3 = nI n) (hn20 : n ≤ 20)  : Met l yX6_changeWheels (Uw yX6_changeWheels cX6_changeWheels 3 (Option.none : Option ClassFile.FieldType)) (rmD 2) (PreM [.ref (b), .int (x)] g A M0) (PosV (fun M1 => RepV g A M1 b π (chgC v n x) ∧ FrV b M0 M1) g A) 0 0 A := by
  refine mk_Met (own := RX6) rfl rfl (by decide) (Nat.le_of_ble_eq_true rfl) ?_
  intro p e s m below meth c ls aa Q haa hQ hx hb hr hlk hml hown hts hK hM hS hl hnm
  obtain ⟨M, hMM⟩ : ∃ M, M = M0 := ⟨_, rfl⟩
  rw [← hMM] at hM hR
  have ht : ∀ w ∈ lw_good, w.before _ s = true := fun w h => hts w (List.mem_cons_of_mem _ h)
  have hF : FrV b M0 M := by rw [hMM]; exact FrV.rf
  have hl : lv_has ls 3 [(0, .ref (b)), (1, .int (x))] := hl
  refine lv_iconst (v := nI 0) hx hb dX6_changeWheels_0 (by first | rfl | decide) ?_
  refine lv_istore_n (lv' := [(2, .int (nI 0)), (0, .ref (b)), (1, .int (x))]) hx hb dX6_changeWheels_1 rfl hl (by decide) rfl (fun ls hl => ?_)
  have loop_2 : ∀ (z_2 : Nat) (k : Nat) (M : MM) (H : Heap) (locs : List Loc) (ls : Array Slot), n - k < z_2 → k ≤ n → HD g A M H → RepV g A M b π (cosL v k) → FrV b M0 M → va_S A s.heap H locs → lv_has ls 3 [(2, .int (nI k)), (0, .ref (b)), (1, .int (x))] → W p l e (rmD 2) s m aa below meth c H locs 0 0 Q (F0 m 2 ls []) := by
    intro z_2
    induction z_2 with
    | zero => intro k M H locs ls hz hk; exact absurd hz (Nat.not_lt_zero _)
    | succ z_2 ih_2 =>
    intro k M H locs ls hz hk hM hR hF hS hl
    have e3 : (cosL v k).1 3 = nI n := by rw [cosL_1, hn]
    refine lv_iload_n hx hb dX6_changeWheels_2 rfl (lv_at hl 0 rfl) ?_
    refine lv_aload_n hx hb dX6_changeWheels_3 rfl (lv_at hl 1 rfl) ?_
    refine rv_getW hx hb ht ui_X6 hown hK hM hR 3 (by decide) (ht _ uw_194) dX6_changeWheels_4 ?_
    refine lv_icmp_ge (tgt := 35) hx hb dX6_changeWheels_7 (by decide) (fun c_7 => ?_) (fun c_7 => ?_)
    · rw [e3] at c_7
      have hkn : k = n := Nat.le_antisymm hk (nI_le_of (by omega) (by omega) c_7)
      subst hkn
      refine lv_aload_n hx hb dX6_changeWheels_35 rfl (lv_at hl 1 rfl) ?_
      refine lv_iconst (v := nI 0) hx hb dX6_changeWheels_36 (by first | rfl | decide) ?_
      refine rv_putW hx hb ht ui_X6 hown hK hM hS hR hF 3 (by decide) (ht _ uw_194) dX6_changeWheels_37 (fun M H locs hM hR hF hS => ?_)
      refine lv_aload_n hx hb dX6_changeWheels_40 rfl (lv_at hl 1 rfl) ?_
      refine lv_iload_n hx hb dX6_changeWheels_41 rfl (lv_at hl 2 rfl) ?_
      refine rv_putW hx hb ht ui_X6 hown hK hM hS hR hF 0 (by decide) (ht _ uw_188) dX6_changeWheels_42 (fun M H locs hM hR hF hS => ?_)
      subst hQ
      exact m_vret hx hb hr hlk hK hM hS dX6_changeWheels_45 (⟨hR, hF⟩)
    · rw [e3] at c_7
      have hkn : k < n := nI_lt_of (by omega) (by omega) c_7
      refine lv_iload_n hx hb dX6_changeWheels_10 rfl (lv_at hl 0 rfl) ?_
      refine lv_aload_n hx hb dX6_changeWheels_11 rfl (lv_at hl 1 rfl) ?_
      refine rv_getra hx hb ht ui_X6 hown hK hM hR (ht _ uw_198) dX6_changeWheels_12 ?_
      refine rv_lenR hx hb hK hM hR dX6_changeWheels_15 ?_
      refine lv_icmp_ge (tgt := 35) hx hb dX6_changeWheels_16 (by decide) (fun c_16 => absurd c_16 (nI_ge (show k < 20 by omega) (by decide))) (fun c_16 => ?_)
      refine lv_aload_n hx hb dX6_changeWheels_19 rfl (lv_at hl 1 rfl) ?_
      refine lv_aload_n hx hb dX6_changeWheels_20 rfl (lv_at hl 1 rfl) ?_
      refine rv_getra hx hb ht ui_X6 hown hK hM hR (ht _ uw_198) dX6_changeWheels_21 ?_
      refine lv_iload_n hx hb dX6_changeWheels_24 rfl (lv_at hl 0 rfl) ?_
      refine rv_aldR hx hb hK hM hR (show k < 20 by omega) dX6_changeWheels_25 ?_
      refine m_callV (As := [.ref (b + 15 + π k)]) (rest := []) ⟨hx, hb, hml, hown, ht⟩ (k_X6_countAsLost l g A M b π (cosL v k) k hR (by omega)) (cwV 1 ht (gU uw_332 uw_333 uw_334 uw_35 uw_335) rfl rfl rfl (by decide +kernel) ⟨by decide, by decide⟩) hK hM hS (m_recv hK hM hR.AW hR.W rfl) rfl hl.1 rfl (Nat.le_of_ble_eq_true rfl) dX6_changeWheels_26 ⟨by decide, by decide⟩ (fun M H locs hp hM hS => ?_)
      obtain ⟨hR, hF1⟩ := hp
      have hF := hF.tr hF1
      refine lv_iinc (v := nI (k + 1)) (lv' := [(2, .int (nI (k + 1))), (0, .ref (b)), (1, .int (x))]) hx hb dX6_changeWheels_29 hl (k := 0) rfl (nI_1 _) (by decide) rfl (fun ls hl => ?_)
      refine lv_goto (tgt := 2) hx hb dX6_changeWheels_32 (by decide) ?_
      exact ih_2 (k + 1) _ _ _ _ (by omega) (by omega) hM hR hF hS (lv_sub hl [0, 1, 2] rfl)
  exact loop_2 _ 0 _ _ _ _ (Nat.lt_succ_self _) (Nat.zero_le _) hM hR hF hS (lv_sub hl [0, 1, 2] rfl)

set_option maxHeartbeats 4000000 in
set_option maxRecDepth 100000 in
/-- the row of one more runner -/
theorem k_X6_addRunner (l : Launch) (g : GG) (A : Nat → Prop) (M0 : MM) (b : Nat) (π : Nat → Nat) (v : VV) (hR : RepV g A M0 b π v) (n : Nat) (hn : v.1 3 = nI n) (hn20 : n ≤ 20)  : Met l yX6_addRunner (Uw yX6_addRunner cX6_addRunner 2 (Option.some (ClassFile.FieldType.object "ToldDrops$Runner"))) (rmD 0) (PreM [.ref (b)] g A M0) (PosQ (fun r M1 => (n < 20 → r = some (b + 15 + π n) ∧ RepV g A M1 b π (vW v 3 (nI n + 1)) ∧ FrV b M0 M1) ∧ (¬ n < 20 → r = none ∧ M1 = M0)) g A) 0 0 A := by
  refine mk_Met (own := RX6) rfl rfl (by decide) (Nat.le_of_ble_eq_true rfl) ?_
  intro p e s m below meth c ls aa Q haa hQ hx hb hr hlk hml hown hts hK hM hS hl hnm
  obtain ⟨M, hMM⟩ : ∃ M, M = M0 := ⟨_, rfl⟩
  rw [← hMM] at hM hR
  have ht : ∀ w ∈ lw_good, w.before _ s = true := fun w h => hts w (List.mem_cons_of_mem _ h)
  have hF : FrV b M0 M := by rw [hMM]; exact FrV.rf
  have hl : lv_has ls 2 [(0, .ref (b))] := hl
  have hn4 : ¬ nI n < 0 := nI_pos (by omega)
  refine lv_aload_n hx hb dX6_addRunner_0 rfl (lv_at hl 0 rfl) ?_
  refine rv_getW hx hb ht ui_X6 hown hK hM hR 3 (by decide) (ht _ uw_194) dX6_addRunner_1 ?_
  refine lv_if_lt (tgt := 19) hx hb dX6_addRunner_4 (by decide) (fun c_4 => absurd c_4 (by rw [hn]; exact hn4)) (fun c_4 => ?_)
  refine lv_aload_n hx hb dX6_addRunner_7 rfl (lv_at hl 0 rfl) ?_
  refine rv_getW hx hb ht ui_X6 hown hK hM hR 3 (by decide) (ht _ uw_194) dX6_addRunner_8 ?_
  refine lv_aload_n hx hb dX6_addRunner_11 rfl (lv_at hl 0 rfl) ?_
  refine rv_getra hx hb ht ui_X6 hown hK hM hR (ht _ uw_198) dX6_addRunner_12 ?_
  refine rv_lenR hx hb hK hM hR dX6_addRunner_15 ?_
  refine lv_icmp_lt (tgt := 21) hx hb dX6_addRunner_16 (by decide) (fun c_16 => ?_) (fun c_16 => ?_)
  · rw [hn] at c_16
    have hlt : n < 20 := (nI_ltI (by omega) (by decide)).mp c_16
    refine lv_aload_n hx hb dX6_addRunner_21 rfl (lv_at hl 0 rfl) ?_
    refine rv_getra hx hb ht ui_X6 hown hK hM hR (ht _ uw_198) dX6_addRunner_22 ?_
    refine lv_aload_n hx hb dX6_addRunner_25 rfl (lv_at hl 0 rfl) ?_
    refine rv_getW hx hb ht ui_X6 hown hK hM hR 3 (by decide) (ht _ uw_194) dX6_addRunner_26 ?_
    rw [hn]
    refine rv_aldR hx hb hK hM hR (j := n) hlt dX6_addRunner_29 ?_
    refine lv_astore_n (lv' := [(1, .ref (b + 15 + π n)), (0, .ref (b))]) hx hb dX6_addRunner_30 rfl hl (by decide) rfl (fun ls hl => ?_)
    refine lv_aload_n hx hb dX6_addRunner_31 rfl (lv_at hl 1 rfl) ?_
    refine lv_dup hx hb dX6_addRunner_32 rfl ?_
    refine rv_getW hx hb ht ui_X6 hown hK hM hR 3 (by decide) (ht _ uw_194) dX6_addRunner_33 ?_
    refine lv_iconst (v := 1) hx hb dX6_addRunner_36 (by first | rfl | decide) ?_
    refine lv_iadd hx hb dX6_addRunner_37 ?_
    refine rv_putW hx hb ht ui_X6 hown hK hM hS hR hF 3 (by decide) (ht _ uw_194) dX6_addRunner_38 (fun M H locs hM hR hF hS => ?_)
    refine lv_aload_n hx hb dX6_addRunner_41 rfl (lv_at hl 0 rfl) ?_
    subst hQ
    exact m_aret (r := some (b + 15 + π n)) rfl hx hb hr hlk hK hM hS dX6_addRunner_42 (⟨fun _ => ⟨rfl, RepV.eq hR (by rw [hn]), hF⟩, fun q => absurd hlt q⟩)
  · rw [hn] at c_16
    have hlt : ¬ n < 20 := fun q => c_16 (nI_lt q (by decide))
    refine lv_null hx hb dX6_addRunner_19 ?_
    subst hQ
    exact m_aret (r := none) rfl hx hb hr hlk hK hM hS dX6_addRunner_20 (⟨fun q => absurd q hlt, fun _ => ⟨rfl, hMM⟩⟩)

set_option maxHeartbeats 4000000 in
set_option maxRecDepth 100000 in
/-- over all gauges -/
theorem k_X6_sumOfTold (l : Launch) (g : GG) (A : Nat → Prop) (M0 : MM) (b : Nat) (π : Nat → Nat) (v : VV) (hR : RepV g A M0 b π v)  : Met l yX6_sumOfTold (Uw yX6_sumOfTold cX6_sumOfTold 6 (Option.some ClassFile.FieldType.int)) (rmD 0) (PreM [.ref (b)] g A M0) (PosI (fun r M1 => r = (sumN (fun i => v.2.1 i 8) 6) ∧ M1 = M0) g A) 0 0 A := by
  refine mk_Met (own := RX6) rfl rfl (by decide) (Nat.le_of_ble_eq_true rfl) ?_
  intro p e s m below meth c ls aa Q haa hQ hx hb hr hlk hml hown hts hK hM hS hl hnm
  obtain ⟨M, hMM⟩ : ∃ M, M = M0 := ⟨_, rfl⟩
  rw [← hMM] at hM hR
  have ht : ∀ w ∈ lw_good, w.before _ s = true := fun w h => hts w (List.mem_cons_of_mem _ h)
  have hF : FrV b M0 M := by rw [hMM]; exact FrV.rf
  have hl : lv_has ls 6 [(0, .ref (b))] := hl
  refine lv_iconst (v := nI 0) hx hb dX6_sumOfTold_0 (by first | rfl | decide) ?_
  refine lv_istore_n (lv' := [(1, .int (nI 0)), (0, .ref (b))]) hx hb dX6_sumOfTold_1 rfl hl (by decide) rfl (fun ls hl => ?_)
  refine lv_aload_n hx hb dX6_sumOfTold_2 rfl (lv_at hl 1 rfl) ?_
  refine rv_getga hx hb ht ui_X6 hown hK hM hR (ht _ uw_196) dX6_sumOfTold_3 ?_
  refine lv_astore_n (lv' := [(2, .ref (b + 1)), (1, .int (nI 0)), (0, .ref (b))]) hx hb dX6_sumOfTold_6 rfl hl (by decide) rfl (fun ls hl => ?_)
  refine lv_aload_n hx hb dX6_sumOfTold_7 rfl (lv_at hl 0 rfl) ?_
  refine rv_lenG hx hb hK hM hR dX6_sumOfTold_8 ?_
  refine lv_istore_n (lv' := [(3, .int (nI 6)), (2, .ref (b + 1)), (1, .int (nI 0)), (0, .ref (b))]) hx hb dX6_sumOfTold_9 rfl hl (by decide) rfl (fun ls hl => ?_)
  refine lv_iconst (v := nI 0) hx hb dX6_sumOfTold_10 (by first | rfl | decide) ?_
  refine lv_istore (lv' := [(4, .int (nI 0)), (3, .int (nI 6)), (2, .ref (b + 1)), (1, .int (nI 0)), (0, .ref (b))]) hx hb dX6_sumOfTold_11 hl (by decide) rfl (fun ls hl => ?_)
  have loop_13 : ∀ (z_13 : Nat) (i : Nat) (t : Int32) (H : Heap) (locs : List Loc) (ls : Array Slot), 6 - i < z_13 → i ≤ 6 → t = sumN (fun i => v.2.1 i 8) i → HD g A M H → va_S A s.heap H locs → lv_has ls 6 [(4, .int (nI i)), (3, .int (nI 6)), (2, .ref (b + 1)), (1, .int (t)), (0, .ref (b))] → W p l e (rmD 0) s m aa below meth c H locs 0 0 Q (F0 m 13 ls []) := by
    intro z_13
    induction z_13 with
    | zero => intro i t H locs ls hz hi ht1; exact absurd hz (Nat.not_lt_zero _)
    | succ z_13 ih_13 =>
    intro i t H locs ls hz hi ht1 hM  hS hl
    refine lv_iload hx hb dX6_sumOfTold_13 (lv_at hl 0 rfl) ?_
    refine lv_iload_n hx hb dX6_sumOfTold_15 rfl (lv_at hl 1 rfl) ?_
    refine lv_icmp_ge (tgt := 42) hx hb dX6_sumOfTold_16 (by decide) (fun c_16 => ?_) (fun c_16 => ?_)
    · have hi6 : i = 6 := Nat.le_antisymm hi (nI_le_of (by omega) (by decide) c_16)
      subst hi6
      refine lv_iload_n hx hb dX6_sumOfTold_42 rfl (lv_at hl 3 rfl) ?_
      subst hQ
      exact m_zret hx hb hr rfl hlk hK hM hS dX6_sumOfTold_43 (⟨ht1, hMM⟩)
    · have hi6 : i < 6 := nI_lt_of (by omega) (by decide) c_16
      refine lv_aload_n hx hb dX6_sumOfTold_19 rfl (lv_at hl 2 rfl) ?_
      refine lv_iload hx hb dX6_sumOfTold_20 (lv_at hl 0 rfl) ?_
      refine rv_aldG hx hb hK hM hR (hi6) dX6_sumOfTold_22 ?_
      refine lv_astore (lv' := [(5, .ref (b + 3 + 2 * i)), (4, .int (nI i)), (3, .int (nI 6)), (2, .ref (b + 1)), (1, .int (t)), (0, .ref (b))]) hx hb dX6_sumOfTold_23 hl (by decide) rfl (fun ls hl => ?_)
      refine lv_iload_n hx hb dX6_sumOfTold_25 rfl (lv_at hl 4 rfl) ?_
      refine lv_aload hx hb dX6_sumOfTold_26 (lv_at hl 0 rfl) ?_
      refine rv_getpg hx hb ht ui_X0 hown hK hM hR (hi6) (ht _ uw_138) dX6_sumOfTold_28 ?_
      refine rv_getP hx hb ht ui_X4 hown hK hM hR (hi6) 0 (by decide) (ht _ uw_76) dX6_sumOfTold_31 ?_
      refine lv_iadd hx hb dX6_sumOfTold_34 ?_
      refine lv_istore_n (lv' := [(1, .int ((t) + (v.2.1 i 8))), (5, .ref (b + 3 + 2 * i)), (4, .int (nI i)), (3, .int (nI 6)), (2, .ref (b + 1)), (0, .ref (b))]) hx hb dX6_sumOfTold_35 rfl hl (by decide) rfl (fun ls hl => ?_)
      refine lv_iinc (v := nI (i + 1)) (lv' := [(4, .int (nI (i + 1))), (1, .int ((t) + (v.2.1 i 8))), (5, .ref (b + 3 + 2 * i)), (3, .int (nI 6)), (2, .ref (b + 1)), (0, .ref (b))]) hx hb dX6_sumOfTold_36 hl (k := 2) rfl (nI_1 _) (by decide) rfl (fun ls hl => ?_)
      refine lv_goto (tgt := 13) hx hb dX6_sumOfTold_39 (by decide) ?_
      exact ih_13 (i + 1) ((t) + (v.2.1 i 8)) _ _ _ (by omega) (by omega) (by rw [ht1]; rfl) hM hS (lv_sub hl [0, 3, 4, 1, 5] rfl)
  exact loop_13 _ 0 0 _ _ _ (Nat.lt_succ_self _) (by omega) rfl hM hS (lv_sub hl [0, 1, 2, 3, 4] rfl)

set_option maxHeartbeats 4000000 in
set_option maxRecDepth 100000 in
/-- over all gauges -/
theorem k_X6_gaugesWithGap (l : Launch) (g : GG) (A : Nat → Prop) (M0 : MM) (b : Nat) (π : Nat → Nat) (v : VV) (hR : RepV g A M0 b π v)  : Met l yX6_gaugesWithGap (Uw yX6_gaugesWithGap cX6_gaugesWithGap 6 (Option.some ClassFile.FieldType.int)) (rmD 1) (PreM [.ref (b)] g A M0) (PosI (fun r M1 => r = (gapN v 6) ∧ M1 = M0) g A) 0 0 A := by
  refine mk_Met (own := RX6) rfl rfl (by decide) (Nat.le_of_ble_eq_true rfl) ?_
  intro p e s m below meth c ls aa Q haa hQ hx hb hr hlk hml hown hts hK hM hS hl hnm
  obtain ⟨M, hMM⟩ : ∃ M, M = M0 := ⟨_, rfl⟩
  rw [← hMM] at hM hR
  have ht : ∀ w ∈ lw_good, w.before _ s = true := fun w h => hts w (List.mem_cons_of_mem _ h)
  have hF : FrV b M0 M := by rw [hMM]; exact FrV.rf
  have hl : lv_has ls 6 [(0, .ref (b))] := hl
  refine lv_iconst (v := nI 0) hx hb dX6_gaugesWithGap_0 (by first | rfl | decide) ?_
  refine lv_istore_n (lv' := [(1, .int (nI 0)), (0, .ref (b))]) hx hb dX6_gaugesWithGap_1 rfl hl (by decide) rfl (fun ls hl => ?_)
  refine lv_aload_n hx hb dX6_gaugesWithGap_2 rfl (lv_at hl 1 rfl) ?_
  refine rv_getga hx hb ht ui_X6 hown hK hM hR (ht _ uw_196) dX6_gaugesWithGap_3 ?_
  refine lv_astore_n (lv' := [(2, .ref (b + 1)), (1, .int (nI 0)), (0, .ref (b))]) hx hb dX6_gaugesWithGap_6 rfl hl (by decide) rfl (fun ls hl => ?_)
  refine lv_aload_n hx hb dX6_gaugesWithGap_7 rfl (lv_at hl 0 rfl) ?_
  refine rv_lenG hx hb hK hM hR dX6_gaugesWithGap_8 ?_
  refine lv_istore_n (lv' := [(3, .int (nI 6)), (2, .ref (b + 1)), (1, .int (nI 0)), (0, .ref (b))]) hx hb dX6_gaugesWithGap_9 rfl hl (by decide) rfl (fun ls hl => ?_)
  refine lv_iconst (v := nI 0) hx hb dX6_gaugesWithGap_10 (by first | rfl | decide) ?_
  refine lv_istore (lv' := [(4, .int (nI 0)), (3, .int (nI 6)), (2, .ref (b + 1)), (1, .int (nI 0)), (0, .ref (b))]) hx hb dX6_gaugesWithGap_11 hl (by decide) rfl (fun ls hl => ?_)
  have loop_13 : ∀ (z_13 : Nat) (i : Nat) (t : Int32) (H : Heap) (locs : List Loc) (ls : Array Slot), 6 - i < z_13 → i ≤ 6 → t = gapN v i → HD g A M H → va_S A s.heap H locs → lv_has ls 6 [(4, .int (nI i)), (3, .int (nI 6)), (2, .ref (b + 1)), (1, .int (t)), (0, .ref (b))] → W p l e (rmD 1) s m aa below meth c H locs 0 0 Q (F0 m 13 ls []) := by
    intro z_13
    induction z_13 with
    | zero => intro i t H locs ls hz hi ht1; exact absurd hz (Nat.not_lt_zero _)
    | succ z_13 ih_13 =>
    intro i t H locs ls hz hi ht1 hM  hS hl
    refine lv_iload hx hb dX6_gaugesWithGap_13 (lv_at hl 0 rfl) ?_
    refine lv_iload_n hx hb dX6_gaugesWithGap_15 rfl (lv_at hl 1 rfl) ?_
    refine lv_icmp_ge (tgt := 42) hx hb dX6_gaugesWithGap_16 (by decide) (fun c_16 => ?_) (fun c_16 => ?_)
    · have hi6 : i = 6 := Nat.le_antisymm hi (nI_le_of (by omega) (by decide) c_16)
      subst hi6
      refine lv_iload_n hx hb dX6_gaugesWithGap_42 rfl (lv_at hl 3 rfl) ?_
      subst hQ
      exact m_zret hx hb hr rfl hlk hK hM hS dX6_gaugesWithGap_43 (⟨ht1, hMM⟩)
    · have hi6 : i < 6 := nI_lt_of (by omega) (by decide) c_16
      refine lv_aload_n hx hb dX6_gaugesWithGap_19 rfl (lv_at hl 2 rfl) ?_
      refine lv_iload hx hb dX6_gaugesWithGap_20 (lv_at hl 0 rfl) ?_
      refine rv_aldG hx hb hK hM hR (hi6) dX6_gaugesWithGap_22 ?_
      refine lv_astore (lv' := [(5, .ref (b + 3 + 2 * i)), (4, .int (nI i)), (3, .int (nI 6)), (2, .ref (b + 1)), (1, .int (t)), (0, .ref (b))]) hx hb dX6_gaugesWithGap_23 hl (by decide) rfl (fun ls hl => ?_)
      refine lv_aload hx hb dX6_gaugesWithGap_25 (lv_at hl 0 rfl) ?_
      refine m_callRI (val := v.2.1 i 5 - v.2.1 i 8) (As := []) (rest := []) ⟨hx, hb, hml, hown, ht⟩ (k_X0_gap l g A M b π v i hR hi6) (cwV 0 ht (gU uw_519 uw_495 uw_496 uw_36 uw_497) rfl rfl rfl (by decide +kernel) ⟨by decide, by decide⟩) hK hM hS (m_recv hK hM (hR.AG hi6) (hR.G hi6) rfl) rfl hl.1 rfl (Nat.le_of_ble_eq_true rfl) dX6_gaugesWithGap_27 ⟨by decide, by decide⟩ (fun H locs hM hS => ?_)
      refine lv_if_eq (tgt := 36) hx hb dX6_gaugesWithGap_30 (by decide) (fun c_30 => ?_) (fun c_30 => ?_)
      · refine lv_iinc (v := nI (i + 1)) (lv' := [(4, .int (nI (i + 1))), (5, .ref (b + 3 + 2 * i)), (3, .int (nI 6)), (2, .ref (b + 1)), (1, .int (t)), (0, .ref (b))]) hx hb dX6_gaugesWithGap_36 hl (k := 1) rfl (nI_1 _) (by decide) rfl (fun ls hl => ?_)
        refine lv_goto (tgt := 13) hx hb dX6_gaugesWithGap_39 (by decide) ?_
        exact ih_13 (i + 1) t _ _ _ (by omega) (by omega) (by rw [ht1]; exact (if_pos c_30).symm) hM hS (lv_sub hl [0, 2, 3, 4, 5] rfl)
      · refine lv_iinc (v := (t) + (1)) (lv' := [(1, .int ((t) + (1))), (5, .ref (b + 3 + 2 * i)), (4, .int (nI i)), (3, .int (nI 6)), (2, .ref (b + 1)), (0, .ref (b))]) hx hb dX6_gaugesWithGap_33 hl (k := 4) rfl (rfl) (by decide) rfl (fun ls hl => ?_)
        refine lv_iinc (v := nI (i + 1)) (lv' := [(4, .int (nI (i + 1))), (1, .int ((t) + (1))), (5, .ref (b + 3 + 2 * i)), (3, .int (nI 6)), (2, .ref (b + 1)), (0, .ref (b))]) hx hb dX6_gaugesWithGap_36 hl (k := 2) rfl (nI_1 _) (by decide) rfl (fun ls hl => ?_)
        refine lv_goto (tgt := 13) hx hb dX6_gaugesWithGap_39 (by decide) ?_
        exact ih_13 (i + 1) ((t) + (1)) _ _ _ (by omega) (by omega) (by rw [ht1]; exact (if_neg c_30).symm) hM hS (lv_sub hl [0, 3, 4, 1, 5] rfl)
  exact loop_13 _ 0 0 _ _ _ (Nat.lt_succ_self _) (by omega) rfl hM hS (lv_sub hl [0, 1, 2, 3, 4] rfl)

set_option maxHeartbeats 4000000 in
set_option maxRecDepth 100000 in
/-- a fact of a gauge -/
theorem k_X6_factOf (l : Launch) (g : GG) (A : Nat → Prop) (M0 : MM) (b : Nat) (π : Nat → Nat) (v : VV) (i : Nat) (w : Int32) (hR : RepV g A M0 b π v) (hi : i < 6) : Met l yX6_factOf (Uw yX6_factOf cX6_factOf 3 (Option.some ClassFile.FieldType.int)) (rmD 1) (PreM [.ref (b), .ref (b + 3 + 2 * i), .int (w)] g A M0) (PosI (fun r M1 => r = (facC v i w) ∧ M1 = M0) g A) 0 0 A := by
  refine mk_Met (own := RX6) rfl rfl (by decide) (Nat.le_of_ble_eq_true rfl) ?_
  intro p e s m below meth c ls aa Q haa hQ hx hb hr hlk hml hown hts hK hM hS hl hnm
  obtain ⟨M, hMM⟩ : ∃ M, M = M0 := ⟨_, rfl⟩
  rw [← hMM] at hM hR
  have ht : ∀ w ∈ lw_good, w.before _ s = true := fun w h => hts w (List.mem_cons_of_mem _ h)
  have hF : FrV b M0 M := by rw [hMM]; exact FrV.rf
  have hl : lv_has ls 3 [(0, .ref (b)), (1, .ref (b + 3 + 2 * i)), (2, .int (w))] := hl
  refine lv_iload_n hx hb dX6_factOf_0 rfl (lv_at hl 2 rfl) ?_
  by_cases s_1 : (w).toInt < 0 ∨ 8 < (w).toInt
  · refine lv_tableOut (tgt := 101) hx hb dX6_factOf_1 s_1 (by decide) ?_
    refine lv_ldc (v := (-1000002)) hx hb hown (ht _ uw_488) dX6_factOf_101 ?_
    subst hQ
    exact m_zret hx hb hr rfl hlk hK hM hS dX6_factOf_103 (⟨by rw [facC_out s_1], hMM⟩)
  by_cases s_1_0 : (w) = 0
  · refine lv_tableIn (tgt := 52) (off := 51) hx hb dX6_factOf_1 (by rw [s_1_0]; decide) (by rw [s_1_0]; decide) (by rw [s_1_0]; rfl) (by decide) ?_
    refine lv_aload_n hx hb dX6_factOf_52 rfl (lv_at hl 1 rfl) ?_
    refine rv_getG hx hb ht ui_X0 hown hK hM hR hi 0 (by decide) (ht _ uw_117) dX6_factOf_53 ?_
    subst hQ
    exact m_zret hx hb hr rfl hlk hK hM hS dX6_factOf_56 (⟨by rw [s_1_0]; rfl, hMM⟩)
  by_cases s_1_1 : (w) = 1
  · refine lv_tableIn (tgt := 57) (off := 56) hx hb dX6_factOf_1 (by rw [s_1_1]; decide) (by rw [s_1_1]; decide) (by rw [s_1_1]; rfl) (by decide) ?_
    refine lv_aload_n hx hb dX6_factOf_57 rfl (lv_at hl 1 rfl) ?_
    refine rv_getG hx hb ht ui_X0 hown hK hM hR hi 1 (by decide) (ht _ uw_120) dX6_factOf_58 ?_
    subst hQ
    exact m_zret hx hb hr rfl hlk hK hM hS dX6_factOf_61 (⟨by rw [s_1_1]; rfl, hMM⟩)
  by_cases s_1_2 : (w) = 2
  · refine lv_tableIn (tgt := 62) (off := 61) hx hb dX6_factOf_1 (by rw [s_1_2]; decide) (by rw [s_1_2]; decide) (by rw [s_1_2]; rfl) (by decide) ?_
    refine lv_aload_n hx hb dX6_factOf_62 rfl (lv_at hl 1 rfl) ?_
    refine rv_getG hx hb ht ui_X0 hown hK hM hR hi 2 (by decide) (ht _ uw_123) dX6_factOf_63 ?_
    subst hQ
    exact m_zret hx hb hr rfl hlk hK hM hS dX6_factOf_66 (⟨by rw [s_1_2]; rfl, hMM⟩)
  by_cases s_1_3 : (w) = 3
  · refine lv_tableIn (tgt := 67) (off := 66) hx hb dX6_factOf_1 (by rw [s_1_3]; decide) (by rw [s_1_3]; decide) (by rw [s_1_3]; rfl) (by decide) ?_
    refine lv_aload_n hx hb dX6_factOf_67 rfl (lv_at hl 1 rfl) ?_
    refine rv_getG hx hb ht ui_X0 hown hK hM hR hi 3 (by decide) (ht _ uw_126) dX6_factOf_68 ?_
    subst hQ
    exact m_zret hx hb hr rfl hlk hK hM hS dX6_factOf_71 (⟨by rw [s_1_3]; rfl, hMM⟩)
  by_cases s_1_4 : (w) = 4
  · refine lv_tableIn (tgt := 72) (off := 71) hx hb dX6_factOf_1 (by rw [s_1_4]; decide) (by rw [s_1_4]; decide) (by rw [s_1_4]; rfl) (by decide) ?_
    refine lv_aload_n hx hb dX6_factOf_72 rfl (lv_at hl 1 rfl) ?_
    refine rv_getG hx hb ht ui_X0 hown hK hM hR hi 4 (by decide) (ht _ uw_129) dX6_factOf_73 ?_
    subst hQ
    exact m_zret hx hb hr rfl hlk hK hM hS dX6_factOf_76 (⟨by rw [s_1_4]; rfl, hMM⟩)
  by_cases s_1_5 : (w) = 5
  · refine lv_tableIn (tgt := 77) (off := 76) hx hb dX6_factOf_1 (by rw [s_1_5]; decide) (by rw [s_1_5]; decide) (by rw [s_1_5]; rfl) (by decide) ?_
    refine lv_aload_n hx hb dX6_factOf_77 rfl (lv_at hl 1 rfl) ?_
    refine rv_getG hx hb ht ui_X0 hown hK hM hR hi 5 (by decide) (ht _ uw_131) dX6_factOf_78 ?_
    subst hQ
    exact m_zret hx hb hr rfl hlk hK hM hS dX6_factOf_81 (⟨by rw [s_1_5]; rfl, hMM⟩)
  by_cases s_1_6 : (w) = 6
  · refine lv_tableIn (tgt := 82) (off := 81) hx hb dX6_factOf_1 (by rw [s_1_6]; decide) (by rw [s_1_6]; decide) (by rw [s_1_6]; rfl) (by decide) ?_
    refine lv_aload_n hx hb dX6_factOf_82 rfl (lv_at hl 0 rfl) ?_
    refine lv_aload_n hx hb dX6_factOf_83 rfl (lv_at hl 1 rfl) ?_
    refine rv_getG hx hb ht ui_X0 hown hK hM hR hi 5 (by decide) (ht _ uw_131) dX6_factOf_84 ?_
    refine m_callRI (val := whC v (v.2.1 i 5)) (As := [.int (v.2.1 i 5)]) (rest := []) ⟨hx, hb, hml, hown, ht⟩ (k_X6_wheelAt l g A M b π v (v.2.1 i 5) hR) (cwV 1 ht (gU uw_376 uw_377 uw_378 uw_35 uw_379) rfl rfl rfl (by decide +kernel) ⟨by decide, by decide⟩) hK hM hS (m_recv hK hM hR.AW hR.W rfl) rfl hl.1 rfl (Nat.le_of_ble_eq_true rfl) dX6_factOf_87 ⟨by decide, by decide⟩ (fun H locs hM hS => ?_)
    subst hQ
    exact m_zret hx hb hr rfl hlk hK hM hS dX6_factOf_90 (⟨by rw [s_1_6]; rfl, hMM⟩)
  by_cases s_1_7 : (w) = 7
  · refine lv_tableIn (tgt := 91) (off := 90) hx hb dX6_factOf_1 (by rw [s_1_7]; decide) (by rw [s_1_7]; decide) (by rw [s_1_7]; rfl) (by decide) ?_
    refine lv_aload_n hx hb dX6_factOf_91 rfl (lv_at hl 1 rfl) ?_
    refine rv_getG hx hb ht ui_X0 hown hK hM hR hi 6 (by decide) (ht _ uw_133) dX6_factOf_92 ?_
    subst hQ
    exact m_zret hx hb hr rfl hlk hK hM hS dX6_factOf_95 (⟨by rw [s_1_7]; rfl, hMM⟩)
  by_cases s_1_8 : (w) = 8
  · refine lv_tableIn (tgt := 96) (off := 95) hx hb dX6_factOf_1 (by rw [s_1_8]; decide) (by rw [s_1_8]; decide) (by rw [s_1_8]; rfl) (by decide) ?_
    refine lv_aload_n hx hb dX6_factOf_96 rfl (lv_at hl 1 rfl) ?_
    refine rv_getG hx hb ht ui_X0 hown hK hM hR hi 7 (by decide) (ht _ uw_135) dX6_factOf_97 ?_
    subst hQ
    exact m_zret hx hb hr rfl hlk hK hM hS dX6_factOf_100 (⟨by rw [s_1_8]; rfl, hMM⟩)
  exfalso
  have n_0 := lv_neT (a := 0) s_1_0 (by decide)
  have n_1 := lv_neT (a := 1) s_1_1 (by decide)
  have n_2 := lv_neT (a := 2) s_1_2 (by decide)
  have n_3 := lv_neT (a := 3) s_1_3 (by decide)
  have n_4 := lv_neT (a := 4) s_1_4 (by decide)
  have n_5 := lv_neT (a := 5) s_1_5 (by decide)
  have n_6 := lv_neT (a := 6) s_1_6 (by decide)
  have n_7 := lv_neT (a := 7) s_1_7 (by decide)
  have n_8 := lv_neT (a := 8) s_1_8 (by decide)
  omega

set_option maxHeartbeats 4000000 in
set_option maxRecDepth 100000 in
/-- over all gauges -/
theorem k_X6_sumOf (l : Launch) (g : GG) (A : Nat → Prop) (M0 : MM) (b : Nat) (π : Nat → Nat) (v : VV) (w : Int32) (hR : RepV g A M0 b π v)  : Met l yX6_sumOf (Uw yX6_sumOf cX6_sumOf 7 (Option.some ClassFile.FieldType.int)) (rmD 2) (PreM [.ref (b), .int (w)] g A M0) (PosI (fun r M1 => r = (sumN (fun i => facC v i w) 6) ∧ M1 = M0) g A) 0 0 A := by
  refine mk_Met (own := RX6) rfl rfl (by decide) (Nat.le_of_ble_eq_true rfl) ?_
  intro p e s m below meth c ls aa Q haa hQ hx hb hr hlk hml hown hts hK hM hS hl hnm
  obtain ⟨M, hMM⟩ : ∃ M, M = M0 := ⟨_, rfl⟩
  rw [← hMM] at hM hR
  have ht : ∀ w ∈ lw_good, w.before _ s = true := fun w h => hts w (List.mem_cons_of_mem _ h)
  have hF : FrV b M0 M := by rw [hMM]; exact FrV.rf
  have hl : lv_has ls 7 [(0, .ref (b)), (1, .int (w))] := hl
  refine lv_iconst (v := nI 0) hx hb dX6_sumOf_0 (by first | rfl | decide) ?_
  refine lv_istore_n (lv' := [(2, .int (nI 0)), (0, .ref (b)), (1, .int (w))]) hx hb dX6_sumOf_1 rfl hl (by decide) rfl (fun ls hl => ?_)
  refine lv_aload_n hx hb dX6_sumOf_2 rfl (lv_at hl 1 rfl) ?_
  refine rv_getga hx hb ht ui_X6 hown hK hM hR (ht _ uw_196) dX6_sumOf_3 ?_
  refine lv_astore_n (lv' := [(3, .ref (b + 1)), (2, .int (nI 0)), (0, .ref (b)), (1, .int (w))]) hx hb dX6_sumOf_6 rfl hl (by decide) rfl (fun ls hl => ?_)
  refine lv_aload_n hx hb dX6_sumOf_7 rfl (lv_at hl 0 rfl) ?_
  refine rv_lenG hx hb hK hM hR dX6_sumOf_8 ?_
  refine lv_istore (lv' := [(4, .int (nI 6)), (3, .ref (b + 1)), (2, .int (nI 0)), (0, .ref (b)), (1, .int (w))]) hx hb dX6_sumOf_9 hl (by decide) rfl (fun ls hl => ?_)
  refine lv_iconst (v := nI 0) hx hb dX6_sumOf_11 (by first | rfl | decide) ?_
  refine lv_istore (lv' := [(5, .int (nI 0)), (4, .int (nI 6)), (3, .ref (b + 1)), (2, .int (nI 0)), (0, .ref (b)), (1, .int (w))]) hx hb dX6_sumOf_12 hl (by decide) rfl (fun ls hl => ?_)
  have loop_14 : ∀ (z_14 : Nat) (i : Nat) (t : Int32) (H : Heap) (locs : List Loc) (ls : Array Slot), 6 - i < z_14 → i ≤ 6 → t = sumN (fun i => facC v i w) i → HD g A M H → va_S A s.heap H locs → lv_has ls 7 [(5, .int (nI i)), (4, .int (nI 6)), (3, .ref (b + 1)), (2, .int (t)), (0, .ref (b)), (1, .int (w))] → W p l e (rmD 2) s m aa below meth c H locs 0 0 Q (F0 m 14 ls []) := by
    intro z_14
    induction z_14 with
    | zero => intro i t H locs ls hz hi ht1; exact absurd hz (Nat.not_lt_zero _)
    | succ z_14 ih_14 =>
    intro i t H locs ls hz hi ht1 hM  hS hl
    refine lv_iload hx hb dX6_sumOf_14 (lv_at hl 0 rfl) ?_
    refine lv_iload hx hb dX6_sumOf_16 (lv_at hl 1 rfl) ?_
    refine lv_icmp_ge (tgt := 43) hx hb dX6_sumOf_18 (by decide) (fun c_18 => ?_) (fun c_18 => ?_)
    · have hi6 : i = 6 := Nat.le_antisymm hi (nI_le_of (by omega) (by decide) c_18)
      subst hi6
      refine lv_iload_n hx hb dX6_sumOf_43 rfl (lv_at hl 3 rfl) ?_
      subst hQ
      exact m_zret hx hb hr rfl hlk hK hM hS dX6_sumOf_44 (⟨ht1, hMM⟩)
    · have hi6 : i < 6 := nI_lt_of (by omega) (by decide) c_18
      refine lv_aload_n hx hb dX6_sumOf_21 rfl (lv_at hl 2 rfl) ?_
      refine lv_iload hx hb dX6_sumOf_22 (lv_at hl 0 rfl) ?_
      refine rv_aldG hx hb hK hM hR (hi6) dX6_sumOf_24 ?_
      refine lv_astore (lv' := [(6, .ref (b + 3 + 2 * i)), (5, .int (nI i)), (4, .int (nI 6)), (3, .ref (b + 1)), (2, .int (t)), (0, .ref (b)), (1, .int (w))]) hx hb dX6_sumOf_25 hl (by decide) rfl (fun ls hl => ?_)
      refine lv_iload_n hx hb dX6_sumOf_27 rfl (lv_at hl 4 rfl) ?_
      refine lv_aload_n hx hb dX6_sumOf_28 rfl (lv_at hl 5 rfl) ?_
      refine lv_aload hx hb dX6_sumOf_29 (lv_at hl 0 rfl) ?_
      refine lv_iload_n hx hb dX6_sumOf_31 rfl (lv_at hl 6 rfl) ?_
      refine m_callRI (val := facC v i w) (As := [.ref (b + 3 + 2 * i), .int (w)]) (rest := [.int (t)]) ⟨hx, hb, hml, hown, ht⟩ (k_X6_factOf l g A M b π v i w hR hi6) (cwV 2 ht (gU uw_510 uw_485 uw_486 uw_35 uw_487) rfl rfl rfl (by decide +kernel) ⟨by decide, by decide⟩) hK hM hS (m_recv hK hM hR.AW hR.W rfl) rfl hl.1 rfl (Nat.le_of_ble_eq_true rfl) dX6_sumOf_32 ⟨by decide, by decide⟩ (fun H locs hM hS => ?_)
      refine lv_iadd hx hb dX6_sumOf_35 ?_
      refine lv_istore_n (lv' := [(2, .int ((t) + (facC v i w))), (6, .ref (b + 3 + 2 * i)), (5, .int (nI i)), (4, .int (nI 6)), (3, .ref (b + 1)), (0, .ref (b)), (1, .int (w))]) hx hb dX6_sumOf_36 rfl hl (by decide) rfl (fun ls hl => ?_)
      refine lv_iinc (v := nI (i + 1)) (lv' := [(5, .int (nI (i + 1))), (2, .int ((t) + (facC v i w))), (6, .ref (b + 3 + 2 * i)), (4, .int (nI 6)), (3, .ref (b + 1)), (0, .ref (b)), (1, .int (w))]) hx hb dX6_sumOf_37 hl (k := 2) rfl (nI_1 _) (by decide) rfl (fun ls hl => ?_)
      refine lv_goto (tgt := 14) hx hb dX6_sumOf_40 (by decide) ?_
      exact ih_14 (i + 1) ((t) + (facC v i w)) _ _ _ (by omega) (by omega) (by rw [ht1]; rfl) hM hS (lv_sub hl [0, 3, 4, 1, 5, 6] rfl)
  exact loop_14 _ 0 0 _ _ _ (Nat.lt_succ_self _) (by omega) rfl hM hS (lv_sub hl [0, 1, 2, 3, 4, 5] rfl)

set_option maxHeartbeats 4000000 in
set_option maxRecDepth 100000 in
/-- the hours until the last one comes -/
theorem k_X6_longestWay (l : Launch) (g : GG) (A : Nat → Prop) (M0 : MM) (b : Nat) (π : Nat → Nat) (v : VV) (hR : RepV g A M0 b π v) (n : Nat) (hn : v.1 3 = nI n) (hn20 : n ≤ 20)  : Met l yX6_longestWay (Uw yX6_longestWay cX6_longestWay 3 (Option.some ClassFile.FieldType.int)) (rmD 1) (PreM [.ref (b)] g A M0) (PosI (fun r M1 => r = (lonC v n) ∧ M1 = M0) g A) 0 0 A := by
  refine mk_Met (own := RX6) rfl rfl (by decide) (Nat.le_of_ble_eq_true rfl) ?_
  intro p e s m below meth c ls aa Q haa hQ hx hb hr hlk hml hown hts hK hM hS hl hnm
  obtain ⟨M, hMM⟩ : ∃ M, M = M0 := ⟨_, rfl⟩
  rw [← hMM] at hM hR
  have ht : ∀ w ∈ lw_good, w.before _ s = true := fun w h => hts w (List.mem_cons_of_mem _ h)
  have hF : FrV b M0 M := by rw [hMM]; exact FrV.rf
  have hl : lv_has ls 3 [(0, .ref (b))] := hl
  refine lv_iconst (v := nI 0) hx hb dX6_longestWay_0 (by first | rfl | decide) ?_
  refine lv_istore_n (lv' := [(1, .int (nI 0)), (0, .ref (b))]) hx hb dX6_longestWay_1 rfl hl (by decide) rfl (fun ls hl => ?_)
  refine lv_iconst (v := nI 0) hx hb dX6_longestWay_2 (by first | rfl | decide) ?_
  refine lv_istore_n (lv' := [(2, .int (nI 0)), (1, .int (nI 0)), (0, .ref (b))]) hx hb dX6_longestWay_3 rfl hl (by decide) rfl (fun ls hl => ?_)
  have loop_4 : ∀ (z_4 : Nat) (j : Nat) (t : Int32) (H : Heap) (locs : List Loc) (ls : Array Slot), n - j < z_4 → j ≤ n → t = lonC v j → HD g A M H → va_S A s.heap H locs → lv_has ls 3 [(2, .int (nI j)), (1, .int (t)), (0, .ref (b))] → W p l e (rmD 1) s m aa below meth c H locs 0 0 Q (F0 m 4 ls []) := by
    intro z_4
    induction z_4 with
    | zero => intro j t H locs ls hz hj ht1; exact absurd hz (Nat.not_lt_zero _)
    | succ z_4 ih_4 =>
    intro j t H locs ls hz hj ht1 hM  hS hl
    refine lv_iload_n hx hb dX6_longestWay_4 rfl (lv_at hl 0 rfl) ?_
    refine lv_aload_n hx hb dX6_longestWay_5 rfl (lv_at hl 2 rfl) ?_
    refine rv_getW hx hb ht ui_X6 hown hK hM hR 3 (by decide) (ht _ uw_194) dX6_longestWay_6 ?_
    refine lv_icmp_ge (tgt := 41) hx hb dX6_longestWay_9 (by decide) (fun c_9 => ?_) (fun c_9 => ?_)
    · rw [hn] at c_9
      have hkn : j = n := Nat.le_antisymm hj (nI_le_of (by omega) (by omega) c_9)
      subst hkn
      refine lv_iload_n hx hb dX6_longestWay_41 rfl (lv_at hl 1 rfl) ?_
      subst hQ
      exact m_zret hx hb hr rfl hlk hK hM hS dX6_longestWay_42 (⟨ht1, hMM⟩)
    · rw [hn] at c_9
      have hkn : j < n := nI_lt_of (by omega) (by omega) c_9
      refine lv_iload_n hx hb dX6_longestWay_12 rfl (lv_at hl 0 rfl) ?_
      refine lv_aload_n hx hb dX6_longestWay_13 rfl (lv_at hl 2 rfl) ?_
      refine rv_getra hx hb ht ui_X6 hown hK hM hR (ht _ uw_198) dX6_longestWay_14 ?_
      refine rv_lenR hx hb hK hM hR dX6_longestWay_17 ?_
      refine lv_icmp_ge (tgt := 41) hx hb dX6_longestWay_18 (by decide) (fun c_18 => absurd c_18 (nI_ge (show j < 20 by omega) (by decide))) (fun c_18 => ?_)
      refine lv_iload_n hx hb dX6_longestWay_21 rfl (lv_at hl 1 rfl) ?_
      refine lv_aload_n hx hb dX6_longestWay_22 rfl (lv_at hl 2 rfl) ?_
      refine rv_getra hx hb ht ui_X6 hown hK hM hR (ht _ uw_198) dX6_longestWay_23 ?_
      refine lv_iload_n hx hb dX6_longestWay_26 rfl (lv_at hl 0 rfl) ?_
      refine rv_aldR hx hb hK hM hR (show j < 20 by omega) dX6_longestWay_27 ?_
      refine rv_getR hx hb ht ui_X5 hown hK hM hR (show j < 20 by omega) 4 (by decide) (ht _ uw_175) dX6_longestWay_28 ?_
      refine va_mmax hx hb (hml.trans hl.1.symm) hown (ht _ uw_542) (ht _ uw_543) (ht _ uw_43) (ht _ uw_544) (by decide) (by decide) (by decide) (by decide) dX6_longestWay_31 ?_
      refine lv_istore_n (lv' := [(1, .int (if t < v.2.2 j 4 then v.2.2 j 4 else t)), (2, .int (nI j)), (0, .ref (b))]) hx hb dX6_longestWay_34 rfl hl (by decide) rfl (fun ls hl => ?_)
      refine lv_iinc (v := nI (j + 1)) (lv' := [(2, .int (nI (j + 1))), (1, .int (if t < v.2.2 j 4 then v.2.2 j 4 else t)), (0, .ref (b))]) hx hb dX6_longestWay_35 hl (k := 1) rfl (nI_1 _) (by decide) rfl (fun ls hl => ?_)
      refine lv_goto (tgt := 4) hx hb dX6_longestWay_38 (by decide) ?_
      exact ih_4 (j + 1) (if t < v.2.2 j 4 then v.2.2 j 4 else t) _ _ _ (by omega) (by omega) (by rw [ht1]; rfl) hM hS (lv_sub hl [0, 1, 2] rfl)
  exact loop_4 _ 0 0 _ _ _ (Nat.lt_succ_self _) (Nat.zero_le _) rfl hM hS (lv_sub hl [0, 1, 2] rfl)
end
section
theorem gxn_in {n i : Nat} (hi : i < n) (hn : n < 2 ^ 31) : gxn n (nI i) = some i := by
  unfold gxn
  rw [if_neg (fun q => vp_in_nI hi hn q), nI_clamp (by omega)]
theorem va_upup {α : Type} (f : Nat → α) (k : Nat) (x y : α) : va_up (va_up f k x) k y = va_up f k y := by
  funext j
  unfold va_up
  by_cases h : j = k
  · simp [h]
  · simp [h]
theorem va_upself {α : Type} {f : Nat → α} {k : Nat} {x : α} (h : f k = x) (j : Nat) : va_up f k x j = f j := by
  unfold va_up
  by_cases hj : j = k
  · rw [if_pos hj, hj, h]
  · rw [if_neg hj]
theorem mov_c {v : VV} {k : Nat} (c : ¬ (vR v k 4 (v.2.2 k 4 - nI 1)).2.2 k 4 ≤ 0) : ¬ v.2.2 k 4 - 1 ≤ 0 := by
  simpa [up2, va_up, show nI 1 = (1 : Int32) from rfl] using c
theorem mov_d {v : VV} {k : Nat} (c : (vR v k 4 (v.2.2 k 4 - nI 1)).2.2 k 4 ≤ 0) : v.2.2 k 4 - 1 ≤ 0 := by
  simpa [up2, va_up, show nI 1 = (1 : Int32) from rfl] using c
theorem sen_n {v : VV} {i n : Nat} (se3 : (seR v i n).1 3 = nI (n + 1)) : (heaC (seR v i n) n).1 3 - nI 1 = nI n := by
  rw [heaC_1, se3]
  exact pk_sub (show 1 ≤ n + 1 by omega)
theorem sen_a {g : GG} {A : Nat → Prop} {M0 M : MM} {b : Nat} {π : Nat → Nat} {v : VV} {i n : Nat} (c : (seR v i n).2.2 n 4 = 0) (hR : RepV g A M b π (rmvC (heaC (seR v i n) n) n (n + 1))) (hF : FrV b M0 M) : whC (rmvC (heaC (seR v i n) n) n (n + 1)) ((rmvC (heaC (seR v i n) n) n (n + 1)).2.1 i 5) = whC (senC v i n) ((senC v i n).2.1 i 5) ∧ EV g A M b (senC v i n) ∧ FrV b M0 M := by
  have e : senC v i n = rmvC (heaC (seR v i n) n) n (n + 1) := if_pos c
  rw [e]
  exact ⟨rfl, ⟨_, hR⟩, hF⟩
theorem sen_b {g : GG} {A : Nat → Prop} {M0 M : MM} {b : Nat} {π : Nat → Nat} {v : VV} {i n : Nat} (c : ¬ (seR v i n).2.2 n 4 = 0) (hR : RepV g A M b π (seR v i n)) (hF : FrV b M0 M) : whC (seR v i n) ((seR v i n).2.1 i 5) = whC (senC v i n) ((senC v i n).2.1 i 5) ∧ EV g A M b (senC v i n) ∧ FrV b M0 M := by
  have e : senC v i n = seR v i n := if_neg c
  rw [e]
  exact ⟨rfl, ⟨_, hR⟩, hF⟩
set_option maxHeartbeats 4000000 in
set_option maxRecDepth 100000 in
/-- a runner is taken from the way -/
theorem k_X6_removeRunner (l : Launch) (g : GG) (A : Nat → Prop) (M0 : MM) (b : Nat) (π : Nat → Nat) (v : VV) (k n : Nat) (hR : RepV g A M0 b π v) (hn : v.1 3 = nI n) (hn20 : n ≤ 20) (hk : k < n) : Met l yX6_removeRunner (Uw yX6_removeRunner cX6_removeRunner 5 (Option.none : Option ClassFile.FieldType)) (rmD 1) (PreM [.ref (b), .int (nI k)] g A M0) (PosV (fun M1 => RepV g A M1 b (rotN k n π) (rmvC v k n) ∧ FrV b M0 M1) g A) 0 0 A := by
  refine mk_Met (own := RX6) rfl rfl (by decide) (Nat.le_of_ble_eq_true rfl) ?_
  intro p e s m below meth c ls aa Q haa hQ hx hb hr hlk hml hown hts hK hM hS hl hnm
  obtain ⟨M, hMM⟩ : ∃ M, M = M0 := ⟨_, rfl⟩
  rw [← hMM] at hM hR
  have ht : ∀ w ∈ lw_good, w.before _ s = true := fun w h => hts w (List.mem_cons_of_mem _ h)
  have hF : FrV b M0 M := by rw [hMM]; exact FrV.rf
  have hl : lv_has ls 5 [(0, .ref (b)), (1, .int (nI k))] := hl
  refine lv_aload_n hx hb dX6_removeRunner_0 rfl (lv_at hl 0 rfl) ?_
  refine lv_iload_n hx hb dX6_removeRunner_1 rfl (lv_at hl 1 rfl) ?_
  refine m_callRQ (val := some (b + 15 + π k)) (w := .ref (b + 15 + π k)) (rfl) (As := [.int (nI k)]) (rest := []) ⟨hx, hb, hml, hown, ht⟩ (k_X6_runnerAt l g A M b π v (nI k) (some k) hR (by rw [hn, if_neg (nI_ge hk (by omega))]; exact gxn_in (by omega) (by omega))) (cwV 1 ht (gU uw_368 uw_369 uw_370 uw_35 uw_371) rfl rfl rfl (by decide +kernel) ⟨by decide, by decide⟩) hK hM hS (m_recv hK hM hR.AW hR.W rfl) rfl hl.1 rfl (Nat.le_of_ble_eq_true rfl) dX6_removeRunner_2 ⟨by decide, by decide⟩ (fun H locs hM hS => ?_)
  refine lv_astore_n (lv' := [(2, .ref (b + 15 + π k)), (0, .ref (b)), (1, .int (nI k))]) hx hb dX6_removeRunner_5 rfl hl (by decide) rfl (fun ls hl => ?_)
  have hk20 : k < 20 := by omega
  have hR0 := hR
  refine lv_aload_n hx hb dX6_removeRunner_6 rfl (lv_at hl 1 rfl) ?_
  refine rv_getW hx hb ht ui_X6 hown hK hM hR 3 (by decide) (ht _ uw_194) dX6_removeRunner_7 ?_
  rw [hn]
  refine lv_iconst (v := nI 1) hx hb dX6_removeRunner_10 (by first | rfl | decide) ?_
  refine lv_isub hx hb dX6_removeRunner_11 ?_
  rw [show nI n - nI 1 = nI (n - 1) from pk_sub (show 1 ≤ n by omega)]
  refine lv_istore_n (lv' := [(3, .int (nI (n - 1))), (2, .ref (b + 15 + π k)), (0, .ref (b)), (1, .int (nI k))]) hx hb dX6_removeRunner_12 rfl hl (by decide) rfl (fun ls hl => ?_)
  refine lv_aload_n hx hb dX6_removeRunner_13 rfl (lv_at hl 1 rfl) ?_
  refine lv_ifnull hx hb dX6_removeRunner_14 ?_
  refine lv_iload_n hx hb dX6_removeRunner_17 rfl (lv_at hl 0 rfl) ?_
  refine lv_aload_n hx hb dX6_removeRunner_18 rfl (lv_at hl 2 rfl) ?_
  refine rv_getra hx hb ht ui_X6 hown hK hM hR (ht _ uw_198) dX6_removeRunner_19 ?_
  refine rv_lenR hx hb hK hM hR dX6_removeRunner_22 ?_
  refine lv_icmp_lt (tgt := 27) hx hb dX6_removeRunner_23 (by decide) (fun c_23 => ?_) (fun c_23 => absurd (Int32.not_le.mp (nI_ge (show n - 1 < 20 by omega) (by omega))) c_23)
  refine lv_iload_n hx hb dX6_removeRunner_27 rfl (lv_at hl 3 rfl) ?_
  refine lv_istore (lv' := [(4, .int (nI k)), (3, .int (nI (n - 1))), (2, .ref (b + 15 + π k)), (0, .ref (b)), (1, .int (nI k))]) hx hb dX6_removeRunner_28 hl (by decide) rfl (fun ls hl => ?_)
  have loop_30 : ∀ (z_30 : Nat) (i : Nat) (M : MM) (H : Heap) (locs : List Loc) (ls : Array Slot), n - 1 - i < z_30 → k ≤ i → i ≤ n - 1 → M = va_up M0 (b + 2) (raE g b (rhoN k i π)) → HD g A M H → va_S A s.heap H locs → lv_has ls 5 [(4, .int (nI i)), (3, .int (nI (n - 1))), (2, .ref (b + 15 + π k)), (0, .ref (b)), (1, .int (nI k))] → W p l e (rmD 1) s m aa below meth c H locs 0 0 Q (F0 m 30 ls []) := by
    intro z_30
    induction z_30 with
    | zero => intro i M H locs ls hz hi1 hi2 hMu; exact absurd hz (Nat.not_lt_zero _)
    | succ z_30 ih_30 =>
    intro i M H locs ls hz hi1 hi2 hMu hM  hS hl
    have hW : M b = wE b v.1 := by rw [hMu, va_up_ne _ _ (by omega), ← hMM]; exact hR0.W
    have hRA : M (b + 2) = raE g b (rhoN k i π) := by rw [hMu]; exact va_up_self _ _ _
    have hPi : ∀ j, j < 20 → M (b + 15 + π j) = rE (v.2.2 j) := fun j hj => by rw [hMu, va_up_ne _ _ (by omega), ← hMM]; exact hR0.R hj
    refine lv_iload hx hb dX6_removeRunner_30 (lv_at hl 0 rfl) ?_
    refine lv_iload_n hx hb dX6_removeRunner_32 rfl (lv_at hl 1 rfl) ?_
    refine lv_icmp_ge (tgt := 58) hx hb dX6_removeRunner_33 (by decide) (fun c_33 => ?_) (fun c_33 => ?_)
    · have hin : i = n - 1 := Nat.le_antisymm hi2 (nI_le_of (by omega) (by omega) c_33)
      subst hin
      refine lv_aload_n hx hb dX6_removeRunner_58 rfl (lv_at hl 3 rfl) ?_
      refine m_get (ci := 6) (C := RX6) (T := TX6) (N := 6) hx hb ht ui_X6 hown hK hM hR0.AW hW rfl 5 (by decide) (ht _ uw_198) rfl dX6_removeRunner_59 ?_
      refine lv_iload_n hx hb dX6_removeRunner_62 rfl (lv_at hl 1 rfl) ?_
      refine lv_aload_n hx hb dX6_removeRunner_63 rfl (lv_at hl 2 rfl) ?_
      refine m_aast hx hb hK hM hS hR0.ARA 4 5 hRA rfl (hR0.AR (show k < 20 by omega)) ((hPi _ (show k < 20 by omega)).trans rfl) rfl (vp_in_nI (show n - 1 < 20 by omega) (by omega)) dX6_removeRunner_64 (fun H locs hM hS => ?_)
      rw [hMu, va_upup, show (Sum.inl (g.2 4, 20, Sum.inr (Sum.inr (Sum.inr (Sum.inr (va_up (fun j => some (b + 15 + rhoN k (n - 1) π j)) (nI (n - 1)).toNatClampNeg (some (b + 15 + π k))))))) : va_E) = raE g b (rotN k n π) by rw [nI_clamp (show n - 1 < 2 ^ 31 by omega), rho_end k n hk π b]] at hM
      have hR2 : RepV g A (va_up M0 (b + 2) (raE g b (rotN k n π))) b (rotN k n π) (v.1, v.2.1, rotN k n v.2.2) := by rw [← hMM]; exact hR0.setRA (rot_perm hk hn20 hR0.perm) (rot_rows hk hn20)
      have hF : FrV b M0 (va_up M0 (b + 2) (raE g b (rotN k n π))) := FrV.rf.up (by omega) (by omega)
      have hR := hR2
      refine lv_aload_n hx hb dX6_removeRunner_65 rfl (lv_at hl 3 rfl) ?_
      refine lv_iload_n hx hb dX6_removeRunner_66 rfl (lv_at hl 1 rfl) ?_
      refine rv_putW hx hb ht ui_X6 hown hK hM hS hR hF 3 (by decide) (ht _ uw_194) dX6_removeRunner_67 (fun M H locs hM hR hF hS => ?_)
      subst hQ
      exact m_vret hx hb hr hlk hK hM hS dX6_removeRunner_70 (⟨RepV.eq hR (by unfold rmvC; rfl), hF⟩)
    · have hin : i < n - 1 := nI_lt_of (by omega) (by omega) c_33
      refine lv_aload_n hx hb dX6_removeRunner_36 rfl (lv_at hl 3 rfl) ?_
      refine m_get (ci := 6) (C := RX6) (T := TX6) (N := 6) hx hb ht ui_X6 hown hK hM hR0.AW hW rfl 5 (by decide) (ht _ uw_198) rfl dX6_removeRunner_37 ?_
      refine lv_iload hx hb dX6_removeRunner_40 (lv_at hl 0 rfl) ?_
      refine lv_aload_n hx hb dX6_removeRunner_42 rfl (lv_at hl 3 rfl) ?_
      refine m_get (ci := 6) (C := RX6) (T := TX6) (N := 6) hx hb ht ui_X6 hown hK hM hR0.AW hW rfl 5 (by decide) (ht _ uw_198) rfl dX6_removeRunner_43 ?_
      refine lv_iload hx hb dX6_removeRunner_46 (lv_at hl 0 rfl) ?_
      refine lv_iconst (v := nI 1) hx hb dX6_removeRunner_48 (by first | rfl | decide) ?_
      refine lv_iadd hx hb dX6_removeRunner_49 ?_
      rw [nI_add]
      have e41 : rhoN k i π (i + 1) = π (i + 1) := if_neg (by omega)
      refine m_aald hx hb hK hM hR0.ARA 4 hRA rfl (vp_in_nI (show i + 1 < 20 by omega) (by omega)) (r := .ref (b + 15 + π (i + 1))) (by rw [nI_clamp (by omega), e41]; rfl) dX6_removeRunner_50 ?_
      refine m_aast hx hb hK hM hS hR0.ARA 4 5 hRA rfl (hR0.AR (show i + 1 < 20 by omega)) ((hPi _ (show i + 1 < 20 by omega)).trans rfl) rfl (vp_in_nI (show i < 20 by omega) (by omega)) dX6_removeRunner_51 (fun H locs hM hS => ?_)
      rw [hMu, va_upup, show (Sum.inl (g.2 4, 20, Sum.inr (Sum.inr (Sum.inr (Sum.inr (va_up (fun j => some (b + 15 + rhoN k i π j)) (nI i).toNatClampNeg (some (b + 15 + π (i + 1)))))))) : va_E) = raE g b (rhoN k (i + 1) π) by rw [nI_clamp (show i < 2 ^ 31 by omega), rho_up k i hi1 π b]] at hM
      refine lv_iinc (v := nI (i + 1)) (lv' := [(4, .int (nI (i + 1))), (3, .int (nI (n - 1))), (2, .ref (b + 15 + π k)), (0, .ref (b)), (1, .int (nI k))]) hx hb dX6_removeRunner_52 hl (k := 0) rfl (nI_1 _) (by decide) rfl (fun ls hl => ?_)
      refine lv_goto (tgt := 30) hx hb dX6_removeRunner_55 (by decide) ?_
      exact ih_30 (i + 1) _ _ _ _ (by omega) (by omega) (by omega) rfl hM hS (lv_sub hl [0, 1, 2, 3, 4] rfl)
  exact loop_30 _ k _ _ _ _ (Nat.lt_succ_self _) (Nat.le_refl _) (by omega) (by rw [rho_0, hMM]; funext q; exact (va_upself (by rw [← hMM]; exact hR0.RA) q).symm) hM hS (lv_sub hl [0, 1, 2, 3, 4] rfl)

set_option maxHeartbeats 4000000 in
set_option maxRecDepth 100000 in
/-- all runners an hour nearer; those who have come tell -/
theorem k_X6_moveRunners (l : Launch) (g : GG) (A : Nat → Prop) (M0 : MM) (b : Nat) (π : Nat → Nat) (v : VV) (hR : RepV g A M0 b π v) (n : Nat) (hn : v.1 3 = nI n) (hn20 : n ≤ 20)  : Met l yX6_moveRunners (Uw yX6_moveRunners cX6_moveRunners 4 (Option.none : Option ClassFile.FieldType)) (rmD 3) (PreM [.ref (b)] g A M0) (PosV (fun M1 => EV g A M1 b (movC n 0 v) ∧ FrV b M0 M1) g A) 0 0 A := by
  refine mk_Met (own := RX6) rfl rfl (by decide) (Nat.le_of_ble_eq_true rfl) ?_
  intro p e s m below meth c ls aa Q haa hQ hx hb hr hlk hml hown hts hK hM hS hl hnm
  obtain ⟨M, hMM⟩ : ∃ M, M = M0 := ⟨_, rfl⟩
  rw [← hMM] at hM hR
  have ht : ∀ w ∈ lw_good, w.before _ s = true := fun w h => hts w (List.mem_cons_of_mem _ h)
  have hF : FrV b M0 M := by rw [hMM]; exact FrV.rf
  have hl : lv_has ls 4 [(0, .ref (b))] := hl
  obtain ⟨v0, hv0⟩ : ∃ v0, v0 = movC n 0 v := ⟨_, rfl⟩
  rw [← hv0] at hQ
  refine lv_iconst (v := nI 0) hx hb dX6_moveRunners_0 (by first | rfl | decide) ?_
  refine lv_istore_n (lv' := [(1, .int (nI 0)), (0, .ref (b))]) hx hb dX6_moveRunners_1 rfl hl (by decide) rfl (fun ls hl => ?_)
  refine lv_aload_n hx hb dX6_moveRunners_2 rfl (lv_at hl 1 rfl) ?_
  refine rv_getW hx hb ht ui_X6 hown hK hM hR 3 (by decide) (ht _ uw_194) dX6_moveRunners_3 ?_
  refine lv_istore_n (lv' := [(2, .int (v.1 3)), (1, .int (nI 0)), (0, .ref (b))]) hx hb dX6_moveRunners_6 rfl hl (by decide) rfl (fun ls hl => ?_)
  have loop_7 : ∀ (z_7 : Nat) (k : Nat) (y : Nat) (π : Nat → Nat) (v : VV) (M : MM) (H : Heap) (locs : List Loc) (ls : Array Slot), y < z_7 → v.1 3 = nI (k + y) → k + y ≤ 20 → movC y k v = v0 → HD g A M H → RepV g A M b π v → FrV b M0 M → va_S A s.heap H locs → lv_has ls 4 [(2, .int (nI y)), (1, .int (nI k)), (0, .ref (b))] → W p l e (rmD 3) s m aa below meth c H locs 0 0 Q (F0 m 7 ls []) := by
    intro z_7
    induction z_7 with
    | zero => intro k y π v M H locs ls hz hn hn20 hv; exact absurd hz (Nat.not_lt_zero _)
    | succ z_7 ih_7 =>
    intro k y π v M H locs ls hz hn hn20 hv hM hR hF hS hl
    refine lv_iload_n hx hb dX6_moveRunners_7 rfl (lv_at hl 0 rfl) ?_
    refine lv_if_le (tgt := 61) hx hb dX6_moveRunners_8 (by decide) (fun c_8 => ?_) (fun c_8 => ?_)
    · have hy : y = 0 := Nat.le_zero.mp (nI_le_of (by omega) (by omega) c_8)
      subst hy
      subst hQ
      exact m_vret hx hb hr hlk hK hM hS dX6_moveRunners_61 (⟨⟨π, RepV.eq hR hv.symm⟩, hF⟩)
    · obtain ⟨u, hu⟩ : ∃ u, y = u + 1 := ⟨y - 1, by have := Nat.pos_of_ne_zero (fun q => c_8 (by rw [q]; decide) : y ≠ 0); omega⟩
      subst hu
      have hk20 : k < 20 := by omega
      refine lv_aload_n hx hb dX6_moveRunners_11 rfl (lv_at hl 2 rfl) ?_
      refine lv_iload_n hx hb dX6_moveRunners_12 rfl (lv_at hl 1 rfl) ?_
      refine m_callRQ (val := some (b + 15 + π k)) (w := .ref (b + 15 + π k)) (rfl) (As := [.int (nI k)]) (rest := []) ⟨hx, hb, hml, hown, ht⟩ (k_X6_runnerAt l g A M b π v (nI k) (some k) hR (by rw [hn, if_neg (nI_ge (show k < k + (u + 1) by omega) (by omega))]; exact gxn_in (by omega) (by omega))) (cwV 1 ht (gU uw_368 uw_369 uw_370 uw_35 uw_371) rfl rfl rfl (by decide +kernel) ⟨by decide, by decide⟩) hK hM hS (m_recv hK hM hR.AW hR.W rfl) rfl hl.1 rfl (Nat.le_of_ble_eq_true rfl) dX6_moveRunners_13 ⟨by decide, by decide⟩ (fun H locs hM hS => ?_)
      refine lv_astore_n (lv' := [(3, .ref (b + 15 + π k)), (2, .int (nI (u + 1))), (1, .int (nI k)), (0, .ref (b))]) hx hb dX6_moveRunners_16 rfl hl (by decide) rfl (fun ls hl => ?_)
      refine lv_aload_n hx hb dX6_moveRunners_17 rfl (lv_at hl 0 rfl) ?_
      refine lv_ifnonnull (tgt := 22) hx hb dX6_moveRunners_18 (by decide) ?_
      refine lv_aload_n hx hb dX6_moveRunners_22 rfl (lv_at hl 0 rfl) ?_
      refine lv_dup hx hb dX6_moveRunners_23 rfl ?_
      refine rv_getR hx hb ht ui_X5 hown hK hM hR hk20 4 (by decide) (ht _ uw_175) dX6_moveRunners_24 ?_
      refine lv_iconst (v := nI 1) hx hb dX6_moveRunners_27 (by first | rfl | decide) ?_
      refine lv_isub hx hb dX6_moveRunners_28 ?_
      refine rv_putR hx hb ht ui_X5 hown hK hM hS hR hF hk20 4 (by decide) (ht _ uw_175) dX6_moveRunners_29 (fun M H locs hM hR hF hS => ?_)
      refine lv_aload_n hx hb dX6_moveRunners_32 rfl (lv_at hl 0 rfl) ?_
      refine rv_getR hx hb ht ui_X5 hown hK hM hR hk20 4 (by decide) (ht _ uw_175) dX6_moveRunners_33 ?_
      refine lv_if_le (tgt := 45) hx hb dX6_moveRunners_36 (by decide) (fun c_36 => ?_) (fun c_36 => ?_)
      · refine lv_aload_n hx hb dX6_moveRunners_45 rfl (lv_at hl 3 rfl) ?_
        refine lv_aload_n hx hb dX6_moveRunners_46 rfl (lv_at hl 0 rfl) ?_
        refine m_callV (As := [.ref (b + 15 + π k)]) (rest := []) ⟨hx, hb, hml, hown, ht⟩ (k_X6_hear l g A M b π (vR v k 4 (v.2.2 k 4 - nI 1)) k hR hk20) (cwV 1 ht (gU uw_372 uw_374 uw_2 uw_35 uw_375) rfl rfl rfl (by decide +kernel) ⟨by decide, by decide⟩) hK hM hS (m_recv hK hM hR.AW hR.W rfl) rfl hl.1 rfl (Nat.le_of_ble_eq_true rfl) dX6_moveRunners_47 ⟨by decide, by decide⟩ (fun M H locs hp hM hS => ?_)
        obtain ⟨hR, hF1⟩ := hp
        have hF := hF.tr hF1
        refine lv_aload_n hx hb dX6_moveRunners_50 rfl (lv_at hl 3 rfl) ?_
        refine lv_iload_n hx hb dX6_moveRunners_51 rfl (lv_at hl 2 rfl) ?_
        refine m_callV (As := [.int (nI k)]) (rest := []) ⟨hx, hb, hml, hown, ht⟩ (k_X6_removeRunner l g A M b π (heaC (vR v k 4 (v.2.2 k 4 - nI 1)) k) k (k + u + 1) hR (by rw [heaC_1]; exact hn) (by omega) (by omega)) (cwV 1 ht (gU uw_392 uw_393 uw_394 uw_35 uw_395) rfl rfl rfl (by decide +kernel) ⟨by decide, by decide⟩) hK hM hS (m_recv hK hM hR.AW hR.W rfl) rfl hl.1 rfl (Nat.le_of_ble_eq_true rfl) dX6_moveRunners_52 ⟨by decide, by decide⟩ (fun M H locs hp hM hS => ?_)
        obtain ⟨hR, hF1⟩ := hp
        have hF := hF.tr hF1
        refine lv_iinc (v := nI u) (lv' := [(2, .int (nI u)), (3, .ref (b + 15 + π k)), (1, .int (nI k)), (0, .ref (b))]) hx hb dX6_moveRunners_55 hl (k := 1) rfl (pk_m1 u) (by decide) rfl (fun ls hl => ?_)
        refine lv_goto (tgt := 7) hx hb dX6_moveRunners_58 (by decide) ?_
        exact ih_7 k u _ (rmvC (heaC (vR v k 4 (v.2.2 k 4 - nI 1)) k) k (k + u + 1)) _ _ _ _ (by omega) (by rw [rmvC_3]; rfl) (by omega) (by rw [← hv]; exact (if_pos (mov_d c_36)).symm) hM hR hF hS (lv_sub hl [0, 2, 3] rfl)
      · refine lv_iinc (v := nI (k + 1)) (lv' := [(1, .int (nI (k + 1))), (3, .ref (b + 15 + π k)), (2, .int (nI (u + 1))), (0, .ref (b))]) hx hb dX6_moveRunners_39 hl (k := 2) rfl (nI_1 k) (by decide) rfl (fun ls hl => ?_)
        refine lv_goto (tgt := 55) hx hb dX6_moveRunners_42 (by decide) ?_
        refine lv_iinc (v := nI u) (lv' := [(2, .int (nI u)), (1, .int (nI (k + 1))), (3, .ref (b + 15 + π k)), (0, .ref (b))]) hx hb dX6_moveRunners_55 hl (k := 2) rfl (pk_m1 u) (by decide) rfl (fun ls hl => ?_)
        refine lv_goto (tgt := 7) hx hb dX6_moveRunners_58 (by decide) ?_
        exact ih_7 (k + 1) u _ (vR v k 4 (v.2.2 k 4 - nI 1)) _ _ _ _ (by omega) (by rw [show v.1 3 = nI (k + (u + 1)) from hn]; congr 1; omega) (by omega) (by rw [← hv]; exact (if_neg (mov_c c_36)).symm) hM hR hF hS (lv_sub hl [0, 1, 3] rfl)
  rw [hn] at hl
  exact loop_7 _ 0 n π v _ _ _ _ (Nat.lt_succ_self _) (by rw [hn]; congr 1; omega) (by omega) hv0.symm hM hR hF hS (lv_sub hl [0, 1, 2] rfl)

set_option maxHeartbeats 4000000 in
set_option maxRecDepth 100000 in
/-- a runner is sent -/
theorem k_X6_sendRunner (l : Launch) (g : GG) (A : Nat → Prop) (M0 : MM) (b : Nat) (π : Nat → Nat) (v : VV) (i : Nat) (hR : RepV g A M0 b π v) (n : Nat) (hn : v.1 3 = nI n) (hn20 : n ≤ 20) (hi : i < 6) : Met l yX6_sendRunner (Uw yX6_sendRunner cX6_sendRunner 4 (Option.some ClassFile.FieldType.int)) (rmD 3) (PreM [.ref (b), .int (nI i)] g A M0) (PosI (fun r M1 => (n < 20 → r = whC (senC v i n) ((senC v i n).2.1 i 5) ∧ EV g A M1 b (senC v i n) ∧ FrV b M0 M1) ∧ (¬ n < 20 → r = -1000004 ∧ M1 = M0)) g A) 0 0 A := by
  refine mk_Met (own := RX6) rfl rfl (by decide) (Nat.le_of_ble_eq_true rfl) ?_
  intro p e s m below meth c ls aa Q haa hQ hx hb hr hlk hml hown hts hK hM hS hl hnm
  obtain ⟨M, hMM⟩ : ∃ M, M = M0 := ⟨_, rfl⟩
  rw [← hMM] at hM hR
  have ht : ∀ w ∈ lw_good, w.before _ s = true := fun w h => hts w (List.mem_cons_of_mem _ h)
  have hF : FrV b M0 M := by rw [hMM]; exact FrV.rf
  have hl : lv_has ls 4 [(0, .ref (b)), (1, .int (nI i))] := hl
  by_cases hlt : n < 20
  · refine lv_aload_n hx hb dX6_sendRunner_0 rfl (lv_at hl 0 rfl) ?_
    refine lv_iload_n hx hb dX6_sendRunner_1 rfl (lv_at hl 1 rfl) ?_
    refine m_callRQ (val := some (b + 3 + 2 * i)) (w := .ref (b + 3 + 2 * i)) (rfl) (As := [.int (nI i)]) (rest := []) ⟨hx, hb, hml, hown, ht⟩ (k_X6_gaugeAt l g A M b π v (nI i) (some i) hR (gxn_in hi (by decide))) (cwV 1 ht (gU uw_336 uw_337 uw_338 uw_35 uw_339) rfl rfl rfl (by decide +kernel) ⟨by decide, by decide⟩) hK hM hS (m_recv hK hM hR.AW hR.W rfl) rfl hl.1 rfl (Nat.le_of_ble_eq_true rfl) dX6_sendRunner_2 ⟨by decide, by decide⟩ (fun H locs hM hS => ?_)
    refine lv_astore_n (lv' := [(2, .ref (b + 3 + 2 * i)), (0, .ref (b)), (1, .int (nI i))]) hx hb dX6_sendRunner_5 rfl hl (by decide) rfl (fun ls hl => ?_)
    refine lv_aload_n hx hb dX6_sendRunner_6 rfl (lv_at hl 0 rfl) ?_
    refine lv_ifnonnull (tgt := 13) hx hb dX6_sendRunner_7 (by decide) ?_
    refine lv_aload_n hx hb dX6_sendRunner_13 rfl (lv_at hl 1 rfl) ?_
    refine m_callQ (As := []) (rest := []) ⟨hx, hb, hml, hown, ht⟩ (k_X6_addRunner l g A M b π v hR n hn hn20) (cwV 0 ht (gU uw_409 uw_411 uw_6 uw_35 uw_412) rfl rfl rfl (by decide +kernel) ⟨by decide, by decide⟩) hK hM hS (m_recv hK hM hR.AW hR.W rfl) rfl hl.1 rfl (Nat.le_of_ble_eq_true rfl) dX6_sendRunner_14 ⟨by decide, by decide⟩ (fun r9 M H locs hp hM hS => ?_)
    obtain ⟨e9, hR, hF1⟩ := hp.1 hlt
    subst e9
    have hF := hF.tr hF1
    refine lv_astore_n (lv' := [(3, .ref (b + 15 + π n)), (2, .ref (b + 3 + 2 * i)), (0, .ref (b)), (1, .int (nI i))]) hx hb dX6_sendRunner_17 rfl hl (by decide) rfl (fun ls hl => ?_)
    refine lv_aload_n hx hb dX6_sendRunner_18 rfl (lv_at hl 0 rfl) ?_
    refine lv_ifnonnull (tgt := 25) hx hb dX6_sendRunner_19 (by decide) ?_
    refine lv_aload_n hx hb dX6_sendRunner_25 rfl (lv_at hl 0 rfl) ?_
    refine lv_iload_n hx hb dX6_sendRunner_26 rfl (lv_at hl 3 rfl) ?_
    refine rv_putR hx hb ht ui_X5 hown hK hM hS hR hF hlt 0 (by decide) (ht _ uw_165) dX6_sendRunner_27 (fun M H locs hM hR hF hS => ?_)
    refine lv_aload_n hx hb dX6_sendRunner_30 rfl (lv_at hl 0 rfl) ?_
    refine lv_aload_n hx hb dX6_sendRunner_31 rfl (lv_at hl 1 rfl) ?_
    refine rv_getG hx hb ht ui_X0 hown hK hM hR hi 5 (by decide) (ht _ uw_131) dX6_sendRunner_32 ?_
    refine rv_putR hx hb ht ui_X5 hown hK hM hS hR hF hlt 1 (by decide) (ht _ uw_167) dX6_sendRunner_35 (fun M H locs hM hR hF hS => ?_)
    refine lv_aload_n hx hb dX6_sendRunner_38 rfl (lv_at hl 0 rfl) ?_
    refine lv_aload_n hx hb dX6_sendRunner_39 rfl (lv_at hl 2 rfl) ?_
    refine rv_getW hx hb ht ui_X6 hown hK hM hR 2 (by decide) (ht _ uw_192) dX6_sendRunner_40 ?_
    refine rv_putR hx hb ht ui_X5 hown hK hM hS hR hF hlt 2 (by decide) (ht _ uw_170) dX6_sendRunner_43 (fun M H locs hM hR hF hS => ?_)
    refine lv_aload_n hx hb dX6_sendRunner_46 rfl (lv_at hl 0 rfl) ?_
    refine lv_aload_n hx hb dX6_sendRunner_47 rfl (lv_at hl 2 rfl) ?_
    refine rv_getga hx hb ht ui_X6 hown hK hM hR (ht _ uw_196) dX6_sendRunner_48 ?_
    refine lv_iconst (v := nI 0) hx hb dX6_sendRunner_51 (by first | rfl | decide) ?_
    refine rv_aldG hx hb hK hM hR ((by decide : 0 < 6)) dX6_sendRunner_52 ?_
    refine rv_getG hx hb ht ui_X0 hown hK hM hR ((by decide : 0 < 6)) 6 (by decide) (ht _ uw_133) dX6_sendRunner_53 ?_
    refine rv_putR hx hb ht ui_X5 hown hK hM hS hR hF hlt 3 (by decide) (ht _ uw_173) dX6_sendRunner_56 (fun M H locs hM hR hF hS => ?_)
    refine lv_aload_n hx hb dX6_sendRunner_59 rfl (lv_at hl 0 rfl) ?_
    refine lv_aload_n hx hb dX6_sendRunner_60 rfl (lv_at hl 1 rfl) ?_
    refine rv_getG hx hb ht ui_X0 hown hK hM hR hi 3 (by decide) (ht _ uw_126) dX6_sendRunner_61 ?_
    refine rv_putR hx hb ht ui_X5 hown hK hM hS hR hF hlt 4 (by decide) (ht _ uw_175) dX6_sendRunner_64 (fun M H locs hM hR hF hS => ?_)
    have se3 : (seR v i n).1 3 = nI (n + 1) := by simp [seR, va_up, nI_1]
    refine lv_aload_n hx hb dX6_sendRunner_67 rfl (lv_at hl 0 rfl) ?_
    refine rv_getR hx hb ht ui_X5 hown hK hM hR hlt 4 (by decide) (ht _ uw_175) dX6_sendRunner_68 ?_
    refine lv_if_ne (tgt := 89) hx hb dX6_sendRunner_71 (by decide) (fun c_71 => ?_) (fun c_71 => ?_)
    · refine lv_aload_n hx hb dX6_sendRunner_89 rfl (lv_at hl 2 rfl) ?_
      refine lv_aload_n hx hb dX6_sendRunner_90 rfl (lv_at hl 1 rfl) ?_
      refine rv_getG hx hb ht ui_X0 hown hK hM hR hi 5 (by decide) (ht _ uw_131) dX6_sendRunner_91 ?_
      refine m_callRI (val := whC (vR (vR (vR (vR (vR (vW v 3 (nI n + 1)) n 0 (nI i)) n 1 ((vR (vW v 3 (nI n + 1)) n 0 (nI i)).2.1 i 5)) n 2 ((vR (vR (vW v 3 (nI n + 1)) n 0 (nI i)) n 1 ((vR (vW v 3 (nI n + 1)) n 0 (nI i)).2.1 i 5)).1 2)) n 3 ((vR (vR (vR (vW v 3 (nI n + 1)) n 0 (nI i)) n 1 ((vR (vW v 3 (nI n + 1)) n 0 (nI i)).2.1 i 5)) n 2 ((vR (vR (vW v 3 (nI n + 1)) n 0 (nI i)) n 1 ((vR (vW v 3 (nI n + 1)) n 0 (nI i)).2.1 i 5)).1 2)).2.1 0 6)) n 4 ((vR (vR (vR (vR (vW v 3 (nI n + 1)) n 0 (nI i)) n 1 ((vR (vW v 3 (nI n + 1)) n 0 (nI i)).2.1 i 5)) n 2 ((vR (vR (vW v 3 (nI n + 1)) n 0 (nI i)) n 1 ((vR (vW v 3 (nI n + 1)) n 0 (nI i)).2.1 i 5)).1 2)) n 3 ((vR (vR (vR (vW v 3 (nI n + 1)) n 0 (nI i)) n 1 ((vR (vW v 3 (nI n + 1)) n 0 (nI i)).2.1 i 5)) n 2 ((vR (vR (vW v 3 (nI n + 1)) n 0 (nI i)) n 1 ((vR (vW v 3 (nI n + 1)) n 0 (nI i)).2.1 i 5)).1 2)).2.1 0 6)).2.1 i 3)) ((vR (vR (vR (vR (vR (vW v 3 (nI n + 1)) n 0 (nI i)) n 1 ((vR (vW v 3 (nI n + 1)) n 0 (nI i)).2.1 i 5)) n 2 ((vR (vR (vW v 3 (nI n + 1)) n 0 (nI i)) n 1 ((vR (vW v 3 (nI n + 1)) n 0 (nI i)).2.1 i 5)).1 2)) n 3 ((vR (vR (vR (vW v 3 (nI n + 1)) n 0 (nI i)) n 1 ((vR (vW v 3 (nI n + 1)) n 0 (nI i)).2.1 i 5)) n 2 ((vR (vR (vW v 3 (nI n + 1)) n 0 (nI i)) n 1 ((vR (vW v 3 (nI n + 1)) n 0 (nI i)).2.1 i 5)).1 2)).2.1 0 6)) n 4 ((vR (vR (vR (vR (vW v 3 (nI n + 1)) n 0 (nI i)) n 1 ((vR (vW v 3 (nI n + 1)) n 0 (nI i)).2.1 i 5)) n 2 ((vR (vR (vW v 3 (nI n + 1)) n 0 (nI i)) n 1 ((vR (vW v 3 (nI n + 1)) n 0 (nI i)).2.1 i 5)).1 2)) n 3 ((vR (vR (vR (vW v 3 (nI n + 1)) n 0 (nI i)) n 1 ((vR (vW v 3 (nI n + 1)) n 0 (nI i)).2.1 i 5)) n 2 ((vR (vR (vW v 3 (nI n + 1)) n 0 (nI i)) n 1 ((vR (vW v 3 (nI n + 1)) n 0 (nI i)).2.1 i 5)).1 2)).2.1 0 6)).2.1 i 3)).2.1 i 5)) (As := [.int ((vR (vR (vR (vR (vR (vW v 3 (nI n + 1)) n 0 (nI i)) n 1 ((vR (vW v 3 (nI n + 1)) n 0 (nI i)).2.1 i 5)) n 2 ((vR (vR (vW v 3 (nI n + 1)) n 0 (nI i)) n 1 ((vR (vW v 3 (nI n + 1)) n 0 (nI i)).2.1 i 5)).1 2)) n 3 ((vR (vR (vR (vW v 3 (nI n + 1)) n 0 (nI i)) n 1 ((vR (vW v 3 (nI n + 1)) n 0 (nI i)).2.1 i 5)) n 2 ((vR (vR (vW v 3 (nI n + 1)) n 0 (nI i)) n 1 ((vR (vW v 3 (nI n + 1)) n 0 (nI i)).2.1 i 5)).1 2)).2.1 0 6)) n 4 ((vR (vR (vR (vR (vW v 3 (nI n + 1)) n 0 (nI i)) n 1 ((vR (vW v 3 (nI n + 1)) n 0 (nI i)).2.1 i 5)) n 2 ((vR (vR (vW v 3 (nI n + 1)) n 0 (nI i)) n 1 ((vR (vW v 3 (nI n + 1)) n 0 (nI i)).2.1 i 5)).1 2)) n 3 ((vR (vR (vR (vW v 3 (nI n + 1)) n 0 (nI i)) n 1 ((vR (vW v 3 (nI n + 1)) n 0 (nI i)).2.1 i 5)) n 2 ((vR (vR (vW v 3 (nI n + 1)) n 0 (nI i)) n 1 ((vR (vW v 3 (nI n + 1)) n 0 (nI i)).2.1 i 5)).1 2)).2.1 0 6)).2.1 i 3)).2.1 i 5)]) (rest := []) ⟨hx, hb, hml, hown, ht⟩ (k_X6_wheelAt l g A M b _ (vR (vR (vR (vR (vR (vW v 3 (nI n + 1)) n 0 (nI i)) n 1 ((vR (vW v 3 (nI n + 1)) n 0 (nI i)).2.1 i 5)) n 2 ((vR (vR (vW v 3 (nI n + 1)) n 0 (nI i)) n 1 ((vR (vW v 3 (nI n + 1)) n 0 (nI i)).2.1 i 5)).1 2)) n 3 ((vR (vR (vR (vW v 3 (nI n + 1)) n 0 (nI i)) n 1 ((vR (vW v 3 (nI n + 1)) n 0 (nI i)).2.1 i 5)) n 2 ((vR (vR (vW v 3 (nI n + 1)) n 0 (nI i)) n 1 ((vR (vW v 3 (nI n + 1)) n 0 (nI i)).2.1 i 5)).1 2)).2.1 0 6)) n 4 ((vR (vR (vR (vR (vW v 3 (nI n + 1)) n 0 (nI i)) n 1 ((vR (vW v 3 (nI n + 1)) n 0 (nI i)).2.1 i 5)) n 2 ((vR (vR (vW v 3 (nI n + 1)) n 0 (nI i)) n 1 ((vR (vW v 3 (nI n + 1)) n 0 (nI i)).2.1 i 5)).1 2)) n 3 ((vR (vR (vR (vW v 3 (nI n + 1)) n 0 (nI i)) n 1 ((vR (vW v 3 (nI n + 1)) n 0 (nI i)).2.1 i 5)) n 2 ((vR (vR (vW v 3 (nI n + 1)) n 0 (nI i)) n 1 ((vR (vW v 3 (nI n + 1)) n 0 (nI i)).2.1 i 5)).1 2)).2.1 0 6)).2.1 i 3)) ((vR (vR (vR (vR (vR (vW v 3 (nI n + 1)) n 0 (nI i)) n 1 ((vR (vW v 3 (nI n + 1)) n 0 (nI i)).2.1 i 5)) n 2 ((vR (vR (vW v 3 (nI n + 1)) n 0 (nI i)) n 1 ((vR (vW v 3 (nI n + 1)) n 0 (nI i)).2.1 i 5)).1 2)) n 3 ((vR (vR (vR (vW v 3 (nI n + 1)) n 0 (nI i)) n 1 ((vR (vW v 3 (nI n + 1)) n 0 (nI i)).2.1 i 5)) n 2 ((vR (vR (vW v 3 (nI n + 1)) n 0 (nI i)) n 1 ((vR (vW v 3 (nI n + 1)) n 0 (nI i)).2.1 i 5)).1 2)).2.1 0 6)) n 4 ((vR (vR (vR (vR (vW v 3 (nI n + 1)) n 0 (nI i)) n 1 ((vR (vW v 3 (nI n + 1)) n 0 (nI i)).2.1 i 5)) n 2 ((vR (vR (vW v 3 (nI n + 1)) n 0 (nI i)) n 1 ((vR (vW v 3 (nI n + 1)) n 0 (nI i)).2.1 i 5)).1 2)) n 3 ((vR (vR (vR (vW v 3 (nI n + 1)) n 0 (nI i)) n 1 ((vR (vW v 3 (nI n + 1)) n 0 (nI i)).2.1 i 5)) n 2 ((vR (vR (vW v 3 (nI n + 1)) n 0 (nI i)) n 1 ((vR (vW v 3 (nI n + 1)) n 0 (nI i)).2.1 i 5)).1 2)).2.1 0 6)).2.1 i 3)).2.1 i 5) hR) (cwV 1 ht (gU uw_376 uw_377 uw_378 uw_35 uw_379) rfl rfl rfl (by decide +kernel) ⟨by decide, by decide⟩) hK hM hS (m_recv hK hM hR.AW hR.W rfl) rfl hl.1 rfl (Nat.le_of_ble_eq_true rfl) dX6_sendRunner_94 ⟨by decide, by decide⟩ (fun H locs hM hS => ?_)
      subst hQ
      exact m_zret hx hb hr (rfl) hlk hK hM hS dX6_sendRunner_97 (⟨fun _ => sen_b c_71 hR hF, fun q => absurd hlt q⟩)
    · refine lv_aload_n hx hb dX6_sendRunner_74 rfl (lv_at hl 2 rfl) ?_
      refine lv_aload_n hx hb dX6_sendRunner_75 rfl (lv_at hl 0 rfl) ?_
      refine m_callV (As := [.ref (b + 15 + π n)]) (rest := []) ⟨hx, hb, hml, hown, ht⟩ (k_X6_hear l g A M b π (vR (vR (vR (vR (vR (vW v 3 (nI n + 1)) n 0 (nI i)) n 1 ((vR (vW v 3 (nI n + 1)) n 0 (nI i)).2.1 i 5)) n 2 ((vR (vR (vW v 3 (nI n + 1)) n 0 (nI i)) n 1 ((vR (vW v 3 (nI n + 1)) n 0 (nI i)).2.1 i 5)).1 2)) n 3 ((vR (vR (vR (vW v 3 (nI n + 1)) n 0 (nI i)) n 1 ((vR (vW v 3 (nI n + 1)) n 0 (nI i)).2.1 i 5)) n 2 ((vR (vR (vW v 3 (nI n + 1)) n 0 (nI i)) n 1 ((vR (vW v 3 (nI n + 1)) n 0 (nI i)).2.1 i 5)).1 2)).2.1 0 6)) n 4 ((vR (vR (vR (vR (vW v 3 (nI n + 1)) n 0 (nI i)) n 1 ((vR (vW v 3 (nI n + 1)) n 0 (nI i)).2.1 i 5)) n 2 ((vR (vR (vW v 3 (nI n + 1)) n 0 (nI i)) n 1 ((vR (vW v 3 (nI n + 1)) n 0 (nI i)).2.1 i 5)).1 2)) n 3 ((vR (vR (vR (vW v 3 (nI n + 1)) n 0 (nI i)) n 1 ((vR (vW v 3 (nI n + 1)) n 0 (nI i)).2.1 i 5)) n 2 ((vR (vR (vW v 3 (nI n + 1)) n 0 (nI i)) n 1 ((vR (vW v 3 (nI n + 1)) n 0 (nI i)).2.1 i 5)).1 2)).2.1 0 6)).2.1 i 3)) n hR hlt) (cwV 1 ht (gU uw_372 uw_374 uw_2 uw_35 uw_375) rfl rfl rfl (by decide +kernel) ⟨by decide, by decide⟩) hK hM hS (m_recv hK hM hR.AW hR.W rfl) rfl hl.1 rfl (Nat.le_of_ble_eq_true rfl) dX6_sendRunner_76 ⟨by decide, by decide⟩ (fun M H locs hp hM hS => ?_)
      obtain ⟨hR, hF1⟩ := hp
      have hF := hF.tr hF1
      refine lv_aload_n hx hb dX6_sendRunner_79 rfl (lv_at hl 2 rfl) ?_
      refine lv_aload_n hx hb dX6_sendRunner_80 rfl (lv_at hl 2 rfl) ?_
      refine rv_getW hx hb ht ui_X6 hown hK hM hR 3 (by decide) (ht _ uw_194) dX6_sendRunner_81 ?_
      refine lv_iconst (v := nI 1) hx hb dX6_sendRunner_84 (by first | rfl | decide) ?_
      refine lv_isub hx hb dX6_sendRunner_85 ?_
      rw [show ((heaC (vR (vR (vR (vR (vR (vW v 3 (nI n + 1)) n 0 (nI i)) n 1 ((vR (vW v 3 (nI n + 1)) n 0 (nI i)).2.1 i 5)) n 2 ((vR (vR (vW v 3 (nI n + 1)) n 0 (nI i)) n 1 ((vR (vW v 3 (nI n + 1)) n 0 (nI i)).2.1 i 5)).1 2)) n 3 ((vR (vR (vR (vW v 3 (nI n + 1)) n 0 (nI i)) n 1 ((vR (vW v 3 (nI n + 1)) n 0 (nI i)).2.1 i 5)) n 2 ((vR (vR (vW v 3 (nI n + 1)) n 0 (nI i)) n 1 ((vR (vW v 3 (nI n + 1)) n 0 (nI i)).2.1 i 5)).1 2)).2.1 0 6)) n 4 ((vR (vR (vR (vR (vW v 3 (nI n + 1)) n 0 (nI i)) n 1 ((vR (vW v 3 (nI n + 1)) n 0 (nI i)).2.1 i 5)) n 2 ((vR (vR (vW v 3 (nI n + 1)) n 0 (nI i)) n 1 ((vR (vW v 3 (nI n + 1)) n 0 (nI i)).2.1 i 5)).1 2)) n 3 ((vR (vR (vR (vW v 3 (nI n + 1)) n 0 (nI i)) n 1 ((vR (vW v 3 (nI n + 1)) n 0 (nI i)).2.1 i 5)) n 2 ((vR (vR (vW v 3 (nI n + 1)) n 0 (nI i)) n 1 ((vR (vW v 3 (nI n + 1)) n 0 (nI i)).2.1 i 5)).1 2)).2.1 0 6)).2.1 i 3)) n).1 3) - (nI 1) = nI n from sen_n se3]
      refine m_callV (As := [.int (nI n)]) (rest := []) ⟨hx, hb, hml, hown, ht⟩ (k_X6_removeRunner l g A M b π (heaC (vR (vR (vR (vR (vR (vW v 3 (nI n + 1)) n 0 (nI i)) n 1 ((vR (vW v 3 (nI n + 1)) n 0 (nI i)).2.1 i 5)) n 2 ((vR (vR (vW v 3 (nI n + 1)) n 0 (nI i)) n 1 ((vR (vW v 3 (nI n + 1)) n 0 (nI i)).2.1 i 5)).1 2)) n 3 ((vR (vR (vR (vW v 3 (nI n + 1)) n 0 (nI i)) n 1 ((vR (vW v 3 (nI n + 1)) n 0 (nI i)).2.1 i 5)) n 2 ((vR (vR (vW v 3 (nI n + 1)) n 0 (nI i)) n 1 ((vR (vW v 3 (nI n + 1)) n 0 (nI i)).2.1 i 5)).1 2)).2.1 0 6)) n 4 ((vR (vR (vR (vR (vW v 3 (nI n + 1)) n 0 (nI i)) n 1 ((vR (vW v 3 (nI n + 1)) n 0 (nI i)).2.1 i 5)) n 2 ((vR (vR (vW v 3 (nI n + 1)) n 0 (nI i)) n 1 ((vR (vW v 3 (nI n + 1)) n 0 (nI i)).2.1 i 5)).1 2)) n 3 ((vR (vR (vR (vW v 3 (nI n + 1)) n 0 (nI i)) n 1 ((vR (vW v 3 (nI n + 1)) n 0 (nI i)).2.1 i 5)) n 2 ((vR (vR (vW v 3 (nI n + 1)) n 0 (nI i)) n 1 ((vR (vW v 3 (nI n + 1)) n 0 (nI i)).2.1 i 5)).1 2)).2.1 0 6)).2.1 i 3)) n) n (n + 1) hR (by rw [heaC_1]; exact se3) (by omega) (by omega)) (cwV 1 ht (gU uw_392 uw_393 uw_394 uw_35 uw_395) rfl rfl rfl (by decide +kernel) ⟨by decide, by decide⟩) hK hM hS (m_recv hK hM hR.AW hR.W rfl) rfl hl.1 rfl (Nat.le_of_ble_eq_true rfl) dX6_sendRunner_86 ⟨by decide, by decide⟩ (fun M H locs hp hM hS => ?_)
      obtain ⟨hR, hF1⟩ := hp
      have hF := hF.tr hF1
      refine lv_aload_n hx hb dX6_sendRunner_89 rfl (lv_at hl 2 rfl) ?_
      refine lv_aload_n hx hb dX6_sendRunner_90 rfl (lv_at hl 1 rfl) ?_
      refine rv_getG hx hb ht ui_X0 hown hK hM hR hi 5 (by decide) (ht _ uw_131) dX6_sendRunner_91 ?_
      refine m_callRI (val := whC (rmvC (heaC (vR (vR (vR (vR (vR (vW v 3 (nI n + 1)) n 0 (nI i)) n 1 ((vR (vW v 3 (nI n + 1)) n 0 (nI i)).2.1 i 5)) n 2 ((vR (vR (vW v 3 (nI n + 1)) n 0 (nI i)) n 1 ((vR (vW v 3 (nI n + 1)) n 0 (nI i)).2.1 i 5)).1 2)) n 3 ((vR (vR (vR (vW v 3 (nI n + 1)) n 0 (nI i)) n 1 ((vR (vW v 3 (nI n + 1)) n 0 (nI i)).2.1 i 5)) n 2 ((vR (vR (vW v 3 (nI n + 1)) n 0 (nI i)) n 1 ((vR (vW v 3 (nI n + 1)) n 0 (nI i)).2.1 i 5)).1 2)).2.1 0 6)) n 4 ((vR (vR (vR (vR (vW v 3 (nI n + 1)) n 0 (nI i)) n 1 ((vR (vW v 3 (nI n + 1)) n 0 (nI i)).2.1 i 5)) n 2 ((vR (vR (vW v 3 (nI n + 1)) n 0 (nI i)) n 1 ((vR (vW v 3 (nI n + 1)) n 0 (nI i)).2.1 i 5)).1 2)) n 3 ((vR (vR (vR (vW v 3 (nI n + 1)) n 0 (nI i)) n 1 ((vR (vW v 3 (nI n + 1)) n 0 (nI i)).2.1 i 5)) n 2 ((vR (vR (vW v 3 (nI n + 1)) n 0 (nI i)) n 1 ((vR (vW v 3 (nI n + 1)) n 0 (nI i)).2.1 i 5)).1 2)).2.1 0 6)).2.1 i 3)) n) n (n + 1)) ((rmvC (heaC (vR (vR (vR (vR (vR (vW v 3 (nI n + 1)) n 0 (nI i)) n 1 ((vR (vW v 3 (nI n + 1)) n 0 (nI i)).2.1 i 5)) n 2 ((vR (vR (vW v 3 (nI n + 1)) n 0 (nI i)) n 1 ((vR (vW v 3 (nI n + 1)) n 0 (nI i)).2.1 i 5)).1 2)) n 3 ((vR (vR (vR (vW v 3 (nI n + 1)) n 0 (nI i)) n 1 ((vR (vW v 3 (nI n + 1)) n 0 (nI i)).2.1 i 5)) n 2 ((vR (vR (vW v 3 (nI n + 1)) n 0 (nI i)) n 1 ((vR (vW v 3 (nI n + 1)) n 0 (nI i)).2.1 i 5)).1 2)).2.1 0 6)) n 4 ((vR (vR (vR (vR (vW v 3 (nI n + 1)) n 0 (nI i)) n 1 ((vR (vW v 3 (nI n + 1)) n 0 (nI i)).2.1 i 5)) n 2 ((vR (vR (vW v 3 (nI n + 1)) n 0 (nI i)) n 1 ((vR (vW v 3 (nI n + 1)) n 0 (nI i)).2.1 i 5)).1 2)) n 3 ((vR (vR (vR (vW v 3 (nI n + 1)) n 0 (nI i)) n 1 ((vR (vW v 3 (nI n + 1)) n 0 (nI i)).2.1 i 5)) n 2 ((vR (vR (vW v 3 (nI n + 1)) n 0 (nI i)) n 1 ((vR (vW v 3 (nI n + 1)) n 0 (nI i)).2.1 i 5)).1 2)).2.1 0 6)).2.1 i 3)) n) n (n + 1)).2.1 i 5)) (As := [.int ((rmvC (heaC (vR (vR (vR (vR (vR (vW v 3 (nI n + 1)) n 0 (nI i)) n 1 ((vR (vW v 3 (nI n + 1)) n 0 (nI i)).2.1 i 5)) n 2 ((vR (vR (vW v 3 (nI n + 1)) n 0 (nI i)) n 1 ((vR (vW v 3 (nI n + 1)) n 0 (nI i)).2.1 i 5)).1 2)) n 3 ((vR (vR (vR (vW v 3 (nI n + 1)) n 0 (nI i)) n 1 ((vR (vW v 3 (nI n + 1)) n 0 (nI i)).2.1 i 5)) n 2 ((vR (vR (vW v 3 (nI n + 1)) n 0 (nI i)) n 1 ((vR (vW v 3 (nI n + 1)) n 0 (nI i)).2.1 i 5)).1 2)).2.1 0 6)) n 4 ((vR (vR (vR (vR (vW v 3 (nI n + 1)) n 0 (nI i)) n 1 ((vR (vW v 3 (nI n + 1)) n 0 (nI i)).2.1 i 5)) n 2 ((vR (vR (vW v 3 (nI n + 1)) n 0 (nI i)) n 1 ((vR (vW v 3 (nI n + 1)) n 0 (nI i)).2.1 i 5)).1 2)) n 3 ((vR (vR (vR (vW v 3 (nI n + 1)) n 0 (nI i)) n 1 ((vR (vW v 3 (nI n + 1)) n 0 (nI i)).2.1 i 5)) n 2 ((vR (vR (vW v 3 (nI n + 1)) n 0 (nI i)) n 1 ((vR (vW v 3 (nI n + 1)) n 0 (nI i)).2.1 i 5)).1 2)).2.1 0 6)).2.1 i 3)) n) n (n + 1)).2.1 i 5)]) (rest := []) ⟨hx, hb, hml, hown, ht⟩ (k_X6_wheelAt l g A M b _ (rmvC (heaC (vR (vR (vR (vR (vR (vW v 3 (nI n + 1)) n 0 (nI i)) n 1 ((vR (vW v 3 (nI n + 1)) n 0 (nI i)).2.1 i 5)) n 2 ((vR (vR (vW v 3 (nI n + 1)) n 0 (nI i)) n 1 ((vR (vW v 3 (nI n + 1)) n 0 (nI i)).2.1 i 5)).1 2)) n 3 ((vR (vR (vR (vW v 3 (nI n + 1)) n 0 (nI i)) n 1 ((vR (vW v 3 (nI n + 1)) n 0 (nI i)).2.1 i 5)) n 2 ((vR (vR (vW v 3 (nI n + 1)) n 0 (nI i)) n 1 ((vR (vW v 3 (nI n + 1)) n 0 (nI i)).2.1 i 5)).1 2)).2.1 0 6)) n 4 ((vR (vR (vR (vR (vW v 3 (nI n + 1)) n 0 (nI i)) n 1 ((vR (vW v 3 (nI n + 1)) n 0 (nI i)).2.1 i 5)) n 2 ((vR (vR (vW v 3 (nI n + 1)) n 0 (nI i)) n 1 ((vR (vW v 3 (nI n + 1)) n 0 (nI i)).2.1 i 5)).1 2)) n 3 ((vR (vR (vR (vW v 3 (nI n + 1)) n 0 (nI i)) n 1 ((vR (vW v 3 (nI n + 1)) n 0 (nI i)).2.1 i 5)) n 2 ((vR (vR (vW v 3 (nI n + 1)) n 0 (nI i)) n 1 ((vR (vW v 3 (nI n + 1)) n 0 (nI i)).2.1 i 5)).1 2)).2.1 0 6)).2.1 i 3)) n) n (n + 1)) ((rmvC (heaC (vR (vR (vR (vR (vR (vW v 3 (nI n + 1)) n 0 (nI i)) n 1 ((vR (vW v 3 (nI n + 1)) n 0 (nI i)).2.1 i 5)) n 2 ((vR (vR (vW v 3 (nI n + 1)) n 0 (nI i)) n 1 ((vR (vW v 3 (nI n + 1)) n 0 (nI i)).2.1 i 5)).1 2)) n 3 ((vR (vR (vR (vW v 3 (nI n + 1)) n 0 (nI i)) n 1 ((vR (vW v 3 (nI n + 1)) n 0 (nI i)).2.1 i 5)) n 2 ((vR (vR (vW v 3 (nI n + 1)) n 0 (nI i)) n 1 ((vR (vW v 3 (nI n + 1)) n 0 (nI i)).2.1 i 5)).1 2)).2.1 0 6)) n 4 ((vR (vR (vR (vR (vW v 3 (nI n + 1)) n 0 (nI i)) n 1 ((vR (vW v 3 (nI n + 1)) n 0 (nI i)).2.1 i 5)) n 2 ((vR (vR (vW v 3 (nI n + 1)) n 0 (nI i)) n 1 ((vR (vW v 3 (nI n + 1)) n 0 (nI i)).2.1 i 5)).1 2)) n 3 ((vR (vR (vR (vW v 3 (nI n + 1)) n 0 (nI i)) n 1 ((vR (vW v 3 (nI n + 1)) n 0 (nI i)).2.1 i 5)) n 2 ((vR (vR (vW v 3 (nI n + 1)) n 0 (nI i)) n 1 ((vR (vW v 3 (nI n + 1)) n 0 (nI i)).2.1 i 5)).1 2)).2.1 0 6)).2.1 i 3)) n) n (n + 1)).2.1 i 5) hR) (cwV 1 ht (gU uw_376 uw_377 uw_378 uw_35 uw_379) rfl rfl rfl (by decide +kernel) ⟨by decide, by decide⟩) hK hM hS (m_recv hK hM hR.AW hR.W rfl) rfl hl.1 rfl (Nat.le_of_ble_eq_true rfl) dX6_sendRunner_94 ⟨by decide, by decide⟩ (fun H locs hM hS => ?_)
      subst hQ
      exact m_zret hx hb hr (rfl) hlk hK hM hS dX6_sendRunner_97 (⟨fun _ => sen_a c_71 hR hF, fun q => absurd hlt q⟩)
  · refine lv_aload_n hx hb dX6_sendRunner_0 rfl (lv_at hl 0 rfl) ?_
    refine lv_iload_n hx hb dX6_sendRunner_1 rfl (lv_at hl 1 rfl) ?_
    refine m_callRQ (val := some (b + 3 + 2 * i)) (w := .ref (b + 3 + 2 * i)) (rfl) (As := [.int (nI i)]) (rest := []) ⟨hx, hb, hml, hown, ht⟩ (k_X6_gaugeAt l g A M b π v (nI i) (some i) hR (gxn_in hi (by decide))) (cwV 1 ht (gU uw_336 uw_337 uw_338 uw_35 uw_339) rfl rfl rfl (by decide +kernel) ⟨by decide, by decide⟩) hK hM hS (m_recv hK hM hR.AW hR.W rfl) rfl hl.1 rfl (Nat.le_of_ble_eq_true rfl) dX6_sendRunner_2 ⟨by decide, by decide⟩ (fun H locs hM hS => ?_)
    refine lv_astore_n (lv' := [(2, .ref (b + 3 + 2 * i)), (0, .ref (b)), (1, .int (nI i))]) hx hb dX6_sendRunner_5 rfl hl (by decide) rfl (fun ls hl => ?_)
    refine lv_aload_n hx hb dX6_sendRunner_6 rfl (lv_at hl 0 rfl) ?_
    refine lv_ifnonnull (tgt := 13) hx hb dX6_sendRunner_7 (by decide) ?_
    refine lv_aload_n hx hb dX6_sendRunner_13 rfl (lv_at hl 1 rfl) ?_
    refine m_callQ (As := []) (rest := []) ⟨hx, hb, hml, hown, ht⟩ (k_X6_addRunner l g A M b π v hR n hn hn20) (cwV 0 ht (gU uw_409 uw_411 uw_6 uw_35 uw_412) rfl rfl rfl (by decide +kernel) ⟨by decide, by decide⟩) hK hM hS (m_recv hK hM hR.AW hR.W rfl) rfl hl.1 rfl (Nat.le_of_ble_eq_true rfl) dX6_sendRunner_14 ⟨by decide, by decide⟩ (fun r9 M H locs hp hM hS => ?_)
    obtain ⟨e9, e8⟩ := hp.2 hlt
    subst e9
    rw [e8] at hM
    refine lv_astore_nN (lv' := [(3, .null), (2, .ref (b + 3 + 2 * i)), (0, .ref (b)), (1, .int (nI i))]) hx hb dX6_sendRunner_17 rfl hl (by decide) rfl (fun ls hl => ?_)
    refine lv_aload_nN hx hb dX6_sendRunner_18 rfl (lv_at hl 0 rfl) ?_
    refine lv_ifnonnullN hx hb dX6_sendRunner_19 ?_
    refine lv_ldc (v := (-1000004)) hx hb hown (ht _ uw_413) dX6_sendRunner_22 ?_
    subst hQ
    exact m_zret hx hb hr (rfl) hlk hK hM hS dX6_sendRunner_24 (⟨fun q => absurd q hlt, fun _ => ⟨rfl, hMM⟩⟩)

set_option maxHeartbeats 4000000 in
set_option maxRecDepth 100000 in
/-- one more who carries the same, an hour behind -/
theorem k_X6_addSecondOf (l : Launch) (g : GG) (A : Nat → Prop) (M0 : MM) (b : Nat) (π : Nat → Nat) (v : VV) (j : Nat) (hR : RepV g A M0 b π v) (n : Nat) (hn : v.1 3 = nI n) (hlt : n < 20) (hj : j < 20) : Met l yX6_addSecondOf (Uw yX6_addSecondOf cX6_addSecondOf 3 (Option.none : Option ClassFile.FieldType)) (rmD 1) (PreM [.ref (b), .ref (b + 15 + π j)] g A M0) (PosV (fun M1 => RepV g A M1 b π (twiC v j n) ∧ FrV b M0 M1) g A) 0 0 A := by
  refine mk_Met (own := RX6) rfl rfl (by decide) (Nat.le_of_ble_eq_true rfl) ?_
  intro p e s m below meth c ls aa Q haa hQ hx hb hr hlk hml hown hts hK hM hS hl hnm
  obtain ⟨M, hMM⟩ : ∃ M, M = M0 := ⟨_, rfl⟩
  rw [← hMM] at hM hR
  have ht : ∀ w ∈ lw_good, w.before _ s = true := fun w h => hts w (List.mem_cons_of_mem _ h)
  have hF : FrV b M0 M := by rw [hMM]; exact FrV.rf
  have hl : lv_has ls 3 [(0, .ref (b)), (1, .ref (b + 15 + π j))] := hl
  have hn20 : n ≤ 20 := by omega
  refine lv_aload_n hx hb dX6_addSecondOf_0 rfl (lv_at hl 0 rfl) ?_
  refine m_callQ (As := []) (rest := []) ⟨hx, hb, hml, hown, ht⟩ (k_X6_addRunner l g A M b π v hR n hn hn20) (cwV 0 ht (gU uw_409 uw_411 uw_6 uw_35 uw_412) rfl rfl rfl (by decide +kernel) ⟨by decide, by decide⟩) hK hM hS (m_recv hK hM hR.AW hR.W rfl) rfl hl.1 rfl (Nat.le_of_ble_eq_true rfl) dX6_addSecondOf_1 ⟨by decide, by decide⟩ (fun r9 M H locs hp hM hS => ?_)
  obtain ⟨e9, hR, hF1⟩ := hp.1 hlt
  subst e9
  have hF := hF.tr hF1
  refine lv_astore_n (lv' := [(2, .ref (b + 15 + π n)), (0, .ref (b)), (1, .ref (b + 15 + π j))]) hx hb dX6_addSecondOf_4 rfl hl (by decide) rfl (fun ls hl => ?_)
  refine lv_aload_n hx hb dX6_addSecondOf_5 rfl (lv_at hl 0 rfl) ?_
  refine lv_ifnull hx hb dX6_addSecondOf_6 ?_
  refine lv_aload_n hx hb dX6_addSecondOf_9 rfl (lv_at hl 0 rfl) ?_
  refine lv_aload_n hx hb dX6_addSecondOf_10 rfl (lv_at hl 2 rfl) ?_
  refine m_callV (As := [.ref (b + 15 + π j)]) (rest := []) ⟨hx, hb, hml, hown, ht⟩ (k_X5_copyFrom_2 l g A M b π (vW v 3 (nI n + 1)) n j hR hlt hj) (cwV 1 ht (gU uw_324 uw_325 uw_326 uw_38 uw_327) rfl rfl rfl (by decide +kernel) ⟨by decide, by decide⟩) hK hM hS (m_recv hK hM (hR.AR hlt) (hR.R hlt) rfl) rfl hl.1 rfl (Nat.le_of_ble_eq_true rfl) dX6_addSecondOf_11 ⟨by decide, by decide⟩ (fun M H locs hp hM hS => ?_)
  obtain ⟨hR, hF1⟩ := hp
  have hF := hF.tr hF1
  refine lv_aload_n hx hb dX6_addSecondOf_14 rfl (lv_at hl 0 rfl) ?_
  refine lv_dup hx hb dX6_addSecondOf_15 rfl ?_
  refine rv_getR hx hb ht ui_X5 hown hK hM hR hlt 4 (by decide) (ht _ uw_175) dX6_addSecondOf_16 ?_
  refine lv_iconst (v := nI 1) hx hb dX6_addSecondOf_19 (by first | rfl | decide) ?_
  refine lv_iadd hx hb dX6_addSecondOf_20 ?_
  refine rv_putR hx hb ht ui_X5 hown hK hM hS hR hF hlt 4 (by decide) (ht _ uw_175) dX6_addSecondOf_21 (fun M H locs hM hR hF hS => ?_)
  subst hQ
  exact m_vret hx hb hr hlk hK hM hS dX6_addSecondOf_24 (⟨RepV.eq hR rfl, hF⟩)

set_option maxHeartbeats 4000000 in
set_option maxRecDepth 100000 in
/-- a valley takes over another -/
theorem k_X6_copyFrom (l : Launch) (g : GG) (A : Nat → Prop) (M0 : MM) (b : Nat) (π : Nat → Nat) (v : VV) (b2 : Nat) (π2 : Nat → Nat) (w : VV) (n : Nat) (hR : RepV g A M0 b π v) (hO : RepV g A M0 b2 π2 w) (hd : b2 + 35 ≤ b ∨ b + 35 ≤ b2) (hn : w.1 3 = nI n) (hn20 : n ≤ 20) : Met l yX6_copyFrom (Uw yX6_copyFrom cX6_copyFrom 3 (Option.none : Option ClassFile.FieldType)) (rmD 2) (PreM [.ref (b), .ref (b2)] g A M0) (PosV (fun M1 => RepV g A M1 b π (cpyC v w n) ∧ FrV b M0 M1) g A) 0 0 A := by
  refine mk_Met (own := RX6) rfl rfl (by decide) (Nat.le_of_ble_eq_true rfl) ?_
  intro p e s m below meth c ls aa Q haa hQ hx hb hr hlk hml hown hts hK hM hS hl hnm
  obtain ⟨M, hMM⟩ : ∃ M, M = M0 := ⟨_, rfl⟩
  rw [← hMM] at hM hR
  have ht : ∀ w ∈ lw_good, w.before _ s = true := fun w h => hts w (List.mem_cons_of_mem _ h)
  have hF : FrV b M0 M := by rw [hMM]; exact FrV.rf
  have hl : lv_has ls 3 [(0, .ref (b)), (1, .ref (b2))] := hl
  refine lv_aload_n hx hb dX6_copyFrom_0 rfl (lv_at hl 0 rfl) ?_
  refine lv_aload_n hx hb dX6_copyFrom_1 rfl (lv_at hl 1 rfl) ?_
  refine rv_getW hx hb ht ui_X6 hown hK hM (hO.fr hF hd) 0 (by decide) (ht _ uw_188) dX6_copyFrom_2 ?_
  refine rv_putW hx hb ht ui_X6 hown hK hM hS hR hF 0 (by decide) (ht _ uw_188) dX6_copyFrom_5 (fun M H locs hM hR hF hS => ?_)
  refine lv_aload_n hx hb dX6_copyFrom_8 rfl (lv_at hl 0 rfl) ?_
  refine lv_aload_n hx hb dX6_copyFrom_9 rfl (lv_at hl 1 rfl) ?_
  refine rv_getW hx hb ht ui_X6 hown hK hM (hO.fr hF hd) 1 (by decide) (ht _ uw_190) dX6_copyFrom_10 ?_
  refine rv_putW hx hb ht ui_X6 hown hK hM hS hR hF 1 (by decide) (ht _ uw_190) dX6_copyFrom_13 (fun M H locs hM hR hF hS => ?_)
  refine lv_aload_n hx hb dX6_copyFrom_16 rfl (lv_at hl 0 rfl) ?_
  refine lv_aload_n hx hb dX6_copyFrom_17 rfl (lv_at hl 1 rfl) ?_
  refine rv_getW hx hb ht ui_X6 hown hK hM (hO.fr hF hd) 2 (by decide) (ht _ uw_192) dX6_copyFrom_18 ?_
  refine rv_putW hx hb ht ui_X6 hown hK hM hS hR hF 2 (by decide) (ht _ uw_192) dX6_copyFrom_21 (fun M H locs hM hR hF hS => ?_)
  refine lv_aload_n hx hb dX6_copyFrom_24 rfl (lv_at hl 0 rfl) ?_
  refine lv_aload_n hx hb dX6_copyFrom_25 rfl (lv_at hl 1 rfl) ?_
  refine rv_getW hx hb ht ui_X6 hown hK hM (hO.fr hF hd) 3 (by decide) (ht _ uw_194) dX6_copyFrom_26 ?_
  refine rv_putW hx hb ht ui_X6 hown hK hM hS hR hF 3 (by decide) (ht _ uw_194) dX6_copyFrom_29 (fun M H locs hM hR hF hS => ?_)
  refine lv_iconst (v := nI 0) hx hb dX6_copyFrom_32 (by first | rfl | decide) ?_
  refine lv_istore_n (lv' := [(2, .int (nI 0)), (0, .ref (b)), (1, .ref (b2))]) hx hb dX6_copyFrom_33 rfl hl (by decide) rfl (fun ls hl => ?_)
  have loop_34 : ∀ (z_34 : Nat) (i : Nat) (M : MM) (H : Heap) (locs : List Loc) (ls : Array Slot), 6 - i < z_34 → i ≤ 6 → HD g A M H → RepV g A M b π ((cpW v.1 w.1, mixN cpG i v.2.1 w.2.1, v.2.2) : VV) → FrV b M0 M → va_S A s.heap H locs → lv_has ls 3 [(2, .int (nI i)), (0, .ref (b)), (1, .ref (b2))] → W p l e (rmD 2) s m aa below meth c H locs 0 0 Q (F0 m 34 ls []) := by
    intro z_34
    induction z_34 with
    | zero => intro i M H locs ls hz hi; exact absurd hz (Nat.not_lt_zero _)
    | succ z_34 ih_34 =>
    intro i M H locs ls hz hi hM hR hF hS hl
    refine lv_iload_n hx hb dX6_copyFrom_34 rfl (lv_at hl 0 rfl) ?_
    refine lv_bipush (v := nI 6) hx hb dX6_copyFrom_35 (by first | rfl | decide) ?_
    refine lv_icmp_ge (tgt := 61) hx hb dX6_copyFrom_37 (by decide) (fun c_37 => ?_) (fun c_37 => ?_)
    · have hi6 : i = 6 := Nat.le_antisymm hi (nI_le_of (by omega) (by decide) c_37)
      subst hi6
      refine lv_iconst (v := nI 0) hx hb dX6_copyFrom_61 (by first | rfl | decide) ?_
      refine lv_istore_n (lv' := [(2, .int (nI 0)), (0, .ref (b)), (1, .ref (b2))]) hx hb dX6_copyFrom_62 rfl hl (by decide) rfl (fun ls hl => ?_)
      have loop_63 : ∀ (z_63 : Nat) (j : Nat) (M : MM) (H : Heap) (locs : List Loc) (ls : Array Slot), n - j < z_63 → j ≤ n → HD g A M H → RepV g A M b π ((cpW v.1 w.1, mixN cpG 6 v.2.1 w.2.1, mixN cpR j v.2.2 w.2.2) : VV) → FrV b M0 M → va_S A s.heap H locs → lv_has ls 3 [(2, .int (nI j)), (0, .ref (b)), (1, .ref (b2))] → W p l e (rmD 2) s m aa below meth c H locs 0 0 Q (F0 m 63 ls []) := by
        intro z_63
        induction z_63 with
        | zero => intro j M H locs ls hz hj; exact absurd hz (Nat.not_lt_zero _)
        | succ z_63 ih_63 =>
        intro j M H locs ls hz hj hM hR hF hS hl
        have e3 : ((cpW v.1 w.1, mixN cpG 6 v.2.1 w.2.1, mixN cpR j v.2.2 w.2.2) : VV).1 3 = nI n := by rw [← hn]; rfl
        refine lv_iload_n hx hb dX6_copyFrom_63 rfl (lv_at hl 0 rfl) ?_
        refine lv_aload_n hx hb dX6_copyFrom_64 rfl (lv_at hl 1 rfl) ?_
        refine rv_getW hx hb ht ui_X6 hown hK hM hR 3 (by decide) (ht _ uw_194) dX6_copyFrom_65 ?_
        refine lv_icmp_ge (tgt := 98) hx hb dX6_copyFrom_68 (by decide) (fun c_68 => ?_) (fun c_68 => ?_)
        · rw [e3] at c_68
          have hjn : j = n := Nat.le_antisymm hj (nI_le_of (by omega) (by omega) c_68)
          subst hjn
          subst hQ
          exact m_vret hx hb hr hlk hK hM hS dX6_copyFrom_98 (⟨hR, hF⟩)
        · rw [e3] at c_68
          have hjn : j < n := nI_lt_of (by omega) (by omega) c_68
          refine lv_iload_n hx hb dX6_copyFrom_71 rfl (lv_at hl 0 rfl) ?_
          refine lv_bipush (v := nI 20) hx hb dX6_copyFrom_72 (by first | rfl | decide) ?_
          refine lv_icmp_ge (tgt := 98) hx hb dX6_copyFrom_74 (by decide) (fun c_74 => absurd c_74 (nI_ge (show j < 20 by omega) (by decide))) (fun c_74 => ?_)
          refine lv_aload_n hx hb dX6_copyFrom_77 rfl (lv_at hl 1 rfl) ?_
          refine rv_getra hx hb ht ui_X6 hown hK hM hR (ht _ uw_198) dX6_copyFrom_78 ?_
          refine lv_iload_n hx hb dX6_copyFrom_81 rfl (lv_at hl 0 rfl) ?_
          refine rv_aldR hx hb hK hM hR (show j < 20 by omega) dX6_copyFrom_82 ?_
          refine lv_aload_n hx hb dX6_copyFrom_83 rfl (lv_at hl 2 rfl) ?_
          refine rv_getra hx hb ht ui_X6 hown hK hM (hO.fr hF hd) (ht _ uw_198) dX6_copyFrom_84 ?_
          refine lv_iload_n hx hb dX6_copyFrom_87 rfl (lv_at hl 0 rfl) ?_
          refine rv_aldR hx hb hK hM (hO.fr hF hd) (show j < 20 by omega) dX6_copyFrom_88 ?_
          refine m_callV (As := [.ref (b2 + 15 + π2 j)]) (rest := []) ⟨hx, hb, hml, hown, ht⟩ (k_X5_copyFrom l g A M b π ((cpW v.1 w.1, mixN cpG 6 v.2.1 w.2.1, mixN cpR j v.2.2 w.2.2) : VV) j b2 π2 w hR (hO.fr hF hd) hd (show j < 20 by omega)) (cwV 1 ht (gU uw_324 uw_325 uw_326 uw_38 uw_327) rfl rfl rfl (by decide +kernel) ⟨by decide, by decide⟩) hK hM hS (m_recv hK hM (hR.AR (show j < 20 by omega)) (hR.R (show j < 20 by omega)) rfl) rfl hl.1 rfl (Nat.le_of_ble_eq_true rfl) dX6_copyFrom_89 ⟨by decide, by decide⟩ (fun M H locs hp hM hS => ?_)
          obtain ⟨hR, hF1⟩ := hp
          have hF := hF.tr hF1
          refine lv_iinc (v := nI (j + 1)) (lv' := [(2, .int (nI (j + 1))), (0, .ref (b)), (1, .ref (b2))]) hx hb dX6_copyFrom_92 hl (k := 0) rfl (nI_1 _) (by decide) rfl (fun ls hl => ?_)
          refine lv_goto (tgt := 63) hx hb dX6_copyFrom_95 (by decide) ?_
          exact ih_63 (j + 1) _ _ _ _ (by omega) (by omega) hM (RepV.eq hR (by rw [mixN_up cpR j])) hF hS (lv_sub hl [0, 1, 2] rfl)
      exact loop_63 _ 0 _ _ _ _ (Nat.lt_succ_self _) (by omega) hM (RepV.eq hR (by rw [mixN_0])) hF hS (lv_sub hl [0, 1, 2] rfl)
    · have hi6 : i < 6 := nI_lt_of (by omega) (by decide) c_37
      refine lv_aload_n hx hb dX6_copyFrom_40 rfl (lv_at hl 1 rfl) ?_
      refine rv_getga hx hb ht ui_X6 hown hK hM hR (ht _ uw_196) dX6_copyFrom_41 ?_
      refine lv_iload_n hx hb dX6_copyFrom_44 rfl (lv_at hl 0 rfl) ?_
      refine rv_aldG hx hb hK hM hR (hi6) dX6_copyFrom_45 ?_
      refine lv_aload_n hx hb dX6_copyFrom_46 rfl (lv_at hl 2 rfl) ?_
      refine rv_getga hx hb ht ui_X6 hown hK hM (hO.fr hF hd) (ht _ uw_196) dX6_copyFrom_47 ?_
      refine lv_iload_n hx hb dX6_copyFrom_50 rfl (lv_at hl 0 rfl) ?_
      refine rv_aldG hx hb hK hM (hO.fr hF hd) (hi6) dX6_copyFrom_51 ?_
      refine m_callV (As := [.ref (b2 + 3 + 2 * i)]) (rest := []) ⟨hx, hb, hml, hown, ht⟩ (k_X0_copyFrom l g A M b π ((cpW v.1 w.1, mixN cpG i v.2.1 w.2.1, v.2.2) : VV) i b2 π2 w hR (hO.fr hF hd) hd hi6) (cwV 1 ht (gU uw_316 uw_317 uw_318 uw_36 uw_319) rfl rfl rfl (by decide +kernel) ⟨by decide, by decide⟩) hK hM hS (m_recv hK hM (hR.AG hi6) (hR.G hi6) rfl) rfl hl.1 rfl (Nat.le_of_ble_eq_true rfl) dX6_copyFrom_52 ⟨by decide, by decide⟩ (fun M H locs hp hM hS => ?_)
      obtain ⟨hR, hF1⟩ := hp
      have hF := hF.tr hF1
      refine lv_iinc (v := nI (i + 1)) (lv' := [(2, .int (nI (i + 1))), (0, .ref (b)), (1, .ref (b2))]) hx hb dX6_copyFrom_55 hl (k := 0) rfl (nI_1 _) (by decide) rfl (fun ls hl => ?_)
      refine lv_goto (tgt := 34) hx hb dX6_copyFrom_58 (by decide) ?_
      exact ih_34 (i + 1) _ _ _ _ (by omega) (by omega) hM (RepV.eq hR (by rw [mixN_up cpG i])) hF hS (lv_sub hl [0, 1, 2] rfl)
  exact loop_34 _ 0 _ _ _ _ (Nat.lt_succ_self _) (by omega) hM (RepV.eq hR (by rw [cpW_eq, mixN_0])) hF hS (lv_sub hl [0, 1, 2] rfl)

set_option maxHeartbeats 4000000 in
set_option maxRecDepth 100000 in
/-- hours of rain pass -/
theorem k_X6_passHours (l : Launch) (g : GG) (A : Nat → Prop) (M0 : MM) (b : Nat) (π : Nat → Nat) (v : VV) (am : Int32) (N : Nat) (hR : RepV g A M0 b π v) (hon : OnW v) (hN : N < 2 ^ 31) : Met l yX6_passHours (Uw yX6_passHours cX6_passHours 9 (Option.some ClassFile.FieldType.int)) (rmD 4) (PreM [.ref (b), .int (am), .int (nI N)] g A M0) (PosI (fun r M1 => r = pasT am v N ∧ EV g A M1 b (pasC am v N) ∧ FrV b M0 M1) g A) 0 0 A := by
  refine mk_Met (own := RX6) rfl rfl (by decide) (Nat.le_of_ble_eq_true rfl) ?_
  intro p e s m below meth c ls aa Q haa hQ hx hb hr hlk hml hown hts hK hM hS hl hnm
  obtain ⟨M, hMM⟩ : ∃ M, M = M0 := ⟨_, rfl⟩
  rw [← hMM] at hM hR
  have ht : ∀ w ∈ lw_good, w.before _ s = true := fun w h => hts w (List.mem_cons_of_mem _ h)
  have hF : FrV b M0 M := by rw [hMM]; exact FrV.rf
  have hl : lv_has ls 9 [(0, .ref (b)), (1, .int (am)), (2, .int (nI N))] := hl
  refine lv_iconst (v := nI 0) hx hb dX6_passHours_0 (by first | rfl | decide) ?_
  refine lv_istore_n (lv' := [(3, .int (nI 0)), (0, .ref (b)), (1, .int (am)), (2, .int (nI N))]) hx hb dX6_passHours_1 rfl hl (by decide) rfl (fun ls hl => ?_)
  refine lv_iconst (v := nI 0) hx hb dX6_passHours_2 (by first | rfl | decide) ?_
  refine lv_istore (lv' := [(4, .int (nI 0)), (3, .int (nI 0)), (0, .ref (b)), (1, .int (am)), (2, .int (nI N))]) hx hb dX6_passHours_3 hl (by decide) rfl (fun ls hl => ?_)
  have loop_5 : ∀ (z_5 : Nat) (q : Nat) (t : Int32) (π : Nat → Nat) (M : MM) (H : Heap) (locs : List Loc) (ls : Array Slot), N - q < z_5 → q ≤ N → t = pasT am v q → HD g A M H → RepV g A M b π (pasC am v q) → FrV b M0 M → va_S A s.heap H locs → lv_has ls 9 [(4, .int (nI q)), (3, .int (t)), (0, .ref (b)), (1, .int (am)), (2, .int (nI N))] → W p l e (rmD 4) s m aa below meth c H locs 0 0 Q (F0 m 5 ls []) := by
    intro z_5
    induction z_5 with
    | zero => intro q t π M H locs ls hz hq ht1; exact absurd hz (Nat.not_lt_zero _)
    | succ z_5 ih_5 =>
    intro q t π M H locs ls hz hq ht1 hM hR hF hS hl
    refine lv_iload hx hb dX6_passHours_5 (lv_at hl 0 rfl) ?_
    refine lv_iload_n hx hb dX6_passHours_7 rfl (lv_at hl 4 rfl) ?_
    refine lv_icmp_ge (tgt := 74) hx hb dX6_passHours_8 (by decide) (fun c_8 => ?_) (fun c_8 => ?_)
    · have hqN : q = N := Nat.le_antisymm hq (nI_le_of (by omega) (by omega) c_8)
      subst hqN
      refine lv_iload_n hx hb dX6_passHours_74 rfl (lv_at hl 1 rfl) ?_
      subst hQ
      exact m_zret hx hb hr (rfl) hlk hK hM hS dX6_passHours_75 (⟨ht1, ⟨π, hR⟩, hF⟩)
    · have hqN : q < N := nI_lt_of (by omega) (by omega) c_8
      refine lv_aload_n hx hb dX6_passHours_11 rfl (lv_at hl 2 rfl) ?_
      refine rv_getga hx hb ht ui_X6 hown hK hM hR (ht _ uw_196) dX6_passHours_12 ?_
      refine lv_astore (lv' := [(5, .ref (b + 1)), (4, .int (nI q)), (3, .int (t)), (0, .ref (b)), (1, .int (am)), (2, .int (nI N))]) hx hb dX6_passHours_15 hl (by decide) rfl (fun ls hl => ?_)
      refine lv_aload hx hb dX6_passHours_17 (lv_at hl 0 rfl) ?_
      refine rv_lenG hx hb hK hM hR dX6_passHours_19 ?_
      refine lv_istore (lv' := [(6, .int (nI 6)), (5, .ref (b + 1)), (4, .int (nI q)), (3, .int (t)), (0, .ref (b)), (1, .int (am)), (2, .int (nI N))]) hx hb dX6_passHours_20 hl (by decide) rfl (fun ls hl => ?_)
      refine lv_iconst (v := nI 0) hx hb dX6_passHours_22 (by first | rfl | decide) ?_
      refine lv_istore (lv' := [(7, .int (nI 0)), (6, .int (nI 6)), (5, .ref (b + 1)), (4, .int (nI q)), (3, .int (t)), (0, .ref (b)), (1, .int (am)), (2, .int (nI N))]) hx hb dX6_passHours_23 hl (by decide) rfl (fun ls hl => ?_)
      have loop_25 : ∀ (z_25 : Nat) (i : Nat) (t2 : Int32) (M : MM) (H : Heap) (locs : List Loc) (ls : Array Slot), 6 - i < z_25 → i ≤ 6 → t2 = tisL am (pasC am v q) t i → HD g A M H → RepV g A M b π (catL am (pasC am v q) i) → FrV b M0 M → va_S A s.heap H locs → lv_has ls 9 [(7, .int (nI i)), (6, .int (nI 6)), (5, .ref (b + 1)), (3, .int (t2)), (4, .int (nI q)), (0, .ref (b)), (1, .int (am)), (2, .int (nI N))] → W p l e (rmD 4) s m aa below meth c H locs 0 0 Q (F0 m 25 ls []) := by
        intro z_25
        induction z_25 with
        | zero => intro i t2 M H locs ls hz2 hi ht2; exact absurd hz2 (Nat.not_lt_zero _)
        | succ z_25 ih_25 =>
        intro i t2 M H locs ls hz2 hi ht2 hM hR hF hS hl
        refine lv_iload hx hb dX6_passHours_25 (lv_at hl 0 rfl) ?_
        refine lv_iload hx hb dX6_passHours_27 (lv_at hl 1 rfl) ?_
        refine lv_icmp_ge (tgt := 54) hx hb dX6_passHours_29 (by decide) (fun c_29 => ?_) (fun c_29 => ?_)
        · have hi6 : i = 6 := Nat.le_antisymm hi (nI_le_of (by omega) (by decide) c_29)
          subst hi6
          obtain ⟨n, hn20, hn⟩ := pasC_on (am := am) hon q
          refine lv_aload_n hx hb dX6_passHours_54 rfl (lv_at hl 5 rfl) ?_
          refine lv_dup hx hb dX6_passHours_55 rfl ?_
          refine rv_getW hx hb ht ui_X6 hown hK hM hR 2 (by decide) (ht _ uw_192) dX6_passHours_56 ?_
          refine lv_iconst (v := nI 1) hx hb dX6_passHours_59 (by first | rfl | decide) ?_
          refine lv_iadd hx hb dX6_passHours_60 ?_
          refine rv_putW hx hb ht ui_X6 hown hK hM hS hR hF 2 (by decide) (ht _ uw_192) dX6_passHours_61 (fun M H locs hM hR hF hS => ?_)
          refine lv_aload_n hx hb dX6_passHours_64 rfl (lv_at hl 5 rfl) ?_
          refine m_callV (As := []) (rest := []) ⟨hx, hb, hml, hown, ht⟩ (k_X6_moveRunners l g A M b π (ho1C am (pasC am v q)) (RepV.eq hR rfl) n (by rw [ho1C_3]; exact hn) hn20) (cwV 0 ht (gU uw_364 uw_366 uw_1 uw_35 uw_367) rfl rfl rfl (by decide +kernel) ⟨by decide, by decide⟩) hK hM hS (m_recv hK hM hR.AW hR.W rfl) rfl hl.1 rfl (Nat.le_of_ble_eq_true rfl) dX6_passHours_65 ⟨by decide, by decide⟩ (fun M H locs hp hM hS => ?_)
          obtain ⟨⟨π, hR⟩, hF1⟩ := hp
          have hF := hF.tr hF1
          have hR : RepV g A M b π (pasC am v (q + 1)) := RepV.eq hR (by show movC ((pasC am v q).1 3).toNatClampNeg 0 _ = _; rw [hn, nI_clamp (by omega)])
          refine lv_iinc (v := nI (q + 1)) (lv' := [(4, .int (nI (q + 1))), (7, .int (nI 6)), (6, .int (nI 6)), (5, .ref (b + 1)), (3, .int (t2)), (0, .ref (b)), (1, .int (am)), (2, .int (nI N))]) hx hb dX6_passHours_68 hl (k := 4) rfl (nI_1 _) (by decide) rfl (fun ls hl => ?_)
          refine lv_goto (tgt := 5) hx hb dX6_passHours_71 (by decide) ?_
          exact ih_5 (q + 1) t2 _ _ _ _ _ (by omega) (by omega) (by rw [ht2, ht1]; rfl) hM hR hF hS (lv_sub hl [0, 4, 5, 6, 7] rfl)
        · have hi6 : i < 6 := nI_lt_of (by omega) (by decide) c_29
          refine lv_aload hx hb dX6_passHours_32 (lv_at hl 2 rfl) ?_
          refine lv_iload hx hb dX6_passHours_34 (lv_at hl 0 rfl) ?_
          refine rv_aldG hx hb hK hM hR (hi6) dX6_passHours_36 ?_
          refine lv_astore (lv' := [(8, .ref (b + 3 + 2 * i)), (7, .int (nI i)), (6, .int (nI 6)), (5, .ref (b + 1)), (3, .int (t2)), (4, .int (nI q)), (0, .ref (b)), (1, .int (am)), (2, .int (nI N))]) hx hb dX6_passHours_37 hl (by decide) rfl (fun ls hl => ?_)
          refine lv_iload_n hx hb dX6_passHours_39 rfl (lv_at hl 4 rfl) ?_
          refine lv_aload hx hb dX6_passHours_40 (lv_at hl 0 rfl) ?_
          refine lv_iload_n hx hb dX6_passHours_42 rfl (lv_at hl 7 rfl) ?_
          refine m_callI (As := [.int (am)]) (rest := [.int (t2)]) ⟨hx, hb, hml, hown, ht⟩ (k_X0_catchRain l g A M b π (catL am (pasC am v q) i) i am hR hi6) (cwV 1 ht (gU uw_360 uw_361 uw_362 uw_36 uw_363) rfl rfl rfl (by decide +kernel) ⟨by decide, by decide⟩) hK hM hS (m_recv hK hM (hR.AG hi6) (hR.G hi6) rfl) rfl hl.1 rfl (Nat.le_of_ble_eq_true rfl) dX6_passHours_43 ⟨by decide, by decide⟩ (fun r9 M H locs hp hM hS => ?_)
          obtain ⟨e9, hR, hF1⟩ := hp
          subst e9
          have hF := hF.tr hF1
          refine lv_iadd hx hb dX6_passHours_46 ?_
          refine lv_istore_n (lv' := [(3, .int ((t2) + (tipC (catL am (pasC am v q) i) i am))), (8, .ref (b + 3 + 2 * i)), (7, .int (nI i)), (6, .int (nI 6)), (5, .ref (b + 1)), (4, .int (nI q)), (0, .ref (b)), (1, .int (am)), (2, .int (nI N))]) hx hb dX6_passHours_47 rfl hl (by decide) rfl (fun ls hl => ?_)
          refine lv_iinc (v := nI (i + 1)) (lv' := [(7, .int (nI (i + 1))), (3, .int ((t2) + (tipC (catL am (pasC am v q) i) i am))), (8, .ref (b + 3 + 2 * i)), (6, .int (nI 6)), (5, .ref (b + 1)), (4, .int (nI q)), (0, .ref (b)), (1, .int (am)), (2, .int (nI N))]) hx hb dX6_passHours_48 hl (k := 2) rfl (nI_1 _) (by decide) rfl (fun ls hl => ?_)
          refine lv_goto (tgt := 25) hx hb dX6_passHours_51 (by decide) ?_
          exact ih_25 (i + 1) ((t2) + (tipC (catL am (pasC am v q) i) i am)) _ _ _ _ (by omega) (by omega) (by rw [ht2]; rfl) hM hR hF hS (lv_sub hl [0, 3, 4, 1, 5, 6, 7, 8] rfl)
      exact loop_25 _ 0 t _ _ _ _ (Nat.lt_succ_self _) (by omega) rfl hM hR hF hS (lv_sub hl [0, 1, 2, 4, 3, 5, 6, 7] rfl)
  exact loop_5 _ 0 0 π _ _ _ _ (Nat.lt_succ_self _) (Nat.zero_le _) rfl hM hR hF hS (lv_sub hl [0, 1, 2, 3, 4] rfl)
end
section
theorem dX7_init_0 : decode cX7_init 0 = .ok (.aload_n 0, 1) := by decide +kernel
theorem dX7_init_1 : decode cX7_init 1 = .ok (.invokespecial 1, 3) := by decide +kernel
theorem dX7_init_4 : decode cX7_init 4 = .ok (.aload_n 0, 1) := by decide +kernel
theorem dX7_init_5 : decode cX7_init 5 = .ok (.new 7, 3) := by decide +kernel
theorem dX7_init_8 : decode cX7_init 8 = .ok (.dup, 1) := by decide +kernel
theorem dX7_init_9 : decode cX7_init 9 = .ok (.invokespecial 9, 3) := by decide +kernel
theorem dX7_init_12 : decode cX7_init 12 = .ok (.putfield 10, 3) := by decide +kernel
theorem dX7_init_15 : decode cX7_init 15 = .ok (.aload_n 0, 1) := by decide +kernel
theorem dX7_init_16 : decode cX7_init 16 = .ok (.new 7, 3) := by decide +kernel
theorem dX7_init_19 : decode cX7_init 19 = .ok (.dup, 1) := by decide +kernel
theorem dX7_init_20 : decode cX7_init 20 = .ok (.invokespecial 9, 3) := by decide +kernel
theorem dX7_init_23 : decode cX7_init 23 = .ok (.putfield 16, 3) := by decide +kernel
theorem dX7_init_26 : decode cX7_init 26 = .ok (.aload_n 0, 1) := by decide +kernel
theorem dX7_init_27 : decode cX7_init 27 = .ok (.new 19, 3) := by decide +kernel
theorem dX7_init_30 : decode cX7_init 30 = .ok (.dup, 1) := by decide +kernel
theorem dX7_init_31 : decode cX7_init 31 = .ok (.invokespecial 21, 3) := by decide +kernel
theorem dX7_init_34 : decode cX7_init 34 = .ok (.putfield 22, 3) := by decide +kernel
theorem dX7_init_37 : decode cX7_init 37 = .ok (.aload_n 0, 1) := by decide +kernel
theorem dX7_init_38 : decode cX7_init 38 = .ok (.iconst 2, 1) := by decide +kernel
theorem dX7_init_39 : decode cX7_init 39 = .ok (.anewarray 7, 3) := by decide +kernel
theorem dX7_init_42 : decode cX7_init 42 = .ok (.putfield 26, 3) := by decide +kernel
theorem dX7_init_45 : decode cX7_init 45 = .ok (.aload_n 0, 1) := by decide +kernel
theorem dX7_init_46 : decode cX7_init 46 = .ok (.iconst 2, 1) := by decide +kernel
theorem dX7_init_47 : decode cX7_init 47 = .ok (.newarray .boolean, 2) := by decide +kernel
theorem dX7_init_49 : decode cX7_init 49 = .ok (.putfield 30, 3) := by decide +kernel
theorem dX7_init_52 : decode cX7_init 52 = .ok (.aload_n 0, 1) := by decide +kernel
theorem dX7_init_53 : decode cX7_init 53 = .ok (.new 34, 3) := by decide +kernel
theorem dX7_init_56 : decode cX7_init 56 = .ok (.dup, 1) := by decide +kernel
theorem dX7_init_57 : decode cX7_init 57 = .ok (.invokespecial 36, 3) := by decide +kernel
theorem dX7_init_60 : decode cX7_init 60 = .ok (.putfield 37, 3) := by decide +kernel
theorem dX7_init_63 : decode cX7_init 63 = .ok (.aload_n 0, 1) := by decide +kernel
theorem dX7_init_64 : decode cX7_init 64 = .ok (.new 41, 3) := by decide +kernel
theorem dX7_init_67 : decode cX7_init 67 = .ok (.dup, 1) := by decide +kernel
theorem dX7_init_68 : decode cX7_init 68 = .ok (.aload_n 0, 1) := by decide +kernel
theorem dX7_init_69 : decode cX7_init 69 = .ok (.getfield 37, 3) := by decide +kernel
theorem dX7_init_72 : decode cX7_init 72 = .ok (.invokespecial 43, 3) := by decide +kernel
theorem dX7_init_75 : decode cX7_init 75 = .ok (.putfield 46, 3) := by decide +kernel
theorem dX7_init_78 : decode cX7_init 78 = .ok (.iconst 0, 1) := by decide +kernel
theorem dX7_init_79 : decode cX7_init 79 = .ok (.istore_n 1, 1) := by decide +kernel
theorem dX7_init_80 : decode cX7_init 80 = .ok (.iload_n 1, 1) := by decide +kernel
theorem dX7_init_81 : decode cX7_init 81 = .ok (.aload_n 0, 1) := by decide +kernel
theorem dX7_init_82 : decode cX7_init 82 = .ok (.getfield 26, 3) := by decide +kernel
theorem dX7_init_85 : decode cX7_init 85 = .ok (.arraylength, 1) := by decide +kernel
theorem dX7_init_86 : decode cX7_init 86 = .ok (.if_icmp .ge 22, 3) := by decide +kernel
theorem dX7_init_89 : decode cX7_init 89 = .ok (.aload_n 0, 1) := by decide +kernel
theorem dX7_init_90 : decode cX7_init 90 = .ok (.getfield 26, 3) := by decide +kernel
theorem dX7_init_93 : decode cX7_init 93 = .ok (.iload_n 1, 1) := by decide +kernel
theorem dX7_init_94 : decode cX7_init 94 = .ok (.new 7, 3) := by decide +kernel
theorem dX7_init_97 : decode cX7_init 97 = .ok (.dup, 1) := by decide +kernel
theorem dX7_init_98 : decode cX7_init 98 = .ok (.invokespecial 9, 3) := by decide +kernel
theorem dX7_init_101 : decode cX7_init 101 = .ok (.aastore, 1) := by decide +kernel
theorem dX7_init_102 : decode cX7_init 102 = .ok (.iinc 1 1, 3) := by decide +kernel
theorem dX7_init_105 : decode cX7_init 105 = .ok (.goto (-25), 3) := by decide +kernel
theorem dX7_init_108 : decode cX7_init 108 = .ok (.return_, 1) := by decide +kernel
theorem dX7_set_0 : decode cX7_set 0 = .ok (.iload_n 1, 1) := by decide +kernel
theorem dX7_set_1 : decode cX7_set 1 = .ok (.ifCond .ne 42, 3) := by decide +kernel
theorem dX7_set_4 : decode cX7_set 4 = .ok (.iload_n 2, 1) := by decide +kernel
theorem dX7_set_5 : decode cX7_set 5 = .ok (.iconst 4, 1) := by decide +kernel
theorem dX7_set_6 : decode cX7_set 6 = .ok (.bipush 60, 2) := by decide +kernel
theorem dX7_set_8 : decode cX7_set 8 = .ok (.invokestatic 50, 3) := by decide +kernel
theorem dX7_set_11 : decode cX7_set 11 = .ok (.ifCond .eq 32, 3) := by decide +kernel
theorem dX7_set_14 : decode cX7_set 14 = .ok (.aload_n 0, 1) := by decide +kernel
theorem dX7_set_15 : decode cX7_set 15 = .ok (.getfield 22, 3) := by decide +kernel
theorem dX7_set_18 : decode cX7_set 18 = .ok (.aload_n 0, 1) := by decide +kernel
theorem dX7_set_19 : decode cX7_set 19 = .ok (.getfield 10, 3) := by decide +kernel
theorem dX7_set_22 : decode cX7_set 22 = .ok (.invokevirtual 54, 3) := by decide +kernel
theorem dX7_set_25 : decode cX7_set 25 = .ok (.aload_n 0, 1) := by decide +kernel
theorem dX7_set_26 : decode cX7_set 26 = .ok (.getfield 10, 3) := by decide +kernel
theorem dX7_set_29 : decode cX7_set 29 = .ok (.getfield 58, 3) := by decide +kernel
theorem dX7_set_32 : decode cX7_set 32 = .ok (.istore_n 3, 1) := by decide +kernel
theorem dX7_set_33 : decode cX7_set 33 = .ok (.aload_n 0, 1) := by decide +kernel
theorem dX7_set_34 : decode cX7_set 34 = .ok (.getfield 10, 3) := by decide +kernel
theorem dX7_set_37 : decode cX7_set 37 = .ok (.iload_n 2, 1) := by decide +kernel
theorem dX7_set_38 : decode cX7_set 38 = .ok (.invokevirtual 62, 3) := by decide +kernel
theorem dX7_set_41 : decode cX7_set 41 = .ok (.iload_n 3, 1) := by decide +kernel
theorem dX7_set_42 : decode cX7_set 42 = .ok (.ireturn, 1) := by decide +kernel
theorem dX7_set_43 : decode cX7_set 43 = .ok (.iload_n 1, 1) := by decide +kernel
theorem dX7_set_44 : decode cX7_set 44 = .ok (.iconst 1, 1) := by decide +kernel
theorem dX7_set_45 : decode cX7_set 45 = .ok (.if_icmp .ne 41, 3) := by decide +kernel
theorem dX7_set_48 : decode cX7_set 48 = .ok (.iload_n 2, 1) := by decide +kernel
theorem dX7_set_49 : decode cX7_set 49 = .ok (.iconst 0, 1) := by decide +kernel
theorem dX7_set_50 : decode cX7_set 50 = .ok (.iconst 1, 1) := by decide +kernel
theorem dX7_set_51 : decode cX7_set 51 = .ok (.invokestatic 50, 3) := by decide +kernel
theorem dX7_set_54 : decode cX7_set 54 = .ok (.ifCond .eq 32, 3) := by decide +kernel
theorem dX7_set_57 : decode cX7_set 57 = .ok (.aload_n 0, 1) := by decide +kernel
theorem dX7_set_58 : decode cX7_set 58 = .ok (.getfield 22, 3) := by decide +kernel
theorem dX7_set_61 : decode cX7_set 61 = .ok (.aload_n 0, 1) := by decide +kernel
theorem dX7_set_62 : decode cX7_set 62 = .ok (.getfield 10, 3) := by decide +kernel
theorem dX7_set_65 : decode cX7_set 65 = .ok (.invokevirtual 54, 3) := by decide +kernel
theorem dX7_set_68 : decode cX7_set 68 = .ok (.aload_n 0, 1) := by decide +kernel
theorem dX7_set_69 : decode cX7_set 69 = .ok (.getfield 10, 3) := by decide +kernel
theorem dX7_set_72 : decode cX7_set 72 = .ok (.getfield 66, 3) := by decide +kernel
theorem dX7_set_75 : decode cX7_set 75 = .ok (.istore_n 3, 1) := by decide +kernel
theorem dX7_set_76 : decode cX7_set 76 = .ok (.aload_n 0, 1) := by decide +kernel
theorem dX7_set_77 : decode cX7_set 77 = .ok (.getfield 10, 3) := by decide +kernel
theorem dX7_set_80 : decode cX7_set 80 = .ok (.iload_n 2, 1) := by decide +kernel
theorem dX7_set_81 : decode cX7_set 81 = .ok (.putfield 66, 3) := by decide +kernel
theorem dX7_set_84 : decode cX7_set 84 = .ok (.iload_n 3, 1) := by decide +kernel
theorem dX7_set_85 : decode cX7_set 85 = .ok (.ireturn, 1) := by decide +kernel
theorem dX7_set_86 : decode cX7_set 86 = .ok (.ldc 69, 2) := by decide +kernel
theorem dX7_set_88 : decode cX7_set 88 = .ok (.ireturn, 1) := by decide +kernel
theorem dX7_gauge_0 : decode cX7_gauge 0 = .ok (.aload_n 0, 1) := by decide +kernel
theorem dX7_gauge_1 : decode cX7_gauge 1 = .ok (.getfield 10, 3) := by decide +kernel
theorem dX7_gauge_4 : decode cX7_gauge 4 = .ok (.iload_n 1, 1) := by decide +kernel
theorem dX7_gauge_5 : decode cX7_gauge 5 = .ok (.invokevirtual 70, 3) := by decide +kernel
theorem dX7_gauge_8 : decode cX7_gauge 8 = .ok (.astore 6, 2) := by decide +kernel
theorem dX7_gauge_10 : decode cX7_gauge 10 = .ok (.aload 6, 2) := by decide +kernel
theorem dX7_gauge_12 : decode cX7_gauge 12 = .ok (.ifnonnull 6, 3) := by decide +kernel
theorem dX7_gauge_15 : decode cX7_gauge 15 = .ok (.ldc 74, 2) := by decide +kernel
theorem dX7_gauge_17 : decode cX7_gauge 17 = .ok (.ireturn, 1) := by decide +kernel
theorem dX7_gauge_18 : decode cX7_gauge 18 = .ok (.iload_n 2, 1) := by decide +kernel
theorem dX7_gauge_19 : decode cX7_gauge 19 = .ok (.iconst 1, 1) := by decide +kernel
theorem dX7_gauge_20 : decode cX7_gauge 20 = .ok (.bipush 9, 2) := by decide +kernel
theorem dX7_gauge_22 : decode cX7_gauge 22 = .ok (.invokestatic 50, 3) := by decide +kernel
theorem dX7_gauge_25 : decode cX7_gauge 25 = .ok (.ifCond .eq 17, 3) := by decide +kernel
theorem dX7_gauge_28 : decode cX7_gauge 28 = .ok (.iload_n 3, 1) := by decide +kernel
theorem dX7_gauge_29 : decode cX7_gauge 29 = .ok (.iconst 1, 1) := by decide +kernel
theorem dX7_gauge_30 : decode cX7_gauge 30 = .ok (.bipush 50, 2) := by decide +kernel
theorem dX7_gauge_32 : decode cX7_gauge 32 = .ok (.invokestatic 50, 3) := by decide +kernel
theorem dX7_gauge_35 : decode cX7_gauge 35 = .ok (.ifCond .eq 7, 3) := by decide +kernel
theorem dX7_gauge_38 : decode cX7_gauge 38 = .ok (.iconst 1, 1) := by decide +kernel
theorem dX7_gauge_39 : decode cX7_gauge 39 = .ok (.goto 4, 3) := by decide +kernel
theorem dX7_gauge_42 : decode cX7_gauge 42 = .ok (.iconst 0, 1) := by decide +kernel
theorem dX7_gauge_43 : decode cX7_gauge 43 = .ok (.istore 7, 2) := by decide +kernel
theorem dX7_gauge_45 : decode cX7_gauge 45 = .ok (.iload 7, 2) := by decide +kernel
theorem dX7_gauge_47 : decode cX7_gauge 47 = .ok (.ifCond .eq 26, 3) := by decide +kernel
theorem dX7_gauge_50 : decode cX7_gauge 50 = .ok (.iload 4, 2) := by decide +kernel
theorem dX7_gauge_52 : decode cX7_gauge 52 = .ok (.iconst 0, 1) := by decide +kernel
theorem dX7_gauge_53 : decode cX7_gauge 53 = .ok (.sipush 200, 3) := by decide +kernel
theorem dX7_gauge_56 : decode cX7_gauge 56 = .ok (.invokestatic 50, 3) := by decide +kernel
theorem dX7_gauge_59 : decode cX7_gauge 59 = .ok (.ifCond .eq 14, 3) := by decide +kernel
theorem dX7_gauge_62 : decode cX7_gauge 62 = .ok (.iload 5, 2) := by decide +kernel
theorem dX7_gauge_64 : decode cX7_gauge 64 = .ok (.iconst 0, 1) := by decide +kernel
theorem dX7_gauge_65 : decode cX7_gauge 65 = .ok (.bipush 9, 2) := by decide +kernel
theorem dX7_gauge_67 : decode cX7_gauge 67 = .ok (.invokestatic 50, 3) := by decide +kernel
theorem dX7_gauge_70 : decode cX7_gauge 70 = .ok (.ifCond .ne 6, 3) := by decide +kernel
theorem dX7_gauge_73 : decode cX7_gauge 73 = .ok (.ldc 69, 2) := by decide +kernel
theorem dX7_gauge_75 : decode cX7_gauge 75 = .ok (.ireturn, 1) := by decide +kernel
theorem dX7_gauge_76 : decode cX7_gauge 76 = .ok (.aload_n 0, 1) := by decide +kernel
theorem dX7_gauge_77 : decode cX7_gauge 77 = .ok (.getfield 22, 3) := by decide +kernel
theorem dX7_gauge_80 : decode cX7_gauge 80 = .ok (.aload_n 0, 1) := by decide +kernel
theorem dX7_gauge_81 : decode cX7_gauge 81 = .ok (.getfield 10, 3) := by decide +kernel
theorem dX7_gauge_84 : decode cX7_gauge 84 = .ok (.invokevirtual 54, 3) := by decide +kernel
theorem dX7_gauge_87 : decode cX7_gauge 87 = .ok (.aload 6, 2) := by decide +kernel
theorem dX7_gauge_89 : decode cX7_gauge 89 = .ok (.iload_n 2, 1) := by decide +kernel
theorem dX7_gauge_90 : decode cX7_gauge 90 = .ok (.putfield 75, 3) := by decide +kernel
theorem dX7_gauge_93 : decode cX7_gauge 93 = .ok (.aload 6, 2) := by decide +kernel
theorem dX7_gauge_95 : decode cX7_gauge 95 = .ok (.iload_n 3, 1) := by decide +kernel
theorem dX7_gauge_96 : decode cX7_gauge 96 = .ok (.putfield 80, 3) := by decide +kernel
theorem dX7_gauge_99 : decode cX7_gauge 99 = .ok (.aload 6, 2) := by decide +kernel
theorem dX7_gauge_101 : decode cX7_gauge 101 = .ok (.iload 4, 2) := by decide +kernel
theorem dX7_gauge_103 : decode cX7_gauge 103 = .ok (.putfield 83, 3) := by decide +kernel
theorem dX7_gauge_106 : decode cX7_gauge 106 = .ok (.aload 6, 2) := by decide +kernel
theorem dX7_gauge_108 : decode cX7_gauge 108 = .ok (.iload 5, 2) := by decide +kernel
theorem dX7_gauge_110 : decode cX7_gauge 110 = .ok (.putfield 86, 3) := by decide +kernel
theorem dX7_gauge_113 : decode cX7_gauge 113 = .ok (.aload 6, 2) := by decide +kernel
theorem dX7_gauge_115 : decode cX7_gauge 115 = .ok (.getfield 89, 3) := by decide +kernel
theorem dX7_gauge_118 : decode cX7_gauge 118 = .ok (.ireturn, 1) := by decide +kernel
theorem dX7_rain_0 : decode cX7_rain 0 = .ok (.iload_n 1, 1) := by decide +kernel
theorem dX7_rain_1 : decode cX7_rain 1 = .ok (.iconst 0, 1) := by decide +kernel
theorem dX7_rain_2 : decode cX7_rain 2 = .ok (.bipush 99, 2) := by decide +kernel
theorem dX7_rain_4 : decode cX7_rain 4 = .ok (.invokestatic 50, 3) := by decide +kernel
theorem dX7_rain_7 : decode cX7_rain 7 = .ok (.ifCond .eq 13, 3) := by decide +kernel
theorem dX7_rain_10 : decode cX7_rain 10 = .ok (.iload_n 2, 1) := by decide +kernel
theorem dX7_rain_11 : decode cX7_rain 11 = .ok (.iconst 1, 1) := by decide +kernel
theorem dX7_rain_12 : decode cX7_rain 12 = .ok (.bipush 24, 2) := by decide +kernel
theorem dX7_rain_14 : decode cX7_rain 14 = .ok (.invokestatic 50, 3) := by decide +kernel
theorem dX7_rain_17 : decode cX7_rain 17 = .ok (.ifCond .ne 6, 3) := by decide +kernel
theorem dX7_rain_20 : decode cX7_rain 20 = .ok (.ldc 69, 2) := by decide +kernel
theorem dX7_rain_22 : decode cX7_rain 22 = .ok (.ireturn, 1) := by decide +kernel
theorem dX7_rain_23 : decode cX7_rain 23 = .ok (.aload_n 0, 1) := by decide +kernel
theorem dX7_rain_24 : decode cX7_rain 24 = .ok (.getfield 10, 3) := by decide +kernel
theorem dX7_rain_27 : decode cX7_rain 27 = .ok (.iload_n 2, 1) := by decide +kernel
theorem dX7_rain_28 : decode cX7_rain 28 = .ok (.invokevirtual 92, 3) := by decide +kernel
theorem dX7_rain_31 : decode cX7_rain 31 = .ok (.ifCond .ne 6, 3) := by decide +kernel
theorem dX7_rain_34 : decode cX7_rain 34 = .ok (.ldc 96, 2) := by decide +kernel
theorem dX7_rain_36 : decode cX7_rain 36 = .ok (.ireturn, 1) := by decide +kernel
theorem dX7_rain_37 : decode cX7_rain 37 = .ok (.aload_n 0, 1) := by decide +kernel
theorem dX7_rain_38 : decode cX7_rain 38 = .ok (.getfield 22, 3) := by decide +kernel
theorem dX7_rain_41 : decode cX7_rain 41 = .ok (.aload_n 0, 1) := by decide +kernel
theorem dX7_rain_42 : decode cX7_rain 42 = .ok (.getfield 10, 3) := by decide +kernel
theorem dX7_rain_45 : decode cX7_rain 45 = .ok (.invokevirtual 54, 3) := by decide +kernel
theorem dX7_rain_48 : decode cX7_rain 48 = .ok (.aload_n 0, 1) := by decide +kernel
theorem dX7_rain_49 : decode cX7_rain 49 = .ok (.getfield 10, 3) := by decide +kernel
theorem dX7_rain_52 : decode cX7_rain 52 = .ok (.iload_n 1, 1) := by decide +kernel
theorem dX7_rain_53 : decode cX7_rain 53 = .ok (.iload_n 2, 1) := by decide +kernel
theorem dX7_rain_54 : decode cX7_rain 54 = .ok (.invokevirtual 97, 3) := by decide +kernel
theorem dX7_rain_57 : decode cX7_rain 57 = .ok (.ireturn, 1) := by decide +kernel
theorem dX7_send_0 : decode cX7_send 0 = .ok (.aload_n 0, 1) := by decide +kernel
theorem dX7_send_1 : decode cX7_send 1 = .ok (.getfield 10, 3) := by decide +kernel
theorem dX7_send_4 : decode cX7_send 4 = .ok (.iload_n 1, 1) := by decide +kernel
theorem dX7_send_5 : decode cX7_send 5 = .ok (.invokevirtual 70, 3) := by decide +kernel
theorem dX7_send_8 : decode cX7_send 8 = .ok (.ifnonnull 6, 3) := by decide +kernel
theorem dX7_send_11 : decode cX7_send 11 = .ok (.ldc 74, 2) := by decide +kernel
theorem dX7_send_13 : decode cX7_send 13 = .ok (.ireturn, 1) := by decide +kernel
theorem dX7_send_14 : decode cX7_send 14 = .ok (.aload_n 0, 1) := by decide +kernel
theorem dX7_send_15 : decode cX7_send 15 = .ok (.getfield 10, 3) := by decide +kernel
theorem dX7_send_18 : decode cX7_send 18 = .ok (.invokevirtual 101, 3) := by decide +kernel
theorem dX7_send_21 : decode cX7_send 21 = .ok (.ifCond .eq 6, 3) := by decide +kernel
theorem dX7_send_24 : decode cX7_send 24 = .ok (.ldc 96, 2) := by decide +kernel
theorem dX7_send_26 : decode cX7_send 26 = .ok (.ireturn, 1) := by decide +kernel
theorem dX7_send_27 : decode cX7_send 27 = .ok (.aload_n 0, 1) := by decide +kernel
theorem dX7_send_28 : decode cX7_send 28 = .ok (.getfield 22, 3) := by decide +kernel
theorem dX7_send_31 : decode cX7_send 31 = .ok (.aload_n 0, 1) := by decide +kernel
theorem dX7_send_32 : decode cX7_send 32 = .ok (.getfield 10, 3) := by decide +kernel
theorem dX7_send_35 : decode cX7_send 35 = .ok (.invokevirtual 54, 3) := by decide +kernel
theorem dX7_send_38 : decode cX7_send 38 = .ok (.aload_n 0, 1) := by decide +kernel
theorem dX7_send_39 : decode cX7_send 39 = .ok (.getfield 10, 3) := by decide +kernel
theorem dX7_send_42 : decode cX7_send 42 = .ok (.iload_n 1, 1) := by decide +kernel
theorem dX7_send_43 : decode cX7_send 43 = .ok (.invokevirtual 105, 3) := by decide +kernel
theorem dX7_send_46 : decode cX7_send 46 = .ok (.ireturn, 1) := by decide +kernel
theorem dX7_lose_0 : decode cX7_lose 0 = .ok (.aload_n 0, 1) := by decide +kernel
theorem dX7_lose_1 : decode cX7_lose 1 = .ok (.getfield 10, 3) := by decide +kernel
theorem dX7_lose_4 : decode cX7_lose 4 = .ok (.iload_n 1, 1) := by decide +kernel
theorem dX7_lose_5 : decode cX7_lose 5 = .ok (.invokevirtual 109, 3) := by decide +kernel
theorem dX7_lose_8 : decode cX7_lose 8 = .ok (.astore_n 2, 1) := by decide +kernel
theorem dX7_lose_9 : decode cX7_lose 9 = .ok (.aload_n 2, 1) := by decide +kernel
theorem dX7_lose_10 : decode cX7_lose 10 = .ok (.ifnonnull 6, 3) := by decide +kernel
theorem dX7_lose_13 : decode cX7_lose 13 = .ok (.ldc 74, 2) := by decide +kernel
theorem dX7_lose_15 : decode cX7_lose 15 = .ok (.ireturn, 1) := by decide +kernel
theorem dX7_lose_16 : decode cX7_lose 16 = .ok (.aload_n 0, 1) := by decide +kernel
theorem dX7_lose_17 : decode cX7_lose 17 = .ok (.getfield 22, 3) := by decide +kernel
theorem dX7_lose_20 : decode cX7_lose 20 = .ok (.aload_n 0, 1) := by decide +kernel
theorem dX7_lose_21 : decode cX7_lose 21 = .ok (.getfield 10, 3) := by decide +kernel
theorem dX7_lose_24 : decode cX7_lose 24 = .ok (.invokevirtual 54, 3) := by decide +kernel
theorem dX7_lose_27 : decode cX7_lose 27 = .ok (.aload_n 2, 1) := by decide +kernel
theorem dX7_lose_28 : decode cX7_lose 28 = .ok (.getfield 113, 3) := by decide +kernel
theorem dX7_lose_31 : decode cX7_lose 31 = .ok (.istore_n 3, 1) := by decide +kernel
theorem dX7_lose_32 : decode cX7_lose 32 = .ok (.aload_n 0, 1) := by decide +kernel
theorem dX7_lose_33 : decode cX7_lose 33 = .ok (.getfield 10, 3) := by decide +kernel
theorem dX7_lose_36 : decode cX7_lose 36 = .ok (.aload_n 2, 1) := by decide +kernel
theorem dX7_lose_37 : decode cX7_lose 37 = .ok (.invokevirtual 118, 3) := by decide +kernel
theorem dX7_lose_40 : decode cX7_lose 40 = .ok (.aload_n 0, 1) := by decide +kernel
theorem dX7_lose_41 : decode cX7_lose 41 = .ok (.getfield 10, 3) := by decide +kernel
theorem dX7_lose_44 : decode cX7_lose 44 = .ok (.iload_n 1, 1) := by decide +kernel
theorem dX7_lose_45 : decode cX7_lose 45 = .ok (.invokevirtual 122, 3) := by decide +kernel
theorem dX7_lose_48 : decode cX7_lose 48 = .ok (.iload_n 3, 1) := by decide +kernel
theorem dX7_lose_49 : decode cX7_lose 49 = .ok (.ireturn, 1) := by decide +kernel
theorem dX7_twice_0 : decode cX7_twice 0 = .ok (.aload_n 0, 1) := by decide +kernel
theorem dX7_twice_1 : decode cX7_twice 1 = .ok (.getfield 10, 3) := by decide +kernel
theorem dX7_twice_4 : decode cX7_twice 4 = .ok (.iload_n 1, 1) := by decide +kernel
theorem dX7_twice_5 : decode cX7_twice 5 = .ok (.invokevirtual 109, 3) := by decide +kernel
theorem dX7_twice_8 : decode cX7_twice 8 = .ok (.astore_n 2, 1) := by decide +kernel
theorem dX7_twice_9 : decode cX7_twice 9 = .ok (.aload_n 2, 1) := by decide +kernel
theorem dX7_twice_10 : decode cX7_twice 10 = .ok (.ifnonnull 6, 3) := by decide +kernel
theorem dX7_twice_13 : decode cX7_twice 13 = .ok (.ldc 74, 2) := by decide +kernel
theorem dX7_twice_15 : decode cX7_twice 15 = .ok (.ireturn, 1) := by decide +kernel
theorem dX7_twice_16 : decode cX7_twice 16 = .ok (.aload_n 0, 1) := by decide +kernel
theorem dX7_twice_17 : decode cX7_twice 17 = .ok (.getfield 10, 3) := by decide +kernel
theorem dX7_twice_20 : decode cX7_twice 20 = .ok (.invokevirtual 101, 3) := by decide +kernel
theorem dX7_twice_23 : decode cX7_twice 23 = .ok (.ifCond .eq 6, 3) := by decide +kernel
theorem dX7_twice_26 : decode cX7_twice 26 = .ok (.ldc 96, 2) := by decide +kernel
theorem dX7_twice_28 : decode cX7_twice 28 = .ok (.ireturn, 1) := by decide +kernel
theorem dX7_twice_29 : decode cX7_twice 29 = .ok (.aload_n 0, 1) := by decide +kernel
theorem dX7_twice_30 : decode cX7_twice 30 = .ok (.getfield 22, 3) := by decide +kernel
theorem dX7_twice_33 : decode cX7_twice 33 = .ok (.aload_n 0, 1) := by decide +kernel
theorem dX7_twice_34 : decode cX7_twice 34 = .ok (.getfield 10, 3) := by decide +kernel
theorem dX7_twice_37 : decode cX7_twice 37 = .ok (.invokevirtual 54, 3) := by decide +kernel
theorem dX7_twice_40 : decode cX7_twice 40 = .ok (.aload_n 0, 1) := by decide +kernel
theorem dX7_twice_41 : decode cX7_twice 41 = .ok (.getfield 10, 3) := by decide +kernel
theorem dX7_twice_44 : decode cX7_twice 44 = .ok (.aload_n 2, 1) := by decide +kernel
theorem dX7_twice_45 : decode cX7_twice 45 = .ok (.invokevirtual 125, 3) := by decide +kernel
theorem dX7_twice_48 : decode cX7_twice 48 = .ok (.aload_n 0, 1) := by decide +kernel
theorem dX7_twice_49 : decode cX7_twice 49 = .ok (.getfield 10, 3) := by decide +kernel
theorem dX7_twice_52 : decode cX7_twice 52 = .ok (.getfield 128, 3) := by decide +kernel
theorem dX7_twice_55 : decode cX7_twice 55 = .ok (.ireturn, 1) := by decide +kernel
theorem dX7_gaugeOf_0 : decode cX7_gaugeOf 0 = .ok (.aload_n 0, 1) := by decide +kernel
theorem dX7_gaugeOf_1 : decode cX7_gaugeOf 1 = .ok (.getfield 10, 3) := by decide +kernel
theorem dX7_gaugeOf_4 : decode cX7_gaugeOf 4 = .ok (.iload_n 1, 1) := by decide +kernel
theorem dX7_gaugeOf_5 : decode cX7_gaugeOf 5 = .ok (.invokevirtual 70, 3) := by decide +kernel
theorem dX7_gaugeOf_8 : decode cX7_gaugeOf 8 = .ok (.astore_n 3, 1) := by decide +kernel
theorem dX7_gaugeOf_9 : decode cX7_gaugeOf 9 = .ok (.aload_n 3, 1) := by decide +kernel
theorem dX7_gaugeOf_10 : decode cX7_gaugeOf 10 = .ok (.ifnonnull 8, 3) := by decide +kernel
theorem dX7_gaugeOf_13 : decode cX7_gaugeOf 13 = .ok (.ldc 74, 2) := by decide +kernel
theorem dX7_gaugeOf_15 : decode cX7_gaugeOf 15 = .ok (.goto 12, 3) := by decide +kernel
theorem dX7_gaugeOf_18 : decode cX7_gaugeOf 18 = .ok (.aload_n 0, 1) := by decide +kernel
theorem dX7_gaugeOf_19 : decode cX7_gaugeOf 19 = .ok (.getfield 10, 3) := by decide +kernel
theorem dX7_gaugeOf_22 : decode cX7_gaugeOf 22 = .ok (.aload_n 3, 1) := by decide +kernel
theorem dX7_gaugeOf_23 : decode cX7_gaugeOf 23 = .ok (.iload_n 2, 1) := by decide +kernel
theorem dX7_gaugeOf_24 : decode cX7_gaugeOf 24 = .ok (.invokevirtual 152, 3) := by decide +kernel
theorem dX7_gaugeOf_27 : decode cX7_gaugeOf 27 = .ok (.ireturn, 1) := by decide +kernel
theorem dX7_ledger_0 : decode cX7_ledger 0 = .ok (.aload_n 0, 1) := by decide +kernel
theorem dX7_ledger_1 : decode cX7_ledger 1 = .ok (.getfield 10, 3) := by decide +kernel
theorem dX7_ledger_4 : decode cX7_ledger 4 = .ok (.iload_n 1, 1) := by decide +kernel
theorem dX7_ledger_5 : decode cX7_ledger 5 = .ok (.invokevirtual 70, 3) := by decide +kernel
theorem dX7_ledger_8 : decode cX7_ledger 8 = .ok (.astore_n 3, 1) := by decide +kernel
theorem dX7_ledger_9 : decode cX7_ledger 9 = .ok (.aload_n 3, 1) := by decide +kernel
theorem dX7_ledger_10 : decode cX7_ledger 10 = .ok (.ifnonnull 6, 3) := by decide +kernel
theorem dX7_ledger_13 : decode cX7_ledger 13 = .ok (.ldc 74, 2) := by decide +kernel
theorem dX7_ledger_15 : decode cX7_ledger 15 = .ok (.ireturn, 1) := by decide +kernel
theorem dX7_ledger_16 : decode cX7_ledger 16 = .ok (.aload_n 3, 1) := by decide +kernel
theorem dX7_ledger_17 : decode cX7_ledger 17 = .ok (.getfield 156, 3) := by decide +kernel
theorem dX7_ledger_20 : decode cX7_ledger 20 = .ok (.astore 4, 2) := by decide +kernel
theorem dX7_ledger_22 : decode cX7_ledger 22 = .ok (.iload_n 2, 1) := by decide +kernel
theorem dX7_ledger_23 : decode cX7_ledger 23 = .ok (.tableswitch 99 0 7 #[45, 51, 57, 70, 75, 81, 87, 93], 45) := by decide +kernel
theorem dX7_ledger_68 : decode cX7_ledger 68 = .ok (.aload 4, 2) := by decide +kernel
theorem dX7_ledger_70 : decode cX7_ledger 70 = .ok (.getfield 160, 3) := by decide +kernel
theorem dX7_ledger_73 : decode cX7_ledger 73 = .ok (.ireturn, 1) := by decide +kernel
theorem dX7_ledger_74 : decode cX7_ledger 74 = .ok (.aload 4, 2) := by decide +kernel
theorem dX7_ledger_76 : decode cX7_ledger 76 = .ok (.getfield 165, 3) := by decide +kernel
theorem dX7_ledger_79 : decode cX7_ledger 79 = .ok (.ireturn, 1) := by decide +kernel
theorem dX7_ledger_80 : decode cX7_ledger 80 = .ok (.aload_n 0, 1) := by decide +kernel
theorem dX7_ledger_81 : decode cX7_ledger 81 = .ok (.getfield 10, 3) := by decide +kernel
theorem dX7_ledger_84 : decode cX7_ledger 84 = .ok (.aload 4, 2) := by decide +kernel
theorem dX7_ledger_86 : decode cX7_ledger 86 = .ok (.getfield 168, 3) := by decide +kernel
theorem dX7_ledger_89 : decode cX7_ledger 89 = .ok (.invokevirtual 171, 3) := by decide +kernel
theorem dX7_ledger_92 : decode cX7_ledger 92 = .ok (.ireturn, 1) := by decide +kernel
theorem dX7_ledger_93 : decode cX7_ledger 93 = .ok (.aload_n 3, 1) := by decide +kernel
theorem dX7_ledger_94 : decode cX7_ledger 94 = .ok (.invokevirtual 174, 3) := by decide +kernel
theorem dX7_ledger_97 : decode cX7_ledger 97 = .ok (.ireturn, 1) := by decide +kernel
theorem dX7_ledger_98 : decode cX7_ledger 98 = .ok (.aload 4, 2) := by decide +kernel
theorem dX7_ledger_100 : decode cX7_ledger 100 = .ok (.getfield 177, 3) := by decide +kernel
theorem dX7_ledger_103 : decode cX7_ledger 103 = .ok (.ireturn, 1) := by decide +kernel
theorem dX7_ledger_104 : decode cX7_ledger 104 = .ok (.aload 4, 2) := by decide +kernel
theorem dX7_ledger_106 : decode cX7_ledger 106 = .ok (.getfield 180, 3) := by decide +kernel
theorem dX7_ledger_109 : decode cX7_ledger 109 = .ok (.ireturn, 1) := by decide +kernel
theorem dX7_ledger_110 : decode cX7_ledger 110 = .ok (.aload 4, 2) := by decide +kernel
theorem dX7_ledger_112 : decode cX7_ledger 112 = .ok (.getfield 183, 3) := by decide +kernel
theorem dX7_ledger_115 : decode cX7_ledger 115 = .ok (.ireturn, 1) := by decide +kernel
theorem dX7_ledger_116 : decode cX7_ledger 116 = .ok (.aload 4, 2) := by decide +kernel
theorem dX7_ledger_118 : decode cX7_ledger 118 = .ok (.getfield 186, 3) := by decide +kernel
theorem dX7_ledger_121 : decode cX7_ledger 121 = .ok (.ireturn, 1) := by decide +kernel
theorem dX7_ledger_122 : decode cX7_ledger 122 = .ok (.ldc 69, 2) := by decide +kernel
theorem dX7_ledger_124 : decode cX7_ledger 124 = .ok (.ireturn, 1) := by decide +kernel
theorem dX7_runner_0 : decode cX7_runner 0 = .ok (.aload_n 0, 1) := by decide +kernel
theorem dX7_runner_1 : decode cX7_runner 1 = .ok (.getfield 10, 3) := by decide +kernel
theorem dX7_runner_4 : decode cX7_runner 4 = .ok (.iload_n 1, 1) := by decide +kernel
theorem dX7_runner_5 : decode cX7_runner 5 = .ok (.invokevirtual 109, 3) := by decide +kernel
theorem dX7_runner_8 : decode cX7_runner 8 = .ok (.astore_n 3, 1) := by decide +kernel
theorem dX7_runner_9 : decode cX7_runner 9 = .ok (.aload_n 3, 1) := by decide +kernel
theorem dX7_runner_10 : decode cX7_runner 10 = .ok (.ifnonnull 6, 3) := by decide +kernel
theorem dX7_runner_13 : decode cX7_runner 13 = .ok (.ldc 74, 2) := by decide +kernel
theorem dX7_runner_15 : decode cX7_runner 15 = .ok (.ireturn, 1) := by decide +kernel
theorem dX7_runner_16 : decode cX7_runner 16 = .ok (.iload_n 2, 1) := by decide +kernel
theorem dX7_runner_17 : decode cX7_runner 17 = .ok (.tableswitch 58 0 3 #[31, 36, 48, 53], 31) := by decide +kernel
theorem dX7_runner_48 : decode cX7_runner 48 = .ok (.aload_n 3, 1) := by decide +kernel
theorem dX7_runner_49 : decode cX7_runner 49 = .ok (.getfield 113, 3) := by decide +kernel
theorem dX7_runner_52 : decode cX7_runner 52 = .ok (.ireturn, 1) := by decide +kernel
theorem dX7_runner_53 : decode cX7_runner 53 = .ok (.aload_n 0, 1) := by decide +kernel
theorem dX7_runner_54 : decode cX7_runner 54 = .ok (.getfield 10, 3) := by decide +kernel
theorem dX7_runner_57 : decode cX7_runner 57 = .ok (.aload_n 3, 1) := by decide +kernel
theorem dX7_runner_58 : decode cX7_runner 58 = .ok (.getfield 189, 3) := by decide +kernel
theorem dX7_runner_61 : decode cX7_runner 61 = .ok (.invokevirtual 171, 3) := by decide +kernel
theorem dX7_runner_64 : decode cX7_runner 64 = .ok (.ireturn, 1) := by decide +kernel
theorem dX7_runner_65 : decode cX7_runner 65 = .ok (.aload_n 3, 1) := by decide +kernel
theorem dX7_runner_66 : decode cX7_runner 66 = .ok (.getfield 192, 3) := by decide +kernel
theorem dX7_runner_69 : decode cX7_runner 69 = .ok (.ireturn, 1) := by decide +kernel
theorem dX7_runner_70 : decode cX7_runner 70 = .ok (.aload_n 3, 1) := by decide +kernel
theorem dX7_runner_71 : decode cX7_runner 71 = .ok (.getfield 195, 3) := by decide +kernel
theorem dX7_runner_74 : decode cX7_runner 74 = .ok (.ireturn, 1) := by decide +kernel
theorem dX7_runner_75 : decode cX7_runner 75 = .ok (.ldc 69, 2) := by decide +kernel
theorem dX7_runner_77 : decode cX7_runner 77 = .ok (.ireturn, 1) := by decide +kernel
theorem dX7_count_0 : decode cX7_count 0 = .ok (.iload_n 1, 1) := by decide +kernel
theorem dX7_count_1 : decode cX7_count 1 = .ok (.tableswitch 161 0 10 #[59, 67, 75, 83, 91, 101, 120, 129, 137, 145, 153], 59) := by decide +kernel
theorem dX7_count_60 : decode cX7_count 60 = .ok (.aload_n 0, 1) := by decide +kernel
theorem dX7_count_61 : decode cX7_count 61 = .ok (.getfield 10, 3) := by decide +kernel
theorem dX7_count_64 : decode cX7_count 64 = .ok (.getfield 58, 3) := by decide +kernel
theorem dX7_count_67 : decode cX7_count 67 = .ok (.ireturn, 1) := by decide +kernel
theorem dX7_count_68 : decode cX7_count 68 = .ok (.aload_n 0, 1) := by decide +kernel
theorem dX7_count_69 : decode cX7_count 69 = .ok (.getfield 10, 3) := by decide +kernel
theorem dX7_count_72 : decode cX7_count 72 = .ok (.getfield 66, 3) := by decide +kernel
theorem dX7_count_75 : decode cX7_count 75 = .ok (.ireturn, 1) := by decide +kernel
theorem dX7_count_76 : decode cX7_count 76 = .ok (.aload_n 0, 1) := by decide +kernel
theorem dX7_count_77 : decode cX7_count 77 = .ok (.getfield 10, 3) := by decide +kernel
theorem dX7_count_80 : decode cX7_count 80 = .ok (.getfield 198, 3) := by decide +kernel
theorem dX7_count_83 : decode cX7_count 83 = .ok (.ireturn, 1) := by decide +kernel
theorem dX7_count_84 : decode cX7_count 84 = .ok (.aload_n 0, 1) := by decide +kernel
theorem dX7_count_85 : decode cX7_count 85 = .ok (.getfield 10, 3) := by decide +kernel
theorem dX7_count_88 : decode cX7_count 88 = .ok (.getfield 128, 3) := by decide +kernel
theorem dX7_count_91 : decode cX7_count 91 = .ok (.ireturn, 1) := by decide +kernel
theorem dX7_count_92 : decode cX7_count 92 = .ok (.aload_n 0, 1) := by decide +kernel
theorem dX7_count_93 : decode cX7_count 93 = .ok (.getfield 10, 3) := by decide +kernel
theorem dX7_count_96 : decode cX7_count 96 = .ok (.bipush 7, 2) := by decide +kernel
theorem dX7_count_98 : decode cX7_count 98 = .ok (.invokevirtual 201, 3) := by decide +kernel
theorem dX7_count_101 : decode cX7_count 101 = .ok (.ireturn, 1) := by decide +kernel
theorem dX7_count_102 : decode cX7_count 102 = .ok (.aload_n 0, 1) := by decide +kernel
theorem dX7_count_103 : decode cX7_count 103 = .ok (.getfield 10, 3) := by decide +kernel
theorem dX7_count_106 : decode cX7_count 106 = .ok (.bipush 8, 2) := by decide +kernel
theorem dX7_count_108 : decode cX7_count 108 = .ok (.invokevirtual 201, 3) := by decide +kernel
theorem dX7_count_111 : decode cX7_count 111 = .ok (.aload_n 0, 1) := by decide +kernel
theorem dX7_count_112 : decode cX7_count 112 = .ok (.getfield 10, 3) := by decide +kernel
theorem dX7_count_115 : decode cX7_count 115 = .ok (.iconst 4, 1) := by decide +kernel
theorem dX7_count_116 : decode cX7_count 116 = .ok (.invokevirtual 201, 3) := by decide +kernel
theorem dX7_count_119 : decode cX7_count 119 = .ok (.iadd, 1) := by decide +kernel
theorem dX7_count_120 : decode cX7_count 120 = .ok (.ireturn, 1) := by decide +kernel
theorem dX7_count_121 : decode cX7_count 121 = .ok (.aload_n 0, 1) := by decide +kernel
theorem dX7_count_122 : decode cX7_count 122 = .ok (.getfield 10, 3) := by decide +kernel
theorem dX7_count_125 : decode cX7_count 125 = .ok (.iconst 5, 1) := by decide +kernel
theorem dX7_count_126 : decode cX7_count 126 = .ok (.invokevirtual 201, 3) := by decide +kernel
theorem dX7_count_129 : decode cX7_count 129 = .ok (.ireturn, 1) := by decide +kernel
theorem dX7_count_130 : decode cX7_count 130 = .ok (.aload_n 0, 1) := by decide +kernel
theorem dX7_count_131 : decode cX7_count 131 = .ok (.getfield 10, 3) := by decide +kernel
theorem dX7_count_134 : decode cX7_count 134 = .ok (.invokevirtual 204, 3) := by decide +kernel
theorem dX7_count_137 : decode cX7_count 137 = .ok (.ireturn, 1) := by decide +kernel
theorem dX7_count_138 : decode cX7_count 138 = .ok (.aload_n 0, 1) := by decide +kernel
theorem dX7_count_139 : decode cX7_count 139 = .ok (.getfield 10, 3) := by decide +kernel
theorem dX7_count_142 : decode cX7_count 142 = .ok (.invokevirtual 207, 3) := by decide +kernel
theorem dX7_count_145 : decode cX7_count 145 = .ok (.ireturn, 1) := by decide +kernel
theorem dX7_count_146 : decode cX7_count 146 = .ok (.aload_n 0, 1) := by decide +kernel
theorem dX7_count_147 : decode cX7_count 147 = .ok (.getfield 37, 3) := by decide +kernel
theorem dX7_count_150 : decode cX7_count 150 = .ok (.getfield 149, 3) := by decide +kernel
theorem dX7_count_153 : decode cX7_count 153 = .ok (.ireturn, 1) := by decide +kernel
theorem dX7_count_154 : decode cX7_count 154 = .ok (.aload_n 0, 1) := by decide +kernel
theorem dX7_count_155 : decode cX7_count 155 = .ok (.getfield 22, 3) := by decide +kernel
theorem dX7_count_158 : decode cX7_count 158 = .ok (.getfield 210, 3) := by decide +kernel
theorem dX7_count_161 : decode cX7_count 161 = .ok (.ireturn, 1) := by decide +kernel
theorem dX7_count_162 : decode cX7_count 162 = .ok (.ldc 69, 2) := by decide +kernel
theorem dX7_count_164 : decode cX7_count 164 = .ok (.ireturn, 1) := by decide +kernel
theorem dX7_untilRound_0 : decode cX7_untilRound 0 = .ok (.aload_n 0, 1) := by decide +kernel
theorem dX7_untilRound_1 : decode cX7_untilRound 1 = .ok (.getfield 16, 3) := by decide +kernel
theorem dX7_untilRound_4 : decode cX7_untilRound 4 = .ok (.aload_n 0, 1) := by decide +kernel
theorem dX7_untilRound_5 : decode cX7_untilRound 5 = .ok (.getfield 10, 3) := by decide +kernel
theorem dX7_untilRound_8 : decode cX7_untilRound 8 = .ok (.invokevirtual 213, 3) := by decide +kernel
theorem dX7_untilRound_11 : decode cX7_untilRound 11 = .ok (.aload_n 0, 1) := by decide +kernel
theorem dX7_untilRound_12 : decode cX7_untilRound 12 = .ok (.getfield 16, 3) := by decide +kernel
theorem dX7_untilRound_15 : decode cX7_untilRound 15 = .ok (.iload_n 1, 1) := by decide +kernel
theorem dX7_untilRound_16 : decode cX7_untilRound 16 = .ok (.invokevirtual 70, 3) := by decide +kernel
theorem dX7_untilRound_19 : decode cX7_untilRound 19 = .ok (.astore_n 3, 1) := by decide +kernel
theorem dX7_untilRound_20 : decode cX7_untilRound 20 = .ok (.aload_n 3, 1) := by decide +kernel
theorem dX7_untilRound_21 : decode cX7_untilRound 21 = .ok (.ifnonnull 6, 3) := by decide +kernel
theorem dX7_untilRound_24 : decode cX7_untilRound 24 = .ok (.ldc 74, 2) := by decide +kernel
theorem dX7_untilRound_26 : decode cX7_untilRound 26 = .ok (.ireturn, 1) := by decide +kernel
theorem dX7_untilRound_27 : decode cX7_untilRound 27 = .ok (.iload_n 2, 1) := by decide +kernel
theorem dX7_untilRound_28 : decode cX7_untilRound 28 = .ok (.iconst 0, 1) := by decide +kernel
theorem dX7_untilRound_29 : decode cX7_untilRound 29 = .ok (.bipush 99, 2) := by decide +kernel
theorem dX7_untilRound_31 : decode cX7_untilRound 31 = .ok (.invokestatic 50, 3) := by decide +kernel
theorem dX7_untilRound_34 : decode cX7_untilRound 34 = .ok (.ifCond .ne 6, 3) := by decide +kernel
theorem dX7_untilRound_37 : decode cX7_untilRound 37 = .ok (.ldc 69, 2) := by decide +kernel
theorem dX7_untilRound_39 : decode cX7_untilRound 39 = .ok (.ireturn, 1) := by decide +kernel
theorem dX7_untilRound_40 : decode cX7_untilRound 40 = .ok (.iconst 0, 1) := by decide +kernel
theorem dX7_untilRound_41 : decode cX7_untilRound 41 = .ok (.istore 4, 2) := by decide +kernel
theorem dX7_untilRound_43 : decode cX7_untilRound 43 = .ok (.iload 4, 2) := by decide +kernel
theorem dX7_untilRound_45 : decode cX7_untilRound 45 = .ok (.sipush 500, 3) := by decide +kernel
theorem dX7_untilRound_48 : decode cX7_untilRound 48 = .ok (.if_icmp .gt 32, 3) := by decide +kernel
theorem dX7_untilRound_51 : decode cX7_untilRound 51 = .ok (.aload_n 3, 1) := by decide +kernel
theorem dX7_untilRound_52 : decode cX7_untilRound 52 = .ok (.invokevirtual 216, 3) := by decide +kernel
theorem dX7_untilRound_55 : decode cX7_untilRound 55 = .ok (.aload_n 0, 1) := by decide +kernel
theorem dX7_untilRound_56 : decode cX7_untilRound 56 = .ok (.getfield 16, 3) := by decide +kernel
theorem dX7_untilRound_59 : decode cX7_untilRound 59 = .ok (.getfield 58, 3) := by decide +kernel
theorem dX7_untilRound_62 : decode cX7_untilRound 62 = .ok (.if_icmp .lt 6, 3) := by decide +kernel
theorem dX7_untilRound_65 : decode cX7_untilRound 65 = .ok (.iload 4, 2) := by decide +kernel
theorem dX7_untilRound_67 : decode cX7_untilRound 67 = .ok (.ireturn, 1) := by decide +kernel
theorem dX7_untilRound_68 : decode cX7_untilRound 68 = .ok (.aload_n 3, 1) := by decide +kernel
theorem dX7_untilRound_69 : decode cX7_untilRound 69 = .ok (.iload_n 2, 1) := by decide +kernel
theorem dX7_untilRound_70 : decode cX7_untilRound 70 = .ok (.invokevirtual 219, 3) := by decide +kernel
theorem dX7_untilRound_73 : decode cX7_untilRound 73 = .ok (.pop, 1) := by decide +kernel
theorem dX7_untilRound_74 : decode cX7_untilRound 74 = .ok (.iinc 4 1, 3) := by decide +kernel
theorem dX7_untilRound_77 : decode cX7_untilRound 77 = .ok (.goto (-34), 3) := by decide +kernel
theorem dX7_untilRound_80 : decode cX7_untilRound 80 = .ok (.ldc 135, 2) := by decide +kernel
theorem dX7_untilRound_82 : decode cX7_untilRound 82 = .ok (.ireturn, 1) := by decide +kernel
theorem dX7_ifSent_0 : decode cX7_ifSent 0 = .ok (.aload_n 0, 1) := by decide +kernel
theorem dX7_ifSent_1 : decode cX7_ifSent 1 = .ok (.getfield 16, 3) := by decide +kernel
theorem dX7_ifSent_4 : decode cX7_ifSent 4 = .ok (.aload_n 0, 1) := by decide +kernel
theorem dX7_ifSent_5 : decode cX7_ifSent 5 = .ok (.getfield 10, 3) := by decide +kernel
theorem dX7_ifSent_8 : decode cX7_ifSent 8 = .ok (.invokevirtual 213, 3) := by decide +kernel
theorem dX7_ifSent_11 : decode cX7_ifSent 11 = .ok (.aload_n 0, 1) := by decide +kernel
theorem dX7_ifSent_12 : decode cX7_ifSent 12 = .ok (.getfield 16, 3) := by decide +kernel
theorem dX7_ifSent_15 : decode cX7_ifSent 15 = .ok (.iload_n 1, 1) := by decide +kernel
theorem dX7_ifSent_16 : decode cX7_ifSent 16 = .ok (.invokevirtual 70, 3) := by decide +kernel
theorem dX7_ifSent_19 : decode cX7_ifSent 19 = .ok (.astore_n 2, 1) := by decide +kernel
theorem dX7_ifSent_20 : decode cX7_ifSent 20 = .ok (.aload_n 2, 1) := by decide +kernel
theorem dX7_ifSent_21 : decode cX7_ifSent 21 = .ok (.ifnonnull 6, 3) := by decide +kernel
theorem dX7_ifSent_24 : decode cX7_ifSent 24 = .ok (.ldc 74, 2) := by decide +kernel
theorem dX7_ifSent_26 : decode cX7_ifSent 26 = .ok (.ireturn, 1) := by decide +kernel
theorem dX7_ifSent_27 : decode cX7_ifSent 27 = .ok (.aload_n 0, 1) := by decide +kernel
theorem dX7_ifSent_28 : decode cX7_ifSent 28 = .ok (.getfield 16, 3) := by decide +kernel
theorem dX7_ifSent_31 : decode cX7_ifSent 31 = .ok (.iconst 0, 1) := by decide +kernel
theorem dX7_ifSent_32 : decode cX7_ifSent 32 = .ok (.putfield 128, 3) := by decide +kernel
theorem dX7_ifSent_35 : decode cX7_ifSent 35 = .ok (.aload_n 2, 1) := by decide +kernel
theorem dX7_ifSent_36 : decode cX7_ifSent 36 = .ok (.iconst 0, 1) := by decide +kernel
theorem dX7_ifSent_37 : decode cX7_ifSent 37 = .ok (.putfield 86, 3) := by decide +kernel
theorem dX7_ifSent_40 : decode cX7_ifSent 40 = .ok (.aload_n 0, 1) := by decide +kernel
theorem dX7_ifSent_41 : decode cX7_ifSent 41 = .ok (.getfield 16, 3) := by decide +kernel
theorem dX7_ifSent_44 : decode cX7_ifSent 44 = .ok (.iload_n 1, 1) := by decide +kernel
theorem dX7_ifSent_45 : decode cX7_ifSent 45 = .ok (.invokevirtual 105, 3) := by decide +kernel
theorem dX7_ifSent_48 : decode cX7_ifSent 48 = .ok (.pop, 1) := by decide +kernel
theorem dX7_ifSent_49 : decode cX7_ifSent 49 = .ok (.aload_n 2, 1) := by decide +kernel
theorem dX7_ifSent_50 : decode cX7_ifSent 50 = .ok (.invokevirtual 174, 3) := by decide +kernel
theorem dX7_ifSent_53 : decode cX7_ifSent 53 = .ok (.ireturn, 1) := by decide +kernel
theorem dX7_ifAllCome_0 : decode cX7_ifAllCome 0 = .ok (.aload_n 0, 1) := by decide +kernel
theorem dX7_ifAllCome_1 : decode cX7_ifAllCome 1 = .ok (.getfield 16, 3) := by decide +kernel
theorem dX7_ifAllCome_4 : decode cX7_ifAllCome 4 = .ok (.aload_n 0, 1) := by decide +kernel
theorem dX7_ifAllCome_5 : decode cX7_ifAllCome 5 = .ok (.getfield 10, 3) := by decide +kernel
theorem dX7_ifAllCome_8 : decode cX7_ifAllCome 8 = .ok (.invokevirtual 213, 3) := by decide +kernel
theorem dX7_ifAllCome_11 : decode cX7_ifAllCome 11 = .ok (.aload_n 0, 1) := by decide +kernel
theorem dX7_ifAllCome_12 : decode cX7_ifAllCome 12 = .ok (.getfield 16, 3) := by decide +kernel
theorem dX7_ifAllCome_15 : decode cX7_ifAllCome 15 = .ok (.iload_n 1, 1) := by decide +kernel
theorem dX7_ifAllCome_16 : decode cX7_ifAllCome 16 = .ok (.invokevirtual 70, 3) := by decide +kernel
theorem dX7_ifAllCome_19 : decode cX7_ifAllCome 19 = .ok (.astore_n 2, 1) := by decide +kernel
theorem dX7_ifAllCome_20 : decode cX7_ifAllCome 20 = .ok (.aload_n 2, 1) := by decide +kernel
theorem dX7_ifAllCome_21 : decode cX7_ifAllCome 21 = .ok (.ifnonnull 6, 3) := by decide +kernel
theorem dX7_ifAllCome_24 : decode cX7_ifAllCome 24 = .ok (.ldc 74, 2) := by decide +kernel
theorem dX7_ifAllCome_26 : decode cX7_ifAllCome 26 = .ok (.ireturn, 1) := by decide +kernel
theorem dX7_ifAllCome_27 : decode cX7_ifAllCome 27 = .ok (.aload_n 0, 1) := by decide +kernel
theorem dX7_ifAllCome_28 : decode cX7_ifAllCome 28 = .ok (.getfield 16, 3) := by decide +kernel
theorem dX7_ifAllCome_31 : decode cX7_ifAllCome 31 = .ok (.iconst 0, 1) := by decide +kernel
theorem dX7_ifAllCome_32 : decode cX7_ifAllCome 32 = .ok (.aload_n 0, 1) := by decide +kernel
theorem dX7_ifAllCome_33 : decode cX7_ifAllCome 33 = .ok (.getfield 16, 3) := by decide +kernel
theorem dX7_ifAllCome_36 : decode cX7_ifAllCome 36 = .ok (.invokevirtual 222, 3) := by decide +kernel
theorem dX7_ifAllCome_39 : decode cX7_ifAllCome 39 = .ok (.invokevirtual 97, 3) := by decide +kernel
theorem dX7_ifAllCome_42 : decode cX7_ifAllCome 42 = .ok (.pop, 1) := by decide +kernel
theorem dX7_ifAllCome_43 : decode cX7_ifAllCome 43 = .ok (.aload_n 2, 1) := by decide +kernel
theorem dX7_ifAllCome_44 : decode cX7_ifAllCome 44 = .ok (.invokevirtual 174, 3) := by decide +kernel
theorem dX7_ifAllCome_47 : decode cX7_ifAllCome 47 = .ok (.ireturn, 1) := by decide +kernel
theorem dX7_mostUntold_0 : decode cX7_mostUntold 0 = .ok (.iconst 0, 1) := by decide +kernel
theorem dX7_mostUntold_1 : decode cX7_mostUntold 1 = .ok (.istore_n 1, 1) := by decide +kernel
theorem dX7_mostUntold_2 : decode cX7_mostUntold 2 = .ok (.ldc 135, 2) := by decide +kernel
theorem dX7_mostUntold_4 : decode cX7_mostUntold 4 = .ok (.istore_n 2, 1) := by decide +kernel
theorem dX7_mostUntold_5 : decode cX7_mostUntold 5 = .ok (.iconst 0, 1) := by decide +kernel
theorem dX7_mostUntold_6 : decode cX7_mostUntold 6 = .ok (.istore_n 3, 1) := by decide +kernel
theorem dX7_mostUntold_7 : decode cX7_mostUntold 7 = .ok (.iload_n 3, 1) := by decide +kernel
theorem dX7_mostUntold_8 : decode cX7_mostUntold 8 = .ok (.bipush 6, 2) := by decide +kernel
theorem dX7_mostUntold_10 : decode cX7_mostUntold 10 = .ok (.if_icmp .ge 34, 3) := by decide +kernel
theorem dX7_mostUntold_13 : decode cX7_mostUntold 13 = .ok (.aload_n 0, 1) := by decide +kernel
theorem dX7_mostUntold_14 : decode cX7_mostUntold 14 = .ok (.getfield 10, 3) := by decide +kernel
theorem dX7_mostUntold_17 : decode cX7_mostUntold 17 = .ok (.getfield 225, 3) := by decide +kernel
theorem dX7_mostUntold_20 : decode cX7_mostUntold 20 = .ok (.iload_n 3, 1) := by decide +kernel
theorem dX7_mostUntold_21 : decode cX7_mostUntold 21 = .ok (.aaload, 1) := by decide +kernel
theorem dX7_mostUntold_22 : decode cX7_mostUntold 22 = .ok (.invokevirtual 216, 3) := by decide +kernel
theorem dX7_mostUntold_25 : decode cX7_mostUntold 25 = .ok (.istore 4, 2) := by decide +kernel
theorem dX7_mostUntold_27 : decode cX7_mostUntold 27 = .ok (.iload 4, 2) := by decide +kernel
theorem dX7_mostUntold_29 : decode cX7_mostUntold 29 = .ok (.iload_n 1, 1) := by decide +kernel
theorem dX7_mostUntold_30 : decode cX7_mostUntold 30 = .ok (.if_icmp .le 8, 3) := by decide +kernel
theorem dX7_mostUntold_33 : decode cX7_mostUntold 33 = .ok (.iload 4, 2) := by decide +kernel
theorem dX7_mostUntold_35 : decode cX7_mostUntold 35 = .ok (.istore_n 1, 1) := by decide +kernel
theorem dX7_mostUntold_36 : decode cX7_mostUntold 36 = .ok (.iload_n 3, 1) := by decide +kernel
theorem dX7_mostUntold_37 : decode cX7_mostUntold 37 = .ok (.istore_n 2, 1) := by decide +kernel
theorem dX7_mostUntold_38 : decode cX7_mostUntold 38 = .ok (.iinc 3 1, 3) := by decide +kernel
theorem dX7_mostUntold_41 : decode cX7_mostUntold 41 = .ok (.goto (-34), 3) := by decide +kernel
theorem dX7_mostUntold_44 : decode cX7_mostUntold 44 = .ok (.iload_n 2, 1) := by decide +kernel
theorem dX7_mostUntold_45 : decode cX7_mostUntold 45 = .ok (.ireturn, 1) := by decide +kernel
theorem dX7_undo_0 : decode cX7_undo 0 = .ok (.aload_n 0, 1) := by decide +kernel
theorem dX7_undo_1 : decode cX7_undo 1 = .ok (.getfield 22, 3) := by decide +kernel
theorem dX7_undo_4 : decode cX7_undo 4 = .ok (.aload_n 0, 1) := by decide +kernel
theorem dX7_undo_5 : decode cX7_undo 5 = .ok (.getfield 10, 3) := by decide +kernel
theorem dX7_undo_8 : decode cX7_undo 8 = .ok (.invokevirtual 241, 3) := by decide +kernel
theorem dX7_undo_11 : decode cX7_undo 11 = .ok (.ifCond .eq 13, 3) := by decide +kernel
theorem dX7_undo_14 : decode cX7_undo 14 = .ok (.aload_n 0, 1) := by decide +kernel
theorem dX7_undo_15 : decode cX7_undo 15 = .ok (.getfield 22, 3) := by decide +kernel
theorem dX7_undo_18 : decode cX7_undo 18 = .ok (.getfield 210, 3) := by decide +kernel
theorem dX7_undo_21 : decode cX7_undo 21 = .ok (.goto 5, 3) := by decide +kernel
theorem dX7_undo_24 : decode cX7_undo 24 = .ok (.ldc 245, 2) := by decide +kernel
theorem dX7_undo_26 : decode cX7_undo 26 = .ok (.ireturn, 1) := by decide +kernel
theorem dX7_within_0 : decode cX7_within 0 = .ok (.iload_n 0, 1) := by decide +kernel
theorem dX7_within_1 : decode cX7_within 1 = .ok (.iload_n 1, 1) := by decide +kernel
theorem dX7_within_2 : decode cX7_within 2 = .ok (.if_icmp .lt 12, 3) := by decide +kernel
theorem dX7_within_5 : decode cX7_within 5 = .ok (.iload_n 0, 1) := by decide +kernel
theorem dX7_within_6 : decode cX7_within 6 = .ok (.iload_n 2, 1) := by decide +kernel
theorem dX7_within_7 : decode cX7_within 7 = .ok (.if_icmp .gt 7, 3) := by decide +kernel
theorem dX7_within_10 : decode cX7_within 10 = .ok (.iconst 1, 1) := by decide +kernel
theorem dX7_within_11 : decode cX7_within 11 = .ok (.goto 4, 3) := by decide +kernel
theorem dX7_within_14 : decode cX7_within 14 = .ok (.iconst 0, 1) := by decide +kernel
theorem dX7_within_15 : decode cX7_within 15 = .ok (.ireturn, 1) := by decide +kernel
/-! THE PAD AND ITS READER: three cells in a row: the pad a, its signs a+1, the reader a+2 (at, kind, amount, hours, gauge) -/
def RepT (g : GG) (A : Nat → Prop) (M : MM) (a : Nat) (f : Nat → Int32) (len : Int32) (rs : Nat → Int32) : Prop :=
  A a ∧ A (a + 1) ∧ A (a + 2) ∧ M a = .inr (3, [.ref (a + 1), .int len]) ∧ M (a + 1) = .inl (g.2 0, 60, .inl f) ∧ M (a + 2) = .inr (2, [.ref a, .int (rs 0), .int (rs 1), .int (rs 2), .int (rs 3), .int (rs 4)])
def FrT (a : Nat) (M0 M : MM) : Prop := ∀ q, ¬ (a ≤ q ∧ q < a + 3) → M q = M0 q
theorem FrT.rf {a : Nat} {M : MM} : FrT a M M := fun _ _ => rfl
theorem FrT.tr {a : Nat} {M0 M1 M2 : MM} (h1 : FrT a M0 M1) (h2 : FrT a M1 M2) : FrT a M0 M2 := fun q h => (h2 q h).trans (h1 q h)
theorem FrT.up {a : Nat} {M0 M : MM} (hF : FrT a M0 M) {q : Nat} {e : va_E} (h1 : a ≤ q) (h2 : q < a + 3) : FrT a M0 (va_up M q e) := fun z h => by
  rw [va_up_ne _ _ (by omega)]
  exact hF z h
theorem RepT.agr {g : GG} {A : Nat → Prop} {M M1 : MM} {a : Nat} {f : Nat → Int32} {len : Int32} {rs : Nat → Int32} (h : RepT g A M a f len rs) (ha : ∀ q, a ≤ q → q < a + 3 → M1 q = M q) : RepT g A M1 a f len rs := by
  obtain ⟨h1, h2, h3, h4, h5, h6⟩ := h
  exact ⟨h1, h2, h3, by rw [ha _ (by omega) (by omega)]; exact h4, by rw [ha _ (by omega) (by omega)]; exact h5, by rw [ha _ (by omega) (by omega)]; exact h6⟩
theorem RepT.eqr {g : GG} {A : Nat → Prop} {M : MM} {a : Nat} {f : Nat → Int32} {len : Int32} {rs rs1 : Nat → Int32} (h : RepT g A M a f len rs) (e : rs1 = rs) : RepT g A M a f len rs1 := by rw [e]; exact h
theorem RepT.eql {g : GG} {A : Nat → Prop} {M : MM} {a : Nat} {f f1 : Nat → Int32} {len len1 : Int32} {rs : Nat → Int32} (h : RepT g A M a f len rs) (e : len1 = len) (e2 : f1 = f) : RepT g A M a f1 len1 rs := by rw [e, e2]; exact h
section TROWS
variable {p : Program} {l : Launch} {e : Env} {R : Room} {s : State} {m : MethodId} {args : Array Value} {below : List Frame} {meth : Method} {c : Code} {H H0 : Heap} {locs : List Loc} {cells slots : Nat} {Q : State → Prop} {cc : ByteArray} {pc : Nat} {ls : Array Slot} {rest : List Value} {g : GG} {A : Nat → Prop} {M M0 : MM} {own : String} {index : Nat} {Ts : List Cond} {a : Nat} {f : Nat → Int32} {len : Int32} {rs : Nat → Int32}
theorem rt_getPs (hx : p.tables.exec = Jvm.exec) (hb : c.code = cc) (hts : ∀ w ∈ Ts, w.before args s = true) (hin : ∀ w ∈ u_ws RX3 TX3 2, w ∈ Ts) (hown : s.vm.findClass own = some m.cls) (hK : KK g s) (hM : HD g A M H) (hR : RepT g A M a f len rs) (hlink : (Cond.fieldLink own index (TX3 0).1 (TX3 0).2.1 (TX3 0).2.2.1).before args s = true) (hdg : decode cc pc = .ok (.getfield index, 3)) (kk : W p l e R s m args below meth c H locs cells slots Q (F0 m (pc + 3) ls (.ref (a + 1) :: rest))) : W p l e R s m args below meth c H locs cells slots Q (F0 m (pc) ls (.ref (a) :: rest)) :=
  m_get (ci := 3) (C := RX3) (T := TX3) (N := 2) hx hb hts hin hown hK hM hR.1 hR.2.2.2.1 rfl 0 (by decide) hlink rfl hdg kk
theorem rt_getPl (hx : p.tables.exec = Jvm.exec) (hb : c.code = cc) (hts : ∀ w ∈ Ts, w.before args s = true) (hin : ∀ w ∈ u_ws RX3 TX3 2, w ∈ Ts) (hown : s.vm.findClass own = some m.cls) (hK : KK g s) (hM : HD g A M H) (hR : RepT g A M a f len rs) (hlink : (Cond.fieldLink own index (TX3 1).1 (TX3 1).2.1 (TX3 1).2.2.1).before args s = true) (hdg : decode cc pc = .ok (.getfield index, 3)) (kk : W p l e R s m args below meth c H locs cells slots Q (F0 m (pc + 3) ls (.int len :: rest))) : W p l e R s m args below meth c H locs cells slots Q (F0 m (pc) ls (.ref (a) :: rest)) :=
  m_get (ci := 3) (C := RX3) (T := TX3) (N := 2) hx hb hts hin hown hK hM hR.1 hR.2.2.2.1 rfl 1 (by decide) hlink rfl hdg kk
theorem rt_getDp (hx : p.tables.exec = Jvm.exec) (hb : c.code = cc) (hts : ∀ w ∈ Ts, w.before args s = true) (hin : ∀ w ∈ u_ws RX2 TX2 6, w ∈ Ts) (hown : s.vm.findClass own = some m.cls) (hK : KK g s) (hM : HD g A M H) (hR : RepT g A M a f len rs) (hlink : (Cond.fieldLink own index (TX2 0).1 (TX2 0).2.1 (TX2 0).2.2.1).before args s = true) (hdg : decode cc pc = .ok (.getfield index, 3)) (kk : W p l e R s m args below meth c H locs cells slots Q (F0 m (pc + 3) ls (.ref a :: rest))) : W p l e R s m args below meth c H locs cells slots Q (F0 m (pc) ls (.ref (a + 2) :: rest)) :=
  m_get (ci := 2) (C := RX2) (T := TX2) (N := 6) hx hb hts hin hown hK hM hR.2.2.1 hR.2.2.2.2.2 rfl 0 (by decide) hlink rfl hdg kk
theorem rt_getD (hx : p.tables.exec = Jvm.exec) (hb : c.code = cc) (hts : ∀ w ∈ Ts, w.before args s = true) (hin : ∀ w ∈ u_ws RX2 TX2 6, w ∈ Ts) (hown : s.vm.findClass own = some m.cls) (hK : KK g s) (hM : HD g A M H) (hR : RepT g A M a f len rs) (k : Nat) (hk : k < 5) (hlink : (Cond.fieldLink own index (TX2 (k + 1)).1 (TX2 (k + 1)).2.1 (TX2 (k + 1)).2.2.1).before args s = true) (hdg : decode cc pc = .ok (.getfield index, 3)) (kk : W p l e R s m args below meth c H locs cells slots Q (F0 m (pc + 3) ls (.int (rs k) :: rest))) : W p l e R s m args below meth c H locs cells slots Q (F0 m (pc) ls (.ref (a + 2) :: rest)) :=
  m_get (ci := 2) (C := RX2) (T := TX2) (N := 6) hx hb hts hin hown hK hM hR.2.2.1 hR.2.2.2.2.2 rfl (k + 1) (by omega) hlink (by match k, hk with
    | 0, _ => rfl
    | 1, _ => rfl
    | 2, _ => rfl
    | 3, _ => rfl
    | 4, _ => rfl) hdg kk
theorem rt_putD (hx : p.tables.exec = Jvm.exec) (hb : c.code = cc) (hts : ∀ w ∈ Ts, w.before args s = true) (hin : ∀ w ∈ u_ws RX2 TX2 6, w ∈ Ts) (hown : s.vm.findClass own = some m.cls) (hK : KK g s) (hM : HD g A M H) (hS : va_S A H0 H locs) (hR : RepT g A M a f len rs) (hF : FrT a M0 M) (k : Nat) (hk : k < 5) (hk1 : k ≠ 1) (hlink : (Cond.fieldLink own index (TX2 (k + 1)).1 (TX2 (k + 1)).2.1 (TX2 (k + 1)).2.2.1).before args s = true) {x : Int32} (hdg : decode cc pc = .ok (.putfield index, 3)) (kk : ∀ (M1 : MM) (H1 : Heap) (locs1 : List Loc), HD g A M1 H1 → RepT g A M1 a f len (va_up rs k x) → FrT a M0 M1 → va_S A H0 H1 locs1 → W p l e R s m args below meth c H1 locs1 cells slots Q (F0 m (pc + 3) ls rest)) : W p l e R s m args below meth c H locs cells slots Q (F0 m (pc) ls (.int x :: .ref (a + 2) :: rest)) := by
  have e1 : (TX2 (k + 1)).2.2.2 = false ∧ tyX2 (k + 1) = .int := by
    match k, hk, hk1 with
    | 0, _, _ => exact ⟨rfl, rfl⟩
    | 2, _, _ => exact ⟨rfl, rfl⟩
    | 3, _, _ => exact ⟨rfl, rfl⟩
    | 4, _, _ => exact ⟨rfl, rfl⟩
  refine m_put (ci := 2) (C := RX2) (T := TX2) (N := 6) hx hb hts hin tyX2 tyX2_ok nmX2 hown hK hM hS hR.2.2.1 hR.2.2.2.2.2 rfl (k + 1) (by omega) hlink e1.1 (by rw [e1.2]; rfl) (by rw [e1.2]; rfl) (by simp; omega) hdg (fun H1 locs1 hM1 hS1 => ?_)
  have e2 : (Sum.inr (2, ([.ref a, .int (rs 0), .int (rs 1), .int (rs 2), .int (rs 3), .int (rs 4)] : List Value).set (k + 1) (.int x)) : va_E) = .inr (2, [.ref a, .int (va_up rs k x 0), .int (va_up rs k x 1), .int (va_up rs k x 2), .int (va_up rs k x 3), .int (va_up rs k x 4)]) := by
    match k, hk with
    | 0, _ => rfl
    | 1, _ => rfl
    | 2, _ => rfl
    | 3, _ => rfl
    | 4, _ => rfl
  rw [e2] at hM1
  obtain ⟨h1, h2, h3, h4, h5, h6⟩ := hR
  exact kk _ H1 locs1 hM1 ⟨h1, h2, h3, by rw [va_up_ne _ _ (by omega)]; exact h4, by rw [va_up_ne _ _ (by omega)]; exact h5, va_up_self _ _ _⟩ (hF.up (by omega) (by omega)) hS1
theorem rt_putDk (hx : p.tables.exec = Jvm.exec) (hb : c.code = cc) (hts : ∀ w ∈ Ts, w.before args s = true) (hin : ∀ w ∈ u_ws RX2 TX2 6, w ∈ Ts) (hown : s.vm.findClass own = some m.cls) (hK : KK g s) (hM : HD g A M H) (hS : va_S A H0 H locs) (hR : RepT g A M a f len rs) (hF : FrT a M0 M) (hlink : (Cond.fieldLink own index (TX2 2).1 (TX2 2).2.1 (TX2 2).2.2.1).before args s = true) {x : Int32} (hch : narrow .char (.int x) = .int x ∧ fits .char (.int x) = true) (hdg : decode cc pc = .ok (.putfield index, 3)) (kk : ∀ (M1 : MM) (H1 : Heap) (locs1 : List Loc), HD g A M1 H1 → RepT g A M1 a f len (va_up rs 1 x) → FrT a M0 M1 → va_S A H0 H1 locs1 → W p l e R s m args below meth c H1 locs1 cells slots Q (F0 m (pc + 3) ls rest)) : W p l e R s m args below meth c H locs cells slots Q (F0 m (pc) ls (.int x :: .ref (a + 2) :: rest)) := by
  refine m_put (ci := 2) (C := RX2) (T := TX2) (N := 6) hx hb hts hin tyX2 tyX2_ok nmX2 hown hK hM hS hR.2.2.1 hR.2.2.2.2.2 rfl 2 (by decide) hlink rfl hch.1 hch.2 (Nat.le_of_ble_eq_true rfl) hdg (fun H1 locs1 hM1 hS1 => ?_)
  have e2 : (Sum.inr (2, ([.ref a, .int (rs 0), .int (rs 1), .int (rs 2), .int (rs 3), .int (rs 4)] : List Value).set 2 (.int x)) : va_E) = .inr (2, [.ref a, .int (va_up rs 1 x 0), .int (va_up rs 1 x 1), .int (va_up rs 1 x 2), .int (va_up rs 1 x 3), .int (va_up rs 1 x 4)]) := rfl
  rw [e2] at hM1
  obtain ⟨h1, h2, h3, h4, h5, h6⟩ := hR
  exact kk _ H1 locs1 hM1 ⟨h1, h2, h3, by rw [va_up_ne _ _ (by omega)]; exact h4, by rw [va_up_ne _ _ (by omega)]; exact h5, va_up_self _ _ _⟩ (hF.up (by omega) (by omega)) hS1
theorem rt_putPl (hx : p.tables.exec = Jvm.exec) (hb : c.code = cc) (hts : ∀ w ∈ Ts, w.before args s = true) (hin : ∀ w ∈ u_ws RX3 TX3 2, w ∈ Ts) (hown : s.vm.findClass own = some m.cls) (hK : KK g s) (hM : HD g A M H) (hS : va_S A H0 H locs) (hR : RepT g A M a f len rs) (hF : FrT a M0 M) (hlink : (Cond.fieldLink own index (TX3 1).1 (TX3 1).2.1 (TX3 1).2.2.1).before args s = true) {x : Int32} (hdg : decode cc pc = .ok (.putfield index, 3)) (kk : ∀ (M1 : MM) (H1 : Heap) (locs1 : List Loc), HD g A M1 H1 → RepT g A M1 a f x rs → FrT a M0 M1 → va_S A H0 H1 locs1 → W p l e R s m args below meth c H1 locs1 cells slots Q (F0 m (pc + 3) ls rest)) : W p l e R s m args below meth c H locs cells slots Q (F0 m (pc) ls (.int x :: .ref a :: rest)) := by
  refine m_put (ci := 3) (C := RX3) (T := TX3) (N := 2) hx hb hts hin tyX3 tyX3_ok nmX3 hown hK hM hS hR.1 hR.2.2.2.1 rfl 1 (by decide) hlink rfl rfl rfl (Nat.le_of_ble_eq_true rfl) hdg (fun H1 locs1 hM1 hS1 => ?_)
  obtain ⟨h1, h2, h3, h4, h5, h6⟩ := hR
  exact kk _ H1 locs1 hM1 ⟨h1, h2, h3, va_up_self _ _ _, by rw [va_up_ne _ _ (by omega)]; exact h5, by rw [va_up_ne _ _ (by omega)]; exact h6⟩ (hF.up (by omega) (by omega)) hS1
theorem rt_lenS (hx : p.tables.exec = Jvm.exec) (hb : c.code = cc) (hK : KK g s) (hM : HD g A M H) (hR : RepT g A M a f len rs) (hdg : decode cc pc = .ok (.arraylength, 1)) (kk : W p l e R s m args below meth c H locs cells slots Q (F0 m (pc + 1) ls (.int (nI 60) :: rest))) : W p l e R s m args below meth c H locs cells slots Q (F0 m (pc) ls (.ref (a + 1) :: rest)) :=
  m_alen hx hb hK hM hR.2.1 0 hR.2.2.2.2.1 rfl rfl hdg kk
theorem rt_cald (hx : p.tables.exec = Jvm.exec) (hb : c.code = cc) (hK : KK g s) (hM : HD g A M H) (hR : RepT g A M a f len rs) {i : Nat} (hi : i < 60) (hdg : decode cc pc = .ok (.caload, 1)) (kk : W p l e R s m args below meth c H locs cells slots Q (F0 m (pc + 1) ls (.int (f i) :: rest))) : W p l e R s m args below meth c H locs cells slots Q (F0 m (pc) ls (.int (nI i) :: .ref (a + 1) :: rest)) := by
  refine m_cald hx hb hK hM hR.2.1 hR.2.2.2.2.1 (vp_in_nI hi (by omega)) hdg ?_
  rw [nI_clamp (by omega)]
  exact kk
theorem rt_cast (hx : p.tables.exec = Jvm.exec) (hb : c.code = cc) (hK : KK g s) (hM : HD g A M H) (hS : va_S A H0 H locs) (hR : RepT g A M a f len rs) (hF : FrT a M0 M) {i : Nat} (hi : i < 60) {x : Int32} (hdg : decode cc pc = .ok (.castore, 1)) (kk : ∀ (M1 : MM) (H1 : Heap) (locs1 : List Loc), HD g A M1 H1 → RepT g A M1 a (va_up f i (vp_nar .char x)) len rs → FrT a M0 M1 → va_S A H0 H1 locs1 → W p l e R s m args below meth c H1 locs1 cells slots Q (F0 m (pc + 1) ls rest)) : W p l e R s m args below meth c H locs cells slots Q (F0 m (pc) ls (.int x :: .int (nI i) :: .ref (a + 1) :: rest)) := by
  refine m_cast hx hb hK hM hS hR.2.1 hR.2.2.2.2.1 (vp_in_nI hi (by omega)) hdg (fun H1 locs1 hM1 hS1 => ?_)
  rw [nI_clamp (show i < 2 ^ 31 by omega)] at hM1
  obtain ⟨h1, h2, h3, h4, h5, h6⟩ := hR
  exact kk _ H1 locs1 hM1 ⟨h1, h2, h3, by rw [va_up_ne _ _ (by omega)]; exact h4, va_up_self _ _ _, by rw [va_up_ne _ _ (by omega)]; exact h6⟩ (hF.up (by omega) (by omega)) hS1
end TROWS
/-! what is read -/
def sgC (f : Nat → Int32) (L q : Nat) : Int32 := if q < L then f q else 0
def dgC (f : Nat → Int32) (L q : Nat) : Int32 := if 48 ≤ sgC f L q ∧ sgC f L q ≤ 57 then sgC f L q - 48 else -1
def rnC (f : Nat → Int32) (L q : Nat) (lo hi : Int32) : Int32 × Nat :=
  if dgC f L q < lo ∨ hi < dgC f L q then (-1, q)
  else if dgC f L q = 0 ∨ dgC f L (q + 1) < 0 then (dgC f L q, q + 1)
  else if hi < 10 * dgC f L q + dgC f L (q + 1) then (-1, q + 1)
  else (10 * dgC f L q + dgC f L (q + 1), q + 2)
theorem rnC_q (f : Nat → Int32) (L q : Nat) (lo hi : Int32) : (rnC f L q lo hi).2 ≤ q + 2 := by
  unfold rnC
  split
  · exact Nat.le_add_right _ _
  · split
    · exact Nat.le_succ _
    · split
      · exact Nat.le_succ _
      · exact Nat.le_refl _
def raiC (f : Nat → Int32) (L q : Nat) : Bool × Nat × Int32 × Int32 :=
  if (rnC f L q 0 99).1 < 0 ∨ ¬ sgC f L (rnC f L q 0 99).2 = 104 then (false, (rnC f L q 0 99).2, 0, 0)
  else (decide (0 ≤ (rnC f L ((rnC f L q 0 99).2 + 1) 1 24).1), (rnC f L ((rnC f L q 0 99).2 + 1) 1 24).2, (rnC f L q 0 99).1, (rnC f L ((rnC f L q 0 99).2 + 1) 1 24).1)
/-- an order: whether it can be read, where it ends (or the fault), its kind, its numbers -/
def ordC (f : Nat → Int32) (L q : Nat) : Bool × Nat × Int32 × Int32 × Int32 :=
  if sgC f L q = 114 then ((raiC f L (q + 1)).1, (raiC f L (q + 1)).2.1, 114, (raiC f L (q + 1)).2.2.1, (raiC f L (q + 1)).2.2.2)
  else if sgC f L q = 115 then (decide (0 ≤ (rnC f L (q + 1) 0 5).1), (rnC f L (q + 1) 0 5).2, 115, (rnC f L (q + 1) 0 5).1, 0)
  else (false, q, 0, 0, 0)
/-- the fault from the order at q on, at most z orders: 60 and more if there is none -/
def fauC (f : Nat → Int32) (L : Nat) : Nat → Nat → Option Nat
  | 0, q => some q
  | z + 1, q => if (ordC f L q).1 = true then (if L ≤ (ordC f L q).2.1 then none else if sgC f L (ordC f L q).2.1 = 59 then fauC f L z ((ordC f L q).2.1 + 1) else some (ordC f L q).2.1) else some (ordC f L q).2.1
def codC (x : Int64) (p : Int32) : Int32 := ((x.toUInt64 >>> ((8 * p).toInt64.toUInt64 &&& Int64.toUInt64 63)).toInt64).toInt32 &&& 255
def shrC (x : Int64) (p : Int32) : Int64 := (x.toUInt64 >>> ((8 * p).toInt64.toUInt64 &&& Int64.toUInt64 63)).toInt64
def winC (x lo hi : Int32) : Int32 := if lo ≤ x ∧ x ≤ hi then 1 else 0
/-- the characters of a number: none if a code is out of range -/
def chW (x : Int64) : Nat → Nat → Option Nat
  | 0, p => some p
  | z + 1, p => if codC x (nI p) = 0 then some p else if winC (codC x (nI p)) 33 126 = 0 then none else chW x z (p + 1)
def chC (x : Int64) : Int32 := match chW x 8 0 with
  | none => 0
  | some p => if p = 8 ∨ shrC x (nI p) = 0 then nI p else 0
theorem chW_le (x : Int64) : ∀ (z p q : Nat), chW x z p = some q → p ≤ q ∧ q ≤ p + z := by
  intro z
  induction z with
  | zero => intro p q h; cases h; exact ⟨Nat.le_refl _, Nat.le_refl _⟩
  | succ z ih =>
    intro p q h
    unfold chW at h
    split at h
    · cases h; omega
    · split at h
      · cases h
      · have := ih _ _ h; omega
end
section
theorem nar_ite {P : Prop} [Decidable P] : narrow .boolean (.int (if P then (1 : Int32) else 0)) = .int (if P then (1 : Int32) else 0) := by
  by_cases h : P
  · rw [if_pos h]; rfl
  · rw [if_neg h]; rfl
theorem rs_same {rs : Nat → Int32} {q : Nat} (h : rs 0 = nI q) : va_up rs 0 (nI q) = rs := by
  funext j
  unfold va_up
  by_cases hj : j = 0
  · rw [if_pos hj, hj, h]
  · rw [if_neg hj]
theorem rs_one {rs : Nat → Int32} {q : Nat} (h : rs 0 = nI q) : va_up rs 0 (nI (q + 1)) = va_up rs 0 (rs 0 + 1) := by rw [h, nI_1]
theorem rs_two {rs : Nat → Int32} {q : Nat} (h : rs 0 = nI q) : va_up rs 0 (nI (q + 2)) = va_up (va_up rs 0 (rs 0 + 1)) 0 (va_up rs 0 (rs 0 + 1) 0 + 1) := by
  rw [va_upup, va_up_self, h, nI_1, nI_1]
section
variable {g : GG} {A : Nat → Prop} {M0 M1 : MM} {a : Nat} {f : Nat → Int32} {len : Int32} {rs : Nat → Int32} {L q : Nat} {lo hi : Int32}
theorem rn_end0 {r : Int32} {q' : Nat} (e : rnC f L q lo hi = (r, q')) (hR : RepT g A M1 a f len (va_up rs 0 (nI q'))) (hF : FrT a M0 M1) : r = (rnC f L q lo hi).1 ∧ RepT g A M1 a f len (va_up rs 0 (nI (rnC f L q lo hi).2)) ∧ FrT a M0 M1 := by
  rw [e]
  exact ⟨rfl, hR, hF⟩
theorem rn_a (c : dgC f L q < lo) : rnC f L q lo hi = (-1, q) := if_pos (Or.inl c)
theorem rn_b (c : ¬ dgC f L q ≤ hi) : rnC f L q lo hi = (-1, q) := if_pos (Or.inr (Int32.not_le.mp c))
theorem rn_c (c1 : ¬ dgC f L q < lo) (c2 : dgC f L q ≤ hi) (c3 : dgC f L q = 0) : rnC f L q lo hi = (dgC f L q, q + 1) := (if_neg (fun z => z.elim c1 (Int32.not_lt.mpr c2))).trans (if_pos (Or.inl c3))
theorem rn_d (c1 : ¬ dgC f L q < lo) (c2 : dgC f L q ≤ hi) (c4 : ¬ 0 ≤ dgC f L (q + 1)) : rnC f L q lo hi = (dgC f L q, q + 1) := (if_neg (fun z => z.elim c1 (Int32.not_lt.mpr c2))).trans (if_pos (Or.inr (Int32.not_le.mp c4)))
theorem rn_e (c1 : ¬ dgC f L q < lo) (c2 : dgC f L q ≤ hi) (c3 : ¬ dgC f L q = 0) (c4 : 0 ≤ dgC f L (q + 1)) (c5 : ¬ 10 * dgC f L q + dgC f L (q + 1) ≤ hi) : rnC f L q lo hi = (-1, q + 1) := (if_neg (fun z => z.elim c1 (Int32.not_lt.mpr c2))).trans ((if_neg (fun z => z.elim c3 (Int32.not_lt.mpr c4))).trans (if_pos (Int32.not_le.mp c5)))
theorem rn_f (c1 : ¬ dgC f L q < lo) (c2 : dgC f L q ≤ hi) (c3 : ¬ dgC f L q = 0) (c4 : 0 ≤ dgC f L (q + 1)) (c5 : 10 * dgC f L q + dgC f L (q + 1) ≤ hi) : rnC f L q lo hi = (10 * dgC f L q + dgC f L (q + 1), q + 2) := (if_neg (fun z => z.elim c1 (Int32.not_lt.mpr c2))).trans ((if_neg (fun z => z.elim c3 (Int32.not_lt.mpr c4))).trans (if_neg (Int32.not_lt.mpr c5)))
end
theorem win_y {x lo hi : Int32} (c : ¬ x < lo) (c2 : ¬ hi < x) : 1 = winC x lo hi := (if_pos (⟨Int32.not_lt.mp c, Int32.not_lt.mp c2⟩ : lo ≤ x ∧ x ≤ hi)).symm
theorem win_1 {x lo hi : Int32} (c : x < lo) : 0 = winC x lo hi := (if_neg (fun z : lo ≤ x ∧ x ≤ hi => absurd z.1 (Int32.not_le.mpr c))).symm
theorem win_2 {x lo hi : Int32} (c : hi < x) : 0 = winC x lo hi := (if_neg (fun z : lo ≤ x ∧ x ≤ hi => absurd z.2 (Int32.not_le.mpr c))).symm
section
variable {x : Int64} {q : Nat}
theorem chw_0 (h : 8 ≤ q) (h2 : q ≤ 8) : chW x (8 - q) q = some q := by
  rw [show 8 - q = 0 by omega]
  rfl
theorem chw_s (h : q < 8) : chW x (8 - q) q = if codC x (nI q) = 0 then some q else if winC (codC x (nI q)) 33 126 = 0 then none else chW x (8 - (q + 1)) (q + 1) := by
  rw [show 8 - q = (8 - (q + 1)) + 1 by omega]
  rfl
theorem chw_1 (h : q < 8) (c : codC x (nI q) = 0) : chW x (8 - q) q = some q := by rw [chw_s h, if_pos c]
theorem chw_2 (h : q < 8) (c : ¬ codC x (nI q) = 0) (c2 : winC (codC x (nI q)) 33 126 = 0) : chW x (8 - q) q = none := by rw [chw_s h, if_neg c, if_pos c2]
theorem chw_3 (h : q < 8) (c : ¬ codC x (nI q) = 0) (c2 : ¬ winC (codC x (nI q)) 33 126 = 0) : chW x (8 - (q + 1)) (q + 1) = chW x (8 - q) q := by rw [chw_s h, if_neg c, if_neg c2]
theorem chc_n (h : chW x 8 0 = none) : 0 = chC x := by unfold chC; rw [h]
theorem chc_s (h : chW x 8 0 = some q) : chC x = if q = 8 ∨ shrC x (nI q) = 0 then nI q else 0 := by unfold chC; rw [h]
theorem chc_q (h : chW x 8 0 = some q) : q ≤ 8 := by have := chW_le x 8 0 q h; omega
theorem chc_a (h : chW x 8 0 = some q) (c : nI q = 8) : nI q = chC x := by
  rw [chc_s h, if_pos (Or.inl ?_)]
  have := chc_q h
  exact (nI_eq (by omega) (by decide)).mp c
theorem cmp0 {a : Int64} (c : lg_cmp a 0 = 0) : a = 0 := (lg_cmp_eq a 0).mp c
theorem chc_b (h : chW x 8 0 = some q) (c : lg_cmp (shrC x (nI q)) 0 = 0) : nI q = chC x := by rw [chc_s h, if_pos (Or.inr (cmp0 c))]
theorem chc_c (h : chW x 8 0 = some q) (c1 : ¬ nI q = 8) (c2 : ¬ lg_cmp (shrC x (nI q)) 0 = 0) : 0 = chC x := by
  rw [chc_s h, if_neg]
  rintro (z | z)
  · exact c1 (by rw [z]; rfl)
  · exact c2 ((lg_cmp_eq _ 0).mpr z)
end
theorem ite_ok {o : Bool} (c : ¬ (if o = true then (1 : Int32) else 0) = 0) : o = true := Classical.byContradiction (fun h => c (if_neg h))
theorem ite_no {o : Bool} (c : (if o = true then (1 : Int32) else 0) = 0) : ¬ o = true := ite10.mp c
theorem dec_ite (x : Int32) : (if 0 ≤ x then (1 : Int32) else 0) = if decide (0 ≤ x) = true then 1 else 0 := by
  by_cases h : 0 ≤ x
  · rw [if_pos h, if_pos (decide_eq_true h)]
  · rw [if_neg h, if_neg (fun q => h (of_decide_eq_true q))]
theorem rg_neg {r1 x : Int32} (e : r1 = x) (c : r1 < 0) : (0 : Int32) = if 0 ≤ x then 1 else 0 := by rw [← e, if_neg (Int32.not_le.mpr c)]
theorem rg_pos {r1 x : Int32} (e : r1 = x) (c : ¬ r1 < 0) : (1 : Int32) = if 0 ≤ x then 1 else 0 := by rw [← e, if_pos (Int32.not_lt.mp c)]
theorem rd_neg {r1 x : Int32} (e : r1 = x) (c : r1 < 0) : (0 : Int32) = if decide (0 ≤ x) = true then 1 else 0 := (rg_neg e c).trans (dec_ite x)
theorem rd_pos {r1 x : Int32} (e : r1 = x) (c : ¬ r1 < 0) : (1 : Int32) = if decide (0 ≤ x) = true then 1 else 0 := (rg_pos e c).trans (dec_ite x)
theorem nI_nlt_of {a b : Nat} (ha : a < 2 ^ 31) (hb : b < 2 ^ 31) (h : nI a < nI b) : a < b := (nI_ltI ha hb).mp h
section
variable {f : Nat → Int32} {L q : Nat}
theorem dg_a (c : sgC f L q < 48) : -1 = dgC f L q := (if_neg (fun z : 48 ≤ sgC f L q ∧ sgC f L q ≤ 57 => absurd z.1 (Int32.not_le.mpr c))).symm
theorem dg_b (c : 57 < sgC f L q) : -1 = dgC f L q := (if_neg (fun z : 48 ≤ sgC f L q ∧ sgC f L q ≤ 57 => absurd z.2 (Int32.not_le.mpr c))).symm
theorem dg_c (c : ¬ sgC f L q < 48) (c2 : ¬ 57 < sgC f L q) : sgC f L q - 48 = dgC f L q := (if_pos (⟨Int32.not_lt.mp c, Int32.not_lt.mp c2⟩ : 48 ≤ sgC f L q ∧ sgC f L q ≤ 57)).symm
theorem rai_1 {r1 : Int32} (e : r1 = (rnC f L q 0 99).1) (c : r1 < 0) : raiC f L q = (false, (rnC f L q 0 99).2, 0, 0) := if_pos (Or.inl (by rw [← e]; exact c))
theorem rai_2 (c : ¬ sgC f L (rnC f L q 0 99).2 = 104) : raiC f L q = (false, (rnC f L q 0 99).2, 0, 0) := if_pos (Or.inr c)
theorem rai_3 {r1 : Int32} (e : r1 = (rnC f L q 0 99).1) (c : ¬ r1 < 0) (c2 : sgC f L (rnC f L q 0 99).2 = 104) : raiC f L q = (decide (0 ≤ (rnC f L ((rnC f L q 0 99).2 + 1) 1 24).1), (rnC f L ((rnC f L q 0 99).2 + 1) 1 24).2, (rnC f L q 0 99).1, (rnC f L ((rnC f L q 0 99).2 + 1) 1 24).1) := if_neg (fun z => z.elim (by rw [← e]; exact c) (fun z => z c2))
theorem ord_n (c : ¬ sgC f L q = 114) (c2 : ¬ sgC f L q = 115) : ordC f L q = (false, q, 0, 0, 0) := (if_neg c).trans (if_neg c2)
theorem ord_r (c : sgC f L q = 114) : ordC f L q = ((raiC f L (q + 1)).1, (raiC f L (q + 1)).2.1, 114, (raiC f L (q + 1)).2.2.1, (raiC f L (q + 1)).2.2.2) := if_pos c
theorem ord_s (c : sgC f L q = 115) : ordC f L q = (decide (0 ≤ (rnC f L (q + 1) 0 5).1), (rnC f L (q + 1) 0 5).2, 115, (rnC f L (q + 1) 0 5).1, 0) := (if_neg (by rw [c]; decide)).trans (if_pos c)
theorem raiC_q (f : Nat → Int32) (L q : Nat) : (raiC f L q).2.1 ≤ q + 5 := by
  have h1 := rnC_q f L q 0 99
  have h2 := rnC_q f L ((rnC f L q 0 99).2 + 1) 1 24
  unfold raiC
  split
  · show (rnC f L q 0 99).2 ≤ _; omega
  · show (rnC f L ((rnC f L q 0 99).2 + 1) 1 24).2 ≤ _; omega
theorem ordC_q (f : Nat → Int32) (L q : Nat) : (ordC f L q).2.1 ≤ q + 6 := by
  unfold ordC
  split
  · have := raiC_q f L (q + 1); show (raiC f L (q + 1)).2.1 ≤ _; omega
  · split
    · have := rnC_q f L (q + 1) 0 5; show (rnC f L (q + 1) 0 5).2 ≤ _; omega
    · show q ≤ _; omega
theorem sg_chr (hch : ∀ i, i < 60 → narrow .char (.int (f i)) = .int (f i) ∧ fits .char (.int (f i)) = true) (hL : L ≤ 60) (q : Nat) : narrow .char (.int (sgC f L q)) = .int (sgC f L q) ∧ fits .char (.int (sgC f L q)) = true := by
  unfold sgC
  split
  · exact hch q (by omega)
  · exact ⟨rfl, rfl⟩
theorem fau_s {o : Nat} (ho : o < 60) : fauC f L (60 - o) q = if (ordC f L q).1 = true then (if L ≤ (ordC f L q).2.1 then none else if sgC f L (ordC f L q).2.1 = 59 then fauC f L (60 - (o + 1)) ((ordC f L q).2.1 + 1) else some (ordC f L q).2.1) else some (ordC f L q).2.1 := by
  rw [show 60 - o = (60 - (o + 1)) + 1 by omega]
  rfl
theorem fau_0 {o : Nat} (h : 60 ≤ o) (h2 : o ≤ 60) : fauC f L (60 - o) q = some q := by
  rw [show 60 - o = 0 by omega]
  rfl
theorem fau_1 {o : Nat} (ho : o < 60) (ok : (ordC f L q).1 = true) (h : L ≤ (ordC f L q).2.1) : fauC f L (60 - o) q = none := by rw [fau_s ho, if_pos ok, if_pos h]
theorem fau_2 {o : Nat} (ho : o < 60) (ok : (ordC f L q).1 = true) (h : (ordC f L q).2.1 < L) (h2 : ¬ sgC f L (ordC f L q).2.1 = 59) : fauC f L (60 - o) q = some (ordC f L q).2.1 := by rw [fau_s ho, if_pos ok, if_neg (by omega), if_neg h2]
theorem fau_4 {o : Nat} (ho : o < 60) (ok : ¬ (ordC f L q).1 = true) : fauC f L (60 - o) q = some (ordC f L q).2.1 := by rw [fau_s ho, if_neg ok]
theorem fau_3 {o : Nat} (ho : o < 60) (ok : (ordC f L q).1 = true) {r : Int32} (h : r < nI L) (h2 : sgC f L (ordC f L q).2.1 = 59) : fauC f L (60 - (o + 1)) ((ordC f L q).2.1 + 1) = fauC f L (60 - o) q := by
  have hlt : (ordC f L q).2.1 < L := by
    apply Classical.byContradiction
    intro hn
    unfold sgC at h2
    rw [if_neg hn] at h2
    revert h2; decide
  rw [fau_s ho, if_pos ok, if_neg (by omega), if_pos h2]
end
set_option maxHeartbeats 4000000 in
set_option maxRecDepth 100000 in
/-- whether a value lies in a range -/
theorem k_X7_within (l : Launch) (g : GG) (A : Nat → Prop) (M0 : MM) (x lo hi : Int32) : Met l yX7_within (Uw yX7_within cX7_within 3 (Option.some ClassFile.FieldType.boolean)) (rmD 0) (PreM [.int (x), .int (lo), .int (hi)] g A M0) (PosI (fun r M1 => r = (winC x lo hi) ∧ M1 = M0) g A) 0 0 A := by
  refine mk_Met (own := RX7) rfl rfl (by decide) (Nat.le_of_ble_eq_true rfl) ?_
  intro p e s m below meth c ls aa Q haa hQ hx hb hr hlk hml hown hts hK hM hS hl hnm
  obtain ⟨M, hMM⟩ : ∃ M, M = M0 := ⟨_, rfl⟩
  rw [← hMM] at hM
  have ht : ∀ w ∈ lw_good, w.before _ s = true := fun w h => hts w (List.mem_cons_of_mem _ h)
  have hl : lv_has ls 3 [(0, .int (x)), (1, .int (lo)), (2, .int (hi))] := hl
  refine lv_iload_n hx hb dX7_within_0 rfl (lv_at hl 0 rfl) ?_
  refine lv_iload_n hx hb dX7_within_1 rfl (lv_at hl 1 rfl) ?_
  refine lv_icmp_lt (tgt := 14) hx hb dX7_within_2 (by decide) (fun c_2 => ?_) (fun c_2 => ?_)
  · refine lv_iconst (v := 0) hx hb dX7_within_14 (by first | rfl | decide) ?_
    subst hQ
    exact m_zret hx hb hr (rfl) hlk hK hM hS dX7_within_15 (⟨by first | exact win_1 c_2 | exact win_2 c_7, hMM⟩)
  · refine lv_iload_n hx hb dX7_within_5 rfl (lv_at hl 0 rfl) ?_
    refine lv_iload_n hx hb dX7_within_6 rfl (lv_at hl 2 rfl) ?_
    refine lv_icmp_gt (tgt := 14) hx hb dX7_within_7 (by decide) (fun c_7 => ?_) (fun c_7 => ?_)
    · refine lv_iconst (v := 0) hx hb dX7_within_14 (by first | rfl | decide) ?_
      subst hQ
      exact m_zret hx hb hr (rfl) hlk hK hM hS dX7_within_15 (⟨by first | exact win_1 c_2 | exact win_2 c_7, hMM⟩)
    · refine lv_iconst (v := 1) hx hb dX7_within_10 (by first | rfl | decide) ?_
      refine lv_goto (tgt := 15) hx hb dX7_within_11 (by decide) ?_
      subst hQ
      exact m_zret hx hb hr (rfl) hlk hK hM hS dX7_within_15 (⟨win_y c_2 c_7, hMM⟩)
end
section
/-! THE HISTORY: its object h, the array h+1 of its states (permuted by ρ), six valleys from h+2 on -/
abbrev hiE (h : Nat) (sz : Int32) : va_E := .inr (1, [.ref (h + 1), .int sz])
abbrev haE (g : GG) (h : Nat) (ρ : Nat → Nat) : va_E := .inl (g.2 5, 6, .inr (.inr (.inr (.inr (fun j => some (h + 2 + 35 * ρ j))))))
def RepH (g : GG) (A : Nat → Prop) (M : MM) (h : Nat) (ρ : Nat → Nat) (πs : Nat → Nat → Nat) (vs : Nat → VV) (sz : Int32) : Prop :=
  A h ∧ A (h + 1) ∧ Perm 6 ρ ∧ M h = hiE h sz ∧ M (h + 1) = haE g h ρ ∧ ∀ i, i < 6 → RepV g A M (h + 2 + 35 * ρ i) (πs i) (vs i)
def FrH (h : Nat) (M0 M : MM) : Prop := ∀ q, ¬ (h ≤ q ∧ q < h + 212) → M q = M0 q
theorem FrH.rf {h : Nat} {M : MM} : FrH h M M := fun _ _ => rfl
theorem FrH.tr {h : Nat} {M0 M1 M2 : MM} (h1 : FrH h M0 M1) (h2 : FrH h M1 M2) : FrH h M0 M2 := fun q z => (h2 q z).trans (h1 q z)
theorem FrH.up {h : Nat} {M0 M : MM} (hF : FrH h M0 M) {q : Nat} {e : va_E} (h1 : h ≤ q) (h2 : q < h + 212) : FrH h M0 (va_up M q e) := fun z w => by
  rw [va_up_ne _ _ (by omega)]
  exact hF z w
def FrHB (h b0 : Nat) (M0 M : MM) : Prop := ∀ q, ¬ (h ≤ q ∧ q < h + 212) → ¬ (b0 ≤ q ∧ q < b0 + 35) → M q = M0 q
theorem FrHB.of {h b0 : Nat} {M0 M1 M2 : MM} (h1 : FrH h M0 M1) (h2 : FrV b0 M1 M2) : FrHB h b0 M0 M2 := fun q z1 z2 => (h2 q z2).trans (h1 q z1)
theorem rhoF_up (F : Nat → Nat) (k i : Nat) (hk : k ≤ i) (π : Nat → Nat) : va_up (fun j => some (F (rhoN k i π j))) i (some (F (π (i + 1)))) = fun j => some (F (rhoN k (i + 1) π j)) := by
  funext j
  unfold va_up rhoN
  dsimp only
  by_cases h : j = i
  · subst h
    rw [if_pos rfl, if_pos (by omega)]
  · rw [if_neg h]
    by_cases h2 : k ≤ j ∧ j < i
    · rw [if_pos h2, if_pos (by omega)]
    · rw [if_neg h2, if_neg (by omega)]
theorem rhoF_end (F : Nat → Nat) (k n : Nat) (hk : k < n) (π : Nat → Nat) : va_up (fun j => some (F (rhoN k (n - 1) π j))) (n - 1) (some (F (π k))) = fun j => some (F (rotN k n π j)) := by
  funext j
  unfold va_up rhoN rotN
  dsimp only
  by_cases h : j + 1 = n
  · rw [if_pos (by omega), if_pos h]
  · rw [if_neg (by omega), if_neg h]
    by_cases h2 : k ≤ j ∧ j < n - 1
    · rw [if_pos h2, if_pos (by omega)]
    · rw [if_neg h2, if_neg (by omega)]
theorem RepV.frH {g : GG} {A : Nat → Prop} {M0 M : MM} {b h : Nat} {π : Nat → Nat} {v : VV} (hV : RepV g A M0 b π v) (hF : FrH h M0 M) (hd : b + 35 ≤ h ∨ h + 212 ≤ b) : RepV g A M b π v := by
  obtain ⟨h1, h2, h3, h4, h5, h6, h7, h8⟩ := hV
  refine ⟨h1, h2, ?_, ?_, ?_, fun i hi => ?_, fun i hi => ?_, fun j hj => ?_⟩
  · rw [hF _ (by omega)]; exact h3
  · rw [hF _ (by omega)]; exact h4
  · rw [hF _ (by omega)]; exact h5
  · rw [hF _ (by omega)]; exact h6 i hi
  · rw [hF _ (by omega)]; exact h7 i hi
  · have := h2.1 j hj
    rw [hF _ (by omega)]; exact h8 j hj
section
variable {g : GG} {A : Nat → Prop} {M M0 M1 : MM} {h : Nat} {ρ : Nat → Nat} {πs : Nat → Nat → Nat} {vs : Nat → VV} {sz : Int32}
theorem RepH.V (hR : RepH g A M h ρ πs vs sz) {i : Nat} (hi : i < 6) : RepV g A M (h + 2 + 35 * ρ i) (πs i) (vs i) := hR.2.2.2.2.2 i hi
theorem RepH.lt (hR : RepH g A M h ρ πs vs sz) {i : Nat} (hi : i < 6) : ρ i < 6 := hR.2.2.1.1 i hi
theorem RepH.dj (hR : RepH g A M h ρ πs vs sz) {i : Nat} (hi : i < 6) {b0 : Nat} (hd : b0 + 35 ≤ h ∨ h + 212 ≤ b0) : b0 + 35 ≤ h + 2 + 35 * ρ i ∨ h + 2 + 35 * ρ i + 35 ≤ b0 := by
  have := hR.lt hi
  omega
theorem RepH.dj2 (hR : RepH g A M h ρ πs vs sz) {i : Nat} (hi : i < 6) {b0 : Nat} (hd : b0 + 35 ≤ h ∨ h + 212 ≤ b0) : h + 2 + 35 * ρ i + 35 ≤ b0 ∨ b0 + 35 ≤ h + 2 + 35 * ρ i := by
  have := hR.lt hi
  omega
theorem RepH.frV (hR : RepH g A M h ρ πs vs sz) {i : Nat} (hi : i < 6) (hF : FrV (h + 2 + 35 * ρ i) M M1) : FrH h M M1 := fun q hq => hF q (by have := hR.lt hi; omega)
theorem RepH.frB {b0 : Nat} (hR : RepH g A M h ρ πs vs sz) (hF : FrV b0 M M1) (hd : b0 + 35 ≤ h ∨ h + 212 ≤ b0) : RepH g A M1 h ρ πs vs sz := by
  obtain ⟨h1, h2, h3, h4, h5, h6⟩ := hR
  exact ⟨h1, h2, h3, by rw [hF _ (by omega)]; exact h4, by rw [hF _ (by omega)]; exact h5, fun i hi => (h6 i hi).fr hF (by have := h3.1 i hi; omega)⟩
theorem RepH.agr (hR : RepH g A M h ρ πs vs sz) (ha : ∀ q, h ≤ q → q < h + 212 → M1 q = M q) : RepH g A M1 h ρ πs vs sz := by
  obtain ⟨h1, h2, h3, h4, h5, h6⟩ := hR
  refine ⟨h1, h2, h3, by rw [ha _ (by omega) (by omega)]; exact h4, by rw [ha _ (by omega) (by omega)]; exact h5, fun i hi => ?_⟩
  have hl := h3.1 i hi
  obtain ⟨k1, k2, k3, k4, k5, k6, k7, k8⟩ := h6 i hi
  refine ⟨k1, k2, ?_, ?_, ?_, fun i hi => ?_, fun i hi => ?_, fun j hj => ?_⟩
  · rw [ha _ (by omega) (by omega)]; exact k3
  · rw [ha _ (by omega) (by omega)]; exact k4
  · rw [ha _ (by omega) (by omega)]; exact k5
  · rw [ha _ (by omega) (by omega)]; exact k6 i hi
  · rw [ha _ (by omega) (by omega)]; exact k7 i hi
  · have := k2.1 j hj
    rw [ha _ (by omega) (by omega)]; exact k8 j hj
theorem RepH.setV (hR : RepH g A M h ρ πs vs sz) {i : Nat} (hi : i < 6) {v : VV} (hV : RepV g A M1 (h + 2 + 35 * ρ i) (πs i) v) (hF : FrV (h + 2 + 35 * ρ i) M M1) : RepH g A M1 h ρ πs (va_up vs i v) sz := by
  obtain ⟨h1, h2, h3, h4, h5, h6⟩ := hR
  refine ⟨h1, h2, h3, by rw [hF _ (by omega)]; exact h4, by rw [hF _ (by omega)]; exact h5, fun j hj => ?_⟩
  by_cases hji : j = i
  · subst hji
    rw [va_up_self]
    exact hV
  · rw [va_up_ne _ _ hji]
    have hne : ρ j ≠ ρ i := fun z => hji (h3.2 j i hj hi z)
    exact (h6 j hj).fr hF (by omega)
theorem RepH.rot (hR : RepH g A M h ρ πs vs sz) : RepH g A (va_up M (h + 1) (haE g h (rotN 0 6 ρ))) h (rotN 0 6 ρ) (rotN 0 6 πs) (rotN 0 6 vs) sz := by
  obtain ⟨h1, h2, h3, h4, h5, h6⟩ := hR
  have hp : Perm 6 (rotN 0 6 ρ) := by
    refine ⟨fun j hj => ?_, fun i j hi hj z => ?_⟩
    · rw [rot_I]; exact h3.1 _ (by unfold rotI; split; omega; split <;> omega)
    · rw [rot_I, rot_I] at z
      exact rotI_inj (by decide) (h3.2 _ _ (by unfold rotI; split; omega; split <;> omega) (by unfold rotI; split; omega; split <;> omega) z)
  refine ⟨h1, h2, hp, by rw [va_up_ne _ _ (by omega)]; exact h4, va_up_self _ _ _, fun i hi => ?_⟩
  rw [rot_I, rot_I, rot_I]
  have hl : rotI 0 6 i < 6 := by unfold rotI; split; omega; split <;> omega
  have hF : FrV (h + 1 - 35) M (va_up M (h + 1) (haE g h (rotN 0 6 ρ))) ∨ True := Or.inr trivial
  obtain ⟨k1, k2, k3, k4, k5, k6, k7, k8⟩ := h6 _ hl
  refine ⟨k1, k2, ?_, ?_, ?_, fun i hi => ?_, fun i hi => ?_, fun j hj => ?_⟩
  · rw [va_up_ne _ _ (by omega)]; exact k3
  · rw [va_up_ne _ _ (by omega)]; exact k4
  · rw [va_up_ne _ _ (by omega)]; exact k5
  · rw [va_up_ne _ _ (by omega)]; exact k6 i hi
  · rw [va_up_ne _ _ (by omega)]; exact k7 i hi
  · rw [va_up_ne _ _ (by omega)]; exact k8 j hj
theorem RepH.eqv (hR : RepH g A M h ρ πs vs sz) {vs' : Nat → VV} {sz' : Int32} (e1 : vs' = vs) (e2 : sz' = sz) : RepH g A M h ρ πs vs' sz' := by rw [e1, e2]; exact hR
end
def recV (k : Nat) (vs : Nat → VV) (w : VV) (n : Nat) : Nat → VV :=
  va_up (if k = 6 then rotN 0 6 vs else vs) (if k = 6 then 5 else k) (cpyC ((if k = 6 then rotN 0 6 vs else vs) (if k = 6 then 5 else k)) w n)
def recK (k : Nat) : Nat := if k = 6 then 6 else k + 1
section HROWS
variable {p : Program} {l : Launch} {e : Env} {R : Room} {s : State} {m : MethodId} {args : Array Value} {below : List Frame} {meth : Method} {c : Code} {H H0 : Heap} {locs : List Loc} {cells slots : Nat} {Q : State → Prop} {cc : ByteArray} {pc : Nat} {ls : Array Slot} {rest : List Value} {g : GG} {A : Nat → Prop} {M M0 : MM} {own : String} {index : Nat} {Ts : List Cond} {h : Nat} {ρ : Nat → Nat} {πs : Nat → Nat → Nat} {vs : Nat → VV} {sz : Int32}
theorem rh_getSt (hx : p.tables.exec = Jvm.exec) (hb : c.code = cc) (hts : ∀ w ∈ Ts, w.before args s = true) (hin : ∀ w ∈ u_ws RX1 TX1 2, w ∈ Ts) (hown : s.vm.findClass own = some m.cls) (hK : KK g s) (hM : HD g A M H) (hR : RepH g A M h ρ πs vs sz) (hlink : (Cond.fieldLink own index (TX1 0).1 (TX1 0).2.1 (TX1 0).2.2.1).before args s = true) (hdg : decode cc pc = .ok (.getfield index, 3)) (kk : W p l e R s m args below meth c H locs cells slots Q (F0 m (pc + 3) ls (.ref (h + 1) :: rest))) : W p l e R s m args below meth c H locs cells slots Q (F0 m (pc) ls (.ref h :: rest)) :=
  m_get (ci := 1) (C := RX1) (T := TX1) (N := 2) hx hb hts hin hown hK hM hR.1 hR.2.2.2.1 rfl 0 (by decide) hlink rfl hdg kk
theorem rh_getSz (hx : p.tables.exec = Jvm.exec) (hb : c.code = cc) (hts : ∀ w ∈ Ts, w.before args s = true) (hin : ∀ w ∈ u_ws RX1 TX1 2, w ∈ Ts) (hown : s.vm.findClass own = some m.cls) (hK : KK g s) (hM : HD g A M H) (hR : RepH g A M h ρ πs vs sz) (hlink : (Cond.fieldLink own index (TX1 1).1 (TX1 1).2.1 (TX1 1).2.2.1).before args s = true) (hdg : decode cc pc = .ok (.getfield index, 3)) (kk : W p l e R s m args below meth c H locs cells slots Q (F0 m (pc + 3) ls (.int sz :: rest))) : W p l e R s m args below meth c H locs cells slots Q (F0 m (pc) ls (.ref h :: rest)) :=
  m_get (ci := 1) (C := RX1) (T := TX1) (N := 2) hx hb hts hin hown hK hM hR.1 hR.2.2.2.1 rfl 1 (by decide) hlink rfl hdg kk
theorem rh_putSz (hx : p.tables.exec = Jvm.exec) (hb : c.code = cc) (hts : ∀ w ∈ Ts, w.before args s = true) (hin : ∀ w ∈ u_ws RX1 TX1 2, w ∈ Ts) (hown : s.vm.findClass own = some m.cls) (hK : KK g s) (hM : HD g A M H) (hS : va_S A H0 H locs) (hR : RepH g A M h ρ πs vs sz) (hF : FrH h M0 M) (hlink : (Cond.fieldLink own index (TX1 1).1 (TX1 1).2.1 (TX1 1).2.2.1).before args s = true) {x : Int32} (hdg : decode cc pc = .ok (.putfield index, 3)) (kk : ∀ (M1 : MM) (H1 : Heap) (locs1 : List Loc), HD g A M1 H1 → RepH g A M1 h ρ πs vs x → FrH h M0 M1 → va_S A H0 H1 locs1 → W p l e R s m args below meth c H1 locs1 cells slots Q (F0 m (pc + 3) ls rest)) : W p l e R s m args below meth c H locs cells slots Q (F0 m (pc) ls (.int x :: .ref h :: rest)) := by
  refine m_put (ci := 1) (C := RX1) (T := TX1) (N := 2) hx hb hts hin tyX1 tyX1_ok nmX1 hown hK hM hS hR.1 hR.2.2.2.1 rfl 1 (by decide) hlink rfl rfl rfl (Nat.le_of_ble_eq_true rfl) hdg (fun H1 locs1 hM1 hS1 => ?_)
  obtain ⟨h1, h2, h3, h4, h5, h6⟩ := hR
  refine kk _ H1 locs1 hM1 ⟨h1, h2, h3, va_up_self _ _ _, by rw [va_up_ne _ _ (by omega)]; exact h5, fun i hi => ?_⟩ (hF.up (by omega) (by omega)) hS1
  obtain ⟨k1, k2, k3, k4, k5, k6, k7, k8⟩ := h6 i hi
  refine ⟨k1, k2, ?_, ?_, ?_, fun i hi => ?_, fun i hi => ?_, fun j hj => ?_⟩
  · rw [va_up_ne _ _ (by omega)]; exact k3
  · rw [va_up_ne _ _ (by omega)]; exact k4
  · rw [va_up_ne _ _ (by omega)]; exact k5
  · rw [va_up_ne _ _ (by omega)]; exact k6 i hi
  · rw [va_up_ne _ _ (by omega)]; exact k7 i hi
  · rw [va_up_ne _ _ (by omega)]; exact k8 j hj
theorem rh_len (hx : p.tables.exec = Jvm.exec) (hb : c.code = cc) (hK : KK g s) (hM : HD g A M H) (hR : RepH g A M h ρ πs vs sz) (hdg : decode cc pc = .ok (.arraylength, 1)) (kk : W p l e R s m args below meth c H locs cells slots Q (F0 m (pc + 1) ls (.int (nI 6) :: rest))) : W p l e R s m args below meth c H locs cells slots Q (F0 m (pc) ls (.ref (h + 1) :: rest)) :=
  m_alen hx hb hK hM hR.2.1 5 hR.2.2.2.2.1 rfl rfl hdg kk
theorem rh_ald (hx : p.tables.exec = Jvm.exec) (hb : c.code = cc) (hK : KK g s) (hM : HD g A M H) (hR : RepH g A M h ρ πs vs sz) {i : Nat} (hi : i < 6) (hdg : decode cc pc = .ok (.aaload, 1)) (kk : W p l e R s m args below meth c H locs cells slots Q (F0 m (pc + 1) ls (.ref (h + 2 + 35 * ρ i) :: rest))) : W p l e R s m args below meth c H locs cells slots Q (F0 m (pc) ls (.int (nI i) :: .ref (h + 1) :: rest)) :=
  m_aald hx hb hK hM hR.2.1 5 hR.2.2.2.2.1 rfl (vp_in_nI hi (by omega)) (r := .ref (h + 2 + 35 * ρ i)) (by rw [nI_clamp (by omega)]; rfl) hdg kk
end HROWS
set_option maxHeartbeats 4000000 in
set_option maxRecDepth 100000 in
/-- the oldest state goes; its row is kept behind the others -/
theorem k_X1_dropOldest (l : Launch) (g : GG) (A : Nat → Prop) (M0 : MM) (h : Nat) (ρ : Nat → Nat) (πs : Nat → Nat → Nat) (vs : Nat → VV) (sz : Int32) (hR : RepH g A M0 h ρ πs vs sz)  : Met l yX1_dropOldest (Uw yX1_dropOldest cX1_dropOldest 4 (Option.none : Option ClassFile.FieldType)) (rmD 0) (PreM [.ref (h)] g A M0) (PosV (fun M1 => RepH g A M1 h (rotN 0 6 ρ) (rotN 0 6 πs) (rotN 0 6 vs) (nI 5) ∧ FrH h M0 M1) g A) 0 0 A := by
  refine mk_Met (own := RX1) rfl rfl (by decide) (Nat.le_of_ble_eq_true rfl) ?_
  intro p e s m below meth c ls aa Q haa hQ hx hb hr hlk hml hown hts hK hM hS hl hnm
  obtain ⟨M, hMM⟩ : ∃ M, M = M0 := ⟨_, rfl⟩
  rw [← hMM] at hM hR
  have ht : ∀ w ∈ lw_good, w.before _ s = true := fun w h => hts w (List.mem_cons_of_mem _ h)
  have hF : FrH h M0 M := by rw [hMM]; exact FrH.rf
  have hl : lv_has ls 4 [(0, .ref (h))] := hl
  have hR0 := hR
  refine lv_aload_n hx hb dX1_dropOldest_0 rfl (lv_at hl 0 rfl) ?_
  refine rh_getSt hx hb ht ui_X1 hown hK hM hR (ht _ uw_221) dX1_dropOldest_1 ?_
  refine rh_len hx hb hK hM hR dX1_dropOldest_4 ?_
  refine lv_iconst (v := nI 1) hx hb dX1_dropOldest_5 (by first | rfl | decide) ?_
  refine lv_isub hx hb dX1_dropOldest_6 ?_
  rw [show nI 6 - nI 1 = nI 5 from rfl]
  refine lv_istore_n (lv' := [(1, .int (nI 5)), (0, .ref (h))]) hx hb dX1_dropOldest_7 rfl hl (by decide) rfl (fun ls hl => ?_)
  refine lv_aload_n hx hb dX1_dropOldest_8 rfl (lv_at hl 1 rfl) ?_
  refine rh_getSt hx hb ht ui_X1 hown hK hM hR (ht _ uw_221) dX1_dropOldest_9 ?_
  refine lv_iconst (v := nI 0) hx hb dX1_dropOldest_12 (by first | rfl | decide) ?_
  refine rh_ald hx hb hK hM hR (by decide : 0 < 6) dX1_dropOldest_13 ?_
  refine lv_astore_n (lv' := [(2, .ref (h + 2 + 35 * ρ 0)), (1, .int (nI 5)), (0, .ref (h))]) hx hb dX1_dropOldest_14 rfl hl (by decide) rfl (fun ls hl => ?_)
  refine lv_iconst (v := nI 0) hx hb dX1_dropOldest_15 (by first | rfl | decide) ?_
  refine lv_istore_n (lv' := [(3, .int (nI 0)), (2, .ref (h + 2 + 35 * ρ 0)), (1, .int (nI 5)), (0, .ref (h))]) hx hb dX1_dropOldest_16 rfl hl (by decide) rfl (fun ls hl => ?_)
  have loop_17 : ∀ (z_17 : Nat) (i : Nat) (M : MM) (H : Heap) (locs : List Loc) (ls : Array Slot), 5 - i < z_17 → i ≤ 5 → M = va_up M0 (h + 1) (haE g h (rhoN 0 i ρ)) → HD g A M H → va_S A s.heap H locs → lv_has ls 4 [(3, .int (nI i)), (2, .ref (h + 2 + 35 * ρ 0)), (1, .int (nI 5)), (0, .ref (h))] → W p l e (rmD 0) s m aa below meth c H locs 0 0 Q (F0 m 17 ls []) := by
    intro z_17
    induction z_17 with
    | zero => intro i M H locs ls hz hi2 hMu; exact absurd hz (Nat.not_lt_zero _)
    | succ z_17 ih_17 =>
    intro i M H locs ls hz hi2 hMu hM  hS hl
    have hW : M h = hiE h sz := by rw [hMu, va_up_ne _ _ (by omega), ← hMM]; exact hR0.2.2.2.1
    have hRA : M (h + 1) = haE g h (rhoN 0 i ρ) := by rw [hMu]; exact va_up_self _ _ _
    have hPi : ∀ j, j < 6 → M (h + 2 + 35 * ρ j) = wE (h + 2 + 35 * ρ j) (vs j).1 := fun j hj => by rw [hMu, va_up_ne _ _ (by omega), ← hMM]; exact (hR0.2.2.2.2.2 j hj).W
    refine lv_iload_n hx hb dX1_dropOldest_17 rfl (lv_at hl 0 rfl) ?_
    refine lv_iload_n hx hb dX1_dropOldest_18 rfl (lv_at hl 2 rfl) ?_
    refine lv_icmp_ge (tgt := 42) hx hb dX1_dropOldest_19 (by decide) (fun c_19 => ?_) (fun c_19 => ?_)
    · have hin : i = 5 := Nat.le_antisymm hi2 (nI_le_of (by omega) (by omega) c_19)
      subst hin
      refine lv_aload_n hx hb dX1_dropOldest_42 rfl (lv_at hl 3 rfl) ?_
      refine m_get (ci := 1) (C := RX1) (T := TX1) (N := 2) hx hb ht ui_X1 hown hK hM hR0.1 hW rfl 0 (by decide) (ht _ uw_221) rfl dX1_dropOldest_43 ?_
      refine lv_iload_n hx hb dX1_dropOldest_46 rfl (lv_at hl 2 rfl) ?_
      refine lv_aload_n hx hb dX1_dropOldest_47 rfl (lv_at hl 1 rfl) ?_
      refine m_aast hx hb hK hM hS hR0.2.1 5 6 hRA rfl (hR0.2.2.2.2.2 _ (show 0 < 6 by omega)).AW (hPi _ (show 0 < 6 by omega)) rfl (vp_in_nI (show 5 < 6 by omega) (by omega)) dX1_dropOldest_48 (fun H locs hM hS => ?_)
      rw [hMu, va_upup, show (Sum.inl (g.2 5, 6, Sum.inr (Sum.inr (Sum.inr (Sum.inr (va_up (fun j => some (h + 2 + 35 * rhoN 0 5 ρ j)) (nI 5).toNatClampNeg (some (h + 2 + 35 * ρ 0))))))) : va_E) = haE g h (rotN 0 6 ρ) by rw [nI_clamp (show 5 < 2 ^ 31 by omega)]; exact congrArg (fun z => (Sum.inl (g.2 5, 6, Sum.inr (Sum.inr (Sum.inr (Sum.inr z)))) : va_E)) (rhoF_end (fun z => h + 2 + 35 * z) 0 6 (by omega) ρ)] at hM
      have hR2 : RepH g A (va_up M0 (h + 1) (haE g h (rotN 0 6 ρ))) h (rotN 0 6 ρ) (rotN 0 6 πs) (rotN 0 6 vs) sz := by rw [← hMM]; exact hR0.rot
      have hF : FrH h M0 (va_up M0 (h + 1) (haE g h (rotN 0 6 ρ))) := FrH.rf.up (by omega) (by omega)
      have hR := hR2
      refine lv_aload_n hx hb dX1_dropOldest_49 rfl (lv_at hl 3 rfl) ?_
      refine lv_iload_n hx hb dX1_dropOldest_50 rfl (lv_at hl 2 rfl) ?_
      refine rh_putSz hx hb ht ui_X1 hown hK hM hS hR hF (ht _ uw_222) dX1_dropOldest_51 (fun M H locs hM hR hF hS => ?_)
      subst hQ
      exact m_vret hx hb hr hlk hK hM hS dX1_dropOldest_54 (⟨hR, hF⟩)
    · have hin : i < 5 := nI_lt_of (by omega) (by omega) c_19
      refine lv_aload_n hx hb dX1_dropOldest_22 rfl (lv_at hl 3 rfl) ?_
      refine m_get (ci := 1) (C := RX1) (T := TX1) (N := 2) hx hb ht ui_X1 hown hK hM hR0.1 hW rfl 0 (by decide) (ht _ uw_221) rfl dX1_dropOldest_23 ?_
      refine lv_iload_n hx hb dX1_dropOldest_26 rfl (lv_at hl 0 rfl) ?_
      refine lv_aload_n hx hb dX1_dropOldest_27 rfl (lv_at hl 3 rfl) ?_
      refine m_get (ci := 1) (C := RX1) (T := TX1) (N := 2) hx hb ht ui_X1 hown hK hM hR0.1 hW rfl 0 (by decide) (ht _ uw_221) rfl dX1_dropOldest_28 ?_
      refine lv_iload_n hx hb dX1_dropOldest_31 rfl (lv_at hl 0 rfl) ?_
      refine lv_iconst (v := nI 1) hx hb dX1_dropOldest_32 (by first | rfl | decide) ?_
      refine lv_iadd hx hb dX1_dropOldest_33 ?_
      rw [nI_add]
      have e41 : rhoN 0 i ρ (i + 1) = ρ (i + 1) := if_neg (by omega)
      refine m_aald hx hb hK hM hR0.2.1 5 hRA rfl (vp_in_nI (show i + 1 < 6 by omega) (by omega)) (r := .ref (h + 2 + 35 * ρ (i + 1))) (by rw [nI_clamp (by omega), e41]; rfl) dX1_dropOldest_34 ?_
      refine m_aast hx hb hK hM hS hR0.2.1 5 6 hRA rfl (hR0.2.2.2.2.2 _ (show i + 1 < 6 by omega)).AW (hPi _ (show i + 1 < 6 by omega)) rfl (vp_in_nI (show i < 6 by omega) (by omega)) dX1_dropOldest_35 (fun H locs hM hS => ?_)
      rw [hMu, va_upup, show (Sum.inl (g.2 5, 6, Sum.inr (Sum.inr (Sum.inr (Sum.inr (va_up (fun j => some (h + 2 + 35 * rhoN 0 i ρ j)) (nI i).toNatClampNeg (some (h + 2 + 35 * ρ (i + 1)))))))) : va_E) = haE g h (rhoN 0 (i + 1) ρ) by rw [nI_clamp (show i < 2 ^ 31 by omega), rhoF_up (fun z => h + 2 + 35 * z) 0 i (by omega) ρ]] at hM
      refine lv_iinc (v := nI (i + 1)) (lv' := [(3, .int (nI (i + 1))), (2, .ref (h + 2 + 35 * ρ 0)), (1, .int (nI 5)), (0, .ref (h))]) hx hb dX1_dropOldest_36 hl (k := 0) rfl (nI_1 _) (by decide) rfl (fun ls hl => ?_)
      refine lv_goto (tgt := 17) hx hb dX1_dropOldest_39 (by decide) ?_
      exact ih_17 (i + 1) _ _ _ _ (by omega) (by omega) rfl hM hS (lv_sub hl [0, 1, 2, 3] rfl)
  exact loop_17 _ 0 _ _ _ _ (Nat.lt_succ_self _) (by omega) (by rw [rho_0, hMM]; funext q; exact (va_upself (by rw [← hMM]; exact hR0.2.2.2.2.1) q).symm) hM hS (lv_sub hl [0, 1, 2, 3] rfl)

set_option maxHeartbeats 4000000 in
set_option maxRecDepth 100000 in
/-- the state before a change is recorded -/
theorem k_X1_record (l : Launch) (g : GG) (A : Nat → Prop) (M0 : MM) (h : Nat) (ρ : Nat → Nat) (πs : Nat → Nat → Nat) (vs : Nat → VV) (sz : Int32) (hR : RepH g A M0 h ρ πs vs sz) (b0 : Nat) (π0 : Nat → Nat) (w : VV) (n : Nat) (hO : RepV g A M0 b0 π0 w) (hd : b0 + 35 ≤ h ∨ h + 212 ≤ b0) (k : Nat) (hsz : sz = nI k) (hk : k ≤ 6) (hn : w.1 3 = nI n) (hn20 : n ≤ 20) : Met l yX1_record (Uw yX1_record cX1_record 2 (Option.none : Option ClassFile.FieldType)) (rmD 3) (PreM [.ref (h), .ref (b0)] g A M0) (PosV (fun M1 => (∃ ρ1 πs1, RepH g A M1 h ρ1 πs1 (recV k vs w n) (nI (recK k))) ∧ FrH h M0 M1) g A) 0 0 A := by
  refine mk_Met (own := RX1) rfl rfl (by decide) (Nat.le_of_ble_eq_true rfl) ?_
  intro p e s m below meth c ls aa Q haa hQ hx hb hr hlk hml hown hts hK hM hS hl hnm
  obtain ⟨M, hMM⟩ : ∃ M, M = M0 := ⟨_, rfl⟩
  rw [← hMM] at hM hR
  have ht : ∀ w ∈ lw_good, w.before _ s = true := fun w h => hts w (List.mem_cons_of_mem _ h)
  have hF : FrH h M0 M := by rw [hMM]; exact FrH.rf
  have hl : lv_has ls 2 [(0, .ref (h)), (1, .ref (b0))] := hl
  subst hsz
  by_cases hk6 : k < 6
  · refine lv_aload_n hx hb dX1_record_0 rfl (lv_at hl 0 rfl) ?_
    refine rh_getSz hx hb ht ui_X1 hown hK hM hR (ht _ uw_222) dX1_record_1 ?_
    refine lv_aload_n hx hb dX1_record_4 rfl (lv_at hl 0 rfl) ?_
    refine rh_getSt hx hb ht ui_X1 hown hK hM hR (ht _ uw_221) dX1_record_5 ?_
    refine rh_len hx hb hK hM hR dX1_record_8 ?_
    refine lv_icmp_lt (tgt := 16) hx hb dX1_record_9 (by decide) (fun c_9 => ?_) (fun c_9 => absurd (nI_lt hk6 (by decide)) c_9)
    refine lv_aload_n hx hb dX1_record_16 rfl (lv_at hl 0 rfl) ?_
    refine rh_getSz hx hb ht ui_X1 hown hK hM hR (ht _ uw_222) dX1_record_17 ?_
    refine lv_if_lt (tgt := 58) hx hb dX1_record_20 (by decide) (fun c_20 => absurd c_20 (nI_pos (by omega))) (fun c_20 => ?_)
    refine lv_aload_n hx hb dX1_record_23 rfl (lv_at hl 0 rfl) ?_
    refine rh_getSz hx hb ht ui_X1 hown hK hM hR (ht _ uw_222) dX1_record_24 ?_
    refine lv_aload_n hx hb dX1_record_27 rfl (lv_at hl 0 rfl) ?_
    refine rh_getSt hx hb ht ui_X1 hown hK hM hR (ht _ uw_221) dX1_record_28 ?_
    refine rh_len hx hb hK hM hR dX1_record_31 ?_
    refine lv_icmp_ge (tgt := 58) hx hb dX1_record_32 (by decide) (fun c_32 => absurd c_32 (nI_ge hk6 (by decide))) (fun c_32 => ?_)
    refine lv_aload_n hx hb dX1_record_35 rfl (lv_at hl 0 rfl) ?_
    refine rh_getSt hx hb ht ui_X1 hown hK hM hR (ht _ uw_221) dX1_record_36 ?_
    refine lv_aload_n hx hb dX1_record_39 rfl (lv_at hl 0 rfl) ?_
    refine rh_getSz hx hb ht ui_X1 hown hK hM hR (ht _ uw_222) dX1_record_40 ?_
    refine rh_ald hx hb hK hM hR (hk6) dX1_record_43 ?_
    refine lv_aload_n hx hb dX1_record_44 rfl (lv_at hl 1 rfl) ?_
    refine m_callV (As := [.ref (b0)]) (rest := []) ⟨hx, hb, hml, hown, ht⟩ (k_X6_copyFrom l g A M (h + 2 + 35 * ρ k) (πs k) (vs k) b0 π0 w n (hR.V hk6) (hO.frH hF hd) (hR.dj hk6 hd) hn hn20) (cwV 1 ht (gU uw_312 uw_313 uw_314 uw_35 uw_315) rfl rfl rfl (by decide +kernel) ⟨by decide, by decide⟩) hK hM hS (m_recv hK hM (hR.V hk6).AW (hR.V hk6).W rfl) rfl hl.1 rfl (Nat.le_of_ble_eq_true rfl) dX1_record_45 ⟨by decide, by decide⟩ (fun M H locs hp hM hS => ?_)
    obtain ⟨hV, hF1⟩ := hp
    have hF := hF.tr (hR.frV hk6 hF1)
    have hR := hR.setV hk6 hV hF1
    refine lv_aload_n hx hb dX1_record_48 rfl (lv_at hl 0 rfl) ?_
    refine lv_dup hx hb dX1_record_49 rfl ?_
    refine rh_getSz hx hb ht ui_X1 hown hK hM hR (ht _ uw_222) dX1_record_50 ?_
    refine lv_iconst (v := nI 1) hx hb dX1_record_53 (by first | rfl | decide) ?_
    refine lv_iadd hx hb dX1_record_54 ?_
    refine rh_putSz hx hb ht ui_X1 hown hK hM hS hR hF (ht _ uw_222) dX1_record_55 (fun M H locs hM hR hF hS => ?_)
    subst hQ
    exact m_vret hx hb hr hlk hK hM hS dX1_record_58 (⟨⟨_, _, hR.eqv (by unfold recV; rw [if_neg (by omega), if_neg (by omega)]) (by unfold recK; rw [if_neg (by omega)]; exact (nI_add k 1).symm)⟩, hF⟩)
  · have hk7 : k = 6 := by omega
    subst hk7
    refine lv_aload_n hx hb dX1_record_0 rfl (lv_at hl 0 rfl) ?_
    refine rh_getSz hx hb ht ui_X1 hown hK hM hR (ht _ uw_222) dX1_record_1 ?_
    refine lv_aload_n hx hb dX1_record_4 rfl (lv_at hl 0 rfl) ?_
    refine rh_getSt hx hb ht ui_X1 hown hK hM hR (ht _ uw_221) dX1_record_5 ?_
    refine rh_len hx hb hK hM hR dX1_record_8 ?_
    refine lv_icmp_lt (tgt := 16) hx hb dX1_record_9 (by decide) (fun c_9 => absurd c_9 (by decide)) (fun c_9 => ?_)
    refine lv_aload_n hx hb dX1_record_12 rfl (lv_at hl 0 rfl) ?_
    refine m_callV (As := []) (rest := []) ⟨hx, hb, hml, hown, ht⟩ (k_X1_dropOldest l g A M h ρ πs vs (nI 6) hR) (cwV 0 ht (gU uw_308 uw_310 uw_0 uw_39 uw_311) rfl rfl rfl (by decide +kernel) ⟨by decide, by decide⟩) hK hM hS (m_recv hK hM hR.1 hR.2.2.2.1 rfl) rfl hl.1 rfl (Nat.le_of_ble_eq_true rfl) dX1_record_13 ⟨by decide, by decide⟩ (fun M H locs hp hM hS => ?_)
    obtain ⟨hR, hF1⟩ := hp
    have hF := hF.tr hF1
    refine lv_aload_n hx hb dX1_record_16 rfl (lv_at hl 0 rfl) ?_
    refine rh_getSz hx hb ht ui_X1 hown hK hM hR (ht _ uw_222) dX1_record_17 ?_
    refine lv_if_lt (tgt := 58) hx hb dX1_record_20 (by decide) (fun c_20 => absurd c_20 (nI_pos (by omega))) (fun c_20 => ?_)
    refine lv_aload_n hx hb dX1_record_23 rfl (lv_at hl 0 rfl) ?_
    refine rh_getSz hx hb ht ui_X1 hown hK hM hR (ht _ uw_222) dX1_record_24 ?_
    refine lv_aload_n hx hb dX1_record_27 rfl (lv_at hl 0 rfl) ?_
    refine rh_getSt hx hb ht ui_X1 hown hK hM hR (ht _ uw_221) dX1_record_28 ?_
    refine rh_len hx hb hK hM hR dX1_record_31 ?_
    refine lv_icmp_ge (tgt := 58) hx hb dX1_record_32 (by decide) (fun c_32 => absurd c_32 (by decide)) (fun c_32 => ?_)
    refine lv_aload_n hx hb dX1_record_35 rfl (lv_at hl 0 rfl) ?_
    refine rh_getSt hx hb ht ui_X1 hown hK hM hR (ht _ uw_221) dX1_record_36 ?_
    refine lv_aload_n hx hb dX1_record_39 rfl (lv_at hl 0 rfl) ?_
    refine rh_getSz hx hb ht ui_X1 hown hK hM hR (ht _ uw_222) dX1_record_40 ?_
    refine rh_ald hx hb hK hM hR (by decide : 5 < 6) dX1_record_43 ?_
    refine lv_aload_n hx hb dX1_record_44 rfl (lv_at hl 1 rfl) ?_
    refine m_callV (As := [.ref (b0)]) (rest := []) ⟨hx, hb, hml, hown, ht⟩ (k_X6_copyFrom l g A M (h + 2 + 35 * rotN 0 6 ρ 5) (rotN 0 6 πs 5) (rotN 0 6 vs 5) b0 π0 w n (hR.V (show 5 < 6 by decide)) (hO.frH hF hd) (hR.dj (show 5 < 6 by decide) hd) hn hn20) (cwV 1 ht (gU uw_312 uw_313 uw_314 uw_35 uw_315) rfl rfl rfl (by decide +kernel) ⟨by decide, by decide⟩) hK hM hS (m_recv hK hM (hR.V (show 5 < 6 by decide)).AW (hR.V (show 5 < 6 by decide)).W rfl) rfl hl.1 rfl (Nat.le_of_ble_eq_true rfl) dX1_record_45 ⟨by decide, by decide⟩ (fun M H locs hp hM hS => ?_)
    obtain ⟨hV, hF1⟩ := hp
    have hF := hF.tr (hR.frV (show 5 < 6 by decide) hF1)
    have hR := hR.setV (show 5 < 6 by decide) hV hF1
    refine lv_aload_n hx hb dX1_record_48 rfl (lv_at hl 0 rfl) ?_
    refine lv_dup hx hb dX1_record_49 rfl ?_
    refine rh_getSz hx hb ht ui_X1 hown hK hM hR (ht _ uw_222) dX1_record_50 ?_
    refine lv_iconst (v := nI 1) hx hb dX1_record_53 (by first | rfl | decide) ?_
    refine lv_iadd hx hb dX1_record_54 ?_
    refine rh_putSz hx hb ht ui_X1 hown hK hM hS hR hF (ht _ uw_222) dX1_record_55 (fun M H locs hM hR hF hS => ?_)
    subst hQ
    exact m_vret hx hb hr hlk hK hM hS dX1_record_58 (⟨⟨_, _, hR.eqv rfl rfl⟩, hF⟩)

set_option maxHeartbeats 4000000 in
set_option maxRecDepth 100000 in
/-- the latest state is given back -/
theorem k_X1_takeBack (l : Launch) (g : GG) (A : Nat → Prop) (M0 : MM) (h : Nat) (ρ : Nat → Nat) (πs : Nat → Nat → Nat) (vs : Nat → VV) (sz : Int32) (hR : RepH g A M0 h ρ πs vs sz) (b0 : Nat) (π0 : Nat → Nat) (w : VV) (n : Nat) (hO : RepV g A M0 b0 π0 w) (hd : b0 + 35 ≤ h ∨ h + 212 ≤ b0) (k : Nat) (hsz : sz = nI (k + 1)) (hk : k + 1 ≤ 6) (hn : (vs k).1 3 = nI n) (hn20 : n ≤ 20) : Met l yX1_takeBack (Uw yX1_takeBack cX1_takeBack 2 (Option.some ClassFile.FieldType.boolean)) (rmD 3) (PreM [.ref (h), .ref (b0)] g A M0) (PosI (fun r M1 => r = 1 ∧ RepH g A M1 h ρ πs vs (nI k) ∧ RepV g A M1 b0 π0 (cpyC w (vs k) n) ∧ FrHB h b0 M0 M1) g A) 0 0 A := by
  refine mk_Met (own := RX1) rfl rfl (by decide) (Nat.le_of_ble_eq_true rfl) ?_
  intro p e s m below meth c ls aa Q haa hQ hx hb hr hlk hml hown hts hK hM hS hl hnm
  obtain ⟨M, hMM⟩ : ∃ M, M = M0 := ⟨_, rfl⟩
  rw [← hMM] at hM hR
  have ht : ∀ w ∈ lw_good, w.before _ s = true := fun w h => hts w (List.mem_cons_of_mem _ h)
  have hF : FrH h M0 M := by rw [hMM]; exact FrH.rf
  have hl : lv_has ls 2 [(0, .ref (h)), (1, .ref (b0))] := hl
  subst hsz
  have hk5 : k < 6 := by omega
  refine lv_aload_n hx hb dX1_takeBack_0 rfl (lv_at hl 0 rfl) ?_
  refine rh_getSz hx hb ht ui_X1 hown hK hM hR (ht _ uw_222) dX1_takeBack_1 ?_
  refine lv_if_le (tgt := 19) hx hb dX1_takeBack_4 (by decide) (fun c_4 => absurd c_4 (nI_nle (by omega) (by omega))) (fun c_4 => ?_)
  refine lv_aload_n hx hb dX1_takeBack_7 rfl (lv_at hl 0 rfl) ?_
  refine rh_getSz hx hb ht ui_X1 hown hK hM hR (ht _ uw_222) dX1_takeBack_8 ?_
  refine lv_aload_n hx hb dX1_takeBack_11 rfl (lv_at hl 0 rfl) ?_
  refine rh_getSt hx hb ht ui_X1 hown hK hM hR (ht _ uw_221) dX1_takeBack_12 ?_
  refine rh_len hx hb hK hM hR dX1_takeBack_15 ?_
  refine lv_icmp_le (tgt := 21) hx hb dX1_takeBack_16 (by decide) (fun c_16 => ?_) (fun c_16 => absurd (nI_le (show k + 1 ≤ 6 by omega) (by decide)) c_16)
  refine lv_aload_n hx hb dX1_takeBack_21 rfl (lv_at hl 0 rfl) ?_
  refine lv_dup hx hb dX1_takeBack_22 rfl ?_
  refine rh_getSz hx hb ht ui_X1 hown hK hM hR (ht _ uw_222) dX1_takeBack_23 ?_
  refine lv_iconst (v := nI 1) hx hb dX1_takeBack_26 (by first | rfl | decide) ?_
  refine lv_isub hx hb dX1_takeBack_27 ?_
  rw [show nI (k + 1) - nI 1 = nI k from nI_pred k]
  refine rh_putSz hx hb ht ui_X1 hown hK hM hS hR hF (ht _ uw_222) dX1_takeBack_28 (fun M H locs hM hR hF hS => ?_)
  refine lv_aload_n hx hb dX1_takeBack_31 rfl (lv_at hl 1 rfl) ?_
  refine lv_aload_n hx hb dX1_takeBack_32 rfl (lv_at hl 0 rfl) ?_
  refine rh_getSt hx hb ht ui_X1 hown hK hM hR (ht _ uw_221) dX1_takeBack_33 ?_
  refine lv_aload_n hx hb dX1_takeBack_36 rfl (lv_at hl 0 rfl) ?_
  refine rh_getSz hx hb ht ui_X1 hown hK hM hR (ht _ uw_222) dX1_takeBack_37 ?_
  refine rh_ald hx hb hK hM hR (hk5) dX1_takeBack_40 ?_
  refine m_callV (As := [.ref (h + 2 + 35 * ρ k)]) (rest := []) ⟨hx, hb, hml, hown, ht⟩ (k_X6_copyFrom l g A M b0 π0 w (h + 2 + 35 * ρ k) (πs k) (vs k) n (hO.frH hF hd) (hR.V hk5) (hR.dj2 hk5 hd) hn hn20) (cwV 1 ht (gU uw_312 uw_313 uw_314 uw_35 uw_315) rfl rfl rfl (by decide +kernel) ⟨by decide, by decide⟩) hK hM hS (m_recv hK hM (hO.frH hF hd).AW (hO.frH hF hd).W rfl) rfl hl.1 rfl (Nat.le_of_ble_eq_true rfl) dX1_takeBack_41 ⟨by decide, by decide⟩ (fun M H locs hp hM hS => ?_)
  obtain ⟨hV, hF1⟩ := hp
  have hR := hR.frB hF1 hd
  have hFB : FrHB h b0 M0 M := FrHB.of hF hF1
  refine lv_iconst (v := nI 1) hx hb dX1_takeBack_44 (by first | rfl | decide) ?_
  subst hQ
  exact m_zret hx hb hr (rfl) hlk hK hM hS dX1_takeBack_45 (⟨rfl, hR, hV, hFB⟩)

set_option maxHeartbeats 4000000 in
set_option maxRecDepth 100000 in
/-- there is no state to give back -/
theorem k_X1_takeBack_0 (l : Launch) (g : GG) (A : Nat → Prop) (M0 : MM) (h : Nat) (ρ : Nat → Nat) (πs : Nat → Nat → Nat) (vs : Nat → VV) (sz : Int32) (hR : RepH g A M0 h ρ πs vs sz) (b0 : Nat) (hsz : sz = 0) : Met l yX1_takeBack (Uw yX1_takeBack cX1_takeBack 2 (Option.some ClassFile.FieldType.boolean)) (rmD 3) (PreM [.ref (h), .ref (b0)] g A M0) (PosI (fun r M1 => r = 0 ∧ M1 = M0) g A) 0 0 A := by
  refine mk_Met (own := RX1) rfl rfl (by decide) (Nat.le_of_ble_eq_true rfl) ?_
  intro p e s m below meth c ls aa Q haa hQ hx hb hr hlk hml hown hts hK hM hS hl hnm
  obtain ⟨M, hMM⟩ : ∃ M, M = M0 := ⟨_, rfl⟩
  rw [← hMM] at hM hR
  have ht : ∀ w ∈ lw_good, w.before _ s = true := fun w h => hts w (List.mem_cons_of_mem _ h)
  have hF : FrH h M0 M := by rw [hMM]; exact FrH.rf
  have hl : lv_has ls 2 [(0, .ref (h)), (1, .ref (b0))] := hl
  refine lv_aload_n hx hb dX1_takeBack_0 rfl (lv_at hl 0 rfl) ?_
  refine rh_getSz hx hb ht ui_X1 hown hK hM hR (ht _ uw_222) dX1_takeBack_1 ?_
  refine lv_if_le (tgt := 19) hx hb dX1_takeBack_4 (by decide) (fun c_4 => ?_) (fun c_4 => absurd (by rw [hsz]; decide) c_4)
  refine lv_iconst (v := nI 0) hx hb dX1_takeBack_19 (by first | rfl | decide) ?_
  subst hQ
  exact m_zret hx hb hr (rfl) hlk hK hM hS dX1_takeBack_20 (⟨rfl, hMM⟩)
end
section
/-! THE OBJECT OF THE CLASS: 358 cells in a row from X on -/
abbrev xE (X : Nat) : va_E := .inr (7, [.ref (X + 1), .ref (X + 36), .ref (X + 71), .ref (X + 283), .ref (X + 284), .ref (X + 285), .ref (X + 285 + 2)])
abbrev slE (g : GG) (X : Nat) : va_E := .inl (g.2 5, 2, .inr (.inr (.inr (.inr (fun i => some (X + 288 + 35 * i))))))
abbrev svE (g : GG) (sv : Nat → Int32) : va_E := .inl (g.2 2, 2, .inl sv)
def RepX (g : GG) (A : Nat → Prop) (M : MM) (X : Nat) (π : Nat → Nat) (now : VV) (hs : Nat → VV) (k : Nat) (sl : Nat → VV) (sv f : Nat → Int32) (L : Nat) : Prop :=
  A X ∧ A (X + 283) ∧ A (X + 284) ∧ M X = xE X ∧ M (X + 283) = slE g X ∧ M (X + 284) = svE g sv ∧ RepV g A M (X + 1) π now ∧ (∃ πt t, RepV g A M (X + 36) πt t) ∧ (∃ ρ πs, RepH g A M (X + 71) ρ πs hs (nI k)) ∧ (∀ i, i < 2 → ∃ πi, RepV g A M (X + 288 + 35 * i) πi (sl i)) ∧ ∃ rs, RepT g A M (X + 285) f (nI L) rs
def FrX (X : Nat) (M0 M : MM) : Prop := ∀ q, ¬ (X ≤ q ∧ q < X + 358) → M q = M0 q
def RX (g : GG) (A : Nat → Prop) (M0 M : MM) (X : Nat) (π : Nat → Nat) (now : VV) (hs : Nat → VV) (k : Nat) (sl : Nat → VV) (sv f : Nat → Int32) (L : Nat) : Prop := RepX g A M X π now hs k sl sv f L ∧ FrX X M0 M
theorem FrX.rf {X : Nat} {M : MM} : FrX X M M := fun _ _ => rfl
theorem RepV.agr {g : GG} {A : Nat → Prop} {M M1 : MM} {b : Nat} {π : Nat → Nat} {v : VV} (h : RepV g A M b π v) (ha : ∀ q, b ≤ q → q < b + 35 → M1 q = M q) : RepV g A M1 b π v := by
  obtain ⟨h1, h2, h3, h4, h5, h6, h7, h8⟩ := h
  refine ⟨h1, h2, ?_, ?_, ?_, fun i hi => ?_, fun i hi => ?_, fun j hj => ?_⟩
  · rw [ha _ (by omega) (by omega)]; exact h3
  · rw [ha _ (by omega) (by omega)]; exact h4
  · rw [ha _ (by omega) (by omega)]; exact h5
  · rw [ha _ (by omega) (by omega)]; exact h6 i hi
  · rw [ha _ (by omega) (by omega)]; exact h7 i hi
  · have := h2.1 j hj
    rw [ha _ (by omega) (by omega)]; exact h8 j hj
section
variable {g : GG} {A : Nat → Prop} {M0 M M1 : MM} {X : Nat} {π π1 : Nat → Nat} {now v1 : VV} {hs hs1 : Nat → VV} {k k1 : Nat} {sl : Nat → VV} {sv f : Nat → Int32} {L : Nat}
theorem RX.obj (h : RX g A M0 M X π now hs k sl sv f L) : M X = xE X := h.1.2.2.2.1
theorem RX.AX (h : RX g A M0 M X π now hs k sl sv f L) : A X := h.1.1
theorem RX.nowV (h : RX g A M0 M X π now hs k sl sv f L) : RepV g A M (X + 1) π now := h.1.2.2.2.2.2.2.1
theorem RX.tri (h : RX g A M0 M X π now hs k sl sv f L) : ∃ πt t, RepV g A M (X + 36) πt t := h.1.2.2.2.2.2.2.2.1
theorem RX.his (h : RX g A M0 M X π now hs k sl sv f L) : ∃ ρ πs, RepH g A M (X + 71) ρ πs hs (nI k) := h.1.2.2.2.2.2.2.2.2.1
theorem RX.slo (h : RX g A M0 M X π now hs k sl sv f L) {i : Nat} (hi : i < 2) : ∃ πi, RepV g A M (X + 288 + 35 * i) πi (sl i) := h.1.2.2.2.2.2.2.2.2.2.1 i hi
theorem RX.txt (h : RX g A M0 M X π now hs k sl sv f L) : ∃ rs, RepT g A M (X + 285) f (nI L) rs := h.1.2.2.2.2.2.2.2.2.2.2
theorem RX.gen (h : RX g A M0 M X π now hs k sl sv f L) {lo hi : Nat} (hl : X + 1 ≤ lo) (hh : hi ≤ X + 358) (hF : ∀ q, ¬ (lo ≤ q ∧ q < hi) → M1 q = M q) (hx : hi ≤ X + 283 ∨ X + 285 ≤ lo)
    (hN : RepV g A M1 (X + 1) π1 v1) (hT : (∃ πt t, RepV g A M1 (X + 36) πt t)) (hH : (∃ ρ πs, RepH g A M1 (X + 71) ρ πs hs1 (nI k1))) {sl1 : Nat → VV} (hS : ∀ i, i < 2 → ∃ πi, RepV g A M1 (X + 288 + 35 * i) πi (sl1 i)) {f1 : Nat → Int32} {L1 : Nat} (hTx : ∃ rs, RepT g A M1 (X + 285) f1 (nI L1) rs) : RX g A M0 M1 X π1 v1 hs1 k1 sl1 sv f1 L1 := by
  obtain ⟨⟨h1, h2, h3, h4, h5, h6, -⟩, hf⟩ := h
  exact ⟨⟨h1, h2, h3, by rw [hF _ (by omega)]; exact h4, by rw [hF _ (by omega)]; exact h5, by rw [hF _ (by omega)]; exact h6, hN, hT, hH, hS, hTx⟩, fun q hq => (hF q (by omega)).trans (hf q hq)⟩
theorem RX.setN (h : RX g A M0 M X π now hs k sl sv f L) (hV : RepV g A M1 (X + 1) π1 v1) (hF : FrV (X + 1) M M1) : RX g A M0 M1 X π1 v1 hs k sl sv f L := by
  obtain ⟨πt, t, hT⟩ := h.tri
  obtain ⟨ρ, πs, hH⟩ := h.his
  obtain ⟨rs, hTx⟩ := h.txt
  exact h.gen (lo := X + 1) (hi := X + 36) (by omega) (by omega) (fun q hq => hF q (by omega)) (by omega) hV ⟨πt, t, hT.agr (fun q h1 h2 => hF q (by omega))⟩ ⟨ρ, πs, hH.agr (fun q h1 h2 => hF q (by omega))⟩ (fun i hi => by
    obtain ⟨πi, hs⟩ := h.slo hi
    exact ⟨πi, hs.agr (fun q h1 h2 => hF q (by omega))⟩) ⟨rs, hTx.agr (fun q h1 h2 => hF q (by omega))⟩
theorem RX.setT {πt : Nat → Nat} {t : VV} (h : RX g A M0 M X π now hs k sl sv f L) (hV : RepV g A M1 (X + 36) πt t) (hF : FrV (X + 36) M M1) : RX g A M0 M1 X π now hs k sl sv f L := by
  obtain ⟨ρ, πs, hH⟩ := h.his
  obtain ⟨rs, hTx⟩ := h.txt
  exact h.gen (lo := X + 36) (hi := X + 71) (by omega) (by omega) (fun q hq => hF q (by omega)) (by omega) (h.nowV.agr (fun q h1 h2 => hF q (by omega))) ⟨πt, t, hV⟩ ⟨ρ, πs, hH.agr (fun q h1 h2 => hF q (by omega))⟩ (fun i hi => by
    obtain ⟨πi, hs⟩ := h.slo hi
    exact ⟨πi, hs.agr (fun q h1 h2 => hF q (by omega))⟩) ⟨rs, hTx.agr (fun q h1 h2 => hF q (by omega))⟩
theorem RX.setH {ρ1 : Nat → Nat} {πs1 : Nat → Nat → Nat} (h : RX g A M0 M X π now hs k sl sv f L) (hH : RepH g A M1 (X + 71) ρ1 πs1 hs1 (nI k1)) (hF : FrH (X + 71) M M1) : RX g A M0 M1 X π now hs1 k1 sl sv f L := by
  obtain ⟨πt, t, hT⟩ := h.tri
  obtain ⟨rs, hTx⟩ := h.txt
  exact h.gen (lo := X + 71) (hi := X + 283) (by omega) (by omega) (fun q hq => hF q (by omega)) (by omega) (h.nowV.agr (fun q h1 h2 => hF q (by omega))) ⟨πt, t, hT.agr (fun q h1 h2 => hF q (by omega))⟩ ⟨ρ1, πs1, hH⟩ (fun i hi => by
    obtain ⟨πi, hs⟩ := h.slo hi
    exact ⟨πi, hs.agr (fun q h1 h2 => hF q (by omega))⟩) ⟨rs, hTx.agr (fun q h1 h2 => hF q (by omega))⟩
theorem RX.setHN {ρ1 : Nat → Nat} {πs1 : Nat → Nat → Nat} (h : RX g A M0 M X π now hs k sl sv f L) (hH : RepH g A M1 (X + 71) ρ1 πs1 hs1 (nI k1)) (hV : RepV g A M1 (X + 1) π1 v1) (hF : FrHB (X + 71) (X + 1) M M1) : RX g A M0 M1 X π1 v1 hs1 k1 sl sv f L := by
  obtain ⟨πt, t, hT⟩ := h.tri
  obtain ⟨rs, hTx⟩ := h.txt
  exact h.gen (lo := X + 1) (hi := X + 283) (by omega) (by omega) (fun q hq => hF q (by omega) (by omega)) (by omega) hV ⟨πt, t, hT.agr (fun q h1 h2 => hF q (by omega) (by omega))⟩ ⟨ρ1, πs1, hH⟩ (fun i hi => by
    obtain ⟨πi, hs⟩ := h.slo hi
    exact ⟨πi, hs.agr (fun q h1 h2 => hF q (by omega) (by omega))⟩) ⟨rs, hTx.agr (fun q h1 h2 => hF q (by omega) (by omega))⟩
theorem RX.setX {f1 : Nat → Int32} {L1 : Nat} {rs1 : Nat → Int32} (h : RX g A M0 M X π now hs k sl sv f L) (hTx : RepT g A M1 (X + 285) f1 (nI L1) rs1) (hF : FrT (X + 285) M M1) : RX g A M0 M1 X π now hs k sl sv f1 L1 := by
  obtain ⟨πt, t, hT⟩ := h.tri
  obtain ⟨ρ, πs, hH⟩ := h.his
  exact h.gen (lo := X + 285) (hi := X + 288) (by omega) (by omega) (fun q hq => hF q (by omega)) (by omega) (h.nowV.agr (fun q h1 h2 => hF q (by omega))) ⟨πt, t, hT.agr (fun q h1 h2 => hF q (by omega))⟩ ⟨ρ, πs, hH.agr (fun q h1 h2 => hF q (by omega))⟩ (fun i hi => by
    obtain ⟨πi, hs⟩ := h.slo hi
    exact ⟨πi, hs.agr (fun q h1 h2 => hF q (by omega))⟩) ⟨rs1, hTx⟩
theorem RX.setS {i : Nat} {πi : Nat → Nat} (h : RX g A M0 M X π now hs k sl sv f L) (hi : i < 2) (hV : RepV g A M1 (X + 288 + 35 * i) πi v1) (hF : FrV (X + 288 + 35 * i) M M1) : RX g A M0 M1 X π now hs k (va_up sl i v1) sv f L := by
  obtain ⟨πt, t, hT⟩ := h.tri
  obtain ⟨ρ, πs, hH⟩ := h.his
  obtain ⟨rs, hTx⟩ := h.txt
  refine h.gen (lo := X + 288) (hi := X + 358) (by omega) (by omega) (fun q hq => hF q (by omega)) (by omega) (h.nowV.agr (fun q h1 h2 => hF q (by omega))) ⟨πt, t, hT.agr (fun q h1 h2 => hF q (by omega))⟩ ⟨ρ, πs, hH.agr (fun q h1 h2 => hF q (by omega))⟩ (fun j hj => ?_) ⟨rs, hTx.agr (fun q h1 h2 => hF q (by omega))⟩
  by_cases hji : j = i
  · subst hji
    rw [va_up_self]
    exact ⟨πi, hV⟩
  · rw [va_up_ne _ _ hji]
    obtain ⟨πj, hs⟩ := h.slo hj
    exact ⟨πj, hs.agr (fun q h1 h2 => hF q (by omega))⟩
theorem RX.setSv {sv1 : Nat → Int32} (h : RX g A M0 M X π now hs k sl sv f L) : RX g A M0 (va_up M (X + 284) (svE g sv1)) X π now hs k sl sv1 f L := by
  have hF : ∀ q, q ≠ X + 284 → va_up M (X + 284) (svE g sv1) q = M q := fun q hq => va_up_ne _ _ hq
  obtain ⟨⟨h1, h2, h3, h4, h5, h6, hN, ⟨πt, t, hT⟩, ⟨ρ, πs, hH⟩, hSl, ⟨rs, hTx⟩⟩, hf⟩ := h
  refine ⟨⟨h1, h2, h3, by rw [hF _ (by omega)]; exact h4, by rw [hF _ (by omega)]; exact h5, va_up_self _ _ _, hN.agr (fun q h1 h2 => hF q (by omega)), ⟨πt, t, hT.agr (fun q h1 h2 => hF q (by omega))⟩, ⟨ρ, πs, hH.agr (fun q h1 h2 => hF q (by omega))⟩, fun i hi => ?_, ⟨rs, hTx.agr (fun q h1 h2 => hF q (by omega))⟩⟩, fun q hq => (hF q (by omega)).trans (hf q hq)⟩
  obtain ⟨πi, hs⟩ := hSl i hi
  exact ⟨πi, hs.agr (fun q h1 h2 => hF q (by omega))⟩
end
/-- the class's state -/
abbrev CS : Type := VV × (Nat → VV) × Nat × (Nat → VV) × (Nat → Int32) × (Nat → Int32) × Nat
def RXS (g : GG) (A : Nat → Prop) (M0 M : MM) (X : Nat) (c : CS) : Prop := ∃ π, RX g A M0 M X π c.1 c.2.1 c.2.2.1 c.2.2.2.1 c.2.2.2.2.1 c.2.2.2.2.2.1 c.2.2.2.2.2.2
def CI (c : CS) : Prop := OnW c.1 ∧ c.2.2.1 ≤ 6 ∧ (∀ i, i < 6 → OnW (c.2.1 i)) ∧ (∀ i, i < 2 → OnW (c.2.2.2.1 i)) ∧ c.2.2.2.2.2.2 ≤ 60 ∧ ∀ i, i < 60 → narrow .char (.int (c.2.2.2.2.2.1 i)) = .int (c.2.2.2.2.2.1 i) ∧ fits .char (.int (c.2.2.2.2.2.1 i)) = true
def onN (v : VV) : Nat := (v.1 3).toNatClampNeg
theorem onN_eq {v : VV} {n : Nat} (h : v.1 3 = nI n) (hn : n ≤ 20) : onN v = n := by
  unfold onN
  rw [h]
  exact nI_clamp (by omega)
theorem OnW.eq {v : VV} (h : OnW v) : v.1 3 = nI (onN v) ∧ onN v ≤ 20 := by
  obtain ⟨n, hn, e⟩ := h
  rw [onN_eq e hn]
  exact ⟨e, hn⟩
/-- the state before a change is recorded, and there is a new one -/
def recX (c : CS) (v : VV) : CS := (v, recV c.2.2.1 c.2.1 c.1 (onN c.1), recK c.2.2.1, c.2.2.2)
end
section
def oSet (c : CS) (x y : Int32) : Int32 × CS := if x = 0 ∧ ¬ winC y 4 60 = 0 then (c.1.1 0, recX c (chgC c.1 (onN c.1) y)) else if x = 1 ∧ ¬ winC y 0 1 = 0 then (c.1.1 1, recX c (vW c.1 1 y)) else (-1000002, c)
theorem oSet_a {c : CS} {x y : Int32} (h : x = 0) (h2 : ¬ winC y 4 60 = 0) : oSet c x y = (c.1.1 0, recX c (chgC c.1 (onN c.1) y)) := if_pos ⟨h, h2⟩
theorem oSet_b {c : CS} {x y : Int32} (h : x = 1) (h2 : ¬ winC y 0 1 = 0) : oSet c x y = (c.1.1 1, recX c (vW c.1 1 y)) := (if_neg (fun z => absurd (z.1.symm.trans h) (by decide))).trans (if_pos ⟨h, h2⟩)
theorem oSet_c {c : CS} {x y : Int32} (h : ¬ x = 0) (h2 : ¬ x = 1) : oSet c x y = (-1000002, c) := (if_neg (fun z => h z.1)).trans (if_neg (fun z => h2 z.1))
theorem oSet_d {c : CS} {x y : Int32} (h : x = 0) (h2 : winC y 4 60 = 0) : oSet c x y = (-1000002, c) := (if_neg (fun z => z.2 h2)).trans (if_neg (fun z => absurd (h.symm.trans z.1) (by decide)))
theorem oSet_e {c : CS} {x y : Int32} (h : ¬ x = 0) (h2 : winC y 0 1 = 0) : oSet c x y = (-1000002, c) := (if_neg (fun z => h z.1)).trans (if_neg (fun z => z.2 h2))
def gauV (v : VV) (i : Nat) (a b d w : Int32) : VV := vG (vG (vG (vG v i 0 a) i 1 b) i 2 d) i 3 w
def oGauge (c : CS) (x a b d w : Int32) : Int32 × CS := match gxn 6 x with
  | none => (-1000001, c)
  | some i => if winC a 1 9 = 0 ∨ winC b 1 50 = 0 ∨ winC d 0 200 = 0 ∨ winC w 0 9 = 0 then (-1000002, c) else ((gauV c.1 i a b d w).2.1 i 4, recX c (gauV c.1 i a b d w))
theorem oGauge_n {c : CS} {x a b d w : Int32} (e : gxn 6 x = none) : oGauge c x a b d w = (-1000001, c) := by unfold oGauge; rw [e]
theorem oGauge_b {c : CS} {x a b d w : Int32} {i : Nat} (e : gxn 6 x = some i) (h : winC a 1 9 = 0 ∨ winC b 1 50 = 0 ∨ winC d 0 200 = 0 ∨ winC w 0 9 = 0) : oGauge c x a b d w = (-1000002, c) := by unfold oGauge; rw [e]; exact if_pos h
theorem oGauge_y {c : CS} {x a b d w : Int32} {i : Nat} (e : gxn 6 x = some i) (h1 : ¬ winC a 1 9 = 0) (h2 : ¬ winC b 1 50 = 0) (h3 : ¬ winC d 0 200 = 0) (h4 : ¬ winC w 0 9 = 0) : oGauge c x a b d w = ((gauV c.1 i a b d w).2.1 i 4, recX c (gauV c.1 i a b d w)) := by unfold oGauge; rw [e]; exact if_neg (fun z => z.elim h1 (fun z => z.elim h2 (fun z => z.elim h3 h4)))
def oRain (c : CS) (x y : Int32) : Int32 × CS := if winC x 0 99 = 0 ∨ winC y 1 24 = 0 then (-1000002, c) else if ¬ c.1.1 2 + y ≤ 9999 then (-1000004, c) else (pasT x c.1 y.toNatClampNeg, recX c (pasC x c.1 y.toNatClampNeg))
def oSend (c : CS) (x : Int32) : Int32 × CS := match gxn 6 x with
  | none => (-1000001, c)
  | some i => if nI 20 ≤ c.1.1 3 then (-1000004, c) else (whC (senC c.1 i (onN c.1)) ((senC c.1 i (onN c.1)).2.1 i 5), recX c (senC c.1 i (onN c.1)))
def ruN (c : CS) (x : Int32) : Option Nat := if c.1.1 3 ≤ x then none else gxn 20 x
def oLose (c : CS) (x : Int32) : Int32 × CS := match ruN c x with
  | none => (-1000001, c)
  | some j => (c.1.2.2 j 0, recX c (rmvC (cosC c.1 j) j (onN c.1)))
def oTwice (c : CS) (x : Int32) : Int32 × CS := match ruN c x with
  | none => (-1000001, c)
  | some j => if nI 20 ≤ c.1.1 3 then (-1000004, c) else ((twiC c.1 j (onN c.1)).1 3, recX c (twiC c.1 j (onN c.1)))
def oGaugeOf (c : CS) (x y : Int32) : Int32 := match gxn 6 x with
  | none => -1000001
  | some i => facC c.1 i y
def ledV (v : VV) (i : Nat) (y : Int32) : Int32 := if y = 0 then v.2.1 i 8 else if y = 1 then v.2.1 i 9 else if y = 2 then whC v (v.2.1 i 10) else if y = 3 then v.2.1 i 5 - v.2.1 i 8 else if y = 4 then v.2.1 i 12 else if y = 5 then v.2.1 i 13 else if y = 6 then v.2.1 i 14 else if y = 7 then v.2.1 i 15 else -1000002
def oLedger (c : CS) (x y : Int32) : Int32 := match gxn 6 x with
  | none => -1000001
  | some i => ledV c.1 i y
def runV (v : VV) (j : Nat) (y : Int32) : Int32 := if y = 0 then v.2.2 j 0 else if y = 1 then whC v (v.2.2 j 1) else if y = 2 then v.2.2 j 2 else if y = 3 then v.2.2 j 4 else -1000002
def oRunner (c : CS) (x y : Int32) : Int32 := match ruN c x with
  | none => -1000001
  | some j => runV c.1 j y
def oCount (c : CS) (x : Int32) : Int32 := if x = 0 then c.1.1 0 else if x = 1 then c.1.1 1 else if x = 2 then c.1.1 2 else if x = 3 then c.1.1 3 else if x = 4 then sumN (fun i => facC c.1 i 7) 6 else if x = 5 then sumN (fun i => facC c.1 i 8) 6 + sumN (fun i => facC c.1 i 4) 6 else if x = 6 then sumN (fun i => facC c.1 i 5) 6 else if x = 7 then sumN (fun i => c.1.2.1 i 8) 6 else if x = 8 then gapN c.1 6 else if x = 9 then nI c.2.2.2.2.2.2 else if x = 10 then nI c.2.2.1 else -1000002
theorem sw_out {lo hi : Int} {x : Int32} (h : x.toInt < lo ∨ hi < x.toInt) (k : Int32) (h1 : lo ≤ k.toInt) (h2 : k.toInt ≤ hi) : ¬ x = k := fun q => by subst q; omega
theorem ledV_out {v : VV} {i : Nat} {y : Int32} (h : y.toInt < 0 ∨ 7 < y.toInt) : ledV v i y = -1000002 := by
  unfold ledV
  rw [if_neg (sw_out h 0 (by decide) (by decide)), if_neg (sw_out h 1 (by decide) (by decide)), if_neg (sw_out h 2 (by decide) (by decide)), if_neg (sw_out h 3 (by decide) (by decide)), if_neg (sw_out h 4 (by decide) (by decide)), if_neg (sw_out h 5 (by decide) (by decide)), if_neg (sw_out h 6 (by decide) (by decide)), if_neg (sw_out h 7 (by decide) (by decide))]
theorem runV_out {v : VV} {i : Nat} {y : Int32} (h : y.toInt < 0 ∨ 3 < y.toInt) : runV v i y = -1000002 := by
  unfold runV
  rw [if_neg (sw_out h 0 (by decide) (by decide)), if_neg (sw_out h 1 (by decide) (by decide)), if_neg (sw_out h 2 (by decide) (by decide)), if_neg (sw_out h 3 (by decide) (by decide))]
theorem oCount_out {c : CS} {y : Int32} (h : y.toInt < 0 ∨ 10 < y.toInt) : oCount c y = -1000002 := by
  unfold oCount
  rw [if_neg (sw_out h 0 (by decide) (by decide)), if_neg (sw_out h 1 (by decide) (by decide)), if_neg (sw_out h 2 (by decide) (by decide)), if_neg (sw_out h 3 (by decide) (by decide)), if_neg (sw_out h 4 (by decide) (by decide)), if_neg (sw_out h 5 (by decide) (by decide)), if_neg (sw_out h 6 (by decide) (by decide)), if_neg (sw_out h 7 (by decide) (by decide)), if_neg (sw_out h 8 (by decide) (by decide)), if_neg (sw_out h 9 (by decide) (by decide)), if_neg (sw_out h 10 (by decide) (by decide))]
theorem win_of {x lo hi : Int32} (h : ¬ winC x lo hi = 0) : lo ≤ x ∧ x ≤ hi := Classical.byContradiction (fun q => h (if_neg q))
theorem clampQ {x hi : Int32} {n : Nat} (h0 : 0 ≤ x) (h1 : x ≤ hi) (hh : hi.toInt = n) (hn : n < 2 ^ 31) : ∃ q, q ≤ n ∧ x = nI q ∧ x.toNatClampNeg = q := by
  obtain ⟨q, hq, e⟩ := nI_of2 (M := hi) hh (Int32.not_lt.mpr h0) h1
  exact ⟨q, hq, e, by rw [e]; exact nI_clamp (by omega)⟩
theorem ru_cases {v : VV} {n : Nat} (hn : v.1 3 = nI n) (hn20 : n ≤ 20) (x : Int32) : (if v.1 3 ≤ x then none else gxn 20 x) = none ∨ ∃ j, j < n ∧ x = nI j ∧ (if v.1 3 ≤ x then none else gxn 20 x) = some j := by
  rw [hn]
  rcases pk_ix x (show n < 2 ^ 31 by omega) with h | h | ⟨j, hj, rfl⟩
  · refine Or.inl ?_
    by_cases h2 : nI n ≤ x
    · rw [if_pos h2]
    · rw [if_neg h2]
      unfold gxn
      rw [if_pos (Or.inl h)]
  · exact Or.inl (if_pos h)
  · refine Or.inr ⟨j, hj, rfl, ?_⟩
    rw [if_neg (nI_ge hj (by omega))]
    exact gxn_in (by omega) (by decide)
set_option maxHeartbeats 4000000 in
set_option maxRecDepth 100000 in
/-- set -/
theorem k_X7_set (l : Launch) (g : GG) (A : Nat → Prop) (M0 : MM) (X : Nat) (now : VV) (hs : Nat → VV) (k : Nat) (sl : Nat → VV) (sv f : Nat → Int32) (L : Nat) (hR : RXS g A M0 M0 X (now, hs, k, sl, sv, f, L)) (hI : CI (now, hs, k, sl, sv, f, L)) (x y : Int32)  : Met l yX7_set (Uw yX7_set cX7_set 4 (Option.some ClassFile.FieldType.int)) (rmD 4) (PreM [.ref (X), .int (x), .int (y)] g A M0) (PosI (fun r M1 => r = (oSet (now, hs, k, sl, sv, f, L) x y).1 ∧ RXS g A M0 M1 X (oSet (now, hs, k, sl, sv, f, L) x y).2) g A) 0 0 A := by
  refine mk_Met (own := RX7) rfl rfl (by decide) (Nat.le_of_ble_eq_true rfl) ?_
  intro p e s m below meth c ls aa Q haa hQ hx hb hr hlk hml hown hts hK hM hS hl hnm
  obtain ⟨M, hMM⟩ : ∃ M, M = M0 := ⟨_, rfl⟩
  rw [← hMM] at hM hR
  have ht : ∀ w ∈ lw_good, w.before _ s = true := fun w h => hts w (List.mem_cons_of_mem _ h)
  have hl : lv_has ls 4 [(0, .ref (X)), (1, .int (x)), (2, .int (y))] := hl
  obtain ⟨π, hX⟩ := hR
  have hX : RX g A M0 M X π now hs k sl sv f L := ⟨hX.1, by rw [hMM]; exact FrX.rf⟩
  obtain ⟨⟨n, hn20, hn⟩, hk6, hhs, hsl, hL, hch⟩ := id hI
  have hN : onN now = n := onN_eq hn hn20
  refine lv_iload_n hx hb dX7_set_0 rfl (lv_at hl 1 rfl) ?_
  refine lv_if_ne (tgt := 43) hx hb dX7_set_1 (by decide) (fun c_1 => ?_) (fun c_1 => ?_)
  · refine lv_iload_n hx hb dX7_set_43 rfl (lv_at hl 1 rfl) ?_
    refine lv_iconst (v := 1) hx hb dX7_set_44 (by first | rfl | decide) ?_
    refine lv_icmp_ne (tgt := 86) hx hb dX7_set_45 (by decide) (fun c_45 => ?_) (fun c_45 => ?_)
    · refine lv_ldc (v := (-1000002)) hx hb hown (ht _ uw_340) dX7_set_86 ?_
      subst hQ
      exact m_zret hx hb hr (rfl) hlk hK hM hS dX7_set_88 (by first | (rw [oSet_c c_1 c_45]; exact ⟨rfl, π, hX⟩) | (rw [oSet_e c_1 c_54]; exact ⟨rfl, π, hX⟩) | (rw [oSet_d c_1 c_11]; exact ⟨rfl, π, hX⟩))
    · refine lv_iload_n hx hb dX7_set_48 rfl (lv_at hl 2 rfl) ?_
      refine lv_iconst (v := 0) hx hb dX7_set_49 (by first | rfl | decide) ?_
      refine lv_iconst (v := 1) hx hb dX7_set_50 (by first | rfl | decide) ?_
      refine m_callRSI (val := winC (y) (0) (1)) (As := [.int (y), .int (0), .int (1)]) (rest := []) ⟨hx, hb, hml, hown, ht⟩ (k_X7_within l g A M (y) (0) (1)) (cwS 3 ht (gUS uw_301 uw_302 uw_34 uw_303) rfl rfl rfl (by decide +kernel) ⟨by decide, by decide⟩) hK hM hS rfl hl.1 rfl (Nat.le_of_ble_eq_true rfl) dX7_set_51 ⟨by decide, by decide⟩ (fun H locs hM hS => ?_)
      refine lv_if_eq (tgt := 86) hx hb dX7_set_54 (by decide) (fun c_54 => ?_) (fun c_54 => ?_)
      · refine lv_ldc (v := (-1000002)) hx hb hown (ht _ uw_340) dX7_set_86 ?_
        subst hQ
        exact m_zret hx hb hr (rfl) hlk hK hM hS dX7_set_88 (by first | (rw [oSet_c c_1 c_45]; exact ⟨rfl, π, hX⟩) | (rw [oSet_e c_1 c_54]; exact ⟨rfl, π, hX⟩) | (rw [oSet_d c_1 c_11]; exact ⟨rfl, π, hX⟩))
      · refine lv_aload_n hx hb dX7_set_57 rfl (lv_at hl 0 rfl) ?_
        refine m_get (ci := 7) (C := RX7) (T := TX7) (N := 7) hx hb ht ui_X7 hown hK hM hX.AX hX.obj rfl 2 (by decide) (ht _ uw_277) rfl dX7_set_58 ?_
        refine lv_aload_n hx hb dX7_set_61 rfl (lv_at hl 0 rfl) ?_
        refine m_get (ci := 7) (C := RX7) (T := TX7) (N := 7) hx hb ht ui_X7 hown hK hM hX.AX hX.obj rfl 0 (by decide) (ht _ uw_275) rfl dX7_set_62 ?_
        obtain ⟨ρ8, πs8, hH8⟩ := hX.his
        refine m_callV (As := [.ref (X + 1)]) (rest := []) ⟨hx, hb, hml, hown, ht⟩ (k_X1_record l g A M (X + 71) ρ8 πs8 hs (nI k) hH8 (X + 1) π now n hX.nowV (by omega) k rfl hk6 hn hn20) (cwV 1 ht (gU uw_304 uw_305 uw_306 uw_39 uw_307) rfl rfl rfl (by decide +kernel) ⟨by decide, by decide⟩) hK hM hS (m_recv hK hM hH8.1 hH8.2.2.2.1 rfl) rfl hl.1 rfl (Nat.le_of_ble_eq_true rfl) dX7_set_65 ⟨by decide, by decide⟩ (fun M H locs hp hM hS => ?_)
        obtain ⟨⟨ρ7, πs7, hH7⟩, hF7⟩ := hp
        have hX := hX.setH hH7 hF7
        refine lv_aload_n hx hb dX7_set_68 rfl (lv_at hl 0 rfl) ?_
        refine m_get (ci := 7) (C := RX7) (T := TX7) (N := 7) hx hb ht ui_X7 hown hK hM hX.AX hX.obj rfl 0 (by decide) (ht _ uw_275) rfl dX7_set_69 ?_
        refine rv_getW hx hb ht ui_X6 hown hK hM hX.nowV 1 (by decide) (ht _ uw_191) dX7_set_72 ?_
        refine lv_istore_n (lv' := [(3, .int (now.1 1)), (0, .ref (X)), (1, .int (x)), (2, .int (y))]) hx hb dX7_set_75 rfl hl (by decide) rfl (fun ls hl => ?_)
        refine lv_aload_n hx hb dX7_set_76 rfl (lv_at hl 1 rfl) ?_
        refine m_get (ci := 7) (C := RX7) (T := TX7) (N := 7) hx hb ht ui_X7 hown hK hM hX.AX hX.obj rfl 0 (by decide) (ht _ uw_275) rfl dX7_set_77 ?_
        refine lv_iload_n hx hb dX7_set_80 rfl (lv_at hl 3 rfl) ?_
        refine rv_putW hx hb ht ui_X6 hown hK hM hS hX.nowV FrV.rf 1 (by decide) (ht _ uw_191) dX7_set_81 (fun M H locs hM hV9 hF9 hS => ?_)
        have hX := hX.setN hV9 hF9
        refine lv_iload_n hx hb dX7_set_84 rfl (lv_at hl 0 rfl) ?_
        subst hQ
        exact m_zret hx hb hr (rfl) hlk hK hM hS dX7_set_85 (by rw [oSet_b c_45 c_54]; exact ⟨rfl, π, by rw [← hN] at hX; exact hX⟩)
  · refine lv_iload_n hx hb dX7_set_4 rfl (lv_at hl 2 rfl) ?_
    refine lv_iconst (v := 4) hx hb dX7_set_5 (by first | rfl | decide) ?_
    refine lv_bipush (v := 60) hx hb dX7_set_6 (by first | rfl | decide) ?_
    refine m_callRSI (val := winC (y) (4) (60)) (As := [.int (y), .int (4), .int (60)]) (rest := []) ⟨hx, hb, hml, hown, ht⟩ (k_X7_within l g A M (y) (4) (60)) (cwS 3 ht (gUS uw_301 uw_302 uw_34 uw_303) rfl rfl rfl (by decide +kernel) ⟨by decide, by decide⟩) hK hM hS rfl hl.1 rfl (Nat.le_of_ble_eq_true rfl) dX7_set_8 ⟨by decide, by decide⟩ (fun H locs hM hS => ?_)
    refine lv_if_eq (tgt := 43) hx hb dX7_set_11 (by decide) (fun c_11 => ?_) (fun c_11 => ?_)
    · refine lv_iload_n hx hb dX7_set_43 rfl (lv_at hl 1 rfl) ?_
      refine lv_iconst (v := 1) hx hb dX7_set_44 (by first | rfl | decide) ?_
      refine lv_icmp_ne (tgt := 86) hx hb dX7_set_45 (by decide) (fun c_45 => ?_) (fun c_45 => ?_)
      · refine lv_ldc (v := (-1000002)) hx hb hown (ht _ uw_340) dX7_set_86 ?_
        subst hQ
        exact m_zret hx hb hr (rfl) hlk hK hM hS dX7_set_88 (by first | (rw [oSet_c c_1 c_45]; exact ⟨rfl, π, hX⟩) | (rw [oSet_e c_1 c_54]; exact ⟨rfl, π, hX⟩) | (rw [oSet_d c_1 c_11]; exact ⟨rfl, π, hX⟩))
      · refine lv_iload_n hx hb dX7_set_48 rfl (lv_at hl 2 rfl) ?_
        refine lv_iconst (v := 0) hx hb dX7_set_49 (by first | rfl | decide) ?_
        refine lv_iconst (v := 1) hx hb dX7_set_50 (by first | rfl | decide) ?_
        refine m_callRSI (val := winC (y) (0) (1)) (As := [.int (y), .int (0), .int (1)]) (rest := []) ⟨hx, hb, hml, hown, ht⟩ (k_X7_within l g A M (y) (0) (1)) (cwS 3 ht (gUS uw_301 uw_302 uw_34 uw_303) rfl rfl rfl (by decide +kernel) ⟨by decide, by decide⟩) hK hM hS rfl hl.1 rfl (Nat.le_of_ble_eq_true rfl) dX7_set_51 ⟨by decide, by decide⟩ (fun H locs hM hS => ?_)
        refine lv_if_eq (tgt := 86) hx hb dX7_set_54 (by decide) (fun c_54 => ?_) (fun c_54 => ?_)
        · refine lv_ldc (v := (-1000002)) hx hb hown (ht _ uw_340) dX7_set_86 ?_
          subst hQ
          exact m_zret hx hb hr (rfl) hlk hK hM hS dX7_set_88 (by first | (rw [oSet_c c_1 c_45]; exact ⟨rfl, π, hX⟩) | (rw [oSet_e c_1 c_54]; exact ⟨rfl, π, hX⟩) | (rw [oSet_d c_1 c_11]; exact ⟨rfl, π, hX⟩))
        · refine lv_aload_n hx hb dX7_set_57 rfl (lv_at hl 0 rfl) ?_
          refine m_get (ci := 7) (C := RX7) (T := TX7) (N := 7) hx hb ht ui_X7 hown hK hM hX.AX hX.obj rfl 2 (by decide) (ht _ uw_277) rfl dX7_set_58 ?_
          refine lv_aload_n hx hb dX7_set_61 rfl (lv_at hl 0 rfl) ?_
          refine m_get (ci := 7) (C := RX7) (T := TX7) (N := 7) hx hb ht ui_X7 hown hK hM hX.AX hX.obj rfl 0 (by decide) (ht _ uw_275) rfl dX7_set_62 ?_
          obtain ⟨ρ8, πs8, hH8⟩ := hX.his
          refine m_callV (As := [.ref (X + 1)]) (rest := []) ⟨hx, hb, hml, hown, ht⟩ (k_X1_record l g A M (X + 71) ρ8 πs8 hs (nI k) hH8 (X + 1) π now n hX.nowV (by omega) k rfl hk6 hn hn20) (cwV 1 ht (gU uw_304 uw_305 uw_306 uw_39 uw_307) rfl rfl rfl (by decide +kernel) ⟨by decide, by decide⟩) hK hM hS (m_recv hK hM hH8.1 hH8.2.2.2.1 rfl) rfl hl.1 rfl (Nat.le_of_ble_eq_true rfl) dX7_set_65 ⟨by decide, by decide⟩ (fun M H locs hp hM hS => ?_)
          obtain ⟨⟨ρ7, πs7, hH7⟩, hF7⟩ := hp
          have hX := hX.setH hH7 hF7
          refine lv_aload_n hx hb dX7_set_68 rfl (lv_at hl 0 rfl) ?_
          refine m_get (ci := 7) (C := RX7) (T := TX7) (N := 7) hx hb ht ui_X7 hown hK hM hX.AX hX.obj rfl 0 (by decide) (ht _ uw_275) rfl dX7_set_69 ?_
          refine rv_getW hx hb ht ui_X6 hown hK hM hX.nowV 1 (by decide) (ht _ uw_191) dX7_set_72 ?_
          refine lv_istore_n (lv' := [(3, .int (now.1 1)), (0, .ref (X)), (1, .int (x)), (2, .int (y))]) hx hb dX7_set_75 rfl hl (by decide) rfl (fun ls hl => ?_)
          refine lv_aload_n hx hb dX7_set_76 rfl (lv_at hl 1 rfl) ?_
          refine m_get (ci := 7) (C := RX7) (T := TX7) (N := 7) hx hb ht ui_X7 hown hK hM hX.AX hX.obj rfl 0 (by decide) (ht _ uw_275) rfl dX7_set_77 ?_
          refine lv_iload_n hx hb dX7_set_80 rfl (lv_at hl 3 rfl) ?_
          refine rv_putW hx hb ht ui_X6 hown hK hM hS hX.nowV FrV.rf 1 (by decide) (ht _ uw_191) dX7_set_81 (fun M H locs hM hV9 hF9 hS => ?_)
          have hX := hX.setN hV9 hF9
          refine lv_iload_n hx hb dX7_set_84 rfl (lv_at hl 0 rfl) ?_
          subst hQ
          exact m_zret hx hb hr (rfl) hlk hK hM hS dX7_set_85 (by rw [oSet_b c_45 c_54]; exact ⟨rfl, π, by rw [← hN] at hX; exact hX⟩)
    · refine lv_aload_n hx hb dX7_set_14 rfl (lv_at hl 0 rfl) ?_
      refine m_get (ci := 7) (C := RX7) (T := TX7) (N := 7) hx hb ht ui_X7 hown hK hM hX.AX hX.obj rfl 2 (by decide) (ht _ uw_277) rfl dX7_set_15 ?_
      refine lv_aload_n hx hb dX7_set_18 rfl (lv_at hl 0 rfl) ?_
      refine m_get (ci := 7) (C := RX7) (T := TX7) (N := 7) hx hb ht ui_X7 hown hK hM hX.AX hX.obj rfl 0 (by decide) (ht _ uw_275) rfl dX7_set_19 ?_
      obtain ⟨ρ8, πs8, hH8⟩ := hX.his
      refine m_callV (As := [.ref (X + 1)]) (rest := []) ⟨hx, hb, hml, hown, ht⟩ (k_X1_record l g A M (X + 71) ρ8 πs8 hs (nI k) hH8 (X + 1) π now n hX.nowV (by omega) k rfl hk6 hn hn20) (cwV 1 ht (gU uw_304 uw_305 uw_306 uw_39 uw_307) rfl rfl rfl (by decide +kernel) ⟨by decide, by decide⟩) hK hM hS (m_recv hK hM hH8.1 hH8.2.2.2.1 rfl) rfl hl.1 rfl (Nat.le_of_ble_eq_true rfl) dX7_set_22 ⟨by decide, by decide⟩ (fun M H locs hp hM hS => ?_)
      obtain ⟨⟨ρ7, πs7, hH7⟩, hF7⟩ := hp
      have hX := hX.setH hH7 hF7
      refine lv_aload_n hx hb dX7_set_25 rfl (lv_at hl 0 rfl) ?_
      refine m_get (ci := 7) (C := RX7) (T := TX7) (N := 7) hx hb ht ui_X7 hown hK hM hX.AX hX.obj rfl 0 (by decide) (ht _ uw_275) rfl dX7_set_26 ?_
      refine rv_getW hx hb ht ui_X6 hown hK hM hX.nowV 0 (by decide) (ht _ uw_189) dX7_set_29 ?_
      refine lv_istore_n (lv' := [(3, .int (now.1 0)), (0, .ref (X)), (1, .int (x)), (2, .int (y))]) hx hb dX7_set_32 rfl hl (by decide) rfl (fun ls hl => ?_)
      refine lv_aload_n hx hb dX7_set_33 rfl (lv_at hl 1 rfl) ?_
      refine m_get (ci := 7) (C := RX7) (T := TX7) (N := 7) hx hb ht ui_X7 hown hK hM hX.AX hX.obj rfl 0 (by decide) (ht _ uw_275) rfl dX7_set_34 ?_
      refine lv_iload_n hx hb dX7_set_37 rfl (lv_at hl 3 rfl) ?_
      refine m_callV (As := [.int (y)]) (rest := []) ⟨hx, hb, hml, hown, ht⟩ (k_X6_changeWheels l g A M (X + 1) π now y hX.nowV n hn hn20) (cwV 1 ht (gU uw_328 uw_329 uw_330 uw_35 uw_331) rfl rfl rfl (by decide +kernel) ⟨by decide, by decide⟩) hK hM hS (m_recv hK hM hX.nowV.AW hX.nowV.W rfl) rfl hl.1 rfl (Nat.le_of_ble_eq_true rfl) dX7_set_38 ⟨by decide, by decide⟩ (fun M H locs hp hM hS => ?_)
      obtain ⟨hV9, hF9⟩ := hp
      have hX := hX.setN hV9 hF9
      refine lv_iload_n hx hb dX7_set_41 rfl (lv_at hl 0 rfl) ?_
      subst hQ
      exact m_zret hx hb hr (rfl) hlk hK hM hS dX7_set_42 (by rw [oSet_a c_1 c_11]; exact ⟨rfl, π, by rw [← hN] at hX; exact hX⟩)

set_option maxHeartbeats 4000000 in
set_option maxRecDepth 100000 in
/-- gauge -/
theorem k_X7_gauge (l : Launch) (g : GG) (A : Nat → Prop) (M0 : MM) (X : Nat) (now : VV) (hs : Nat → VV) (k : Nat) (sl : Nat → VV) (sv f : Nat → Int32) (L : Nat) (hR : RXS g A M0 M0 X (now, hs, k, sl, sv, f, L)) (hI : CI (now, hs, k, sl, sv, f, L)) (x a b d w : Int32)  : Met l yX7_gauge (Uw yX7_gauge cX7_gauge 8 (Option.some ClassFile.FieldType.int)) (rmD 4) (PreM [.ref (X), .int (x), .int (a), .int (b), .int (d), .int (w)] g A M0) (PosI (fun r M1 => r = (oGauge (now, hs, k, sl, sv, f, L) x a b d w).1 ∧ RXS g A M0 M1 X (oGauge (now, hs, k, sl, sv, f, L) x a b d w).2) g A) 0 0 A := by
  refine mk_Met (own := RX7) rfl rfl (by decide) (Nat.le_of_ble_eq_true rfl) ?_
  intro p e s m below meth c ls aa Q haa hQ hx hb hr hlk hml hown hts hK hM hS hl hnm
  obtain ⟨M, hMM⟩ : ∃ M, M = M0 := ⟨_, rfl⟩
  rw [← hMM] at hM hR
  have ht : ∀ w ∈ lw_good, w.before _ s = true := fun w h => hts w (List.mem_cons_of_mem _ h)
  have hl : lv_has ls 8 [(0, .ref (X)), (1, .int (x)), (2, .int (a)), (3, .int (b)), (4, .int (d)), (5, .int (w))] := hl
  obtain ⟨π, hX⟩ := hR
  have hX : RX g A M0 M X π now hs k sl sv f L := ⟨hX.1, by rw [hMM]; exact FrX.rf⟩
  obtain ⟨⟨n, hn20, hn⟩, hk6, hhs, hsl, hL, hch⟩ := id hI
  have hN : onN now = n := onN_eq hn hn20
  rcases gxn_cases (n := 6) (by decide) x with ⟨e1, h1⟩ | ⟨i, hi, ex, e1⟩
  · refine lv_aload_n hx hb dX7_gauge_0 rfl (lv_at hl 0 rfl) ?_
    refine m_get (ci := 7) (C := RX7) (T := TX7) (N := 7) hx hb ht ui_X7 hown hK hM hX.AX hX.obj rfl 0 (by decide) (ht _ uw_275) rfl dX7_gauge_1 ?_
    refine lv_iload_n hx hb dX7_gauge_4 rfl (lv_at hl 1 rfl) ?_
    refine m_callRQ (val := none) (w := .null) (rfl) (As := [.int (x)]) (rest := []) ⟨hx, hb, hml, hown, ht⟩ (k_X6_gaugeAt l g A M (X + 1) π now (x) none hX.nowV e1) (cwV 1 ht (gU uw_345 uw_337 uw_338 uw_35 uw_339) rfl rfl rfl (by decide +kernel) ⟨by decide, by decide⟩) hK hM hS (m_recv hK hM hX.nowV.AW hX.nowV.W rfl) rfl hl.1 rfl (Nat.le_of_ble_eq_true rfl) dX7_gauge_5 ⟨by decide, by decide⟩ (fun H locs hM hS => ?_)
    refine lv_astoreN (lv' := [(6, .null), (0, .ref (X)), (1, .int (x)), (2, .int (a)), (3, .int (b)), (4, .int (d)), (5, .int (w))]) hx hb dX7_gauge_8 hl (by decide) rfl (fun ls hl => ?_)
    refine lv_aloadN hx hb dX7_gauge_10 (lv_at hl 0 rfl) ?_
    refine lv_ifnonnullN hx hb dX7_gauge_12 ?_
    refine lv_ldc (v := (-1000001)) hx hb hown (ht _ uw_346) dX7_gauge_15 ?_
    subst hQ
    exact m_zret hx hb hr (rfl) hlk hK hM hS dX7_gauge_17 (by rw [oGauge_n e1]; exact ⟨rfl, π, hX⟩)
  · refine lv_aload_n hx hb dX7_gauge_0 rfl (lv_at hl 0 rfl) ?_
    refine m_get (ci := 7) (C := RX7) (T := TX7) (N := 7) hx hb ht ui_X7 hown hK hM hX.AX hX.obj rfl 0 (by decide) (ht _ uw_275) rfl dX7_gauge_1 ?_
    refine lv_iload_n hx hb dX7_gauge_4 rfl (lv_at hl 1 rfl) ?_
    refine m_callRQ (val := some (X + 1 + 3 + 2 * i)) (w := .ref (X + 1 + 3 + 2 * i)) (rfl) (As := [.int (x)]) (rest := []) ⟨hx, hb, hml, hown, ht⟩ (k_X6_gaugeAt l g A M (X + 1) π now (x) (some i) hX.nowV e1) (cwV 1 ht (gU uw_345 uw_337 uw_338 uw_35 uw_339) rfl rfl rfl (by decide +kernel) ⟨by decide, by decide⟩) hK hM hS (m_recv hK hM hX.nowV.AW hX.nowV.W rfl) rfl hl.1 rfl (Nat.le_of_ble_eq_true rfl) dX7_gauge_5 ⟨by decide, by decide⟩ (fun H locs hM hS => ?_)
    refine lv_astore (lv' := [(6, .ref (X + 1 + 3 + 2 * i)), (0, .ref (X)), (1, .int (x)), (2, .int (a)), (3, .int (b)), (4, .int (d)), (5, .int (w))]) hx hb dX7_gauge_8 hl (by decide) rfl (fun ls hl => ?_)
    refine lv_aload hx hb dX7_gauge_10 (lv_at hl 0 rfl) ?_
    refine lv_ifnonnull (tgt := 18) hx hb dX7_gauge_12 (by decide) ?_
    refine lv_iload_n hx hb dX7_gauge_18 rfl (lv_at hl 3 rfl) ?_
    refine lv_iconst (v := 1) hx hb dX7_gauge_19 (by first | rfl | decide) ?_
    refine lv_bipush (v := 9) hx hb dX7_gauge_20 (by first | rfl | decide) ?_
    refine m_callRSI (val := winC (a) (1) (9)) (As := [.int (a), .int (1), .int (9)]) (rest := []) ⟨hx, hb, hml, hown, ht⟩ (k_X7_within l g A M (a) (1) (9)) (cwS 3 ht (gUS uw_301 uw_302 uw_34 uw_303) rfl rfl rfl (by decide +kernel) ⟨by decide, by decide⟩) hK hM hS rfl hl.1 rfl (Nat.le_of_ble_eq_true rfl) dX7_gauge_22 ⟨by decide, by decide⟩ (fun H locs hM hS => ?_)
    refine lv_if_eq (tgt := 42) hx hb dX7_gauge_25 (by decide) (fun c_25 => ?_) (fun c_25 => ?_)
    · refine lv_iconst (v := 0) hx hb dX7_gauge_42 (by first | rfl | decide) ?_
      refine lv_istore (lv' := [(7, .int (0)), (6, .ref (X + 1 + 3 + 2 * i)), (0, .ref (X)), (1, .int (x)), (2, .int (a)), (3, .int (b)), (4, .int (d)), (5, .int (w))]) hx hb dX7_gauge_43 hl (by decide) rfl (fun ls hl => ?_)
      refine lv_iload hx hb dX7_gauge_45 (lv_at hl 0 rfl) ?_
      refine lv_if_eq (tgt := 73) hx hb dX7_gauge_47 (by decide) (fun c_47 => ?_) (fun c_47 => absurd (rfl) c_47)
      refine lv_ldc (v := (-1000002)) hx hb hown (ht _ uw_340) dX7_gauge_73 ?_
      subst hQ
      exact m_zret hx hb hr (rfl) hlk hK hM hS dX7_gauge_75 (by rw [oGauge_b e1 (by first | exact Or.inl c_25 | exact Or.inr (Or.inl c_35) | exact Or.inr (Or.inr (Or.inl c_59)) | exact Or.inr (Or.inr (Or.inr c_70)))]; exact ⟨rfl, π, hX⟩)
    · refine lv_iload_n hx hb dX7_gauge_28 rfl (lv_at hl 4 rfl) ?_
      refine lv_iconst (v := 1) hx hb dX7_gauge_29 (by first | rfl | decide) ?_
      refine lv_bipush (v := 50) hx hb dX7_gauge_30 (by first | rfl | decide) ?_
      refine m_callRSI (val := winC (b) (1) (50)) (As := [.int (b), .int (1), .int (50)]) (rest := []) ⟨hx, hb, hml, hown, ht⟩ (k_X7_within l g A M (b) (1) (50)) (cwS 3 ht (gUS uw_301 uw_302 uw_34 uw_303) rfl rfl rfl (by decide +kernel) ⟨by decide, by decide⟩) hK hM hS rfl hl.1 rfl (Nat.le_of_ble_eq_true rfl) dX7_gauge_32 ⟨by decide, by decide⟩ (fun H locs hM hS => ?_)
      refine lv_if_eq (tgt := 42) hx hb dX7_gauge_35 (by decide) (fun c_35 => ?_) (fun c_35 => ?_)
      · refine lv_iconst (v := 0) hx hb dX7_gauge_42 (by first | rfl | decide) ?_
        refine lv_istore (lv' := [(7, .int (0)), (6, .ref (X + 1 + 3 + 2 * i)), (0, .ref (X)), (1, .int (x)), (2, .int (a)), (3, .int (b)), (4, .int (d)), (5, .int (w))]) hx hb dX7_gauge_43 hl (by decide) rfl (fun ls hl => ?_)
        refine lv_iload hx hb dX7_gauge_45 (lv_at hl 0 rfl) ?_
        refine lv_if_eq (tgt := 73) hx hb dX7_gauge_47 (by decide) (fun c_47 => ?_) (fun c_47 => absurd (rfl) c_47)
        refine lv_ldc (v := (-1000002)) hx hb hown (ht _ uw_340) dX7_gauge_73 ?_
        subst hQ
        exact m_zret hx hb hr (rfl) hlk hK hM hS dX7_gauge_75 (by rw [oGauge_b e1 (by first | exact Or.inl c_25 | exact Or.inr (Or.inl c_35) | exact Or.inr (Or.inr (Or.inl c_59)) | exact Or.inr (Or.inr (Or.inr c_70)))]; exact ⟨rfl, π, hX⟩)
      · refine lv_iconst (v := 1) hx hb dX7_gauge_38 (by first | rfl | decide) ?_
        refine lv_goto (tgt := 43) hx hb dX7_gauge_39 (by decide) ?_
        refine lv_istore (lv' := [(7, .int (1)), (6, .ref (X + 1 + 3 + 2 * i)), (0, .ref (X)), (1, .int (x)), (2, .int (a)), (3, .int (b)), (4, .int (d)), (5, .int (w))]) hx hb dX7_gauge_43 hl (by decide) rfl (fun ls hl => ?_)
        refine lv_iload hx hb dX7_gauge_45 (lv_at hl 0 rfl) ?_
        refine lv_if_eq (tgt := 73) hx hb dX7_gauge_47 (by decide) (fun c_47 => absurd c_47 (by decide)) (fun c_47 => ?_)
        refine lv_iload hx hb dX7_gauge_50 (lv_at hl 6 rfl) ?_
        refine lv_iconst (v := 0) hx hb dX7_gauge_52 (by first | rfl | decide) ?_
        refine lv_sipush (v := 200) hx hb dX7_gauge_53 (by first | rfl | decide) ?_
        refine m_callRSI (val := winC (d) (0) (200)) (As := [.int (d), .int (0), .int (200)]) (rest := []) ⟨hx, hb, hml, hown, ht⟩ (k_X7_within l g A M (d) (0) (200)) (cwS 3 ht (gUS uw_301 uw_302 uw_34 uw_303) rfl rfl rfl (by decide +kernel) ⟨by decide, by decide⟩) hK hM hS rfl hl.1 rfl (Nat.le_of_ble_eq_true rfl) dX7_gauge_56 ⟨by decide, by decide⟩ (fun H locs hM hS => ?_)
        refine lv_if_eq (tgt := 73) hx hb dX7_gauge_59 (by decide) (fun c_59 => ?_) (fun c_59 => ?_)
        · refine lv_ldc (v := (-1000002)) hx hb hown (ht _ uw_340) dX7_gauge_73 ?_
          subst hQ
          exact m_zret hx hb hr (rfl) hlk hK hM hS dX7_gauge_75 (by rw [oGauge_b e1 (by first | exact Or.inl c_25 | exact Or.inr (Or.inl c_35) | exact Or.inr (Or.inr (Or.inl c_59)) | exact Or.inr (Or.inr (Or.inr c_70)))]; exact ⟨rfl, π, hX⟩)
        · refine lv_iload hx hb dX7_gauge_62 (lv_at hl 7 rfl) ?_
          refine lv_iconst (v := 0) hx hb dX7_gauge_64 (by first | rfl | decide) ?_
          refine lv_bipush (v := 9) hx hb dX7_gauge_65 (by first | rfl | decide) ?_
          refine m_callRSI (val := winC (w) (0) (9)) (As := [.int (w), .int (0), .int (9)]) (rest := []) ⟨hx, hb, hml, hown, ht⟩ (k_X7_within l g A M (w) (0) (9)) (cwS 3 ht (gUS uw_301 uw_302 uw_34 uw_303) rfl rfl rfl (by decide +kernel) ⟨by decide, by decide⟩) hK hM hS rfl hl.1 rfl (Nat.le_of_ble_eq_true rfl) dX7_gauge_67 ⟨by decide, by decide⟩ (fun H locs hM hS => ?_)
          refine lv_if_ne (tgt := 76) hx hb dX7_gauge_70 (by decide) (fun c_70 => ?_) (fun c_70 => ?_)
          · refine lv_aload_n hx hb dX7_gauge_76 rfl (lv_at hl 2 rfl) ?_
            refine m_get (ci := 7) (C := RX7) (T := TX7) (N := 7) hx hb ht ui_X7 hown hK hM hX.AX hX.obj rfl 2 (by decide) (ht _ uw_277) rfl dX7_gauge_77 ?_
            refine lv_aload_n hx hb dX7_gauge_80 rfl (lv_at hl 2 rfl) ?_
            refine m_get (ci := 7) (C := RX7) (T := TX7) (N := 7) hx hb ht ui_X7 hown hK hM hX.AX hX.obj rfl 0 (by decide) (ht _ uw_275) rfl dX7_gauge_81 ?_
            obtain ⟨ρ8, πs8, hH8⟩ := hX.his
            refine m_callV (As := [.ref (X + 1)]) (rest := []) ⟨hx, hb, hml, hown, ht⟩ (k_X1_record l g A M (X + 71) ρ8 πs8 hs (nI k) hH8 (X + 1) π now n hX.nowV (by omega) k rfl hk6 hn hn20) (cwV 1 ht (gU uw_304 uw_305 uw_306 uw_39 uw_307) rfl rfl rfl (by decide +kernel) ⟨by decide, by decide⟩) hK hM hS (m_recv hK hM hH8.1 hH8.2.2.2.1 rfl) rfl hl.1 rfl (Nat.le_of_ble_eq_true rfl) dX7_gauge_84 ⟨by decide, by decide⟩ (fun M H locs hp hM hS => ?_)
            obtain ⟨⟨ρ7, πs7, hH7⟩, hF7⟩ := hp
            have hX := hX.setH hH7 hF7
            refine lv_aload hx hb dX7_gauge_87 (lv_at hl 1 rfl) ?_
            refine lv_iload_n hx hb dX7_gauge_89 rfl (lv_at hl 4 rfl) ?_
            refine rv_putG hx hb ht ui_X0 hown hK hM hS hX.nowV FrV.rf hi 0 (by decide) (ht _ uw_116) dX7_gauge_90 (fun M H locs hM hV9 hF9 hS => ?_)
            have hX := hX.setN hV9 hF9
            refine lv_aload hx hb dX7_gauge_93 (lv_at hl 1 rfl) ?_
            refine lv_iload_n hx hb dX7_gauge_95 rfl (lv_at hl 5 rfl) ?_
            refine rv_putG hx hb ht ui_X0 hown hK hM hS hX.nowV FrV.rf hi 1 (by decide) (ht _ uw_119) dX7_gauge_96 (fun M H locs hM hV9 hF9 hS => ?_)
            have hX := hX.setN hV9 hF9
            refine lv_aload hx hb dX7_gauge_99 (lv_at hl 1 rfl) ?_
            refine lv_iload hx hb dX7_gauge_101 (lv_at hl 6 rfl) ?_
            refine rv_putG hx hb ht ui_X0 hown hK hM hS hX.nowV FrV.rf hi 2 (by decide) (ht _ uw_122) dX7_gauge_103 (fun M H locs hM hV9 hF9 hS => ?_)
            have hX := hX.setN hV9 hF9
            refine lv_aload hx hb dX7_gauge_106 (lv_at hl 1 rfl) ?_
            refine lv_iload hx hb dX7_gauge_108 (lv_at hl 7 rfl) ?_
            refine rv_putG hx hb ht ui_X0 hown hK hM hS hX.nowV FrV.rf hi 3 (by decide) (ht _ uw_125) dX7_gauge_110 (fun M H locs hM hV9 hF9 hS => ?_)
            have hX := hX.setN hV9 hF9
            refine lv_aload hx hb dX7_gauge_113 (lv_at hl 1 rfl) ?_
            refine rv_getG hx hb ht ui_X0 hown hK hM hX.nowV hi 4 (by decide) (ht _ uw_128) dX7_gauge_115 ?_
            subst hQ
            exact m_zret hx hb hr (rfl) hlk hK hM hS dX7_gauge_118 (by rw [oGauge_y e1 c_25 c_35 c_59 c_70]; exact ⟨rfl, π, by rw [← hN] at hX; exact hX⟩)
          · refine lv_ldc (v := (-1000002)) hx hb hown (ht _ uw_340) dX7_gauge_73 ?_
            subst hQ
            exact m_zret hx hb hr (rfl) hlk hK hM hS dX7_gauge_75 (by rw [oGauge_b e1 (by first | exact Or.inl c_25 | exact Or.inr (Or.inl c_35) | exact Or.inr (Or.inr (Or.inl c_59)) | exact Or.inr (Or.inr (Or.inr c_70)))]; exact ⟨rfl, π, hX⟩)

set_option maxHeartbeats 4000000 in
set_option maxRecDepth 100000 in
/-- rain -/
theorem k_X7_rain (l : Launch) (g : GG) (A : Nat → Prop) (M0 : MM) (X : Nat) (now : VV) (hs : Nat → VV) (k : Nat) (sl : Nat → VV) (sv f : Nat → Int32) (L : Nat) (hR : RXS g A M0 M0 X (now, hs, k, sl, sv, f, L)) (hI : CI (now, hs, k, sl, sv, f, L)) (x y : Int32)  : Met l yX7_rain (Uw yX7_rain cX7_rain 3 (Option.some ClassFile.FieldType.int)) (rmD 6) (PreM [.ref (X), .int (x), .int (y)] g A M0) (PosI (fun r M1 => r = (oRain (now, hs, k, sl, sv, f, L) x y).1 ∧ RXS g A M0 M1 X (oRain (now, hs, k, sl, sv, f, L) x y).2) g A) 0 0 A := by
  refine mk_Met (own := RX7) rfl rfl (by decide) (Nat.le_of_ble_eq_true rfl) ?_
  intro p e s m below meth c ls aa Q haa hQ hx hb hr hlk hml hown hts hK hM hS hl hnm
  obtain ⟨M, hMM⟩ : ∃ M, M = M0 := ⟨_, rfl⟩
  rw [← hMM] at hM hR
  have ht : ∀ w ∈ lw_good, w.before _ s = true := fun w h => hts w (List.mem_cons_of_mem _ h)
  have hl : lv_has ls 3 [(0, .ref (X)), (1, .int (x)), (2, .int (y))] := hl
  obtain ⟨π, hX⟩ := hR
  have hX : RX g A M0 M X π now hs k sl sv f L := ⟨hX.1, by rw [hMM]; exact FrX.rf⟩
  obtain ⟨⟨n, hn20, hn⟩, hk6, hhs, hsl, hL, hch⟩ := id hI
  have hN : onN now = n := onN_eq hn hn20
  refine lv_iload_n hx hb dX7_rain_0 rfl (lv_at hl 1 rfl) ?_
  refine lv_iconst (v := 0) hx hb dX7_rain_1 (by first | rfl | decide) ?_
  refine lv_bipush (v := 99) hx hb dX7_rain_2 (by first | rfl | decide) ?_
  refine m_callRSI (val := winC (x) (0) (99)) (As := [.int (x), .int (0), .int (99)]) (rest := []) ⟨hx, hb, hml, hown, ht⟩ (k_X7_within l g A M (x) (0) (99)) (cwS 3 ht (gUS uw_301 uw_302 uw_34 uw_303) rfl rfl rfl (by decide +kernel) ⟨by decide, by decide⟩) hK hM hS rfl hl.1 rfl (Nat.le_of_ble_eq_true rfl) dX7_rain_4 ⟨by decide, by decide⟩ (fun H locs hM hS => ?_)
  refine lv_if_eq (tgt := 20) hx hb dX7_rain_7 (by decide) (fun c_7 => ?_) (fun c_7 => ?_)
  · refine lv_ldc (v := (-1000002)) hx hb hown (ht _ uw_340) dX7_rain_20 ?_
    subst hQ
    exact m_zret hx hb hr (rfl) hlk hK hM hS dX7_rain_22 (by unfold oRain; rw [if_pos (by first | exact Or.inl c_7 | exact Or.inr c_17)]; exact ⟨rfl, π, hX⟩)
  · refine lv_iload_n hx hb dX7_rain_10 rfl (lv_at hl 2 rfl) ?_
    refine lv_iconst (v := 1) hx hb dX7_rain_11 (by first | rfl | decide) ?_
    refine lv_bipush (v := 24) hx hb dX7_rain_12 (by first | rfl | decide) ?_
    refine m_callRSI (val := winC (y) (1) (24)) (As := [.int (y), .int (1), .int (24)]) (rest := []) ⟨hx, hb, hml, hown, ht⟩ (k_X7_within l g A M (y) (1) (24)) (cwS 3 ht (gUS uw_301 uw_302 uw_34 uw_303) rfl rfl rfl (by decide +kernel) ⟨by decide, by decide⟩) hK hM hS rfl hl.1 rfl (Nat.le_of_ble_eq_true rfl) dX7_rain_14 ⟨by decide, by decide⟩ (fun H locs hM hS => ?_)
    refine lv_if_ne (tgt := 23) hx hb dX7_rain_17 (by decide) (fun c_17 => ?_) (fun c_17 => ?_)
    · refine lv_aload_n hx hb dX7_rain_23 rfl (lv_at hl 0 rfl) ?_
      refine m_get (ci := 7) (C := RX7) (T := TX7) (N := 7) hx hb ht ui_X7 hown hK hM hX.AX hX.obj rfl 0 (by decide) (ht _ uw_275) rfl dX7_rain_24 ?_
      refine lv_iload_n hx hb dX7_rain_27 rfl (lv_at hl 2 rfl) ?_
      refine m_callRI (val := if now.1 2 + y ≤ 9999 then 1 else 0) (As := [.int (y)]) (rest := []) ⟨hx, hb, hml, hown, ht⟩ (k_X6_hasTimeFor l g A M (X + 1) π now y hX.nowV) (cwV 1 ht (gU uw_351 uw_352 uw_353 uw_35 uw_354) rfl rfl rfl (by decide +kernel) ⟨by decide, by decide⟩) hK hM hS (m_recv hK hM hX.nowV.AW hX.nowV.W rfl) rfl hl.1 rfl (Nat.le_of_ble_eq_true rfl) dX7_rain_28 ⟨by decide, by decide⟩ (fun H locs hM hS => ?_)
      refine lv_if_ne (tgt := 37) hx hb dX7_rain_31 (by decide) (fun c_31 => ?_) (fun c_31 => ?_)
      · refine lv_aload_n hx hb dX7_rain_37 rfl (lv_at hl 0 rfl) ?_
        refine m_get (ci := 7) (C := RX7) (T := TX7) (N := 7) hx hb ht ui_X7 hown hK hM hX.AX hX.obj rfl 2 (by decide) (ht _ uw_277) rfl dX7_rain_38 ?_
        refine lv_aload_n hx hb dX7_rain_41 rfl (lv_at hl 0 rfl) ?_
        refine m_get (ci := 7) (C := RX7) (T := TX7) (N := 7) hx hb ht ui_X7 hown hK hM hX.AX hX.obj rfl 0 (by decide) (ht _ uw_275) rfl dX7_rain_42 ?_
        obtain ⟨ρ8, πs8, hH8⟩ := hX.his
        refine m_callV (As := [.ref (X + 1)]) (rest := []) ⟨hx, hb, hml, hown, ht⟩ (k_X1_record l g A M (X + 71) ρ8 πs8 hs (nI k) hH8 (X + 1) π now n hX.nowV (by omega) k rfl hk6 hn hn20) (cwV 1 ht (gU uw_304 uw_305 uw_306 uw_39 uw_307) rfl rfl rfl (by decide +kernel) ⟨by decide, by decide⟩) hK hM hS (m_recv hK hM hH8.1 hH8.2.2.2.1 rfl) rfl hl.1 rfl (Nat.le_of_ble_eq_true rfl) dX7_rain_45 ⟨by decide, by decide⟩ (fun M H locs hp hM hS => ?_)
        obtain ⟨⟨ρ7, πs7, hH7⟩, hF7⟩ := hp
        have hX := hX.setH hH7 hF7
        refine lv_aload_n hx hb dX7_rain_48 rfl (lv_at hl 0 rfl) ?_
        refine m_get (ci := 7) (C := RX7) (T := TX7) (N := 7) hx hb ht ui_X7 hown hK hM hX.AX hX.obj rfl 0 (by decide) (ht _ uw_275) rfl dX7_rain_49 ?_
        refine lv_iload_n hx hb dX7_rain_52 rfl (lv_at hl 1 rfl) ?_
        refine lv_iload_n hx hb dX7_rain_53 rfl (lv_at hl 2 rfl) ?_
        obtain ⟨hw1, hw2⟩ := win_of c_17
        obtain ⟨q, hq, ey, ec⟩ := clampQ (hi := 24) (n := 24) (Int32.le_trans (show (0 : Int32) ≤ 1 by decide) hw1) hw2 rfl (by decide)
        refine m_callI (As := [.int (x), .int (y)]) (rest := []) ⟨hx, hb, hml, hown, ht⟩ ((by have z := k_X6_passHours l g A M (X + 1) π now x q hX.nowV hI.1 (by omega); rw [← ey] at z; exact z)) (cwV 2 ht (gU uw_356 uw_357 uw_358 uw_35 uw_359) rfl rfl rfl (by decide +kernel) ⟨by decide, by decide⟩) hK hM hS (m_recv hK hM hX.nowV.AW hX.nowV.W rfl) rfl hl.1 rfl (Nat.le_of_ble_eq_true rfl) dX7_rain_54 ⟨by decide, by decide⟩ (fun r9 M H locs hp hM hS => ?_)
        obtain ⟨e9, ⟨π, hV9⟩, hF9⟩ := hp
        have hX := hX.setN hV9 hF9
        subst hQ
        exact m_zret hx hb hr (rfl) hlk hK hM hS dX7_rain_57 (by unfold oRain; rw [if_neg (fun z => z.elim c_7 c_17), if_neg (fun z => c_31 (ite10.mpr z)), ec]; exact ⟨e9, π, by rw [← hN] at hX; exact hX⟩)
      · refine lv_ldc (v := (-1000004)) hx hb hown (ht _ uw_355) dX7_rain_34 ?_
        subst hQ
        exact m_zret hx hb hr (rfl) hlk hK hM hS dX7_rain_36 (by unfold oRain; rw [if_neg (fun z => z.elim c_7 c_17), if_pos (ite10.mp c_31)]; exact ⟨rfl, π, hX⟩)
    · refine lv_ldc (v := (-1000002)) hx hb hown (ht _ uw_340) dX7_rain_20 ?_
      subst hQ
      exact m_zret hx hb hr (rfl) hlk hK hM hS dX7_rain_22 (by unfold oRain; rw [if_pos (by first | exact Or.inl c_7 | exact Or.inr c_17)]; exact ⟨rfl, π, hX⟩)

set_option maxHeartbeats 4000000 in
set_option maxRecDepth 100000 in
/-- send -/
theorem k_X7_send (l : Launch) (g : GG) (A : Nat → Prop) (M0 : MM) (X : Nat) (now : VV) (hs : Nat → VV) (k : Nat) (sl : Nat → VV) (sv f : Nat → Int32) (L : Nat) (hR : RXS g A M0 M0 X (now, hs, k, sl, sv, f, L)) (hI : CI (now, hs, k, sl, sv, f, L)) (x : Int32)  : Met l yX7_send (Uw yX7_send cX7_send 2 (Option.some ClassFile.FieldType.int)) (rmD 5) (PreM [.ref (X), .int (x)] g A M0) (PosI (fun r M1 => r = (oSend (now, hs, k, sl, sv, f, L) x).1 ∧ RXS g A M0 M1 X (oSend (now, hs, k, sl, sv, f, L) x).2) g A) 0 0 A := by
  refine mk_Met (own := RX7) rfl rfl (by decide) (Nat.le_of_ble_eq_true rfl) ?_
  intro p e s m below meth c ls aa Q haa hQ hx hb hr hlk hml hown hts hK hM hS hl hnm
  obtain ⟨M, hMM⟩ : ∃ M, M = M0 := ⟨_, rfl⟩
  rw [← hMM] at hM hR
  have ht : ∀ w ∈ lw_good, w.before _ s = true := fun w h => hts w (List.mem_cons_of_mem _ h)
  have hl : lv_has ls 2 [(0, .ref (X)), (1, .int (x))] := hl
  obtain ⟨π, hX⟩ := hR
  have hX : RX g A M0 M X π now hs k sl sv f L := ⟨hX.1, by rw [hMM]; exact FrX.rf⟩
  obtain ⟨⟨n, hn20, hn⟩, hk6, hhs, hsl, hL, hch⟩ := id hI
  have hN : onN now = n := onN_eq hn hn20
  rcases gxn_cases (n := 6) (by decide) x with ⟨e1, h1⟩ | ⟨i, hi, ex, e1⟩
  · refine lv_aload_n hx hb dX7_send_0 rfl (lv_at hl 0 rfl) ?_
    refine m_get (ci := 7) (C := RX7) (T := TX7) (N := 7) hx hb ht ui_X7 hown hK hM hX.AX hX.obj rfl 0 (by decide) (ht _ uw_275) rfl dX7_send_1 ?_
    refine lv_iload_n hx hb dX7_send_4 rfl (lv_at hl 1 rfl) ?_
    refine m_callRQ (val := none) (w := .null) (rfl) (As := [.int (x)]) (rest := []) ⟨hx, hb, hml, hown, ht⟩ (k_X6_gaugeAt l g A M (X + 1) π now (x) none hX.nowV e1) (cwV 1 ht (gU uw_345 uw_337 uw_338 uw_35 uw_339) rfl rfl rfl (by decide +kernel) ⟨by decide, by decide⟩) hK hM hS (m_recv hK hM hX.nowV.AW hX.nowV.W rfl) rfl hl.1 rfl (Nat.le_of_ble_eq_true rfl) dX7_send_5 ⟨by decide, by decide⟩ (fun H locs hM hS => ?_)
    refine lv_ifnonnullN hx hb dX7_send_8 ?_
    refine lv_ldc (v := (-1000001)) hx hb hown (ht _ uw_346) dX7_send_11 ?_
    subst hQ
    exact m_zret hx hb hr (rfl) hlk hK hM hS dX7_send_13 (by unfold oSend; rw [e1]; exact ⟨rfl, π, hX⟩)
  · refine lv_aload_n hx hb dX7_send_0 rfl (lv_at hl 0 rfl) ?_
    refine m_get (ci := 7) (C := RX7) (T := TX7) (N := 7) hx hb ht ui_X7 hown hK hM hX.AX hX.obj rfl 0 (by decide) (ht _ uw_275) rfl dX7_send_1 ?_
    refine lv_iload_n hx hb dX7_send_4 rfl (lv_at hl 1 rfl) ?_
    refine m_callRQ (val := some (X + 1 + 3 + 2 * i)) (w := .ref (X + 1 + 3 + 2 * i)) (rfl) (As := [.int (x)]) (rest := []) ⟨hx, hb, hml, hown, ht⟩ (k_X6_gaugeAt l g A M (X + 1) π now (x) (some i) hX.nowV e1) (cwV 1 ht (gU uw_345 uw_337 uw_338 uw_35 uw_339) rfl rfl rfl (by decide +kernel) ⟨by decide, by decide⟩) hK hM hS (m_recv hK hM hX.nowV.AW hX.nowV.W rfl) rfl hl.1 rfl (Nat.le_of_ble_eq_true rfl) dX7_send_5 ⟨by decide, by decide⟩ (fun H locs hM hS => ?_)
    refine lv_ifnonnull (tgt := 14) hx hb dX7_send_8 (by decide) ?_
    refine lv_aload_n hx hb dX7_send_14 rfl (lv_at hl 0 rfl) ?_
    refine m_get (ci := 7) (C := RX7) (T := TX7) (N := 7) hx hb ht ui_X7 hown hK hM hX.AX hX.obj rfl 0 (by decide) (ht _ uw_275) rfl dX7_send_15 ?_
    refine m_callRI (val := if nI 20 ≤ now.1 3 then 1 else 0) (As := []) (rest := []) ⟨hx, hb, hml, hown, ht⟩ (k_X6_isFull l g A M (X + 1) π now hX.nowV) (cwV 0 ht (gU uw_400 uw_401 uw_402 uw_35 uw_403) rfl rfl rfl (by decide +kernel) ⟨by decide, by decide⟩) hK hM hS (m_recv hK hM hX.nowV.AW hX.nowV.W rfl) rfl hl.1 rfl (Nat.le_of_ble_eq_true rfl) dX7_send_18 ⟨by decide, by decide⟩ (fun H locs hM hS => ?_)
    refine lv_if_eq (tgt := 27) hx hb dX7_send_21 (by decide) (fun c_21 => ?_) (fun c_21 => ?_)
    · refine lv_aload_n hx hb dX7_send_27 rfl (lv_at hl 0 rfl) ?_
      refine m_get (ci := 7) (C := RX7) (T := TX7) (N := 7) hx hb ht ui_X7 hown hK hM hX.AX hX.obj rfl 2 (by decide) (ht _ uw_277) rfl dX7_send_28 ?_
      refine lv_aload_n hx hb dX7_send_31 rfl (lv_at hl 0 rfl) ?_
      refine m_get (ci := 7) (C := RX7) (T := TX7) (N := 7) hx hb ht ui_X7 hown hK hM hX.AX hX.obj rfl 0 (by decide) (ht _ uw_275) rfl dX7_send_32 ?_
      obtain ⟨ρ8, πs8, hH8⟩ := hX.his
      refine m_callV (As := [.ref (X + 1)]) (rest := []) ⟨hx, hb, hml, hown, ht⟩ (k_X1_record l g A M (X + 71) ρ8 πs8 hs (nI k) hH8 (X + 1) π now n hX.nowV (by omega) k rfl hk6 hn hn20) (cwV 1 ht (gU uw_304 uw_305 uw_306 uw_39 uw_307) rfl rfl rfl (by decide +kernel) ⟨by decide, by decide⟩) hK hM hS (m_recv hK hM hH8.1 hH8.2.2.2.1 rfl) rfl hl.1 rfl (Nat.le_of_ble_eq_true rfl) dX7_send_35 ⟨by decide, by decide⟩ (fun M H locs hp hM hS => ?_)
      obtain ⟨⟨ρ7, πs7, hH7⟩, hF7⟩ := hp
      have hX := hX.setH hH7 hF7
      refine lv_aload_n hx hb dX7_send_38 rfl (lv_at hl 0 rfl) ?_
      refine m_get (ci := 7) (C := RX7) (T := TX7) (N := 7) hx hb ht ui_X7 hown hK hM hX.AX hX.obj rfl 0 (by decide) (ht _ uw_275) rfl dX7_send_39 ?_
      refine lv_iload_n hx hb dX7_send_42 rfl (lv_at hl 1 rfl) ?_
      have hlt : n < 20 := by
        have z := ite10.mp c_21
        rw [hn] at z
        exact nI_lt_of (by omega) (by decide) z
      refine m_callI (As := [.int (x)]) (rest := []) ⟨hx, hb, hml, hown, ht⟩ ((by have z := k_X6_sendRunner l g A M (X + 1) π now i hX.nowV n hn hn20 hi; rw [← ex] at z; exact z)) (cwV 1 ht (gU uw_404 uw_405 uw_406 uw_35 uw_407) rfl rfl rfl (by decide +kernel) ⟨by decide, by decide⟩) hK hM hS (m_recv hK hM hX.nowV.AW hX.nowV.W rfl) rfl hl.1 rfl (Nat.le_of_ble_eq_true rfl) dX7_send_43 ⟨by decide, by decide⟩ (fun r9 M H locs hp hM hS => ?_)
      obtain ⟨e9, ⟨π, hV9⟩, hF9⟩ := hp.1 hlt
      have hX := hX.setN hV9 hF9
      subst hQ
      exact m_zret hx hb hr (rfl) hlk hK hM hS dX7_send_46 (by unfold oSend; rw [e1]; dsimp only; rw [if_neg (ite10.mp c_21)]; rw [← hN] at hX e9; exact ⟨e9, π, hX⟩)
    · refine lv_ldc (v := (-1000004)) hx hb hown (ht _ uw_355) dX7_send_24 ?_
      subst hQ
      exact m_zret hx hb hr (rfl) hlk hK hM hS dX7_send_26 (by unfold oSend; rw [e1]; dsimp only; rw [if_pos (Classical.not_not.mp (fun z => c_21 (ite10.mpr z)))]; exact ⟨rfl, π, hX⟩)

set_option maxHeartbeats 4000000 in
set_option maxRecDepth 100000 in
/-- lose -/
theorem k_X7_lose (l : Launch) (g : GG) (A : Nat → Prop) (M0 : MM) (X : Nat) (now : VV) (hs : Nat → VV) (k : Nat) (sl : Nat → VV) (sv f : Nat → Int32) (L : Nat) (hR : RXS g A M0 M0 X (now, hs, k, sl, sv, f, L)) (hI : CI (now, hs, k, sl, sv, f, L)) (x : Int32)  : Met l yX7_lose (Uw yX7_lose cX7_lose 4 (Option.some ClassFile.FieldType.int)) (rmD 5) (PreM [.ref (X), .int (x)] g A M0) (PosI (fun r M1 => r = (oLose (now, hs, k, sl, sv, f, L) x).1 ∧ RXS g A M0 M1 X (oLose (now, hs, k, sl, sv, f, L) x).2) g A) 0 0 A := by
  refine mk_Met (own := RX7) rfl rfl (by decide) (Nat.le_of_ble_eq_true rfl) ?_
  intro p e s m below meth c ls aa Q haa hQ hx hb hr hlk hml hown hts hK hM hS hl hnm
  obtain ⟨M, hMM⟩ : ∃ M, M = M0 := ⟨_, rfl⟩
  rw [← hMM] at hM hR
  have ht : ∀ w ∈ lw_good, w.before _ s = true := fun w h => hts w (List.mem_cons_of_mem _ h)
  have hl : lv_has ls 4 [(0, .ref (X)), (1, .int (x))] := hl
  obtain ⟨π, hX⟩ := hR
  have hX : RX g A M0 M X π now hs k sl sv f L := ⟨hX.1, by rw [hMM]; exact FrX.rf⟩
  obtain ⟨⟨n, hn20, hn⟩, hk6, hhs, hsl, hL, hch⟩ := id hI
  have hN : onN now = n := onN_eq hn hn20
  rcases ru_cases (v := now) hn hn20 x with e1 | ⟨j, hjn, ex, e1⟩
  · refine lv_aload_n hx hb dX7_lose_0 rfl (lv_at hl 0 rfl) ?_
    refine m_get (ci := 7) (C := RX7) (T := TX7) (N := 7) hx hb ht ui_X7 hown hK hM hX.AX hX.obj rfl 0 (by decide) (ht _ uw_275) rfl dX7_lose_1 ?_
    refine lv_iload_n hx hb dX7_lose_4 rfl (lv_at hl 1 rfl) ?_
    refine m_callRQ (val := none) (w := .null) (rfl) (As := [.int (x)]) (rest := []) ⟨hx, hb, hml, hown, ht⟩ (k_X6_runnerAt l g A M (X + 1) π now (x) none hX.nowV e1) (cwV 1 ht (gU uw_418 uw_369 uw_370 uw_35 uw_371) rfl rfl rfl (by decide +kernel) ⟨by decide, by decide⟩) hK hM hS (m_recv hK hM hX.nowV.AW hX.nowV.W rfl) rfl hl.1 rfl (Nat.le_of_ble_eq_true rfl) dX7_lose_5 ⟨by decide, by decide⟩ (fun H locs hM hS => ?_)
    refine lv_astore_nN (lv' := [(2, .null), (0, .ref (X)), (1, .int (x))]) hx hb dX7_lose_8 rfl hl (by decide) rfl (fun ls hl => ?_)
    refine lv_aload_nN hx hb dX7_lose_9 rfl (lv_at hl 0 rfl) ?_
    refine lv_ifnonnullN hx hb dX7_lose_10 ?_
    refine lv_ldc (v := (-1000001)) hx hb hown (ht _ uw_346) dX7_lose_13 ?_
    subst hQ
    exact m_zret hx hb hr (rfl) hlk hK hM hS dX7_lose_15 (by unfold oLose; rw [show ruN (now, hs, k, sl, sv, f, L) x = none from e1]; exact ⟨rfl, π, hX⟩)
  · have hj : j < 20 := by omega
    refine lv_aload_n hx hb dX7_lose_0 rfl (lv_at hl 0 rfl) ?_
    refine m_get (ci := 7) (C := RX7) (T := TX7) (N := 7) hx hb ht ui_X7 hown hK hM hX.AX hX.obj rfl 0 (by decide) (ht _ uw_275) rfl dX7_lose_1 ?_
    refine lv_iload_n hx hb dX7_lose_4 rfl (lv_at hl 1 rfl) ?_
    refine m_callRQ (val := some (X + 1 + 15 + π j)) (w := .ref (X + 1 + 15 + π j)) (rfl) (As := [.int (x)]) (rest := []) ⟨hx, hb, hml, hown, ht⟩ (k_X6_runnerAt l g A M (X + 1) π now (x) (some j) hX.nowV e1) (cwV 1 ht (gU uw_418 uw_369 uw_370 uw_35 uw_371) rfl rfl rfl (by decide +kernel) ⟨by decide, by decide⟩) hK hM hS (m_recv hK hM hX.nowV.AW hX.nowV.W rfl) rfl hl.1 rfl (Nat.le_of_ble_eq_true rfl) dX7_lose_5 ⟨by decide, by decide⟩ (fun H locs hM hS => ?_)
    refine lv_astore_n (lv' := [(2, .ref (X + 1 + 15 + π j)), (0, .ref (X)), (1, .int (x))]) hx hb dX7_lose_8 rfl hl (by decide) rfl (fun ls hl => ?_)
    refine lv_aload_n hx hb dX7_lose_9 rfl (lv_at hl 0 rfl) ?_
    refine lv_ifnonnull (tgt := 16) hx hb dX7_lose_10 (by decide) ?_
    refine lv_aload_n hx hb dX7_lose_16 rfl (lv_at hl 1 rfl) ?_
    refine m_get (ci := 7) (C := RX7) (T := TX7) (N := 7) hx hb ht ui_X7 hown hK hM hX.AX hX.obj rfl 2 (by decide) (ht _ uw_277) rfl dX7_lose_17 ?_
    refine lv_aload_n hx hb dX7_lose_20 rfl (lv_at hl 1 rfl) ?_
    refine m_get (ci := 7) (C := RX7) (T := TX7) (N := 7) hx hb ht ui_X7 hown hK hM hX.AX hX.obj rfl 0 (by decide) (ht _ uw_275) rfl dX7_lose_21 ?_
    obtain ⟨ρ8, πs8, hH8⟩ := hX.his
    refine m_callV (As := [.ref (X + 1)]) (rest := []) ⟨hx, hb, hml, hown, ht⟩ (k_X1_record l g A M (X + 71) ρ8 πs8 hs (nI k) hH8 (X + 1) π now n hX.nowV (by omega) k rfl hk6 hn hn20) (cwV 1 ht (gU uw_304 uw_305 uw_306 uw_39 uw_307) rfl rfl rfl (by decide +kernel) ⟨by decide, by decide⟩) hK hM hS (m_recv hK hM hH8.1 hH8.2.2.2.1 rfl) rfl hl.1 rfl (Nat.le_of_ble_eq_true rfl) dX7_lose_24 ⟨by decide, by decide⟩ (fun M H locs hp hM hS => ?_)
    obtain ⟨⟨ρ7, πs7, hH7⟩, hF7⟩ := hp
    have hX := hX.setH hH7 hF7
    refine lv_aload_n hx hb dX7_lose_27 rfl (lv_at hl 0 rfl) ?_
    refine rv_getR hx hb ht ui_X5 hown hK hM hX.nowV hj 0 (by decide) (ht _ uw_164) dX7_lose_28 ?_
    refine lv_istore_n (lv' := [(3, .int (now.2.2 j 0)), (2, .ref (X + 1 + 15 + π j)), (0, .ref (X)), (1, .int (x))]) hx hb dX7_lose_31 rfl hl (by decide) rfl (fun ls hl => ?_)
    refine lv_aload_n hx hb dX7_lose_32 rfl (lv_at hl 2 rfl) ?_
    refine m_get (ci := 7) (C := RX7) (T := TX7) (N := 7) hx hb ht ui_X7 hown hK hM hX.AX hX.obj rfl 0 (by decide) (ht _ uw_275) rfl dX7_lose_33 ?_
    refine lv_aload_n hx hb dX7_lose_36 rfl (lv_at hl 1 rfl) ?_
    refine m_callV (As := [.ref (X + 1 + 15 + π j)]) (rest := []) ⟨hx, hb, hml, hown, ht⟩ (k_X6_countAsLost l g A M (X + 1) π now j hX.nowV hj) (cwV 1 ht (gU uw_419 uw_333 uw_334 uw_35 uw_335) rfl rfl rfl (by decide +kernel) ⟨by decide, by decide⟩) hK hM hS (m_recv hK hM hX.nowV.AW hX.nowV.W rfl) rfl hl.1 rfl (Nat.le_of_ble_eq_true rfl) dX7_lose_37 ⟨by decide, by decide⟩ (fun M H locs hp hM hS => ?_)
    obtain ⟨hV9, hF9⟩ := hp
    have hX := hX.setN hV9 hF9
    refine lv_aload_n hx hb dX7_lose_40 rfl (lv_at hl 2 rfl) ?_
    refine m_get (ci := 7) (C := RX7) (T := TX7) (N := 7) hx hb ht ui_X7 hown hK hM hX.AX hX.obj rfl 0 (by decide) (ht _ uw_275) rfl dX7_lose_41 ?_
    refine lv_iload_n hx hb dX7_lose_44 rfl (lv_at hl 3 rfl) ?_
    refine m_callV (As := [.int (x)]) (rest := []) ⟨hx, hb, hml, hown, ht⟩ ((by have z := k_X6_removeRunner l g A M (X + 1) π (cosC now j) j n hX.nowV (by rw [cosC_1]; exact hn) hn20 hjn; rw [← ex] at z; exact z)) (cwV 1 ht (gU uw_420 uw_393 uw_394 uw_35 uw_395) rfl rfl rfl (by decide +kernel) ⟨by decide, by decide⟩) hK hM hS (m_recv hK hM hX.nowV.AW hX.nowV.W rfl) rfl hl.1 rfl (Nat.le_of_ble_eq_true rfl) dX7_lose_45 ⟨by decide, by decide⟩ (fun M H locs hp hM hS => ?_)
    obtain ⟨hV9, hF9⟩ := hp
    have hX := hX.setN hV9 hF9
    refine lv_iload_n hx hb dX7_lose_48 rfl (lv_at hl 0 rfl) ?_
    subst hQ
    exact m_zret hx hb hr (rfl) hlk hK hM hS dX7_lose_49 (by unfold oLose; rw [show ruN (now, hs, k, sl, sv, f, L) x = some j from e1]; exact ⟨rfl, _, by rw [← hN] at hX; exact hX⟩)

set_option maxHeartbeats 4000000 in
set_option maxRecDepth 100000 in
/-- twice -/
theorem k_X7_twice (l : Launch) (g : GG) (A : Nat → Prop) (M0 : MM) (X : Nat) (now : VV) (hs : Nat → VV) (k : Nat) (sl : Nat → VV) (sv f : Nat → Int32) (L : Nat) (hR : RXS g A M0 M0 X (now, hs, k, sl, sv, f, L)) (hI : CI (now, hs, k, sl, sv, f, L)) (x : Int32)  : Met l yX7_twice (Uw yX7_twice cX7_twice 3 (Option.some ClassFile.FieldType.int)) (rmD 5) (PreM [.ref (X), .int (x)] g A M0) (PosI (fun r M1 => r = (oTwice (now, hs, k, sl, sv, f, L) x).1 ∧ RXS g A M0 M1 X (oTwice (now, hs, k, sl, sv, f, L) x).2) g A) 0 0 A := by
  refine mk_Met (own := RX7) rfl rfl (by decide) (Nat.le_of_ble_eq_true rfl) ?_
  intro p e s m below meth c ls aa Q haa hQ hx hb hr hlk hml hown hts hK hM hS hl hnm
  obtain ⟨M, hMM⟩ : ∃ M, M = M0 := ⟨_, rfl⟩
  rw [← hMM] at hM hR
  have ht : ∀ w ∈ lw_good, w.before _ s = true := fun w h => hts w (List.mem_cons_of_mem _ h)
  have hl : lv_has ls 3 [(0, .ref (X)), (1, .int (x))] := hl
  obtain ⟨π, hX⟩ := hR
  have hX : RX g A M0 M X π now hs k sl sv f L := ⟨hX.1, by rw [hMM]; exact FrX.rf⟩
  obtain ⟨⟨n, hn20, hn⟩, hk6, hhs, hsl, hL, hch⟩ := id hI
  have hN : onN now = n := onN_eq hn hn20
  rcases ru_cases (v := now) hn hn20 x with e1 | ⟨j, hjn, ex, e1⟩
  · refine lv_aload_n hx hb dX7_twice_0 rfl (lv_at hl 0 rfl) ?_
    refine m_get (ci := 7) (C := RX7) (T := TX7) (N := 7) hx hb ht ui_X7 hown hK hM hX.AX hX.obj rfl 0 (by decide) (ht _ uw_275) rfl dX7_twice_1 ?_
    refine lv_iload_n hx hb dX7_twice_4 rfl (lv_at hl 1 rfl) ?_
    refine m_callRQ (val := none) (w := .null) (rfl) (As := [.int (x)]) (rest := []) ⟨hx, hb, hml, hown, ht⟩ (k_X6_runnerAt l g A M (X + 1) π now (x) none hX.nowV e1) (cwV 1 ht (gU uw_418 uw_369 uw_370 uw_35 uw_371) rfl rfl rfl (by decide +kernel) ⟨by decide, by decide⟩) hK hM hS (m_recv hK hM hX.nowV.AW hX.nowV.W rfl) rfl hl.1 rfl (Nat.le_of_ble_eq_true rfl) dX7_twice_5 ⟨by decide, by decide⟩ (fun H locs hM hS => ?_)
    refine lv_astore_nN (lv' := [(2, .null), (0, .ref (X)), (1, .int (x))]) hx hb dX7_twice_8 rfl hl (by decide) rfl (fun ls hl => ?_)
    refine lv_aload_nN hx hb dX7_twice_9 rfl (lv_at hl 0 rfl) ?_
    refine lv_ifnonnullN hx hb dX7_twice_10 ?_
    refine lv_ldc (v := (-1000001)) hx hb hown (ht _ uw_346) dX7_twice_13 ?_
    subst hQ
    exact m_zret hx hb hr (rfl) hlk hK hM hS dX7_twice_15 (by unfold oTwice; rw [show ruN (now, hs, k, sl, sv, f, L) x = none from e1]; exact ⟨rfl, π, hX⟩)
  · have hj : j < 20 := by omega
    refine lv_aload_n hx hb dX7_twice_0 rfl (lv_at hl 0 rfl) ?_
    refine m_get (ci := 7) (C := RX7) (T := TX7) (N := 7) hx hb ht ui_X7 hown hK hM hX.AX hX.obj rfl 0 (by decide) (ht _ uw_275) rfl dX7_twice_1 ?_
    refine lv_iload_n hx hb dX7_twice_4 rfl (lv_at hl 1 rfl) ?_
    refine m_callRQ (val := some (X + 1 + 15 + π j)) (w := .ref (X + 1 + 15 + π j)) (rfl) (As := [.int (x)]) (rest := []) ⟨hx, hb, hml, hown, ht⟩ (k_X6_runnerAt l g A M (X + 1) π now (x) (some j) hX.nowV e1) (cwV 1 ht (gU uw_418 uw_369 uw_370 uw_35 uw_371) rfl rfl rfl (by decide +kernel) ⟨by decide, by decide⟩) hK hM hS (m_recv hK hM hX.nowV.AW hX.nowV.W rfl) rfl hl.1 rfl (Nat.le_of_ble_eq_true rfl) dX7_twice_5 ⟨by decide, by decide⟩ (fun H locs hM hS => ?_)
    refine lv_astore_n (lv' := [(2, .ref (X + 1 + 15 + π j)), (0, .ref (X)), (1, .int (x))]) hx hb dX7_twice_8 rfl hl (by decide) rfl (fun ls hl => ?_)
    refine lv_aload_n hx hb dX7_twice_9 rfl (lv_at hl 0 rfl) ?_
    refine lv_ifnonnull (tgt := 16) hx hb dX7_twice_10 (by decide) ?_
    refine lv_aload_n hx hb dX7_twice_16 rfl (lv_at hl 1 rfl) ?_
    refine m_get (ci := 7) (C := RX7) (T := TX7) (N := 7) hx hb ht ui_X7 hown hK hM hX.AX hX.obj rfl 0 (by decide) (ht _ uw_275) rfl dX7_twice_17 ?_
    refine m_callRI (val := if nI 20 ≤ now.1 3 then 1 else 0) (As := []) (rest := []) ⟨hx, hb, hml, hown, ht⟩ (k_X6_isFull l g A M (X + 1) π now hX.nowV) (cwV 0 ht (gU uw_400 uw_401 uw_402 uw_35 uw_403) rfl rfl rfl (by decide +kernel) ⟨by decide, by decide⟩) hK hM hS (m_recv hK hM hX.nowV.AW hX.nowV.W rfl) rfl hl.1 rfl (Nat.le_of_ble_eq_true rfl) dX7_twice_20 ⟨by decide, by decide⟩ (fun H locs hM hS => ?_)
    refine lv_if_eq (tgt := 29) hx hb dX7_twice_23 (by decide) (fun c_23 => ?_) (fun c_23 => ?_)
    · refine lv_aload_n hx hb dX7_twice_29 rfl (lv_at hl 1 rfl) ?_
      refine m_get (ci := 7) (C := RX7) (T := TX7) (N := 7) hx hb ht ui_X7 hown hK hM hX.AX hX.obj rfl 2 (by decide) (ht _ uw_277) rfl dX7_twice_30 ?_
      refine lv_aload_n hx hb dX7_twice_33 rfl (lv_at hl 1 rfl) ?_
      refine m_get (ci := 7) (C := RX7) (T := TX7) (N := 7) hx hb ht ui_X7 hown hK hM hX.AX hX.obj rfl 0 (by decide) (ht _ uw_275) rfl dX7_twice_34 ?_
      obtain ⟨ρ8, πs8, hH8⟩ := hX.his
      refine m_callV (As := [.ref (X + 1)]) (rest := []) ⟨hx, hb, hml, hown, ht⟩ (k_X1_record l g A M (X + 71) ρ8 πs8 hs (nI k) hH8 (X + 1) π now n hX.nowV (by omega) k rfl hk6 hn hn20) (cwV 1 ht (gU uw_304 uw_305 uw_306 uw_39 uw_307) rfl rfl rfl (by decide +kernel) ⟨by decide, by decide⟩) hK hM hS (m_recv hK hM hH8.1 hH8.2.2.2.1 rfl) rfl hl.1 rfl (Nat.le_of_ble_eq_true rfl) dX7_twice_37 ⟨by decide, by decide⟩ (fun M H locs hp hM hS => ?_)
      obtain ⟨⟨ρ7, πs7, hH7⟩, hF7⟩ := hp
      have hX := hX.setH hH7 hF7
      refine lv_aload_n hx hb dX7_twice_40 rfl (lv_at hl 1 rfl) ?_
      refine m_get (ci := 7) (C := RX7) (T := TX7) (N := 7) hx hb ht ui_X7 hown hK hM hX.AX hX.obj rfl 0 (by decide) (ht _ uw_275) rfl dX7_twice_41 ?_
      refine lv_aload_n hx hb dX7_twice_44 rfl (lv_at hl 0 rfl) ?_
      have hlt : n < 20 := by
        have z := ite10.mp c_23
        rw [hn] at z
        exact nI_lt_of (by omega) (by decide) z
      refine m_callV (As := [.ref (X + 1 + 15 + π j)]) (rest := []) ⟨hx, hb, hml, hown, ht⟩ (k_X6_addSecondOf l g A M (X + 1) π now j hX.nowV n hn hlt hj) (cwV 1 ht (gU uw_425 uw_426 uw_427 uw_35 uw_428) rfl rfl rfl (by decide +kernel) ⟨by decide, by decide⟩) hK hM hS (m_recv hK hM hX.nowV.AW hX.nowV.W rfl) rfl hl.1 rfl (Nat.le_of_ble_eq_true rfl) dX7_twice_45 ⟨by decide, by decide⟩ (fun M H locs hp hM hS => ?_)
      obtain ⟨hV9, hF9⟩ := hp
      have hX := hX.setN hV9 hF9
      refine lv_aload_n hx hb dX7_twice_48 rfl (lv_at hl 1 rfl) ?_
      refine m_get (ci := 7) (C := RX7) (T := TX7) (N := 7) hx hb ht ui_X7 hown hK hM hX.AX hX.obj rfl 0 (by decide) (ht _ uw_275) rfl dX7_twice_49 ?_
      refine rv_getW hx hb ht ui_X6 hown hK hM hX.nowV 3 (by decide) (ht _ uw_195) dX7_twice_52 ?_
      subst hQ
      exact m_zret hx hb hr (rfl) hlk hK hM hS dX7_twice_55 (by unfold oTwice; rw [show ruN (now, hs, k, sl, sv, f, L) x = some j from e1]; dsimp only; rw [if_neg (ite10.mp c_23)]; rw [← hN] at hX; exact ⟨by rw [← hN], π, hX⟩)
    · refine lv_ldc (v := (-1000004)) hx hb hown (ht _ uw_355) dX7_twice_26 ?_
      subst hQ
      exact m_zret hx hb hr (rfl) hlk hK hM hS dX7_twice_28 (by unfold oTwice; rw [show ruN (now, hs, k, sl, sv, f, L) x = some j from e1]; dsimp only; rw [if_pos (Classical.not_not.mp (fun z => c_23 (ite10.mpr z)))]; exact ⟨rfl, π, hX⟩)

set_option maxHeartbeats 4000000 in
set_option maxRecDepth 100000 in
/-- gaugeOf -/
theorem k_X7_gaugeOf (l : Launch) (g : GG) (A : Nat → Prop) (M0 : MM) (X : Nat) (now : VV) (hs : Nat → VV) (k : Nat) (sl : Nat → VV) (sv f : Nat → Int32) (L : Nat) (hR : RXS g A M0 M0 X (now, hs, k, sl, sv, f, L)) (hI : CI (now, hs, k, sl, sv, f, L)) (x y : Int32)  : Met l yX7_gaugeOf (Uw yX7_gaugeOf cX7_gaugeOf 4 (Option.some ClassFile.FieldType.int)) (rmD 2) (PreM [.ref (X), .int (x), .int (y)] g A M0) (PosI (fun r M1 => r = oGaugeOf (now, hs, k, sl, sv, f, L) x y ∧ M1 = M0) g A) 0 0 A := by
  refine mk_Met (own := RX7) rfl rfl (by decide) (Nat.le_of_ble_eq_true rfl) ?_
  intro p e s m below meth c ls aa Q haa hQ hx hb hr hlk hml hown hts hK hM hS hl hnm
  obtain ⟨M, hMM⟩ : ∃ M, M = M0 := ⟨_, rfl⟩
  rw [← hMM] at hM hR
  have ht : ∀ w ∈ lw_good, w.before _ s = true := fun w h => hts w (List.mem_cons_of_mem _ h)
  have hl : lv_has ls 4 [(0, .ref (X)), (1, .int (x)), (2, .int (y))] := hl
  obtain ⟨π, hX⟩ := hR
  have hX : RX g A M0 M X π now hs k sl sv f L := ⟨hX.1, by rw [hMM]; exact FrX.rf⟩
  obtain ⟨⟨n, hn20, hn⟩, hk6, hhs, hsl, hL, hch⟩ := id hI
  have hN : onN now = n := onN_eq hn hn20
  rcases gxn_cases (n := 6) (by decide) x with ⟨e1, h1⟩ | ⟨i, hi, ex, e1⟩
  · refine lv_aload_n hx hb dX7_gaugeOf_0 rfl (lv_at hl 0 rfl) ?_
    refine m_get (ci := 7) (C := RX7) (T := TX7) (N := 7) hx hb ht ui_X7 hown hK hM hX.AX hX.obj rfl 0 (by decide) (ht _ uw_275) rfl dX7_gaugeOf_1 ?_
    refine lv_iload_n hx hb dX7_gaugeOf_4 rfl (lv_at hl 1 rfl) ?_
    refine m_callRQ (val := none) (w := .null) (rfl) (As := [.int (x)]) (rest := []) ⟨hx, hb, hml, hown, ht⟩ (k_X6_gaugeAt l g A M (X + 1) π now (x) none hX.nowV e1) (cwV 1 ht (gU uw_345 uw_337 uw_338 uw_35 uw_339) rfl rfl rfl (by decide +kernel) ⟨by decide, by decide⟩) hK hM hS (m_recv hK hM hX.nowV.AW hX.nowV.W rfl) rfl hl.1 rfl (Nat.le_of_ble_eq_true rfl) dX7_gaugeOf_5 ⟨by decide, by decide⟩ (fun H locs hM hS => ?_)
    refine lv_astore_nN (lv' := [(3, .null), (0, .ref (X)), (1, .int (x)), (2, .int (y))]) hx hb dX7_gaugeOf_8 rfl hl (by decide) rfl (fun ls hl => ?_)
    refine lv_aload_nN hx hb dX7_gaugeOf_9 rfl (lv_at hl 0 rfl) ?_
    refine lv_ifnonnullN hx hb dX7_gaugeOf_10 ?_
    refine lv_ldc (v := (-1000001)) hx hb hown (ht _ uw_346) dX7_gaugeOf_13 ?_
    refine lv_goto (tgt := 27) hx hb dX7_gaugeOf_15 (by decide) ?_
    subst hQ
    exact m_zret hx hb hr (rfl) hlk hK hM hS dX7_gaugeOf_27 (⟨by unfold oGaugeOf; rw [e1], hMM⟩)
  · refine lv_aload_n hx hb dX7_gaugeOf_0 rfl (lv_at hl 0 rfl) ?_
    refine m_get (ci := 7) (C := RX7) (T := TX7) (N := 7) hx hb ht ui_X7 hown hK hM hX.AX hX.obj rfl 0 (by decide) (ht _ uw_275) rfl dX7_gaugeOf_1 ?_
    refine lv_iload_n hx hb dX7_gaugeOf_4 rfl (lv_at hl 1 rfl) ?_
    refine m_callRQ (val := some (X + 1 + 3 + 2 * i)) (w := .ref (X + 1 + 3 + 2 * i)) (rfl) (As := [.int (x)]) (rest := []) ⟨hx, hb, hml, hown, ht⟩ (k_X6_gaugeAt l g A M (X + 1) π now (x) (some i) hX.nowV e1) (cwV 1 ht (gU uw_345 uw_337 uw_338 uw_35 uw_339) rfl rfl rfl (by decide +kernel) ⟨by decide, by decide⟩) hK hM hS (m_recv hK hM hX.nowV.AW hX.nowV.W rfl) rfl hl.1 rfl (Nat.le_of_ble_eq_true rfl) dX7_gaugeOf_5 ⟨by decide, by decide⟩ (fun H locs hM hS => ?_)
    refine lv_astore_n (lv' := [(3, .ref (X + 1 + 3 + 2 * i)), (0, .ref (X)), (1, .int (x)), (2, .int (y))]) hx hb dX7_gaugeOf_8 rfl hl (by decide) rfl (fun ls hl => ?_)
    refine lv_aload_n hx hb dX7_gaugeOf_9 rfl (lv_at hl 0 rfl) ?_
    refine lv_ifnonnull (tgt := 18) hx hb dX7_gaugeOf_10 (by decide) ?_
    refine lv_aload_n hx hb dX7_gaugeOf_18 rfl (lv_at hl 1 rfl) ?_
    refine m_get (ci := 7) (C := RX7) (T := TX7) (N := 7) hx hb ht ui_X7 hown hK hM hX.AX hX.obj rfl 0 (by decide) (ht _ uw_275) rfl dX7_gaugeOf_19 ?_
    refine lv_aload_n hx hb dX7_gaugeOf_22 rfl (lv_at hl 0 rfl) ?_
    refine lv_iload_n hx hb dX7_gaugeOf_23 rfl (lv_at hl 3 rfl) ?_
    refine m_callRI (val := facC now i y) (As := [.ref (X + 1 + 3 + 2 * i), .int (y)]) (rest := []) ⟨hx, hb, hml, hown, ht⟩ (k_X6_factOf l g A M (X + 1) π now i y hX.nowV hi) (cwV 2 ht (gU uw_484 uw_485 uw_486 uw_35 uw_487) rfl rfl rfl (by decide +kernel) ⟨by decide, by decide⟩) hK hM hS (m_recv hK hM hX.nowV.AW hX.nowV.W rfl) rfl hl.1 rfl (Nat.le_of_ble_eq_true rfl) dX7_gaugeOf_24 ⟨by decide, by decide⟩ (fun H locs hM hS => ?_)
    subst hQ
    exact m_zret hx hb hr (rfl) hlk hK hM hS dX7_gaugeOf_27 (⟨by unfold oGaugeOf; rw [e1], hMM⟩)

set_option maxHeartbeats 4000000 in
set_option maxRecDepth 100000 in
/-- ledger -/
theorem k_X7_ledger (l : Launch) (g : GG) (A : Nat → Prop) (M0 : MM) (X : Nat) (now : VV) (hs : Nat → VV) (k : Nat) (sl : Nat → VV) (sv f : Nat → Int32) (L : Nat) (hR : RXS g A M0 M0 X (now, hs, k, sl, sv, f, L)) (hI : CI (now, hs, k, sl, sv, f, L)) (x y : Int32)  : Met l yX7_ledger (Uw yX7_ledger cX7_ledger 5 (Option.some ClassFile.FieldType.int)) (rmD 1) (PreM [.ref (X), .int (x), .int (y)] g A M0) (PosI (fun r M1 => r = oLedger (now, hs, k, sl, sv, f, L) x y ∧ M1 = M0) g A) 0 0 A := by
  refine mk_Met (own := RX7) rfl rfl (by decide) (Nat.le_of_ble_eq_true rfl) ?_
  intro p e s m below meth c ls aa Q haa hQ hx hb hr hlk hml hown hts hK hM hS hl hnm
  obtain ⟨M, hMM⟩ : ∃ M, M = M0 := ⟨_, rfl⟩
  rw [← hMM] at hM hR
  have ht : ∀ w ∈ lw_good, w.before _ s = true := fun w h => hts w (List.mem_cons_of_mem _ h)
  have hl : lv_has ls 5 [(0, .ref (X)), (1, .int (x)), (2, .int (y))] := hl
  obtain ⟨π, hX⟩ := hR
  have hX : RX g A M0 M X π now hs k sl sv f L := ⟨hX.1, by rw [hMM]; exact FrX.rf⟩
  obtain ⟨⟨n, hn20, hn⟩, hk6, hhs, hsl, hL, hch⟩ := id hI
  have hN : onN now = n := onN_eq hn hn20
  rcases gxn_cases (n := 6) (by decide) x with ⟨e1, h1⟩ | ⟨i, hi, ex, e1⟩
  · refine lv_aload_n hx hb dX7_ledger_0 rfl (lv_at hl 0 rfl) ?_
    refine m_get (ci := 7) (C := RX7) (T := TX7) (N := 7) hx hb ht ui_X7 hown hK hM hX.AX hX.obj rfl 0 (by decide) (ht _ uw_275) rfl dX7_ledger_1 ?_
    refine lv_iload_n hx hb dX7_ledger_4 rfl (lv_at hl 1 rfl) ?_
    refine m_callRQ (val := none) (w := .null) (rfl) (As := [.int (x)]) (rest := []) ⟨hx, hb, hml, hown, ht⟩ (k_X6_gaugeAt l g A M (X + 1) π now (x) none hX.nowV e1) (cwV 1 ht (gU uw_345 uw_337 uw_338 uw_35 uw_339) rfl rfl rfl (by decide +kernel) ⟨by decide, by decide⟩) hK hM hS (m_recv hK hM hX.nowV.AW hX.nowV.W rfl) rfl hl.1 rfl (Nat.le_of_ble_eq_true rfl) dX7_ledger_5 ⟨by decide, by decide⟩ (fun H locs hM hS => ?_)
    refine lv_astore_nN (lv' := [(3, .null), (0, .ref (X)), (1, .int (x)), (2, .int (y))]) hx hb dX7_ledger_8 rfl hl (by decide) rfl (fun ls hl => ?_)
    refine lv_aload_nN hx hb dX7_ledger_9 rfl (lv_at hl 0 rfl) ?_
    refine lv_ifnonnullN hx hb dX7_ledger_10 ?_
    refine lv_ldc (v := (-1000001)) hx hb hown (ht _ uw_346) dX7_ledger_13 ?_
    subst hQ
    exact m_zret hx hb hr (rfl) hlk hK hM hS dX7_ledger_15 (⟨by unfold oLedger; rw [e1], hMM⟩)
  · refine lv_aload_n hx hb dX7_ledger_0 rfl (lv_at hl 0 rfl) ?_
    refine m_get (ci := 7) (C := RX7) (T := TX7) (N := 7) hx hb ht ui_X7 hown hK hM hX.AX hX.obj rfl 0 (by decide) (ht _ uw_275) rfl dX7_ledger_1 ?_
    refine lv_iload_n hx hb dX7_ledger_4 rfl (lv_at hl 1 rfl) ?_
    refine m_callRQ (val := some (X + 1 + 3 + 2 * i)) (w := .ref (X + 1 + 3 + 2 * i)) (rfl) (As := [.int (x)]) (rest := []) ⟨hx, hb, hml, hown, ht⟩ (k_X6_gaugeAt l g A M (X + 1) π now (x) (some i) hX.nowV e1) (cwV 1 ht (gU uw_345 uw_337 uw_338 uw_35 uw_339) rfl rfl rfl (by decide +kernel) ⟨by decide, by decide⟩) hK hM hS (m_recv hK hM hX.nowV.AW hX.nowV.W rfl) rfl hl.1 rfl (Nat.le_of_ble_eq_true rfl) dX7_ledger_5 ⟨by decide, by decide⟩ (fun H locs hM hS => ?_)
    refine lv_astore_n (lv' := [(3, .ref (X + 1 + 3 + 2 * i)), (0, .ref (X)), (1, .int (x)), (2, .int (y))]) hx hb dX7_ledger_8 rfl hl (by decide) rfl (fun ls hl => ?_)
    refine lv_aload_n hx hb dX7_ledger_9 rfl (lv_at hl 0 rfl) ?_
    refine lv_ifnonnull (tgt := 16) hx hb dX7_ledger_10 (by decide) ?_
    refine lv_aload_n hx hb dX7_ledger_16 rfl (lv_at hl 0 rfl) ?_
    refine rv_getpg hx hb ht ui_X0 hown hK hM hX.nowV hi (ht _ uw_137) dX7_ledger_17 ?_
    refine lv_astore (lv' := [(4, .ref (X + 1 + 4 + 2 * i)), (3, .ref (X + 1 + 3 + 2 * i)), (0, .ref (X)), (1, .int (x)), (2, .int (y))]) hx hb dX7_ledger_20 hl (by decide) rfl (fun ls hl => ?_)
    refine lv_iload_n hx hb dX7_ledger_22 rfl (lv_at hl 4 rfl) ?_
    by_cases s_23 : (y).toInt < 0 ∨ 7 < (y).toInt
    · refine lv_tableOut (tgt := 122) hx hb dX7_ledger_23 s_23 (by decide) ?_
      refine lv_ldc (v := (-1000002)) hx hb hown (ht _ uw_340) dX7_ledger_122 ?_
      subst hQ
      exact m_zret hx hb hr (rfl) hlk hK hM hS dX7_ledger_124 (⟨by unfold oLedger; rw [e1]; exact (ledV_out s_23).symm, hMM⟩)
    by_cases s_23_0 : (y) = 0
    · refine lv_tableIn (tgt := 68) (off := 45) hx hb dX7_ledger_23 (by rw [s_23_0]; decide) (by rw [s_23_0]; decide) (by rw [s_23_0]; rfl) (by decide) ?_
      refine lv_aload hx hb dX7_ledger_68 (lv_at hl 0 rfl) ?_
      refine rv_getP hx hb ht ui_X4 hown hK hM hX.nowV hi 0 (by decide) (ht _ uw_75) dX7_ledger_70 ?_
      subst hQ
      exact m_zret hx hb hr (rfl) hlk hK hM hS dX7_ledger_73 (⟨by unfold oLedger; rw [e1, s_23_0]; rfl, hMM⟩)
    by_cases s_23_1 : (y) = 1
    · refine lv_tableIn (tgt := 74) (off := 51) hx hb dX7_ledger_23 (by rw [s_23_1]; decide) (by rw [s_23_1]; decide) (by rw [s_23_1]; rfl) (by decide) ?_
      refine lv_aload hx hb dX7_ledger_74 (lv_at hl 0 rfl) ?_
      refine rv_getP hx hb ht ui_X4 hown hK hM hX.nowV hi 1 (by decide) (ht _ uw_78) dX7_ledger_76 ?_
      subst hQ
      exact m_zret hx hb hr (rfl) hlk hK hM hS dX7_ledger_79 (⟨by unfold oLedger; rw [e1, s_23_1]; rfl, hMM⟩)
    by_cases s_23_2 : (y) = 2
    · refine lv_tableIn (tgt := 80) (off := 57) hx hb dX7_ledger_23 (by rw [s_23_2]; decide) (by rw [s_23_2]; decide) (by rw [s_23_2]; rfl) (by decide) ?_
      refine lv_aload_n hx hb dX7_ledger_80 rfl (lv_at hl 2 rfl) ?_
      refine m_get (ci := 7) (C := RX7) (T := TX7) (N := 7) hx hb ht ui_X7 hown hK hM hX.AX hX.obj rfl 0 (by decide) (ht _ uw_275) rfl dX7_ledger_81 ?_
      refine lv_aload hx hb dX7_ledger_84 (lv_at hl 0 rfl) ?_
      refine rv_getP hx hb ht ui_X4 hown hK hM hX.nowV hi 2 (by decide) (ht _ uw_82) dX7_ledger_86 ?_
      refine m_callRI (val := whC now (now.2.1 i 10)) (As := [.int (now.2.1 i 10)]) (rest := []) ⟨hx, hb, hml, hown, ht⟩ (k_X6_wheelAt l g A M (X + 1) π now (now.2.1 i 10) hX.nowV) (cwV 1 ht (gU uw_493 uw_377 uw_378 uw_35 uw_379) rfl rfl rfl (by decide +kernel) ⟨by decide, by decide⟩) hK hM hS (m_recv hK hM hX.nowV.AW hX.nowV.W rfl) rfl hl.1 rfl (Nat.le_of_ble_eq_true rfl) dX7_ledger_89 ⟨by decide, by decide⟩ (fun H locs hM hS => ?_)
      subst hQ
      exact m_zret hx hb hr (rfl) hlk hK hM hS dX7_ledger_92 (⟨by unfold oLedger; rw [e1, s_23_2]; rfl, hMM⟩)
    by_cases s_23_3 : (y) = 3
    · refine lv_tableIn (tgt := 93) (off := 70) hx hb dX7_ledger_23 (by rw [s_23_3]; decide) (by rw [s_23_3]; decide) (by rw [s_23_3]; rfl) (by decide) ?_
      refine lv_aload_n hx hb dX7_ledger_93 rfl (lv_at hl 1 rfl) ?_
      refine m_callRI (val := now.2.1 i 5 - now.2.1 i 8) (As := []) (rest := []) ⟨hx, hb, hml, hown, ht⟩ (k_X0_gap l g A M (X + 1) π now i hX.nowV hi) (cwV 0 ht (gU uw_494 uw_495 uw_496 uw_36 uw_497) rfl rfl rfl (by decide +kernel) ⟨by decide, by decide⟩) hK hM hS (m_recv hK hM (hX.nowV.AG hi) (hX.nowV.G hi) rfl) rfl hl.1 rfl (Nat.le_of_ble_eq_true rfl) dX7_ledger_94 ⟨by decide, by decide⟩ (fun H locs hM hS => ?_)
      subst hQ
      exact m_zret hx hb hr (rfl) hlk hK hM hS dX7_ledger_97 (⟨by unfold oLedger; rw [e1, s_23_3]; rfl, hMM⟩)
    by_cases s_23_4 : (y) = 4
    · refine lv_tableIn (tgt := 98) (off := 75) hx hb dX7_ledger_23 (by rw [s_23_4]; decide) (by rw [s_23_4]; decide) (by rw [s_23_4]; rfl) (by decide) ?_
      refine lv_aload hx hb dX7_ledger_98 (lv_at hl 0 rfl) ?_
      refine rv_getP hx hb ht ui_X4 hown hK hM hX.nowV hi 4 (by decide) (ht _ uw_87) dX7_ledger_100 ?_
      subst hQ
      exact m_zret hx hb hr (rfl) hlk hK hM hS dX7_ledger_103 (⟨by unfold oLedger; rw [e1, s_23_4]; rfl, hMM⟩)
    by_cases s_23_5 : (y) = 5
    · refine lv_tableIn (tgt := 104) (off := 81) hx hb dX7_ledger_23 (by rw [s_23_5]; decide) (by rw [s_23_5]; decide) (by rw [s_23_5]; rfl) (by decide) ?_
      refine lv_aload hx hb dX7_ledger_104 (lv_at hl 0 rfl) ?_
      refine rv_getP hx hb ht ui_X4 hown hK hM hX.nowV hi 5 (by decide) (ht _ uw_90) dX7_ledger_106 ?_
      subst hQ
      exact m_zret hx hb hr (rfl) hlk hK hM hS dX7_ledger_109 (⟨by unfold oLedger; rw [e1, s_23_5]; rfl, hMM⟩)
    by_cases s_23_6 : (y) = 6
    · refine lv_tableIn (tgt := 110) (off := 87) hx hb dX7_ledger_23 (by rw [s_23_6]; decide) (by rw [s_23_6]; decide) (by rw [s_23_6]; rfl) (by decide) ?_
      refine lv_aload hx hb dX7_ledger_110 (lv_at hl 0 rfl) ?_
      refine rv_getP hx hb ht ui_X4 hown hK hM hX.nowV hi 6 (by decide) (ht _ uw_93) dX7_ledger_112 ?_
      subst hQ
      exact m_zret hx hb hr (rfl) hlk hK hM hS dX7_ledger_115 (⟨by unfold oLedger; rw [e1, s_23_6]; rfl, hMM⟩)
    by_cases s_23_7 : (y) = 7
    · refine lv_tableIn (tgt := 116) (off := 93) hx hb dX7_ledger_23 (by rw [s_23_7]; decide) (by rw [s_23_7]; decide) (by rw [s_23_7]; rfl) (by decide) ?_
      refine lv_aload hx hb dX7_ledger_116 (lv_at hl 0 rfl) ?_
      refine rv_getP hx hb ht ui_X4 hown hK hM hX.nowV hi 7 (by decide) (ht _ uw_96) dX7_ledger_118 ?_
      subst hQ
      exact m_zret hx hb hr (rfl) hlk hK hM hS dX7_ledger_121 (⟨by unfold oLedger; rw [e1, s_23_7]; rfl, hMM⟩)
    exfalso
    have n_0 := lv_neT (a := 0) s_23_0 (by decide)
    have n_1 := lv_neT (a := 1) s_23_1 (by decide)
    have n_2 := lv_neT (a := 2) s_23_2 (by decide)
    have n_3 := lv_neT (a := 3) s_23_3 (by decide)
    have n_4 := lv_neT (a := 4) s_23_4 (by decide)
    have n_5 := lv_neT (a := 5) s_23_5 (by decide)
    have n_6 := lv_neT (a := 6) s_23_6 (by decide)
    have n_7 := lv_neT (a := 7) s_23_7 (by decide)
    omega

set_option maxHeartbeats 4000000 in
set_option maxRecDepth 100000 in
/-- runner -/
theorem k_X7_runner (l : Launch) (g : GG) (A : Nat → Prop) (M0 : MM) (X : Nat) (now : VV) (hs : Nat → VV) (k : Nat) (sl : Nat → VV) (sv f : Nat → Int32) (L : Nat) (hR : RXS g A M0 M0 X (now, hs, k, sl, sv, f, L)) (hI : CI (now, hs, k, sl, sv, f, L)) (x y : Int32)  : Met l yX7_runner (Uw yX7_runner cX7_runner 4 (Option.some ClassFile.FieldType.int)) (rmD 1) (PreM [.ref (X), .int (x), .int (y)] g A M0) (PosI (fun r M1 => r = oRunner (now, hs, k, sl, sv, f, L) x y ∧ M1 = M0) g A) 0 0 A := by
  refine mk_Met (own := RX7) rfl rfl (by decide) (Nat.le_of_ble_eq_true rfl) ?_
  intro p e s m below meth c ls aa Q haa hQ hx hb hr hlk hml hown hts hK hM hS hl hnm
  obtain ⟨M, hMM⟩ : ∃ M, M = M0 := ⟨_, rfl⟩
  rw [← hMM] at hM hR
  have ht : ∀ w ∈ lw_good, w.before _ s = true := fun w h => hts w (List.mem_cons_of_mem _ h)
  have hl : lv_has ls 4 [(0, .ref (X)), (1, .int (x)), (2, .int (y))] := hl
  obtain ⟨π, hX⟩ := hR
  have hX : RX g A M0 M X π now hs k sl sv f L := ⟨hX.1, by rw [hMM]; exact FrX.rf⟩
  obtain ⟨⟨n, hn20, hn⟩, hk6, hhs, hsl, hL, hch⟩ := id hI
  have hN : onN now = n := onN_eq hn hn20
  rcases ru_cases (v := now) hn hn20 x with e1 | ⟨j, hjn, ex, e1⟩
  · refine lv_aload_n hx hb dX7_runner_0 rfl (lv_at hl 0 rfl) ?_
    refine m_get (ci := 7) (C := RX7) (T := TX7) (N := 7) hx hb ht ui_X7 hown hK hM hX.AX hX.obj rfl 0 (by decide) (ht _ uw_275) rfl dX7_runner_1 ?_
    refine lv_iload_n hx hb dX7_runner_4 rfl (lv_at hl 1 rfl) ?_
    refine m_callRQ (val := none) (w := .null) (rfl) (As := [.int (x)]) (rest := []) ⟨hx, hb, hml, hown, ht⟩ (k_X6_runnerAt l g A M (X + 1) π now (x) none hX.nowV e1) (cwV 1 ht (gU uw_418 uw_369 uw_370 uw_35 uw_371) rfl rfl rfl (by decide +kernel) ⟨by decide, by decide⟩) hK hM hS (m_recv hK hM hX.nowV.AW hX.nowV.W rfl) rfl hl.1 rfl (Nat.le_of_ble_eq_true rfl) dX7_runner_5 ⟨by decide, by decide⟩ (fun H locs hM hS => ?_)
    refine lv_astore_nN (lv' := [(3, .null), (0, .ref (X)), (1, .int (x)), (2, .int (y))]) hx hb dX7_runner_8 rfl hl (by decide) rfl (fun ls hl => ?_)
    refine lv_aload_nN hx hb dX7_runner_9 rfl (lv_at hl 0 rfl) ?_
    refine lv_ifnonnullN hx hb dX7_runner_10 ?_
    refine lv_ldc (v := (-1000001)) hx hb hown (ht _ uw_346) dX7_runner_13 ?_
    subst hQ
    exact m_zret hx hb hr (rfl) hlk hK hM hS dX7_runner_15 (⟨by unfold oRunner; rw [show ruN (now, hs, k, sl, sv, f, L) x = none from e1], hMM⟩)
  · have hj : j < 20 := by omega
    refine lv_aload_n hx hb dX7_runner_0 rfl (lv_at hl 0 rfl) ?_
    refine m_get (ci := 7) (C := RX7) (T := TX7) (N := 7) hx hb ht ui_X7 hown hK hM hX.AX hX.obj rfl 0 (by decide) (ht _ uw_275) rfl dX7_runner_1 ?_
    refine lv_iload_n hx hb dX7_runner_4 rfl (lv_at hl 1 rfl) ?_
    refine m_callRQ (val := some (X + 1 + 15 + π j)) (w := .ref (X + 1 + 15 + π j)) (rfl) (As := [.int (x)]) (rest := []) ⟨hx, hb, hml, hown, ht⟩ (k_X6_runnerAt l g A M (X + 1) π now (x) (some j) hX.nowV e1) (cwV 1 ht (gU uw_418 uw_369 uw_370 uw_35 uw_371) rfl rfl rfl (by decide +kernel) ⟨by decide, by decide⟩) hK hM hS (m_recv hK hM hX.nowV.AW hX.nowV.W rfl) rfl hl.1 rfl (Nat.le_of_ble_eq_true rfl) dX7_runner_5 ⟨by decide, by decide⟩ (fun H locs hM hS => ?_)
    refine lv_astore_n (lv' := [(3, .ref (X + 1 + 15 + π j)), (0, .ref (X)), (1, .int (x)), (2, .int (y))]) hx hb dX7_runner_8 rfl hl (by decide) rfl (fun ls hl => ?_)
    refine lv_aload_n hx hb dX7_runner_9 rfl (lv_at hl 0 rfl) ?_
    refine lv_ifnonnull (tgt := 16) hx hb dX7_runner_10 (by decide) ?_
    refine lv_iload_n hx hb dX7_runner_16 rfl (lv_at hl 3 rfl) ?_
    by_cases s_17 : (y).toInt < 0 ∨ 3 < (y).toInt
    · refine lv_tableOut (tgt := 75) hx hb dX7_runner_17 s_17 (by decide) ?_
      refine lv_ldc (v := (-1000002)) hx hb hown (ht _ uw_340) dX7_runner_75 ?_
      subst hQ
      exact m_zret hx hb hr (rfl) hlk hK hM hS dX7_runner_77 (⟨by unfold oRunner; rw [show ruN (now, hs, k, sl, sv, f, L) x = some j from e1]; exact (runV_out s_17).symm, hMM⟩)
    by_cases s_17_0 : (y) = 0
    · refine lv_tableIn (tgt := 48) (off := 31) hx hb dX7_runner_17 (by rw [s_17_0]; decide) (by rw [s_17_0]; decide) (by rw [s_17_0]; rfl) (by decide) ?_
      refine lv_aload_n hx hb dX7_runner_48 rfl (lv_at hl 0 rfl) ?_
      refine rv_getR hx hb ht ui_X5 hown hK hM hX.nowV hj 0 (by decide) (ht _ uw_164) dX7_runner_49 ?_
      subst hQ
      exact m_zret hx hb hr (rfl) hlk hK hM hS dX7_runner_52 (⟨by unfold oRunner; rw [show ruN (now, hs, k, sl, sv, f, L) x = some j from e1, s_17_0]; rfl, hMM⟩)
    by_cases s_17_1 : (y) = 1
    · refine lv_tableIn (tgt := 53) (off := 36) hx hb dX7_runner_17 (by rw [s_17_1]; decide) (by rw [s_17_1]; decide) (by rw [s_17_1]; rfl) (by decide) ?_
      refine lv_aload_n hx hb dX7_runner_53 rfl (lv_at hl 1 rfl) ?_
      refine m_get (ci := 7) (C := RX7) (T := TX7) (N := 7) hx hb ht ui_X7 hown hK hM hX.AX hX.obj rfl 0 (by decide) (ht _ uw_275) rfl dX7_runner_54 ?_
      refine lv_aload_n hx hb dX7_runner_57 rfl (lv_at hl 0 rfl) ?_
      refine rv_getR hx hb ht ui_X5 hown hK hM hX.nowV hj 1 (by decide) (ht _ uw_168) dX7_runner_58 ?_
      refine m_callRI (val := whC now (now.2.2 j 1)) (As := [.int (now.2.2 j 1)]) (rest := []) ⟨hx, hb, hml, hown, ht⟩ (k_X6_wheelAt l g A M (X + 1) π now (now.2.2 j 1) hX.nowV) (cwV 1 ht (gU uw_493 uw_377 uw_378 uw_35 uw_379) rfl rfl rfl (by decide +kernel) ⟨by decide, by decide⟩) hK hM hS (m_recv hK hM hX.nowV.AW hX.nowV.W rfl) rfl hl.1 rfl (Nat.le_of_ble_eq_true rfl) dX7_runner_61 ⟨by decide, by decide⟩ (fun H locs hM hS => ?_)
      subst hQ
      exact m_zret hx hb hr (rfl) hlk hK hM hS dX7_runner_64 (⟨by unfold oRunner; rw [show ruN (now, hs, k, sl, sv, f, L) x = some j from e1, s_17_1]; rfl, hMM⟩)
    by_cases s_17_2 : (y) = 2
    · refine lv_tableIn (tgt := 65) (off := 48) hx hb dX7_runner_17 (by rw [s_17_2]; decide) (by rw [s_17_2]; decide) (by rw [s_17_2]; rfl) (by decide) ?_
      refine lv_aload_n hx hb dX7_runner_65 rfl (lv_at hl 0 rfl) ?_
      refine rv_getR hx hb ht ui_X5 hown hK hM hX.nowV hj 2 (by decide) (ht _ uw_171) dX7_runner_66 ?_
      subst hQ
      exact m_zret hx hb hr (rfl) hlk hK hM hS dX7_runner_69 (⟨by unfold oRunner; rw [show ruN (now, hs, k, sl, sv, f, L) x = some j from e1, s_17_2]; rfl, hMM⟩)
    by_cases s_17_3 : (y) = 3
    · refine lv_tableIn (tgt := 70) (off := 53) hx hb dX7_runner_17 (by rw [s_17_3]; decide) (by rw [s_17_3]; decide) (by rw [s_17_3]; rfl) (by decide) ?_
      refine lv_aload_n hx hb dX7_runner_70 rfl (lv_at hl 0 rfl) ?_
      refine rv_getR hx hb ht ui_X5 hown hK hM hX.nowV hj 4 (by decide) (ht _ uw_176) dX7_runner_71 ?_
      subst hQ
      exact m_zret hx hb hr (rfl) hlk hK hM hS dX7_runner_74 (⟨by unfold oRunner; rw [show ruN (now, hs, k, sl, sv, f, L) x = some j from e1, s_17_3]; rfl, hMM⟩)
    exfalso
    have n_0 := lv_neT (a := 0) s_17_0 (by decide)
    have n_1 := lv_neT (a := 1) s_17_1 (by decide)
    have n_2 := lv_neT (a := 2) s_17_2 (by decide)
    have n_3 := lv_neT (a := 3) s_17_3 (by decide)
    omega

set_option maxHeartbeats 4000000 in
set_option maxRecDepth 100000 in
/-- count -/
theorem k_X7_count (l : Launch) (g : GG) (A : Nat → Prop) (M0 : MM) (X : Nat) (now : VV) (hs : Nat → VV) (k : Nat) (sl : Nat → VV) (sv f : Nat → Int32) (L : Nat) (hR : RXS g A M0 M0 X (now, hs, k, sl, sv, f, L)) (hI : CI (now, hs, k, sl, sv, f, L)) (x : Int32)  : Met l yX7_count (Uw yX7_count cX7_count 2 (Option.some ClassFile.FieldType.int)) (rmD 3) (PreM [.ref (X), .int (x)] g A M0) (PosI (fun r M1 => r = oCount (now, hs, k, sl, sv, f, L) x ∧ M1 = M0) g A) 0 0 A := by
  refine mk_Met (own := RX7) rfl rfl (by decide) (Nat.le_of_ble_eq_true rfl) ?_
  intro p e s m below meth c ls aa Q haa hQ hx hb hr hlk hml hown hts hK hM hS hl hnm
  obtain ⟨M, hMM⟩ : ∃ M, M = M0 := ⟨_, rfl⟩
  rw [← hMM] at hM hR
  have ht : ∀ w ∈ lw_good, w.before _ s = true := fun w h => hts w (List.mem_cons_of_mem _ h)
  have hl : lv_has ls 2 [(0, .ref (X)), (1, .int (x))] := hl
  obtain ⟨π, hX⟩ := hR
  have hX : RX g A M0 M X π now hs k sl sv f L := ⟨hX.1, by rw [hMM]; exact FrX.rf⟩
  obtain ⟨⟨n, hn20, hn⟩, hk6, hhs, hsl, hL, hch⟩ := id hI
  have hN : onN now = n := onN_eq hn hn20
  refine lv_iload_n hx hb dX7_count_0 rfl (lv_at hl 1 rfl) ?_
  by_cases s_1 : (x).toInt < 0 ∨ 10 < (x).toInt
  · refine lv_tableOut (tgt := 162) hx hb dX7_count_1 s_1 (by decide) ?_
    refine lv_ldc (v := (-1000002)) hx hb hown (ht _ uw_340) dX7_count_162 ?_
    subst hQ
    exact m_zret hx hb hr (rfl) hlk hK hM hS dX7_count_164 (⟨(oCount_out s_1).symm, hMM⟩)
  by_cases s_1_0 : (x) = 0
  · refine lv_tableIn (tgt := 60) (off := 59) hx hb dX7_count_1 (by rw [s_1_0]; decide) (by rw [s_1_0]; decide) (by rw [s_1_0]; rfl) (by decide) ?_
    refine lv_aload_n hx hb dX7_count_60 rfl (lv_at hl 0 rfl) ?_
    refine m_get (ci := 7) (C := RX7) (T := TX7) (N := 7) hx hb ht ui_X7 hown hK hM hX.AX hX.obj rfl 0 (by decide) (ht _ uw_275) rfl dX7_count_61 ?_
    refine rv_getW hx hb ht ui_X6 hown hK hM hX.nowV 0 (by decide) (ht _ uw_189) dX7_count_64 ?_
    subst hQ
    exact m_zret hx hb hr (rfl) hlk hK hM hS dX7_count_67 (⟨by rw [s_1_0]; rfl, hMM⟩)
  by_cases s_1_1 : (x) = 1
  · refine lv_tableIn (tgt := 68) (off := 67) hx hb dX7_count_1 (by rw [s_1_1]; decide) (by rw [s_1_1]; decide) (by rw [s_1_1]; rfl) (by decide) ?_
    refine lv_aload_n hx hb dX7_count_68 rfl (lv_at hl 0 rfl) ?_
    refine m_get (ci := 7) (C := RX7) (T := TX7) (N := 7) hx hb ht ui_X7 hown hK hM hX.AX hX.obj rfl 0 (by decide) (ht _ uw_275) rfl dX7_count_69 ?_
    refine rv_getW hx hb ht ui_X6 hown hK hM hX.nowV 1 (by decide) (ht _ uw_191) dX7_count_72 ?_
    subst hQ
    exact m_zret hx hb hr (rfl) hlk hK hM hS dX7_count_75 (⟨by rw [s_1_1]; rfl, hMM⟩)
  by_cases s_1_2 : (x) = 2
  · refine lv_tableIn (tgt := 76) (off := 75) hx hb dX7_count_1 (by rw [s_1_2]; decide) (by rw [s_1_2]; decide) (by rw [s_1_2]; rfl) (by decide) ?_
    refine lv_aload_n hx hb dX7_count_76 rfl (lv_at hl 0 rfl) ?_
    refine m_get (ci := 7) (C := RX7) (T := TX7) (N := 7) hx hb ht ui_X7 hown hK hM hX.AX hX.obj rfl 0 (by decide) (ht _ uw_275) rfl dX7_count_77 ?_
    refine rv_getW hx hb ht ui_X6 hown hK hM hX.nowV 2 (by decide) (ht _ uw_193) dX7_count_80 ?_
    subst hQ
    exact m_zret hx hb hr (rfl) hlk hK hM hS dX7_count_83 (⟨by rw [s_1_2]; rfl, hMM⟩)
  by_cases s_1_3 : (x) = 3
  · refine lv_tableIn (tgt := 84) (off := 83) hx hb dX7_count_1 (by rw [s_1_3]; decide) (by rw [s_1_3]; decide) (by rw [s_1_3]; rfl) (by decide) ?_
    refine lv_aload_n hx hb dX7_count_84 rfl (lv_at hl 0 rfl) ?_
    refine m_get (ci := 7) (C := RX7) (T := TX7) (N := 7) hx hb ht ui_X7 hown hK hM hX.AX hX.obj rfl 0 (by decide) (ht _ uw_275) rfl dX7_count_85 ?_
    refine rv_getW hx hb ht ui_X6 hown hK hM hX.nowV 3 (by decide) (ht _ uw_195) dX7_count_88 ?_
    subst hQ
    exact m_zret hx hb hr (rfl) hlk hK hM hS dX7_count_91 (⟨by rw [s_1_3]; rfl, hMM⟩)
  by_cases s_1_4 : (x) = 4
  · refine lv_tableIn (tgt := 92) (off := 91) hx hb dX7_count_1 (by rw [s_1_4]; decide) (by rw [s_1_4]; decide) (by rw [s_1_4]; rfl) (by decide) ?_
    refine lv_aload_n hx hb dX7_count_92 rfl (lv_at hl 0 rfl) ?_
    refine m_get (ci := 7) (C := RX7) (T := TX7) (N := 7) hx hb ht ui_X7 hown hK hM hX.AX hX.obj rfl 0 (by decide) (ht _ uw_275) rfl dX7_count_93 ?_
    refine lv_bipush (v := 7) hx hb dX7_count_96 (by first | rfl | decide) ?_
    refine m_callRI (val := sumN (fun i => facC now i (7)) 6) (As := [.int (7)]) (rest := []) ⟨hx, hb, hml, hown, ht⟩ (k_X6_sumOf l g A M (X + 1) π now (7) hX.nowV) (cwV 1 ht (gU uw_506 uw_507 uw_508 uw_35 uw_509) rfl rfl rfl (by decide +kernel) ⟨by decide, by decide⟩) hK hM hS (m_recv hK hM hX.nowV.AW hX.nowV.W rfl) rfl hl.1 rfl (Nat.le_of_ble_eq_true rfl) dX7_count_98 ⟨by decide, by decide⟩ (fun H locs hM hS => ?_)
    subst hQ
    exact m_zret hx hb hr (rfl) hlk hK hM hS dX7_count_101 (⟨by rw [s_1_4]; rfl, hMM⟩)
  by_cases s_1_5 : (x) = 5
  · refine lv_tableIn (tgt := 102) (off := 101) hx hb dX7_count_1 (by rw [s_1_5]; decide) (by rw [s_1_5]; decide) (by rw [s_1_5]; rfl) (by decide) ?_
    refine lv_aload_n hx hb dX7_count_102 rfl (lv_at hl 0 rfl) ?_
    refine m_get (ci := 7) (C := RX7) (T := TX7) (N := 7) hx hb ht ui_X7 hown hK hM hX.AX hX.obj rfl 0 (by decide) (ht _ uw_275) rfl dX7_count_103 ?_
    refine lv_bipush (v := 8) hx hb dX7_count_106 (by first | rfl | decide) ?_
    refine m_callRI (val := sumN (fun i => facC now i (8)) 6) (As := [.int (8)]) (rest := []) ⟨hx, hb, hml, hown, ht⟩ (k_X6_sumOf l g A M (X + 1) π now (8) hX.nowV) (cwV 1 ht (gU uw_506 uw_507 uw_508 uw_35 uw_509) rfl rfl rfl (by decide +kernel) ⟨by decide, by decide⟩) hK hM hS (m_recv hK hM hX.nowV.AW hX.nowV.W rfl) rfl hl.1 rfl (Nat.le_of_ble_eq_true rfl) dX7_count_108 ⟨by decide, by decide⟩ (fun H locs hM hS => ?_)
    refine lv_aload_n hx hb dX7_count_111 rfl (lv_at hl 0 rfl) ?_
    refine m_get (ci := 7) (C := RX7) (T := TX7) (N := 7) hx hb ht ui_X7 hown hK hM hX.AX hX.obj rfl 0 (by decide) (ht _ uw_275) rfl dX7_count_112 ?_
    refine lv_iconst (v := 4) hx hb dX7_count_115 (by first | rfl | decide) ?_
    refine m_callRI (val := sumN (fun i => facC now i (4)) 6) (As := [.int (4)]) (rest := [.int (sumN (fun i => facC now i (8)) 6)]) ⟨hx, hb, hml, hown, ht⟩ (k_X6_sumOf l g A M (X + 1) π now (4) hX.nowV) (cwV 1 ht (gU uw_506 uw_507 uw_508 uw_35 uw_509) rfl rfl rfl (by decide +kernel) ⟨by decide, by decide⟩) hK hM hS (m_recv hK hM hX.nowV.AW hX.nowV.W rfl) rfl hl.1 rfl (Nat.le_of_ble_eq_true rfl) dX7_count_116 ⟨by decide, by decide⟩ (fun H locs hM hS => ?_)
    refine lv_iadd hx hb dX7_count_119 ?_
    subst hQ
    exact m_zret hx hb hr (rfl) hlk hK hM hS dX7_count_120 (⟨by rw [s_1_5]; rfl, hMM⟩)
  by_cases s_1_6 : (x) = 6
  · refine lv_tableIn (tgt := 121) (off := 120) hx hb dX7_count_1 (by rw [s_1_6]; decide) (by rw [s_1_6]; decide) (by rw [s_1_6]; rfl) (by decide) ?_
    refine lv_aload_n hx hb dX7_count_121 rfl (lv_at hl 0 rfl) ?_
    refine m_get (ci := 7) (C := RX7) (T := TX7) (N := 7) hx hb ht ui_X7 hown hK hM hX.AX hX.obj rfl 0 (by decide) (ht _ uw_275) rfl dX7_count_122 ?_
    refine lv_iconst (v := 5) hx hb dX7_count_125 (by first | rfl | decide) ?_
    refine m_callRI (val := sumN (fun i => facC now i (5)) 6) (As := [.int (5)]) (rest := []) ⟨hx, hb, hml, hown, ht⟩ (k_X6_sumOf l g A M (X + 1) π now (5) hX.nowV) (cwV 1 ht (gU uw_506 uw_507 uw_508 uw_35 uw_509) rfl rfl rfl (by decide +kernel) ⟨by decide, by decide⟩) hK hM hS (m_recv hK hM hX.nowV.AW hX.nowV.W rfl) rfl hl.1 rfl (Nat.le_of_ble_eq_true rfl) dX7_count_126 ⟨by decide, by decide⟩ (fun H locs hM hS => ?_)
    subst hQ
    exact m_zret hx hb hr (rfl) hlk hK hM hS dX7_count_129 (⟨by rw [s_1_6]; rfl, hMM⟩)
  by_cases s_1_7 : (x) = 7
  · refine lv_tableIn (tgt := 130) (off := 129) hx hb dX7_count_1 (by rw [s_1_7]; decide) (by rw [s_1_7]; decide) (by rw [s_1_7]; rfl) (by decide) ?_
    refine lv_aload_n hx hb dX7_count_130 rfl (lv_at hl 0 rfl) ?_
    refine m_get (ci := 7) (C := RX7) (T := TX7) (N := 7) hx hb ht ui_X7 hown hK hM hX.AX hX.obj rfl 0 (by decide) (ht _ uw_275) rfl dX7_count_131 ?_
    refine m_callRI (val := sumN (fun i => now.2.1 i 8) 6) (As := []) (rest := []) ⟨hx, hb, hml, hown, ht⟩ (k_X6_sumOfTold l g A M (X + 1) π now hX.nowV) (cwV 0 ht (gU uw_511 uw_512 uw_513 uw_35 uw_514) rfl rfl rfl (by decide +kernel) ⟨by decide, by decide⟩) hK hM hS (m_recv hK hM hX.nowV.AW hX.nowV.W rfl) rfl hl.1 rfl (Nat.le_of_ble_eq_true rfl) dX7_count_134 ⟨by decide, by decide⟩ (fun H locs hM hS => ?_)
    subst hQ
    exact m_zret hx hb hr (rfl) hlk hK hM hS dX7_count_137 (⟨by rw [s_1_7]; rfl, hMM⟩)
  by_cases s_1_8 : (x) = 8
  · refine lv_tableIn (tgt := 138) (off := 137) hx hb dX7_count_1 (by rw [s_1_8]; decide) (by rw [s_1_8]; decide) (by rw [s_1_8]; rfl) (by decide) ?_
    refine lv_aload_n hx hb dX7_count_138 rfl (lv_at hl 0 rfl) ?_
    refine m_get (ci := 7) (C := RX7) (T := TX7) (N := 7) hx hb ht ui_X7 hown hK hM hX.AX hX.obj rfl 0 (by decide) (ht _ uw_275) rfl dX7_count_139 ?_
    refine m_callRI (val := gapN now 6) (As := []) (rest := []) ⟨hx, hb, hml, hown, ht⟩ (k_X6_gaugesWithGap l g A M (X + 1) π now hX.nowV) (cwV 0 ht (gU uw_515 uw_516 uw_517 uw_35 uw_518) rfl rfl rfl (by decide +kernel) ⟨by decide, by decide⟩) hK hM hS (m_recv hK hM hX.nowV.AW hX.nowV.W rfl) rfl hl.1 rfl (Nat.le_of_ble_eq_true rfl) dX7_count_142 ⟨by decide, by decide⟩ (fun H locs hM hS => ?_)
    subst hQ
    exact m_zret hx hb hr (rfl) hlk hK hM hS dX7_count_145 (⟨by rw [s_1_8]; rfl, hMM⟩)
  by_cases s_1_9 : (x) = 9
  · refine lv_tableIn (tgt := 146) (off := 145) hx hb dX7_count_1 (by rw [s_1_9]; decide) (by rw [s_1_9]; decide) (by rw [s_1_9]; rfl) (by decide) ?_
    refine lv_aload_n hx hb dX7_count_146 rfl (lv_at hl 0 rfl) ?_
    obtain ⟨rs, hTx⟩ := hX.txt
    refine m_get (ci := 7) (C := RX7) (T := TX7) (N := 7) hx hb ht ui_X7 hown hK hM hX.AX hX.obj rfl 5 (by decide) (ht _ uw_280) rfl dX7_count_147 ?_
    refine rt_getPl hx hb ht ui_X3 hown hK hM hTx (ht _ uw_238) dX7_count_150 ?_
    subst hQ
    exact m_zret hx hb hr (rfl) hlk hK hM hS dX7_count_153 (⟨by rw [s_1_9]; rfl, hMM⟩)
  by_cases s_1_10 : (x) = 10
  · refine lv_tableIn (tgt := 154) (off := 153) hx hb dX7_count_1 (by rw [s_1_10]; decide) (by rw [s_1_10]; decide) (by rw [s_1_10]; rfl) (by decide) ?_
    refine lv_aload_n hx hb dX7_count_154 rfl (lv_at hl 0 rfl) ?_
    skip
    refine m_get (ci := 7) (C := RX7) (T := TX7) (N := 7) hx hb ht ui_X7 hown hK hM hX.AX hX.obj rfl 2 (by decide) (ht _ uw_277) rfl dX7_count_155 ?_
    obtain ⟨ρ9, πs9, hH9⟩ := hX.his
    refine rh_getSz hx hb ht ui_X1 hown hK hM hH9 (ht _ uw_223) dX7_count_158 ?_
    subst hQ
    exact m_zret hx hb hr (rfl) hlk hK hM hS dX7_count_161 (⟨by rw [s_1_10]; rfl, hMM⟩)
  exfalso
  have n_0 := lv_neT (a := 0) s_1_0 (by decide)
  have n_1 := lv_neT (a := 1) s_1_1 (by decide)
  have n_2 := lv_neT (a := 2) s_1_2 (by decide)
  have n_3 := lv_neT (a := 3) s_1_3 (by decide)
  have n_4 := lv_neT (a := 4) s_1_4 (by decide)
  have n_5 := lv_neT (a := 5) s_1_5 (by decide)
  have n_6 := lv_neT (a := 6) s_1_6 (by decide)
  have n_7 := lv_neT (a := 7) s_1_7 (by decide)
  have n_8 := lv_neT (a := 8) s_1_8 (by decide)
  have n_9 := lv_neT (a := 9) s_1_9 (by decide)
  have n_10 := lv_neT (a := 10) s_1_10 (by decide)
  omega
end
section
theorem cpyC_3 {v w : VV} {n : Nat} (h : w.1 3 = nI n) {m : Nat} : (cpyC v w m).1 3 = nI n := h
def untL (i : Nat) (am : Int32) : Nat → Nat → VV → Int32
  | 0, _, _ => -1000006
  | z + 1, o, v => if v.1 0 ≤ v.2.1 i 5 - v.2.1 i 10 then nI o else untL i am z (o + 1) (catC v i am)
def oUntil (v : VV) (x y : Int32) : Int32 := match gxn 6 x with
  | none => -1000001
  | some i => if winC y 0 99 = 0 then -1000002 else untL i y 501 0 v
theorem unt_e {v : VV} {x y : Int32} {i : Nat} (e : gxn 6 x = some i) (h : ¬ winC y 0 99 = 0) : oUntil v x y = untL i y 501 0 v := by unfold oUntil; rw [e]; exact if_neg h
theorem unt_s {i o : Nat} {y : Int32} {v : VV} (h : o ≤ 500) : untL i y (501 - o) o v = if v.1 0 ≤ v.2.1 i 5 - v.2.1 i 10 then nI o else untL i y (501 - (o + 1)) (o + 1) (catC v i y) := by
  rw [show 501 - o = (501 - (o + 1)) + 1 by omega]
  rfl
theorem unt_1 {i o : Nat} {y : Int32} {v : VV} (h : o ≤ 500) (c : v.1 0 ≤ v.2.1 i 5 - v.2.1 i 10) : untL i y (501 - o) o v = nI o := by rw [unt_s h, if_pos c]
theorem unt_2 {i o : Nat} {y : Int32} {v : VV} (h : o ≤ 500) (c : v.2.1 i 5 - v.2.1 i 10 < v.1 0) : untL i y (501 - (o + 1)) (o + 1) (catC v i y) = untL i y (501 - o) o v := by rw [unt_s h, if_neg (Int32.not_le.mpr c)]
theorem unt_0 {i o : Nat} {y : Int32} {v : VV} (h : 500 < o) : untL i y (501 - o) o v = -1000006 := by
  rw [show 501 - o = 0 by omega]
  rfl
def oIfSent (v : VV) (x : Int32) : Int32 := match gxn 6 x with
  | none => -1000001
  | some i => (senC (vG (vW v 3 0) i 3 0) i 0).2.1 i 5 - (senC (vG (vW v 3 0) i 3 0) i 0).2.1 i 8
def oIfAll (v : VV) (n : Nat) (x : Int32) : Int32 := match gxn 6 x with
  | none => -1000001
  | some i => (pasC 0 v (lonC v n).toNatClampNeg).2.1 i 5 - (pasC 0 v (lonC v n).toNatClampNeg).2.1 i 8
theorem lonC_0 (v : VV) (n : Nat) : 0 ≤ lonC v n := by
  induction n with
  | zero => exact Int32.le_refl _
  | succ n ih =>
    unfold lonC
    split
    · rename_i h
      exact Int32.le_trans ih (Int32.le_of_lt h)
    · exact ih
def mosP (v : VV) : Nat → Int32 × Int32
  | 0 => (0, -1000006)
  | i + 1 => if (mosP v i).1 < v.2.1 i 5 - v.2.1 i 10 then (v.2.1 i 5 - v.2.1 i 10, nI i) else mosP v i
def mosL (v : VV) (n : Nat) : Int32 := (mosP v n).2
theorem mos_y {v : VV} {i : Nat} {a b : Int32} (h : (a, b) = mosP v i) (c : ¬ v.2.1 i 5 - v.2.1 i 10 ≤ a) : (v.2.1 i 5 - v.2.1 i 10, nI i) = mosP v (i + 1) := by
  unfold mosP
  rw [← h]
  exact (if_pos (Int32.not_le.mp c)).symm
theorem mos_n {v : VV} {i : Nat} {a b : Int32} (h : (a, b) = mosP v i) (c : v.2.1 i 5 - v.2.1 i 10 ≤ a) : (a, b) = mosP v (i + 1) := by
  unfold mosP
  rw [← h]
  exact (if_neg (Int32.not_lt.mpr c)).symm
def oWipe (c : CS) : Int32 × CS := (nI c.2.2.2.2.2.2, c.1, c.2.1, c.2.2.1, c.2.2.2.1, c.2.2.2.2.1, c.2.2.2.2.2.1, 0)
def oFault (c : CS) : Int32 × CS := ((match fauC c.2.2.2.2.2.1 c.2.2.2.2.2.2 60 0 with | none => -1000006 | some q => nI q), c)
def oUndo (c : CS) : Int32 × CS := match c.2.2.1 with
  | 0 => (-1000005, c)
  | k + 1 => (nI k, cpyC c.1 (c.2.1 k) (onN (c.2.1 k)), c.2.1, k, c.2.2.2)
def oSave (c : CS) (x : Int32) : Int32 × CS := if winC x 0 1 = 0 then (-1000002, c) else
  let i := x.toNatClampNeg
  (c.1.1 2, c.1, c.2.1, c.2.2.1, va_up c.2.2.2.1 i (cpyC (c.2.2.2.1 i) c.1 (onN c.1)), upd c.2.2.2.2.1 i (vp_nar .boolean 1), c.2.2.2.2.2)
def oRestore (c : CS) (x : Int32) : Int32 × CS := if winC x 0 1 = 0 then (-1000002, c) else
  let i := x.toNatClampNeg
  if c.2.2.2.2.1 i = 0 then (-1000005, c) else
  ((cpyC c.1 (c.2.2.2.1 i) (onN (c.2.2.2.1 i))).1 2, recX c (cpyC c.1 (c.2.2.2.1 i) (onN (c.2.2.2.1 i))))
set_option maxHeartbeats 4000000 in
set_option maxRecDepth 100000 in
/-- untilRound -/
theorem k_X7_untilRound (l : Launch) (g : GG) (A : Nat → Prop) (M0 : MM) (X : Nat) (now : VV) (hs : Nat → VV) (k : Nat) (sl : Nat → VV) (sv f : Nat → Int32) (L : Nat) (hR : RXS g A M0 M0 X (now, hs, k, sl, sv, f, L)) (hI : CI (now, hs, k, sl, sv, f, L)) (x y : Int32)  : Met l yX7_untilRound (Uw yX7_untilRound cX7_untilRound 5 (Option.some ClassFile.FieldType.int)) (rmD 3) (PreM [.ref (X), .int (x), .int (y)] g A M0) (PosI (fun r M1 => (∃ t, r = oUntil (cpyC t now (onN now)) x y) ∧ RXS g A M0 M1 X (now, hs, k, sl, sv, f, L)) g A) 0 0 A := by
  refine mk_Met (own := RX7) rfl rfl (by decide) (Nat.le_of_ble_eq_true rfl) ?_
  intro p e s m below meth c ls aa Q haa hQ hx hb hr hlk hml hown hts hK hM hS hl hnm
  obtain ⟨M, hMM⟩ : ∃ M, M = M0 := ⟨_, rfl⟩
  rw [← hMM] at hM hR
  have ht : ∀ w ∈ lw_good, w.before _ s = true := fun w h => hts w (List.mem_cons_of_mem _ h)
  have hl : lv_has ls 5 [(0, .ref (X)), (1, .int (x)), (2, .int (y))] := hl
  obtain ⟨π, hX⟩ := hR
  have hX : RX g A M0 M X π now hs k sl sv f L := ⟨hX.1, by rw [hMM]; exact FrX.rf⟩
  obtain ⟨⟨n, hn20, hn⟩, hk6, hhs, hsl, hL, hch⟩ := id hI
  have hN : onN now = n := onN_eq hn hn20
  obtain ⟨πt, t, hT⟩ := hX.tri
  refine lv_aload_n hx hb dX7_untilRound_0 rfl (lv_at hl 0 rfl) ?_
  refine m_get (ci := 7) (C := RX7) (T := TX7) (N := 7) hx hb ht ui_X7 hown hK hM hX.AX hX.obj rfl 1 (by decide) (ht _ uw_276) rfl dX7_untilRound_1 ?_
  refine lv_aload_n hx hb dX7_untilRound_4 rfl (lv_at hl 0 rfl) ?_
  refine m_get (ci := 7) (C := RX7) (T := TX7) (N := 7) hx hb ht ui_X7 hown hK hM hX.AX hX.obj rfl 0 (by decide) (ht _ uw_275) rfl dX7_untilRound_5 ?_
  refine m_callV (As := [.ref (X + 1)]) (rest := []) ⟨hx, hb, hml, hown, ht⟩ (k_X6_copyFrom l g A M (X + 36) πt t (X + 1) π now n hT hX.nowV (by omega) hn hn20) (cwV 1 ht (gU uw_524 uw_313 uw_314 uw_35 uw_315) rfl rfl rfl (by decide +kernel) ⟨by decide, by decide⟩) hK hM hS (m_recv hK hM hT.AW hT.W rfl) rfl hl.1 rfl (Nat.le_of_ble_eq_true rfl) dX7_untilRound_8 ⟨by decide, by decide⟩ (fun M H locs hp hM hS => ?_)
  obtain ⟨hV9, hF9⟩ := hp
  have hX := hX.setT hV9 hF9
  have hT := hV9
  have hnT : (cpyC t now n).1 3 = nI n := cpyC_3 hn
  refine lv_aload_n hx hb dX7_untilRound_11 rfl (lv_at hl 0 rfl) ?_
  refine m_get (ci := 7) (C := RX7) (T := TX7) (N := 7) hx hb ht ui_X7 hown hK hM hX.AX hX.obj rfl 1 (by decide) (ht _ uw_276) rfl dX7_untilRound_12 ?_
  refine lv_iload_n hx hb dX7_untilRound_15 rfl (lv_at hl 1 rfl) ?_
  rcases gxn_cases (n := 6) (by decide) x with ⟨e1, h1⟩ | ⟨i, hi, ex, e1⟩
  · refine m_callRQ (val := none) (w := .null) (rfl) (As := [.int (x)]) (rest := []) ⟨hx, hb, hml, hown, ht⟩ (k_X6_gaugeAt l g A M (X + 36) πt (cpyC t now n) (x) none hT e1) (cwV 1 ht (gU uw_345 uw_337 uw_338 uw_35 uw_339) rfl rfl rfl (by decide +kernel) ⟨by decide, by decide⟩) hK hM hS (m_recv hK hM hT.AW hT.W rfl) rfl hl.1 rfl (Nat.le_of_ble_eq_true rfl) dX7_untilRound_16 ⟨by decide, by decide⟩ (fun H locs hM hS => ?_)
    refine lv_astore_nN (lv' := [(3, .null), (0, .ref (X)), (1, .int (x)), (2, .int (y))]) hx hb dX7_untilRound_19 rfl hl (by decide) rfl (fun ls hl => ?_)
    refine lv_aload_nN hx hb dX7_untilRound_20 rfl (lv_at hl 0 rfl) ?_
    refine lv_ifnonnullN hx hb dX7_untilRound_21 ?_
    refine lv_ldc (v := (-1000001)) hx hb hown (ht _ uw_346) dX7_untilRound_24 ?_
    subst hQ
    exact m_zret hx hb hr (rfl) hlk hK hM hS dX7_untilRound_26 (⟨⟨t, by rw [hN]; unfold oUntil; rw [e1]⟩, π, hX⟩)
  · refine m_callRQ (val := some (X + 36 + 3 + 2 * i)) (w := .ref (X + 36 + 3 + 2 * i)) (rfl) (As := [.int (x)]) (rest := []) ⟨hx, hb, hml, hown, ht⟩ (k_X6_gaugeAt l g A M (X + 36) πt (cpyC t now n) (x) (some i) hT e1) (cwV 1 ht (gU uw_345 uw_337 uw_338 uw_35 uw_339) rfl rfl rfl (by decide +kernel) ⟨by decide, by decide⟩) hK hM hS (m_recv hK hM hT.AW hT.W rfl) rfl hl.1 rfl (Nat.le_of_ble_eq_true rfl) dX7_untilRound_16 ⟨by decide, by decide⟩ (fun H locs hM hS => ?_)
    refine lv_astore_n (lv' := [(3, .ref (X + 36 + 3 + 2 * i)), (0, .ref (X)), (1, .int (x)), (2, .int (y))]) hx hb dX7_untilRound_19 rfl hl (by decide) rfl (fun ls hl => ?_)
    refine lv_aload_n hx hb dX7_untilRound_20 rfl (lv_at hl 0 rfl) ?_
    refine lv_ifnonnull (tgt := 27) hx hb dX7_untilRound_21 (by decide) ?_
    refine lv_iload_n hx hb dX7_untilRound_27 rfl (lv_at hl 3 rfl) ?_
    refine lv_iconst (v := 0) hx hb dX7_untilRound_28 (by first | rfl | decide) ?_
    refine lv_bipush (v := 99) hx hb dX7_untilRound_29 (by first | rfl | decide) ?_
    refine m_callRSI (val := winC (y) (0) (99)) (As := [.int (y), .int (0), .int (99)]) (rest := []) ⟨hx, hb, hml, hown, ht⟩ (k_X7_within l g A M (y) (0) (99)) (cwS 3 ht (gUS uw_301 uw_302 uw_34 uw_303) rfl rfl rfl (by decide +kernel) ⟨by decide, by decide⟩) hK hM hS rfl hl.1 rfl (Nat.le_of_ble_eq_true rfl) dX7_untilRound_31 ⟨by decide, by decide⟩ (fun H locs hM hS => ?_)
    refine lv_if_ne (tgt := 40) hx hb dX7_untilRound_34 (by decide) (fun c_34 => ?_) (fun c_34 => ?_)
    · obtain ⟨w0, hw0⟩ : ∃ w0, w0 = untL i y 501 0 (cpyC t now n) := ⟨_, rfl⟩
      refine lv_iconst (v := 0) hx hb dX7_untilRound_40 (by first | rfl | decide) ?_
      refine lv_istore (lv' := [(4, .int (0)), (3, .ref (X + 36 + 3 + 2 * i)), (0, .ref (X)), (1, .int (x)), (2, .int (y))]) hx hb dX7_untilRound_41 hl (by decide) rfl (fun ls hl => ?_)
      have loop_43 : ∀ (z_43 : Nat) (o : Nat) (v9 : VV) (M : MM) (H : Heap) (locs : List Loc) (ls : Array Slot), 501 - o < z_43 → o ≤ 501 → untL i y (501 - o) o v9 = w0 → HD g A M H → RX g A M0 M X π now hs k sl sv f L → RepV g A M (X + 36) πt v9 → va_S A s.heap H locs → lv_has ls 5 [(4, .int (nI o)), (3, .ref (X + 36 + 3 + 2 * i)), (0, .ref (X)), (1, .int (x)), (2, .int (y))] → W p l e (rmD 3) s m aa below meth c H locs 0 0 Q (F0 m 43 ls []) := by
        intro z_43
        induction z_43 with
        | zero => intro o v9 M H locs ls hz ho hw; exact absurd hz (Nat.not_lt_zero _)
        | succ z_43 ih_43 =>
        intro o v9 M H locs ls hz ho hw hM hX hT hS hl
        refine lv_iload hx hb dX7_untilRound_43 (lv_at hl 0 rfl) ?_
        refine lv_sipush (v := 500) hx hb dX7_untilRound_45 (by first | rfl | decide) ?_
        refine lv_icmp_gt (tgt := 80) hx hb dX7_untilRound_48 (by decide) (fun c_48 => ?_) (fun c_48 => ?_)
        · refine lv_ldc (v := (-1000006)) hx hb hown (ht _ uw_471) dX7_untilRound_80 ?_
          subst hQ
          exact m_zret hx hb hr (rfl) hlk hK hM hS dX7_untilRound_82 (⟨⟨t, by rw [hN, unt_e e1 c_34, ← hw0, ← hw]; exact (unt_0 (nI_nlt_of (by decide) (by omega) c_48)).symm⟩, π, hX⟩)
        · have ho5 : o ≤ 500 := nI_le_of (by decide) (by omega) (Int32.not_lt.mp c_48)
          refine lv_aload_n hx hb dX7_untilRound_51 rfl (lv_at hl 1 rfl) ?_
          refine m_callRI (val := v9.2.1 i 5 - v9.2.1 i 10) (As := []) (rest := []) ⟨hx, hb, hml, hown, ht⟩ (k_X0_untold l g A M (X + 36) πt v9 i hT hi) (cwV 0 ht (gU uw_525 uw_526 uw_527 uw_36 uw_528) rfl rfl rfl (by decide +kernel) ⟨by decide, by decide⟩) hK hM hS (m_recv hK hM (hT.AG hi) (hT.G hi) rfl) rfl hl.1 rfl (Nat.le_of_ble_eq_true rfl) dX7_untilRound_52 ⟨by decide, by decide⟩ (fun H locs hM hS => ?_)
          refine lv_aload_n hx hb dX7_untilRound_55 rfl (lv_at hl 2 rfl) ?_
          refine m_get (ci := 7) (C := RX7) (T := TX7) (N := 7) hx hb ht ui_X7 hown hK hM hX.AX hX.obj rfl 1 (by decide) (ht _ uw_276) rfl dX7_untilRound_56 ?_
          refine rv_getW hx hb ht ui_X6 hown hK hM hT 0 (by decide) (ht _ uw_189) dX7_untilRound_59 ?_
          refine lv_icmp_lt (tgt := 68) hx hb dX7_untilRound_62 (by decide) (fun c_62 => ?_) (fun c_62 => ?_)
          · refine lv_aload_n hx hb dX7_untilRound_68 rfl (lv_at hl 1 rfl) ?_
            refine lv_iload_n hx hb dX7_untilRound_69 rfl (lv_at hl 4 rfl) ?_
            refine m_callI (As := [.int (y)]) (rest := []) ⟨hx, hb, hml, hown, ht⟩ (k_X0_catchRain l g A M (X + 36) πt v9 i y hT hi) (cwV 1 ht (gU uw_529 uw_361 uw_362 uw_36 uw_363) rfl rfl rfl (by decide +kernel) ⟨by decide, by decide⟩) hK hM hS (m_recv hK hM (hT.AG hi) (hT.G hi) rfl) rfl hl.1 rfl (Nat.le_of_ble_eq_true rfl) dX7_untilRound_70 ⟨by decide, by decide⟩ (fun r9 M H locs hp hM hS => ?_)
            obtain ⟨-, hV9, hF9⟩ := hp
            have hX := hX.setT hV9 hF9
            have hT := hV9
            refine lv_pop hx hb dX7_untilRound_73 rfl ?_
            refine lv_iinc (v := nI (o + 1)) (lv' := [(4, .int (nI (o + 1))), (3, .ref (X + 36 + 3 + 2 * i)), (0, .ref (X)), (1, .int (x)), (2, .int (y))]) hx hb dX7_untilRound_74 hl (k := 0) rfl (nI_1 _) (by decide) rfl (fun ls hl => ?_)
            refine lv_goto (tgt := 43) hx hb dX7_untilRound_77 (by decide) ?_
            exact ih_43 (o + 1) (catC v9 i y) _ _ _ _ (by omega) (by omega) (by rw [← hw]; exact unt_2 ho5 c_62) hM hX hT hS (lv_sub hl [0, 1, 2, 3, 4] rfl)
          · refine lv_iload hx hb dX7_untilRound_65 (lv_at hl 0 rfl) ?_
            subst hQ
            exact m_zret hx hb hr (rfl) hlk hK hM hS dX7_untilRound_67 (⟨⟨t, by rw [hN, unt_e e1 c_34, ← hw0, ← hw]; exact (unt_1 ho5 (Int32.not_lt.mp c_62)).symm⟩, π, hX⟩)
      exact loop_43 _ 0 (cpyC t now n) _ _ _ _ (Nat.lt_succ_self _) (by omega) hw0.symm hM hX hT hS (lv_sub hl [0, 1, 2, 3, 4] rfl)
    · refine lv_ldc (v := (-1000002)) hx hb hown (ht _ uw_340) dX7_untilRound_37 ?_
      subst hQ
      exact m_zret hx hb hr (rfl) hlk hK hM hS dX7_untilRound_39 (⟨⟨t, by rw [hN]; unfold oUntil; rw [e1]; exact (if_pos c_34).symm⟩, π, hX⟩)

set_option maxHeartbeats 4000000 in
set_option maxRecDepth 100000 in
/-- ifSent -/
theorem k_X7_ifSent (l : Launch) (g : GG) (A : Nat → Prop) (M0 : MM) (X : Nat) (now : VV) (hs : Nat → VV) (k : Nat) (sl : Nat → VV) (sv f : Nat → Int32) (L : Nat) (hR : RXS g A M0 M0 X (now, hs, k, sl, sv, f, L)) (hI : CI (now, hs, k, sl, sv, f, L)) (x : Int32)  : Met l yX7_ifSent (Uw yX7_ifSent cX7_ifSent 3 (Option.some ClassFile.FieldType.int)) (rmD 4) (PreM [.ref (X), .int (x)] g A M0) (PosI (fun r M1 => (∃ t, r = oIfSent (cpyC t now (onN now)) x) ∧ RXS g A M0 M1 X (now, hs, k, sl, sv, f, L)) g A) 0 0 A := by
  refine mk_Met (own := RX7) rfl rfl (by decide) (Nat.le_of_ble_eq_true rfl) ?_
  intro p e s m below meth c ls aa Q haa hQ hx hb hr hlk hml hown hts hK hM hS hl hnm
  obtain ⟨M, hMM⟩ : ∃ M, M = M0 := ⟨_, rfl⟩
  rw [← hMM] at hM hR
  have ht : ∀ w ∈ lw_good, w.before _ s = true := fun w h => hts w (List.mem_cons_of_mem _ h)
  have hl : lv_has ls 3 [(0, .ref (X)), (1, .int (x))] := hl
  obtain ⟨π, hX⟩ := hR
  have hX : RX g A M0 M X π now hs k sl sv f L := ⟨hX.1, by rw [hMM]; exact FrX.rf⟩
  obtain ⟨⟨n, hn20, hn⟩, hk6, hhs, hsl, hL, hch⟩ := id hI
  have hN : onN now = n := onN_eq hn hn20
  obtain ⟨πt, t, hT⟩ := hX.tri
  refine lv_aload_n hx hb dX7_ifSent_0 rfl (lv_at hl 0 rfl) ?_
  refine m_get (ci := 7) (C := RX7) (T := TX7) (N := 7) hx hb ht ui_X7 hown hK hM hX.AX hX.obj rfl 1 (by decide) (ht _ uw_276) rfl dX7_ifSent_1 ?_
  refine lv_aload_n hx hb dX7_ifSent_4 rfl (lv_at hl 0 rfl) ?_
  refine m_get (ci := 7) (C := RX7) (T := TX7) (N := 7) hx hb ht ui_X7 hown hK hM hX.AX hX.obj rfl 0 (by decide) (ht _ uw_275) rfl dX7_ifSent_5 ?_
  refine m_callV (As := [.ref (X + 1)]) (rest := []) ⟨hx, hb, hml, hown, ht⟩ (k_X6_copyFrom l g A M (X + 36) πt t (X + 1) π now n hT hX.nowV (by omega) hn hn20) (cwV 1 ht (gU uw_524 uw_313 uw_314 uw_35 uw_315) rfl rfl rfl (by decide +kernel) ⟨by decide, by decide⟩) hK hM hS (m_recv hK hM hT.AW hT.W rfl) rfl hl.1 rfl (Nat.le_of_ble_eq_true rfl) dX7_ifSent_8 ⟨by decide, by decide⟩ (fun M H locs hp hM hS => ?_)
  obtain ⟨hV9, hF9⟩ := hp
  have hX := hX.setT hV9 hF9
  have hT := hV9
  have hnT : (cpyC t now n).1 3 = nI n := cpyC_3 hn
  refine lv_aload_n hx hb dX7_ifSent_11 rfl (lv_at hl 0 rfl) ?_
  refine m_get (ci := 7) (C := RX7) (T := TX7) (N := 7) hx hb ht ui_X7 hown hK hM hX.AX hX.obj rfl 1 (by decide) (ht _ uw_276) rfl dX7_ifSent_12 ?_
  refine lv_iload_n hx hb dX7_ifSent_15 rfl (lv_at hl 1 rfl) ?_
  rcases gxn_cases (n := 6) (by decide) x with ⟨e1, h1⟩ | ⟨i, hi, ex, e1⟩
  · refine m_callRQ (val := none) (w := .null) (rfl) (As := [.int (x)]) (rest := []) ⟨hx, hb, hml, hown, ht⟩ (k_X6_gaugeAt l g A M (X + 36) πt (cpyC t now n) (x) none hT e1) (cwV 1 ht (gU uw_345 uw_337 uw_338 uw_35 uw_339) rfl rfl rfl (by decide +kernel) ⟨by decide, by decide⟩) hK hM hS (m_recv hK hM hT.AW hT.W rfl) rfl hl.1 rfl (Nat.le_of_ble_eq_true rfl) dX7_ifSent_16 ⟨by decide, by decide⟩ (fun H locs hM hS => ?_)
    refine lv_astore_nN (lv' := [(2, .null), (0, .ref (X)), (1, .int (x))]) hx hb dX7_ifSent_19 rfl hl (by decide) rfl (fun ls hl => ?_)
    refine lv_aload_nN hx hb dX7_ifSent_20 rfl (lv_at hl 0 rfl) ?_
    refine lv_ifnonnullN hx hb dX7_ifSent_21 ?_
    refine lv_ldc (v := (-1000001)) hx hb hown (ht _ uw_346) dX7_ifSent_24 ?_
    subst hQ
    exact m_zret hx hb hr (rfl) hlk hK hM hS dX7_ifSent_26 (⟨⟨t, by rw [hN]; unfold oIfSent; rw [e1]⟩, π, hX⟩)
  · refine m_callRQ (val := some (X + 36 + 3 + 2 * i)) (w := .ref (X + 36 + 3 + 2 * i)) (rfl) (As := [.int (x)]) (rest := []) ⟨hx, hb, hml, hown, ht⟩ (k_X6_gaugeAt l g A M (X + 36) πt (cpyC t now n) (x) (some i) hT e1) (cwV 1 ht (gU uw_345 uw_337 uw_338 uw_35 uw_339) rfl rfl rfl (by decide +kernel) ⟨by decide, by decide⟩) hK hM hS (m_recv hK hM hT.AW hT.W rfl) rfl hl.1 rfl (Nat.le_of_ble_eq_true rfl) dX7_ifSent_16 ⟨by decide, by decide⟩ (fun H locs hM hS => ?_)
    refine lv_astore_n (lv' := [(2, .ref (X + 36 + 3 + 2 * i)), (0, .ref (X)), (1, .int (x))]) hx hb dX7_ifSent_19 rfl hl (by decide) rfl (fun ls hl => ?_)
    refine lv_aload_n hx hb dX7_ifSent_20 rfl (lv_at hl 0 rfl) ?_
    refine lv_ifnonnull (tgt := 27) hx hb dX7_ifSent_21 (by decide) ?_
    refine lv_aload_n hx hb dX7_ifSent_27 rfl (lv_at hl 1 rfl) ?_
    refine m_get (ci := 7) (C := RX7) (T := TX7) (N := 7) hx hb ht ui_X7 hown hK hM hX.AX hX.obj rfl 1 (by decide) (ht _ uw_276) rfl dX7_ifSent_28 ?_
    refine lv_iconst (v := 0) hx hb dX7_ifSent_31 (by first | rfl | decide) ?_
    refine rv_putW hx hb ht ui_X6 hown hK hM hS hT FrV.rf 3 (by decide) (ht _ uw_195) dX7_ifSent_32 (fun M H locs hM hV9 hF9 hS => ?_)
    have hX := hX.setT hV9 hF9
    have hT := hV9
    refine lv_aload_n hx hb dX7_ifSent_35 rfl (lv_at hl 0 rfl) ?_
    refine lv_iconst (v := 0) hx hb dX7_ifSent_36 (by first | rfl | decide) ?_
    refine rv_putG hx hb ht ui_X0 hown hK hM hS hT FrV.rf hi 3 (by decide) (ht _ uw_125) dX7_ifSent_37 (fun M H locs hM hV9 hF9 hS => ?_)
    have hX := hX.setT hV9 hF9
    have hT := hV9
    refine lv_aload_n hx hb dX7_ifSent_40 rfl (lv_at hl 1 rfl) ?_
    refine m_get (ci := 7) (C := RX7) (T := TX7) (N := 7) hx hb ht ui_X7 hown hK hM hX.AX hX.obj rfl 1 (by decide) (ht _ uw_276) rfl dX7_ifSent_41 ?_
    refine lv_iload_n hx hb dX7_ifSent_44 rfl (lv_at hl 2 rfl) ?_
    refine m_callI (As := [.int (x)]) (rest := []) ⟨hx, hb, hml, hown, ht⟩ ((by have z := k_X6_sendRunner l g A M (X + 36) πt (vG (vW (cpyC t now n) 3 0) i 3 0) i hT 0 rfl (by omega) hi; rw [← ex] at z; exact z)) (cwV 1 ht (gU uw_404 uw_405 uw_406 uw_35 uw_407) rfl rfl rfl (by decide +kernel) ⟨by decide, by decide⟩) hK hM hS (m_recv hK hM hT.AW hT.W rfl) rfl hl.1 rfl (Nat.le_of_ble_eq_true rfl) dX7_ifSent_45 ⟨by decide, by decide⟩ (fun r9 M H locs hp hM hS => ?_)
    obtain ⟨-, ⟨πt, hV9⟩, hF9⟩ := hp.1 (by decide)
    have hX := hX.setT hV9 hF9
    have hT := hV9
    refine lv_pop hx hb dX7_ifSent_48 rfl ?_
    refine lv_aload_n hx hb dX7_ifSent_49 rfl (lv_at hl 0 rfl) ?_
    refine m_callRI (val := (senC (vG (vW (cpyC t now n) 3 0) i 3 0) i 0).2.1 i 5 - (senC (vG (vW (cpyC t now n) 3 0) i 3 0) i 0).2.1 i 8) (As := []) (rest := []) ⟨hx, hb, hml, hown, ht⟩ (k_X0_gap l g A M (X + 36) πt (senC (vG (vW (cpyC t now n) 3 0) i 3 0) i 0) i hT hi) (cwV 0 ht (gU uw_494 uw_495 uw_496 uw_36 uw_497) rfl rfl rfl (by decide +kernel) ⟨by decide, by decide⟩) hK hM hS (m_recv hK hM (hT.AG hi) (hT.G hi) rfl) rfl hl.1 rfl (Nat.le_of_ble_eq_true rfl) dX7_ifSent_50 ⟨by decide, by decide⟩ (fun H locs hM hS => ?_)
    subst hQ
    exact m_zret hx hb hr (rfl) hlk hK hM hS dX7_ifSent_53 (⟨⟨t, by rw [hN]; unfold oIfSent; rw [e1]⟩, π, hX⟩)

set_option maxHeartbeats 4000000 in
set_option maxRecDepth 100000 in
/-- ifAllCome -/
theorem k_X7_ifAllCome (l : Launch) (g : GG) (A : Nat → Prop) (M0 : MM) (X : Nat) (now : VV) (hs : Nat → VV) (k : Nat) (sl : Nat → VV) (sv f : Nat → Int32) (L : Nat) (hR : RXS g A M0 M0 X (now, hs, k, sl, sv, f, L)) (hI : CI (now, hs, k, sl, sv, f, L)) (x : Int32)  : Met l yX7_ifAllCome (Uw yX7_ifAllCome cX7_ifAllCome 3 (Option.some ClassFile.FieldType.int)) (rmD 5) (PreM [.ref (X), .int (x)] g A M0) (PosI (fun r M1 => (∃ t, r = oIfAll (cpyC t now (onN now)) (onN now) x) ∧ RXS g A M0 M1 X (now, hs, k, sl, sv, f, L)) g A) 0 0 A := by
  refine mk_Met (own := RX7) rfl rfl (by decide) (Nat.le_of_ble_eq_true rfl) ?_
  intro p e s m below meth c ls aa Q haa hQ hx hb hr hlk hml hown hts hK hM hS hl hnm
  obtain ⟨M, hMM⟩ : ∃ M, M = M0 := ⟨_, rfl⟩
  rw [← hMM] at hM hR
  have ht : ∀ w ∈ lw_good, w.before _ s = true := fun w h => hts w (List.mem_cons_of_mem _ h)
  have hl : lv_has ls 3 [(0, .ref (X)), (1, .int (x))] := hl
  obtain ⟨π, hX⟩ := hR
  have hX : RX g A M0 M X π now hs k sl sv f L := ⟨hX.1, by rw [hMM]; exact FrX.rf⟩
  obtain ⟨⟨n, hn20, hn⟩, hk6, hhs, hsl, hL, hch⟩ := id hI
  have hN : onN now = n := onN_eq hn hn20
  obtain ⟨πt, t, hT⟩ := hX.tri
  refine lv_aload_n hx hb dX7_ifAllCome_0 rfl (lv_at hl 0 rfl) ?_
  refine m_get (ci := 7) (C := RX7) (T := TX7) (N := 7) hx hb ht ui_X7 hown hK hM hX.AX hX.obj rfl 1 (by decide) (ht _ uw_276) rfl dX7_ifAllCome_1 ?_
  refine lv_aload_n hx hb dX7_ifAllCome_4 rfl (lv_at hl 0 rfl) ?_
  refine m_get (ci := 7) (C := RX7) (T := TX7) (N := 7) hx hb ht ui_X7 hown hK hM hX.AX hX.obj rfl 0 (by decide) (ht _ uw_275) rfl dX7_ifAllCome_5 ?_
  refine m_callV (As := [.ref (X + 1)]) (rest := []) ⟨hx, hb, hml, hown, ht⟩ (k_X6_copyFrom l g A M (X + 36) πt t (X + 1) π now n hT hX.nowV (by omega) hn hn20) (cwV 1 ht (gU uw_524 uw_313 uw_314 uw_35 uw_315) rfl rfl rfl (by decide +kernel) ⟨by decide, by decide⟩) hK hM hS (m_recv hK hM hT.AW hT.W rfl) rfl hl.1 rfl (Nat.le_of_ble_eq_true rfl) dX7_ifAllCome_8 ⟨by decide, by decide⟩ (fun M H locs hp hM hS => ?_)
  obtain ⟨hV9, hF9⟩ := hp
  have hX := hX.setT hV9 hF9
  have hT := hV9
  have hnT : (cpyC t now n).1 3 = nI n := cpyC_3 hn
  refine lv_aload_n hx hb dX7_ifAllCome_11 rfl (lv_at hl 0 rfl) ?_
  refine m_get (ci := 7) (C := RX7) (T := TX7) (N := 7) hx hb ht ui_X7 hown hK hM hX.AX hX.obj rfl 1 (by decide) (ht _ uw_276) rfl dX7_ifAllCome_12 ?_
  refine lv_iload_n hx hb dX7_ifAllCome_15 rfl (lv_at hl 1 rfl) ?_
  rcases gxn_cases (n := 6) (by decide) x with ⟨e1, h1⟩ | ⟨i, hi, ex, e1⟩
  · refine m_callRQ (val := none) (w := .null) (rfl) (As := [.int (x)]) (rest := []) ⟨hx, hb, hml, hown, ht⟩ (k_X6_gaugeAt l g A M (X + 36) πt (cpyC t now n) (x) none hT e1) (cwV 1 ht (gU uw_345 uw_337 uw_338 uw_35 uw_339) rfl rfl rfl (by decide +kernel) ⟨by decide, by decide⟩) hK hM hS (m_recv hK hM hT.AW hT.W rfl) rfl hl.1 rfl (Nat.le_of_ble_eq_true rfl) dX7_ifAllCome_16 ⟨by decide, by decide⟩ (fun H locs hM hS => ?_)
    refine lv_astore_nN (lv' := [(2, .null), (0, .ref (X)), (1, .int (x))]) hx hb dX7_ifAllCome_19 rfl hl (by decide) rfl (fun ls hl => ?_)
    refine lv_aload_nN hx hb dX7_ifAllCome_20 rfl (lv_at hl 0 rfl) ?_
    refine lv_ifnonnullN hx hb dX7_ifAllCome_21 ?_
    refine lv_ldc (v := (-1000001)) hx hb hown (ht _ uw_346) dX7_ifAllCome_24 ?_
    subst hQ
    exact m_zret hx hb hr (rfl) hlk hK hM hS dX7_ifAllCome_26 (⟨⟨t, by rw [hN]; unfold oIfAll; rw [e1]⟩, π, hX⟩)
  · refine m_callRQ (val := some (X + 36 + 3 + 2 * i)) (w := .ref (X + 36 + 3 + 2 * i)) (rfl) (As := [.int (x)]) (rest := []) ⟨hx, hb, hml, hown, ht⟩ (k_X6_gaugeAt l g A M (X + 36) πt (cpyC t now n) (x) (some i) hT e1) (cwV 1 ht (gU uw_345 uw_337 uw_338 uw_35 uw_339) rfl rfl rfl (by decide +kernel) ⟨by decide, by decide⟩) hK hM hS (m_recv hK hM hT.AW hT.W rfl) rfl hl.1 rfl (Nat.le_of_ble_eq_true rfl) dX7_ifAllCome_16 ⟨by decide, by decide⟩ (fun H locs hM hS => ?_)
    refine lv_astore_n (lv' := [(2, .ref (X + 36 + 3 + 2 * i)), (0, .ref (X)), (1, .int (x))]) hx hb dX7_ifAllCome_19 rfl hl (by decide) rfl (fun ls hl => ?_)
    refine lv_aload_n hx hb dX7_ifAllCome_20 rfl (lv_at hl 0 rfl) ?_
    refine lv_ifnonnull (tgt := 27) hx hb dX7_ifAllCome_21 (by decide) ?_
    refine lv_aload_n hx hb dX7_ifAllCome_27 rfl (lv_at hl 1 rfl) ?_
    refine m_get (ci := 7) (C := RX7) (T := TX7) (N := 7) hx hb ht ui_X7 hown hK hM hX.AX hX.obj rfl 1 (by decide) (ht _ uw_276) rfl dX7_ifAllCome_28 ?_
    refine lv_iconst (v := 0) hx hb dX7_ifAllCome_31 (by first | rfl | decide) ?_
    refine lv_aload_n hx hb dX7_ifAllCome_32 rfl (lv_at hl 1 rfl) ?_
    refine m_get (ci := 7) (C := RX7) (T := TX7) (N := 7) hx hb ht ui_X7 hown hK hM hX.AX hX.obj rfl 1 (by decide) (ht _ uw_276) rfl dX7_ifAllCome_33 ?_
    refine m_callRI (val := lonC (cpyC t now n) n) (As := []) (rest := [.int (0), .ref (X + 36)]) ⟨hx, hb, hml, hown, ht⟩ (k_X6_longestWay l g A M (X + 36) πt (cpyC t now n) hT n hnT hn20) (cwV 0 ht (gU uw_538 uw_539 uw_540 uw_35 uw_541) rfl rfl rfl (by decide +kernel) ⟨by decide, by decide⟩) hK hM hS (m_recv hK hM hT.AW hT.W rfl) rfl hl.1 rfl (Nat.le_of_ble_eq_true rfl) dX7_ifAllCome_36 ⟨by decide, by decide⟩ (fun H locs hM hS => ?_)
    obtain ⟨q, hq, eq⟩ := nI_of (Int32.not_lt.mpr (lonC_0 (cpyC t now n) n))
    refine m_callI (As := [.int (0), .int (lonC (cpyC t now n) n)]) (rest := []) ⟨hx, hb, hml, hown, ht⟩ ((by have z := k_X6_passHours l g A M (X + 36) πt (cpyC t now n) 0 q hT ⟨n, hn20, hnT⟩ hq; rw [← eq] at z; exact z)) (cwV 2 ht (gU uw_356 uw_357 uw_358 uw_35 uw_359) rfl rfl rfl (by decide +kernel) ⟨by decide, by decide⟩) hK hM hS (m_recv hK hM hT.AW hT.W rfl) rfl hl.1 rfl (Nat.le_of_ble_eq_true rfl) dX7_ifAllCome_39 ⟨by decide, by decide⟩ (fun r9 M H locs hp hM hS => ?_)
    obtain ⟨-, ⟨πt, hV9⟩, hF9⟩ := hp
    have hX := hX.setT hV9 hF9
    have hT := hV9
    refine lv_pop hx hb dX7_ifAllCome_42 rfl ?_
    refine lv_aload_n hx hb dX7_ifAllCome_43 rfl (lv_at hl 0 rfl) ?_
    refine m_callRI (val := (pasC 0 (cpyC t now n) q).2.1 i 5 - (pasC 0 (cpyC t now n) q).2.1 i 8) (As := []) (rest := []) ⟨hx, hb, hml, hown, ht⟩ (k_X0_gap l g A M (X + 36) πt (pasC 0 (cpyC t now n) q) i hT hi) (cwV 0 ht (gU uw_494 uw_495 uw_496 uw_36 uw_497) rfl rfl rfl (by decide +kernel) ⟨by decide, by decide⟩) hK hM hS (m_recv hK hM (hT.AG hi) (hT.G hi) rfl) rfl hl.1 rfl (Nat.le_of_ble_eq_true rfl) dX7_ifAllCome_44 ⟨by decide, by decide⟩ (fun H locs hM hS => ?_)
    subst hQ
    exact m_zret hx hb hr (rfl) hlk hK hM hS dX7_ifAllCome_47 (⟨⟨t, by rw [hN]; unfold oIfAll; rw [e1, eq, nI_clamp hq]⟩, π, hX⟩)

set_option maxHeartbeats 4000000 in
set_option maxRecDepth 100000 in
/-- mostUntold -/
theorem k_X7_mostUntold (l : Launch) (g : GG) (A : Nat → Prop) (M0 : MM) (X : Nat) (now : VV) (hs : Nat → VV) (k : Nat) (sl : Nat → VV) (sv f : Nat → Int32) (L : Nat) (hR : RXS g A M0 M0 X (now, hs, k, sl, sv, f, L)) (hI : CI (now, hs, k, sl, sv, f, L))  : Met l yX7_mostUntold (Uw yX7_mostUntold cX7_mostUntold 5 (Option.some ClassFile.FieldType.int)) (rmD 1) (PreM [.ref (X)] g A M0) (PosI (fun r M1 => r = mosL now 6 ∧ M1 = M0) g A) 0 0 A := by
  refine mk_Met (own := RX7) rfl rfl (by decide) (Nat.le_of_ble_eq_true rfl) ?_
  intro p e s m below meth c ls aa Q haa hQ hx hb hr hlk hml hown hts hK hM hS hl hnm
  obtain ⟨M, hMM⟩ : ∃ M, M = M0 := ⟨_, rfl⟩
  rw [← hMM] at hM hR
  have ht : ∀ w ∈ lw_good, w.before _ s = true := fun w h => hts w (List.mem_cons_of_mem _ h)
  have hl : lv_has ls 5 [(0, .ref (X))] := hl
  obtain ⟨π, hX⟩ := hR
  have hX : RX g A M0 M X π now hs k sl sv f L := ⟨hX.1, by rw [hMM]; exact FrX.rf⟩
  obtain ⟨⟨n, hn20, hn⟩, hk6, hhs, hsl, hL, hch⟩ := id hI
  have hN : onN now = n := onN_eq hn hn20
  refine lv_iconst (v := 0) hx hb dX7_mostUntold_0 (by first | rfl | decide) ?_
  refine lv_istore_n (lv' := [(1, .int (0)), (0, .ref (X))]) hx hb dX7_mostUntold_1 rfl hl (by decide) rfl (fun ls hl => ?_)
  refine lv_ldc (v := (-1000006)) hx hb hown (ht _ uw_471) dX7_mostUntold_2 ?_
  refine lv_istore_n (lv' := [(2, .int ((-1000006))), (1, .int (0)), (0, .ref (X))]) hx hb dX7_mostUntold_4 rfl hl (by decide) rfl (fun ls hl => ?_)
  refine lv_iconst (v := 0) hx hb dX7_mostUntold_5 (by first | rfl | decide) ?_
  refine lv_istore_n (lv' := [(3, .int (0)), (2, .int ((-1000006))), (1, .int (0)), (0, .ref (X))]) hx hb dX7_mostUntold_6 rfl hl (by decide) rfl (fun ls hl => ?_)
  have loop_7 : ∀ (z_7 : Nat) (i : Nat) (a : Int32) (b : Int32) (H : Heap) (locs : List Loc) (ls : Array Slot), 6 - i < z_7 → i ≤ 6 → (a, b) = mosP now i → HD g A M H → va_S A s.heap H locs → lv_has ls 5 [(3, .int (nI i)), (2, .int (b)), (1, .int (a)), (0, .ref (X))] → W p l e (rmD 1) s m aa below meth c H locs 0 0 Q (F0 m 7 ls []) := by
    intro z_7
    induction z_7 with
    | zero => intro i a b H locs ls hz hi ha; exact absurd hz (Nat.not_lt_zero _)
    | succ z_7 ih_7 =>
    intro i a b H locs ls hz hi ha hM  hS hl
    refine lv_iload_n hx hb dX7_mostUntold_7 rfl (lv_at hl 0 rfl) ?_
    refine lv_bipush (v := 6) hx hb dX7_mostUntold_8 (by first | rfl | decide) ?_
    refine lv_icmp_ge (tgt := 44) hx hb dX7_mostUntold_10 (by decide) (fun c_10 => ?_) (fun c_10 => ?_)
    · have hi6 : i = 6 := Nat.le_antisymm hi (nI_le_of (by omega) (by decide) c_10)
      subst hi6
      refine lv_iload_n hx hb dX7_mostUntold_44 rfl (lv_at hl 1 rfl) ?_
      subst hQ
      exact m_zret hx hb hr (rfl) hlk hK hM hS dX7_mostUntold_45 (⟨by unfold mosL; rw [← ha], hMM⟩)
    · have hi6 : i < 6 := nI_lt_of (by omega) (by decide) c_10
      refine lv_aload_n hx hb dX7_mostUntold_13 rfl (lv_at hl 3 rfl) ?_
      refine m_get (ci := 7) (C := RX7) (T := TX7) (N := 7) hx hb ht ui_X7 hown hK hM hX.AX hX.obj rfl 0 (by decide) (ht _ uw_275) rfl dX7_mostUntold_14 ?_
      refine rv_getga hx hb ht ui_X6 hown hK hM hX.nowV (ht _ uw_197) dX7_mostUntold_17 ?_
      refine lv_iload_n hx hb dX7_mostUntold_20 rfl (lv_at hl 0 rfl) ?_
      refine rv_aldG hx hb hK hM hX.nowV (hi6) dX7_mostUntold_21 ?_
      refine m_callRI (val := now.2.1 i 5 - now.2.1 i 10) (As := []) (rest := []) ⟨hx, hb, hml, hown, ht⟩ (k_X0_untold l g A M (X + 1) π now i hX.nowV hi6) (cwV 0 ht (gU uw_525 uw_526 uw_527 uw_36 uw_528) rfl rfl rfl (by decide +kernel) ⟨by decide, by decide⟩) hK hM hS (m_recv hK hM (hX.nowV.AG hi6) (hX.nowV.G hi6) rfl) rfl hl.1 rfl (Nat.le_of_ble_eq_true rfl) dX7_mostUntold_22 ⟨by decide, by decide⟩ (fun H locs hM hS => ?_)
      refine lv_istore (lv' := [(4, .int (now.2.1 i 5 - now.2.1 i 10)), (3, .int (nI i)), (2, .int (b)), (1, .int (a)), (0, .ref (X))]) hx hb dX7_mostUntold_25 hl (by decide) rfl (fun ls hl => ?_)
      refine lv_iload hx hb dX7_mostUntold_27 (lv_at hl 0 rfl) ?_
      refine lv_iload_n hx hb dX7_mostUntold_29 rfl (lv_at hl 3 rfl) ?_
      refine lv_icmp_le (tgt := 38) hx hb dX7_mostUntold_30 (by decide) (fun c_30 => ?_) (fun c_30 => ?_)
      · refine lv_iinc (v := nI (i + 1)) (lv' := [(3, .int (nI (i + 1))), (4, .int (now.2.1 i 5 - now.2.1 i 10)), (2, .int (b)), (1, .int (a)), (0, .ref (X))]) hx hb dX7_mostUntold_38 hl (k := 1) rfl (nI_1 _) (by decide) rfl (fun ls hl => ?_)
        refine lv_goto (tgt := 7) hx hb dX7_mostUntold_41 (by decide) ?_
        exact ih_7 (i + 1) a b _ _ _ (by omega) (by omega) (by exact mos_n ha c_30) hM hS (lv_sub hl [0, 2, 3, 4] rfl)
      · refine lv_iload hx hb dX7_mostUntold_33 (lv_at hl 0 rfl) ?_
        refine lv_istore_n (lv' := [(1, .int (now.2.1 i 5 - now.2.1 i 10)), (4, .int (now.2.1 i 5 - now.2.1 i 10)), (3, .int (nI i)), (2, .int (b)), (0, .ref (X))]) hx hb dX7_mostUntold_35 rfl hl (by decide) rfl (fun ls hl => ?_)
        refine lv_iload_n hx hb dX7_mostUntold_36 rfl (lv_at hl 2 rfl) ?_
        refine lv_istore_n (lv' := [(2, .int (nI i)), (1, .int (now.2.1 i 5 - now.2.1 i 10)), (4, .int (now.2.1 i 5 - now.2.1 i 10)), (3, .int (nI i)), (0, .ref (X))]) hx hb dX7_mostUntold_37 rfl hl (by decide) rfl (fun ls hl => ?_)
        refine lv_iinc (v := nI (i + 1)) (lv' := [(3, .int (nI (i + 1))), (2, .int (nI i)), (1, .int (now.2.1 i 5 - now.2.1 i 10)), (4, .int (now.2.1 i 5 - now.2.1 i 10)), (0, .ref (X))]) hx hb dX7_mostUntold_38 hl (k := 3) rfl (nI_1 _) (by decide) rfl (fun ls hl => ?_)
        refine lv_goto (tgt := 7) hx hb dX7_mostUntold_41 (by decide) ?_
        exact ih_7 (i + 1) (now.2.1 i 5 - now.2.1 i 10) (nI i) _ _ _ (by omega) (by omega) (by exact mos_y ha c_30) hM hS (lv_sub hl [0, 1, 2, 4] rfl)
  exact loop_7 _ 0 0 (-1000006) _ _ _ (Nat.lt_succ_self _) (by omega) rfl hM hS (lv_sub hl [0, 1, 2, 3] rfl)

set_option maxHeartbeats 4000000 in
set_option maxRecDepth 100000 in
/-- undo -/
theorem k_X7_undo (l : Launch) (g : GG) (A : Nat → Prop) (M0 : MM) (X : Nat) (now : VV) (hs : Nat → VV) (k : Nat) (sl : Nat → VV) (sv f : Nat → Int32) (L : Nat) (hR : RXS g A M0 M0 X (now, hs, k, sl, sv, f, L)) (hI : CI (now, hs, k, sl, sv, f, L))  : Met l yX7_undo (Uw yX7_undo cX7_undo 1 (Option.some ClassFile.FieldType.int)) (rmD 4) (PreM [.ref (X)] g A M0) (PosI (fun r M1 => r = (oUndo (now, hs, k, sl, sv, f, L)).1 ∧ RXS g A M0 M1 X (oUndo (now, hs, k, sl, sv, f, L)).2) g A) 0 0 A := by
  refine mk_Met (own := RX7) rfl rfl (by decide) (Nat.le_of_ble_eq_true rfl) ?_
  intro p e s m below meth c ls aa Q haa hQ hx hb hr hlk hml hown hts hK hM hS hl hnm
  obtain ⟨M, hMM⟩ : ∃ M, M = M0 := ⟨_, rfl⟩
  rw [← hMM] at hM hR
  have ht : ∀ w ∈ lw_good, w.before _ s = true := fun w h => hts w (List.mem_cons_of_mem _ h)
  have hl : lv_has ls 1 [(0, .ref (X))] := hl
  obtain ⟨π, hX⟩ := hR
  have hX : RX g A M0 M X π now hs k sl sv f L := ⟨hX.1, by rw [hMM]; exact FrX.rf⟩
  obtain ⟨⟨n, hn20, hn⟩, hk6, hhs, hsl, hL, hch⟩ := id hI
  have hN : onN now = n := onN_eq hn hn20
  by_cases hk0 : k = 0
  · subst hk0
    refine lv_aload_n hx hb dX7_undo_0 rfl (lv_at hl 0 rfl) ?_
    obtain ⟨ρ8, πs8, hH8⟩ := hX.his
    refine m_get (ci := 7) (C := RX7) (T := TX7) (N := 7) hx hb ht ui_X7 hown hK hM hX.AX hX.obj rfl 2 (by decide) (ht _ uw_277) rfl dX7_undo_1 ?_
    refine lv_aload_n hx hb dX7_undo_4 rfl (lv_at hl 0 rfl) ?_
    refine m_get (ci := 7) (C := RX7) (T := TX7) (N := 7) hx hb ht ui_X7 hown hK hM hX.AX hX.obj rfl 0 (by decide) (ht _ uw_275) rfl dX7_undo_5 ?_
    refine m_callI (As := [.ref (X + 1)]) (rest := []) ⟨hx, hb, hml, hown, ht⟩ (k_X1_takeBack_0 l g A M (X + 71) ρ8 πs8 hs (nI 0) hH8 (X + 1) rfl) (cwV 1 ht (gU uw_575 uw_576 uw_577 uw_39 uw_578) rfl rfl rfl (by decide +kernel) ⟨by decide, by decide⟩) hK hM hS (m_recv hK hM hH8.1 hH8.2.2.2.1 rfl) rfl hl.1 rfl (Nat.le_of_ble_eq_true rfl) dX7_undo_8 ⟨by decide, by decide⟩ (fun r9 M H locs hp hM hS => ?_)
    obtain ⟨e9, e8⟩ := hp
    subst e9
    rw [e8] at hM
    refine lv_if_eq (tgt := 24) hx hb dX7_undo_11 (by decide) (fun c_11 => ?_) (fun c_11 => absurd (rfl) c_11)
    refine lv_ldc (v := (-1000005)) hx hb hown (ht _ uw_579) dX7_undo_24 ?_
    subst hQ
    exact m_zret hx hb hr (rfl) hlk hK hM hS dX7_undo_26 (⟨rfl, π, hX⟩)
  · obtain ⟨k9, rfl⟩ : ∃ k9, k = k9 + 1 := ⟨k - 1, by omega⟩
    obtain ⟨hn9, hn29⟩ := (hhs k9 (by have z : k9 + 1 ≤ 6 := hk6; omega)).eq
    refine lv_aload_n hx hb dX7_undo_0 rfl (lv_at hl 0 rfl) ?_
    obtain ⟨ρ8, πs8, hH8⟩ := hX.his
    refine m_get (ci := 7) (C := RX7) (T := TX7) (N := 7) hx hb ht ui_X7 hown hK hM hX.AX hX.obj rfl 2 (by decide) (ht _ uw_277) rfl dX7_undo_1 ?_
    refine lv_aload_n hx hb dX7_undo_4 rfl (lv_at hl 0 rfl) ?_
    refine m_get (ci := 7) (C := RX7) (T := TX7) (N := 7) hx hb ht ui_X7 hown hK hM hX.AX hX.obj rfl 0 (by decide) (ht _ uw_275) rfl dX7_undo_5 ?_
    refine m_callI (As := [.ref (X + 1)]) (rest := []) ⟨hx, hb, hml, hown, ht⟩ (k_X1_takeBack l g A M (X + 71) ρ8 πs8 hs (nI (k9 + 1)) hH8 (X + 1) π now (onN (hs k9)) hX.nowV (by omega) k9 rfl hk6 hn9 hn29) (cwV 1 ht (gU uw_575 uw_576 uw_577 uw_39 uw_578) rfl rfl rfl (by decide +kernel) ⟨by decide, by decide⟩) hK hM hS (m_recv hK hM hH8.1 hH8.2.2.2.1 rfl) rfl hl.1 rfl (Nat.le_of_ble_eq_true rfl) dX7_undo_8 ⟨by decide, by decide⟩ (fun r9 M H locs hp hM hS => ?_)
    obtain ⟨e9, hH9, hV9, hF9⟩ := hp
    subst e9
    have hX := hX.setHN hH9 hV9 hF9
    refine lv_if_eq (tgt := 24) hx hb dX7_undo_11 (by decide) (fun c_11 => absurd c_11 (by decide)) (fun c_11 => ?_)
    refine lv_aload_n hx hb dX7_undo_14 rfl (lv_at hl 0 rfl) ?_
    refine m_get (ci := 7) (C := RX7) (T := TX7) (N := 7) hx hb ht ui_X7 hown hK hM hX.AX hX.obj rfl 2 (by decide) (ht _ uw_277) rfl dX7_undo_15 ?_
    obtain ⟨ρ9, πs9, hH9⟩ := hX.his
    refine rh_getSz hx hb ht ui_X1 hown hK hM hH9 (ht _ uw_223) dX7_undo_18 ?_
    refine lv_goto (tgt := 26) hx hb dX7_undo_21 (by decide) ?_
    subst hQ
    exact m_zret hx hb hr (rfl) hlk hK hM hS dX7_undo_26 (⟨rfl, π, hX⟩)
end
section
def putF (x : Int64) (q : Nat) (f : Nat → Int32) (L : Nat) : Nat → Nat → Int32
  | 0 => f
  | b + 1 => va_up (putF x q f L b) (L + b) (vp_nar .char ((codC x (nI (q - 1 - b))).toUInt32 % 65536).toInt32)
theorem putF_s {x : Int64} {q : Nat} {f : Nat → Int32} {L b r : Nat} (h : r = q - 1 - b) : putF x q f L (b + 1) = va_up (putF x q f L b) (L + b) (vp_nar .char ((codC x (nI r)).toUInt32 % 65536).toInt32) := by
  subst h
  rfl
def oPut (c : CS) (x : Int64) : Int32 × CS := if chC x = 0 then (-1000002, c) else if ¬ nI c.2.2.2.2.2.2 + chC x ≤ 60 then (-1000004, c) else
  (nI (c.2.2.2.2.2.2 + (chC x).toNatClampNeg), c.1, c.2.1, c.2.2.1, c.2.2.2.1, c.2.2.2.2.1, putF x (chC x).toNatClampNeg c.2.2.2.2.2.1 c.2.2.2.2.2.2 (chC x).toNatClampNeg, c.2.2.2.2.2.2 + (chC x).toNatClampNeg)
theorem chC_q (x : Int64) : ∃ q, q ≤ 8 ∧ chC x = nI q := by
  unfold chC
  split
  · exact ⟨0, by omega, rfl⟩
  · rename_i p h
    have := chW_le x 8 0 p h
    split
    · exact ⟨p, by omega, rfl⟩
    · exact ⟨0, by omega, rfl⟩
def obeS (v : VV) (i : Nat) : Int32 × VV := if onN v < 20 then (if whC (senC v i (onN v)) ((senC v i (onN v)).2.1 i 5) < 0 then 0 else 1, senC v i (onN v)) else (0, v)
theorem obeS_a {v : VV} {i n : Nat} (hN : onN v = n) (h : n < 20) : obeS v i = (if whC (senC v i n) ((senC v i n).2.1 i 5) < 0 then 0 else 1, senC v i n) := by unfold obeS; rw [hN, if_pos h]
theorem obeS_b {v : VV} {i n : Nat} (hN : onN v = n) (h : ¬ n < 20) : obeS v i = (0, v) := by unfold obeS; rw [hN, if_neg h]
def obeR (v : VV) (x y : Int32) : Int32 × VV := if ¬ v.1 2 + y ≤ 9999 then (0, v) else (1, pasC x v y.toNatClampNeg)
def obeV (v : VV) (o : Bool × Nat × Int32 × Int32 × Int32) : Int32 × VV := if o.2.2.1 = 115 then obeS v o.2.2.2.1.toNatClampNeg else obeR v o.2.2.2.1 o.2.2.2.2
def runL (f : Nat → Int32) (L : Nat) : Nat → Nat → Int32 → VV → Int32 × VV
  | 0, _, d, v => (d, v)
  | z + 1, q, d, v => if (ordC f L q).1 = true then runL f L z ((ordC f L q).2.1 + 1) (if (obeV v (ordC f L q)).1 = 0 then d else d + 1) (obeV v (ordC f L q)).2 else (d, v)
def oRun (c : CS) : Int32 × CS := match fauC c.2.2.2.2.2.1 c.2.2.2.2.2.2 60 0 with
  | some _ => (-1000003, c)
  | none =>
    let r := runL c.2.2.2.2.2.1 c.2.2.2.2.2.2 60 0 0 c.1
    (r.1, r.2, recV c.2.2.1 c.2.1 c.1 (onN c.1), recK c.2.2.1, c.2.2.2.1, c.2.2.2.2.1, c.2.2.2.2.2.1, 0)
theorem oRun_b {c : CS} (h : ¬ fauC c.2.2.2.2.2.1 c.2.2.2.2.2.2 60 0 = none) : oRun c = (-1000003, c) := by
  unfold oRun
  split
  · rfl
  · rename_i z; exact absurd z h
theorem oRun_y {c : CS} (h : fauC c.2.2.2.2.2.1 c.2.2.2.2.2.2 60 0 = none) {d : Int32} {v : VV} (h2 : runL c.2.2.2.2.2.1 c.2.2.2.2.2.2 60 0 0 c.1 = (d, v)) : oRun c = (d, v, recV c.2.2.1 c.2.1 c.1 (onN c.1), recK c.2.2.1, c.2.2.2.1, c.2.2.2.2.1, c.2.2.2.2.2.1, 0) := by
  unfold oRun
  rw [h, h2]
theorem fauC_b (f : Nat → Int32) (L : Nat) : ∀ (z q r : Nat), fauC f L z q = some r → r ≤ q + 7 * z + 7 := by
  intro z
  induction z with
  | zero => intro q r h; cases h; omega
  | succ z ih =>
    intro q r h
    have h6 := ordC_q f L q
    unfold fauC at h
    split at h
    · split at h
      · cases h
      · split at h
        · have := ih _ _ h; omega
        · cases h; omega
    · cases h; omega
theorem fau_none {f : Nat → Int32} {L : Nat} (h : (match fauC f L 60 0 with | none => -1000006 | some q => nI q) = (-1000006 : Int32)) : fauC f L 60 0 = none := by
  cases e : fauC f L 60 0 with
  | none => rfl
  | some q =>
    rw [e] at h
    have hb := fauC_b f L 60 0 q e
    exfalso
    have h2 : ¬ nI q < 0 := nI_pos (by omega)
    rw [show nI q = -1000006 from h] at h2
    exact h2 (by decide)
theorem run_s {f : Nat → Int32} {L o q : Nat} {d : Int32} {v : VV} (ho : o < 60) : runL f L (60 - o) q d v = if (ordC f L q).1 = true then runL f L (60 - (o + 1)) ((ordC f L q).2.1 + 1) (if (obeV v (ordC f L q)).1 = 0 then d else d + 1) (obeV v (ordC f L q)).2 else (d, v) := by
  rw [show 60 - o = (60 - (o + 1)) + 1 by omega]
  rfl
theorem run_0 {f : Nat → Int32} {L o q : Nat} {d : Int32} {v : VV} (h : 60 ≤ o) (h2 : o ≤ 60) : runL f L (60 - o) q d v = (d, v) := by
  rw [show 60 - o = 0 by omega]
  rfl
theorem run_1 {f : Nat → Int32} {L o q : Nat} {d : Int32} {v : VV} (h : o < 60) (ok : ¬ (ordC f L q).1 = true) : runL f L (60 - o) q d v = (d, v) := by rw [run_s h, if_neg ok]
theorem run_y {f : Nat → Int32} {L o q : Nat} {d : Int32} {v : VV} (h : o < 60) (ok : (ordC f L q).1 = true) (c : ¬ (obeV v (ordC f L q)).1 = 0) : runL f L (60 - (o + 1)) ((ordC f L q).2.1 + 1) (d + 1) (obeV v (ordC f L q)).2 = runL f L (60 - o) q d v := by rw [run_s h, if_pos ok, if_neg c]
theorem run_n {f : Nat → Int32} {L o q : Nat} {d : Int32} {v : VV} (h : o < 60) (ok : (ordC f L q).1 = true) (c : (obeV v (ordC f L q)).1 = 0) : runL f L (60 - (o + 1)) ((ordC f L q).2.1 + 1) d (obeV v (ordC f L q)).2 = runL f L (60 - o) q d v := by rw [run_s h, if_pos ok, if_pos c]
theorem rnC_rng {f : Nat → Int32} {L q : Nat} {lo hi : Int32} (h : 0 ≤ (rnC f L q lo hi).1) (hh : 0 ≤ hi) : (rnC f L q lo hi).1 ≤ hi := by
  unfold rnC at h ⊢
  split
  · exact Int32.le_trans (show (-1 : Int32) ≤ 0 by decide) hh
  · rename_i c1
    split
    · exact Int32.not_lt.mp (fun z => c1 (Or.inr z))
    · split
      · exact Int32.le_trans (show (-1 : Int32) ≤ 0 by decide) hh
      · rename_i c3
        exact Int32.not_lt.mp c3
theorem ord_cases {f : Nat → Int32} {L q : Nat} (ok : (ordC f L q).1 = true) : ((ordC f L q).2.2.1 = 115 ∧ ∃ i, i < 6 ∧ (ordC f L q).2.2.2.1 = nI i) ∨ ((ordC f L q).2.2.1 = 114 ∧ ∃ i, i ≤ 24 ∧ (ordC f L q).2.2.2.2 = nI i) := by
  by_cases h1 : sgC f L q = 114
  · right
    rw [ord_r h1] at ok ⊢
    refine ⟨rfl, ?_⟩
    unfold raiC at ok ⊢
    split at ok
    · cases ok
    · rename_i c
      rw [if_neg c]
      have h0 := of_decide_eq_true ok
      obtain ⟨j, hj, e, -⟩ := clampQ (hi := 24) (n := 24) h0 (rnC_rng h0 (by decide)) rfl (by decide)
      exact ⟨j, hj, e⟩
  · by_cases h2 : sgC f L q = 115
    · left
      rw [ord_s h2] at ok ⊢
      have h0 := of_decide_eq_true ok
      obtain ⟨j, hj, e, -⟩ := clampQ (hi := 5) (n := 5) h0 (rnC_rng h0 (by decide)) rfl (by decide)
      exact ⟨rfl, j, by omega, e⟩
    · rw [ord_n h1 h2] at ok
      cases ok
theorem obeV_s {v : VV} {o : Bool × Nat × Int32 × Int32 × Int32} {i : Nat} (h : o.2.2.1 = 115) (h2 : o.2.2.2.1 = nI i) (hi : i < 6) : obeV v o = obeS v i := by
  unfold obeV
  rw [if_pos h, h2, nI_clamp (by omega)]
theorem obeV_r {v : VV} {o : Bool × Nat × Int32 × Int32 × Int32} (h : o.2.2.1 = 114) : obeV v o = obeR v o.2.2.2.1 o.2.2.2.2 := by
  unfold obeV
  rw [if_neg (by rw [h]; decide)]
theorem seR_3 (v : VV) (i n : Nat) : (seR v i n).1 3 = nI (n + 1) := by simp [seR, va_up, nI_1]
theorem senC_on {v : VV} {i n : Nat} (h : n < 20) : OnW (senC v i n) := by
  unfold senC
  split
  · exact ⟨n, by omega, by rw [rmvC_3]; rfl⟩
  · exact ⟨n + 1, by omega, seR_3 v i n⟩
theorem obeV_on {v : VV} {o : Bool × Nat × Int32 × Int32 × Int32} (h : OnW v) : OnW (obeV v o).2 := by
  unfold obeV
  split
  · unfold obeS
    split
    · rename_i z; exact senC_on z
    · exact h
  · unfold obeR
    split
    · exact h
    · exact pasC_on h _
theorem recK_le {k : Nat} (h : k ≤ 6) : recK k ≤ 6 := by
  unfold recK
  split <;> omega
theorem recV_on {k : Nat} {hs : Nat → VV} {w : VV} {n : Nat} (h : ∀ i, i < 6 → OnW (hs i)) (hw : OnW w) (hk : k ≤ 6) : ∀ i, i < 6 → OnW (recV k hs w n i) := by
  intro i hi
  unfold recV
  have h0 : ∀ j, j < 6 → OnW (rotN 0 6 hs j) := by
    intro j hj
    rw [rot_I]
    exact h _ (by unfold rotI; split; omega; split <;> omega)
  obtain ⟨m, hm, e⟩ := hw
  by_cases hk6 : k = 6
  · rw [if_pos hk6, if_pos hk6]
    by_cases hi5 : i = 5
    · rw [hi5, va_up_self]; exact ⟨m, hm, e⟩
    · rw [va_up_ne _ _ hi5]; exact h0 i hi
  · rw [if_neg hk6, if_neg hk6]
    by_cases hik : i = k
    · rw [hik, va_up_self]; exact ⟨m, hm, e⟩
    · rw [va_up_ne _ _ hik]; exact h i hi
theorem dec_eq (x : Int32) : x + Int32.ofInt (-1) = x - 1 := by
  rw [Int32.sub_eq_add_neg]
  rfl
theorem RXS.of {g : GG} {A : Nat → Prop} {M0 M : MM} {X : Nat} {π : Nat → Nat} {now : VV} {hs : Nat → VV} {k : Nat} {sl : Nat → VV} {sv f : Nat → Int32} {L : Nat} (h : RX g A M0 M X π now hs k sl sv f L) : RXS g A M M X (now, hs, k, sl, sv, f, L) := ⟨π, h.1, FrX.rf⟩
end
section
/-! NEW CELLS: the world is what lies from X on; it grows at its end -/
abbrev dm (X N : Nat) : Nat → Prop := fun q => X ≤ q ∧ q < N
abbrev upX (X : Nat) : Nat → Prop := fun q => X ≤ q
def HX (g : GG) (X N : Nat) (M : MM) (H : Heap) : Prop := H.size = N ∧ HD g (dm X N) M H
/-- words that no callee keeps among its own -/
def NW (U : State) : Prop := va_Nw (.methodLinkNest RX0 21 yX4_init "ToldDrops") U ∧ va_Nw (.methodLinkNest RX6 33 yX5_init "ToldDrops") U ∧ va_Nw (.methodLinkNest RX7 36 yX3_init "ToldDrops") U ∧ va_AO "ToldDrops$Gauge" U ∧ va_AO "ToldDrops$Runner" U ∧ va_AO "ToldDrops$Valley" U
theorem NW.warm {s U : State} (hW : s.WarmedH U.vm) (h : NW s) : NW U := ⟨va_Nw.warmM hW h.1, va_Nw.warmM hW h.2.1, va_Nw.warmM hW h.2.2.1, va_AO.moved hW.alike h.2.2.2.1, va_AO.moved hW.alike h.2.2.2.2.1, va_AO.moved hW.alike h.2.2.2.2.2⟩
theorem NW.same {u U : State} (e : u.vm = U.vm) (h : NW u) : NW U := ⟨va_Nw.same rfl e h.1, va_Nw.same rfl e h.2.1, va_Nw.same rfl e h.2.2.1, va_AO.moved (by rw [e]; exact Vm.Alike.refl U.vm) h.2.2.2.1, va_AO.moved (by rw [e]; exact Vm.Alike.refl U.vm) h.2.2.2.2.1, va_AO.moved (by rw [e]; exact Vm.Alike.refl U.vm) h.2.2.2.2.2⟩
theorem HX.push {g : GG} {X N : Nat} {M : MM} {H H1 : Heap} (h : HX g X N M H) {e : va_E} (he : va_at g.1 vwCl (N, e) H1) (z : H1.size = N + 1) (oq : ∀ q : Nat, q < N → H1[q]? = H[q]?) : HX g X (N + 1) (va_up M N e) H1 := by
  refine ⟨z, fun q hq => ?_⟩
  by_cases hqN : q = N
  · subst hqN
    rw [va_up_self]
    exact he
  · rw [va_up_ne _ _ hqN]
    have hlt : q < N := by have := hq.2; omega
    exact (h.2 q ⟨hq.1, hlt⟩).kept (oq q hlt)
theorem HX.put {g : GG} {X N : Nat} {M : MM} {H H1 : Heap} (h : HX g X N M H) {a : Nat} {e : va_E} (he : va_at g.1 vwCl (a, e) H1) (z : H1.size = H.size) (oq : ∀ q : Nat, q ≠ a → H1[q]? = H[q]?) : HX g X N (va_up M a e) H1 := ⟨z.trans h.1, h.2.put he oq⟩
theorem SX.grow {A : Nat → Prop} {H0 H H1 : Heap} {locs : List Loc} (hS : va_S A H0 H locs) (z : H.size ≤ H1.size) (oq : ∀ q : Nat, q < H.size → H1[q]? = H[q]?) : va_S A H0 H1 locs := ⟨Nat.le_trans hS.1 z, fun x h1 h2 => (oq x (Nat.lt_of_lt_of_le h1 hS.1)).trans (hS.2.1 x h1 h2), hS.2.2⟩
abbrev PreX (vs : List Value) (g : GG) (X N : Nat) (M : MM) : Array Value → State → Prop := va_Pc vs (fun U => HX g X N M U.heap ∧ KK g U ∧ NW U)
abbrev PosX (post : MM → Prop) (g : GG) (X N : Nat) := va_Qv post (fun (M' : MM) t => HX g X N M' t.heap ∧ KK g t) (upX X)
abbrev rmC (d mc ms : Nat) : Room := { frames := d, cells := mc, slots := ms, locals := 40 * d }
theorem preX_blind {vs : List Value} {g : GG} {X N : Nat} {M : MM} : FrameBlind (PreX vs g X N M) := fun a U f mk q => ⟨q.1, q.2.1, KK.moved (u := U) (U := U.calling f mk a) (Vm.Alike.refl U.vm) q.2.2.1, NW.same (u := U) (U := U.calling f mk a) rfl q.2.2.2⟩
section XROWS
variable {p : Program} {l : Launch} {e : Env} {R : Room} {s : State} {m : MethodId} {args : Array Value} {below : List Frame} {meth : Method} {c : Code} {H H0 : Heap} {locs : List Loc} {cells slots : Nat} {Q : State → Prop} {cc : ByteArray} {pc : Nat} {ls : Array Slot} {rest : List Value} {g : GG} {X N : Nat} {M : MM} {a : Nat}
theorem x_put (hx : p.tables.exec = Jvm.exec) (hb : c.code = cc) {own C : String} {T : u_T} {n ci index : Nat} {Ts : List Cond} (hts : ∀ w ∈ Ts, w.before args s = true) (hin : ∀ w ∈ u_ws C T n, w ∈ Ts) (ty0 : Nat → FieldType) (hty : ∀ k, k < n → parseFieldDescriptor (T k).2.2.1 = some (ty0 k)) (hnm : ∀ a, a < n → ∀ b, b < n → a ≠ b → (T a).2.1 ≠ (T b).2.1) (hown : s.vm.findClass own = some m.cls) (hK : KK g s) (hX : HX g X N M H) (hS : va_S (upX X) H0 H locs) (hA : dm X N a) {fs : List Value} (he : M a = .inr (ci, fs)) (hc : vwCl[ci]? = some (C, T, n)) (k : Nat) (hk : k < n) (hlink : (Cond.fieldLink own index (T k).1 (T k).2.1 (T k).2.2.1).before args s = true) (hfin : (T k).2.2.2 = false) {v : Value} (hn : narrow (ty0 k) v = v) (hfit : fits (ty0 k) v = true) (hl : k < fs.length) (hdg : decode cc pc = .ok (.putfield index, 3))
    (kk : ∀ (H1 : Heap) (locs1 : List Loc), HX g X N (va_up M a (.inr (ci, fs.set k v))) H1 → va_S (upX X) H0 H1 locs1 → W p l e R s m args below meth c H1 locs1 cells slots Q (F0 m (pc + 3) ls rest)) : W p l e R s m args below meth c H locs cells slots Q (F0 m pc ls (v :: .ref a :: rest)) := by
  have hap := va_apart (own := own) hts hin ty0 hty hnm hK hc
  have h0 : va_at g.1 vwCl (a, .inr (ci, fs)) H := by rw [← he]; exact hX.2 a hA
  obtain ⟨r, h1, cell, q1, q2, q3, q4⟩ := h0
  have hr : r = (C, T, n) := Option.some.inj (h1.symm.trans hc)
  subst hr
  obtain ⟨hSl, hfc, kC, hkC, hkind⟩ := hK.1 ci _ hc
  obtain ⟨cf, kf, fi, f, hi, hsl⟩ := hSl k hk
  have hlay := hts _ (hin _ (u_in_lay hk))
  unfold u_lay at hlay
  rw [if_neg (by rw [hfin]; decide)] at hlay
  have hst := (u_facts hfc hkC (u_lays hts hin hk) hi).1
  have h6 := u_store hfc hkC hkind hlay hi (hty k hk) hn hfit
  refine W.putK hx hb (f := f) ⟨hown, hlink, ⟨_, _, _, hi⟩, hst⟩ (by rw [q2]; exact h6) q1 q3 (by rw [hsl]; exact k2_hasslot (q4 k hk)) rfl rfl hdg fun H' e1 e2 e3 => ?_
  rw [hsl] at e1 ⊢
  exact kk H' _ (hX.put ⟨_, hc, t_OB.to (V := updV (vp_V fs) k v) ⟨_, e1, q2, q3, t_set q4 hap hk v⟩ (fun j _ => vp_updV_set hl v j)⟩ e2 e3) (hS.put e2 e3 hA.1)
theorem x_putF (hx : p.tables.exec = Jvm.exec) (hb : c.code = cc) {own C : String} {T : u_T} {n ci index : Nat} {Ts : List Cond} (hts : ∀ w ∈ Ts, w.before args s = true) (hin : ∀ w ∈ u_ws C T n, w ∈ Ts) (ty0 : Nat → FieldType) (hty : ∀ k, k < n → parseFieldDescriptor (T k).2.2.1 = some (ty0 k)) (hnm : ∀ a, a < n → ∀ b, b < n → a ≠ b → (T a).2.1 ≠ (T b).2.1) (hown : s.vm.findClass own = some m.cls) (hK : KK g s) (hX : HX g X N M H) (hS : va_S (upX X) H0 H locs) (hA : dm X N a) {fs : List Value} (he : M a = .inr (ci, fs)) (hc : vwCl[ci]? = some (C, T, n)) (k : Nat) (hk : k < n) (hlink : (Cond.fieldLink own index (T k).1 (T k).2.1 (T k).2.2.1).before args s = true) (hfin : (T k).2.2.2 = true) (hin2 : meth.name = "<init>") (hdecl : (T k).1 = own) {v : Value} (hn : narrow (ty0 k) v = v) (hfit : fits (ty0 k) v = true) (hl : k < fs.length) (hdg : decode cc pc = .ok (.putfield index, 3))
    (kk : ∀ (H1 : Heap) (locs1 : List Loc), HX g X N (va_up M a (.inr (ci, fs.set k v))) H1 → va_S (upX X) H0 H1 locs1 → W p l e R s m args below meth c H1 locs1 cells slots Q (F0 m (pc + 3) ls rest)) : W p l e R s m args below meth c H locs cells slots Q (F0 m pc ls (v :: .ref a :: rest)) := by
  have hap := va_apart (own := own) hts hin ty0 hty hnm hK hc
  have h0 : va_at g.1 vwCl (a, .inr (ci, fs)) H := by rw [← he]; exact hX.2 a hA
  obtain ⟨r, h1, cell, q1, q2, q3, q4⟩ := h0
  have hr : r = (C, T, n) := Option.some.inj (h1.symm.trans hc)
  subst hr
  obtain ⟨hSl, hfc, kC, hkC, hkind⟩ := hK.1 ci _ hc
  obtain ⟨cf, kf, fi, f, hi, hsl⟩ := hSl k hk
  have hlay := hts _ (hin _ (u_in_lay hk))
  unfold u_lay at hlay
  rw [if_pos hfin] at hlay
  have hst := (u_facts hfc hkC (u_lays hts hin hk) hi).1
  have hcf : m.cls = cf := by
    obtain ⟨_, _, c', _, _, _, -, -, hf', -, -, -, hown2, -⟩ := Cond.laysFinal_spec hlay
    have e1 : c' = cf := by have := hi.symm.trans hf'; simp at this; exact this.1.symm
    rw [hdecl] at hown2
    rw [← e1]; exact Option.some.inj (hown.symm.trans hown2)
  have h6 := u_fits hfc hkC hkind (Or.inr hlay) hi (hty k hk) hn hfit
  refine W.putFinK hx hb hown hlink hi hst hcf hin2 (by rw [q2]; exact h6) q1 q3 (by rw [hsl]; exact k2_hasslot (q4 k hk)) rfl rfl hdg fun H' e1 e2 e3 => ?_
  rw [hsl] at e1 ⊢
  exact kk H' _ (hX.put ⟨_, hc, t_OB.to (V := updV (vp_V fs) k v) ⟨_, e1, q2, q3, t_set q4 hap hk v⟩ (fun j _ => vp_updV_set hl v j)⟩ e2 e3) (hS.put e2 e3 hA.1)
theorem x_new (hx : p.tables.exec = Jvm.exec) (hb : c.code = cc) {own C : String} {T : u_T} {n ci index : Nat} {Ts : List Cond} (hts : ∀ w ∈ Ts, w.before args s = true) (hin : ∀ w ∈ u_ws C T n, w ∈ Ts) (ty : Nat → FieldType) (hty : ∀ k, k < n → parseFieldDescriptor (T k).2.2.1 = some (ty k)) (hown : s.vm.findClass own = some m.cls) (hcl : (Cond.classLink own index C).before args s = true) (hinst : (Cond.instantiable C n).before args s = true) (hini : (Cond.initialized C).before args s = true)
    (hK : KK g s) (hX : HX g X N M H) (hS : va_S (upX X) H0 H locs) (hc : vwCl[ci]? = some (C, T, n)) {fs : List Value} (hfs : ∀ j, j < n → defaultValue (ty j) = vp_V fs j) (hcells : cells + 1 ≤ R.cells) (hslots : slots + n ≤ R.slots) (hdg : decode cc pc = .ok (.new index, 3))
    (kk : ∀ (H1 : Heap), HX g X (N + 1) (va_up M N (.inr (ci, fs))) H1 → va_S (upX X) H0 H1 locs → W p l e R s m args below meth c H1 locs (cells + 1) (slots + n) Q (F0 m (pc + 3) ls (.ref N :: rest))) : W p l e R s m args below meth c H locs cells slots Q (F0 m pc ls rest) := by
  have hKn := hK.1 ci _ hc
  have hsz := hX.1
  refine W.newcK hx hb hown hcl hinst hini rfl hdg hcells hslots hKn.2.1 hsz fun H1 kC hkC e1 z1 o1 => ?_
  exact kk H1 (hX.push ⟨_, hc, (u_born ty hts hin hKn hkC e1 hty).to hfs⟩ z1 o1) (SX.grow hS (by omega) (fun q hq => o1 q (by omega)))
theorem x_newa (hx : p.tables.exec = Jvm.exec) (hb : c.code = cc) {atype : ArrayType} (harr : (Cond.arrayClass (newarray.typeOf atype)).before args s = true) (hK : KK g s) (hX : HX g X N M H) (hS : va_S (upX X) H0 H locs) (t0 : Nat) {cA : ClassId} (ht : (tysOf g)[t0]? = some (cA, newarray.typeOf atype)) (hRA : va_RA s cA (newarray.typeOf atype) → s.vm.findClass ("[" ++ (newarray.typeOf atype).toString) = some cA)
    {n : Int32} {L : Nat} (hdv : defaultValue (newarray.typeOf atype) = .int 0) (hn : ¬ n < 0) (hN : n.toNatClampNeg = L) (hbytes : L * componentBytes (newarray.typeOf atype) ≤ 536870912) (hcells : cells + 1 ≤ R.cells) (hslots : slots + L ≤ R.slots) (hdg : decode cc pc = .ok (.newarray atype, 2))
    (kk : ∀ (H1 : Heap), HX g X (N + 1) (va_up M N (.inl (cA, L, .inl (fun _ => 0)))) H1 → va_S (upX X) H0 H1 locs → W p l e R s m args below meth c H1 locs (cells + 1) (slots + L) Q (F0 m (pc + 2) ls (.ref N :: rest))) : W p l e R s m args below meth c H locs cells slots Q (F0 m pc ls (.int n :: rest)) := by
  have hsz := hX.1
  refine va_newaK hx hb harr rfl hdg rfl hn hN hbytes hcells hslots hsz fun H1 cB e1 z1 o1 hAr hNm => ?_
  have hcB : cB = cA := Option.some.inj (hNm.symm.trans (hRA (hK.2 t0 _ ht).2))
  subst hcB
  refine kk H1 (hX.push ?_ z1 o1) (SX.grow hS (by omega) (fun q hq => o1 q (by omega)))
  show H1[N]? = some (vp_cell _ _)
  rw [e1, hdv, vp_cell_i]
theorem x_newq (hx : p.tables.exec = Jvm.exec) (hb : c.code = cc) {own C : String} {index : Nat} (hown : s.vm.findClass own = some m.cls) (hclink : (Cond.classLink own index C).before args s = true) (hover : va_AO C s) (hK : KK g s) (hX : HX g X N M H) (hS : va_S (upX X) H0 H locs) (t0 : Nat) {cA : ClassId} (ht : (tysOf g)[t0]? = some (cA, .object C))
    {n : Int32} {L : Nat} (hn : ¬ n < 0) (hN : n.toNatClampNeg = L) (hbytes : L * 4 ≤ 536870912) (hcells : cells + 1 ≤ R.cells) (hslots : slots + L ≤ R.slots) (hdg : decode cc pc = .ok (.anewarray index, 3))
    (kk : ∀ (H1 : Heap), HX g X (N + 1) (va_up M N (.inl (cA, L, .inr (.inr (.inr (.inr (fun _ => none))))))) H1 → va_S (upX X) H0 H1 locs → W p l e R s m args below meth c H1 locs (cells + 1) (slots + L) Q (F0 m (pc + 3) ls (.ref N :: rest))) : W p l e R s m args below meth c H locs cells slots Q (F0 m pc ls (.int n :: rest)) := by
  subst hN
  have hsz := hX.1
  subst hsz
  obtain ⟨kA', comp', k1, k2, k3, k4⟩ := (hK.2 t0 _ ht).2
  refine W.anew hx hb hown hclink (va_AO.use hover) rfl hdg rfl hn hbytes hcells hslots fun cB kA comp f1 f2 f3 f4 => ?_
  have hcB : cB = cA := Option.some.inj (f1.symm.trans k4)
  subst hcB
  generalize hH1 : H.push ({ cls := cB, slots := Array.replicate n.toNatClampNeg .null, vm := .none } : Cell) = H1
  have z1 : H1.size = H.size + 1 := by rw [← hH1, Array.size_push]
  have e1 : H1[H.size]? = some (arrV cB n.toNatClampNeg (fun _ => .null)) := by rw [← hH1, Array.getElem?_push_size, ← arrV_new]
  have o1 : ∀ q : Nat, q < H.size → H1[q]? = H[q]? := fun q hq => by rw [← hH1, Array.getElem?_push, if_neg (Nat.ne_of_lt hq)]
  refine kk H1 (hX.push ?_ z1 o1) (SX.grow hS (by omega) o1)
  show H1[H.size]? = some (vp_cell _ _)
  rw [vp_cell_q]
  exact e1
theorem x_aast (hx : p.tables.exec = Jvm.exec) (hb : c.code = cc) (hK : KK g s) (hX : HX g X N M H) (hS : va_S (upX X) H0 H locs) (hA : dm X N a) (t0 ci : Nat) {cA : ClassId} {r : vw_C} {n v : Nat} {vs : List Value} {f : Nat → Option Nat} (he : M a = .inl (cA, n, .inr (.inr (.inr (.inr f))))) (ht : (tysOf g)[t0]? = some (cA, .object r.1)) (hAv : dm X N v) (hv : M v = .inr (ci, vs)) (hc : vwCl[ci]? = some r) {i : Nat} (hi : i < n) (hn31 : n < 2 ^ 31) (hdg : decode cc pc = .ok (.aastore, 1))
    (kk : ∀ (H1 : Heap) (locs1 : List Loc), HX g X N (va_up M a (.inl (cA, n, .inr (.inr (.inr (.inr (va_up f i (some v)))))))) H1 → va_S (upX X) H0 H1 locs1 → W p l e R s m args below meth c H1 locs1 cells slots Q (F0 m (pc + 1) ls rest)) : W p l e R s m args below meth c H locs cells slots Q (F0 m pc ls (.ref v :: .int (nI i) :: .ref a :: rest)) := by
  have hic : (nI i).toNatClampNeg = i := nI_clamp (by omega)
  have h0 : ¬ nI i < 0 := nI_pos (by omega)
  have ha : H[a]? = some (vp_cell cA (n, .inr (.inr (.inr (.inr f))))) := by
    have := hX.2 a hA
    rw [he] at this
    exact this
  have hva : va_at g.1 vwCl (v, .inr (ci, vs)) H := by rw [← hv]; exact hX.2 v hAv
  obtain ⟨r', hr', cellV, g1, g2, g3, -⟩ := hva
  have hcls := (hK.1 ci r hc).2
  obtain ⟨kA, comp, k1, k2, k3, -⟩ := (hK.2 t0 _ ht).2
  have hcomp : comp = g.1.1 ci := Option.some.inj (k3.symm.trans hcls.1)
  subst hcomp
  obtain ⟨kC, hkC, -⟩ := hcls.2
  refine W.aast hx hb ha (fun q h => by cases h) (fun h => by cases h) k1 k2 rfl hkC ⟨h0, by show _ < (arrV _ _ _).slots.size; rw [arrV_size, hic]; exact hi⟩ g1 (fun q h => by rw [g3] at h; cases h) (by rw [g2]; exact hkC) (by rw [g2]; exact va_assign hcls) rfl rfl hdg fun H1 e1 z oq => ?_
  refine kk H1 _ (hX.put ?_ z oq) (hS.put z oq hA.1)
  show H1[a]? = some (vp_cell _ _)
  rw [e1, hic]
  rw [vp_cell_q, vp_cell_q, arrV_store]
  congr 2
  funext q
  by_cases hq : q = i
  · subst hq
    simp [updV, va_up, va_rf]
  · simp [updV, va_up, hq]
theorem x_vret {post : MM → Prop} (hx : p.tables.exec = Jvm.exec) (hb : c.code = cc) (hr : meth.sig.returnType = none) (hlk : meth.locks = false) (hK : KK g s) (hX : HX g X N M H) (hS : va_S (upX X) s.heap H locs) (hdg : decode cc pc = .ok (.return_, 1)) (hp : post M) : W p l e R s m args below meth c H locs cells slots (MQ below (PosX post g X N) args s cells slots (upX X)) (F0 m pc ls []) :=
  W.vret hx hb hr (fun t ht hW => ⟨⟨M, rfl, hp, by rw [ht]; exact hX, KK.moved hW.alike hK⟩, hS.F ht⟩) hS.2.2 hdg hlk
variable {y : MethodName} {bytes : ByteArray} {maxL nL n index mc ms N1 : Nat} {ws : List Cond} {rm : Room} {Ts : List Cond} {own host : String} {As : List Value} {st0 : List Value}
theorem x_callI {post : MM → Prop} (S : CallFix p m c cc nL s args Ts own) (hMet : Met l y ws rm (PreX (.ref a :: As) g X N M) (PosX post g X N1) mc ms (upX X)) (cw : CallB R s args own index y bytes maxL none ws rm mc ms n ∧ y.name = "<init>" ∧ (Cond.instanceMethod y).before args s = true) (hK : KK g s) (hNW : NW s) (hX : HX g X N M H) (hS : va_S (upX X) H0 H locs) (hn : As.length = n) (hsz : ls.size = nL) (hst : st0 = As.reverse ++ .ref a :: rest) (hW : (rest.map fun v => v.category).sum ≤ 8) (hdg : decode cc pc = .ok (.invokespecial index, 3)) (hf : cells + mc ≤ R.cells ∧ slots + ms ≤ R.slots)
    (kk : ∀ (M1 : MM) (H1 : Heap) (locs1 : List Loc), post M1 → HX g X N1 M1 H1 → va_S (upX X) H0 H1 locs1 → W p l e R s m args below meth c H1 locs1 (cells + mc) (slots + ms) Q (F0 m (pc + 3) ls rest)) : W p l e R s m args below meth c H locs cells slots Q (F0 m pc ls st0) :=
  va_callv (va_runI (As := As) (rest := rest) S hMet cw ⟨preX_blind, fun U hU hWU => ⟨rfl, by rw [hU]; exact hX, KK.moved hWU.alike hK, NW.warm hWU hNW⟩⟩ rfl hn hsz hst (lv_room (pc := pc) (ls := ls) (rest := st0) (m := m) hW) hdg hf) hS (fun _ _ h => h) (fun _ h => h)
    (fun u t H1 locs1 ht _ hp hB _ _ hS1 => kk u H1 locs1 hp (by rw [← ht]; exact hB.1) hS1)
theorem x_callN {post : MM → Prop} (S : CallFix p m c cc nL s args Ts own) (hMet : Met l y ws rm (PreX (.ref a :: As) g X N M) (PosX post g X N1) mc ms (upX X)) (cw : va_CN R s args own index y host bytes maxL none ws rm mc ms n ∧ y.name = "<init>" ∧ (Cond.instanceMethod y).before args s = true) (hK : KK g s) (hNW : NW s) (hX : HX g X N M H) (hS : va_S (upX X) H0 H locs) (hn : As.length = n) (hsz : ls.size = nL) (hst : st0 = As.reverse ++ .ref a :: rest) (hW : (rest.map fun v => v.category).sum ≤ 8) (hdg : decode cc pc = .ok (.invokespecial index, 3)) (hf : cells + mc ≤ R.cells ∧ slots + ms ≤ R.slots)
    (kk : ∀ (M1 : MM) (H1 : Heap) (locs1 : List Loc), post M1 → HX g X N1 M1 H1 → va_S (upX X) H0 H1 locs1 → W p l e R s m args below meth c H1 locs1 (cells + mc) (slots + ms) Q (F0 m (pc + 3) ls rest)) : W p l e R s m args below meth c H locs cells slots Q (F0 m pc ls st0) :=
  va_callv (va_runIN (As := As) (rest := rest) S hMet cw ⟨preX_blind, fun U hU hWU => ⟨rfl, by rw [hU]; exact hX, KK.moved hWU.alike hK, NW.warm hWU hNW⟩⟩ rfl hn hsz hst (lv_room (pc := pc) (ls := ls) (rest := st0) (m := m) hW) hdg hf) hS (fun _ _ h => h) (fun _ h => h)
    (fun u t H1 locs1 ht _ hp hB _ _ hS1 => kk u H1 locs1 hp (by rw [← ht]; exact hB.1) hS1)
end XROWS
/-- a constructor by its walk -/
theorem mk_MetX {l : Launch} {y : MethodName} {ws ws' : List Cond} {rm : Room} {cc : ByteArray} {maxL : Nat} {g : GG} {X N : Nat} {M : MM} {vs : List Value} {Qc : Array Value → State → Outcome → State → Prop} {mc ms : Nat} {own : String} (hw : ws = Cond.code y cc maxL none :: ws') (hy : y.cls = own) (hpl : plainName own = true) (hlen : (lg_sl vs).length ≤ maxL)
    (body : ∀ (p : Program) (e : Env) (s : State) (m : MethodId) (below : List Frame) (meth : Method) (c : Code) (ls : Array Slot) (aa : Array Value) (Q : State → Prop), aa = vs.toArray → Q = MQ below Qc aa s mc ms (upX X) → p.tables.exec = Jvm.exec → c.code = cc → meth.sig.returnType = none → meth.locks = false → c.maxLocals = maxL → s.vm.findClass own = some m.cls → (∀ w ∈ ws, w.before aa s = true) → KK g s → NW s → HX g X N M s.heap → va_S (upX X) s.heap s.heap [] → lv_has ls maxL (lv_args 0 vs) → meth.name = y.name →
      W p l e rm s m aa below meth c s.heap [] 0 0 Q (F0 m 0 ls [])) : Met l y ws rm (PreX vs g X N M) Qc mc ms (upX X) := by
  subst hy
  refine Met.ofW (cc := cc) (maxL := maxL) (ret := none) hpl hw ?_
  intro p e s m args below meth c s₁ B hml hv
  obtain ⟨rfl, hX, hK, hNW⟩ := hv
  have hl := lv_entry vs (n := maxL) hlen
  have hts := atoms_spec (ws := ws) B.pre
  rw [lg_entry_eq]
  exact body p e s m below meth c _ _ _ rfl rfl B.exec B.bytes B.returns B.notSynchronized hml (findClass_of_methodNamed B.named) hts hK hNW hX va_S.rf hl (name_of_methodNamed B.named B.method).1
end
section
def iniG (i : Nat) : Nat → Int32 := fun k => if k = 0 then nI 3 else if k = 1 then nI 10 else if k = 2 then nI 100 else if k = 3 then nI i else 0
def iniV : VV := (fun k => if k = 0 then nI 10 else if k = 1 then nI 1 else 0, iniG, fun _ _ => 0)
theorem arr_0 (F : Nat → Nat) : (fun i => if i < 0 then some (F i) else none) = fun _ : Nat => (none : Option Nat) := by
  funext i
  exact if_neg (Nat.not_lt_zero i)
theorem arr_up (F : Nat → Nat) (k : Nat) : va_up (fun i => if i < k then some (F i) else none) k (some (F k)) = fun i => if i < k + 1 then some (F i) else none := by
  funext i
  unfold va_up
  dsimp only
  by_cases h : i = k
  · rw [if_pos h, if_pos (by omega), h]
  · rw [if_neg h]
    by_cases h2 : i < k
    · rw [if_pos h2, if_pos (by omega)]
    · rw [if_neg h2, if_neg (by omega)]
theorem arrE_up {M : MM} {a n k : Nat} {cA : ClassId} {F : Nat → Nat} (h : M a = .inl (cA, n, .inr (.inr (.inr (.inr (va_up (fun i => if i < k then some (F i) else none) k (some (F k)))))))) : M a = .inl (cA, n, .inr (.inr (.inr (.inr (fun i => if i < k + 1 then some (F i) else none))))) := by rw [h, arr_up]
theorem arrE_0 {M : MM} {a n : Nat} {cA : ClassId} (F : Nat → Nat) (h : M a = .inl (cA, n, .inr (.inr (.inr (.inr (fun _ => none)))))) : M a = .inl (cA, n, .inr (.inr (.inr (.inr (fun i => if i < 0 then some (F i) else none))))) := by rw [h, arr_0]
theorem HX.fin {g : GG} {X N : Nat} {M : MM} {H : Heap} (h : HX g X N M H) {a : Nat} (ha : dm X N a) {cA : ClassId} {n : Nat} {f f' : Nat → Option Nat} (he : M a = .inl (cA, n, .inr (.inr (.inr (.inr f))))) (hf : ∀ i, i < n → f i = f' i) : HX g X N (va_up M a (.inl (cA, n, .inr (.inr (.inr (.inr f')))))) H := by
  refine ⟨h.1, h.2.put ?_ (fun _ _ => rfl)⟩
  have h0 := h.2 a ha
  rw [he] at h0
  have h1 : H[a]? = some (vp_cell cA (n, .inr (.inr (.inr (.inr f))))) := h0
  show H[a]? = some (vp_cell cA (n, .inr (.inr (.inr (.inr f')))))
  rw [h1, vp_cell_q, vp_cell_q]
  unfold arrV
  congr 3
  funext j
  show va_rf (f j.val) = va_rf (f' j.val)
  rw [hf j.val j.isLt]
theorem rv_obj {g : GG} {A : Nat → Prop} {M : MM} {b : Nat} {π : Nat → Nat} {v : VV} (h : RepV g A M b π v) : M b = wE b v.1 ∧ True := ⟨h.2.2.1, trivial⟩
theorem RepV.dom {g : GG} {A A' : Nat → Prop} {M : MM} {b : Nat} {π : Nat → Nat} {v : VV} (h : RepV g A M b π v) (hA : ∀ q, b ≤ q → q < b + 35 → A' q) : RepV g A' M b π v := ⟨hA, h.2⟩
set_option maxHeartbeats 4000000 in
set_option maxRecDepth 100000 in
/-- a page -/
theorem k_X4_init (l : Launch) (g : GG) (X b : Nat) (M0 : MM) (hXb : X ≤ b) : Met l yX4_init (Uw yX4_init cX4_init 1 (Option.none : Option ClassFile.FieldType)) (rmC 1 0 0) (PreX [.ref b] g X (b + 1) M0) (PosX (fun M1 => M1 = M0) g X (b + 1)) 0 0 (upX X) := by
  refine mk_MetX (own := RX4) rfl rfl (by decide) (Nat.le_of_ble_eq_true rfl) ?_
  intro p e s m below meth c ls aa Q haa hQ hx hb hr hlk hml hown hts hK hNW hX hS hl hnm
  have ht : ∀ w ∈ lw_good, w.before _ s = true := fun w h => hts w (List.mem_cons_of_mem _ h)
  have hl : lv_has ls 1 [(0, .ref b)] := hl
  have lo : ∀ q, q < b → M0 q = M0 q := fun _ _ => rfl
  refine lv_aload_n hx hb dX4_init_0 rfl (lv_at hl 0 rfl) ?_
  refine W.objInit hx hb hown (ht _ uw_72) (ht _ uw_50) (ht _ uw_51) rfl (by rw [hml]; exact hl.1) rfl dX4_init_1 (Nat.le_of_ble_eq_true rfl) (Nat.le_of_ble_eq_true rfl) ?_
  refine W.widen (k := 0) (n := 0) (by omega) (by omega) ?_
  subst hQ
  exact x_vret hx hb hr hlk hK hX hS dX4_init_4 (rfl)

set_option maxHeartbeats 4000000 in
set_option maxRecDepth 100000 in
/-- a runner -/
theorem k_X5_init (l : Launch) (g : GG) (X b : Nat) (M0 : MM) (hXb : X ≤ b) : Met l yX5_init (Uw yX5_init cX5_init 1 (Option.none : Option ClassFile.FieldType)) (rmC 1 0 0) (PreX [.ref b] g X (b + 1) M0) (PosX (fun M1 => M1 = M0) g X (b + 1)) 0 0 (upX X) := by
  refine mk_MetX (own := RX5) rfl rfl (by decide) (Nat.le_of_ble_eq_true rfl) ?_
  intro p e s m below meth c ls aa Q haa hQ hx hb hr hlk hml hown hts hK hNW hX hS hl hnm
  have ht : ∀ w ∈ lw_good, w.before _ s = true := fun w h => hts w (List.mem_cons_of_mem _ h)
  have hl : lv_has ls 1 [(0, .ref b)] := hl
  have lo : ∀ q, q < b → M0 q = M0 q := fun _ _ => rfl
  refine lv_aload_n hx hb dX5_init_0 rfl (lv_at hl 0 rfl) ?_
  refine W.objInit hx hb hown (ht _ uw_162) (ht _ uw_50) (ht _ uw_51) rfl (by rw [hml]; exact hl.1) rfl dX5_init_1 (Nat.le_of_ble_eq_true rfl) (Nat.le_of_ble_eq_true rfl) ?_
  refine W.widen (k := 0) (n := 0) (by omega) (by omega) ?_
  subst hQ
  exact x_vret hx hb hr hlk hK hX hS dX5_init_4 (rfl)

set_option maxHeartbeats 4000000 in
set_option maxRecDepth 100000 in
/-- a gauge -/
theorem k_X0_init (l : Launch) (g : GG) (X b : Nat) (M0 : MM) (x : Int32) (hb0 : M0 (b) = .inr (0, [.int 0, .int 0, .int 0, .int 0, .int 0, .int 0, .int 0, .int 0, .null])) (hXb : X ≤ b) : Met l yX0_init (Uw yX0_init cX0_init 2 (Option.none : Option ClassFile.FieldType)) (rmC 2 1 8) (PreX [.ref b, .int x] g X (b + 1) M0) (PosX (fun M1 => (∀ q, q < b → M1 q = M0 q) ∧ M1 b = .inr (0, [.int (nI 3), .int (nI 10), .int (nI 100), .int x, .int 0, .int 0, .int 0, .int 0, .ref (b + 1)]) ∧ M1 (b + 1) = .inr (4, [.int 0, .int 0, .int 0, .int 0, .int 0, .int 0, .int 0, .int 0])) g X (b + 2)) 1 8 (upX X) := by
  refine mk_MetX (own := RX0) rfl rfl (by decide) (Nat.le_of_ble_eq_true rfl) ?_
  intro p e s m below meth c ls aa Q haa hQ hx hb hr hlk hml hown hts hK hNW hX hS hl hnm
  have ht : ∀ w ∈ lw_good, w.before _ s = true := fun w h => hts w (List.mem_cons_of_mem _ h)
  have hl : lv_has ls 2 [(0, .ref b), (1, .int x)] := hl
  have lo : ∀ q, q < b → M0 q = M0 q := fun _ _ => rfl
  refine lv_aload_n hx hb dX0_init_0 rfl (lv_at hl 0 rfl) ?_
  refine W.objInit hx hb hown (ht _ uw_66) (ht _ uw_50) (ht _ uw_51) rfl (by rw [hml]; exact hl.1) rfl dX0_init_1 (Nat.le_of_ble_eq_true rfl) (Nat.le_of_ble_eq_true rfl) ?_
  refine lv_aload_n hx hb dX0_init_4 rfl (lv_at hl 0 rfl) ?_
  refine lv_iconst (v := nI 3) hx hb dX0_init_5 (by first | rfl | decide) ?_
  refine x_put (ci := 0) (C := RX0) (T := TX0) (n := 9) hx hb ht ui_X0 tyX0 tyX0_ok nmX0 hown hK hX hS ⟨by omega, by omega⟩ hb0 rfl 0 (by decide) (ht _ uw_115) rfl rfl rfl (Nat.le_of_ble_eq_true rfl) dX0_init_6 (fun H locs hX hS => ?_)
  obtain ⟨M1x, eM⟩ : ∃ M1 : MM, M1 = va_up M0 (b) (.inr (0, [.int (nI 3), .int 0, .int 0, .int 0, .int 0, .int 0, .int 0, .int 0, .null])) := ⟨_, rfl⟩
  have hX : HX g X (b + 1) M1x H := by rw [eM]; exact hX
  have lo : ∀ q, q < b → M1x (q) = M0 q := fun q hq => by rw [eM]; exact (va_up_ne _ _ (by omega)).trans (lo q hq)
  have hb0 : M1x (b) = .inr (0, [.int (nI 3), .int 0, .int 0, .int 0, .int 0, .int 0, .int 0, .int 0, .null]) := by rw [eM]; exact va_up_self _ _ _
  refine lv_aload_n hx hb dX0_init_9 rfl (lv_at hl 0 rfl) ?_
  refine lv_bipush (v := nI 10) hx hb dX0_init_10 (by first | rfl | decide) ?_
  refine x_put (ci := 0) (C := RX0) (T := TX0) (n := 9) hx hb ht ui_X0 tyX0 tyX0_ok nmX0 hown hK hX hS ⟨by omega, by omega⟩ hb0 rfl 1 (by decide) (ht _ uw_118) rfl rfl rfl (Nat.le_of_ble_eq_true rfl) dX0_init_12 (fun H locs hX hS => ?_)
  obtain ⟨M2x, eM⟩ : ∃ M1 : MM, M1 = va_up M1x (b) (.inr (0, [.int (nI 3), .int (nI 10), .int 0, .int 0, .int 0, .int 0, .int 0, .int 0, .null])) := ⟨_, rfl⟩
  have hX : HX g X (b + 1) M2x H := by rw [eM]; exact hX
  have lo : ∀ q, q < b → M2x (q) = M0 q := fun q hq => by rw [eM]; exact (va_up_ne _ _ (by omega)).trans (lo q hq)
  have hb0 : M2x (b) = .inr (0, [.int (nI 3), .int (nI 10), .int 0, .int 0, .int 0, .int 0, .int 0, .int 0, .null]) := by rw [eM]; exact va_up_self _ _ _
  refine lv_aload_n hx hb dX0_init_15 rfl (lv_at hl 0 rfl) ?_
  refine lv_bipush (v := nI 100) hx hb dX0_init_16 (by first | rfl | decide) ?_
  refine x_put (ci := 0) (C := RX0) (T := TX0) (n := 9) hx hb ht ui_X0 tyX0 tyX0_ok nmX0 hown hK hX hS ⟨by omega, by omega⟩ hb0 rfl 2 (by decide) (ht _ uw_121) rfl rfl rfl (Nat.le_of_ble_eq_true rfl) dX0_init_18 (fun H locs hX hS => ?_)
  obtain ⟨M3x, eM⟩ : ∃ M1 : MM, M1 = va_up M2x (b) (.inr (0, [.int (nI 3), .int (nI 10), .int (nI 100), .int 0, .int 0, .int 0, .int 0, .int 0, .null])) := ⟨_, rfl⟩
  have hX : HX g X (b + 1) M3x H := by rw [eM]; exact hX
  have lo : ∀ q, q < b → M3x (q) = M0 q := fun q hq => by rw [eM]; exact (va_up_ne _ _ (by omega)).trans (lo q hq)
  have hb0 : M3x (b) = .inr (0, [.int (nI 3), .int (nI 10), .int (nI 100), .int 0, .int 0, .int 0, .int 0, .int 0, .null]) := by rw [eM]; exact va_up_self _ _ _
  refine lv_aload_n hx hb dX0_init_21 rfl (lv_at hl 0 rfl) ?_
  refine x_new (ci := 4) (fs := [.int 0, .int 0, .int 0, .int 0, .int 0, .int 0, .int 0, .int 0]) (C := RX4) (T := TX4) (n := 8) hx hb ht ui_X4 tyX4 tyX4_ok hown (ht _ uw_67) (ht _ uw_68) (ht _ uw_37) hK hX hS rfl (fun j hj => by rcases (by omega : j = 0 ∨ j = 1 ∨ j = 2 ∨ j = 3 ∨ j = 4 ∨ j = 5 ∨ j = 6 ∨ j = 7) with rfl | rfl | rfl | rfl | rfl | rfl | rfl | rfl <;> rfl) (Nat.le_of_ble_eq_true rfl) (Nat.le_of_ble_eq_true rfl) dX0_init_22 (fun H hX hS => ?_)
  obtain ⟨M4x, eM⟩ : ∃ M1 : MM, M1 = va_up M3x (b + 1) (.inr (4, [.int 0, .int 0, .int 0, .int 0, .int 0, .int 0, .int 0, .int 0])) := ⟨_, rfl⟩
  have hX : HX g X (b + 2) M4x H := by rw [eM]; exact hX
  have lo : ∀ q, q < b → M4x (q) = M0 q := fun q hq => by rw [eM]; exact (va_up_ne _ _ (by omega)).trans (lo q hq)
  have hb0 : M4x (b) = .inr (0, [.int (nI 3), .int (nI 10), .int (nI 100), .int 0, .int 0, .int 0, .int 0, .int 0, .null]) := by rw [eM]; exact (va_up_ne _ _ (by omega)).trans (hb0 )
  have hpg : M4x (b + 1) = .inr (4, [.int 0, .int 0, .int 0, .int 0, .int 0, .int 0, .int 0, .int 0]) := by rw [eM]; exact va_up_self _ _ _
  refine lv_dup hx hb dX0_init_25 rfl ?_
  refine x_callN (As := []) (rest := [.ref (b + 1), .ref (b)]) ⟨hx, hb, hml, hown, ht⟩ (k_X4_init l g X (b + 1) M4x (by omega)) ⟨va_cnB 0 ht (gUI uw_71) rfl rfl rfl hNW.1 (ht _ uw_37) (by decide +kernel) ⟨by decide, by decide⟩, rfl, (ht _ uw_70)⟩ hK hNW hX hS rfl hl.1 rfl (Nat.le_of_ble_eq_true rfl) dX0_init_26 ⟨Nat.le_of_ble_eq_true rfl, Nat.le_of_ble_eq_true rfl⟩ (fun M5x H locs hp hX hS => ?_)
  have lo1 : ∀ q, q < b + 1 → M5x q = M4x q := fun q _ => by rw [hp]
  have lo : ∀ q, q < b → M5x (q) = M0 q := fun q hq => (lo1 _ (by omega)).trans (lo q hq)
  have hb0 : M5x (b) = .inr (0, [.int (nI 3), .int (nI 10), .int (nI 100), .int 0, .int 0, .int 0, .int 0, .int 0, .null]) := (lo1 _ (by omega)).trans (hb0 )
  have hpg : M5x (b + 1) = .inr (4, [.int 0, .int 0, .int 0, .int 0, .int 0, .int 0, .int 0, .int 0]) := by rw [hp]; exact hpg
  have hX : HX g X (b + 2) M5x H := hX
  refine x_putF (ci := 0) (C := RX0) (T := TX0) (n := 9) hx hb ht ui_X0 tyX0 tyX0_ok nmX0 hown hK hX hS ⟨by omega, by omega⟩ hb0 rfl 8 (by decide) (ht _ uw_136) rfl (hnm.trans rfl) rfl rfl rfl (Nat.le_of_ble_eq_true rfl) dX0_init_29 (fun H locs hX hS => ?_)
  obtain ⟨M6x, eM⟩ : ∃ M1 : MM, M1 = va_up M5x (b) (.inr (0, [.int (nI 3), .int (nI 10), .int (nI 100), .int 0, .int 0, .int 0, .int 0, .int 0, .ref (b + 1)])) := ⟨_, rfl⟩
  have hX : HX g X (b + 2) M6x H := by rw [eM]; exact hX
  have lo : ∀ q, q < b → M6x (q) = M0 q := fun q hq => by rw [eM]; exact (va_up_ne _ _ (by omega)).trans (lo q hq)
  have hb0 : M6x (b) = .inr (0, [.int (nI 3), .int (nI 10), .int (nI 100), .int 0, .int 0, .int 0, .int 0, .int 0, .ref (b + 1)]) := by rw [eM]; exact va_up_self _ _ _
  have hpg : M6x (b + 1) = .inr (4, [.int 0, .int 0, .int 0, .int 0, .int 0, .int 0, .int 0, .int 0]) := by rw [eM]; exact (va_up_ne _ _ (by omega)).trans (hpg )
  refine lv_aload_n hx hb dX0_init_32 rfl (lv_at hl 0 rfl) ?_
  refine lv_iload_n hx hb dX0_init_33 rfl (lv_at hl 1 rfl) ?_
  refine x_put (ci := 0) (C := RX0) (T := TX0) (n := 9) hx hb ht ui_X0 tyX0 tyX0_ok nmX0 hown hK hX hS ⟨by omega, by omega⟩ hb0 rfl 3 (by decide) (ht _ uw_124) rfl rfl rfl (Nat.le_of_ble_eq_true rfl) dX0_init_34 (fun H locs hX hS => ?_)
  obtain ⟨M7x, eM⟩ : ∃ M1 : MM, M1 = va_up M6x (b) (.inr (0, [.int (nI 3), .int (nI 10), .int (nI 100), .int x, .int 0, .int 0, .int 0, .int 0, .ref (b + 1)])) := ⟨_, rfl⟩
  have hX : HX g X (b + 2) M7x H := by rw [eM]; exact hX
  have lo : ∀ q, q < b → M7x (q) = M0 q := fun q hq => by rw [eM]; exact (va_up_ne _ _ (by omega)).trans (lo q hq)
  have hb0 : M7x (b) = .inr (0, [.int (nI 3), .int (nI 10), .int (nI 100), .int x, .int 0, .int 0, .int 0, .int 0, .ref (b + 1)]) := by rw [eM]; exact va_up_self _ _ _
  have hpg : M7x (b + 1) = .inr (4, [.int 0, .int 0, .int 0, .int 0, .int 0, .int 0, .int 0, .int 0]) := by rw [eM]; exact (va_up_ne _ _ (by omega)).trans (hpg )
  refine W.widen (k := 1) (n := 8) (by omega) (by omega) ?_
  subst hQ
  exact x_vret hx hb hr hlk hK hX hS dX0_init_37 (⟨lo, hb0, hpg⟩)

set_option maxHeartbeats 4000000 in
set_option maxRecDepth 100000 in
/-- a valley -/
theorem k_X6_init (l : Launch) (g : GG) (X b : Nat) (M0 : MM) (hb0 : M0 (b) = .inr (6, [.int 0, .int 0, .int 0, .int 0, .null, .null])) (hXb : X ≤ b) : Met l yX6_init (Uw yX6_init cX6_init 2 (Option.none : Option ClassFile.FieldType)) (rmC 3 34 228) (PreX [.ref b] g X (b + 1) M0) (PosX (fun M1 => (∀ q, q < b → M1 q = M0 q) ∧ RepV g (fun _ => True) M1 b id iniV) g X (b + 35)) 34 228 (upX X) := by
  refine mk_MetX (own := RX6) rfl rfl (by decide) (Nat.le_of_ble_eq_true rfl) ?_
  intro p e s m below meth c ls aa Q haa hQ hx hb hr hlk hml hown hts hK hNW hX hS hl hnm
  have ht : ∀ w ∈ lw_good, w.before _ s = true := fun w h => hts w (List.mem_cons_of_mem _ h)
  have hl : lv_has ls 2 [(0, .ref b)] := hl
  have lo : ∀ q, q < b → M0 q = M0 q := fun _ _ => rfl
  refine lv_aload_n hx hb dX6_init_0 rfl (lv_at hl 0 rfl) ?_
  refine W.objInit hx hb hown (ht _ uw_57) (ht _ uw_50) (ht _ uw_51) rfl (by rw [hml]; exact hl.1) rfl dX6_init_1 (Nat.le_of_ble_eq_true rfl) (Nat.le_of_ble_eq_true rfl) ?_
  refine lv_aload_n hx hb dX6_init_4 rfl (lv_at hl 0 rfl) ?_
  refine lv_bipush (v := nI 10) hx hb dX6_init_5 (by first | rfl | decide) ?_
  refine x_put (ci := 6) (C := RX6) (T := TX6) (n := 6) hx hb ht ui_X6 tyX6 tyX6_ok nmX6 hown hK hX hS ⟨by omega, by omega⟩ hb0 rfl 0 (by decide) (ht _ uw_188) rfl rfl rfl (Nat.le_of_ble_eq_true rfl) dX6_init_7 (fun H locs hX hS => ?_)
  obtain ⟨M1x, eM⟩ : ∃ M1 : MM, M1 = va_up M0 (b) (.inr (6, [.int (nI 10), .int 0, .int 0, .int 0, .null, .null])) := ⟨_, rfl⟩
  have hX : HX g X (b + 1) M1x H := by rw [eM]; exact hX
  have lo : ∀ q, q < b → M1x (q) = M0 q := fun q hq => by rw [eM]; exact (va_up_ne _ _ (by omega)).trans (lo q hq)
  have hb0 : M1x (b) = .inr (6, [.int (nI 10), .int 0, .int 0, .int 0, .null, .null]) := by rw [eM]; exact va_up_self _ _ _
  refine lv_aload_n hx hb dX6_init_10 rfl (lv_at hl 0 rfl) ?_
  refine lv_iconst (v := nI 1) hx hb dX6_init_11 (by first | rfl | decide) ?_
  refine x_put (ci := 6) (C := RX6) (T := TX6) (n := 6) hx hb ht ui_X6 tyX6 tyX6_ok nmX6 hown hK hX hS ⟨by omega, by omega⟩ hb0 rfl 1 (by decide) (ht _ uw_190) rfl rfl rfl (Nat.le_of_ble_eq_true rfl) dX6_init_12 (fun H locs hX hS => ?_)
  obtain ⟨M2x, eM⟩ : ∃ M1 : MM, M1 = va_up M1x (b) (.inr (6, [.int (nI 10), .int (nI 1), .int 0, .int 0, .null, .null])) := ⟨_, rfl⟩
  have hX : HX g X (b + 1) M2x H := by rw [eM]; exact hX
  have lo : ∀ q, q < b → M2x (q) = M0 q := fun q hq => by rw [eM]; exact (va_up_ne _ _ (by omega)).trans (lo q hq)
  have hb0 : M2x (b) = .inr (6, [.int (nI 10), .int (nI 1), .int 0, .int 0, .null, .null]) := by rw [eM]; exact va_up_self _ _ _
  refine lv_aload_n hx hb dX6_init_15 rfl (lv_at hl 0 rfl) ?_
  refine lv_bipush (v := nI 6) hx hb dX6_init_16 (by first | rfl | decide) ?_
  refine x_newq (C := RX0) hx hb hown (ht _ uw_58) hNW.2.2.2.1 hK hX hS 3 rfl (nI_pos (by omega)) (nI_clamp (by omega)) (Nat.le_of_ble_eq_true rfl) (Nat.le_of_ble_eq_true rfl) (Nat.le_of_ble_eq_true rfl) dX6_init_18 (fun H hX hS => ?_)
  obtain ⟨M3x, eM⟩ : ∃ M1 : MM, M1 = va_up M2x (b + 1) (.inl (g.2 3, 6, .inr (.inr (.inr (.inr (fun _ => none)))))) := ⟨_, rfl⟩
  have hX : HX g X (b + 2) M3x H := by rw [eM]; exact hX
  have lo : ∀ q, q < b → M3x (q) = M0 q := fun q hq => by rw [eM]; exact (va_up_ne _ _ (by omega)).trans (lo q hq)
  have hb0 : M3x (b) = .inr (6, [.int (nI 10), .int (nI 1), .int 0, .int 0, .null, .null]) := by rw [eM]; exact (va_up_ne _ _ (by omega)).trans (hb0 )
  have hga : M3x (b + 1) = .inl (g.2 3, 6, .inr (.inr (.inr (.inr (fun _ => none))))) := by rw [eM]; exact va_up_self _ _ _
  refine x_putF (ci := 6) (C := RX6) (T := TX6) (n := 6) hx hb ht ui_X6 tyX6 tyX6_ok nmX6 hown hK hX hS ⟨by omega, by omega⟩ hb0 rfl 4 (by decide) (ht _ uw_196) rfl (hnm.trans rfl) rfl rfl rfl (Nat.le_of_ble_eq_true rfl) dX6_init_21 (fun H locs hX hS => ?_)
  obtain ⟨M4x, eM⟩ : ∃ M1 : MM, M1 = va_up M3x (b) (.inr (6, [.int (nI 10), .int (nI 1), .int 0, .int 0, .ref (b + 1), .null])) := ⟨_, rfl⟩
  have hX : HX g X (b + 2) M4x H := by rw [eM]; exact hX
  have lo : ∀ q, q < b → M4x (q) = M0 q := fun q hq => by rw [eM]; exact (va_up_ne _ _ (by omega)).trans (lo q hq)
  have hb0 : M4x (b) = .inr (6, [.int (nI 10), .int (nI 1), .int 0, .int 0, .ref (b + 1), .null]) := by rw [eM]; exact va_up_self _ _ _
  have hga : M4x (b + 1) = .inl (g.2 3, 6, .inr (.inr (.inr (.inr (fun _ => none))))) := by rw [eM]; exact (va_up_ne _ _ (by omega)).trans (hga )
  refine lv_aload_n hx hb dX6_init_24 rfl (lv_at hl 0 rfl) ?_
  refine lv_bipush (v := nI 20) hx hb dX6_init_25 (by first | rfl | decide) ?_
  refine x_newq (C := RX5) hx hb hown (ht _ uw_60) hNW.2.2.2.2.1 hK hX hS 4 rfl (nI_pos (by omega)) (nI_clamp (by omega)) (Nat.le_of_ble_eq_true rfl) (Nat.le_of_ble_eq_true rfl) (Nat.le_of_ble_eq_true rfl) dX6_init_27 (fun H hX hS => ?_)
  obtain ⟨M5x, eM⟩ : ∃ M1 : MM, M1 = va_up M4x (b + 2) (.inl (g.2 4, 20, .inr (.inr (.inr (.inr (fun _ => none)))))) := ⟨_, rfl⟩
  have hX : HX g X (b + 3) M5x H := by rw [eM]; exact hX
  have lo : ∀ q, q < b → M5x (q) = M0 q := fun q hq => by rw [eM]; exact (va_up_ne _ _ (by omega)).trans (lo q hq)
  have hb0 : M5x (b) = .inr (6, [.int (nI 10), .int (nI 1), .int 0, .int 0, .ref (b + 1), .null]) := by rw [eM]; exact (va_up_ne _ _ (by omega)).trans (hb0 )
  have hga : M5x (b + 1) = .inl (g.2 3, 6, .inr (.inr (.inr (.inr (fun _ => none))))) := by rw [eM]; exact (va_up_ne _ _ (by omega)).trans (hga )
  have hra : M5x (b + 2) = .inl (g.2 4, 20, .inr (.inr (.inr (.inr (fun _ => none))))) := by rw [eM]; exact va_up_self _ _ _
  refine x_putF (ci := 6) (C := RX6) (T := TX6) (n := 6) hx hb ht ui_X6 tyX6 tyX6_ok nmX6 hown hK hX hS ⟨by omega, by omega⟩ hb0 rfl 5 (by decide) (ht _ uw_198) rfl (hnm.trans rfl) rfl rfl rfl (Nat.le_of_ble_eq_true rfl) dX6_init_30 (fun H locs hX hS => ?_)
  obtain ⟨M6x, eM⟩ : ∃ M1 : MM, M1 = va_up M5x (b) (.inr (6, [.int (nI 10), .int (nI 1), .int 0, .int 0, .ref (b + 1), .ref (b + 2)])) := ⟨_, rfl⟩
  have hX : HX g X (b + 3) M6x H := by rw [eM]; exact hX
  have lo : ∀ q, q < b → M6x (q) = M0 q := fun q hq => by rw [eM]; exact (va_up_ne _ _ (by omega)).trans (lo q hq)
  have hb0 : M6x (b) = .inr (6, [.int (nI 10), .int (nI 1), .int 0, .int 0, .ref (b + 1), .ref (b + 2)]) := by rw [eM]; exact va_up_self _ _ _
  have hga : M6x (b + 1) = .inl (g.2 3, 6, .inr (.inr (.inr (.inr (fun _ => none))))) := by rw [eM]; exact (va_up_ne _ _ (by omega)).trans (hga )
  have hra : M6x (b + 2) = .inl (g.2 4, 20, .inr (.inr (.inr (.inr (fun _ => none))))) := by rw [eM]; exact (va_up_ne _ _ (by omega)).trans (hra )
  refine lv_iconst (v := nI 0) hx hb dX6_init_33 (by first | rfl | decide) ?_
  refine lv_istore_n (lv' := [(1, .int (nI 0)), (0, .ref (b))]) hx hb dX6_init_34 rfl hl (by decide) rfl (fun ls hl => ?_)
  have loop_35 : ∀ (z : Nat) (kq : Nat) (M : MM) (H : Heap) (locs : List Loc) (ls : Array Slot), 6 - kq < z → kq ≤ 6 → (∀ q, q < b → M (q) = M0 q) → (M (b) = .inr (6, [.int (nI 10), .int (nI 1), .int 0, .int 0, .ref (b + 1), .ref (b + 2)])) → (M (b + 1) = .inl (g.2 3, 6, .inr (.inr (.inr (.inr (fun i => if i < kq then some (b + 3 + 2 * i) else none)))))) → (M (b + 2) = .inl (g.2 4, 20, .inr (.inr (.inr (.inr (fun _ => none)))))) → (∀ i, i < kq → M (b + 3 + 2 * i) = gE b i (iniG i)) → (∀ i, i < kq → M (b + 4 + 2 * i) = pE (iniG i)) → HX g X (b + 3 + 2 * kq) M H → va_S (upX X) s.heap H locs → lv_has ls 2 [(1, .int (nI kq)), (0, .ref (b))] → W p l e (rmC 3 34 228) s m aa below meth c H locs (2 + 2 * kq) (26 + 17 * kq) Q (F0 m 35 ls []) := by
    intro z
    induction z with
    | zero => intro kq M H locs ls hz hk lo hb0 hga hra hG hP; exact absurd hz (Nat.not_lt_zero _)
    | succ z ih =>
    intro kq M H locs ls hz hk lo hb0 hga hra hG hP hX hS hl
    refine lv_iload_n hx hb dX6_init_35 rfl (lv_at hl 0 rfl) ?_
    refine lv_aload_n hx hb dX6_init_36 rfl (lv_at hl 1 rfl) ?_
    refine m_get (ci := 6) (C := RX6) (T := TX6) (N := 6) hx hb ht ui_X6 hown hK hX.2 (⟨by omega, by omega⟩ : dm X (b + 3 + 2 * kq) (b)) hb0 rfl 4 (by decide) (ht _ uw_196) rfl dX6_init_37 ?_
    refine m_alen hx hb hK hX.2 (⟨by omega, by omega⟩ : dm X (b + 3 + 2 * kq) (b + 1)) 3 hga rfl (v := nI 6) rfl dX6_init_40 ?_
    refine lv_icmp_ge (tgt := 64) hx hb dX6_init_41 (by decide) (fun c_9 => ?_) (fun c_9 => ?_)
    · obtain rfl : kq = 6 := Nat.le_antisymm hk (nI_le_of (by omega) (by omega) c_9)
      refine lv_iconst (v := nI 0) hx hb dX6_init_64 (by first | rfl | decide) ?_
      refine lv_istore_n (lv' := [(1, .int (nI 0)), (0, .ref (b))]) hx hb dX6_init_65 rfl hl (by decide) rfl (fun ls hl => ?_)
      have loop_66 : ∀ (z : Nat) (kq : Nat) (M : MM) (H : Heap) (locs : List Loc) (ls : Array Slot), 20 - kq < z → kq ≤ 20 → (∀ q, q < b → M (q) = M0 q) → (M (b) = .inr (6, [.int (nI 10), .int (nI 1), .int 0, .int 0, .ref (b + 1), .ref (b + 2)])) → (M (b + 1) = .inl (g.2 3, 6, .inr (.inr (.inr (.inr (fun i => if i < 6 then some (b + 3 + 2 * i) else none)))))) → (M (b + 2) = .inl (g.2 4, 20, .inr (.inr (.inr (.inr (fun i => if i < kq then some (b + 15 + i) else none)))))) → (∀ i, i < 6 → M (b + 3 + 2 * i) = gE b i (iniG i)) → (∀ i, i < 6 → M (b + 4 + 2 * i) = pE (iniG i)) → (∀ i, i < kq → M (b + 15 + i) = rE (fun _ => 0)) → HX g X (b + 15 + kq) M H → va_S (upX X) s.heap H locs → lv_has ls 2 [(1, .int (nI kq)), (0, .ref (b))] → W p l e (rmC 3 34 228) s m aa below meth c H locs (14 + kq) (128 + 5 * kq) Q (F0 m 66 ls []) := by
        intro z
        induction z with
        | zero => intro kq M H locs ls hz hk lo hb0 hga hra hG hP hR; exact absurd hz (Nat.not_lt_zero _)
        | succ z ih =>
        intro kq M H locs ls hz hk lo hb0 hga hra hG hP hR hX hS hl
        refine lv_iload_n hx hb dX6_init_66 rfl (lv_at hl 0 rfl) ?_
        refine lv_aload_n hx hb dX6_init_67 rfl (lv_at hl 1 rfl) ?_
        refine m_get (ci := 6) (C := RX6) (T := TX6) (N := 6) hx hb ht ui_X6 hown hK hX.2 (⟨by omega, by omega⟩ : dm X (b + 15 + kq) (b)) hb0 rfl 5 (by decide) (ht _ uw_198) rfl dX6_init_68 ?_
        refine m_alen hx hb hK hX.2 (⟨by omega, by omega⟩ : dm X (b + 15 + kq) (b + 2)) 4 hra rfl (v := nI 20) rfl dX6_init_71 ?_
        refine lv_icmp_ge (tgt := 94) hx hb dX6_init_72 (by decide) (fun c_9 => ?_) (fun c_9 => ?_)
        · obtain rfl : kq = 20 := Nat.le_antisymm hk (nI_le_of (by omega) (by omega) c_9)
          have hX := (hX.fin (a := b + 1) ⟨by omega, by omega⟩ hga (f' := fun i => some (b + 3 + 2 * i)) (fun i hi => if_pos hi))
          obtain ⟨Mf, eM⟩ : ∃ M1 : MM, M1 = va_up M (b + 1) (gaE g b) := ⟨_, rfl⟩
          have hX : HX g X (b + 15 + 20) Mf H := by rw [eM]; exact hX
          have lo : ∀ q, q < b → Mf (q) = M0 q := fun q hq => by rw [eM]; exact (va_up_ne _ _ (by omega)).trans (lo q hq)
          have hb0 : Mf (b) = .inr (6, [.int (nI 10), .int (nI 1), .int 0, .int 0, .ref (b + 1), .ref (b + 2)]) := by rw [eM]; exact (va_up_ne _ _ (by omega)).trans (hb0 )
          have hra : Mf (b + 2) = .inl (g.2 4, 20, .inr (.inr (.inr (.inr (fun i => if i < 20 then some (b + 15 + i) else none))))) := by rw [eM]; exact (va_up_ne _ _ (by omega)).trans (hra )
          have hG : ∀ i, i < 6 → Mf (b + 3 + 2 * i) = gE b i (iniG i) := fun i hi => by rw [eM]; exact (va_up_ne _ _ (by omega)).trans (hG i hi)
          have hP : ∀ i, i < 6 → Mf (b + 4 + 2 * i) = pE (iniG i) := fun i hi => by rw [eM]; exact (va_up_ne _ _ (by omega)).trans (hP i hi)
          have hR : ∀ i, i < 20 → Mf (b + 15 + i) = rE (fun _ => 0) := fun i hi => by rw [eM]; exact (va_up_ne _ _ (by omega)).trans (hR i hi)
          have hga : Mf (b + 1) = gaE g b := by rw [eM]; exact va_up_self _ _ _
          have hX := (hX.fin (a := b + 2) ⟨by omega, by omega⟩ hra (f' := fun i => some (b + 15 + i)) (fun i hi => if_pos hi))
          obtain ⟨Mh, eM⟩ : ∃ M1 : MM, M1 = va_up Mf (b + 2) (raE g b id) := ⟨_, rfl⟩
          have hX : HX g X (b + 35) Mh H := by rw [eM]; exact hX
          have lo : ∀ q, q < b → Mh (q) = M0 q := fun q hq => by rw [eM]; exact (va_up_ne _ _ (by omega)).trans (lo q hq)
          have hb0 : Mh (b) = .inr (6, [.int (nI 10), .int (nI 1), .int 0, .int 0, .ref (b + 1), .ref (b + 2)]) := by rw [eM]; exact (va_up_ne _ _ (by omega)).trans (hb0 )
          have hga : Mh (b + 1) = gaE g b := by rw [eM, va_up_ne _ _ (by omega)]; exact hga
          have hG : ∀ i, i < 6 → Mh (b + 3 + 2 * i) = gE b i (iniG i) := fun i hi => by rw [eM]; exact (va_up_ne _ _ (by omega)).trans (hG i hi)
          have hP : ∀ i, i < 6 → Mh (b + 4 + 2 * i) = pE (iniG i) := fun i hi => by rw [eM]; exact (va_up_ne _ _ (by omega)).trans (hP i hi)
          have hR : ∀ i, i < 20 → Mh (b + 15 + i) = rE (fun _ => 0) := fun i hi => by rw [eM]; exact (va_up_ne _ _ (by omega)).trans (hR i hi)
          have hra : Mh (b + 2) = raE g b id := by rw [eM]; exact va_up_self _ _ _
          refine W.widen (k := 34) (n := 228) (by omega) (by omega) ?_
          subst hQ
          exact x_vret hx hb hr hlk hK hX hS dX6_init_94 (⟨lo, fun _ _ _ => trivial, ⟨fun j hj => hj, fun i j _ _ h => h⟩, hb0, hga, hra, hG, hP, hR⟩)
        · have hk6 : kq < 20 := nI_lt_of (by omega) (by omega) c_9
          refine lv_aload_n hx hb dX6_init_75 rfl (lv_at hl 1 rfl) ?_
          refine m_get (ci := 6) (C := RX6) (T := TX6) (N := 6) hx hb ht ui_X6 hown hK hX.2 (⟨by omega, by omega⟩ : dm X (b + 15 + kq) (b)) hb0 rfl 5 (by decide) (ht _ uw_198) rfl dX6_init_76 ?_
          refine lv_iload_n hx hb dX6_init_79 rfl (lv_at hl 0 rfl) ?_
          refine x_new (ci := 5) (fs := [.int 0, .int 0, .int 0, .int 0, .int 0]) (C := RX5) (T := TX5) (n := 5) hx hb ht ui_X5 tyX5 tyX5_ok hown (ht _ uw_60) (ht _ uw_158) (ht _ uw_38) hK hX hS rfl (fun j hj => by rcases (by omega : j = 0 ∨ j = 1 ∨ j = 2 ∨ j = 3 ∨ j = 4) with rfl | rfl | rfl | rfl | rfl <;> rfl) (show _ ≤ 34 by omega) (show _ ≤ 228 by omega) dX6_init_80 (fun H hX hS => ?_)
          obtain ⟨M7x, eM⟩ : ∃ M1 : MM, M1 = va_up M (b + 15 + kq) (.inr (5, [.int 0, .int 0, .int 0, .int 0, .int 0])) := ⟨_, rfl⟩
          have hX : HX g X (b + 15 + kq + 1) M7x H := by rw [eM]; exact hX
          have lo : ∀ q, q < b → M7x (q) = M0 q := fun q hq => by rw [eM]; exact (va_up_ne _ _ (by omega)).trans (lo q hq)
          have hb0 : M7x (b) = .inr (6, [.int (nI 10), .int (nI 1), .int 0, .int 0, .ref (b + 1), .ref (b + 2)]) := by rw [eM]; exact (va_up_ne _ _ (by omega)).trans (hb0 )
          have hga : M7x (b + 1) = .inl (g.2 3, 6, .inr (.inr (.inr (.inr (fun i => if i < 6 then some (b + 3 + 2 * i) else none))))) := by rw [eM]; exact (va_up_ne _ _ (by omega)).trans (hga )
          have hra : M7x (b + 2) = .inl (g.2 4, 20, .inr (.inr (.inr (.inr (fun i => if i < kq then some (b + 15 + i) else none))))) := by rw [eM]; exact (va_up_ne _ _ (by omega)).trans (hra )
          have hG : ∀ i, i < 6 → M7x (b + 3 + 2 * i) = gE b i (iniG i) := fun i hi => by rw [eM]; exact (va_up_ne _ _ (by omega)).trans (hG i hi)
          have hP : ∀ i, i < 6 → M7x (b + 4 + 2 * i) = pE (iniG i) := fun i hi => by rw [eM]; exact (va_up_ne _ _ (by omega)).trans (hP i hi)
          have hR : ∀ i, i < kq → M7x (b + 15 + i) = rE (fun _ => 0) := fun i hi => by rw [eM]; exact (va_up_ne _ _ (by omega)).trans (hR i hi)
          have hn9 : M7x (b + 15 + kq) = .inr (5, [.int 0, .int 0, .int 0, .int 0, .int 0]) := by rw [eM]; exact va_up_self _ _ _
          refine lv_dup hx hb dX6_init_83 rfl ?_
          refine x_callN (As := []) (rest := [.ref (b + 15 + kq), .int (nI kq), .ref (b + 2)]) ⟨hx, hb, hml, hown, ht⟩ (k_X5_init l g X (b + 15 + kq) M7x (by omega)) ⟨va_cnB 0 ht (gUI uw_161) rfl rfl rfl hNW.2.1 (ht _ uw_38) (by decide +kernel) ⟨by decide, by decide⟩, rfl, (ht _ uw_160)⟩ hK hNW hX hS rfl hl.1 rfl (Nat.le_of_ble_eq_true rfl) dX6_init_84 ⟨show _ ≤ 34 by omega, show _ ≤ 228 by omega⟩ (fun M8x H locs hp hX hS => ?_)
          have lo1 : ∀ q, q < b + 15 + kq → M8x q = M7x q := fun q _ => by rw [hp]
          have lo : ∀ q, q < b → M8x (q) = M0 q := fun q hq => (lo1 _ (by omega)).trans (lo q hq)
          have hb0 : M8x (b) = .inr (6, [.int (nI 10), .int (nI 1), .int 0, .int 0, .ref (b + 1), .ref (b + 2)]) := (lo1 _ (by omega)).trans (hb0 )
          have hga : M8x (b + 1) = .inl (g.2 3, 6, .inr (.inr (.inr (.inr (fun i => if i < 6 then some (b + 3 + 2 * i) else none))))) := (lo1 _ (by omega)).trans (hga )
          have hra : M8x (b + 2) = .inl (g.2 4, 20, .inr (.inr (.inr (.inr (fun i => if i < kq then some (b + 15 + i) else none))))) := (lo1 _ (by omega)).trans (hra )
          have hG : ∀ i, i < 6 → M8x (b + 3 + 2 * i) = gE b i (iniG i) := fun i hi => (lo1 _ (by omega)).trans (hG i hi)
          have hP : ∀ i, i < 6 → M8x (b + 4 + 2 * i) = pE (iniG i) := fun i hi => (lo1 _ (by omega)).trans (hP i hi)
          have hR : ∀ i, i < kq → M8x (b + 15 + i) = rE (fun _ => 0) := fun i hi => (lo1 _ (by omega)).trans (hR i hi)
          have hn9 : M8x (b + 15 + kq) = .inr (5, [.int 0, .int 0, .int 0, .int 0, .int 0]) := by rw [hp]; exact hn9
          have hX : HX g X (b + 15 + kq + 1) M8x H := hX
          refine x_aast (r := (RX5, TX5, 5)) hx hb hK hX hS ⟨by omega, by omega⟩ 4 5 hra rfl ⟨by omega, by omega⟩ hn9 rfl hk6 (by omega) dX6_init_87 (fun H locs hX hS => ?_)
          obtain ⟨M9x, eM⟩ : ∃ M1 : MM, M1 = va_up M8x (b + 2) (.inl (g.2 4, 20, .inr (.inr (.inr (.inr (va_up (fun i => if i < kq then some (b + 15 + i) else none) kq (some (b + 15 + kq)))))))) := ⟨_, rfl⟩
          have hX : HX g X (b + 15 + kq + 1) M9x H := by rw [eM]; exact hX
          have lo : ∀ q, q < b → M9x (q) = M0 q := fun q hq => by rw [eM]; exact (va_up_ne _ _ (by omega)).trans (lo q hq)
          have hb0 : M9x (b) = .inr (6, [.int (nI 10), .int (nI 1), .int 0, .int 0, .ref (b + 1), .ref (b + 2)]) := by rw [eM]; exact (va_up_ne _ _ (by omega)).trans (hb0 )
          have hga : M9x (b + 1) = .inl (g.2 3, 6, .inr (.inr (.inr (.inr (fun i => if i < 6 then some (b + 3 + 2 * i) else none))))) := by rw [eM]; exact (va_up_ne _ _ (by omega)).trans (hga )
          have hra : M9x (b + 2) = .inl (g.2 4, 20, .inr (.inr (.inr (.inr (va_up (fun i => if i < kq then some (b + 15 + i) else none) kq (some (b + 15 + kq))))))) := by rw [eM]; exact va_up_self _ _ _
          have hG : ∀ i, i < 6 → M9x (b + 3 + 2 * i) = gE b i (iniG i) := fun i hi => by rw [eM]; exact (va_up_ne _ _ (by omega)).trans (hG i hi)
          have hP : ∀ i, i < 6 → M9x (b + 4 + 2 * i) = pE (iniG i) := fun i hi => by rw [eM]; exact (va_up_ne _ _ (by omega)).trans (hP i hi)
          have hR : ∀ i, i < kq → M9x (b + 15 + i) = rE (fun _ => 0) := fun i hi => by rw [eM]; exact (va_up_ne _ _ (by omega)).trans (hR i hi)
          have hn9 : M9x (b + 15 + kq) = .inr (5, [.int 0, .int 0, .int 0, .int 0, .int 0]) := by rw [eM]; exact (va_up_ne _ _ (by omega)).trans (hn9 )
          refine lv_iinc (v := nI (kq + 1)) (lv' := [(1, .int (nI (kq + 1))), (0, .ref (b))]) hx hb dX6_init_88 hl (k := 0) rfl (nI_1 _) (by decide) rfl (fun ls hl => ?_)
          refine lv_goto (tgt := 66) hx hb dX6_init_91 (by decide) ?_
          refine W.widen (k := 14 + (kq + 1)) (n := 128 + 5 * (kq + 1)) (by omega) (by omega) ?_
          exact ih (kq + 1) _ _ _ _ (by omega) (by omega) lo hb0 hga (arrE_up (F := fun i => b + 15 + i) hra) hG hP (fun i hi => by
                  by_cases hik : i = kq
                  · rw [hik]; exact hn9
                  · exact hR i (by omega)) (by rw [show b + 15 + (kq + 1) = b + 15 + kq + 1 by omega]; exact hX) hS hl
      exact loop_66 21 0 _ _ _ _ (by omega) (by omega) lo hb0 hga (arrE_0 (fun i => b + 15 + i) hra) hG hP (fun i hi => absurd hi (Nat.not_lt_zero i)) (by exact hX) hS hl
    · have hk6 : kq < 6 := nI_lt_of (by omega) (by omega) c_9
      refine lv_aload_n hx hb dX6_init_44 rfl (lv_at hl 1 rfl) ?_
      refine m_get (ci := 6) (C := RX6) (T := TX6) (N := 6) hx hb ht ui_X6 hown hK hX.2 (⟨by omega, by omega⟩ : dm X (b + 3 + 2 * kq) (b)) hb0 rfl 4 (by decide) (ht _ uw_196) rfl dX6_init_45 ?_
      refine lv_iload_n hx hb dX6_init_48 rfl (lv_at hl 0 rfl) ?_
      refine x_new (ci := 0) (fs := [.int 0, .int 0, .int 0, .int 0, .int 0, .int 0, .int 0, .int 0, .null]) (C := RX0) (T := TX0) (n := 9) hx hb ht ui_X0 tyX0 tyX0_ok hown (ht _ uw_58) (ht _ uw_62) (ht _ uw_36) hK hX hS rfl (fun j hj => by rcases (by omega : j = 0 ∨ j = 1 ∨ j = 2 ∨ j = 3 ∨ j = 4 ∨ j = 5 ∨ j = 6 ∨ j = 7 ∨ j = 8) with rfl | rfl | rfl | rfl | rfl | rfl | rfl | rfl | rfl <;> rfl) (show _ ≤ 34 by omega) (show _ ≤ 228 by omega) dX6_init_49 (fun H hX hS => ?_)
      obtain ⟨M10x, eM⟩ : ∃ M1 : MM, M1 = va_up M (b + 3 + 2 * kq) (.inr (0, [.int 0, .int 0, .int 0, .int 0, .int 0, .int 0, .int 0, .int 0, .null])) := ⟨_, rfl⟩
      have hX : HX g X (b + 3 + 2 * kq + 1) M10x H := by rw [eM]; exact hX
      have lo : ∀ q, q < b → M10x (q) = M0 q := fun q hq => by rw [eM]; exact (va_up_ne _ _ (by omega)).trans (lo q hq)
      have hb0 : M10x (b) = .inr (6, [.int (nI 10), .int (nI 1), .int 0, .int 0, .ref (b + 1), .ref (b + 2)]) := by rw [eM]; exact (va_up_ne _ _ (by omega)).trans (hb0 )
      have hga : M10x (b + 1) = .inl (g.2 3, 6, .inr (.inr (.inr (.inr (fun i => if i < kq then some (b + 3 + 2 * i) else none))))) := by rw [eM]; exact (va_up_ne _ _ (by omega)).trans (hga )
      have hra : M10x (b + 2) = .inl (g.2 4, 20, .inr (.inr (.inr (.inr (fun _ => none))))) := by rw [eM]; exact (va_up_ne _ _ (by omega)).trans (hra )
      have hG : ∀ i, i < kq → M10x (b + 3 + 2 * i) = gE b i (iniG i) := fun i hi => by rw [eM]; exact (va_up_ne _ _ (by omega)).trans (hG i hi)
      have hP : ∀ i, i < kq → M10x (b + 4 + 2 * i) = pE (iniG i) := fun i hi => by rw [eM]; exact (va_up_ne _ _ (by omega)).trans (hP i hi)
      have hn9 : M10x (b + 3 + 2 * kq) = .inr (0, [.int 0, .int 0, .int 0, .int 0, .int 0, .int 0, .int 0, .int 0, .null]) := by rw [eM]; exact va_up_self _ _ _
      refine lv_dup hx hb dX6_init_52 rfl ?_
      refine lv_iload_n hx hb dX6_init_53 rfl (lv_at hl 0 rfl) ?_
      refine x_callI (As := [.int (nI kq)]) (rest := [.ref (b + 3 + 2 * kq), .int (nI kq), .ref (b + 1)]) ⟨hx, hb, hml, hown, ht⟩ (k_X0_init l g X (b + 3 + 2 * kq) M10x (nI kq) hn9 (by omega)) (cwI 1 ht (gUI uw_65) rfl rfl rfl (ht _ uw_36) (ht _ uw_63) (ht _ uw_64) rfl (by decide +kernel) ⟨by decide, by decide⟩) hK hNW hX hS rfl hl.1 rfl (Nat.le_of_ble_eq_true rfl) dX6_init_54 ⟨show _ ≤ 34 by omega, show _ ≤ 228 by omega⟩ (fun M11x H locs hp hX hS => ?_)
      obtain ⟨lo1, hg9, hp9⟩ := hp
      have lo : ∀ q, q < b → M11x (q) = M0 q := fun q hq => (lo1 _ (by omega)).trans (lo q hq)
      have hb0 : M11x (b) = .inr (6, [.int (nI 10), .int (nI 1), .int 0, .int 0, .ref (b + 1), .ref (b + 2)]) := (lo1 _ (by omega)).trans (hb0 )
      have hga : M11x (b + 1) = .inl (g.2 3, 6, .inr (.inr (.inr (.inr (fun i => if i < kq then some (b + 3 + 2 * i) else none))))) := (lo1 _ (by omega)).trans (hga )
      have hra : M11x (b + 2) = .inl (g.2 4, 20, .inr (.inr (.inr (.inr (fun _ => none))))) := (lo1 _ (by omega)).trans (hra )
      have hG : ∀ i, i < kq → M11x (b + 3 + 2 * i) = gE b i (iniG i) := fun i hi => (lo1 _ (by omega)).trans (hG i hi)
      have hP : ∀ i, i < kq → M11x (b + 4 + 2 * i) = pE (iniG i) := fun i hi => (lo1 _ (by omega)).trans (hP i hi)
      have hg9 : M11x (b + 3 + 2 * kq) = .inr (0, [.int (nI 3), .int (nI 10), .int (nI 100), .int (nI kq), .int 0, .int 0, .int 0, .int 0, .ref (b + 3 + 2 * kq + 1)]) := hg9
      have hp9 : M11x (b + 3 + 2 * kq + 1) = .inr (4, [.int 0, .int 0, .int 0, .int 0, .int 0, .int 0, .int 0, .int 0]) := hp9
      have hX : HX g X (b + 3 + 2 * kq + 2) M11x H := hX
      refine x_aast (r := (RX0, TX0, 9)) hx hb hK hX hS ⟨by omega, by omega⟩ 3 0 hga rfl ⟨by omega, by omega⟩ hg9 rfl hk6 (by omega) dX6_init_57 (fun H locs hX hS => ?_)
      obtain ⟨M12x, eM⟩ : ∃ M1 : MM, M1 = va_up M11x (b + 1) (.inl (g.2 3, 6, .inr (.inr (.inr (.inr (va_up (fun i => if i < kq then some (b + 3 + 2 * i) else none) kq (some (b + 3 + 2 * kq)))))))) := ⟨_, rfl⟩
      have hX : HX g X (b + 3 + 2 * kq + 2) M12x H := by rw [eM]; exact hX
      have lo : ∀ q, q < b → M12x (q) = M0 q := fun q hq => by rw [eM]; exact (va_up_ne _ _ (by omega)).trans (lo q hq)
      have hb0 : M12x (b) = .inr (6, [.int (nI 10), .int (nI 1), .int 0, .int 0, .ref (b + 1), .ref (b + 2)]) := by rw [eM]; exact (va_up_ne _ _ (by omega)).trans (hb0 )
      have hga : M12x (b + 1) = .inl (g.2 3, 6, .inr (.inr (.inr (.inr (va_up (fun i => if i < kq then some (b + 3 + 2 * i) else none) kq (some (b + 3 + 2 * kq))))))) := by rw [eM]; exact va_up_self _ _ _
      have hra : M12x (b + 2) = .inl (g.2 4, 20, .inr (.inr (.inr (.inr (fun _ => none))))) := by rw [eM]; exact (va_up_ne _ _ (by omega)).trans (hra )
      have hG : ∀ i, i < kq → M12x (b + 3 + 2 * i) = gE b i (iniG i) := fun i hi => by rw [eM]; exact (va_up_ne _ _ (by omega)).trans (hG i hi)
      have hP : ∀ i, i < kq → M12x (b + 4 + 2 * i) = pE (iniG i) := fun i hi => by rw [eM]; exact (va_up_ne _ _ (by omega)).trans (hP i hi)
      have hg9 : M12x (b + 3 + 2 * kq) = .inr (0, [.int (nI 3), .int (nI 10), .int (nI 100), .int (nI kq), .int 0, .int 0, .int 0, .int 0, .ref (b + 3 + 2 * kq + 1)]) := by rw [eM]; exact (va_up_ne _ _ (by omega)).trans (hg9 )
      have hp9 : M12x (b + 3 + 2 * kq + 1) = .inr (4, [.int 0, .int 0, .int 0, .int 0, .int 0, .int 0, .int 0, .int 0]) := by rw [eM]; exact (va_up_ne _ _ (by omega)).trans (hp9 )
      refine lv_iinc (v := nI (kq + 1)) (lv' := [(1, .int (nI (kq + 1))), (0, .ref (b))]) hx hb dX6_init_58 hl (k := 0) rfl (nI_1 _) (by decide) rfl (fun ls hl => ?_)
      refine lv_goto (tgt := 35) hx hb dX6_init_61 (by decide) ?_
      refine W.widen (k := 2 + 2 * (kq + 1)) (n := 26 + 17 * (kq + 1)) (by omega) (by omega) ?_
      exact ih (kq + 1) _ _ _ _ (by omega) (by omega) lo hb0 (arrE_up (F := fun i => b + 3 + 2 * i) hga) hra (fun i hi => by
              by_cases hik : i = kq
              · rw [hik]; exact hg9.trans (by rw [show b + 3 + 2 * kq + 1 = b + 4 + 2 * kq by omega]; rfl)
              · exact hG i (by omega)) (fun i hi => by
              by_cases hik : i = kq
              · rw [hik, show b + 4 + 2 * kq = b + 3 + 2 * kq + 1 by omega]; exact hp9
              · exact hP i (by omega)) (by rw [show b + 3 + 2 * (kq + 1) = b + 3 + 2 * kq + 2 by omega]; exact hX) hS hl
  exact loop_35 7 0 _ _ _ _ (by omega) (by omega) lo hb0 (arrE_0 (fun i => b + 3 + 2 * i) hga) hra (fun i hi => absurd hi (Nat.not_lt_zero i)) (fun i hi => absurd hi (Nat.not_lt_zero i)) (by exact hX) hS hl

set_option maxHeartbeats 4000000 in
set_option maxRecDepth 100000 in
/-- a history -/
theorem k_X1_init (l : Launch) (g : GG) (X b : Nat) (M0 : MM) (hb0 : M0 (b) = .inr (1, [.null, .int 0])) (hXb : X ≤ b) : Met l yX1_init (Uw yX1_init cX1_init 2 (Option.none : Option ClassFile.FieldType)) (rmC 4 211 1410) (PreX [.ref b] g X (b + 1) M0) (PosX (fun M1 => (∀ q, q < b → M1 q = M0 q) ∧ RepH g (fun _ => True) M1 b id (fun _ => id) (fun _ => iniV) 0) g X (b + 212)) 211 1410 (upX X) := by
  refine mk_MetX (own := RX1) rfl rfl (by decide) (Nat.le_of_ble_eq_true rfl) ?_
  intro p e s m below meth c ls aa Q haa hQ hx hb hr hlk hml hown hts hK hNW hX hS hl hnm
  have ht : ∀ w ∈ lw_good, w.before _ s = true := fun w h => hts w (List.mem_cons_of_mem _ h)
  have hl : lv_has ls 2 [(0, .ref b)] := hl
  have lo : ∀ q, q < b → M0 q = M0 q := fun _ _ => rfl
  refine lv_aload_n hx hb dX1_init_0 rfl (lv_at hl 0 rfl) ?_
  refine W.objInit hx hb hown (ht _ uw_217) (ht _ uw_50) (ht _ uw_51) rfl (by rw [hml]; exact hl.1) rfl dX1_init_1 (Nat.le_of_ble_eq_true rfl) (Nat.le_of_ble_eq_true rfl) ?_
  refine lv_aload_n hx hb dX1_init_4 rfl (lv_at hl 0 rfl) ?_
  refine lv_bipush (v := nI 6) hx hb dX1_init_5 (by first | rfl | decide) ?_
  refine x_newq (C := RX6) hx hb hown (ht _ uw_218) hNW.2.2.2.2.2 hK hX hS 5 rfl (nI_pos (by omega)) (nI_clamp (by omega)) (Nat.le_of_ble_eq_true rfl) (Nat.le_of_ble_eq_true rfl) (Nat.le_of_ble_eq_true rfl) dX1_init_7 (fun H hX hS => ?_)
  obtain ⟨M1x, eM⟩ : ∃ M1 : MM, M1 = va_up M0 (b + 1) (.inl (g.2 5, 6, .inr (.inr (.inr (.inr (fun _ => none)))))) := ⟨_, rfl⟩
  have hX : HX g X (b + 2) M1x H := by rw [eM]; exact hX
  have lo : ∀ q, q < b → M1x (q) = M0 q := fun q hq => by rw [eM]; exact (va_up_ne _ _ (by omega)).trans (lo q hq)
  have hb0 : M1x (b) = .inr (1, [.null, .int 0]) := by rw [eM]; exact (va_up_ne _ _ (by omega)).trans (hb0 )
  have hga : M1x (b + 1) = .inl (g.2 5, 6, .inr (.inr (.inr (.inr (fun _ => none))))) := by rw [eM]; exact va_up_self _ _ _
  refine x_putF (ci := 1) (C := RX1) (T := TX1) (n := 2) hx hb ht ui_X1 tyX1 tyX1_ok nmX1 hown hK hX hS ⟨by omega, by omega⟩ hb0 rfl 0 (by decide) (ht _ uw_221) rfl (hnm.trans rfl) rfl rfl rfl (Nat.le_of_ble_eq_true rfl) dX1_init_10 (fun H locs hX hS => ?_)
  obtain ⟨M2x, eM⟩ : ∃ M1 : MM, M1 = va_up M1x (b) (.inr (1, [.ref (b + 1), .int 0])) := ⟨_, rfl⟩
  have hX : HX g X (b + 2) M2x H := by rw [eM]; exact hX
  have lo : ∀ q, q < b → M2x (q) = M0 q := fun q hq => by rw [eM]; exact (va_up_ne _ _ (by omega)).trans (lo q hq)
  have hb0 : M2x (b) = .inr (1, [.ref (b + 1), .int 0]) := by rw [eM]; exact va_up_self _ _ _
  have hga : M2x (b + 1) = .inl (g.2 5, 6, .inr (.inr (.inr (.inr (fun _ => none))))) := by rw [eM]; exact (va_up_ne _ _ (by omega)).trans (hga )
  refine lv_iconst (v := nI 0) hx hb dX1_init_13 (by first | rfl | decide) ?_
  refine lv_istore_n (lv' := [(1, .int (nI 0)), (0, .ref (b))]) hx hb dX1_init_14 rfl hl (by decide) rfl (fun ls hl => ?_)
  have loop_15 : ∀ (z : Nat) (kq : Nat) (M : MM) (H : Heap) (locs : List Loc) (ls : Array Slot), 6 - kq < z → kq ≤ 6 → (∀ q, q < b → M (q) = M0 q) → (M (b) = .inr (1, [.ref (b + 1), .int 0])) → (M (b + 1) = .inl (g.2 5, 6, .inr (.inr (.inr (.inr (fun i => if i < kq then some (b + 2 + 35 * i) else none)))))) → (∀ j, j < kq → RepV g (fun _ => True) M (b + 2 + 35 * j) id iniV) → HX g X (b + 2 + 35 * kq) M H → va_S (upX X) s.heap H locs → lv_has ls 2 [(1, .int (nI kq)), (0, .ref (b))] → W p l e (rmC 4 211 1410) s m aa below meth c H locs (1 + 35 * kq) (6 + 234 * kq) Q (F0 m 15 ls []) := by
    intro z
    induction z with
    | zero => intro kq M H locs ls hz hk lo hb0 hga hV; exact absurd hz (Nat.not_lt_zero _)
    | succ z ih =>
    intro kq M H locs ls hz hk lo hb0 hga hV hX hS hl
    refine lv_iload_n hx hb dX1_init_15 rfl (lv_at hl 0 rfl) ?_
    refine lv_aload_n hx hb dX1_init_16 rfl (lv_at hl 1 rfl) ?_
    refine m_get (ci := 1) (C := RX1) (T := TX1) (N := 2) hx hb ht ui_X1 hown hK hX.2 (⟨by omega, by omega⟩ : dm X (b + 2 + 35 * kq) (b)) hb0 rfl 0 (by decide) (ht _ uw_221) rfl dX1_init_17 ?_
    refine m_alen hx hb hK hX.2 (⟨by omega, by omega⟩ : dm X (b + 2 + 35 * kq) (b + 1)) 5 hga rfl (v := nI 6) rfl dX1_init_20 ?_
    refine lv_icmp_ge (tgt := 43) hx hb dX1_init_21 (by decide) (fun c_9 => ?_) (fun c_9 => ?_)
    · obtain rfl : kq = 6 := Nat.le_antisymm hk (nI_le_of (by omega) (by omega) c_9)
      have hX := (hX.fin (a := b + 1) ⟨by omega, by omega⟩ hga (f' := fun i => some (b + 2 + 35 * id i)) (fun i hi => if_pos hi))
      obtain ⟨Mf, eM⟩ : ∃ M1 : MM, M1 = va_up M (b + 1) (haE g b id) := ⟨_, rfl⟩
      have hX : HX g X (b + 212) Mf H := by rw [eM]; exact hX
      have lo : ∀ q, q < b → Mf (q) = M0 q := fun q hq => by rw [eM]; exact (va_up_ne _ _ (by omega)).trans (lo q hq)
      have hb0 : Mf (b) = .inr (1, [.ref (b + 1), .int 0]) := by rw [eM]; exact (va_up_ne _ _ (by omega)).trans (hb0 )
      have hV : ∀ j, j < 6 → RepV g (fun _ => True) Mf (b + 2 + 35 * j) id iniV := fun j hj => (hV j hj).agr (fun q z1 z2 => by rw [eM]; exact va_up_ne _ _ (by omega))
      have hga : Mf (b + 1) = haE g b id := by rw [eM]; exact va_up_self _ _ _
      refine W.widen (k := 211) (n := 1410) (by omega) (by omega) ?_
      subst hQ
      exact x_vret hx hb hr hlk hK hX hS dX1_init_43 (⟨lo, trivial, trivial, ⟨fun j hj => hj, fun i j _ _ h => h⟩, hb0, hga, hV⟩)
    · have hk6 : kq < 6 := nI_lt_of (by omega) (by omega) c_9
      refine lv_aload_n hx hb dX1_init_24 rfl (lv_at hl 1 rfl) ?_
      refine m_get (ci := 1) (C := RX1) (T := TX1) (N := 2) hx hb ht ui_X1 hown hK hX.2 (⟨by omega, by omega⟩ : dm X (b + 2 + 35 * kq) (b)) hb0 rfl 0 (by decide) (ht _ uw_221) rfl dX1_init_25 ?_
      refine lv_iload_n hx hb dX1_init_28 rfl (lv_at hl 0 rfl) ?_
      refine x_new (ci := 6) (fs := [.int 0, .int 0, .int 0, .int 0, .null, .null]) (C := RX6) (T := TX6) (n := 6) hx hb ht ui_X6 tyX6 tyX6_ok hown (ht _ uw_218) (ht _ uw_53) (ht _ uw_35) hK hX hS rfl (fun j hj => by rcases (by omega : j = 0 ∨ j = 1 ∨ j = 2 ∨ j = 3 ∨ j = 4 ∨ j = 5) with rfl | rfl | rfl | rfl | rfl | rfl <;> rfl) (show _ ≤ 211 by omega) (show _ ≤ 1410 by omega) dX1_init_29 (fun H hX hS => ?_)
      obtain ⟨M3x, eM⟩ : ∃ M1 : MM, M1 = va_up M (b + 2 + 35 * kq) (.inr (6, [.int 0, .int 0, .int 0, .int 0, .null, .null])) := ⟨_, rfl⟩
      have hX : HX g X (b + 2 + 35 * kq + 1) M3x H := by rw [eM]; exact hX
      have lo : ∀ q, q < b → M3x (q) = M0 q := fun q hq => by rw [eM]; exact (va_up_ne _ _ (by omega)).trans (lo q hq)
      have hb0 : M3x (b) = .inr (1, [.ref (b + 1), .int 0]) := by rw [eM]; exact (va_up_ne _ _ (by omega)).trans (hb0 )
      have hga : M3x (b + 1) = .inl (g.2 5, 6, .inr (.inr (.inr (.inr (fun i => if i < kq then some (b + 2 + 35 * i) else none))))) := by rw [eM]; exact (va_up_ne _ _ (by omega)).trans (hga )
      have hV : ∀ j, j < kq → RepV g (fun _ => True) M3x (b + 2 + 35 * j) id iniV := fun j hj => (hV j hj).agr (fun q z1 z2 => by rw [eM]; exact va_up_ne _ _ (by omega))
      have hn9 : M3x (b + 2 + 35 * kq) = .inr (6, [.int 0, .int 0, .int 0, .int 0, .null, .null]) := by rw [eM]; exact va_up_self _ _ _
      refine lv_dup hx hb dX1_init_32 rfl ?_
      refine x_callI (As := []) (rest := [.ref (b + 2 + 35 * kq), .int (nI kq), .ref (b + 1)]) ⟨hx, hb, hml, hown, ht⟩ (k_X6_init l g X (b + 2 + 35 * kq) M3x hn9 (by omega)) (cwI 0 ht (gUI uw_56) rfl rfl rfl (ht _ uw_35) (ht _ uw_220) (ht _ uw_55) rfl (by decide +kernel) ⟨by decide, by decide⟩) hK hNW hX hS rfl hl.1 rfl (Nat.le_of_ble_eq_true rfl) dX1_init_33 ⟨show _ ≤ 211 by omega, show _ ≤ 1410 by omega⟩ (fun M4x H locs hp hX hS => ?_)
      obtain ⟨lo1, hv9⟩ := hp
      have lo : ∀ q, q < b → M4x (q) = M0 q := fun q hq => (lo1 _ (by omega)).trans (lo q hq)
      have hb0 : M4x (b) = .inr (1, [.ref (b + 1), .int 0]) := (lo1 _ (by omega)).trans (hb0 )
      have hga : M4x (b + 1) = .inl (g.2 5, 6, .inr (.inr (.inr (.inr (fun i => if i < kq then some (b + 2 + 35 * i) else none))))) := (lo1 _ (by omega)).trans (hga )
      have hV : ∀ j, j < kq → RepV g (fun _ => True) M4x (b + 2 + 35 * j) id iniV := fun j hj => (hV j hj).agr (fun q z1 z2 => lo1 q (by omega))
      have hv8 : RepV g (fun _ => True) M4x (b + 2 + 35 * kq) id iniV := hv9
      have hX : HX g X (b + 2 + 35 * kq + 35) M4x H := hX
      obtain ⟨hvW, hvL⟩ := rv_obj hv8
      refine x_aast (r := (RX6, TX6, 6)) hx hb hK hX hS ⟨by omega, by omega⟩ 5 6 hga rfl ⟨by omega, by omega⟩ hvW rfl hk6 (by omega) dX1_init_36 (fun H locs hX hS => ?_)
      obtain ⟨M5x, eM⟩ : ∃ M1 : MM, M1 = va_up M4x (b + 1) (.inl (g.2 5, 6, .inr (.inr (.inr (.inr (va_up (fun i => if i < kq then some (b + 2 + 35 * i) else none) kq (some (b + 2 + 35 * kq)))))))) := ⟨_, rfl⟩
      have hX : HX g X (b + 2 + 35 * kq + 35) M5x H := by rw [eM]; exact hX
      have lo : ∀ q, q < b → M5x (q) = M0 q := fun q hq => by rw [eM]; exact (va_up_ne _ _ (by omega)).trans (lo q hq)
      have hb0 : M5x (b) = .inr (1, [.ref (b + 1), .int 0]) := by rw [eM]; exact (va_up_ne _ _ (by omega)).trans (hb0 )
      have hga : M5x (b + 1) = .inl (g.2 5, 6, .inr (.inr (.inr (.inr (va_up (fun i => if i < kq then some (b + 2 + 35 * i) else none) kq (some (b + 2 + 35 * kq))))))) := by rw [eM]; exact va_up_self _ _ _
      have hV : ∀ j, j < kq → RepV g (fun _ => True) M5x (b + 2 + 35 * j) id iniV := fun j hj => (hV j hj).agr (fun q z1 z2 => by rw [eM]; exact va_up_ne _ _ (by omega))
      have hv8 : RepV g (fun _ => True) M5x (b + 2 + 35 * kq) id iniV := (hv8 ).agr (fun q z1 z2 => by rw [eM]; exact va_up_ne _ _ (by omega))
      refine lv_iinc (v := nI (kq + 1)) (lv' := [(1, .int (nI (kq + 1))), (0, .ref (b))]) hx hb dX1_init_37 hl (k := 0) rfl (nI_1 _) (by decide) rfl (fun ls hl => ?_)
      refine lv_goto (tgt := 15) hx hb dX1_init_40 (by decide) ?_
      refine W.widen (k := 1 + 35 * (kq + 1)) (n := 6 + 234 * (kq + 1)) (by omega) (by omega) ?_
      exact ih (kq + 1) _ _ _ _ (by omega) (by omega) lo hb0 (arrE_up (F := fun i => b + 2 + 35 * i) hga) (fun j hj => by
              by_cases hik : j = kq
              · rw [hik]; exact hv8
              · exact hV j (by omega)) (by rw [show b + 2 + 35 * (kq + 1) = b + 2 + 35 * kq + 35 by omega]; exact hX) hS hl
  exact loop_15 7 0 _ _ _ _ (by omega) (by omega) lo hb0 (arrE_0 (fun i => b + 2 + 35 * i) hga) (fun j hj => absurd hj (Nat.not_lt_zero j)) (by exact hX) hS hl

set_option maxHeartbeats 4000000 in
set_option maxRecDepth 100000 in
/-- a pad -/
theorem k_X3_init (l : Launch) (g : GG) (X b : Nat) (M0 : MM) (hb0 : M0 (b) = .inr (3, [.null, .int 0])) (hXb : X ≤ b) : Met l yX3_init (Uw yX3_init cX3_init 1 (Option.none : Option ClassFile.FieldType)) (rmC 1 1 60) (PreX [.ref b] g X (b + 1) M0) (PosX (fun M1 => (∀ q, q < b → M1 q = M0 q) ∧ M1 b = .inr (3, [.ref (b + 1), .int 0]) ∧ M1 (b + 1) = .inl (g.2 0, 60, .inl (fun _ => 0))) g X (b + 2)) 1 60 (upX X) := by
  refine mk_MetX (own := RX3) rfl rfl (by decide) (Nat.le_of_ble_eq_true rfl) ?_
  intro p e s m below meth c ls aa Q haa hQ hx hb hr hlk hml hown hts hK hNW hX hS hl hnm
  have ht : ∀ w ∈ lw_good, w.before _ s = true := fun w h => hts w (List.mem_cons_of_mem _ h)
  have hl : lv_has ls 1 [(0, .ref b)] := hl
  have lo : ∀ q, q < b → M0 q = M0 q := fun _ _ => rfl
  refine lv_aload_n hx hb dX3_init_0 rfl (lv_at hl 0 rfl) ?_
  refine W.objInit hx hb hown (ht _ uw_234) (ht _ uw_50) (ht _ uw_51) rfl (by rw [hml]; exact hl.1) rfl dX3_init_1 (Nat.le_of_ble_eq_true rfl) (Nat.le_of_ble_eq_true rfl) ?_
  refine lv_aload_n hx hb dX3_init_4 rfl (lv_at hl 0 rfl) ?_
  refine lv_bipush (v := nI 60) hx hb dX3_init_5 (by first | rfl | decide) ?_
  refine x_newa (atype := .char) hx hb (ht _ uw_245) hK hX hS 0 rfl (fun z => z) rfl (nI_pos (by omega)) (nI_clamp (by omega)) (Nat.le_of_ble_eq_true rfl) (Nat.le_of_ble_eq_true rfl) (Nat.le_of_ble_eq_true rfl) dX3_init_7 (fun H hX hS => ?_)
  obtain ⟨M1x, eM⟩ : ∃ M1 : MM, M1 = va_up M0 (b + 1) (.inl (g.2 0, 60, .inl (fun _ => 0))) := ⟨_, rfl⟩
  have hX : HX g X (b + 2) M1x H := by rw [eM]; exact hX
  have lo : ∀ q, q < b → M1x (q) = M0 q := fun q hq => by rw [eM]; exact (va_up_ne _ _ (by omega)).trans (lo q hq)
  have hb0 : M1x (b) = .inr (3, [.null, .int 0]) := by rw [eM]; exact (va_up_ne _ _ (by omega)).trans (hb0 )
  have hsg : M1x (b + 1) = .inl (g.2 0, 60, .inl (fun _ => 0)) := by rw [eM]; exact va_up_self _ _ _
  refine x_putF (ci := 3) (C := RX3) (T := TX3) (n := 2) hx hb ht ui_X3 tyX3 tyX3_ok nmX3 hown hK hX hS ⟨by omega, by omega⟩ hb0 rfl 0 (by decide) (ht _ uw_235) rfl (hnm.trans rfl) rfl rfl rfl (Nat.le_of_ble_eq_true rfl) dX3_init_9 (fun H locs hX hS => ?_)
  obtain ⟨M2x, eM⟩ : ∃ M1 : MM, M1 = va_up M1x (b) (.inr (3, [.ref (b + 1), .int 0])) := ⟨_, rfl⟩
  have hX : HX g X (b + 2) M2x H := by rw [eM]; exact hX
  have lo : ∀ q, q < b → M2x (q) = M0 q := fun q hq => by rw [eM]; exact (va_up_ne _ _ (by omega)).trans (lo q hq)
  have hb0 : M2x (b) = .inr (3, [.ref (b + 1), .int 0]) := by rw [eM]; exact va_up_self _ _ _
  have hsg : M2x (b + 1) = .inl (g.2 0, 60, .inl (fun _ => 0)) := by rw [eM]; exact (va_up_ne _ _ (by omega)).trans (hsg )
  refine W.widen (k := 1) (n := 60) (by omega) (by omega) ?_
  subst hQ
  exact x_vret hx hb hr hlk hK hX hS dX3_init_12 (⟨lo, hb0, hsg⟩)

set_option maxHeartbeats 4000000 in
set_option maxRecDepth 100000 in
/-- a reader -/
theorem k_X2_init (l : Launch) (g : GG) (X b : Nat) (M0 : MM) (a : Nat) (hb0 : M0 (b) = .inr (2, [.null, .int 0, .int 0, .int 0, .int 0, .int 0])) (hXb : X ≤ b) : Met l yX2_init (Uw yX2_init cX2_init 2 (Option.none : Option ClassFile.FieldType)) (rmC 1 0 0) (PreX [.ref b, .ref a] g X (b + 1) M0) (PosX (fun M1 => (∀ q, q < b → M1 q = M0 q) ∧ M1 b = .inr (2, [.ref (a), .int 0, .int 0, .int 0, .int 0, .int 0])) g X (b + 1)) 0 0 (upX X) := by
  refine mk_MetX (own := RX2) rfl rfl (by decide) (Nat.le_of_ble_eq_true rfl) ?_
  intro p e s m below meth c ls aa Q haa hQ hx hb hr hlk hml hown hts hK hNW hX hS hl hnm
  have ht : ∀ w ∈ lw_good, w.before _ s = true := fun w h => hts w (List.mem_cons_of_mem _ h)
  have hl : lv_has ls 2 [(0, .ref b), (1, .ref a)] := hl
  have lo : ∀ q, q < b → M0 q = M0 q := fun _ _ => rfl
  refine lv_aload_n hx hb dX2_init_0 rfl (lv_at hl 0 rfl) ?_
  refine W.objInit hx hb hown (ht _ uw_251) (ht _ uw_50) (ht _ uw_51) rfl (by rw [hml]; exact hl.1) rfl dX2_init_1 (Nat.le_of_ble_eq_true rfl) (Nat.le_of_ble_eq_true rfl) ?_
  refine lv_aload_n hx hb dX2_init_4 rfl (lv_at hl 0 rfl) ?_
  refine lv_aload_n hx hb dX2_init_5 rfl (lv_at hl 1 rfl) ?_
  refine x_putF (ci := 2) (C := RX2) (T := TX2) (n := 6) hx hb ht ui_X2 tyX2 tyX2_ok nmX2 hown hK hX hS ⟨by omega, by omega⟩ hb0 rfl 0 (by decide) (ht _ uw_252) rfl (hnm.trans rfl) rfl rfl rfl (Nat.le_of_ble_eq_true rfl) dX2_init_6 (fun H locs hX hS => ?_)
  obtain ⟨M1x, eM⟩ : ∃ M1 : MM, M1 = va_up M0 (b) (.inr (2, [.ref (a), .int 0, .int 0, .int 0, .int 0, .int 0])) := ⟨_, rfl⟩
  have hX : HX g X (b + 1) M1x H := by rw [eM]; exact hX
  have lo : ∀ q, q < b → M1x (q) = M0 q := fun q hq => by rw [eM]; exact (va_up_ne _ _ (by omega)).trans (lo q hq)
  have hb0 : M1x (b) = .inr (2, [.ref (a), .int 0, .int 0, .int 0, .int 0, .int 0]) := by rw [eM]; exact va_up_self _ _ _
  refine W.widen (k := 0) (n := 0) (by omega) (by omega) ?_
  subst hQ
  exact x_vret hx hb hr hlk hK hX hS dX2_init_9 (⟨lo, hb0⟩)

set_option maxHeartbeats 4000000 in
set_option maxRecDepth 100000 in
/-- the object -/
theorem k_X7_init (l : Launch) (g : GG) (X b : Nat) (M0 : MM) (hb0 : M0 (b) = .inr (7, [.null, .null, .null, .null, .null, .null, .null])) (hXb : X ≤ b) : Met l yX7_init (Uw yX7_init cX7_init 2 (Option.none : Option ClassFile.FieldType)) (rmC 5 357 2420) (PreX [.ref b] g X (b + 1) M0) (PosX (fun M1 => (∀ q, q < b → M1 q = M0 q) ∧ RepX g (fun _ => True) M1 b id iniV (fun _ => iniV) 0 (fun _ => iniV) (fun _ => 0) (fun _ => 0) 0) g X (b + 358)) 357 2420 (upX X) := by
  refine mk_MetX (own := RX7) rfl rfl (by decide) (Nat.le_of_ble_eq_true rfl) ?_
  intro p e s m below meth c ls aa Q haa hQ hx hb hr hlk hml hown hts hK hNW hX hS hl hnm
  have ht : ∀ w ∈ lw_good, w.before _ s = true := fun w h => hts w (List.mem_cons_of_mem _ h)
  have hl : lv_has ls 2 [(0, .ref b)] := hl
  have lo : ∀ q, q < b → M0 q = M0 q := fun _ _ => rfl
  refine lv_aload_n hx hb dX7_init_0 rfl (lv_at hl 0 rfl) ?_
  refine W.objInit hx hb hown (ht _ uw_49) (ht _ uw_50) (ht _ uw_51) rfl (by rw [hml]; exact hl.1) rfl dX7_init_1 (Nat.le_of_ble_eq_true rfl) (Nat.le_of_ble_eq_true rfl) ?_
  refine lv_aload_n hx hb dX7_init_4 rfl (lv_at hl 0 rfl) ?_
  refine x_new (ci := 6) (fs := [.int 0, .int 0, .int 0, .int 0, .null, .null]) (C := RX6) (T := TX6) (n := 6) hx hb ht ui_X6 tyX6 tyX6_ok hown (ht _ uw_52) (ht _ uw_53) (ht _ uw_35) hK hX hS rfl (fun j hj => by rcases (by omega : j = 0 ∨ j = 1 ∨ j = 2 ∨ j = 3 ∨ j = 4 ∨ j = 5) with rfl | rfl | rfl | rfl | rfl | rfl <;> rfl) (Nat.le_of_ble_eq_true rfl) (Nat.le_of_ble_eq_true rfl) dX7_init_5 (fun H hX hS => ?_)
  obtain ⟨M1x, eM⟩ : ∃ M1 : MM, M1 = va_up M0 (b + 1) (.inr (6, [.int 0, .int 0, .int 0, .int 0, .null, .null])) := ⟨_, rfl⟩
  have hX : HX g X (b + 2) M1x H := by rw [eM]; exact hX
  have lo : ∀ q, q < b → M1x (q) = M0 q := fun q hq => by rw [eM]; exact (va_up_ne _ _ (by omega)).trans (lo q hq)
  have hb0 : M1x (b) = .inr (7, [.null, .null, .null, .null, .null, .null, .null]) := by rw [eM]; exact (va_up_ne _ _ (by omega)).trans (hb0 )
  have hn1 : M1x (b + 1) = .inr (6, [.int 0, .int 0, .int 0, .int 0, .null, .null]) := by rw [eM]; exact va_up_self _ _ _
  refine lv_dup hx hb dX7_init_8 rfl ?_
  refine x_callI (As := []) (rest := [.ref (b + 1), .ref (b)]) ⟨hx, hb, hml, hown, ht⟩ (k_X6_init l g X (b + 1) M1x hn1 (by omega)) (cwI 0 ht (gUI uw_56) rfl rfl rfl (ht _ uw_35) (ht _ uw_54) (ht _ uw_55) rfl (by decide +kernel) ⟨by decide, by decide⟩) hK hNW hX hS rfl hl.1 rfl (Nat.le_of_ble_eq_true rfl) dX7_init_9 ⟨Nat.le_of_ble_eq_true rfl, Nat.le_of_ble_eq_true rfl⟩ (fun M2x H locs hp hX hS => ?_)
  obtain ⟨lo1, hv9⟩ := hp
  have lo : ∀ q, q < b → M2x (q) = M0 q := fun q hq => (lo1 _ (by omega)).trans (lo q hq)
  have hb0 : M2x (b) = .inr (7, [.null, .null, .null, .null, .null, .null, .null]) := (lo1 _ (by omega)).trans (hb0 )
  have hnow : RepV g (fun _ => True) M2x (b + 1) id iniV := hv9
  have hX : HX g X (b + 36) M2x H := hX
  refine x_putF (ci := 7) (C := RX7) (T := TX7) (n := 7) hx hb ht ui_X7 tyX7 tyX7_ok nmX7 hown hK hX hS ⟨by omega, by omega⟩ hb0 rfl 0 (by decide) (ht _ uw_275) rfl (hnm.trans rfl) rfl rfl rfl (Nat.le_of_ble_eq_true rfl) dX7_init_12 (fun H locs hX hS => ?_)
  obtain ⟨M3x, eM⟩ : ∃ M1 : MM, M1 = va_up M2x (b) (.inr (7, [.ref (b + 1), .null, .null, .null, .null, .null, .null])) := ⟨_, rfl⟩
  have hX : HX g X (b + 36) M3x H := by rw [eM]; exact hX
  have lo : ∀ q, q < b → M3x (q) = M0 q := fun q hq => by rw [eM]; exact (va_up_ne _ _ (by omega)).trans (lo q hq)
  have hb0 : M3x (b) = .inr (7, [.ref (b + 1), .null, .null, .null, .null, .null, .null]) := by rw [eM]; exact va_up_self _ _ _
  have hnow : RepV g (fun _ => True) M3x (b + 1) id iniV := (hnow ).agr (fun q z1 z2 => by rw [eM]; exact va_up_ne _ _ (by omega))
  refine lv_aload_n hx hb dX7_init_15 rfl (lv_at hl 0 rfl) ?_
  refine x_new (ci := 6) (fs := [.int 0, .int 0, .int 0, .int 0, .null, .null]) (C := RX6) (T := TX6) (n := 6) hx hb ht ui_X6 tyX6 tyX6_ok hown (ht _ uw_52) (ht _ uw_53) (ht _ uw_35) hK hX hS rfl (fun j hj => by rcases (by omega : j = 0 ∨ j = 1 ∨ j = 2 ∨ j = 3 ∨ j = 4 ∨ j = 5) with rfl | rfl | rfl | rfl | rfl | rfl <;> rfl) (Nat.le_of_ble_eq_true rfl) (Nat.le_of_ble_eq_true rfl) dX7_init_16 (fun H hX hS => ?_)
  obtain ⟨M4x, eM⟩ : ∃ M1 : MM, M1 = va_up M3x (b + 36) (.inr (6, [.int 0, .int 0, .int 0, .int 0, .null, .null])) := ⟨_, rfl⟩
  have hX : HX g X (b + 37) M4x H := by rw [eM]; exact hX
  have lo : ∀ q, q < b → M4x (q) = M0 q := fun q hq => by rw [eM]; exact (va_up_ne _ _ (by omega)).trans (lo q hq)
  have hb0 : M4x (b) = .inr (7, [.ref (b + 1), .null, .null, .null, .null, .null, .null]) := by rw [eM]; exact (va_up_ne _ _ (by omega)).trans (hb0 )
  have hnow : RepV g (fun _ => True) M4x (b + 1) id iniV := (hnow ).agr (fun q z1 z2 => by rw [eM]; exact va_up_ne _ _ (by omega))
  have hn2 : M4x (b + 36) = .inr (6, [.int 0, .int 0, .int 0, .int 0, .null, .null]) := by rw [eM]; exact va_up_self _ _ _
  refine lv_dup hx hb dX7_init_19 rfl ?_
  refine x_callI (As := []) (rest := [.ref (b + 36), .ref (b)]) ⟨hx, hb, hml, hown, ht⟩ (k_X6_init l g X (b + 36) M4x hn2 (by omega)) (cwI 0 ht (gUI uw_56) rfl rfl rfl (ht _ uw_35) (ht _ uw_54) (ht _ uw_55) rfl (by decide +kernel) ⟨by decide, by decide⟩) hK hNW hX hS rfl hl.1 rfl (Nat.le_of_ble_eq_true rfl) dX7_init_20 ⟨Nat.le_of_ble_eq_true rfl, Nat.le_of_ble_eq_true rfl⟩ (fun M5x H locs hp hX hS => ?_)
  obtain ⟨lo1, hv9⟩ := hp
  have lo : ∀ q, q < b → M5x (q) = M0 q := fun q hq => (lo1 _ (by omega)).trans (lo q hq)
  have hb0 : M5x (b) = .inr (7, [.ref (b + 1), .null, .null, .null, .null, .null, .null]) := (lo1 _ (by omega)).trans (hb0 )
  have hnow : RepV g (fun _ => True) M5x (b + 1) id iniV := (hnow ).agr (fun q z1 z2 => lo1 q (by omega))
  have htri : RepV g (fun _ => True) M5x (b + 36) id iniV := hv9
  have hX : HX g X (b + 71) M5x H := hX
  refine x_putF (ci := 7) (C := RX7) (T := TX7) (n := 7) hx hb ht ui_X7 tyX7 tyX7_ok nmX7 hown hK hX hS ⟨by omega, by omega⟩ hb0 rfl 1 (by decide) (ht _ uw_276) rfl (hnm.trans rfl) rfl rfl rfl (Nat.le_of_ble_eq_true rfl) dX7_init_23 (fun H locs hX hS => ?_)
  obtain ⟨M6x, eM⟩ : ∃ M1 : MM, M1 = va_up M5x (b) (.inr (7, [.ref (b + 1), .ref (b + 36), .null, .null, .null, .null, .null])) := ⟨_, rfl⟩
  have hX : HX g X (b + 71) M6x H := by rw [eM]; exact hX
  have lo : ∀ q, q < b → M6x (q) = M0 q := fun q hq => by rw [eM]; exact (va_up_ne _ _ (by omega)).trans (lo q hq)
  have hb0 : M6x (b) = .inr (7, [.ref (b + 1), .ref (b + 36), .null, .null, .null, .null, .null]) := by rw [eM]; exact va_up_self _ _ _
  have hnow : RepV g (fun _ => True) M6x (b + 1) id iniV := (hnow ).agr (fun q z1 z2 => by rw [eM]; exact va_up_ne _ _ (by omega))
  have htri : RepV g (fun _ => True) M6x (b + 36) id iniV := (htri ).agr (fun q z1 z2 => by rw [eM]; exact va_up_ne _ _ (by omega))
  refine lv_aload_n hx hb dX7_init_26 rfl (lv_at hl 0 rfl) ?_
  refine x_new (ci := 1) (fs := [.null, .int 0]) (C := RX1) (T := TX1) (n := 2) hx hb ht ui_X1 tyX1 tyX1_ok hown (ht _ uw_212) (ht _ uw_213) (ht _ uw_39) hK hX hS rfl (fun j hj => by rcases (by omega : j = 0 ∨ j = 1) with rfl | rfl <;> rfl) (Nat.le_of_ble_eq_true rfl) (Nat.le_of_ble_eq_true rfl) dX7_init_27 (fun H hX hS => ?_)
  obtain ⟨M7x, eM⟩ : ∃ M1 : MM, M1 = va_up M6x (b + 71) (.inr (1, [.null, .int 0])) := ⟨_, rfl⟩
  have hX : HX g X (b + 72) M7x H := by rw [eM]; exact hX
  have lo : ∀ q, q < b → M7x (q) = M0 q := fun q hq => by rw [eM]; exact (va_up_ne _ _ (by omega)).trans (lo q hq)
  have hb0 : M7x (b) = .inr (7, [.ref (b + 1), .ref (b + 36), .null, .null, .null, .null, .null]) := by rw [eM]; exact (va_up_ne _ _ (by omega)).trans (hb0 )
  have hnow : RepV g (fun _ => True) M7x (b + 1) id iniV := (hnow ).agr (fun q z1 z2 => by rw [eM]; exact va_up_ne _ _ (by omega))
  have htri : RepV g (fun _ => True) M7x (b + 36) id iniV := (htri ).agr (fun q z1 z2 => by rw [eM]; exact va_up_ne _ _ (by omega))
  have hn3 : M7x (b + 71) = .inr (1, [.null, .int 0]) := by rw [eM]; exact va_up_self _ _ _
  refine lv_dup hx hb dX7_init_30 rfl ?_
  refine x_callI (As := []) (rest := [.ref (b + 71), .ref (b)]) ⟨hx, hb, hml, hown, ht⟩ (k_X1_init l g X (b + 71) M7x hn3 (by omega)) (cwI 0 ht (gUI uw_216) rfl rfl rfl (ht _ uw_39) (ht _ uw_214) (ht _ uw_215) rfl (by decide +kernel) ⟨by decide, by decide⟩) hK hNW hX hS rfl hl.1 rfl (Nat.le_of_ble_eq_true rfl) dX7_init_31 ⟨Nat.le_of_ble_eq_true rfl, Nat.le_of_ble_eq_true rfl⟩ (fun M8x H locs hp hX hS => ?_)
  obtain ⟨lo1, hv9⟩ := hp
  have lo : ∀ q, q < b → M8x (q) = M0 q := fun q hq => (lo1 _ (by omega)).trans (lo q hq)
  have hb0 : M8x (b) = .inr (7, [.ref (b + 1), .ref (b + 36), .null, .null, .null, .null, .null]) := (lo1 _ (by omega)).trans (hb0 )
  have hnow : RepV g (fun _ => True) M8x (b + 1) id iniV := (hnow ).agr (fun q z1 z2 => lo1 q (by omega))
  have htri : RepV g (fun _ => True) M8x (b + 36) id iniV := (htri ).agr (fun q z1 z2 => lo1 q (by omega))
  have hhis : RepH g (fun _ => True) M8x (b + 71) id (fun _ => id) (fun _ => iniV) 0 := hv9
  have hX : HX g X (b + 283) M8x H := hX
  refine x_putF (ci := 7) (C := RX7) (T := TX7) (n := 7) hx hb ht ui_X7 tyX7 tyX7_ok nmX7 hown hK hX hS ⟨by omega, by omega⟩ hb0 rfl 2 (by decide) (ht _ uw_277) rfl (hnm.trans rfl) rfl rfl rfl (Nat.le_of_ble_eq_true rfl) dX7_init_34 (fun H locs hX hS => ?_)
  obtain ⟨M9x, eM⟩ : ∃ M1 : MM, M1 = va_up M8x (b) (.inr (7, [.ref (b + 1), .ref (b + 36), .ref (b + 71), .null, .null, .null, .null])) := ⟨_, rfl⟩
  have hX : HX g X (b + 283) M9x H := by rw [eM]; exact hX
  have lo : ∀ q, q < b → M9x (q) = M0 q := fun q hq => by rw [eM]; exact (va_up_ne _ _ (by omega)).trans (lo q hq)
  have hb0 : M9x (b) = .inr (7, [.ref (b + 1), .ref (b + 36), .ref (b + 71), .null, .null, .null, .null]) := by rw [eM]; exact va_up_self _ _ _
  have hnow : RepV g (fun _ => True) M9x (b + 1) id iniV := (hnow ).agr (fun q z1 z2 => by rw [eM]; exact va_up_ne _ _ (by omega))
  have htri : RepV g (fun _ => True) M9x (b + 36) id iniV := (htri ).agr (fun q z1 z2 => by rw [eM]; exact va_up_ne _ _ (by omega))
  have hhis : RepH g (fun _ => True) M9x (b + 71) id (fun _ => id) (fun _ => iniV) 0 := (hhis ).agr (fun q z1 z2 => by rw [eM]; exact va_up_ne _ _ (by omega))
  refine lv_aload_n hx hb dX7_init_37 rfl (lv_at hl 0 rfl) ?_
  refine lv_iconst (v := nI 2) hx hb dX7_init_38 (by first | rfl | decide) ?_
  refine x_newq (C := RX6) hx hb hown (ht _ uw_52) hNW.2.2.2.2.2 hK hX hS 5 rfl (nI_pos (by omega)) (nI_clamp (by omega)) (Nat.le_of_ble_eq_true rfl) (Nat.le_of_ble_eq_true rfl) (Nat.le_of_ble_eq_true rfl) dX7_init_39 (fun H hX hS => ?_)
  obtain ⟨M10x, eM⟩ : ∃ M1 : MM, M1 = va_up M9x (b + 283) (.inl (g.2 5, 2, .inr (.inr (.inr (.inr (fun _ => none)))))) := ⟨_, rfl⟩
  have hX : HX g X (b + 284) M10x H := by rw [eM]; exact hX
  have lo : ∀ q, q < b → M10x (q) = M0 q := fun q hq => by rw [eM]; exact (va_up_ne _ _ (by omega)).trans (lo q hq)
  have hb0 : M10x (b) = .inr (7, [.ref (b + 1), .ref (b + 36), .ref (b + 71), .null, .null, .null, .null]) := by rw [eM]; exact (va_up_ne _ _ (by omega)).trans (hb0 )
  have hnow : RepV g (fun _ => True) M10x (b + 1) id iniV := (hnow ).agr (fun q z1 z2 => by rw [eM]; exact va_up_ne _ _ (by omega))
  have htri : RepV g (fun _ => True) M10x (b + 36) id iniV := (htri ).agr (fun q z1 z2 => by rw [eM]; exact va_up_ne _ _ (by omega))
  have hhis : RepH g (fun _ => True) M10x (b + 71) id (fun _ => id) (fun _ => iniV) 0 := (hhis ).agr (fun q z1 z2 => by rw [eM]; exact va_up_ne _ _ (by omega))
  have hga : M10x (b + 283) = .inl (g.2 5, 2, .inr (.inr (.inr (.inr (fun _ => none))))) := by rw [eM]; exact va_up_self _ _ _
  refine x_putF (ci := 7) (C := RX7) (T := TX7) (n := 7) hx hb ht ui_X7 tyX7 tyX7_ok nmX7 hown hK hX hS ⟨by omega, by omega⟩ hb0 rfl 3 (by decide) (ht _ uw_278) rfl (hnm.trans rfl) rfl rfl rfl (Nat.le_of_ble_eq_true rfl) dX7_init_42 (fun H locs hX hS => ?_)
  obtain ⟨M11x, eM⟩ : ∃ M1 : MM, M1 = va_up M10x (b) (.inr (7, [.ref (b + 1), .ref (b + 36), .ref (b + 71), .ref (b + 283), .null, .null, .null])) := ⟨_, rfl⟩
  have hX : HX g X (b + 284) M11x H := by rw [eM]; exact hX
  have lo : ∀ q, q < b → M11x (q) = M0 q := fun q hq => by rw [eM]; exact (va_up_ne _ _ (by omega)).trans (lo q hq)
  have hb0 : M11x (b) = .inr (7, [.ref (b + 1), .ref (b + 36), .ref (b + 71), .ref (b + 283), .null, .null, .null]) := by rw [eM]; exact va_up_self _ _ _
  have hnow : RepV g (fun _ => True) M11x (b + 1) id iniV := (hnow ).agr (fun q z1 z2 => by rw [eM]; exact va_up_ne _ _ (by omega))
  have htri : RepV g (fun _ => True) M11x (b + 36) id iniV := (htri ).agr (fun q z1 z2 => by rw [eM]; exact va_up_ne _ _ (by omega))
  have hhis : RepH g (fun _ => True) M11x (b + 71) id (fun _ => id) (fun _ => iniV) 0 := (hhis ).agr (fun q z1 z2 => by rw [eM]; exact va_up_ne _ _ (by omega))
  have hga : M11x (b + 283) = .inl (g.2 5, 2, .inr (.inr (.inr (.inr (fun _ => none))))) := by rw [eM]; exact (va_up_ne _ _ (by omega)).trans (hga )
  refine lv_aload_n hx hb dX7_init_45 rfl (lv_at hl 0 rfl) ?_
  refine lv_iconst (v := nI 2) hx hb dX7_init_46 (by first | rfl | decide) ?_
  refine x_newa (atype := .boolean) hx hb (ht _ uw_244) hK hX hS 2 rfl (fun z => z) rfl (nI_pos (by omega)) (nI_clamp (by omega)) (Nat.le_of_ble_eq_true rfl) (Nat.le_of_ble_eq_true rfl) (Nat.le_of_ble_eq_true rfl) dX7_init_47 (fun H hX hS => ?_)
  obtain ⟨M12x, eM⟩ : ∃ M1 : MM, M1 = va_up M11x (b + 284) (.inl (g.2 2, 2, .inl (fun _ => 0))) := ⟨_, rfl⟩
  have hX : HX g X (b + 285) M12x H := by rw [eM]; exact hX
  have lo : ∀ q, q < b → M12x (q) = M0 q := fun q hq => by rw [eM]; exact (va_up_ne _ _ (by omega)).trans (lo q hq)
  have hb0 : M12x (b) = .inr (7, [.ref (b + 1), .ref (b + 36), .ref (b + 71), .ref (b + 283), .null, .null, .null]) := by rw [eM]; exact (va_up_ne _ _ (by omega)).trans (hb0 )
  have hnow : RepV g (fun _ => True) M12x (b + 1) id iniV := (hnow ).agr (fun q z1 z2 => by rw [eM]; exact va_up_ne _ _ (by omega))
  have htri : RepV g (fun _ => True) M12x (b + 36) id iniV := (htri ).agr (fun q z1 z2 => by rw [eM]; exact va_up_ne _ _ (by omega))
  have hhis : RepH g (fun _ => True) M12x (b + 71) id (fun _ => id) (fun _ => iniV) 0 := (hhis ).agr (fun q z1 z2 => by rw [eM]; exact va_up_ne _ _ (by omega))
  have hga : M12x (b + 283) = .inl (g.2 5, 2, .inr (.inr (.inr (.inr (fun _ => none))))) := by rw [eM]; exact (va_up_ne _ _ (by omega)).trans (hga )
  have hsv : M12x (b + 284) = .inl (g.2 2, 2, .inl (fun _ => 0)) := by rw [eM]; exact va_up_self _ _ _
  refine x_putF (ci := 7) (C := RX7) (T := TX7) (n := 7) hx hb ht ui_X7 tyX7 tyX7_ok nmX7 hown hK hX hS ⟨by omega, by omega⟩ hb0 rfl 4 (by decide) (ht _ uw_279) rfl (hnm.trans rfl) rfl rfl rfl (Nat.le_of_ble_eq_true rfl) dX7_init_49 (fun H locs hX hS => ?_)
  obtain ⟨M13x, eM⟩ : ∃ M1 : MM, M1 = va_up M12x (b) (.inr (7, [.ref (b + 1), .ref (b + 36), .ref (b + 71), .ref (b + 283), .ref (b + 284), .null, .null])) := ⟨_, rfl⟩
  have hX : HX g X (b + 285) M13x H := by rw [eM]; exact hX
  have lo : ∀ q, q < b → M13x (q) = M0 q := fun q hq => by rw [eM]; exact (va_up_ne _ _ (by omega)).trans (lo q hq)
  have hb0 : M13x (b) = .inr (7, [.ref (b + 1), .ref (b + 36), .ref (b + 71), .ref (b + 283), .ref (b + 284), .null, .null]) := by rw [eM]; exact va_up_self _ _ _
  have hnow : RepV g (fun _ => True) M13x (b + 1) id iniV := (hnow ).agr (fun q z1 z2 => by rw [eM]; exact va_up_ne _ _ (by omega))
  have htri : RepV g (fun _ => True) M13x (b + 36) id iniV := (htri ).agr (fun q z1 z2 => by rw [eM]; exact va_up_ne _ _ (by omega))
  have hhis : RepH g (fun _ => True) M13x (b + 71) id (fun _ => id) (fun _ => iniV) 0 := (hhis ).agr (fun q z1 z2 => by rw [eM]; exact va_up_ne _ _ (by omega))
  have hga : M13x (b + 283) = .inl (g.2 5, 2, .inr (.inr (.inr (.inr (fun _ => none))))) := by rw [eM]; exact (va_up_ne _ _ (by omega)).trans (hga )
  have hsv : M13x (b + 284) = .inl (g.2 2, 2, .inl (fun _ => 0)) := by rw [eM]; exact (va_up_ne _ _ (by omega)).trans (hsv )
  refine lv_aload_n hx hb dX7_init_52 rfl (lv_at hl 0 rfl) ?_
  refine x_new (ci := 3) (fs := [.null, .int 0]) (C := RX3) (T := TX3) (n := 2) hx hb ht ui_X3 tyX3 tyX3_ok hown (ht _ uw_229) (ht _ uw_230) (ht _ uw_40) hK hX hS rfl (fun j hj => by rcases (by omega : j = 0 ∨ j = 1) with rfl | rfl <;> rfl) (Nat.le_of_ble_eq_true rfl) (Nat.le_of_ble_eq_true rfl) dX7_init_53 (fun H hX hS => ?_)
  obtain ⟨M14x, eM⟩ : ∃ M1 : MM, M1 = va_up M13x (b + 285) (.inr (3, [.null, .int 0])) := ⟨_, rfl⟩
  have hX : HX g X (b + 286) M14x H := by rw [eM]; exact hX
  have lo : ∀ q, q < b → M14x (q) = M0 q := fun q hq => by rw [eM]; exact (va_up_ne _ _ (by omega)).trans (lo q hq)
  have hb0 : M14x (b) = .inr (7, [.ref (b + 1), .ref (b + 36), .ref (b + 71), .ref (b + 283), .ref (b + 284), .null, .null]) := by rw [eM]; exact (va_up_ne _ _ (by omega)).trans (hb0 )
  have hnow : RepV g (fun _ => True) M14x (b + 1) id iniV := (hnow ).agr (fun q z1 z2 => by rw [eM]; exact va_up_ne _ _ (by omega))
  have htri : RepV g (fun _ => True) M14x (b + 36) id iniV := (htri ).agr (fun q z1 z2 => by rw [eM]; exact va_up_ne _ _ (by omega))
  have hhis : RepH g (fun _ => True) M14x (b + 71) id (fun _ => id) (fun _ => iniV) 0 := (hhis ).agr (fun q z1 z2 => by rw [eM]; exact va_up_ne _ _ (by omega))
  have hga : M14x (b + 283) = .inl (g.2 5, 2, .inr (.inr (.inr (.inr (fun _ => none))))) := by rw [eM]; exact (va_up_ne _ _ (by omega)).trans (hga )
  have hsv : M14x (b + 284) = .inl (g.2 2, 2, .inl (fun _ => 0)) := by rw [eM]; exact (va_up_ne _ _ (by omega)).trans (hsv )
  have hn4 : M14x (b + 285) = .inr (3, [.null, .int 0]) := by rw [eM]; exact va_up_self _ _ _
  refine lv_dup hx hb dX7_init_56 rfl ?_
  refine x_callN (As := []) (rest := [.ref (b + 285), .ref (b)]) ⟨hx, hb, hml, hown, ht⟩ (k_X3_init l g X (b + 285) M14x hn4 (by omega)) ⟨va_cnB 0 ht (gUI uw_233) rfl rfl rfl hNW.2.2.1 (ht _ uw_40) (by decide +kernel) ⟨by decide, by decide⟩, rfl, (ht _ uw_232)⟩ hK hNW hX hS rfl hl.1 rfl (Nat.le_of_ble_eq_true rfl) dX7_init_57 ⟨Nat.le_of_ble_eq_true rfl, Nat.le_of_ble_eq_true rfl⟩ (fun M15x H locs hp hX hS => ?_)
  obtain ⟨lo1, hpd, hsg⟩ := hp
  have lo : ∀ q, q < b → M15x (q) = M0 q := fun q hq => (lo1 _ (by omega)).trans (lo q hq)
  have hb0 : M15x (b) = .inr (7, [.ref (b + 1), .ref (b + 36), .ref (b + 71), .ref (b + 283), .ref (b + 284), .null, .null]) := (lo1 _ (by omega)).trans (hb0 )
  have hnow : RepV g (fun _ => True) M15x (b + 1) id iniV := (hnow ).agr (fun q z1 z2 => lo1 q (by omega))
  have htri : RepV g (fun _ => True) M15x (b + 36) id iniV := (htri ).agr (fun q z1 z2 => lo1 q (by omega))
  have hhis : RepH g (fun _ => True) M15x (b + 71) id (fun _ => id) (fun _ => iniV) 0 := (hhis ).agr (fun q z1 z2 => lo1 q (by omega))
  have hga : M15x (b + 283) = .inl (g.2 5, 2, .inr (.inr (.inr (.inr (fun _ => none))))) := (lo1 _ (by omega)).trans (hga )
  have hsv : M15x (b + 284) = .inl (g.2 2, 2, .inl (fun _ => 0)) := (lo1 _ (by omega)).trans (hsv )
  have hpd : M15x (b + 285) = .inr (3, [.ref (b + 286), .int 0]) := hpd
  have hsg : M15x (b + 286) = .inl (g.2 0, 60, .inl (fun _ => 0)) := hsg
  have hX : HX g X (b + 287) M15x H := hX
  refine x_putF (ci := 7) (C := RX7) (T := TX7) (n := 7) hx hb ht ui_X7 tyX7 tyX7_ok nmX7 hown hK hX hS ⟨by omega, by omega⟩ hb0 rfl 5 (by decide) (ht _ uw_280) rfl (hnm.trans rfl) rfl rfl rfl (Nat.le_of_ble_eq_true rfl) dX7_init_60 (fun H locs hX hS => ?_)
  obtain ⟨M16x, eM⟩ : ∃ M1 : MM, M1 = va_up M15x (b) (.inr (7, [.ref (b + 1), .ref (b + 36), .ref (b + 71), .ref (b + 283), .ref (b + 284), .ref (b + 285), .null])) := ⟨_, rfl⟩
  have hX : HX g X (b + 287) M16x H := by rw [eM]; exact hX
  have lo : ∀ q, q < b → M16x (q) = M0 q := fun q hq => by rw [eM]; exact (va_up_ne _ _ (by omega)).trans (lo q hq)
  have hb0 : M16x (b) = .inr (7, [.ref (b + 1), .ref (b + 36), .ref (b + 71), .ref (b + 283), .ref (b + 284), .ref (b + 285), .null]) := by rw [eM]; exact va_up_self _ _ _
  have hnow : RepV g (fun _ => True) M16x (b + 1) id iniV := (hnow ).agr (fun q z1 z2 => by rw [eM]; exact va_up_ne _ _ (by omega))
  have htri : RepV g (fun _ => True) M16x (b + 36) id iniV := (htri ).agr (fun q z1 z2 => by rw [eM]; exact va_up_ne _ _ (by omega))
  have hhis : RepH g (fun _ => True) M16x (b + 71) id (fun _ => id) (fun _ => iniV) 0 := (hhis ).agr (fun q z1 z2 => by rw [eM]; exact va_up_ne _ _ (by omega))
  have hga : M16x (b + 283) = .inl (g.2 5, 2, .inr (.inr (.inr (.inr (fun _ => none))))) := by rw [eM]; exact (va_up_ne _ _ (by omega)).trans (hga )
  have hsv : M16x (b + 284) = .inl (g.2 2, 2, .inl (fun _ => 0)) := by rw [eM]; exact (va_up_ne _ _ (by omega)).trans (hsv )
  have hpd : M16x (b + 285) = .inr (3, [.ref (b + 286), .int 0]) := by rw [eM]; exact (va_up_ne _ _ (by omega)).trans (hpd )
  have hsg : M16x (b + 286) = .inl (g.2 0, 60, .inl (fun _ => 0)) := by rw [eM]; exact (va_up_ne _ _ (by omega)).trans (hsg )
  refine lv_aload_n hx hb dX7_init_63 rfl (lv_at hl 0 rfl) ?_
  refine x_new (ci := 2) (fs := [.null, .int 0, .int 0, .int 0, .int 0, .int 0]) (C := RX2) (T := TX2) (n := 6) hx hb ht ui_X2 tyX2 tyX2_ok hown (ht _ uw_246) (ht _ uw_247) (ht _ uw_41) hK hX hS rfl (fun j hj => by rcases (by omega : j = 0 ∨ j = 1 ∨ j = 2 ∨ j = 3 ∨ j = 4 ∨ j = 5) with rfl | rfl | rfl | rfl | rfl | rfl <;> rfl) (Nat.le_of_ble_eq_true rfl) (Nat.le_of_ble_eq_true rfl) dX7_init_64 (fun H hX hS => ?_)
  obtain ⟨M17x, eM⟩ : ∃ M1 : MM, M1 = va_up M16x (b + 287) (.inr (2, [.null, .int 0, .int 0, .int 0, .int 0, .int 0])) := ⟨_, rfl⟩
  have hX : HX g X (b + 288) M17x H := by rw [eM]; exact hX
  have lo : ∀ q, q < b → M17x (q) = M0 q := fun q hq => by rw [eM]; exact (va_up_ne _ _ (by omega)).trans (lo q hq)
  have hb0 : M17x (b) = .inr (7, [.ref (b + 1), .ref (b + 36), .ref (b + 71), .ref (b + 283), .ref (b + 284), .ref (b + 285), .null]) := by rw [eM]; exact (va_up_ne _ _ (by omega)).trans (hb0 )
  have hnow : RepV g (fun _ => True) M17x (b + 1) id iniV := (hnow ).agr (fun q z1 z2 => by rw [eM]; exact va_up_ne _ _ (by omega))
  have htri : RepV g (fun _ => True) M17x (b + 36) id iniV := (htri ).agr (fun q z1 z2 => by rw [eM]; exact va_up_ne _ _ (by omega))
  have hhis : RepH g (fun _ => True) M17x (b + 71) id (fun _ => id) (fun _ => iniV) 0 := (hhis ).agr (fun q z1 z2 => by rw [eM]; exact va_up_ne _ _ (by omega))
  have hga : M17x (b + 283) = .inl (g.2 5, 2, .inr (.inr (.inr (.inr (fun _ => none))))) := by rw [eM]; exact (va_up_ne _ _ (by omega)).trans (hga )
  have hsv : M17x (b + 284) = .inl (g.2 2, 2, .inl (fun _ => 0)) := by rw [eM]; exact (va_up_ne _ _ (by omega)).trans (hsv )
  have hpd : M17x (b + 285) = .inr (3, [.ref (b + 286), .int 0]) := by rw [eM]; exact (va_up_ne _ _ (by omega)).trans (hpd )
  have hsg : M17x (b + 286) = .inl (g.2 0, 60, .inl (fun _ => 0)) := by rw [eM]; exact (va_up_ne _ _ (by omega)).trans (hsg )
  have hn5 : M17x (b + 287) = .inr (2, [.null, .int 0, .int 0, .int 0, .int 0, .int 0]) := by rw [eM]; exact va_up_self _ _ _
  refine lv_dup hx hb dX7_init_67 rfl ?_
  refine lv_aload_n hx hb dX7_init_68 rfl (lv_at hl 0 rfl) ?_
  refine m_get (ci := 7) (C := RX7) (T := TX7) (N := 7) hx hb ht ui_X7 hown hK hX.2 (⟨by omega, by omega⟩ : dm X (b + 288) (b)) hb0 rfl 5 (by decide) (ht _ uw_280) rfl dX7_init_69 ?_
  refine x_callI (As := [.ref (b + 285)]) (rest := [.ref (b + 287), .ref (b)]) ⟨hx, hb, hml, hown, ht⟩ (k_X2_init l g X (b + 287) M17x (b + 285) hn5 (by omega)) (cwI 1 ht (gUI uw_250) rfl rfl rfl (ht _ uw_41) (ht _ uw_248) (ht _ uw_249) rfl (by decide +kernel) ⟨by decide, by decide⟩) hK hNW hX hS rfl hl.1 rfl (Nat.le_of_ble_eq_true rfl) dX7_init_72 ⟨Nat.le_of_ble_eq_true rfl, Nat.le_of_ble_eq_true rfl⟩ (fun M18x H locs hp hX hS => ?_)
  obtain ⟨lo1, hrd⟩ := hp
  have lo : ∀ q, q < b → M18x (q) = M0 q := fun q hq => (lo1 _ (by omega)).trans (lo q hq)
  have hb0 : M18x (b) = .inr (7, [.ref (b + 1), .ref (b + 36), .ref (b + 71), .ref (b + 283), .ref (b + 284), .ref (b + 285), .null]) := (lo1 _ (by omega)).trans (hb0 )
  have hnow : RepV g (fun _ => True) M18x (b + 1) id iniV := (hnow ).agr (fun q z1 z2 => lo1 q (by omega))
  have htri : RepV g (fun _ => True) M18x (b + 36) id iniV := (htri ).agr (fun q z1 z2 => lo1 q (by omega))
  have hhis : RepH g (fun _ => True) M18x (b + 71) id (fun _ => id) (fun _ => iniV) 0 := (hhis ).agr (fun q z1 z2 => lo1 q (by omega))
  have hga : M18x (b + 283) = .inl (g.2 5, 2, .inr (.inr (.inr (.inr (fun _ => none))))) := (lo1 _ (by omega)).trans (hga )
  have hsv : M18x (b + 284) = .inl (g.2 2, 2, .inl (fun _ => 0)) := (lo1 _ (by omega)).trans (hsv )
  have hpd : M18x (b + 285) = .inr (3, [.ref (b + 286), .int 0]) := (lo1 _ (by omega)).trans (hpd )
  have hsg : M18x (b + 286) = .inl (g.2 0, 60, .inl (fun _ => 0)) := (lo1 _ (by omega)).trans (hsg )
  have hrd : M18x (b + 287) = .inr (2, [.ref (b + 285), .int 0, .int 0, .int 0, .int 0, .int 0]) := hrd
  have hX : HX g X (b + 288) M18x H := hX
  refine x_putF (ci := 7) (C := RX7) (T := TX7) (n := 7) hx hb ht ui_X7 tyX7 tyX7_ok nmX7 hown hK hX hS ⟨by omega, by omega⟩ hb0 rfl 6 (by decide) (ht _ uw_281) rfl (hnm.trans rfl) rfl rfl rfl (Nat.le_of_ble_eq_true rfl) dX7_init_75 (fun H locs hX hS => ?_)
  obtain ⟨M19x, eM⟩ : ∃ M1 : MM, M1 = va_up M18x (b) (.inr (7, [.ref (b + 1), .ref (b + 36), .ref (b + 71), .ref (b + 283), .ref (b + 284), .ref (b + 285), .ref (b + 287)])) := ⟨_, rfl⟩
  have hX : HX g X (b + 288) M19x H := by rw [eM]; exact hX
  have lo : ∀ q, q < b → M19x (q) = M0 q := fun q hq => by rw [eM]; exact (va_up_ne _ _ (by omega)).trans (lo q hq)
  have hb0 : M19x (b) = .inr (7, [.ref (b + 1), .ref (b + 36), .ref (b + 71), .ref (b + 283), .ref (b + 284), .ref (b + 285), .ref (b + 287)]) := by rw [eM]; exact va_up_self _ _ _
  have hnow : RepV g (fun _ => True) M19x (b + 1) id iniV := (hnow ).agr (fun q z1 z2 => by rw [eM]; exact va_up_ne _ _ (by omega))
  have htri : RepV g (fun _ => True) M19x (b + 36) id iniV := (htri ).agr (fun q z1 z2 => by rw [eM]; exact va_up_ne _ _ (by omega))
  have hhis : RepH g (fun _ => True) M19x (b + 71) id (fun _ => id) (fun _ => iniV) 0 := (hhis ).agr (fun q z1 z2 => by rw [eM]; exact va_up_ne _ _ (by omega))
  have hga : M19x (b + 283) = .inl (g.2 5, 2, .inr (.inr (.inr (.inr (fun _ => none))))) := by rw [eM]; exact (va_up_ne _ _ (by omega)).trans (hga )
  have hsv : M19x (b + 284) = .inl (g.2 2, 2, .inl (fun _ => 0)) := by rw [eM]; exact (va_up_ne _ _ (by omega)).trans (hsv )
  have hpd : M19x (b + 285) = .inr (3, [.ref (b + 286), .int 0]) := by rw [eM]; exact (va_up_ne _ _ (by omega)).trans (hpd )
  have hsg : M19x (b + 286) = .inl (g.2 0, 60, .inl (fun _ => 0)) := by rw [eM]; exact (va_up_ne _ _ (by omega)).trans (hsg )
  have hrd : M19x (b + 287) = .inr (2, [.ref (b + 285), .int 0, .int 0, .int 0, .int 0, .int 0]) := by rw [eM]; exact (va_up_ne _ _ (by omega)).trans (hrd )
  refine lv_iconst (v := nI 0) hx hb dX7_init_78 (by first | rfl | decide) ?_
  refine lv_istore_n (lv' := [(1, .int (nI 0)), (0, .ref (b))]) hx hb dX7_init_79 rfl hl (by decide) rfl (fun ls hl => ?_)
  have loop_80 : ∀ (z : Nat) (kq : Nat) (M : MM) (H : Heap) (locs : List Loc) (ls : Array Slot), 2 - kq < z → kq ≤ 2 → (∀ q, q < b → M (q) = M0 q) → (M (b) = .inr (7, [.ref (b + 1), .ref (b + 36), .ref (b + 71), .ref (b + 283), .ref (b + 284), .ref (b + 285), .ref (b + 287)])) → (RepV g (fun _ => True) M (b + 1) id iniV) → (RepV g (fun _ => True) M (b + 36) id iniV) → (RepH g (fun _ => True) M (b + 71) id (fun _ => id) (fun _ => iniV) 0) → (M (b + 283) = .inl (g.2 5, 2, .inr (.inr (.inr (.inr (fun i => if i < kq then some (b + 288 + 35 * i) else none)))))) → (M (b + 284) = .inl (g.2 2, 2, .inl (fun _ => 0))) → (M (b + 285) = .inr (3, [.ref (b + 286), .int 0])) → (M (b + 286) = .inl (g.2 0, 60, .inl (fun _ => 0))) → (M (b + 287) = .inr (2, [.ref (b + 285), .int 0, .int 0, .int 0, .int 0, .int 0])) → (∀ j, j < kq → RepV g (fun _ => True) M (b + 288 + 35 * j) id iniV) → HX g X (b + 288 + 35 * kq) M H → va_S (upX X) s.heap H locs → lv_has ls 2 [(1, .int (nI kq)), (0, .ref (b))] → W p l e (rmC 5 357 2420) s m aa below meth c H locs (287 + 35 * kq) (1952 + 234 * kq) Q (F0 m 80 ls []) := by
    intro z
    induction z with
    | zero => intro kq M H locs ls hz hk lo hb0 hnow htri hhis hga hsv hpd hsg hrd hV; exact absurd hz (Nat.not_lt_zero _)
    | succ z ih =>
    intro kq M H locs ls hz hk lo hb0 hnow htri hhis hga hsv hpd hsg hrd hV hX hS hl
    refine lv_iload_n hx hb dX7_init_80 rfl (lv_at hl 0 rfl) ?_
    refine lv_aload_n hx hb dX7_init_81 rfl (lv_at hl 1 rfl) ?_
    refine m_get (ci := 7) (C := RX7) (T := TX7) (N := 7) hx hb ht ui_X7 hown hK hX.2 (⟨by omega, by omega⟩ : dm X (b + 288 + 35 * kq) (b)) hb0 rfl 3 (by decide) (ht _ uw_278) rfl dX7_init_82 ?_
    refine m_alen hx hb hK hX.2 (⟨by omega, by omega⟩ : dm X (b + 288 + 35 * kq) (b + 283)) 5 hga rfl (v := nI 2) rfl dX7_init_85 ?_
    refine lv_icmp_ge (tgt := 108) hx hb dX7_init_86 (by decide) (fun c_9 => ?_) (fun c_9 => ?_)
    · obtain rfl : kq = 2 := Nat.le_antisymm hk (nI_le_of (by omega) (by omega) c_9)
      have hX := (hX.fin (a := b + 283) ⟨by omega, by omega⟩ hga (f' := fun i => some (b + 288 + 35 * i)) (fun i hi => if_pos hi))
      obtain ⟨Mf, eM⟩ : ∃ M1 : MM, M1 = va_up M (b + 283) (slE g b) := ⟨_, rfl⟩
      have hX : HX g X (b + 358) Mf H := by rw [eM]; exact hX
      have lo : ∀ q, q < b → Mf (q) = M0 q := fun q hq => by rw [eM]; exact (va_up_ne _ _ (by omega)).trans (lo q hq)
      have hb0 : Mf (b) = .inr (7, [.ref (b + 1), .ref (b + 36), .ref (b + 71), .ref (b + 283), .ref (b + 284), .ref (b + 285), .ref (b + 287)]) := by rw [eM]; exact (va_up_ne _ _ (by omega)).trans (hb0 )
      have hnow : RepV g (fun _ => True) Mf (b + 1) id iniV := (hnow ).agr (fun q z1 z2 => by rw [eM]; exact va_up_ne _ _ (by omega))
      have htri : RepV g (fun _ => True) Mf (b + 36) id iniV := (htri ).agr (fun q z1 z2 => by rw [eM]; exact va_up_ne _ _ (by omega))
      have hhis : RepH g (fun _ => True) Mf (b + 71) id (fun _ => id) (fun _ => iniV) 0 := (hhis ).agr (fun q z1 z2 => by rw [eM]; exact va_up_ne _ _ (by omega))
      have hsv : Mf (b + 284) = .inl (g.2 2, 2, .inl (fun _ => 0)) := by rw [eM]; exact (va_up_ne _ _ (by omega)).trans (hsv )
      have hpd : Mf (b + 285) = .inr (3, [.ref (b + 286), .int 0]) := by rw [eM]; exact (va_up_ne _ _ (by omega)).trans (hpd )
      have hsg : Mf (b + 286) = .inl (g.2 0, 60, .inl (fun _ => 0)) := by rw [eM]; exact (va_up_ne _ _ (by omega)).trans (hsg )
      have hrd : Mf (b + 287) = .inr (2, [.ref (b + 285), .int 0, .int 0, .int 0, .int 0, .int 0]) := by rw [eM]; exact (va_up_ne _ _ (by omega)).trans (hrd )
      have hV : ∀ j, j < 2 → RepV g (fun _ => True) Mf (b + 288 + 35 * j) id iniV := fun j hj => (hV j hj).agr (fun q z1 z2 => by rw [eM]; exact va_up_ne _ _ (by omega))
      have hga : Mf (b + 283) = slE g b := by rw [eM]; exact va_up_self _ _ _
      refine W.widen (k := 357) (n := 2420) (by omega) (by omega) ?_
      subst hQ
      exact x_vret hx hb hr hlk hK hX hS dX7_init_108 (⟨lo, trivial, trivial, trivial, hb0, hga, hsv, hnow, ⟨_, _, htri⟩, ⟨_, _, hhis⟩, fun i hi => ⟨_, hV i hi⟩, fun _ => 0, trivial, trivial, trivial, hpd, hsg, hrd⟩)
    · have hk6 : kq < 2 := nI_lt_of (by omega) (by omega) c_9
      refine lv_aload_n hx hb dX7_init_89 rfl (lv_at hl 1 rfl) ?_
      refine m_get (ci := 7) (C := RX7) (T := TX7) (N := 7) hx hb ht ui_X7 hown hK hX.2 (⟨by omega, by omega⟩ : dm X (b + 288 + 35 * kq) (b)) hb0 rfl 3 (by decide) (ht _ uw_278) rfl dX7_init_90 ?_
      refine lv_iload_n hx hb dX7_init_93 rfl (lv_at hl 0 rfl) ?_
      refine x_new (ci := 6) (fs := [.int 0, .int 0, .int 0, .int 0, .null, .null]) (C := RX6) (T := TX6) (n := 6) hx hb ht ui_X6 tyX6 tyX6_ok hown (ht _ uw_52) (ht _ uw_53) (ht _ uw_35) hK hX hS rfl (fun j hj => by rcases (by omega : j = 0 ∨ j = 1 ∨ j = 2 ∨ j = 3 ∨ j = 4 ∨ j = 5) with rfl | rfl | rfl | rfl | rfl | rfl <;> rfl) (show _ ≤ 357 by omega) (show _ ≤ 2420 by omega) dX7_init_94 (fun H hX hS => ?_)
      obtain ⟨M20x, eM⟩ : ∃ M1 : MM, M1 = va_up M (b + 288 + 35 * kq) (.inr (6, [.int 0, .int 0, .int 0, .int 0, .null, .null])) := ⟨_, rfl⟩
      have hX : HX g X (b + 288 + 35 * kq + 1) M20x H := by rw [eM]; exact hX
      have lo : ∀ q, q < b → M20x (q) = M0 q := fun q hq => by rw [eM]; exact (va_up_ne _ _ (by omega)).trans (lo q hq)
      have hb0 : M20x (b) = .inr (7, [.ref (b + 1), .ref (b + 36), .ref (b + 71), .ref (b + 283), .ref (b + 284), .ref (b + 285), .ref (b + 287)]) := by rw [eM]; exact (va_up_ne _ _ (by omega)).trans (hb0 )
      have hnow : RepV g (fun _ => True) M20x (b + 1) id iniV := (hnow ).agr (fun q z1 z2 => by rw [eM]; exact va_up_ne _ _ (by omega))
      have htri : RepV g (fun _ => True) M20x (b + 36) id iniV := (htri ).agr (fun q z1 z2 => by rw [eM]; exact va_up_ne _ _ (by omega))
      have hhis : RepH g (fun _ => True) M20x (b + 71) id (fun _ => id) (fun _ => iniV) 0 := (hhis ).agr (fun q z1 z2 => by rw [eM]; exact va_up_ne _ _ (by omega))
      have hga : M20x (b + 283) = .inl (g.2 5, 2, .inr (.inr (.inr (.inr (fun i => if i < kq then some (b + 288 + 35 * i) else none))))) := by rw [eM]; exact (va_up_ne _ _ (by omega)).trans (hga )
      have hsv : M20x (b + 284) = .inl (g.2 2, 2, .inl (fun _ => 0)) := by rw [eM]; exact (va_up_ne _ _ (by omega)).trans (hsv )
      have hpd : M20x (b + 285) = .inr (3, [.ref (b + 286), .int 0]) := by rw [eM]; exact (va_up_ne _ _ (by omega)).trans (hpd )
      have hsg : M20x (b + 286) = .inl (g.2 0, 60, .inl (fun _ => 0)) := by rw [eM]; exact (va_up_ne _ _ (by omega)).trans (hsg )
      have hrd : M20x (b + 287) = .inr (2, [.ref (b + 285), .int 0, .int 0, .int 0, .int 0, .int 0]) := by rw [eM]; exact (va_up_ne _ _ (by omega)).trans (hrd )
      have hV : ∀ j, j < kq → RepV g (fun _ => True) M20x (b + 288 + 35 * j) id iniV := fun j hj => (hV j hj).agr (fun q z1 z2 => by rw [eM]; exact va_up_ne _ _ (by omega))
      have hn9 : M20x (b + 288 + 35 * kq) = .inr (6, [.int 0, .int 0, .int 0, .int 0, .null, .null]) := by rw [eM]; exact va_up_self _ _ _
      refine lv_dup hx hb dX7_init_97 rfl ?_
      refine x_callI (As := []) (rest := [.ref (b + 288 + 35 * kq), .int (nI kq), .ref (b + 283)]) ⟨hx, hb, hml, hown, ht⟩ (k_X6_init l g X (b + 288 + 35 * kq) M20x hn9 (by omega)) (cwI 0 ht (gUI uw_56) rfl rfl rfl (ht _ uw_35) (ht _ uw_54) (ht _ uw_55) rfl (by decide +kernel) ⟨by decide, by decide⟩) hK hNW hX hS rfl hl.1 rfl (Nat.le_of_ble_eq_true rfl) dX7_init_98 ⟨show _ ≤ 357 by omega, show _ ≤ 2420 by omega⟩ (fun M21x H locs hp hX hS => ?_)
      obtain ⟨lo1, hv9⟩ := hp
      have lo : ∀ q, q < b → M21x (q) = M0 q := fun q hq => (lo1 _ (by omega)).trans (lo q hq)
      have hb0 : M21x (b) = .inr (7, [.ref (b + 1), .ref (b + 36), .ref (b + 71), .ref (b + 283), .ref (b + 284), .ref (b + 285), .ref (b + 287)]) := (lo1 _ (by omega)).trans (hb0 )
      have hnow : RepV g (fun _ => True) M21x (b + 1) id iniV := (hnow ).agr (fun q z1 z2 => lo1 q (by omega))
      have htri : RepV g (fun _ => True) M21x (b + 36) id iniV := (htri ).agr (fun q z1 z2 => lo1 q (by omega))
      have hhis : RepH g (fun _ => True) M21x (b + 71) id (fun _ => id) (fun _ => iniV) 0 := (hhis ).agr (fun q z1 z2 => lo1 q (by omega))
      have hga : M21x (b + 283) = .inl (g.2 5, 2, .inr (.inr (.inr (.inr (fun i => if i < kq then some (b + 288 + 35 * i) else none))))) := (lo1 _ (by omega)).trans (hga )
      have hsv : M21x (b + 284) = .inl (g.2 2, 2, .inl (fun _ => 0)) := (lo1 _ (by omega)).trans (hsv )
      have hpd : M21x (b + 285) = .inr (3, [.ref (b + 286), .int 0]) := (lo1 _ (by omega)).trans (hpd )
      have hsg : M21x (b + 286) = .inl (g.2 0, 60, .inl (fun _ => 0)) := (lo1 _ (by omega)).trans (hsg )
      have hrd : M21x (b + 287) = .inr (2, [.ref (b + 285), .int 0, .int 0, .int 0, .int 0, .int 0]) := (lo1 _ (by omega)).trans (hrd )
      have hV : ∀ j, j < kq → RepV g (fun _ => True) M21x (b + 288 + 35 * j) id iniV := fun j hj => (hV j hj).agr (fun q z1 z2 => lo1 q (by omega))
      have hv8 : RepV g (fun _ => True) M21x (b + 288 + 35 * kq) id iniV := hv9
      have hX : HX g X (b + 288 + 35 * kq + 35) M21x H := hX
      obtain ⟨hvW, hvL⟩ := rv_obj hv8
      refine x_aast (r := (RX6, TX6, 6)) hx hb hK hX hS ⟨by omega, by omega⟩ 5 6 hga rfl ⟨by omega, by omega⟩ hvW rfl hk6 (by omega) dX7_init_101 (fun H locs hX hS => ?_)
      obtain ⟨M22x, eM⟩ : ∃ M1 : MM, M1 = va_up M21x (b + 283) (.inl (g.2 5, 2, .inr (.inr (.inr (.inr (va_up (fun i => if i < kq then some (b + 288 + 35 * i) else none) kq (some (b + 288 + 35 * kq)))))))) := ⟨_, rfl⟩
      have hX : HX g X (b + 288 + 35 * kq + 35) M22x H := by rw [eM]; exact hX
      have lo : ∀ q, q < b → M22x (q) = M0 q := fun q hq => by rw [eM]; exact (va_up_ne _ _ (by omega)).trans (lo q hq)
      have hb0 : M22x (b) = .inr (7, [.ref (b + 1), .ref (b + 36), .ref (b + 71), .ref (b + 283), .ref (b + 284), .ref (b + 285), .ref (b + 287)]) := by rw [eM]; exact (va_up_ne _ _ (by omega)).trans (hb0 )
      have hnow : RepV g (fun _ => True) M22x (b + 1) id iniV := (hnow ).agr (fun q z1 z2 => by rw [eM]; exact va_up_ne _ _ (by omega))
      have htri : RepV g (fun _ => True) M22x (b + 36) id iniV := (htri ).agr (fun q z1 z2 => by rw [eM]; exact va_up_ne _ _ (by omega))
      have hhis : RepH g (fun _ => True) M22x (b + 71) id (fun _ => id) (fun _ => iniV) 0 := (hhis ).agr (fun q z1 z2 => by rw [eM]; exact va_up_ne _ _ (by omega))
      have hga : M22x (b + 283) = .inl (g.2 5, 2, .inr (.inr (.inr (.inr (va_up (fun i => if i < kq then some (b + 288 + 35 * i) else none) kq (some (b + 288 + 35 * kq))))))) := by rw [eM]; exact va_up_self _ _ _
      have hsv : M22x (b + 284) = .inl (g.2 2, 2, .inl (fun _ => 0)) := by rw [eM]; exact (va_up_ne _ _ (by omega)).trans (hsv )
      have hpd : M22x (b + 285) = .inr (3, [.ref (b + 286), .int 0]) := by rw [eM]; exact (va_up_ne _ _ (by omega)).trans (hpd )
      have hsg : M22x (b + 286) = .inl (g.2 0, 60, .inl (fun _ => 0)) := by rw [eM]; exact (va_up_ne _ _ (by omega)).trans (hsg )
      have hrd : M22x (b + 287) = .inr (2, [.ref (b + 285), .int 0, .int 0, .int 0, .int 0, .int 0]) := by rw [eM]; exact (va_up_ne _ _ (by omega)).trans (hrd )
      have hV : ∀ j, j < kq → RepV g (fun _ => True) M22x (b + 288 + 35 * j) id iniV := fun j hj => (hV j hj).agr (fun q z1 z2 => by rw [eM]; exact va_up_ne _ _ (by omega))
      have hv8 : RepV g (fun _ => True) M22x (b + 288 + 35 * kq) id iniV := (hv8 ).agr (fun q z1 z2 => by rw [eM]; exact va_up_ne _ _ (by omega))
      refine lv_iinc (v := nI (kq + 1)) (lv' := [(1, .int (nI (kq + 1))), (0, .ref (b))]) hx hb dX7_init_102 hl (k := 0) rfl (nI_1 _) (by decide) rfl (fun ls hl => ?_)
      refine lv_goto (tgt := 80) hx hb dX7_init_105 (by decide) ?_
      refine W.widen (k := 287 + 35 * (kq + 1)) (n := 1952 + 234 * (kq + 1)) (by omega) (by omega) ?_
      exact ih (kq + 1) _ _ _ _ (by omega) (by omega) lo hb0 hnow htri hhis (arrE_up (F := fun i => b + 288 + 35 * i) hga) hsv hpd hsg hrd (fun j hj => by
              by_cases hik : j = kq
              · rw [hik]; exact hv8
              · exact hV j (by omega)) (by rw [show b + 288 + 35 * (kq + 1) = b + 288 + 35 * kq + 35 by omega]; exact hX) hS hl
  exact loop_80 3 0 _ _ _ _ (by omega) (by omega) lo hb0 hnow htri hhis (arrE_0 (fun i => b + 288 + 35 * i) hga) hsv hpd hsg hrd (fun j hj => absurd hj (Nat.not_lt_zero j)) (by exact hX) hS hl
end
section
/-- the model's row at first -/
def iniL : Nat → Nat → Int32
  | 0 => fun _ => 0
  | k + 1 => va_up (va_up (va_up (va_up (iniL k) (17 * k + 0) (nI 3)) (17 * k + 1) (nI 10)) (17 * k + 2) (nI 100)) (17 * k + 3) (nI k)
def iniS : Nat → Int32 := va_up (va_up (iniL 6) 102 (nI 10)) 103 (nI 1)
end
section
/-! what the law's walk needs -/
theorem RepH.dom {g : GG} {A A' : Nat → Prop} {M : MM} {h : Nat} {ρ : Nat → Nat} {πs : Nat → Nat → Nat} {vs : Nat → VV} {sz : Int32} (hR : RepH g A M h ρ πs vs sz) (hA : ∀ q, h ≤ q → q < h + 212 → A' q) : RepH g A' M h ρ πs vs sz := by
  obtain ⟨h1, h2, h3, h4, h5, h6⟩ := hR
  refine ⟨hA _ (by omega) (by omega), hA _ (by omega) (by omega), h3, h4, h5, fun i hi => (h6 i hi).dom (fun q z1 z2 => ?_)⟩
  have := h3.1 i hi
  exact hA q (by omega) (by omega)
theorem RepT.dom {g : GG} {A A' : Nat → Prop} {M : MM} {a : Nat} {f : Nat → Int32} {len : Int32} {rs : Nat → Int32} (h : RepT g A M a f len rs) (hA : ∀ q, a ≤ q → q < a + 3 → A' q) : RepT g A' M a f len rs := ⟨hA _ (by omega) (by omega), hA _ (by omega) (by omega), hA _ (by omega) (by omega), h.2.2.2⟩
theorem RepX.dom {g : GG} {A A' : Nat → Prop} {M : MM} {X : Nat} {π : Nat → Nat} {now : VV} {hs : Nat → VV} {k : Nat} {sl : Nat → VV} {sv f : Nat → Int32} {L : Nat} (h : RepX g A M X π now hs k sl sv f L) (hA : ∀ q, X ≤ q → q < X + 358 → A' q) : RepX g A' M X π now hs k sl sv f L := by
  obtain ⟨h1, h2, h3, h4, h5, h6, hN, ⟨πt, t, hT⟩, ⟨ρ, πs, hH⟩, hS, ⟨rs, hTx⟩⟩ := h
  refine ⟨hA _ (by omega) (by omega), hA _ (by omega) (by omega), hA _ (by omega) (by omega), h4, h5, h6, hN.dom (fun q _ _ => hA q (by omega) (by omega)), ⟨πt, t, hT.dom (fun q _ _ => hA q (by omega) (by omega))⟩, ⟨ρ, πs, hH.dom (fun q _ _ => hA q (by omega) (by omega))⟩, fun i hi => ?_, ⟨rs, hTx.dom (fun q _ _ => hA q (by omega) (by omega))⟩⟩
  obtain ⟨πi, hs⟩ := hS i hi
  exact ⟨πi, hs.dom (fun q _ _ => hA q (by omega) (by omega))⟩
theorem RepX.agr {g : GG} {A : Nat → Prop} {M M1 : MM} {X : Nat} {π : Nat → Nat} {now : VV} {hs : Nat → VV} {k : Nat} {sl : Nat → VV} {sv f : Nat → Int32} {L : Nat} (h : RepX g A M X π now hs k sl sv f L) (ha : ∀ q, X ≤ q → q < X + 358 → M1 q = M q) : RepX g A M1 X π now hs k sl sv f L := by
  obtain ⟨h1, h2, h3, h4, h5, h6, hN, ⟨πt, t, hT⟩, ⟨ρ, πs, hH⟩, hS, ⟨rs, hTx⟩⟩ := h
  refine ⟨h1, h2, h3, by rw [ha _ (by omega) (by omega)]; exact h4, by rw [ha _ (by omega) (by omega)]; exact h5, by rw [ha _ (by omega) (by omega)]; exact h6, hN.agr (fun q _ _ => ha q (by omega) (by omega)), ⟨πt, t, hT.agr (fun q _ _ => ha q (by omega) (by omega))⟩, ⟨ρ, πs, hH.agr (fun q _ _ => ha q (by omega) (by omega))⟩, fun i hi => ?_, ⟨rs, hTx.agr (fun q _ _ => ha q (by omega) (by omega))⟩⟩
  obtain ⟨πi, hs⟩ := hS i hi
  exact ⟨πi, hs.agr (fun q _ _ => ha q (by omega) (by omega))⟩
theorem RXS.agr {g : GG} {A : Nat → Prop} {M0 M M1 : MM} {X : Nat} {c : CS} (h : RXS g A M0 M X c) (ha : ∀ q, X ≤ q → q < X + 358 → M1 q = M q) : RXS g A M1 M1 X c := by
  obtain ⟨π, h1, -⟩ := h
  exact ⟨π, h1.agr ha, FrX.rf⟩
theorem RXS.at {g : GG} {A : Nat → Prop} {M0 M : MM} {X : Nat} {c : CS} (h : RXS g A M0 M X c) : RXS g A M M X c := by
  obtain ⟨π, h1, -⟩ := h
  exact ⟨π, h1, FrX.rf⟩
theorem RXS.fr {g : GG} {A : Nat → Prop} {M0 M : MM} {X : Nat} {c : CS} (h : RXS g A M0 M X c) : FrX X M0 M := by
  obtain ⟨π, -, h2⟩ := h
  exact h2
theorem RXS.ob {g : GG} {A : Nat → Prop} {M0 M : MM} {X : Nat} {c : CS} (h : RXS g A M0 M X c) : A X ∧ M X = xE X := by
  obtain ⟨π, h1, -⟩ := h
  exact ⟨h1.1, h1.2.2.2.1⟩
section
variable {B : Nat} {c : CS} {σ : Nat → Int32} {ar : Nat → Nat → Int32} {ns : Nat → Int32} {k L n h : Nat}
end
/-! the first state -/
theorem ini_wt : ∀ i : Fin 6, iniS (17 * i.val + 10) = iniS (17 * i.val + 11) - iniS (17 * i.val + 11) / iniS 102 * iniS 102 := by decide +kernel
theorem ini_b : ∀ i : Fin 6, (1 ≤ (iniS (17 * i.val)).toInt ∧ (iniS (17 * i.val)).toInt ≤ 9) ∧ (1 ≤ (iniS (17 * i.val + 1)).toInt ∧ (iniS (17 * i.val + 1)).toInt ≤ 50) ∧ (-60 ≤ (iniS (17 * i.val + 10)).toInt ∧ (iniS (17 * i.val + 10)).toInt ≤ 60) ∧ (0 ≤ (iniS (17 * i.val + 12)).toInt ∧ (iniS (17 * i.val + 12)).toInt ≤ 33000000) ∧ iniS (17 * i.val + 3) = nI i.val := by decide +kernel
theorem ini_s : iniS 102 = nI 10 ∧ iniS 103 = nI 1 ∧ iniS 104 = nI 0 ∧ iniS 105 = nI 0 ∧ 0 ≤ (iniS 2).toInt ∧ (iniS 2).toInt ≤ 200 ∧ 0 ≤ (iniS 6).toInt ∧ (iniS 6).toInt ≤ 0 := by decide +kernel
theorem ini_v : iniV.1 0 = nI 10 ∧ iniV.1 1 = nI 1 ∧ iniV.1 2 = nI 0 ∧ iniV.1 3 = nI 0 := ⟨rfl, rfl, rfl, rfl⟩
theorem ini_on : OnW iniV := ⟨0, by omega, rfl⟩
abbrev iniC : CS := (iniV, fun _ => iniV, 0, fun _ => iniV, fun _ => 0, fun _ => 0, 0)
end
section
/-! numbers; a gauge's row through an hour, a telling -/
theorem bm_eq {x : Int} (h1 : -2147483648 ≤ x) (h2 : x < 2147483648) : x.bmod (2 ^ 32) = x := by
  simp only [Int.bmod]
  split <;> omega
theorem ti_add {x y : Int32} (h1 : -2147483648 ≤ x.toInt + y.toInt) (h2 : x.toInt + y.toInt < 2147483648) : (x + y).toInt = x.toInt + y.toInt := by rw [Int32.toInt_add]; exact bm_eq h1 h2
theorem ti_sub {x y : Int32} (h1 : -2147483648 ≤ x.toInt - y.toInt) (h2 : x.toInt - y.toInt < 2147483648) : (x - y).toInt = x.toInt - y.toInt := by rw [Int32.toInt_sub]; exact bm_eq h1 h2
theorem ti_mul {x y : Int32} (h1 : -2147483648 ≤ x.toInt * y.toInt) (h2 : x.toInt * y.toInt < 2147483648) : (x * y).toInt = x.toInt * y.toInt := by rw [Int32.toInt_mul]; exact bm_eq h1 h2
theorem ti_le {x y : Int32} : x ≤ y ↔ x.toInt ≤ y.toInt := Int32.le_iff_toInt_le
theorem ti_lt {x y : Int32} : x < y ↔ x.toInt < y.toInt := Int32.lt_iff_toInt_lt
theorem ti_inj {x y : Int32} (h : x.toInt = y.toInt) : x = y := Int32.toInt_inj.mp h
theorem nI_ti {n : Nat} (h : n < 2 ^ 31) : (nI n).toInt = n := nI_toInt h
theorem ti_0 : (0 : Int32).toInt = 0 := rfl
theorem ti_1 : (1 : Int32).toInt = 1 := rfl
theorem ti_pos {x : Int32} (h : 1 ≤ x.toInt) : 0 < x := ti_lt.mpr (by rw [ti_0]; omega)
theorem ti_npos {x : Int32} (h : 1 ≤ x.toInt) : ¬ x ≤ 0 := Int32.not_le.mpr (ti_pos h)
theorem ti_nn {x : Int32} (h : 0 ≤ x.toInt) : 0 ≤ x := ti_le.mpr (by rw [ti_0]; exact h)
theorem div_ti {x y : Int32} (hy : 1 ≤ y.toInt) : (x / y).toInt = x.toInt.tdiv y.toInt := Int32.toInt_div_of_ne_right x y (fun q => by rw [q] at hy; exact absurd hy (by decide))
theorem div_bd {x y : Int32} (hy : 1 ≤ y.toInt) {B : Int} (h1 : -B ≤ x.toInt) (h2 : x.toInt ≤ B) : -B ≤ (x / y).toInt ∧ (x / y).toInt ≤ B := by
  rw [div_ti hy]
  have := Int.natAbs_tdiv_le_natAbs x.toInt y.toInt
  omega
theorem up2_s {f : Nat → Nat → Int32} {i k : Nat} {x : Int32} : up2 f i k x i k = x := by
  unfold up2
  rw [va_up_self, va_up_self]
theorem up2_k {f : Nat → Nat → Int32} {i k k' : Nat} {x : Int32} (h : k' ≠ k) : up2 f i k x i k' = f i k' := by
  unfold up2
  rw [va_up_self, va_up_ne _ _ h]
theorem up2_i {f : Nat → Nat → Int32} {i k i' : Nat} {x : Int32} (h : i' ≠ i) : up2 f i k x i' = f i' := by
  unfold up2
  rw [va_up_ne _ _ h]
theorem vv_up {α : Type} (f : Nat → α) (i : Nat) (a b : α) : va_up (va_up f i a) i b = va_up f i b := by
  funext j
  unfold va_up
  by_cases h : j = i
  · rw [if_pos h, if_pos h]
  · rw [if_neg h, if_neg h, if_neg h]
theorem rot_lo {α : Type} {k n r : Nat} (f : Nat → α) (hr : r + 1 < n) : rotN k n f r = f (if r < k then r else r + 1) := by
  unfold rotN
  rw [if_neg (by omega)]
  by_cases h : r < k
  · rw [if_neg (by omega), if_pos h]
  · rw [if_pos (by omega), if_neg h]
/-! an hour of rain in a gauge's row -/
def felR (r : Nat → Int32) (a : Int32) : Int32 := a * r 0 * r 2 / 100
def tipR (r : Nat → Int32) (a : Int32) : Int32 := if 0 < r 1 then (r 4 + felR r a) / r 1 else 0
def catR (r : Nat → Int32) (a : Int32) : Nat → Int32 := fun k => if k = 4 then r 4 + felR r a - tipR r a * r 1 else if k = 5 then r 5 + tipR r a else if k = 6 then r 6 + felR r a else if k = 7 then r 7 + tipR r a * r 1 else r k
theorem catR_4 (r : Nat → Int32) (a : Int32) : catR r a 4 = r 4 + felR r a - tipR r a * r 1 := rfl
theorem catR_5 (r : Nat → Int32) (a : Int32) : catR r a 5 = r 5 + tipR r a := rfl
theorem catR_6 (r : Nat → Int32) (a : Int32) : catR r a 6 = r 6 + felR r a := rfl
theorem catR_7 (r : Nat → Int32) (a : Int32) : catR r a 7 = r 7 + tipR r a * r 1 := rfl
theorem catR_o (r : Nat → Int32) (a : Int32) {k : Nat} (h : k < 4 ∨ 8 ≤ k) : catR r a k = r k := by
  unfold catR
  rw [if_neg (by omega), if_neg (by omega), if_neg (by omega), if_neg (by omega)]
theorem cat_eq (v : VV) (i : Nat) (a : Int32) : catC v i a = (v.1, va_up v.2.1 i (catR (v.2.1 i) a), v.2.2) := by
  refine Prod.ext rfl (Prod.ext ?_ rfl)
  show (catT v i (felR (v.2.1 i) a) (tipR (v.2.1 i) a)).2.1 = va_up v.2.1 i (catR (v.2.1 i) a)
  unfold catT
  simp only [up2, vv_up, va_up_self]
  congr 1
  funext k
  rcases (by omega : k = 4 ∨ k = 5 ∨ k = 6 ∨ k = 7 ∨ (k < 4 ∨ 8 ≤ k)) with rfl | rfl | rfl | rfl | h
  · rw [catR_4]; simp [va_up]
  · rw [catR_5]; simp [va_up]
  · rw [catR_6]; simp [va_up]
  · rw [catR_7]; simp [va_up]
  · rw [catR_o _ _ h, va_up_ne _ _ (by omega), va_up_ne _ _ (by omega), va_up_ne _ _ (by omega), va_up_ne _ _ (by omega)]
theorem tip_eq (v : VV) (i : Nat) (a : Int32) : tipC v i a = tipR (v.2.1 i) a := rfl
/-! a telling in a gauge's row -/
def whI (w t : Int32) : Int32 := if 0 < w then t - t / w * w else 0
theorem wh_eq (v : VV) (t : Int32) : whC v t = whI (v.1 0) t := rfl
def expR (vm : Int32) (r : Nat → Int32) (c : Int32) : Int32 := if vm ≤ 0 ∨ r 1 ≤ 0 then 0 else (c - r 11) * r 0 / vm / r 1
def rouR (w m : Int32) : Int32 := if m ≤ 0 ∨ w ≤ 0 then 0 else (2 * m + w - 1) / (2 * w)
def we2R (w : Int32) (r : Nat → Int32) (t : Int32) : Int32 := if whI w t - whI w (r 10) < 0 then whI w t - whI w (r 10) + w else whI w t - whI w (r 10)
def wenR (w g vm : Int32) (r : Nat → Int32) (t c : Int32) : Int32 := if g = 1 then we2R w r t + w * rouR w (expR vm r c - we2R w r t) else we2R w r t
def takR (w g vm : Int32) (r : Nat → Int32) (t hh c : Int32) : Nat → Int32 := va_up (va_up (va_up (va_up (va_up r 8 (r 8 + wenR w g vm r t c)) 12 (r 12 + 1)) 9 hh) 10 t) 11 c
def heaR (w g vm : Int32) (r : Nat → Int32) (t hh c : Int32) : Nat → Int32 :=
  if hh < r 9 then va_up r 13 (r 13 + 1) else if 0 < r 12 ∧ hh = r 9 ∧ whI w t = whI w (r 10) then va_up r 14 (r 14 + 1) else takR w g vm r t hh c
theorem takR_8 {w g vm : Int32} {r : Nat → Int32} {t hh c : Int32} : takR w g vm r t hh c 8 = r 8 + wenR w g vm r t c := by simp [takR, va_up]
theorem takR_9 {w g vm : Int32} {r : Nat → Int32} {t hh c : Int32} : takR w g vm r t hh c 9 = hh := by simp [takR, va_up]
theorem takR_10 {w g vm : Int32} {r : Nat → Int32} {t hh c : Int32} : takR w g vm r t hh c 10 = t := by simp [takR, va_up]
theorem takR_11 {w g vm : Int32} {r : Nat → Int32} {t hh c : Int32} : takR w g vm r t hh c 11 = c := by simp [takR, va_up]
theorem takR_12 {w g vm : Int32} {r : Nat → Int32} {t hh c : Int32} : takR w g vm r t hh c 12 = r 12 + 1 := by simp [takR, va_up]
theorem takR_o {w g vm : Int32} {r : Nat → Int32} {t hh c : Int32} {k : Nat} (h : k < 8 ∨ 13 ≤ k) : takR w g vm r t hh c k = r k := by
  unfold takR
  rw [va_up_ne _ _ (by omega), va_up_ne _ _ (by omega), va_up_ne _ _ (by omega), va_up_ne _ _ (by omega), va_up_ne _ _ (by omega)]
theorem heaR_o {w g vm : Int32} {r : Nat → Int32} {t hh c : Int32} {k : Nat} (h : k < 8) : heaR w g vm r t hh c k = r k := by
  unfold heaR
  split
  · exact va_up_ne _ _ (by omega)
  · split
    · exact va_up_ne _ _ (by omega)
    · exact takR_o (Or.inl h)
theorem tak_eq (v : VV) (i j : Nat) : takC v i j = (v.1, va_up v.2.1 i (takR (v.1 0) (v.1 1) (v.2.1 0 0) (v.2.1 i) (v.2.2 j 1) (v.2.2 j 2) (v.2.2 j 3)), v.2.2) := by
  unfold takC
  refine Prod.ext rfl (Prod.ext ?_ rfl)
  simp only [up2, vv_up, va_up_self]
  unfold takR
  rw [va_up_ne _ _ (show (12 : Nat) ≠ 8 by decide)]
  rfl
theorem hea_eq {v : VV} {j i : Nat} (e : gxn 6 (v.2.2 j 0) = some i) : heaC v j = (v.1, va_up v.2.1 i (heaR (v.1 0) (v.1 1) (v.2.1 0 0) (v.2.1 i) (v.2.2 j 1) (v.2.2 j 2) (v.2.2 j 3)), v.2.2) := by
  unfold heaC
  rw [e]
  show heaT v i j = _
  unfold heaT heaR
  by_cases h1 : v.2.2 j 2 < v.2.1 i 9
  · rw [if_pos h1, if_pos h1]; rfl
  · rw [if_neg h1, if_neg h1]
    rw [wh_eq, wh_eq]
    by_cases h2 : 0 < v.2.1 i 12 ∧ v.2.2 j 2 = v.2.1 i 9 ∧ whI (v.1 0) (v.2.2 j 1) = whI (v.1 0) (v.2.1 i 10)
    · rw [if_pos h2, if_pos h2]; rfl
    · rw [if_neg h2, if_neg h2]
      exact tak_eq v i j
/-! two rows that agree -/
def RowE (r q : Nat → Int32) : Prop := ∀ k, k < 16 → r k = q k
theorem RowE.rf {r : Nat → Int32} : RowE r r := fun _ _ => rfl
theorem RowE.up {r q : Nat → Int32} (h : RowE r q) (k : Nat) (x : Int32) : RowE (va_up r k x) (va_up q k x) := by
  intro j hj
  unfold va_up
  by_cases e : j = k
  · rw [if_pos e, if_pos e]
  · rw [if_neg e, if_neg e]; exact h j hj
theorem RowE.fel {r q : Nat → Int32} (h : RowE r q) (a : Int32) : felR r a = felR q a := by
  unfold felR
  rw [h 0 (by omega), h 2 (by omega)]
theorem RowE.tip {r q : Nat → Int32} (h : RowE r q) (a : Int32) : tipR r a = tipR q a := by
  unfold tipR
  rw [h.fel a, h 1 (by omega), h 4 (by omega)]
theorem RowE.cat {r q : Nat → Int32} (h : RowE r q) (a : Int32) : RowE (catR r a) (catR q a) := by
  intro k hk
  unfold catR
  rw [h.fel a, h.tip a, h 1 (by omega), h 4 (by omega), h 5 (by omega), h 6 (by omega), h 7 (by omega), h k hk]
theorem RowE.wen {r q : Nat → Int32} (h : RowE r q) (w g vm t c : Int32) : wenR w g vm r t c = wenR w g vm q t c := by
  unfold wenR expR we2R
  rw [h 0 (by omega), h 1 (by omega), h 10 (by omega), h 11 (by omega)]
theorem RowE.hea {r q : Nat → Int32} (h : RowE r q) (w g vm t hh c : Int32) : RowE (heaR w g vm r t hh c) (heaR w g vm q t hh c) := by
  unfold heaR
  rw [h 9 (by omega), h 12 (by omega), h 10 (by omega), h 13 (by omega), h 14 (by omega)]
  by_cases h1 : hh < q 9
  · rw [if_pos h1, if_pos h1]; exact h.up 13 _
  · rw [if_neg h1, if_neg h1]
    by_cases h2 : 0 < q 12 ∧ hh = q 9 ∧ whI w t = whI w (q 10)
    · rw [if_pos h2, if_pos h2]; exact h.up 14 _
    · rw [if_neg h2, if_neg h2]
      unfold takR
      rw [h.wen w g vm t c, h 8 (by omega), h 12 (by omega)]
      exact ((((h.up 8 _).up 12 _).up 9 _).up 10 _).up 11 _
end
section
/-! two valleys that agree on all that can be asked: settings, gauges, runners on the way -/
def Eq2 (v w : VV) (n : Nat) : Prop := (∀ k, k < 4 → v.1 k = w.1 k) ∧ (∀ i, i < 6 → RowE (v.2.1 i) (w.2.1 i)) ∧ ∀ j, j < n → ∀ k, k < 5 → v.2.2 j k = w.2.2 j k
theorem Eq2.rf {v : VV} {n : Nat} : Eq2 v v n := ⟨fun _ _ => rfl, fun _ _ _ _ => rfl, fun _ _ _ _ => rfl⟩
theorem Eq2.sy {v w : VV} {n : Nat} (h : Eq2 v w n) : Eq2 w v n := ⟨fun k hk => (h.1 k hk).symm, fun i hi k hk => (h.2.1 i hi k hk).symm, fun j hj k hk => (h.2.2 j hj k hk).symm⟩
theorem Eq2.tr {u v w : VV} {n : Nat} (h : Eq2 u v n) (q : Eq2 v w n) : Eq2 u w n := ⟨fun k hk => (h.1 k hk).trans (q.1 k hk), fun i hi k hk => (h.2.1 i hi k hk).trans (q.2.1 i hi k hk), fun j hj k hk => (h.2.2 j hj k hk).trans (q.2.2 j hj k hk)⟩
theorem Eq2.cpy (t w : VV) (n : Nat) : Eq2 (cpyC t w n) w n := by
  refine ⟨fun k hk => ?_, fun i hi k hk => ?_, fun j hj k hk => ?_⟩
  · show cpW t.1 w.1 k = _
    unfold cpW
    exact if_pos hk
  · show mixN cpG 6 t.2.1 w.2.1 i k = _
    unfold mixN
    rw [if_pos hi]
    unfold cpG
    exact if_pos hk
  · show mixN cpR n t.2.2 w.2.2 j k = _
    unfold mixN
    rw [if_pos hj]
    unfold cpR
    exact if_pos hk
section
variable {v w : VV} {n : Nat}
theorem va_row {α : Type} {f g : Nat → α} {i : Nat} {a b : α} {P : α → α → Prop} (h : ∀ j, j < 6 → P (f j) (g j)) (hab : P a b) : ∀ j, j < 6 → P (va_up f i a j) (va_up g i b j) := by
  intro j hj
  by_cases e : j = i
  · rw [e, va_up_self, va_up_self]; exact hab
  · rw [va_up_ne _ _ e, va_up_ne _ _ e]; exact h j hj
theorem Eq2.cat (h : Eq2 v w n) {i : Nat} (hi : i < 6) (a : Int32) : Eq2 (catC v i a) (catC w i a) n := by
  rw [cat_eq, cat_eq]
  exact ⟨h.1, va_row h.2.1 ((h.2.1 i hi).cat a), h.2.2⟩
theorem Eq2.rains (h : Eq2 v w n) (a : Int32) : ∀ i, i ≤ 6 → Eq2 (catL a v i) (catL a w i) n := by
  intro i
  induction i with
  | zero => intro _; exact h
  | succ i ih => intro hi; exact (ih (by omega)).cat (by omega) a
theorem Eq2.ho1 (h : Eq2 v w n) (a : Int32) : Eq2 (ho1C a v) (ho1C a w) n := by
  have h6 := h.rains a 6 (Nat.le_refl 6)
  refine ⟨fun k hk => ?_, h6.2.1, h6.2.2⟩
  show va_up (catL a v 6).1 2 ((catL a v 6).1 2 + 1) k = va_up (catL a w 6).1 2 ((catL a w 6).1 2 + 1) k
  by_cases e : k = 2
  · rw [e, va_up_self, va_up_self, h6.1 2 (by omega)]
  · rw [va_up_ne _ _ e, va_up_ne _ _ e]; exact h6.1 k hk
theorem Eq2.row (h : Eq2 v w n) (j k : Nat) {x y : Int32} (e : x = y) : Eq2 (vR v j k x) (vR w j k y) n := by
  subst e
  refine ⟨h.1, h.2.1, fun j' hj' k' hk' => ?_⟩
  show up2 v.2.2 j k x j' k' = up2 w.2.2 j k x j' k'
  by_cases e : j' = j
  · subst e
    by_cases e2 : k' = k
    · subst e2; rw [up2_s, up2_s]
    · rw [up2_k e2, up2_k e2]; exact h.2.2 _ hj' _ hk'
  · rw [up2_i e, up2_i e]; exact h.2.2 _ hj' _ hk'
theorem Eq2.hea (h : Eq2 v w n) {j : Nat} (hj : j < n) : Eq2 (heaC v j) (heaC w j) n := by
  have e0 := h.2.2 j hj 0 (by omega)
  rcases gxn_cases (n := 6) (by decide) (v.2.2 j 0) with ⟨e1, -⟩ | ⟨i, hi, -, e1⟩
  · have e2 : gxn 6 (w.2.2 j 0) = none := by rw [← e0]; exact e1
    have h1 : heaC v j = v := by unfold heaC; rw [e1]
    have h2 : heaC w j = w := by unfold heaC; rw [e2]
    rw [h1, h2]; exact h
  · have e2 : gxn 6 (w.2.2 j 0) = some i := by rw [← e0]; exact e1
    rw [hea_eq e1, hea_eq e2, h.1 0 (by omega), h.1 1 (by omega), h.2.1 0 (by omega) 0 (by omega), h.2.2 j hj 1 (by omega), h.2.2 j hj 2 (by omega), h.2.2 j hj 3 (by omega)]
    exact ⟨h.1, va_row h.2.1 ((h.2.1 i hi).hea _ _ _ _ _ _), h.2.2⟩
theorem Eq2.rmv (h : Eq2 v w (n + 1)) (k : Nat) : Eq2 (rmvC v k (n + 1)) (rmvC w k (n + 1)) n := by
  refine ⟨fun q hq => ?_, h.2.1, fun j hj q hq => ?_⟩
  · show va_up v.1 3 (nI n) q = va_up w.1 3 (nI n) q
    by_cases e : q = 3
    · rw [e, va_up_self, va_up_self]
    · rw [va_up_ne _ _ e, va_up_ne _ _ e]; exact h.1 q hq
  · show rotN k (n + 1) v.2.2 j q = rotN k (n + 1) w.2.2 j q
    rw [rot_lo _ (by omega), rot_lo _ (by omega)]
    exact h.2.2 _ (by split <;> omega) q hq
end
theorem Eq2.mov : ∀ (u k : Nat) (v w : VV), Eq2 v w (k + u) → v.1 3 = nI (k + u) → ∃ n, n ≤ k + u ∧ (movC u k v).1 3 = nI n ∧ Eq2 (movC u k v) (movC u k w) n := by
  intro u
  induction u with
  | zero => intro k v w h e; exact ⟨k, by omega, e, h⟩
  | succ u ih =>
    intro k v w h e
    have e4 : v.2.2 k 4 - 1 = w.2.2 k 4 - 1 := by rw [h.2.2 k (by omega) 4 (by omega)]
    have h1 : Eq2 (vR v k 4 (v.2.2 k 4 - 1)) (vR w k 4 (w.2.2 k 4 - 1)) (k + (u + 1)) := h.row k 4 e4
    unfold movC
    by_cases hz : v.2.2 k 4 - 1 ≤ 0
    · rw [if_pos hz, if_pos (by rw [← e4]; exact hz)]
      obtain ⟨n, a1, a2, a3⟩ := ih k _ _ (Eq2.rmv (n := k + u) (h1.hea (j := k) (by omega)) k) (rmvC_3 _ _ _)
      exact ⟨n, by omega, a2, a3⟩
    · rw [if_neg hz, if_neg (by rw [← e4]; exact hz)]
      have ek : k + (u + 1) = k + 1 + u := by omega
      obtain ⟨n, a1, a2, a3⟩ := ih (k + 1) _ _ (by rw [← ek]; exact h1) (by rw [← ek]; exact e)
      exact ⟨n, by omega, a2, a3⟩
theorem Eq2.hou {v w : VV} {n : Nat} (h : Eq2 v w n) (e : v.1 3 = nI n) (hn : n ≤ 20) (a : Int32) : ∃ q, q ≤ 20 ∧ (houC a v).1 3 = nI q ∧ Eq2 (houC a v) (houC a w) q := by
  have ew : w.1 3 = nI n := (h.1 3 (by omega)).symm.trans e
  unfold houC
  rw [e, ew, nI_clamp (by omega)]
  obtain ⟨q, h1, h2, h3⟩ := Eq2.mov n 0 (ho1C a v) (ho1C a w) (by rw [Nat.zero_add]; exact h.ho1 a) (by rw [ho1C_3, e, Nat.zero_add])
  exact ⟨q, by omega, h2, h3⟩
theorem Eq2.pas {v w : VV} {n : Nat} (h : Eq2 v w n) (e : v.1 3 = nI n) (hn : n ≤ 20) (a : Int32) : ∀ z, ∃ q, q ≤ 20 ∧ (pasC a v z).1 3 = nI q ∧ Eq2 (pasC a v z) (pasC a w z) q := by
  intro z
  induction z with
  | zero => exact ⟨n, hn, e, h⟩
  | succ z ih =>
    obtain ⟨q, h1, h2, h3⟩ := ih
    exact h3.hou h2 h1 a
theorem Eq2.lon {v w : VV} {n : Nat} (h : Eq2 v w n) : ∀ j, j ≤ n → lonC v j = lonC w j := by
  intro j
  induction j with
  | zero => intro _; rfl
  | succ j ih =>
    intro hj
    unfold lonC
    rw [ih (by omega), h.2.2 j (by omega) 4 (by omega)]
end
section
/-! what holds of a gauge, of its page, of a runner, of a valley -/
def zGA (h : Nat) (r : Nat → Int32) : Prop := (1 ≤ (r 0).toInt ∧ (r 0).toInt ≤ 9) ∧ (1 ≤ (r 1).toInt ∧ (r 1).toInt ≤ 50) ∧ (0 ≤ (r 2).toInt ∧ (r 2).toInt ≤ 200) ∧ (∃ w, w ≤ 9 ∧ r 3 = nI w) ∧ 0 ≤ (r 4).toInt ∧ 0 ≤ (r 5).toInt ∧ (r 5).toInt ≤ (r 7).toInt ∧ (r 4).toInt + (r 7).toInt = (r 6).toInt ∧ (r 6).toInt ≤ 1782 * (h : Int)
def zPA (T h : Nat) (r : Nat → Int32) : Prop := (∃ q, q ≤ h ∧ r 9 = nI q) ∧ (0 ≤ (r 10).toInt ∧ (r 10).toInt ≤ 1782 * (h : Int)) ∧ (0 ≤ (r 11).toInt ∧ (r 11).toInt ≤ 1782 * (h : Int)) ∧ (0 ≤ (r 12).toInt ∧ (r 12).toInt ≤ (T : Int)) ∧ ((r 12).toInt = 0 → r 8 = 0 ∧ r 9 = 0)
def zRA (B h : Nat) (q : Nat → Int32) : Prop := (∃ i, i < 6 ∧ q 0 = nI i) ∧ (0 ≤ (q 1).toInt ∧ (q 1).toInt ≤ 1782 * (h : Int)) ∧ (∃ z, z ≤ h ∧ q 2 = nI z) ∧ (0 ≤ (q 3).toInt ∧ (q 3).toInt ≤ 1782 * (h : Int)) ∧ ∃ d, 1 ≤ d ∧ d ≤ B ∧ q 4 = nI d
def zPI (B T : Nat) (v : VV) (n h : Nat) : Prop := n ≤ 20 ∧ v.1 3 = nI n ∧ (∃ w, 4 ≤ w ∧ w ≤ 60 ∧ v.1 0 = nI w) ∧ v.1 2 = nI h ∧ (∀ i, i < 6 → zGA h (v.2.1 i) ∧ zPA T h (v.2.1 i)) ∧ ∀ j, j < n → zRA B h (v.2.2 j)
theorem zGA.cg {h : Nat} {r q : Nat → Int32} (G : zGA h r) (e : ∀ k, k < 8 → q k = r k) : zGA h q := by
  unfold zGA
  rw [e 0 (by omega), e 1 (by omega), e 2 (by omega), e 3 (by omega), e 4 (by omega), e 5 (by omega), e 6 (by omega), e 7 (by omega)]
  exact G
theorem zPA.cg {T h : Nat} {r q : Nat → Int32} (G : zPA T h r) (e : ∀ k, 8 ≤ k → k < 13 → q k = r k) : zPA T h q := by
  unfold zPA
  rw [e 8 (by omega) (by omega), e 9 (by omega) (by omega), e 10 (by omega) (by omega), e 11 (by omega) (by omega), e 12 (by omega) (by omega)]
  exact G
theorem zRA.cg {B h : Nat} {r q : Nat → Int32} (G : zRA B h r) (e : ∀ k, k < 5 → q k = r k) : zRA B h q := by
  unfold zRA
  rw [e 0 (by omega), e 1 (by omega), e 2 (by omega), e 3 (by omega), e 4 (by omega)]
  exact G
theorem zPA.mono {T T' h h' : Nat} {r : Nat → Int32} (G : zPA T h r) (hT : T ≤ T') (hh : h ≤ h') : zPA T' h' r := by
  obtain ⟨⟨q, q1, q2⟩, ⟨a1, a2⟩, ⟨b1, b2⟩, ⟨c1, c2⟩, d⟩ := G
  exact ⟨⟨q, by omega, q2⟩, ⟨a1, by omega⟩, ⟨b1, by omega⟩, ⟨c1, by omega⟩, d⟩
theorem zRA.mono {B B' h h' : Nat} {r : Nat → Int32} (G : zRA B h r) (hB : B ≤ B') (hh : h ≤ h') : zRA B' h' r := by
  obtain ⟨a, ⟨b1, b2⟩, ⟨z, z1, z2⟩, ⟨c1, c2⟩, ⟨d, d1, d2, d3⟩⟩ := G
  exact ⟨a, ⟨b1, by omega⟩, ⟨z, by omega, z2⟩, ⟨c1, by omega⟩, ⟨d, d1, by omega, d3⟩⟩
theorem zPI.mono {B B' T T' n h : Nat} {v : VV} (P : zPI B T v n h) (hB : B ≤ B') (hT : T ≤ T') : zPI B' T' v n h := by
  obtain ⟨h1, h2, h3, h4, h5, h6⟩ := P
  exact ⟨h1, h2, h3, h4, fun i hi => ⟨(h5 i hi).1, (h5 i hi).2.mono hT (Nat.le_refl _)⟩, fun j hj => (h6 j hj).mono hB (Nat.le_refl _)⟩
theorem zPI.cg {B T n h : Nat} {v w : VV} (P : zPI B T v n h) (e : Eq2 w v n) : zPI B T w n h := by
  obtain ⟨h1, h2, h3, h4, h5, h6⟩ := P
  exact ⟨h1, (e.1 3 (by omega)).trans h2, by rw [e.1 0 (by omega)]; exact h3, (e.1 2 (by omega)).trans h4, fun i hi => ⟨(h5 i hi).1.cg (fun k hk => e.2.1 i hi k (by omega)), (h5 i hi).2.cg (fun k _ hk => e.2.1 i hi k (by omega))⟩, fun j hj => (h6 j hj).cg (fun k hk => e.2.2 j hj k hk)⟩
/-- an hour of rain, in numbers -/
theorem cat_int {h : Nat} {r : Nat → Int32} (G : zGA h r) (hh : h ≤ 20000) {a : Int32} (a1 : 0 ≤ a.toInt) (a2 : a.toInt ≤ 99) :
    ∃ F : Int, F = a.toInt * (r 0).toInt * (r 2).toInt / 100 ∧ 0 ≤ F ∧ F ≤ 1782 ∧ (tipR r a).toInt = ((r 4).toInt + F) / (r 1).toInt ∧ (catR r a 4).toInt = ((r 4).toInt + F) % (r 1).toInt ∧ (catR r a 5).toInt = (r 5).toInt + ((r 4).toInt + F) / (r 1).toInt ∧ zGA (h + 1) (catR r a) := by
  obtain ⟨⟨m1, m2⟩, ⟨c1, c2⟩, ⟨s1, s2⟩, hw, d1, t1, t2, p1, p2⟩ := G
  have e1 : 0 ≤ a.toInt * (r 0).toInt ∧ a.toInt * (r 0).toInt ≤ 891 := by
    refine ⟨Int.mul_nonneg a1 (by omega), ?_⟩
    have h1 := Int.mul_le_mul_of_nonneg_right (c := (r 0).toInt) a2 (by omega)
    omega
  have e2 : (a * r 0).toInt = a.toInt * (r 0).toInt := ti_mul (by omega) (by omega)
  have e3 : 0 ≤ a.toInt * (r 0).toInt * (r 2).toInt ∧ a.toInt * (r 0).toInt * (r 2).toInt ≤ 178200 := by
    refine ⟨Int.mul_nonneg e1.1 s1, ?_⟩
    have h1 := Int.mul_le_mul_of_nonneg_right (c := (r 2).toInt) e1.2 s1
    omega
  have e4 : (a * r 0 * r 2).toInt = a.toInt * (r 0).toInt * (r 2).toInt := by
    rw [← e2]
    exact ti_mul (by rw [e2]; omega) (by rw [e2]; omega)
  obtain ⟨F, hF⟩ : ∃ F : Int, F = a.toInt * (r 0).toInt * (r 2).toInt / 100 := ⟨_, rfl⟩
  have F1 : 0 ≤ F ∧ F ≤ 1782 := by rw [hF]; omega
  have eF : (felR r a).toInt = F := by
    unfold felR
    have e5 : (100 : Int32).toInt = 100 := rfl
    rw [lg_idiv_nonneg (by rw [e4]; exact e3.1) (by rw [e5]; omega), e4, e5, hF]
  have eN : (r 4 + felR r a).toInt = (r 4).toInt + F := by
    have := ti_add (x := r 4) (y := felR r a) (by rw [eF]; omega) (by rw [eF]; omega)
    rw [this, eF]
  obtain ⟨N, hN⟩ : ∃ N : Int, N = (r 4).toInt + F := ⟨_, rfl⟩
  obtain ⟨c, hc⟩ : ∃ c : Int, c = (r 1).toInt := ⟨_, rfl⟩
  obtain ⟨t, ht⟩ : ∃ t : Int, t = N / c := ⟨_, rfl⟩
  have q1 : 0 ≤ t := by rw [ht]; exact Int.ediv_nonneg (by omega) (by omega)
  have q2 : N % c + t * c = N := by rw [ht]; exact Int.emod_add_ediv_mul N c
  have q3 : 0 ≤ N % c := Int.emod_nonneg N (by omega)
  have q4 : t ≤ t * c := by
    have z := Int.mul_nonneg q1 (show 0 ≤ c - 1 by omega)
    rw [Int.mul_sub, Int.mul_one] at z
    omega
  have eT : (tipR r a).toInt = t := by
    unfold tipR
    rw [if_pos (ti_pos c1), lg_idiv_nonneg (by rw [eN]; omega) (by omega), eN, ht, hN, hc]
  have eM : (tipR r a * r 1).toInt = t * c := by
    have := ti_mul (x := tipR r a) (y := r 1) (by rw [eT, ← hc]; omega) (by rw [eT, ← hc]; omega)
    rw [this, eT, ← hc]
  have k4 : (catR r a 4).toInt = N % c := by
    rw [catR_4]
    have := ti_sub (x := r 4 + felR r a) (y := tipR r a * r 1) (by rw [eN, eM]; omega) (by rw [eN, eM]; omega)
    rw [this, eN, eM]; omega
  have k5 : (catR r a 5).toInt = (r 5).toInt + t := by
    rw [catR_5]
    have := ti_add (x := r 5) (y := tipR r a) (by rw [eT]; omega) (by rw [eT]; omega)
    rw [this, eT]
  have k6 : (catR r a 6).toInt = (r 6).toInt + F := by
    rw [catR_6]
    have := ti_add (x := r 6) (y := felR r a) (by rw [eF]; omega) (by rw [eF]; omega)
    rw [this, eF]
  have k7 : (catR r a 7).toInt = (r 7).toInt + t * c := by
    rw [catR_7]
    have := ti_add (x := r 7) (y := tipR r a * r 1) (by rw [eM]; omega) (by rw [eM]; omega)
    rw [this, eM]
  refine ⟨F, hF, F1.1, F1.2, ?_, ?_, ?_, ?_⟩
  · rw [eT, ht, hN, hc]
  · rw [k4, hN, hc]
  · rw [k5, ht, hN, hc]
  · refine ⟨?_, ?_, ?_, ?_, ?_, ?_, ?_, ?_, ?_⟩
    · rw [catR_o _ _ (by omega)]; exact ⟨m1, m2⟩
    · rw [catR_o _ _ (by omega)]; exact ⟨c1, c2⟩
    · rw [catR_o _ _ (by omega)]; exact ⟨s1, s2⟩
    · rw [catR_o _ _ (by omega)]; exact hw
    · rw [k4]; exact q3
    · rw [k5]; omega
    · rw [k5, k7]; omega
    · rw [k4, k6, k7]; omega
    · rw [k6]; omega
/-- where a wheel stands -/
theorem wh_int {w : Nat} (h1 : 1 ≤ w) (h2 : w ≤ 60) {t : Int32} (ht : 0 ≤ t.toInt) : 0 ≤ (whI (nI w) t).toInt ∧ (whI (nI w) t).toInt < (w : Int) := by
  have ew : (nI w).toInt = w := nI_ti (by omega)
  have tl := Int32.toInt_lt t
  unfold whI
  have hw0 : 0 < nI w := nI_lt (a := 0) (by omega) (by omega)
  rw [if_pos hw0]
  have q1 : t.toInt % (w : Int) + t.toInt / (w : Int) * (w : Int) = t.toInt := Int.emod_add_ediv_mul _ _
  have q2 : 0 ≤ t.toInt % (w : Int) := Int.emod_nonneg _ (by omega)
  have q3 : t.toInt % (w : Int) < (w : Int) := Int.emod_lt_of_pos _ (by omega)
  have q4 : 0 ≤ t.toInt / (w : Int) := Int.ediv_nonneg ht (by omega)
  have q5 : 0 ≤ t.toInt / (w : Int) * (w : Int) := Int.mul_nonneg q4 (by omega)
  have e1 : (t / nI w).toInt = t.toInt / (w : Int) := by rw [lg_idiv_nonneg ht (by rw [ew]; omega), ew]
  have e2 : (t / nI w * nI w).toInt = t.toInt / (w : Int) * (w : Int) := by
    have := ti_mul (x := t / nI w) (y := nI w) (by rw [e1, ew]; omega) (by rw [e1, ew]; omega)
    rw [this, e1, ew]
  have e3 : (t - t / nI w * nI w).toInt = t.toInt % (w : Int) := by
    have := ti_sub (x := t) (y := t / nI w * nI w) (by rw [e2]; omega) (by rw [e2]; omega)
    rw [this, e2]; omega
  rw [e3]
  exact ⟨q2, q3⟩
/-- what a wheel went on -/
theorem wen_int {w : Nat} (h1 : 4 ≤ w) (h2 : w ≤ 60) {h : Nat} (hh : h ≤ 20000) {g vm : Int32} (v1 : 1 ≤ vm.toInt) {r : Nat → Int32} (r0 : 1 ≤ (r 0).toInt ∧ (r 0).toInt ≤ 9) (r1 : 1 ≤ (r 1).toInt) (r10 : 0 ≤ (r 10).toInt) (r11 : 0 ≤ (r 11).toInt ∧ (r 11).toInt ≤ 1782 * (h : Int)) {t c : Int32} (ht : 0 ≤ t.toInt) (hc : 0 ≤ c.toInt ∧ c.toInt ≤ 1782 * (h : Int)) : 0 ≤ (wenR (nI w) g vm r t c).toInt ∧ (¬ g = 1 → (wenR (nI w) g vm r t c).toInt < (w : Int)) := by
  have ew : (nI w).toInt = w := nI_ti (by omega)
  have A1 := wh_int (w := w) (by omega) h2 ht
  have A2 := wh_int (w := w) (by omega) h2 r10
  have es : (whI (nI w) t - whI (nI w) (r 10)).toInt = (whI (nI w) t).toInt - (whI (nI w) (r 10)).toInt := ti_sub (by omega) (by omega)
  have W2 : 0 ≤ (we2R (nI w) r t).toInt ∧ (we2R (nI w) r t).toInt < (w : Int) := by
    unfold we2R
    by_cases z : whI (nI w) t - whI (nI w) (r 10) < 0
    · rw [if_pos z]
      have z2 := ti_lt.mp z
      rw [es, ti_0] at z2
      have := ti_add (x := whI (nI w) t - whI (nI w) (r 10)) (y := nI w) (by rw [es, ew]; omega) (by rw [es, ew]; omega)
      rw [this, es, ew]
      omega
    · rw [if_neg z]
      have z2 := ti_le.mp (Int32.not_lt.mp z)
      rw [es, ti_0] at z2
      rw [es]
      omega
  unfold wenR
  by_cases hg : g = 1
  · rw [if_pos hg]
    refine ⟨?_, fun q => absurd hg q⟩
    have f1 : (c - r 11).toInt = c.toInt - (r 11).toInt := ti_sub (by omega) (by omega)
    have f2 : -320760000 ≤ (c - r 11).toInt * (r 0).toInt ∧ (c - r 11).toInt * (r 0).toInt ≤ 320760000 := by
      rw [f1]
      have b1 : c.toInt - (r 11).toInt ≤ 35640000 := by omega
      have b2 : -35640000 ≤ c.toInt - (r 11).toInt := by omega
      have g1 := Int.mul_le_mul_of_nonneg_right (c := (r 0).toInt) b1 (by omega)
      have g2 := Int.mul_le_mul_of_nonneg_right (c := (r 0).toInt) b2 (by omega)
      omega
    have f3 : ((c - r 11) * r 0).toInt = (c - r 11).toInt * (r 0).toInt := ti_mul (by omega) (by omega)
    have f4 := div_bd (x := (c - r 11) * r 0) v1 (B := 320760000) (by rw [f3]; exact f2.1) (by rw [f3]; exact f2.2)
    have f5 := div_bd (x := (c - r 11) * r 0 / vm) r1 (B := 320760000) f4.1 f4.2
    have f6 : -320760000 ≤ (expR vm r c).toInt ∧ (expR vm r c).toInt ≤ 320760000 := by
      unfold expR
      rw [if_neg (fun z => z.elim (ti_npos v1) (ti_npos r1))]
      exact f5
    obtain ⟨m, hm⟩ : ∃ m : Int32, m = expR vm r c - we2R (nI w) r t := ⟨_, rfl⟩
    have f7 : m.toInt = (expR vm r c).toInt - (we2R (nI w) r t).toInt := by rw [hm]; exact ti_sub (by omega) (by omega)
    rw [← hm]
    unfold rouR
    by_cases z : m ≤ 0 ∨ nI w ≤ 0
    · rw [if_pos z, Int32.mul_zero, Int32.add_zero]
      exact W2.1
    · rw [if_neg z]
      have zm : 1 ≤ m.toInt := by
        have z1 : ¬ m ≤ 0 := fun q => z (Or.inl q)
        have z2 := ti_lt.mp (Int32.not_le.mp z1)
        rw [ti_0] at z2
        omega
      have e2 : (2 : Int32).toInt = 2 := rfl
      have g1 : (2 * m).toInt = 2 * m.toInt := by
        have := ti_mul (x := 2) (y := m) (by rw [e2]; omega) (by rw [e2]; omega)
        rw [this, e2]
      have g2 : (2 * m + nI w).toInt = 2 * m.toInt + w := by
        have := ti_add (x := 2 * m) (y := nI w) (by rw [g1, ew]; omega) (by rw [g1, ew]; omega)
        rw [this, g1, ew]
      have g3 : (2 * m + nI w - 1).toInt = 2 * m.toInt + w - 1 := by
        have := ti_sub (x := 2 * m + nI w) (y := 1) (by rw [g2, ti_1]; omega) (by rw [g2, ti_1]; omega)
        rw [this, g2, ti_1]
      have g4 : (2 * nI w).toInt = 2 * (w : Int) := by
        have := ti_mul (x := 2) (y := nI w) (by rw [e2, ew]; omega) (by rw [e2, ew]; omega)
        rw [this, e2, ew]
      obtain ⟨R, hR⟩ : ∃ R : Int, R = (2 * m.toInt + w - 1) / (2 * (w : Int)) := ⟨_, rfl⟩
      have g5 : ((2 * m + nI w - 1) / (2 * nI w)).toInt = R := by
        rw [lg_idiv_nonneg (by rw [g3]; omega) (by rw [g4]; omega), g3, g4, hR]
      have k1 : 0 ≤ R := by rw [hR]; exact Int.ediv_nonneg (by omega) (by omega)
      have k2 : R * (2 * (w : Int)) ≤ 2 * m.toInt + w - 1 := by rw [hR]; exact Int.ediv_mul_le _ (by omega)
      have k3 : R * (2 * (w : Int)) = 2 * ((w : Int) * R) := by rw [Int.mul_comm R, Int.mul_assoc]
      have k4 : 0 ≤ (w : Int) * R := Int.mul_nonneg (by omega) k1
      have g6 : (nI w * ((2 * m + nI w - 1) / (2 * nI w))).toInt = (w : Int) * R := by
        have := ti_mul (x := nI w) (y := (2 * m + nI w - 1) / (2 * nI w)) (by rw [g5, ew]; omega) (by rw [g5, ew]; omega)
        rw [this, g5, ew]
      have g7 := ti_add (x := we2R (nI w) r t) (y := nI w * ((2 * m + nI w - 1) / (2 * nI w))) (by rw [g6]; omega) (by rw [g6]; omega)
      rw [g7, g6]
      omega
  · rw [if_neg hg]
    exact ⟨W2.1, fun _ => W2.2⟩
/-- a telling, in a page -/
theorem hea_PA {T h : Nat} (hT : T < 2 ^ 30) {r : Nat → Int32} (P : zPA T h r) {w g vm t hh c : Int32} (t1 : 0 ≤ t.toInt ∧ t.toInt ≤ 1782 * (h : Int)) (z1 : ∃ z, z ≤ h ∧ hh = nI z) (c1 : 0 ≤ c.toInt ∧ c.toInt ≤ 1782 * (h : Int)) : zPA (T + 1) h (heaR w g vm r t hh c) := by
  unfold heaR
  by_cases q1 : hh < r 9
  · rw [if_pos q1]
    exact (P.mono (Nat.le_succ T) (Nat.le_refl h)).cg (fun k _ hk => va_up_ne _ _ (by omega))
  · rw [if_neg q1]
    by_cases q2 : 0 < r 12 ∧ hh = r 9 ∧ whI w t = whI w (r 10)
    · rw [if_pos q2]
      exact (P.mono (Nat.le_succ T) (Nat.le_refl h)).cg (fun k _ hk => va_up_ne _ _ (by omega))
    · rw [if_neg q2]
      obtain ⟨-, -, -, ⟨b1, b2⟩, -⟩ := P
      have e12 : (r 12 + 1).toInt = (r 12).toInt + 1 := by
        have := ti_add (x := r 12) (y := 1) (by rw [ti_1]; omega) (by rw [ti_1]; omega)
        rw [this, ti_1]
      refine ⟨by rw [takR_9]; exact z1, by rw [takR_10]; exact t1, by rw [takR_11]; exact c1, by rw [takR_12, e12]; omega, fun q => ?_⟩
      rw [takR_12, e12] at q
      omega
end
section
/-! hours: the rain, then the runners -/
theorem catL_row (a : Int32) (v : VV) : ∀ i, (catL a v i).2.1 = fun j => if j < i then catR (v.2.1 j) a else v.2.1 j := by
  intro i
  induction i with
  | zero => funext j; exact (if_neg (Nat.not_lt_zero j)).symm
  | succ i ih =>
    show (catC (catL a v i) i a).2.1 = _
    rw [cat_eq, ih]
    funext j
    show va_up (fun j => if j < i then catR (v.2.1 j) a else v.2.1 j) i (catR (if i < i then catR (v.2.1 i) a else v.2.1 i) a) j = _
    by_cases e : j = i
    · rw [e, va_up_self, if_neg (Nat.lt_irrefl i), if_pos (Nat.lt_succ_self i)]
    · rw [va_up_ne _ _ e]
      by_cases z : j < i
      · rw [if_pos z, if_pos (by omega)]
      · rw [if_neg z, if_neg (by omega)]
theorem ho1_row (a : Int32) (v : VV) {i : Nat} (hi : i < 6) : (ho1C a v).2.1 i = catR (v.2.1 i) a := by
  show (catL a v 6).2.1 i = _
  rw [catL_row]
  exact if_pos hi
theorem ho1_2 (a : Int32) (v : VV) : (ho1C a v).1 2 = v.1 2 + 1 := by
  show va_up (catL a v 6).1 2 ((catL a v 6).1 2 + 1) 2 = _
  rw [va_up_self, catL_1]
theorem ho1_o (a : Int32) (v : VV) {k : Nat} (h : k ≠ 2) : (ho1C a v).1 k = v.1 k := by
  show va_up (catL a v 6).1 2 ((catL a v 6).1 2 + 1) k = _
  rw [va_up_ne _ _ h, catL_1]
theorem ho1_R (a : Int32) (v : VV) : (ho1C a v).2.2 = v.2.2 := catL_2 a v 6
/-- settings stay while runners come -/
theorem mov_W : ∀ (u k : Nat) (v : VV) (q : Nat), q ≠ 3 → (movC u k v).1 q = v.1 q := by
  intro u
  induction u with
  | zero => intro k v q _; rfl
  | succ u ih =>
    intro k v q hq
    unfold movC
    split
    · rw [ih _ _ q hq]
      show va_up (heaC (vR v k 4 (v.2.2 k 4 - 1)) k).1 3 _ q = _
      rw [va_up_ne _ _ hq, heaC_1]
    · rw [ih _ _ q hq]
theorem hou_W (a : Int32) (v : VV) {q : Nat} (h3 : q ≠ 3) (h2 : q ≠ 2) : (houC a v).1 q = v.1 q := by
  unfold houC
  rw [mov_W _ _ _ q h3, ho1_o a v h2]
theorem pas_W (a : Int32) (v : VV) {q : Nat} (h3 : q ≠ 3) (h2 : q ≠ 2) : ∀ z, (pasC a v z).1 q = v.1 q := by
  intro z
  induction z with
  | zero => rfl
  | succ z ih => exact (hou_W a _ h3 h2).trans ih
theorem zPI.mov {B h : Nat} (hh : h ≤ 20000) (hB : B < 2 ^ 30) : ∀ (u k T : Nat) (v : VV), k + u ≤ 20 → T + u < 2 ^ 30 → v.1 3 = nI (k + u) → (∃ w, 4 ≤ w ∧ w ≤ 60 ∧ v.1 0 = nI w) → v.1 2 = nI h → (∀ i, i < 6 → zGA h (v.2.1 i) ∧ zPA T h (v.2.1 i)) → (∀ j, j < k → zRA B h (v.2.2 j)) → (∀ j, k ≤ j → j < k + u → zRA (B + 1) h (v.2.2 j)) → ∃ n, zPI B (T + u) (movC u k v) n h := by
  intro u
  induction u with
  | zero => intro k T v h1 _ h3 hw h2 hG hlo _; exact ⟨k, h1, h3, hw, h2, hG, hlo⟩
  | succ u ih =>
    intro k T v h1 hT h3 hw h2 hG hlo hhi
    obtain ⟨⟨i, hi, ei⟩, b1, b2, b3, ⟨d, d1, d2, d4⟩⟩ := hhi k (by omega) (by omega)
    obtain ⟨d, rfl⟩ : ∃ d', d = d' + 1 := ⟨d - 1, by omega⟩
    have e4 : v.2.2 k 4 - 1 = nI d := by rw [d4]; exact nI_pred d
    unfold movC
    by_cases hz : d = 0
    · rw [if_pos (by rw [e4, hz]; decide)]
      have r0 : ∀ q, q < 4 → (vR v k 4 (v.2.2 k 4 - 1)).2.2 k q = v.2.2 k q := fun q hq => up2_k (by omega)
      have eg : gxn 6 ((vR v k 4 (v.2.2 k 4 - 1)).2.2 k 0) = some i := by rw [r0 0 (by omega), ei]; exact gxn_in hi (by decide)
      obtain ⟨w, hw1, hw2⟩ := hw
      have hH := hea_eq eg
      rw [r0 1 (by omega), r0 2 (by omega), r0 3 (by omega)] at hH
      rw [show T + (u + 1) = T + 1 + u by omega]
      refine ih k (T + 1) _ (by omega) (by omega) (rmvC_3 _ _ _) ⟨w, hw1, hw2.1, ?_⟩ ?_ (fun i' hi' => ?_) (fun j hj => ?_) (fun j hj1 hj2 => ?_)
      · show va_up (heaC (vR v k 4 (v.2.2 k 4 - 1)) k).1 3 (nI (k + u + 1 - 1)) 0 = _
        rw [va_up_ne _ _ (by omega), heaC_1]; exact hw2.2
      · show va_up (heaC (vR v k 4 (v.2.2 k 4 - 1)) k).1 3 (nI (k + u + 1 - 1)) 2 = _
        rw [va_up_ne _ _ (by omega), heaC_1]; exact h2
      · show zGA h ((heaC (vR v k 4 (v.2.2 k 4 - 1)) k).2.1 i') ∧ zPA (T + 1) h ((heaC (vR v k 4 (v.2.2 k 4 - 1)) k).2.1 i')
        rw [hH]
        show zGA h (va_up v.2.1 i _ i') ∧ zPA (T + 1) h (va_up v.2.1 i _ i')
        by_cases e : i' = i
        · rw [e, va_up_self]
          exact ⟨(hG i hi).1.cg (fun q hq => heaR_o hq), hea_PA (by omega) (hG i hi).2 b1 b2 b3⟩
        · rw [va_up_ne _ _ e]
          exact ⟨(hG i' hi').1, (hG i' hi').2.mono (by omega) (Nat.le_refl h)⟩
      · show zRA B h (rotN k (k + u + 1) (heaC (vR v k 4 (v.2.2 k 4 - 1)) k).2.2 j)
        rw [rot_lo _ (by omega), if_pos hj, heaC_2]
        show zRA B h (up2 v.2.2 k 4 (v.2.2 k 4 - 1) j)
        rw [up2_i (by omega)]
        exact hlo j hj
      · show zRA (B + 1) h (rotN k (k + u + 1) (heaC (vR v k 4 (v.2.2 k 4 - 1)) k).2.2 j)
        rw [rot_lo _ (by omega), if_neg (by omega), heaC_2]
        show zRA (B + 1) h (up2 v.2.2 k 4 (v.2.2 k 4 - 1) (j + 1))
        rw [up2_i (by omega)]
        exact hhi (j + 1) (by omega) (by omega)
    · rw [if_neg (by rw [e4]; exact nI_nle (by omega) (by omega))]
      have ek : k + (u + 1) = k + 1 + u := by omega
      rw [ek] at h3
      rw [show T + (u + 1) = T + 1 + u by omega]
      refine ih (k + 1) (T + 1) _ (by omega) (by omega) h3 hw h2 (fun i' hi' => ⟨(hG i' hi').1, (hG i' hi').2.mono (by omega) (Nat.le_refl h)⟩) (fun j hj => ?_) (fun j hj1 hj2 => ?_)
      · show zRA B h (up2 v.2.2 k 4 (v.2.2 k 4 - 1) j)
        by_cases e : j = k
        · subst e
          exact ⟨⟨i, hi, (up2_k (by omega)).trans ei⟩, by rw [up2_k (by omega)]; exact b1, by rw [up2_k (by omega)]; exact b2, by rw [up2_k (by omega)]; exact b3, d, by omega, by omega, up2_s.trans e4⟩
        · rw [up2_i e]; exact hlo j (by omega)
      · show zRA (B + 1) h (up2 v.2.2 k 4 (v.2.2 k 4 - 1) j)
        rw [up2_i (by omega)]
        exact hhi j (by omega) (by omega)
theorem zPI.hour {B T n h : Nat} {v : VV} (P : zPI (B + 1) T v n h) (hB : B < 2 ^ 30) (hh : h + 1 ≤ 20000) (hT : T + 20 < 2 ^ 30) {a : Int32} (a1 : 0 ≤ a.toInt) (a2 : a.toInt ≤ 99) : ∃ n', zPI B (T + 20) (houC a v) n' (h + 1) := by
  obtain ⟨h1, h2, h3, h4, h5, h6⟩ := P
  unfold houC
  rw [h2, nI_clamp (by omega)]
  obtain ⟨n', P'⟩ := zPI.mov (B := B) (h := h + 1) hh hB n 0 T (ho1C a v) (by omega) (by omega) (by rw [ho1C_3, h2, Nat.zero_add]) (by rw [ho1_o a v (by omega)]; exact h3) (by rw [ho1_2, h4]; exact nI_1 h) (fun i hi => by
    rw [ho1_row a v hi]
    obtain ⟨F, -, -, -, -, -, -, g⟩ := cat_int (h5 i hi).1 (by omega) a1 a2
    exact ⟨g, ((h5 i hi).2.mono (Nat.le_refl T) (Nat.le_succ h)).cg (fun k hk _ => catR_o _ _ (Or.inr hk))⟩) (fun j hj => absurd hj (Nat.not_lt_zero j)) (fun j _ hj => by
    rw [ho1_R]
    exact (h6 j (by omega)).mono (Nat.le_refl _) (Nat.le_succ h))
  exact ⟨n', P'.mono (Nat.le_refl B) (by omega)⟩
theorem zPI.pas {B T n h : Nat} {v : VV} {a : Int32} (a1 : 0 ≤ a.toInt) (a2 : a.toInt ≤ 99) : ∀ q, zPI (B + q) T v n h → B + q < 2 ^ 30 → h + q ≤ 20000 → T + 20 * q < 2 ^ 30 → ∃ n', zPI B (T + 20 * q) (pasC a v q) n' (h + q) := by
  intro q
  induction q generalizing B with
  | zero => intro P _ _ _; exact ⟨n, P⟩
  | succ q ih =>
    intro P hB hh hT
    obtain ⟨n1, P1⟩ := ih (B := B + 1) (by rw [show B + 1 + q = B + (q + 1) by omega]; exact P) (by omega) (by omega) (by omega)
    obtain ⟨n2, P2⟩ := P1.hour (by omega) (by omega) (by omega) a1 a2
    exact ⟨n2, P2.mono (Nat.le_refl B) (by omega)⟩
theorem zPI.pas' {B T n h : Nat} {v : VV} {a : Int32} (P : zPI B T v n h) (a1 : 0 ≤ a.toInt) (a2 : a.toInt ≤ 99) (q : Nat) (hB : B + q < 2 ^ 30) (hh : h + q ≤ 20000) (hT : T + 20 * q < 2 ^ 30) : ∃ n', zPI B (T + 20 * q) (pasC a v q) n' (h + q) :=
  zPI.pas a1 a2 q (P.mono (by omega) (Nat.le_refl T)) hB hh hT
/-- tips are never less than none -/
theorem tis_int {B T n h : Nat} {v : VV} (P : zPI B T v n h) (hh : h + 1 ≤ 4000) {a : Int32} (a1 : 0 ≤ a.toInt) (a2 : a.toInt ≤ 99) {t : Int32} {K : Int} (t1 : 0 ≤ t.toInt) (t2 : t.toInt ≤ K) (hK : K ≤ 1100000000) : ∀ i, i ≤ 6 → 0 ≤ (tisL a v t i).toInt ∧ (tisL a v t i).toInt ≤ K + 7200000 * (i : Int) := by
  intro i
  induction i with
  | zero => intro _; exact ⟨t1, by show t.toInt ≤ _; omega⟩
  | succ i ih =>
    intro hi
    obtain ⟨g1, g2⟩ := ih (by omega)
    have G := (P.2.2.2.2.1 i (by omega)).1
    obtain ⟨F, -, f1, f2, f3, -, -, -⟩ := cat_int G (by omega) a1 a2
    have er : (catL a v i).2.1 i = v.2.1 i := by rw [catL_row]; exact if_neg (Nat.lt_irrefl i)
    have et : tipC (catL a v i) i a = tipR (v.2.1 i) a := by rw [tip_eq, er]
    obtain ⟨-, ⟨c1, c2⟩, -, -, d1, s1, s2, p1, p2⟩ := G
    have b1 : 0 ≤ ((v.2.1 i 4).toInt + F) / (v.2.1 i 1).toInt := Int.ediv_nonneg (by omega) (by omega)
    have b2 : ((v.2.1 i 4).toInt + F) / (v.2.1 i 1).toInt ≤ (v.2.1 i 4).toInt + F := Int.ediv_le_self _ (by omega)
    show 0 ≤ (tisL a v t i + tipC (catL a v i) i a).toInt ∧ (tisL a v t i + tipC (catL a v i) i a).toInt ≤ _
    rw [et]
    have e1 := ti_add (x := tisL a v t i) (y := tipR (v.2.1 i) a) (by rw [f3]; omega) (by rw [f3]; omega)
    rw [e1, f3]
    omega
theorem pat_int {B T n h : Nat} {v : VV} (P : zPI B T v n h) {a : Int32} (a1 : 0 ≤ a.toInt) (a2 : a.toInt ≤ 99) : ∀ q, q ≤ 24 → B + q < 2 ^ 30 → h + q ≤ 4000 → T + 20 * q < 2 ^ 30 → 0 ≤ (pasT a v q).toInt ∧ (pasT a v q).toInt ≤ 43200000 * (q : Int) := by
  intro q
  induction q with
  | zero => intro _ _ _ _; exact ⟨Int.le_refl _, Int.le_refl _⟩
  | succ q ih =>
    intro h1 h2 h3 h4
    obtain ⟨g1, g2⟩ := ih (by omega) (by omega) (by omega) (by omega)
    obtain ⟨n', P'⟩ := P.pas' a1 a2 q (by omega) (by omega) (by omega)
    have z := tis_int P' (by omega) a1 a2 g1 g2 (by omega) 6 (by omega)
    show 0 ≤ (tisL a (pasC a v q) (pasT a v q) 6).toInt ∧ (tisL a (pasC a v q) (pasT a v q) 6).toInt ≤ _
    omega
/-! a gauge from which nobody is on the way -/
def NoG (i : Nat) (v : VV) (n : Nat) : Prop := ∀ j, j < n → v.2.2 j 0 ≠ nI i
def itR (r : Nat → Int32) (a : Int32) : Nat → Nat → Int32
  | 0 => r
  | q + 1 => catR (itR r a q) a
theorem NoG.mov {i : Nat} : ∀ (u k : Nat) (v : VV), v.1 3 = nI (k + u) → NoG i v (k + u) → (∀ j, j < k + u → ∃ q, q < 6 ∧ v.2.2 j 0 = nI q) → (movC u k v).2.1 i = v.2.1 i ∧ ∃ n, n ≤ k + u ∧ (movC u k v).1 3 = nI n ∧ NoG i (movC u k v) n := by
  intro u
  induction u with
  | zero => intro k v h hN _; exact ⟨rfl, k, by omega, h, hN⟩
  | succ u ih =>
    intro k v h hN hv
    have e0 : ∀ j, (vR v k 4 (v.2.2 k 4 - 1)).2.2 j 0 = v.2.2 j 0 := fun j => by
      show up2 v.2.2 k 4 (v.2.2 k 4 - 1) j 0 = _
      by_cases e : j = k
      · rw [e, up2_k (by omega)]
      · rw [up2_i e]
    obtain ⟨g, hg, eg0⟩ := hv k (by omega)
    have hne : i ≠ g := fun z => hN k (by omega) (by rw [z]; exact eg0)
    unfold movC
    by_cases hz : v.2.2 k 4 - 1 ≤ 0
    · rw [if_pos hz]
      have eg : gxn 6 ((vR v k 4 (v.2.2 k 4 - 1)).2.2 k 0) = some g := by rw [e0, eg0]; exact gxn_in hg (by decide)
      have er : ∀ j, j < k + u → (rmvC (heaC (vR v k 4 (v.2.2 k 4 - 1)) k) k (k + u + 1)).2.2 j 0 = v.2.2 (if j < k then j else j + 1) 0 := fun j hj => by
        show rotN k (k + u + 1) (heaC (vR v k 4 (v.2.2 k 4 - 1)) k).2.2 j 0 = _
        rw [rot_lo _ (by omega), heaC_2]
        exact e0 _
      obtain ⟨a1, n, a2, a3, a4⟩ := ih k (rmvC (heaC (vR v k 4 (v.2.2 k 4 - 1)) k) k (k + u + 1)) (rmvC_3 _ _ _) (fun j hj => by rw [er j hj]; exact hN _ (by split <;> omega)) (fun j hj => by rw [er j hj]; exact hv _ (by split <;> omega))
      refine ⟨a1.trans ?_, n, by omega, a3, a4⟩
      show (heaC (vR v k 4 (v.2.2 k 4 - 1)) k).2.1 i = _
      rw [hea_eq eg]
      exact va_up_ne _ _ hne
    · rw [if_neg hz]
      have ek : k + (u + 1) = k + 1 + u := by omega
      rw [ek] at h hN hv
      obtain ⟨a1, n, a2, a3, a4⟩ := ih (k + 1) (vR v k 4 (v.2.2 k 4 - 1)) h (fun j hj => by rw [e0]; exact hN j hj) (fun j hj => by rw [e0]; exact hv j hj)
      exact ⟨a1, n, by omega, a3, a4⟩
theorem NoG.pas {i : Nat} (hi : i < 6) {B T n h : Nat} {v : VV} (P : zPI B T v n h) (N : NoG i v n) {a : Int32} (a1 : 0 ≤ a.toInt) (a2 : a.toInt ≤ 99) : ∀ q, B + q < 2 ^ 30 → h + q ≤ 20000 → T + 20 * q < 2 ^ 30 → (pasC a v q).2.1 i = itR (v.2.1 i) a q ∧ ∃ n', n' ≤ 20 ∧ (pasC a v q).1 3 = nI n' ∧ NoG i (pasC a v q) n' := by
  intro q
  induction q with
  | zero => intro _ _ _; exact ⟨rfl, n, P.1, P.2.1, N⟩
  | succ q ih =>
    intro h1 h2 h3
    obtain ⟨e1, m, m1, m2, m3⟩ := ih (by omega) (by omega) (by omega)
    obtain ⟨n1, P1⟩ := P.pas' a1 a2 q (by omega) (by omega) (by omega)
    have em : n1 = m := by
      have z := P1.2.1.symm.trans m2
      have z2 := congrArg Int32.toNatClampNeg z
      rw [nI_clamp (by have := P1.1; omega), nI_clamp (by omega)] at z2
      exact z2
    subst em
    show (houC a (pasC a v q)).2.1 i = _ ∧ _
    have ez : (houC a (pasC a v q)) = movC n1 0 (ho1C a (pasC a v q)) := by
      unfold houC
      rw [m2, nI_clamp (by omega)]
    obtain ⟨b1, n2, b2, b3, b4⟩ := NoG.mov (i := i) n1 0 (ho1C a (pasC a v q)) (by rw [ho1C_3, m2, Nat.zero_add]) (fun j hj => by rw [ho1_R]; exact m3 j (by omega)) (fun j hj => by rw [ho1_R]; exact (P1.2.2.2.2.2 j (by omega)).1)
    rw [← ez] at b1 b3 b4
    refine ⟨b1.trans ?_, n2, by omega, b3, b4⟩
    rw [ho1_row a _ hi, e1]
    rfl
end
section
/-! how long until a wheel has gone round -/
def unR (w a : Int32) : Nat → Nat → (Nat → Int32) → Int32
  | 0, _, _ => -1000006
  | z + 1, o, r => if w ≤ r 5 - r 10 then nI o else unR w a z (o + 1) (catR r a)
theorem unt_row {i : Nat} (a : Int32) : ∀ (z o : Nat) (v : VV), untL i a z o v = unR (v.1 0) a z o (v.2.1 i) := by
  intro z
  induction z with
  | zero => intro o v; rfl
  | succ z ih =>
    intro o v
    unfold untL unR
    rw [ih, cat_eq]
    show (if _ then _ else unR (v.1 0) a z (o + 1) (va_up v.2.1 i (catR (v.2.1 i) a) i)) = _
    rw [va_up_self]
theorem RowE.un (w a : Int32) : ∀ (z o : Nat) (r q : Nat → Int32), RowE r q → unR w a z o r = unR w a z o q := by
  intro z
  induction z with
  | zero => intro o r q _; rfl
  | succ z ih =>
    intro o r q h
    unfold unR
    rw [h 5 (by omega), h 10 (by omega), ih (o + 1) _ _ (h.cat a)]
def htR (w : Int32) (r : Nat → Int32) (a : Int32) (p : Nat) : Prop := w ≤ itR r a p 5 - itR r a p 10
theorem itR_sh (r : Nat → Int32) (a : Int32) : ∀ p, itR (catR r a) a p = itR r a (p + 1) := by
  intro p
  induction p with
  | zero => rfl
  | succ p ih =>
    show catR (itR (catR r a) a p) a = catR (itR r a (p + 1)) a
    rw [ih]
theorem itR_add (r : Nat → Int32) (a : Int32) (q : Nat) : ∀ p, itR (itR r a q) a p = itR r a (q + p) := by
  intro p
  induction p with
  | zero => rfl
  | succ p ih =>
    show catR (itR (itR r a q) a p) a = catR (itR r a (q + p)) a
    rw [ih]
theorem itR_o (r : Nat → Int32) (a : Int32) {k : Nat} (h : k < 4 ∨ 8 ≤ k) : ∀ p, itR r a p k = r k := by
  intro p
  induction p with
  | zero => rfl
  | succ p ih => exact (catR_o _ _ h).trans ih
theorem un_spec (w a : Int32) : ∀ (z o : Nat) (r : Nat → Int32), (∃ p, p < z ∧ htR w r a p ∧ (∀ q, q < p → ¬ htR w r a q) ∧ unR w a z o r = nI (o + p)) ∨ ((∀ p, p < z → ¬ htR w r a p) ∧ unR w a z o r = -1000006) := by
  intro z
  induction z with
  | zero => intro o r; exact Or.inr ⟨fun p hp => absurd hp (Nat.not_lt_zero p), rfl⟩
  | succ z ih =>
    intro o r
    have sh : ∀ p, htR w (catR r a) a p ↔ htR w r a (p + 1) := fun p => by
      unfold htR
      rw [itR_sh]
    unfold unR
    by_cases h0 : w ≤ r 5 - r 10
    · rw [if_pos h0]
      exact Or.inl ⟨0, by omega, h0, fun q hq => absurd hq (Nat.not_lt_zero q), rfl⟩
    · rw [if_neg h0]
      rcases ih (o + 1) (catR r a) with ⟨p, h1, h2, h3, h4⟩ | ⟨h1, h2⟩
      · refine Or.inl ⟨p + 1, by omega, (sh p).mp h2, fun q hq => ?_, h4.trans (congrArg nI (by omega))⟩
        cases q with
        | zero => exact h0
        | succ q => exact fun y => h3 q (by omega) ((sh q).mpr y)
      · refine Or.inr ⟨fun p hp => ?_, h2⟩
        cases p with
        | zero => exact h0
        | succ p => exact fun y => h1 p (by omega) ((sh p).mpr y)
theorem nI_ij {a b : Nat} (ha : a < 2 ^ 31) (hb : b < 2 ^ 31) (h : nI a = nI b) : a = b := by
  have z2 := congrArg Int32.toNatClampNeg h
  rw [nI_clamp ha, nI_clamp hb] at z2
  exact z2
theorem nI_none {p : Nat} (hp : p < 2 ^ 31) : ¬ nI p = -1000006 := fun h => by
  have z := congrArg Int32.toInt h
  rw [nI_ti hp, show (-1000006 : Int32).toInt = -1000006 from rfl] at z
  omega
theorem un_zero (w a : Int32) (r : Nat → Int32) : unR w a 501 0 r = 0 ↔ w ≤ r 5 - r 10 := by
  show (if w ≤ r 5 - r 10 then nI 0 else unR w a 500 1 (catR r a)) = 0 ↔ _
  by_cases h : w ≤ r 5 - r 10
  · rw [if_pos h]; exact ⟨fun _ => h, fun _ => rfl⟩
  · rw [if_neg h]
    refine ⟨fun q => ?_, fun q => absurd q h⟩
    rcases un_spec w a 500 1 (catR r a) with ⟨p, h1, -, -, h4⟩ | ⟨-, h2⟩
    · rw [h4] at q
      have := nI_ij (by omega) (by omega) (b := 0) q
      omega
    · rw [h2] at q
      exact absurd q (by decide)
/-- what fell in p hours, all at once -/
def fI (r : Nat → Int32) (a : Int32) : Int := a.toInt * (r 0).toInt * (r 2).toInt / 100
def tI (r : Nat → Int32) (a : Int32) (p : Nat) : Int := if p = 0 then (r 5).toInt else (r 5).toInt + ((r 4).toInt + (p : Int) * fI r a) / (r 1).toInt
theorem it_int {h : Nat} {r : Nat → Int32} (G : zGA h r) {a : Int32} (a1 : 0 ≤ a.toInt) (a2 : a.toInt ≤ 99) : ∀ p, h + p ≤ 20000 → zGA (h + p) (itR r a p) ∧ (itR r a p 5).toInt = tI r a p ∧ (1 ≤ p → (itR r a p 4).toInt = ((r 4).toInt + (p : Int) * fI r a) % (r 1).toInt) := by
  intro p
  induction p with
  | zero => intro _; exact ⟨G, (if_pos rfl).symm, fun q => absurd q (by omega)⟩
  | succ p ih =>
    intro hp
    obtain ⟨g1, g2, g3⟩ := ih (by omega)
    obtain ⟨F, hF, f1, f2, f3, f4, f5, f6⟩ := cat_int g1 (by omega) a1 a2
    have hF2 : F = fI r a := by
      rw [hF, itR_o r a (Or.inl (by omega)), itR_o r a (Or.inl (by omega))]
      rfl
    have e1 : itR r a p 1 = r 1 := itR_o r a (Or.inl (by omega)) p
    have c1 := G.2.1.1
    rw [e1] at f4 f5
    have en : (((p + 1 : Nat) : Int)) * fI r a = (p : Int) * fI r a + fI r a := by
      rw [show ((p + 1 : Nat) : Int) = (p : Int) + 1 by omega, Int.add_mul, Int.one_mul]
    refine ⟨f6, ?_, fun _ => ?_⟩
    · show (catR (itR r a p) a 5).toInt = _
      rw [f5, g2]
      unfold tI
      rw [if_neg (show ¬ p + 1 = 0 by omega), en, hF2]
      by_cases hp0 : p = 0
      · subst hp0
        rw [if_pos rfl]
        show _ + ((r 4).toInt + fI r a) / _ = _
        rw [show ((0 : Nat) : Int) * fI r a + fI r a = fI r a by rw [show ((0 : Nat) : Int) = 0 from rfl, Int.zero_mul, Int.zero_add]]
      · rw [if_neg hp0, g3 (by omega)]
        obtain ⟨S, hS⟩ : ∃ S : Int, S = (r 4).toInt + (p : Int) * fI r a := ⟨_, rfl⟩
        rw [← hS, show (r 4).toInt + ((p : Int) * fI r a + fI r a) = S + fI r a by omega]
        have q2 : S % (r 1).toInt + S / (r 1).toInt * (r 1).toInt = S := Int.emod_add_ediv_mul S _
        have q3 : (S + fI r a) / (r 1).toInt = (S % (r 1).toInt + fI r a) / (r 1).toInt + S / (r 1).toInt := by
          rw [← Int.add_mul_ediv_right _ _ (show (r 1).toInt ≠ 0 by omega)]
          congr 1
          omega
        omega
    · show (catR (itR r a p) a 4).toInt = _
      rw [f4, en, hF2]
      by_cases hp0 : p = 0
      · subst hp0
        show ((r 4).toInt + fI r a) % _ = _
        rw [show ((0 : Nat) : Int) * fI r a + fI r a = fI r a by rw [show ((0 : Nat) : Int) = 0 from rfl, Int.zero_mul, Int.zero_add]]
      · rw [g3 (by omega), Int.emod_add_emod]
        congr 1
        omega
theorem fI_mono {h : Nat} {r : Nat → Int32} (G : zGA h r) {a b : Int32} (hab : a.toInt ≤ b.toInt) : fI r a ≤ fI r b := by
  obtain ⟨⟨m1, m2⟩, -, ⟨s1, s2⟩, -⟩ := G
  have h1 := Int.mul_le_mul_of_nonneg_right (c := (r 0).toInt) hab (by omega)
  have h2 := Int.mul_le_mul_of_nonneg_right (c := (r 2).toInt) h1 s1
  unfold fI
  omega
theorem tI_mono {h : Nat} {r : Nat → Int32} (G : zGA h r) {a b : Int32} (hab : a.toInt ≤ b.toInt) (p : Nat) : tI r a p ≤ tI r b p := by
  unfold tI
  by_cases hp : p = 0
  · rw [if_pos hp, if_pos hp]; exact Int.le_refl _
  · rw [if_neg hp, if_neg hp]
    have c1 := G.2.1.1
    have h1 := Int.mul_le_mul_of_nonneg_left (c := (p : Int)) (fI_mono G hab) (by omega)
    have h2 := Int.ediv_le_ediv (c := (r 1).toInt) (by omega) (show (r 4).toInt + (p : Int) * fI r a ≤ (r 4).toInt + (p : Int) * fI r b by omega)
    omega
theorem ht_int {h : Nat} {r : Nat → Int32} (G : zGA h r) (r10 : 0 ≤ (r 10).toInt ∧ (r 10).toInt ≤ 1782 * (h : Int)) {w : Nat} (hw : w ≤ 60) {a : Int32} (a1 : 0 ≤ a.toInt) (a2 : a.toInt ≤ 99) (p : Nat) (hp : h + p ≤ 20000) : htR (nI w) r a p ↔ (w : Int) ≤ tI r a p - (r 10).toInt := by
  obtain ⟨g1, g2, -⟩ := it_int G a1 a2 p hp
  obtain ⟨-, -, -, -, d1, t1, t2, p1, p2⟩ := g1
  have e10 : itR r a p 10 = r 10 := itR_o r a (Or.inr (by omega)) p
  unfold htR
  rw [ti_le, nI_ti (by omega), e10, ti_sub (by rw [g2] at *; omega) (by rw [g2] at *; omega), g2]
theorem ht_mono {h : Nat} {r : Nat → Int32} (G : zGA h r) (r10 : 0 ≤ (r 10).toInt ∧ (r 10).toInt ≤ 1782 * (h : Int)) {w : Nat} (hw : w ≤ 60) {a b : Int32} (a1 : 0 ≤ a.toInt) (hab : a.toInt ≤ b.toInt) (b2 : b.toInt ≤ 99) {p : Nat} (hp : h + p ≤ 20000) (H : htR (nI w) r a p) : htR (nI w) r b p := by
  have z := (ht_int G r10 hw a1 (by omega) p hp).mp H
  have z2 := tI_mono G hab p
  exact (ht_int G r10 hw (by omega) b2 p hp).mpr (by omega)
/-- the answers that stand beside each other -/
theorem un_mono {h : Nat} {r : Nat → Int32} (G : zGA h r) (r10 : 0 ≤ (r 10).toInt ∧ (r 10).toInt ≤ 1782 * (h : Int)) (hh : h ≤ 19000) {w : Nat} (hw : w ≤ 60) {a b : Int32} (a1 : 0 ≤ a.toInt) (hab : a.toInt ≤ b.toInt) (b2 : b.toInt ≤ 99) : unR (nI w) a 501 0 r = -1000006 ∨ ∃ p q, q ≤ p ∧ p ≤ 500 ∧ unR (nI w) a 501 0 r = nI p ∧ unR (nI w) b 501 0 r = nI q := by
  rcases un_spec (nI w) a 501 0 r with ⟨p, h1, h2, -, h4⟩ | ⟨-, h2⟩
  · refine Or.inr ?_
    have H := ht_mono G r10 hw a1 hab b2 (by omega) h2
    rcases un_spec (nI w) b 501 0 r with ⟨q, g1, g2, g3, g4⟩ | ⟨g1, -⟩
    · refine ⟨p, q, Nat.le_of_not_lt (fun z => g3 p z H), by omega, ?_, ?_⟩
      · rw [h4, Nat.zero_add]
      · rw [g4, Nat.zero_add]
    · exact absurd H (g1 p h1)
  · exact Or.inl h2
/-- after all but one of the hours, and after all of them -/
theorem un_after {w a : Int32} {r : Nat → Int32} {o : Nat} (ho : o ≤ 500) (e : unR w a 501 0 r = nI (o + 1)) : unR w a 501 0 (itR r a o) = 1 ∧ unR w a 501 0 (itR r a (o + 1)) = 0 := by
  rcases un_spec w a 501 0 r with ⟨p, h1, h2, h3, h4⟩ | ⟨-, h2⟩
  · rw [h4, Nat.zero_add] at e
    have ep := nI_ij (by omega) (by omega) e
    subst ep
    have n0 : ¬ w ≤ itR r a o 5 - itR r a o 10 := h3 o (by omega)
    refine ⟨?_, (un_zero _ _ _).mpr h2⟩
    show (if w ≤ itR r a o 5 - itR r a o 10 then nI 0 else if w ≤ catR (itR r a o) a 5 - catR (itR r a o) a 10 then nI 1 else unR w a 499 2 (catR (catR (itR r a o) a) a)) = 1
    have h2' : w ≤ catR (itR r a o) a 5 - catR (itR r a o) a 10 := h2
    rw [if_neg n0, if_pos h2']
    rfl
  · rw [h2] at e
    exact absurd e.symm (nI_none (by omega))
end
section
/-! changes keep what holds of a valley -/
theorem seR_o (v : VV) (i n : Nat) {j : Nat} (h : j ≠ n) : (seR v i n).2.2 j = v.2.2 j := by
  unfold seR
  dsimp only
  rw [up2_i h, up2_i h, up2_i h, up2_i h, up2_i h]
theorem seR_0 (v : VV) (i n : Nat) : (seR v i n).2.2 n 0 = nI i := by
  unfold seR
  dsimp only
  rw [up2_k (by omega), up2_k (by omega), up2_k (by omega), up2_k (by omega), up2_s]
theorem seR_1 (v : VV) (i n : Nat) : (seR v i n).2.2 n 1 = v.2.1 i 5 := by
  unfold seR
  dsimp only
  rw [up2_k (by omega), up2_k (by omega), up2_k (by omega), up2_s]
theorem seR_2 (v : VV) (i n : Nat) : (seR v i n).2.2 n 2 = v.1 2 := by
  unfold seR
  dsimp only
  rw [up2_k (by omega), up2_k (by omega), up2_s]
  exact va_up_ne _ _ (by omega)
theorem seR_3' (v : VV) (i n : Nat) : (seR v i n).2.2 n 3 = v.2.1 0 6 := by
  unfold seR
  dsimp only
  rw [up2_k (by omega), up2_s]
theorem seR_4 (v : VV) (i n : Nat) : (seR v i n).2.2 n 4 = v.2.1 i 3 := by
  unfold seR
  dsimp only
  rw [up2_s]
theorem seR_G (v : VV) (i n : Nat) : (seR v i n).2.1 = v.2.1 := rfl
theorem seR_W (v : VV) (i n : Nat) {q : Nat} (h : q ≠ 3) : (seR v i n).1 q = v.1 q := va_up_ne _ _ h
/-- a runner who has no way tells at once -/
theorem sen_now {v : VV} {i n : Nat} (hi : i < 6) (h : v.2.1 i 3 = 0) : senC v i n = rmvC (heaC (seR v i n) n) n (n + 1) ∧ (senC v i n).2.1 = va_up v.2.1 i (heaR (v.1 0) (v.1 1) (v.2.1 0 0) (v.2.1 i) (v.2.1 i 5) (v.1 2) (v.2.1 0 6)) := by
  have e : senC v i n = rmvC (heaC (seR v i n) n) n (n + 1) := by
    unfold senC
    rw [if_pos (by rw [seR_4]; exact h)]
  refine ⟨e, ?_⟩
  rw [e]
  show (heaC (seR v i n) n).2.1 = _
  rw [hea_eq (i := i) (by rw [seR_0]; exact gxn_in hi (by decide)), seR_1, seR_2, seR_3', seR_G, seR_W v i n (by omega), seR_W v i n (by omega)]
theorem sen_W (v : VV) (i n : Nat) {q : Nat} (h : q ≠ 3) : (senC v i n).1 q = v.1 q := by
  unfold senC
  split
  · show va_up (heaC (seR v i n) n).1 3 _ q = _
    rw [va_up_ne _ _ h, heaC_1, seR_W v i n h]
  · exact seR_W v i n h
theorem sen_5 (v : VV) {i n : Nat} (hi : i < 6) {k : Nat} (hk : k < 8) (j : Nat) : (senC v i n).2.1 j k = v.2.1 j k := by
  by_cases h : v.2.1 i 3 = 0
  · rw [(sen_now hi h).2]
    by_cases e : j = i
    · rw [e, va_up_self]; exact heaR_o hk
    · rw [va_up_ne _ _ e]
  · unfold senC
    rw [if_neg (by rw [seR_4]; exact h)]
    rfl
theorem zPI.send {B T n h : Nat} {v : VV} (P : zPI B T v n h) (hB : 9 ≤ B) (hT : T < 2 ^ 30) (hn : n < 20) {i : Nat} (hi : i < 6) : ∃ n', n' ≤ n + 1 ∧ zPI B (T + 1) (senC v i n) n' h := by
  obtain ⟨h1, h2, ⟨w, w1, w2, w3⟩, h4, h5, h6⟩ := P
  have rg : ∀ j, j < 6 → ∃ q, q < 6 ∧ v.2.1 j 5 = v.2.1 j 5 := fun j hj => ⟨0, by omega, rfl⟩
  have bt := (h5 i hi).1
  have b0 := (h5 0 (by omega)).1
  obtain ⟨-, -, -, ⟨y, y1, y2⟩, d1, t1, t2, p1, p2⟩ := bt
  obtain ⟨-, -, -, -, d1', t1', t2', p1', p2'⟩ := b0
  by_cases hz : v.2.1 i 3 = 0
  · obtain ⟨e1, e2⟩ := sen_now (n := n) hi hz
    refine ⟨n, by omega, by omega, ?_, ⟨w, w1, w2, ?_⟩, ?_, fun j hj => ?_, fun j hj => ?_⟩
    · rw [e1, rmvC_3]; rfl
    · rw [sen_W v i n (by omega)]; exact w3
    · rw [sen_W v i n (by omega)]; exact h4
    · rw [e2]
      by_cases e : j = i
      · rw [e, va_up_self]
        exact ⟨(h5 i hi).1.cg (fun q hq => heaR_o hq), hea_PA hT (h5 i hi).2 ⟨t1, by omega⟩ ⟨h, Nat.le_refl h, h4⟩ ⟨by omega, by omega⟩⟩
      · rw [va_up_ne _ _ e]
        exact ⟨(h5 j hj).1, (h5 j hj).2.mono (Nat.le_succ T) (Nat.le_refl h)⟩
    · rw [e1]
      show zRA B h (rotN n (n + 1) (heaC (seR v i n) n).2.2 j)
      rw [rot_lo _ (by omega), if_pos hj, heaC_2, seR_o v i n (by omega)]
      exact h6 j hj
  · have e1 : senC v i n = seR v i n := by
      unfold senC
      rw [if_neg (by rw [seR_4]; exact hz)]
    rw [e1]
    refine ⟨n + 1, by omega, by omega, seR_3 v i n, ⟨w, w1, w2, ?_⟩, ?_, fun j hj => ?_, fun j hj => ?_⟩
    · rw [seR_W v i n (by omega)]; exact w3
    · rw [seR_W v i n (by omega)]; exact h4
    · exact ⟨(h5 j hj).1, (h5 j hj).2.mono (Nat.le_succ T) (Nat.le_refl h)⟩
    · by_cases e : j = n
      · subst e
        refine ⟨⟨i, hi, seR_0 v i j⟩, by rw [seR_1]; exact ⟨t1, by omega⟩, ⟨h, Nat.le_refl h, by rw [seR_2]; exact h4⟩, by rw [seR_3']; exact ⟨by omega, by omega⟩, y, ?_, by omega, by rw [seR_4]; exact y2⟩
        rcases Nat.eq_zero_or_pos y with q | q
        · subst q; exact absurd y2 hz
        · exact q
      · rw [seR_o v i n e]
        exact h6 j (by omega)
theorem cos_row (v : VV) (j i : Nat) {k : Nat} (hk : k ≠ 15) : (cosC v j).2.1 i k = v.2.1 i k := by
  unfold cosC
  split
  · rfl
  · rename_i q _
    show up2 v.2.1 q 15 _ i k = _
    by_cases e : i = q
    · rw [e, up2_k hk]
    · rw [up2_i e]
theorem cosL_row (v : VV) (i : Nat) {k : Nat} (hk : k ≠ 15) : ∀ n, (cosL v n).2.1 i k = v.2.1 i k := by
  intro n
  induction n with
  | zero => rfl
  | succ n ih => exact (cos_row _ n i hk).trans ih
theorem zPI.lose {B T n h : Nat} {v : VV} (P : zPI B T v n h) {j : Nat} (hj : j < n) : zPI B T (rmvC (cosC v j) j n) (n - 1) h := by
  obtain ⟨h1, h2, ⟨w, w1, w2, w3⟩, h4, h5, h6⟩ := P
  refine ⟨by omega, rmvC_3 _ _ _, ⟨w, w1, w2, ?_⟩, ?_, fun i hi => ?_, fun q hq => ?_⟩
  · show va_up (cosC v j).1 3 (nI (n - 1)) 0 = _
    rw [va_up_ne _ _ (by omega), cosC_1]; exact w3
  · show va_up (cosC v j).1 3 (nI (n - 1)) 2 = _
    rw [va_up_ne _ _ (by omega), cosC_1]; exact h4
  · show zGA h ((cosC v j).2.1 i) ∧ zPA T h ((cosC v j).2.1 i)
    exact ⟨(h5 i hi).1.cg (fun k hk => cos_row v j i (by omega)), (h5 i hi).2.cg (fun k _ hk => cos_row v j i (by omega))⟩
  · show zRA B h (rotN j n (cosC v j).2.2 q)
    rw [rot_lo _ (by omega), cosC_2]
    exact h6 _ (by split <;> omega)
theorem twi_o (v : VV) (j n : Nat) {q : Nat} (h : q ≠ n) : (twiC v j n).2.2 q = v.2.2 q := by
  unfold twiC
  dsimp only
  rw [up2_i h, up2_i h, up2_i h, up2_i h, up2_i h, up2_i h]
theorem twi_k (v : VV) {j n : Nat} (h : j ≠ n) {k : Nat} (hk : k < 4) : (twiC v j n).2.2 n k = v.2.2 j k := by
  unfold twiC
  dsimp only
  rw [up2_k (by omega), up2_k (by omega)]
  rcases (by omega : k = 0 ∨ k = 1 ∨ k = 2 ∨ k = 3) with rfl | rfl | rfl | rfl
  · rw [up2_k (by omega), up2_k (by omega), up2_k (by omega), up2_s]
  · rw [up2_k (by omega), up2_k (by omega), up2_s, up2_i h]
  · rw [up2_k (by omega), up2_s, up2_i h, up2_i h]
  · rw [up2_s, up2_i h, up2_i h, up2_i h]
theorem twi_4 (v : VV) {j n : Nat} (h : j ≠ n) : (twiC v j n).2.2 n 4 = v.2.2 j 4 + 1 := by
  unfold twiC
  dsimp only
  rw [up2_s, up2_s, up2_i h, up2_i h, up2_i h, up2_i h]
theorem zPI.twice {B T n h : Nat} {v : VV} (P : zPI B T v n h) (hn : n < 20) {j : Nat} (hj : j < n) : zPI (B + 1) T (twiC v j n) (n + 1) h := by
  obtain ⟨h1, h2, ⟨w, w1, w2, w3⟩, h4, h5, h6⟩ := P
  refine ⟨by omega, ?_, ⟨w, w1, w2, ?_⟩, ?_, h5, fun q hq => ?_⟩
  · show va_up v.1 3 (nI n + 1) 3 = _
    rw [va_up_self]; exact nI_1 n
  · show va_up v.1 3 (nI n + 1) 0 = _
    rw [va_up_ne _ _ (by omega)]; exact w3
  · show va_up v.1 3 (nI n + 1) 2 = _
    rw [va_up_ne _ _ (by omega)]; exact h4
  · by_cases e : q = n
    · subst e
      obtain ⟨a0, a1, a2, a3, ⟨d, d1, d2, d3⟩⟩ := h6 j hj
      have hjn : j ≠ q := by omega
      exact ⟨by rw [twi_k v hjn (by omega)]; exact a0, by rw [twi_k v hjn (by omega)]; exact a1, by rw [twi_k v hjn (by omega)]; exact a2, by rw [twi_k v hjn (by omega)]; exact a3, d + 1, by omega, by omega, by rw [twi_4 v hjn, d3]; exact nI_1 d⟩
    · rw [twi_o v j n e]
      exact (h6 q (by omega)).mono (Nat.le_succ B) (Nat.le_refl h)
theorem zPI.wheel {B T n h : Nat} {v : VV} (P : zPI B T v n h) {x : Nat} (x1 : 4 ≤ x) (x2 : x ≤ 60) : zPI B T (chgC v n (nI x)) 0 h := by
  obtain ⟨h1, h2, -, h4, h5, h6⟩ := P
  refine ⟨by omega, ?_, ⟨x, x1, x2, va_up_self (va_up (cosL v n).1 3 (nI 0)) 0 (nI x)⟩, ?_, fun i hi => ?_, fun q hq => absurd hq (Nat.not_lt_zero q)⟩
  · show va_up (va_up (cosL v n).1 3 (nI 0)) 0 (nI x) 3 = _
    rw [va_up_ne _ _ (by omega), va_up_self]
  · show va_up (va_up (cosL v n).1 3 (nI 0)) 0 (nI x) 2 = _
    rw [va_up_ne _ _ (by omega), va_up_ne _ _ (by omega), cosL_1]; exact h4
  · show zGA h ((cosL v n).2.1 i) ∧ zPA T h ((cosL v n).2.1 i)
    exact ⟨(h5 i hi).1.cg (fun k hk => cosL_row v i (by omega) n), (h5 i hi).2.cg (fun k _ hk => cosL_row v i (by omega) n)⟩
theorem zPI.guess {B T n h : Nat} {v : VV} (P : zPI B T v n h) (x : Int32) : zPI B T (vW v 1 x) n h := by
  obtain ⟨h1, h2, ⟨w, w1, w2, w3⟩, h4, h5, h6⟩ := P
  refine ⟨h1, ?_, ⟨w, w1, w2, ?_⟩, ?_, h5, h6⟩
  · show va_up v.1 1 x 3 = _
    rw [va_up_ne _ _ (by omega)]; exact h2
  · show va_up v.1 1 x 0 = _
    rw [va_up_ne _ _ (by omega)]; exact w3
  · show va_up v.1 1 x 2 = _
    rw [va_up_ne _ _ (by omega)]; exact h4
theorem gau_o (v : VV) (i : Nat) (a b d w : Int32) {j : Nat} (h : j ≠ i) : (gauV v i a b d w).2.1 j = v.2.1 j := by
  unfold gauV
  dsimp only
  rw [up2_i h, up2_i h, up2_i h, up2_i h]
theorem gau_k (v : VV) (i : Nat) (a b d w : Int32) {k : Nat} (h : 4 ≤ k) : (gauV v i a b d w).2.1 i k = v.2.1 i k := by
  unfold gauV
  dsimp only
  rw [up2_k (by omega), up2_k (by omega), up2_k (by omega), up2_k (by omega)]
theorem gau_0 (v : VV) (i : Nat) (a b d w : Int32) : (gauV v i a b d w).2.1 i 0 = a := by
  unfold gauV
  dsimp only
  rw [up2_k (by omega), up2_k (by omega), up2_k (by omega), up2_s]
theorem gau_1 (v : VV) (i : Nat) (a b d w : Int32) : (gauV v i a b d w).2.1 i 1 = b := by
  unfold gauV
  dsimp only
  rw [up2_k (by omega), up2_k (by omega), up2_s]
theorem gau_2 (v : VV) (i : Nat) (a b d w : Int32) : (gauV v i a b d w).2.1 i 2 = d := by
  unfold gauV
  dsimp only
  rw [up2_k (by omega), up2_s]
theorem gau_3 (v : VV) (i : Nat) (a b d w : Int32) : (gauV v i a b d w).2.1 i 3 = w := by
  unfold gauV
  dsimp only
  rw [up2_s]
theorem zPI.gauge {B T n h : Nat} {v : VV} (P : zPI B T v n h) {i : Nat} (hi : i < 6) {a b d : Int32} {w : Nat} (a1 : 1 ≤ a.toInt ∧ a.toInt ≤ 9) (b1 : 1 ≤ b.toInt ∧ b.toInt ≤ 50) (d1 : 0 ≤ d.toInt ∧ d.toInt ≤ 200) (w1 : w ≤ 9) : zPI B T (gauV v i a b d (nI w)) n h := by
  obtain ⟨h1, h2, h3, h4, h5, h6⟩ := P
  refine ⟨h1, h2, h3, h4, fun j hj => ?_, h6⟩
  by_cases e : j = i
  · subst e
    refine ⟨⟨by rw [gau_0]; exact a1, by rw [gau_1]; exact b1, by rw [gau_2]; exact d1, ⟨w, w1, gau_3 _ _ _ _ _ _⟩, ?_⟩, (h5 j hj).2.cg (fun k hk _ => gau_k _ _ _ _ _ _ (by omega))⟩
    rw [gau_k _ _ _ _ _ _ (by omega), gau_k _ _ _ _ _ _ (by omega), gau_k _ _ _ _ _ _ (by omega), gau_k _ _ _ _ _ _ (by omega)]
    exact (h5 j hj).1.2.2.2.2
  · rw [gau_o _ _ _ _ _ _ e]
    exact h5 j hj
end
section
/-! whole states: what holds of the valley and of all that can be undone -/
def zPP (B H T : Nat) (v : VV) : Prop := ∃ n h, h ≤ H ∧ 0 ≤ (v.1 1).toInt ∧ zPI B T v n h
def zSI (B H T : Nat) (c : CS) : Prop := CI c ∧ zPP B H T c.1 ∧ ∀ j, j < c.2.2.1 → zPP B H T (c.2.1 j)
theorem zPP.mono {B B' H H' T T' : Nat} {v : VV} (P : zPP B H T v) (hB : B ≤ B') (hH : H ≤ H') (hT : T ≤ T') : zPP B' H' T' v := by
  obtain ⟨n, h, hh, hg, P⟩ := P
  exact ⟨n, h, by omega, hg, P.mono hB hT⟩
theorem zSI.mono {B B' H H' T T' : Nat} {c : CS} (S : zSI B H T c) (hB : B ≤ B') (hH : H ≤ H') (hT : T ≤ T') : zSI B' H' T' c := ⟨S.1, S.2.1.mono hB hH hT, fun j hj => (S.2.2 j hj).mono hB hH hT⟩
theorem zPI.on {B T n h : Nat} {v : VV} (P : zPI B T v n h) : OnW v := ⟨n, P.1, P.2.1⟩
theorem zPI.onN {B T n h : Nat} {v : VV} (P : zPI B T v n h) : onN v = n := onN_eq P.2.1 P.1
theorem zPP.on {B H T : Nat} {v : VV} (P : zPP B H T v) : OnW v := by
  obtain ⟨n, h, -, -, P⟩ := P
  exact P.on
theorem recV_at {k : Nat} {hs : Nat → VV} {w : VV} {n : Nat} : recV k hs w n (if k = 6 then 5 else k) = cpyC ((if k = 6 then rotN 0 6 hs else hs) (if k = 6 then 5 else k)) w n := va_up_self _ _ _
theorem recV_lo {k : Nat} {hs : Nat → VV} {w : VV} {n j : Nat} (h : j < (if k = 6 then 5 else k)) : recV k hs w n j = hs (if k = 6 then j + 1 else j) := by
  unfold recV
  by_cases hk : k = 6
  · rw [if_pos hk] at h
    rw [if_pos hk, if_pos hk, if_pos hk, va_up_ne _ _ (by omega), rot_lo _ (by omega), if_neg (by omega)]
  · rw [if_neg hk] at h
    rw [if_neg hk, if_neg hk, if_neg hk, va_up_ne _ _ (by omega)]
theorem recK_s (k : Nat) : recK k = (if k = 6 then 5 else k) + 1 := by
  unfold recK
  by_cases hk : k = 6
  · rw [if_pos hk, if_pos hk]
  · rw [if_neg hk, if_neg hk]
theorem zSI.rec {B B' H H' T T' : Nat} {c : CS} (S : zSI B H T c) {v : VV} (P : zPP B' H' T' v) (hB : B ≤ B') (hH : H ≤ H') (hT : T ≤ T') : zSI B' H' T' (recX c v) := by
  obtain ⟨⟨c1, c2, c3, c4⟩, s1, s2⟩ := S
  refine ⟨⟨P.on, recK_le c2, recV_on c3 c1 c2, c4⟩, P, fun j hj => ?_⟩
  have hj : j < recK c.2.2.1 := hj
  show zPP B' H' T' (recV c.2.2.1 c.2.1 c.1 (onN c.1) j)
  rw [recK_s] at hj
  by_cases e : j = (if c.2.2.1 = 6 then 5 else c.2.2.1)
  · rw [e, recV_at]
    obtain ⟨n, h, hh, hg, Q⟩ := s1
    rw [Q.onN]
    exact ⟨n, h, by omega, by rw [(Eq2.cpy _ c.1 n).1 1 (by omega)]; exact hg, (Q.cg (Eq2.cpy _ _ _)).mono hB hT⟩
  · rw [recV_lo (by omega)]
    refine (s2 _ ?_).mono hB hH hT
    by_cases hk : c.2.2.1 = 6
    · rw [if_pos hk] at hj e ⊢; omega
    · rw [if_neg hk] at hj e ⊢; omega
/-- the latest state that can be undone, and the one before it -/
def zTop (c : CS) (x : VV) (n : Nat) : Prop := ∃ q, c.2.2.1 = q + 1 ∧ Eq2 (c.2.1 q) x n ∧ onN (c.2.1 q) = n
def zTop2 (c : CS) (x : VV) (n : Nat) : Prop := ∃ q, c.2.2.1 = q + 2 ∧ Eq2 (c.2.1 q) x n ∧ onN (c.2.1 q) = n
theorem rec_top {c : CS} {n : Nat} (h : onN c.1 = n) (v : VV) : zTop (recX c v) c.1 n := by
  refine ⟨_, recK_s c.2.2.1, ?_, ?_⟩
  · show Eq2 (recV c.2.2.1 c.2.1 c.1 (onN c.1) _) c.1 n
    rw [recV_at, h]
    exact Eq2.cpy _ _ _
  · show onN (recV c.2.2.1 c.2.1 c.1 (onN c.1) _) = n
    rw [recV_at]
    exact h
theorem rec_top2 {c : CS} {x : VV} {n : Nat} (h : zTop c x n) (v : VV) : zTop2 (recX c v) x n := by
  obtain ⟨q, h1, h2, h3⟩ := h
  have e : recV c.2.2.1 c.2.1 c.1 (onN c.1) (if c.2.2.1 = 6 then 4 else q) = c.2.1 q := by
    rw [recV_lo (by split <;> omega)]
    refine congrArg c.2.1 ?_
    by_cases hk : c.2.2.1 = 6
    · rw [if_pos hk, if_pos hk]; omega
    · rw [if_neg hk, if_neg hk]
  refine ⟨if c.2.2.1 = 6 then 4 else q, ?_, ?_, ?_⟩
  · show recK c.2.2.1 = _
    rw [recK_s]
    by_cases hk : c.2.2.1 = 6
    · rw [if_pos hk, if_pos hk]
    · rw [if_neg hk, if_neg hk]; omega
  · show Eq2 (recV c.2.2.1 c.2.1 c.1 (onN c.1) _) x n
    rw [e]; exact h2
  · show onN (recV c.2.2.1 c.2.1 c.1 (onN c.1) _) = n
    rw [e]; exact h3
theorem undo_eq {c : CS} {q : Nat} (h : c.2.2.1 = q + 1) : oUndo c = (nI q, cpyC c.1 (c.2.1 q) (onN (c.2.1 q)), c.2.1, q, c.2.2.2) := by
  unfold oUndo
  rw [h]
theorem undo_top {c : CS} {x : VV} {n : Nat} (h : zTop c x n) : Eq2 (oUndo c).2.1 x n ∧ ∃ q, (oUndo c).1 = nI q ∧ c.2.2.1 = q + 1 := by
  obtain ⟨q, h1, h2, h3⟩ := h
  rw [undo_eq h1]
  refine ⟨?_, q, rfl, h1⟩
  show Eq2 (cpyC c.1 (c.2.1 q) (onN (c.2.1 q))) x n
  rw [h3]
  exact (Eq2.cpy _ _ _).tr h2
theorem undo_top2 {c : CS} {x : VV} {n : Nat} (h : zTop2 c x n) : zTop (oUndo c).2 x n := by
  obtain ⟨q, h1, h2, h3⟩ := h
  rw [undo_eq h1]
  exact ⟨q, rfl, h2, h3⟩
theorem zSI.undo {B H T : Nat} {c : CS} (S : zSI B H T c) : zSI B H T (oUndo c).2 := by
  cases hk : c.2.2.1 with
  | zero =>
    have e : (oUndo c).2 = c := by unfold oUndo; rw [hk]
    rw [e]; exact S
  | succ q =>
    rw [undo_eq hk]
    obtain ⟨⟨c1, c2, c3, c4⟩, s1, s2⟩ := S
    obtain ⟨n, h, hh, hg, Q⟩ := s2 q (by omega)
    have P : zPP B H T (cpyC c.1 (c.2.1 q) (onN (c.2.1 q))) := ⟨n, h, hh, by rw [(Eq2.cpy _ (c.2.1 q) _).1 1 (by omega)]; exact hg, by rw [Q.onN]; exact Q.cg (Eq2.cpy _ _ _)⟩
    exact ⟨⟨P.on, (by show q ≤ 6; omega), c3, c4⟩, P, fun j hj => s2 j (by have : j < q := hj; omega)⟩
/-! two rows that agree but for the way -/
def Row3 (r q : Nat → Int32) : Prop := ∀ k, k < 16 → k ≠ 3 → r k = q k
theorem Row3.up {r q : Nat → Int32} (h : Row3 r q) (k : Nat) (x : Int32) : Row3 (va_up r k x) (va_up q k x) := by
  intro j hj h3
  unfold va_up
  by_cases e : j = k
  · rw [if_pos e, if_pos e]
  · rw [if_neg e, if_neg e]; exact h j hj h3
theorem Row3.hea {r q : Nat → Int32} (h : Row3 r q) (w g vm t hh c : Int32) : Row3 (heaR w g vm r t hh c) (heaR w g vm q t hh c) := by
  have ew : wenR w g vm r t c = wenR w g vm q t c := by
    unfold wenR expR we2R
    rw [h 0 (by omega) (by omega), h 1 (by omega) (by omega), h 10 (by omega) (by omega), h 11 (by omega) (by omega)]
  unfold heaR
  rw [h 9 (by omega) (by omega), h 12 (by omega) (by omega), h 10 (by omega) (by omega), h 13 (by omega) (by omega), h 14 (by omega) (by omega)]
  by_cases h1 : hh < q 9
  · rw [if_pos h1, if_pos h1]; exact h.up 13 _
  · rw [if_neg h1, if_neg h1]
    by_cases h2 : 0 < q 12 ∧ hh = q 9 ∧ whI w t = whI w (q 10)
    · rw [if_pos h2, if_pos h2]; exact h.up 14 _
    · rw [if_neg h2, if_neg h2]
      unfold takR
      rw [ew, h 8 (by omega) (by omega), h 12 (by omega) (by omega)]
      exact ((((h.up 8 _).up 12 _).up 9 _).up 10 _).up 11 _
/-! answers of the class, by the state -/
theorem win_in {x lo hi : Int32} (h1 : lo ≤ x) (h2 : x ≤ hi) : ¬ winC x lo hi = 0 := by
  unfold winC
  rw [if_pos ⟨h1, h2⟩]
  decide
theorem rain_eq {c : CS} {y q h : Nat} (hy : y ≤ 99) (q1 : 1 ≤ q) (q2 : q ≤ 24) (hh : c.1.1 2 = nI h) (h9 : h + q ≤ 9999) : oRain c (nI y) (nI q) = (pasT (nI y) c.1 q, recX c (pasC (nI y) c.1 q)) := by
  unfold oRain
  rw [if_neg (fun z => z.elim (win_in (nI_le (a := 0) (by omega) (by omega)) (nI_le (b := 99) (by omega) (by omega))) (win_in (nI_le (a := 1) (by omega) (by omega)) (nI_le (b := 24) (by omega) (by omega)))), if_neg (fun z => z (by rw [hh, nI_add]; exact nI_le (b := 9999) (by omega) (by omega))), nI_clamp (by omega)]
theorem send_eq {c : CS} {i n : Nat} (hi : i < 6) (hn : c.1.1 3 = nI n) (h20 : n < 20) : oSend c (nI i) = (whC (senC c.1 i n) ((senC c.1 i n).2.1 i 5), recX c (senC c.1 i n)) := by
  unfold oSend
  rw [gxn_in hi (by decide)]
  dsimp only
  rw [if_neg (by rw [hn]; exact nI_ge h20 (by omega)), onN_eq hn (by omega)]
theorem ru_in {c : CS} {j n : Nat} (hn : c.1.1 3 = nI n) (h20 : n ≤ 20) (hj : j < n) : ruN c (nI j) = some j := by
  unfold ruN
  rw [if_neg (by rw [hn]; exact nI_ge hj (by omega)), gxn_in (by omega) (by decide)]
theorem lose_eq {c : CS} {j n : Nat} (hn : c.1.1 3 = nI n) (h20 : n ≤ 20) (hj : j < n) : oLose c (nI j) = (c.1.2.2 j 0, recX c (rmvC (cosC c.1 j) j n)) := by
  unfold oLose
  rw [ru_in hn h20 hj]
  dsimp only
  rw [onN_eq hn h20]
theorem twice_eq {c : CS} {j n : Nat} (hn : c.1.1 3 = nI n) (h20 : n < 20) (hj : j < n) : oTwice c (nI j) = (nI (n + 1), recX c (twiC c.1 j n)) := by
  unfold oTwice
  rw [ru_in hn (by omega) hj]
  dsimp only
  rw [if_neg (by rw [hn]; exact nI_ge h20 (by omega)), onN_eq hn (by omega)]
  congr 1
  show va_up c.1.1 3 (nI n + 1) 3 = _
  rw [va_up_self]; exact nI_1 n
theorem gauge_eq {c : CS} {i : Nat} {a b d : Int32} {w : Nat} (hi : i < 6) (a1 : 1 ≤ a.toInt ∧ a.toInt ≤ 9) (b1 : 1 ≤ b.toInt ∧ b.toInt ≤ 50) (d1 : 0 ≤ d.toInt ∧ d.toInt ≤ 200) (w1 : w ≤ 9) : oGauge c (nI i) a b d (nI w) = (c.1.2.1 i 4, recX c (gauV c.1 i a b d (nI w))) := by
  rw [oGauge_y (gxn_in hi (by decide)) (win_in (ti_le.mpr a1.1) (ti_le.mpr a1.2)) (win_in (ti_le.mpr b1.1) (ti_le.mpr b1.2)) (win_in (ti_le.mpr d1.1) (ti_le.mpr d1.2)) (win_in (nI_le (a := 0) (by omega) (by omega)) (nI_le (b := 9) (by omega) (by omega))), gau_k _ _ _ _ _ _ (by omega)]
theorem set0_eq {c : CS} {x n : Nat} (hn : c.1.1 3 = nI n) (h20 : n ≤ 20) (x1 : 4 ≤ x) (x2 : x ≤ 60) : oSet c 0 (nI x) = (c.1.1 0, recX c (chgC c.1 n (nI x))) := by
  rw [oSet_a rfl (win_in (nI_le (a := 4) (by omega) (by omega)) (nI_le (b := 60) (by omega) (by omega))), onN_eq hn h20]
theorem set1_eq {c : CS} {x : Int32} (x1 : x = 0 ∨ x = 1) : oSet c 1 x = (c.1.1 1, recX c (vW c.1 1 x)) := by
  rw [oSet_b rfl (by rcases x1 with rfl | rfl <;> decide)]
theorem until_eq {c : CS} {t : VV} {i y n : Nat} (hi : i < 6) (hy : y ≤ 99) : oUntil (cpyC t c.1 n) (nI i) (nI y) = unR (c.1.1 0) (nI y) 501 0 (c.1.2.1 i) := by
  rw [unt_e (gxn_in hi (by decide)) (win_in (nI_le (a := 0) (by omega) (by omega)) (nI_le (b := 99) (by omega) (by omega))), unt_row]
  have e := Eq2.cpy t c.1 n
  rw [e.1 0 (by omega)]
  exact RowE.un _ _ _ _ _ _ (e.2.1 i hi)
theorem sent_eq {c : CS} {t : VV} {i n : Nat} (hi : i < 6) : oIfSent (cpyC t c.1 n) (nI i) = c.1.2.1 i 5 - heaR (c.1.1 0) (c.1.1 1) (c.1.2.1 0 0) (c.1.2.1 i) (c.1.2.1 i 5) (c.1.1 2) (c.1.2.1 0 6) 8 := by
  have e := Eq2.cpy t c.1 n
  obtain ⟨u, hu⟩ : ∃ u, u = cpyC t c.1 n := ⟨_, rfl⟩
  rw [← hu] at e ⊢
  unfold oIfSent
  rw [gxn_in hi (by decide)]
  dsimp only
  obtain ⟨w, hw⟩ : ∃ w, w = vG (vW u 3 0) i 3 0 := ⟨_, rfl⟩
  rw [← hw]
  have wr : ∀ j, j < 6 → ∀ k, k < 16 → k ≠ 3 → w.2.1 j k = c.1.2.1 j k := fun j hj k hk h3 => by
    rw [hw]
    show up2 u.2.1 i 3 0 j k = _
    by_cases ej : j = i
    · rw [ej, up2_k h3]; exact e.2.1 i hi k hk
    · rw [up2_i ej]; exact e.2.1 j hj k hk
  have ww : ∀ k, k < 3 → w.1 k = c.1.1 k := fun k hk => by
    rw [hw]
    show va_up u.1 3 0 k = _
    rw [va_up_ne _ _ (by omega)]; exact e.1 k (by omega)
  have w3 : w.2.1 i 3 = 0 := by
    rw [hw]
    exact up2_s
  rw [sen_5 w hi (by omega) i, (sen_now (n := 0) hi w3).2, va_up_self, wr i hi 5 (by omega) (by omega), wr 0 (by omega) 0 (by omega) (by omega), wr 0 (by omega) 6 (by omega) (by omega), ww 0 (by omega), ww 1 (by omega), ww 2 (by omega)]
  congr 1
  have hr : ∀ k, k < 16 → k ≠ 3 → w.2.1 i k = c.1.2.1 i k := wr i hi
  obtain ⟨r, er⟩ : ∃ r, r = c.1.2.1 i := ⟨_, rfl⟩
  obtain ⟨q, eq⟩ : ∃ q, q = w.2.1 i := ⟨_, rfl⟩
  rw [← er, ← eq] at hr ⊢
  exact Row3.hea hr _ _ _ _ _ _ 8 (by omega) (by omega)
end
section
/-! the contracts of the class, for a state in one piece -/
theorem fac_0 (v : VV) (i : Nat) : facC v i (nI 0) = v.2.1 i 0 := rfl
theorem fac_1 (v : VV) (i : Nat) : facC v i (nI 1) = v.2.1 i 1 := rfl
theorem fac_2 (v : VV) (i : Nat) : facC v i (nI 2) = v.2.1 i 2 := rfl
theorem fac_4 (v : VV) (i : Nat) : facC v i (nI 4) = v.2.1 i 4 := rfl
theorem fac_5 (v : VV) (i : Nat) : facC v i (nI 5) = v.2.1 i 5 := rfl
theorem fac_6 (v : VV) (i : Nat) : facC v i (nI 6) = whC v (v.2.1 i 5) := rfl
theorem fac_7 (v : VV) (i : Nat) : facC v i (nI 7) = v.2.1 i 6 := rfl
theorem fac_8 (v : VV) (i : Nat) : facC v i (nI 8) = v.2.1 i 7 := rfl
theorem led_0 (v : VV) (i : Nat) : ledV v i (nI 0) = v.2.1 i 8 := rfl
theorem led_1 (v : VV) (i : Nat) : ledV v i (nI 1) = v.2.1 i 9 := rfl
theorem led_2 (v : VV) (i : Nat) : ledV v i (nI 2) = whC v (v.2.1 i 10) := rfl
theorem led_3 (v : VV) (i : Nat) : ledV v i (nI 3) = v.2.1 i 5 - v.2.1 i 8 := rfl
theorem led_4 (v : VV) (i : Nat) : ledV v i (nI 4) = v.2.1 i 12 := rfl
theorem rnr_0 (v : VV) (i : Nat) : runV v i (nI 0) = v.2.2 i 0 := rfl
theorem rnr_1 (v : VV) (i : Nat) : runV v i (nI 1) = whC v (v.2.2 i 1) := rfl
theorem rnr_2 (v : VV) (i : Nat) : runV v i (nI 2) = v.2.2 i 2 := rfl
theorem rnr_3 (v : VV) (i : Nat) : runV v i (nI 3) = v.2.2 i 4 := rfl
theorem cnt_0 (c : CS) : oCount c (nI 0) = c.1.1 0 := rfl
theorem cnt_1 (c : CS) : oCount c (nI 1) = c.1.1 1 := rfl
theorem cnt_2 (c : CS) : oCount c (nI 2) = c.1.1 2 := rfl
theorem cnt_3 (c : CS) : oCount c (nI 3) = c.1.1 3 := rfl
theorem cnt_4 (c : CS) : oCount c (nI 4) = sumN (fun i => c.1.2.1 i 6) 6 := rfl
theorem cnt_5 (c : CS) : oCount c (nI 5) = sumN (fun i => c.1.2.1 i 7) 6 + sumN (fun i => c.1.2.1 i 4) 6 := rfl
theorem cnt_6 (c : CS) : oCount c (nI 6) = sumN (fun i => c.1.2.1 i 5) 6 := rfl
theorem cnt_7 (c : CS) : oCount c (nI 7) = sumN (fun i => c.1.2.1 i 8) 6 := rfl
theorem cnt_8 (c : CS) : oCount c (nI 8) = gapN c.1 6 := rfl
theorem q_gaugeOf (l : Launch) (g : GG) (A : Nat → Prop) (M : MM) (X : Nat) {c : CS} (hR : RXS g A M M X c) (hI : CI c) {i : Nat} (hi : i < 6) {y : Int32} {val : Int32} (e : facC c.1 i y = val) : Met l yX7_gaugeOf (Uw yX7_gaugeOf cX7_gaugeOf 4 (Option.some ClassFile.FieldType.int)) (rmD 2) (PreM [.ref X, .int (nI i), .int y] g A M) (PosI (fun r M1 => r = val ∧ M1 = M) g A) 0 0 A := by
  obtain ⟨now, hs, k, sl, sv, f, L⟩ := c
  have z := k_X7_gaugeOf l g A M X now hs k sl sv f L hR hI (nI i) y
  rw [show oGaugeOf (now, hs, k, sl, sv, f, L) (nI i) y = val from (by unfold oGaugeOf; rw [gxn_in hi (by decide)]; exact e)] at z
  exact z
theorem q_ledger (l : Launch) (g : GG) (A : Nat → Prop) (M : MM) (X : Nat) {c : CS} (hR : RXS g A M M X c) (hI : CI c) {i : Nat} (hi : i < 6) {y : Int32} {val : Int32} (e : ledV c.1 i y = val) : Met l yX7_ledger (Uw yX7_ledger cX7_ledger 5 (Option.some ClassFile.FieldType.int)) (rmD 1) (PreM [.ref X, .int (nI i), .int y] g A M) (PosI (fun r M1 => r = val ∧ M1 = M) g A) 0 0 A := by
  obtain ⟨now, hs, k, sl, sv, f, L⟩ := c
  have z := k_X7_ledger l g A M X now hs k sl sv f L hR hI (nI i) y
  rw [show oLedger (now, hs, k, sl, sv, f, L) (nI i) y = val from (by unfold oLedger; rw [gxn_in hi (by decide)]; exact e)] at z
  exact z
theorem q_runner (l : Launch) (g : GG) (A : Nat → Prop) (M : MM) (X : Nat) {c : CS} (hR : RXS g A M M X c) (hI : CI c) {j n : Nat} (hn : c.1.1 3 = nI n) (h20 : n ≤ 20) (hj : j < n) {y : Int32} {val : Int32} (e : runV c.1 j y = val) : Met l yX7_runner (Uw yX7_runner cX7_runner 4 (Option.some ClassFile.FieldType.int)) (rmD 1) (PreM [.ref X, .int (nI j), .int y] g A M) (PosI (fun r M1 => r = val ∧ M1 = M) g A) 0 0 A := by
  obtain ⟨now, hs, k, sl, sv, f, L⟩ := c
  have z := k_X7_runner l g A M X now hs k sl sv f L hR hI (nI j) y
  rw [show oRunner (now, hs, k, sl, sv, f, L) (nI j) y = val from (by unfold oRunner; rw [ru_in hn h20 hj]; exact e)] at z
  exact z
theorem q_count (l : Launch) (g : GG) (A : Nat → Prop) (M : MM) (X : Nat) {c : CS} (hR : RXS g A M M X c) (hI : CI c) {y : Int32} {val : Int32} (e : oCount c y = val) : Met l yX7_count (Uw yX7_count cX7_count 2 (Option.some ClassFile.FieldType.int)) (rmD 3) (PreM [.ref X, .int y] g A M) (PosI (fun r M1 => r = val ∧ M1 = M) g A) 0 0 A := by
  obtain ⟨now, hs, k, sl, sv, f, L⟩ := c
  have z := k_X7_count l g A M X now hs k sl sv f L hR hI y
  rw [show oCount (now, hs, k, sl, sv, f, L) y = val from e] at z
  exact z
theorem q_most (l : Launch) (g : GG) (A : Nat → Prop) (M : MM) (X : Nat) {c : CS} (hR : RXS g A M M X c) (hI : CI c)  : Met l yX7_mostUntold (Uw yX7_mostUntold cX7_mostUntold 5 (Option.some ClassFile.FieldType.int)) (rmD 1) (PreM [.ref X] g A M) (PosI (fun r M1 => r = mosL c.1 6 ∧ M1 = M) g A) 0 0 A := by
  obtain ⟨now, hs, k, sl, sv, f, L⟩ := c
  exact k_X7_mostUntold l g A M X now hs k sl sv f L hR hI
theorem q_until (l : Launch) (g : GG) (A : Nat → Prop) (M : MM) (X : Nat) {c : CS} (hR : RXS g A M M X c) (hI : CI c) (x y : Int32) : Met l yX7_untilRound (Uw yX7_untilRound cX7_untilRound 5 (Option.some ClassFile.FieldType.int)) (rmD 3) (PreM [.ref X, .int x, .int y] g A M) (PosI (fun r M1 => (∃ t, r = oUntil (cpyC t c.1 (onN c.1)) x y) ∧ RXS g A M M1 X c) g A) 0 0 A := by
  obtain ⟨now, hs, k, sl, sv, f, L⟩ := c
  exact k_X7_untilRound l g A M X now hs k sl sv f L hR hI x y
theorem q_sent (l : Launch) (g : GG) (A : Nat → Prop) (M : MM) (X : Nat) {c : CS} (hR : RXS g A M M X c) (hI : CI c) (x : Int32) : Met l yX7_ifSent (Uw yX7_ifSent cX7_ifSent 3 (Option.some ClassFile.FieldType.int)) (rmD 4) (PreM [.ref X, .int x] g A M) (PosI (fun r M1 => (∃ t, r = oIfSent (cpyC t c.1 (onN c.1)) x) ∧ RXS g A M M1 X c) g A) 0 0 A := by
  obtain ⟨now, hs, k, sl, sv, f, L⟩ := c
  exact k_X7_ifSent l g A M X now hs k sl sv f L hR hI x
theorem q_allc (l : Launch) (g : GG) (A : Nat → Prop) (M : MM) (X : Nat) {c : CS} (hR : RXS g A M M X c) (hI : CI c) (x : Int32) : Met l yX7_ifAllCome (Uw yX7_ifAllCome cX7_ifAllCome 3 (Option.some ClassFile.FieldType.int)) (rmD 5) (PreM [.ref X, .int x] g A M) (PosI (fun r M1 => (∃ t, r = oIfAll (cpyC t c.1 (onN c.1)) (onN c.1) x) ∧ RXS g A M M1 X c) g A) 0 0 A := by
  obtain ⟨now, hs, k, sl, sv, f, L⟩ := c
  exact k_X7_ifAllCome l g A M X now hs k sl sv f L hR hI x
theorem q_undo (l : Launch) (g : GG) (A : Nat → Prop) (M : MM) (X : Nat) {c : CS} (hR : RXS g A M M X c) (hI : CI c)  : Met l yX7_undo (Uw yX7_undo cX7_undo 1 (Option.some ClassFile.FieldType.int)) (rmD 4) (PreM [.ref X] g A M) (PosI (fun r M1 => r = (oUndo c).1 ∧ RXS g A M M1 X (oUndo c).2) g A) 0 0 A := by
  obtain ⟨now, hs, k, sl, sv, f, L⟩ := c
  exact k_X7_undo l g A M X now hs k sl sv f L hR hI
theorem q_rain (l : Launch) (g : GG) (A : Nat → Prop) (M : MM) (X : Nat) {c : CS} (hR : RXS g A M M X c) (hI : CI c) {y q h : Nat} (hy : y ≤ 99) (q1 : 1 ≤ q) (q2 : q ≤ 24) (hh : c.1.1 2 = nI h) (h9 : h + q ≤ 9999) : Met l yX7_rain (Uw yX7_rain cX7_rain 3 (Option.some ClassFile.FieldType.int)) (rmD 6) (PreM [.ref X, .int (nI y), .int (nI q)] g A M) (PosI (fun r M1 => r = pasT (nI y) c.1 q ∧ RXS g A M M1 X (recX c (pasC (nI y) c.1 q))) g A) 0 0 A := by
  obtain ⟨now, hs, k, sl, sv, f, L⟩ := c
  have z := k_X7_rain l g A M X now hs k sl sv f L hR hI (nI y) (nI q)
  rw [rain_eq hy q1 q2 hh h9] at z
  exact z
theorem q_send (l : Launch) (g : GG) (A : Nat → Prop) (M : MM) (X : Nat) {c : CS} (hR : RXS g A M M X c) (hI : CI c) {i n : Nat} (hi : i < 6) (hn : c.1.1 3 = nI n) (h20 : n < 20) : Met l yX7_send (Uw yX7_send cX7_send 2 (Option.some ClassFile.FieldType.int)) (rmD 5) (PreM [.ref X, .int (nI i)] g A M) (PosI (fun r M1 => r = whC (senC c.1 i n) ((senC c.1 i n).2.1 i 5) ∧ RXS g A M M1 X (recX c (senC c.1 i n))) g A) 0 0 A := by
  obtain ⟨now, hs, k, sl, sv, f, L⟩ := c
  have z := k_X7_send l g A M X now hs k sl sv f L hR hI (nI i)
  rw [send_eq hi hn h20] at z
  exact z
theorem q_lose (l : Launch) (g : GG) (A : Nat → Prop) (M : MM) (X : Nat) {c : CS} (hR : RXS g A M M X c) (hI : CI c) {j n : Nat} (hn : c.1.1 3 = nI n) (h20 : n ≤ 20) (hj : j < n) : Met l yX7_lose (Uw yX7_lose cX7_lose 4 (Option.some ClassFile.FieldType.int)) (rmD 5) (PreM [.ref X, .int (nI j)] g A M) (PosI (fun r M1 => r = c.1.2.2 j 0 ∧ RXS g A M M1 X (recX c (rmvC (cosC c.1 j) j n))) g A) 0 0 A := by
  obtain ⟨now, hs, k, sl, sv, f, L⟩ := c
  have z := k_X7_lose l g A M X now hs k sl sv f L hR hI (nI j)
  rw [lose_eq hn h20 hj] at z
  exact z
theorem q_twice (l : Launch) (g : GG) (A : Nat → Prop) (M : MM) (X : Nat) {c : CS} (hR : RXS g A M M X c) (hI : CI c) {j n : Nat} (hn : c.1.1 3 = nI n) (h20 : n < 20) (hj : j < n) : Met l yX7_twice (Uw yX7_twice cX7_twice 3 (Option.some ClassFile.FieldType.int)) (rmD 5) (PreM [.ref X, .int (nI j)] g A M) (PosI (fun r M1 => r = nI (n + 1) ∧ RXS g A M M1 X (recX c (twiC c.1 j n))) g A) 0 0 A := by
  obtain ⟨now, hs, k, sl, sv, f, L⟩ := c
  have z := k_X7_twice l g A M X now hs k sl sv f L hR hI (nI j)
  rw [twice_eq hn h20 hj] at z
  exact z
theorem q_gauge (l : Launch) (g : GG) (A : Nat → Prop) (M : MM) (X : Nat) {c : CS} (hR : RXS g A M M X c) (hI : CI c) {i : Nat} {a b d : Int32} {w : Nat} (hi : i < 6) (a1 : 1 ≤ a.toInt ∧ a.toInt ≤ 9) (b1 : 1 ≤ b.toInt ∧ b.toInt ≤ 50) (d1 : 0 ≤ d.toInt ∧ d.toInt ≤ 200) (w1 : w ≤ 9) : Met l yX7_gauge (Uw yX7_gauge cX7_gauge 8 (Option.some ClassFile.FieldType.int)) (rmD 4) (PreM [.ref X, .int (nI i), .int a, .int b, .int d, .int (nI w)] g A M) (PosI (fun r M1 => r = c.1.2.1 i 4 ∧ RXS g A M M1 X (recX c (gauV c.1 i a b d (nI w)))) g A) 0 0 A := by
  obtain ⟨now, hs, k, sl, sv, f, L⟩ := c
  have z := k_X7_gauge l g A M X now hs k sl sv f L hR hI (nI i) a b d (nI w)
  rw [gauge_eq hi a1 b1 d1 w1] at z
  exact z
theorem q_set0 (l : Launch) (g : GG) (A : Nat → Prop) (M : MM) (X : Nat) {c : CS} (hR : RXS g A M M X c) (hI : CI c) {x n : Nat} (hn : c.1.1 3 = nI n) (h20 : n ≤ 20) (x1 : 4 ≤ x) (x2 : x ≤ 60) : Met l yX7_set (Uw yX7_set cX7_set 4 (Option.some ClassFile.FieldType.int)) (rmD 4) (PreM [.ref X, .int (nI 0), .int (nI x)] g A M) (PosI (fun r M1 => r = c.1.1 0 ∧ RXS g A M M1 X (recX c (chgC c.1 n (nI x)))) g A) 0 0 A := by
  obtain ⟨now, hs, k, sl, sv, f, L⟩ := c
  have z := k_X7_set l g A M X now hs k sl sv f L hR hI 0 (nI x)
  rw [set0_eq hn h20 x1 x2] at z
  exact z
theorem q_set1 (l : Launch) (g : GG) (A : Nat → Prop) (M : MM) (X : Nat) {c : CS} (hR : RXS g A M M X c) (hI : CI c) {x : Int32} (x1 : x = 0 ∨ x = 1) : Met l yX7_set (Uw yX7_set cX7_set 4 (Option.some ClassFile.FieldType.int)) (rmD 4) (PreM [.ref X, .int (nI 1), .int x] g A M) (PosI (fun r M1 => r = c.1.1 1 ∧ RXS g A M M1 X (recX c (vW c.1 1 x))) g A) 0 0 A := by
  obtain ⟨now, hs, k, sl, sv, f, L⟩ := c
  have z := k_X7_set l g A M X now hs k sl sv f L hR hI 1 x
  rw [set1_eq x1] at z
  exact z
end
section
theorem dL_low_0 : decode cL_low 0 = .ok (.iload_n 0, 1) := by decide +kernel
theorem dL_low_1 : decode cL_low 1 = .ok (.ldc 7, 2) := by decide +kernel
theorem dL_low_3 : decode cL_low 3 = .ok (.iand, 1) := by decide +kernel
theorem dL_low_4 : decode cL_low 4 = .ok (.iload_n 1, 1) := by decide +kernel
theorem dL_low_5 : decode cL_low 5 = .ok (.irem, 1) := by decide +kernel
theorem dL_low_6 : decode cL_low 6 = .ok (.ireturn, 1) := by decide +kernel
theorem dL_cell_0 : decode cL_cell 0 = .ok (.iload_n 1, 1) := by decide +kernel
theorem dL_cell_1 : decode cL_cell 1 = .ok (.aload_n 0, 1) := by decide +kernel
theorem dL_cell_2 : decode cL_cell 2 = .ok (.arraylength, 1) := by decide +kernel
theorem dL_cell_3 : decode cL_cell 3 = .ok (.if_icmp .ge 9, 3) := by decide +kernel
theorem dL_cell_6 : decode cL_cell 6 = .ok (.aload_n 0, 1) := by decide +kernel
theorem dL_cell_7 : decode cL_cell 7 = .ok (.iload_n 1, 1) := by decide +kernel
theorem dL_cell_8 : decode cL_cell 8 = .ok (.iaload, 1) := by decide +kernel
theorem dL_cell_9 : decode cL_cell 9 = .ok (.goto 15, 3) := by decide +kernel
theorem dL_cell_12 : decode cL_cell 12 = .ok (.sipush 7919, 3) := by decide +kernel
theorem dL_cell_15 : decode cL_cell 15 = .ok (.iload_n 1, 1) := by decide +kernel
theorem dL_cell_16 : decode cL_cell 16 = .ok (.iconst 3, 1) := by decide +kernel
theorem dL_cell_17 : decode cL_cell 17 = .ok (.iadd, 1) := by decide +kernel
theorem dL_cell_18 : decode cL_cell 18 = .ok (.imul, 1) := by decide +kernel
theorem dL_cell_19 : decode cL_cell 19 = .ok (.iload_n 1, 1) := by decide +kernel
theorem dL_cell_20 : decode cL_cell 20 = .ok (.bipush 11, 2) := by decide +kernel
theorem dL_cell_22 : decode cL_cell 22 = .ok (.iadd, 1) := by decide +kernel
theorem dL_cell_23 : decode cL_cell 23 = .ok (.imul, 1) := by decide +kernel
theorem dL_cell_24 : decode cL_cell 24 = .ok (.ireturn, 1) := by decide +kernel
def loC (x y : Int32) : Int32 := (x &&& 2147483647) - (x &&& 2147483647) / y * y
theorem and_nn (x : Int32) : 0 ≤ (x &&& 2147483647).toInt := by
  have h : (x &&& 2147483647).toBitVec = x.toBitVec &&& 2147483647#32 := rfl
  show 0 ≤ (x &&& 2147483647).toBitVec.toInt
  rw [h]
  have h2 : (x.toBitVec &&& 2147483647#32).toNat < 2147483648 := by
    rw [BitVec.toNat_and]
    exact Nat.lt_of_le_of_lt Nat.and_le_right (by decide)
  rw [BitVec.toInt_eq_toNat_of_lt (by omega)]
  omega
theorem lo_in (x : Int32) {m : Nat} (h1 : 1 ≤ m) (h2 : m ≤ 1000) : ∃ k, k < m ∧ loC x (nI m) = nI k := by
  have em : (nI m).toInt = m := nI_ti (by omega)
  have t0 := and_nn x
  have tl := Int32.toInt_lt (x &&& 2147483647)
  obtain ⟨t, ht⟩ : ∃ t, t = x &&& 2147483647 := ⟨_, rfl⟩
  unfold loC
  rw [← ht] at t0 tl ⊢
  have q1 : t.toInt % (m : Int) + t.toInt / (m : Int) * (m : Int) = t.toInt := Int.emod_add_ediv_mul _ _
  have q2 : 0 ≤ t.toInt % (m : Int) := Int.emod_nonneg _ (by omega)
  have q3 : t.toInt % (m : Int) < (m : Int) := Int.emod_lt_of_pos _ (by omega)
  have q4 : 0 ≤ t.toInt / (m : Int) := Int.ediv_nonneg t0 (by omega)
  have q5 : 0 ≤ t.toInt / (m : Int) * (m : Int) := Int.mul_nonneg q4 (by omega)
  have e1 : (t / nI m).toInt = t.toInt / (m : Int) := by rw [lg_idiv_nonneg t0 (by rw [em]; omega), em]
  have e2 : (t / nI m * nI m).toInt = t.toInt / (m : Int) * (m : Int) := by
    have := ti_mul (x := t / nI m) (y := nI m) (by rw [e1, em]; omega) (by rw [e1, em]; omega)
    rw [this, e1, em]
  have e3 : (t - t / nI m * nI m).toInt = t.toInt % (m : Int) := by
    have := ti_sub (x := t) (y := t / nI m * nI m) (by rw [e2]; omega) (by rw [e2]; omega)
    rw [this, e2]; omega
  refine ⟨(t.toInt % (m : Int)).toNat, by omega, ti_inj ?_⟩
  rw [e3, nI_ti (by omega)]
  omega
set_option maxHeartbeats 4000000 in
set_option maxRecDepth 100000 in
/-- what is left over -/
theorem k_L_low (l : Launch) (g : GG) (A : Nat → Prop) (M0 : MM) (x y : Int32) (hy : ¬ y = 0) : Met l yL_low (Uw yL_low cL_low 2 (Option.some ClassFile.FieldType.int)) (rmD 0) (PreM [.int (x), .int (y)] g A M0) (PosI (fun r M1 => r = loC x y ∧ M1 = M0) g A) 0 0 A := by
  refine mk_Met (own := RL) rfl rfl (by decide) (Nat.le_of_ble_eq_true rfl) ?_
  intro p e s m below meth c ls aa Q haa hQ hx hb hr hlk hml hown hts hK hM hS hl hnm
  obtain ⟨M, hMM⟩ : ∃ M, M = M0 := ⟨_, rfl⟩
  rw [← hMM] at hM
  have ht : ∀ w ∈ lw_good, w.before _ s = true := fun w h => hts w (List.mem_cons_of_mem _ h)
  have hl : lv_has ls 2 [(0, .int (x)), (1, .int (y))] := hl
  refine lv_iload_n hx hb dL_low_0 rfl (lv_at hl 0 rfl) ?_
  refine lv_ldc (v := (2147483647)) hx hb hown (ht _ uw_2007) dL_low_1 ?_
  refine lv_iand hx hb dL_low_3 ?_
  refine lv_iload_n hx hb dL_low_4 rfl (lv_at hl 1 rfl) ?_
  refine lv_irem hx hb dL_low_5 (hy) ?_
  subst hQ
  exact m_zret hx hb hr (rfl) hlk hK hM hS dL_low_6 (⟨rfl, hMM⟩)
/-- the start of a method that reads the script -/
abbrev PreC (vs : List Value) (g : GG) (A : Nat → Prop) (M : MM) (b L : Nat) (xs : Nat → Int32) : Array Value → State → Prop := va_Pc vs (fun U => HD g A M U.heap ∧ KK g U ∧ va_X b L xs U U.heap ∧ b < U.heap.size)
theorem preC_blind {vs : List Value} {g : GG} {A : Nat → Prop} {M : MM} {b L : Nat} {xs : Nat → Int32} : FrameBlind (PreC vs g A M b L xs) := fun a U f mk q => ⟨q.1, q.2.1, KK.moved (u := U) (U := U.calling f mk a) (Vm.Alike.refl U.vm) q.2.2.1, q.2.2.2.1.moved (u := U) (U := U.calling f mk a) (Vm.Alike.refl U.vm), q.2.2.2.2⟩
section
variable {p : Program} {l : Launch} {e : Env} {R : Room} {s : State} {m : MethodId} {args : Array Value} {below : List Frame} {meth : Method} {c : Code} {H H0 : Heap} {locs : List Loc} {cells slots : Nat} {Q : State → Prop} {cc : ByteArray} {pc : Nat} {ls : Array Slot} {rest st0 : List Value} {g : GG} {A : Nat → Prop} {M : MM} {own : String} {index : Nat} {Ts : List Cond} {nL : Nat} {y : MethodName} {ws : List Cond} {rm : Room} {As : List Value} {bytes : ByteArray} {maxL : Nat} {ret : Option FieldType} {n b L : Nat} {xs : Nat → Int32}
theorem m_callC {post : Int32 → MM → Prop} (S : CallFix p m c cc nL s args Ts own) (hMet : Met l y ws rm (PreC As g A M b L xs) (PosI post g A) 0 0 A) (cw : CallB R s args own index y bytes maxL ret ws rm 0 0 n ∧ (Cond.static y).before args s = true) (hK : KK g s) (hM : HD g A M H) (hS : va_S A s.heap H locs) (hsc : va_X b L xs s s.heap) (hbl : b < s.heap.size) (hbA : ¬ A b) (hn : As.length = n) (hsz : ls.size = nL) (hst : st0 = As.reverse ++ rest) (hW : (rest.map fun v => v.category).sum ≤ 8) (hdg : decode cc pc = .ok (.invokestatic index, 3)) (hf : cells ≤ R.cells ∧ slots ≤ R.slots)
    (kk : ∀ (r : Int32) (M1 : MM) (H1 : Heap) (locs1 : List Loc), post r M1 → HD g A M1 H1 → va_S A s.heap H1 locs1 → W p l e R s m args below meth c H1 locs1 cells slots Q (F0 m (pc + 3) ls (.int r :: rest))) : W p l e R s m args below meth c H locs cells slots Q (F0 m pc ls st0) :=
  va_calli (va_runS (As := As) (rest := rest) S hMet cw ⟨preC_blind, fun U hU hWU => ⟨rfl, by rw [hU]; exact hM, KK.moved hWU.alike hK, by rw [hU]; exact (hsc.kept (hS.2.1 b hbl hbA)).moved hWU.alike, by rw [hU]; exact Nat.lt_of_lt_of_le hbl hS.1⟩⟩ rfl hn hsz hst (lv_room (pc := pc) (ls := ls) (rest := st0) (m := m) hW) hdg hf) hS (fun _ _ h => h) (fun _ h => h)
    (fun r u t H1 locs1 ht _ hp hB _ _ hS1 => kk r u H1 locs1 hp (by rw [← ht]; exact hB.1) hS1)
end
set_option maxHeartbeats 4000000 in
set_option maxRecDepth 100000 in
/-- a number of the script, or one made of its place -/
theorem k_L_cell (l : Launch) (g : GG) (A : Nat → Prop) (M0 : MM) (b L : Nat) (xs : Nat → Int32) (hbA : ¬ A b) (hL : L ≤ 260) (k : Nat) (hk : k ≤ 1000) : Met l yL_cell (Uw yL_cell cL_cell 2 (Option.some ClassFile.FieldType.int)) (rmD 0) (PreC [.ref b, .int (nI k)] g A M0 b L xs) (PosI (fun r M1 => M1 = M0) g A) 0 0 A := by
  refine Met.ofW (cc := cL_cell) (maxL := 2) (ret := Option.some ClassFile.FieldType.int) (by decide) rfl ?_
  intro p e s m args below meth c s₁ B hml hv
  obtain ⟨rfl, hM, hK, hsc, hbl⟩ := hv
  have hl := lv_entry ([.ref b, .int (nI k)]) (n := 2) (Nat.le_of_ble_eq_true rfl)
  rw [lg_entry_eq]
  have hx := B.exec
  have hb := B.bytes
  have hr := B.returns
  have hlk := B.notSynchronized
  have hS : va_S A s.heap s.heap [] := va_S.rf
  generalize (lg_sl ([.ref b, .int (nI k)]) ++ List.replicate (2 - (lg_sl ([.ref b, .int (nI k)])).length) Slot.unset).toArray = ls at hl ⊢
  have hl : lv_has ls 2 [(0, .ref b), (1, .int (nI k))] := hl
  refine lv_iload_n hx hb dL_cell_0 rfl (lv_at hl 1 rfl) ?_
  refine lv_aload_n hx hb dL_cell_1 rfl (lv_at hl 0 rfl) ?_
  refine va_slen hx hb hsc hbl hbA hS dL_cell_2 ?_
  refine lv_icmp_ge (tgt := 12) hx hb dL_cell_3 (by decide) (fun c_3 => ?_) (fun c_3 => ?_)
  · refine lv_sipush (v := 7919) hx hb dL_cell_12 (by first | rfl | decide) ?_
    refine lv_iload_n hx hb dL_cell_15 rfl (lv_at hl 1 rfl) ?_
    refine lv_iconst (v := 3) hx hb dL_cell_16 (by first | rfl | decide) ?_
    refine lv_iadd hx hb dL_cell_17 ?_
    refine lv_imul hx hb dL_cell_18 ?_
    refine lv_iload_n hx hb dL_cell_19 rfl (lv_at hl 1 rfl) ?_
    refine lv_bipush (v := 11) hx hb dL_cell_20 (by first | rfl | decide) ?_
    refine lv_iadd hx hb dL_cell_22 ?_
    refine lv_imul hx hb dL_cell_23 ?_
    exact m_iret hx hb hr hlk hK hM hS dL_cell_24 rfl
  · refine lv_aload_n hx hb dL_cell_6 rfl (lv_at hl 0 rfl) ?_
    refine lv_iload_n hx hb dL_cell_7 rfl (lv_at hl 1 rfl) ?_
    refine va_sld hx hb hsc hbl hbA hS (vp_in_nI (nI_lt_of (by omega) (by omega) c_3) (by omega)) dL_cell_8 ?_
    refine lv_goto (tgt := 24) hx hb dL_cell_9 (by decide) ?_
    exact m_iret hx hb hr hlk hK hM hS dL_cell_24 rfl
end
section
/-! what the law's checks rest on -/
theorem ge0 {x : Int32} (h : 0 ≤ x.toInt) : ¬ x < 0 := Int32.not_lt.mpr (ti_nn h)
theorem nIge0 {n : Nat} (h : n < 2 ^ 31) : ¬ nI n < 0 := nI_pos h
theorem ring1 (a b x : Int32) : (a - b) - (a - (b + x)) = x := by
  rw [Int32.sub_eq_iff_eq_add, ← Int32.sub_sub, Int32.add_comm x, Int32.sub_add_cancel]
theorem sum_add (f q : Nat → Int32) : ∀ n, sumN (fun i => f i + q i) n = sumN f n + sumN q n := by
  intro n
  induction n with
  | zero => rfl
  | succ n ih =>
    show sumN (fun i => f i + q i) n + (f n + q n) = (sumN f n + f n) + (sumN q n + q n)
    rw [ih, Int32.add_assoc, Int32.add_assoc, ← Int32.add_assoc (sumN q n) (f n), Int32.add_comm (sumN q n) (f n), Int32.add_assoc (f n)]
theorem sum_cg {f q : Nat → Int32} : ∀ n, (∀ i, i < n → f i = q i) → sumN f n = sumN q n := by
  intro n
  induction n with
  | zero => intro _; rfl
  | succ n ih =>
    intro h
    show sumN f n + f n = sumN q n + q n
    rw [ih (fun i hi => h i (by omega)), h n (by omega)]
section
variable {B H T n h : Nat} {c : CS} {v : VV}
theorem zPI.caught (P : zPI B T v n h) {i : Nat} (hi : i < 6) (hh : h ≤ 20000) : v.2.1 i 6 = v.2.1 i 7 + v.2.1 i 4 := by
  obtain ⟨-, -, -, -, d1, t1, t2, p1, p2⟩ := (P.2.2.2.2.1 i hi).1
  apply ti_inj
  rw [ti_add (by omega) (by omega)]
  omega
theorem zPI.wheelAt (P : zPI B T v n h) {t : Int32} : whC v t = t - t / v.1 0 * v.1 0 := by
  obtain ⟨w, w1, w2, w3⟩ := P.2.2.1
  have hw0 : 0 < v.1 0 := by rw [w3]; exact nI_lt (a := 0) (by omega) (by omega)
  unfold whC
  exact if_pos hw0
theorem zPI.wheelNz (P : zPI B T v n h) : ¬ v.1 0 = 0 := by
  obtain ⟨w, w1, w2, w3⟩ := P.2.2.1
  rw [w3]
  exact fun q => by
    have := nI_ij (by omega) (by omega) (b := 0) q
    omega
theorem zPI.wheelIn (P : zPI B T v n h) {t : Int32} (ht : 0 ≤ t.toInt) : 0 ≤ (whC v t).toInt ∧ ¬ v.1 0 ≤ whC v t := by
  obtain ⟨w, w1, w2, w3⟩ := P.2.2.1
  rw [wh_eq, w3]
  have z := wh_int (w := w) (by omega) w2 ht
  refine ⟨z.1, Int32.not_le.mpr (ti_lt.mpr ?_)⟩
  rw [nI_ti (by omega)]
  exact z.2
theorem zPI.late (P : zPI B T v n h) {i : Nat} (hi : i < 6) (hh : h ≤ 20000) : ¬ nI h < v.2.1 i 9 := by
  obtain ⟨⟨q, q1, q2⟩, -⟩ := (P.2.2.2.2.1 i hi).2
  rw [q2]
  exact Int32.not_lt.mpr (nI_le q1 (by omega))
theorem zPI.taken (P : zPI B T v n h) {i : Nat} (hi : i < 6) (h0 : ¬ 0 < v.2.1 i 12) : v.2.1 i 8 = 0 ∧ v.2.1 i 9 = 0 := by
  obtain ⟨-, -, -, ⟨b1, b2⟩, b3⟩ := (P.2.2.2.2.1 i hi).2
  apply b3
  have z := ti_le.mp (Int32.not_lt.mp h0)
  rw [ti_0] at z
  omega
theorem zPI.all (P : zPI B T v n h) (hh : h ≤ 20000) : sumN (fun i => v.2.1 i 6) 6 = sumN (fun i => v.2.1 i 7 + v.2.1 i 4) 6 := sum_cg 6 (fun _ hi => P.caught hi hh)
theorem gap_n {i : Nat} (h0 : ¬ v.2.1 i 5 - v.2.1 i 8 = 0) : gapN v i + nI 1 = gapN v (i + 1) := (if_neg h0).symm
theorem gap_z {i : Nat} (h0 : v.2.1 i 5 - v.2.1 i 8 = 0) : gapN v i + nI 0 = gapN v (i + 1) := (Int32.add_zero _).trans (if_pos h0).symm
/-! what a runner shows -/
theorem zPI.run1 (P : zPI B T v n h) {j : Nat} (hj : j < n) : ¬ v.1 0 ≤ whC v (v.2.2 j 1) := (P.wheelIn (P.2.2.2.2.2 j hj).2.1.1).2
theorem zPI.run2 (P : zPI B T v n h) {j : Nat} (hj : j < n) (hh : h ≤ 20000) : ¬ nI h < v.2.2 j 2 := by
  obtain ⟨-, -, ⟨z, z1, z2⟩, -⟩ := P.2.2.2.2.2 j hj
  rw [z2]
  exact Int32.not_lt.mpr (nI_le z1 (by omega))
theorem zPI.run3 (P : zPI B T v n h) {j : Nat} (hj : j < n) (hB : B < 70) : ¬ v.2.2 j 4 ≤ 0 ∧ ¬ nI 70 ≤ v.2.2 j 4 := by
  obtain ⟨-, -, -, -, ⟨d, d1, d2, d3⟩⟩ := P.2.2.2.2.2 j hj
  rw [d3]
  exact ⟨nI_nle (by omega) (by omega), nI_ge (by omega) (by omega)⟩
/-! changes of a whole state -/
theorem zSI.rain (S : zSI B H T c) (P : zPI B T c.1 n h) (hh : h ≤ H) (hg : 0 ≤ (c.1.1 1).toInt) {y q : Nat} (hy : y ≤ 99) (q2 : q ≤ 24) (hH : H + 24 ≤ 4000) (hB : B ≤ 1000) (hT : T ≤ 1000000) : zSI B (H + q) (T + 20 * q) (recX c (pasC (nI y) c.1 q)) ∧ (∃ n', zPI B (T + 20 * q) (pasC (nI y) c.1 q) n' (h + q)) ∧ ¬ pasT (nI y) c.1 q < 0 := by
  have ey : (nI y).toInt = y := nI_ti (by omega)
  obtain ⟨n', P'⟩ := P.pas' (a := nI y) (by rw [ey]; omega) (by rw [ey]; omega) q (by omega) (by omega) (by omega)
  refine ⟨S.rec ⟨n', h + q, by omega, by rw [pas_W _ _ (by omega) (by omega)]; exact hg, P'⟩ (Nat.le_refl B) (by omega) (by omega), ⟨n', P'⟩, ge0 ?_⟩
  exact (pat_int P (a := nI y) (by rw [ey]; omega) (by rw [ey]; omega) q q2 (by omega) (by omega) (by omega)).1
theorem zSI.snd (S : zSI B H T c) (P : zPI B T c.1 n h) (hh : h ≤ H) (hg : 0 ≤ (c.1.1 1).toInt) {i : Nat} (hi : i < 6) (hn : n < 20) (hB : 9 ≤ B) (hT : T ≤ 1000000) : zSI B H (T + 1) (recX c (senC c.1 i n)) ∧ ¬ whC (senC c.1 i n) ((senC c.1 i n).2.1 i 5) < 0 := by
  obtain ⟨n', -, P'⟩ := P.send hB (by omega) hn hi
  refine ⟨S.rec ⟨n', h, hh, by rw [sen_W _ _ _ (by omega)]; exact hg, P'⟩ (Nat.le_refl B) (Nat.le_refl H) (Nat.le_succ T), ge0 ?_⟩
  refine (P'.wheelIn ?_).1
  rw [sen_5 _ hi (by omega)]
  exact (P.2.2.2.2.1 i hi).1.2.2.2.2.2.1
theorem zSI.los (S : zSI B H T c) (P : zPI B T c.1 n h) (hh : h ≤ H) (hg : 0 ≤ (c.1.1 1).toInt) {j : Nat} (hj : j < n) : zSI B H T (recX c (rmvC (cosC c.1 j) j n)) ∧ ¬ c.1.2.2 j 0 < 0 := by
  refine ⟨S.rec ⟨n - 1, h, hh, ?_, P.lose hj⟩ (Nat.le_refl B) (Nat.le_refl H) (Nat.le_refl T), ?_⟩
  · show 0 ≤ (va_up (cosC c.1 j).1 3 (nI (n - 1)) 1).toInt
    rw [va_up_ne _ _ (by omega), cosC_1]; exact hg
  · obtain ⟨⟨i, hi, e⟩, -⟩ := P.2.2.2.2.2 j hj
    rw [e]
    exact nIge0 (by omega)
theorem zSI.twi (S : zSI B H T c) (P : zPI B T c.1 n h) (hh : h ≤ H) (hg : 0 ≤ (c.1.1 1).toInt) (hn : n < 20) {j : Nat} (hj : j < n) : zSI (B + 1) H T (recX c (twiC c.1 j n)) := by
  refine S.rec ⟨n + 1, h, hh, ?_, P.twice hn hj⟩ (Nat.le_succ B) (Nat.le_refl H) (Nat.le_refl T)
  show 0 ≤ (va_up c.1.1 3 (nI n + 1) 1).toInt
  rw [va_up_ne _ _ (by omega)]; exact hg
theorem zSI.gau (S : zSI B H T c) (P : zPI B T c.1 n h) (hh : h ≤ H) (hg : 0 ≤ (c.1.1 1).toInt) {i : Nat} (hi : i < 6) {a b d : Int32} {w : Nat} (a1 : 1 ≤ a.toInt ∧ a.toInt ≤ 9) (b1 : 1 ≤ b.toInt ∧ b.toInt ≤ 50) (d1 : 0 ≤ d.toInt ∧ d.toInt ≤ 200) (w1 : w ≤ 9) : zSI B H T (recX c (gauV c.1 i a b d (nI w))) ∧ ¬ c.1.2.1 i 4 < 0 :=
  ⟨S.rec ⟨n, h, hh, hg, P.gauge hi a1 b1 d1 w1⟩ (Nat.le_refl B) (Nat.le_refl H) (Nat.le_refl T), ge0 (P.2.2.2.2.1 i hi).1.2.2.2.2.1⟩
theorem zSI.st0 (S : zSI B H T c) (P : zPI B T c.1 n h) (hh : h ≤ H) (hg : 0 ≤ (c.1.1 1).toInt) {x : Nat} (x1 : 4 ≤ x) (x2 : x ≤ 60) : zSI B H T (recX c (chgC c.1 n (nI x))) ∧ ¬ c.1.1 0 < 0 := by
  refine ⟨S.rec ⟨0, h, hh, ?_, P.wheel x1 x2⟩ (Nat.le_refl B) (Nat.le_refl H) (Nat.le_refl T), ?_⟩
  · show 0 ≤ (va_up (va_up (cosL c.1 n).1 3 (nI 0)) 0 (nI x) 1).toInt
    rw [va_up_ne _ _ (by omega), va_up_ne _ _ (by omega), cosL_1]; exact hg
  · obtain ⟨w, w1, w2, w3⟩ := P.2.2.1
    rw [w3]
    exact nIge0 (by omega)
theorem zSI.st1 (S : zSI B H T c) (P : zPI B T c.1 n h) (hh : h ≤ H) (hg : 0 ≤ (c.1.1 1).toInt) {x : Int32} (hx : x = 0 ∨ x = 1) : zSI B H T (recX c (vW c.1 1 x)) ∧ ¬ c.1.1 1 < 0 := by
  refine ⟨S.rec ⟨n, h, hh, ?_, P.guess x⟩ (Nat.le_refl B) (Nat.le_refl H) (Nat.le_refl T), ge0 hg⟩
  show 0 ≤ (va_up c.1.1 1 x 1).toInt
  rw [va_up_self]
  rcases hx with rfl | rfl <;> decide
end
/-! a runner who is sent now -/
theorem hea_again {w g vm t hh cc : Int32} {r : Nat → Int32} {T : Nat} (hT : T ≤ 1000000) (h9 : ¬ hh < r 9) (b1 : 0 ≤ (r 12).toInt) (b2 : (r 12).toInt ≤ (T : Int)) (g' vm' cc' : Int32) : heaR w g vm r t hh cc 9 = hh ∧ heaR w g' vm' (heaR w g vm r t hh cc) t hh cc' 8 = heaR w g vm r t hh cc 8 ∧ (heaR w g vm r t hh cc 8 = r 8 ∨ heaR w g vm r t hh cc 8 = r 8 + wenR w g vm r t cc) := by
  obtain ⟨F, hF⟩ : ∃ F, F = heaR w g vm r t hh cc := ⟨_, rfl⟩
  have key : F 9 = hh ∧ 0 < F 12 ∧ whI w t = whI w (F 10) ∧ (F 8 = r 8 ∨ F 8 = r 8 + wenR w g vm r t cc) := by
    rw [hF]
    unfold heaR
    rw [if_neg h9]
    by_cases q2 : 0 < r 12 ∧ hh = r 9 ∧ whI w t = whI w (r 10)
    · rw [if_pos q2, va_up_ne _ _ (by omega), va_up_ne _ _ (by omega), va_up_ne _ _ (by omega), va_up_ne _ _ (by omega)]
      exact ⟨q2.2.1.symm, q2.1, q2.2.2, Or.inl rfl⟩
    · rw [if_neg q2, takR_9, takR_12, takR_10, takR_8]
      refine ⟨rfl, ti_pos ?_, rfl, Or.inr rfl⟩
      have := ti_add (x := r 12) (y := 1) (by rw [ti_1]; omega) (by rw [ti_1]; omega)
      rw [this, ti_1]
      omega
  rw [← hF]
  refine ⟨key.1, ?_, key.2.2.2⟩
  show (if hh < F 9 then va_up F 13 (F 13 + 1) else if 0 < F 12 ∧ hh = F 9 ∧ whI w t = whI w (F 10) then va_up F 14 (F 14 + 1) else takR w g' vm' F t hh cc') 8 = F 8
  rw [if_neg (by rw [key.1]; exact Int32.lt_irrefl), if_pos ⟨key.2.1, key.1.symm, key.2.2.1⟩]
  exact va_up_ne _ _ (by omega)
/-- the gap that a runner who is sent now would leave -/
def sentG (c : CS) (i : Nat) : Int32 := c.1.2.1 i 5 - heaR (c.1.1 0) (c.1.1 1) (c.1.2.1 0 0) (c.1.2.1 i) (c.1.2.1 i 5) (c.1.1 2) (c.1.2.1 0 6) 8
theorem sent_facts {B H T n h : Nat} {c : CS} (S : zSI B H T c) (P : zPI B T c.1 n h) (hh : h ≤ H) (hH : H ≤ 10000) (hg : 0 ≤ (c.1.1 1).toInt) {i : Nat} (hi : i < 6) (hn : n < 20) (hB : 9 ≤ B) (hT : T ≤ 1000000) {c2 c3 : CS} (e2 : c2 = recX c (gauV c.1 i (c.1.2.1 i 0) (c.1.2.1 i 1) (c.1.2.1 i 2) (nI 0))) (e3 : c3 = recX c2 (senC c2.1 i n)) :
    zSI B H T c2 ∧ c2.1.1 3 = nI n ∧ c2.1.2.1 i 4 = c.1.2.1 i 4 ∧ whC (senC c2.1 i n) ((senC c2.1 i n).2.1 i 5) = whC c.1 (c.1.2.1 i 5) ∧ zSI B H (T + 1) c3 ∧ c3.1.2.1 i 5 - c3.1.2.1 i 8 = sentG c i ∧ c3.1.2.1 i 9 = nI h ∧ c3.1.1 2 = nI h ∧ sentG c3 i = sentG c i ∧ c3.1.1 1 = c.1.1 1 ∧ c3.1.1 0 = c.1.1 0 ∧ ¬ (c.1.2.1 i 5 - c.1.2.1 i 8) - sentG c i < 0 ∧ (c.1.1 1 = 1 ∨ ¬ c.1.1 0 ≤ (c.1.2.1 i 5 - c.1.2.1 i 8) - sentG c i) ∧ zTop2 c3 c.1 n := by
  have G := (P.2.2.2.2.1 i hi).1
  have Q := (P.2.2.2.2.1 i hi).2
  have G0 := (P.2.2.2.2.1 0 (by omega)).1
  have p2 := P.2.1
  have p4 := P.2.2.2.1
  have S2 := (S.gau P hh hg hi G.1 G.2.1 G.2.2.1 (show 0 ≤ 9 by omega)).1
  have P2 := P.gauge hi G.1 G.2.1 G.2.2.1 (show 0 ≤ 9 by omega)
  rw [← e2] at S2
  have ev : c2.1 = gauV c.1 i (c.1.2.1 i 0) (c.1.2.1 i 1) (c.1.2.1 i 2) (nI 0) := by rw [e2]; rfl
  rw [← ev] at P2
  have ew : c2.1.1 = c.1.1 := by rw [ev]; rfl
  have hg2 : 0 ≤ (c2.1.1 1).toInt := by rw [ew]; exact hg
  have S3 := (S2.snd P2 hh hg2 hi hn hB hT).1
  rw [← e3] at S3
  have r3 : Row3 (c2.1.2.1 i) (c.1.2.1 i) := by
    intro k hk hk3
    rw [ev]
    rcases (by omega : k = 0 ∨ k = 1 ∨ k = 2 ∨ 4 ≤ k) with rfl | rfl | rfl | h4
    · exact gau_0 _ _ _ _ _ _
    · exact gau_1 _ _ _ _ _ _
    · exact gau_2 _ _ _ _ _ _
    · exact gau_k _ _ _ _ _ _ h4
  have r03 : Row3 (c2.1.2.1 0) (c.1.2.1 0) := by
    by_cases e : i = 0
    · subst e; exact r3
    · rw [ev, gau_o _ _ _ _ _ _ (fun z => e z.symm)]
      exact fun _ _ _ => rfl
  have way : c2.1.2.1 i 3 = 0 := by rw [ev, gau_3]; rfl
  obtain ⟨-, rr⟩ := sen_now (v := c2.1) (n := n) hi way
  have ec3 : c3.1 = senC c2.1 i n := by rw [e3]; rfl
  have row : c3.1.2.1 i = heaR (c.1.1 0) (c.1.1 1) (c.1.2.1 0 0) (c2.1.2.1 i) (c.1.2.1 i 5) (c.1.1 2) (c.1.2.1 0 6) := by
    rw [ec3, rr, va_up_self, ew, r3 5 (by omega) (by omega), r03 0 (by omega) (by omega), r03 6 (by omega) (by omega)]
  have row3 := Row3.hea r3 (c.1.1 0) (c.1.1 1) (c.1.2.1 0 0) (c.1.2.1 i 5) (c.1.1 2) (c.1.2.1 0 6)
  rw [← row] at row3
  have k5 : ∀ j k, k < 8 → c3.1.2.1 j k = c2.1.2.1 j k := fun j k hk => by rw [ec3]; exact sen_5 _ hi hk j
  have kw : ∀ k, k ≠ 3 → c3.1.1 k = c.1.1 k := fun k hk => by rw [ec3, sen_W _ _ _ hk, ew]
  have e5 : c3.1.2.1 i 5 = c.1.2.1 i 5 := (k5 i 5 (by omega)).trans (r3 5 (by omega) (by omega))
  have q9 : ¬ c.1.1 2 < c2.1.2.1 i 9 := by
    rw [p4, r3 9 (by omega) (by omega)]
    exact P.late hi (by omega)
  obtain ⟨a9, a8, aw⟩ := hea_again (w := c.1.1 0) (g := c.1.1 1) (vm := c.1.2.1 0 0) (t := c.1.2.1 i 5) (hh := c.1.1 2) (cc := c.1.2.1 0 6) (r := c2.1.2.1 i) hT q9 (by rw [r3 12 (by omega) (by omega)]; exact Q.2.2.2.1.1) (by rw [r3 12 (by omega) (by omega)]; exact Q.2.2.2.1.2) (c.1.1 1) (c.1.2.1 0 0) (c.1.2.1 0 6)
  rw [← row] at a9 a8 aw
  have gap : c3.1.2.1 i 5 - c3.1.2.1 i 8 = sentG c i := by
    unfold sentG
    rw [e5, row3 8 (by omega) (by omega)]
  have ewen : wenR (c.1.1 0) (c.1.1 1) (c.1.2.1 0 0) (c2.1.2.1 i) (c.1.2.1 i 5) (c.1.2.1 0 6) = wenR (c.1.1 0) (c.1.1 1) (c.1.2.1 0 0) (c.1.2.1 i) (c.1.2.1 i 5) (c.1.2.1 0 6) := by
    unfold wenR expR we2R
    rw [r3 0 (by omega) (by omega), r3 1 (by omega) (by omega), r3 10 (by omega) (by omega), r3 11 (by omega) (by omega)]
  have e8 : c2.1.2.1 i 8 = c.1.2.1 i 8 := r3 8 (by omega) (by omega)
  rw [ewen, e8] at aw
  obtain ⟨w, w1, w2, w3⟩ := P.2.2.1
  have wi := wen_int (w := w) w1 w2 (h := h) (by omega) (g := c.1.1 1) (vm := c.1.2.1 0 0) G0.1.1 (r := c.1.2.1 i) G.1 G.2.1.1 Q.2.1.1 Q.2.2.1 (t := c.1.2.1 i 5) (c := c.1.2.1 0 6) G.2.2.2.2.2.1 ⟨by
    obtain ⟨-, -, -, -, d1, t1, t2, p1, p2⟩ := G0
    omega, G0.2.2.2.2.2.2.2.2⟩
  rw [← w3] at wi
  have went : (c.1.2.1 i 5 - c.1.2.1 i 8) - sentG c i = 0 ∨ (c.1.2.1 i 5 - c.1.2.1 i 8) - sentG c i = wenR (c.1.1 0) (c.1.1 1) (c.1.2.1 0 0) (c.1.2.1 i) (c.1.2.1 i 5) (c.1.2.1 0 6) := by
    rw [← gap, e5]
    rcases aw with z | z
    · rw [z]
      exact Or.inl (Int32.sub_self _)
    · rw [z]
      exact Or.inr (ring1 _ _ _)
  refine ⟨S2, by rw [ew]; exact p2, r3 4 (by omega) (by omega), ?_, S3, gap, a9.trans p4, (kw 2 (by omega)).trans p4, ?_, kw 1 (by omega), kw 0 (by omega), ?_, ?_, ?_⟩
  · rw [← ec3, e5, wh_eq, wh_eq, kw 0 (by omega)]
  · unfold sentG
    rw [k5 0 0 (by omega), k5 0 6 (by omega), r03 0 (by omega) (by omega), r03 6 (by omega) (by omega), kw 0 (by omega), kw 1 (by omega), kw 2 (by omega), e5, a8, row3 8 (by omega) (by omega)]
  · rcases went with z | z
    · rw [z]; decide
    · rw [z]; exact ge0 wi.1
  · by_cases hg1 : c.1.1 1 = 1
    · exact Or.inl hg1
    · refine Or.inr (Int32.not_le.mpr (ti_lt.mpr ?_))
      rw [w3, nI_ti (by omega)]
      rcases went with z | z
      · rw [z, ti_0]; omega
      · rw [z]; exact wi.2 hg1
  · rw [e3]
    refine rec_top2 ?_ _
    rw [e2]
    exact rec_top P.onN _
/-! all who are on the way -/
theorem lon_int {B T n h : Nat} {v : VV} (P : zPI B T v n h) (hB : B ≤ 1000) : ∀ j, j ≤ n → ∃ q, lonC v j = nI q ∧ q ≤ B ∧ (∀ k, k < j → ∃ d, 1 ≤ d ∧ d ≤ q ∧ v.2.2 k 4 = nI d) := by
  intro j
  induction j with
  | zero => intro _; exact ⟨0, rfl, by omega, fun k hk => absurd hk (Nat.not_lt_zero k)⟩
  | succ j ih =>
    intro hj
    obtain ⟨q, q1, q2, q3⟩ := ih (by omega)
    obtain ⟨-, -, -, -, ⟨d, d1, d2, d3⟩⟩ := P.2.2.2.2.2 j (by omega)
    unfold lonC
    rw [q1, d3]
    by_cases z : q < d
    · rw [if_pos (nI_lt z (by omega))]
      refine ⟨d, rfl, d2, fun k hk => ?_⟩
      by_cases e : k = j
      · rw [e]; exact ⟨d, d1, Nat.le_refl d, d3⟩
      · obtain ⟨d', a1, a2, a3⟩ := q3 k (by omega)
        exact ⟨d', a1, by omega, a3⟩
    · rw [if_neg (Int32.not_lt.mpr (nI_le (by omega) (by omega)))]
      refine ⟨q, rfl, q2, fun k hk => ?_⟩
      by_cases e : k = j
      · rw [e]; exact ⟨d, d1, by omega, d3⟩
      · exact q3 k (by omega)
theorem lon_y {v : VV} {j : Nat} (h : ¬ v.2.2 j 4 ≤ lonC v j) : v.2.2 j 4 = lonC v (j + 1) := (if_pos (Int32.not_le.mp h)).symm
theorem lon_n {v : VV} {j : Nat} (h : v.2.2 j 4 ≤ lonC v j) : lonC v j = lonC v (j + 1) := (if_neg (Int32.not_lt.mpr h)).symm
theorem allc_eq {B T n h : Nat} {c : CS} (P : zPI B T c.1 n h) {t : VV} {i q : Nat} (hi : i < 6) (hq : lonC c.1 n = nI q) (hq2 : q < 2 ^ 31) : oIfAll (cpyC t c.1 (onN c.1)) (onN c.1) (nI i) = (pasC (nI 0) c.1 q).2.1 i 5 - (pasC (nI 0) c.1 q).2.1 i 8 := by
  rw [P.onN]
  have e := Eq2.cpy t c.1 n
  obtain ⟨u, hu⟩ : ∃ u, u = cpyC t c.1 n := ⟨_, rfl⟩
  rw [← hu] at e ⊢
  unfold oIfAll
  rw [gxn_in hi (by decide)]
  dsimp only
  rw [e.lon n (Nat.le_refl n), hq, nI_clamp hq2]
  obtain ⟨m, -, -, e2⟩ := e.pas ((e.1 3 (by omega)).trans P.2.1) P.1 0 q
  rw [e2.2.1 i hi 5 (by omega), e2.2.1 i hi 8 (by omega)]
  rfl
theorem all_come {B T n h q : Nat} {v : VV} (P : zPI B T v n h) (hl : ∀ k, k < n → ∃ d, 1 ≤ d ∧ d ≤ q ∧ v.2.2 k 4 = nI d) (hq : q ≤ 1000) (hh : h + q ≤ 20000) (hT : T + 20 * q < 2 ^ 30) : (pasC (nI 0) v q).1 3 = nI 0 := by
  have P' : zPI (0 + q) T v n h := by
    obtain ⟨h1, h2, h3, h4, h5, h6⟩ := P
    refine ⟨h1, h2, h3, h4, h5, fun j hj => ?_⟩
    obtain ⟨a, b1, b2, b3, -⟩ := h6 j hj
    obtain ⟨d, d1, d2, d3⟩ := hl j hj
    exact ⟨a, b1, b2, b3, d, d1, by omega, d3⟩
  obtain ⟨n', Q⟩ := zPI.pas (a := nI 0) (by decide) (by decide) q P' (by omega) hh hT
  have : n' = 0 := by
    rcases Nat.eq_zero_or_pos n' with z | z
    · exact z
    · obtain ⟨-, -, -, -, ⟨d, d1, d2, -⟩⟩ := Q.2.2.2.2.2 0 z
      omega
  subst this
  exact Q.2.1
/-! the gauge that needs a runner most -/
theorem mos_rng (v : VV) : ∀ n, n ≤ 6 → (mosP v n).2 = -1000006 ∨ ∃ k, k < 6 ∧ (mosP v n).2 = nI k := by
  intro n
  induction n with
  | zero => intro _; exact Or.inl rfl
  | succ n ih =>
    intro hn
    unfold mosP
    split
    · exact Or.inr ⟨n, by omega, rfl⟩
    · exact ih (by omega)
end
section
theorem dL_does_0 : decode cL_does 0 = .ok (.iload_n 1, 1) := by decide +kernel
theorem dL_does_1 : decode cL_does 1 = .ok (.iconst 4, 1) := by decide +kernel
theorem dL_does_2 : decode cL_does 2 = .ok (.ishr, 1) := by decide +kernel
theorem dL_does_3 : decode cL_does 3 = .ok (.bipush 6, 2) := by decide +kernel
theorem dL_does_5 : decode cL_does 5 = .ok (.invokestatic 8, 3) := by decide +kernel
theorem dL_does_8 : decode cL_does 8 = .ok (.istore_n 2, 1) := by decide +kernel
theorem dL_does_9 : decode cL_does 9 = .ok (.iload_n 1, 1) := by decide +kernel
theorem dL_does_10 : decode cL_does 10 = .ok (.bipush 15, 2) := by decide +kernel
theorem dL_does_12 : decode cL_does 12 = .ok (.iand, 1) := by decide +kernel
theorem dL_does_13 : decode cL_does 13 = .ok (.tableswitch 272 0 14 #[75, 75, 75, 75, 75, 113, 113, 113, 113, 133, 161, 199, 199, 245, 261], 75) := by decide +kernel
theorem dL_does_88 : decode cL_does 88 = .ok (.aload_n 0, 1) := by decide +kernel
theorem dL_does_89 : decode cL_does 89 = .ok (.iload_n 1, 1) := by decide +kernel
theorem dL_does_90 : decode cL_does 90 = .ok (.iconst 4, 1) := by decide +kernel
theorem dL_does_91 : decode cL_does 91 = .ok (.ishr, 1) := by decide +kernel
theorem dL_does_92 : decode cL_does 92 = .ok (.iload_n 1, 1) := by decide +kernel
theorem dL_does_93 : decode cL_does 93 = .ok (.bipush 11, 2) := by decide +kernel
theorem dL_does_95 : decode cL_does 95 = .ok (.ishr, 1) := by decide +kernel
theorem dL_does_96 : decode cL_does 96 = .ok (.iconst 1, 1) := by decide +kernel
theorem dL_does_97 : decode cL_does 97 = .ok (.iand, 1) := by decide +kernel
theorem dL_does_98 : decode cL_does 98 = .ok (.ifCond .ne 8, 3) := by decide +kernel
theorem dL_does_101 : decode cL_does 101 = .ok (.bipush 10, 2) := by decide +kernel
theorem dL_does_103 : decode cL_does 103 = .ok (.goto 5, 3) := by decide +kernel
theorem dL_does_106 : decode cL_does 106 = .ok (.bipush 100, 2) := by decide +kernel
theorem dL_does_108 : decode cL_does 108 = .ok (.invokestatic 8, 3) := by decide +kernel
theorem dL_does_111 : decode cL_does 111 = .ok (.iconst 1, 1) := by decide +kernel
theorem dL_does_112 : decode cL_does 112 = .ok (.iload_n 1, 1) := by decide +kernel
theorem dL_does_113 : decode cL_does 113 = .ok (.bipush 8, 2) := by decide +kernel
theorem dL_does_115 : decode cL_does 115 = .ok (.ishr, 1) := by decide +kernel
theorem dL_does_116 : decode cL_does 116 = .ok (.bipush 6, 2) := by decide +kernel
theorem dL_does_118 : decode cL_does 118 = .ok (.invokestatic 8, 3) := by decide +kernel
theorem dL_does_121 : decode cL_does 121 = .ok (.iadd, 1) := by decide +kernel
theorem dL_does_122 : decode cL_does 122 = .ok (.invokevirtual 14, 3) := by decide +kernel
theorem dL_does_125 : decode cL_does 125 = .ok (.ireturn, 1) := by decide +kernel
theorem dL_does_126 : decode cL_does 126 = .ok (.aload_n 0, 1) := by decide +kernel
theorem dL_does_127 : decode cL_does 127 = .ok (.iconst 3, 1) := by decide +kernel
theorem dL_does_128 : decode cL_does 128 = .ok (.invokevirtual 19, 3) := by decide +kernel
theorem dL_does_131 : decode cL_does 131 = .ok (.bipush 20, 2) := by decide +kernel
theorem dL_does_133 : decode cL_does 133 = .ok (.if_icmp .ne 7, 3) := by decide +kernel
theorem dL_does_136 : decode cL_does 136 = .ok (.iconst 0, 1) := by decide +kernel
theorem dL_does_137 : decode cL_does 137 = .ok (.goto 8, 3) := by decide +kernel
theorem dL_does_140 : decode cL_does 140 = .ok (.aload_n 0, 1) := by decide +kernel
theorem dL_does_141 : decode cL_does 141 = .ok (.iload_n 2, 1) := by decide +kernel
theorem dL_does_142 : decode cL_does 142 = .ok (.invokevirtual 23, 3) := by decide +kernel
theorem dL_does_145 : decode cL_does 145 = .ok (.ireturn, 1) := by decide +kernel
theorem dL_does_146 : decode cL_does 146 = .ok (.aload_n 0, 1) := by decide +kernel
theorem dL_does_147 : decode cL_does 147 = .ok (.iconst 3, 1) := by decide +kernel
theorem dL_does_148 : decode cL_does 148 = .ok (.invokevirtual 19, 3) := by decide +kernel
theorem dL_does_151 : decode cL_does 151 = .ok (.ifCond .ne 7, 3) := by decide +kernel
theorem dL_does_154 : decode cL_does 154 = .ok (.iconst 0, 1) := by decide +kernel
theorem dL_does_155 : decode cL_does 155 = .ok (.goto 18, 3) := by decide +kernel
theorem dL_does_158 : decode cL_does 158 = .ok (.aload_n 0, 1) := by decide +kernel
theorem dL_does_159 : decode cL_does 159 = .ok (.iload_n 1, 1) := by decide +kernel
theorem dL_does_160 : decode cL_does 160 = .ok (.iconst 4, 1) := by decide +kernel
theorem dL_does_161 : decode cL_does 161 = .ok (.ishr, 1) := by decide +kernel
theorem dL_does_162 : decode cL_does 162 = .ok (.aload_n 0, 1) := by decide +kernel
theorem dL_does_163 : decode cL_does 163 = .ok (.iconst 3, 1) := by decide +kernel
theorem dL_does_164 : decode cL_does 164 = .ok (.invokevirtual 19, 3) := by decide +kernel
theorem dL_does_167 : decode cL_does 167 = .ok (.invokestatic 8, 3) := by decide +kernel
theorem dL_does_170 : decode cL_does 170 = .ok (.invokevirtual 26, 3) := by decide +kernel
theorem dL_does_173 : decode cL_does 173 = .ok (.ireturn, 1) := by decide +kernel
theorem dL_does_174 : decode cL_does 174 = .ok (.aload_n 0, 1) := by decide +kernel
theorem dL_does_175 : decode cL_does 175 = .ok (.iconst 3, 1) := by decide +kernel
theorem dL_does_176 : decode cL_does 176 = .ok (.invokevirtual 19, 3) := by decide +kernel
theorem dL_does_179 : decode cL_does 179 = .ok (.ifCond .eq 13, 3) := by decide +kernel
theorem dL_does_182 : decode cL_does 182 = .ok (.aload_n 0, 1) := by decide +kernel
theorem dL_does_183 : decode cL_does 183 = .ok (.iconst 3, 1) := by decide +kernel
theorem dL_does_184 : decode cL_does 184 = .ok (.invokevirtual 19, 3) := by decide +kernel
theorem dL_does_187 : decode cL_does 187 = .ok (.bipush 20, 2) := by decide +kernel
theorem dL_does_189 : decode cL_does 189 = .ok (.if_icmp .ne 7, 3) := by decide +kernel
theorem dL_does_192 : decode cL_does 192 = .ok (.iconst 0, 1) := by decide +kernel
theorem dL_does_193 : decode cL_does 193 = .ok (.goto 18, 3) := by decide +kernel
theorem dL_does_196 : decode cL_does 196 = .ok (.aload_n 0, 1) := by decide +kernel
theorem dL_does_197 : decode cL_does 197 = .ok (.iload_n 1, 1) := by decide +kernel
theorem dL_does_198 : decode cL_does 198 = .ok (.iconst 4, 1) := by decide +kernel
theorem dL_does_199 : decode cL_does 199 = .ok (.ishr, 1) := by decide +kernel
theorem dL_does_200 : decode cL_does 200 = .ok (.aload_n 0, 1) := by decide +kernel
theorem dL_does_201 : decode cL_does 201 = .ok (.iconst 3, 1) := by decide +kernel
theorem dL_does_202 : decode cL_does 202 = .ok (.invokevirtual 19, 3) := by decide +kernel
theorem dL_does_205 : decode cL_does 205 = .ok (.invokestatic 8, 3) := by decide +kernel
theorem dL_does_208 : decode cL_does 208 = .ok (.invokevirtual 29, 3) := by decide +kernel
theorem dL_does_211 : decode cL_does 211 = .ok (.ireturn, 1) := by decide +kernel
theorem dL_does_212 : decode cL_does 212 = .ok (.aload_n 0, 1) := by decide +kernel
theorem dL_does_213 : decode cL_does 213 = .ok (.iload_n 2, 1) := by decide +kernel
theorem dL_does_214 : decode cL_does 214 = .ok (.iconst 1, 1) := by decide +kernel
theorem dL_does_215 : decode cL_does 215 = .ok (.iload_n 1, 1) := by decide +kernel
theorem dL_does_216 : decode cL_does 216 = .ok (.bipush 6, 2) := by decide +kernel
theorem dL_does_218 : decode cL_does 218 = .ok (.ishr, 1) := by decide +kernel
theorem dL_does_219 : decode cL_does 219 = .ok (.bipush 9, 2) := by decide +kernel
theorem dL_does_221 : decode cL_does 221 = .ok (.invokestatic 8, 3) := by decide +kernel
theorem dL_does_224 : decode cL_does 224 = .ok (.iadd, 1) := by decide +kernel
theorem dL_does_225 : decode cL_does 225 = .ok (.iconst 1, 1) := by decide +kernel
theorem dL_does_226 : decode cL_does 226 = .ok (.iload_n 1, 1) := by decide +kernel
theorem dL_does_227 : decode cL_does 227 = .ok (.bipush 7, 2) := by decide +kernel
theorem dL_does_229 : decode cL_does 229 = .ok (.ishr, 1) := by decide +kernel
theorem dL_does_230 : decode cL_does 230 = .ok (.bipush 50, 2) := by decide +kernel
theorem dL_does_232 : decode cL_does 232 = .ok (.invokestatic 8, 3) := by decide +kernel
theorem dL_does_235 : decode cL_does 235 = .ok (.iadd, 1) := by decide +kernel
theorem dL_does_236 : decode cL_does 236 = .ok (.iload_n 1, 1) := by decide +kernel
theorem dL_does_237 : decode cL_does 237 = .ok (.iconst 5, 1) := by decide +kernel
theorem dL_does_238 : decode cL_does 238 = .ok (.ishr, 1) := by decide +kernel
theorem dL_does_239 : decode cL_does 239 = .ok (.sipush 201, 3) := by decide +kernel
theorem dL_does_242 : decode cL_does 242 = .ok (.invokestatic 8, 3) := by decide +kernel
theorem dL_does_245 : decode cL_does 245 = .ok (.iload_n 1, 1) := by decide +kernel
theorem dL_does_246 : decode cL_does 246 = .ok (.bipush 8, 2) := by decide +kernel
theorem dL_does_248 : decode cL_does 248 = .ok (.ishr, 1) := by decide +kernel
theorem dL_does_249 : decode cL_does 249 = .ok (.bipush 10, 2) := by decide +kernel
theorem dL_does_251 : decode cL_does 251 = .ok (.invokestatic 8, 3) := by decide +kernel
theorem dL_does_254 : decode cL_does 254 = .ok (.invokevirtual 32, 3) := by decide +kernel
theorem dL_does_257 : decode cL_does 257 = .ok (.ireturn, 1) := by decide +kernel
theorem dL_does_258 : decode cL_does 258 = .ok (.aload_n 0, 1) := by decide +kernel
theorem dL_does_259 : decode cL_does 259 = .ok (.iconst 0, 1) := by decide +kernel
theorem dL_does_260 : decode cL_does 260 = .ok (.iconst 4, 1) := by decide +kernel
theorem dL_does_261 : decode cL_does 261 = .ok (.iload_n 1, 1) := by decide +kernel
theorem dL_does_262 : decode cL_does 262 = .ok (.iconst 4, 1) := by decide +kernel
theorem dL_does_263 : decode cL_does 263 = .ok (.ishr, 1) := by decide +kernel
theorem dL_does_264 : decode cL_does 264 = .ok (.bipush 20, 2) := by decide +kernel
theorem dL_does_266 : decode cL_does 266 = .ok (.invokestatic 8, 3) := by decide +kernel
theorem dL_does_269 : decode cL_does 269 = .ok (.iadd, 1) := by decide +kernel
theorem dL_does_270 : decode cL_does 270 = .ok (.invokevirtual 36, 3) := by decide +kernel
theorem dL_does_273 : decode cL_does 273 = .ok (.ireturn, 1) := by decide +kernel
theorem dL_does_274 : decode cL_does 274 = .ok (.aload_n 0, 1) := by decide +kernel
theorem dL_does_275 : decode cL_does 275 = .ok (.iconst 1, 1) := by decide +kernel
theorem dL_does_276 : decode cL_does 276 = .ok (.iload_n 1, 1) := by decide +kernel
theorem dL_does_277 : decode cL_does 277 = .ok (.iconst 4, 1) := by decide +kernel
theorem dL_does_278 : decode cL_does 278 = .ok (.ishr, 1) := by decide +kernel
theorem dL_does_279 : decode cL_does 279 = .ok (.iconst 1, 1) := by decide +kernel
theorem dL_does_280 : decode cL_does 280 = .ok (.iand, 1) := by decide +kernel
theorem dL_does_281 : decode cL_does 281 = .ok (.invokevirtual 36, 3) := by decide +kernel
theorem dL_does_284 : decode cL_does 284 = .ok (.ireturn, 1) := by decide +kernel
theorem dL_does_285 : decode cL_does 285 = .ok (.aload_n 0, 1) := by decide +kernel
theorem dL_does_286 : decode cL_does 286 = .ok (.invokevirtual 39, 3) := by decide +kernel
theorem dL_does_289 : decode cL_does 289 = .ok (.ifCond .lt 7, 3) := by decide +kernel
theorem dL_does_292 : decode cL_does 292 = .ok (.iconst 0, 1) := by decide +kernel
theorem dL_does_293 : decode cL_does 293 = .ok (.goto 4, 3) := by decide +kernel
theorem dL_does_296 : decode cL_does 296 = .ok (.iconst 0, 1) := by decide +kernel
theorem dL_does_297 : decode cL_does 297 = .ok (.ireturn, 1) := by decide +kernel
theorem q_low (l : Launch) (g : GG) (A : Nat → Prop) (M : MM) {x y z : Int32} (hy : ¬ y = 0) (e : loC x y = z) : Met l yL_low (Uw yL_low cL_low 2 (Option.some ClassFile.FieldType.int)) (rmD 0) (PreM [.int x, .int y] g A M) (PosI (fun r M1 => r = z ∧ M1 = M) g A) 0 0 A := by
  subst e
  exact k_L_low l g A M x y hy
theorem nI_bd {k a b : Nat} (h1 : a ≤ k) (h2 : k ≤ b) (hb : b < 2 ^ 31) : (a : Int) ≤ (nI k).toInt ∧ (nI k).toInt ≤ (b : Int) := by
  rw [nI_ti (by omega)]
  omega
theorem and1 (x : Int32) : x &&& nI 1 = 0 ∨ x &&& nI 1 = 1 := by
  have h2 : (x &&& nI 1).toBitVec.toNat = x.toBitVec.toNat % 2 := by
    show (x.toBitVec &&& 1#32).toNat = _
    rw [BitVec.toNat_and]
    exact Nat.and_one_is_mod _
  rcases Nat.mod_two_eq_zero_or_one x.toBitVec.toNat with z | z
  · exact Or.inl (Int32.toBitVec_inj.mp (BitVec.eq_of_toNat_eq (by rw [h2, z]; rfl)))
  · exact Or.inr (Int32.toBitVec_inj.mp (BitVec.eq_of_toNat_eq (by rw [h2, z]; rfl)))
set_option maxHeartbeats 4000000 in
set_option maxRecDepth 100000 in
/-- a change that the script asks for -/
theorem k_L_does (l : Launch) (g : GG) (A : Nat → Prop) (M0 : MM) (X : Nat) (c : CS) (B H T : Nat) (hXS : RXS g A M0 M0 X c) (S : zSI B H T c) (hB9 : 9 ≤ B) (hB : B ≤ 1000) (hH : H ≤ 3900) (hT : T ≤ 900000) (v : Int32) : Met l yL_does (Uw yL_does cL_does 3 (Option.some ClassFile.FieldType.int)) (rmD 7) (PreM [.ref (X), .int (v)] g A M0) (PosI (fun r M1 => ¬ r < 0 ∧ ∃ c1, RXS g A M1 M1 X c1 ∧ zSI (B + 1) (H + 6) (T + 200) c1) g A) 0 0 A := by
  refine mk_Met (own := RL) rfl rfl (by decide) (Nat.le_of_ble_eq_true rfl) ?_
  intro p e s m below meth c ls aa Q haa hQ hx hb hr hlk hml hown hts hK hM hS hl hnm
  obtain ⟨M, hMM⟩ : ∃ M, M = M0 := ⟨_, rfl⟩
  rw [← hMM] at hM hXS
  have ht : ∀ w ∈ lw_good, w.before _ s = true := fun w h => hts w (List.mem_cons_of_mem _ h)
  have hl : lv_has ls 3 [(0, .ref (X)), (1, .int (v))] := hl
  obtain ⟨hCI, ⟨n, h, hhH, hg, P⟩, hHis⟩ := id S
  have hn := P.2.1
  have hh2 := P.2.2.2.1
  refine lv_iload_n hx hb dL_does_0 rfl (lv_at hl 1 rfl) ?_
  refine lv_iconst (v := nI 4) hx hb dL_does_1 (by first | rfl | decide) ?_
  refine lv_ishr hx hb dL_does_2 ?_
  refine lv_bipush (v := nI 6) hx hb dL_does_3 (by first | rfl | decide) ?_
  obtain ⟨q_5, hq_5, e_5⟩ := lo_in ((v) >>> (nI 4)) (m := 6) (by decide) (by decide)
  refine m_callRSI (val := nI q_5) (As := [.int ((v) >>> (nI 4)), .int (nI 6)]) (rest := []) ⟨hx, hb, hml, hown, ht⟩ (q_low l g A M (by decide) e_5) (cwS 2 ht (gUS uw_2004 uw_2005 uw_33 uw_2006) rfl rfl rfl (by decide +kernel) ⟨Nat.le_of_ble_eq_true rfl, Nat.le_of_ble_eq_true rfl⟩) hK hM hS rfl hl.1 rfl (Nat.le_of_ble_eq_true rfl) dL_does_5 ⟨Nat.le_of_ble_eq_true rfl, Nat.le_of_ble_eq_true rfl⟩ (fun H locs hM hS => ?_)
  refine lv_istore_n (lv' := [(2, .int (nI q_5)), (0, .ref (X)), (1, .int (v))]) hx hb dL_does_8 rfl hl (by decide) rfl (fun ls hl => ?_)
  refine lv_iload_n hx hb dL_does_9 rfl (lv_at hl 2 rfl) ?_
  refine lv_bipush (v := nI 15) hx hb dL_does_10 (by first | rfl | decide) ?_
  refine lv_iand hx hb dL_does_12 ?_
  refine lv_topi (fun sv9 e_sv9 => ?_)
  by_cases s_13 : (sv9).toInt < 0 ∨ 14 < (sv9).toInt
  · refine lv_tableOut (tgt := 285) hx hb dL_does_13 s_13 (by decide) ?_
    refine lv_aload_n hx hb dL_does_285 rfl (lv_at hl 1 rfl) ?_
    refine m_callI (As := []) (rest := []) ⟨hx, hb, hml, hown, ht⟩ (q_undo l g A M X hXS hCI ) (cwV 0 ht (gU uw_706 uw_572 uw_573 uw_34 uw_574) rfl rfl rfl (by decide +kernel) ⟨Nat.le_of_ble_eq_true rfl, Nat.le_of_ble_eq_true rfl⟩) hK hM hS (m_recv hK hM hXS.ob.1 hXS.ob.2 rfl) rfl hl.1 rfl (Nat.le_of_ble_eq_true rfl) dL_does_286 ⟨Nat.le_of_ble_eq_true rfl, Nat.le_of_ble_eq_true rfl⟩ (fun r9 M H locs hp hM hS => ?_)
    obtain ⟨e9, hX9⟩ := hp
    have hXS := hX9.at
    have Z := S.undo
    refine lv_if_lt (tgt := 296) hx hb dL_does_289 (by decide) (fun c_289 => ?_) (fun c_289 => ?_)
    · refine lv_iconst (v := nI 0) hx hb dL_does_296 (by first | rfl | decide) ?_
      subst hQ
      exact m_zret hx hb hr (rfl) hlk hK hM hS dL_does_297 (⟨by decide, _, hXS, Z.mono (by omega) (by omega) (by omega)⟩)
    · refine lv_iconst (v := nI 0) hx hb dL_does_292 (by first | rfl | decide) ?_
      refine lv_goto (tgt := 297) hx hb dL_does_293 (by decide) ?_
      subst hQ
      exact m_zret hx hb hr (rfl) hlk hK hM hS dL_does_297 (⟨by decide, _, hXS, Z.mono (by omega) (by omega) (by omega)⟩)
  by_cases s_13_0 : (sv9) = 0
  · refine lv_tableIn (tgt := 88) (off := 75) hx hb dL_does_13 (by rw [s_13_0]; decide) (by rw [s_13_0]; decide) (by rw [s_13_0]; rfl) (by decide) ?_
    refine lv_aload_n hx hb dL_does_88 rfl (lv_at hl 1 rfl) ?_
    refine lv_iload_n hx hb dL_does_89 rfl (lv_at hl 2 rfl) ?_
    refine lv_iconst (v := nI 4) hx hb dL_does_90 (by first | rfl | decide) ?_
    refine lv_ishr hx hb dL_does_91 ?_
    refine lv_iload_n hx hb dL_does_92 rfl (lv_at hl 2 rfl) ?_
    refine lv_bipush (v := nI 11) hx hb dL_does_93 (by first | rfl | decide) ?_
    refine lv_ishr hx hb dL_does_95 ?_
    refine lv_iconst (v := nI 1) hx hb dL_does_96 (by first | rfl | decide) ?_
    refine lv_iand hx hb dL_does_97 ?_
    refine lv_if_ne (tgt := 106) hx hb dL_does_98 (by decide) (fun c_98 => ?_) (fun c_98 => ?_)
    · refine lv_bipush (v := nI 100) hx hb dL_does_106 (by first | rfl | decide) ?_
      obtain ⟨q_108, hq_108, e_108⟩ := lo_in ((v) >>> (nI 4)) (m := 100) (by decide) (by decide)
      refine m_callRSI (val := nI q_108) (As := [.int ((v) >>> (nI 4)), .int (nI 100)]) (rest := [.ref (X)]) ⟨hx, hb, hml, hown, ht⟩ (q_low l g A M (by decide) e_108) (cwS 2 ht (gUS uw_2004 uw_2005 uw_33 uw_2006) rfl rfl rfl (by decide +kernel) ⟨Nat.le_of_ble_eq_true rfl, Nat.le_of_ble_eq_true rfl⟩) hK hM hS rfl hl.1 rfl (Nat.le_of_ble_eq_true rfl) dL_does_108 ⟨Nat.le_of_ble_eq_true rfl, Nat.le_of_ble_eq_true rfl⟩ (fun H locs hM hS => ?_)
      refine lv_iconst (v := nI 1) hx hb dL_does_111 (by first | rfl | decide) ?_
      refine lv_iload_n hx hb dL_does_112 rfl (lv_at hl 2 rfl) ?_
      refine lv_bipush (v := nI 8) hx hb dL_does_113 (by first | rfl | decide) ?_
      refine lv_ishr hx hb dL_does_115 ?_
      refine lv_bipush (v := nI 6) hx hb dL_does_116 (by first | rfl | decide) ?_
      obtain ⟨q_118, hq_118, e_118⟩ := lo_in ((v) >>> (nI 8)) (m := 6) (by decide) (by decide)
      refine m_callRSI (val := nI q_118) (As := [.int ((v) >>> (nI 8)), .int (nI 6)]) (rest := [.int (nI 1), .int (nI q_108), .ref (X)]) ⟨hx, hb, hml, hown, ht⟩ (q_low l g A M (by decide) e_118) (cwS 2 ht (gUS uw_2004 uw_2005 uw_33 uw_2006) rfl rfl rfl (by decide +kernel) ⟨Nat.le_of_ble_eq_true rfl, Nat.le_of_ble_eq_true rfl⟩) hK hM hS rfl hl.1 rfl (Nat.le_of_ble_eq_true rfl) dL_does_118 ⟨Nat.le_of_ble_eq_true rfl, Nat.le_of_ble_eq_true rfl⟩ (fun H locs hM hS => ?_)
      refine lv_iadd hx hb dL_does_121 ?_
      rw [nI_add (1) (q_118)]
      refine m_callI (As := [.int (nI q_108), .int (nI (1 + q_118))]) (rest := []) ⟨hx, hb, hml, hown, ht⟩ (q_rain l g A M X hXS hCI (y := q_108) (q := 1 + q_118) (by omega) (by omega) (by omega) hh2 (by omega)) (cwV 2 ht (gU uw_2011 uw_348 uw_349 uw_34 uw_350) rfl rfl rfl (by decide +kernel) ⟨Nat.le_of_ble_eq_true rfl, Nat.le_of_ble_eq_true rfl⟩) hK hM hS (m_recv hK hM hXS.ob.1 hXS.ob.2 rfl) rfl hl.1 rfl (Nat.le_of_ble_eq_true rfl) dL_does_122 ⟨Nat.le_of_ble_eq_true rfl, Nat.le_of_ble_eq_true rfl⟩ (fun r9 M H locs hp hM hS => ?_)
      obtain ⟨e9, hX9⟩ := hp
      have hXS := hX9.at
      have Z := S.rain P hhH hg (y := q_108) (q := 1 + q_118) (by omega) (by omega) (by omega) (by omega) (by omega)
      subst hQ
      exact m_zret hx hb hr (rfl) hlk hK hM hS dL_does_125 (⟨by rw [e9]; exact Z.2.2, _, hXS, Z.1.mono (by omega) (by omega) (by omega)⟩)
    · refine lv_bipush (v := nI 10) hx hb dL_does_101 (by first | rfl | decide) ?_
      refine lv_goto (tgt := 108) hx hb dL_does_103 (by decide) ?_
      obtain ⟨q_108, hq_108, e_108⟩ := lo_in ((v) >>> (nI 4)) (m := 10) (by decide) (by decide)
      refine m_callRSI (val := nI q_108) (As := [.int ((v) >>> (nI 4)), .int (nI 10)]) (rest := [.ref (X)]) ⟨hx, hb, hml, hown, ht⟩ (q_low l g A M (by decide) e_108) (cwS 2 ht (gUS uw_2004 uw_2005 uw_33 uw_2006) rfl rfl rfl (by decide +kernel) ⟨Nat.le_of_ble_eq_true rfl, Nat.le_of_ble_eq_true rfl⟩) hK hM hS rfl hl.1 rfl (Nat.le_of_ble_eq_true rfl) dL_does_108 ⟨Nat.le_of_ble_eq_true rfl, Nat.le_of_ble_eq_true rfl⟩ (fun H locs hM hS => ?_)
      refine lv_iconst (v := nI 1) hx hb dL_does_111 (by first | rfl | decide) ?_
      refine lv_iload_n hx hb dL_does_112 rfl (lv_at hl 2 rfl) ?_
      refine lv_bipush (v := nI 8) hx hb dL_does_113 (by first | rfl | decide) ?_
      refine lv_ishr hx hb dL_does_115 ?_
      refine lv_bipush (v := nI 6) hx hb dL_does_116 (by first | rfl | decide) ?_
      obtain ⟨q_118, hq_118, e_118⟩ := lo_in ((v) >>> (nI 8)) (m := 6) (by decide) (by decide)
      refine m_callRSI (val := nI q_118) (As := [.int ((v) >>> (nI 8)), .int (nI 6)]) (rest := [.int (nI 1), .int (nI q_108), .ref (X)]) ⟨hx, hb, hml, hown, ht⟩ (q_low l g A M (by decide) e_118) (cwS 2 ht (gUS uw_2004 uw_2005 uw_33 uw_2006) rfl rfl rfl (by decide +kernel) ⟨Nat.le_of_ble_eq_true rfl, Nat.le_of_ble_eq_true rfl⟩) hK hM hS rfl hl.1 rfl (Nat.le_of_ble_eq_true rfl) dL_does_118 ⟨Nat.le_of_ble_eq_true rfl, Nat.le_of_ble_eq_true rfl⟩ (fun H locs hM hS => ?_)
      refine lv_iadd hx hb dL_does_121 ?_
      rw [nI_add (1) (q_118)]
      refine m_callI (As := [.int (nI q_108), .int (nI (1 + q_118))]) (rest := []) ⟨hx, hb, hml, hown, ht⟩ (q_rain l g A M X hXS hCI (y := q_108) (q := 1 + q_118) (by omega) (by omega) (by omega) hh2 (by omega)) (cwV 2 ht (gU uw_2011 uw_348 uw_349 uw_34 uw_350) rfl rfl rfl (by decide +kernel) ⟨Nat.le_of_ble_eq_true rfl, Nat.le_of_ble_eq_true rfl⟩) hK hM hS (m_recv hK hM hXS.ob.1 hXS.ob.2 rfl) rfl hl.1 rfl (Nat.le_of_ble_eq_true rfl) dL_does_122 ⟨Nat.le_of_ble_eq_true rfl, Nat.le_of_ble_eq_true rfl⟩ (fun r9 M H locs hp hM hS => ?_)
      obtain ⟨e9, hX9⟩ := hp
      have hXS := hX9.at
      have Z := S.rain P hhH hg (y := q_108) (q := 1 + q_118) (by omega) (by omega) (by omega) (by omega) (by omega)
      subst hQ
      exact m_zret hx hb hr (rfl) hlk hK hM hS dL_does_125 (⟨by rw [e9]; exact Z.2.2, _, hXS, Z.1.mono (by omega) (by omega) (by omega)⟩)
  by_cases s_13_1 : (sv9) = 1
  · refine lv_tableIn (tgt := 88) (off := 75) hx hb dL_does_13 (by rw [s_13_1]; decide) (by rw [s_13_1]; decide) (by rw [s_13_1]; rfl) (by decide) ?_
    refine lv_aload_n hx hb dL_does_88 rfl (lv_at hl 1 rfl) ?_
    refine lv_iload_n hx hb dL_does_89 rfl (lv_at hl 2 rfl) ?_
    refine lv_iconst (v := nI 4) hx hb dL_does_90 (by first | rfl | decide) ?_
    refine lv_ishr hx hb dL_does_91 ?_
    refine lv_iload_n hx hb dL_does_92 rfl (lv_at hl 2 rfl) ?_
    refine lv_bipush (v := nI 11) hx hb dL_does_93 (by first | rfl | decide) ?_
    refine lv_ishr hx hb dL_does_95 ?_
    refine lv_iconst (v := nI 1) hx hb dL_does_96 (by first | rfl | decide) ?_
    refine lv_iand hx hb dL_does_97 ?_
    refine lv_if_ne (tgt := 106) hx hb dL_does_98 (by decide) (fun c_98 => ?_) (fun c_98 => ?_)
    · refine lv_bipush (v := nI 100) hx hb dL_does_106 (by first | rfl | decide) ?_
      obtain ⟨q_108, hq_108, e_108⟩ := lo_in ((v) >>> (nI 4)) (m := 100) (by decide) (by decide)
      refine m_callRSI (val := nI q_108) (As := [.int ((v) >>> (nI 4)), .int (nI 100)]) (rest := [.ref (X)]) ⟨hx, hb, hml, hown, ht⟩ (q_low l g A M (by decide) e_108) (cwS 2 ht (gUS uw_2004 uw_2005 uw_33 uw_2006) rfl rfl rfl (by decide +kernel) ⟨Nat.le_of_ble_eq_true rfl, Nat.le_of_ble_eq_true rfl⟩) hK hM hS rfl hl.1 rfl (Nat.le_of_ble_eq_true rfl) dL_does_108 ⟨Nat.le_of_ble_eq_true rfl, Nat.le_of_ble_eq_true rfl⟩ (fun H locs hM hS => ?_)
      refine lv_iconst (v := nI 1) hx hb dL_does_111 (by first | rfl | decide) ?_
      refine lv_iload_n hx hb dL_does_112 rfl (lv_at hl 2 rfl) ?_
      refine lv_bipush (v := nI 8) hx hb dL_does_113 (by first | rfl | decide) ?_
      refine lv_ishr hx hb dL_does_115 ?_
      refine lv_bipush (v := nI 6) hx hb dL_does_116 (by first | rfl | decide) ?_
      obtain ⟨q_118, hq_118, e_118⟩ := lo_in ((v) >>> (nI 8)) (m := 6) (by decide) (by decide)
      refine m_callRSI (val := nI q_118) (As := [.int ((v) >>> (nI 8)), .int (nI 6)]) (rest := [.int (nI 1), .int (nI q_108), .ref (X)]) ⟨hx, hb, hml, hown, ht⟩ (q_low l g A M (by decide) e_118) (cwS 2 ht (gUS uw_2004 uw_2005 uw_33 uw_2006) rfl rfl rfl (by decide +kernel) ⟨Nat.le_of_ble_eq_true rfl, Nat.le_of_ble_eq_true rfl⟩) hK hM hS rfl hl.1 rfl (Nat.le_of_ble_eq_true rfl) dL_does_118 ⟨Nat.le_of_ble_eq_true rfl, Nat.le_of_ble_eq_true rfl⟩ (fun H locs hM hS => ?_)
      refine lv_iadd hx hb dL_does_121 ?_
      rw [nI_add (1) (q_118)]
      refine m_callI (As := [.int (nI q_108), .int (nI (1 + q_118))]) (rest := []) ⟨hx, hb, hml, hown, ht⟩ (q_rain l g A M X hXS hCI (y := q_108) (q := 1 + q_118) (by omega) (by omega) (by omega) hh2 (by omega)) (cwV 2 ht (gU uw_2011 uw_348 uw_349 uw_34 uw_350) rfl rfl rfl (by decide +kernel) ⟨Nat.le_of_ble_eq_true rfl, Nat.le_of_ble_eq_true rfl⟩) hK hM hS (m_recv hK hM hXS.ob.1 hXS.ob.2 rfl) rfl hl.1 rfl (Nat.le_of_ble_eq_true rfl) dL_does_122 ⟨Nat.le_of_ble_eq_true rfl, Nat.le_of_ble_eq_true rfl⟩ (fun r9 M H locs hp hM hS => ?_)
      obtain ⟨e9, hX9⟩ := hp
      have hXS := hX9.at
      have Z := S.rain P hhH hg (y := q_108) (q := 1 + q_118) (by omega) (by omega) (by omega) (by omega) (by omega)
      subst hQ
      exact m_zret hx hb hr (rfl) hlk hK hM hS dL_does_125 (⟨by rw [e9]; exact Z.2.2, _, hXS, Z.1.mono (by omega) (by omega) (by omega)⟩)
    · refine lv_bipush (v := nI 10) hx hb dL_does_101 (by first | rfl | decide) ?_
      refine lv_goto (tgt := 108) hx hb dL_does_103 (by decide) ?_
      obtain ⟨q_108, hq_108, e_108⟩ := lo_in ((v) >>> (nI 4)) (m := 10) (by decide) (by decide)
      refine m_callRSI (val := nI q_108) (As := [.int ((v) >>> (nI 4)), .int (nI 10)]) (rest := [.ref (X)]) ⟨hx, hb, hml, hown, ht⟩ (q_low l g A M (by decide) e_108) (cwS 2 ht (gUS uw_2004 uw_2005 uw_33 uw_2006) rfl rfl rfl (by decide +kernel) ⟨Nat.le_of_ble_eq_true rfl, Nat.le_of_ble_eq_true rfl⟩) hK hM hS rfl hl.1 rfl (Nat.le_of_ble_eq_true rfl) dL_does_108 ⟨Nat.le_of_ble_eq_true rfl, Nat.le_of_ble_eq_true rfl⟩ (fun H locs hM hS => ?_)
      refine lv_iconst (v := nI 1) hx hb dL_does_111 (by first | rfl | decide) ?_
      refine lv_iload_n hx hb dL_does_112 rfl (lv_at hl 2 rfl) ?_
      refine lv_bipush (v := nI 8) hx hb dL_does_113 (by first | rfl | decide) ?_
      refine lv_ishr hx hb dL_does_115 ?_
      refine lv_bipush (v := nI 6) hx hb dL_does_116 (by first | rfl | decide) ?_
      obtain ⟨q_118, hq_118, e_118⟩ := lo_in ((v) >>> (nI 8)) (m := 6) (by decide) (by decide)
      refine m_callRSI (val := nI q_118) (As := [.int ((v) >>> (nI 8)), .int (nI 6)]) (rest := [.int (nI 1), .int (nI q_108), .ref (X)]) ⟨hx, hb, hml, hown, ht⟩ (q_low l g A M (by decide) e_118) (cwS 2 ht (gUS uw_2004 uw_2005 uw_33 uw_2006) rfl rfl rfl (by decide +kernel) ⟨Nat.le_of_ble_eq_true rfl, Nat.le_of_ble_eq_true rfl⟩) hK hM hS rfl hl.1 rfl (Nat.le_of_ble_eq_true rfl) dL_does_118 ⟨Nat.le_of_ble_eq_true rfl, Nat.le_of_ble_eq_true rfl⟩ (fun H locs hM hS => ?_)
      refine lv_iadd hx hb dL_does_121 ?_
      rw [nI_add (1) (q_118)]
      refine m_callI (As := [.int (nI q_108), .int (nI (1 + q_118))]) (rest := []) ⟨hx, hb, hml, hown, ht⟩ (q_rain l g A M X hXS hCI (y := q_108) (q := 1 + q_118) (by omega) (by omega) (by omega) hh2 (by omega)) (cwV 2 ht (gU uw_2011 uw_348 uw_349 uw_34 uw_350) rfl rfl rfl (by decide +kernel) ⟨Nat.le_of_ble_eq_true rfl, Nat.le_of_ble_eq_true rfl⟩) hK hM hS (m_recv hK hM hXS.ob.1 hXS.ob.2 rfl) rfl hl.1 rfl (Nat.le_of_ble_eq_true rfl) dL_does_122 ⟨Nat.le_of_ble_eq_true rfl, Nat.le_of_ble_eq_true rfl⟩ (fun r9 M H locs hp hM hS => ?_)
      obtain ⟨e9, hX9⟩ := hp
      have hXS := hX9.at
      have Z := S.rain P hhH hg (y := q_108) (q := 1 + q_118) (by omega) (by omega) (by omega) (by omega) (by omega)
      subst hQ
      exact m_zret hx hb hr (rfl) hlk hK hM hS dL_does_125 (⟨by rw [e9]; exact Z.2.2, _, hXS, Z.1.mono (by omega) (by omega) (by omega)⟩)
  by_cases s_13_2 : (sv9) = 2
  · refine lv_tableIn (tgt := 88) (off := 75) hx hb dL_does_13 (by rw [s_13_2]; decide) (by rw [s_13_2]; decide) (by rw [s_13_2]; rfl) (by decide) ?_
    refine lv_aload_n hx hb dL_does_88 rfl (lv_at hl 1 rfl) ?_
    refine lv_iload_n hx hb dL_does_89 rfl (lv_at hl 2 rfl) ?_
    refine lv_iconst (v := nI 4) hx hb dL_does_90 (by first | rfl | decide) ?_
    refine lv_ishr hx hb dL_does_91 ?_
    refine lv_iload_n hx hb dL_does_92 rfl (lv_at hl 2 rfl) ?_
    refine lv_bipush (v := nI 11) hx hb dL_does_93 (by first | rfl | decide) ?_
    refine lv_ishr hx hb dL_does_95 ?_
    refine lv_iconst (v := nI 1) hx hb dL_does_96 (by first | rfl | decide) ?_
    refine lv_iand hx hb dL_does_97 ?_
    refine lv_if_ne (tgt := 106) hx hb dL_does_98 (by decide) (fun c_98 => ?_) (fun c_98 => ?_)
    · refine lv_bipush (v := nI 100) hx hb dL_does_106 (by first | rfl | decide) ?_
      obtain ⟨q_108, hq_108, e_108⟩ := lo_in ((v) >>> (nI 4)) (m := 100) (by decide) (by decide)
      refine m_callRSI (val := nI q_108) (As := [.int ((v) >>> (nI 4)), .int (nI 100)]) (rest := [.ref (X)]) ⟨hx, hb, hml, hown, ht⟩ (q_low l g A M (by decide) e_108) (cwS 2 ht (gUS uw_2004 uw_2005 uw_33 uw_2006) rfl rfl rfl (by decide +kernel) ⟨Nat.le_of_ble_eq_true rfl, Nat.le_of_ble_eq_true rfl⟩) hK hM hS rfl hl.1 rfl (Nat.le_of_ble_eq_true rfl) dL_does_108 ⟨Nat.le_of_ble_eq_true rfl, Nat.le_of_ble_eq_true rfl⟩ (fun H locs hM hS => ?_)
      refine lv_iconst (v := nI 1) hx hb dL_does_111 (by first | rfl | decide) ?_
      refine lv_iload_n hx hb dL_does_112 rfl (lv_at hl 2 rfl) ?_
      refine lv_bipush (v := nI 8) hx hb dL_does_113 (by first | rfl | decide) ?_
      refine lv_ishr hx hb dL_does_115 ?_
      refine lv_bipush (v := nI 6) hx hb dL_does_116 (by first | rfl | decide) ?_
      obtain ⟨q_118, hq_118, e_118⟩ := lo_in ((v) >>> (nI 8)) (m := 6) (by decide) (by decide)
      refine m_callRSI (val := nI q_118) (As := [.int ((v) >>> (nI 8)), .int (nI 6)]) (rest := [.int (nI 1), .int (nI q_108), .ref (X)]) ⟨hx, hb, hml, hown, ht⟩ (q_low l g A M (by decide) e_118) (cwS 2 ht (gUS uw_2004 uw_2005 uw_33 uw_2006) rfl rfl rfl (by decide +kernel) ⟨Nat.le_of_ble_eq_true rfl, Nat.le_of_ble_eq_true rfl⟩) hK hM hS rfl hl.1 rfl (Nat.le_of_ble_eq_true rfl) dL_does_118 ⟨Nat.le_of_ble_eq_true rfl, Nat.le_of_ble_eq_true rfl⟩ (fun H locs hM hS => ?_)
      refine lv_iadd hx hb dL_does_121 ?_
      rw [nI_add (1) (q_118)]
      refine m_callI (As := [.int (nI q_108), .int (nI (1 + q_118))]) (rest := []) ⟨hx, hb, hml, hown, ht⟩ (q_rain l g A M X hXS hCI (y := q_108) (q := 1 + q_118) (by omega) (by omega) (by omega) hh2 (by omega)) (cwV 2 ht (gU uw_2011 uw_348 uw_349 uw_34 uw_350) rfl rfl rfl (by decide +kernel) ⟨Nat.le_of_ble_eq_true rfl, Nat.le_of_ble_eq_true rfl⟩) hK hM hS (m_recv hK hM hXS.ob.1 hXS.ob.2 rfl) rfl hl.1 rfl (Nat.le_of_ble_eq_true rfl) dL_does_122 ⟨Nat.le_of_ble_eq_true rfl, Nat.le_of_ble_eq_true rfl⟩ (fun r9 M H locs hp hM hS => ?_)
      obtain ⟨e9, hX9⟩ := hp
      have hXS := hX9.at
      have Z := S.rain P hhH hg (y := q_108) (q := 1 + q_118) (by omega) (by omega) (by omega) (by omega) (by omega)
      subst hQ
      exact m_zret hx hb hr (rfl) hlk hK hM hS dL_does_125 (⟨by rw [e9]; exact Z.2.2, _, hXS, Z.1.mono (by omega) (by omega) (by omega)⟩)
    · refine lv_bipush (v := nI 10) hx hb dL_does_101 (by first | rfl | decide) ?_
      refine lv_goto (tgt := 108) hx hb dL_does_103 (by decide) ?_
      obtain ⟨q_108, hq_108, e_108⟩ := lo_in ((v) >>> (nI 4)) (m := 10) (by decide) (by decide)
      refine m_callRSI (val := nI q_108) (As := [.int ((v) >>> (nI 4)), .int (nI 10)]) (rest := [.ref (X)]) ⟨hx, hb, hml, hown, ht⟩ (q_low l g A M (by decide) e_108) (cwS 2 ht (gUS uw_2004 uw_2005 uw_33 uw_2006) rfl rfl rfl (by decide +kernel) ⟨Nat.le_of_ble_eq_true rfl, Nat.le_of_ble_eq_true rfl⟩) hK hM hS rfl hl.1 rfl (Nat.le_of_ble_eq_true rfl) dL_does_108 ⟨Nat.le_of_ble_eq_true rfl, Nat.le_of_ble_eq_true rfl⟩ (fun H locs hM hS => ?_)
      refine lv_iconst (v := nI 1) hx hb dL_does_111 (by first | rfl | decide) ?_
      refine lv_iload_n hx hb dL_does_112 rfl (lv_at hl 2 rfl) ?_
      refine lv_bipush (v := nI 8) hx hb dL_does_113 (by first | rfl | decide) ?_
      refine lv_ishr hx hb dL_does_115 ?_
      refine lv_bipush (v := nI 6) hx hb dL_does_116 (by first | rfl | decide) ?_
      obtain ⟨q_118, hq_118, e_118⟩ := lo_in ((v) >>> (nI 8)) (m := 6) (by decide) (by decide)
      refine m_callRSI (val := nI q_118) (As := [.int ((v) >>> (nI 8)), .int (nI 6)]) (rest := [.int (nI 1), .int (nI q_108), .ref (X)]) ⟨hx, hb, hml, hown, ht⟩ (q_low l g A M (by decide) e_118) (cwS 2 ht (gUS uw_2004 uw_2005 uw_33 uw_2006) rfl rfl rfl (by decide +kernel) ⟨Nat.le_of_ble_eq_true rfl, Nat.le_of_ble_eq_true rfl⟩) hK hM hS rfl hl.1 rfl (Nat.le_of_ble_eq_true rfl) dL_does_118 ⟨Nat.le_of_ble_eq_true rfl, Nat.le_of_ble_eq_true rfl⟩ (fun H locs hM hS => ?_)
      refine lv_iadd hx hb dL_does_121 ?_
      rw [nI_add (1) (q_118)]
      refine m_callI (As := [.int (nI q_108), .int (nI (1 + q_118))]) (rest := []) ⟨hx, hb, hml, hown, ht⟩ (q_rain l g A M X hXS hCI (y := q_108) (q := 1 + q_118) (by omega) (by omega) (by omega) hh2 (by omega)) (cwV 2 ht (gU uw_2011 uw_348 uw_349 uw_34 uw_350) rfl rfl rfl (by decide +kernel) ⟨Nat.le_of_ble_eq_true rfl, Nat.le_of_ble_eq_true rfl⟩) hK hM hS (m_recv hK hM hXS.ob.1 hXS.ob.2 rfl) rfl hl.1 rfl (Nat.le_of_ble_eq_true rfl) dL_does_122 ⟨Nat.le_of_ble_eq_true rfl, Nat.le_of_ble_eq_true rfl⟩ (fun r9 M H locs hp hM hS => ?_)
      obtain ⟨e9, hX9⟩ := hp
      have hXS := hX9.at
      have Z := S.rain P hhH hg (y := q_108) (q := 1 + q_118) (by omega) (by omega) (by omega) (by omega) (by omega)
      subst hQ
      exact m_zret hx hb hr (rfl) hlk hK hM hS dL_does_125 (⟨by rw [e9]; exact Z.2.2, _, hXS, Z.1.mono (by omega) (by omega) (by omega)⟩)
  by_cases s_13_3 : (sv9) = 3
  · refine lv_tableIn (tgt := 88) (off := 75) hx hb dL_does_13 (by rw [s_13_3]; decide) (by rw [s_13_3]; decide) (by rw [s_13_3]; rfl) (by decide) ?_
    refine lv_aload_n hx hb dL_does_88 rfl (lv_at hl 1 rfl) ?_
    refine lv_iload_n hx hb dL_does_89 rfl (lv_at hl 2 rfl) ?_
    refine lv_iconst (v := nI 4) hx hb dL_does_90 (by first | rfl | decide) ?_
    refine lv_ishr hx hb dL_does_91 ?_
    refine lv_iload_n hx hb dL_does_92 rfl (lv_at hl 2 rfl) ?_
    refine lv_bipush (v := nI 11) hx hb dL_does_93 (by first | rfl | decide) ?_
    refine lv_ishr hx hb dL_does_95 ?_
    refine lv_iconst (v := nI 1) hx hb dL_does_96 (by first | rfl | decide) ?_
    refine lv_iand hx hb dL_does_97 ?_
    refine lv_if_ne (tgt := 106) hx hb dL_does_98 (by decide) (fun c_98 => ?_) (fun c_98 => ?_)
    · refine lv_bipush (v := nI 100) hx hb dL_does_106 (by first | rfl | decide) ?_
      obtain ⟨q_108, hq_108, e_108⟩ := lo_in ((v) >>> (nI 4)) (m := 100) (by decide) (by decide)
      refine m_callRSI (val := nI q_108) (As := [.int ((v) >>> (nI 4)), .int (nI 100)]) (rest := [.ref (X)]) ⟨hx, hb, hml, hown, ht⟩ (q_low l g A M (by decide) e_108) (cwS 2 ht (gUS uw_2004 uw_2005 uw_33 uw_2006) rfl rfl rfl (by decide +kernel) ⟨Nat.le_of_ble_eq_true rfl, Nat.le_of_ble_eq_true rfl⟩) hK hM hS rfl hl.1 rfl (Nat.le_of_ble_eq_true rfl) dL_does_108 ⟨Nat.le_of_ble_eq_true rfl, Nat.le_of_ble_eq_true rfl⟩ (fun H locs hM hS => ?_)
      refine lv_iconst (v := nI 1) hx hb dL_does_111 (by first | rfl | decide) ?_
      refine lv_iload_n hx hb dL_does_112 rfl (lv_at hl 2 rfl) ?_
      refine lv_bipush (v := nI 8) hx hb dL_does_113 (by first | rfl | decide) ?_
      refine lv_ishr hx hb dL_does_115 ?_
      refine lv_bipush (v := nI 6) hx hb dL_does_116 (by first | rfl | decide) ?_
      obtain ⟨q_118, hq_118, e_118⟩ := lo_in ((v) >>> (nI 8)) (m := 6) (by decide) (by decide)
      refine m_callRSI (val := nI q_118) (As := [.int ((v) >>> (nI 8)), .int (nI 6)]) (rest := [.int (nI 1), .int (nI q_108), .ref (X)]) ⟨hx, hb, hml, hown, ht⟩ (q_low l g A M (by decide) e_118) (cwS 2 ht (gUS uw_2004 uw_2005 uw_33 uw_2006) rfl rfl rfl (by decide +kernel) ⟨Nat.le_of_ble_eq_true rfl, Nat.le_of_ble_eq_true rfl⟩) hK hM hS rfl hl.1 rfl (Nat.le_of_ble_eq_true rfl) dL_does_118 ⟨Nat.le_of_ble_eq_true rfl, Nat.le_of_ble_eq_true rfl⟩ (fun H locs hM hS => ?_)
      refine lv_iadd hx hb dL_does_121 ?_
      rw [nI_add (1) (q_118)]
      refine m_callI (As := [.int (nI q_108), .int (nI (1 + q_118))]) (rest := []) ⟨hx, hb, hml, hown, ht⟩ (q_rain l g A M X hXS hCI (y := q_108) (q := 1 + q_118) (by omega) (by omega) (by omega) hh2 (by omega)) (cwV 2 ht (gU uw_2011 uw_348 uw_349 uw_34 uw_350) rfl rfl rfl (by decide +kernel) ⟨Nat.le_of_ble_eq_true rfl, Nat.le_of_ble_eq_true rfl⟩) hK hM hS (m_recv hK hM hXS.ob.1 hXS.ob.2 rfl) rfl hl.1 rfl (Nat.le_of_ble_eq_true rfl) dL_does_122 ⟨Nat.le_of_ble_eq_true rfl, Nat.le_of_ble_eq_true rfl⟩ (fun r9 M H locs hp hM hS => ?_)
      obtain ⟨e9, hX9⟩ := hp
      have hXS := hX9.at
      have Z := S.rain P hhH hg (y := q_108) (q := 1 + q_118) (by omega) (by omega) (by omega) (by omega) (by omega)
      subst hQ
      exact m_zret hx hb hr (rfl) hlk hK hM hS dL_does_125 (⟨by rw [e9]; exact Z.2.2, _, hXS, Z.1.mono (by omega) (by omega) (by omega)⟩)
    · refine lv_bipush (v := nI 10) hx hb dL_does_101 (by first | rfl | decide) ?_
      refine lv_goto (tgt := 108) hx hb dL_does_103 (by decide) ?_
      obtain ⟨q_108, hq_108, e_108⟩ := lo_in ((v) >>> (nI 4)) (m := 10) (by decide) (by decide)
      refine m_callRSI (val := nI q_108) (As := [.int ((v) >>> (nI 4)), .int (nI 10)]) (rest := [.ref (X)]) ⟨hx, hb, hml, hown, ht⟩ (q_low l g A M (by decide) e_108) (cwS 2 ht (gUS uw_2004 uw_2005 uw_33 uw_2006) rfl rfl rfl (by decide +kernel) ⟨Nat.le_of_ble_eq_true rfl, Nat.le_of_ble_eq_true rfl⟩) hK hM hS rfl hl.1 rfl (Nat.le_of_ble_eq_true rfl) dL_does_108 ⟨Nat.le_of_ble_eq_true rfl, Nat.le_of_ble_eq_true rfl⟩ (fun H locs hM hS => ?_)
      refine lv_iconst (v := nI 1) hx hb dL_does_111 (by first | rfl | decide) ?_
      refine lv_iload_n hx hb dL_does_112 rfl (lv_at hl 2 rfl) ?_
      refine lv_bipush (v := nI 8) hx hb dL_does_113 (by first | rfl | decide) ?_
      refine lv_ishr hx hb dL_does_115 ?_
      refine lv_bipush (v := nI 6) hx hb dL_does_116 (by first | rfl | decide) ?_
      obtain ⟨q_118, hq_118, e_118⟩ := lo_in ((v) >>> (nI 8)) (m := 6) (by decide) (by decide)
      refine m_callRSI (val := nI q_118) (As := [.int ((v) >>> (nI 8)), .int (nI 6)]) (rest := [.int (nI 1), .int (nI q_108), .ref (X)]) ⟨hx, hb, hml, hown, ht⟩ (q_low l g A M (by decide) e_118) (cwS 2 ht (gUS uw_2004 uw_2005 uw_33 uw_2006) rfl rfl rfl (by decide +kernel) ⟨Nat.le_of_ble_eq_true rfl, Nat.le_of_ble_eq_true rfl⟩) hK hM hS rfl hl.1 rfl (Nat.le_of_ble_eq_true rfl) dL_does_118 ⟨Nat.le_of_ble_eq_true rfl, Nat.le_of_ble_eq_true rfl⟩ (fun H locs hM hS => ?_)
      refine lv_iadd hx hb dL_does_121 ?_
      rw [nI_add (1) (q_118)]
      refine m_callI (As := [.int (nI q_108), .int (nI (1 + q_118))]) (rest := []) ⟨hx, hb, hml, hown, ht⟩ (q_rain l g A M X hXS hCI (y := q_108) (q := 1 + q_118) (by omega) (by omega) (by omega) hh2 (by omega)) (cwV 2 ht (gU uw_2011 uw_348 uw_349 uw_34 uw_350) rfl rfl rfl (by decide +kernel) ⟨Nat.le_of_ble_eq_true rfl, Nat.le_of_ble_eq_true rfl⟩) hK hM hS (m_recv hK hM hXS.ob.1 hXS.ob.2 rfl) rfl hl.1 rfl (Nat.le_of_ble_eq_true rfl) dL_does_122 ⟨Nat.le_of_ble_eq_true rfl, Nat.le_of_ble_eq_true rfl⟩ (fun r9 M H locs hp hM hS => ?_)
      obtain ⟨e9, hX9⟩ := hp
      have hXS := hX9.at
      have Z := S.rain P hhH hg (y := q_108) (q := 1 + q_118) (by omega) (by omega) (by omega) (by omega) (by omega)
      subst hQ
      exact m_zret hx hb hr (rfl) hlk hK hM hS dL_does_125 (⟨by rw [e9]; exact Z.2.2, _, hXS, Z.1.mono (by omega) (by omega) (by omega)⟩)
  by_cases s_13_4 : (sv9) = 4
  · refine lv_tableIn (tgt := 88) (off := 75) hx hb dL_does_13 (by rw [s_13_4]; decide) (by rw [s_13_4]; decide) (by rw [s_13_4]; rfl) (by decide) ?_
    refine lv_aload_n hx hb dL_does_88 rfl (lv_at hl 1 rfl) ?_
    refine lv_iload_n hx hb dL_does_89 rfl (lv_at hl 2 rfl) ?_
    refine lv_iconst (v := nI 4) hx hb dL_does_90 (by first | rfl | decide) ?_
    refine lv_ishr hx hb dL_does_91 ?_
    refine lv_iload_n hx hb dL_does_92 rfl (lv_at hl 2 rfl) ?_
    refine lv_bipush (v := nI 11) hx hb dL_does_93 (by first | rfl | decide) ?_
    refine lv_ishr hx hb dL_does_95 ?_
    refine lv_iconst (v := nI 1) hx hb dL_does_96 (by first | rfl | decide) ?_
    refine lv_iand hx hb dL_does_97 ?_
    refine lv_if_ne (tgt := 106) hx hb dL_does_98 (by decide) (fun c_98 => ?_) (fun c_98 => ?_)
    · refine lv_bipush (v := nI 100) hx hb dL_does_106 (by first | rfl | decide) ?_
      obtain ⟨q_108, hq_108, e_108⟩ := lo_in ((v) >>> (nI 4)) (m := 100) (by decide) (by decide)
      refine m_callRSI (val := nI q_108) (As := [.int ((v) >>> (nI 4)), .int (nI 100)]) (rest := [.ref (X)]) ⟨hx, hb, hml, hown, ht⟩ (q_low l g A M (by decide) e_108) (cwS 2 ht (gUS uw_2004 uw_2005 uw_33 uw_2006) rfl rfl rfl (by decide +kernel) ⟨Nat.le_of_ble_eq_true rfl, Nat.le_of_ble_eq_true rfl⟩) hK hM hS rfl hl.1 rfl (Nat.le_of_ble_eq_true rfl) dL_does_108 ⟨Nat.le_of_ble_eq_true rfl, Nat.le_of_ble_eq_true rfl⟩ (fun H locs hM hS => ?_)
      refine lv_iconst (v := nI 1) hx hb dL_does_111 (by first | rfl | decide) ?_
      refine lv_iload_n hx hb dL_does_112 rfl (lv_at hl 2 rfl) ?_
      refine lv_bipush (v := nI 8) hx hb dL_does_113 (by first | rfl | decide) ?_
      refine lv_ishr hx hb dL_does_115 ?_
      refine lv_bipush (v := nI 6) hx hb dL_does_116 (by first | rfl | decide) ?_
      obtain ⟨q_118, hq_118, e_118⟩ := lo_in ((v) >>> (nI 8)) (m := 6) (by decide) (by decide)
      refine m_callRSI (val := nI q_118) (As := [.int ((v) >>> (nI 8)), .int (nI 6)]) (rest := [.int (nI 1), .int (nI q_108), .ref (X)]) ⟨hx, hb, hml, hown, ht⟩ (q_low l g A M (by decide) e_118) (cwS 2 ht (gUS uw_2004 uw_2005 uw_33 uw_2006) rfl rfl rfl (by decide +kernel) ⟨Nat.le_of_ble_eq_true rfl, Nat.le_of_ble_eq_true rfl⟩) hK hM hS rfl hl.1 rfl (Nat.le_of_ble_eq_true rfl) dL_does_118 ⟨Nat.le_of_ble_eq_true rfl, Nat.le_of_ble_eq_true rfl⟩ (fun H locs hM hS => ?_)
      refine lv_iadd hx hb dL_does_121 ?_
      rw [nI_add (1) (q_118)]
      refine m_callI (As := [.int (nI q_108), .int (nI (1 + q_118))]) (rest := []) ⟨hx, hb, hml, hown, ht⟩ (q_rain l g A M X hXS hCI (y := q_108) (q := 1 + q_118) (by omega) (by omega) (by omega) hh2 (by omega)) (cwV 2 ht (gU uw_2011 uw_348 uw_349 uw_34 uw_350) rfl rfl rfl (by decide +kernel) ⟨Nat.le_of_ble_eq_true rfl, Nat.le_of_ble_eq_true rfl⟩) hK hM hS (m_recv hK hM hXS.ob.1 hXS.ob.2 rfl) rfl hl.1 rfl (Nat.le_of_ble_eq_true rfl) dL_does_122 ⟨Nat.le_of_ble_eq_true rfl, Nat.le_of_ble_eq_true rfl⟩ (fun r9 M H locs hp hM hS => ?_)
      obtain ⟨e9, hX9⟩ := hp
      have hXS := hX9.at
      have Z := S.rain P hhH hg (y := q_108) (q := 1 + q_118) (by omega) (by omega) (by omega) (by omega) (by omega)
      subst hQ
      exact m_zret hx hb hr (rfl) hlk hK hM hS dL_does_125 (⟨by rw [e9]; exact Z.2.2, _, hXS, Z.1.mono (by omega) (by omega) (by omega)⟩)
    · refine lv_bipush (v := nI 10) hx hb dL_does_101 (by first | rfl | decide) ?_
      refine lv_goto (tgt := 108) hx hb dL_does_103 (by decide) ?_
      obtain ⟨q_108, hq_108, e_108⟩ := lo_in ((v) >>> (nI 4)) (m := 10) (by decide) (by decide)
      refine m_callRSI (val := nI q_108) (As := [.int ((v) >>> (nI 4)), .int (nI 10)]) (rest := [.ref (X)]) ⟨hx, hb, hml, hown, ht⟩ (q_low l g A M (by decide) e_108) (cwS 2 ht (gUS uw_2004 uw_2005 uw_33 uw_2006) rfl rfl rfl (by decide +kernel) ⟨Nat.le_of_ble_eq_true rfl, Nat.le_of_ble_eq_true rfl⟩) hK hM hS rfl hl.1 rfl (Nat.le_of_ble_eq_true rfl) dL_does_108 ⟨Nat.le_of_ble_eq_true rfl, Nat.le_of_ble_eq_true rfl⟩ (fun H locs hM hS => ?_)
      refine lv_iconst (v := nI 1) hx hb dL_does_111 (by first | rfl | decide) ?_
      refine lv_iload_n hx hb dL_does_112 rfl (lv_at hl 2 rfl) ?_
      refine lv_bipush (v := nI 8) hx hb dL_does_113 (by first | rfl | decide) ?_
      refine lv_ishr hx hb dL_does_115 ?_
      refine lv_bipush (v := nI 6) hx hb dL_does_116 (by first | rfl | decide) ?_
      obtain ⟨q_118, hq_118, e_118⟩ := lo_in ((v) >>> (nI 8)) (m := 6) (by decide) (by decide)
      refine m_callRSI (val := nI q_118) (As := [.int ((v) >>> (nI 8)), .int (nI 6)]) (rest := [.int (nI 1), .int (nI q_108), .ref (X)]) ⟨hx, hb, hml, hown, ht⟩ (q_low l g A M (by decide) e_118) (cwS 2 ht (gUS uw_2004 uw_2005 uw_33 uw_2006) rfl rfl rfl (by decide +kernel) ⟨Nat.le_of_ble_eq_true rfl, Nat.le_of_ble_eq_true rfl⟩) hK hM hS rfl hl.1 rfl (Nat.le_of_ble_eq_true rfl) dL_does_118 ⟨Nat.le_of_ble_eq_true rfl, Nat.le_of_ble_eq_true rfl⟩ (fun H locs hM hS => ?_)
      refine lv_iadd hx hb dL_does_121 ?_
      rw [nI_add (1) (q_118)]
      refine m_callI (As := [.int (nI q_108), .int (nI (1 + q_118))]) (rest := []) ⟨hx, hb, hml, hown, ht⟩ (q_rain l g A M X hXS hCI (y := q_108) (q := 1 + q_118) (by omega) (by omega) (by omega) hh2 (by omega)) (cwV 2 ht (gU uw_2011 uw_348 uw_349 uw_34 uw_350) rfl rfl rfl (by decide +kernel) ⟨Nat.le_of_ble_eq_true rfl, Nat.le_of_ble_eq_true rfl⟩) hK hM hS (m_recv hK hM hXS.ob.1 hXS.ob.2 rfl) rfl hl.1 rfl (Nat.le_of_ble_eq_true rfl) dL_does_122 ⟨Nat.le_of_ble_eq_true rfl, Nat.le_of_ble_eq_true rfl⟩ (fun r9 M H locs hp hM hS => ?_)
      obtain ⟨e9, hX9⟩ := hp
      have hXS := hX9.at
      have Z := S.rain P hhH hg (y := q_108) (q := 1 + q_118) (by omega) (by omega) (by omega) (by omega) (by omega)
      subst hQ
      exact m_zret hx hb hr (rfl) hlk hK hM hS dL_does_125 (⟨by rw [e9]; exact Z.2.2, _, hXS, Z.1.mono (by omega) (by omega) (by omega)⟩)
  by_cases s_13_5 : (sv9) = 5
  · refine lv_tableIn (tgt := 126) (off := 113) hx hb dL_does_13 (by rw [s_13_5]; decide) (by rw [s_13_5]; decide) (by rw [s_13_5]; rfl) (by decide) ?_
    refine lv_aload_n hx hb dL_does_126 rfl (lv_at hl 1 rfl) ?_
    refine lv_iconst (v := nI 3) hx hb dL_does_127 (by first | rfl | decide) ?_
    refine m_callRI (val := nI n) (As := [.int (nI 3)]) (rest := []) ⟨hx, hb, hml, hown, ht⟩ (q_count l g A M X hXS hCI ((cnt_3 _).trans hn)) (cwV 1 ht (gU uw_2012 uw_503 uw_504 uw_34 uw_505) rfl rfl rfl (by decide +kernel) ⟨Nat.le_of_ble_eq_true rfl, Nat.le_of_ble_eq_true rfl⟩) hK hM hS (m_recv hK hM hXS.ob.1 hXS.ob.2 rfl) rfl hl.1 rfl (Nat.le_of_ble_eq_true rfl) dL_does_128 ⟨Nat.le_of_ble_eq_true rfl, Nat.le_of_ble_eq_true rfl⟩ (fun H locs hM hS => ?_)
    refine lv_bipush (v := nI 20) hx hb dL_does_131 (by first | rfl | decide) ?_
    refine lv_icmp_ne (tgt := 140) hx hb dL_does_133 (by decide) (fun c_133 => ?_) (fun c_133 => ?_)
    · have h20 : n < 20 := by
        rcases Nat.lt_or_ge n 20 with z | z
        · exact z
        · exact absurd (congrArg nI (show n = 20 by have := P.1; omega)) c_133
      refine lv_aload_n hx hb dL_does_140 rfl (lv_at hl 1 rfl) ?_
      refine lv_iload_n hx hb dL_does_141 rfl (lv_at hl 0 rfl) ?_
      refine m_callI (As := [.int (nI q_5)]) (rest := []) ⟨hx, hb, hml, hown, ht⟩ (q_send l g A M X hXS hCI hq_5 hn h20) (cwV 1 ht (gU uw_347 uw_397 uw_398 uw_34 uw_399) rfl rfl rfl (by decide +kernel) ⟨Nat.le_of_ble_eq_true rfl, Nat.le_of_ble_eq_true rfl⟩) hK hM hS (m_recv hK hM hXS.ob.1 hXS.ob.2 rfl) rfl hl.1 rfl (Nat.le_of_ble_eq_true rfl) dL_does_142 ⟨Nat.le_of_ble_eq_true rfl, Nat.le_of_ble_eq_true rfl⟩ (fun r9 M H locs hp hM hS => ?_)
      obtain ⟨e9, hX9⟩ := hp
      have hXS := hX9.at
      have Z := S.snd P hhH hg hq_5 h20 hB9 (by omega)
      subst hQ
      exact m_zret hx hb hr (rfl) hlk hK hM hS dL_does_145 (⟨by rw [e9]; exact Z.2, _, hXS, Z.1.mono (by omega) (by omega) (by omega)⟩)
    · refine lv_iconst (v := nI 0) hx hb dL_does_136 (by first | rfl | decide) ?_
      refine lv_goto (tgt := 145) hx hb dL_does_137 (by decide) ?_
      subst hQ
      exact m_zret hx hb hr (rfl) hlk hK hM hS dL_does_145 (⟨by decide, _, hXS, S.mono (by omega) (by omega) (by omega)⟩)
  by_cases s_13_6 : (sv9) = 6
  · refine lv_tableIn (tgt := 126) (off := 113) hx hb dL_does_13 (by rw [s_13_6]; decide) (by rw [s_13_6]; decide) (by rw [s_13_6]; rfl) (by decide) ?_
    refine lv_aload_n hx hb dL_does_126 rfl (lv_at hl 1 rfl) ?_
    refine lv_iconst (v := nI 3) hx hb dL_does_127 (by first | rfl | decide) ?_
    refine m_callRI (val := nI n) (As := [.int (nI 3)]) (rest := []) ⟨hx, hb, hml, hown, ht⟩ (q_count l g A M X hXS hCI ((cnt_3 _).trans hn)) (cwV 1 ht (gU uw_2012 uw_503 uw_504 uw_34 uw_505) rfl rfl rfl (by decide +kernel) ⟨Nat.le_of_ble_eq_true rfl, Nat.le_of_ble_eq_true rfl⟩) hK hM hS (m_recv hK hM hXS.ob.1 hXS.ob.2 rfl) rfl hl.1 rfl (Nat.le_of_ble_eq_true rfl) dL_does_128 ⟨Nat.le_of_ble_eq_true rfl, Nat.le_of_ble_eq_true rfl⟩ (fun H locs hM hS => ?_)
    refine lv_bipush (v := nI 20) hx hb dL_does_131 (by first | rfl | decide) ?_
    refine lv_icmp_ne (tgt := 140) hx hb dL_does_133 (by decide) (fun c_133 => ?_) (fun c_133 => ?_)
    · have h20 : n < 20 := by
        rcases Nat.lt_or_ge n 20 with z | z
        · exact z
        · exact absurd (congrArg nI (show n = 20 by have := P.1; omega)) c_133
      refine lv_aload_n hx hb dL_does_140 rfl (lv_at hl 1 rfl) ?_
      refine lv_iload_n hx hb dL_does_141 rfl (lv_at hl 0 rfl) ?_
      refine m_callI (As := [.int (nI q_5)]) (rest := []) ⟨hx, hb, hml, hown, ht⟩ (q_send l g A M X hXS hCI hq_5 hn h20) (cwV 1 ht (gU uw_347 uw_397 uw_398 uw_34 uw_399) rfl rfl rfl (by decide +kernel) ⟨Nat.le_of_ble_eq_true rfl, Nat.le_of_ble_eq_true rfl⟩) hK hM hS (m_recv hK hM hXS.ob.1 hXS.ob.2 rfl) rfl hl.1 rfl (Nat.le_of_ble_eq_true rfl) dL_does_142 ⟨Nat.le_of_ble_eq_true rfl, Nat.le_of_ble_eq_true rfl⟩ (fun r9 M H locs hp hM hS => ?_)
      obtain ⟨e9, hX9⟩ := hp
      have hXS := hX9.at
      have Z := S.snd P hhH hg hq_5 h20 hB9 (by omega)
      subst hQ
      exact m_zret hx hb hr (rfl) hlk hK hM hS dL_does_145 (⟨by rw [e9]; exact Z.2, _, hXS, Z.1.mono (by omega) (by omega) (by omega)⟩)
    · refine lv_iconst (v := nI 0) hx hb dL_does_136 (by first | rfl | decide) ?_
      refine lv_goto (tgt := 145) hx hb dL_does_137 (by decide) ?_
      subst hQ
      exact m_zret hx hb hr (rfl) hlk hK hM hS dL_does_145 (⟨by decide, _, hXS, S.mono (by omega) (by omega) (by omega)⟩)
  by_cases s_13_7 : (sv9) = 7
  · refine lv_tableIn (tgt := 126) (off := 113) hx hb dL_does_13 (by rw [s_13_7]; decide) (by rw [s_13_7]; decide) (by rw [s_13_7]; rfl) (by decide) ?_
    refine lv_aload_n hx hb dL_does_126 rfl (lv_at hl 1 rfl) ?_
    refine lv_iconst (v := nI 3) hx hb dL_does_127 (by first | rfl | decide) ?_
    refine m_callRI (val := nI n) (As := [.int (nI 3)]) (rest := []) ⟨hx, hb, hml, hown, ht⟩ (q_count l g A M X hXS hCI ((cnt_3 _).trans hn)) (cwV 1 ht (gU uw_2012 uw_503 uw_504 uw_34 uw_505) rfl rfl rfl (by decide +kernel) ⟨Nat.le_of_ble_eq_true rfl, Nat.le_of_ble_eq_true rfl⟩) hK hM hS (m_recv hK hM hXS.ob.1 hXS.ob.2 rfl) rfl hl.1 rfl (Nat.le_of_ble_eq_true rfl) dL_does_128 ⟨Nat.le_of_ble_eq_true rfl, Nat.le_of_ble_eq_true rfl⟩ (fun H locs hM hS => ?_)
    refine lv_bipush (v := nI 20) hx hb dL_does_131 (by first | rfl | decide) ?_
    refine lv_icmp_ne (tgt := 140) hx hb dL_does_133 (by decide) (fun c_133 => ?_) (fun c_133 => ?_)
    · have h20 : n < 20 := by
        rcases Nat.lt_or_ge n 20 with z | z
        · exact z
        · exact absurd (congrArg nI (show n = 20 by have := P.1; omega)) c_133
      refine lv_aload_n hx hb dL_does_140 rfl (lv_at hl 1 rfl) ?_
      refine lv_iload_n hx hb dL_does_141 rfl (lv_at hl 0 rfl) ?_
      refine m_callI (As := [.int (nI q_5)]) (rest := []) ⟨hx, hb, hml, hown, ht⟩ (q_send l g A M X hXS hCI hq_5 hn h20) (cwV 1 ht (gU uw_347 uw_397 uw_398 uw_34 uw_399) rfl rfl rfl (by decide +kernel) ⟨Nat.le_of_ble_eq_true rfl, Nat.le_of_ble_eq_true rfl⟩) hK hM hS (m_recv hK hM hXS.ob.1 hXS.ob.2 rfl) rfl hl.1 rfl (Nat.le_of_ble_eq_true rfl) dL_does_142 ⟨Nat.le_of_ble_eq_true rfl, Nat.le_of_ble_eq_true rfl⟩ (fun r9 M H locs hp hM hS => ?_)
      obtain ⟨e9, hX9⟩ := hp
      have hXS := hX9.at
      have Z := S.snd P hhH hg hq_5 h20 hB9 (by omega)
      subst hQ
      exact m_zret hx hb hr (rfl) hlk hK hM hS dL_does_145 (⟨by rw [e9]; exact Z.2, _, hXS, Z.1.mono (by omega) (by omega) (by omega)⟩)
    · refine lv_iconst (v := nI 0) hx hb dL_does_136 (by first | rfl | decide) ?_
      refine lv_goto (tgt := 145) hx hb dL_does_137 (by decide) ?_
      subst hQ
      exact m_zret hx hb hr (rfl) hlk hK hM hS dL_does_145 (⟨by decide, _, hXS, S.mono (by omega) (by omega) (by omega)⟩)
  by_cases s_13_8 : (sv9) = 8
  · refine lv_tableIn (tgt := 126) (off := 113) hx hb dL_does_13 (by rw [s_13_8]; decide) (by rw [s_13_8]; decide) (by rw [s_13_8]; rfl) (by decide) ?_
    refine lv_aload_n hx hb dL_does_126 rfl (lv_at hl 1 rfl) ?_
    refine lv_iconst (v := nI 3) hx hb dL_does_127 (by first | rfl | decide) ?_
    refine m_callRI (val := nI n) (As := [.int (nI 3)]) (rest := []) ⟨hx, hb, hml, hown, ht⟩ (q_count l g A M X hXS hCI ((cnt_3 _).trans hn)) (cwV 1 ht (gU uw_2012 uw_503 uw_504 uw_34 uw_505) rfl rfl rfl (by decide +kernel) ⟨Nat.le_of_ble_eq_true rfl, Nat.le_of_ble_eq_true rfl⟩) hK hM hS (m_recv hK hM hXS.ob.1 hXS.ob.2 rfl) rfl hl.1 rfl (Nat.le_of_ble_eq_true rfl) dL_does_128 ⟨Nat.le_of_ble_eq_true rfl, Nat.le_of_ble_eq_true rfl⟩ (fun H locs hM hS => ?_)
    refine lv_bipush (v := nI 20) hx hb dL_does_131 (by first | rfl | decide) ?_
    refine lv_icmp_ne (tgt := 140) hx hb dL_does_133 (by decide) (fun c_133 => ?_) (fun c_133 => ?_)
    · have h20 : n < 20 := by
        rcases Nat.lt_or_ge n 20 with z | z
        · exact z
        · exact absurd (congrArg nI (show n = 20 by have := P.1; omega)) c_133
      refine lv_aload_n hx hb dL_does_140 rfl (lv_at hl 1 rfl) ?_
      refine lv_iload_n hx hb dL_does_141 rfl (lv_at hl 0 rfl) ?_
      refine m_callI (As := [.int (nI q_5)]) (rest := []) ⟨hx, hb, hml, hown, ht⟩ (q_send l g A M X hXS hCI hq_5 hn h20) (cwV 1 ht (gU uw_347 uw_397 uw_398 uw_34 uw_399) rfl rfl rfl (by decide +kernel) ⟨Nat.le_of_ble_eq_true rfl, Nat.le_of_ble_eq_true rfl⟩) hK hM hS (m_recv hK hM hXS.ob.1 hXS.ob.2 rfl) rfl hl.1 rfl (Nat.le_of_ble_eq_true rfl) dL_does_142 ⟨Nat.le_of_ble_eq_true rfl, Nat.le_of_ble_eq_true rfl⟩ (fun r9 M H locs hp hM hS => ?_)
      obtain ⟨e9, hX9⟩ := hp
      have hXS := hX9.at
      have Z := S.snd P hhH hg hq_5 h20 hB9 (by omega)
      subst hQ
      exact m_zret hx hb hr (rfl) hlk hK hM hS dL_does_145 (⟨by rw [e9]; exact Z.2, _, hXS, Z.1.mono (by omega) (by omega) (by omega)⟩)
    · refine lv_iconst (v := nI 0) hx hb dL_does_136 (by first | rfl | decide) ?_
      refine lv_goto (tgt := 145) hx hb dL_does_137 (by decide) ?_
      subst hQ
      exact m_zret hx hb hr (rfl) hlk hK hM hS dL_does_145 (⟨by decide, _, hXS, S.mono (by omega) (by omega) (by omega)⟩)
  by_cases s_13_9 : (sv9) = 9
  · refine lv_tableIn (tgt := 146) (off := 133) hx hb dL_does_13 (by rw [s_13_9]; decide) (by rw [s_13_9]; decide) (by rw [s_13_9]; rfl) (by decide) ?_
    refine lv_aload_n hx hb dL_does_146 rfl (lv_at hl 1 rfl) ?_
    refine lv_iconst (v := nI 3) hx hb dL_does_147 (by first | rfl | decide) ?_
    refine m_callRI (val := nI n) (As := [.int (nI 3)]) (rest := []) ⟨hx, hb, hml, hown, ht⟩ (q_count l g A M X hXS hCI ((cnt_3 _).trans hn)) (cwV 1 ht (gU uw_2012 uw_503 uw_504 uw_34 uw_505) rfl rfl rfl (by decide +kernel) ⟨Nat.le_of_ble_eq_true rfl, Nat.le_of_ble_eq_true rfl⟩) hK hM hS (m_recv hK hM hXS.ob.1 hXS.ob.2 rfl) rfl hl.1 rfl (Nat.le_of_ble_eq_true rfl) dL_does_148 ⟨Nat.le_of_ble_eq_true rfl, Nat.le_of_ble_eq_true rfl⟩ (fun H locs hM hS => ?_)
    refine lv_if_ne (tgt := 158) hx hb dL_does_151 (by decide) (fun c_151 => ?_) (fun c_151 => ?_)
    · have c_nz0 := c_151
      have hn1 : 1 ≤ n := Nat.pos_of_ne_zero (fun z => c_151 (by rw [z]; rfl))
      refine lv_aload_n hx hb dL_does_158 rfl (lv_at hl 1 rfl) ?_
      refine lv_iload_n hx hb dL_does_159 rfl (lv_at hl 2 rfl) ?_
      refine lv_iconst (v := nI 4) hx hb dL_does_160 (by first | rfl | decide) ?_
      refine lv_ishr hx hb dL_does_161 ?_
      refine lv_aload_n hx hb dL_does_162 rfl (lv_at hl 1 rfl) ?_
      refine lv_iconst (v := nI 3) hx hb dL_does_163 (by first | rfl | decide) ?_
      refine m_callRI (val := nI n) (As := [.int (nI 3)]) (rest := [.int ((v) >>> (nI 4)), .ref (X)]) ⟨hx, hb, hml, hown, ht⟩ (q_count l g A M X hXS hCI ((cnt_3 _).trans hn)) (cwV 1 ht (gU uw_2012 uw_503 uw_504 uw_34 uw_505) rfl rfl rfl (by decide +kernel) ⟨Nat.le_of_ble_eq_true rfl, Nat.le_of_ble_eq_true rfl⟩) hK hM hS (m_recv hK hM hXS.ob.1 hXS.ob.2 rfl) rfl hl.1 rfl (Nat.le_of_ble_eq_true rfl) dL_does_164 ⟨Nat.le_of_ble_eq_true rfl, Nat.le_of_ble_eq_true rfl⟩ (fun H locs hM hS => ?_)
      obtain ⟨q_167, hq_167, e_167⟩ := lo_in ((v) >>> (nI 4)) (m := n) hn1 (by have := P.1; omega)
      refine m_callRSI (val := nI q_167) (As := [.int ((v) >>> (nI 4)), .int (nI n)]) (rest := [.ref (X)]) ⟨hx, hb, hml, hown, ht⟩ (q_low l g A M c_nz0 e_167) (cwS 2 ht (gUS uw_2004 uw_2005 uw_33 uw_2006) rfl rfl rfl (by decide +kernel) ⟨Nat.le_of_ble_eq_true rfl, Nat.le_of_ble_eq_true rfl⟩) hK hM hS rfl hl.1 rfl (Nat.le_of_ble_eq_true rfl) dL_does_167 ⟨Nat.le_of_ble_eq_true rfl, Nat.le_of_ble_eq_true rfl⟩ (fun H locs hM hS => ?_)
      refine m_callI (As := [.int (nI q_167)]) (rest := []) ⟨hx, hb, hml, hown, ht⟩ (q_lose l g A M X hXS hCI hn P.1 hq_167) (cwV 1 ht (gU uw_662 uw_415 uw_416 uw_34 uw_417) rfl rfl rfl (by decide +kernel) ⟨Nat.le_of_ble_eq_true rfl, Nat.le_of_ble_eq_true rfl⟩) hK hM hS (m_recv hK hM hXS.ob.1 hXS.ob.2 rfl) rfl hl.1 rfl (Nat.le_of_ble_eq_true rfl) dL_does_170 ⟨Nat.le_of_ble_eq_true rfl, Nat.le_of_ble_eq_true rfl⟩ (fun r9 M H locs hp hM hS => ?_)
      obtain ⟨e9, hX9⟩ := hp
      have hXS := hX9.at
      have Z := S.los P hhH hg hq_167
      subst hQ
      exact m_zret hx hb hr (rfl) hlk hK hM hS dL_does_173 (⟨by rw [e9]; exact Z.2, _, hXS, Z.1.mono (by omega) (by omega) (by omega)⟩)
    · refine lv_iconst (v := nI 0) hx hb dL_does_154 (by first | rfl | decide) ?_
      refine lv_goto (tgt := 173) hx hb dL_does_155 (by decide) ?_
      subst hQ
      exact m_zret hx hb hr (rfl) hlk hK hM hS dL_does_173 (⟨by decide, _, hXS, S.mono (by omega) (by omega) (by omega)⟩)
  by_cases s_13_10 : (sv9) = 10
  · refine lv_tableIn (tgt := 174) (off := 161) hx hb dL_does_13 (by rw [s_13_10]; decide) (by rw [s_13_10]; decide) (by rw [s_13_10]; rfl) (by decide) ?_
    refine lv_aload_n hx hb dL_does_174 rfl (lv_at hl 1 rfl) ?_
    refine lv_iconst (v := nI 3) hx hb dL_does_175 (by first | rfl | decide) ?_
    refine m_callRI (val := nI n) (As := [.int (nI 3)]) (rest := []) ⟨hx, hb, hml, hown, ht⟩ (q_count l g A M X hXS hCI ((cnt_3 _).trans hn)) (cwV 1 ht (gU uw_2012 uw_503 uw_504 uw_34 uw_505) rfl rfl rfl (by decide +kernel) ⟨Nat.le_of_ble_eq_true rfl, Nat.le_of_ble_eq_true rfl⟩) hK hM hS (m_recv hK hM hXS.ob.1 hXS.ob.2 rfl) rfl hl.1 rfl (Nat.le_of_ble_eq_true rfl) dL_does_176 ⟨Nat.le_of_ble_eq_true rfl, Nat.le_of_ble_eq_true rfl⟩ (fun H locs hM hS => ?_)
    refine lv_if_eq (tgt := 192) hx hb dL_does_179 (by decide) (fun c_179 => ?_) (fun c_179 => ?_)
    · refine lv_iconst (v := nI 0) hx hb dL_does_192 (by first | rfl | decide) ?_
      refine lv_goto (tgt := 211) hx hb dL_does_193 (by decide) ?_
      subst hQ
      exact m_zret hx hb hr (rfl) hlk hK hM hS dL_does_211 (⟨by decide, _, hXS, S.mono (by omega) (by omega) (by omega)⟩)
    · refine lv_aload_n hx hb dL_does_182 rfl (lv_at hl 1 rfl) ?_
      refine lv_iconst (v := nI 3) hx hb dL_does_183 (by first | rfl | decide) ?_
      refine m_callRI (val := nI n) (As := [.int (nI 3)]) (rest := []) ⟨hx, hb, hml, hown, ht⟩ (q_count l g A M X hXS hCI ((cnt_3 _).trans hn)) (cwV 1 ht (gU uw_2012 uw_503 uw_504 uw_34 uw_505) rfl rfl rfl (by decide +kernel) ⟨Nat.le_of_ble_eq_true rfl, Nat.le_of_ble_eq_true rfl⟩) hK hM hS (m_recv hK hM hXS.ob.1 hXS.ob.2 rfl) rfl hl.1 rfl (Nat.le_of_ble_eq_true rfl) dL_does_184 ⟨Nat.le_of_ble_eq_true rfl, Nat.le_of_ble_eq_true rfl⟩ (fun H locs hM hS => ?_)
      refine lv_bipush (v := nI 20) hx hb dL_does_187 (by first | rfl | decide) ?_
      refine lv_icmp_ne (tgt := 196) hx hb dL_does_189 (by decide) (fun c_189 => ?_) (fun c_189 => ?_)
      · have h20 : n < 20 := by
          rcases Nat.lt_or_ge n 20 with z | z
          · exact z
          · exact absurd (congrArg nI (show n = 20 by have := P.1; omega)) c_189
        have c_nz0 := c_179
        have hn1 : 1 ≤ n := Nat.pos_of_ne_zero (fun z => c_179 (by rw [z]; rfl))
        refine lv_aload_n hx hb dL_does_196 rfl (lv_at hl 1 rfl) ?_
        refine lv_iload_n hx hb dL_does_197 rfl (lv_at hl 2 rfl) ?_
        refine lv_iconst (v := nI 4) hx hb dL_does_198 (by first | rfl | decide) ?_
        refine lv_ishr hx hb dL_does_199 ?_
        refine lv_aload_n hx hb dL_does_200 rfl (lv_at hl 1 rfl) ?_
        refine lv_iconst (v := nI 3) hx hb dL_does_201 (by first | rfl | decide) ?_
        refine m_callRI (val := nI n) (As := [.int (nI 3)]) (rest := [.int ((v) >>> (nI 4)), .ref (X)]) ⟨hx, hb, hml, hown, ht⟩ (q_count l g A M X hXS hCI ((cnt_3 _).trans hn)) (cwV 1 ht (gU uw_2012 uw_503 uw_504 uw_34 uw_505) rfl rfl rfl (by decide +kernel) ⟨Nat.le_of_ble_eq_true rfl, Nat.le_of_ble_eq_true rfl⟩) hK hM hS (m_recv hK hM hXS.ob.1 hXS.ob.2 rfl) rfl hl.1 rfl (Nat.le_of_ble_eq_true rfl) dL_does_202 ⟨Nat.le_of_ble_eq_true rfl, Nat.le_of_ble_eq_true rfl⟩ (fun H locs hM hS => ?_)
        obtain ⟨q_205, hq_205, e_205⟩ := lo_in ((v) >>> (nI 4)) (m := n) hn1 (by have := P.1; omega)
        refine m_callRSI (val := nI q_205) (As := [.int ((v) >>> (nI 4)), .int (nI n)]) (rest := [.ref (X)]) ⟨hx, hb, hml, hown, ht⟩ (q_low l g A M c_nz0 e_205) (cwS 2 ht (gUS uw_2004 uw_2005 uw_33 uw_2006) rfl rfl rfl (by decide +kernel) ⟨Nat.le_of_ble_eq_true rfl, Nat.le_of_ble_eq_true rfl⟩) hK hM hS rfl hl.1 rfl (Nat.le_of_ble_eq_true rfl) dL_does_205 ⟨Nat.le_of_ble_eq_true rfl, Nat.le_of_ble_eq_true rfl⟩ (fun H locs hM hS => ?_)
        refine m_callI (As := [.int (nI q_205)]) (rest := []) ⟨hx, hb, hml, hown, ht⟩ (q_twice l g A M X hXS hCI hn h20 hq_205) (cwV 1 ht (gU uw_2013 uw_422 uw_423 uw_34 uw_424) rfl rfl rfl (by decide +kernel) ⟨Nat.le_of_ble_eq_true rfl, Nat.le_of_ble_eq_true rfl⟩) hK hM hS (m_recv hK hM hXS.ob.1 hXS.ob.2 rfl) rfl hl.1 rfl (Nat.le_of_ble_eq_true rfl) dL_does_208 ⟨Nat.le_of_ble_eq_true rfl, Nat.le_of_ble_eq_true rfl⟩ (fun r9 M H locs hp hM hS => ?_)
        obtain ⟨e9, hX9⟩ := hp
        have hXS := hX9.at
        have Z := S.twi P hhH hg h20 hq_205
        subst hQ
        exact m_zret hx hb hr (rfl) hlk hK hM hS dL_does_211 (⟨by rw [e9]; exact nIge0 (by omega), _, hXS, Z.mono (by omega) (by omega) (by omega)⟩)
      · refine lv_iconst (v := nI 0) hx hb dL_does_192 (by first | rfl | decide) ?_
        refine lv_goto (tgt := 211) hx hb dL_does_193 (by decide) ?_
        subst hQ
        exact m_zret hx hb hr (rfl) hlk hK hM hS dL_does_211 (⟨by decide, _, hXS, S.mono (by omega) (by omega) (by omega)⟩)
  by_cases s_13_11 : (sv9) = 11
  · refine lv_tableIn (tgt := 212) (off := 199) hx hb dL_does_13 (by rw [s_13_11]; decide) (by rw [s_13_11]; decide) (by rw [s_13_11]; rfl) (by decide) ?_
    refine lv_aload_n hx hb dL_does_212 rfl (lv_at hl 1 rfl) ?_
    refine lv_iload_n hx hb dL_does_213 rfl (lv_at hl 0 rfl) ?_
    refine lv_iconst (v := nI 1) hx hb dL_does_214 (by first | rfl | decide) ?_
    refine lv_iload_n hx hb dL_does_215 rfl (lv_at hl 2 rfl) ?_
    refine lv_bipush (v := nI 6) hx hb dL_does_216 (by first | rfl | decide) ?_
    refine lv_ishr hx hb dL_does_218 ?_
    refine lv_bipush (v := nI 9) hx hb dL_does_219 (by first | rfl | decide) ?_
    obtain ⟨q_221, hq_221, e_221⟩ := lo_in ((v) >>> (nI 6)) (m := 9) (by decide) (by decide)
    refine m_callRSI (val := nI q_221) (As := [.int ((v) >>> (nI 6)), .int (nI 9)]) (rest := [.int (nI 1), .int (nI q_5), .ref (X)]) ⟨hx, hb, hml, hown, ht⟩ (q_low l g A M (by decide) e_221) (cwS 2 ht (gUS uw_2004 uw_2005 uw_33 uw_2006) rfl rfl rfl (by decide +kernel) ⟨Nat.le_of_ble_eq_true rfl, Nat.le_of_ble_eq_true rfl⟩) hK hM hS rfl hl.1 rfl (Nat.le_of_ble_eq_true rfl) dL_does_221 ⟨Nat.le_of_ble_eq_true rfl, Nat.le_of_ble_eq_true rfl⟩ (fun H locs hM hS => ?_)
    refine lv_iadd hx hb dL_does_224 ?_
    rw [nI_add (1) (q_221)]
    refine lv_iconst (v := nI 1) hx hb dL_does_225 (by first | rfl | decide) ?_
    refine lv_iload_n hx hb dL_does_226 rfl (lv_at hl 2 rfl) ?_
    refine lv_bipush (v := nI 7) hx hb dL_does_227 (by first | rfl | decide) ?_
    refine lv_ishr hx hb dL_does_229 ?_
    refine lv_bipush (v := nI 50) hx hb dL_does_230 (by first | rfl | decide) ?_
    obtain ⟨q_232, hq_232, e_232⟩ := lo_in ((v) >>> (nI 7)) (m := 50) (by decide) (by decide)
    refine m_callRSI (val := nI q_232) (As := [.int ((v) >>> (nI 7)), .int (nI 50)]) (rest := [.int (nI 1), .int (nI (1 + q_221)), .int (nI q_5), .ref (X)]) ⟨hx, hb, hml, hown, ht⟩ (q_low l g A M (by decide) e_232) (cwS 2 ht (gUS uw_2004 uw_2005 uw_33 uw_2006) rfl rfl rfl (by decide +kernel) ⟨Nat.le_of_ble_eq_true rfl, Nat.le_of_ble_eq_true rfl⟩) hK hM hS rfl hl.1 rfl (Nat.le_of_ble_eq_true rfl) dL_does_232 ⟨Nat.le_of_ble_eq_true rfl, Nat.le_of_ble_eq_true rfl⟩ (fun H locs hM hS => ?_)
    refine lv_iadd hx hb dL_does_235 ?_
    rw [nI_add (1) (q_232)]
    refine lv_iload_n hx hb dL_does_236 rfl (lv_at hl 2 rfl) ?_
    refine lv_iconst (v := nI 5) hx hb dL_does_237 (by first | rfl | decide) ?_
    refine lv_ishr hx hb dL_does_238 ?_
    refine lv_sipush (v := nI 201) hx hb dL_does_239 (by first | rfl | decide) ?_
    obtain ⟨q_242, hq_242, e_242⟩ := lo_in ((v) >>> (nI 5)) (m := 201) (by decide) (by decide)
    refine m_callRSI (val := nI q_242) (As := [.int ((v) >>> (nI 5)), .int (nI 201)]) (rest := [.int (nI (1 + q_232)), .int (nI (1 + q_221)), .int (nI q_5), .ref (X)]) ⟨hx, hb, hml, hown, ht⟩ (q_low l g A M (by decide) e_242) (cwS 2 ht (gUS uw_2004 uw_2005 uw_33 uw_2006) rfl rfl rfl (by decide +kernel) ⟨Nat.le_of_ble_eq_true rfl, Nat.le_of_ble_eq_true rfl⟩) hK hM hS rfl hl.1 rfl (Nat.le_of_ble_eq_true rfl) dL_does_242 ⟨Nat.le_of_ble_eq_true rfl, Nat.le_of_ble_eq_true rfl⟩ (fun H locs hM hS => ?_)
    refine lv_iload_n hx hb dL_does_245 rfl (lv_at hl 2 rfl) ?_
    refine lv_bipush (v := nI 8) hx hb dL_does_246 (by first | rfl | decide) ?_
    refine lv_ishr hx hb dL_does_248 ?_
    refine lv_bipush (v := nI 10) hx hb dL_does_249 (by first | rfl | decide) ?_
    obtain ⟨q_251, hq_251, e_251⟩ := lo_in ((v) >>> (nI 8)) (m := 10) (by decide) (by decide)
    refine m_callRSI (val := nI q_251) (As := [.int ((v) >>> (nI 8)), .int (nI 10)]) (rest := [.int (nI q_242), .int (nI (1 + q_232)), .int (nI (1 + q_221)), .int (nI q_5), .ref (X)]) ⟨hx, hb, hml, hown, ht⟩ (q_low l g A M (by decide) e_251) (cwS 2 ht (gUS uw_2004 uw_2005 uw_33 uw_2006) rfl rfl rfl (by decide +kernel) ⟨Nat.le_of_ble_eq_true rfl, Nat.le_of_ble_eq_true rfl⟩) hK hM hS rfl hl.1 rfl (Nat.le_of_ble_eq_true rfl) dL_does_251 ⟨Nat.le_of_ble_eq_true rfl, Nat.le_of_ble_eq_true rfl⟩ (fun H locs hM hS => ?_)
    refine m_callI (As := [.int (nI q_5), .int (nI (1 + q_221)), .int (nI (1 + q_232)), .int (nI q_242), .int (nI q_251)]) (rest := []) ⟨hx, hb, hml, hown, ht⟩ (q_gauge l g A M X hXS hCI hq_5 (a := nI (1 + q_221)) (b := nI (1 + q_232)) (d := nI q_242) (w := q_251) (nI_bd (a := 1) (b := 9) (by omega) (by omega) (by decide)) (nI_bd (a := 1) (b := 50) (by omega) (by omega) (by decide)) (nI_bd (a := 0) (b := 200) (by omega) (by omega) (by decide)) (by omega)) (cwV 5 ht (gU uw_414 uw_342 uw_343 uw_34 uw_344) rfl rfl rfl (by decide +kernel) ⟨Nat.le_of_ble_eq_true rfl, Nat.le_of_ble_eq_true rfl⟩) hK hM hS (m_recv hK hM hXS.ob.1 hXS.ob.2 rfl) rfl hl.1 rfl (Nat.le_of_ble_eq_true rfl) dL_does_254 ⟨Nat.le_of_ble_eq_true rfl, Nat.le_of_ble_eq_true rfl⟩ (fun r9 M H locs hp hM hS => ?_)
    obtain ⟨e9, hX9⟩ := hp
    have hXS := hX9.at
    have Z := S.gau P hhH hg hq_5 (a := nI (1 + q_221)) (b := nI (1 + q_232)) (d := nI q_242) (w := q_251) (nI_bd (a := 1) (b := 9) (by omega) (by omega) (by decide)) (nI_bd (a := 1) (b := 50) (by omega) (by omega) (by decide)) (nI_bd (a := 0) (b := 200) (by omega) (by omega) (by decide)) (by omega)
    subst hQ
    exact m_zret hx hb hr (rfl) hlk hK hM hS dL_does_257 (⟨by rw [e9]; exact Z.2, _, hXS, Z.1.mono (by omega) (by omega) (by omega)⟩)
  by_cases s_13_12 : (sv9) = 12
  · refine lv_tableIn (tgt := 212) (off := 199) hx hb dL_does_13 (by rw [s_13_12]; decide) (by rw [s_13_12]; decide) (by rw [s_13_12]; rfl) (by decide) ?_
    refine lv_aload_n hx hb dL_does_212 rfl (lv_at hl 1 rfl) ?_
    refine lv_iload_n hx hb dL_does_213 rfl (lv_at hl 0 rfl) ?_
    refine lv_iconst (v := nI 1) hx hb dL_does_214 (by first | rfl | decide) ?_
    refine lv_iload_n hx hb dL_does_215 rfl (lv_at hl 2 rfl) ?_
    refine lv_bipush (v := nI 6) hx hb dL_does_216 (by first | rfl | decide) ?_
    refine lv_ishr hx hb dL_does_218 ?_
    refine lv_bipush (v := nI 9) hx hb dL_does_219 (by first | rfl | decide) ?_
    obtain ⟨q_221, hq_221, e_221⟩ := lo_in ((v) >>> (nI 6)) (m := 9) (by decide) (by decide)
    refine m_callRSI (val := nI q_221) (As := [.int ((v) >>> (nI 6)), .int (nI 9)]) (rest := [.int (nI 1), .int (nI q_5), .ref (X)]) ⟨hx, hb, hml, hown, ht⟩ (q_low l g A M (by decide) e_221) (cwS 2 ht (gUS uw_2004 uw_2005 uw_33 uw_2006) rfl rfl rfl (by decide +kernel) ⟨Nat.le_of_ble_eq_true rfl, Nat.le_of_ble_eq_true rfl⟩) hK hM hS rfl hl.1 rfl (Nat.le_of_ble_eq_true rfl) dL_does_221 ⟨Nat.le_of_ble_eq_true rfl, Nat.le_of_ble_eq_true rfl⟩ (fun H locs hM hS => ?_)
    refine lv_iadd hx hb dL_does_224 ?_
    rw [nI_add (1) (q_221)]
    refine lv_iconst (v := nI 1) hx hb dL_does_225 (by first | rfl | decide) ?_
    refine lv_iload_n hx hb dL_does_226 rfl (lv_at hl 2 rfl) ?_
    refine lv_bipush (v := nI 7) hx hb dL_does_227 (by first | rfl | decide) ?_
    refine lv_ishr hx hb dL_does_229 ?_
    refine lv_bipush (v := nI 50) hx hb dL_does_230 (by first | rfl | decide) ?_
    obtain ⟨q_232, hq_232, e_232⟩ := lo_in ((v) >>> (nI 7)) (m := 50) (by decide) (by decide)
    refine m_callRSI (val := nI q_232) (As := [.int ((v) >>> (nI 7)), .int (nI 50)]) (rest := [.int (nI 1), .int (nI (1 + q_221)), .int (nI q_5), .ref (X)]) ⟨hx, hb, hml, hown, ht⟩ (q_low l g A M (by decide) e_232) (cwS 2 ht (gUS uw_2004 uw_2005 uw_33 uw_2006) rfl rfl rfl (by decide +kernel) ⟨Nat.le_of_ble_eq_true rfl, Nat.le_of_ble_eq_true rfl⟩) hK hM hS rfl hl.1 rfl (Nat.le_of_ble_eq_true rfl) dL_does_232 ⟨Nat.le_of_ble_eq_true rfl, Nat.le_of_ble_eq_true rfl⟩ (fun H locs hM hS => ?_)
    refine lv_iadd hx hb dL_does_235 ?_
    rw [nI_add (1) (q_232)]
    refine lv_iload_n hx hb dL_does_236 rfl (lv_at hl 2 rfl) ?_
    refine lv_iconst (v := nI 5) hx hb dL_does_237 (by first | rfl | decide) ?_
    refine lv_ishr hx hb dL_does_238 ?_
    refine lv_sipush (v := nI 201) hx hb dL_does_239 (by first | rfl | decide) ?_
    obtain ⟨q_242, hq_242, e_242⟩ := lo_in ((v) >>> (nI 5)) (m := 201) (by decide) (by decide)
    refine m_callRSI (val := nI q_242) (As := [.int ((v) >>> (nI 5)), .int (nI 201)]) (rest := [.int (nI (1 + q_232)), .int (nI (1 + q_221)), .int (nI q_5), .ref (X)]) ⟨hx, hb, hml, hown, ht⟩ (q_low l g A M (by decide) e_242) (cwS 2 ht (gUS uw_2004 uw_2005 uw_33 uw_2006) rfl rfl rfl (by decide +kernel) ⟨Nat.le_of_ble_eq_true rfl, Nat.le_of_ble_eq_true rfl⟩) hK hM hS rfl hl.1 rfl (Nat.le_of_ble_eq_true rfl) dL_does_242 ⟨Nat.le_of_ble_eq_true rfl, Nat.le_of_ble_eq_true rfl⟩ (fun H locs hM hS => ?_)
    refine lv_iload_n hx hb dL_does_245 rfl (lv_at hl 2 rfl) ?_
    refine lv_bipush (v := nI 8) hx hb dL_does_246 (by first | rfl | decide) ?_
    refine lv_ishr hx hb dL_does_248 ?_
    refine lv_bipush (v := nI 10) hx hb dL_does_249 (by first | rfl | decide) ?_
    obtain ⟨q_251, hq_251, e_251⟩ := lo_in ((v) >>> (nI 8)) (m := 10) (by decide) (by decide)
    refine m_callRSI (val := nI q_251) (As := [.int ((v) >>> (nI 8)), .int (nI 10)]) (rest := [.int (nI q_242), .int (nI (1 + q_232)), .int (nI (1 + q_221)), .int (nI q_5), .ref (X)]) ⟨hx, hb, hml, hown, ht⟩ (q_low l g A M (by decide) e_251) (cwS 2 ht (gUS uw_2004 uw_2005 uw_33 uw_2006) rfl rfl rfl (by decide +kernel) ⟨Nat.le_of_ble_eq_true rfl, Nat.le_of_ble_eq_true rfl⟩) hK hM hS rfl hl.1 rfl (Nat.le_of_ble_eq_true rfl) dL_does_251 ⟨Nat.le_of_ble_eq_true rfl, Nat.le_of_ble_eq_true rfl⟩ (fun H locs hM hS => ?_)
    refine m_callI (As := [.int (nI q_5), .int (nI (1 + q_221)), .int (nI (1 + q_232)), .int (nI q_242), .int (nI q_251)]) (rest := []) ⟨hx, hb, hml, hown, ht⟩ (q_gauge l g A M X hXS hCI hq_5 (a := nI (1 + q_221)) (b := nI (1 + q_232)) (d := nI q_242) (w := q_251) (nI_bd (a := 1) (b := 9) (by omega) (by omega) (by decide)) (nI_bd (a := 1) (b := 50) (by omega) (by omega) (by decide)) (nI_bd (a := 0) (b := 200) (by omega) (by omega) (by decide)) (by omega)) (cwV 5 ht (gU uw_414 uw_342 uw_343 uw_34 uw_344) rfl rfl rfl (by decide +kernel) ⟨Nat.le_of_ble_eq_true rfl, Nat.le_of_ble_eq_true rfl⟩) hK hM hS (m_recv hK hM hXS.ob.1 hXS.ob.2 rfl) rfl hl.1 rfl (Nat.le_of_ble_eq_true rfl) dL_does_254 ⟨Nat.le_of_ble_eq_true rfl, Nat.le_of_ble_eq_true rfl⟩ (fun r9 M H locs hp hM hS => ?_)
    obtain ⟨e9, hX9⟩ := hp
    have hXS := hX9.at
    have Z := S.gau P hhH hg hq_5 (a := nI (1 + q_221)) (b := nI (1 + q_232)) (d := nI q_242) (w := q_251) (nI_bd (a := 1) (b := 9) (by omega) (by omega) (by decide)) (nI_bd (a := 1) (b := 50) (by omega) (by omega) (by decide)) (nI_bd (a := 0) (b := 200) (by omega) (by omega) (by decide)) (by omega)
    subst hQ
    exact m_zret hx hb hr (rfl) hlk hK hM hS dL_does_257 (⟨by rw [e9]; exact Z.2, _, hXS, Z.1.mono (by omega) (by omega) (by omega)⟩)
  by_cases s_13_13 : (sv9) = 13
  · refine lv_tableIn (tgt := 258) (off := 245) hx hb dL_does_13 (by rw [s_13_13]; decide) (by rw [s_13_13]; decide) (by rw [s_13_13]; rfl) (by decide) ?_
    refine lv_aload_n hx hb dL_does_258 rfl (lv_at hl 1 rfl) ?_
    refine lv_iconst (v := nI 0) hx hb dL_does_259 (by first | rfl | decide) ?_
    refine lv_iconst (v := nI 4) hx hb dL_does_260 (by first | rfl | decide) ?_
    refine lv_iload_n hx hb dL_does_261 rfl (lv_at hl 2 rfl) ?_
    refine lv_iconst (v := nI 4) hx hb dL_does_262 (by first | rfl | decide) ?_
    refine lv_ishr hx hb dL_does_263 ?_
    refine lv_bipush (v := nI 20) hx hb dL_does_264 (by first | rfl | decide) ?_
    obtain ⟨q_266, hq_266, e_266⟩ := lo_in ((v) >>> (nI 4)) (m := 20) (by decide) (by decide)
    refine m_callRSI (val := nI q_266) (As := [.int ((v) >>> (nI 4)), .int (nI 20)]) (rest := [.int (nI 4), .int (nI 0), .ref (X)]) ⟨hx, hb, hml, hown, ht⟩ (q_low l g A M (by decide) e_266) (cwS 2 ht (gUS uw_2004 uw_2005 uw_33 uw_2006) rfl rfl rfl (by decide +kernel) ⟨Nat.le_of_ble_eq_true rfl, Nat.le_of_ble_eq_true rfl⟩) hK hM hS rfl hl.1 rfl (Nat.le_of_ble_eq_true rfl) dL_does_266 ⟨Nat.le_of_ble_eq_true rfl, Nat.le_of_ble_eq_true rfl⟩ (fun H locs hM hS => ?_)
    refine lv_iadd hx hb dL_does_269 ?_
    rw [nI_add (4) (q_266)]
    refine m_callI (As := [.int (nI 0), .int (nI (4 + q_266))]) (rest := []) ⟨hx, hb, hml, hown, ht⟩ (q_set0 l g A M X hXS hCI (x := 4 + q_266) hn P.1 (by omega) (by omega)) (cwV 2 ht (gU uw_421 uw_298 uw_299 uw_34 uw_300) rfl rfl rfl (by decide +kernel) ⟨Nat.le_of_ble_eq_true rfl, Nat.le_of_ble_eq_true rfl⟩) hK hM hS (m_recv hK hM hXS.ob.1 hXS.ob.2 rfl) rfl hl.1 rfl (Nat.le_of_ble_eq_true rfl) dL_does_270 ⟨Nat.le_of_ble_eq_true rfl, Nat.le_of_ble_eq_true rfl⟩ (fun r9 M H locs hp hM hS => ?_)
    obtain ⟨e9, hX9⟩ := hp
    have hXS := hX9.at
    have Z := S.st0 P hhH hg (x := 4 + q_266) (by omega) (by omega)
    subst hQ
    exact m_zret hx hb hr (rfl) hlk hK hM hS dL_does_273 (⟨by rw [e9]; exact Z.2, _, hXS, Z.1.mono (by omega) (by omega) (by omega)⟩)
  by_cases s_13_14 : (sv9) = 14
  · refine lv_tableIn (tgt := 274) (off := 261) hx hb dL_does_13 (by rw [s_13_14]; decide) (by rw [s_13_14]; decide) (by rw [s_13_14]; rfl) (by decide) ?_
    refine lv_aload_n hx hb dL_does_274 rfl (lv_at hl 1 rfl) ?_
    refine lv_iconst (v := nI 1) hx hb dL_does_275 (by first | rfl | decide) ?_
    refine lv_iload_n hx hb dL_does_276 rfl (lv_at hl 2 rfl) ?_
    refine lv_iconst (v := nI 4) hx hb dL_does_277 (by first | rfl | decide) ?_
    refine lv_ishr hx hb dL_does_278 ?_
    refine lv_iconst (v := nI 1) hx hb dL_does_279 (by first | rfl | decide) ?_
    refine lv_iand hx hb dL_does_280 ?_
    refine m_callI (As := [.int (nI 1), .int (((v) >>> (nI 4)) &&& (nI 1))]) (rest := []) ⟨hx, hb, hml, hown, ht⟩ (q_set1 l g A M X hXS hCI (and1 _)) (cwV 2 ht (gU uw_421 uw_298 uw_299 uw_34 uw_300) rfl rfl rfl (by decide +kernel) ⟨Nat.le_of_ble_eq_true rfl, Nat.le_of_ble_eq_true rfl⟩) hK hM hS (m_recv hK hM hXS.ob.1 hXS.ob.2 rfl) rfl hl.1 rfl (Nat.le_of_ble_eq_true rfl) dL_does_281 ⟨Nat.le_of_ble_eq_true rfl, Nat.le_of_ble_eq_true rfl⟩ (fun r9 M H locs hp hM hS => ?_)
    obtain ⟨e9, hX9⟩ := hp
    have hXS := hX9.at
    have Z := S.st1 P hhH hg (and1 (v >>> nI 4))
    subst hQ
    exact m_zret hx hb hr (rfl) hlk hK hM hS dL_does_284 (⟨by rw [e9]; exact Z.2, _, hXS, Z.1.mono (by omega) (by omega) (by omega)⟩)
  exfalso
  have n_0 := lv_neT (a := 0) s_13_0 (by decide)
  have n_1 := lv_neT (a := 1) s_13_1 (by decide)
  have n_2 := lv_neT (a := 2) s_13_2 (by decide)
  have n_3 := lv_neT (a := 3) s_13_3 (by decide)
  have n_4 := lv_neT (a := 4) s_13_4 (by decide)
  have n_5 := lv_neT (a := 5) s_13_5 (by decide)
  have n_6 := lv_neT (a := 6) s_13_6 (by decide)
  have n_7 := lv_neT (a := 7) s_13_7 (by decide)
  have n_8 := lv_neT (a := 8) s_13_8 (by decide)
  have n_9 := lv_neT (a := 9) s_13_9 (by decide)
  have n_10 := lv_neT (a := 10) s_13_10 (by decide)
  have n_11 := lv_neT (a := 11) s_13_11 (by decide)
  have n_12 := lv_neT (a := 12) s_13_12 (by decide)
  have n_13 := lv_neT (a := 13) s_13_13 (by decide)
  have n_14 := lv_neT (a := 14) s_13_14 (by decide)
  omega
end
