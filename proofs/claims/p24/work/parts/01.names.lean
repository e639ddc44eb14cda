def RX0 : String := "ToldDrops$Gauge"
def TX0 : u_T := fun k => match k with
  | 0 => ("ToldDrops$Gauge", "mouth", "I", false)
  | 1 => ("ToldDrops$Gauge", "cup", "I", false)
  | 2 => ("ToldDrops$Gauge", "share", "I", false)
  | 3 => ("ToldDrops$Gauge", "way", "I", false)
  | 4 => ("ToldDrops$Gauge", "drops", "I", false)
  | 5 => ("ToldDrops$Gauge", "tips", "I", false)
  | 6 => ("ToldDrops$Gauge", "caught", "I", false)
  | 7 => ("ToldDrops$Gauge", "poured", "I", false)
  | _ => ("ToldDrops$Gauge", "page", "LToldDrops$Page;", true)
def tyX0 : Nat → FieldType := fun k => match k with
  | 0 => .int
  | 1 => .int
  | 2 => .int
  | 3 => .int
  | 4 => .int
  | 5 => .int
  | 6 => .int
  | 7 => .int
  | _ => .object "ToldDrops$Page"
theorem nmX0 : ∀ a, a < 9 → ∀ b, b < 9 → a ≠ b → (TX0 a).2.1 ≠ (TX0 b).2.1 := by decide +kernel
theorem tyX0_ok : ∀ k, k < 9 → parseFieldDescriptor (TX0 k).2.2.1 = some (tyX0 k) := by decide +kernel
abbrev cX0_init : ByteArray := prog_2_method_1_code
def yX0_init : MethodName := ⟨RX0, "<init>", "(I)V"⟩
abbrev cX0_copyFrom : ByteArray := prog_2_method_2_code
def yX0_copyFrom : MethodName := ⟨RX0, "copyFrom", "(LToldDrops$Gauge;)V"⟩
abbrev cX0_catchRain : ByteArray := prog_2_method_3_code
def yX0_catchRain : MethodName := ⟨RX0, "catchRain", "(I)I"⟩
abbrev cX0_gap : ByteArray := prog_2_method_4_code
def yX0_gap : MethodName := ⟨RX0, "gap", "()I"⟩
abbrev cX0_untold : ByteArray := prog_2_method_5_code
def yX0_untold : MethodName := ⟨RX0, "untold", "()I"⟩
def RX1 : String := "ToldDrops$History"
def TX1 : u_T := fun k => match k with
  | 0 => ("ToldDrops$History", "states", "[LToldDrops$Valley;", true)
  | _ => ("ToldDrops$History", "size", "I", false)
def tyX1 : Nat → FieldType := fun k => match k with
  | 0 => .array (.object "ToldDrops$Valley")
  | _ => .int
theorem nmX1 : ∀ a, a < 2 → ∀ b, b < 2 → a ≠ b → (TX1 a).2.1 ≠ (TX1 b).2.1 := by decide +kernel
theorem tyX1_ok : ∀ k, k < 2 → parseFieldDescriptor (TX1 k).2.2.1 = some (tyX1 k) := by decide +kernel
abbrev cX1_init : ByteArray := prog_3_method_1_code
def yX1_init : MethodName := ⟨RX1, "<init>", "()V"⟩
abbrev cX1_record : ByteArray := prog_3_method_2_code
def yX1_record : MethodName := ⟨RX1, "record", "(LToldDrops$Valley;)V"⟩
abbrev cX1_takeBack : ByteArray := prog_3_method_3_code
def yX1_takeBack : MethodName := ⟨RX1, "takeBack", "(LToldDrops$Valley;)Z"⟩
abbrev cX1_dropOldest : ByteArray := prog_3_method_4_code
def yX1_dropOldest : MethodName := ⟨RX1, "dropOldest", "()V"⟩
def RX2 : String := "ToldDrops$OrderReader"
def TX2 : u_T := fun k => match k with
  | 0 => ("ToldDrops$OrderReader", "pad", "LToldDrops$Pad;", true)
  | 1 => ("ToldDrops$OrderReader", "at", "I", false)
  | 2 => ("ToldDrops$OrderReader", "kind", "C", false)
  | 3 => ("ToldDrops$OrderReader", "amount", "I", false)
  | 4 => ("ToldDrops$OrderReader", "hours", "I", false)
  | _ => ("ToldDrops$OrderReader", "gauge", "I", false)
def tyX2 : Nat → FieldType := fun k => match k with
  | 0 => .object "ToldDrops$Pad"
  | 1 => .int
  | 2 => .char
  | 3 => .int
  | 4 => .int
  | _ => .int
theorem nmX2 : ∀ a, a < 6 → ∀ b, b < 6 → a ≠ b → (TX2 a).2.1 ≠ (TX2 b).2.1 := by decide +kernel
theorem tyX2_ok : ∀ k, k < 6 → parseFieldDescriptor (TX2 k).2.2.1 = some (tyX2 k) := by decide +kernel
abbrev cX2_init : ByteArray := prog_4_method_1_code
def yX2_init : MethodName := ⟨RX2, "<init>", "(LToldDrops$Pad;)V"⟩
def RX3 : String := "ToldDrops$Pad"
def TX3 : u_T := fun k => match k with
  | 0 => ("ToldDrops$Pad", "signs", "[C", true)
  | _ => ("ToldDrops$Pad", "length", "I", false)
def tyX3 : Nat → FieldType := fun k => match k with
  | 0 => .array .char
  | _ => .int
theorem nmX3 : ∀ a, a < 2 → ∀ b, b < 2 → a ≠ b → (TX3 a).2.1 ≠ (TX3 b).2.1 := by decide +kernel
theorem tyX3_ok : ∀ k, k < 2 → parseFieldDescriptor (TX3 k).2.2.1 = some (tyX3 k) := by decide +kernel
abbrev cX3_init : ByteArray := prog_5_method_1_code
def yX3_init : MethodName := ⟨RX3, "<init>", "()V"⟩
def RX4 : String := "ToldDrops$Page"
def TX4 : u_T := fun k => match k with
  | 0 => ("ToldDrops$Page", "told", "I", false)
  | 1 => ("ToldDrops$Page", "latestHour", "I", false)
  | 2 => ("ToldDrops$Page", "latestTips", "I", false)
  | 3 => ("ToldDrops$Page", "latestVillageCaught", "I", false)
  | 4 => ("ToldDrops$Page", "taken", "I", false)
  | 5 => ("ToldDrops$Page", "tooLate", "I", false)
  | 6 => ("ToldDrops$Page", "toldTwice", "I", false)
  | _ => ("ToldDrops$Page", "lost", "I", false)
def tyX4 : Nat → FieldType := fun k => match k with
  | 0 => .int
  | 1 => .int
  | 2 => .int
  | 3 => .int
  | 4 => .int
  | 5 => .int
  | 6 => .int
  | _ => .int
theorem nmX4 : ∀ a, a < 8 → ∀ b, b < 8 → a ≠ b → (TX4 a).2.1 ≠ (TX4 b).2.1 := by decide +kernel
theorem tyX4_ok : ∀ k, k < 8 → parseFieldDescriptor (TX4 k).2.2.1 = some (tyX4 k) := by decide +kernel
abbrev cX4_init : ByteArray := prog_6_method_1_code
def yX4_init : MethodName := ⟨RX4, "<init>", "()V"⟩
abbrev cX4_copyFrom : ByteArray := prog_6_method_2_code
def yX4_copyFrom : MethodName := ⟨RX4, "copyFrom", "(LToldDrops$Page;)V"⟩
def RX5 : String := "ToldDrops$Runner"
def TX5 : u_T := fun k => match k with
  | 0 => ("ToldDrops$Runner", "gauge", "I", false)
  | 1 => ("ToldDrops$Runner", "tips", "I", false)
  | 2 => ("ToldDrops$Runner", "hour", "I", false)
  | 3 => ("ToldDrops$Runner", "villageCaught", "I", false)
  | _ => ("ToldDrops$Runner", "hoursLeft", "I", false)
def tyX5 : Nat → FieldType := fun k => match k with
  | 0 => .int
  | 1 => .int
  | 2 => .int
  | 3 => .int
  | _ => .int
theorem nmX5 : ∀ a, a < 5 → ∀ b, b < 5 → a ≠ b → (TX5 a).2.1 ≠ (TX5 b).2.1 := by decide +kernel
theorem tyX5_ok : ∀ k, k < 5 → parseFieldDescriptor (TX5 k).2.2.1 = some (tyX5 k) := by decide +kernel
abbrev cX5_init : ByteArray := prog_7_method_1_code
def yX5_init : MethodName := ⟨RX5, "<init>", "()V"⟩
abbrev cX5_copyFrom : ByteArray := prog_7_method_2_code
def yX5_copyFrom : MethodName := ⟨RX5, "copyFrom", "(LToldDrops$Runner;)V"⟩
def RX6 : String := "ToldDrops$Valley"
def TX6 : u_T := fun k => match k with
  | 0 => ("ToldDrops$Valley", "wheel", "I", false)
  | 1 => ("ToldDrops$Valley", "guess", "I", false)
  | 2 => ("ToldDrops$Valley", "hours", "I", false)
  | 3 => ("ToldDrops$Valley", "onTheWay", "I", false)
  | 4 => ("ToldDrops$Valley", "gauges", "[LToldDrops$Gauge;", true)
  | _ => ("ToldDrops$Valley", "runners", "[LToldDrops$Runner;", true)
def tyX6 : Nat → FieldType := fun k => match k with
  | 0 => .int
  | 1 => .int
  | 2 => .int
  | 3 => .int
  | 4 => .array (.object "ToldDrops$Gauge")
  | _ => .array (.object "ToldDrops$Runner")
theorem nmX6 : ∀ a, a < 6 → ∀ b, b < 6 → a ≠ b → (TX6 a).2.1 ≠ (TX6 b).2.1 := by decide +kernel
theorem tyX6_ok : ∀ k, k < 6 → parseFieldDescriptor (TX6 k).2.2.1 = some (tyX6 k) := by decide +kernel
abbrev cX6_init : ByteArray := prog_8_method_1_code
def yX6_init : MethodName := ⟨RX6, "<init>", "()V"⟩
abbrev cX6_copyFrom : ByteArray := prog_8_method_2_code
def yX6_copyFrom : MethodName := ⟨RX6, "copyFrom", "(LToldDrops$Valley;)V"⟩
abbrev cX6_gaugeAt : ByteArray := prog_8_method_3_code
def yX6_gaugeAt : MethodName := ⟨RX6, "gaugeAt", "(I)LToldDrops$Gauge;"⟩
abbrev cX6_runnerAt : ByteArray := prog_8_method_4_code
def yX6_runnerAt : MethodName := ⟨RX6, "runnerAt", "(I)LToldDrops$Runner;"⟩
abbrev cX6_isFull : ByteArray := prog_8_method_5_code
def yX6_isFull : MethodName := ⟨RX6, "isFull", "()Z"⟩
abbrev cX6_hasTimeFor : ByteArray := prog_8_method_6_code
def yX6_hasTimeFor : MethodName := ⟨RX6, "hasTimeFor", "(I)Z"⟩
abbrev cX6_wheelAt : ByteArray := prog_8_method_7_code
def yX6_wheelAt : MethodName := ⟨RX6, "wheelAt", "(I)I"⟩
abbrev cX6_changeWheels : ByteArray := prog_8_method_8_code
def yX6_changeWheels : MethodName := ⟨RX6, "changeWheels", "(I)V"⟩
abbrev cX6_passHours : ByteArray := prog_8_method_9_code
def yX6_passHours : MethodName := ⟨RX6, "passHours", "(II)I"⟩
abbrev cX6_moveRunners : ByteArray := prog_8_method_10_code
def yX6_moveRunners : MethodName := ⟨RX6, "moveRunners", "()V"⟩
abbrev cX6_sendRunner : ByteArray := prog_8_method_11_code
def yX6_sendRunner : MethodName := ⟨RX6, "sendRunner", "(I)I"⟩
abbrev cX6_addSecondOf : ByteArray := prog_8_method_12_code
def yX6_addSecondOf : MethodName := ⟨RX6, "addSecondOf", "(LToldDrops$Runner;)V"⟩
abbrev cX6_addRunner : ByteArray := prog_8_method_13_code
def yX6_addRunner : MethodName := ⟨RX6, "addRunner", "()LToldDrops$Runner;"⟩
abbrev cX6_removeRunner : ByteArray := prog_8_method_14_code
def yX6_removeRunner : MethodName := ⟨RX6, "removeRunner", "(I)V"⟩
abbrev cX6_countAsLost : ByteArray := prog_8_method_15_code
def yX6_countAsLost : MethodName := ⟨RX6, "countAsLost", "(LToldDrops$Runner;)V"⟩
abbrev cX6_longestWay : ByteArray := prog_8_method_16_code
def yX6_longestWay : MethodName := ⟨RX6, "longestWay", "()I"⟩
abbrev cX6_hear : ByteArray := prog_8_method_17_code
def yX6_hear : MethodName := ⟨RX6, "hear", "(LToldDrops$Runner;)V"⟩
abbrev cX6_wentOn : ByteArray := prog_8_method_18_code
def yX6_wentOn : MethodName := ⟨RX6, "wentOn", "(LToldDrops$Gauge;LToldDrops$Runner;)I"⟩
abbrev cX6_expectedTips : ByteArray := prog_8_method_19_code
def yX6_expectedTips : MethodName := ⟨RX6, "expectedTips", "(LToldDrops$Gauge;LToldDrops$Runner;)I"⟩
abbrev cX6_roundsFor : ByteArray := prog_8_method_20_code
def yX6_roundsFor : MethodName := ⟨RX6, "roundsFor", "(I)I"⟩
abbrev cX6_factOf : ByteArray := prog_8_method_21_code
def yX6_factOf : MethodName := ⟨RX6, "factOf", "(LToldDrops$Gauge;I)I"⟩
abbrev cX6_sumOf : ByteArray := prog_8_method_22_code
def yX6_sumOf : MethodName := ⟨RX6, "sumOf", "(I)I"⟩
abbrev cX6_sumOfTold : ByteArray := prog_8_method_23_code
def yX6_sumOfTold : MethodName := ⟨RX6, "sumOfTold", "()I"⟩
abbrev cX6_gaugesWithGap : ByteArray := prog_8_method_24_code
def yX6_gaugesWithGap : MethodName := ⟨RX6, "gaugesWithGap", "()I"⟩
def RX7 : String := "ToldDrops"
def TX7 : u_T := fun k => match k with
  | 0 => ("ToldDrops", "now", "LToldDrops$Valley;", true)
  | 1 => ("ToldDrops", "trial", "LToldDrops$Valley;", true)
  | 2 => ("ToldDrops", "history", "LToldDrops$History;", true)
  | 3 => ("ToldDrops", "slots", "[LToldDrops$Valley;", true)
  | 4 => ("ToldDrops", "saved", "[Z", true)
  | 5 => ("ToldDrops", "pad", "LToldDrops$Pad;", true)
  | _ => ("ToldDrops", "reader", "LToldDrops$OrderReader;", true)
def tyX7 : Nat → FieldType := fun k => match k with
  | 0 => .object "ToldDrops$Valley"
  | 1 => .object "ToldDrops$Valley"
  | 2 => .object "ToldDrops$History"
  | 3 => .array (.object "ToldDrops$Valley")
  | 4 => .array .boolean
  | 5 => .object "ToldDrops$Pad"
  | _ => .object "ToldDrops$OrderReader"
theorem nmX7 : ∀ a, a < 7 → ∀ b, b < 7 → a ≠ b → (TX7 a).2.1 ≠ (TX7 b).2.1 := by decide +kernel
theorem tyX7_ok : ∀ k, k < 7 → parseFieldDescriptor (TX7 k).2.2.1 = some (tyX7 k) := by decide +kernel
abbrev cX7_init : ByteArray := prog_1_method_1_code
def yX7_init : MethodName := ⟨RX7, "<init>", "()V"⟩
abbrev cX7_set : ByteArray := prog_1_method_2_code
def yX7_set : MethodName := ⟨RX7, "set", "(II)I"⟩
abbrev cX7_gauge : ByteArray := prog_1_method_3_code
def yX7_gauge : MethodName := ⟨RX7, "gauge", "(IIIII)I"⟩
abbrev cX7_rain : ByteArray := prog_1_method_4_code
def yX7_rain : MethodName := ⟨RX7, "rain", "(II)I"⟩
abbrev cX7_send : ByteArray := prog_1_method_5_code
def yX7_send : MethodName := ⟨RX7, "send", "(I)I"⟩
abbrev cX7_lose : ByteArray := prog_1_method_6_code
def yX7_lose : MethodName := ⟨RX7, "lose", "(I)I"⟩
abbrev cX7_twice : ByteArray := prog_1_method_7_code
def yX7_twice : MethodName := ⟨RX7, "twice", "(I)I"⟩
abbrev cX7_gaugeOf : ByteArray := prog_1_method_9_code
def yX7_gaugeOf : MethodName := ⟨RX7, "gaugeOf", "(II)I"⟩
abbrev cX7_ledger : ByteArray := prog_1_method_10_code
def yX7_ledger : MethodName := ⟨RX7, "ledger", "(II)I"⟩
abbrev cX7_runner : ByteArray := prog_1_method_11_code
def yX7_runner : MethodName := ⟨RX7, "runner", "(II)I"⟩
abbrev cX7_count : ByteArray := prog_1_method_12_code
def yX7_count : MethodName := ⟨RX7, "count", "(I)I"⟩
abbrev cX7_untilRound : ByteArray := prog_1_method_13_code
def yX7_untilRound : MethodName := ⟨RX7, "untilRound", "(II)I"⟩
abbrev cX7_ifSent : ByteArray := prog_1_method_14_code
def yX7_ifSent : MethodName := ⟨RX7, "ifSent", "(I)I"⟩
abbrev cX7_ifAllCome : ByteArray := prog_1_method_15_code
def yX7_ifAllCome : MethodName := ⟨RX7, "ifAllCome", "(I)I"⟩
abbrev cX7_mostUntold : ByteArray := prog_1_method_16_code
def yX7_mostUntold : MethodName := ⟨RX7, "mostUntold", "()I"⟩
abbrev cX7_undo : ByteArray := prog_1_method_20_code
def yX7_undo : MethodName := ⟨RX7, "undo", "()I"⟩
abbrev cX7_within : ByteArray := prog_1_method_23_code
def yX7_within : MethodName := ⟨RX7, "within", "(III)Z"⟩
def RX8 : String := "ToldDropsModel"
def TX8 : u_T := fun k => match k with
  | _ => ("", "", "", false)
def tyX8 : Nat → FieldType := fun k => match k with
  | _ => .int
theorem nmX8 : ∀ a, a < 0 → ∀ b, b < 0 → a ≠ b → (TX8 a).2.1 ≠ (TX8 b).2.1 := by decide +kernel
theorem tyX8_ok : ∀ k, k < 0 → parseFieldDescriptor (TX8 k).2.2.1 = some (tyX8 k) := by decide +kernel
def RL : String := "ToldDropsLaw"
abbrev cL_cell : ByteArray := method_2_code
def yL_cell : MethodName := ⟨RL, "cell", "([II)I"⟩
abbrev cL_low : ByteArray := method_3_code
def yL_low : MethodName := ⟨RL, "low", "(II)I"⟩
abbrev cL_does : ByteArray := method_4_code
def yL_does : MethodName := ⟨RL, "does", "(LToldDrops;I)I"⟩
abbrev cL_isValleySo : ByteArray := method_5_code
def yL_isValleySo : MethodName := ⟨RL, "isValleySo", "(LToldDrops;)Z"⟩
abbrev cL_isSentSo : ByteArray := method_6_code
def yL_isSentSo : MethodName := ⟨RL, "isSentSo", "(LToldDrops;I)Z"⟩
abbrev cL_isAllSo : ByteArray := method_7_code
def yL_isAllSo : MethodName := ⟨RL, "isAllSo", "(LToldDrops;I)Z"⟩
abbrev cL_isRoundSo : ByteArray := method_8_code
def yL_isRoundSo : MethodName := ⟨RL, "isRoundSo", "(LToldDrops;II)Z"⟩
abbrev cL_law : ByteArray := code
def yL_law : MethodName := ⟨RL, "law", "([I)Z"⟩
abbrev vwCl : List vw_C := [(RX0, TX0, 9), (RX1, TX1, 2), (RX2, TX2, 6), (RX3, TX3, 2), (RX4, TX4, 8), (RX5, TX5, 5), (RX6, TX6, 6), (RX7, TX7, 7)]
