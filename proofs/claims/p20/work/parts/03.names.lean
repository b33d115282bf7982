def RX0 : String := "RoomForecast$Cleanings"
def TX0 : u_T := fun k => match k with
  | 0 => ("RoomForecast$Cleanings", "sizes", "[I", true)
  | 1 => ("RoomForecast$Cleanings", "count", "I", false)
  | _ => ("RoomForecast$Cleanings", "freedInAll", "I", false)
def tyX0 : Nat → FieldType := fun k => match k with
  | 0 => .array .int
  | 1 => .int
  | _ => .int
abbrev wsX00 : List Cond := u_ws RX0 TX0 3
theorem nmX0 : ∀ a, a < 3 → ∀ b, b < 3 → a ≠ b → (TX0 a).2.1 ≠ (TX0 b).2.1 := by decide +kernel
theorem tyX0_ok : ∀ k, k < 3 → parseFieldDescriptor (TX0 k).2.2.1 = some (tyX0 k) := by decide +kernel
abbrev cX0_init : ByteArray := prog_2_method_1_code
def yX0_init : MethodName := ⟨RX0, "<init>", "()V"⟩
abbrev cX0_number : ByteArray := prog_2_method_2_code
def yX0_number : MethodName := ⟨RX0, "number", "()I"⟩
abbrev cX0_freedInAll : ByteArray := prog_2_method_3_code
def yX0_freedInAll : MethodName := ⟨RX0, "freedInAll", "()I"⟩
abbrev cX0_put : ByteArray := prog_2_method_4_code
def yX0_put : MethodName := ⟨RX0, "put", "(I)V"⟩
abbrev cX0_usualSize : ByteArray := prog_2_method_5_code
def yX0_usualSize : MethodName := ⟨RX0, "usualSize", "()I"⟩
def RX1 : String := "RoomForecast$Line"
def TX1 : u_T := fun k => match k with
  | 0 => ("RoomForecast$Line", "startDay", "I", false)
  | 1 => ("RoomForecast$Line", "startUsed", "I", false)
  | 2 => ("RoomForecast$Line", "rise", "I", false)
  | _ => ("RoomForecast$Line", "run", "I", false)
def tyX1 : Nat → FieldType := fun k => match k with
  | 0 => .int
  | 1 => .int
  | 2 => .int
  | _ => .int
abbrev wsX10 : List Cond := u_ws RX1 TX1 4
theorem nmX1 : ∀ a, a < 4 → ∀ b, b < 4 → a ≠ b → (TX1 a).2.1 ≠ (TX1 b).2.1 := by decide +kernel
theorem tyX1_ok : ∀ k, k < 4 → parseFieldDescriptor (TX1 k).2.2.1 = some (tyX1 k) := by decide +kernel
abbrev cX1_init : ByteArray := prog_3_method_1_code
def yX1_init : MethodName := ⟨RX1, "<init>", "()V"⟩
abbrev cX1_start : ByteArray := prog_3_method_2_code
def yX1_start : MethodName := ⟨RX1, "start", "(II)V"⟩
abbrev cX1_climb : ByteArray := prog_3_method_3_code
def yX1_climb : MethodName := ⟨RX1, "climb", "(II)V"⟩
abbrev cX1_heightOn : ByteArray := prog_3_method_4_code
def yX1_heightOn : MethodName := ⟨RX1, "heightOn", "(I)J"⟩
abbrev cX1_leastDaysToClimb : ByteArray := prog_3_method_5_code
def yX1_leastDaysToClimb : MethodName := ⟨RX1, "leastDaysToClimb", "(I)I"⟩
abbrev cX1_riseInLowestTerms : ByteArray := prog_3_method_6_code
def yX1_riseInLowestTerms : MethodName := ⟨RX1, "riseInLowestTerms", "()I"⟩
abbrev cX1_runInLowestTerms : ByteArray := prog_3_method_7_code
def yX1_runInLowestTerms : MethodName := ⟨RX1, "runInLowestTerms", "()I"⟩
abbrev cX1_commonDivisor : ByteArray := prog_3_method_8_code
def yX1_commonDivisor : MethodName := ⟨RX1, "commonDivisor", "()I"⟩
def RX2 : String := "RoomForecast$PairSlopes"
def TX2 : u_T := fun k => match k with
  | 0 => ("RoomForecast$PairSlopes", "rises", "[I", true)
  | 1 => ("RoomForecast$PairSlopes", "runs", "[I", true)
  | 2 => ("RoomForecast$PairSlopes", "earlier", "[I", true)
  | 3 => ("RoomForecast$PairSlopes", "later", "[I", true)
  | 4 => ("RoomForecast$PairSlopes", "count", "I", false)
  | _ => ("RoomForecast$PairSlopes", "sampleCount", "I", false)
def tyX2 : Nat → FieldType := fun k => match k with
  | 0 => .array .int
  | 1 => .array .int
  | 2 => .array .int
  | 3 => .array .int
  | 4 => .int
  | _ => .int
abbrev wsX20 : List Cond := u_ws RX2 TX2 6
theorem nmX2 : ∀ a, a < 6 → ∀ b, b < 6 → a ≠ b → (TX2 a).2.1 ≠ (TX2 b).2.1 := by decide +kernel
theorem tyX2_ok : ∀ k, k < 6 → parseFieldDescriptor (TX2 k).2.2.1 = some (tyX2 k) := by decide +kernel
abbrev cX2_init : ByteArray := prog_4_method_1_code
def yX2_init : MethodName := ⟨RX2, "<init>", "()V"⟩
abbrev cX2_orderAll : ByteArray := prog_4_method_2_code
def yX2_orderAll : MethodName := ⟨RX2, "orderAll", "(LRoomForecast$Samples;)V"⟩
abbrev cX2_putInOrder : ByteArray := prog_4_method_3_code
def yX2_putInOrder : MethodName := ⟨RX2, "putInOrder", "(LRoomForecast$Samples;II)V"⟩
abbrev cX2_isGreater : ByteArray := prog_4_method_4_code
def yX2_isGreater : MethodName := ⟨RX2, "isGreater", "(III)Z"⟩
abbrev cX2_middlePlaceWithout : ByteArray := prog_4_method_5_code
def yX2_middlePlaceWithout : MethodName := ⟨RX2, "middlePlaceWithout", "(I)I"⟩
abbrev cX2_numberWithout : ByteArray := prog_4_method_6_code
def yX2_numberWithout : MethodName := ⟨RX2, "numberWithout", "(I)I"⟩
abbrev cX2_isWithout : ByteArray := prog_4_method_7_code
def yX2_isWithout : MethodName := ⟨RX2, "isWithout", "(II)Z"⟩
abbrev cX2_riseAt : ByteArray := prog_4_method_8_code
def yX2_riseAt : MethodName := ⟨RX2, "riseAt", "(I)I"⟩
abbrev cX2_runAt : ByteArray := prog_4_method_9_code
def yX2_runAt : MethodName := ⟨RX2, "runAt", "(I)I"⟩
abbrev cX2_has : ByteArray := prog_4_method_10_code
def yX2_has : MethodName := ⟨RX2, "has", "(I)Z"⟩
def RX3 : String := "RoomForecast$Rule"
def TX3 : u_T := fun k => match k with
  | 0 => ("RoomForecast$Rule", "from", "I", false)
  | _ => ("RoomForecast$Rule", "every", "I", false)
def tyX3 : Nat → FieldType := fun k => match k with
  | 0 => .int
  | _ => .int
abbrev wsX30 : List Cond := u_ws RX3 TX3 2
theorem nmX3 : ∀ a, a < 2 → ∀ b, b < 2 → a ≠ b → (TX3 a).2.1 ≠ (TX3 b).2.1 := by decide +kernel
theorem tyX3_ok : ∀ k, k < 2 → parseFieldDescriptor (TX3 k).2.2.1 = some (tyX3 k) := by decide +kernel
abbrev cX3_init : ByteArray := prog_5_method_1_code
def yX3_init : MethodName := ⟨RX3, "<init>", "()V"⟩
abbrev cX3_change : ByteArray := prog_5_method_2_code
def yX3_change : MethodName := ⟨RX3, "change", "(II)V"⟩
abbrev cX3_daysWithin : ByteArray := prog_5_method_3_code
def yX3_daysWithin : MethodName := ⟨RX3, "daysWithin", "(II)I"⟩
abbrev cX3_daysUntil : ByteArray := prog_5_method_4_code
def yX3_daysUntil : MethodName := ⟨RX3, "daysUntil", "(I)I"⟩
def RX4 : String := "RoomForecast$Samples"
def TX4 : u_T := fun k => match k with
  | 0 => ("RoomForecast$Samples", "days", "[I", true)
  | 1 => ("RoomForecast$Samples", "used", "[I", true)
  | 2 => ("RoomForecast$Samples", "filled", "[I", true)
  | _ => ("RoomForecast$Samples", "count", "I", false)
def tyX4 : Nat → FieldType := fun k => match k with
  | 0 => .array .int
  | 1 => .array .int
  | 2 => .array .int
  | _ => .int
abbrev wsX40 : List Cond := u_ws RX4 TX4 4
theorem nmX4 : ∀ a, a < 4 → ∀ b, b < 4 → a ≠ b → (TX4 a).2.1 ≠ (TX4 b).2.1 := by decide +kernel
theorem tyX4_ok : ∀ k, k < 4 → parseFieldDescriptor (TX4 k).2.2.1 = some (tyX4 k) := by decide +kernel
abbrev cX4_init : ByteArray := prog_6_method_1_code
def yX4_init : MethodName := ⟨RX4, "<init>", "()V"⟩
abbrev cX4_number : ByteArray := prog_6_method_2_code
def yX4_number : MethodName := ⟨RX4, "number", "()I"⟩
abbrev cX4_put : ByteArray := prog_6_method_3_code
def yX4_put : MethodName := ⟨RX4, "put", "(III)V"⟩
abbrev cX4_addFreedOn : ByteArray := prog_6_method_4_code
def yX4_addFreedOn : MethodName := ⟨RX4, "addFreedOn", "(II)V"⟩
abbrev cX4_dayAt : ByteArray := prog_6_method_5_code
def yX4_dayAt : MethodName := ⟨RX4, "dayAt", "(I)I"⟩
abbrev cX4_usedAt : ByteArray := prog_6_method_6_code
def yX4_usedAt : MethodName := ⟨RX4, "usedAt", "(I)I"⟩
abbrev cX4_filledAt : ByteArray := prog_6_method_7_code
def yX4_filledAt : MethodName := ⟨RX4, "filledAt", "(I)I"⟩
abbrev cX4_lastPlaceWithout : ByteArray := prog_6_method_8_code
def yX4_lastPlaceWithout : MethodName := ⟨RX4, "lastPlaceWithout", "(I)I"⟩
abbrev cX4_has : ByteArray := prog_6_method_9_code
def yX4_has : MethodName := ⟨RX4, "has", "(I)Z"⟩
abbrev cX4_lastIsOf : ByteArray := prog_6_method_10_code
def yX4_lastIsOf : MethodName := ⟨RX4, "lastIsOf", "(I)Z"⟩
abbrev cX4_openLastPlace : ByteArray := prog_6_method_11_code
def yX4_openLastPlace : MethodName := ⟨RX4, "openLastPlace", "()V"⟩
def RX5 : String := "RoomForecast$Store"
def TX5 : u_T := fun k => match k with
  | 0 => ("RoomForecast$Store", "samples", "LRoomForecast$Samples;", true)
  | 1 => ("RoomForecast$Store", "slopes", "LRoomForecast$PairSlopes;", true)
  | 2 => ("RoomForecast$Store", "cleanings", "LRoomForecast$Cleanings;", true)
  | 3 => ("RoomForecast$Store", "rule", "LRoomForecast$Rule;", true)
  | 4 => ("RoomForecast$Store", "line", "LRoomForecast$Line;", true)
  | 5 => ("RoomForecast$Store", "warning", "LRoomForecast$Warning;", true)
  | _ => ("RoomForecast$Store", "size", "I", false)
def tyX5 : Nat → FieldType := fun k => match k with
  | 0 => .object "RoomForecast$Samples"
  | 1 => .object "RoomForecast$PairSlopes"
  | 2 => .object "RoomForecast$Cleanings"
  | 3 => .object "RoomForecast$Rule"
  | 4 => .object "RoomForecast$Line"
  | 5 => .object "RoomForecast$Warning"
  | _ => .int
abbrev wsX50 : List Cond := u_ws RX5 TX5 7
theorem nmX5 : ∀ a, a < 7 → ∀ b, b < 7 → a ≠ b → (TX5 a).2.1 ≠ (TX5 b).2.1 := by decide +kernel
theorem tyX5_ok : ∀ k, k < 7 → parseFieldDescriptor (TX5 k).2.2.1 = some (tyX5 k) := by decide +kernel
abbrev cX5_init : ByteArray := prog_7_method_1_code
def yX5_init : MethodName := ⟨RX5, "<init>", "(I)V"⟩
abbrev cX5_tellUsed : ByteArray := prog_7_method_2_code
def yX5_tellUsed : MethodName := ⟨RX5, "tellUsed", "(II)V"⟩
abbrev cX5_tellFreed : ByteArray := prog_7_method_3_code
def yX5_tellFreed : MethodName := ⟨RX5, "tellFreed", "(II)V"⟩
abbrev cX5_hasSlope : ByteArray := prog_7_method_4_code
def yX5_hasSlope : MethodName := ⟨RX5, "hasSlope", "()Z"⟩
abbrev cX5_drawLineWithout : ByteArray := prog_7_method_5_code
def yX5_drawLineWithout : MethodName := ⟨RX5, "drawLineWithout", "(I)V"⟩
abbrev cX5_roomOn : ByteArray := prog_7_method_6_code
def yX5_roomOn : MethodName := ⟨RX5, "roomOn", "(I)I"⟩
abbrev cX5_fullDay : ByteArray := prog_7_method_7_code
def yX5_fullDay : MethodName := ⟨RX5, "fullDay", "()I"⟩
abbrev cX5_fullDayWithout : ByteArray := prog_7_method_8_code
def yX5_fullDayWithout : MethodName := ⟨RX5, "fullDayWithout", "(I)I"⟩
abbrev cX5_earlyBound : ByteArray := prog_7_method_9_code
def yX5_earlyBound : MethodName := ⟨RX5, "earlyBound", "()I"⟩
abbrev cX5_lateBound : ByteArray := prog_7_method_10_code
def yX5_lateBound : MethodName := ⟨RX5, "lateBound", "()I"⟩
abbrev cX5_lookOnDaysAfter : ByteArray := prog_7_method_11_code
def yX5_lookOnDaysAfter : MethodName := ⟨RX5, "lookOnDaysAfter", "(II)I"⟩
def RX6 : String := "RoomForecast$Warning"
def TX6 : u_T := fun k => match k with
  | 0 => ("RoomForecast$Warning", "on", "Z", false)
  | _ => ("RoomForecast$Warning", "wasNear", "Z", false)
def tyX6 : Nat → FieldType := fun k => match k with
  | 0 => .boolean
  | _ => .boolean
abbrev wsX60 : List Cond := u_ws RX6 TX6 2
theorem nmX6 : ∀ a, a < 2 → ∀ b, b < 2 → a ≠ b → (TX6 a).2.1 ≠ (TX6 b).2.1 := by decide +kernel
theorem tyX6_ok : ∀ k, k < 2 → parseFieldDescriptor (TX6 k).2.2.1 = some (tyX6 k) := by decide +kernel
abbrev cX6_init : ByteArray := prog_8_method_1_code
def yX6_init : MethodName := ⟨RX6, "<init>", "()V"⟩
abbrev cX6_lookChanges : ByteArray := prog_8_method_2_code
def yX6_lookChanges : MethodName := ⟨RX6, "lookChanges", "(II)Z"⟩
def RX7 : String := "RoomForecast"
def TX7 : u_T := fun k => match k with
  | 0 => ("RoomForecast", "stores", "Ljava/util/ArrayList;", true)
  | _ => ("RoomForecast", "currentDay", "I", false)
def tyX7 : Nat → FieldType := fun k => match k with
  | 0 => .object "java/util/ArrayList"
  | _ => .int
abbrev wsX70 : List Cond := u_ws RX7 TX7 2
theorem nmX7 : ∀ a, a < 2 → ∀ b, b < 2 → a ≠ b → (TX7 a).2.1 ≠ (TX7 b).2.1 := by decide +kernel
theorem tyX7_ok : ∀ k, k < 2 → parseFieldDescriptor (TX7 k).2.2.1 = some (tyX7 k) := by decide +kernel
abbrev cX7_init : ByteArray := prog_1_method_1_code
def yX7_init : MethodName := ⟨RX7, "<init>", "()V"⟩
abbrev cX7_addStore : ByteArray := prog_1_method_2_code
def yX7_addStore : MethodName := ⟨RX7, "addStore", "(I)I"⟩
abbrev cX7_setSize : ByteArray := prog_1_method_3_code
def yX7_setSize : MethodName := ⟨RX7, "setSize", "(II)I"⟩
abbrev cX7_sample : ByteArray := prog_1_method_4_code
def yX7_sample : MethodName := ⟨RX7, "sample", "(II)I"⟩
abbrev cX7_clean : ByteArray := prog_1_method_5_code
def yX7_clean : MethodName := ⟨RX7, "clean", "(II)I"⟩
abbrev cX7_setRule : ByteArray := prog_1_method_6_code
def yX7_setRule : MethodName := ⟨RX7, "setRule", "(III)V"⟩
abbrev cX7_pass : ByteArray := prog_1_method_7_code
def yX7_pass : MethodName := ⟨RX7, "pass", "(I)I"⟩
abbrev cX7_today : ByteArray := prog_1_method_8_code
def yX7_today : MethodName := ⟨RX7, "today", "()I"⟩
abbrev cX7_samples : ByteArray := prog_1_method_9_code
def yX7_samples : MethodName := ⟨RX7, "samples", "(I)I"⟩
abbrev cX7_slopeNumerator : ByteArray := prog_1_method_10_code
def yX7_slopeNumerator : MethodName := ⟨RX7, "slopeNumerator", "(I)I"⟩
abbrev cX7_slopeDenominator : ByteArray := prog_1_method_11_code
def yX7_slopeDenominator : MethodName := ⟨RX7, "slopeDenominator", "(I)I"⟩
abbrev cX7_usual : ByteArray := prog_1_method_12_code
def yX7_usual : MethodName := ⟨RX7, "usual", "(I)I"⟩
abbrev cX7_forecast : ByteArray := prog_1_method_13_code
def yX7_forecast : MethodName := ⟨RX7, "forecast", "(II)I"⟩
abbrev cX7_full : ByteArray := prog_1_method_14_code
def yX7_full : MethodName := ⟨RX7, "full", "(I)I"⟩
abbrev cX7_early : ByteArray := prog_1_method_15_code
def yX7_early : MethodName := ⟨RX7, "early", "(I)I"⟩
abbrev cX7_late : ByteArray := prog_1_method_16_code
def yX7_late : MethodName := ⟨RX7, "late", "(I)I"⟩
abbrev cX7_warns : ByteArray := prog_1_method_17_code
def yX7_warns : MethodName := ⟨RX7, "warns", "(I)Z"⟩
abbrev cX7_poolFull : ByteArray := prog_1_method_18_code
def yX7_poolFull : MethodName := ⟨RX7, "poolFull", "(I)I"⟩
abbrev cX7_demandRange : ByteArray := prog_1_method_19_code
def yX7_demandRange : MethodName := ⟨RX7, "demandRange", "(III)V"⟩
abbrev cX7_storeAt : ByteArray := prog_1_method_20_code
def yX7_storeAt : MethodName := ⟨RX7, "storeAt", "(I)LRoomForecast$Store;"⟩
abbrev cX7_slopeOf : ByteArray := prog_1_method_21_code
def yX7_slopeOf : MethodName := ⟨RX7, "slopeOf", "(I)LRoomForecast$Line;"⟩
abbrev cX7_dayOrNone : ByteArray := prog_1_method_22_code
def yX7_dayOrNone : MethodName := ⟨RX7, "dayOrNone", "(I)I"⟩
abbrev cX7_middlePlace : ByteArray := prog_1_method_23_code
def yX7_middlePlace : MethodName := ⟨RX7, "middlePlace", "(I)I"⟩
abbrev cX7_isInPool : ByteArray := prog_1_method_24_code
def yX7_isInPool : MethodName := ⟨RX7, "isInPool", "(II)Z"⟩
abbrev cX7_drawPool : ByteArray := prog_1_method_25_code
def yX7_drawPool : MethodName := ⟨RX7, "drawPool", "(I)Z"⟩
abbrev cX7_poolSize : ByteArray := prog_1_method_26_code
def yX7_poolSize : MethodName := ⟨RX7, "poolSize", "(I)J"⟩
abbrev cX7_poolRoomOn : ByteArray := prog_1_method_27_code
def yX7_poolRoomOn : MethodName := ⟨RX7, "poolRoomOn", "(II)J"⟩
def RX8 : String := "RoomForecastModel"
def TX8 : u_T := fun k => match k with
  | _ => ("", "", "", false)
def tyX8 : Nat → FieldType := fun k => match k with
  | _ => .int
abbrev wsX80 : List Cond := u_ws RX8 TX8 0
theorem nmX8 : ∀ a, a < 0 → ∀ b, b < 0 → a ≠ b → (TX8 a).2.1 ≠ (TX8 b).2.1 := by decide +kernel
theorem tyX8_ok : ∀ k, k < 0 → parseFieldDescriptor (TX8 k).2.2.1 = some (tyX8 k) := by decide +kernel
def RJx145de : String := "java/io/Serializable"
def TJx145de : u_T := fun k => match k with
  | _ => ("", "", "", false)
def tyJx145de : Nat → FieldType := fun k => match k with
  | _ => .int
abbrev wsJx145de0 : List Cond := u_ws RJx145de TJx145de 0
theorem nmJx145de : ∀ a, a < 0 → ∀ b, b < 0 → a ≠ b → (TJx145de a).2.1 ≠ (TJx145de b).2.1 := by decide +kernel
theorem tyJx145de_ok : ∀ k, k < 0 → parseFieldDescriptor (TJx145de k).2.2.1 = some (tyJx145de k) := by decide +kernel
def RJx8e188 : String := "java/lang/Cloneable"
def TJx8e188 : u_T := fun k => match k with
  | _ => ("", "", "", false)
def tyJx8e188 : Nat → FieldType := fun k => match k with
  | _ => .int
abbrev wsJx8e1880 : List Cond := u_ws RJx8e188 TJx8e188 0
theorem nmJx8e188 : ∀ a, a < 0 → ∀ b, b < 0 → a ≠ b → (TJx8e188 a).2.1 ≠ (TJx8e188 b).2.1 := by decide +kernel
theorem tyJx8e188_ok : ∀ k, k < 0 → parseFieldDescriptor (TJx8e188 k).2.2.1 = some (tyJx8e188 k) := by decide +kernel
def RJxab1ab : String := "java/lang/Iterable"
def TJxab1ab : u_T := fun k => match k with
  | _ => ("", "", "", false)
def tyJxab1ab : Nat → FieldType := fun k => match k with
  | _ => .int
abbrev wsJxab1ab0 : List Cond := u_ws RJxab1ab TJxab1ab 0
theorem nmJxab1ab : ∀ a, a < 0 → ∀ b, b < 0 → a ≠ b → (TJxab1ab a).2.1 ≠ (TJxab1ab b).2.1 := by decide +kernel
theorem tyJxab1ab_ok : ∀ k, k < 0 → parseFieldDescriptor (TJxab1ab k).2.2.1 = some (tyJxab1ab k) := by decide +kernel
def RJ9 : String := "java/lang/Math"
def TJ9 : u_T := fun k => match k with
  | _ => ("", "", "", false)
def tyJ9 : Nat → FieldType := fun k => match k with
  | _ => .int
abbrev wsJ90 : List Cond := u_ws RJ9 TJ9 0
theorem nmJ9 : ∀ a, a < 0 → ∀ b, b < 0 → a ≠ b → (TJ9 a).2.1 ≠ (TJ9 b).2.1 := by decide +kernel
theorem tyJ9_ok : ∀ k, k < 0 → parseFieldDescriptor (TJ9 k).2.2.1 = some (tyJ9 k) := by decide +kernel
abbrev cJ9_floorDiv_f86c9 : ByteArray := prog_18_method_49_code
def yJ9_floorDiv_f86c9 : MethodName := ⟨RJ9, "floorDiv", "(JJ)J"⟩
abbrev cJ9_abs_0f7a4 : ByteArray := prog_18_method_59_code
def yJ9_abs_0f7a4 : MethodName := ⟨RJ9, "abs", "(I)I"⟩
abbrev cJ9_max_7cf53 : ByteArray := prog_18_method_65_code
def yJ9_max_7cf53 : MethodName := ⟨RJ9, "max", "(II)I"⟩
abbrev cJ9_max_f86c9 : ByteArray := prog_18_method_66_code
def yJ9_max_f86c9 : MethodName := ⟨RJ9, "max", "(JJ)J"⟩
abbrev cJ9_min_7cf53 : ByteArray := prog_18_method_69_code
def yJ9_min_7cf53 : MethodName := ⟨RJ9, "min", "(II)I"⟩
abbrev cJ9_min_f86c9 : ByteArray := prog_18_method_70_code
def yJ9_min_f86c9 : MethodName := ⟨RJ9, "min", "(JJ)J"⟩
def RJ0 : String := "java/lang/String"
def TJ0 : u_T := fun k => match k with
  | _ => ("", "", "", false)
def tyJ0 : Nat → FieldType := fun k => match k with
  | _ => .int
abbrev wsJ00 : List Cond := u_ws RJ0 TJ0 0
theorem nmJ0 : ∀ a, a < 0 → ∀ b, b < 0 → a ≠ b → (TJ0 a).2.1 ≠ (TJ0 b).2.1 := by decide +kernel
theorem tyJ0_ok : ∀ k, k < 0 → parseFieldDescriptor (TJ0 k).2.2.1 = some (tyJ0 k) := by decide +kernel
def RJ10 : String := "java/lang/System"
def TJ10 : u_T := fun k => match k with
  | _ => ("", "", "", false)
def tyJ10 : Nat → FieldType := fun k => match k with
  | _ => .int
abbrev wsJ100 : List Cond := u_ws RJ10 TJ10 0
theorem nmJ10 : ∀ a, a < 0 → ∀ b, b < 0 → a ≠ b → (TJ10 a).2.1 ≠ (TJ10 b).2.1 := by decide +kernel
theorem tyJ10_ok : ∀ k, k < 0 → parseFieldDescriptor (TJ10 k).2.2.1 = some (tyJ10 k) := by decide +kernel
def RJxa1e45 : String := "java/util/AbstractCollection"
def TJxa1e45 : u_T := fun k => match k with
  | _ => ("", "", "", false)
def tyJxa1e45 : Nat → FieldType := fun k => match k with
  | _ => .int
abbrev wsJxa1e450 : List Cond := u_ws RJxa1e45 TJxa1e45 0
theorem nmJxa1e45 : ∀ a, a < 0 → ∀ b, b < 0 → a ≠ b → (TJxa1e45 a).2.1 ≠ (TJxa1e45 b).2.1 := by decide +kernel
theorem tyJxa1e45_ok : ∀ k, k < 0 → parseFieldDescriptor (TJxa1e45 k).2.2.1 = some (tyJxa1e45 k) := by decide +kernel
abbrev cJxa1e45_init_da8c8 : ByteArray := prog_23_method_1_code
def yJxa1e45_init_da8c8 : MethodName := ⟨RJxa1e45, "<init>", "()V"⟩
def RJxc12de : String := "java/util/AbstractList"
def TJxc12de : u_T := fun k => match k with
  | _ => ("", "", "", false)
def tyJxc12de : Nat → FieldType := fun k => match k with
  | _ => .int
abbrev wsJxc12de0 : List Cond := u_ws RJxc12de TJxc12de 0
theorem nmJxc12de : ∀ a, a < 0 → ∀ b, b < 0 → a ≠ b → (TJxc12de a).2.1 ≠ (TJxc12de b).2.1 := by decide +kernel
theorem tyJxc12de_ok : ∀ k, k < 0 → parseFieldDescriptor (TJxc12de k).2.2.1 = some (tyJxc12de k) := by decide +kernel
abbrev cJxc12de_init_da8c8 : ByteArray := prog_24_method_1_code
def yJxc12de_init_da8c8 : MethodName := ⟨RJxc12de, "<init>", "()V"⟩
def RJx4a65c : String := "java/util/ArrayList"
def TJx4a65c : u_T := fun k => match k with
  | 0 => ("java/util/AbstractList", "modCount", "I", false)
  | 1 => ("java/util/ArrayList", "elementData", "[Ljava/lang/Object;", false)
  | _ => ("java/util/ArrayList", "size", "I", false)
def tyJx4a65c : Nat → FieldType := fun k => match k with
  | 0 => .int
  | 1 => .array (.object "java/lang/Object")
  | _ => .int
abbrev wsJx4a65c0 : List Cond := u_ws RJx4a65c TJx4a65c 3
theorem nmJx4a65c : ∀ a, a < 3 → ∀ b, b < 3 → a ≠ b → (TJx4a65c a).2.1 ≠ (TJx4a65c b).2.1 := by decide +kernel
theorem tyJx4a65c_ok : ∀ k, k < 3 → parseFieldDescriptor (TJx4a65c k).2.2.1 = some (tyJx4a65c k) := by decide +kernel
abbrev cJx4a65c_init_da8c8 : ByteArray := prog_25_method_2_code
def yJx4a65c_init_da8c8 : MethodName := ⟨RJx4a65c, "<init>", "()V"⟩
abbrev cJx4a65c_grow_92f84 : ByteArray := prog_25_method_6_code
def yJx4a65c_grow_92f84 : MethodName := ⟨RJx4a65c, "grow", "(I)[Ljava/lang/Object;"⟩
abbrev cJx4a65c_grow_d5877 : ByteArray := prog_25_method_7_code
def yJx4a65c_grow_d5877 : MethodName := ⟨RJx4a65c, "grow", "()[Ljava/lang/Object;"⟩
abbrev cJx4a65c_size_8abf5 : ByteArray := prog_25_method_8_code
def yJx4a65c_size_8abf5 : MethodName := ⟨RJx4a65c, "size", "()I"⟩
abbrev cJx4a65c_elementData_915e3 : ByteArray := prog_25_method_18_code
def yJx4a65c_elementData_915e3 : MethodName := ⟨RJx4a65c, "elementData", "(I)Ljava/lang/Object;"⟩
abbrev cJx4a65c_get_915e3 : ByteArray := prog_25_method_20_code
def yJx4a65c_get_915e3 : MethodName := ⟨RJx4a65c, "get", "(I)Ljava/lang/Object;"⟩
abbrev cJx4a65c_add_72be8 : ByteArray := prog_25_method_24_code
def yJx4a65c_add_72be8 : MethodName := ⟨RJx4a65c, "add", "(Ljava/lang/Object;[Ljava/lang/Object;I)V"⟩
abbrev cJx4a65c_add_9ea2d : ByteArray := prog_25_method_25_code
def yJx4a65c_add_9ea2d : MethodName := ⟨RJx4a65c, "add", "(Ljava/lang/Object;)Z"⟩
def RJ7 : String := "java/util/Arrays"
def TJ7 : u_T := fun k => match k with
  | _ => ("", "", "", false)
def tyJ7 : Nat → FieldType := fun k => match k with
  | _ => .int
abbrev wsJ70 : List Cond := u_ws RJ7 TJ7 0
theorem nmJ7 : ∀ a, a < 0 → ∀ b, b < 0 → a ≠ b → (TJ7 a).2.1 ≠ (TJ7 b).2.1 := by decide +kernel
theorem tyJ7_ok : ∀ k, k < 0 → parseFieldDescriptor (TJ7 k).2.2.1 = some (tyJ7 k) := by decide +kernel
abbrev cJ7_copyOf_1904c : ByteArray := prog_26_method_119_code
def yJ7_copyOf_1904c : MethodName := ⟨RJ7, "copyOf", "([Ljava/lang/Object;I)[Ljava/lang/Object;"⟩
abbrev cJ7_copyOf_6403c : ByteArray := prog_26_method_120_code
def yJ7_copyOf_6403c : MethodName := ⟨RJ7, "copyOf", "([Ljava/lang/Object;ILjava/lang/Class;)[Ljava/lang/Object;"⟩
def RJx5ef63 : String := "java/util/Collection"
def TJx5ef63 : u_T := fun k => match k with
  | _ => ("", "", "", false)
def tyJx5ef63 : Nat → FieldType := fun k => match k with
  | _ => .int
abbrev wsJx5ef630 : List Cond := u_ws RJx5ef63 TJx5ef63 0
theorem nmJx5ef63 : ∀ a, a < 0 → ∀ b, b < 0 → a ≠ b → (TJx5ef63 a).2.1 ≠ (TJx5ef63 b).2.1 := by decide +kernel
theorem tyJx5ef63_ok : ∀ k, k < 0 → parseFieldDescriptor (TJx5ef63 k).2.2.1 = some (tyJx5ef63 k) := by decide +kernel
def RJxbd725 : String := "java/util/List"
def TJxbd725 : u_T := fun k => match k with
  | _ => ("", "", "", false)
def tyJxbd725 : Nat → FieldType := fun k => match k with
  | _ => .int
abbrev wsJxbd7250 : List Cond := u_ws RJxbd725 TJxbd725 0
theorem nmJxbd725 : ∀ a, a < 0 → ∀ b, b < 0 → a ≠ b → (TJxbd725 a).2.1 ≠ (TJxbd725 b).2.1 := by decide +kernel
theorem tyJxbd725_ok : ∀ k, k < 0 → parseFieldDescriptor (TJxbd725 k).2.2.1 = some (tyJxbd725 k) := by decide +kernel
def RJ15 : String := "java/util/Objects"
def TJ15 : u_T := fun k => match k with
  | _ => ("", "", "", false)
def tyJ15 : Nat → FieldType := fun k => match k with
  | _ => .int
abbrev wsJ150 : List Cond := u_ws RJ15 TJ15 0
theorem nmJ15 : ∀ a, a < 0 → ∀ b, b < 0 → a ≠ b → (TJ15 a).2.1 ≠ (TJ15 b).2.1 := by decide +kernel
theorem tyJ15_ok : ∀ k, k < 0 → parseFieldDescriptor (TJ15 k).2.2.1 = some (tyJ15 k) := by decide +kernel
abbrev cJ15_checkIndex_7cf53 : ByteArray := prog_29_method_17_code
def yJ15_checkIndex_7cf53 : MethodName := ⟨RJ15, "checkIndex", "(II)I"⟩
def RJxf0a74 : String := "java/util/RandomAccess"
def TJxf0a74 : u_T := fun k => match k with
  | _ => ("", "", "", false)
def tyJxf0a74 : Nat → FieldType := fun k => match k with
  | _ => .int
abbrev wsJxf0a740 : List Cond := u_ws RJxf0a74 TJxf0a74 0
theorem nmJxf0a74 : ∀ a, a < 0 → ∀ b, b < 0 → a ≠ b → (TJxf0a74 a).2.1 ≠ (TJxf0a74 b).2.1 := by decide +kernel
theorem tyJxf0a74_ok : ∀ k, k < 0 → parseFieldDescriptor (TJxf0a74 k).2.2.1 = some (tyJxf0a74 k) := by decide +kernel
def RJxa66e6 : String := "java/util/SequencedCollection"
def TJxa66e6 : u_T := fun k => match k with
  | _ => ("", "", "", false)
def tyJxa66e6 : Nat → FieldType := fun k => match k with
  | _ => .int
abbrev wsJxa66e60 : List Cond := u_ws RJxa66e6 TJxa66e6 0
theorem nmJxa66e6 : ∀ a, a < 0 → ∀ b, b < 0 → a ≠ b → (TJxa66e6 a).2.1 ≠ (TJxa66e6 b).2.1 := by decide +kernel
theorem tyJxa66e6_ok : ∀ k, k < 0 → parseFieldDescriptor (TJxa66e6 k).2.2.1 = some (tyJxa66e6 k) := by decide +kernel
def RJ8 : String := "jdk/internal/util/ArraysSupport"
def TJ8 : u_T := fun k => match k with
  | _ => ("", "", "", false)
def tyJ8 : Nat → FieldType := fun k => match k with
  | _ => .int
abbrev wsJ80 : List Cond := u_ws RJ8 TJ8 0
theorem nmJ8 : ∀ a, a < 0 → ∀ b, b < 0 → a ≠ b → (TJ8 a).2.1 ≠ (TJ8 b).2.1 := by decide +kernel
theorem tyJ8_ok : ∀ k, k < 0 → parseFieldDescriptor (TJ8 k).2.2.1 = some (tyJ8 k) := by decide +kernel
abbrev cJ8_newLength_cabcc : ByteArray := prog_32_method_27_code
def yJ8_newLength_cabcc : MethodName := ⟨RJ8, "newLength", "(III)I"⟩
abbrev cJ8_hugeLength_7cf53 : ByteArray := prog_32_method_28_code
def yJ8_hugeLength_7cf53 : MethodName := ⟨RJ8, "hugeLength", "(II)I"⟩
def RJ3 : String := "jdk/internal/util/Preconditions"
def TJ3 : u_T := fun k => match k with
  | _ => ("", "", "", false)
def tyJ3 : Nat → FieldType := fun k => match k with
  | _ => .int
abbrev wsJ30 : List Cond := u_ws RJ3 TJ3 0
theorem nmJ3 : ∀ a, a < 0 → ∀ b, b < 0 → a ≠ b → (TJ3 a).2.1 ≠ (TJ3 b).2.1 := by decide +kernel
theorem tyJ3_ok : ∀ k, k < 0 → parseFieldDescriptor (TJ3 k).2.2.1 = some (tyJ3 k) := by decide +kernel
abbrev cJ3_checkIndex_8e157 : ByteArray := prog_33_method_11_code
def yJ3_checkIndex_8e157 : MethodName := ⟨RJ3, "checkIndex", "(IILjava/util/function/BiFunction;)I"⟩
def RL : String := "RoomForecastLaw"
abbrev cL_dice : ByteArray := method_2_code
def yL_dice : MethodName := ⟨RL, "dice", "([II)I"⟩
abbrev cL_act : ByteArray := method_3_code
def yL_act : MethodName := ⟨RL, "act", "(LRoomForecast;III)I"⟩
abbrev cL_setRule : ByteArray := method_4_code
def yL_setRule : MethodName := ⟨RL, "setRule", "(LRoomForecast;III)I"⟩
abbrev cL_of : ByteArray := method_5_code
def yL_of : MethodName := ⟨RL, "of", "(LRoomForecast;II)I"⟩
abbrev cL_slope : ByteArray := method_6_code
def yL_slope : MethodName := ⟨RL, "slope", "(LRoomForecast;ZI)I"⟩
abbrev cL_all : ByteArray := method_7_code
def yL_all : MethodName := ⟨RL, "all", "(LRoomForecast;[I)J"⟩
abbrev cL_day : ByteArray := method_8_code
def yL_day : MethodName := ⟨RL, "day", "([JII)I"⟩
abbrev cL_filled : ByteArray := method_9_code
def yL_filled : MethodName := ⟨RL, "filled", "([J[J[III)J"⟩
abbrev cL_isMiddle : ByteArray := method_10_code
def yL_isMiddle : MethodName := ⟨RL, "isMiddle", "(LRoomForecast;[J[J[II)Z"⟩
abbrev cL_ruled : ByteArray := method_11_code
def yL_ruled : MethodName := ⟨RL, "ruled", "([IIII)I"⟩
abbrev cL_due : ByteArray := method_12_code
def yL_due : MethodName := ⟨RL, "due", "(LRoomForecast;[J[III)J"⟩
abbrev cL_areForecasts : ByteArray := method_13_code
def yL_areForecasts : MethodName := ⟨RL, "areForecasts", "(LRoomForecast;[J[III)Z"⟩
abbrev cL_isUsual : ByteArray := method_14_code
def yL_isUsual : MethodName := ⟨RL, "isUsual", "(LRoomForecast;[J[II)Z"⟩
abbrev cL_isPool : ByteArray := method_15_code
def yL_isPool : MethodName := ⟨RL, "isPool", "(LRoomForecast;[I[I[JI)Z"⟩
abbrev cL_isRefused : ByteArray := method_16_code
def yL_isRefused : MethodName := ⟨RL, "isRefused", "(LRoomForecast;[II)Z"⟩
abbrev cL_isSampled : ByteArray := method_17_code
def yL_isSampled : MethodName := ⟨RL, "isSampled", "(LRoomForecast;[J[III)Z"⟩
abbrev cL_isPassed : ByteArray := method_18_code
def yL_isPassed : MethodName := ⟨RL, "isPassed", "(LRoomForecast;[I[II)Z"⟩
abbrev cL_law : ByteArray := code
def yL_law : MethodName := ⟨RL, "law", "([I)Z"⟩
abbrev vwCl : List vw_C := [(RJx4a65c, TJx4a65c, 3), (RX0, TX0, 3), (RX1, TX1, 4), (RX2, TX2, 6), (RX3, TX3, 2), (RX4, TX4, 4), (RX5, TX5, 7), (RX6, TX6, 2), (RX7, TX7, 2)]
