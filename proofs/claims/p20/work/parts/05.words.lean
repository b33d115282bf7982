def GC0 : List Cond := [Cond.code yX0_init cX0_init 1 none, Cond.methodLink RX0 3 objectInit, Cond.instanceMethod objectInit, Cond.code objectInit ⟨#[0xb1]⟩ 1 none, Cond.arrayClass .int, Cond.fieldLink RX0 9 "RoomForecast$Cleanings" "sizes" "[I", Cond.code yX0_number cX0_number 1 (some .int), Cond.fieldLink RX0 15 "RoomForecast$Cleanings" "count" "I", Cond.code yX0_freedInAll cX0_freedInAll 1 (some .int), Cond.fieldLink RX0 19 "RoomForecast$Cleanings" "freedInAll" "I", Cond.code yX0_put cX0_put 3 none, Cond.code yX7_middlePlace cX7_middlePlace 1 (some .int), Cond.code yX0_usualSize cX0_usualSize 1 (some .int), Cond.static yX7_middlePlace, Cond.initialized RX7, Cond.code yX1_init cX1_init 1 none, Cond.methodLink RX1 3 objectInit, Cond.fieldLink RX1 9 "RoomForecast$Line" "run" "I", Cond.code yX1_start cX1_start 3 none, Cond.fieldLink RX1 15 "RoomForecast$Line" "startDay" "I", Cond.fieldLink RX1 18 "RoomForecast$Line" "startUsed" "I", Cond.code yX1_climb cX1_climb 3 none, Cond.fieldLink RX1 21 "RoomForecast$Line" "rise" "I", Cond.code yJ9_floorDiv_f86c9 cJ9_floorDiv_f86c9 6 (some .long), Cond.code yX1_heightOn cX1_heightOn 4 (some .long), Cond.methodLink RX1 24 yJ9_floorDiv_f86c9, Cond.static yJ9_floorDiv_f86c9, Cond.initialized RJ9, Cond.code yX1_leastDaysToClimb cX1_leastDaysToClimb 2 (some .int), Cond.constantLong RX1 30 (1000)]
theorem GC0_ok : GC0.all goodWord = true := by decide +kernel
def GC1 : List Cond := [Cond.methodLink RX1 32 Lib.MathLoose.min_long.x, Cond.static Lib.MathLoose.min_long.x, Cond.initialized "java/lang/Math", Cond.code Lib.MathLoose.min_long.x Lib.MathLoose.min_long.code 4 (some .long), Cond.code yX1_commonDivisor cX1_commonDivisor 5 (some .int), Cond.methodLink RX1 39 Lib.Math.abs.name, Cond.static Lib.Math.abs.name, Cond.code Lib.Math.abs.name Lib.Math.abs.code 1 (some .int), Cond.code yX1_riseInLowestTerms cX1_riseInLowestTerms 2 (some .int), Cond.methodLink RX1 35 yX1_commonDivisor, Cond.instanceMethod yX1_commonDivisor, Cond.selects RX1 yX1_commonDivisor yX1_commonDivisor, Cond.initialized RX1, Cond.code yX1_runInLowestTerms cX1_runInLowestTerms 2 (some .int), Cond.code yX2_init cX2_init 1 none, Cond.methodLink RX2 3 objectInit, Cond.fieldLink RX2 9 "RoomForecast$PairSlopes" "rises" "[I", Cond.fieldLink RX2 15 "RoomForecast$PairSlopes" "runs" "[I", Cond.fieldLink RX2 18 "RoomForecast$PairSlopes" "earlier" "[I", Cond.fieldLink RX2 21 "RoomForecast$PairSlopes" "later" "[I", Cond.code yX4_number cX4_number 1 (some .int), Cond.fieldLink RX4 21 "RoomForecast$Samples" "count" "I", Cond.code yX4_has cX4_has 2 (some .boolean), Cond.code yX4_filledAt cX4_filledAt 2 (some .int), Cond.fieldLink RX4 18 "RoomForecast$Samples" "filled" "[I", Cond.methodLink RX4 32 yX4_has, Cond.instanceMethod yX4_has, Cond.selects RX4 yX4_has yX4_has, Cond.initialized RX4, Cond.code yX4_dayAt cX4_dayAt 2 (some .int)]
theorem GC1_ok : GC1.all goodWord = true := by decide +kernel
def GC2 : List Cond := [Cond.fieldLink RX4 9 "RoomForecast$Samples" "days" "[I", Cond.code yX2_has cX2_has 2 (some .boolean), Cond.fieldLink RX2 24 "RoomForecast$PairSlopes" "count" "I", Cond.code yX2_riseAt cX2_riseAt 2 (some .int), Cond.methodLink RX2 68 yX2_has, Cond.instanceMethod yX2_has, Cond.selects RX2 yX2_has yX2_has, Cond.initialized RX2, Cond.code yX2_runAt cX2_runAt 2 (some .int), Cond.code yX2_isGreater cX2_isGreater 4 (some .boolean), Cond.methodLink RX2 52 yX2_riseAt, Cond.instanceMethod yX2_riseAt, Cond.selects RX2 yX2_riseAt yX2_riseAt, Cond.methodLink RX2 55 yX2_runAt, Cond.instanceMethod yX2_runAt, Cond.selects RX2 yX2_runAt yX2_runAt, Cond.methodLink RX2 41 yX4_filledAt, Cond.instanceMethod yX4_filledAt, Cond.selects RX4 yX4_filledAt yX4_filledAt, Cond.methodLink RX2 45 yX4_dayAt, Cond.instanceMethod yX4_dayAt, Cond.selects RX4 yX4_dayAt yX4_dayAt, Cond.methodLink RX2 48 yX2_isGreater, Cond.instanceMethod yX2_isGreater, Cond.selects RX2 yX2_isGreater yX2_isGreater, Cond.code yX2_putInOrder cX2_putInOrder 7 none, Cond.fieldLink RX2 34 "RoomForecast$PairSlopes" "sampleCount" "I", Cond.methodLink RX2 28 yX4_number, Cond.instanceMethod yX4_number, Cond.selects RX4 yX4_number yX4_number]
theorem GC2_ok : GC2.all goodWord = true := by decide +kernel
def GC3 : List Cond := [Cond.methodLink RX2 37 yX2_putInOrder, Cond.instanceMethod yX2_putInOrder, Cond.selects RX2 yX2_putInOrder yX2_putInOrder, Cond.code yX2_orderAll cX2_orderAll 4 none, Cond.code yX2_numberWithout cX2_numberWithout 3 (some .int), Cond.code yX2_isWithout cX2_isWithout 3 (some .boolean), Cond.code yX2_middlePlaceWithout cX2_middlePlaceWithout 5 (some .int), Cond.methodLink RX2 58 yX2_numberWithout, Cond.instanceMethod yX2_numberWithout, Cond.selects RX2 yX2_numberWithout yX2_numberWithout, Cond.methodLink RX2 64 yX2_isWithout, Cond.instanceMethod yX2_isWithout, Cond.selects RX2 yX2_isWithout yX2_isWithout, Cond.code yX3_init cX3_init 1 none, Cond.methodLink RX3 1 objectInit, Cond.code yX3_change cX3_change 3 none, Cond.fieldLink RX3 7 "RoomForecast$Rule" "from" "I", Cond.fieldLink RX3 13 "RoomForecast$Rule" "every" "I", Cond.code yX3_daysUntil cX3_daysUntil 2 (some .int), Cond.code yX3_daysWithin cX3_daysWithin 3 (some .int), Cond.methodLink RX3 16 yX3_daysUntil, Cond.instanceMethod yX3_daysUntil, Cond.selects RX3 yX3_daysUntil yX3_daysUntil, Cond.initialized RX3, Cond.code yX4_init cX4_init 1 none, Cond.methodLink RX4 3 objectInit, Cond.fieldLink RX4 15 "RoomForecast$Samples" "used" "[I", Cond.code yX4_lastIsOf cX4_lastIsOf 2 (some .boolean), Cond.code yX4_openLastPlace cX4_openLastPlace 2 none, Cond.code yX4_put cX4_put 5 none]
theorem GC3_ok : GC3.all goodWord = true := by decide +kernel
def GC4 : List Cond := [Cond.methodLink RX4 25 yX4_lastIsOf, Cond.instanceMethod yX4_lastIsOf, Cond.selects RX4 yX4_lastIsOf yX4_lastIsOf, Cond.methodLink RX4 29 yX4_openLastPlace, Cond.instanceMethod yX4_openLastPlace, Cond.selects RX4 yX4_openLastPlace yX4_openLastPlace, Cond.code yX4_addFreedOn cX4_addFreedOn 3 none, Cond.code yX4_usedAt cX4_usedAt 2 (some .int), Cond.code yX4_lastPlaceWithout cX4_lastPlaceWithout 2 (some .int), Cond.code yX6_init cX6_init 1 none, Cond.methodLink RX6 3 objectInit, Cond.methodLink RX5 3 objectInit, Cond.classLink RX5 9 RX4, Cond.instantiable RX4 4, Cond.fieldLink RX5 12 "RoomForecast$Store" "samples" "LRoomForecast$Samples;", Cond.classLink RX5 18 RX2, Cond.instantiable RX2 6, Cond.fieldLink RX5 21 "RoomForecast$Store" "slopes" "LRoomForecast$PairSlopes;", Cond.classLink RX5 25 RX0, Cond.instantiable RX0 3, Cond.initialized RX0, Cond.fieldLink RX5 28 "RoomForecast$Store" "cleanings" "LRoomForecast$Cleanings;", Cond.classLink RX5 32 RX3, Cond.instantiable RX3 2, Cond.fieldLink RX5 35 "RoomForecast$Store" "rule" "LRoomForecast$Rule;", Cond.classLink RX5 39 RX1, Cond.instantiable RX1 4, Cond.fieldLink RX5 42 "RoomForecast$Store" "line" "LRoomForecast$Line;", Cond.classLink RX5 46 RX6, Cond.instantiable RX6 2]
theorem GC4_ok : GC4.all goodWord = true := by decide +kernel
def GC5 : List Cond := [Cond.initialized RX6, Cond.fieldLink RX5 49 "RoomForecast$Store" "warning" "LRoomForecast$Warning;", Cond.fieldLink RX5 53 "RoomForecast$Store" "size" "I", Cond.instanceMethod yX4_init, Cond.instanceMethod yX2_init, Cond.instanceMethod yX0_init, Cond.instanceMethod yX3_init, Cond.instanceMethod yX1_init, Cond.instanceMethod yX6_init, Cond.code yX5_init cX5_init 2 none, Cond.methodLink RX5 57 yX0_freedInAll, Cond.instanceMethod yX0_freedInAll, Cond.selects RX0 yX0_freedInAll yX0_freedInAll, Cond.methodLink RX5 61 yX4_put, Cond.instanceMethod yX4_put, Cond.selects RX4 yX4_put yX4_put, Cond.methodLink RX5 65 yX2_orderAll, Cond.instanceMethod yX2_orderAll, Cond.selects RX2 yX2_orderAll yX2_orderAll, Cond.code yX5_tellUsed cX5_tellUsed 3 none, Cond.methodLink RX5 69 yX0_put, Cond.instanceMethod yX0_put, Cond.selects RX0 yX0_put yX0_put, Cond.methodLink RX5 72 yX4_addFreedOn, Cond.instanceMethod yX4_addFreedOn, Cond.selects RX4 yX4_addFreedOn yX4_addFreedOn, Cond.code yX5_tellFreed cX5_tellFreed 3 none, Cond.code yX5_hasSlope cX5_hasSlope 1 (some .boolean), Cond.methodLink RX5 76 yX4_number, Cond.methodLink RX5 79 yX4_lastPlaceWithout]
theorem GC5_ok : GC5.all goodWord = true := by decide +kernel
def GC6 : List Cond := [Cond.instanceMethod yX4_lastPlaceWithout, Cond.selects RX4 yX4_lastPlaceWithout yX4_lastPlaceWithout, Cond.methodLink RX5 83 yX2_middlePlaceWithout, Cond.instanceMethod yX2_middlePlaceWithout, Cond.selects RX2 yX2_middlePlaceWithout yX2_middlePlaceWithout, Cond.methodLink RX5 86 yX4_dayAt, Cond.methodLink RX5 89 yX4_usedAt, Cond.instanceMethod yX4_usedAt, Cond.selects RX4 yX4_usedAt yX4_usedAt, Cond.methodLink RX5 92 yX1_start, Cond.instanceMethod yX1_start, Cond.selects RX1 yX1_start yX1_start, Cond.methodLink RX5 95 yX2_riseAt, Cond.methodLink RX5 98 yX2_runAt, Cond.methodLink RX5 101 yX1_climb, Cond.instanceMethod yX1_climb, Cond.selects RX1 yX1_climb yX1_climb, Cond.code yX5_drawLineWithout cX5_drawLineWithout 4 none, Cond.methodLink RX5 118 Lib.MathLoose.max_long.x, Cond.static Lib.MathLoose.max_long.x, Cond.code Lib.MathLoose.max_long.x Lib.MathLoose.max_long.code 4 (some .long), Cond.constantLong RX5 124 (2000000000), Cond.methodLink RX5 126 Lib.MathLoose.min_long.x, Cond.methodLink RX5 104 yX0_usualSize, Cond.instanceMethod yX0_usualSize, Cond.selects RX0 yX0_usualSize yX0_usualSize, Cond.methodLink RX5 110 yX3_daysWithin, Cond.instanceMethod yX3_daysWithin, Cond.selects RX3 yX3_daysWithin yX3_daysWithin, Cond.methodLink RX5 114 yX1_heightOn]
theorem GC6_ok : GC6.all goodWord = true := by decide +kernel
def GC7 : List Cond := [Cond.instanceMethod yX1_heightOn, Cond.selects RX1 yX1_heightOn yX1_heightOn, Cond.code yX5_roomOn cX5_roomOn 6 (some .int), Cond.methodLink RX5 146 Lib.Math.max.name, Cond.static Lib.Math.max.name, Cond.code Lib.Math.max.name Lib.Math.max.code 2 (some .int), Cond.constant RX5 136 (1000000), Cond.methodLink RX5 137 yX5_drawLineWithout, Cond.instanceMethod yX5_drawLineWithout, Cond.selects RX5 yX5_drawLineWithout yX5_drawLineWithout, Cond.initialized RX5, Cond.methodLink RX5 140 yX5_roomOn, Cond.instanceMethod yX5_roomOn, Cond.selects RX5 yX5_roomOn yX5_roomOn, Cond.methodLink RX5 143 yX1_leastDaysToClimb, Cond.instanceMethod yX1_leastDaysToClimb, Cond.selects RX1 yX1_leastDaysToClimb yX1_leastDaysToClimb, Cond.code yX5_fullDayWithout cX5_fullDayWithout 5 (some .int), Cond.methodLink RX5 129 yX5_hasSlope, Cond.instanceMethod yX5_hasSlope, Cond.selects RX5 yX5_hasSlope yX5_hasSlope, Cond.methodLink RX5 133 yX5_fullDayWithout, Cond.instanceMethod yX5_fullDayWithout, Cond.selects RX5 yX5_fullDayWithout yX5_fullDayWithout, Cond.code yX5_fullDay cX5_fullDay 1 (some .int), Cond.methodLink RX5 148 Lib.Math.min.name, Cond.static Lib.Math.min.name, Cond.code Lib.Math.min.name Lib.Math.min.code 2 (some .int), Cond.code yX5_earlyBound cX5_earlyBound 3 (some .int), Cond.code yX5_lateBound cX5_lateBound 3 (some .int)]
theorem GC7_ok : GC7.all goodWord = true := by decide +kernel
def GC8 : List Cond := [Cond.code yX6_lookChanges cX6_lookChanges 6 (some .boolean), Cond.fieldLink RX6 9 "RoomForecast$Warning" "on" "Z", Cond.fieldLink RX6 15 "RoomForecast$Warning" "wasNear" "Z", Cond.methodLink RX5 150 yX5_earlyBound, Cond.instanceMethod yX5_earlyBound, Cond.selects RX5 yX5_earlyBound yX5_earlyBound, Cond.methodLink RX5 153 yX6_lookChanges, Cond.instanceMethod yX6_lookChanges, Cond.selects RX6 yX6_lookChanges yX6_lookChanges, Cond.code yX5_lookOnDaysAfter cX5_lookOnDaysAfter 6 (some .int), Cond.code yJxa1e45_init_da8c8 cJxa1e45_init_da8c8 1 none, Cond.methodLink RJxa1e45 1 objectInit, Cond.code yJxc12de_init_da8c8 cJxc12de_init_da8c8 1 none, Cond.fieldLink RJxc12de 7 "java/util/AbstractList" "modCount" "I", Cond.methodLink RJxc12de 1 yJxa1e45_init_da8c8, Cond.instanceMethod yJxa1e45_init_da8c8, Cond.initialized RJxa1e45, Cond.code yJx4a65c_init_da8c8 cJx4a65c_init_da8c8 1 none, Cond.fieldLink RJx4a65c 39 "java/util/ArrayList" "DEFAULTCAPACITY_EMPTY_ELEMENTDATA" "[Ljava/lang/Object;", Cond.fieldLink RJx4a65c 9 "java/util/ArrayList" "elementData" "[Ljava/lang/Object;", Cond.methodLink RJx4a65c 1 yJxc12de_init_da8c8, Cond.instanceMethod yJxc12de_init_da8c8, Cond.initialized RJxc12de, Cond.code yX7_init cX7_init 1 none, Cond.methodLink RX7 3 objectInit, Cond.classLink RX7 9 RJx4a65c, Cond.instantiable RJx4a65c 3, Cond.initialized RJx4a65c, Cond.fieldLink RX7 12 "RoomForecast" "stores" "Ljava/util/ArrayList;", Cond.fieldLink RX7 16 "RoomForecast" "currentDay" "I"]
theorem GC8_ok : GC8.all goodWord = true := by decide +kernel
def GC9 : List Cond := [Cond.methodLink RX7 11 yJx4a65c_init_da8c8, Cond.instanceMethod yJx4a65c_init_da8c8, Cond.code yX7_demandRange cX7_demandRange 3 none, Cond.classLink RX7 140 "java/lang/IllegalArgumentException", Cond.initialized "java/lang/IllegalArgumentException", Cond.code yJx4a65c_size_8abf5 cJx4a65c_size_8abf5 1 (some .int), Cond.fieldLink RJx4a65c 48 "java/util/ArrayList" "size" "I", Cond.code yJ8_hugeLength_7cf53 cJ8_hugeLength_7cf53 3 (some .int), Cond.constant RJ8 200 (2147483639), Cond.code yJ8_newLength_cabcc cJ8_newLength_cabcc 4 (some .int), Cond.methodLink RJ8 194 Lib.Math.max.name, Cond.methodLink RJ8 201 yJ8_hugeLength_7cf53, Cond.static yJ8_hugeLength_7cf53, Cond.initialized RJ8, Cond.code yJ7_copyOf_6403c cJ7_copyOf_6403c 4 (some (.array (.object "java/lang/Object"))), Cond.classLink RJ7 110 "[Ljava/lang/Object;", Cond.classLink RJ7 2 "java/lang/Object", Cond.methodLink RJ7 304 Lib.Math.min.name, Cond.methodLink RJ7 150 arraycopyName, Cond.native arraycopyName, Cond.static arraycopyName, Cond.initialized "java/lang/System", Cond.code yJ7_copyOf_1904c cJ7_copyOf_1904c 2 (some (.array (.object "java/lang/Object"))), Cond.methodLink RJ7 86 ⟨"java/lang/Object", "getClass", "()Ljava/lang/Class;"⟩, Cond.selects "[Ljava/lang/Object;" ⟨"java/lang/Object", "getClass", "()Ljava/lang/Class;"⟩ ⟨"java/lang/Object", "getClass", "()Ljava/lang/Class;"⟩, Cond.instanceMethod ⟨"java/lang/Object", "getClass", "()Ljava/lang/Class;"⟩, Cond.native ⟨"java/lang/Object", "getClass", "()Ljava/lang/Class;"⟩, Cond.methodLink RJ7 300 yJ7_copyOf_6403c, Cond.static yJ7_copyOf_6403c, Cond.initialized RJ7]
theorem GC9_ok : GC9.all goodWord = true := by decide +kernel
def GC10 : List Cond := [Cond.methodLink RJx4a65c 79 Lib.Math.max.name, Cond.classLink RJx4a65c 7 "java/lang/Object", Cond.methodLink RJx4a65c 73 yJ8_newLength_cabcc, Cond.static yJ8_newLength_cabcc, Cond.methodLink RJx4a65c 66 yJ7_copyOf_1904c, Cond.static yJ7_copyOf_1904c, Cond.code yJx4a65c_grow_92f84 cJx4a65c_grow_92f84 4 (some (.array (.object "java/lang/Object"))), Cond.methodLink RJx4a65c 69 yJx4a65c_grow_92f84, Cond.instanceMethod yJx4a65c_grow_92f84, Cond.selects RJx4a65c yJx4a65c_grow_92f84 yJx4a65c_grow_92f84, Cond.code yJx4a65c_grow_d5877 cJx4a65c_grow_d5877 1 (some (.array (.object "java/lang/Object"))), Cond.methodLink RJx4a65c 129 yJx4a65c_grow_d5877, Cond.instanceMethod yJx4a65c_grow_d5877, Cond.selects RJx4a65c yJx4a65c_grow_d5877 yJx4a65c_grow_d5877, Cond.code yJx4a65c_add_72be8 cJx4a65c_add_72be8 4 none, Cond.fieldLink RJx4a65c 63 "java/util/ArrayList" "modCount" "I", Cond.sameField "java/util/ArrayList" "java/util/AbstractList" "modCount" "I", Cond.methodLink RJx4a65c 131 yJx4a65c_add_72be8, Cond.instanceMethod yJx4a65c_add_72be8, Cond.selects RJx4a65c yJx4a65c_add_72be8 yJx4a65c_add_72be8, Cond.code yJx4a65c_add_9ea2d cJx4a65c_add_9ea2d 2 (some .boolean), Cond.classLink RX7 29 "java/lang/IllegalStateException", Cond.initialized "java/lang/IllegalStateException", Cond.constant RX7 20 (1000000), Cond.classLink RX7 36 RX5, Cond.instantiable RX5 7, Cond.methodLink RX7 21 yX7_demandRange, Cond.static yX7_demandRange, Cond.methodLink RX7 25 yJx4a65c_size_8abf5, Cond.instanceMethod yJx4a65c_size_8abf5]
theorem GC10_ok : GC10.all goodWord = true := by decide +kernel
def GC11 : List Cond := [Cond.selects RJx4a65c yJx4a65c_size_8abf5 yJx4a65c_size_8abf5, Cond.methodLink RX7 38 yX5_init, Cond.instanceMethod yX5_init, Cond.methodLink RX7 41 yJx4a65c_add_9ea2d, Cond.instanceMethod yJx4a65c_add_9ea2d, Cond.selects RJx4a65c yJx4a65c_add_9ea2d yJx4a65c_add_9ea2d, Cond.code yX7_addStore cX7_addStore 2 (some .int), Cond.code yJ3_checkIndex_8e157 cJ3_checkIndex_8e157 3 (some .int), Cond.code yJ15_checkIndex_7cf53 cJ15_checkIndex_7cf53 2 (some .int), Cond.methodLink RJ15 105 yJ3_checkIndex_8e157, Cond.static yJ3_checkIndex_8e157, Cond.initialized RJ3, Cond.code yJx4a65c_elementData_915e3 cJx4a65c_elementData_915e3 2 (some (.object "java/lang/Object")), Cond.code yJx4a65c_get_915e3 cJx4a65c_get_915e3 2 (some (.object "java/lang/Object")), Cond.methodLink RJx4a65c 118 yJ15_checkIndex_7cf53, Cond.static yJ15_checkIndex_7cf53, Cond.initialized RJ15, Cond.methodLink RJx4a65c 123 yJx4a65c_elementData_915e3, Cond.instanceMethod yJx4a65c_elementData_915e3, Cond.selects RJx4a65c yJx4a65c_elementData_915e3 yJx4a65c_elementData_915e3, Cond.classLink RX7 159 "java/lang/IndexOutOfBoundsException", Cond.initialized "java/lang/IndexOutOfBoundsException", Cond.classLink RX7 36 "RoomForecast$Store", Cond.methodLink RX7 88 yJx4a65c_get_915e3, Cond.instanceMethod yJx4a65c_get_915e3, Cond.selects RJx4a65c yJx4a65c_get_915e3 yJx4a65c_get_915e3, Cond.code yX7_storeAt cX7_storeAt 2 (some (.object "RoomForecast$Store")), Cond.methodLink RX7 45 yX7_storeAt, Cond.instanceMethod yX7_storeAt, Cond.selects RX7 yX7_storeAt yX7_storeAt]
theorem GC11_ok : GC11.all goodWord = true := by decide +kernel
def GC12 : List Cond := [Cond.code yX7_setSize cX7_setSize 5 (some .int), Cond.methodLink RX7 51 yX5_tellUsed, Cond.instanceMethod yX5_tellUsed, Cond.selects RX5 yX5_tellUsed yX5_tellUsed, Cond.methodLink RX7 59 yX4_number, Cond.code yX7_sample cX7_sample 4 (some .int), Cond.constant RX7 64 (100000), Cond.methodLink RX7 69 yX0_number, Cond.instanceMethod yX0_number, Cond.selects RX0 yX0_number yX0_number, Cond.methodLink RX7 74 yX5_tellFreed, Cond.instanceMethod yX5_tellFreed, Cond.selects RX5 yX5_tellFreed yX5_tellFreed, Cond.code yX7_clean cX7_clean 4 (some .int), Cond.methodLink RX7 81 yX3_change, Cond.instanceMethod yX3_change, Cond.selects RX3 yX3_change yX3_change, Cond.code yX7_setRule cX7_setRule 5 none, Cond.methodLink RX7 92 yX5_lookOnDaysAfter, Cond.instanceMethod yX5_lookOnDaysAfter, Cond.selects RX5 yX5_lookOnDaysAfter yX5_lookOnDaysAfter, Cond.code yX7_pass cX7_pass 4 (some .int), Cond.code yX7_today cX7_today 1 (some .int), Cond.code yX7_samples cX7_samples 2 (some .int), Cond.methodLink RX7 164 yX5_hasSlope, Cond.methodLink RX7 170 yX5_drawLineWithout, Cond.code yX7_slopeOf cX7_slopeOf 3 (some (.object "RoomForecast$Line")), Cond.methodLink RX7 96 yX7_slopeOf, Cond.instanceMethod yX7_slopeOf, Cond.selects RX7 yX7_slopeOf yX7_slopeOf]
theorem GC12_ok : GC12.all goodWord = true := by decide +kernel
def GC13 : List Cond := [Cond.methodLink RX7 100 yX1_riseInLowestTerms, Cond.instanceMethod yX1_riseInLowestTerms, Cond.selects RX1 yX1_riseInLowestTerms yX1_riseInLowestTerms, Cond.code yX7_slopeNumerator cX7_slopeNumerator 2 (some .int), Cond.methodLink RX7 105 yX1_runInLowestTerms, Cond.instanceMethod yX1_runInLowestTerms, Cond.selects RX1 yX1_runInLowestTerms yX1_runInLowestTerms, Cond.code yX7_slopeDenominator cX7_slopeDenominator 2 (some .int), Cond.methodLink RX7 108 yX0_usualSize, Cond.code yX7_usual cX7_usual 2 (some .int), Cond.methodLink RX7 114 yX5_roomOn, Cond.code yX7_forecast cX7_forecast 5 (some .int), Cond.code yX7_dayOrNone cX7_dayOrNone 1 (some .int), Cond.methodLink RX7 118 yX5_fullDay, Cond.instanceMethod yX5_fullDay, Cond.selects RX5 yX5_fullDay yX5_fullDay, Cond.methodLink RX7 121 yX7_dayOrNone, Cond.static yX7_dayOrNone, Cond.code yX7_full cX7_full 2 (some .int), Cond.methodLink RX7 124 yX5_earlyBound, Cond.code yX7_early cX7_early 2 (some .int), Cond.methodLink RX7 127 yX5_lateBound, Cond.instanceMethod yX5_lateBound, Cond.selects RX5 yX5_lateBound yX5_lateBound, Cond.code yX7_late cX7_late 2 (some .int), Cond.code yX7_warns cX7_warns 2 (some .boolean), Cond.code yX7_isInPool cX7_isInPool 2 (some .boolean), Cond.methodLink RX7 177 yX7_isInPool, Cond.static yX7_isInPool, Cond.code yX7_drawPool cX7_drawPool 4 (some .boolean)]
theorem GC13_ok : GC13.all goodWord = true := by decide +kernel
def GC14 : List Cond := [Cond.code yX7_poolSize cX7_poolSize 5 (some .long), Cond.code yX7_poolRoomOn cX7_poolRoomOn 6 (some .long), Cond.methodLink RX7 145 yX7_drawPool, Cond.instanceMethod yX7_drawPool, Cond.selects RX7 yX7_drawPool yX7_drawPool, Cond.methodLink RX7 149 yX7_poolSize, Cond.instanceMethod yX7_poolSize, Cond.selects RX7 yX7_poolSize yX7_poolSize, Cond.methodLink RX7 153 yX7_poolRoomOn, Cond.instanceMethod yX7_poolRoomOn, Cond.selects RX7 yX7_poolRoomOn yX7_poolRoomOn, Cond.code yX7_poolFull cX7_poolFull 5 (some .int), Cond.code yJ9_abs_0f7a4 cJ9_abs_0f7a4 1 (some .int), Cond.code yJ9_max_7cf53 cJ9_max_7cf53 2 (some .int), Cond.code yJ9_max_f86c9 cJ9_max_f86c9 4 (some .long), Cond.code yJ9_min_7cf53 cJ9_min_7cf53 2 (some .int), Cond.code yJ9_min_f86c9 cJ9_min_f86c9 4 (some .long), Cond.code yL_dice cL_dice 2 (some .int), Cond.constant RL 7 (961987163), Cond.constant RL 8 (2147483647), Cond.classLink RL 34 "java/lang/IndexOutOfBoundsException", Cond.classLink RL 36 "java/lang/IllegalArgumentException", Cond.classLink RL 38 "java/lang/IllegalStateException", Cond.methodLink RL 9 yX7_addStore, Cond.instanceMethod yX7_addStore, Cond.selects RX7 yX7_addStore yX7_addStore, Cond.methodLink RL 15 yX7_setSize, Cond.instanceMethod yX7_setSize, Cond.selects RX7 yX7_setSize yX7_setSize, Cond.methodLink RL 19 yX7_sample]
theorem GC14_ok : GC14.all goodWord = true := by decide +kernel
def GC15 : List Cond := [Cond.instanceMethod yX7_sample, Cond.selects RX7 yX7_sample yX7_sample, Cond.methodLink RL 22 yX7_clean, Cond.instanceMethod yX7_clean, Cond.selects RX7 yX7_clean yX7_clean, Cond.methodLink RL 25 yX7_pass, Cond.instanceMethod yX7_pass, Cond.selects RX7 yX7_pass yX7_pass, Cond.methodLink RL 28 yX7_forecast, Cond.instanceMethod yX7_forecast, Cond.selects RX7 yX7_forecast yX7_forecast, Cond.methodLink RL 31 yX7_poolFull, Cond.instanceMethod yX7_poolFull, Cond.selects RX7 yX7_poolFull yX7_poolFull, Cond.codeWith yL_act cL_act 5 (some .int) [(0, 86, 87, 34), (0, 86, 93, 36), (0, 86, 99, 38)], Cond.methodLink RL 40 yX7_setRule, Cond.instanceMethod yX7_setRule, Cond.selects RX7 yX7_setRule yX7_setRule, Cond.codeWith yL_setRule cL_setRule 5 (some .int) [(0, 8, 9, 34), (0, 8, 15, 36)], Cond.methodLink RL 44 yX7_samples, Cond.instanceMethod yX7_samples, Cond.selects RX7 yX7_samples yX7_samples, Cond.methodLink RL 47 yX7_usual, Cond.instanceMethod yX7_usual, Cond.selects RX7 yX7_usual yX7_usual, Cond.methodLink RL 50 yX7_full, Cond.instanceMethod yX7_full, Cond.selects RX7 yX7_full yX7_full, Cond.methodLink RL 53 yX7_early, Cond.instanceMethod yX7_early]
theorem GC15_ok : GC15.all goodWord = true := by decide +kernel
def GC16 : List Cond := [Cond.selects RX7 yX7_early yX7_early, Cond.methodLink RL 56 yX7_late, Cond.instanceMethod yX7_late, Cond.selects RX7 yX7_late yX7_late, Cond.methodLink RL 59 yX7_warns, Cond.instanceMethod yX7_warns, Cond.selects RX7 yX7_warns yX7_warns, Cond.codeWith yL_of cL_of 4 (some .int) [(0, 77, 78, 34)], Cond.constant RL 69 (-2000000971), Cond.constant RL 70 (-2000000973), Cond.methodLink RL 63 yX7_slopeNumerator, Cond.instanceMethod yX7_slopeNumerator, Cond.selects RX7 yX7_slopeNumerator yX7_slopeNumerator, Cond.methodLink RL 66 yX7_slopeDenominator, Cond.instanceMethod yX7_slopeDenominator, Cond.selects RX7 yX7_slopeDenominator yX7_slopeDenominator, Cond.codeWith yL_slope cL_slope 4 (some .int) [(0, 17, 18, 34), (0, 17, 22, 38)], Cond.constantLong RL 75 (1000003), Cond.constantLong RL 77 (17), Cond.constantLong RL 79 (257), Cond.constantLong RL 81 (3), Cond.constantLong RL 83 (65537), Cond.methodLink RL 71 yX7_today, Cond.instanceMethod yX7_today, Cond.selects RX7 yX7_today yX7_today, Cond.methodLink RL 85 yL_slope, Cond.static yL_slope, Cond.initialized RL, Cond.code yL_all cL_all 5 (some .long), Cond.code yL_day cL_day 3 (some .int)]
theorem GC16_ok : GC16.all goodWord = true := by decide +kernel
def GC17 : List Cond := [Cond.constantLong RL 91 (2047), Cond.code yL_filled cL_filled 8 (some .long), Cond.methodLink RL 93 yL_day, Cond.static yL_day, Cond.constantLong RL 97 (-2000000973), Cond.methodLink RL 99 yL_act, Cond.static yL_act, Cond.methodLink RL 103 yL_filled, Cond.static yL_filled, Cond.code yL_isMiddle cL_isMiddle 19 (some .boolean), Cond.code yL_ruled cL_ruled 7 (some .int), Cond.constantLong RL 111 (2000000000), Cond.methodLink RL 107 yL_ruled, Cond.static yL_ruled, Cond.code yL_due cL_due 14 (some .long), Cond.methodLink RL 113 yL_due, Cond.static yL_due, Cond.code yL_areForecasts cL_areForecasts 13 (some .boolean), Cond.code yL_isUsual cL_isUsual 9 (some .boolean), Cond.code yL_isPool cL_isPool 15 (some .boolean), Cond.constant RL 121 (1000001), Cond.constant RL 128 (100001), Cond.methodLink RL 117 yL_all, Cond.static yL_all, Cond.methodLink RL 122 yL_setRule, Cond.static yL_setRule, Cond.methodLink RL 124 yL_of, Cond.static yL_of, Cond.code yL_isRefused cL_isRefused 9 (some .boolean), Cond.code yL_isSampled cL_isSampled 8 (some .boolean)]
theorem GC17_ok : GC17.all goodWord = true := by decide +kernel
def GC18 : List Cond := [Cond.constant RL 129 (1000000), Cond.code yL_isPassed cL_isPassed 14 (some .boolean), Cond.classLink RL 10 RX7, Cond.instantiable RX7 2, Cond.arrayClass .long, Cond.constant RL 143 (100000), Cond.methodLink RL 130 yX7_init, Cond.instanceMethod yX7_init, Cond.methodLink RL 131 yL_isRefused, Cond.static yL_isRefused, Cond.methodLink RL 135 yL_dice, Cond.static yL_dice, Cond.methodLink RL 139 yL_isSampled, Cond.static yL_isSampled, Cond.methodLink RL 144 yL_isPassed, Cond.static yL_isPassed, Cond.methodLink RL 148 yL_isMiddle, Cond.static yL_isMiddle, Cond.methodLink RL 152 yL_isUsual, Cond.static yL_isUsual, Cond.methodLink RL 156 yL_areForecasts, Cond.static yL_areForecasts, Cond.methodLink RL 159 yL_isPool, Cond.static yL_isPool]
theorem GC18_ok : GC18.all goodWord = true := by decide +kernel
theorem ok_wsX00 : (u_ws RX0 TX0 3).all goodWord = true := by decide +kernel
theorem ok_wsX10 : (u_ws RX1 TX1 4).all goodWord = true := by decide +kernel
theorem ok_wsX20 : (u_ws RX2 TX2 6).all goodWord = true := by decide +kernel
theorem ok_wsX30 : (u_ws RX3 TX3 2).all goodWord = true := by decide +kernel
theorem ok_wsX40 : (u_ws RX4 TX4 4).all goodWord = true := by decide +kernel
theorem ok_wsX50 : (u_ws RX5 TX5 7).all goodWord = true := by decide +kernel
theorem ok_wsX60 : (u_ws RX6 TX6 2).all goodWord = true := by decide +kernel
theorem ok_wsX70 : (u_ws RX7 TX7 2).all goodWord = true := by decide +kernel
theorem ok_wsX80 : (u_ws RX8 TX8 0).all goodWord = true := by decide +kernel
theorem ok_wsJx145de0 : (u_ws RJx145de TJx145de 0).all goodWord = true := by decide +kernel
theorem ok_wsJx8e1880 : (u_ws RJx8e188 TJx8e188 0).all goodWord = true := by decide +kernel
theorem ok_wsJxab1ab0 : (u_ws RJxab1ab TJxab1ab 0).all goodWord = true := by decide +kernel
theorem ok_wsJ90 : (u_ws RJ9 TJ9 0).all goodWord = true := by decide +kernel
theorem ok_wsJ00 : (u_ws RJ0 TJ0 0).all goodWord = true := by decide +kernel
theorem ok_wsJ100 : (u_ws RJ10 TJ10 0).all goodWord = true := by decide +kernel
theorem ok_wsJxa1e450 : (u_ws RJxa1e45 TJxa1e45 0).all goodWord = true := by decide +kernel
theorem ok_wsJxc12de0 : (u_ws RJxc12de TJxc12de 0).all goodWord = true := by decide +kernel
theorem ok_wsJx4a65c0 : (u_ws RJx4a65c TJx4a65c 3).all goodWord = true := by decide +kernel
theorem ok_wsJ70 : (u_ws RJ7 TJ7 0).all goodWord = true := by decide +kernel
theorem ok_wsJx5ef630 : (u_ws RJx5ef63 TJx5ef63 0).all goodWord = true := by decide +kernel
theorem ok_wsJxbd7250 : (u_ws RJxbd725 TJxbd725 0).all goodWord = true := by decide +kernel
theorem ok_wsJ150 : (u_ws RJ15 TJ15 0).all goodWord = true := by decide +kernel
theorem ok_wsJxf0a740 : (u_ws RJxf0a74 TJxf0a74 0).all goodWord = true := by decide +kernel
theorem ok_wsJxa66e60 : (u_ws RJxa66e6 TJxa66e6 0).all goodWord = true := by decide +kernel
theorem ok_wsJ80 : (u_ws RJ8 TJ8 0).all goodWord = true := by decide +kernel
theorem ok_wsJ30 : (u_ws RJ3 TJ3 0).all goodWord = true := by decide +kernel
theorem okv_144 : ((vx_atS RX7 144 "java/lang/IllegalArgumentException" ["java/lang/RuntimeException", "java/lang/Exception"]).filter goodWord).all goodWord = true := List.all_eq_true.mpr fun w h => (List.mem_filter.mp h).2
theorem okv_163 : ((vx_atS RX7 163 "java/lang/IndexOutOfBoundsException" ["java/lang/RuntimeException", "java/lang/Exception"]).filter goodWord).all goodWord = true := List.all_eq_true.mpr fun w h => (List.mem_filter.mp h).2
theorem okv_33 : ((vx_atS RX7 33 "java/lang/IllegalStateException" ["java/lang/RuntimeException", "java/lang/Exception"]).filter goodWord).all goodWord = true := List.all_eq_true.mpr fun w h => (List.mem_filter.mp h).2
def GWs : List (List Cond) := [GC0, GC1, GC2, GC3, GC4, GC5, GC6, GC7, GC8, GC9, GC10, GC11, GC12, GC13, GC14, GC15, GC16, GC17, GC18, (u_ws RX0 TX0 3), (u_ws RX1 TX1 4), (u_ws RX2 TX2 6), (u_ws RX3 TX3 2), (u_ws RX4 TX4 4), (u_ws RX5 TX5 7), (u_ws RX6 TX6 2), (u_ws RX7 TX7 2), (u_ws RX8 TX8 0), (u_ws RJx145de TJx145de 0), (u_ws RJx8e188 TJx8e188 0), (u_ws RJxab1ab TJxab1ab 0), (u_ws RJ9 TJ9 0), (u_ws RJ0 TJ0 0), (u_ws RJ10 TJ10 0), (u_ws RJxa1e45 TJxa1e45 0), (u_ws RJxc12de TJxc12de 0), (u_ws RJx4a65c TJx4a65c 3), (u_ws RJ7 TJ7 0), (u_ws RJx5ef63 TJx5ef63 0), (u_ws RJxbd725 TJxbd725 0), (u_ws RJ15 TJ15 0), (u_ws RJxf0a74 TJxf0a74 0), (u_ws RJxa66e6 TJxa66e6 0), (u_ws RJ8 TJ8 0), (u_ws RJ3 TJ3 0), ((vx_atS RX7 144 "java/lang/IllegalArgumentException" ["java/lang/RuntimeException", "java/lang/Exception"]).filter goodWord), ((vx_atS RX7 163 "java/lang/IndexOutOfBoundsException" ["java/lang/RuntimeException", "java/lang/Exception"]).filter goodWord), ((vx_atS RX7 33 "java/lang/IllegalStateException" ["java/lang/RuntimeException", "java/lang/Exception"]).filter goodWord)]
theorem GWs_ok : ∀ c ∈ GWs, c.all goodWord = true := by
  intro c hc
  simp only [GWs, List.mem_cons, List.not_mem_nil, or_false] at hc
  rcases hc with rfl | rfl | rfl | rfl | rfl | rfl | rfl | rfl | rfl | rfl | rfl | rfl | rfl | rfl | rfl | rfl | rfl | rfl | rfl | rfl | rfl | rfl | rfl | rfl | rfl | rfl | rfl | rfl | rfl | rfl | rfl | rfl | rfl | rfl | rfl | rfl | rfl | rfl | rfl | rfl | rfl | rfl | rfl | rfl | rfl | rfl | rfl | rfl
  · exact GC0_ok
  · exact GC1_ok
  · exact GC2_ok
  · exact GC3_ok
  · exact GC4_ok
  · exact GC5_ok
  · exact GC6_ok
  · exact GC7_ok
  · exact GC8_ok
  · exact GC9_ok
  · exact GC10_ok
  · exact GC11_ok
  · exact GC12_ok
  · exact GC13_ok
  · exact GC14_ok
  · exact GC15_ok
  · exact GC16_ok
  · exact GC17_ok
  · exact GC18_ok
  · exact ok_wsX00
  · exact ok_wsX10
  · exact ok_wsX20
  · exact ok_wsX30
  · exact ok_wsX40
  · exact ok_wsX50
  · exact ok_wsX60
  · exact ok_wsX70
  · exact ok_wsX80
  · exact ok_wsJx145de0
  · exact ok_wsJx8e1880
  · exact ok_wsJxab1ab0
  · exact ok_wsJ90
  · exact ok_wsJ00
  · exact ok_wsJ100
  · exact ok_wsJxa1e450
  · exact ok_wsJxc12de0
  · exact ok_wsJx4a65c0
  · exact ok_wsJ70
  · exact ok_wsJx5ef630
  · exact ok_wsJxbd7250
  · exact ok_wsJ150
  · exact ok_wsJxf0a740
  · exact ok_wsJxa66e60
  · exact ok_wsJ80
  · exact ok_wsJ30
  · exact okv_144
  · exact okv_163
  · exact okv_33
def GW : List Cond := GWs.flatten
theorem GW_ok : ∀ w ∈ GW, goodWord w = true := by
  intro w hw
  obtain ⟨c, hc, hw⟩ := List.mem_flatten.mp hw
  exact List.all_eq_true.mp (GWs_ok c hc) w hw
theorem GW_in {c : List Cond} (j : Nat) (hc : GWs[j]? = some c) {w : Cond} (hw : w ∈ c) : w ∈ GW := List.mem_flatten.mpr ⟨c, List.mem_of_getElem? hc, hw⟩
theorem q_0 : Cond.code yX0_init cX0_init 1 none ∈ GW := GW_in 0 rfl (List.mem_of_getElem? (i := 0) rfl)
theorem q_1 : Cond.methodLink RX0 3 objectInit ∈ GW := GW_in 0 rfl (List.mem_of_getElem? (i := 1) rfl)
theorem q_2 : Cond.instanceMethod objectInit ∈ GW := GW_in 0 rfl (List.mem_of_getElem? (i := 2) rfl)
theorem q_3 : Cond.code objectInit ⟨#[0xb1]⟩ 1 none ∈ GW := GW_in 0 rfl (List.mem_of_getElem? (i := 3) rfl)
theorem q_4 : Cond.arrayClass .int ∈ GW := GW_in 0 rfl (List.mem_of_getElem? (i := 4) rfl)
theorem q_5 : Cond.fieldLink RX0 9 "RoomForecast$Cleanings" "sizes" "[I" ∈ GW := GW_in 0 rfl (List.mem_of_getElem? (i := 5) rfl)
theorem q_6 : Cond.code yX0_number cX0_number 1 (some .int) ∈ GW := GW_in 0 rfl (List.mem_of_getElem? (i := 6) rfl)
theorem q_7 : Cond.fieldLink RX0 15 "RoomForecast$Cleanings" "count" "I" ∈ GW := GW_in 0 rfl (List.mem_of_getElem? (i := 7) rfl)
theorem q_8 : Cond.code yX0_freedInAll cX0_freedInAll 1 (some .int) ∈ GW := GW_in 0 rfl (List.mem_of_getElem? (i := 8) rfl)
theorem q_9 : Cond.fieldLink RX0 19 "RoomForecast$Cleanings" "freedInAll" "I" ∈ GW := GW_in 0 rfl (List.mem_of_getElem? (i := 9) rfl)
theorem q_10 : Cond.code yX0_put cX0_put 3 none ∈ GW := GW_in 0 rfl (List.mem_of_getElem? (i := 10) rfl)
theorem q_11 : Cond.code yX7_middlePlace cX7_middlePlace 1 (some .int) ∈ GW := GW_in 0 rfl (List.mem_of_getElem? (i := 11) rfl)
theorem q_12 : Cond.code yX0_usualSize cX0_usualSize 1 (some .int) ∈ GW := GW_in 0 rfl (List.mem_of_getElem? (i := 12) rfl)
theorem q_13 : Cond.static yX7_middlePlace ∈ GW := GW_in 0 rfl (List.mem_of_getElem? (i := 13) rfl)
theorem q_14 : Cond.initialized RX7 ∈ GW := GW_in 0 rfl (List.mem_of_getElem? (i := 14) rfl)
theorem q_15 : Cond.code yX1_init cX1_init 1 none ∈ GW := GW_in 0 rfl (List.mem_of_getElem? (i := 15) rfl)
theorem q_16 : Cond.methodLink RX1 3 objectInit ∈ GW := GW_in 0 rfl (List.mem_of_getElem? (i := 16) rfl)
theorem q_17 : Cond.fieldLink RX1 9 "RoomForecast$Line" "run" "I" ∈ GW := GW_in 0 rfl (List.mem_of_getElem? (i := 17) rfl)
theorem q_18 : Cond.code yX1_start cX1_start 3 none ∈ GW := GW_in 0 rfl (List.mem_of_getElem? (i := 18) rfl)
theorem q_19 : Cond.fieldLink RX1 15 "RoomForecast$Line" "startDay" "I" ∈ GW := GW_in 0 rfl (List.mem_of_getElem? (i := 19) rfl)
theorem q_20 : Cond.fieldLink RX1 18 "RoomForecast$Line" "startUsed" "I" ∈ GW := GW_in 0 rfl (List.mem_of_getElem? (i := 20) rfl)
theorem q_21 : Cond.code yX1_climb cX1_climb 3 none ∈ GW := GW_in 0 rfl (List.mem_of_getElem? (i := 21) rfl)
theorem q_22 : Cond.fieldLink RX1 21 "RoomForecast$Line" "rise" "I" ∈ GW := GW_in 0 rfl (List.mem_of_getElem? (i := 22) rfl)
theorem q_23 : Cond.code yJ9_floorDiv_f86c9 cJ9_floorDiv_f86c9 6 (some .long) ∈ GW := GW_in 0 rfl (List.mem_of_getElem? (i := 23) rfl)
theorem q_24 : Cond.code yX1_heightOn cX1_heightOn 4 (some .long) ∈ GW := GW_in 0 rfl (List.mem_of_getElem? (i := 24) rfl)
theorem q_25 : Cond.methodLink RX1 24 yJ9_floorDiv_f86c9 ∈ GW := GW_in 0 rfl (List.mem_of_getElem? (i := 25) rfl)
theorem q_26 : Cond.static yJ9_floorDiv_f86c9 ∈ GW := GW_in 0 rfl (List.mem_of_getElem? (i := 26) rfl)
theorem q_27 : Cond.initialized RJ9 ∈ GW := GW_in 0 rfl (List.mem_of_getElem? (i := 27) rfl)
theorem q_28 : Cond.code yX1_leastDaysToClimb cX1_leastDaysToClimb 2 (some .int) ∈ GW := GW_in 0 rfl (List.mem_of_getElem? (i := 28) rfl)
theorem q_29 : Cond.constantLong RX1 30 (1000) ∈ GW := GW_in 0 rfl (List.mem_of_getElem? (i := 29) rfl)
theorem q_30 : Cond.methodLink RX1 32 Lib.MathLoose.min_long.x ∈ GW := GW_in 1 rfl (List.mem_of_getElem? (i := 0) rfl)
theorem q_31 : Cond.static Lib.MathLoose.min_long.x ∈ GW := GW_in 1 rfl (List.mem_of_getElem? (i := 1) rfl)
theorem q_32 : Cond.initialized "java/lang/Math" ∈ GW := GW_in 1 rfl (List.mem_of_getElem? (i := 2) rfl)
theorem q_33 : Cond.code Lib.MathLoose.min_long.x Lib.MathLoose.min_long.code 4 (some .long) ∈ GW := GW_in 1 rfl (List.mem_of_getElem? (i := 3) rfl)
theorem q_34 : Cond.code yX1_commonDivisor cX1_commonDivisor 5 (some .int) ∈ GW := GW_in 1 rfl (List.mem_of_getElem? (i := 4) rfl)
theorem q_35 : Cond.methodLink RX1 39 Lib.Math.abs.name ∈ GW := GW_in 1 rfl (List.mem_of_getElem? (i := 5) rfl)
theorem q_36 : Cond.static Lib.Math.abs.name ∈ GW := GW_in 1 rfl (List.mem_of_getElem? (i := 6) rfl)
theorem q_37 : Cond.code Lib.Math.abs.name Lib.Math.abs.code 1 (some .int) ∈ GW := GW_in 1 rfl (List.mem_of_getElem? (i := 7) rfl)
theorem q_38 : Cond.code yX1_riseInLowestTerms cX1_riseInLowestTerms 2 (some .int) ∈ GW := GW_in 1 rfl (List.mem_of_getElem? (i := 8) rfl)
theorem q_39 : Cond.methodLink RX1 35 yX1_commonDivisor ∈ GW := GW_in 1 rfl (List.mem_of_getElem? (i := 9) rfl)
theorem q_40 : Cond.instanceMethod yX1_commonDivisor ∈ GW := GW_in 1 rfl (List.mem_of_getElem? (i := 10) rfl)
theorem q_41 : Cond.selects RX1 yX1_commonDivisor yX1_commonDivisor ∈ GW := GW_in 1 rfl (List.mem_of_getElem? (i := 11) rfl)
theorem q_42 : Cond.initialized RX1 ∈ GW := GW_in 1 rfl (List.mem_of_getElem? (i := 12) rfl)
theorem q_43 : Cond.code yX1_runInLowestTerms cX1_runInLowestTerms 2 (some .int) ∈ GW := GW_in 1 rfl (List.mem_of_getElem? (i := 13) rfl)
theorem q_44 : Cond.code yX2_init cX2_init 1 none ∈ GW := GW_in 1 rfl (List.mem_of_getElem? (i := 14) rfl)
theorem q_45 : Cond.methodLink RX2 3 objectInit ∈ GW := GW_in 1 rfl (List.mem_of_getElem? (i := 15) rfl)
theorem q_46 : Cond.fieldLink RX2 9 "RoomForecast$PairSlopes" "rises" "[I" ∈ GW := GW_in 1 rfl (List.mem_of_getElem? (i := 16) rfl)
theorem q_47 : Cond.fieldLink RX2 15 "RoomForecast$PairSlopes" "runs" "[I" ∈ GW := GW_in 1 rfl (List.mem_of_getElem? (i := 17) rfl)
theorem q_48 : Cond.fieldLink RX2 18 "RoomForecast$PairSlopes" "earlier" "[I" ∈ GW := GW_in 1 rfl (List.mem_of_getElem? (i := 18) rfl)
theorem q_49 : Cond.fieldLink RX2 21 "RoomForecast$PairSlopes" "later" "[I" ∈ GW := GW_in 1 rfl (List.mem_of_getElem? (i := 19) rfl)
theorem q_50 : Cond.code yX4_number cX4_number 1 (some .int) ∈ GW := GW_in 1 rfl (List.mem_of_getElem? (i := 20) rfl)
theorem q_51 : Cond.fieldLink RX4 21 "RoomForecast$Samples" "count" "I" ∈ GW := GW_in 1 rfl (List.mem_of_getElem? (i := 21) rfl)
theorem q_52 : Cond.code yX4_has cX4_has 2 (some .boolean) ∈ GW := GW_in 1 rfl (List.mem_of_getElem? (i := 22) rfl)
theorem q_53 : Cond.code yX4_filledAt cX4_filledAt 2 (some .int) ∈ GW := GW_in 1 rfl (List.mem_of_getElem? (i := 23) rfl)
theorem q_54 : Cond.fieldLink RX4 18 "RoomForecast$Samples" "filled" "[I" ∈ GW := GW_in 1 rfl (List.mem_of_getElem? (i := 24) rfl)
theorem q_55 : Cond.methodLink RX4 32 yX4_has ∈ GW := GW_in 1 rfl (List.mem_of_getElem? (i := 25) rfl)
theorem q_56 : Cond.instanceMethod yX4_has ∈ GW := GW_in 1 rfl (List.mem_of_getElem? (i := 26) rfl)
theorem q_57 : Cond.selects RX4 yX4_has yX4_has ∈ GW := GW_in 1 rfl (List.mem_of_getElem? (i := 27) rfl)
theorem q_58 : Cond.initialized RX4 ∈ GW := GW_in 1 rfl (List.mem_of_getElem? (i := 28) rfl)
theorem q_59 : Cond.code yX4_dayAt cX4_dayAt 2 (some .int) ∈ GW := GW_in 1 rfl (List.mem_of_getElem? (i := 29) rfl)
theorem q_60 : Cond.fieldLink RX4 9 "RoomForecast$Samples" "days" "[I" ∈ GW := GW_in 2 rfl (List.mem_of_getElem? (i := 0) rfl)
theorem q_61 : Cond.code yX2_has cX2_has 2 (some .boolean) ∈ GW := GW_in 2 rfl (List.mem_of_getElem? (i := 1) rfl)
theorem q_62 : Cond.fieldLink RX2 24 "RoomForecast$PairSlopes" "count" "I" ∈ GW := GW_in 2 rfl (List.mem_of_getElem? (i := 2) rfl)
theorem q_63 : Cond.code yX2_riseAt cX2_riseAt 2 (some .int) ∈ GW := GW_in 2 rfl (List.mem_of_getElem? (i := 3) rfl)
theorem q_64 : Cond.methodLink RX2 68 yX2_has ∈ GW := GW_in 2 rfl (List.mem_of_getElem? (i := 4) rfl)
theorem q_65 : Cond.instanceMethod yX2_has ∈ GW := GW_in 2 rfl (List.mem_of_getElem? (i := 5) rfl)
theorem q_66 : Cond.selects RX2 yX2_has yX2_has ∈ GW := GW_in 2 rfl (List.mem_of_getElem? (i := 6) rfl)
theorem q_67 : Cond.initialized RX2 ∈ GW := GW_in 2 rfl (List.mem_of_getElem? (i := 7) rfl)
theorem q_68 : Cond.code yX2_runAt cX2_runAt 2 (some .int) ∈ GW := GW_in 2 rfl (List.mem_of_getElem? (i := 8) rfl)
theorem q_69 : Cond.code yX2_isGreater cX2_isGreater 4 (some .boolean) ∈ GW := GW_in 2 rfl (List.mem_of_getElem? (i := 9) rfl)
theorem q_70 : Cond.methodLink RX2 52 yX2_riseAt ∈ GW := GW_in 2 rfl (List.mem_of_getElem? (i := 10) rfl)
theorem q_71 : Cond.instanceMethod yX2_riseAt ∈ GW := GW_in 2 rfl (List.mem_of_getElem? (i := 11) rfl)
theorem q_72 : Cond.selects RX2 yX2_riseAt yX2_riseAt ∈ GW := GW_in 2 rfl (List.mem_of_getElem? (i := 12) rfl)
theorem q_73 : Cond.methodLink RX2 55 yX2_runAt ∈ GW := GW_in 2 rfl (List.mem_of_getElem? (i := 13) rfl)
theorem q_74 : Cond.instanceMethod yX2_runAt ∈ GW := GW_in 2 rfl (List.mem_of_getElem? (i := 14) rfl)
theorem q_75 : Cond.selects RX2 yX2_runAt yX2_runAt ∈ GW := GW_in 2 rfl (List.mem_of_getElem? (i := 15) rfl)
theorem q_76 : Cond.methodLink RX2 41 yX4_filledAt ∈ GW := GW_in 2 rfl (List.mem_of_getElem? (i := 16) rfl)
theorem q_77 : Cond.instanceMethod yX4_filledAt ∈ GW := GW_in 2 rfl (List.mem_of_getElem? (i := 17) rfl)
theorem q_78 : Cond.selects RX4 yX4_filledAt yX4_filledAt ∈ GW := GW_in 2 rfl (List.mem_of_getElem? (i := 18) rfl)
theorem q_79 : Cond.methodLink RX2 45 yX4_dayAt ∈ GW := GW_in 2 rfl (List.mem_of_getElem? (i := 19) rfl)
theorem q_80 : Cond.instanceMethod yX4_dayAt ∈ GW := GW_in 2 rfl (List.mem_of_getElem? (i := 20) rfl)
theorem q_81 : Cond.selects RX4 yX4_dayAt yX4_dayAt ∈ GW := GW_in 2 rfl (List.mem_of_getElem? (i := 21) rfl)
theorem q_82 : Cond.methodLink RX2 48 yX2_isGreater ∈ GW := GW_in 2 rfl (List.mem_of_getElem? (i := 22) rfl)
theorem q_83 : Cond.instanceMethod yX2_isGreater ∈ GW := GW_in 2 rfl (List.mem_of_getElem? (i := 23) rfl)
theorem q_84 : Cond.selects RX2 yX2_isGreater yX2_isGreater ∈ GW := GW_in 2 rfl (List.mem_of_getElem? (i := 24) rfl)
theorem q_85 : Cond.code yX2_putInOrder cX2_putInOrder 7 none ∈ GW := GW_in 2 rfl (List.mem_of_getElem? (i := 25) rfl)
theorem q_86 : Cond.fieldLink RX2 34 "RoomForecast$PairSlopes" "sampleCount" "I" ∈ GW := GW_in 2 rfl (List.mem_of_getElem? (i := 26) rfl)
theorem q_87 : Cond.methodLink RX2 28 yX4_number ∈ GW := GW_in 2 rfl (List.mem_of_getElem? (i := 27) rfl)
theorem q_88 : Cond.instanceMethod yX4_number ∈ GW := GW_in 2 rfl (List.mem_of_getElem? (i := 28) rfl)
theorem q_89 : Cond.selects RX4 yX4_number yX4_number ∈ GW := GW_in 2 rfl (List.mem_of_getElem? (i := 29) rfl)
theorem q_90 : Cond.methodLink RX2 37 yX2_putInOrder ∈ GW := GW_in 3 rfl (List.mem_of_getElem? (i := 0) rfl)
theorem q_91 : Cond.instanceMethod yX2_putInOrder ∈ GW := GW_in 3 rfl (List.mem_of_getElem? (i := 1) rfl)
theorem q_92 : Cond.selects RX2 yX2_putInOrder yX2_putInOrder ∈ GW := GW_in 3 rfl (List.mem_of_getElem? (i := 2) rfl)
theorem q_93 : Cond.code yX2_orderAll cX2_orderAll 4 none ∈ GW := GW_in 3 rfl (List.mem_of_getElem? (i := 3) rfl)
theorem q_94 : Cond.code yX2_numberWithout cX2_numberWithout 3 (some .int) ∈ GW := GW_in 3 rfl (List.mem_of_getElem? (i := 4) rfl)
theorem q_95 : Cond.code yX2_isWithout cX2_isWithout 3 (some .boolean) ∈ GW := GW_in 3 rfl (List.mem_of_getElem? (i := 5) rfl)
theorem q_96 : Cond.code yX2_middlePlaceWithout cX2_middlePlaceWithout 5 (some .int) ∈ GW := GW_in 3 rfl (List.mem_of_getElem? (i := 6) rfl)
theorem q_97 : Cond.methodLink RX2 58 yX2_numberWithout ∈ GW := GW_in 3 rfl (List.mem_of_getElem? (i := 7) rfl)
theorem q_98 : Cond.instanceMethod yX2_numberWithout ∈ GW := GW_in 3 rfl (List.mem_of_getElem? (i := 8) rfl)
theorem q_99 : Cond.selects RX2 yX2_numberWithout yX2_numberWithout ∈ GW := GW_in 3 rfl (List.mem_of_getElem? (i := 9) rfl)
theorem q_100 : Cond.methodLink RX2 64 yX2_isWithout ∈ GW := GW_in 3 rfl (List.mem_of_getElem? (i := 10) rfl)
theorem q_101 : Cond.instanceMethod yX2_isWithout ∈ GW := GW_in 3 rfl (List.mem_of_getElem? (i := 11) rfl)
theorem q_102 : Cond.selects RX2 yX2_isWithout yX2_isWithout ∈ GW := GW_in 3 rfl (List.mem_of_getElem? (i := 12) rfl)
theorem q_103 : Cond.code yX3_init cX3_init 1 none ∈ GW := GW_in 3 rfl (List.mem_of_getElem? (i := 13) rfl)
theorem q_104 : Cond.methodLink RX3 1 objectInit ∈ GW := GW_in 3 rfl (List.mem_of_getElem? (i := 14) rfl)
theorem q_105 : Cond.code yX3_change cX3_change 3 none ∈ GW := GW_in 3 rfl (List.mem_of_getElem? (i := 15) rfl)
theorem q_106 : Cond.fieldLink RX3 7 "RoomForecast$Rule" "from" "I" ∈ GW := GW_in 3 rfl (List.mem_of_getElem? (i := 16) rfl)
theorem q_107 : Cond.fieldLink RX3 13 "RoomForecast$Rule" "every" "I" ∈ GW := GW_in 3 rfl (List.mem_of_getElem? (i := 17) rfl)
theorem q_108 : Cond.code yX3_daysUntil cX3_daysUntil 2 (some .int) ∈ GW := GW_in 3 rfl (List.mem_of_getElem? (i := 18) rfl)
theorem q_109 : Cond.code yX3_daysWithin cX3_daysWithin 3 (some .int) ∈ GW := GW_in 3 rfl (List.mem_of_getElem? (i := 19) rfl)
theorem q_110 : Cond.methodLink RX3 16 yX3_daysUntil ∈ GW := GW_in 3 rfl (List.mem_of_getElem? (i := 20) rfl)
theorem q_111 : Cond.instanceMethod yX3_daysUntil ∈ GW := GW_in 3 rfl (List.mem_of_getElem? (i := 21) rfl)
theorem q_112 : Cond.selects RX3 yX3_daysUntil yX3_daysUntil ∈ GW := GW_in 3 rfl (List.mem_of_getElem? (i := 22) rfl)
theorem q_113 : Cond.initialized RX3 ∈ GW := GW_in 3 rfl (List.mem_of_getElem? (i := 23) rfl)
theorem q_114 : Cond.code yX4_init cX4_init 1 none ∈ GW := GW_in 3 rfl (List.mem_of_getElem? (i := 24) rfl)
theorem q_115 : Cond.methodLink RX4 3 objectInit ∈ GW := GW_in 3 rfl (List.mem_of_getElem? (i := 25) rfl)
theorem q_116 : Cond.fieldLink RX4 15 "RoomForecast$Samples" "used" "[I" ∈ GW := GW_in 3 rfl (List.mem_of_getElem? (i := 26) rfl)
theorem q_117 : Cond.code yX4_lastIsOf cX4_lastIsOf 2 (some .boolean) ∈ GW := GW_in 3 rfl (List.mem_of_getElem? (i := 27) rfl)
theorem q_118 : Cond.code yX4_openLastPlace cX4_openLastPlace 2 none ∈ GW := GW_in 3 rfl (List.mem_of_getElem? (i := 28) rfl)
theorem q_119 : Cond.code yX4_put cX4_put 5 none ∈ GW := GW_in 3 rfl (List.mem_of_getElem? (i := 29) rfl)
theorem q_120 : Cond.methodLink RX4 25 yX4_lastIsOf ∈ GW := GW_in 4 rfl (List.mem_of_getElem? (i := 0) rfl)
theorem q_121 : Cond.instanceMethod yX4_lastIsOf ∈ GW := GW_in 4 rfl (List.mem_of_getElem? (i := 1) rfl)
theorem q_122 : Cond.selects RX4 yX4_lastIsOf yX4_lastIsOf ∈ GW := GW_in 4 rfl (List.mem_of_getElem? (i := 2) rfl)
theorem q_123 : Cond.methodLink RX4 29 yX4_openLastPlace ∈ GW := GW_in 4 rfl (List.mem_of_getElem? (i := 3) rfl)
theorem q_124 : Cond.instanceMethod yX4_openLastPlace ∈ GW := GW_in 4 rfl (List.mem_of_getElem? (i := 4) rfl)
theorem q_125 : Cond.selects RX4 yX4_openLastPlace yX4_openLastPlace ∈ GW := GW_in 4 rfl (List.mem_of_getElem? (i := 5) rfl)
theorem q_126 : Cond.code yX4_addFreedOn cX4_addFreedOn 3 none ∈ GW := GW_in 4 rfl (List.mem_of_getElem? (i := 6) rfl)
theorem q_127 : Cond.code yX4_usedAt cX4_usedAt 2 (some .int) ∈ GW := GW_in 4 rfl (List.mem_of_getElem? (i := 7) rfl)
theorem q_128 : Cond.code yX4_lastPlaceWithout cX4_lastPlaceWithout 2 (some .int) ∈ GW := GW_in 4 rfl (List.mem_of_getElem? (i := 8) rfl)
theorem q_129 : Cond.code yX6_init cX6_init 1 none ∈ GW := GW_in 4 rfl (List.mem_of_getElem? (i := 9) rfl)
theorem q_130 : Cond.methodLink RX6 3 objectInit ∈ GW := GW_in 4 rfl (List.mem_of_getElem? (i := 10) rfl)
theorem q_131 : Cond.methodLink RX5 3 objectInit ∈ GW := GW_in 4 rfl (List.mem_of_getElem? (i := 11) rfl)
theorem q_132 : Cond.classLink RX5 9 RX4 ∈ GW := GW_in 4 rfl (List.mem_of_getElem? (i := 12) rfl)
theorem q_133 : Cond.instantiable RX4 4 ∈ GW := GW_in 4 rfl (List.mem_of_getElem? (i := 13) rfl)
theorem q_134 : Cond.fieldLink RX5 12 "RoomForecast$Store" "samples" "LRoomForecast$Samples;" ∈ GW := GW_in 4 rfl (List.mem_of_getElem? (i := 14) rfl)
theorem q_135 : Cond.classLink RX5 18 RX2 ∈ GW := GW_in 4 rfl (List.mem_of_getElem? (i := 15) rfl)
theorem q_136 : Cond.instantiable RX2 6 ∈ GW := GW_in 4 rfl (List.mem_of_getElem? (i := 16) rfl)
theorem q_137 : Cond.fieldLink RX5 21 "RoomForecast$Store" "slopes" "LRoomForecast$PairSlopes;" ∈ GW := GW_in 4 rfl (List.mem_of_getElem? (i := 17) rfl)
theorem q_138 : Cond.classLink RX5 25 RX0 ∈ GW := GW_in 4 rfl (List.mem_of_getElem? (i := 18) rfl)
theorem q_139 : Cond.instantiable RX0 3 ∈ GW := GW_in 4 rfl (List.mem_of_getElem? (i := 19) rfl)
theorem q_140 : Cond.initialized RX0 ∈ GW := GW_in 4 rfl (List.mem_of_getElem? (i := 20) rfl)
theorem q_141 : Cond.fieldLink RX5 28 "RoomForecast$Store" "cleanings" "LRoomForecast$Cleanings;" ∈ GW := GW_in 4 rfl (List.mem_of_getElem? (i := 21) rfl)
theorem q_142 : Cond.classLink RX5 32 RX3 ∈ GW := GW_in 4 rfl (List.mem_of_getElem? (i := 22) rfl)
theorem q_143 : Cond.instantiable RX3 2 ∈ GW := GW_in 4 rfl (List.mem_of_getElem? (i := 23) rfl)
theorem q_144 : Cond.fieldLink RX5 35 "RoomForecast$Store" "rule" "LRoomForecast$Rule;" ∈ GW := GW_in 4 rfl (List.mem_of_getElem? (i := 24) rfl)
theorem q_145 : Cond.classLink RX5 39 RX1 ∈ GW := GW_in 4 rfl (List.mem_of_getElem? (i := 25) rfl)
theorem q_146 : Cond.instantiable RX1 4 ∈ GW := GW_in 4 rfl (List.mem_of_getElem? (i := 26) rfl)
theorem q_147 : Cond.fieldLink RX5 42 "RoomForecast$Store" "line" "LRoomForecast$Line;" ∈ GW := GW_in 4 rfl (List.mem_of_getElem? (i := 27) rfl)
theorem q_148 : Cond.classLink RX5 46 RX6 ∈ GW := GW_in 4 rfl (List.mem_of_getElem? (i := 28) rfl)
theorem q_149 : Cond.instantiable RX6 2 ∈ GW := GW_in 4 rfl (List.mem_of_getElem? (i := 29) rfl)
theorem q_150 : Cond.initialized RX6 ∈ GW := GW_in 5 rfl (List.mem_of_getElem? (i := 0) rfl)
theorem q_151 : Cond.fieldLink RX5 49 "RoomForecast$Store" "warning" "LRoomForecast$Warning;" ∈ GW := GW_in 5 rfl (List.mem_of_getElem? (i := 1) rfl)
theorem q_152 : Cond.fieldLink RX5 53 "RoomForecast$Store" "size" "I" ∈ GW := GW_in 5 rfl (List.mem_of_getElem? (i := 2) rfl)
theorem q_153 : Cond.instanceMethod yX4_init ∈ GW := GW_in 5 rfl (List.mem_of_getElem? (i := 3) rfl)
theorem q_154 : Cond.instanceMethod yX2_init ∈ GW := GW_in 5 rfl (List.mem_of_getElem? (i := 4) rfl)
theorem q_155 : Cond.instanceMethod yX0_init ∈ GW := GW_in 5 rfl (List.mem_of_getElem? (i := 5) rfl)
theorem q_156 : Cond.instanceMethod yX3_init ∈ GW := GW_in 5 rfl (List.mem_of_getElem? (i := 6) rfl)
theorem q_157 : Cond.instanceMethod yX1_init ∈ GW := GW_in 5 rfl (List.mem_of_getElem? (i := 7) rfl)
theorem q_158 : Cond.instanceMethod yX6_init ∈ GW := GW_in 5 rfl (List.mem_of_getElem? (i := 8) rfl)
theorem q_159 : Cond.code yX5_init cX5_init 2 none ∈ GW := GW_in 5 rfl (List.mem_of_getElem? (i := 9) rfl)
theorem q_160 : Cond.methodLink RX5 57 yX0_freedInAll ∈ GW := GW_in 5 rfl (List.mem_of_getElem? (i := 10) rfl)
theorem q_161 : Cond.instanceMethod yX0_freedInAll ∈ GW := GW_in 5 rfl (List.mem_of_getElem? (i := 11) rfl)
theorem q_162 : Cond.selects RX0 yX0_freedInAll yX0_freedInAll ∈ GW := GW_in 5 rfl (List.mem_of_getElem? (i := 12) rfl)
theorem q_163 : Cond.methodLink RX5 61 yX4_put ∈ GW := GW_in 5 rfl (List.mem_of_getElem? (i := 13) rfl)
theorem q_164 : Cond.instanceMethod yX4_put ∈ GW := GW_in 5 rfl (List.mem_of_getElem? (i := 14) rfl)
theorem q_165 : Cond.selects RX4 yX4_put yX4_put ∈ GW := GW_in 5 rfl (List.mem_of_getElem? (i := 15) rfl)
theorem q_166 : Cond.methodLink RX5 65 yX2_orderAll ∈ GW := GW_in 5 rfl (List.mem_of_getElem? (i := 16) rfl)
theorem q_167 : Cond.instanceMethod yX2_orderAll ∈ GW := GW_in 5 rfl (List.mem_of_getElem? (i := 17) rfl)
theorem q_168 : Cond.selects RX2 yX2_orderAll yX2_orderAll ∈ GW := GW_in 5 rfl (List.mem_of_getElem? (i := 18) rfl)
theorem q_169 : Cond.code yX5_tellUsed cX5_tellUsed 3 none ∈ GW := GW_in 5 rfl (List.mem_of_getElem? (i := 19) rfl)
theorem q_170 : Cond.methodLink RX5 69 yX0_put ∈ GW := GW_in 5 rfl (List.mem_of_getElem? (i := 20) rfl)
theorem q_171 : Cond.instanceMethod yX0_put ∈ GW := GW_in 5 rfl (List.mem_of_getElem? (i := 21) rfl)
theorem q_172 : Cond.selects RX0 yX0_put yX0_put ∈ GW := GW_in 5 rfl (List.mem_of_getElem? (i := 22) rfl)
theorem q_173 : Cond.methodLink RX5 72 yX4_addFreedOn ∈ GW := GW_in 5 rfl (List.mem_of_getElem? (i := 23) rfl)
theorem q_174 : Cond.instanceMethod yX4_addFreedOn ∈ GW := GW_in 5 rfl (List.mem_of_getElem? (i := 24) rfl)
theorem q_175 : Cond.selects RX4 yX4_addFreedOn yX4_addFreedOn ∈ GW := GW_in 5 rfl (List.mem_of_getElem? (i := 25) rfl)
theorem q_176 : Cond.code yX5_tellFreed cX5_tellFreed 3 none ∈ GW := GW_in 5 rfl (List.mem_of_getElem? (i := 26) rfl)
theorem q_177 : Cond.code yX5_hasSlope cX5_hasSlope 1 (some .boolean) ∈ GW := GW_in 5 rfl (List.mem_of_getElem? (i := 27) rfl)
theorem q_178 : Cond.methodLink RX5 76 yX4_number ∈ GW := GW_in 5 rfl (List.mem_of_getElem? (i := 28) rfl)
theorem q_179 : Cond.methodLink RX5 79 yX4_lastPlaceWithout ∈ GW := GW_in 5 rfl (List.mem_of_getElem? (i := 29) rfl)
theorem q_180 : Cond.instanceMethod yX4_lastPlaceWithout ∈ GW := GW_in 6 rfl (List.mem_of_getElem? (i := 0) rfl)
theorem q_181 : Cond.selects RX4 yX4_lastPlaceWithout yX4_lastPlaceWithout ∈ GW := GW_in 6 rfl (List.mem_of_getElem? (i := 1) rfl)
theorem q_182 : Cond.methodLink RX5 83 yX2_middlePlaceWithout ∈ GW := GW_in 6 rfl (List.mem_of_getElem? (i := 2) rfl)
theorem q_183 : Cond.instanceMethod yX2_middlePlaceWithout ∈ GW := GW_in 6 rfl (List.mem_of_getElem? (i := 3) rfl)
theorem q_184 : Cond.selects RX2 yX2_middlePlaceWithout yX2_middlePlaceWithout ∈ GW := GW_in 6 rfl (List.mem_of_getElem? (i := 4) rfl)
theorem q_185 : Cond.methodLink RX5 86 yX4_dayAt ∈ GW := GW_in 6 rfl (List.mem_of_getElem? (i := 5) rfl)
theorem q_186 : Cond.methodLink RX5 89 yX4_usedAt ∈ GW := GW_in 6 rfl (List.mem_of_getElem? (i := 6) rfl)
theorem q_187 : Cond.instanceMethod yX4_usedAt ∈ GW := GW_in 6 rfl (List.mem_of_getElem? (i := 7) rfl)
theorem q_188 : Cond.selects RX4 yX4_usedAt yX4_usedAt ∈ GW := GW_in 6 rfl (List.mem_of_getElem? (i := 8) rfl)
theorem q_189 : Cond.methodLink RX5 92 yX1_start ∈ GW := GW_in 6 rfl (List.mem_of_getElem? (i := 9) rfl)
theorem q_190 : Cond.instanceMethod yX1_start ∈ GW := GW_in 6 rfl (List.mem_of_getElem? (i := 10) rfl)
theorem q_191 : Cond.selects RX1 yX1_start yX1_start ∈ GW := GW_in 6 rfl (List.mem_of_getElem? (i := 11) rfl)
theorem q_192 : Cond.methodLink RX5 95 yX2_riseAt ∈ GW := GW_in 6 rfl (List.mem_of_getElem? (i := 12) rfl)
theorem q_193 : Cond.methodLink RX5 98 yX2_runAt ∈ GW := GW_in 6 rfl (List.mem_of_getElem? (i := 13) rfl)
theorem q_194 : Cond.methodLink RX5 101 yX1_climb ∈ GW := GW_in 6 rfl (List.mem_of_getElem? (i := 14) rfl)
theorem q_195 : Cond.instanceMethod yX1_climb ∈ GW := GW_in 6 rfl (List.mem_of_getElem? (i := 15) rfl)
theorem q_196 : Cond.selects RX1 yX1_climb yX1_climb ∈ GW := GW_in 6 rfl (List.mem_of_getElem? (i := 16) rfl)
theorem q_197 : Cond.code yX5_drawLineWithout cX5_drawLineWithout 4 none ∈ GW := GW_in 6 rfl (List.mem_of_getElem? (i := 17) rfl)
theorem q_198 : Cond.methodLink RX5 118 Lib.MathLoose.max_long.x ∈ GW := GW_in 6 rfl (List.mem_of_getElem? (i := 18) rfl)
theorem q_199 : Cond.static Lib.MathLoose.max_long.x ∈ GW := GW_in 6 rfl (List.mem_of_getElem? (i := 19) rfl)
theorem q_200 : Cond.code Lib.MathLoose.max_long.x Lib.MathLoose.max_long.code 4 (some .long) ∈ GW := GW_in 6 rfl (List.mem_of_getElem? (i := 20) rfl)
theorem q_201 : Cond.constantLong RX5 124 (2000000000) ∈ GW := GW_in 6 rfl (List.mem_of_getElem? (i := 21) rfl)
theorem q_202 : Cond.methodLink RX5 126 Lib.MathLoose.min_long.x ∈ GW := GW_in 6 rfl (List.mem_of_getElem? (i := 22) rfl)
theorem q_203 : Cond.methodLink RX5 104 yX0_usualSize ∈ GW := GW_in 6 rfl (List.mem_of_getElem? (i := 23) rfl)
theorem q_204 : Cond.instanceMethod yX0_usualSize ∈ GW := GW_in 6 rfl (List.mem_of_getElem? (i := 24) rfl)
theorem q_205 : Cond.selects RX0 yX0_usualSize yX0_usualSize ∈ GW := GW_in 6 rfl (List.mem_of_getElem? (i := 25) rfl)
theorem q_206 : Cond.methodLink RX5 110 yX3_daysWithin ∈ GW := GW_in 6 rfl (List.mem_of_getElem? (i := 26) rfl)
theorem q_207 : Cond.instanceMethod yX3_daysWithin ∈ GW := GW_in 6 rfl (List.mem_of_getElem? (i := 27) rfl)
theorem q_208 : Cond.selects RX3 yX3_daysWithin yX3_daysWithin ∈ GW := GW_in 6 rfl (List.mem_of_getElem? (i := 28) rfl)
theorem q_209 : Cond.methodLink RX5 114 yX1_heightOn ∈ GW := GW_in 6 rfl (List.mem_of_getElem? (i := 29) rfl)
theorem q_210 : Cond.instanceMethod yX1_heightOn ∈ GW := GW_in 7 rfl (List.mem_of_getElem? (i := 0) rfl)
theorem q_211 : Cond.selects RX1 yX1_heightOn yX1_heightOn ∈ GW := GW_in 7 rfl (List.mem_of_getElem? (i := 1) rfl)
theorem q_212 : Cond.code yX5_roomOn cX5_roomOn 6 (some .int) ∈ GW := GW_in 7 rfl (List.mem_of_getElem? (i := 2) rfl)
theorem q_213 : Cond.methodLink RX5 146 Lib.Math.max.name ∈ GW := GW_in 7 rfl (List.mem_of_getElem? (i := 3) rfl)
theorem q_214 : Cond.static Lib.Math.max.name ∈ GW := GW_in 7 rfl (List.mem_of_getElem? (i := 4) rfl)
theorem q_215 : Cond.code Lib.Math.max.name Lib.Math.max.code 2 (some .int) ∈ GW := GW_in 7 rfl (List.mem_of_getElem? (i := 5) rfl)
theorem q_216 : Cond.constant RX5 136 (1000000) ∈ GW := GW_in 7 rfl (List.mem_of_getElem? (i := 6) rfl)
theorem q_217 : Cond.methodLink RX5 137 yX5_drawLineWithout ∈ GW := GW_in 7 rfl (List.mem_of_getElem? (i := 7) rfl)
theorem q_218 : Cond.instanceMethod yX5_drawLineWithout ∈ GW := GW_in 7 rfl (List.mem_of_getElem? (i := 8) rfl)
theorem q_219 : Cond.selects RX5 yX5_drawLineWithout yX5_drawLineWithout ∈ GW := GW_in 7 rfl (List.mem_of_getElem? (i := 9) rfl)
theorem q_220 : Cond.initialized RX5 ∈ GW := GW_in 7 rfl (List.mem_of_getElem? (i := 10) rfl)
theorem q_221 : Cond.methodLink RX5 140 yX5_roomOn ∈ GW := GW_in 7 rfl (List.mem_of_getElem? (i := 11) rfl)
theorem q_222 : Cond.instanceMethod yX5_roomOn ∈ GW := GW_in 7 rfl (List.mem_of_getElem? (i := 12) rfl)
theorem q_223 : Cond.selects RX5 yX5_roomOn yX5_roomOn ∈ GW := GW_in 7 rfl (List.mem_of_getElem? (i := 13) rfl)
theorem q_224 : Cond.methodLink RX5 143 yX1_leastDaysToClimb ∈ GW := GW_in 7 rfl (List.mem_of_getElem? (i := 14) rfl)
theorem q_225 : Cond.instanceMethod yX1_leastDaysToClimb ∈ GW := GW_in 7 rfl (List.mem_of_getElem? (i := 15) rfl)
theorem q_226 : Cond.selects RX1 yX1_leastDaysToClimb yX1_leastDaysToClimb ∈ GW := GW_in 7 rfl (List.mem_of_getElem? (i := 16) rfl)
theorem q_227 : Cond.code yX5_fullDayWithout cX5_fullDayWithout 5 (some .int) ∈ GW := GW_in 7 rfl (List.mem_of_getElem? (i := 17) rfl)
theorem q_228 : Cond.methodLink RX5 129 yX5_hasSlope ∈ GW := GW_in 7 rfl (List.mem_of_getElem? (i := 18) rfl)
theorem q_229 : Cond.instanceMethod yX5_hasSlope ∈ GW := GW_in 7 rfl (List.mem_of_getElem? (i := 19) rfl)
theorem q_230 : Cond.selects RX5 yX5_hasSlope yX5_hasSlope ∈ GW := GW_in 7 rfl (List.mem_of_getElem? (i := 20) rfl)
theorem q_231 : Cond.methodLink RX5 133 yX5_fullDayWithout ∈ GW := GW_in 7 rfl (List.mem_of_getElem? (i := 21) rfl)
theorem q_232 : Cond.instanceMethod yX5_fullDayWithout ∈ GW := GW_in 7 rfl (List.mem_of_getElem? (i := 22) rfl)
theorem q_233 : Cond.selects RX5 yX5_fullDayWithout yX5_fullDayWithout ∈ GW := GW_in 7 rfl (List.mem_of_getElem? (i := 23) rfl)
theorem q_234 : Cond.code yX5_fullDay cX5_fullDay 1 (some .int) ∈ GW := GW_in 7 rfl (List.mem_of_getElem? (i := 24) rfl)
theorem q_235 : Cond.methodLink RX5 148 Lib.Math.min.name ∈ GW := GW_in 7 rfl (List.mem_of_getElem? (i := 25) rfl)
theorem q_236 : Cond.static Lib.Math.min.name ∈ GW := GW_in 7 rfl (List.mem_of_getElem? (i := 26) rfl)
theorem q_237 : Cond.code Lib.Math.min.name Lib.Math.min.code 2 (some .int) ∈ GW := GW_in 7 rfl (List.mem_of_getElem? (i := 27) rfl)
theorem q_238 : Cond.code yX5_earlyBound cX5_earlyBound 3 (some .int) ∈ GW := GW_in 7 rfl (List.mem_of_getElem? (i := 28) rfl)
theorem q_239 : Cond.code yX5_lateBound cX5_lateBound 3 (some .int) ∈ GW := GW_in 7 rfl (List.mem_of_getElem? (i := 29) rfl)
theorem q_240 : Cond.code yX6_lookChanges cX6_lookChanges 6 (some .boolean) ∈ GW := GW_in 8 rfl (List.mem_of_getElem? (i := 0) rfl)
theorem q_241 : Cond.fieldLink RX6 9 "RoomForecast$Warning" "on" "Z" ∈ GW := GW_in 8 rfl (List.mem_of_getElem? (i := 1) rfl)
theorem q_242 : Cond.fieldLink RX6 15 "RoomForecast$Warning" "wasNear" "Z" ∈ GW := GW_in 8 rfl (List.mem_of_getElem? (i := 2) rfl)
theorem q_243 : Cond.methodLink RX5 150 yX5_earlyBound ∈ GW := GW_in 8 rfl (List.mem_of_getElem? (i := 3) rfl)
theorem q_244 : Cond.instanceMethod yX5_earlyBound ∈ GW := GW_in 8 rfl (List.mem_of_getElem? (i := 4) rfl)
theorem q_245 : Cond.selects RX5 yX5_earlyBound yX5_earlyBound ∈ GW := GW_in 8 rfl (List.mem_of_getElem? (i := 5) rfl)
theorem q_246 : Cond.methodLink RX5 153 yX6_lookChanges ∈ GW := GW_in 8 rfl (List.mem_of_getElem? (i := 6) rfl)
theorem q_247 : Cond.instanceMethod yX6_lookChanges ∈ GW := GW_in 8 rfl (List.mem_of_getElem? (i := 7) rfl)
theorem q_248 : Cond.selects RX6 yX6_lookChanges yX6_lookChanges ∈ GW := GW_in 8 rfl (List.mem_of_getElem? (i := 8) rfl)
theorem q_249 : Cond.code yX5_lookOnDaysAfter cX5_lookOnDaysAfter 6 (some .int) ∈ GW := GW_in 8 rfl (List.mem_of_getElem? (i := 9) rfl)
theorem q_250 : Cond.code yJxa1e45_init_da8c8 cJxa1e45_init_da8c8 1 none ∈ GW := GW_in 8 rfl (List.mem_of_getElem? (i := 10) rfl)
theorem q_251 : Cond.methodLink RJxa1e45 1 objectInit ∈ GW := GW_in 8 rfl (List.mem_of_getElem? (i := 11) rfl)
theorem q_252 : Cond.code yJxc12de_init_da8c8 cJxc12de_init_da8c8 1 none ∈ GW := GW_in 8 rfl (List.mem_of_getElem? (i := 12) rfl)
theorem q_253 : Cond.fieldLink RJxc12de 7 "java/util/AbstractList" "modCount" "I" ∈ GW := GW_in 8 rfl (List.mem_of_getElem? (i := 13) rfl)
theorem q_254 : Cond.methodLink RJxc12de 1 yJxa1e45_init_da8c8 ∈ GW := GW_in 8 rfl (List.mem_of_getElem? (i := 14) rfl)
theorem q_255 : Cond.instanceMethod yJxa1e45_init_da8c8 ∈ GW := GW_in 8 rfl (List.mem_of_getElem? (i := 15) rfl)
theorem q_256 : Cond.initialized RJxa1e45 ∈ GW := GW_in 8 rfl (List.mem_of_getElem? (i := 16) rfl)
theorem q_257 : Cond.code yJx4a65c_init_da8c8 cJx4a65c_init_da8c8 1 none ∈ GW := GW_in 8 rfl (List.mem_of_getElem? (i := 17) rfl)
theorem q_258 : Cond.fieldLink RJx4a65c 39 "java/util/ArrayList" "DEFAULTCAPACITY_EMPTY_ELEMENTDATA" "[Ljava/lang/Object;" ∈ GW := GW_in 8 rfl (List.mem_of_getElem? (i := 18) rfl)
theorem q_259 : Cond.fieldLink RJx4a65c 9 "java/util/ArrayList" "elementData" "[Ljava/lang/Object;" ∈ GW := GW_in 8 rfl (List.mem_of_getElem? (i := 19) rfl)
theorem q_260 : Cond.methodLink RJx4a65c 1 yJxc12de_init_da8c8 ∈ GW := GW_in 8 rfl (List.mem_of_getElem? (i := 20) rfl)
theorem q_261 : Cond.instanceMethod yJxc12de_init_da8c8 ∈ GW := GW_in 8 rfl (List.mem_of_getElem? (i := 21) rfl)
theorem q_262 : Cond.initialized RJxc12de ∈ GW := GW_in 8 rfl (List.mem_of_getElem? (i := 22) rfl)
theorem q_263 : Cond.code yX7_init cX7_init 1 none ∈ GW := GW_in 8 rfl (List.mem_of_getElem? (i := 23) rfl)
theorem q_264 : Cond.methodLink RX7 3 objectInit ∈ GW := GW_in 8 rfl (List.mem_of_getElem? (i := 24) rfl)
theorem q_265 : Cond.classLink RX7 9 RJx4a65c ∈ GW := GW_in 8 rfl (List.mem_of_getElem? (i := 25) rfl)
theorem q_266 : Cond.instantiable RJx4a65c 3 ∈ GW := GW_in 8 rfl (List.mem_of_getElem? (i := 26) rfl)
theorem q_267 : Cond.initialized RJx4a65c ∈ GW := GW_in 8 rfl (List.mem_of_getElem? (i := 27) rfl)
theorem q_268 : Cond.fieldLink RX7 12 "RoomForecast" "stores" "Ljava/util/ArrayList;" ∈ GW := GW_in 8 rfl (List.mem_of_getElem? (i := 28) rfl)
theorem q_269 : Cond.fieldLink RX7 16 "RoomForecast" "currentDay" "I" ∈ GW := GW_in 8 rfl (List.mem_of_getElem? (i := 29) rfl)
theorem q_270 : Cond.methodLink RX7 11 yJx4a65c_init_da8c8 ∈ GW := GW_in 9 rfl (List.mem_of_getElem? (i := 0) rfl)
theorem q_271 : Cond.instanceMethod yJx4a65c_init_da8c8 ∈ GW := GW_in 9 rfl (List.mem_of_getElem? (i := 1) rfl)
theorem q_272 : Cond.code yX7_demandRange cX7_demandRange 3 none ∈ GW := GW_in 9 rfl (List.mem_of_getElem? (i := 2) rfl)
theorem q_273 : Cond.classLink RX7 140 "java/lang/IllegalArgumentException" ∈ GW := GW_in 9 rfl (List.mem_of_getElem? (i := 3) rfl)
theorem q_274 : Cond.initialized "java/lang/IllegalArgumentException" ∈ GW := GW_in 9 rfl (List.mem_of_getElem? (i := 4) rfl)
theorem q_275 : Cond.code yJx4a65c_size_8abf5 cJx4a65c_size_8abf5 1 (some .int) ∈ GW := GW_in 9 rfl (List.mem_of_getElem? (i := 5) rfl)
theorem q_276 : Cond.fieldLink RJx4a65c 48 "java/util/ArrayList" "size" "I" ∈ GW := GW_in 9 rfl (List.mem_of_getElem? (i := 6) rfl)
theorem q_277 : Cond.code yJ8_hugeLength_7cf53 cJ8_hugeLength_7cf53 3 (some .int) ∈ GW := GW_in 9 rfl (List.mem_of_getElem? (i := 7) rfl)
theorem q_278 : Cond.constant RJ8 200 (2147483639) ∈ GW := GW_in 9 rfl (List.mem_of_getElem? (i := 8) rfl)
theorem q_279 : Cond.code yJ8_newLength_cabcc cJ8_newLength_cabcc 4 (some .int) ∈ GW := GW_in 9 rfl (List.mem_of_getElem? (i := 9) rfl)
theorem q_280 : Cond.methodLink RJ8 194 Lib.Math.max.name ∈ GW := GW_in 9 rfl (List.mem_of_getElem? (i := 10) rfl)
theorem q_281 : Cond.methodLink RJ8 201 yJ8_hugeLength_7cf53 ∈ GW := GW_in 9 rfl (List.mem_of_getElem? (i := 11) rfl)
theorem q_282 : Cond.static yJ8_hugeLength_7cf53 ∈ GW := GW_in 9 rfl (List.mem_of_getElem? (i := 12) rfl)
theorem q_283 : Cond.initialized RJ8 ∈ GW := GW_in 9 rfl (List.mem_of_getElem? (i := 13) rfl)
theorem q_284 : Cond.code yJ7_copyOf_6403c cJ7_copyOf_6403c 4 (some (.array (.object "java/lang/Object"))) ∈ GW := GW_in 9 rfl (List.mem_of_getElem? (i := 14) rfl)
theorem q_285 : Cond.classLink RJ7 110 "[Ljava/lang/Object;" ∈ GW := GW_in 9 rfl (List.mem_of_getElem? (i := 15) rfl)
theorem q_286 : Cond.classLink RJ7 2 "java/lang/Object" ∈ GW := GW_in 9 rfl (List.mem_of_getElem? (i := 16) rfl)
theorem q_287 : Cond.methodLink RJ7 304 Lib.Math.min.name ∈ GW := GW_in 9 rfl (List.mem_of_getElem? (i := 17) rfl)
theorem q_288 : Cond.methodLink RJ7 150 arraycopyName ∈ GW := GW_in 9 rfl (List.mem_of_getElem? (i := 18) rfl)
theorem q_289 : Cond.native arraycopyName ∈ GW := GW_in 9 rfl (List.mem_of_getElem? (i := 19) rfl)
theorem q_290 : Cond.static arraycopyName ∈ GW := GW_in 9 rfl (List.mem_of_getElem? (i := 20) rfl)
theorem q_291 : Cond.initialized "java/lang/System" ∈ GW := GW_in 9 rfl (List.mem_of_getElem? (i := 21) rfl)
theorem q_292 : Cond.code yJ7_copyOf_1904c cJ7_copyOf_1904c 2 (some (.array (.object "java/lang/Object"))) ∈ GW := GW_in 9 rfl (List.mem_of_getElem? (i := 22) rfl)
theorem q_293 : Cond.methodLink RJ7 86 ⟨"java/lang/Object", "getClass", "()Ljava/lang/Class;"⟩ ∈ GW := GW_in 9 rfl (List.mem_of_getElem? (i := 23) rfl)
theorem q_294 : Cond.selects "[Ljava/lang/Object;" ⟨"java/lang/Object", "getClass", "()Ljava/lang/Class;"⟩ ⟨"java/lang/Object", "getClass", "()Ljava/lang/Class;"⟩ ∈ GW := GW_in 9 rfl (List.mem_of_getElem? (i := 24) rfl)
theorem q_295 : Cond.instanceMethod ⟨"java/lang/Object", "getClass", "()Ljava/lang/Class;"⟩ ∈ GW := GW_in 9 rfl (List.mem_of_getElem? (i := 25) rfl)
theorem q_296 : Cond.native ⟨"java/lang/Object", "getClass", "()Ljava/lang/Class;"⟩ ∈ GW := GW_in 9 rfl (List.mem_of_getElem? (i := 26) rfl)
theorem q_297 : Cond.methodLink RJ7 300 yJ7_copyOf_6403c ∈ GW := GW_in 9 rfl (List.mem_of_getElem? (i := 27) rfl)
theorem q_298 : Cond.static yJ7_copyOf_6403c ∈ GW := GW_in 9 rfl (List.mem_of_getElem? (i := 28) rfl)
theorem q_299 : Cond.initialized RJ7 ∈ GW := GW_in 9 rfl (List.mem_of_getElem? (i := 29) rfl)
theorem q_300 : Cond.methodLink RJx4a65c 79 Lib.Math.max.name ∈ GW := GW_in 10 rfl (List.mem_of_getElem? (i := 0) rfl)
theorem q_301 : Cond.classLink RJx4a65c 7 "java/lang/Object" ∈ GW := GW_in 10 rfl (List.mem_of_getElem? (i := 1) rfl)
theorem q_302 : Cond.methodLink RJx4a65c 73 yJ8_newLength_cabcc ∈ GW := GW_in 10 rfl (List.mem_of_getElem? (i := 2) rfl)
theorem q_303 : Cond.static yJ8_newLength_cabcc ∈ GW := GW_in 10 rfl (List.mem_of_getElem? (i := 3) rfl)
theorem q_304 : Cond.methodLink RJx4a65c 66 yJ7_copyOf_1904c ∈ GW := GW_in 10 rfl (List.mem_of_getElem? (i := 4) rfl)
theorem q_305 : Cond.static yJ7_copyOf_1904c ∈ GW := GW_in 10 rfl (List.mem_of_getElem? (i := 5) rfl)
theorem q_306 : Cond.code yJx4a65c_grow_92f84 cJx4a65c_grow_92f84 4 (some (.array (.object "java/lang/Object"))) ∈ GW := GW_in 10 rfl (List.mem_of_getElem? (i := 6) rfl)
theorem q_307 : Cond.methodLink RJx4a65c 69 yJx4a65c_grow_92f84 ∈ GW := GW_in 10 rfl (List.mem_of_getElem? (i := 7) rfl)
theorem q_308 : Cond.instanceMethod yJx4a65c_grow_92f84 ∈ GW := GW_in 10 rfl (List.mem_of_getElem? (i := 8) rfl)
theorem q_309 : Cond.selects RJx4a65c yJx4a65c_grow_92f84 yJx4a65c_grow_92f84 ∈ GW := GW_in 10 rfl (List.mem_of_getElem? (i := 9) rfl)
theorem q_310 : Cond.code yJx4a65c_grow_d5877 cJx4a65c_grow_d5877 1 (some (.array (.object "java/lang/Object"))) ∈ GW := GW_in 10 rfl (List.mem_of_getElem? (i := 10) rfl)
theorem q_311 : Cond.methodLink RJx4a65c 129 yJx4a65c_grow_d5877 ∈ GW := GW_in 10 rfl (List.mem_of_getElem? (i := 11) rfl)
theorem q_312 : Cond.instanceMethod yJx4a65c_grow_d5877 ∈ GW := GW_in 10 rfl (List.mem_of_getElem? (i := 12) rfl)
theorem q_313 : Cond.selects RJx4a65c yJx4a65c_grow_d5877 yJx4a65c_grow_d5877 ∈ GW := GW_in 10 rfl (List.mem_of_getElem? (i := 13) rfl)
theorem q_314 : Cond.code yJx4a65c_add_72be8 cJx4a65c_add_72be8 4 none ∈ GW := GW_in 10 rfl (List.mem_of_getElem? (i := 14) rfl)
theorem q_315 : Cond.fieldLink RJx4a65c 63 "java/util/ArrayList" "modCount" "I" ∈ GW := GW_in 10 rfl (List.mem_of_getElem? (i := 15) rfl)
theorem q_316 : Cond.sameField "java/util/ArrayList" "java/util/AbstractList" "modCount" "I" ∈ GW := GW_in 10 rfl (List.mem_of_getElem? (i := 16) rfl)
theorem q_317 : Cond.methodLink RJx4a65c 131 yJx4a65c_add_72be8 ∈ GW := GW_in 10 rfl (List.mem_of_getElem? (i := 17) rfl)
theorem q_318 : Cond.instanceMethod yJx4a65c_add_72be8 ∈ GW := GW_in 10 rfl (List.mem_of_getElem? (i := 18) rfl)
theorem q_319 : Cond.selects RJx4a65c yJx4a65c_add_72be8 yJx4a65c_add_72be8 ∈ GW := GW_in 10 rfl (List.mem_of_getElem? (i := 19) rfl)
theorem q_320 : Cond.code yJx4a65c_add_9ea2d cJx4a65c_add_9ea2d 2 (some .boolean) ∈ GW := GW_in 10 rfl (List.mem_of_getElem? (i := 20) rfl)
theorem q_321 : Cond.classLink RX7 29 "java/lang/IllegalStateException" ∈ GW := GW_in 10 rfl (List.mem_of_getElem? (i := 21) rfl)
theorem q_322 : Cond.initialized "java/lang/IllegalStateException" ∈ GW := GW_in 10 rfl (List.mem_of_getElem? (i := 22) rfl)
theorem q_323 : Cond.constant RX7 20 (1000000) ∈ GW := GW_in 10 rfl (List.mem_of_getElem? (i := 23) rfl)
theorem q_324 : Cond.classLink RX7 36 RX5 ∈ GW := GW_in 10 rfl (List.mem_of_getElem? (i := 24) rfl)
theorem q_325 : Cond.instantiable RX5 7 ∈ GW := GW_in 10 rfl (List.mem_of_getElem? (i := 25) rfl)
theorem q_326 : Cond.methodLink RX7 21 yX7_demandRange ∈ GW := GW_in 10 rfl (List.mem_of_getElem? (i := 26) rfl)
theorem q_327 : Cond.static yX7_demandRange ∈ GW := GW_in 10 rfl (List.mem_of_getElem? (i := 27) rfl)
theorem q_328 : Cond.methodLink RX7 25 yJx4a65c_size_8abf5 ∈ GW := GW_in 10 rfl (List.mem_of_getElem? (i := 28) rfl)
theorem q_329 : Cond.instanceMethod yJx4a65c_size_8abf5 ∈ GW := GW_in 10 rfl (List.mem_of_getElem? (i := 29) rfl)
theorem q_330 : Cond.selects RJx4a65c yJx4a65c_size_8abf5 yJx4a65c_size_8abf5 ∈ GW := GW_in 11 rfl (List.mem_of_getElem? (i := 0) rfl)
theorem q_331 : Cond.methodLink RX7 38 yX5_init ∈ GW := GW_in 11 rfl (List.mem_of_getElem? (i := 1) rfl)
theorem q_332 : Cond.instanceMethod yX5_init ∈ GW := GW_in 11 rfl (List.mem_of_getElem? (i := 2) rfl)
theorem q_333 : Cond.methodLink RX7 41 yJx4a65c_add_9ea2d ∈ GW := GW_in 11 rfl (List.mem_of_getElem? (i := 3) rfl)
theorem q_334 : Cond.instanceMethod yJx4a65c_add_9ea2d ∈ GW := GW_in 11 rfl (List.mem_of_getElem? (i := 4) rfl)
theorem q_335 : Cond.selects RJx4a65c yJx4a65c_add_9ea2d yJx4a65c_add_9ea2d ∈ GW := GW_in 11 rfl (List.mem_of_getElem? (i := 5) rfl)
theorem q_336 : Cond.code yX7_addStore cX7_addStore 2 (some .int) ∈ GW := GW_in 11 rfl (List.mem_of_getElem? (i := 6) rfl)
theorem q_337 : Cond.code yJ3_checkIndex_8e157 cJ3_checkIndex_8e157 3 (some .int) ∈ GW := GW_in 11 rfl (List.mem_of_getElem? (i := 7) rfl)
theorem q_338 : Cond.code yJ15_checkIndex_7cf53 cJ15_checkIndex_7cf53 2 (some .int) ∈ GW := GW_in 11 rfl (List.mem_of_getElem? (i := 8) rfl)
theorem q_339 : Cond.methodLink RJ15 105 yJ3_checkIndex_8e157 ∈ GW := GW_in 11 rfl (List.mem_of_getElem? (i := 9) rfl)
theorem q_340 : Cond.static yJ3_checkIndex_8e157 ∈ GW := GW_in 11 rfl (List.mem_of_getElem? (i := 10) rfl)
theorem q_341 : Cond.initialized RJ3 ∈ GW := GW_in 11 rfl (List.mem_of_getElem? (i := 11) rfl)
theorem q_342 : Cond.code yJx4a65c_elementData_915e3 cJx4a65c_elementData_915e3 2 (some (.object "java/lang/Object")) ∈ GW := GW_in 11 rfl (List.mem_of_getElem? (i := 12) rfl)
theorem q_343 : Cond.code yJx4a65c_get_915e3 cJx4a65c_get_915e3 2 (some (.object "java/lang/Object")) ∈ GW := GW_in 11 rfl (List.mem_of_getElem? (i := 13) rfl)
theorem q_344 : Cond.methodLink RJx4a65c 118 yJ15_checkIndex_7cf53 ∈ GW := GW_in 11 rfl (List.mem_of_getElem? (i := 14) rfl)
theorem q_345 : Cond.static yJ15_checkIndex_7cf53 ∈ GW := GW_in 11 rfl (List.mem_of_getElem? (i := 15) rfl)
theorem q_346 : Cond.initialized RJ15 ∈ GW := GW_in 11 rfl (List.mem_of_getElem? (i := 16) rfl)
theorem q_347 : Cond.methodLink RJx4a65c 123 yJx4a65c_elementData_915e3 ∈ GW := GW_in 11 rfl (List.mem_of_getElem? (i := 17) rfl)
theorem q_348 : Cond.instanceMethod yJx4a65c_elementData_915e3 ∈ GW := GW_in 11 rfl (List.mem_of_getElem? (i := 18) rfl)
theorem q_349 : Cond.selects RJx4a65c yJx4a65c_elementData_915e3 yJx4a65c_elementData_915e3 ∈ GW := GW_in 11 rfl (List.mem_of_getElem? (i := 19) rfl)
theorem q_350 : Cond.classLink RX7 159 "java/lang/IndexOutOfBoundsException" ∈ GW := GW_in 11 rfl (List.mem_of_getElem? (i := 20) rfl)
theorem q_351 : Cond.initialized "java/lang/IndexOutOfBoundsException" ∈ GW := GW_in 11 rfl (List.mem_of_getElem? (i := 21) rfl)
theorem q_352 : Cond.classLink RX7 36 "RoomForecast$Store" ∈ GW := GW_in 11 rfl (List.mem_of_getElem? (i := 22) rfl)
theorem q_353 : Cond.methodLink RX7 88 yJx4a65c_get_915e3 ∈ GW := GW_in 11 rfl (List.mem_of_getElem? (i := 23) rfl)
theorem q_354 : Cond.instanceMethod yJx4a65c_get_915e3 ∈ GW := GW_in 11 rfl (List.mem_of_getElem? (i := 24) rfl)
theorem q_355 : Cond.selects RJx4a65c yJx4a65c_get_915e3 yJx4a65c_get_915e3 ∈ GW := GW_in 11 rfl (List.mem_of_getElem? (i := 25) rfl)
theorem q_356 : Cond.code yX7_storeAt cX7_storeAt 2 (some (.object "RoomForecast$Store")) ∈ GW := GW_in 11 rfl (List.mem_of_getElem? (i := 26) rfl)
theorem q_357 : Cond.methodLink RX7 45 yX7_storeAt ∈ GW := GW_in 11 rfl (List.mem_of_getElem? (i := 27) rfl)
theorem q_358 : Cond.instanceMethod yX7_storeAt ∈ GW := GW_in 11 rfl (List.mem_of_getElem? (i := 28) rfl)
theorem q_359 : Cond.selects RX7 yX7_storeAt yX7_storeAt ∈ GW := GW_in 11 rfl (List.mem_of_getElem? (i := 29) rfl)
theorem q_360 : Cond.code yX7_setSize cX7_setSize 5 (some .int) ∈ GW := GW_in 12 rfl (List.mem_of_getElem? (i := 0) rfl)
theorem q_361 : Cond.methodLink RX7 51 yX5_tellUsed ∈ GW := GW_in 12 rfl (List.mem_of_getElem? (i := 1) rfl)
theorem q_362 : Cond.instanceMethod yX5_tellUsed ∈ GW := GW_in 12 rfl (List.mem_of_getElem? (i := 2) rfl)
theorem q_363 : Cond.selects RX5 yX5_tellUsed yX5_tellUsed ∈ GW := GW_in 12 rfl (List.mem_of_getElem? (i := 3) rfl)
theorem q_364 : Cond.methodLink RX7 59 yX4_number ∈ GW := GW_in 12 rfl (List.mem_of_getElem? (i := 4) rfl)
theorem q_365 : Cond.code yX7_sample cX7_sample 4 (some .int) ∈ GW := GW_in 12 rfl (List.mem_of_getElem? (i := 5) rfl)
theorem q_366 : Cond.constant RX7 64 (100000) ∈ GW := GW_in 12 rfl (List.mem_of_getElem? (i := 6) rfl)
theorem q_367 : Cond.methodLink RX7 69 yX0_number ∈ GW := GW_in 12 rfl (List.mem_of_getElem? (i := 7) rfl)
theorem q_368 : Cond.instanceMethod yX0_number ∈ GW := GW_in 12 rfl (List.mem_of_getElem? (i := 8) rfl)
theorem q_369 : Cond.selects RX0 yX0_number yX0_number ∈ GW := GW_in 12 rfl (List.mem_of_getElem? (i := 9) rfl)
theorem q_370 : Cond.methodLink RX7 74 yX5_tellFreed ∈ GW := GW_in 12 rfl (List.mem_of_getElem? (i := 10) rfl)
theorem q_371 : Cond.instanceMethod yX5_tellFreed ∈ GW := GW_in 12 rfl (List.mem_of_getElem? (i := 11) rfl)
theorem q_372 : Cond.selects RX5 yX5_tellFreed yX5_tellFreed ∈ GW := GW_in 12 rfl (List.mem_of_getElem? (i := 12) rfl)
theorem q_373 : Cond.code yX7_clean cX7_clean 4 (some .int) ∈ GW := GW_in 12 rfl (List.mem_of_getElem? (i := 13) rfl)
theorem q_374 : Cond.methodLink RX7 81 yX3_change ∈ GW := GW_in 12 rfl (List.mem_of_getElem? (i := 14) rfl)
theorem q_375 : Cond.instanceMethod yX3_change ∈ GW := GW_in 12 rfl (List.mem_of_getElem? (i := 15) rfl)
theorem q_376 : Cond.selects RX3 yX3_change yX3_change ∈ GW := GW_in 12 rfl (List.mem_of_getElem? (i := 16) rfl)
theorem q_377 : Cond.code yX7_setRule cX7_setRule 5 none ∈ GW := GW_in 12 rfl (List.mem_of_getElem? (i := 17) rfl)
theorem q_378 : Cond.methodLink RX7 92 yX5_lookOnDaysAfter ∈ GW := GW_in 12 rfl (List.mem_of_getElem? (i := 18) rfl)
theorem q_379 : Cond.instanceMethod yX5_lookOnDaysAfter ∈ GW := GW_in 12 rfl (List.mem_of_getElem? (i := 19) rfl)
theorem q_380 : Cond.selects RX5 yX5_lookOnDaysAfter yX5_lookOnDaysAfter ∈ GW := GW_in 12 rfl (List.mem_of_getElem? (i := 20) rfl)
theorem q_381 : Cond.code yX7_pass cX7_pass 4 (some .int) ∈ GW := GW_in 12 rfl (List.mem_of_getElem? (i := 21) rfl)
theorem q_382 : Cond.code yX7_today cX7_today 1 (some .int) ∈ GW := GW_in 12 rfl (List.mem_of_getElem? (i := 22) rfl)
theorem q_383 : Cond.code yX7_samples cX7_samples 2 (some .int) ∈ GW := GW_in 12 rfl (List.mem_of_getElem? (i := 23) rfl)
theorem q_384 : Cond.methodLink RX7 164 yX5_hasSlope ∈ GW := GW_in 12 rfl (List.mem_of_getElem? (i := 24) rfl)
theorem q_385 : Cond.methodLink RX7 170 yX5_drawLineWithout ∈ GW := GW_in 12 rfl (List.mem_of_getElem? (i := 25) rfl)
theorem q_386 : Cond.code yX7_slopeOf cX7_slopeOf 3 (some (.object "RoomForecast$Line")) ∈ GW := GW_in 12 rfl (List.mem_of_getElem? (i := 26) rfl)
theorem q_387 : Cond.methodLink RX7 96 yX7_slopeOf ∈ GW := GW_in 12 rfl (List.mem_of_getElem? (i := 27) rfl)
theorem q_388 : Cond.instanceMethod yX7_slopeOf ∈ GW := GW_in 12 rfl (List.mem_of_getElem? (i := 28) rfl)
theorem q_389 : Cond.selects RX7 yX7_slopeOf yX7_slopeOf ∈ GW := GW_in 12 rfl (List.mem_of_getElem? (i := 29) rfl)
theorem q_390 : Cond.methodLink RX7 100 yX1_riseInLowestTerms ∈ GW := GW_in 13 rfl (List.mem_of_getElem? (i := 0) rfl)
theorem q_391 : Cond.instanceMethod yX1_riseInLowestTerms ∈ GW := GW_in 13 rfl (List.mem_of_getElem? (i := 1) rfl)
theorem q_392 : Cond.selects RX1 yX1_riseInLowestTerms yX1_riseInLowestTerms ∈ GW := GW_in 13 rfl (List.mem_of_getElem? (i := 2) rfl)
theorem q_393 : Cond.code yX7_slopeNumerator cX7_slopeNumerator 2 (some .int) ∈ GW := GW_in 13 rfl (List.mem_of_getElem? (i := 3) rfl)
theorem q_394 : Cond.methodLink RX7 105 yX1_runInLowestTerms ∈ GW := GW_in 13 rfl (List.mem_of_getElem? (i := 4) rfl)
theorem q_395 : Cond.instanceMethod yX1_runInLowestTerms ∈ GW := GW_in 13 rfl (List.mem_of_getElem? (i := 5) rfl)
theorem q_396 : Cond.selects RX1 yX1_runInLowestTerms yX1_runInLowestTerms ∈ GW := GW_in 13 rfl (List.mem_of_getElem? (i := 6) rfl)
theorem q_397 : Cond.code yX7_slopeDenominator cX7_slopeDenominator 2 (some .int) ∈ GW := GW_in 13 rfl (List.mem_of_getElem? (i := 7) rfl)
theorem q_398 : Cond.methodLink RX7 108 yX0_usualSize ∈ GW := GW_in 13 rfl (List.mem_of_getElem? (i := 8) rfl)
theorem q_399 : Cond.code yX7_usual cX7_usual 2 (some .int) ∈ GW := GW_in 13 rfl (List.mem_of_getElem? (i := 9) rfl)
theorem q_400 : Cond.methodLink RX7 114 yX5_roomOn ∈ GW := GW_in 13 rfl (List.mem_of_getElem? (i := 10) rfl)
theorem q_401 : Cond.code yX7_forecast cX7_forecast 5 (some .int) ∈ GW := GW_in 13 rfl (List.mem_of_getElem? (i := 11) rfl)
theorem q_402 : Cond.code yX7_dayOrNone cX7_dayOrNone 1 (some .int) ∈ GW := GW_in 13 rfl (List.mem_of_getElem? (i := 12) rfl)
theorem q_403 : Cond.methodLink RX7 118 yX5_fullDay ∈ GW := GW_in 13 rfl (List.mem_of_getElem? (i := 13) rfl)
theorem q_404 : Cond.instanceMethod yX5_fullDay ∈ GW := GW_in 13 rfl (List.mem_of_getElem? (i := 14) rfl)
theorem q_405 : Cond.selects RX5 yX5_fullDay yX5_fullDay ∈ GW := GW_in 13 rfl (List.mem_of_getElem? (i := 15) rfl)
theorem q_406 : Cond.methodLink RX7 121 yX7_dayOrNone ∈ GW := GW_in 13 rfl (List.mem_of_getElem? (i := 16) rfl)
theorem q_407 : Cond.static yX7_dayOrNone ∈ GW := GW_in 13 rfl (List.mem_of_getElem? (i := 17) rfl)
theorem q_408 : Cond.code yX7_full cX7_full 2 (some .int) ∈ GW := GW_in 13 rfl (List.mem_of_getElem? (i := 18) rfl)
theorem q_409 : Cond.methodLink RX7 124 yX5_earlyBound ∈ GW := GW_in 13 rfl (List.mem_of_getElem? (i := 19) rfl)
theorem q_410 : Cond.code yX7_early cX7_early 2 (some .int) ∈ GW := GW_in 13 rfl (List.mem_of_getElem? (i := 20) rfl)
theorem q_411 : Cond.methodLink RX7 127 yX5_lateBound ∈ GW := GW_in 13 rfl (List.mem_of_getElem? (i := 21) rfl)
theorem q_412 : Cond.instanceMethod yX5_lateBound ∈ GW := GW_in 13 rfl (List.mem_of_getElem? (i := 22) rfl)
theorem q_413 : Cond.selects RX5 yX5_lateBound yX5_lateBound ∈ GW := GW_in 13 rfl (List.mem_of_getElem? (i := 23) rfl)
theorem q_414 : Cond.code yX7_late cX7_late 2 (some .int) ∈ GW := GW_in 13 rfl (List.mem_of_getElem? (i := 24) rfl)
theorem q_415 : Cond.code yX7_warns cX7_warns 2 (some .boolean) ∈ GW := GW_in 13 rfl (List.mem_of_getElem? (i := 25) rfl)
theorem q_416 : Cond.code yX7_isInPool cX7_isInPool 2 (some .boolean) ∈ GW := GW_in 13 rfl (List.mem_of_getElem? (i := 26) rfl)
theorem q_417 : Cond.methodLink RX7 177 yX7_isInPool ∈ GW := GW_in 13 rfl (List.mem_of_getElem? (i := 27) rfl)
theorem q_418 : Cond.static yX7_isInPool ∈ GW := GW_in 13 rfl (List.mem_of_getElem? (i := 28) rfl)
theorem q_419 : Cond.code yX7_drawPool cX7_drawPool 4 (some .boolean) ∈ GW := GW_in 13 rfl (List.mem_of_getElem? (i := 29) rfl)
theorem q_420 : Cond.code yX7_poolSize cX7_poolSize 5 (some .long) ∈ GW := GW_in 14 rfl (List.mem_of_getElem? (i := 0) rfl)
theorem q_421 : Cond.code yX7_poolRoomOn cX7_poolRoomOn 6 (some .long) ∈ GW := GW_in 14 rfl (List.mem_of_getElem? (i := 1) rfl)
theorem q_422 : Cond.methodLink RX7 145 yX7_drawPool ∈ GW := GW_in 14 rfl (List.mem_of_getElem? (i := 2) rfl)
theorem q_423 : Cond.instanceMethod yX7_drawPool ∈ GW := GW_in 14 rfl (List.mem_of_getElem? (i := 3) rfl)
theorem q_424 : Cond.selects RX7 yX7_drawPool yX7_drawPool ∈ GW := GW_in 14 rfl (List.mem_of_getElem? (i := 4) rfl)
theorem q_425 : Cond.methodLink RX7 149 yX7_poolSize ∈ GW := GW_in 14 rfl (List.mem_of_getElem? (i := 5) rfl)
theorem q_426 : Cond.instanceMethod yX7_poolSize ∈ GW := GW_in 14 rfl (List.mem_of_getElem? (i := 6) rfl)
theorem q_427 : Cond.selects RX7 yX7_poolSize yX7_poolSize ∈ GW := GW_in 14 rfl (List.mem_of_getElem? (i := 7) rfl)
theorem q_428 : Cond.methodLink RX7 153 yX7_poolRoomOn ∈ GW := GW_in 14 rfl (List.mem_of_getElem? (i := 8) rfl)
theorem q_429 : Cond.instanceMethod yX7_poolRoomOn ∈ GW := GW_in 14 rfl (List.mem_of_getElem? (i := 9) rfl)
theorem q_430 : Cond.selects RX7 yX7_poolRoomOn yX7_poolRoomOn ∈ GW := GW_in 14 rfl (List.mem_of_getElem? (i := 10) rfl)
theorem q_431 : Cond.code yX7_poolFull cX7_poolFull 5 (some .int) ∈ GW := GW_in 14 rfl (List.mem_of_getElem? (i := 11) rfl)
theorem q_432 : Cond.code yJ9_abs_0f7a4 cJ9_abs_0f7a4 1 (some .int) ∈ GW := GW_in 14 rfl (List.mem_of_getElem? (i := 12) rfl)
theorem q_433 : Cond.code yJ9_max_7cf53 cJ9_max_7cf53 2 (some .int) ∈ GW := GW_in 14 rfl (List.mem_of_getElem? (i := 13) rfl)
theorem q_434 : Cond.code yJ9_max_f86c9 cJ9_max_f86c9 4 (some .long) ∈ GW := GW_in 14 rfl (List.mem_of_getElem? (i := 14) rfl)
theorem q_435 : Cond.code yJ9_min_7cf53 cJ9_min_7cf53 2 (some .int) ∈ GW := GW_in 14 rfl (List.mem_of_getElem? (i := 15) rfl)
theorem q_436 : Cond.code yJ9_min_f86c9 cJ9_min_f86c9 4 (some .long) ∈ GW := GW_in 14 rfl (List.mem_of_getElem? (i := 16) rfl)
theorem q_437 : Cond.code yL_dice cL_dice 2 (some .int) ∈ GW := GW_in 14 rfl (List.mem_of_getElem? (i := 17) rfl)
theorem q_438 : Cond.constant RL 7 (961987163) ∈ GW := GW_in 14 rfl (List.mem_of_getElem? (i := 18) rfl)
theorem q_439 : Cond.constant RL 8 (2147483647) ∈ GW := GW_in 14 rfl (List.mem_of_getElem? (i := 19) rfl)
theorem q_440 : Cond.classLink RL 34 "java/lang/IndexOutOfBoundsException" ∈ GW := GW_in 14 rfl (List.mem_of_getElem? (i := 20) rfl)
theorem q_441 : Cond.classLink RL 36 "java/lang/IllegalArgumentException" ∈ GW := GW_in 14 rfl (List.mem_of_getElem? (i := 21) rfl)
theorem q_442 : Cond.classLink RL 38 "java/lang/IllegalStateException" ∈ GW := GW_in 14 rfl (List.mem_of_getElem? (i := 22) rfl)
theorem q_443 : Cond.methodLink RL 9 yX7_addStore ∈ GW := GW_in 14 rfl (List.mem_of_getElem? (i := 23) rfl)
theorem q_444 : Cond.instanceMethod yX7_addStore ∈ GW := GW_in 14 rfl (List.mem_of_getElem? (i := 24) rfl)
theorem q_445 : Cond.selects RX7 yX7_addStore yX7_addStore ∈ GW := GW_in 14 rfl (List.mem_of_getElem? (i := 25) rfl)
theorem q_446 : Cond.methodLink RL 15 yX7_setSize ∈ GW := GW_in 14 rfl (List.mem_of_getElem? (i := 26) rfl)
theorem q_447 : Cond.instanceMethod yX7_setSize ∈ GW := GW_in 14 rfl (List.mem_of_getElem? (i := 27) rfl)
theorem q_448 : Cond.selects RX7 yX7_setSize yX7_setSize ∈ GW := GW_in 14 rfl (List.mem_of_getElem? (i := 28) rfl)
theorem q_449 : Cond.methodLink RL 19 yX7_sample ∈ GW := GW_in 14 rfl (List.mem_of_getElem? (i := 29) rfl)
theorem q_450 : Cond.instanceMethod yX7_sample ∈ GW := GW_in 15 rfl (List.mem_of_getElem? (i := 0) rfl)
theorem q_451 : Cond.selects RX7 yX7_sample yX7_sample ∈ GW := GW_in 15 rfl (List.mem_of_getElem? (i := 1) rfl)
theorem q_452 : Cond.methodLink RL 22 yX7_clean ∈ GW := GW_in 15 rfl (List.mem_of_getElem? (i := 2) rfl)
theorem q_453 : Cond.instanceMethod yX7_clean ∈ GW := GW_in 15 rfl (List.mem_of_getElem? (i := 3) rfl)
theorem q_454 : Cond.selects RX7 yX7_clean yX7_clean ∈ GW := GW_in 15 rfl (List.mem_of_getElem? (i := 4) rfl)
theorem q_455 : Cond.methodLink RL 25 yX7_pass ∈ GW := GW_in 15 rfl (List.mem_of_getElem? (i := 5) rfl)
theorem q_456 : Cond.instanceMethod yX7_pass ∈ GW := GW_in 15 rfl (List.mem_of_getElem? (i := 6) rfl)
theorem q_457 : Cond.selects RX7 yX7_pass yX7_pass ∈ GW := GW_in 15 rfl (List.mem_of_getElem? (i := 7) rfl)
theorem q_458 : Cond.methodLink RL 28 yX7_forecast ∈ GW := GW_in 15 rfl (List.mem_of_getElem? (i := 8) rfl)
theorem q_459 : Cond.instanceMethod yX7_forecast ∈ GW := GW_in 15 rfl (List.mem_of_getElem? (i := 9) rfl)
theorem q_460 : Cond.selects RX7 yX7_forecast yX7_forecast ∈ GW := GW_in 15 rfl (List.mem_of_getElem? (i := 10) rfl)
theorem q_461 : Cond.methodLink RL 31 yX7_poolFull ∈ GW := GW_in 15 rfl (List.mem_of_getElem? (i := 11) rfl)
theorem q_462 : Cond.instanceMethod yX7_poolFull ∈ GW := GW_in 15 rfl (List.mem_of_getElem? (i := 12) rfl)
theorem q_463 : Cond.selects RX7 yX7_poolFull yX7_poolFull ∈ GW := GW_in 15 rfl (List.mem_of_getElem? (i := 13) rfl)
theorem q_464 : Cond.codeWith yL_act cL_act 5 (some .int) [(0, 86, 87, 34), (0, 86, 93, 36), (0, 86, 99, 38)] ∈ GW := GW_in 15 rfl (List.mem_of_getElem? (i := 14) rfl)
theorem q_465 : Cond.methodLink RL 40 yX7_setRule ∈ GW := GW_in 15 rfl (List.mem_of_getElem? (i := 15) rfl)
theorem q_466 : Cond.instanceMethod yX7_setRule ∈ GW := GW_in 15 rfl (List.mem_of_getElem? (i := 16) rfl)
theorem q_467 : Cond.selects RX7 yX7_setRule yX7_setRule ∈ GW := GW_in 15 rfl (List.mem_of_getElem? (i := 17) rfl)
theorem q_468 : Cond.codeWith yL_setRule cL_setRule 5 (some .int) [(0, 8, 9, 34), (0, 8, 15, 36)] ∈ GW := GW_in 15 rfl (List.mem_of_getElem? (i := 18) rfl)
theorem q_469 : Cond.methodLink RL 44 yX7_samples ∈ GW := GW_in 15 rfl (List.mem_of_getElem? (i := 19) rfl)
theorem q_470 : Cond.instanceMethod yX7_samples ∈ GW := GW_in 15 rfl (List.mem_of_getElem? (i := 20) rfl)
theorem q_471 : Cond.selects RX7 yX7_samples yX7_samples ∈ GW := GW_in 15 rfl (List.mem_of_getElem? (i := 21) rfl)
theorem q_472 : Cond.methodLink RL 47 yX7_usual ∈ GW := GW_in 15 rfl (List.mem_of_getElem? (i := 22) rfl)
theorem q_473 : Cond.instanceMethod yX7_usual ∈ GW := GW_in 15 rfl (List.mem_of_getElem? (i := 23) rfl)
theorem q_474 : Cond.selects RX7 yX7_usual yX7_usual ∈ GW := GW_in 15 rfl (List.mem_of_getElem? (i := 24) rfl)
theorem q_475 : Cond.methodLink RL 50 yX7_full ∈ GW := GW_in 15 rfl (List.mem_of_getElem? (i := 25) rfl)
theorem q_476 : Cond.instanceMethod yX7_full ∈ GW := GW_in 15 rfl (List.mem_of_getElem? (i := 26) rfl)
theorem q_477 : Cond.selects RX7 yX7_full yX7_full ∈ GW := GW_in 15 rfl (List.mem_of_getElem? (i := 27) rfl)
theorem q_478 : Cond.methodLink RL 53 yX7_early ∈ GW := GW_in 15 rfl (List.mem_of_getElem? (i := 28) rfl)
theorem q_479 : Cond.instanceMethod yX7_early ∈ GW := GW_in 15 rfl (List.mem_of_getElem? (i := 29) rfl)
theorem q_480 : Cond.selects RX7 yX7_early yX7_early ∈ GW := GW_in 16 rfl (List.mem_of_getElem? (i := 0) rfl)
theorem q_481 : Cond.methodLink RL 56 yX7_late ∈ GW := GW_in 16 rfl (List.mem_of_getElem? (i := 1) rfl)
theorem q_482 : Cond.instanceMethod yX7_late ∈ GW := GW_in 16 rfl (List.mem_of_getElem? (i := 2) rfl)
theorem q_483 : Cond.selects RX7 yX7_late yX7_late ∈ GW := GW_in 16 rfl (List.mem_of_getElem? (i := 3) rfl)
theorem q_484 : Cond.methodLink RL 59 yX7_warns ∈ GW := GW_in 16 rfl (List.mem_of_getElem? (i := 4) rfl)
theorem q_485 : Cond.instanceMethod yX7_warns ∈ GW := GW_in 16 rfl (List.mem_of_getElem? (i := 5) rfl)
theorem q_486 : Cond.selects RX7 yX7_warns yX7_warns ∈ GW := GW_in 16 rfl (List.mem_of_getElem? (i := 6) rfl)
theorem q_487 : Cond.codeWith yL_of cL_of 4 (some .int) [(0, 77, 78, 34)] ∈ GW := GW_in 16 rfl (List.mem_of_getElem? (i := 7) rfl)
theorem q_488 : Cond.constant RL 69 (-2000000971) ∈ GW := GW_in 16 rfl (List.mem_of_getElem? (i := 8) rfl)
theorem q_489 : Cond.constant RL 70 (-2000000973) ∈ GW := GW_in 16 rfl (List.mem_of_getElem? (i := 9) rfl)
theorem q_490 : Cond.methodLink RL 63 yX7_slopeNumerator ∈ GW := GW_in 16 rfl (List.mem_of_getElem? (i := 10) rfl)
theorem q_491 : Cond.instanceMethod yX7_slopeNumerator ∈ GW := GW_in 16 rfl (List.mem_of_getElem? (i := 11) rfl)
theorem q_492 : Cond.selects RX7 yX7_slopeNumerator yX7_slopeNumerator ∈ GW := GW_in 16 rfl (List.mem_of_getElem? (i := 12) rfl)
theorem q_493 : Cond.methodLink RL 66 yX7_slopeDenominator ∈ GW := GW_in 16 rfl (List.mem_of_getElem? (i := 13) rfl)
theorem q_494 : Cond.instanceMethod yX7_slopeDenominator ∈ GW := GW_in 16 rfl (List.mem_of_getElem? (i := 14) rfl)
theorem q_495 : Cond.selects RX7 yX7_slopeDenominator yX7_slopeDenominator ∈ GW := GW_in 16 rfl (List.mem_of_getElem? (i := 15) rfl)
theorem q_496 : Cond.codeWith yL_slope cL_slope 4 (some .int) [(0, 17, 18, 34), (0, 17, 22, 38)] ∈ GW := GW_in 16 rfl (List.mem_of_getElem? (i := 16) rfl)
theorem q_497 : Cond.constantLong RL 75 (1000003) ∈ GW := GW_in 16 rfl (List.mem_of_getElem? (i := 17) rfl)
theorem q_498 : Cond.constantLong RL 77 (17) ∈ GW := GW_in 16 rfl (List.mem_of_getElem? (i := 18) rfl)
theorem q_499 : Cond.constantLong RL 79 (257) ∈ GW := GW_in 16 rfl (List.mem_of_getElem? (i := 19) rfl)
theorem q_500 : Cond.constantLong RL 81 (3) ∈ GW := GW_in 16 rfl (List.mem_of_getElem? (i := 20) rfl)
theorem q_501 : Cond.constantLong RL 83 (65537) ∈ GW := GW_in 16 rfl (List.mem_of_getElem? (i := 21) rfl)
theorem q_502 : Cond.methodLink RL 71 yX7_today ∈ GW := GW_in 16 rfl (List.mem_of_getElem? (i := 22) rfl)
theorem q_503 : Cond.instanceMethod yX7_today ∈ GW := GW_in 16 rfl (List.mem_of_getElem? (i := 23) rfl)
theorem q_504 : Cond.selects RX7 yX7_today yX7_today ∈ GW := GW_in 16 rfl (List.mem_of_getElem? (i := 24) rfl)
theorem q_505 : Cond.methodLink RL 85 yL_slope ∈ GW := GW_in 16 rfl (List.mem_of_getElem? (i := 25) rfl)
theorem q_506 : Cond.static yL_slope ∈ GW := GW_in 16 rfl (List.mem_of_getElem? (i := 26) rfl)
theorem q_507 : Cond.initialized RL ∈ GW := GW_in 16 rfl (List.mem_of_getElem? (i := 27) rfl)
theorem q_508 : Cond.code yL_all cL_all 5 (some .long) ∈ GW := GW_in 16 rfl (List.mem_of_getElem? (i := 28) rfl)
theorem q_509 : Cond.code yL_day cL_day 3 (some .int) ∈ GW := GW_in 16 rfl (List.mem_of_getElem? (i := 29) rfl)
theorem q_510 : Cond.constantLong RL 91 (2047) ∈ GW := GW_in 17 rfl (List.mem_of_getElem? (i := 0) rfl)
theorem q_511 : Cond.code yL_filled cL_filled 8 (some .long) ∈ GW := GW_in 17 rfl (List.mem_of_getElem? (i := 1) rfl)
theorem q_512 : Cond.methodLink RL 93 yL_day ∈ GW := GW_in 17 rfl (List.mem_of_getElem? (i := 2) rfl)
theorem q_513 : Cond.static yL_day ∈ GW := GW_in 17 rfl (List.mem_of_getElem? (i := 3) rfl)
theorem q_514 : Cond.constantLong RL 97 (-2000000973) ∈ GW := GW_in 17 rfl (List.mem_of_getElem? (i := 4) rfl)
theorem q_515 : Cond.methodLink RL 99 yL_act ∈ GW := GW_in 17 rfl (List.mem_of_getElem? (i := 5) rfl)
theorem q_516 : Cond.static yL_act ∈ GW := GW_in 17 rfl (List.mem_of_getElem? (i := 6) rfl)
theorem q_517 : Cond.methodLink RL 103 yL_filled ∈ GW := GW_in 17 rfl (List.mem_of_getElem? (i := 7) rfl)
theorem q_518 : Cond.static yL_filled ∈ GW := GW_in 17 rfl (List.mem_of_getElem? (i := 8) rfl)
theorem q_519 : Cond.code yL_isMiddle cL_isMiddle 19 (some .boolean) ∈ GW := GW_in 17 rfl (List.mem_of_getElem? (i := 9) rfl)
theorem q_520 : Cond.code yL_ruled cL_ruled 7 (some .int) ∈ GW := GW_in 17 rfl (List.mem_of_getElem? (i := 10) rfl)
theorem q_521 : Cond.constantLong RL 111 (2000000000) ∈ GW := GW_in 17 rfl (List.mem_of_getElem? (i := 11) rfl)
theorem q_522 : Cond.methodLink RL 107 yL_ruled ∈ GW := GW_in 17 rfl (List.mem_of_getElem? (i := 12) rfl)
theorem q_523 : Cond.static yL_ruled ∈ GW := GW_in 17 rfl (List.mem_of_getElem? (i := 13) rfl)
theorem q_524 : Cond.code yL_due cL_due 14 (some .long) ∈ GW := GW_in 17 rfl (List.mem_of_getElem? (i := 14) rfl)
theorem q_525 : Cond.methodLink RL 113 yL_due ∈ GW := GW_in 17 rfl (List.mem_of_getElem? (i := 15) rfl)
theorem q_526 : Cond.static yL_due ∈ GW := GW_in 17 rfl (List.mem_of_getElem? (i := 16) rfl)
theorem q_527 : Cond.code yL_areForecasts cL_areForecasts 13 (some .boolean) ∈ GW := GW_in 17 rfl (List.mem_of_getElem? (i := 17) rfl)
theorem q_528 : Cond.code yL_isUsual cL_isUsual 9 (some .boolean) ∈ GW := GW_in 17 rfl (List.mem_of_getElem? (i := 18) rfl)
theorem q_529 : Cond.code yL_isPool cL_isPool 15 (some .boolean) ∈ GW := GW_in 17 rfl (List.mem_of_getElem? (i := 19) rfl)
theorem q_530 : Cond.constant RL 121 (1000001) ∈ GW := GW_in 17 rfl (List.mem_of_getElem? (i := 20) rfl)
theorem q_531 : Cond.constant RL 128 (100001) ∈ GW := GW_in 17 rfl (List.mem_of_getElem? (i := 21) rfl)
theorem q_532 : Cond.methodLink RL 117 yL_all ∈ GW := GW_in 17 rfl (List.mem_of_getElem? (i := 22) rfl)
theorem q_533 : Cond.static yL_all ∈ GW := GW_in 17 rfl (List.mem_of_getElem? (i := 23) rfl)
theorem q_534 : Cond.methodLink RL 122 yL_setRule ∈ GW := GW_in 17 rfl (List.mem_of_getElem? (i := 24) rfl)
theorem q_535 : Cond.static yL_setRule ∈ GW := GW_in 17 rfl (List.mem_of_getElem? (i := 25) rfl)
theorem q_536 : Cond.methodLink RL 124 yL_of ∈ GW := GW_in 17 rfl (List.mem_of_getElem? (i := 26) rfl)
theorem q_537 : Cond.static yL_of ∈ GW := GW_in 17 rfl (List.mem_of_getElem? (i := 27) rfl)
theorem q_538 : Cond.code yL_isRefused cL_isRefused 9 (some .boolean) ∈ GW := GW_in 17 rfl (List.mem_of_getElem? (i := 28) rfl)
theorem q_539 : Cond.code yL_isSampled cL_isSampled 8 (some .boolean) ∈ GW := GW_in 17 rfl (List.mem_of_getElem? (i := 29) rfl)
theorem q_540 : Cond.constant RL 129 (1000000) ∈ GW := GW_in 18 rfl (List.mem_of_getElem? (i := 0) rfl)
theorem q_541 : Cond.code yL_isPassed cL_isPassed 14 (some .boolean) ∈ GW := GW_in 18 rfl (List.mem_of_getElem? (i := 1) rfl)
theorem q_542 : Cond.classLink RL 10 RX7 ∈ GW := GW_in 18 rfl (List.mem_of_getElem? (i := 2) rfl)
theorem q_543 : Cond.instantiable RX7 2 ∈ GW := GW_in 18 rfl (List.mem_of_getElem? (i := 3) rfl)
theorem q_544 : Cond.arrayClass .long ∈ GW := GW_in 18 rfl (List.mem_of_getElem? (i := 4) rfl)
theorem q_545 : Cond.constant RL 143 (100000) ∈ GW := GW_in 18 rfl (List.mem_of_getElem? (i := 5) rfl)
theorem q_546 : Cond.methodLink RL 130 yX7_init ∈ GW := GW_in 18 rfl (List.mem_of_getElem? (i := 6) rfl)
theorem q_547 : Cond.instanceMethod yX7_init ∈ GW := GW_in 18 rfl (List.mem_of_getElem? (i := 7) rfl)
theorem q_548 : Cond.methodLink RL 131 yL_isRefused ∈ GW := GW_in 18 rfl (List.mem_of_getElem? (i := 8) rfl)
theorem q_549 : Cond.static yL_isRefused ∈ GW := GW_in 18 rfl (List.mem_of_getElem? (i := 9) rfl)
theorem q_550 : Cond.methodLink RL 135 yL_dice ∈ GW := GW_in 18 rfl (List.mem_of_getElem? (i := 10) rfl)
theorem q_551 : Cond.static yL_dice ∈ GW := GW_in 18 rfl (List.mem_of_getElem? (i := 11) rfl)
theorem q_552 : Cond.methodLink RL 139 yL_isSampled ∈ GW := GW_in 18 rfl (List.mem_of_getElem? (i := 12) rfl)
theorem q_553 : Cond.static yL_isSampled ∈ GW := GW_in 18 rfl (List.mem_of_getElem? (i := 13) rfl)
theorem q_554 : Cond.methodLink RL 144 yL_isPassed ∈ GW := GW_in 18 rfl (List.mem_of_getElem? (i := 14) rfl)
theorem q_555 : Cond.static yL_isPassed ∈ GW := GW_in 18 rfl (List.mem_of_getElem? (i := 15) rfl)
theorem q_556 : Cond.methodLink RL 148 yL_isMiddle ∈ GW := GW_in 18 rfl (List.mem_of_getElem? (i := 16) rfl)
theorem q_557 : Cond.static yL_isMiddle ∈ GW := GW_in 18 rfl (List.mem_of_getElem? (i := 17) rfl)
theorem q_558 : Cond.methodLink RL 152 yL_isUsual ∈ GW := GW_in 18 rfl (List.mem_of_getElem? (i := 18) rfl)
theorem q_559 : Cond.static yL_isUsual ∈ GW := GW_in 18 rfl (List.mem_of_getElem? (i := 19) rfl)
theorem q_560 : Cond.methodLink RL 156 yL_areForecasts ∈ GW := GW_in 18 rfl (List.mem_of_getElem? (i := 20) rfl)
theorem q_561 : Cond.static yL_areForecasts ∈ GW := GW_in 18 rfl (List.mem_of_getElem? (i := 21) rfl)
theorem q_562 : Cond.methodLink RL 159 yL_isPool ∈ GW := GW_in 18 rfl (List.mem_of_getElem? (i := 22) rfl)
theorem q_563 : Cond.static yL_isPool ∈ GW := GW_in 18 rfl (List.mem_of_getElem? (i := 23) rfl)
theorem in_X0 : ∀ w ∈ u_ws RX0 TX0 3, w ∈ GW := fun w hw => GW_in 19 rfl hw
theorem in_X1 : ∀ w ∈ u_ws RX1 TX1 4, w ∈ GW := fun w hw => GW_in 20 rfl hw
theorem in_X2 : ∀ w ∈ u_ws RX2 TX2 6, w ∈ GW := fun w hw => GW_in 21 rfl hw
theorem in_X3 : ∀ w ∈ u_ws RX3 TX3 2, w ∈ GW := fun w hw => GW_in 22 rfl hw
theorem in_X4 : ∀ w ∈ u_ws RX4 TX4 4, w ∈ GW := fun w hw => GW_in 23 rfl hw
theorem in_X5 : ∀ w ∈ u_ws RX5 TX5 7, w ∈ GW := fun w hw => GW_in 24 rfl hw
theorem in_X6 : ∀ w ∈ u_ws RX6 TX6 2, w ∈ GW := fun w hw => GW_in 25 rfl hw
theorem in_X7 : ∀ w ∈ u_ws RX7 TX7 2, w ∈ GW := fun w hw => GW_in 26 rfl hw
theorem in_X8 : ∀ w ∈ u_ws RX8 TX8 0, w ∈ GW := fun w hw => GW_in 27 rfl hw
theorem in_Jx145de : ∀ w ∈ u_ws RJx145de TJx145de 0, w ∈ GW := fun w hw => GW_in 28 rfl hw
theorem in_Jx8e188 : ∀ w ∈ u_ws RJx8e188 TJx8e188 0, w ∈ GW := fun w hw => GW_in 29 rfl hw
theorem in_Jxab1ab : ∀ w ∈ u_ws RJxab1ab TJxab1ab 0, w ∈ GW := fun w hw => GW_in 30 rfl hw
theorem in_J9 : ∀ w ∈ u_ws RJ9 TJ9 0, w ∈ GW := fun w hw => GW_in 31 rfl hw
theorem in_J0 : ∀ w ∈ u_ws RJ0 TJ0 0, w ∈ GW := fun w hw => GW_in 32 rfl hw
theorem in_J10 : ∀ w ∈ u_ws RJ10 TJ10 0, w ∈ GW := fun w hw => GW_in 33 rfl hw
theorem in_Jxa1e45 : ∀ w ∈ u_ws RJxa1e45 TJxa1e45 0, w ∈ GW := fun w hw => GW_in 34 rfl hw
theorem in_Jxc12de : ∀ w ∈ u_ws RJxc12de TJxc12de 0, w ∈ GW := fun w hw => GW_in 35 rfl hw
theorem in_Jx4a65c : ∀ w ∈ u_ws RJx4a65c TJx4a65c 3, w ∈ GW := fun w hw => GW_in 36 rfl hw
theorem in_J7 : ∀ w ∈ u_ws RJ7 TJ7 0, w ∈ GW := fun w hw => GW_in 37 rfl hw
theorem in_Jx5ef63 : ∀ w ∈ u_ws RJx5ef63 TJx5ef63 0, w ∈ GW := fun w hw => GW_in 38 rfl hw
theorem in_Jxbd725 : ∀ w ∈ u_ws RJxbd725 TJxbd725 0, w ∈ GW := fun w hw => GW_in 39 rfl hw
theorem in_J15 : ∀ w ∈ u_ws RJ15 TJ15 0, w ∈ GW := fun w hw => GW_in 40 rfl hw
theorem in_Jxf0a74 : ∀ w ∈ u_ws RJxf0a74 TJxf0a74 0, w ∈ GW := fun w hw => GW_in 41 rfl hw
theorem in_Jxa66e6 : ∀ w ∈ u_ws RJxa66e6 TJxa66e6 0, w ∈ GW := fun w hw => GW_in 42 rfl hw
theorem in_J8 : ∀ w ∈ u_ws RJ8 TJ8 0, w ∈ GW := fun w hw => GW_in 43 rfl hw
theorem in_J3 : ∀ w ∈ u_ws RJ3 TJ3 0, w ∈ GW := fun w hw => GW_in 44 rfl hw
theorem inv_144 : ∀ w ∈ ((vx_atS RX7 144 "java/lang/IllegalArgumentException" ["java/lang/RuntimeException", "java/lang/Exception"]).filter goodWord), w ∈ GW := fun w hw => GW_in 45 rfl hw
theorem inv_163 : ∀ w ∈ ((vx_atS RX7 163 "java/lang/IndexOutOfBoundsException" ["java/lang/RuntimeException", "java/lang/Exception"]).filter goodWord), w ∈ GW := fun w hw => GW_in 46 rfl hw
theorem inv_33 : ∀ w ∈ ((vx_atS RX7 33 "java/lang/IllegalStateException" ["java/lang/RuntimeException", "java/lang/Exception"]).filter goodWord), w ∈ GW := fun w hw => GW_in 47 rfl hw
