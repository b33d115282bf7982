def NW : List Cond := [Cond.castable "java/lang/IndexOutOfBoundsException" "java/lang/IndexOutOfBoundsException", Cond.castable "java/lang/IllegalArgumentException" "java/lang/IllegalArgumentException", Cond.castable "java/lang/IllegalStateException" "java/lang/IllegalStateException", Cond.methodLinkNest RX5 11 yX4_init RX7, Cond.methodLinkNest RX5 20 yX2_init RX7, Cond.methodLinkNest RX5 27 yX0_init RX7, Cond.methodLinkNest RX5 34 yX3_init RX7, Cond.methodLinkNest RX5 41 yX1_init RX7, Cond.fieldLinkNest RX5 107 RX1 "startDay" "I" RX7, Cond.fieldLinkNest RX7 111 RX1 "startDay" "I" RX7, Cond.methodLinkNest RX5 48 yX6_init RX7, Cond.fieldLinkNest RX7 134 RX6 "on" "Z" RX7, Cond.fieldLinkNest RX7 55 RX5 "samples" "LRoomForecast$Samples;" RX7, Cond.fieldLinkNest RX7 65 RX5 "cleanings" "LRoomForecast$Cleanings;" RX7, Cond.fieldLinkNest RX7 77 RX5 "rule" "LRoomForecast$Rule;" RX7, Cond.fieldLinkNest RX7 173 RX5 "line" "LRoomForecast$Line;" RX7, Cond.fieldLinkNest RX7 130 RX5 "warning" "LRoomForecast$Warning;" RX7, Cond.fieldLinkNest RX7 49 RX5 "size" "I" RX7, Cond.methodLinkNest RX2 61 yX7_middlePlace RX7, Cond.methodLinkNest RX0 22 yX7_middlePlace RX7, Cond.castable "RoomForecast" "java/lang/Object", Cond.castable "java/util/ArrayList" "java/lang/Object", Cond.castable "java/lang/IndexOutOfBoundsException" "java/lang/Object", Cond.castable "java/lang/IllegalStateException" "java/lang/Object", Cond.castable "java/lang/IllegalArgumentException" "java/lang/Object", Cond.castable "RoomForecast$Store" "java/lang/Object", Cond.castable "RoomForecast$Samples" "java/lang/Object", Cond.castable "RoomForecast$PairSlopes" "java/lang/Object", Cond.castable "RoomForecast$Cleanings" "java/lang/Object", Cond.castable "RoomForecast$Rule" "java/lang/Object", Cond.castable "RoomForecast$Line" "java/lang/Object", Cond.castable "RoomForecast$Warning" "java/lang/Object", Cond.castable "java/lang/Throwable" "java/lang/Object", Cond.castable "java/lang/String" "java/lang/Object", Cond.castable "[B" "java/lang/Object", Cond.castable "[I" "java/lang/Object", Cond.castable "[Ljava/lang/Object;" "java/lang/Object", Cond.castable "[J" "java/lang/Object", Cond.declares ⟨"java/lang/RuntimeException", "<init>", "(Ljava/lang/String;)V"⟩, Cond.declares ⟨"java/lang/Exception", "<init>", "(Ljava/lang/String;)V"⟩, Cond.declares ⟨"java/lang/Throwable", "<init>", "(Ljava/lang/String;)V"⟩]
theorem nq_0 : Cond.castable "java/lang/IndexOutOfBoundsException" "java/lang/IndexOutOfBoundsException" ∈ NW := List.mem_of_getElem? (i := 0) rfl
theorem nq_1 : Cond.castable "java/lang/IllegalArgumentException" "java/lang/IllegalArgumentException" ∈ NW := List.mem_of_getElem? (i := 1) rfl
theorem nq_2 : Cond.castable "java/lang/IllegalStateException" "java/lang/IllegalStateException" ∈ NW := List.mem_of_getElem? (i := 2) rfl
theorem nq_3 : Cond.methodLinkNest RX5 11 yX4_init RX7 ∈ NW := List.mem_of_getElem? (i := 3) rfl
theorem nq_4 : Cond.methodLinkNest RX5 20 yX2_init RX7 ∈ NW := List.mem_of_getElem? (i := 4) rfl
theorem nq_5 : Cond.methodLinkNest RX5 27 yX0_init RX7 ∈ NW := List.mem_of_getElem? (i := 5) rfl
theorem nq_6 : Cond.methodLinkNest RX5 34 yX3_init RX7 ∈ NW := List.mem_of_getElem? (i := 6) rfl
theorem nq_7 : Cond.methodLinkNest RX5 41 yX1_init RX7 ∈ NW := List.mem_of_getElem? (i := 7) rfl
theorem nq_8 : Cond.fieldLinkNest RX5 107 RX1 "startDay" "I" RX7 ∈ NW := List.mem_of_getElem? (i := 8) rfl
theorem nq_9 : Cond.fieldLinkNest RX7 111 RX1 "startDay" "I" RX7 ∈ NW := List.mem_of_getElem? (i := 9) rfl
theorem nq_10 : Cond.methodLinkNest RX5 48 yX6_init RX7 ∈ NW := List.mem_of_getElem? (i := 10) rfl
theorem nq_11 : Cond.fieldLinkNest RX7 134 RX6 "on" "Z" RX7 ∈ NW := List.mem_of_getElem? (i := 11) rfl
theorem nq_12 : Cond.fieldLinkNest RX7 55 RX5 "samples" "LRoomForecast$Samples;" RX7 ∈ NW := List.mem_of_getElem? (i := 12) rfl
theorem nq_13 : Cond.fieldLinkNest RX7 65 RX5 "cleanings" "LRoomForecast$Cleanings;" RX7 ∈ NW := List.mem_of_getElem? (i := 13) rfl
theorem nq_14 : Cond.fieldLinkNest RX7 77 RX5 "rule" "LRoomForecast$Rule;" RX7 ∈ NW := List.mem_of_getElem? (i := 14) rfl
theorem nq_15 : Cond.fieldLinkNest RX7 173 RX5 "line" "LRoomForecast$Line;" RX7 ∈ NW := List.mem_of_getElem? (i := 15) rfl
theorem nq_16 : Cond.fieldLinkNest RX7 130 RX5 "warning" "LRoomForecast$Warning;" RX7 ∈ NW := List.mem_of_getElem? (i := 16) rfl
theorem nq_17 : Cond.fieldLinkNest RX7 49 RX5 "size" "I" RX7 ∈ NW := List.mem_of_getElem? (i := 17) rfl
theorem nq_18 : Cond.methodLinkNest RX2 61 yX7_middlePlace RX7 ∈ NW := List.mem_of_getElem? (i := 18) rfl
theorem nq_19 : Cond.methodLinkNest RX0 22 yX7_middlePlace RX7 ∈ NW := List.mem_of_getElem? (i := 19) rfl
theorem nq_20 : Cond.castable "RoomForecast" "java/lang/Object" ∈ NW := List.mem_of_getElem? (i := 20) rfl
theorem nq_21 : Cond.castable "java/util/ArrayList" "java/lang/Object" ∈ NW := List.mem_of_getElem? (i := 21) rfl
theorem nq_22 : Cond.castable "java/lang/IndexOutOfBoundsException" "java/lang/Object" ∈ NW := List.mem_of_getElem? (i := 22) rfl
theorem nq_23 : Cond.castable "java/lang/IllegalStateException" "java/lang/Object" ∈ NW := List.mem_of_getElem? (i := 23) rfl
theorem nq_24 : Cond.castable "java/lang/IllegalArgumentException" "java/lang/Object" ∈ NW := List.mem_of_getElem? (i := 24) rfl
theorem nq_25 : Cond.castable "RoomForecast$Store" "java/lang/Object" ∈ NW := List.mem_of_getElem? (i := 25) rfl
theorem nq_26 : Cond.castable "RoomForecast$Samples" "java/lang/Object" ∈ NW := List.mem_of_getElem? (i := 26) rfl
theorem nq_27 : Cond.castable "RoomForecast$PairSlopes" "java/lang/Object" ∈ NW := List.mem_of_getElem? (i := 27) rfl
theorem nq_28 : Cond.castable "RoomForecast$Cleanings" "java/lang/Object" ∈ NW := List.mem_of_getElem? (i := 28) rfl
theorem nq_29 : Cond.castable "RoomForecast$Rule" "java/lang/Object" ∈ NW := List.mem_of_getElem? (i := 29) rfl
theorem nq_30 : Cond.castable "RoomForecast$Line" "java/lang/Object" ∈ NW := List.mem_of_getElem? (i := 30) rfl
theorem nq_31 : Cond.castable "RoomForecast$Warning" "java/lang/Object" ∈ NW := List.mem_of_getElem? (i := 31) rfl
theorem nq_32 : Cond.castable "java/lang/Throwable" "java/lang/Object" ∈ NW := List.mem_of_getElem? (i := 32) rfl
theorem nq_33 : Cond.castable "java/lang/String" "java/lang/Object" ∈ NW := List.mem_of_getElem? (i := 33) rfl
theorem nq_34 : Cond.castable "[B" "java/lang/Object" ∈ NW := List.mem_of_getElem? (i := 34) rfl
theorem nq_35 : Cond.castable "[I" "java/lang/Object" ∈ NW := List.mem_of_getElem? (i := 35) rfl
theorem nq_36 : Cond.castable "[Ljava/lang/Object;" "java/lang/Object" ∈ NW := List.mem_of_getElem? (i := 36) rfl
theorem nq_37 : Cond.castable "[J" "java/lang/Object" ∈ NW := List.mem_of_getElem? (i := 37) rfl
theorem nq_38 : Cond.declares ⟨"java/lang/RuntimeException", "<init>", "(Ljava/lang/String;)V"⟩ ∈ NW := List.mem_of_getElem? (i := 38) rfl
theorem nq_39 : Cond.declares ⟨"java/lang/Exception", "<init>", "(Ljava/lang/String;)V"⟩ ∈ NW := List.mem_of_getElem? (i := 39) rfl
theorem nq_40 : Cond.declares ⟨"java/lang/Throwable", "<init>", "(Ljava/lang/String;)V"⟩ ∈ NW := List.mem_of_getElem? (i := 40) rfl
def NW_is (w : Cond) : Bool := match w with
  | .fieldLinkNest _ _ _ _ _ _ => true
  | .methodLinkNest _ _ _ _ => true
  | .castable _ _ => true
  | .declares _ => true
  | _ => false
theorem NW_all : NW.all NW_is = true := by decide +kernel
theorem NW_warm {s U : State} (hW : s.WarmedH U.vm) (h : ∀ w ∈ NW, va_Nw w s) : ∀ w ∈ NW, va_Nw w U := by
  intro w hw
  have h1 := List.all_eq_true.mp NW_all w hw
  have h2 := h w hw
  cases w <;> first | exact va_Nw.warmF hW h2 | exact va_Nw.warmM hW h2 | exact va_Nw.warmC hW h2 | exact va_Nw.warmD hW h2 | exact absurd h1 (by simp [NW_is])
theorem NW_same {s U : State} (hv : s.vm = U.vm) (h : ∀ w ∈ NW, va_Nw w s) : ∀ w ∈ NW, va_Nw w U := by
  intro w hw
  have h1 := List.all_eq_true.mp NW_all w hw
  have h2 := h w hw
  cases w <;> first | exact va_Nw.same rfl hv h2 | exact absurd h1 (by simp [NW_is])
