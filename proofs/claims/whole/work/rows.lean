section
-- ===== PART A: goes FIRST, ahead of the names: the tables' words, and 'selects' of the private methods out of them =====
/-- a private method of a class that the tables say can be made, by its rows of tables_1 -/
def lw_okq (q : MethodName × Nat) : Prop := (q.1.cls ≠ "java/lang/invoke/MethodHandle" ∧ q.1.cls ≠ "java/lang/invoke/VarHandle") ∧ Cond.instantiable q.1.cls q.2 ∈ tables_1 ∧ Cond.privateMethod q.1 ∈ tables_1 ∧ Cond.instanceMethod q.1 ∈ tables_1
theorem lw_p0 : lw_okq (⟨"java/lang/Throwable", "fillInStackTrace", "(I)Ljava/lang/Throwable;"⟩, 6) := ⟨⟨by decide +kernel, by decide +kernel⟩, List.mem_of_getElem? (i := 122) (by decide +kernel), List.mem_of_getElem? (i := 120) (by decide +kernel), List.mem_of_getElem? (i := 121) (by decide +kernel)⟩
theorem lw_p1 : lw_okq (⟨"java/util/ArrayList", "add", "(Ljava/lang/Object;[Ljava/lang/Object;I)V"⟩, 3) := ⟨⟨by decide +kernel, by decide +kernel⟩, List.mem_of_getElem? (i := 34) (by decide +kernel), List.mem_of_getElem? (i := 319) (by decide +kernel), List.mem_of_getElem? (i := 320) (by decide +kernel)⟩
theorem lw_p2 : lw_okq (⟨"java/util/ArrayList", "grow", "()[Ljava/lang/Object;"⟩, 3) := ⟨⟨by decide +kernel, by decide +kernel⟩, List.mem_of_getElem? (i := 34) (by decide +kernel), List.mem_of_getElem? (i := 323) (by decide +kernel), List.mem_of_getElem? (i := 324) (by decide +kernel)⟩
theorem lw_p3 : lw_okq (⟨"java/util/ArrayList", "grow", "(I)[Ljava/lang/Object;"⟩, 3) := ⟨⟨by decide +kernel, by decide +kernel⟩, List.mem_of_getElem? (i := 34) (by decide +kernel), List.mem_of_getElem? (i := 327) (by decide +kernel), List.mem_of_getElem? (i := 328) (by decide +kernel)⟩
theorem lw_p4 : lw_okq (⟨"RoomForecast", "storeAt", "(I)LRoomForecast$Store;"⟩, 2) := ⟨⟨by decide +kernel, by decide +kernel⟩, List.mem_of_getElem? (i := 26) (by decide +kernel), List.mem_of_getElem? (i := 383) (by decide +kernel), List.mem_of_getElem? (i := 384) (by decide +kernel)⟩
theorem lw_p5 : lw_okq (⟨"RoomForecast$Samples", "lastIsOf", "(I)Z"⟩, 4) := ⟨⟨by decide +kernel, by decide +kernel⟩, List.mem_of_getElem? (i := 178) (by decide +kernel), List.mem_of_getElem? (i := 436) (by decide +kernel), List.mem_of_getElem? (i := 437) (by decide +kernel)⟩
theorem lw_p6 : lw_okq (⟨"RoomForecast$Samples", "openLastPlace", "()V"⟩, 4) := ⟨⟨by decide +kernel, by decide +kernel⟩, List.mem_of_getElem? (i := 178) (by decide +kernel), List.mem_of_getElem? (i := 440) (by decide +kernel), List.mem_of_getElem? (i := 441) (by decide +kernel)⟩
theorem lw_p7 : lw_okq (⟨"RoomForecast$Samples", "has", "(I)Z"⟩, 4) := ⟨⟨by decide +kernel, by decide +kernel⟩, List.mem_of_getElem? (i := 178) (by decide +kernel), List.mem_of_getElem? (i := 444) (by decide +kernel), List.mem_of_getElem? (i := 445) (by decide +kernel)⟩
theorem lw_p8 : lw_okq (⟨"RoomForecast$PairSlopes", "putInOrder", "(LRoomForecast$Samples;II)V"⟩, 6) := ⟨⟨by decide +kernel, by decide +kernel⟩, List.mem_of_getElem? (i := 198) (by decide +kernel), List.mem_of_getElem? (i := 456) (by decide +kernel), List.mem_of_getElem? (i := 457) (by decide +kernel)⟩
theorem lw_p9 : lw_okq (⟨"RoomForecast$PairSlopes", "isGreater", "(III)Z"⟩, 6) := ⟨⟨by decide +kernel, by decide +kernel⟩, List.mem_of_getElem? (i := 198) (by decide +kernel), List.mem_of_getElem? (i := 468) (by decide +kernel), List.mem_of_getElem? (i := 469) (by decide +kernel)⟩
theorem lw_p10 : lw_okq (⟨"RoomForecast$PairSlopes", "has", "(I)Z"⟩, 6) := ⟨⟨by decide +kernel, by decide +kernel⟩, List.mem_of_getElem? (i := 198) (by decide +kernel), List.mem_of_getElem? (i := 476) (by decide +kernel), List.mem_of_getElem? (i := 477) (by decide +kernel)⟩
theorem lw_p11 : lw_okq (⟨"RoomForecast$Store", "fullDayWithout", "(I)I"⟩, 7) := ⟨⟨by decide +kernel, by decide +kernel⟩, List.mem_of_getElem? (i := 172) (by decide +kernel), List.mem_of_getElem? (i := 539) (by decide +kernel), List.mem_of_getElem? (i := 540) (by decide +kernel)⟩
theorem lw_p12 : lw_okq (⟨"RoomForecast$PairSlopes", "numberWithout", "(I)I"⟩, 6) := ⟨⟨by decide +kernel, by decide +kernel⟩, List.mem_of_getElem? (i := 198) (by decide +kernel), List.mem_of_getElem? (i := 555) (by decide +kernel), List.mem_of_getElem? (i := 556) (by decide +kernel)⟩
theorem lw_p13 : lw_okq (⟨"RoomForecast$PairSlopes", "isWithout", "(II)Z"⟩, 6) := ⟨⟨by decide +kernel, by decide +kernel⟩, List.mem_of_getElem? (i := 198) (by decide +kernel), List.mem_of_getElem? (i := 562) (by decide +kernel), List.mem_of_getElem? (i := 563) (by decide +kernel)⟩
theorem lw_p14 : lw_okq (⟨"RoomForecast$Rule", "daysUntil", "(I)I"⟩, 2) := ⟨⟨by decide +kernel, by decide +kernel⟩, List.mem_of_getElem? (i := 239) (by decide +kernel), List.mem_of_getElem? (i := 594) (by decide +kernel), List.mem_of_getElem? (i := 595) (by decide +kernel)⟩
theorem lw_p15 : lw_okq (⟨"RoomForecast", "slopeOf", "(I)LRoomForecast$Line;"⟩, 2) := ⟨⟨by decide +kernel, by decide +kernel⟩, List.mem_of_getElem? (i := 26) (by decide +kernel), List.mem_of_getElem? (i := 638) (by decide +kernel), List.mem_of_getElem? (i := 639) (by decide +kernel)⟩
def lw_privs_1 : List (MethodName × Nat) := [(⟨"java/lang/Throwable", "fillInStackTrace", "(I)Ljava/lang/Throwable;"⟩, 6), (⟨"java/util/ArrayList", "add", "(Ljava/lang/Object;[Ljava/lang/Object;I)V"⟩, 3), (⟨"java/util/ArrayList", "grow", "()[Ljava/lang/Object;"⟩, 3), (⟨"java/util/ArrayList", "grow", "(I)[Ljava/lang/Object;"⟩, 3), (⟨"RoomForecast", "storeAt", "(I)LRoomForecast$Store;"⟩, 2), (⟨"RoomForecast$Samples", "lastIsOf", "(I)Z"⟩, 4), (⟨"RoomForecast$Samples", "openLastPlace", "()V"⟩, 4), (⟨"RoomForecast$Samples", "has", "(I)Z"⟩, 4), (⟨"RoomForecast$PairSlopes", "putInOrder", "(LRoomForecast$Samples;II)V"⟩, 6), (⟨"RoomForecast$PairSlopes", "isGreater", "(III)Z"⟩, 6), (⟨"RoomForecast$PairSlopes", "has", "(I)Z"⟩, 6), (⟨"RoomForecast$Store", "fullDayWithout", "(I)I"⟩, 7), (⟨"RoomForecast$PairSlopes", "numberWithout", "(I)I"⟩, 6), (⟨"RoomForecast$PairSlopes", "isWithout", "(II)Z"⟩, 6), (⟨"RoomForecast$Rule", "daysUntil", "(I)I"⟩, 2), (⟨"RoomForecast", "slopeOf", "(I)LRoomForecast$Line;"⟩, 2)]
theorem lw_r1 : ∀ q ∈ lw_privs_1, lw_okq q := List.forall_mem_cons.mpr ⟨lw_p0, List.forall_mem_cons.mpr ⟨lw_p1, List.forall_mem_cons.mpr ⟨lw_p2, List.forall_mem_cons.mpr ⟨lw_p3, List.forall_mem_cons.mpr ⟨lw_p4, List.forall_mem_cons.mpr ⟨lw_p5, List.forall_mem_cons.mpr ⟨lw_p6, List.forall_mem_cons.mpr ⟨lw_p7, List.forall_mem_cons.mpr ⟨lw_p8, List.forall_mem_cons.mpr ⟨lw_p9, List.forall_mem_cons.mpr ⟨lw_p10, List.forall_mem_cons.mpr ⟨lw_p11, List.forall_mem_cons.mpr ⟨lw_p12, List.forall_mem_cons.mpr ⟨lw_p13, List.forall_mem_cons.mpr ⟨lw_p14, List.forall_mem_cons.mpr ⟨lw_p15, fun _ h => absurd h List.not_mem_nil⟩⟩⟩⟩⟩⟩⟩⟩⟩⟩⟩⟩⟩⟩⟩⟩
theorem lw_p16 : lw_okq (⟨"RoomForecast$Line", "commonDivisor", "()I"⟩, 4) := ⟨⟨by decide +kernel, by decide +kernel⟩, List.mem_of_getElem? (i := 252) (by decide +kernel), List.mem_of_getElem? (i := 652) (by decide +kernel), List.mem_of_getElem? (i := 653) (by decide +kernel)⟩
theorem lw_p17 : lw_okq (⟨"RoomForecast", "drawPool", "(I)Z"⟩, 2) := ⟨⟨by decide +kernel, by decide +kernel⟩, List.mem_of_getElem? (i := 26) (by decide +kernel), List.mem_of_getElem? (i := 735) (by decide +kernel), List.mem_of_getElem? (i := 736) (by decide +kernel)⟩
theorem lw_p18 : lw_okq (⟨"RoomForecast", "poolSize", "(I)J"⟩, 2) := ⟨⟨by decide +kernel, by decide +kernel⟩, List.mem_of_getElem? (i := 26) (by decide +kernel), List.mem_of_getElem? (i := 742) (by decide +kernel), List.mem_of_getElem? (i := 743) (by decide +kernel)⟩
theorem lw_p19 : lw_okq (⟨"RoomForecast", "poolRoomOn", "(II)J"⟩, 2) := ⟨⟨by decide +kernel, by decide +kernel⟩, List.mem_of_getElem? (i := 26) (by decide +kernel), List.mem_of_getElem? (i := 746) (by decide +kernel), List.mem_of_getElem? (i := 747) (by decide +kernel)⟩
theorem lw_p20 : lw_okq (⟨"RoomForecastModel", "goes", "(I)Z"⟩, 30) := ⟨⟨by decide +kernel, by decide +kernel⟩, List.mem_of_getElem? (i := 750) (by decide +kernel), List.mem_of_getElem? (i := 860) (by decide +kernel), List.mem_of_getElem? (i := 861) (by decide +kernel)⟩
theorem lw_p21 : lw_okq (⟨"RoomForecastModel", "isStore", "(I)Z"⟩, 30) := ⟨⟨by decide +kernel, by decide +kernel⟩, List.mem_of_getElem? (i := 750) (by decide +kernel), List.mem_of_getElem? (i := 868) (by decide +kernel), List.mem_of_getElem? (i := 869) (by decide +kernel)⟩
theorem lw_p22 : lw_okq (⟨"RoomForecastModel", "looks", "(I)Z"⟩, 30) := ⟨⟨by decide +kernel, by decide +kernel⟩, List.mem_of_getElem? (i := 750) (by decide +kernel), List.mem_of_getElem? (i := 889) (by decide +kernel), List.mem_of_getElem? (i := 890) (by decide +kernel)⟩
theorem lw_p23 : lw_okq (⟨"RoomForecastModel", "findsBounds", "(I)V"⟩, 30) := ⟨⟨by decide +kernel, by decide +kernel⟩, List.mem_of_getElem? (i := 750) (by decide +kernel), List.mem_of_getElem? (i := 893) (by decide +kernel), List.mem_of_getElem? (i := 894) (by decide +kernel)⟩
theorem lw_p24 : lw_okq (⟨"RoomForecastModel", "fullDay", "(II)I"⟩, 30) := ⟨⟨by decide +kernel, by decide +kernel⟩, List.mem_of_getElem? (i := 750) (by decide +kernel), List.mem_of_getElem? (i := 897) (by decide +kernel), List.mem_of_getElem? (i := 898) (by decide +kernel)⟩
theorem lw_p25 : lw_okq (⟨"RoomForecastModel", "findsSlope", "(II)Z"⟩, 30) := ⟨⟨by decide +kernel, by decide +kernel⟩, List.mem_of_getElem? (i := 750) (by decide +kernel), List.mem_of_getElem? (i := 901) (by decide +kernel), List.mem_of_getElem? (i := 902) (by decide +kernel)⟩
theorem lw_p26 : lw_okq (⟨"RoomForecastModel", "laysSlopes", "(II)Z"⟩, 30) := ⟨⟨by decide +kernel, by decide +kernel⟩, List.mem_of_getElem? (i := 750) (by decide +kernel), List.mem_of_getElem? (i := 905) (by decide +kernel), List.mem_of_getElem? (i := 906) (by decide +kernel)⟩
theorem lw_p27 : lw_okq (⟨"RoomForecastModel", "fill", "(II)I"⟩, 30) := ⟨⟨by decide +kernel, by decide +kernel⟩, List.mem_of_getElem? (i := 750) (by decide +kernel), List.mem_of_getElem? (i := 909) (by decide +kernel), List.mem_of_getElem? (i := 910) (by decide +kernel)⟩
theorem lw_p28 : lw_okq (⟨"RoomForecastModel", "compare", "(II)I"⟩, 30) := ⟨⟨by decide +kernel, by decide +kernel⟩, List.mem_of_getElem? (i := 750) (by decide +kernel), List.mem_of_getElem? (i := 913) (by decide +kernel), List.mem_of_getElem? (i := 914) (by decide +kernel)⟩
theorem lw_p29 : lw_okq (⟨"RoomForecastModel", "usualOf", "(I)I"⟩, 30) := ⟨⟨by decide +kernel, by decide +kernel⟩, List.mem_of_getElem? (i := 750) (by decide +kernel), List.mem_of_getElem? (i := 923) (by decide +kernel), List.mem_of_getElem? (i := 924) (by decide +kernel)⟩
theorem lw_p30 : lw_okq (⟨"RoomForecastModel", "forecastFor", "(III)J"⟩, 30) := ⟨⟨by decide +kernel, by decide +kernel⟩, List.mem_of_getElem? (i := 750) (by decide +kernel), List.mem_of_getElem? (i := 927) (by decide +kernel), List.mem_of_getElem? (i := 928) (by decide +kernel)⟩
theorem lw_p31 : lw_okq (⟨"RoomForecastModel", "ruled", "(II)I"⟩, 30) := ⟨⟨by decide +kernel, by decide +kernel⟩, List.mem_of_getElem? (i := 750) (by decide +kernel), List.mem_of_getElem? (i := 931) (by decide +kernel), List.mem_of_getElem? (i := 932) (by decide +kernel)⟩
def lw_privs_2 : List (MethodName × Nat) := [(⟨"RoomForecast$Line", "commonDivisor", "()I"⟩, 4), (⟨"RoomForecast", "drawPool", "(I)Z"⟩, 2), (⟨"RoomForecast", "poolSize", "(I)J"⟩, 2), (⟨"RoomForecast", "poolRoomOn", "(II)J"⟩, 2), (⟨"RoomForecastModel", "goes", "(I)Z"⟩, 30), (⟨"RoomForecastModel", "isStore", "(I)Z"⟩, 30), (⟨"RoomForecastModel", "looks", "(I)Z"⟩, 30), (⟨"RoomForecastModel", "findsBounds", "(I)V"⟩, 30), (⟨"RoomForecastModel", "fullDay", "(II)I"⟩, 30), (⟨"RoomForecastModel", "findsSlope", "(II)Z"⟩, 30), (⟨"RoomForecastModel", "laysSlopes", "(II)Z"⟩, 30), (⟨"RoomForecastModel", "fill", "(II)I"⟩, 30), (⟨"RoomForecastModel", "compare", "(II)I"⟩, 30), (⟨"RoomForecastModel", "usualOf", "(I)I"⟩, 30), (⟨"RoomForecastModel", "forecastFor", "(III)J"⟩, 30), (⟨"RoomForecastModel", "ruled", "(II)I"⟩, 30)]
theorem lw_r2 : ∀ q ∈ lw_privs_2, lw_okq q := List.forall_mem_cons.mpr ⟨lw_p16, List.forall_mem_cons.mpr ⟨lw_p17, List.forall_mem_cons.mpr ⟨lw_p18, List.forall_mem_cons.mpr ⟨lw_p19, List.forall_mem_cons.mpr ⟨lw_p20, List.forall_mem_cons.mpr ⟨lw_p21, List.forall_mem_cons.mpr ⟨lw_p22, List.forall_mem_cons.mpr ⟨lw_p23, List.forall_mem_cons.mpr ⟨lw_p24, List.forall_mem_cons.mpr ⟨lw_p25, List.forall_mem_cons.mpr ⟨lw_p26, List.forall_mem_cons.mpr ⟨lw_p27, List.forall_mem_cons.mpr ⟨lw_p28, List.forall_mem_cons.mpr ⟨lw_p29, List.forall_mem_cons.mpr ⟨lw_p30, List.forall_mem_cons.mpr ⟨lw_p31, fun _ h => absurd h List.not_mem_nil⟩⟩⟩⟩⟩⟩⟩⟩⟩⟩⟩⟩⟩⟩⟩⟩
theorem lw_p32 : lw_okq (⟨"RoomForecastModel", "asks", "(I)Z"⟩, 30) := ⟨⟨by decide +kernel, by decide +kernel⟩, List.mem_of_getElem? (i := 750) (by decide +kernel), List.mem_of_getElem? (i := 944) (by decide +kernel), List.mem_of_getElem? (i := 945) (by decide +kernel)⟩
theorem lw_p33 : lw_okq (⟨"RoomForecastModel", "asksSlope", "(I)Z"⟩, 30) := ⟨⟨by decide +kernel, by decide +kernel⟩, List.mem_of_getElem? (i := 750) (by decide +kernel), List.mem_of_getElem? (i := 952) (by decide +kernel), List.mem_of_getElem? (i := 953) (by decide +kernel)⟩
theorem lw_p34 : lw_okq (⟨"RoomForecastModel", "keeps", "(I)V"⟩, 30) := ⟨⟨by decide +kernel, by decide +kernel⟩, List.mem_of_getElem? (i := 750) (by decide +kernel), List.mem_of_getElem? (i := 991) (by decide +kernel), List.mem_of_getElem? (i := 992) (by decide +kernel)⟩
theorem lw_p35 : lw_okq (⟨"RoomForecastModel", "together", "(II)J"⟩, 30) := ⟨⟨by decide +kernel, by decide +kernel⟩, List.mem_of_getElem? (i := 750) (by decide +kernel), List.mem_of_getElem? (i := 995) (by decide +kernel), List.mem_of_getElem? (i := 996) (by decide +kernel)⟩
def lw_privs_3 : List (MethodName × Nat) := [(⟨"RoomForecastModel", "asks", "(I)Z"⟩, 30), (⟨"RoomForecastModel", "asksSlope", "(I)Z"⟩, 30), (⟨"RoomForecastModel", "keeps", "(I)V"⟩, 30), (⟨"RoomForecastModel", "together", "(II)J"⟩, 30)]
theorem lw_r3 : ∀ q ∈ lw_privs_3, lw_okq q := List.forall_mem_cons.mpr ⟨lw_p32, List.forall_mem_cons.mpr ⟨lw_p33, List.forall_mem_cons.mpr ⟨lw_p34, List.forall_mem_cons.mpr ⟨lw_p35, fun _ h => absurd h List.not_mem_nil⟩⟩⟩⟩
def lw_privs : List (MethodName × Nat) := lw_privs_1 ++ (lw_privs_2 ++ (lw_privs_3))
def lw_tbl : List Cond := k2_sels lw_privs ++ tables_1
theorem lw_privs_ok : ∀ q ∈ lw_privs, lw_okq q := by
  show ∀ q ∈ lw_privs_1 ++ (lw_privs_2 ++ (lw_privs_3)), lw_okq q
  exact List.forall_mem_append.mpr ⟨lw_r1, List.forall_mem_append.mpr ⟨lw_r2, lw_r3⟩⟩
end
section
/-! ===== BEGIN words of one list among another's, by their places ===== -/
theorem goodIn_r {big : List Cond} (ws : List Cond) (ps : List Nat) (hp : ws = ps.filterMap (fun i => big[i]?)) (h : ws.all goodWord = true) : GoodIn big ws := by
  intro w hw
  have h1 := List.all_eq_true.mp h w hw
  rw [hp] at hw
  obtain ⟨i, -, hi⟩ := List.mem_filterMap.mp hw
  have hm : w ∈ big := by first | exact List.mem_of_getElem? hi | exact List.getElem?_mem hi
  exact ⟨hm, good_of_word h1⟩
theorem goodIn_app {big a b : List Cond} (ha : GoodIn big a) (hb : GoodIn big b) : GoodIn big (a ++ b) := fun w h => (List.mem_append.mp h).elim (ha w) (hb w)
theorem goodIn_ca {big a b : List Cond} {c : Cond} (ha : GoodIn big (c :: a)) (hb : GoodIn big b) : GoodIn big (c :: (a ++ b)) := fun w h => (List.mem_cons.mp h).elim (fun e => ha w (List.mem_cons.mpr (Or.inl e))) (fun h => (List.mem_append.mp h).elim (fun h => ha w (List.mem_cons.mpr (Or.inr h))) (hb w))
theorem goodIn_sub {big ws : List Cond} (hm : ∀ w ∈ ws, w ∈ big) (h : ws.all goodWord = true) : GoodIn big ws := fun w hw => ⟨hm w hw, good_of_word (List.all_eq_true.mp h w hw)⟩
/-! ===== END ===== -/

/-! ===== BEGIN exceptions that leave a method, and their catching by the caller (launches without stack traces) ===== -/
section VXA
/-! The laws vx_back, vx_callV, vx_callS, vx_callSW, vx_throw0, vx_throwS follow proofs of the library, with one case more: JvmDerived/Free/Laws.lean (Back.of_free), Shelf42/LK1.lean (callV, callS), Shelf/KitTraced.lean (throwNew0V, throwNewS). -/
/-- where a method has thrown q: the class by its name, the cell, what was written, the world -/
def vx_T (XC : String → State → State → Prop) (st : State) (q : Addr) (t : State) (mc ms : Nat) (free : Addr → Prop) : Prop :=
  ∃ (E : String) (ce : Cell) (L : List Loc), XC E st t ∧ t.heap[q]? = some ce ∧ ce.vm = .none ∧ st.vm.findClass E = some ce.cls ∧ st.WarmedH t.vm ∧ st.sameButNew ({ t with vm := st.vm } : State) L mc ms ∧ ∀ z ∈ L, free z.base
def vx_Q (Qc : Array Value → State → Outcome → State → Prop) (XC : String → State → State → Prop) (mc ms : Nat) (free : Addr → Prop) : Array Value → State → Outcome → State → Prop := fun a st o t =>
  (Qc a st o t ∧ ∃ L, FrameEnd st o t L mc ms ∧ ∀ q ∈ L, free q.base) ∨ ∃ q, o = .threw q ∧ vx_T XC st q t mc ms free
/-- a callee that returns or throws -/
def vx_Met (l : Launch) (y : MethodName) (ws : List Cond) (rm : Room) (Pc : Array Value → State → Prop) (Qc : Array Value → State → Outcome → State → Prop) (XC : String → State → State → Prop) (mc ms : Nat) (free : Addr → Prop) : Prop :=
  MetFree l y (headSpec ws rm) Pc (fun _ _ _ _ _ => True) (vx_Q Qc XC mc ms free)
def vx_Post (XC : String → State → State → Prop) (mc ms : Nat) (free : Addr → Prop) : Pt → Array Value → Addr → Pt → Prop := fun A a q B =>
  ∃ (g : JFrame) (mk : MethodId) (t : State) (L : List Loc) (E : String) (ce : Cell), B.U.heap = t.heap ∧ B.U.vm = t.vm ∧ XC E (A.U.calling g mk a) t ∧ t.heap[q]? = some ce ∧ ce.vm = .none ∧ A.U.vm.findClass E = some ce.cls ∧ B.locs = A.locs ++ L ∧ (∀ z ∈ L, free z.base) ∧ B.cells = A.cells + mc ∧ B.slots = A.slots + ms
def vx_Back (l : Launch) (R : Room) (p : Program) (e : Env) (below : List Frame) (s : State) (sargs : Array Value) (y : MethodName) (len W9 : Nat)
    (Pre : Pt → Array Value → Prop) (Post : Pt → Array Value → Option Value → Pt → Prop) (PostX : Pt → Array Value → Addr → Pt → Prop) : Prop :=
  ∀ (m : MethodId) (meth : Method) (c : Code) (A : Pt) (g : JFrame) (ig : Instr) (mk : MethodId) (a : Array Value),
    Stand p l e R s m sargs below meth c A.U A.locs A.cells A.slots → g.method = m → g.locals.size = c.maxLocals → decode c.code g.pc = .ok (ig, len) →
    2 * g.monitorRoom + (g.stack.map fun v => v.category).sum ≤ W9 → A.U.methodNamed? y = some mk → Pre A a →
    (∃ (v : Option Value) (B : Pt), Stand p l e R s m sargs below meth c B.U B.locs B.cells B.slots ∧ Post A a v B ∧
      Steps p.tables e below (doInvoke e (A.U.setTop g) [] mk a).1 (B.U.setTop { g with pc := g.pc + len, stack := v.toList ++ g.stack })) ∨
    (∃ (q : Addr) (B : Pt), Stand p l e R s m sargs below meth c B.U B.locs B.cells B.slots ∧ PostX A a q B ∧
      Steps p.tables e below (doInvoke e (A.U.setTop g) [] mk a).1 ((B.U.setTop g).pushFrame (.throwing q)))
section Payer
variable {l : Launch} {R : Room} {p : Program} {e : Env} {below : List Frame} {s : State} {sargs : Array Value} {y : MethodName} {len W9 : Nat}
theorem vx_back {ws : List Cond} {rm : Room} {Pc : Array Value → State → Prop} {Qc : Array Value → State → Outcome → State → Prop} {XC : String → State → State → Prop} {mc ms : Nat} {free : Addr → Prop} {bytes : ByteArray} {maxL : Nat} {ret : Option FieldType}
    (hM : vx_Met l y ws rm Pc Qc XC mc ms free) (hblind : FrameBlind Pc) (hrc : rm.cells = mc) (hrs : rm.slots = ms)
    (hframes : rm.frames + 1 ≤ R.frames) (hlocals : W9 + (maxL + 11) + rm.locals ≤ R.locals)
    (hws : ∀ w ∈ ws, ∀ a' U, s.WarmedH U.vm → w.before a' U = true) (hcode : Cond.code y bytes maxL ret ∈ ws) (hinit : ∀ a' U, s.WarmedH U.vm → (Cond.initialized y.cls).before a' U = true) :
    vx_Back l R p e below s sargs y len W9 (PreOf R mc ms Pc) (PostOf Qc mc ms free) (vx_Post XC mc ms free) := by
  intro m meth c A g ig mk a X hg hsize hdg hW hn hp
  have h1 : (headSpec ws rm).pre.before a A.U = true := atoms_intro fun w hw => hws w hw _ _ X.warmed
  have h2 : (Cond.code y bytes maxL ret).before a A.U = true := hws _ hcode _ _ X.warmed
  have h3 : (Cond.initialized y.cls).before a A.U = true := hinit _ _ X.warmed
  have h4 : A.cells + (headSpec ws rm).room.cells ≤ R.cells := by rw [show (headSpec ws rm).room.cells = mc from hrc]; exact hp.1
  have h5 : A.slots + (headSpec ws rm).room.slots ≤ R.slots := by rw [show (headSpec ws rm).room.slots = ms from hrs]; exact hp.2.1
  have hPc : Pc a (A.U.calling g mk a) := hblind _ _ _ _ hp.2.2
  obtain ⟨U, Ls, c0, s0⟩ := A
  dsimp only [Pt.U, Pt.locs, Pt.cells, Pt.slots] at h1 h2 h3 h4 h5 X hn hPc ⊢
  obtain ⟨methY, cY, hmY, hcY, -, hlY, -, -, -, -⟩ := Cond.code_spec hn h2
  obtain ⟨kY, hkY, -⟩ := className_of_methodNamed hn
  have hinitY : kY.init = .initialized := Cond.initialized_spec (findClass_of_methodNamed hn) hkY h3
  have h : At U g.method c below := by rw [hg]; exact X.here
  have hlocals9 : W9 + (maxL + 11) + (headSpec ws rm).room.locals ≤ R.locals := hlocals
  have happ : (headSpec ws rm).appliesLoose y e.platform (U.calling g mk a) = true :=
    Spec.appliesLoose_calling (g := g) h hdg hn hkY hinitY
      (X.room_calling (g := g) (R' := (headSpec ws rm).room) hsize hmY hcY hframes (by rw [hlY]; omega) h4 h5) h1
  obtain ⟨mid, hmid⟩ := h.above
  have hfr : (U.setTop g).frames = (.java g :: mid) ++ below := by rw [State.frames_setTop' g h.top, hmid]; rfl
  obtain ⟨o, s₂, hsteps, -, hend, hq⟩ := Steps.callFree hM p X.admits X.cas X.clock (acts := []) hfr happ hPc trivial
  have hq' : vx_Q Qc XC mc ms free a (U.calling g mk a) o s₂ := hq
  rw [State.frames_setTop' g h.top] at hend
  obtain ⟨g₀, hg0⟩ := Option.isSome_iff_exists.mp h.top
  obtain ⟨r, hr⟩ := State.topJava?_eq_some.mp hg0
  have hr' : (({ U with heap := s₂.heap, slotsUsed := s₂.slotsUsed } : State).setVm s₂.vm).frames = .java g₀ :: r := hr
  rcases hq' with ⟨hqc, L, hfe, hL⟩ | ⟨q, rfl, E, ce, L, hx, hce, hcv, hcl, hW₂, hsm, hL⟩
  · obtain ⟨⟨v, rfl⟩, hW₂, e2, q2, q3, q4, q5, q6⟩ := id hfe
    have e3 : s₂ = ({ (U.calling g mk a).setFrames s₂.frames with heap := s₂.heap, slotsUsed := s₂.slotsUsed } : State).setVm s₂.vm := by
      have : s₂ = ({ s₂ with vm := (U.calling g mk a).vm } : State).setVm s₂.vm := rfl
      rw [e2] at this
      exact this
    obtain ⟨c₂, i₂, len₂, hc₂, hd₂, hf₂⟩ := hend
    have hW' : U.WarmedH s₂.vm := hW₂
    have hcc : c₂ = c := by
      have h1 : s₂.code? g.method = U.code? g.method := by
        rw [State.code?_eq, State.code?_eq, hW'.alike.method?]
      exact Option.some.inj (hc₂.symm.trans (h1.trans h.code))
    subst hcc
    have hlen : len₂ = len := by rw [hdg] at hd₂; cases hd₂; rfl
    subst hlen
    have hs₂ : s₂ = (({ U with heap := s₂.heap, slotsUsed := s₂.slotsUsed } : State).setVm s₂.vm).setTop { g with pc := g.pc + len₂, stack := v.toList ++ g.stack } := by
      refine e3.trans ?_
      rw [hf₂, State.calling_eq h.top, State.setFrames_setFrames, State.setTop_of_frames _ hr', hr]
      rfl
    have hsame : U.sameButNew ({ U with heap := s₂.heap, slotsUsed := s₂.slotsUsed } : State) L mc ms := by
      refine ⟨?_, q2, q3, q4, q5, q6⟩
      obtain ⟨t, ht, -⟩ := State.frames_cons hr
      show ({ U with heap := s₂.heap, slotsUsed := s₂.slotsUsed } : State) = { U.setFrames U.frames with heap := s₂.heap, slotsUsed := s₂.slotsUsed }
      rw [State.setFrames_self ht]
    subst hg
    refine Or.inl ⟨v, ⟨(({ U with heap := s₂.heap, slotsUsed := s₂.slotsUsed } : State).setVm s₂.vm), Ls ++ L, c0 + mc, s0 + ms⟩,
      ⟨X.admits, X.cas, X.clock, X.frames, X.room, X.hears, X.method, X.code, (X.here.setHeapUsed s₂.heap s₂.slotsUsed).setVm hW'.alike, X.tail, State.WarmedH.trans X.warmed hW', X.limits, X.bytes, X.same.trans (hsame.setVm s.vm)⟩,
      ⟨g, mk, s₂, L, rfl, rfl, hqc, rfl, hL, rfl, rfl⟩, ?_⟩
    show Steps p.tables e below _ ((({ U with heap := s₂.heap, slotsUsed := s₂.slotsUsed } : State).setVm s₂.vm).setTop { g with pc := g.pc + len₂, stack := v.toList ++ g.stack })
    rw [← hs₂]
    exact hsteps
  · obtain ⟨e2, q2, q3, q4, q5, q6⟩ := id hsm
    have e3 : s₂ = ({ (U.calling g mk a).setFrames s₂.frames with heap := s₂.heap, slotsUsed := s₂.slotsUsed } : State).setVm s₂.vm := by
      have : s₂ = ({ s₂ with vm := (U.calling g mk a).vm } : State).setVm s₂.vm := rfl
      rw [e2] at this
      exact this
    have hf₂ : s₂.frames = .throwing q :: .java g :: U.frames.tail := hend
    have hW' : U.WarmedH s₂.vm := hW₂
    have hs₂ : s₂ = ((({ U with heap := s₂.heap, slotsUsed := s₂.slotsUsed } : State).setVm s₂.vm).setTop g).pushFrame (.throwing q) := by
      refine e3.trans ?_
      rw [hf₂, State.calling_eq h.top, State.setFrames_setFrames, State.pushFrame, State.frames_setTop _ hr', State.setTop_of_frames _ hr', State.setFrames_setFrames, hr]
      rfl
    have hsame : U.sameButNew ({ U with heap := s₂.heap, slotsUsed := s₂.slotsUsed } : State) L mc ms := by
      refine ⟨?_, q2, q3, q4, q5, q6⟩
      obtain ⟨t, ht, -⟩ := State.frames_cons hr
      show ({ U with heap := s₂.heap, slotsUsed := s₂.slotsUsed } : State) = { U.setFrames U.frames with heap := s₂.heap, slotsUsed := s₂.slotsUsed }
      rw [State.setFrames_self ht]
    subst hg
    refine Or.inr ⟨q, ⟨(({ U with heap := s₂.heap, slotsUsed := s₂.slotsUsed } : State).setVm s₂.vm), Ls ++ L, c0 + mc, s0 + ms⟩,
      ⟨X.admits, X.cas, X.clock, X.frames, X.room, X.hears, X.method, X.code, (X.here.setHeapUsed s₂.heap s₂.slotsUsed).setVm hW'.alike, X.tail, State.WarmedH.trans X.warmed hW', X.limits, X.bytes, X.same.trans (hsame.setVm s.vm)⟩,
      ⟨g, mk, s₂, L, E, ce, rfl, rfl, hx, hce, hcv, hcl, rfl, hL, rfl, rfl⟩, ?_⟩
    show Steps p.tables e below _ (((({ U with heap := s₂.heap, slotsUsed := s₂.slotsUsed } : State).setVm s₂.vm).setTop g).pushFrame (.throwing q))
    rw [← hs₂]
    exact hsteps
end Payer
section Calls
variable {p : Program} {l : Launch} {e : Env} {R : Room} {s : State} {m : MethodId} {args : Array Value} {below : List Frame} {meth : Method} {c : Code} {T : State} {locs : List Loc} {cells slots : Nat}
theorem vx_callV (X : Stand p l e R s m args below meth c T locs cells slots) (hexec : p.tables.exec = Jvm.exec) {own C : String} {index : Nat} {y : MethodName} {bytes : ByteArray} {maxL : Nat} {ret : Option FieldType}
    (hown : s.vm.findClass own = some m.cls) (hlink : (Cond.methodLink own index y).before args s = true) (hinst : (Cond.instanceMethod y).before args s = true) (hsel : (Cond.selects C y y).before args s = true)
    (hcode : (Cond.code y bytes maxL ret).before args s = true) (hy : y.cls ≠ "java/lang/invoke/MethodHandle" ∧ y.cls ≠ "java/lang/invoke/VarHandle")
    {W9 : Nat} {Pre : Pt → Array Value → Prop} {Post : Pt → Array Value → Option Value → Pt → Prop} {PostX : Pt → Array Value → Addr → Pt → Prop} (hK : vx_Back l R p e below s args y 3 W9 Pre Post PostX)
    {b : Addr} {cellB : Cell} (hcell : T.heap[b]? = some cellB) (hobj : cellB.vm.isStatics = false) (hcls : s.vm.findClass C = some cellB.cls)
    {g : JFrame} (hg : g.method = m) (hsize : g.locals.size = c.maxLocals) {argsL rest : List Value} (hlen : ∀ sig, parseMethodDescriptor y.desc = some sig → argsL.length = sig.parameters.length)
    (hstack : g.stack = argsL.reverse ++ .ref b :: rest) (hW : 2 * g.monitorRoom + (rest.map fun v => v.category).sum ≤ W9) (hdg : decode c.code g.pc = .ok (.invokevirtual index, 3))
    (hpre : ∀ vm₁, s.WarmedH vm₁ → Pre ⟨T.setVm vm₁, locs, cells, slots⟩ (Value.ref b :: argsL).toArray) :
    (∃ (v : Option Value) (vm₁ : Vm) (B : Pt), s.WarmedH vm₁ ∧ Stand p l e R s m args below meth c B.U B.locs B.cells B.slots ∧ Post ⟨T.setVm vm₁, locs, cells, slots⟩ (Value.ref b :: argsL).toArray v B ∧
      ∀ target, Steps p.tables e below (B.U.setTop { g with pc := g.pc + 3, stack := v.toList ++ rest }) target → Steps p.tables e below (T.setTop g) target) ∨
    (∃ (q : Addr) (vm₁ : Vm) (B : Pt), s.WarmedH vm₁ ∧ Stand p l e R s m args below meth c B.U B.locs B.cells B.slots ∧ PostX ⟨T.setVm vm₁, locs, cells, slots⟩ (Value.ref b :: argsL).toArray q B ∧
      Steps p.tables e below (T.setTop g) ((B.U.setTop { g with stack := rest }).pushFrame (.throwing q))) := by
  obtain ⟨mk, methM, hnamed, hmethM, hstM, habM⟩ := Cond.instanceMethod_spec hinst
  obtain ⟨methM', cM, hmethM', -, -, -, -, -, -, hsigM⟩ := Cond.code_spec hnamed hcode
  cases hmethM.symm.trans hmethM'
  obtain ⟨c2, r2, m2, q1, q2, q3, q4, kP, hkP, hkPi⟩ := Cond.selects_spec hsel
  cases hcls.symm.trans q1
  cases (State.methodFound?_of_named hnamed hy).symm.trans q2
  cases hnamed.symm.trans q3
  have hselP : selectMethod e.platform s.vm cellB.cls mk = .method mk := by rw [Launch.admits_selectMethod X.admits]; exact q4
  obtain ⟨vm₁, X₁, hstep₁⟩ := X.invokevirtual hexec hown hlink hnamed hmethM hstM hkP hkPi hy (a := b) (cell := cellB) hcell
    (fun z h => by rw [h] at hobj; cases hobj) hselP hmethM habM hkP hkPi (g := g) hg (argsL := argsL) (rest := rest) (hlen _ hsigM) hstack hdg
  rcases hK m meth c ⟨T.setVm vm₁, locs, cells, slots⟩ { g with stack := rest } (.invokevirtual index) mk (Value.ref b :: argsL).toArray X₁ hg hsize hdg hW (X₁.named hnamed) (hpre vm₁ X₁.warmed) with ⟨v, B, X', hpost, hsteps⟩ | ⟨q, B, X', hpost, hsteps⟩
  · exact Or.inl ⟨v, vm₁, B, X₁.warmed, X', hpost, fun target h => hstep₁ _ fun acts => by rw [doInvoke_state]; exact hsteps.trans h⟩
  · exact Or.inr ⟨q, vm₁, B, X₁.warmed, X', hpost, hstep₁ _ fun acts => by rw [doInvoke_state]; exact hsteps⟩
theorem vx_callS (X : Stand p l e R s m args below meth c T locs cells slots) (hexec : p.tables.exec = Jvm.exec) {own : String} {index : Nat} {y : MethodName} {bytes : ByteArray} {maxL : Nat} {ret : Option FieldType}
    (hown : s.vm.findClass own = some m.cls) (hlink : (Cond.methodLink own index y).before args s = true) (hstat : (Cond.static y).before args s = true) (hinit : (Cond.initialized y.cls).before args s = true)
    (hcode : (Cond.code y bytes maxL ret).before args s = true) (hy : y.cls ≠ "java/lang/invoke/MethodHandle" ∧ y.cls ≠ "java/lang/invoke/VarHandle")
    {W9 : Nat} {Pre : Pt → Array Value → Prop} {Post : Pt → Array Value → Option Value → Pt → Prop} {PostX : Pt → Array Value → Addr → Pt → Prop} (hK : vx_Back l R p e below s args y 3 W9 Pre Post PostX)
    {g : JFrame} (hg : g.method = m) (hsize : g.locals.size = c.maxLocals) {argsL rest : List Value} (hlen : ∀ sig, parseMethodDescriptor y.desc = some sig → argsL.length = sig.parameters.length)
    (hstack : g.stack = argsL.reverse ++ rest) (hW : 2 * g.monitorRoom + (rest.map fun v => v.category).sum ≤ W9) (hdg : decode c.code g.pc = .ok (.invokestatic index, 3))
    (hpre : ∀ vm₁, s.WarmedH vm₁ → Pre ⟨T.setVm vm₁, locs, cells, slots⟩ argsL.toArray) :
    (∃ (v : Option Value) (vm₁ : Vm) (B : Pt), s.WarmedH vm₁ ∧ Stand p l e R s m args below meth c B.U B.locs B.cells B.slots ∧ Post ⟨T.setVm vm₁, locs, cells, slots⟩ argsL.toArray v B ∧
      ∀ target, Steps p.tables e below (B.U.setTop { g with pc := g.pc + 3, stack := v.toList ++ rest }) target → Steps p.tables e below (T.setTop g) target) ∨
    (∃ (q : Addr) (vm₁ : Vm) (B : Pt), s.WarmedH vm₁ ∧ Stand p l e R s m args below meth c B.U B.locs B.cells B.slots ∧ PostX ⟨T.setVm vm₁, locs, cells, slots⟩ argsL.toArray q B ∧
      Steps p.tables e below (T.setTop g) ((B.U.setTop { g with stack := rest }).pushFrame (.throwing q))) := by
  obtain ⟨mk, hnamed⟩ := Cond.code_named hcode
  obtain ⟨methM, cM, hmethM, -, -, -, -, -, -, hsigM⟩ := Cond.code_spec hnamed hcode
  have hstatic : methM.isStatic = true := Cond.static_spec hnamed hmethM hstat
  obtain ⟨kP, hkP, -⟩ := className_of_methodNamed hnamed
  have hinitP : kP.init = .initialized := Cond.initialized_spec (findClass_of_methodNamed hnamed) hkP hinit
  obtain ⟨vm₁, X₁, hstep₁⟩ := X.invokestatic hexec hown hlink hnamed hmethM hstatic hkP hinitP hy (g := g) hg (argsL := argsL) (rest := rest) (hlen _ hsigM) hstack hdg
  rcases hK m meth c ⟨T.setVm vm₁, locs, cells, slots⟩ { g with stack := rest } (.invokestatic index) mk argsL.toArray X₁ hg hsize hdg hW (X₁.named hnamed) (hpre vm₁ X₁.warmed) with ⟨v, B, X', hpost, hsteps⟩ | ⟨q, B, X', hpost, hsteps⟩
  · exact Or.inl ⟨v, vm₁, B, X₁.warmed, X', hpost, fun target h => hstep₁ _ fun acts => by rw [doInvoke_state]; exact hsteps.trans h⟩
  · exact Or.inr ⟨q, vm₁, B, X₁.warmed, X', hpost, hstep₁ _ fun acts => by rw [doInvoke_state]; exact hsteps⟩
end Calls
theorem vx_cls {s : State} {T : State} {vm₁ : Vm} {E : String} {k : ClassId} (hW : s.WarmedH vm₁) (h : (T.setVm vm₁).vm.findClass E = some k) : s.vm.findClass E = some k := by
  have h1 : vm₁.findClass E = some k := h
  rw [hW.alike.findClass] at h1
  exact h1
/-- the method's frame g, with q thrown over it -/
def vx_W (p : Program) (l : Launch) (e : Env) (R : Room) (s : State) (m : MethodId) (args : Array Value) (below : List Frame) (meth : Method) (c : Code) (H : Heap) (locs : List Loc) (cells slots : Nat) (Q : State → Prop) (g : JFrame) (q : Addr) : Prop :=
  ∀ T : State, T.heap = H → Stand p l e R s m args below meth c T locs cells slots → ∃ t, Steps p.tables e below ((T.setTop g).pushFrame (.throwing q)) t ∧ Q t
def vx_Run (p : Program) (l : Launch) (e : Env) (R : Room) (s : State) (m : MethodId) (args : Array Value) (below : List Frame) (meth : Method) (c : Code) (H : Heap) (locs : List Loc) (cells slots mc ms : Nat) (g : JFrame) (rest : List Value) (Qa : State → Outcome → State → Prop) (XC : String → State → State → Prop) (free : Addr → Prop) : Prop :=
  ∀ T : State, T.heap = H → Stand p l e R s m args below meth c T locs cells slots →
    (∃ (v : Option Value) (st₀ t T' : State) (L : List Loc), st₀.heap = H ∧ Stand p l e R s m args below meth c T' (locs ++ L) (cells + mc) (slots + ms) ∧ (∀ q ∈ L, free q.base) ∧ T'.heap = t.heap ∧ T'.vm = t.vm ∧ Qa st₀ (.returned v) t ∧
      Goes p e below T g T' { g with pc := g.pc + 3, stack := v.toList ++ rest }) ∨
    (∃ (q : Addr) (st₀ t T' : State) (L : List Loc) (E : String) (ce : Cell), st₀.heap = H ∧ Stand p l e R s m args below meth c T' (locs ++ L) (cells + mc) (slots + ms) ∧ (∀ z ∈ L, free z.base) ∧ T'.heap = t.heap ∧ T'.vm = t.vm ∧ XC E st₀ t ∧ t.heap[q]? = some ce ∧ ce.vm = .none ∧ s.vm.findClass E = some ce.cls ∧
      Steps p.tables e below (T.setTop g) ((T'.setTop { g with stack := rest }).pushFrame (.throwing q)))
def vx_X {S : Type} (px : S → Prop) (B : String → S → State → Prop) (A : Nat → Prop) : String → State → State → Prop := fun E st t => ∃ u : S, px u ∧ B E u t ∧ va_F A st t
section Runs
variable {p : Program} {l : Launch} {e : Env} {R : Room} {s : State} {m : MethodId} {args : Array Value} {below : List Frame} {meth : Method} {c : Code} {H : Heap} {locs : List Loc} {cells slots : Nat}
variable {y : MethodName} {bytes cc : ByteArray} {maxL nL mc ms n index : Nat} {ret : Option FieldType} {ws : List Cond} {rm : Room} {Pc : Array Value → State → Prop} {Qc : Array Value → State → Outcome → State → Prop} {XC : String → State → State → Prop} {free : Addr → Prop} {Ts : List Cond} {own C : String} {b : Addr} {As rest : List Value} {g : JFrame}
theorem vx_callBack (cb : CallB R s args own index y bytes maxL ret ws rm mc ms n) (hM : vx_Met l y ws rm Pc Qc XC mc ms free) (hbl : FrameBlind Pc) : vx_Back l R p e below s args y 3 8 (PreOf R mc ms Pc) (PostOf Qc mc ms free) (vx_Post XC mc ms free) := by
  obtain ⟨hrc, hrs, hfr, hlo, hws, hcw, -, hini, -⟩ := cb
  exact vx_back (bytes := bytes) (maxL := maxL) (ret := ret) hM hbl hrc hrs hfr hlo hws hcw (fun a' U hW => word_at hW (Or.inl (by first | rfl | simp [Cond.onTables, Cond.keeps, Cond.steady])) hini)
theorem vx_runV (S : CallFix p m c cc nL s args Ts own) (hM : vx_Met l y ws rm Pc Qc XC mc ms free) (cw : CallW R s args own C index y bytes maxL ret ws rm mc ms n) (hp : PreV s H C b Pc As)
    (hg : g.method = m) (hn : As.length = n) (hsize : g.locals.size = nL) (hstack : g.stack = As.reverse ++ .ref b :: rest) (hW : 2 * g.monitorRoom + (rest.map fun v => v.category).sum ≤ 8) (hdg : decode cc g.pc = .ok (.invokevirtual index, 3)) (hf : cells + mc ≤ R.cells ∧ slots + ms ≤ R.slots) :
    vx_Run p l e R s m args below meth c H locs cells slots mc ms g rest (Qc (Value.ref b :: As).toArray) XC free := by
  have hK : vx_Back l R p e below s args y 3 8 (PreOf R mc ms Pc) (PostOf Qc mc ms free) (vx_Post XC mc ms free) := vx_callBack cw.1 hM hp.1
  obtain ⟨⟨-, -, -, -, -, -, hcode, -, hy, hlen, hl⟩, hin, hse⟩ := cw
  obtain ⟨hx, hb, hml, ho, -⟩ := S
  obtain ⟨-, ⟨cellB, hcB, hoB, hclB⟩, hPc⟩ := hp
  intro T hT X
  rcases vx_callV X hx (C := C) (bytes := bytes) (maxL := maxL) (ret := ret) ho hl hin hse hcode hy hK (by rw [hT]; exact hcB) hoB hclB hg (hsize.trans hml.symm) (argsL := As) (rest := rest) (fun sig h => hn.trans (hlen sig h)) hstack hW (by rw [hb]; exact hdg)
    (fun vm₁ hW₁ => ⟨hf.1, hf.2, hPc (T.setVm vm₁) hT hW₁⟩) with ⟨v, vm₁, ⟨U', l2, c2, s2⟩, hW₁, X', ⟨g', mk, t, L, e1, e2, hq, h1, hL, h2, h3⟩, st⟩ | ⟨q, vm₁, ⟨U', l2, c2, s2⟩, hW₁, X', ⟨g', mk, t, L, E, ce, e1, e2, hq, hce, hcv, hcl, h1, hL, h2, h3⟩, st⟩
  · dsimp only [Pt.U, Pt.locs, Pt.cells, Pt.slots] at X' e1 e2 h1 h2 h3 st
    subst h1; subst h2; subst h3
    exact Or.inl ⟨v, (T.setVm vm₁).calling g' mk (Value.ref b :: As).toArray, t, U', L, hT, X', hL, e1, e2, hq, st⟩
  · dsimp only [Pt.U, Pt.locs, Pt.cells, Pt.slots] at X' e1 e2 h1 h2 h3 st hcl
    subst h1; subst h2; subst h3
    exact Or.inr ⟨q, (T.setVm vm₁).calling g' mk (Value.ref b :: As).toArray, t, U', L, E, ce, hT, X', hL, e1, e2, hq, hce, hcv, vx_cls hW₁ hcl, st⟩
theorem vx_runS (S : CallFix p m c cc nL s args Ts own) (hM : vx_Met l y ws rm Pc Qc XC mc ms free) (cw : CallB R s args own index y bytes maxL ret ws rm mc ms n ∧ (Cond.static y).before args s = true) (hp : PreS s H Pc As)
    (hg : g.method = m) (hn : As.length = n) (hsize : g.locals.size = nL) (hstack : g.stack = As.reverse ++ rest) (hW : 2 * g.monitorRoom + (rest.map fun v => v.category).sum ≤ 8) (hdg : decode cc g.pc = .ok (.invokestatic index, 3)) (hf : cells + mc ≤ R.cells ∧ slots + ms ≤ R.slots) :
    vx_Run p l e R s m args below meth c H locs cells slots mc ms g rest (Qc As.toArray) XC free := by
  have hK : vx_Back l R p e below s args y 3 8 (PreOf R mc ms Pc) (PostOf Qc mc ms free) (vx_Post XC mc ms free) := vx_callBack cw.1 hM hp.1
  obtain ⟨⟨-, -, -, -, -, -, hcode, hini, hy, hlen, hl⟩, hstt⟩ := cw
  obtain ⟨hx, hb, hml, ho, -⟩ := S
  intro T hT X
  rcases vx_callS X hx (bytes := bytes) (maxL := maxL) (ret := ret) ho hl hstt hini hcode hy hK hg (hsize.trans hml.symm) (argsL := As) (rest := rest) (fun sig h => hn.trans (hlen sig h)) hstack hW (by rw [hb]; exact hdg)
    (fun vm₁ hW₁ => ⟨hf.1, hf.2, hp.2 (T.setVm vm₁) hT hW₁⟩) with ⟨v, vm₁, ⟨U', l2, c2, s2⟩, hW₁, X', ⟨g', mk, t, L, e1, e2, hq, h1, hL, h2, h3⟩, st⟩ | ⟨q, vm₁, ⟨U', l2, c2, s2⟩, hW₁, X', ⟨g', mk, t, L, E, ce, e1, e2, hq, hce, hcv, hcl, h1, hL, h2, h3⟩, st⟩
  · dsimp only [Pt.U, Pt.locs, Pt.cells, Pt.slots] at X' e1 e2 h1 h2 h3 st
    subst h1; subst h2; subst h3
    exact Or.inl ⟨v, (T.setVm vm₁).calling g' mk As.toArray, t, U', L, hT, X', hL, e1, e2, hq, st⟩
  · dsimp only [Pt.U, Pt.locs, Pt.cells, Pt.slots] at X' e1 e2 h1 h2 h3 st hcl
    subst h1; subst h2; subst h3
    exact Or.inr ⟨q, (T.setVm vm₁).calling g' mk As.toArray, t, U', L, E, ce, hT, X', hL, e1, e2, hq, hce, hcv, vx_cls hW₁ hcl, st⟩
end Runs
section Rows
variable {p : Program} {l : Launch} {e : Env} {R : Room} {s : State} {m : MethodId} {args : Array Value} {below : List Frame} {meth : Method} {c : Code} {H : Heap} {locs : List Loc} {cells slots : Nat} {Q : State → Prop}
variable {mc ms : Nat} {free : Addr → Prop} {A0 A1 : Nat → Prop} {H0 : Heap} {a : Array Value} {pc : Nat} {ls : Array Slot} {st0 rest : List Value}
theorem vx_keep {st₀ t T' : State} {L : List Loc} (h0 : st₀.heap = H) (e1 : T'.heap = t.heap) (hS : va_S A0 H0 H locs) (hA : ∀ q, q < H.size → A1 q → A0 q) (hf : ∀ q, free q → A0 q) (hL : ∀ q ∈ L, free q.base) (hF : va_F A1 st₀ t) :
    H.size ≤ T'.heap.size ∧ (∀ q : Nat, q < H.size → ¬ A1 q → T'.heap[q]? = H[q]?) ∧ va_S A0 H0 T'.heap (locs ++ L) := by
  obtain ⟨hz, hk⟩ := hF
  rw [h0] at hz hk
  exact ⟨by rw [e1]; exact hz, fun q h1 h2 => by rw [e1]; exact hk q h1 h2,
    ⟨Nat.le_trans hS.1 (by rw [e1]; exact hz), fun q h1 h2 => by rw [e1, hk q (Nat.lt_of_lt_of_le h1 hS.1) (fun z => h2 (hA q (Nat.lt_of_lt_of_le h1 hS.1) z))]; exact hS.2.1 q h1 h2, fun q hq => by
      rcases List.mem_append.mp hq with h | h
      · exact hS.2.2 q h
      · exact hf _ (hL q h)⟩⟩
theorem vx_calli {S SX : Type} {post : Int32 → S → Prop} {px : SX → Prop} {B : S → State → Prop} {BX : String → SX → State → Prop} {AX : Nat → Prop} (hr : vx_Run p l e R s m args below meth c H locs cells slots mc ms (F0 m pc ls st0) rest (va_Qi post B A1 a) (vx_X px BX AX) free) (hS : va_S A0 H0 H locs) (hA : ∀ q, q < H.size → A1 q → A0 q) (hf : ∀ q, free q → A0 q) (hAX : ∀ q, q < H.size → AX q → A0 q)
    (kx : ∀ (E : String) (ce : Cell) (q9 : Addr) (u : SX) (t : State) (H1 : Heap) (locs1 : List Loc), t.heap = H1 → s.vm.Alike t.vm → px u → BX E u t → H.size ≤ H1.size → (∀ q : Nat, q < H.size → ¬ AX q → H1[q]? = H[q]?) → va_S A0 H0 H1 locs1 → H1[q9]? = some ce → ce.vm = .none → s.vm.findClass E = some ce.cls → vx_W p l e R s m args below meth c H1 locs1 (cells + mc) (slots + ms) Q (F0 m pc ls rest) q9)
    (kk : ∀ (r : Int32) (u : S) (t : State) (H1 : Heap) (locs1 : List Loc), t.heap = H1 → s.vm.Alike t.vm → post r u → B u t → H.size ≤ H1.size → (∀ q : Nat, q < H.size → ¬ A1 q → H1[q]? = H[q]?) → va_S A0 H0 H1 locs1 → W p l e R s m args below meth c H1 locs1 (cells + mc) (slots + ms) Q (F0 m (pc + 3) ls (.int r :: rest))) : W p l e R s m args below meth c H locs cells slots Q (F0 m pc ls st0) := by
  intro T hT X
  rcases hr T hT X with ⟨v, st₀, t, T', L, h0, X', hL, e1, e2, ⟨⟨r, u, hv, hp, hb⟩, hF⟩, st⟩ | ⟨q, st₀, t, T', L, E, ce, h0, X', hL, e1, e2, ⟨u, hp, hb, hF⟩, hce, hcv, hcl, st⟩
  · cases hv
    obtain ⟨k1, k2, k3⟩ := vx_keep h0 e1 hS hA hf hL hF
    obtain ⟨t2, a1, b1⟩ := kk r u t T'.heap (locs ++ L) e1.symm (by rw [← e2]; exact X'.warmed.alike) hp hb k1 k2 k3 T' rfl X'
    exact ⟨t2, st t2 a1, b1⟩
  · obtain ⟨k1, k2, k3⟩ := vx_keep h0 e1 hS hAX hf hL hF
    obtain ⟨t2, a1, b1⟩ := kx E ce q u t T'.heap (locs ++ L) e1.symm (by rw [← e2]; exact X'.warmed.alike) hp hb k1 k2 k3 (by rw [e1]; exact hce) hcv hcl T' rfl X'
    exact ⟨t2, st.trans a1, b1⟩
theorem vx_calll {S SX : Type} {post : Int64 → S → Prop} {px : SX → Prop} {B : S → State → Prop} {BX : String → SX → State → Prop} {AX : Nat → Prop} (hr : vx_Run p l e R s m args below meth c H locs cells slots mc ms (F0 m pc ls st0) rest (va_Ql post B A1 a) (vx_X px BX AX) free) (hS : va_S A0 H0 H locs) (hA : ∀ q, q < H.size → A1 q → A0 q) (hf : ∀ q, free q → A0 q) (hAX : ∀ q, q < H.size → AX q → A0 q)
    (kx : ∀ (E : String) (ce : Cell) (q9 : Addr) (u : SX) (t : State) (H1 : Heap) (locs1 : List Loc), t.heap = H1 → s.vm.Alike t.vm → px u → BX E u t → H.size ≤ H1.size → (∀ q : Nat, q < H.size → ¬ AX q → H1[q]? = H[q]?) → va_S A0 H0 H1 locs1 → H1[q9]? = some ce → ce.vm = .none → s.vm.findClass E = some ce.cls → vx_W p l e R s m args below meth c H1 locs1 (cells + mc) (slots + ms) Q (F0 m pc ls rest) q9)
    (kk : ∀ (r : Int64) (u : S) (t : State) (H1 : Heap) (locs1 : List Loc), t.heap = H1 → s.vm.Alike t.vm → post r u → B u t → H.size ≤ H1.size → (∀ q : Nat, q < H.size → ¬ A1 q → H1[q]? = H[q]?) → va_S A0 H0 H1 locs1 → W p l e R s m args below meth c H1 locs1 (cells + mc) (slots + ms) Q (F0 m (pc + 3) ls (.long r :: rest))) : W p l e R s m args below meth c H locs cells slots Q (F0 m pc ls st0) := by
  intro T hT X
  rcases hr T hT X with ⟨v, st₀, t, T', L, h0, X', hL, e1, e2, ⟨⟨r, u, hv, hp, hb⟩, hF⟩, st⟩ | ⟨q, st₀, t, T', L, E, ce, h0, X', hL, e1, e2, ⟨u, hp, hb, hF⟩, hce, hcv, hcl, st⟩
  · cases hv
    obtain ⟨k1, k2, k3⟩ := vx_keep h0 e1 hS hA hf hL hF
    obtain ⟨t2, a1, b1⟩ := kk r u t T'.heap (locs ++ L) e1.symm (by rw [← e2]; exact X'.warmed.alike) hp hb k1 k2 k3 T' rfl X'
    exact ⟨t2, st t2 a1, b1⟩
  · obtain ⟨k1, k2, k3⟩ := vx_keep h0 e1 hS hAX hf hL hF
    obtain ⟨t2, a1, b1⟩ := kx E ce q u t T'.heap (locs ++ L) e1.symm (by rw [← e2]; exact X'.warmed.alike) hp hb k1 k2 k3 (by rw [e1]; exact hce) hcv hcl T' rfl X'
    exact ⟨t2, st.trans a1, b1⟩
theorem vx_callf {S SX : Type} {post : UInt32 → S → Prop} {px : SX → Prop} {B : S → State → Prop} {BX : String → SX → State → Prop} {AX : Nat → Prop} (hr : vx_Run p l e R s m args below meth c H locs cells slots mc ms (F0 m pc ls st0) rest (va_Qf post B A1 a) (vx_X px BX AX) free) (hS : va_S A0 H0 H locs) (hA : ∀ q, q < H.size → A1 q → A0 q) (hf : ∀ q, free q → A0 q) (hAX : ∀ q, q < H.size → AX q → A0 q)
    (kx : ∀ (E : String) (ce : Cell) (q9 : Addr) (u : SX) (t : State) (H1 : Heap) (locs1 : List Loc), t.heap = H1 → s.vm.Alike t.vm → px u → BX E u t → H.size ≤ H1.size → (∀ q : Nat, q < H.size → ¬ AX q → H1[q]? = H[q]?) → va_S A0 H0 H1 locs1 → H1[q9]? = some ce → ce.vm = .none → s.vm.findClass E = some ce.cls → vx_W p l e R s m args below meth c H1 locs1 (cells + mc) (slots + ms) Q (F0 m pc ls rest) q9)
    (kk : ∀ (r : UInt32) (u : S) (t : State) (H1 : Heap) (locs1 : List Loc), t.heap = H1 → s.vm.Alike t.vm → post r u → B u t → H.size ≤ H1.size → (∀ q : Nat, q < H.size → ¬ A1 q → H1[q]? = H[q]?) → va_S A0 H0 H1 locs1 → W p l e R s m args below meth c H1 locs1 (cells + mc) (slots + ms) Q (F0 m (pc + 3) ls (.float r :: rest))) : W p l e R s m args below meth c H locs cells slots Q (F0 m pc ls st0) := by
  intro T hT X
  rcases hr T hT X with ⟨v, st₀, t, T', L, h0, X', hL, e1, e2, ⟨⟨r, u, hv, hp, hb⟩, hF⟩, st⟩ | ⟨q, st₀, t, T', L, E, ce, h0, X', hL, e1, e2, ⟨u, hp, hb, hF⟩, hce, hcv, hcl, st⟩
  · cases hv
    obtain ⟨k1, k2, k3⟩ := vx_keep h0 e1 hS hA hf hL hF
    obtain ⟨t2, a1, b1⟩ := kk r u t T'.heap (locs ++ L) e1.symm (by rw [← e2]; exact X'.warmed.alike) hp hb k1 k2 k3 T' rfl X'
    exact ⟨t2, st t2 a1, b1⟩
  · obtain ⟨k1, k2, k3⟩ := vx_keep h0 e1 hS hAX hf hL hF
    obtain ⟨t2, a1, b1⟩ := kx E ce q u t T'.heap (locs ++ L) e1.symm (by rw [← e2]; exact X'.warmed.alike) hp hb k1 k2 k3 (by rw [e1]; exact hce) hcv hcl T' rfl X'
    exact ⟨t2, st.trans a1, b1⟩
theorem vx_calld {S SX : Type} {post : UInt64 → S → Prop} {px : SX → Prop} {B : S → State → Prop} {BX : String → SX → State → Prop} {AX : Nat → Prop} (hr : vx_Run p l e R s m args below meth c H locs cells slots mc ms (F0 m pc ls st0) rest (va_Qd post B A1 a) (vx_X px BX AX) free) (hS : va_S A0 H0 H locs) (hA : ∀ q, q < H.size → A1 q → A0 q) (hf : ∀ q, free q → A0 q) (hAX : ∀ q, q < H.size → AX q → A0 q)
    (kx : ∀ (E : String) (ce : Cell) (q9 : Addr) (u : SX) (t : State) (H1 : Heap) (locs1 : List Loc), t.heap = H1 → s.vm.Alike t.vm → px u → BX E u t → H.size ≤ H1.size → (∀ q : Nat, q < H.size → ¬ AX q → H1[q]? = H[q]?) → va_S A0 H0 H1 locs1 → H1[q9]? = some ce → ce.vm = .none → s.vm.findClass E = some ce.cls → vx_W p l e R s m args below meth c H1 locs1 (cells + mc) (slots + ms) Q (F0 m pc ls rest) q9)
    (kk : ∀ (r : UInt64) (u : S) (t : State) (H1 : Heap) (locs1 : List Loc), t.heap = H1 → s.vm.Alike t.vm → post r u → B u t → H.size ≤ H1.size → (∀ q : Nat, q < H.size → ¬ A1 q → H1[q]? = H[q]?) → va_S A0 H0 H1 locs1 → W p l e R s m args below meth c H1 locs1 (cells + mc) (slots + ms) Q (F0 m (pc + 3) ls (.double r :: rest))) : W p l e R s m args below meth c H locs cells slots Q (F0 m pc ls st0) := by
  intro T hT X
  rcases hr T hT X with ⟨v, st₀, t, T', L, h0, X', hL, e1, e2, ⟨⟨r, u, hv, hp, hb⟩, hF⟩, st⟩ | ⟨q, st₀, t, T', L, E, ce, h0, X', hL, e1, e2, ⟨u, hp, hb, hF⟩, hce, hcv, hcl, st⟩
  · cases hv
    obtain ⟨k1, k2, k3⟩ := vx_keep h0 e1 hS hA hf hL hF
    obtain ⟨t2, a1, b1⟩ := kk r u t T'.heap (locs ++ L) e1.symm (by rw [← e2]; exact X'.warmed.alike) hp hb k1 k2 k3 T' rfl X'
    exact ⟨t2, st t2 a1, b1⟩
  · obtain ⟨k1, k2, k3⟩ := vx_keep h0 e1 hS hAX hf hL hF
    obtain ⟨t2, a1, b1⟩ := kx E ce q u t T'.heap (locs ++ L) e1.symm (by rw [← e2]; exact X'.warmed.alike) hp hb k1 k2 k3 (by rw [e1]; exact hce) hcv hcl T' rfl X'
    exact ⟨t2, st.trans a1, b1⟩
theorem vx_callv {S SX : Type} {post : S → Prop} {px : SX → Prop} {B : S → State → Prop} {BX : String → SX → State → Prop} {AX : Nat → Prop} (hr : vx_Run p l e R s m args below meth c H locs cells slots mc ms (F0 m pc ls st0) rest (va_Qv post B A1 a) (vx_X px BX AX) free) (hS : va_S A0 H0 H locs) (hA : ∀ q, q < H.size → A1 q → A0 q) (hf : ∀ q, free q → A0 q) (hAX : ∀ q, q < H.size → AX q → A0 q)
    (kx : ∀ (E : String) (ce : Cell) (q9 : Addr) (u : SX) (t : State) (H1 : Heap) (locs1 : List Loc), t.heap = H1 → s.vm.Alike t.vm → px u → BX E u t → H.size ≤ H1.size → (∀ q : Nat, q < H.size → ¬ AX q → H1[q]? = H[q]?) → va_S A0 H0 H1 locs1 → H1[q9]? = some ce → ce.vm = .none → s.vm.findClass E = some ce.cls → vx_W p l e R s m args below meth c H1 locs1 (cells + mc) (slots + ms) Q (F0 m pc ls rest) q9)
    (kk : ∀ (u : S) (t : State) (H1 : Heap) (locs1 : List Loc), t.heap = H1 → s.vm.Alike t.vm → post u → B u t → H.size ≤ H1.size → (∀ q : Nat, q < H.size → ¬ A1 q → H1[q]? = H[q]?) → va_S A0 H0 H1 locs1 → W p l e R s m args below meth c H1 locs1 (cells + mc) (slots + ms) Q (F0 m (pc + 3) ls (rest))) : W p l e R s m args below meth c H locs cells slots Q (F0 m pc ls st0) := by
  intro T hT X
  rcases hr T hT X with ⟨v, st₀, t, T', L, h0, X', hL, e1, e2, ⟨⟨u, hv, hp, hb⟩, hF⟩, st⟩ | ⟨q, st₀, t, T', L, E, ce, h0, X', hL, e1, e2, ⟨u, hp, hb, hF⟩, hce, hcv, hcl, st⟩
  · cases hv
    obtain ⟨k1, k2, k3⟩ := vx_keep h0 e1 hS hA hf hL hF
    obtain ⟨t2, a1, b1⟩ := kk u t T'.heap (locs ++ L) e1.symm (by rw [← e2]; exact X'.warmed.alike) hp hb k1 k2 k3 T' rfl X'
    exact ⟨t2, st t2 a1, b1⟩
  · obtain ⟨k1, k2, k3⟩ := vx_keep h0 e1 hS hAX hf hL hF
    obtain ⟨t2, a1, b1⟩ := kx E ce q u t T'.heap (locs ++ L) e1.symm (by rw [← e2]; exact X'.warmed.alike) hp hb k1 k2 k3 (by rw [e1]; exact hce) hcv hcl T' rfl X'
    exact ⟨t2, st.trans a1, b1⟩
/-- caught by the row x of this method's table; the rows ahead don't take it -/
theorem vx_catch {own name : String} {E : String} {ce : Cell} {q : Addr} (hown : s.vm.findClass own = some m.cls) (pre : List ExceptionTableEntry) (x : ExceptionTableEntry) (suf : List ExceptionTableEntry) (hsplit : c.exceptionTable.toList = pre ++ x :: suf)
    (hpass : ∀ z ∈ pre, covers z pc = false ∨ (z.catchType ≠ 0 ∧ ∃ nm : String, (Cond.classLink own z.catchType nm).before args s = true ∧ va_Nc E nm s)) (hx : covers x pc = true) (h0 : x.catchType ≠ 0)
    (hlink : (Cond.classLink own x.catchType name).before args s = true) (hcast : (Cond.castable E name).before args s = true) (hcell : H[q]? = some ce) (hv : ce.vm = .none) (hcl : s.vm.findClass E = some ce.cls)
    (kk : W p l e R s m args below meth c H locs cells slots Q (F0 m x.handlerPc ls [.ref q])) : vx_W p l e R s m args below meth c H locs cells slots Q (F0 m pc ls rest) q := by
  intro T hT X
  have hpl : e.platform.magicAccessors = ({} : Platform).magicAccessors := by rw [X.admits.platform]
  obtain ⟨c3, c4, hc3, hc4, hasg⟩ := Cond.castable_spec hcast
  cases Option.some.inj (hc3.symm.trans hcl)
  obtain ⟨c5, hc5, hcl5⟩ := Cond.classLink_spec hown hlink e.platform hpl
  cases Option.some.inj (hc4.symm.trans hc5)
  obtain ⟨vm', X', st⟩ := X.thenCaughtThrough q (g := F0 m pc ls rest) rfl (Steps.refl _) (by rw [hT]; exact hcell) (by rw [hv]; rfl) (by obtain ⟨k9, h9, -⟩ := Vm.findClass_spec hcl; exact ⟨k9, h9⟩) pre x suf hsplit
    (fun z hz => by
      rcases hpass z hz with h | ⟨hz0, nm, hl1, hn1⟩
      · exact Or.inl h
      · obtain ⟨c6, hc6, hcl6⟩ := Cond.classLink_spec hown hl1 e.platform hpl
        obtain ⟨a8, b8, h1, h2, h3⟩ := hn1
        cases Option.some.inj (h1.symm.trans hcl)
        cases Option.some.inj (h2.symm.trans hc6)
        exact Or.inr ⟨hz0, _, hcl6, h3⟩) hx (Or.inr ⟨h0, c4, hcl5, hasg⟩)
  obtain ⟨t, a1, b1⟩ := kk (T.setVm vm') hT X'
  exact ⟨t, st.trans a1, b1⟩
end Rows
section Ends
variable {p : Program} {l : Launch} {e : Env} {R : Room} {s : State} {m : MethodId} {args : Array Value} {below : List Frame} {meth : Method} {c : Code} {H : Heap} {locs : List Loc} {cells slots : Nat} {Q : State → Prop}
variable {mc ms : Nat} {free : Addr → Prop} {A0 A1 : Nat → Prop} {H0 : Heap} {a : Array Value} {ls : Array Slot} {st0 rest : List Value}
variable {Qc : Array Value → State → Outcome → State → Prop} {XC : String → State → State → Prop}
/-- what a body that may throw owes at its end -/
def vx_MQ (below : List Frame) (Qc : Array Value → State → Outcome → State → Prop) (XC : String → State → State → Prop) (a : Array Value) (s : State) (mc ms : Nat) (free : Addr → Prop) : State → Prop := fun t =>
  ∃ o, t.status = .running ∧ Ended t below o ∧ vx_Q Qc XC mc ms free a s o t
theorem vx_ret {g : JFrame} {mc ms : Nat} (k : W p l e R s m args below meth c H locs cells slots (MQ below Qc args s mc ms free) g) : W p l e R s m args below meth c H locs cells slots (vx_MQ below Qc XC args s mc ms free) g := by
  intro T hT X
  obtain ⟨t, a1, o, b1, b2, b3, b4⟩ := k T hT X
  exact ⟨t, a1, o, b1, b2, Or.inl ⟨b3, b4⟩⟩
/-- not caught here: it goes on to the caller -/
theorem vx_widen {g : JFrame} {q : Addr} {k n : Nat} (h1 : cells ≤ k) (h2 : slots ≤ n) (kk : vx_W p l e R s m args below meth c H locs k n Q g q) : vx_W p l e R s m args below meth c H locs cells slots Q g q := fun T hT X => kk T hT (stand_widen X h1 h2)
theorem vx_out {pc : Nat} {E : String} {ce : Cell} {q : Addr} {mc ms : Nat} (hout : ∀ x ∈ c.exceptionTable.toList, covers x pc = false) (hlocks : meth.locks = false) (hcell : H[q]? = some ce) (hv : ce.vm = .none) (hcl : s.vm.findClass E = some ce.cls)
    (hx : ∀ t : State, t.heap = H → s.vm.Alike t.vm → XC E s t) (hf : ∀ z ∈ locs, free z.base) (hc : cells ≤ mc) (hs : slots ≤ ms) :
    vx_W p l e R s m args below meth c H locs cells slots (vx_MQ below Qc XC args s mc ms free) (F0 m pc ls rest) q := by
  intro T hT X
  obtain ⟨st1, hrun, hend, hW, hsm⟩ := X.leaveThrown q (g := F0 m pc ls rest) rfl rfl rfl hout hlocks
  have hcell9 : (T.setFrames (.throwing q :: below)).heap[q]? = some ce := by
    show T.heap[q]? = some ce
    rw [hT]; exact hcell
  exact ⟨_, st1, .threw q, hrun, hend, Or.inr ⟨q, rfl, E, ce, locs, hx _ hT hW.alike, hcell9, hv, hcl, hW, hsm.mono hc hs, hf⟩⟩
theorem vx_frame {U : State} {k n : Nat} (h : s.sameButNew ({ U with vm := s.vm } : State) locs k n) : s.heap.size ≤ U.heap.size ∧ ∀ q : Nat, q < s.heap.size → (∀ z ∈ locs, z.base ≠ q) → U.heap[q]? = s.heap[q]? := by
  obtain ⟨-, h2, -, -, -, h6⟩ := h
  refine ⟨h2, fun q hq hz => ?_⟩
  obtain ⟨c9, e1, e2, e3, e4⟩ := h6 q _ (Array.getElem?_eq_getElem hq)
  have hs : c9.slots = (s.heap[q]).slots := Array.ext_getElem? fun i => e4 i fun hm => hz _ hm rfl
  have h9 : c9 = s.heap[q] := by
    rw [hs] at e2
    exact e2
  have e5 : U.heap[q]? = some c9 := e1
  rw [e5, h9, Array.getElem?_eq_getElem hq]
/-- the words of a throw but the four that speak of the heap -/
def vx_no (w : Cond) : Bool := decide (w ≠ .isRef (.static Bundle.tN "UNASSIGNED_STACK" Bundle.steD)) && decide (w ≠ .isRef (.static Bundle.tN "SUPPRESSED_SENTINEL" Bundle.listD)) && decide (w ≠ .laysStatic Bundle.tN "UNASSIGNED_STACK" Bundle.steD) && decide (w ≠ .laysStatic Bundle.tN "SUPPRESSED_SENTINEL" Bundle.listD)
def vx_at0 (own : String) (ic : Nat) (X : String) (names : List String) : List Cond := (Bundle.ownAtoms0 own ic X names).filter vx_no
def vx_atS (own : String) (ic : Nat) (X : String) (names : List String) : List Cond := (Bundle.ownAtoms own ic X names).filter vx_no
/-- a word that the tables alone decide, or a good one -/
def vx_ot (w : Cond) : Bool := w.onTables || goodWord w
theorem vx_ot_at {args a' : Array Value} {s U : State} {w : Cond} (hW : s.WarmedH U.vm) (hvm : s.vm = U.vm) (hg : vx_ot w = true) (h : w.before args s = true) : w.before a' U = true := by
  simp only [vx_ot, Bool.or_eq_true] at hg
  rcases hg with hg | hg
  · exact va_tabs hg hvm h
  · exact word_at hW (good_of_word hg) h
/-- a list's words: the good ones out of the method's own list, the others by premises of their own -/
theorem vx_hat {args : Array Value} {s : State} {L B : List Cond} (h1 : ∀ w ∈ L.filter goodWord, w.before args s = true) (h2 : ∀ w ∈ L.filter (fun w => !goodWord w), w ∈ B) (h3 : ∀ w ∈ B, w.before args s = true) : ∀ w ∈ L, w.before args s = true := by
  intro w hw
  by_cases g : goodWord w = true
  · exact h1 w (List.mem_filter.mpr ⟨hw, g⟩)
  · refine h3 w (h2 w (List.mem_filter.mpr ⟨hw, ?_⟩))
    show (!goodWord w) = true
    cases hgw : goodWord w
    · rfl
    · exact absurd hgw g
theorem vx_c {args : Array Value} {s : State} {w : Cond} {B : List Cond} (h : w.before args s = true) (t : ∀ w ∈ B, w.before args s = true) : ∀ w' ∈ w :: B, w'.before args s = true := fun w' h' => (List.mem_cons.mp h').elim (fun e => by rw [e]; exact h) (t w')
theorem vx_n {args : Array Value} {s : State} : ∀ w ∈ ([] : List Cond), w.before args s = true := fun _ h => nomatch h
theorem vx_own {args : Array Value} {s : State} {L : List Cond} (h1 : ∀ w ∈ L.filter vx_no, w.before args s = true)
    (hU : (Cond.isRef (.static Bundle.tN "UNASSIGNED_STACK" Bundle.steD)).before args s = true) (hN : (Cond.isRef (.static Bundle.tN "SUPPRESSED_SENTINEL" Bundle.listD)).before args s = true)
    (lU : (Cond.laysStatic Bundle.tN "UNASSIGNED_STACK" Bundle.steD).before args s = true) (lN : (Cond.laysStatic Bundle.tN "SUPPRESSED_SENTINEL" Bundle.listD).before args s = true) : ∀ w ∈ L, w.before args s = true := by
  intro w hw
  by_cases e1 : w = .isRef (.static Bundle.tN "UNASSIGNED_STACK" Bundle.steD)
  · rw [e1]; exact hU
  · by_cases e2 : w = .isRef (.static Bundle.tN "SUPPRESSED_SENTINEL" Bundle.listD)
    · rw [e2]; exact hN
    · by_cases e3 : w = .laysStatic Bundle.tN "UNASSIGNED_STACK" Bundle.steD
      · rw [e3]; exact lU
      · by_cases e4 : w = .laysStatic Bundle.tN "SUPPRESSED_SENTINEL" Bundle.listD
        · rw [e4]; exact lN
        · exact h1 w (List.mem_filter.mpr ⟨hw, by unfold vx_no; rw [decide_eq_true e1, decide_eq_true e2, decide_eq_true e3, decide_eq_true e4]; rfl⟩)
/-- where a static field lies, its class's statics cell in H -/
def vx_L (C n d : String) (A : Nat → Prop) (U : State) (H : Heap) : Prop := ∃ (c : ClassId) (k : Class) (i : Nat) (f : Field) (a : Nat) (cell : Cell), U.vm.findClass C = some c ∧ U.fieldFound? C n d = some (c, k, i, f) ∧ f.isStatic = true ∧ k.statics = some a ∧ H[a]? = some cell ∧ cell.vm.isStatics = true ∧ cell.cls = c ∧ f.slot < cell.slots.size ∧ k.staticTypes[f.slot]? = some f.type ∧ ¬ A a
theorem vx_L.moved {C n d : String} {A : Nat → Prop} {u U : State} {H : Heap} (hvm : u.vm.Alike U.vm) (h : vx_L C n d A u H) : vx_L C n d A U H := by
  obtain ⟨c, k, i, f, a, cell, h1, h2, h3, h4, h5, h6, h7, h8, h9, h10⟩ := h
  obtain ⟨k', hi', he⟩ := State.fieldFound?_setVm hvm h2
  exact ⟨c, k', i, f, a, cell, by rw [hvm.findClass]; exact h1, hi', h3, by rw [he]; exact h4, h5, h6, h7, h8, by rw [he]; exact h9, h10⟩
theorem vx_L.kept {C n d : String} {A : Nat → Prop} {U : State} {H H1 : Heap} (h : vx_L C n d A U H) (hq : ∀ a : Nat, a < H.size → ¬ A a → H1[a]? = H[a]?) : vx_L C n d A U H1 := by
  obtain ⟨c, k, i, f, a, cell, h1, h2, h3, h4, h5, h6, h7, h8, h9, h10⟩ := h
  exact ⟨c, k, i, f, a, cell, h1, h2, h3, h4, by rw [hq a (Array.getElem?_eq_some_iff.mp h5).1 h10]; exact h5, h6, h7, h8, h9, h10⟩
theorem vx_L.narrow {C n d : String} {A B : Nat → Prop} {U : State} {H : Heap} (h : vx_L C n d A U H) (hAB : ∀ q, B q → A q) : vx_L C n d B U H := by
  obtain ⟨c, k, i, f, a, cell, h1, h2, h3, h4, h5, h6, h7, h8, h9, h10⟩ := h
  exact ⟨c, k, i, f, a, cell, h1, h2, h3, h4, h5, h6, h7, h8, h9, fun z => h10 (hAB _ z)⟩
theorem vx_L.word {C n d : String} {A : Nat → Prop} {s : State} {args : Array Value} (h : vx_L C n d A s s.heap) : (Cond.laysStatic C n d).before args s = true := by
  obtain ⟨c, k, i, f, a, cell, h1, h2, h3, h4, h5, h6, h7, h8, h9, -⟩ := h
  show (Cond.laysStatic C n d).holds args s none s [] = true
  exact Cond.laysStatic_of h1 h2 h3 h4 h5 h6 h7 h8 h9
/-- .. and what it holds: null or some reference -/
def vx_Zq (C n d : String) (A : Nat → Prop) (U : State) (H : Heap) : Prop := va_Zq C n d A U H ∧ vx_L C n d A U H
theorem vx_Zq.moved {C n d : String} {A : Nat → Prop} {u U : State} {H : Heap} (hvm : u.vm.Alike U.vm) (h : vx_Zq C n d A u H) : vx_Zq C n d A U H := ⟨va_Zq.moved hvm h.1, vx_L.moved hvm h.2⟩
theorem vx_Zq.kept {C n d : String} {A : Nat → Prop} {U : State} {H H1 : Heap} (h : vx_Zq C n d A U H) (hq : ∀ a : Nat, a < H.size → ¬ A a → H1[a]? = H[a]?) : vx_Zq C n d A U H1 := ⟨va_Zq.kept h.1 hq, vx_L.kept h.2 hq⟩
theorem vx_Zq.narrow {C n d : String} {A B : Nat → Prop} {U : State} {H : Heap} (h : vx_Zq C n d A U H) (hAB : ∀ q, B q → A q) : vx_Zq C n d B U H := ⟨va_Zq.narrow h.1 hAB, vx_L.narrow h.2 hAB⟩
theorem vx_Zqof {args : Array Value} {s : State} {C n d : String} {A : Nat → Prop} (hl : (Cond.laysStatic C n d).before args s = true) (hini : (Cond.initialized C).before args s = true) (h : (Cond.isRef (.static C n d)).before args s = true) (hA : ∀ a : Nat, a < s.heap.size → ¬ A a) : vx_Zq C n d A s s.heap := by
  refine ⟨va_Zqof hl hini h hA, ?_⟩
  obtain ⟨c, k, i, f, a, cell, h1, h2, h3, h4, h5, h6, h7, h8, h9⟩ := Cond.laysStatic_spec hl
  exact ⟨c, k, i, f, a, cell, h1, h2, h3, h4, h5, h6, h7, h8, h9, hA a (Array.getElem?_eq_some_iff.mp h5).1⟩
theorem vx_isRef {C n d : String} {v : Value} {A : Nat → Prop} {s : State} {args : Array Value} (h : va_Z C n d v A s s.heap) (hv : v.isRef = true) : (Cond.isRef (.static C n d)).before args s = true := by
  obtain ⟨cf, kf, fi, f, a, cell, h1, h2, h3, h4, h5, h6, h7, -⟩ := h
  have he : (Term.static C n d).eval args s none [] s = some v := by
    simp [Term.eval, State.fieldNamed?, h1, h2, h4, h5, h6, h7]
  simp only [Cond.before, Cond.holds, Cond.value, he]
  cases v <;> simp_all [Value.isRef]
theorem vx_isRefq {C n d : String} {A : Nat → Prop} {s : State} {args : Array Value} (h : va_Zq C n d A s s.heap) : (Cond.isRef (.static C n d)).before args s = true := by
  rcases h with h | ⟨t, h⟩
  · exact vx_isRef h rfl
  · exact vx_isRef h rfl
/-- the same frame, seen from here: as if the method were called anew in this heap -/
theorem vx_rebase {T : State} (X : Stand p l e R s m args below meth c T locs cells slots) {R' : Room} (hf : R'.frames ≤ R.frames) (hl : R'.locals ≤ R.locals) (hc : cells + R'.cells ≤ R.cells) (hs : slots + R'.slots ≤ R.slots) :
    Stand p l e R' ((T.setVm s.vm).setFrames (.invoking m args :: below)) m args below meth c T [] 0 0 := by
  have htop : (T.setVm s.vm).topJava?.isSome := X.here.top
  have hF : ((T.setVm s.vm).setFrames (.invoking m args :: below)).frames = .invoking m args :: below := State.frames_setFrames _ (State.cur_lt_of_top htop)
  obtain ⟨g₀, hg0⟩ := Option.isSome_iff_exists.mp htop
  obtain ⟨r, hr⟩ := State.topJava?_eq_some.mp hg0
  have hl9 : e.platform.stackLimits (T.setVm s.vm).me = e.platform.stackLimits s.me := X.limits
  have hb9 : (T.setVm s.vm).me.stackBytes = s.me.stackBytes := X.bytes
  refine ⟨X.admits, X.cas, X.clock, hF, ?_, X.hears, X.method, X.code, X.here, X.tail, X.warmed, ?_, ?_, ?_⟩
  · have h := X.room
    have hU : ((T.setVm s.vm).setFrames (.invoking m args :: below)).localsInUse = s.localsInUse := by
      rw [State.localsInUse_invoking hF (meth := meth) (c := c) X.method X.code, State.localsInUse_invoking X.frames X.method X.code]
    simp only [State.hasRoom, Bool.and_eq_true, decide_eq_true_eq] at h ⊢
    obtain ⟨⟨⟨⟨h1, h2, h3, h4, h5, h6⟩, h7⟩, h8⟩, h9⟩ := h
    rw [X.frames, List.length_cons] at h2 h3
    have q1 := X.heapSize
    have q2 := X.used
    simp only [hF, hU, List.length_cons, State.stackLimits_setFrames, State.stackBytes_setFrames, hl9, hb9]
    refine ⟨⟨⟨⟨by omega, by omega, by omega, by omega, by omega, h6⟩, ?_⟩, ?_⟩, X.book⟩
    · show T.heap.size + R'.cells ≤ e.platform.maxCells
      omega
    · show T.slotsUsed + R'.slots ≤ e.platform.maxSlots
      omega
  · rw [State.stackLimits_setFrames]; rfl
  · rw [State.stackBytes_setFrames]; rfl
  · refine ⟨?_, Nat.le_refl _, Nat.le_refl _, ?_, ?_, fun a c9 h9 => ⟨c9, h9, rfl, rfl, fun _ _ => rfl⟩⟩
    · obtain ⟨t, ht, -⟩ := State.frames_cons hr
      show T.setVm s.vm = { ((T.setVm s.vm).setFrames (.invoking m args :: below)).setFrames (T.setVm s.vm).frames with heap := T.heap, slotsUsed := T.slotsUsed }
      rw [State.setFrames_setFrames, State.setFrames_self ht]
      rfl
    · show T.slotsUsed = T.slotsUsed + ((T.heap.toList.drop T.heap.size).map (·.slots.size)).sum
      rw [List.drop_eq_nil_of_le (Nat.le_of_eq Array.length_toList)]
      rfl
    · show ((T.heap.toList.drop T.heap.size).map (·.slots.size)).sum ≤ 0
      rw [List.drop_eq_nil_of_le (Nat.le_of_eq Array.length_toList)]
      exact Nat.le_refl _
/-- 'throw new E()': new; dup; invokespecial; athrow -/
theorem vx_throw0 {cc : ByteArray} {pc : Nat} (hexec : p.tables.exec = Jvm.exec) (hb : c.code = cc) (hl : l.stackTraces = false) {own cls : String} {names : List String} {ik ic mc ms : Nat} {A : Nat → Prop}
    (hown : s.vm.findClass own = some m.cls) (hcls : Bundle.fit cls = true) (hnames : ∀ n ∈ names, Bundle.fit n = true)
    (hk : (Cond.classLink own ik cls).before args s = true) (hini : (Cond.initialized cls).before args s = true) (hat : ∀ w ∈ vx_at0 own ic cls names, w.before args s = true)
    (hgood : ∀ w ∈ Cond.classLink own ik cls :: Cond.initialized cls :: vx_at0 own ic cls names, vx_ot w = true)
    (hU : vx_Zq Bundle.tN "UNASSIGNED_STACK" Bundle.steD A s s.heap) (hN : vx_Zq Bundle.tN "SUPPRESSED_SENTINEL" Bundle.listD A s s.heap) (hS : va_S A s.heap H locs) (hsize : ls.size = c.maxLocals)
    (d0 : decode cc pc = .ok (.new ik, 3)) (d3 : decode cc (pc + 3) = .ok (.dup, 1)) (d4 : decode cc (pc + 4) = .ok (.invokespecial ic, 3)) (d7 : decode cc (pc + 7) = .ok (.athrow, 1))
    (hout : ∀ x ∈ c.exceptionTable.toList, covers x (pc + 7) = false)
    (hRframes : names.length + 3 < R.frames) (hRlocals : (rest.map fun v => v.category).sum + (13 * (names.length + 1) + 42) ≤ R.locals) (hRcells : cells + 1 ≤ R.cells) (hRslots : slots + 6 ≤ R.slots) (hlocks : meth.locks = false)
    (hx : ∀ t : State, s.vm.Alike t.vm → H.size ≤ t.heap.size → (∀ q : Nat, q < H.size → t.heap[q]? = H[q]?) → XC cls s t)
    (hf : ∀ z ∈ locs, free z.base) (hc : cells + 1 ≤ mc) (hs : slots + 6 ≤ ms) :
    W p l e R s m args below meth c H locs cells slots (vx_MQ below Qc XC args s mc ms free) (F0 m pc ls rest) := by
  intro T hT X
  have htr : e.platform.stackTraces = false := (show e.platform.stackTraces = l.stackTraces by rw [X.admits.platform]).trans hl
  have Y := vx_rebase X (R' := { frames := R.frames, locals := R.locals, cells := 1, slots := 6 }) (Nat.le_refl _) (Nat.le_refl _) hRcells hRslots
  obtain ⟨s', hA⟩ : ∃ z, z = (T.setVm s.vm).setFrames (.invoking m args :: below) := ⟨_, rfl⟩
  rw [← hA] at Y
  have hvm : s'.vm = s.vm := by rw [hA]; rfl
  have hhp : s'.heap = H := by rw [hA]; exact hT
  have hW0 : s.WarmedH s'.vm := by rw [hvm]; exact State.WarmedH.refl s
  have hat' : ∀ w ∈ vx_at0 own ic cls names, w.before args s' = true := fun w hw => vx_ot_at hW0 hvm.symm (hgood w (List.mem_cons_of_mem _ (List.mem_cons_of_mem _ hw))) (hat w hw)
  have hk' : (Cond.classLink own ik cls).before args s' = true := vx_ot_at hW0 hvm.symm (hgood _ List.mem_cons_self) hk
  have hini' : (Cond.initialized cls).before args s' = true := vx_ot_at hW0 hvm.symm (hgood _ (List.mem_cons_of_mem _ List.mem_cons_self)) hini
  have hU' : vx_Zq Bundle.tN "UNASSIGNED_STACK" Bundle.steD A s' s'.heap := by rw [hhp]; exact vx_Zq.moved hW0.alike (hU.kept hS.2.1)
  have hN' : vx_Zq Bundle.tN "SUPPRESSED_SENTINEL" Bundle.listD A s' s'.heap := by rw [hhp]; exact vx_Zq.moved hW0.alike (hN.kept hS.2.1)
  have h : ∀ w ∈ Bundle.ownAtoms0 own ic cls names, w.before args s' = true := vx_own hat' (vx_isRefq hU'.1) (vx_isRefq hN'.1) hU'.2.word hN'.2.word
  have hown' : s'.vm.findClass own = some m.cls := by rw [hvm]; exact hown
  have hins : (Cond.instantiable cls 6).before args s' = true := h _ (by simp [Bundle.ownAtoms0])
  obtain ⟨vm₁, cX, kX, hfX, hkX, -, -, X₁, st1⟩ := Y.newCold hexec (own := own) (C := cls) (index := ik) (n := 6) hown' hk' hins hini'
    (g := F0 m pc ls rest) rfl (by rw [hb]; exact d0) (Nat.le_refl _) (Nat.le_refl _)
  generalize hT1 : (T.setVm vm₁).pushCell { cls := cX, slots := kX.instanceTypes.map defaultValue, vm := .none } = T1 at X₁ st1
  have hcat : (Value.ref T.heap.size).category = 1 := rfl
  have hcellA : T1.heap[T.heap.size]? = some (freshCell cX kX) := by rw [← hT1]; exact State.heap_pushCell_size _ _
  have d3' : decode c.code (pc + 3) = .ok (.dup, 1) := by rw [hb]; exact d3
  obtain ⟨U, hsteps, hrun, hend, hW, hsame, ce, hce, hO⟩ := X₁.ctorThrow0 hexec htr (own := own) (cls := cls) (names := names) (ic := ic) hown' hcls hnames h (fun x hx => nomatch hx) hfX hkX hcellA (by rw [hhp, hT]; exact Nat.le_refl _)
    (g := { method := m, pc := pc + 4, locals := ls, stack := .ref T.heap.size :: .ref T.heap.size :: rest, locked := none }) rfl hsize rfl rfl (rest := rest) rfl
    (by rw [hb]; exact d4) (by rw [hb]; exact d7) hout hRframes (by simp only [List.map_cons, List.sum_cons, hcat]; omega) hlocks
  obtain ⟨f1, f2⟩ := vx_frame hsame
  rw [hhp] at f1 f2
  have hWs : s.WarmedH U.vm := State.WarmedH.trans hW0 hW
  have hcl : s.vm.findClass cls = some ce.cls := by
    have h9 := hO.cls
    rw [hvm] at h9
    exact h9
  have hall : s.sameButNew ({ U with vm := s.vm } : State) locs mc ms := by
    subst hA
    obtain ⟨e1, e2⟩ := hsame
    rw [State.setFrames_setFrames] at e1
    have h2 : (T.setVm s.vm).sameButNew ({ U with vm := s.vm } : State) [] (0 + 1) (0 + 6) := ⟨e1, e2⟩
    have h3 := X.same.trans h2
    rw [List.append_nil] at h3
    exact h3.mono hc hs
  refine ⟨U, ?_, .threw T.heap.size, hrun, hend, Or.inr ⟨T.heap.size, rfl, cls, ce, locs, hx U hWs.alike f1 (fun q hq => f2 q hq (fun z hz => nomatch hz)), hce, hO.vm, hcl, hWs, hall, hf⟩⟩
  refine st1 _ ?_
  show Steps p.tables e below (T1.setTop { method := m, pc := pc + 3, locals := ls, stack := .ref T.heap.size :: rest, locked := none }) _
  jvm_step X₁.here [X₁.here.top, hexec, d3', Value.category]
  exact hsteps
/-- 'throw new E("text")': new; dup; ldc; invokespecial; athrow -/
theorem vx_throwS {cc : ByteArray} {pc : Nat} (hexec : p.tables.exec = Jvm.exec) (hb : c.code = cc) (hl : l.stackTraces = false) {own cls text : String} {names : List String} {ik is ic mc ms sa : Nat} {A : Nat → Prop}
    (hown : s.vm.findClass own = some m.cls) (hcls : Bundle.fit cls = true) (hnames : ∀ n ∈ names, Bundle.fit n = true)
    (hk : (Cond.classLink own ik cls).before args s = true) (hini : (Cond.initialized cls).before args s = true) (hstr : vk_R own is text sa s) (hat : ∀ w ∈ vx_atS own ic cls names, w.before args s = true)
    (hgood : ∀ w ∈ Cond.classLink own ik cls :: Cond.initialized cls :: vx_atS own ic cls names, vx_ot w = true)
    (hU : vx_Zq Bundle.tN "UNASSIGNED_STACK" Bundle.steD A s s.heap) (hN : vx_Zq Bundle.tN "SUPPRESSED_SENTINEL" Bundle.listD A s s.heap) (hS : va_S A s.heap H locs) (hsize : ls.size = c.maxLocals)
    (d0 : decode cc pc = .ok (.new ik, 3)) (d3 : decode cc (pc + 3) = .ok (.dup, 1)) (d4 : decode cc (pc + 4) = .ok (.ldc is, 2)) (d6 : decode cc (pc + 6) = .ok (.invokespecial ic, 3)) (d9 : decode cc (pc + 9) = .ok (.athrow, 1))
    (hout : ∀ x ∈ c.exceptionTable.toList, covers x (pc + 9) = false)
    (hRframes : names.length + 3 < R.frames) (hRlocals : (rest.map fun v => v.category).sum + (13 * (names.length + 1) + 43) ≤ R.locals) (hRcells : cells + 1 ≤ R.cells) (hRslots : slots + 6 ≤ R.slots) (hlocks : meth.locks = false)
    (hx : ∀ t : State, s.vm.Alike t.vm → H.size ≤ t.heap.size → (∀ q : Nat, q < H.size → t.heap[q]? = H[q]?) → XC cls s t)
    (hf : ∀ z ∈ locs, free z.base) (hc : cells + 1 ≤ mc) (hs : slots + 6 ≤ ms) :
    W p l e R s m args below meth c H locs cells slots (vx_MQ below Qc XC args s mc ms free) (F0 m pc ls rest) := by
  intro T hT X
  have htr : e.platform.stackTraces = false := (show e.platform.stackTraces = l.stackTraces by rw [X.admits.platform]).trans hl
  have Y := vx_rebase X (R' := { frames := R.frames, locals := R.locals, cells := 1, slots := 6 }) (Nat.le_refl _) (Nat.le_refl _) hRcells hRslots
  obtain ⟨s', hA⟩ : ∃ z, z = (T.setVm s.vm).setFrames (.invoking m args :: below) := ⟨_, rfl⟩
  rw [← hA] at Y
  have hvm : s'.vm = s.vm := by rw [hA]; rfl
  have hhp : s'.heap = H := by rw [hA]; exact hT
  have hW0 : s.WarmedH s'.vm := by rw [hvm]; exact State.WarmedH.refl s
  have hat' : ∀ w ∈ vx_atS own ic cls names, w.before args s' = true := fun w hw => vx_ot_at hW0 hvm.symm (hgood w (List.mem_cons_of_mem _ (List.mem_cons_of_mem _ hw))) (hat w hw)
  have hk' : (Cond.classLink own ik cls).before args s' = true := vx_ot_at hW0 hvm.symm (hgood _ List.mem_cons_self) hk
  have hini' : (Cond.initialized cls).before args s' = true := vx_ot_at hW0 hvm.symm (hgood _ (List.mem_cons_of_mem _ List.mem_cons_self)) hini
  have hU' : vx_Zq Bundle.tN "UNASSIGNED_STACK" Bundle.steD A s' s'.heap := by rw [hhp]; exact vx_Zq.moved hW0.alike (hU.kept hS.2.1)
  have hN' : vx_Zq Bundle.tN "SUPPRESSED_SENTINEL" Bundle.listD A s' s'.heap := by rw [hhp]; exact vx_Zq.moved hW0.alike (hN.kept hS.2.1)
  have h : ∀ w ∈ Bundle.ownAtoms own ic cls names, w.before args s' = true := vx_own hat' (vx_isRefq hU'.1) (vx_isRefq hN'.1) hU'.2.word hN'.2.word
  have hown' : s'.vm.findClass own = some m.cls := by rw [hvm]; exact hown
  have hins : (Cond.instantiable cls 6).before args s' = true := h _ (by simp [Bundle.ownAtoms])
  obtain ⟨vm₁, cX, kX, hfX, hkX, -, -, X₁, st1⟩ := Y.newCold hexec (own := own) (C := cls) (index := ik) (n := 6) hown' hk' hins hini'
    (g := F0 m pc ls rest) rfl (by rw [hb]; exact d0) (Nat.le_refl _) (Nat.le_refl _)
  generalize hT1 : (T.setVm vm₁).pushCell { cls := cX, slots := kX.instanceTypes.map defaultValue, vm := .none } = T1 at X₁ st1
  have hcat : (Value.ref T.heap.size).category = 1 := rfl
  have hcellA : T1.heap[T.heap.size]? = some (freshCell cX kX) := by rw [← hT1]; exact State.heap_pushCell_size _ _
  have d3' : decode c.code (pc + 3) = .ok (.dup, 1) := by rw [hb]; exact d3
  have d4' : decode c.code (pc + 4) = .ok (.ldc is, 2) := by rw [hb]; exact d4
  have hstr' : vk_R own is text sa s' := vk_R.warm hW0 hstr
  obtain ⟨U, hsteps, hrun, hend, hW, hsame, ce, hce, hO⟩ := X₁.ctorThrowS hexec htr (own := own) (cls := cls) (names := names) (ic := ic) hown' hcls hnames h (fun x hx => nomatch hx) hfX hkX hcellA (by rw [hhp, hT]; exact Nat.le_refl _) (msg := .ref sa) rfl
    (g := { method := m, pc := pc + 6, locals := ls, stack := .ref sa :: .ref T.heap.size :: .ref T.heap.size :: rest, locked := none }) rfl hsize rfl rfl (rest := rest) rfl
    (by rw [hb]; exact d6) (by rw [hb]; exact d9) hout hRframes (by simp only [List.map_cons, List.sum_cons, hcat]; omega) hlocks
  obtain ⟨f1, f2⟩ := vx_frame hsame
  rw [hhp] at f1 f2
  have hWs : s.WarmedH U.vm := State.WarmedH.trans hW0 hW
  have hcl : s.vm.findClass cls = some ce.cls := by
    have h9 := hO.cls
    rw [hvm] at h9
    exact h9
  have hall : s.sameButNew ({ U with vm := s.vm } : State) locs mc ms := by
    subst hA
    obtain ⟨e1, e2⟩ := hsame
    rw [State.setFrames_setFrames] at e1
    have h2 : (T.setVm s.vm).sameButNew ({ U with vm := s.vm } : State) [] (0 + 1) (0 + 6) := ⟨e1, e2⟩
    have h3 := X.same.trans h2
    rw [List.append_nil] at h3
    exact h3.mono hc hs
  refine ⟨U, ?_, .threw T.heap.size, hrun, hend, Or.inr ⟨T.heap.size, rfl, cls, ce, locs, hx U hWs.alike f1 (fun q hq => f2 q hq (fun z hz => nomatch hz)), hce, hO.vm, hcl, hWs, hall, hf⟩⟩
  refine st1 _ ?_
  show Steps p.tables e below (T1.setTop { method := m, pc := pc + 3, locals := ls, stack := .ref T.heap.size :: rest, locked := none }) _
  jvm_step X₁.here [X₁.here.top, hexec, d3', Value.category]
  exact X₁.ldcString hexec (own := own) (text := text) (index := is) (a := sa) hown' hstr'.1 hstr'.2
    (g := { method := m, pc := pc + 4, locals := ls, stack := .ref T.heap.size :: .ref T.heap.size :: rest, locked := none }) rfl d4' _ hsteps
/-- 'throw new E("text")', the text by a wide index -/
theorem vx_throwSW {cc : ByteArray} {pc : Nat} (hexec : p.tables.exec = Jvm.exec) (hb : c.code = cc) (hl : l.stackTraces = false) {own cls text : String} {names : List String} {ik is ic mc ms sa : Nat} {A : Nat → Prop}
    (hown : s.vm.findClass own = some m.cls) (hcls : Bundle.fit cls = true) (hnames : ∀ n ∈ names, Bundle.fit n = true)
    (hk : (Cond.classLink own ik cls).before args s = true) (hini : (Cond.initialized cls).before args s = true) (hstr : vk_R own is text sa s) (hat : ∀ w ∈ vx_atS own ic cls names, w.before args s = true)
    (hgood : ∀ w ∈ Cond.classLink own ik cls :: Cond.initialized cls :: vx_atS own ic cls names, vx_ot w = true)
    (hU : vx_Zq Bundle.tN "UNASSIGNED_STACK" Bundle.steD A s s.heap) (hN : vx_Zq Bundle.tN "SUPPRESSED_SENTINEL" Bundle.listD A s s.heap) (hS : va_S A s.heap H locs) (hsize : ls.size = c.maxLocals)
    (d0 : decode cc pc = .ok (.new ik, 3)) (d3 : decode cc (pc + 3) = .ok (.dup, 1)) (d4 : decode cc (pc + 4) = .ok (.ldc_w is, 3)) (d7 : decode cc (pc + 7) = .ok (.invokespecial ic, 3)) (d10 : decode cc (pc + 10) = .ok (.athrow, 1))
    (hout : ∀ x ∈ c.exceptionTable.toList, covers x (pc + 10) = false)
    (hRframes : names.length + 3 < R.frames) (hRlocals : (rest.map fun v => v.category).sum + (13 * (names.length + 1) + 43) ≤ R.locals) (hRcells : cells + 1 ≤ R.cells) (hRslots : slots + 6 ≤ R.slots) (hlocks : meth.locks = false)
    (hx : ∀ t : State, s.vm.Alike t.vm → H.size ≤ t.heap.size → (∀ q : Nat, q < H.size → t.heap[q]? = H[q]?) → XC cls s t)
    (hf : ∀ z ∈ locs, free z.base) (hc : cells + 1 ≤ mc) (hs : slots + 6 ≤ ms) :
    W p l e R s m args below meth c H locs cells slots (vx_MQ below Qc XC args s mc ms free) (F0 m pc ls rest) := by
  intro T hT X
  have htr : e.platform.stackTraces = false := (show e.platform.stackTraces = l.stackTraces by rw [X.admits.platform]).trans hl
  have Y := vx_rebase X (R' := { frames := R.frames, locals := R.locals, cells := 1, slots := 6 }) (Nat.le_refl _) (Nat.le_refl _) hRcells hRslots
  obtain ⟨s', hA⟩ : ∃ z, z = (T.setVm s.vm).setFrames (.invoking m args :: below) := ⟨_, rfl⟩
  rw [← hA] at Y
  have hvm : s'.vm = s.vm := by rw [hA]; rfl
  have hhp : s'.heap = H := by rw [hA]; exact hT
  have hW0 : s.WarmedH s'.vm := by rw [hvm]; exact State.WarmedH.refl s
  have hat' : ∀ w ∈ vx_atS own ic cls names, w.before args s' = true := fun w hw => vx_ot_at hW0 hvm.symm (hgood w (List.mem_cons_of_mem _ (List.mem_cons_of_mem _ hw))) (hat w hw)
  have hk' : (Cond.classLink own ik cls).before args s' = true := vx_ot_at hW0 hvm.symm (hgood _ List.mem_cons_self) hk
  have hini' : (Cond.initialized cls).before args s' = true := vx_ot_at hW0 hvm.symm (hgood _ (List.mem_cons_of_mem _ List.mem_cons_self)) hini
  have hU' : vx_Zq Bundle.tN "UNASSIGNED_STACK" Bundle.steD A s' s'.heap := by rw [hhp]; exact vx_Zq.moved hW0.alike (hU.kept hS.2.1)
  have hN' : vx_Zq Bundle.tN "SUPPRESSED_SENTINEL" Bundle.listD A s' s'.heap := by rw [hhp]; exact vx_Zq.moved hW0.alike (hN.kept hS.2.1)
  have h : ∀ w ∈ Bundle.ownAtoms own ic cls names, w.before args s' = true := vx_own hat' (vx_isRefq hU'.1) (vx_isRefq hN'.1) hU'.2.word hN'.2.word
  have hown' : s'.vm.findClass own = some m.cls := by rw [hvm]; exact hown
  have hins : (Cond.instantiable cls 6).before args s' = true := h _ (by simp [Bundle.ownAtoms])
  obtain ⟨vm₁, cX, kX, hfX, hkX, -, -, X₁, st1⟩ := Y.newCold hexec (own := own) (C := cls) (index := ik) (n := 6) hown' hk' hins hini'
    (g := F0 m pc ls rest) rfl (by rw [hb]; exact d0) (Nat.le_refl _) (Nat.le_refl _)
  generalize hT1 : (T.setVm vm₁).pushCell { cls := cX, slots := kX.instanceTypes.map defaultValue, vm := .none } = T1 at X₁ st1
  have hcat : (Value.ref T.heap.size).category = 1 := rfl
  have hcellA : T1.heap[T.heap.size]? = some (freshCell cX kX) := by rw [← hT1]; exact State.heap_pushCell_size _ _
  have d3' : decode c.code (pc + 3) = .ok (.dup, 1) := by rw [hb]; exact d3
  have d4' : decode c.code (pc + 4) = .ok (.ldc_w is, 3) := by rw [hb]; exact d4
  have hstr' : vk_R own is text sa s' := vk_R.warm hW0 hstr
  obtain ⟨U, hsteps, hrun, hend, hW, hsame, ce, hce, hO⟩ := X₁.ctorThrowS hexec htr (own := own) (cls := cls) (names := names) (ic := ic) hown' hcls hnames h (fun x hx => nomatch hx) hfX hkX hcellA (by rw [hhp, hT]; exact Nat.le_refl _) (msg := .ref sa) rfl
    (g := { method := m, pc := pc + 7, locals := ls, stack := .ref sa :: .ref T.heap.size :: .ref T.heap.size :: rest, locked := none }) rfl hsize rfl rfl (rest := rest) rfl
    (by rw [hb]; exact d7) (by rw [hb]; exact d10) hout hRframes (by simp only [List.map_cons, List.sum_cons, hcat]; omega) hlocks
  obtain ⟨f1, f2⟩ := vx_frame hsame
  rw [hhp] at f1 f2
  have hWs : s.WarmedH U.vm := State.WarmedH.trans hW0 hW
  have hcl : s.vm.findClass cls = some ce.cls := by
    have h9 := hO.cls
    rw [hvm] at h9
    exact h9
  have hall : s.sameButNew ({ U with vm := s.vm } : State) locs mc ms := by
    subst hA
    obtain ⟨e1, e2⟩ := hsame
    rw [State.setFrames_setFrames] at e1
    have h2 : (T.setVm s.vm).sameButNew ({ U with vm := s.vm } : State) [] (0 + 1) (0 + 6) := ⟨e1, e2⟩
    have h3 := X.same.trans h2
    rw [List.append_nil] at h3
    exact h3.mono hc hs
  refine ⟨U, ?_, .threw T.heap.size, hrun, hend, Or.inr ⟨T.heap.size, rfl, cls, ce, locs, hx U hWs.alike f1 (fun q hq => f2 q hq (fun z hz => nomatch hz)), hce, hO.vm, hcl, hWs, hall, hf⟩⟩
  refine st1 _ ?_
  show Steps p.tables e below (T1.setTop { method := m, pc := pc + 3, locals := ls, stack := .ref T.heap.size :: rest, locked := none }) _
  jvm_step X₁.here [X₁.here.top, hexec, d3', Value.category]
  exact X₁.ldcStringW hexec (own := own) (text := text) (index := is) (a := sa) hown' hstr'.1 hstr'.2
    (g := { method := m, pc := pc + 4, locals := ls, stack := .ref T.heap.size :: .ref T.heap.size :: rest, locked := none }) rfl d4' _ hsteps
end Ends
section Bodies
variable {l : Launch}
theorem vx_ofW {y : MethodName} {ws ws' : List Cond} {rm : Room} {Pc : Array Value → State → Prop} {Qc : Array Value → State → Outcome → State → Prop} {XC : String → State → State → Prop} {mc ms : Nat} {free : Addr → Prop} {cc : ByteArray} {maxL : Nat} {ret : Option FieldType}
    (hy : plainName y.cls = true) (hw : ws = Cond.code y cc maxL ret :: ws')
    (body : ∀ p e s m args below meth c s₁, BodyLoose p l y (headSpec ws rm) cc maxL ret e s m args below meth c s₁ → c.maxLocals = maxL → (∀ x ∈ c.exceptionTable.toList, False) → Pc args s →
      W p l e (headSpec ws rm).room s m args below meth c s.heap [] 0 0 (vx_MQ below Qc XC args s mc ms free) (entryFrame m args maxL)) : vx_Met l y ws rm Pc Qc XC mc ms free := by
  refine MetFree.of_bodyS (code := cc) (maxLocals := maxL) (ret := ret) hy ?_ ?_
  · intro args s m h hn
    obtain ⟨meth, c, h1, h2, h3, h4, h5, h6, -, -⟩ := Cond.code_spec hn (atoms_spec (ws := ws) h _ (by rw [hw]; exact List.mem_cons_self))
    exact ⟨meth, c, h1, h2, h3, h4, h5, h6⟩
  · intro p e s m args below meth c s₁ B hml hP _
    have hh0 : s₁.heap = s.heap := by rw [B.state]; rfl
    have ht : ∀ x ∈ c.exceptionTable.toList, False := by
      obtain ⟨meth9, c9, h1, h2, -, -, -, -, h7, -⟩ := Cond.code_spec B.named (atoms_spec (ws := ws) B.pre _ (by rw [hw]; exact List.mem_cons_self))
      cases Option.some.inj (h1.symm.trans B.method)
      cases Option.some.inj (h2.symm.trans (Stand.of_body B).code)
      intro x hx
      rw [Array.isEmpty_iff.mp h7] at hx
      cases hx
    obtain ⟨t, a1, o, b1, b2, b3⟩ := body p e s m args below meth c s₁ B hml ht hP s₁ hh0 (Stand.of_body B)
    exact ⟨t, o, a1, b1, b2, b3⟩
/-- the table of a body with handlers -/
theorem vx_table {p : Program} {x y : MethodName} {S : Spec} {cc bytes : ByteArray} {maxL maxL' : Nat} {ret ret' : Option FieldType} {e : Env} {s s₁ : State} {m : MethodId} {args : Array Value} {below : List Frame} {meth : Method} {c : Code} {hh : List (Nat × Nat × Nat × Nat)}
    (B : BodyLoose p l y S cc maxL ret e s m args below meth c s₁) (h : (Cond.codeWith y bytes maxL' ret' hh).before args s = true) : c.exceptionTable.toList = tableOf hh := by
  obtain ⟨m9, meth9, c9, hn9, h1, h2, -, -, h6, -⟩ := Cond.codeWith_spec h
  cases Option.some.inj (hn9.symm.trans B.named)
  cases Option.some.inj (h1.symm.trans B.method)
  cases Option.some.inj (h2.symm.trans (Stand.of_body B).code)
  rw [← h6, table_eq]
end Bodies
end VXA
/-! ===== END ===== -/
/-! ===== BEGIN a static call of a method with an exception table ===== -/
section VXS
variable {p : Program} {l : Launch} {e : Env} {R : Room} {s : State} {m : MethodId} {args : Array Value} {below : List Frame} {meth : Method} {c : Code} {T : State} {H : Heap} {locs : List Loc} {cells slots : Nat}
abbrev vx_CSW (R : Room) (s : State) (args : Array Value) (own : String) (index : Nat) (y : MethodName) (bytes : ByteArray) (maxL : Nat) (ret : Option FieldType) (hh : List (Nat × Nat × Nat × Nat)) (ws : List Cond) (rm : Room) (mc ms n : Nat) : Prop :=
  (rm.cells = mc ∧ rm.slots = ms ∧ rm.frames + 1 ≤ R.frames ∧ 8 + (maxL + 11) + rm.locals ≤ R.locals ∧ (∀ w ∈ ws, ∀ (a' : Array Value) (U : State), s.WarmedH U.vm → w.before a' U = true) ∧ Cond.codeWith y bytes maxL ret hh ∈ ws) ∧
  (Cond.codeWith y bytes maxL ret hh).before args s = true ∧ (Cond.initialized y.cls).before args s = true ∧ (y.cls ≠ "java/lang/invoke/MethodHandle" ∧ y.cls ≠ "java/lang/invoke/VarHandle") ∧
  (∀ sig, parseMethodDescriptor y.desc = some sig → n = sig.parameters.length) ∧ (Cond.methodLink own index y).before args s = true ∧ (Cond.static y).before args s = true
theorem vx_cwSW {own : String} {index maxL mc ms : Nat} {y : MethodName} {bytes : ByteArray} {ret : Option FieldType} {hh : List (Nat × Nat × Nat × Nat)} {Ts ws ws' : List Cond} {rm : Room} (n : Nat) (ht : ∀ w ∈ Ts, w.before args s = true) (hT : GoodIn Ts (va_wsS own index y ws)) (hw : ws = Cond.codeWith y bytes maxL ret hh :: ws') (hrc : rm.cells = mc) (hrs : rm.slots = ms)
    (hd : y.cls ≠ "java/lang/invoke/MethodHandle" ∧ y.cls ≠ "java/lang/invoke/VarHandle" ∧ (parseMethodDescriptor y.desc).map (fun d => d.parameters.length) = some n) (hR : rm.frames + 1 ≤ R.frames ∧ 8 + (maxL + 11) + rm.locals ≤ R.locals) :
    vx_CSW R s args own index y bytes maxL ret hh ws rm mc ms n := by
  have ok : ∀ w ∈ va_wsS own index y ws, w.before args s = true := fun w h => ht w (hT w h).1
  have hG : GoodIn Ts ws := fun w h => hT w (by unfold va_wsS; exact List.mem_append_right _ h)
  have hc : Cond.codeWith y bytes maxL ret hh ∈ ws := by rw [hw]; exact List.mem_cons_self
  refine ⟨⟨hrc, hrs, hR.1, hR.2, pay_in ht hG, hc⟩, ht _ (hG _ hc).1, ok _ (by simp [va_wsS]), ⟨hd.1, hd.2.1⟩, fun sig h => ?_, ok _ (by simp [va_wsS]), ok _ (by simp [va_wsS])⟩
  have h2 := hd.2.2
  rw [h] at h2
  exact (Option.some.inj h2).symm
theorem vx_callSW (X : Stand p l e R s m args below meth c T locs cells slots) (hexec : p.tables.exec = Jvm.exec) {own : String} {index : Nat} {y : MethodName} {bytes : ByteArray} {maxL : Nat} {ret : Option FieldType} {hh : List (Nat × Nat × Nat × Nat)}
    (hown : s.vm.findClass own = some m.cls) (hlink : (Cond.methodLink own index y).before args s = true) (hstat : (Cond.static y).before args s = true) (hinit : (Cond.initialized y.cls).before args s = true)
    (hcode : (Cond.codeWith y bytes maxL ret hh).before args s = true) (hy : y.cls ≠ "java/lang/invoke/MethodHandle" ∧ y.cls ≠ "java/lang/invoke/VarHandle")
    {W9 : Nat} {Pre : Pt → Array Value → Prop} {Post : Pt → Array Value → Option Value → Pt → Prop} (hK : Back l R p e below s args y 3 W9 Pre Post)
    {g : JFrame} (hg : g.method = m) (hsize : g.locals.size = c.maxLocals) {argsL rest : List Value} (hlen : ∀ sig, parseMethodDescriptor y.desc = some sig → argsL.length = sig.parameters.length)
    (hstack : g.stack = argsL.reverse ++ rest) (hW : 2 * g.monitorRoom + (rest.map fun v => v.category).sum ≤ W9) (hdg : decode c.code g.pc = .ok (.invokestatic index, 3))
    (hpre : ∀ vm₁, s.WarmedH vm₁ → Pre ⟨T.setVm vm₁, locs, cells, slots⟩ argsL.toArray) :
    ∃ (v : Option Value) (vm₁ : Vm) (B : Pt), s.WarmedH vm₁ ∧ Stand p l e R s m args below meth c B.U B.locs B.cells B.slots ∧ Post ⟨T.setVm vm₁, locs, cells, slots⟩ argsL.toArray v B ∧
      ∀ target, Steps p.tables e below (B.U.setTop { g with pc := g.pc + 3, stack := v.toList ++ rest }) target → Steps p.tables e below (T.setTop g) target := by
  obtain ⟨mk, methM, cM, hnamed, hmethM, -, -, -, -, -, -, hsigM⟩ := Cond.codeWith_spec hcode
  have hstatic : methM.isStatic = true := Cond.static_spec hnamed hmethM hstat
  obtain ⟨kP, hkP, -⟩ := className_of_methodNamed hnamed
  have hinitP : kP.init = .initialized := Cond.initialized_spec (findClass_of_methodNamed hnamed) hkP hinit
  obtain ⟨vm₁, X₁, hstep₁⟩ := X.invokestatic hexec hown hlink hnamed hmethM hstatic hkP hinitP hy (g := g) hg (argsL := argsL) (rest := rest) (hlen _ hsigM) hstack hdg
  obtain ⟨v, B, X', hpost, hsteps⟩ := hK m meth c ⟨T.setVm vm₁, locs, cells, slots⟩ { g with stack := rest } (.invokestatic index) mk argsL.toArray X₁ hg hsize hdg hW (X₁.named hnamed) (hpre vm₁ X₁.warmed)
  exact ⟨v, vm₁, B, X₁.warmed, X', hpost, fun target h => hstep₁ _ fun acts => by rw [doInvoke_state]; exact hsteps.trans h⟩
theorem vx_runSW {y : MethodName} {bytes cc : ByteArray} {maxL nL mc ms n index : Nat} {ret : Option FieldType} {hh : List (Nat × Nat × Nat × Nat)} {ws : List Cond} {rm : Room} {Pc : Array Value → State → Prop} {Qc : Array Value → State → Outcome → State → Prop} {free : Addr → Prop} {Ts : List Cond} {own : String} {As rest : List Value} {g : JFrame}
    (S : CallFix p m c cc nL s args Ts own) (hM : Met l y ws rm Pc Qc mc ms free) (cw : vx_CSW R s args own index y bytes maxL ret hh ws rm mc ms n) (hp : PreS s H Pc As)
    (hg : g.method = m) (hn : As.length = n) (hsize : g.locals.size = nL) (hstack : g.stack = As.reverse ++ rest) (hW : 2 * g.monitorRoom + (rest.map fun v => v.category).sum ≤ 8) (hdg : decode cc g.pc = .ok (.invokestatic index, 3)) (hf : cells + mc ≤ R.cells ∧ slots + ms ≤ R.slots) :
    va_Run p l e R s m args below meth c H locs cells slots mc ms g rest (Qc As.toArray) (free) := by
  obtain ⟨⟨hrc, hrs, hfr, hlo, hws, hcw⟩, hcode, hini, hy, hlen, hl, hstt⟩ := cw
  have hK : Back l R p e below s args y 3 8 (PreOf R mc ms Pc) (PostOf Qc mc ms free) := va_backW (hh := hh) (bytes := bytes) (maxL := maxL) (ret := ret) hM hp.1 hrc hrs hfr hlo hws hcw (fun a' U hW => word_at hW (Or.inl (by first | rfl | simp [Cond.onTables, Cond.keeps, Cond.steady])) hini)
  obtain ⟨hx, hb, hml, ho, -⟩ := S
  intro T hT X
  obtain ⟨v, vm₁, ⟨U', l2, c2, s2⟩, hW₁, X', ⟨g', mk, t, L, e1, e2, hq, h1, hL, h2, h3⟩, st⟩ := vx_callSW X hx (hh := hh) (bytes := bytes) (maxL := maxL) (ret := ret) ho hl hstt hini hcode hy hK hg (hsize.trans hml.symm) (argsL := As) (rest := rest) (fun sig h => hn.trans (hlen sig h)) hstack hW (by rw [hb]; exact hdg)
    (fun vm₁ hW₁ => ⟨hf.1, hf.2, hp.2 (T.setVm vm₁) hT hW₁⟩)
  dsimp only [Pt.U, Pt.locs, Pt.cells, Pt.slots] at X' e1 e2 h1 h2 h3 st
  subst h1; subst h2; subst h3
  exact ⟨v, (T.setVm vm₁).calling g' mk As.toArray, t, U', L, hT, X', hL, e1, e2, hq, st⟩
/-- not caught here, past rows that name other classes: it goes on to the caller -/
theorem vx_outP {p : Program} {l : Launch} {e : Env} {R : Room} {s : State} {m : MethodId} {args : Array Value} {below : List Frame} {meth : Method} {c : Code} {H : Heap} {locs : List Loc} {cells slots : Nat} {free : Addr → Prop} {ls : Array Slot} {rest : List Value} {Qc : Array Value → State → Outcome → State → Prop} {XC : String → State → State → Prop}
    {pc : Nat} {own E : String} {ce : Cell} {q : Addr} {mc ms : Nat} (hown : s.vm.findClass own = some m.cls) (hlocks : meth.locks = false)
    (hpass : ∀ z ∈ c.exceptionTable.toList, covers z pc = false ∨ (z.catchType ≠ 0 ∧ ∃ nm : String, (Cond.classLink own z.catchType nm).before args s = true ∧ va_Nc E nm s)) (hcell : H[q]? = some ce) (hv : ce.vm = .none) (hcl : s.vm.findClass E = some ce.cls)
    (hx : ∀ t : State, t.heap = H → s.vm.Alike t.vm → XC E s t) (hf : ∀ z ∈ locs, free z.base) (hc : cells ≤ mc) (hs : slots ≤ ms) :
    vx_W p l e R s m args below meth c H locs cells slots (vx_MQ below Qc XC args s mc ms free) (F0 m pc ls rest) q := by
  intro T hT X
  have hpl : e.platform.magicAccessors = ({} : Platform).magicAccessors := by rw [X.admits.platform]
  obtain ⟨vm', hW', X', st⟩ := X.outThrough hlocks q (g := F0 m pc ls rest) rfl rfl rfl (cell := ce) (by rw [hT]; exact hcell) (by rw [hv]; rfl)
    (by obtain ⟨k9, h9, -⟩ := Vm.findClass_spec hcl; exact ⟨k9, h9⟩) (fun z hz => by
      rcases hpass z hz with h | ⟨hz0, nm, hl1, hn1⟩
      · exact Or.inl h
      · obtain ⟨c6, hc6, hcl6⟩ := Cond.classLink_spec hown hl1 e.platform hpl
        obtain ⟨a8, b8, h1, h2, h3⟩ := hn1
        cases Option.some.inj (h1.symm.trans hcl)
        cases Option.some.inj (h2.symm.trans hc6)
        exact Or.inr ⟨hz0, _, hcl6, h3⟩)
  obtain ⟨g₀, hfr⟩ := X'.frames_eq
  have hcell9 : ((T.setVm vm').setFrames (.throwing q :: below)).heap[q]? = some ce := by
    show T.heap[q]? = some ce
    rw [hT]; exact hcell
  have hend : Ended ((T.setVm vm').setFrames (.throwing q :: below)) below (.threw q) := State.frames_setFrames _ (State.cur_lt_of_frames hfr)
  refine ⟨(T.setVm vm').setFrames (.throwing q :: below), ?_, .threw q, X'.here.running, hend, Or.inr ⟨q, rfl, E, ce, locs, hx _ hT (X'.ends _).1.alike, hcell9, hv, hcl, (X'.ends _).1, (X'.ends _).2.mono hc hs, hf⟩⟩
  rw [X.pushThrowing_eq]
  exact st
/-- a thing of a world lies in the heap -/
theorem vx_lt {D : va_G} {cl : List vw_C} {ws : va_W} {H1 : Heap} (h : va_P D cl ws H1) {k : Nat} {q : Nat × va_E} (hk : ws[k]? = some q) : q.1 < H1.size := (h k q hk).lt
end VXS
/-! ===== END ===== -/
/-! ===== BEGIN methods with a table of their own: called by a name, returning or throwing ===== -/
section VXH
/-! vx_backW, vx_callVX, vx_callSX, vx_callVW, vx_runVW, vx_runVX, vx_runSX, vx_ofWH follow the same proofs as their sisters above (Free/Laws.lean, Shelf42/LK1.lean); vx_outP calls Shelf42/NT130.lean (outThrough). -/
section
variable {l : Launch} {R : Room} {p : Program} {e : Env} {below : List Frame} {s : State} {sargs : Array Value} {y : MethodName} {len W9 : Nat}
theorem vx_backW {ws : List Cond} {rm : Room} {Pc : Array Value → State → Prop} {Qc : Array Value → State → Outcome → State → Prop} {XC : String → State → State → Prop} {mc ms : Nat} {free : Addr → Prop} {bytes : ByteArray} {maxL : Nat} {ret : Option FieldType} {hh : List (Nat × Nat × Nat × Nat)}
    (hM : vx_Met l y ws rm Pc Qc XC mc ms free) (hblind : FrameBlind Pc) (hrc : rm.cells = mc) (hrs : rm.slots = ms)
    (hframes : rm.frames + 1 ≤ R.frames) (hlocals : W9 + (maxL + 11) + rm.locals ≤ R.locals)
    (hws : ∀ w ∈ ws, ∀ a' U, s.WarmedH U.vm → w.before a' U = true) (hcode : Cond.codeWith y bytes maxL ret hh ∈ ws) (hinit : ∀ a' U, s.WarmedH U.vm → (Cond.initialized y.cls).before a' U = true) :
    vx_Back l R p e below s sargs y len W9 (PreOf R mc ms Pc) (PostOf Qc mc ms free) (vx_Post XC mc ms free) := by
  intro m meth c A g ig mk a X hg hsize hdg hW hn hp
  have h1 : (headSpec ws rm).pre.before a A.U = true := atoms_intro fun w hw => hws w hw _ _ X.warmed
  have h2 : (Cond.codeWith y bytes maxL ret hh).before a A.U = true := hws _ hcode _ _ X.warmed
  have h3 : (Cond.initialized y.cls).before a A.U = true := hinit _ _ X.warmed
  have h4 : A.cells + (headSpec ws rm).room.cells ≤ R.cells := by rw [show (headSpec ws rm).room.cells = mc from hrc]; exact hp.1
  have h5 : A.slots + (headSpec ws rm).room.slots ≤ R.slots := by rw [show (headSpec ws rm).room.slots = ms from hrs]; exact hp.2.1
  have hPc : Pc a (A.U.calling g mk a) := hblind _ _ _ _ hp.2.2
  obtain ⟨U, Ls, c0, s0⟩ := A
  dsimp only [Pt.U, Pt.locs, Pt.cells, Pt.slots] at h1 h2 h3 h4 h5 X hn hPc ⊢
  obtain ⟨m9, methY, cY, hn9, hmY, hcY, -, hlY, -⟩ := Cond.codeWith_spec h2
  cases Option.some.inj (hn9.symm.trans hn)
  obtain ⟨kY, hkY, -⟩ := className_of_methodNamed hn
  have hinitY : kY.init = .initialized := Cond.initialized_spec (findClass_of_methodNamed hn) hkY h3
  have h : At U g.method c below := by rw [hg]; exact X.here
  have hlocals9 : W9 + (maxL + 11) + (headSpec ws rm).room.locals ≤ R.locals := hlocals
  have happ : (headSpec ws rm).appliesLoose y e.platform (U.calling g mk a) = true :=
    Spec.appliesLoose_calling (g := g) h hdg hn hkY hinitY
      (X.room_calling (g := g) (R' := (headSpec ws rm).room) hsize hmY hcY hframes (by rw [hlY]; omega) h4 h5) h1
  obtain ⟨mid, hmid⟩ := h.above
  have hfr : (U.setTop g).frames = (.java g :: mid) ++ below := by rw [State.frames_setTop' g h.top, hmid]; rfl
  obtain ⟨o, s₂, hsteps, -, hend, hq⟩ := Steps.callFree hM p X.admits X.cas X.clock (acts := []) hfr happ hPc trivial
  have hq' : vx_Q Qc XC mc ms free a (U.calling g mk a) o s₂ := hq
  rw [State.frames_setTop' g h.top] at hend
  obtain ⟨g₀, hg0⟩ := Option.isSome_iff_exists.mp h.top
  obtain ⟨r, hr⟩ := State.topJava?_eq_some.mp hg0
  have hr' : (({ U with heap := s₂.heap, slotsUsed := s₂.slotsUsed } : State).setVm s₂.vm).frames = .java g₀ :: r := hr
  rcases hq' with ⟨hqc, L, hfe, hL⟩ | ⟨q, rfl, E, ce, L, hx, hce, hcv, hcl, hW₂, hsm, hL⟩
  · obtain ⟨⟨v, rfl⟩, hW₂, e2, q2, q3, q4, q5, q6⟩ := id hfe
    have e3 : s₂ = ({ (U.calling g mk a).setFrames s₂.frames with heap := s₂.heap, slotsUsed := s₂.slotsUsed } : State).setVm s₂.vm := by
      have : s₂ = ({ s₂ with vm := (U.calling g mk a).vm } : State).setVm s₂.vm := rfl
      rw [e2] at this
      exact this
    obtain ⟨c₂, i₂, len₂, hc₂, hd₂, hf₂⟩ := hend
    have hW' : U.WarmedH s₂.vm := hW₂
    have hcc : c₂ = c := by
      have h1 : s₂.code? g.method = U.code? g.method := by
        rw [State.code?_eq, State.code?_eq, hW'.alike.method?]
      exact Option.some.inj (hc₂.symm.trans (h1.trans h.code))
    subst hcc
    have hlen : len₂ = len := by rw [hdg] at hd₂; cases hd₂; rfl
    subst hlen
    have hs₂ : s₂ = (({ U with heap := s₂.heap, slotsUsed := s₂.slotsUsed } : State).setVm s₂.vm).setTop { g with pc := g.pc + len₂, stack := v.toList ++ g.stack } := by
      refine e3.trans ?_
      rw [hf₂, State.calling_eq h.top, State.setFrames_setFrames, State.setTop_of_frames _ hr', hr]
      rfl
    have hsame : U.sameButNew ({ U with heap := s₂.heap, slotsUsed := s₂.slotsUsed } : State) L mc ms := by
      refine ⟨?_, q2, q3, q4, q5, q6⟩
      obtain ⟨t, ht, -⟩ := State.frames_cons hr
      show ({ U with heap := s₂.heap, slotsUsed := s₂.slotsUsed } : State) = { U.setFrames U.frames with heap := s₂.heap, slotsUsed := s₂.slotsUsed }
      rw [State.setFrames_self ht]
    subst hg
    refine Or.inl ⟨v, ⟨(({ U with heap := s₂.heap, slotsUsed := s₂.slotsUsed } : State).setVm s₂.vm), Ls ++ L, c0 + mc, s0 + ms⟩,
      ⟨X.admits, X.cas, X.clock, X.frames, X.room, X.hears, X.method, X.code, (X.here.setHeapUsed s₂.heap s₂.slotsUsed).setVm hW'.alike, X.tail, State.WarmedH.trans X.warmed hW', X.limits, X.bytes, X.same.trans (hsame.setVm s.vm)⟩,
      ⟨g, mk, s₂, L, rfl, rfl, hqc, rfl, hL, rfl, rfl⟩, ?_⟩
    show Steps p.tables e below _ ((({ U with heap := s₂.heap, slotsUsed := s₂.slotsUsed } : State).setVm s₂.vm).setTop { g with pc := g.pc + len₂, stack := v.toList ++ g.stack })
    rw [← hs₂]
    exact hsteps
  · obtain ⟨e2, q2, q3, q4, q5, q6⟩ := id hsm
    have e3 : s₂ = ({ (U.calling g mk a).setFrames s₂.frames with heap := s₂.heap, slotsUsed := s₂.slotsUsed } : State).setVm s₂.vm := by
      have : s₂ = ({ s₂ with vm := (U.calling g mk a).vm } : State).setVm s₂.vm := rfl
      rw [e2] at this
      exact this
    have hf₂ : s₂.frames = .throwing q :: .java g :: U.frames.tail := hend
    have hW' : U.WarmedH s₂.vm := hW₂
    have hs₂ : s₂ = ((({ U with heap := s₂.heap, slotsUsed := s₂.slotsUsed } : State).setVm s₂.vm).setTop g).pushFrame (.throwing q) := by
      refine e3.trans ?_
      rw [hf₂, State.calling_eq h.top, State.setFrames_setFrames, State.pushFrame, State.frames_setTop _ hr', State.setTop_of_frames _ hr', State.setFrames_setFrames, hr]
      rfl
    have hsame : U.sameButNew ({ U with heap := s₂.heap, slotsUsed := s₂.slotsUsed } : State) L mc ms := by
      refine ⟨?_, q2, q3, q4, q5, q6⟩
      obtain ⟨t, ht, -⟩ := State.frames_cons hr
      show ({ U with heap := s₂.heap, slotsUsed := s₂.slotsUsed } : State) = { U.setFrames U.frames with heap := s₂.heap, slotsUsed := s₂.slotsUsed }
      rw [State.setFrames_self ht]
    subst hg
    refine Or.inr ⟨q, ⟨(({ U with heap := s₂.heap, slotsUsed := s₂.slotsUsed } : State).setVm s₂.vm), Ls ++ L, c0 + mc, s0 + ms⟩,
      ⟨X.admits, X.cas, X.clock, X.frames, X.room, X.hears, X.method, X.code, (X.here.setHeapUsed s₂.heap s₂.slotsUsed).setVm hW'.alike, X.tail, State.WarmedH.trans X.warmed hW', X.limits, X.bytes, X.same.trans (hsame.setVm s.vm)⟩,
      ⟨g, mk, s₂, L, E, ce, rfl, rfl, hx, hce, hcv, hcl, rfl, hL, rfl, rfl⟩, ?_⟩
    show Steps p.tables e below _ (((({ U with heap := s₂.heap, slotsUsed := s₂.slotsUsed } : State).setVm s₂.vm).setTop g).pushFrame (.throwing q))
    rw [← hs₂]
    exact hsteps
end
variable {p : Program} {l : Launch} {e : Env} {R : Room} {s : State} {m : MethodId} {args : Array Value} {below : List Frame} {meth : Method} {c : Code} {T : State} {H : Heap} {locs : List Loc} {cells slots : Nat}
theorem vx_callVX (X : Stand p l e R s m args below meth c T locs cells slots) (hexec : p.tables.exec = Jvm.exec) {own C : String} {index : Nat} {y : MethodName} {bytes : ByteArray} {maxL : Nat} {ret : Option FieldType} {hh : List (Nat × Nat × Nat × Nat)}
    (hown : s.vm.findClass own = some m.cls) (hlink : (Cond.methodLink own index y).before args s = true) (hinst : (Cond.instanceMethod y).before args s = true) (hsel : (Cond.selects C y y).before args s = true)
    (hcode : (Cond.codeWith y bytes maxL ret hh).before args s = true) (hy : y.cls ≠ "java/lang/invoke/MethodHandle" ∧ y.cls ≠ "java/lang/invoke/VarHandle")
    {W9 : Nat} {Pre : Pt → Array Value → Prop} {Post : Pt → Array Value → Option Value → Pt → Prop} {PostX : Pt → Array Value → Addr → Pt → Prop} (hK : vx_Back l R p e below s args y 3 W9 Pre Post PostX)
    {b : Addr} {cellB : Cell} (hcell : T.heap[b]? = some cellB) (hobj : cellB.vm.isStatics = false) (hcls : s.vm.findClass C = some cellB.cls)
    {g : JFrame} (hg : g.method = m) (hsize : g.locals.size = c.maxLocals) {argsL rest : List Value} (hlen : ∀ sig, parseMethodDescriptor y.desc = some sig → argsL.length = sig.parameters.length)
    (hstack : g.stack = argsL.reverse ++ .ref b :: rest) (hW : 2 * g.monitorRoom + (rest.map fun v => v.category).sum ≤ W9) (hdg : decode c.code g.pc = .ok (.invokevirtual index, 3))
    (hpre : ∀ vm₁, s.WarmedH vm₁ → Pre ⟨T.setVm vm₁, locs, cells, slots⟩ (Value.ref b :: argsL).toArray) :
    (∃ (v : Option Value) (vm₁ : Vm) (B : Pt), s.WarmedH vm₁ ∧ Stand p l e R s m args below meth c B.U B.locs B.cells B.slots ∧ Post ⟨T.setVm vm₁, locs, cells, slots⟩ (Value.ref b :: argsL).toArray v B ∧
      ∀ target, Steps p.tables e below (B.U.setTop { g with pc := g.pc + 3, stack := v.toList ++ rest }) target → Steps p.tables e below (T.setTop g) target) ∨
    (∃ (q : Addr) (vm₁ : Vm) (B : Pt), s.WarmedH vm₁ ∧ Stand p l e R s m args below meth c B.U B.locs B.cells B.slots ∧ PostX ⟨T.setVm vm₁, locs, cells, slots⟩ (Value.ref b :: argsL).toArray q B ∧
      Steps p.tables e below (T.setTop g) ((B.U.setTop { g with stack := rest }).pushFrame (.throwing q))) := by
  obtain ⟨mk, methM, hnamed, hmethM, hstM, habM⟩ := Cond.instanceMethod_spec hinst
  obtain ⟨m8, methM', cM, hn8, hmethM', -, -, -, -, -, -, hsigM⟩ := Cond.codeWith_spec hcode
  cases Option.some.inj (hn8.symm.trans hnamed)
  cases hmethM.symm.trans hmethM'
  obtain ⟨c2, r2, m2, q1, q2, q3, q4, kP, hkP, hkPi⟩ := Cond.selects_spec hsel
  cases hcls.symm.trans q1
  cases (State.methodFound?_of_named hnamed hy).symm.trans q2
  cases hnamed.symm.trans q3
  have hselP : selectMethod e.platform s.vm cellB.cls mk = .method mk := by rw [Launch.admits_selectMethod X.admits]; exact q4
  obtain ⟨vm₁, X₁, hstep₁⟩ := X.invokevirtual hexec hown hlink hnamed hmethM hstM hkP hkPi hy (a := b) (cell := cellB) hcell
    (fun z h => by rw [h] at hobj; cases hobj) hselP hmethM habM hkP hkPi (g := g) hg (argsL := argsL) (rest := rest) (hlen _ hsigM) hstack hdg
  rcases hK m meth c ⟨T.setVm vm₁, locs, cells, slots⟩ { g with stack := rest } (.invokevirtual index) mk (Value.ref b :: argsL).toArray X₁ hg hsize hdg hW (X₁.named hnamed) (hpre vm₁ X₁.warmed) with ⟨v, B, X', hpost, hsteps⟩ | ⟨q, B, X', hpost, hsteps⟩
  · exact Or.inl ⟨v, vm₁, B, X₁.warmed, X', hpost, fun target h => hstep₁ _ fun acts => by rw [doInvoke_state]; exact hsteps.trans h⟩
  · exact Or.inr ⟨q, vm₁, B, X₁.warmed, X', hpost, hstep₁ _ fun acts => by rw [doInvoke_state]; exact hsteps⟩
theorem vx_callSX (X : Stand p l e R s m args below meth c T locs cells slots) (hexec : p.tables.exec = Jvm.exec) {own : String} {index : Nat} {y : MethodName} {bytes : ByteArray} {maxL : Nat} {ret : Option FieldType} {hh : List (Nat × Nat × Nat × Nat)}
    (hown : s.vm.findClass own = some m.cls) (hlink : (Cond.methodLink own index y).before args s = true) (hstat : (Cond.static y).before args s = true) (hinit : (Cond.initialized y.cls).before args s = true)
    (hcode : (Cond.codeWith y bytes maxL ret hh).before args s = true) (hy : y.cls ≠ "java/lang/invoke/MethodHandle" ∧ y.cls ≠ "java/lang/invoke/VarHandle")
    {W9 : Nat} {Pre : Pt → Array Value → Prop} {Post : Pt → Array Value → Option Value → Pt → Prop} {PostX : Pt → Array Value → Addr → Pt → Prop} (hK : vx_Back l R p e below s args y 3 W9 Pre Post PostX)
    {g : JFrame} (hg : g.method = m) (hsize : g.locals.size = c.maxLocals) {argsL rest : List Value} (hlen : ∀ sig, parseMethodDescriptor y.desc = some sig → argsL.length = sig.parameters.length)
    (hstack : g.stack = argsL.reverse ++ rest) (hW : 2 * g.monitorRoom + (rest.map fun v => v.category).sum ≤ W9) (hdg : decode c.code g.pc = .ok (.invokestatic index, 3))
    (hpre : ∀ vm₁, s.WarmedH vm₁ → Pre ⟨T.setVm vm₁, locs, cells, slots⟩ argsL.toArray) :
    (∃ (v : Option Value) (vm₁ : Vm) (B : Pt), s.WarmedH vm₁ ∧ Stand p l e R s m args below meth c B.U B.locs B.cells B.slots ∧ Post ⟨T.setVm vm₁, locs, cells, slots⟩ argsL.toArray v B ∧
      ∀ target, Steps p.tables e below (B.U.setTop { g with pc := g.pc + 3, stack := v.toList ++ rest }) target → Steps p.tables e below (T.setTop g) target) ∨
    (∃ (q : Addr) (vm₁ : Vm) (B : Pt), s.WarmedH vm₁ ∧ Stand p l e R s m args below meth c B.U B.locs B.cells B.slots ∧ PostX ⟨T.setVm vm₁, locs, cells, slots⟩ argsL.toArray q B ∧
      Steps p.tables e below (T.setTop g) ((B.U.setTop { g with stack := rest }).pushFrame (.throwing q))) := by
  obtain ⟨mk, methM, cM, hnamed, hmethM, -, -, -, -, -, -, hsigM⟩ := Cond.codeWith_spec hcode
  have hstatic : methM.isStatic = true := Cond.static_spec hnamed hmethM hstat
  obtain ⟨kP, hkP, -⟩ := className_of_methodNamed hnamed
  have hinitP : kP.init = .initialized := Cond.initialized_spec (findClass_of_methodNamed hnamed) hkP hinit
  obtain ⟨vm₁, X₁, hstep₁⟩ := X.invokestatic hexec hown hlink hnamed hmethM hstatic hkP hinitP hy (g := g) hg (argsL := argsL) (rest := rest) (hlen _ hsigM) hstack hdg
  rcases hK m meth c ⟨T.setVm vm₁, locs, cells, slots⟩ { g with stack := rest } (.invokestatic index) mk argsL.toArray X₁ hg hsize hdg hW (X₁.named hnamed) (hpre vm₁ X₁.warmed) with ⟨v, B, X', hpost, hsteps⟩ | ⟨q, B, X', hpost, hsteps⟩
  · exact Or.inl ⟨v, vm₁, B, X₁.warmed, X', hpost, fun target h => hstep₁ _ fun acts => by rw [doInvoke_state]; exact hsteps.trans h⟩
  · exact Or.inr ⟨q, vm₁, B, X₁.warmed, X', hpost, hstep₁ _ fun acts => by rw [doInvoke_state]; exact hsteps⟩
theorem vx_callVW (X : Stand p l e R s m args below meth c T locs cells slots) (hexec : p.tables.exec = Jvm.exec) {own C : String} {index : Nat} {y : MethodName} {bytes : ByteArray} {maxL : Nat} {ret : Option FieldType} {hh : List (Nat × Nat × Nat × Nat)}
    (hown : s.vm.findClass own = some m.cls) (hlink : (Cond.methodLink own index y).before args s = true) (hinst : (Cond.instanceMethod y).before args s = true) (hsel : (Cond.selects C y y).before args s = true)
    (hcode : (Cond.codeWith y bytes maxL ret hh).before args s = true) (hy : y.cls ≠ "java/lang/invoke/MethodHandle" ∧ y.cls ≠ "java/lang/invoke/VarHandle")
    {W9 : Nat} {Pre : Pt → Array Value → Prop} {Post : Pt → Array Value → Option Value → Pt → Prop} (hK : Back l R p e below s args y 3 W9 Pre Post)
    {b : Addr} {cellB : Cell} (hcell : T.heap[b]? = some cellB) (hobj : cellB.vm.isStatics = false) (hcls : s.vm.findClass C = some cellB.cls)
    {g : JFrame} (hg : g.method = m) (hsize : g.locals.size = c.maxLocals) {argsL rest : List Value} (hlen : ∀ sig, parseMethodDescriptor y.desc = some sig → argsL.length = sig.parameters.length)
    (hstack : g.stack = argsL.reverse ++ .ref b :: rest) (hW : 2 * g.monitorRoom + (rest.map fun v => v.category).sum ≤ W9) (hdg : decode c.code g.pc = .ok (.invokevirtual index, 3))
    (hpre : ∀ vm₁, s.WarmedH vm₁ → Pre ⟨T.setVm vm₁, locs, cells, slots⟩ (Value.ref b :: argsL).toArray) :
    ∃ (v : Option Value) (vm₁ : Vm) (B : Pt), s.WarmedH vm₁ ∧ Stand p l e R s m args below meth c B.U B.locs B.cells B.slots ∧ Post ⟨T.setVm vm₁, locs, cells, slots⟩ (Value.ref b :: argsL).toArray v B ∧
      ∀ target, Steps p.tables e below (B.U.setTop { g with pc := g.pc + 3, stack := v.toList ++ rest }) target → Steps p.tables e below (T.setTop g) target := by
  obtain ⟨mk, methM, hnamed, hmethM, hstM, habM⟩ := Cond.instanceMethod_spec hinst
  obtain ⟨m8, methM', cM, hn8, hmethM', -, -, -, -, -, -, hsigM⟩ := Cond.codeWith_spec hcode
  cases Option.some.inj (hn8.symm.trans hnamed)
  cases hmethM.symm.trans hmethM'
  obtain ⟨c2, r2, m2, q1, q2, q3, q4, kP, hkP, hkPi⟩ := Cond.selects_spec hsel
  cases hcls.symm.trans q1
  cases (State.methodFound?_of_named hnamed hy).symm.trans q2
  cases hnamed.symm.trans q3
  have hselP : selectMethod e.platform s.vm cellB.cls mk = .method mk := by rw [Launch.admits_selectMethod X.admits]; exact q4
  obtain ⟨vm₁, X₁, hstep₁⟩ := X.invokevirtual hexec hown hlink hnamed hmethM hstM hkP hkPi hy (a := b) (cell := cellB) hcell
    (fun z h => by rw [h] at hobj; cases hobj) hselP hmethM habM hkP hkPi (g := g) hg (argsL := argsL) (rest := rest) (hlen _ hsigM) hstack hdg
  obtain ⟨v, B, X', hpost, hsteps⟩ := hK m meth c ⟨T.setVm vm₁, locs, cells, slots⟩ { g with stack := rest } (.invokevirtual index) mk (Value.ref b :: argsL).toArray X₁ hg hsize hdg hW (X₁.named hnamed) (hpre vm₁ X₁.warmed)
  exact ⟨v, vm₁, B, X₁.warmed, X', hpost, fun target h => hstep₁ _ fun acts => by rw [doInvoke_state]; exact hsteps.trans h⟩
abbrev vx_CVW (R : Room) (s : State) (args : Array Value) (own C : String) (index : Nat) (y : MethodName) (bytes : ByteArray) (maxL : Nat) (ret : Option FieldType) (hh : List (Nat × Nat × Nat × Nat)) (ws : List Cond) (rm : Room) (mc ms n : Nat) : Prop :=
  (rm.cells = mc ∧ rm.slots = ms ∧ rm.frames + 1 ≤ R.frames ∧ 8 + (maxL + 11) + rm.locals ≤ R.locals ∧ (∀ w ∈ ws, ∀ (a' : Array Value) (U : State), s.WarmedH U.vm → w.before a' U = true) ∧ Cond.codeWith y bytes maxL ret hh ∈ ws) ∧
  (Cond.codeWith y bytes maxL ret hh).before args s = true ∧ (Cond.initialized y.cls).before args s = true ∧ (y.cls ≠ "java/lang/invoke/MethodHandle" ∧ y.cls ≠ "java/lang/invoke/VarHandle") ∧
  (∀ sig, parseMethodDescriptor y.desc = some sig → n = sig.parameters.length) ∧ (Cond.methodLink own index y).before args s = true ∧ (Cond.instanceMethod y).before args s = true ∧ (Cond.selects C y y).before args s = true
theorem vx_cwVW {own C : String} {index maxL mc ms : Nat} {y : MethodName} {bytes : ByteArray} {ret : Option FieldType} {hh : List (Nat × Nat × Nat × Nat)} {Ts ws ws' : List Cond} {rm : Room} (n : Nat) (ht : ∀ w ∈ Ts, w.before args s = true) (hT : GoodIn Ts (wsV own index C y ws)) (hw : ws = Cond.codeWith y bytes maxL ret hh :: ws') (hrc : rm.cells = mc) (hrs : rm.slots = ms)
    (hd : y.cls = C ∧ y.cls ≠ "java/lang/invoke/MethodHandle" ∧ y.cls ≠ "java/lang/invoke/VarHandle" ∧ (parseMethodDescriptor y.desc).map (fun d => d.parameters.length) = some n) (hR : rm.frames + 1 ≤ R.frames ∧ 8 + (maxL + 11) + rm.locals ≤ R.locals) :
    vx_CVW R s args own C index y bytes maxL ret hh ws rm mc ms n := by
  obtain ⟨hC, hd⟩ := hd
  subst hC
  have ok : ∀ w ∈ wsV own index y.cls y ws, w.before args s = true := fun w h => ht w (hT w h).1
  have hG : GoodIn Ts ws := fun w h => hT w (by unfold wsV; exact List.mem_append_right _ h)
  have hc : Cond.codeWith y bytes maxL ret hh ∈ ws := by rw [hw]; exact List.mem_cons_self
  refine ⟨⟨hrc, hrs, hR.1, hR.2, pay_in ht hG, hc⟩, ht _ (hG _ hc).1, ok _ (by simp [wsV]), ⟨hd.1, hd.2.1⟩, fun sig h => ?_, ok _ (by simp [wsV]), ok _ (by simp [wsV]), ok _ (by simp [wsV])⟩
  have h2 := hd.2.2
  rw [h] at h2
  exact (Option.some.inj h2).symm
theorem vx_runVW {y : MethodName} {bytes cc : ByteArray} {maxL nL mc ms n index : Nat} {ret : Option FieldType} {hh : List (Nat × Nat × Nat × Nat)} {ws : List Cond} {rm : Room} {Pc : Array Value → State → Prop} {Qc : Array Value → State → Outcome → State → Prop} {free : Addr → Prop} {Ts : List Cond} {own C : String} {b : Addr} {As rest : List Value} {g : JFrame}
    (S : CallFix p m c cc nL s args Ts own) (hM : Met l y ws rm Pc Qc mc ms free) (cw : vx_CVW R s args own C index y bytes maxL ret hh ws rm mc ms n) (hp : PreV s H C b Pc As)
    (hg : g.method = m) (hn : As.length = n) (hsize : g.locals.size = nL) (hstack : g.stack = As.reverse ++ .ref b :: rest) (hW : 2 * g.monitorRoom + (rest.map fun v => v.category).sum ≤ 8) (hdg : decode cc g.pc = .ok (.invokevirtual index, 3)) (hf : cells + mc ≤ R.cells ∧ slots + ms ≤ R.slots) :
    va_Run p l e R s m args below meth c H locs cells slots mc ms g rest (Qc (Value.ref b :: As).toArray) free := by
  obtain ⟨⟨hrc, hrs, hfr, hlo, hws, hcw⟩, hcode, hini, hy, hlen, hl, hin, hse⟩ := cw
  have hK : Back l R p e below s args y 3 8 (PreOf R mc ms Pc) (PostOf Qc mc ms free) := va_backW (hh := hh) (bytes := bytes) (maxL := maxL) (ret := ret) hM hp.1 hrc hrs hfr hlo hws hcw (fun a' U hW => word_at hW (Or.inl (by first | rfl | simp [Cond.onTables, Cond.keeps, Cond.steady])) hini)
  obtain ⟨hx, hb, hml, ho, -⟩ := S
  obtain ⟨-, ⟨cellB, hcB, hoB, hclB⟩, hPc⟩ := hp
  intro T hT X
  obtain ⟨v, vm₁, ⟨U', l2, c2, s2⟩, hW₁, X', ⟨g', mk, t, L, e1, e2, hq, h1, hL, h2, h3⟩, st⟩ := vx_callVW X hx (C := C) (hh := hh) (bytes := bytes) (maxL := maxL) (ret := ret) ho hl hin hse hcode hy hK (by rw [hT]; exact hcB) hoB hclB hg (hsize.trans hml.symm) (argsL := As) (rest := rest) (fun sig h => hn.trans (hlen sig h)) hstack hW (by rw [hb]; exact hdg)
    (fun vm₁ hW₁ => ⟨hf.1, hf.2, hPc (T.setVm vm₁) hT hW₁⟩)
  dsimp only [Pt.U, Pt.locs, Pt.cells, Pt.slots] at X' e1 e2 h1 h2 h3 st
  subst h1; subst h2; subst h3
  exact ⟨v, (T.setVm vm₁).calling g' mk (Value.ref b :: As).toArray, t, U', L, hT, X', hL, e1, e2, hq, st⟩
section
variable {y : MethodName} {bytes cc : ByteArray} {maxL nL mc ms n index : Nat} {ret : Option FieldType} {ws : List Cond} {rm : Room} {Pc : Array Value → State → Prop} {Qc : Array Value → State → Outcome → State → Prop} {XC : String → State → State → Prop} {free : Addr → Prop} {Ts : List Cond} {own C : String} {b : Addr} {As rest : List Value} {g : JFrame}
theorem vx_runVX {hh : List (Nat × Nat × Nat × Nat)} (S : CallFix p m c cc nL s args Ts own) (hM : vx_Met l y ws rm Pc Qc XC mc ms free) (cw : vx_CVW R s args own C index y bytes maxL ret hh ws rm mc ms n) (hp : PreV s H C b Pc As)
    (hg : g.method = m) (hn : As.length = n) (hsize : g.locals.size = nL) (hstack : g.stack = As.reverse ++ .ref b :: rest) (hW : 2 * g.monitorRoom + (rest.map fun v => v.category).sum ≤ 8) (hdg : decode cc g.pc = .ok (.invokevirtual index, 3)) (hf : cells + mc ≤ R.cells ∧ slots + ms ≤ R.slots) :
    vx_Run p l e R s m args below meth c H locs cells slots mc ms g rest (Qc (Value.ref b :: As).toArray) XC free := by
  obtain ⟨⟨hrc, hrs, hfr, hlo, hws, hcw⟩, hcode, hini, hy, hlen, hl, hin, hse⟩ := cw
  have hK : vx_Back l R p e below s args y 3 8 (PreOf R mc ms Pc) (PostOf Qc mc ms free) (vx_Post XC mc ms free) := vx_backW (hh := hh) (bytes := bytes) (maxL := maxL) (ret := ret) hM hp.1 hrc hrs hfr hlo hws hcw (fun a' U hW => word_at hW (Or.inl (by first | rfl | simp [Cond.onTables, Cond.keeps, Cond.steady])) hini)
  obtain ⟨hx, hb, hml, ho, -⟩ := S
  obtain ⟨-, ⟨cellB, hcB, hoB, hclB⟩, hPc⟩ := hp
  intro T hT X
  rcases vx_callVX X hx (C := C) (hh := hh) (bytes := bytes) (maxL := maxL) (ret := ret) ho hl hin hse hcode hy hK (by rw [hT]; exact hcB) hoB hclB hg (hsize.trans hml.symm) (argsL := As) (rest := rest) (fun sig h => hn.trans (hlen sig h)) hstack hW (by rw [hb]; exact hdg)
    (fun vm₁ hW₁ => ⟨hf.1, hf.2, hPc (T.setVm vm₁) hT hW₁⟩) with ⟨v, vm₁, ⟨U', l2, c2, s2⟩, hW₁, X', ⟨g', mk, t, L, e1, e2, hq, h1, hL, h2, h3⟩, st⟩ | ⟨q, vm₁, ⟨U', l2, c2, s2⟩, hW₁, X', ⟨g', mk, t, L, E, ce, e1, e2, hq, hce, hcv, hcl, h1, hL, h2, h3⟩, st⟩
  · dsimp only [Pt.U, Pt.locs, Pt.cells, Pt.slots] at X' e1 e2 h1 h2 h3 st
    subst h1; subst h2; subst h3
    exact Or.inl ⟨v, (T.setVm vm₁).calling g' mk (Value.ref b :: As).toArray, t, U', L, hT, X', hL, e1, e2, hq, st⟩
  · dsimp only [Pt.U, Pt.locs, Pt.cells, Pt.slots] at X' e1 e2 h1 h2 h3 st hcl
    subst h1; subst h2; subst h3
    exact Or.inr ⟨q, (T.setVm vm₁).calling g' mk (Value.ref b :: As).toArray, t, U', L, E, ce, hT, X', hL, e1, e2, hq, hce, hcv, vx_cls hW₁ hcl, st⟩
theorem vx_runSX {hh : List (Nat × Nat × Nat × Nat)} (S : CallFix p m c cc nL s args Ts own) (hM : vx_Met l y ws rm Pc Qc XC mc ms free) (cw : vx_CSW R s args own index y bytes maxL ret hh ws rm mc ms n) (hp : PreS s H Pc As)
    (hg : g.method = m) (hn : As.length = n) (hsize : g.locals.size = nL) (hstack : g.stack = As.reverse ++ rest) (hW : 2 * g.monitorRoom + (rest.map fun v => v.category).sum ≤ 8) (hdg : decode cc g.pc = .ok (.invokestatic index, 3)) (hf : cells + mc ≤ R.cells ∧ slots + ms ≤ R.slots) :
    vx_Run p l e R s m args below meth c H locs cells slots mc ms g rest (Qc As.toArray) XC free := by
  obtain ⟨⟨hrc, hrs, hfr, hlo, hws, hcw⟩, hcode, hini, hy, hlen, hl, hstt⟩ := cw
  have hK : vx_Back l R p e below s args y 3 8 (PreOf R mc ms Pc) (PostOf Qc mc ms free) (vx_Post XC mc ms free) := vx_backW (hh := hh) (bytes := bytes) (maxL := maxL) (ret := ret) hM hp.1 hrc hrs hfr hlo hws hcw (fun a' U hW => word_at hW (Or.inl (by first | rfl | simp [Cond.onTables, Cond.keeps, Cond.steady])) hini)
  obtain ⟨hx, hb, hml, ho, -⟩ := S
  intro T hT X
  rcases vx_callSX X hx (hh := hh) (bytes := bytes) (maxL := maxL) (ret := ret) ho hl hstt hini hcode hy hK hg (hsize.trans hml.symm) (argsL := As) (rest := rest) (fun sig h => hn.trans (hlen sig h)) hstack hW (by rw [hb]; exact hdg)
    (fun vm₁ hW₁ => ⟨hf.1, hf.2, hp.2 (T.setVm vm₁) hT hW₁⟩) with ⟨v, vm₁, ⟨U', l2, c2, s2⟩, hW₁, X', ⟨g', mk, t, L, e1, e2, hq, h1, hL, h2, h3⟩, st⟩ | ⟨q, vm₁, ⟨U', l2, c2, s2⟩, hW₁, X', ⟨g', mk, t, L, E, ce, e1, e2, hq, hce, hcv, hcl, h1, hL, h2, h3⟩, st⟩
  · dsimp only [Pt.U, Pt.locs, Pt.cells, Pt.slots] at X' e1 e2 h1 h2 h3 st
    subst h1; subst h2; subst h3
    exact Or.inl ⟨v, (T.setVm vm₁).calling g' mk As.toArray, t, U', L, hT, X', hL, e1, e2, hq, st⟩
  · dsimp only [Pt.U, Pt.locs, Pt.cells, Pt.slots] at X' e1 e2 h1 h2 h3 st hcl
    subst h1; subst h2; subst h3
    exact Or.inr ⟨q, (T.setVm vm₁).calling g' mk As.toArray, t, U', L, E, ce, hT, X', hL, e1, e2, hq, hce, hcv, vx_cls hW₁ hcl, st⟩
end
end VXH
theorem vx_ofWH {l : Launch} {y : MethodName} {ws ws' : List Cond} {rm : Room} {Pc : Array Value → State → Prop} {Qc : Array Value → State → Outcome → State → Prop} {XC : String → State → State → Prop} {mc ms : Nat} {free : Addr → Prop} {cc : ByteArray} {maxL : Nat} {ret : Option FieldType} {hh : List (Nat × Nat × Nat × Nat)}
    (hy : plainName y.cls = true) (hw : ws = Cond.codeWith y cc maxL ret hh :: ws')
    (body : ∀ p e s m args below meth c s₁, BodyLoose p l y (headSpec ws rm) cc maxL ret e s m args below meth c s₁ → c.maxLocals = maxL → Pc args s →
      W p l e (headSpec ws rm).room s m args below meth c s.heap [] 0 0 (vx_MQ below Qc XC args s mc ms free) (entryFrame m args maxL)) : vx_Met l y ws rm Pc Qc XC mc ms free := by
  refine MetFree.of_bodyS (code := cc) (maxLocals := maxL) (ret := ret) hy ?_ ?_
  · intro args s m h hn
    obtain ⟨m9, meth, c, hn9, h1, h2, h3, h4, -, h5, h6, -⟩ := Cond.codeWith_spec (atoms_spec (ws := ws) h _ (by rw [hw]; exact List.mem_cons_self))
    cases hn.symm.trans hn9
    exact ⟨meth, c, h1, h2, h3, h4, h5, h6⟩
  · intro p e s m args below meth c s₁ B hml hP _
    have hh0 : s₁.heap = s.heap := by rw [B.state]; rfl
    obtain ⟨t, a1, o, b1, b2, b3⟩ := body p e s m args below meth c s₁ B hml hP s₁ hh0 (Stand.of_body B)
    exact ⟨t, o, a1, b1, b2, b3⟩
/-! ===== END ===== -/
end
section
def RX0 : String := "RoomForecast$Cleanings"
def TX0 : u_T := fun k => match k with
  | 0 => ("RoomForecast$Cleanings", "sizes", "[I", true)
  | 1 => ("RoomForecast$Cleanings", "count", "I", false)
  | _ => ("RoomForecast$Cleanings", "freedInAll", "I", false)
def tyX0 : Nat → FieldType := fun k => match k with
  | 0 => .array .int
  | 1 => .int
  | _ => .int
abbrev wsX00 : List Cond := u_ws RX0 TX0 3
theorem nmX0 : ∀ a, a < 3 → ∀ b, b < 3 → a ≠ b → (TX0 a).2.1 ≠ (TX0 b).2.1 := by decide +kernel
theorem tyX0_ok : ∀ k, k < 3 → parseFieldDescriptor (TX0 k).2.2.1 = some (tyX0 k) := by decide +kernel
abbrev cX0_init : ByteArray := prog_2_method_1_code
def yX0_init : MethodName := ⟨RX0, "<init>", "()V"⟩
abbrev cX0_number : ByteArray := prog_2_method_2_code
def yX0_number : MethodName := ⟨RX0, "number", "()I"⟩
abbrev cX0_freedInAll : ByteArray := prog_2_method_3_code
def yX0_freedInAll : MethodName := ⟨RX0, "freedInAll", "()I"⟩
abbrev cX0_put : ByteArray := prog_2_method_4_code
def yX0_put : MethodName := ⟨RX0, "put", "(I)V"⟩
abbrev cX0_usualSize : ByteArray := prog_2_method_5_code
def yX0_usualSize : MethodName := ⟨RX0, "usualSize", "()I"⟩
def RX1 : String := "RoomForecast$Line"
def TX1 : u_T := fun k => match k with
  | 0 => ("RoomForecast$Line", "startDay", "I", false)
  | 1 => ("RoomForecast$Line", "startUsed", "I", false)
  | 2 => ("RoomForecast$Line", "rise", "I", false)
  | _ => ("RoomForecast$Line", "run", "I", false)
def tyX1 : Nat → FieldType := fun k => match k with
  | 0 => .int
  | 1 => .int
  | 2 => .int
  | _ => .int
abbrev wsX10 : List Cond := u_ws RX1 TX1 4
theorem nmX1 : ∀ a, a < 4 → ∀ b, b < 4 → a ≠ b → (TX1 a).2.1 ≠ (TX1 b).2.1 := by decide +kernel
theorem tyX1_ok : ∀ k, k < 4 → parseFieldDescriptor (TX1 k).2.2.1 = some (tyX1 k) := by decide +kernel
abbrev cX1_init : ByteArray := prog_3_method_1_code
def yX1_init : MethodName := ⟨RX1, "<init>", "()V"⟩
abbrev cX1_start : ByteArray := prog_3_method_2_code
def yX1_start : MethodName := ⟨RX1, "start", "(II)V"⟩
abbrev cX1_climb : ByteArray := prog_3_method_3_code
def yX1_climb : MethodName := ⟨RX1, "climb", "(II)V"⟩
abbrev cX1_heightOn : ByteArray := prog_3_method_4_code
def yX1_heightOn : MethodName := ⟨RX1, "heightOn", "(I)J"⟩
abbrev cX1_leastDaysToClimb : ByteArray := prog_3_method_5_code
def yX1_leastDaysToClimb : MethodName := ⟨RX1, "leastDaysToClimb", "(I)I"⟩
abbrev cX1_riseInLowestTerms : ByteArray := prog_3_method_6_code
def yX1_riseInLowestTerms : MethodName := ⟨RX1, "riseInLowestTerms", "()I"⟩
abbrev cX1_runInLowestTerms : ByteArray := prog_3_method_7_code
def yX1_runInLowestTerms : MethodName := ⟨RX1, "runInLowestTerms", "()I"⟩
abbrev cX1_commonDivisor : ByteArray := prog_3_method_8_code
def yX1_commonDivisor : MethodName := ⟨RX1, "commonDivisor", "()I"⟩
def RX2 : String := "RoomForecast$PairSlopes"
def TX2 : u_T := fun k => match k with
  | 0 => ("RoomForecast$PairSlopes", "rises", "[I", true)
  | 1 => ("RoomForecast$PairSlopes", "runs", "[I", true)
  | 2 => ("RoomForecast$PairSlopes", "earlier", "[I", true)
  | 3 => ("RoomForecast$PairSlopes", "later", "[I", true)
  | 4 => ("RoomForecast$PairSlopes", "count", "I", false)
  | _ => ("RoomForecast$PairSlopes", "sampleCount", "I", false)
def tyX2 : Nat → FieldType := fun k => match k with
  | 0 => .array .int
  | 1 => .array .int
  | 2 => .array .int
  | 3 => .array .int
  | 4 => .int
  | _ => .int
abbrev wsX20 : List Cond := u_ws RX2 TX2 6
theorem nmX2 : ∀ a, a < 6 → ∀ b, b < 6 → a ≠ b → (TX2 a).2.1 ≠ (TX2 b).2.1 := by decide +kernel
theorem tyX2_ok : ∀ k, k < 6 → parseFieldDescriptor (TX2 k).2.2.1 = some (tyX2 k) := by decide +kernel
abbrev cX2_init : ByteArray := prog_4_method_1_code
def yX2_init : MethodName := ⟨RX2, "<init>", "()V"⟩
abbrev cX2_orderAll : ByteArray := prog_4_method_2_code
def yX2_orderAll : MethodName := ⟨RX2, "orderAll", "(LRoomForecast$Samples;)V"⟩
abbrev cX2_putInOrder : ByteArray := prog_4_method_3_code
def yX2_putInOrder : MethodName := ⟨RX2, "putInOrder", "(LRoomForecast$Samples;II)V"⟩
abbrev cX2_isGreater : ByteArray := prog_4_method_4_code
def yX2_isGreater : MethodName := ⟨RX2, "isGreater", "(III)Z"⟩
abbrev cX2_middlePlaceWithout : ByteArray := prog_4_method_5_code
def yX2_middlePlaceWithout : MethodName := ⟨RX2, "middlePlaceWithout", "(I)I"⟩
abbrev cX2_numberWithout : ByteArray := prog_4_method_6_code
def yX2_numberWithout : MethodName := ⟨RX2, "numberWithout", "(I)I"⟩
abbrev cX2_isWithout : ByteArray := prog_4_method_7_code
def yX2_isWithout : MethodName := ⟨RX2, "isWithout", "(II)Z"⟩
abbrev cX2_riseAt : ByteArray := prog_4_method_8_code
def yX2_riseAt : MethodName := ⟨RX2, "riseAt", "(I)I"⟩
abbrev cX2_runAt : ByteArray := prog_4_method_9_code
def yX2_runAt : MethodName := ⟨RX2, "runAt", "(I)I"⟩
abbrev cX2_has : ByteArray := prog_4_method_10_code
def yX2_has : MethodName := ⟨RX2, "has", "(I)Z"⟩
def RX3 : String := "RoomForecast$Rule"
def TX3 : u_T := fun k => match k with
  | 0 => ("RoomForecast$Rule", "from", "I", false)
  | _ => ("RoomForecast$Rule", "every", "I", false)
def tyX3 : Nat → FieldType := fun k => match k with
  | 0 => .int
  | _ => .int
abbrev wsX30 : List Cond := u_ws RX3 TX3 2
theorem nmX3 : ∀ a, a < 2 → ∀ b, b < 2 → a ≠ b → (TX3 a).2.1 ≠ (TX3 b).2.1 := by decide +kernel
theorem tyX3_ok : ∀ k, k < 2 → parseFieldDescriptor (TX3 k).2.2.1 = some (tyX3 k) := by decide +kernel
abbrev cX3_init : ByteArray := prog_5_method_1_code
def yX3_init : MethodName := ⟨RX3, "<init>", "()V"⟩
abbrev cX3_change : ByteArray := prog_5_method_2_code
def yX3_change : MethodName := ⟨RX3, "change", "(II)V"⟩
abbrev cX3_daysWithin : ByteArray := prog_5_method_3_code
def yX3_daysWithin : MethodName := ⟨RX3, "daysWithin", "(II)I"⟩
abbrev cX3_daysUntil : ByteArray := prog_5_method_4_code
def yX3_daysUntil : MethodName := ⟨RX3, "daysUntil", "(I)I"⟩
def RX4 : String := "RoomForecast$Samples"
def TX4 : u_T := fun k => match k with
  | 0 => ("RoomForecast$Samples", "days", "[I", true)
  | 1 => ("RoomForecast$Samples", "used", "[I", true)
  | 2 => ("RoomForecast$Samples", "filled", "[I", true)
  | _ => ("RoomForecast$Samples", "count", "I", false)
def tyX4 : Nat → FieldType := fun k => match k with
  | 0 => .array .int
  | 1 => .array .int
  | 2 => .array .int
  | _ => .int
abbrev wsX40 : List Cond := u_ws RX4 TX4 4
theorem nmX4 : ∀ a, a < 4 → ∀ b, b < 4 → a ≠ b → (TX4 a).2.1 ≠ (TX4 b).2.1 := by decide +kernel
theorem tyX4_ok : ∀ k, k < 4 → parseFieldDescriptor (TX4 k).2.2.1 = some (tyX4 k) := by decide +kernel
abbrev cX4_init : ByteArray := prog_6_method_1_code
def yX4_init : MethodName := ⟨RX4, "<init>", "()V"⟩
abbrev cX4_number : ByteArray := prog_6_method_2_code
def yX4_number : MethodName := ⟨RX4, "number", "()I"⟩
abbrev cX4_put : ByteArray := prog_6_method_3_code
def yX4_put : MethodName := ⟨RX4, "put", "(III)V"⟩
abbrev cX4_addFreedOn : ByteArray := prog_6_method_4_code
def yX4_addFreedOn : MethodName := ⟨RX4, "addFreedOn", "(II)V"⟩
abbrev cX4_dayAt : ByteArray := prog_6_method_5_code
def yX4_dayAt : MethodName := ⟨RX4, "dayAt", "(I)I"⟩
abbrev cX4_usedAt : ByteArray := prog_6_method_6_code
def yX4_usedAt : MethodName := ⟨RX4, "usedAt", "(I)I"⟩
abbrev cX4_filledAt : ByteArray := prog_6_method_7_code
def yX4_filledAt : MethodName := ⟨RX4, "filledAt", "(I)I"⟩
abbrev cX4_lastPlaceWithout : ByteArray := prog_6_method_8_code
def yX4_lastPlaceWithout : MethodName := ⟨RX4, "lastPlaceWithout", "(I)I"⟩
abbrev cX4_has : ByteArray := prog_6_method_9_code
def yX4_has : MethodName := ⟨RX4, "has", "(I)Z"⟩
abbrev cX4_lastIsOf : ByteArray := prog_6_method_10_code
def yX4_lastIsOf : MethodName := ⟨RX4, "lastIsOf", "(I)Z"⟩
abbrev cX4_openLastPlace : ByteArray := prog_6_method_11_code
def yX4_openLastPlace : MethodName := ⟨RX4, "openLastPlace", "()V"⟩
def RX5 : String := "RoomForecast$Store"
def TX5 : u_T := fun k => match k with
  | 0 => ("RoomForecast$Store", "samples", "LRoomForecast$Samples;", true)
  | 1 => ("RoomForecast$Store", "slopes", "LRoomForecast$PairSlopes;", true)
  | 2 => ("RoomForecast$Store", "cleanings", "LRoomForecast$Cleanings;", true)
  | 3 => ("RoomForecast$Store", "rule", "LRoomForecast$Rule;", true)
  | 4 => ("RoomForecast$Store", "line", "LRoomForecast$Line;", true)
  | 5 => ("RoomForecast$Store", "warning", "LRoomForecast$Warning;", true)
  | _ => ("RoomForecast$Store", "size", "I", false)
def tyX5 : Nat → FieldType := fun k => match k with
  | 0 => .object "RoomForecast$Samples"
  | 1 => .object "RoomForecast$PairSlopes"
  | 2 => .object "RoomForecast$Cleanings"
  | 3 => .object "RoomForecast$Rule"
  | 4 => .object "RoomForecast$Line"
  | 5 => .object "RoomForecast$Warning"
  | _ => .int
abbrev wsX50 : List Cond := u_ws RX5 TX5 7
theorem nmX5 : ∀ a, a < 7 → ∀ b, b < 7 → a ≠ b → (TX5 a).2.1 ≠ (TX5 b).2.1 := by decide +kernel
theorem tyX5_ok : ∀ k, k < 7 → parseFieldDescriptor (TX5 k).2.2.1 = some (tyX5 k) := by decide +kernel
abbrev cX5_init : ByteArray := prog_7_method_1_code
def yX5_init : MethodName := ⟨RX5, "<init>", "(I)V"⟩
abbrev cX5_tellUsed : ByteArray := prog_7_method_2_code
def yX5_tellUsed : MethodName := ⟨RX5, "tellUsed", "(II)V"⟩
abbrev cX5_tellFreed : ByteArray := prog_7_method_3_code
def yX5_tellFreed : MethodName := ⟨RX5, "tellFreed", "(II)V"⟩
abbrev cX5_hasSlope : ByteArray := prog_7_method_4_code
def yX5_hasSlope : MethodName := ⟨RX5, "hasSlope", "()Z"⟩
abbrev cX5_drawLineWithout : ByteArray := prog_7_method_5_code
def yX5_drawLineWithout : MethodName := ⟨RX5, "drawLineWithout", "(I)V"⟩
abbrev cX5_roomOn : ByteArray := prog_7_method_6_code
def yX5_roomOn : MethodName := ⟨RX5, "roomOn", "(I)I"⟩
abbrev cX5_fullDay : ByteArray := prog_7_method_7_code
def yX5_fullDay : MethodName := ⟨RX5, "fullDay", "()I"⟩
abbrev cX5_fullDayWithout : ByteArray := prog_7_method_8_code
def yX5_fullDayWithout : MethodName := ⟨RX5, "fullDayWithout", "(I)I"⟩
abbrev cX5_earlyBound : ByteArray := prog_7_method_9_code
def yX5_earlyBound : MethodName := ⟨RX5, "earlyBound", "()I"⟩
abbrev cX5_lateBound : ByteArray := prog_7_method_10_code
def yX5_lateBound : MethodName := ⟨RX5, "lateBound", "()I"⟩
abbrev cX5_lookOnDaysAfter : ByteArray := prog_7_method_11_code
def yX5_lookOnDaysAfter : MethodName := ⟨RX5, "lookOnDaysAfter", "(II)I"⟩
def RX6 : String := "RoomForecast$Warning"
def TX6 : u_T := fun k => match k with
  | 0 => ("RoomForecast$Warning", "on", "Z", false)
  | _ => ("RoomForecast$Warning", "wasNear", "Z", false)
def tyX6 : Nat → FieldType := fun k => match k with
  | 0 => .boolean
  | _ => .boolean
abbrev wsX60 : List Cond := u_ws RX6 TX6 2
theorem nmX6 : ∀ a, a < 2 → ∀ b, b < 2 → a ≠ b → (TX6 a).2.1 ≠ (TX6 b).2.1 := by decide +kernel
theorem tyX6_ok : ∀ k, k < 2 → parseFieldDescriptor (TX6 k).2.2.1 = some (tyX6 k) := by decide +kernel
abbrev cX6_init : ByteArray := prog_8_method_1_code
def yX6_init : MethodName := ⟨RX6, "<init>", "()V"⟩
abbrev cX6_lookChanges : ByteArray := prog_8_method_2_code
def yX6_lookChanges : MethodName := ⟨RX6, "lookChanges", "(II)Z"⟩
def RX7 : String := "RoomForecast"
def TX7 : u_T := fun k => match k with
  | 0 => ("RoomForecast", "stores", "Ljava/util/ArrayList;", true)
  | _ => ("RoomForecast", "currentDay", "I", false)
def tyX7 : Nat → FieldType := fun k => match k with
  | 0 => .object "java/util/ArrayList"
  | _ => .int
abbrev wsX70 : List Cond := u_ws RX7 TX7 2
theorem nmX7 : ∀ a, a < 2 → ∀ b, b < 2 → a ≠ b → (TX7 a).2.1 ≠ (TX7 b).2.1 := by decide +kernel
theorem tyX7_ok : ∀ k, k < 2 → parseFieldDescriptor (TX7 k).2.2.1 = some (tyX7 k) := by decide +kernel
abbrev cX7_init : ByteArray := prog_1_method_1_code
def yX7_init : MethodName := ⟨RX7, "<init>", "()V"⟩
abbrev cX7_addStore : ByteArray := prog_1_method_2_code
def yX7_addStore : MethodName := ⟨RX7, "addStore", "(I)I"⟩
abbrev cX7_setSize : ByteArray := prog_1_method_3_code
def yX7_setSize : MethodName := ⟨RX7, "setSize", "(II)I"⟩
abbrev cX7_sample : ByteArray := prog_1_method_4_code
def yX7_sample : MethodName := ⟨RX7, "sample", "(II)I"⟩
abbrev cX7_clean : ByteArray := prog_1_method_5_code
def yX7_clean : MethodName := ⟨RX7, "clean", "(II)I"⟩
abbrev cX7_setRule : ByteArray := prog_1_method_6_code
def yX7_setRule : MethodName := ⟨RX7, "setRule", "(III)V"⟩
abbrev cX7_pass : ByteArray := prog_1_method_7_code
def yX7_pass : MethodName := ⟨RX7, "pass", "(I)I"⟩
abbrev cX7_today : ByteArray := prog_1_method_8_code
def yX7_today : MethodName := ⟨RX7, "today", "()I"⟩
abbrev cX7_samples : ByteArray := prog_1_method_9_code
def yX7_samples : MethodName := ⟨RX7, "samples", "(I)I"⟩
abbrev cX7_slopeNumerator : ByteArray := prog_1_method_10_code
def yX7_slopeNumerator : MethodName := ⟨RX7, "slopeNumerator", "(I)I"⟩
abbrev cX7_slopeDenominator : ByteArray := prog_1_method_11_code
def yX7_slopeDenominator : MethodName := ⟨RX7, "slopeDenominator", "(I)I"⟩
abbrev cX7_usual : ByteArray := prog_1_method_12_code
def yX7_usual : MethodName := ⟨RX7, "usual", "(I)I"⟩
abbrev cX7_forecast : ByteArray := prog_1_method_13_code
def yX7_forecast : MethodName := ⟨RX7, "forecast", "(II)I"⟩
abbrev cX7_full : ByteArray := prog_1_method_14_code
def yX7_full : MethodName := ⟨RX7, "full", "(I)I"⟩
abbrev cX7_early : ByteArray := prog_1_method_15_code
def yX7_early : MethodName := ⟨RX7, "early", "(I)I"⟩
abbrev cX7_late : ByteArray := prog_1_method_16_code
def yX7_late : MethodName := ⟨RX7, "late", "(I)I"⟩
abbrev cX7_warns : ByteArray := prog_1_method_17_code
def yX7_warns : MethodName := ⟨RX7, "warns", "(I)Z"⟩
abbrev cX7_poolFull : ByteArray := prog_1_method_18_code
def yX7_poolFull : MethodName := ⟨RX7, "poolFull", "(I)I"⟩
abbrev cX7_demandRange : ByteArray := prog_1_method_19_code
def yX7_demandRange : MethodName := ⟨RX7, "demandRange", "(III)V"⟩
abbrev cX7_storeAt : ByteArray := prog_1_method_20_code
def yX7_storeAt : MethodName := ⟨RX7, "storeAt", "(I)LRoomForecast$Store;"⟩
abbrev cX7_slopeOf : ByteArray := prog_1_method_21_code
def yX7_slopeOf : MethodName := ⟨RX7, "slopeOf", "(I)LRoomForecast$Line;"⟩
abbrev cX7_dayOrNone : ByteArray := prog_1_method_22_code
def yX7_dayOrNone : MethodName := ⟨RX7, "dayOrNone", "(I)I"⟩
abbrev cX7_middlePlace : ByteArray := prog_1_method_23_code
def yX7_middlePlace : MethodName := ⟨RX7, "middlePlace", "(I)I"⟩
abbrev cX7_isInPool : ByteArray := prog_1_method_24_code
def yX7_isInPool : MethodName := ⟨RX7, "isInPool", "(II)Z"⟩
abbrev cX7_drawPool : ByteArray := prog_1_method_25_code
def yX7_drawPool : MethodName := ⟨RX7, "drawPool", "(I)Z"⟩
abbrev cX7_poolSize : ByteArray := prog_1_method_26_code
def yX7_poolSize : MethodName := ⟨RX7, "poolSize", "(I)J"⟩
abbrev cX7_poolRoomOn : ByteArray := prog_1_method_27_code
def yX7_poolRoomOn : MethodName := ⟨RX7, "poolRoomOn", "(II)J"⟩
def RX8 : String := "RoomForecastModel"
def TX8 : u_T := fun k => match k with
  | 0 => ("RoomForecastModel", "today", "I", false)
  | 1 => ("RoomForecastModel", "stores", "I", false)
  | 2 => ("RoomForecastModel", "sizes", "[I", true)
  | 3 => ("RoomForecastModel", "counts", "[I", true)
  | 4 => ("RoomForecastModel", "days", "[I", true)
  | 5 => ("RoomForecastModel", "used", "[I", true)
  | 6 => ("RoomForecastModel", "cleaned", "[I", true)
  | 7 => ("RoomForecastModel", "cleanDays", "[I", true)
  | 8 => ("RoomForecastModel", "freed", "[I", true)
  | 9 => ("RoomForecastModel", "froms", "[I", true)
  | 10 => ("RoomForecastModel", "every", "[I", true)
  | 11 => ("RoomForecastModel", "warns", "[Z", true)
  | 12 => ("RoomForecastModel", "wasNear", "[Z", true)
  | 13 => ("RoomForecastModel", "isFound", "[Z", true)
  | 14 => ("RoomForecastModel", "earliest", "[I", true)
  | 15 => ("RoomForecastModel", "latest", "[I", true)
  | 16 => ("RoomForecastModel", "filled", "[I", true)
  | 17 => ("RoomForecastModel", "numerators", "[I", true)
  | 18 => ("RoomForecastModel", "denominators", "[I", true)
  | 19 => ("RoomForecastModel", "slopes", "I", false)
  | 20 => ("RoomForecastModel", "slopeNs", "[I", true)
  | 21 => ("RoomForecastModel", "slopeDs", "[I", true)
  | 22 => ("RoomForecastModel", "lastDays", "[I", true)
  | 23 => ("RoomForecastModel", "lastUseds", "[I", true)
  | 24 => ("RoomForecastModel", "usuals", "[I", true)
  | 25 => ("RoomForecastModel", "slopeN", "I", false)
  | 26 => ("RoomForecastModel", "slopeD", "I", false)
  | 27 => ("RoomForecastModel", "lastDay", "I", false)
  | 28 => ("RoomForecastModel", "lastUsed", "I", false)
  | _ => ("RoomForecastModel", "thrown", "I", false)
def tyX8 : Nat → FieldType := fun k => match k with
  | 0 => .int
  | 1 => .int
  | 2 => .array .int
  | 3 => .array .int
  | 4 => .array .int
  | 5 => .array .int
  | 6 => .array .int
  | 7 => .array .int
  | 8 => .array .int
  | 9 => .array .int
  | 10 => .array .int
  | 11 => .array .boolean
  | 12 => .array .boolean
  | 13 => .array .boolean
  | 14 => .array .int
  | 15 => .array .int
  | 16 => .array .int
  | 17 => .array .int
  | 18 => .array .int
  | 19 => .int
  | 20 => .array .int
  | 21 => .array .int
  | 22 => .array .int
  | 23 => .array .int
  | 24 => .array .int
  | 25 => .int
  | 26 => .int
  | 27 => .int
  | 28 => .int
  | _ => .int
abbrev wsX80 : List Cond := u_ws RX8 TX8 30
theorem nmX8 : ∀ a, a < 30 → ∀ b, b < 30 → a ≠ b → (TX8 a).2.1 ≠ (TX8 b).2.1 := by decide +kernel
theorem tyX8_ok : ∀ k, k < 30 → parseFieldDescriptor (TX8 k).2.2.1 = some (tyX8 k) := by decide +kernel
abbrev cX8_init : ByteArray := prog_10_method_1_code
def yX8_init : MethodName := ⟨RX8, "<init>", "()V"⟩
abbrev cX8_thrown : ByteArray := prog_10_method_2_code
def yX8_thrown : MethodName := ⟨RX8, "thrown", "()I"⟩
abbrev cX8_goes : ByteArray := prog_10_method_3_code
def yX8_goes : MethodName := ⟨RX8, "goes", "(I)Z"⟩
abbrev cX8_isIn : ByteArray := prog_10_method_4_code
def yX8_isIn : MethodName := ⟨RX8, "isIn", "(III)Z"⟩
abbrev cX8_isStore : ByteArray := prog_10_method_5_code
def yX8_isStore : MethodName := ⟨RX8, "isStore", "(I)Z"⟩
abbrev cX8_addStore : ByteArray := prog_10_method_6_code
def yX8_addStore : MethodName := ⟨RX8, "addStore", "(I)I"⟩
abbrev cX8_setSize : ByteArray := prog_10_method_7_code
def yX8_setSize : MethodName := ⟨RX8, "setSize", "(II)I"⟩
abbrev cX8_sample : ByteArray := prog_10_method_8_code
def yX8_sample : MethodName := ⟨RX8, "sample", "(II)I"⟩
abbrev cX8_clean : ByteArray := prog_10_method_9_code
def yX8_clean : MethodName := ⟨RX8, "clean", "(II)I"⟩
abbrev cX8_setRule : ByteArray := prog_10_method_10_code
def yX8_setRule : MethodName := ⟨RX8, "setRule", "(III)V"⟩
abbrev cX8_middle : ByteArray := prog_10_method_11_code
def yX8_middle : MethodName := ⟨RX8, "middle", "(I)I"⟩
abbrev cX8_fill : ByteArray := prog_10_method_12_code
def yX8_fill : MethodName := ⟨RX8, "fill", "(II)I"⟩
abbrev cX8_compare : ByteArray := prog_10_method_13_code
def yX8_compare : MethodName := ⟨RX8, "compare", "(II)I"⟩
abbrev cX8_divisor : ByteArray := prog_10_method_14_code
def yX8_divisor : MethodName := ⟨RX8, "divisor", "(II)I"⟩
abbrev cX8_laysSlopes : ByteArray := prog_10_method_15_code
def yX8_laysSlopes : MethodName := ⟨RX8, "laysSlopes", "(II)Z"⟩
abbrev cX8_findsSlope : ByteArray := prog_10_method_16_code
def yX8_findsSlope : MethodName := ⟨RX8, "findsSlope", "(II)Z"⟩
abbrev cX8_usualOf : ByteArray := prog_10_method_17_code
def yX8_usualOf : MethodName := ⟨RX8, "usualOf", "(I)I"⟩
abbrev cX8_ruled : ByteArray := prog_10_method_18_code
def yX8_ruled : MethodName := ⟨RX8, "ruled", "(II)I"⟩
abbrev cX8_forecastFor : ByteArray := prog_10_method_19_code
def yX8_forecastFor : MethodName := ⟨RX8, "forecastFor", "(III)J"⟩
abbrev cX8_fullDay : ByteArray := prog_10_method_20_code
def yX8_fullDay : MethodName := ⟨RX8, "fullDay", "(II)I"⟩
abbrev cX8_findsBounds : ByteArray := prog_10_method_21_code
def yX8_findsBounds : MethodName := ⟨RX8, "findsBounds", "(I)V"⟩
abbrev cX8_looks : ByteArray := prog_10_method_22_code
def yX8_looks : MethodName := ⟨RX8, "looks", "(I)Z"⟩
abbrev cX8_pass : ByteArray := prog_10_method_23_code
def yX8_pass : MethodName := ⟨RX8, "pass", "(I)I"⟩
abbrev cX8_today : ByteArray := prog_10_method_24_code
def yX8_today : MethodName := ⟨RX8, "today", "()I"⟩
abbrev cX8_asks : ByteArray := prog_10_method_25_code
def yX8_asks : MethodName := ⟨RX8, "asks", "(I)Z"⟩
abbrev cX8_samples : ByteArray := prog_10_method_26_code
def yX8_samples : MethodName := ⟨RX8, "samples", "(I)I"⟩
abbrev cX8_asksSlope : ByteArray := prog_10_method_27_code
def yX8_asksSlope : MethodName := ⟨RX8, "asksSlope", "(I)Z"⟩
abbrev cX8_slopeNumerator : ByteArray := prog_10_method_28_code
def yX8_slopeNumerator : MethodName := ⟨RX8, "slopeNumerator", "(I)I"⟩
abbrev cX8_slopeDenominator : ByteArray := prog_10_method_29_code
def yX8_slopeDenominator : MethodName := ⟨RX8, "slopeDenominator", "(I)I"⟩
abbrev cX8_usual : ByteArray := prog_10_method_30_code
def yX8_usual : MethodName := ⟨RX8, "usual", "(I)I"⟩
abbrev cX8_forecast : ByteArray := prog_10_method_31_code
def yX8_forecast : MethodName := ⟨RX8, "forecast", "(II)I"⟩
abbrev cX8_told : ByteArray := prog_10_method_32_code
def yX8_told : MethodName := ⟨RX8, "told", "(I)I"⟩
abbrev cX8_full : ByteArray := prog_10_method_33_code
def yX8_full : MethodName := ⟨RX8, "full", "(I)I"⟩
abbrev cX8_early : ByteArray := prog_10_method_34_code
def yX8_early : MethodName := ⟨RX8, "early", "(I)I"⟩
abbrev cX8_late : ByteArray := prog_10_method_35_code
def yX8_late : MethodName := ⟨RX8, "late", "(I)I"⟩
abbrev cX8_warns : ByteArray := prog_10_method_36_code
def yX8_warns : MethodName := ⟨RX8, "warns", "(I)Z"⟩
abbrev cX8_keeps : ByteArray := prog_10_method_37_code
def yX8_keeps : MethodName := ⟨RX8, "keeps", "(I)V"⟩
abbrev cX8_together : ByteArray := prog_10_method_38_code
def yX8_together : MethodName := ⟨RX8, "together", "(II)J"⟩
abbrev cX8_poolFull : ByteArray := prog_10_method_39_code
def yX8_poolFull : MethodName := ⟨RX8, "poolFull", "(I)I"⟩
def RJx145de : String := "java/io/Serializable"
def TJx145de : u_T := fun k => match k with
  | _ => ("", "", "", false)
def tyJx145de : Nat → FieldType := fun k => match k with
  | _ => .int
abbrev wsJx145de0 : List Cond := u_ws RJx145de TJx145de 0
theorem nmJx145de : ∀ a, a < 0 → ∀ b, b < 0 → a ≠ b → (TJx145de a).2.1 ≠ (TJx145de b).2.1 := by decide +kernel
theorem tyJx145de_ok : ∀ k, k < 0 → parseFieldDescriptor (TJx145de k).2.2.1 = some (tyJx145de k) := by decide +kernel
def RJx8e188 : String := "java/lang/Cloneable"
def TJx8e188 : u_T := fun k => match k with
  | _ => ("", "", "", false)
def tyJx8e188 : Nat → FieldType := fun k => match k with
  | _ => .int
abbrev wsJx8e1880 : List Cond := u_ws RJx8e188 TJx8e188 0
theorem nmJx8e188 : ∀ a, a < 0 → ∀ b, b < 0 → a ≠ b → (TJx8e188 a).2.1 ≠ (TJx8e188 b).2.1 := by decide +kernel
theorem tyJx8e188_ok : ∀ k, k < 0 → parseFieldDescriptor (TJx8e188 k).2.2.1 = some (tyJx8e188 k) := by decide +kernel
def RJxab1ab : String := "java/lang/Iterable"
def TJxab1ab : u_T := fun k => match k with
  | _ => ("", "", "", false)
def tyJxab1ab : Nat → FieldType := fun k => match k with
  | _ => .int
abbrev wsJxab1ab0 : List Cond := u_ws RJxab1ab TJxab1ab 0
theorem nmJxab1ab : ∀ a, a < 0 → ∀ b, b < 0 → a ≠ b → (TJxab1ab a).2.1 ≠ (TJxab1ab b).2.1 := by decide +kernel
theorem tyJxab1ab_ok : ∀ k, k < 0 → parseFieldDescriptor (TJxab1ab k).2.2.1 = some (tyJxab1ab k) := by decide +kernel
def RJ9 : String := "java/lang/Math"
def TJ9 : u_T := fun k => match k with
  | _ => ("", "", "", false)
def tyJ9 : Nat → FieldType := fun k => match k with
  | _ => .int
abbrev wsJ90 : List Cond := u_ws RJ9 TJ9 0
theorem nmJ9 : ∀ a, a < 0 → ∀ b, b < 0 → a ≠ b → (TJ9 a).2.1 ≠ (TJ9 b).2.1 := by decide +kernel
theorem tyJ9_ok : ∀ k, k < 0 → parseFieldDescriptor (TJ9 k).2.2.1 = some (tyJ9 k) := by decide +kernel
abbrev cJ9_floorDiv_f86c9 : ByteArray := prog_18_method_49_code
def yJ9_floorDiv_f86c9 : MethodName := ⟨RJ9, "floorDiv", "(JJ)J"⟩
abbrev cJ9_abs_0f7a4 : ByteArray := prog_18_method_59_code
def yJ9_abs_0f7a4 : MethodName := ⟨RJ9, "abs", "(I)I"⟩
abbrev cJ9_max_7cf53 : ByteArray := prog_18_method_65_code
def yJ9_max_7cf53 : MethodName := ⟨RJ9, "max", "(II)I"⟩
abbrev cJ9_max_f86c9 : ByteArray := prog_18_method_66_code
def yJ9_max_f86c9 : MethodName := ⟨RJ9, "max", "(JJ)J"⟩
abbrev cJ9_min_7cf53 : ByteArray := prog_18_method_69_code
def yJ9_min_7cf53 : MethodName := ⟨RJ9, "min", "(II)I"⟩
abbrev cJ9_min_f86c9 : ByteArray := prog_18_method_70_code
def yJ9_min_f86c9 : MethodName := ⟨RJ9, "min", "(JJ)J"⟩
def RJ0 : String := "java/lang/String"
def TJ0 : u_T := fun k => match k with
  | _ => ("", "", "", false)
def tyJ0 : Nat → FieldType := fun k => match k with
  | _ => .int
abbrev wsJ00 : List Cond := u_ws RJ0 TJ0 0
theorem nmJ0 : ∀ a, a < 0 → ∀ b, b < 0 → a ≠ b → (TJ0 a).2.1 ≠ (TJ0 b).2.1 := by decide +kernel
theorem tyJ0_ok : ∀ k, k < 0 → parseFieldDescriptor (TJ0 k).2.2.1 = some (tyJ0 k) := by decide +kernel
def RJ10 : String := "java/lang/System"
def TJ10 : u_T := fun k => match k with
  | _ => ("", "", "", false)
def tyJ10 : Nat → FieldType := fun k => match k with
  | _ => .int
abbrev wsJ100 : List Cond := u_ws RJ10 TJ10 0
theorem nmJ10 : ∀ a, a < 0 → ∀ b, b < 0 → a ≠ b → (TJ10 a).2.1 ≠ (TJ10 b).2.1 := by decide +kernel
theorem tyJ10_ok : ∀ k, k < 0 → parseFieldDescriptor (TJ10 k).2.2.1 = some (tyJ10 k) := by decide +kernel
def RJxa1e45 : String := "java/util/AbstractCollection"
def TJxa1e45 : u_T := fun k => match k with
  | _ => ("", "", "", false)
def tyJxa1e45 : Nat → FieldType := fun k => match k with
  | _ => .int
abbrev wsJxa1e450 : List Cond := u_ws RJxa1e45 TJxa1e45 0
theorem nmJxa1e45 : ∀ a, a < 0 → ∀ b, b < 0 → a ≠ b → (TJxa1e45 a).2.1 ≠ (TJxa1e45 b).2.1 := by decide +kernel
theorem tyJxa1e45_ok : ∀ k, k < 0 → parseFieldDescriptor (TJxa1e45 k).2.2.1 = some (tyJxa1e45 k) := by decide +kernel
abbrev cJxa1e45_init_da8c8 : ByteArray := prog_23_method_1_code
def yJxa1e45_init_da8c8 : MethodName := ⟨RJxa1e45, "<init>", "()V"⟩
def RJxc12de : String := "java/util/AbstractList"
def TJxc12de : u_T := fun k => match k with
  | _ => ("", "", "", false)
def tyJxc12de : Nat → FieldType := fun k => match k with
  | _ => .int
abbrev wsJxc12de0 : List Cond := u_ws RJxc12de TJxc12de 0
theorem nmJxc12de : ∀ a, a < 0 → ∀ b, b < 0 → a ≠ b → (TJxc12de a).2.1 ≠ (TJxc12de b).2.1 := by decide +kernel
theorem tyJxc12de_ok : ∀ k, k < 0 → parseFieldDescriptor (TJxc12de k).2.2.1 = some (tyJxc12de k) := by decide +kernel
abbrev cJxc12de_init_da8c8 : ByteArray := prog_24_method_1_code
def yJxc12de_init_da8c8 : MethodName := ⟨RJxc12de, "<init>", "()V"⟩
def RJx4a65c : String := "java/util/ArrayList"
def TJx4a65c : u_T := fun k => match k with
  | 0 => ("java/util/AbstractList", "modCount", "I", false)
  | 1 => ("java/util/ArrayList", "elementData", "[Ljava/lang/Object;", false)
  | _ => ("java/util/ArrayList", "size", "I", false)
def tyJx4a65c : Nat → FieldType := fun k => match k with
  | 0 => .int
  | 1 => .array (.object "java/lang/Object")
  | _ => .int
abbrev wsJx4a65c0 : List Cond := u_ws RJx4a65c TJx4a65c 3
theorem nmJx4a65c : ∀ a, a < 3 → ∀ b, b < 3 → a ≠ b → (TJx4a65c a).2.1 ≠ (TJx4a65c b).2.1 := by decide +kernel
theorem tyJx4a65c_ok : ∀ k, k < 3 → parseFieldDescriptor (TJx4a65c k).2.2.1 = some (tyJx4a65c k) := by decide +kernel
abbrev cJx4a65c_init_da8c8 : ByteArray := prog_25_method_2_code
def yJx4a65c_init_da8c8 : MethodName := ⟨RJx4a65c, "<init>", "()V"⟩
abbrev cJx4a65c_grow_92f84 : ByteArray := prog_25_method_6_code
def yJx4a65c_grow_92f84 : MethodName := ⟨RJx4a65c, "grow", "(I)[Ljava/lang/Object;"⟩
abbrev cJx4a65c_grow_d5877 : ByteArray := prog_25_method_7_code
def yJx4a65c_grow_d5877 : MethodName := ⟨RJx4a65c, "grow", "()[Ljava/lang/Object;"⟩
abbrev cJx4a65c_size_8abf5 : ByteArray := prog_25_method_8_code
def yJx4a65c_size_8abf5 : MethodName := ⟨RJx4a65c, "size", "()I"⟩
abbrev cJx4a65c_elementData_915e3 : ByteArray := prog_25_method_18_code
def yJx4a65c_elementData_915e3 : MethodName := ⟨RJx4a65c, "elementData", "(I)Ljava/lang/Object;"⟩
abbrev cJx4a65c_get_915e3 : ByteArray := prog_25_method_20_code
def yJx4a65c_get_915e3 : MethodName := ⟨RJx4a65c, "get", "(I)Ljava/lang/Object;"⟩
abbrev cJx4a65c_add_72be8 : ByteArray := prog_25_method_24_code
def yJx4a65c_add_72be8 : MethodName := ⟨RJx4a65c, "add", "(Ljava/lang/Object;[Ljava/lang/Object;I)V"⟩
abbrev cJx4a65c_add_9ea2d : ByteArray := prog_25_method_25_code
def yJx4a65c_add_9ea2d : MethodName := ⟨RJx4a65c, "add", "(Ljava/lang/Object;)Z"⟩
def RJ7 : String := "java/util/Arrays"
def TJ7 : u_T := fun k => match k with
  | _ => ("", "", "", false)
def tyJ7 : Nat → FieldType := fun k => match k with
  | _ => .int
abbrev wsJ70 : List Cond := u_ws RJ7 TJ7 0
theorem nmJ7 : ∀ a, a < 0 → ∀ b, b < 0 → a ≠ b → (TJ7 a).2.1 ≠ (TJ7 b).2.1 := by decide +kernel
theorem tyJ7_ok : ∀ k, k < 0 → parseFieldDescriptor (TJ7 k).2.2.1 = some (tyJ7 k) := by decide +kernel
abbrev cJ7_copyOf_1904c : ByteArray := prog_26_method_119_code
def yJ7_copyOf_1904c : MethodName := ⟨RJ7, "copyOf", "([Ljava/lang/Object;I)[Ljava/lang/Object;"⟩
abbrev cJ7_copyOf_6403c : ByteArray := prog_26_method_120_code
def yJ7_copyOf_6403c : MethodName := ⟨RJ7, "copyOf", "([Ljava/lang/Object;ILjava/lang/Class;)[Ljava/lang/Object;"⟩
def RJx5ef63 : String := "java/util/Collection"
def TJx5ef63 : u_T := fun k => match k with
  | _ => ("", "", "", false)
def tyJx5ef63 : Nat → FieldType := fun k => match k with
  | _ => .int
abbrev wsJx5ef630 : List Cond := u_ws RJx5ef63 TJx5ef63 0
theorem nmJx5ef63 : ∀ a, a < 0 → ∀ b, b < 0 → a ≠ b → (TJx5ef63 a).2.1 ≠ (TJx5ef63 b).2.1 := by decide +kernel
theorem tyJx5ef63_ok : ∀ k, k < 0 → parseFieldDescriptor (TJx5ef63 k).2.2.1 = some (tyJx5ef63 k) := by decide +kernel
def RJxbd725 : String := "java/util/List"
def TJxbd725 : u_T := fun k => match k with
  | _ => ("", "", "", false)
def tyJxbd725 : Nat → FieldType := fun k => match k with
  | _ => .int
abbrev wsJxbd7250 : List Cond := u_ws RJxbd725 TJxbd725 0
theorem nmJxbd725 : ∀ a, a < 0 → ∀ b, b < 0 → a ≠ b → (TJxbd725 a).2.1 ≠ (TJxbd725 b).2.1 := by decide +kernel
theorem tyJxbd725_ok : ∀ k, k < 0 → parseFieldDescriptor (TJxbd725 k).2.2.1 = some (tyJxbd725 k) := by decide +kernel
def RJ15 : String := "java/util/Objects"
def TJ15 : u_T := fun k => match k with
  | _ => ("", "", "", false)
def tyJ15 : Nat → FieldType := fun k => match k with
  | _ => .int
abbrev wsJ150 : List Cond := u_ws RJ15 TJ15 0
theorem nmJ15 : ∀ a, a < 0 → ∀ b, b < 0 → a ≠ b → (TJ15 a).2.1 ≠ (TJ15 b).2.1 := by decide +kernel
theorem tyJ15_ok : ∀ k, k < 0 → parseFieldDescriptor (TJ15 k).2.2.1 = some (tyJ15 k) := by decide +kernel
abbrev cJ15_checkIndex_7cf53 : ByteArray := prog_29_method_17_code
def yJ15_checkIndex_7cf53 : MethodName := ⟨RJ15, "checkIndex", "(II)I"⟩
def RJxf0a74 : String := "java/util/RandomAccess"
def TJxf0a74 : u_T := fun k => match k with
  | _ => ("", "", "", false)
def tyJxf0a74 : Nat → FieldType := fun k => match k with
  | _ => .int
abbrev wsJxf0a740 : List Cond := u_ws RJxf0a74 TJxf0a74 0
theorem nmJxf0a74 : ∀ a, a < 0 → ∀ b, b < 0 → a ≠ b → (TJxf0a74 a).2.1 ≠ (TJxf0a74 b).2.1 := by decide +kernel
theorem tyJxf0a74_ok : ∀ k, k < 0 → parseFieldDescriptor (TJxf0a74 k).2.2.1 = some (tyJxf0a74 k) := by decide +kernel
def RJxa66e6 : String := "java/util/SequencedCollection"
def TJxa66e6 : u_T := fun k => match k with
  | _ => ("", "", "", false)
def tyJxa66e6 : Nat → FieldType := fun k => match k with
  | _ => .int
abbrev wsJxa66e60 : List Cond := u_ws RJxa66e6 TJxa66e6 0
theorem nmJxa66e6 : ∀ a, a < 0 → ∀ b, b < 0 → a ≠ b → (TJxa66e6 a).2.1 ≠ (TJxa66e6 b).2.1 := by decide +kernel
theorem tyJxa66e6_ok : ∀ k, k < 0 → parseFieldDescriptor (TJxa66e6 k).2.2.1 = some (tyJxa66e6 k) := by decide +kernel
def RJ8 : String := "jdk/internal/util/ArraysSupport"
def TJ8 : u_T := fun k => match k with
  | _ => ("", "", "", false)
def tyJ8 : Nat → FieldType := fun k => match k with
  | _ => .int
abbrev wsJ80 : List Cond := u_ws RJ8 TJ8 0
theorem nmJ8 : ∀ a, a < 0 → ∀ b, b < 0 → a ≠ b → (TJ8 a).2.1 ≠ (TJ8 b).2.1 := by decide +kernel
theorem tyJ8_ok : ∀ k, k < 0 → parseFieldDescriptor (TJ8 k).2.2.1 = some (tyJ8 k) := by decide +kernel
abbrev cJ8_newLength_cabcc : ByteArray := prog_32_method_27_code
def yJ8_newLength_cabcc : MethodName := ⟨RJ8, "newLength", "(III)I"⟩
abbrev cJ8_hugeLength_7cf53 : ByteArray := prog_32_method_28_code
def yJ8_hugeLength_7cf53 : MethodName := ⟨RJ8, "hugeLength", "(II)I"⟩
def RJ3 : String := "jdk/internal/util/Preconditions"
def TJ3 : u_T := fun k => match k with
  | _ => ("", "", "", false)
def tyJ3 : Nat → FieldType := fun k => match k with
  | _ => .int
abbrev wsJ30 : List Cond := u_ws RJ3 TJ3 0
theorem nmJ3 : ∀ a, a < 0 → ∀ b, b < 0 → a ≠ b → (TJ3 a).2.1 ≠ (TJ3 b).2.1 := by decide +kernel
theorem tyJ3_ok : ∀ k, k < 0 → parseFieldDescriptor (TJ3 k).2.2.1 = some (tyJ3 k) := by decide +kernel
abbrev cJ3_checkIndex_8e157 : ByteArray := prog_33_method_11_code
def yJ3_checkIndex_8e157 : MethodName := ⟨RJ3, "checkIndex", "(IILjava/util/function/BiFunction;)I"⟩
def RL : String := "RoomForecastLaw"
abbrev cL_addStore : ByteArray := method_3_code
def yL_addStore : MethodName := ⟨RL, "addStore", "(LRoomForecast;I[J)I"⟩
abbrev cL_setSize : ByteArray := method_4_code
def yL_setSize : MethodName := ⟨RL, "setSize", "(LRoomForecast;II[J)I"⟩
abbrev cL_sample : ByteArray := method_5_code
def yL_sample : MethodName := ⟨RL, "sample", "(LRoomForecast;II[J)I"⟩
abbrev cL_clean : ByteArray := method_6_code
def yL_clean : MethodName := ⟨RL, "clean", "(LRoomForecast;II[J)I"⟩
abbrev cL_setRule : ByteArray := method_7_code
def yL_setRule : MethodName := ⟨RL, "setRule", "(LRoomForecast;III)I"⟩
abbrev cL_pass : ByteArray := method_8_code
def yL_pass : MethodName := ⟨RL, "pass", "(LRoomForecast;I[J)I"⟩
abbrev cL_samples : ByteArray := method_9_code
def yL_samples : MethodName := ⟨RL, "samples", "(LRoomForecast;I[J)I"⟩
abbrev cL_slopeNumerator : ByteArray := method_10_code
def yL_slopeNumerator : MethodName := ⟨RL, "slopeNumerator", "(LRoomForecast;I[J)I"⟩
abbrev cL_slopeDenominator : ByteArray := method_11_code
def yL_slopeDenominator : MethodName := ⟨RL, "slopeDenominator", "(LRoomForecast;I[J)I"⟩
abbrev cL_usual : ByteArray := method_12_code
def yL_usual : MethodName := ⟨RL, "usual", "(LRoomForecast;I[J)I"⟩
abbrev cL_forecast : ByteArray := method_13_code
def yL_forecast : MethodName := ⟨RL, "forecast", "(LRoomForecast;II[J)I"⟩
abbrev cL_full : ByteArray := method_14_code
def yL_full : MethodName := ⟨RL, "full", "(LRoomForecast;I[J)I"⟩
abbrev cL_early : ByteArray := method_15_code
def yL_early : MethodName := ⟨RL, "early", "(LRoomForecast;I[J)I"⟩
abbrev cL_late : ByteArray := method_16_code
def yL_late : MethodName := ⟨RL, "late", "(LRoomForecast;I[J)I"⟩
abbrev cL_warns : ByteArray := method_17_code
def yL_warns : MethodName := ⟨RL, "warns", "(LRoomForecast;I[J)I"⟩
abbrev cL_poolFull : ByteArray := method_18_code
def yL_poolFull : MethodName := ⟨RL, "poolFull", "(LRoomForecast;I[J)I"⟩
abbrev cL_law : ByteArray := code
def yL_law : MethodName := ⟨RL, "law", "([I)Z"⟩
abbrev vwCl : List vw_C := [(RJx4a65c, TJx4a65c, 3), (RX0, TX0, 3), (RX1, TX1, 4), (RX2, TX2, 6), (RX3, TX3, 2), (RX4, TX4, 4), (RX5, TX5, 7), (RX6, TX6, 2), (RX7, TX7, 2), (RX8, TX8, 30)]
end
section
theorem dX0_init_0 : decode cX0_init 0 = .ok (.aload_n 0, 1) := by decide +kernel
theorem dX0_init_1 : decode cX0_init 1 = .ok (.invokespecial 3, 3) := by decide +kernel
theorem dX0_init_4 : decode cX0_init 4 = .ok (.aload_n 0, 1) := by decide +kernel
theorem dX0_init_5 : decode cX0_init 5 = .ok (.bipush 60, 2) := by decide +kernel
theorem dX0_init_7 : decode cX0_init 7 = .ok (.newarray .int, 2) := by decide +kernel
theorem dX0_init_9 : decode cX0_init 9 = .ok (.putfield 9, 3) := by decide +kernel
theorem dX0_init_12 : decode cX0_init 12 = .ok (.return_, 1) := by decide +kernel
theorem dX0_number_0 : decode cX0_number 0 = .ok (.aload_n 0, 1) := by decide +kernel
theorem dX0_number_1 : decode cX0_number 1 = .ok (.getfield 15, 3) := by decide +kernel
theorem dX0_number_4 : decode cX0_number 4 = .ok (.ireturn, 1) := by decide +kernel
theorem dX0_freedInAll_0 : decode cX0_freedInAll 0 = .ok (.aload_n 0, 1) := by decide +kernel
theorem dX0_freedInAll_1 : decode cX0_freedInAll 1 = .ok (.getfield 19, 3) := by decide +kernel
theorem dX0_freedInAll_4 : decode cX0_freedInAll 4 = .ok (.ireturn, 1) := by decide +kernel
theorem dX0_put_0 : decode cX0_put 0 = .ok (.aload_n 0, 1) := by decide +kernel
theorem dX0_put_1 : decode cX0_put 1 = .ok (.getfield 15, 3) := by decide +kernel
theorem dX0_put_4 : decode cX0_put 4 = .ok (.bipush 60, 2) := by decide +kernel
theorem dX0_put_6 : decode cX0_put 6 = .ok (.if_icmp .lt 4, 3) := by decide +kernel
theorem dX0_put_9 : decode cX0_put 9 = .ok (.return_, 1) := by decide +kernel
theorem dX0_put_10 : decode cX0_put 10 = .ok (.aload_n 0, 1) := by decide +kernel
theorem dX0_put_11 : decode cX0_put 11 = .ok (.getfield 15, 3) := by decide +kernel
theorem dX0_put_14 : decode cX0_put 14 = .ok (.istore_n 2, 1) := by decide +kernel
theorem dX0_put_15 : decode cX0_put 15 = .ok (.iload_n 2, 1) := by decide +kernel
theorem dX0_put_16 : decode cX0_put 16 = .ok (.ifCond .le 35, 3) := by decide +kernel
theorem dX0_put_19 : decode cX0_put 19 = .ok (.aload_n 0, 1) := by decide +kernel
theorem dX0_put_20 : decode cX0_put 20 = .ok (.getfield 9, 3) := by decide +kernel
theorem dX0_put_23 : decode cX0_put 23 = .ok (.iload_n 2, 1) := by decide +kernel
theorem dX0_put_24 : decode cX0_put 24 = .ok (.iconst 1, 1) := by decide +kernel
theorem dX0_put_25 : decode cX0_put 25 = .ok (.isub, 1) := by decide +kernel
theorem dX0_put_26 : decode cX0_put 26 = .ok (.iaload, 1) := by decide +kernel
theorem dX0_put_27 : decode cX0_put 27 = .ok (.iload_n 1, 1) := by decide +kernel
theorem dX0_put_28 : decode cX0_put 28 = .ok (.if_icmp .le 23, 3) := by decide +kernel
theorem dX0_put_31 : decode cX0_put 31 = .ok (.aload_n 0, 1) := by decide +kernel
theorem dX0_put_32 : decode cX0_put 32 = .ok (.getfield 9, 3) := by decide +kernel
theorem dX0_put_35 : decode cX0_put 35 = .ok (.iload_n 2, 1) := by decide +kernel
theorem dX0_put_36 : decode cX0_put 36 = .ok (.aload_n 0, 1) := by decide +kernel
theorem dX0_put_37 : decode cX0_put 37 = .ok (.getfield 9, 3) := by decide +kernel
theorem dX0_put_40 : decode cX0_put 40 = .ok (.iload_n 2, 1) := by decide +kernel
theorem dX0_put_41 : decode cX0_put 41 = .ok (.iconst 1, 1) := by decide +kernel
theorem dX0_put_42 : decode cX0_put 42 = .ok (.isub, 1) := by decide +kernel
theorem dX0_put_43 : decode cX0_put 43 = .ok (.iaload, 1) := by decide +kernel
theorem dX0_put_44 : decode cX0_put 44 = .ok (.iastore, 1) := by decide +kernel
theorem dX0_put_45 : decode cX0_put 45 = .ok (.iinc 2 (-1), 3) := by decide +kernel
theorem dX0_put_48 : decode cX0_put 48 = .ok (.goto (-33), 3) := by decide +kernel
theorem dX0_put_51 : decode cX0_put 51 = .ok (.aload_n 0, 1) := by decide +kernel
theorem dX0_put_52 : decode cX0_put 52 = .ok (.getfield 9, 3) := by decide +kernel
theorem dX0_put_55 : decode cX0_put 55 = .ok (.iload_n 2, 1) := by decide +kernel
theorem dX0_put_56 : decode cX0_put 56 = .ok (.iload_n 1, 1) := by decide +kernel
theorem dX0_put_57 : decode cX0_put 57 = .ok (.iastore, 1) := by decide +kernel
theorem dX0_put_58 : decode cX0_put 58 = .ok (.aload_n 0, 1) := by decide +kernel
theorem dX0_put_59 : decode cX0_put 59 = .ok (.dup, 1) := by decide +kernel
theorem dX0_put_60 : decode cX0_put 60 = .ok (.getfield 15, 3) := by decide +kernel
theorem dX0_put_63 : decode cX0_put 63 = .ok (.iconst 1, 1) := by decide +kernel
theorem dX0_put_64 : decode cX0_put 64 = .ok (.iadd, 1) := by decide +kernel
theorem dX0_put_65 : decode cX0_put 65 = .ok (.putfield 15, 3) := by decide +kernel
theorem dX0_put_68 : decode cX0_put 68 = .ok (.aload_n 0, 1) := by decide +kernel
theorem dX0_put_69 : decode cX0_put 69 = .ok (.dup, 1) := by decide +kernel
theorem dX0_put_70 : decode cX0_put 70 = .ok (.getfield 19, 3) := by decide +kernel
theorem dX0_put_73 : decode cX0_put 73 = .ok (.iload_n 1, 1) := by decide +kernel
theorem dX0_put_74 : decode cX0_put 74 = .ok (.iadd, 1) := by decide +kernel
theorem dX0_put_75 : decode cX0_put 75 = .ok (.putfield 19, 3) := by decide +kernel
theorem dX0_put_78 : decode cX0_put 78 = .ok (.return_, 1) := by decide +kernel
theorem dX0_usualSize_0 : decode cX0_usualSize 0 = .ok (.aload_n 0, 1) := by decide +kernel
theorem dX0_usualSize_1 : decode cX0_usualSize 1 = .ok (.getfield 15, 3) := by decide +kernel
theorem dX0_usualSize_4 : decode cX0_usualSize 4 = .ok (.ifCond .le 18, 3) := by decide +kernel
theorem dX0_usualSize_7 : decode cX0_usualSize 7 = .ok (.aload_n 0, 1) := by decide +kernel
theorem dX0_usualSize_8 : decode cX0_usualSize 8 = .ok (.getfield 9, 3) := by decide +kernel
theorem dX0_usualSize_11 : decode cX0_usualSize 11 = .ok (.aload_n 0, 1) := by decide +kernel
theorem dX0_usualSize_12 : decode cX0_usualSize 12 = .ok (.getfield 15, 3) := by decide +kernel
theorem dX0_usualSize_15 : decode cX0_usualSize 15 = .ok (.invokestatic 22, 3) := by decide +kernel
theorem dX0_usualSize_18 : decode cX0_usualSize 18 = .ok (.iaload, 1) := by decide +kernel
theorem dX0_usualSize_19 : decode cX0_usualSize 19 = .ok (.goto 4, 3) := by decide +kernel
theorem dX0_usualSize_22 : decode cX0_usualSize 22 = .ok (.iconst 0, 1) := by decide +kernel
theorem dX0_usualSize_23 : decode cX0_usualSize 23 = .ok (.ireturn, 1) := by decide +kernel
theorem dX1_init_0 : decode cX1_init 0 = .ok (.aload_n 0, 1) := by decide +kernel
theorem dX1_init_1 : decode cX1_init 1 = .ok (.invokespecial 3, 3) := by decide +kernel
theorem dX1_init_4 : decode cX1_init 4 = .ok (.aload_n 0, 1) := by decide +kernel
theorem dX1_init_5 : decode cX1_init 5 = .ok (.iconst 1, 1) := by decide +kernel
theorem dX1_init_6 : decode cX1_init 6 = .ok (.putfield 9, 3) := by decide +kernel
theorem dX1_init_9 : decode cX1_init 9 = .ok (.return_, 1) := by decide +kernel
theorem dX1_start_0 : decode cX1_start 0 = .ok (.aload_n 0, 1) := by decide +kernel
theorem dX1_start_1 : decode cX1_start 1 = .ok (.iload_n 1, 1) := by decide +kernel
theorem dX1_start_2 : decode cX1_start 2 = .ok (.putfield 15, 3) := by decide +kernel
theorem dX1_start_5 : decode cX1_start 5 = .ok (.aload_n 0, 1) := by decide +kernel
theorem dX1_start_6 : decode cX1_start 6 = .ok (.iload_n 2, 1) := by decide +kernel
theorem dX1_start_7 : decode cX1_start 7 = .ok (.putfield 18, 3) := by decide +kernel
theorem dX1_start_10 : decode cX1_start 10 = .ok (.return_, 1) := by decide +kernel
theorem dX1_climb_0 : decode cX1_climb 0 = .ok (.aload_n 0, 1) := by decide +kernel
theorem dX1_climb_1 : decode cX1_climb 1 = .ok (.iload_n 1, 1) := by decide +kernel
theorem dX1_climb_2 : decode cX1_climb 2 = .ok (.putfield 21, 3) := by decide +kernel
theorem dX1_climb_5 : decode cX1_climb 5 = .ok (.aload_n 0, 1) := by decide +kernel
theorem dX1_climb_6 : decode cX1_climb 6 = .ok (.iload_n 2, 1) := by decide +kernel
theorem dX1_climb_7 : decode cX1_climb 7 = .ok (.putfield 9, 3) := by decide +kernel
theorem dX1_climb_10 : decode cX1_climb 10 = .ok (.return_, 1) := by decide +kernel
theorem dX1_heightOn_0 : decode cX1_heightOn 0 = .ok (.aload_n 0, 1) := by decide +kernel
theorem dX1_heightOn_1 : decode cX1_heightOn 1 = .ok (.getfield 21, 3) := by decide +kernel
theorem dX1_heightOn_4 : decode cX1_heightOn 4 = .ok (.i2l, 1) := by decide +kernel
theorem dX1_heightOn_5 : decode cX1_heightOn 5 = .ok (.iload_n 1, 1) := by decide +kernel
theorem dX1_heightOn_6 : decode cX1_heightOn 6 = .ok (.aload_n 0, 1) := by decide +kernel
theorem dX1_heightOn_7 : decode cX1_heightOn 7 = .ok (.getfield 15, 3) := by decide +kernel
theorem dX1_heightOn_10 : decode cX1_heightOn 10 = .ok (.isub, 1) := by decide +kernel
theorem dX1_heightOn_11 : decode cX1_heightOn 11 = .ok (.i2l, 1) := by decide +kernel
theorem dX1_heightOn_12 : decode cX1_heightOn 12 = .ok (.lmul, 1) := by decide +kernel
theorem dX1_heightOn_13 : decode cX1_heightOn 13 = .ok (.lstore_n 2, 1) := by decide +kernel
theorem dX1_heightOn_14 : decode cX1_heightOn 14 = .ok (.aload_n 0, 1) := by decide +kernel
theorem dX1_heightOn_15 : decode cX1_heightOn 15 = .ok (.getfield 18, 3) := by decide +kernel
theorem dX1_heightOn_18 : decode cX1_heightOn 18 = .ok (.i2l, 1) := by decide +kernel
theorem dX1_heightOn_19 : decode cX1_heightOn 19 = .ok (.aload_n 0, 1) := by decide +kernel
theorem dX1_heightOn_20 : decode cX1_heightOn 20 = .ok (.getfield 9, 3) := by decide +kernel
theorem dX1_heightOn_23 : decode cX1_heightOn 23 = .ok (.ifCond .le 15, 3) := by decide +kernel
theorem dX1_heightOn_26 : decode cX1_heightOn 26 = .ok (.lload_n 2, 1) := by decide +kernel
theorem dX1_heightOn_27 : decode cX1_heightOn 27 = .ok (.aload_n 0, 1) := by decide +kernel
theorem dX1_heightOn_28 : decode cX1_heightOn 28 = .ok (.getfield 9, 3) := by decide +kernel
theorem dX1_heightOn_31 : decode cX1_heightOn 31 = .ok (.i2l, 1) := by decide +kernel
theorem dX1_heightOn_32 : decode cX1_heightOn 32 = .ok (.invokestatic 24, 3) := by decide +kernel
theorem dX1_heightOn_35 : decode cX1_heightOn 35 = .ok (.goto 4, 3) := by decide +kernel
theorem dX1_heightOn_38 : decode cX1_heightOn 38 = .ok (.lconst 0, 1) := by decide +kernel
theorem dX1_heightOn_39 : decode cX1_heightOn 39 = .ok (.ladd, 1) := by decide +kernel
theorem dX1_heightOn_40 : decode cX1_heightOn 40 = .ok (.lreturn, 1) := by decide +kernel
theorem dX1_leastDaysToClimb_0 : decode cX1_leastDaysToClimb 0 = .ok (.aload_n 0, 1) := by decide +kernel
theorem dX1_leastDaysToClimb_1 : decode cX1_leastDaysToClimb 1 = .ok (.getfield 21, 3) := by decide +kernel
theorem dX1_leastDaysToClimb_4 : decode cX1_leastDaysToClimb 4 = .ok (.ifCond .gt 7, 3) := by decide +kernel
theorem dX1_leastDaysToClimb_7 : decode cX1_leastDaysToClimb 7 = .ok (.sipush 1000, 3) := by decide +kernel
theorem dX1_leastDaysToClimb_10 : decode cX1_leastDaysToClimb 10 = .ok (.ireturn, 1) := by decide +kernel
theorem dX1_leastDaysToClimb_11 : decode cX1_leastDaysToClimb 11 = .ok (.iload_n 1, 1) := by decide +kernel
theorem dX1_leastDaysToClimb_12 : decode cX1_leastDaysToClimb 12 = .ok (.i2l, 1) := by decide +kernel
theorem dX1_leastDaysToClimb_13 : decode cX1_leastDaysToClimb 13 = .ok (.lconst 1, 1) := by decide +kernel
theorem dX1_leastDaysToClimb_14 : decode cX1_leastDaysToClimb 14 = .ok (.lsub, 1) := by decide +kernel
theorem dX1_leastDaysToClimb_15 : decode cX1_leastDaysToClimb 15 = .ok (.aload_n 0, 1) := by decide +kernel
theorem dX1_leastDaysToClimb_16 : decode cX1_leastDaysToClimb 16 = .ok (.getfield 9, 3) := by decide +kernel
theorem dX1_leastDaysToClimb_19 : decode cX1_leastDaysToClimb 19 = .ok (.i2l, 1) := by decide +kernel
theorem dX1_leastDaysToClimb_20 : decode cX1_leastDaysToClimb 20 = .ok (.lmul, 1) := by decide +kernel
theorem dX1_leastDaysToClimb_21 : decode cX1_leastDaysToClimb 21 = .ok (.aload_n 0, 1) := by decide +kernel
theorem dX1_leastDaysToClimb_22 : decode cX1_leastDaysToClimb 22 = .ok (.getfield 21, 3) := by decide +kernel
theorem dX1_leastDaysToClimb_25 : decode cX1_leastDaysToClimb 25 = .ok (.i2l, 1) := by decide +kernel
theorem dX1_leastDaysToClimb_26 : decode cX1_leastDaysToClimb 26 = .ok (.ldiv, 1) := by decide +kernel
theorem dX1_leastDaysToClimb_27 : decode cX1_leastDaysToClimb 27 = .ok (.lconst 1, 1) := by decide +kernel
theorem dX1_leastDaysToClimb_28 : decode cX1_leastDaysToClimb 28 = .ok (.ladd, 1) := by decide +kernel
theorem dX1_leastDaysToClimb_29 : decode cX1_leastDaysToClimb 29 = .ok (.ldc2_w 30, 3) := by decide +kernel
theorem dX1_leastDaysToClimb_32 : decode cX1_leastDaysToClimb 32 = .ok (.invokestatic 32, 3) := by decide +kernel
theorem dX1_leastDaysToClimb_35 : decode cX1_leastDaysToClimb 35 = .ok (.l2i, 1) := by decide +kernel
theorem dX1_leastDaysToClimb_36 : decode cX1_leastDaysToClimb 36 = .ok (.ireturn, 1) := by decide +kernel
theorem dX1_riseInLowestTerms_0 : decode cX1_riseInLowestTerms 0 = .ok (.aload_n 0, 1) := by decide +kernel
theorem dX1_riseInLowestTerms_1 : decode cX1_riseInLowestTerms 1 = .ok (.invokevirtual 35, 3) := by decide +kernel
theorem dX1_riseInLowestTerms_4 : decode cX1_riseInLowestTerms 4 = .ok (.istore_n 1, 1) := by decide +kernel
theorem dX1_riseInLowestTerms_5 : decode cX1_riseInLowestTerms 5 = .ok (.iload_n 1, 1) := by decide +kernel
theorem dX1_riseInLowestTerms_6 : decode cX1_riseInLowestTerms 6 = .ok (.ifCond .le 12, 3) := by decide +kernel
theorem dX1_riseInLowestTerms_9 : decode cX1_riseInLowestTerms 9 = .ok (.aload_n 0, 1) := by decide +kernel
theorem dX1_riseInLowestTerms_10 : decode cX1_riseInLowestTerms 10 = .ok (.getfield 21, 3) := by decide +kernel
theorem dX1_riseInLowestTerms_13 : decode cX1_riseInLowestTerms 13 = .ok (.iload_n 1, 1) := by decide +kernel
theorem dX1_riseInLowestTerms_14 : decode cX1_riseInLowestTerms 14 = .ok (.idiv, 1) := by decide +kernel
theorem dX1_riseInLowestTerms_15 : decode cX1_riseInLowestTerms 15 = .ok (.goto 7, 3) := by decide +kernel
theorem dX1_riseInLowestTerms_18 : decode cX1_riseInLowestTerms 18 = .ok (.aload_n 0, 1) := by decide +kernel
theorem dX1_riseInLowestTerms_19 : decode cX1_riseInLowestTerms 19 = .ok (.getfield 21, 3) := by decide +kernel
theorem dX1_riseInLowestTerms_22 : decode cX1_riseInLowestTerms 22 = .ok (.ireturn, 1) := by decide +kernel
theorem dX1_runInLowestTerms_0 : decode cX1_runInLowestTerms 0 = .ok (.aload_n 0, 1) := by decide +kernel
theorem dX1_runInLowestTerms_1 : decode cX1_runInLowestTerms 1 = .ok (.invokevirtual 35, 3) := by decide +kernel
theorem dX1_runInLowestTerms_4 : decode cX1_runInLowestTerms 4 = .ok (.istore_n 1, 1) := by decide +kernel
theorem dX1_runInLowestTerms_5 : decode cX1_runInLowestTerms 5 = .ok (.iload_n 1, 1) := by decide +kernel
theorem dX1_runInLowestTerms_6 : decode cX1_runInLowestTerms 6 = .ok (.ifCond .le 12, 3) := by decide +kernel
theorem dX1_runInLowestTerms_9 : decode cX1_runInLowestTerms 9 = .ok (.aload_n 0, 1) := by decide +kernel
theorem dX1_runInLowestTerms_10 : decode cX1_runInLowestTerms 10 = .ok (.getfield 9, 3) := by decide +kernel
theorem dX1_runInLowestTerms_13 : decode cX1_runInLowestTerms 13 = .ok (.iload_n 1, 1) := by decide +kernel
theorem dX1_runInLowestTerms_14 : decode cX1_runInLowestTerms 14 = .ok (.idiv, 1) := by decide +kernel
theorem dX1_runInLowestTerms_15 : decode cX1_runInLowestTerms 15 = .ok (.goto 7, 3) := by decide +kernel
theorem dX1_runInLowestTerms_18 : decode cX1_runInLowestTerms 18 = .ok (.aload_n 0, 1) := by decide +kernel
theorem dX1_runInLowestTerms_19 : decode cX1_runInLowestTerms 19 = .ok (.getfield 9, 3) := by decide +kernel
theorem dX1_runInLowestTerms_22 : decode cX1_runInLowestTerms 22 = .ok (.ireturn, 1) := by decide +kernel
theorem dX1_commonDivisor_0 : decode cX1_commonDivisor 0 = .ok (.aload_n 0, 1) := by decide +kernel
theorem dX1_commonDivisor_1 : decode cX1_commonDivisor 1 = .ok (.getfield 21, 3) := by decide +kernel
theorem dX1_commonDivisor_4 : decode cX1_commonDivisor 4 = .ok (.invokestatic 39, 3) := by decide +kernel
theorem dX1_commonDivisor_7 : decode cX1_commonDivisor 7 = .ok (.istore_n 1, 1) := by decide +kernel
theorem dX1_commonDivisor_8 : decode cX1_commonDivisor 8 = .ok (.aload_n 0, 1) := by decide +kernel
theorem dX1_commonDivisor_9 : decode cX1_commonDivisor 9 = .ok (.getfield 9, 3) := by decide +kernel
theorem dX1_commonDivisor_12 : decode cX1_commonDivisor 12 = .ok (.istore_n 2, 1) := by decide +kernel
theorem dX1_commonDivisor_13 : decode cX1_commonDivisor 13 = .ok (.iconst 0, 1) := by decide +kernel
theorem dX1_commonDivisor_14 : decode cX1_commonDivisor 14 = .ok (.istore_n 3, 1) := by decide +kernel
theorem dX1_commonDivisor_15 : decode cX1_commonDivisor 15 = .ok (.iload_n 3, 1) := by decide +kernel
theorem dX1_commonDivisor_16 : decode cX1_commonDivisor 16 = .ok (.bipush 64, 2) := by decide +kernel
theorem dX1_commonDivisor_18 : decode cX1_commonDivisor 18 = .ok (.if_icmp .ge 23, 3) := by decide +kernel
theorem dX1_commonDivisor_21 : decode cX1_commonDivisor 21 = .ok (.iload_n 2, 1) := by decide +kernel
theorem dX1_commonDivisor_22 : decode cX1_commonDivisor 22 = .ok (.ifCond .le 19, 3) := by decide +kernel
theorem dX1_commonDivisor_25 : decode cX1_commonDivisor 25 = .ok (.iload_n 1, 1) := by decide +kernel
theorem dX1_commonDivisor_26 : decode cX1_commonDivisor 26 = .ok (.iload_n 2, 1) := by decide +kernel
theorem dX1_commonDivisor_27 : decode cX1_commonDivisor 27 = .ok (.irem, 1) := by decide +kernel
theorem dX1_commonDivisor_28 : decode cX1_commonDivisor 28 = .ok (.istore 4, 2) := by decide +kernel
theorem dX1_commonDivisor_30 : decode cX1_commonDivisor 30 = .ok (.iload_n 2, 1) := by decide +kernel
theorem dX1_commonDivisor_31 : decode cX1_commonDivisor 31 = .ok (.istore_n 1, 1) := by decide +kernel
theorem dX1_commonDivisor_32 : decode cX1_commonDivisor 32 = .ok (.iload 4, 2) := by decide +kernel
theorem dX1_commonDivisor_34 : decode cX1_commonDivisor 34 = .ok (.istore_n 2, 1) := by decide +kernel
theorem dX1_commonDivisor_35 : decode cX1_commonDivisor 35 = .ok (.iinc 3 1, 3) := by decide +kernel
theorem dX1_commonDivisor_38 : decode cX1_commonDivisor 38 = .ok (.goto (-23), 3) := by decide +kernel
theorem dX1_commonDivisor_41 : decode cX1_commonDivisor 41 = .ok (.iload_n 1, 1) := by decide +kernel
theorem dX1_commonDivisor_42 : decode cX1_commonDivisor 42 = .ok (.ireturn, 1) := by decide +kernel
theorem dX2_init_0 : decode cX2_init 0 = .ok (.aload_n 0, 1) := by decide +kernel
theorem dX2_init_1 : decode cX2_init 1 = .ok (.invokespecial 3, 3) := by decide +kernel
theorem dX2_init_4 : decode cX2_init 4 = .ok (.aload_n 0, 1) := by decide +kernel
theorem dX2_init_5 : decode cX2_init 5 = .ok (.bipush 66, 2) := by decide +kernel
theorem dX2_init_7 : decode cX2_init 7 = .ok (.newarray .int, 2) := by decide +kernel
theorem dX2_init_9 : decode cX2_init 9 = .ok (.putfield 9, 3) := by decide +kernel
theorem dX2_init_12 : decode cX2_init 12 = .ok (.aload_n 0, 1) := by decide +kernel
theorem dX2_init_13 : decode cX2_init 13 = .ok (.bipush 66, 2) := by decide +kernel
theorem dX2_init_15 : decode cX2_init 15 = .ok (.newarray .int, 2) := by decide +kernel
theorem dX2_init_17 : decode cX2_init 17 = .ok (.putfield 15, 3) := by decide +kernel
theorem dX2_init_20 : decode cX2_init 20 = .ok (.aload_n 0, 1) := by decide +kernel
theorem dX2_init_21 : decode cX2_init 21 = .ok (.bipush 66, 2) := by decide +kernel
theorem dX2_init_23 : decode cX2_init 23 = .ok (.newarray .int, 2) := by decide +kernel
theorem dX2_init_25 : decode cX2_init 25 = .ok (.putfield 18, 3) := by decide +kernel
theorem dX2_init_28 : decode cX2_init 28 = .ok (.aload_n 0, 1) := by decide +kernel
theorem dX2_init_29 : decode cX2_init 29 = .ok (.bipush 66, 2) := by decide +kernel
theorem dX2_init_31 : decode cX2_init 31 = .ok (.newarray .int, 2) := by decide +kernel
theorem dX2_init_33 : decode cX2_init 33 = .ok (.putfield 21, 3) := by decide +kernel
theorem dX2_init_36 : decode cX2_init 36 = .ok (.return_, 1) := by decide +kernel
theorem dX2_orderAll_0 : decode cX2_orderAll 0 = .ok (.aload_n 0, 1) := by decide +kernel
theorem dX2_orderAll_1 : decode cX2_orderAll 1 = .ok (.iconst 0, 1) := by decide +kernel
theorem dX2_orderAll_2 : decode cX2_orderAll 2 = .ok (.putfield 24, 3) := by decide +kernel
theorem dX2_orderAll_5 : decode cX2_orderAll 5 = .ok (.aload_n 0, 1) := by decide +kernel
theorem dX2_orderAll_6 : decode cX2_orderAll 6 = .ok (.aload_n 1, 1) := by decide +kernel
theorem dX2_orderAll_7 : decode cX2_orderAll 7 = .ok (.invokevirtual 28, 3) := by decide +kernel
theorem dX2_orderAll_10 : decode cX2_orderAll 10 = .ok (.putfield 34, 3) := by decide +kernel
theorem dX2_orderAll_13 : decode cX2_orderAll 13 = .ok (.iconst 1, 1) := by decide +kernel
theorem dX2_orderAll_14 : decode cX2_orderAll 14 = .ok (.istore_n 2, 1) := by decide +kernel
theorem dX2_orderAll_15 : decode cX2_orderAll 15 = .ok (.iload_n 2, 1) := by decide +kernel
theorem dX2_orderAll_16 : decode cX2_orderAll 16 = .ok (.aload_n 1, 1) := by decide +kernel
theorem dX2_orderAll_17 : decode cX2_orderAll 17 = .ok (.invokevirtual 28, 3) := by decide +kernel
theorem dX2_orderAll_20 : decode cX2_orderAll 20 = .ok (.if_icmp .ge 29, 3) := by decide +kernel
theorem dX2_orderAll_23 : decode cX2_orderAll 23 = .ok (.iconst 0, 1) := by decide +kernel
theorem dX2_orderAll_24 : decode cX2_orderAll 24 = .ok (.istore_n 3, 1) := by decide +kernel
theorem dX2_orderAll_25 : decode cX2_orderAll 25 = .ok (.iload_n 3, 1) := by decide +kernel
theorem dX2_orderAll_26 : decode cX2_orderAll 26 = .ok (.iload_n 2, 1) := by decide +kernel
theorem dX2_orderAll_27 : decode cX2_orderAll 27 = .ok (.if_icmp .ge 16, 3) := by decide +kernel
theorem dX2_orderAll_30 : decode cX2_orderAll 30 = .ok (.aload_n 0, 1) := by decide +kernel
theorem dX2_orderAll_31 : decode cX2_orderAll 31 = .ok (.aload_n 1, 1) := by decide +kernel
theorem dX2_orderAll_32 : decode cX2_orderAll 32 = .ok (.iload_n 3, 1) := by decide +kernel
theorem dX2_orderAll_33 : decode cX2_orderAll 33 = .ok (.iload_n 2, 1) := by decide +kernel
theorem dX2_orderAll_34 : decode cX2_orderAll 34 = .ok (.invokevirtual 37, 3) := by decide +kernel
theorem dX2_orderAll_37 : decode cX2_orderAll 37 = .ok (.iinc 3 1, 3) := by decide +kernel
theorem dX2_orderAll_40 : decode cX2_orderAll 40 = .ok (.goto (-15), 3) := by decide +kernel
theorem dX2_orderAll_43 : decode cX2_orderAll 43 = .ok (.iinc 2 1, 3) := by decide +kernel
theorem dX2_orderAll_46 : decode cX2_orderAll 46 = .ok (.goto (-31), 3) := by decide +kernel
theorem dX2_orderAll_49 : decode cX2_orderAll 49 = .ok (.return_, 1) := by decide +kernel
theorem dX2_putInOrder_0 : decode cX2_putInOrder 0 = .ok (.aload_n 0, 1) := by decide +kernel
theorem dX2_putInOrder_1 : decode cX2_putInOrder 1 = .ok (.getfield 24, 3) := by decide +kernel
theorem dX2_putInOrder_4 : decode cX2_putInOrder 4 = .ok (.bipush 66, 2) := by decide +kernel
theorem dX2_putInOrder_6 : decode cX2_putInOrder 6 = .ok (.if_icmp .lt 4, 3) := by decide +kernel
theorem dX2_putInOrder_9 : decode cX2_putInOrder 9 = .ok (.return_, 1) := by decide +kernel
theorem dX2_putInOrder_10 : decode cX2_putInOrder 10 = .ok (.aload_n 1, 1) := by decide +kernel
theorem dX2_putInOrder_11 : decode cX2_putInOrder 11 = .ok (.iload_n 3, 1) := by decide +kernel
theorem dX2_putInOrder_12 : decode cX2_putInOrder 12 = .ok (.invokevirtual 41, 3) := by decide +kernel
theorem dX2_putInOrder_15 : decode cX2_putInOrder 15 = .ok (.aload_n 1, 1) := by decide +kernel
theorem dX2_putInOrder_16 : decode cX2_putInOrder 16 = .ok (.iload_n 2, 1) := by decide +kernel
theorem dX2_putInOrder_17 : decode cX2_putInOrder 17 = .ok (.invokevirtual 41, 3) := by decide +kernel
theorem dX2_putInOrder_20 : decode cX2_putInOrder 20 = .ok (.isub, 1) := by decide +kernel
theorem dX2_putInOrder_21 : decode cX2_putInOrder 21 = .ok (.istore 4, 2) := by decide +kernel
theorem dX2_putInOrder_23 : decode cX2_putInOrder 23 = .ok (.aload_n 1, 1) := by decide +kernel
theorem dX2_putInOrder_24 : decode cX2_putInOrder 24 = .ok (.iload_n 3, 1) := by decide +kernel
theorem dX2_putInOrder_25 : decode cX2_putInOrder 25 = .ok (.invokevirtual 45, 3) := by decide +kernel
theorem dX2_putInOrder_28 : decode cX2_putInOrder 28 = .ok (.aload_n 1, 1) := by decide +kernel
theorem dX2_putInOrder_29 : decode cX2_putInOrder 29 = .ok (.iload_n 2, 1) := by decide +kernel
theorem dX2_putInOrder_30 : decode cX2_putInOrder 30 = .ok (.invokevirtual 45, 3) := by decide +kernel
theorem dX2_putInOrder_33 : decode cX2_putInOrder 33 = .ok (.isub, 1) := by decide +kernel
theorem dX2_putInOrder_34 : decode cX2_putInOrder 34 = .ok (.istore 5, 2) := by decide +kernel
theorem dX2_putInOrder_36 : decode cX2_putInOrder 36 = .ok (.aload_n 0, 1) := by decide +kernel
theorem dX2_putInOrder_37 : decode cX2_putInOrder 37 = .ok (.getfield 24, 3) := by decide +kernel
theorem dX2_putInOrder_40 : decode cX2_putInOrder 40 = .ok (.istore 6, 2) := by decide +kernel
theorem dX2_putInOrder_42 : decode cX2_putInOrder 42 = .ok (.iload 6, 2) := by decide +kernel
theorem dX2_putInOrder_44 : decode cX2_putInOrder 44 = .ok (.ifCond .le 88, 3) := by decide +kernel
theorem dX2_putInOrder_47 : decode cX2_putInOrder 47 = .ok (.aload_n 0, 1) := by decide +kernel
theorem dX2_putInOrder_48 : decode cX2_putInOrder 48 = .ok (.iload 6, 2) := by decide +kernel
theorem dX2_putInOrder_50 : decode cX2_putInOrder 50 = .ok (.iconst 1, 1) := by decide +kernel
theorem dX2_putInOrder_51 : decode cX2_putInOrder 51 = .ok (.isub, 1) := by decide +kernel
theorem dX2_putInOrder_52 : decode cX2_putInOrder 52 = .ok (.iload 4, 2) := by decide +kernel
theorem dX2_putInOrder_54 : decode cX2_putInOrder 54 = .ok (.iload 5, 2) := by decide +kernel
theorem dX2_putInOrder_56 : decode cX2_putInOrder 56 = .ok (.invokevirtual 48, 3) := by decide +kernel
theorem dX2_putInOrder_59 : decode cX2_putInOrder 59 = .ok (.ifCond .eq 73, 3) := by decide +kernel
theorem dX2_putInOrder_62 : decode cX2_putInOrder 62 = .ok (.aload_n 0, 1) := by decide +kernel
theorem dX2_putInOrder_63 : decode cX2_putInOrder 63 = .ok (.getfield 9, 3) := by decide +kernel
theorem dX2_putInOrder_66 : decode cX2_putInOrder 66 = .ok (.iload 6, 2) := by decide +kernel
theorem dX2_putInOrder_68 : decode cX2_putInOrder 68 = .ok (.aload_n 0, 1) := by decide +kernel
theorem dX2_putInOrder_69 : decode cX2_putInOrder 69 = .ok (.getfield 9, 3) := by decide +kernel
theorem dX2_putInOrder_72 : decode cX2_putInOrder 72 = .ok (.iload 6, 2) := by decide +kernel
theorem dX2_putInOrder_74 : decode cX2_putInOrder 74 = .ok (.iconst 1, 1) := by decide +kernel
theorem dX2_putInOrder_75 : decode cX2_putInOrder 75 = .ok (.isub, 1) := by decide +kernel
theorem dX2_putInOrder_76 : decode cX2_putInOrder 76 = .ok (.iaload, 1) := by decide +kernel
theorem dX2_putInOrder_77 : decode cX2_putInOrder 77 = .ok (.iastore, 1) := by decide +kernel
theorem dX2_putInOrder_78 : decode cX2_putInOrder 78 = .ok (.aload_n 0, 1) := by decide +kernel
theorem dX2_putInOrder_79 : decode cX2_putInOrder 79 = .ok (.getfield 15, 3) := by decide +kernel
theorem dX2_putInOrder_82 : decode cX2_putInOrder 82 = .ok (.iload 6, 2) := by decide +kernel
theorem dX2_putInOrder_84 : decode cX2_putInOrder 84 = .ok (.aload_n 0, 1) := by decide +kernel
theorem dX2_putInOrder_85 : decode cX2_putInOrder 85 = .ok (.getfield 15, 3) := by decide +kernel
theorem dX2_putInOrder_88 : decode cX2_putInOrder 88 = .ok (.iload 6, 2) := by decide +kernel
theorem dX2_putInOrder_90 : decode cX2_putInOrder 90 = .ok (.iconst 1, 1) := by decide +kernel
theorem dX2_putInOrder_91 : decode cX2_putInOrder 91 = .ok (.isub, 1) := by decide +kernel
theorem dX2_putInOrder_92 : decode cX2_putInOrder 92 = .ok (.iaload, 1) := by decide +kernel
theorem dX2_putInOrder_93 : decode cX2_putInOrder 93 = .ok (.iastore, 1) := by decide +kernel
theorem dX2_putInOrder_94 : decode cX2_putInOrder 94 = .ok (.aload_n 0, 1) := by decide +kernel
theorem dX2_putInOrder_95 : decode cX2_putInOrder 95 = .ok (.getfield 18, 3) := by decide +kernel
theorem dX2_putInOrder_98 : decode cX2_putInOrder 98 = .ok (.iload 6, 2) := by decide +kernel
theorem dX2_putInOrder_100 : decode cX2_putInOrder 100 = .ok (.aload_n 0, 1) := by decide +kernel
theorem dX2_putInOrder_101 : decode cX2_putInOrder 101 = .ok (.getfield 18, 3) := by decide +kernel
theorem dX2_putInOrder_104 : decode cX2_putInOrder 104 = .ok (.iload 6, 2) := by decide +kernel
theorem dX2_putInOrder_106 : decode cX2_putInOrder 106 = .ok (.iconst 1, 1) := by decide +kernel
theorem dX2_putInOrder_107 : decode cX2_putInOrder 107 = .ok (.isub, 1) := by decide +kernel
theorem dX2_putInOrder_108 : decode cX2_putInOrder 108 = .ok (.iaload, 1) := by decide +kernel
theorem dX2_putInOrder_109 : decode cX2_putInOrder 109 = .ok (.iastore, 1) := by decide +kernel
theorem dX2_putInOrder_110 : decode cX2_putInOrder 110 = .ok (.aload_n 0, 1) := by decide +kernel
theorem dX2_putInOrder_111 : decode cX2_putInOrder 111 = .ok (.getfield 21, 3) := by decide +kernel
theorem dX2_putInOrder_114 : decode cX2_putInOrder 114 = .ok (.iload 6, 2) := by decide +kernel
theorem dX2_putInOrder_116 : decode cX2_putInOrder 116 = .ok (.aload_n 0, 1) := by decide +kernel
theorem dX2_putInOrder_117 : decode cX2_putInOrder 117 = .ok (.getfield 21, 3) := by decide +kernel
theorem dX2_putInOrder_120 : decode cX2_putInOrder 120 = .ok (.iload 6, 2) := by decide +kernel
theorem dX2_putInOrder_122 : decode cX2_putInOrder 122 = .ok (.iconst 1, 1) := by decide +kernel
theorem dX2_putInOrder_123 : decode cX2_putInOrder 123 = .ok (.isub, 1) := by decide +kernel
theorem dX2_putInOrder_124 : decode cX2_putInOrder 124 = .ok (.iaload, 1) := by decide +kernel
theorem dX2_putInOrder_125 : decode cX2_putInOrder 125 = .ok (.iastore, 1) := by decide +kernel
theorem dX2_putInOrder_126 : decode cX2_putInOrder 126 = .ok (.iinc 6 (-1), 3) := by decide +kernel
theorem dX2_putInOrder_129 : decode cX2_putInOrder 129 = .ok (.goto (-87), 3) := by decide +kernel
theorem dX2_putInOrder_132 : decode cX2_putInOrder 132 = .ok (.aload_n 0, 1) := by decide +kernel
theorem dX2_putInOrder_133 : decode cX2_putInOrder 133 = .ok (.getfield 9, 3) := by decide +kernel
theorem dX2_putInOrder_136 : decode cX2_putInOrder 136 = .ok (.iload 6, 2) := by decide +kernel
theorem dX2_putInOrder_138 : decode cX2_putInOrder 138 = .ok (.iload 4, 2) := by decide +kernel
theorem dX2_putInOrder_140 : decode cX2_putInOrder 140 = .ok (.iastore, 1) := by decide +kernel
theorem dX2_putInOrder_141 : decode cX2_putInOrder 141 = .ok (.aload_n 0, 1) := by decide +kernel
theorem dX2_putInOrder_142 : decode cX2_putInOrder 142 = .ok (.getfield 15, 3) := by decide +kernel
theorem dX2_putInOrder_145 : decode cX2_putInOrder 145 = .ok (.iload 6, 2) := by decide +kernel
theorem dX2_putInOrder_147 : decode cX2_putInOrder 147 = .ok (.iload 5, 2) := by decide +kernel
theorem dX2_putInOrder_149 : decode cX2_putInOrder 149 = .ok (.iastore, 1) := by decide +kernel
theorem dX2_putInOrder_150 : decode cX2_putInOrder 150 = .ok (.aload_n 0, 1) := by decide +kernel
theorem dX2_putInOrder_151 : decode cX2_putInOrder 151 = .ok (.getfield 18, 3) := by decide +kernel
theorem dX2_putInOrder_154 : decode cX2_putInOrder 154 = .ok (.iload 6, 2) := by decide +kernel
theorem dX2_putInOrder_156 : decode cX2_putInOrder 156 = .ok (.iload_n 2, 1) := by decide +kernel
theorem dX2_putInOrder_157 : decode cX2_putInOrder 157 = .ok (.iastore, 1) := by decide +kernel
theorem dX2_putInOrder_158 : decode cX2_putInOrder 158 = .ok (.aload_n 0, 1) := by decide +kernel
theorem dX2_putInOrder_159 : decode cX2_putInOrder 159 = .ok (.getfield 21, 3) := by decide +kernel
theorem dX2_putInOrder_162 : decode cX2_putInOrder 162 = .ok (.iload 6, 2) := by decide +kernel
theorem dX2_putInOrder_164 : decode cX2_putInOrder 164 = .ok (.iload_n 3, 1) := by decide +kernel
theorem dX2_putInOrder_165 : decode cX2_putInOrder 165 = .ok (.iastore, 1) := by decide +kernel
theorem dX2_putInOrder_166 : decode cX2_putInOrder 166 = .ok (.aload_n 0, 1) := by decide +kernel
theorem dX2_putInOrder_167 : decode cX2_putInOrder 167 = .ok (.dup, 1) := by decide +kernel
theorem dX2_putInOrder_168 : decode cX2_putInOrder 168 = .ok (.getfield 24, 3) := by decide +kernel
theorem dX2_putInOrder_171 : decode cX2_putInOrder 171 = .ok (.iconst 1, 1) := by decide +kernel
theorem dX2_putInOrder_172 : decode cX2_putInOrder 172 = .ok (.iadd, 1) := by decide +kernel
theorem dX2_putInOrder_173 : decode cX2_putInOrder 173 = .ok (.putfield 24, 3) := by decide +kernel
theorem dX2_putInOrder_176 : decode cX2_putInOrder 176 = .ok (.return_, 1) := by decide +kernel
theorem dX2_isGreater_0 : decode cX2_isGreater 0 = .ok (.aload_n 0, 1) := by decide +kernel
theorem dX2_isGreater_1 : decode cX2_isGreater 1 = .ok (.iload_n 1, 1) := by decide +kernel
theorem dX2_isGreater_2 : decode cX2_isGreater 2 = .ok (.invokevirtual 52, 3) := by decide +kernel
theorem dX2_isGreater_5 : decode cX2_isGreater 5 = .ok (.i2l, 1) := by decide +kernel
theorem dX2_isGreater_6 : decode cX2_isGreater 6 = .ok (.iload_n 3, 1) := by decide +kernel
theorem dX2_isGreater_7 : decode cX2_isGreater 7 = .ok (.i2l, 1) := by decide +kernel
theorem dX2_isGreater_8 : decode cX2_isGreater 8 = .ok (.lmul, 1) := by decide +kernel
theorem dX2_isGreater_9 : decode cX2_isGreater 9 = .ok (.iload_n 2, 1) := by decide +kernel
theorem dX2_isGreater_10 : decode cX2_isGreater 10 = .ok (.i2l, 1) := by decide +kernel
theorem dX2_isGreater_11 : decode cX2_isGreater 11 = .ok (.aload_n 0, 1) := by decide +kernel
theorem dX2_isGreater_12 : decode cX2_isGreater 12 = .ok (.iload_n 1, 1) := by decide +kernel
theorem dX2_isGreater_13 : decode cX2_isGreater 13 = .ok (.invokevirtual 55, 3) := by decide +kernel
theorem dX2_isGreater_16 : decode cX2_isGreater 16 = .ok (.i2l, 1) := by decide +kernel
theorem dX2_isGreater_17 : decode cX2_isGreater 17 = .ok (.lmul, 1) := by decide +kernel
theorem dX2_isGreater_18 : decode cX2_isGreater 18 = .ok (.lcmp, 1) := by decide +kernel
theorem dX2_isGreater_19 : decode cX2_isGreater 19 = .ok (.ifCond .le 7, 3) := by decide +kernel
theorem dX2_isGreater_22 : decode cX2_isGreater 22 = .ok (.iconst 1, 1) := by decide +kernel
theorem dX2_isGreater_23 : decode cX2_isGreater 23 = .ok (.goto 4, 3) := by decide +kernel
theorem dX2_isGreater_26 : decode cX2_isGreater 26 = .ok (.iconst 0, 1) := by decide +kernel
theorem dX2_isGreater_27 : decode cX2_isGreater 27 = .ok (.ireturn, 1) := by decide +kernel
theorem dX2_middlePlaceWithout_0 : decode cX2_middlePlaceWithout 0 = .ok (.aload_n 0, 1) := by decide +kernel
theorem dX2_middlePlaceWithout_1 : decode cX2_middlePlaceWithout 1 = .ok (.iload_n 1, 1) := by decide +kernel
theorem dX2_middlePlaceWithout_2 : decode cX2_middlePlaceWithout 2 = .ok (.invokevirtual 58, 3) := by decide +kernel
theorem dX2_middlePlaceWithout_5 : decode cX2_middlePlaceWithout 5 = .ok (.invokestatic 61, 3) := by decide +kernel
theorem dX2_middlePlaceWithout_8 : decode cX2_middlePlaceWithout 8 = .ok (.istore_n 2, 1) := by decide +kernel
theorem dX2_middlePlaceWithout_9 : decode cX2_middlePlaceWithout 9 = .ok (.iconst 0, 1) := by decide +kernel
theorem dX2_middlePlaceWithout_10 : decode cX2_middlePlaceWithout 10 = .ok (.istore_n 3, 1) := by decide +kernel
theorem dX2_middlePlaceWithout_11 : decode cX2_middlePlaceWithout 11 = .ok (.iconst 0, 1) := by decide +kernel
theorem dX2_middlePlaceWithout_12 : decode cX2_middlePlaceWithout 12 = .ok (.istore 4, 2) := by decide +kernel
theorem dX2_middlePlaceWithout_14 : decode cX2_middlePlaceWithout 14 = .ok (.iload 4, 2) := by decide +kernel
theorem dX2_middlePlaceWithout_16 : decode cX2_middlePlaceWithout 16 = .ok (.aload_n 0, 1) := by decide +kernel
theorem dX2_middlePlaceWithout_17 : decode cX2_middlePlaceWithout 17 = .ok (.getfield 24, 3) := by decide +kernel
theorem dX2_middlePlaceWithout_20 : decode cX2_middlePlaceWithout 20 = .ok (.if_icmp .ge 30, 3) := by decide +kernel
theorem dX2_middlePlaceWithout_23 : decode cX2_middlePlaceWithout 23 = .ok (.aload_n 0, 1) := by decide +kernel
theorem dX2_middlePlaceWithout_24 : decode cX2_middlePlaceWithout 24 = .ok (.iload 4, 2) := by decide +kernel
theorem dX2_middlePlaceWithout_26 : decode cX2_middlePlaceWithout 26 = .ok (.iload_n 1, 1) := by decide +kernel
theorem dX2_middlePlaceWithout_27 : decode cX2_middlePlaceWithout 27 = .ok (.invokevirtual 64, 3) := by decide +kernel
theorem dX2_middlePlaceWithout_30 : decode cX2_middlePlaceWithout 30 = .ok (.ifCond .eq 14, 3) := by decide +kernel
theorem dX2_middlePlaceWithout_33 : decode cX2_middlePlaceWithout 33 = .ok (.iload_n 3, 1) := by decide +kernel
theorem dX2_middlePlaceWithout_34 : decode cX2_middlePlaceWithout 34 = .ok (.iload_n 2, 1) := by decide +kernel
theorem dX2_middlePlaceWithout_35 : decode cX2_middlePlaceWithout 35 = .ok (.if_icmp .ne 6, 3) := by decide +kernel
theorem dX2_middlePlaceWithout_38 : decode cX2_middlePlaceWithout 38 = .ok (.iload 4, 2) := by decide +kernel
theorem dX2_middlePlaceWithout_40 : decode cX2_middlePlaceWithout 40 = .ok (.ireturn, 1) := by decide +kernel
theorem dX2_middlePlaceWithout_41 : decode cX2_middlePlaceWithout 41 = .ok (.iinc 3 1, 3) := by decide +kernel
theorem dX2_middlePlaceWithout_44 : decode cX2_middlePlaceWithout 44 = .ok (.iinc 4 1, 3) := by decide +kernel
theorem dX2_middlePlaceWithout_47 : decode cX2_middlePlaceWithout 47 = .ok (.goto (-33), 3) := by decide +kernel
theorem dX2_middlePlaceWithout_50 : decode cX2_middlePlaceWithout 50 = .ok (.iconst (-1), 1) := by decide +kernel
theorem dX2_middlePlaceWithout_51 : decode cX2_middlePlaceWithout 51 = .ok (.ireturn, 1) := by decide +kernel
theorem dX2_numberWithout_0 : decode cX2_numberWithout 0 = .ok (.iload_n 1, 1) := by decide +kernel
theorem dX2_numberWithout_1 : decode cX2_numberWithout 1 = .ok (.iconst (-1), 1) := by decide +kernel
theorem dX2_numberWithout_2 : decode cX2_numberWithout 2 = .ok (.if_icmp .ne 10, 3) := by decide +kernel
theorem dX2_numberWithout_5 : decode cX2_numberWithout 5 = .ok (.aload_n 0, 1) := by decide +kernel
theorem dX2_numberWithout_6 : decode cX2_numberWithout 6 = .ok (.getfield 34, 3) := by decide +kernel
theorem dX2_numberWithout_9 : decode cX2_numberWithout 9 = .ok (.goto 9, 3) := by decide +kernel
theorem dX2_numberWithout_12 : decode cX2_numberWithout 12 = .ok (.aload_n 0, 1) := by decide +kernel
theorem dX2_numberWithout_13 : decode cX2_numberWithout 13 = .ok (.getfield 34, 3) := by decide +kernel
theorem dX2_numberWithout_16 : decode cX2_numberWithout 16 = .ok (.iconst 1, 1) := by decide +kernel
theorem dX2_numberWithout_17 : decode cX2_numberWithout 17 = .ok (.isub, 1) := by decide +kernel
theorem dX2_numberWithout_18 : decode cX2_numberWithout 18 = .ok (.istore_n 2, 1) := by decide +kernel
theorem dX2_numberWithout_19 : decode cX2_numberWithout 19 = .ok (.iload_n 2, 1) := by decide +kernel
theorem dX2_numberWithout_20 : decode cX2_numberWithout 20 = .ok (.iload_n 2, 1) := by decide +kernel
theorem dX2_numberWithout_21 : decode cX2_numberWithout 21 = .ok (.iconst 1, 1) := by decide +kernel
theorem dX2_numberWithout_22 : decode cX2_numberWithout 22 = .ok (.isub, 1) := by decide +kernel
theorem dX2_numberWithout_23 : decode cX2_numberWithout 23 = .ok (.imul, 1) := by decide +kernel
theorem dX2_numberWithout_24 : decode cX2_numberWithout 24 = .ok (.iconst 2, 1) := by decide +kernel
theorem dX2_numberWithout_25 : decode cX2_numberWithout 25 = .ok (.idiv, 1) := by decide +kernel
theorem dX2_numberWithout_26 : decode cX2_numberWithout 26 = .ok (.ireturn, 1) := by decide +kernel
theorem dX2_isWithout_0 : decode cX2_isWithout 0 = .ok (.iload_n 1, 1) := by decide +kernel
theorem dX2_isWithout_1 : decode cX2_isWithout 1 = .ok (.ifCond .lt 35, 3) := by decide +kernel
theorem dX2_isWithout_4 : decode cX2_isWithout 4 = .ok (.iload_n 1, 1) := by decide +kernel
theorem dX2_isWithout_5 : decode cX2_isWithout 5 = .ok (.aload_n 0, 1) := by decide +kernel
theorem dX2_isWithout_6 : decode cX2_isWithout 6 = .ok (.getfield 24, 3) := by decide +kernel
theorem dX2_isWithout_9 : decode cX2_isWithout 9 = .ok (.if_icmp .ge 27, 3) := by decide +kernel
theorem dX2_isWithout_12 : decode cX2_isWithout 12 = .ok (.aload_n 0, 1) := by decide +kernel
theorem dX2_isWithout_13 : decode cX2_isWithout 13 = .ok (.getfield 18, 3) := by decide +kernel
theorem dX2_isWithout_16 : decode cX2_isWithout 16 = .ok (.iload_n 1, 1) := by decide +kernel
theorem dX2_isWithout_17 : decode cX2_isWithout 17 = .ok (.iaload, 1) := by decide +kernel
theorem dX2_isWithout_18 : decode cX2_isWithout 18 = .ok (.iload_n 2, 1) := by decide +kernel
theorem dX2_isWithout_19 : decode cX2_isWithout 19 = .ok (.if_icmp .eq 17, 3) := by decide +kernel
theorem dX2_isWithout_22 : decode cX2_isWithout 22 = .ok (.aload_n 0, 1) := by decide +kernel
theorem dX2_isWithout_23 : decode cX2_isWithout 23 = .ok (.getfield 21, 3) := by decide +kernel
theorem dX2_isWithout_26 : decode cX2_isWithout 26 = .ok (.iload_n 1, 1) := by decide +kernel
theorem dX2_isWithout_27 : decode cX2_isWithout 27 = .ok (.iaload, 1) := by decide +kernel
theorem dX2_isWithout_28 : decode cX2_isWithout 28 = .ok (.iload_n 2, 1) := by decide +kernel
theorem dX2_isWithout_29 : decode cX2_isWithout 29 = .ok (.if_icmp .eq 7, 3) := by decide +kernel
theorem dX2_isWithout_32 : decode cX2_isWithout 32 = .ok (.iconst 1, 1) := by decide +kernel
theorem dX2_isWithout_33 : decode cX2_isWithout 33 = .ok (.goto 4, 3) := by decide +kernel
theorem dX2_isWithout_36 : decode cX2_isWithout 36 = .ok (.iconst 0, 1) := by decide +kernel
theorem dX2_isWithout_37 : decode cX2_isWithout 37 = .ok (.ireturn, 1) := by decide +kernel
theorem dX2_riseAt_0 : decode cX2_riseAt 0 = .ok (.aload_n 0, 1) := by decide +kernel
theorem dX2_riseAt_1 : decode cX2_riseAt 1 = .ok (.iload_n 1, 1) := by decide +kernel
theorem dX2_riseAt_2 : decode cX2_riseAt 2 = .ok (.invokevirtual 68, 3) := by decide +kernel
theorem dX2_riseAt_5 : decode cX2_riseAt 5 = .ok (.ifCond .eq 12, 3) := by decide +kernel
theorem dX2_riseAt_8 : decode cX2_riseAt 8 = .ok (.aload_n 0, 1) := by decide +kernel
theorem dX2_riseAt_9 : decode cX2_riseAt 9 = .ok (.getfield 9, 3) := by decide +kernel
theorem dX2_riseAt_12 : decode cX2_riseAt 12 = .ok (.iload_n 1, 1) := by decide +kernel
theorem dX2_riseAt_13 : decode cX2_riseAt 13 = .ok (.iaload, 1) := by decide +kernel
theorem dX2_riseAt_14 : decode cX2_riseAt 14 = .ok (.goto 4, 3) := by decide +kernel
theorem dX2_riseAt_17 : decode cX2_riseAt 17 = .ok (.iconst 0, 1) := by decide +kernel
theorem dX2_riseAt_18 : decode cX2_riseAt 18 = .ok (.ireturn, 1) := by decide +kernel
theorem dX2_runAt_0 : decode cX2_runAt 0 = .ok (.aload_n 0, 1) := by decide +kernel
theorem dX2_runAt_1 : decode cX2_runAt 1 = .ok (.iload_n 1, 1) := by decide +kernel
theorem dX2_runAt_2 : decode cX2_runAt 2 = .ok (.invokevirtual 68, 3) := by decide +kernel
theorem dX2_runAt_5 : decode cX2_runAt 5 = .ok (.ifCond .eq 12, 3) := by decide +kernel
theorem dX2_runAt_8 : decode cX2_runAt 8 = .ok (.aload_n 0, 1) := by decide +kernel
theorem dX2_runAt_9 : decode cX2_runAt 9 = .ok (.getfield 15, 3) := by decide +kernel
theorem dX2_runAt_12 : decode cX2_runAt 12 = .ok (.iload_n 1, 1) := by decide +kernel
theorem dX2_runAt_13 : decode cX2_runAt 13 = .ok (.iaload, 1) := by decide +kernel
theorem dX2_runAt_14 : decode cX2_runAt 14 = .ok (.goto 4, 3) := by decide +kernel
theorem dX2_runAt_17 : decode cX2_runAt 17 = .ok (.iconst 1, 1) := by decide +kernel
theorem dX2_runAt_18 : decode cX2_runAt 18 = .ok (.ireturn, 1) := by decide +kernel
theorem dX2_has_0 : decode cX2_has 0 = .ok (.iload_n 1, 1) := by decide +kernel
theorem dX2_has_1 : decode cX2_has 1 = .ok (.ifCond .lt 15, 3) := by decide +kernel
theorem dX2_has_4 : decode cX2_has 4 = .ok (.iload_n 1, 1) := by decide +kernel
theorem dX2_has_5 : decode cX2_has 5 = .ok (.aload_n 0, 1) := by decide +kernel
theorem dX2_has_6 : decode cX2_has 6 = .ok (.getfield 24, 3) := by decide +kernel
theorem dX2_has_9 : decode cX2_has 9 = .ok (.if_icmp .ge 7, 3) := by decide +kernel
theorem dX2_has_12 : decode cX2_has 12 = .ok (.iconst 1, 1) := by decide +kernel
theorem dX2_has_13 : decode cX2_has 13 = .ok (.goto 4, 3) := by decide +kernel
theorem dX2_has_16 : decode cX2_has 16 = .ok (.iconst 0, 1) := by decide +kernel
theorem dX2_has_17 : decode cX2_has 17 = .ok (.ireturn, 1) := by decide +kernel
theorem dX3_init_0 : decode cX3_init 0 = .ok (.aload_n 0, 1) := by decide +kernel
theorem dX3_init_1 : decode cX3_init 1 = .ok (.invokespecial 1, 3) := by decide +kernel
theorem dX3_init_4 : decode cX3_init 4 = .ok (.return_, 1) := by decide +kernel
theorem dX3_change_0 : decode cX3_change 0 = .ok (.aload_n 0, 1) := by decide +kernel
theorem dX3_change_1 : decode cX3_change 1 = .ok (.iload_n 1, 1) := by decide +kernel
theorem dX3_change_2 : decode cX3_change 2 = .ok (.putfield 7, 3) := by decide +kernel
theorem dX3_change_5 : decode cX3_change 5 = .ok (.aload_n 0, 1) := by decide +kernel
theorem dX3_change_6 : decode cX3_change 6 = .ok (.iload_n 2, 1) := by decide +kernel
theorem dX3_change_7 : decode cX3_change 7 = .ok (.putfield 13, 3) := by decide +kernel
theorem dX3_change_10 : decode cX3_change 10 = .ok (.return_, 1) := by decide +kernel
theorem dX3_daysWithin_0 : decode cX3_daysWithin 0 = .ok (.aload_n 0, 1) := by decide +kernel
theorem dX3_daysWithin_1 : decode cX3_daysWithin 1 = .ok (.iload_n 2, 1) := by decide +kernel
theorem dX3_daysWithin_2 : decode cX3_daysWithin 2 = .ok (.invokevirtual 16, 3) := by decide +kernel
theorem dX3_daysWithin_5 : decode cX3_daysWithin 5 = .ok (.aload_n 0, 1) := by decide +kernel
theorem dX3_daysWithin_6 : decode cX3_daysWithin 6 = .ok (.iload_n 1, 1) := by decide +kernel
theorem dX3_daysWithin_7 : decode cX3_daysWithin 7 = .ok (.invokevirtual 16, 3) := by decide +kernel
theorem dX3_daysWithin_10 : decode cX3_daysWithin 10 = .ok (.isub, 1) := by decide +kernel
theorem dX3_daysWithin_11 : decode cX3_daysWithin 11 = .ok (.ireturn, 1) := by decide +kernel
theorem dX3_daysUntil_0 : decode cX3_daysUntil 0 = .ok (.aload_n 0, 1) := by decide +kernel
theorem dX3_daysUntil_1 : decode cX3_daysUntil 1 = .ok (.getfield 13, 3) := by decide +kernel
theorem dX3_daysUntil_4 : decode cX3_daysUntil 4 = .ok (.ifCond .le 27, 3) := by decide +kernel
theorem dX3_daysUntil_7 : decode cX3_daysUntil 7 = .ok (.iload_n 1, 1) := by decide +kernel
theorem dX3_daysUntil_8 : decode cX3_daysUntil 8 = .ok (.aload_n 0, 1) := by decide +kernel
theorem dX3_daysUntil_9 : decode cX3_daysUntil 9 = .ok (.getfield 7, 3) := by decide +kernel
theorem dX3_daysUntil_12 : decode cX3_daysUntil 12 = .ok (.if_icmp .lt 19, 3) := by decide +kernel
theorem dX3_daysUntil_15 : decode cX3_daysUntil 15 = .ok (.iload_n 1, 1) := by decide +kernel
theorem dX3_daysUntil_16 : decode cX3_daysUntil 16 = .ok (.aload_n 0, 1) := by decide +kernel
theorem dX3_daysUntil_17 : decode cX3_daysUntil 17 = .ok (.getfield 7, 3) := by decide +kernel
theorem dX3_daysUntil_20 : decode cX3_daysUntil 20 = .ok (.isub, 1) := by decide +kernel
theorem dX3_daysUntil_21 : decode cX3_daysUntil 21 = .ok (.aload_n 0, 1) := by decide +kernel
theorem dX3_daysUntil_22 : decode cX3_daysUntil 22 = .ok (.getfield 13, 3) := by decide +kernel
theorem dX3_daysUntil_25 : decode cX3_daysUntil 25 = .ok (.idiv, 1) := by decide +kernel
theorem dX3_daysUntil_26 : decode cX3_daysUntil 26 = .ok (.iconst 1, 1) := by decide +kernel
theorem dX3_daysUntil_27 : decode cX3_daysUntil 27 = .ok (.iadd, 1) := by decide +kernel
theorem dX3_daysUntil_28 : decode cX3_daysUntil 28 = .ok (.goto 4, 3) := by decide +kernel
theorem dX3_daysUntil_31 : decode cX3_daysUntil 31 = .ok (.iconst 0, 1) := by decide +kernel
theorem dX3_daysUntil_32 : decode cX3_daysUntil 32 = .ok (.ireturn, 1) := by decide +kernel
theorem dX4_init_0 : decode cX4_init 0 = .ok (.aload_n 0, 1) := by decide +kernel
theorem dX4_init_1 : decode cX4_init 1 = .ok (.invokespecial 3, 3) := by decide +kernel
theorem dX4_init_4 : decode cX4_init 4 = .ok (.aload_n 0, 1) := by decide +kernel
theorem dX4_init_5 : decode cX4_init 5 = .ok (.bipush 12, 2) := by decide +kernel
theorem dX4_init_7 : decode cX4_init 7 = .ok (.newarray .int, 2) := by decide +kernel
theorem dX4_init_9 : decode cX4_init 9 = .ok (.putfield 9, 3) := by decide +kernel
theorem dX4_init_12 : decode cX4_init 12 = .ok (.aload_n 0, 1) := by decide +kernel
theorem dX4_init_13 : decode cX4_init 13 = .ok (.bipush 12, 2) := by decide +kernel
theorem dX4_init_15 : decode cX4_init 15 = .ok (.newarray .int, 2) := by decide +kernel
theorem dX4_init_17 : decode cX4_init 17 = .ok (.putfield 15, 3) := by decide +kernel
theorem dX4_init_20 : decode cX4_init 20 = .ok (.aload_n 0, 1) := by decide +kernel
theorem dX4_init_21 : decode cX4_init 21 = .ok (.bipush 12, 2) := by decide +kernel
theorem dX4_init_23 : decode cX4_init 23 = .ok (.newarray .int, 2) := by decide +kernel
theorem dX4_init_25 : decode cX4_init 25 = .ok (.putfield 18, 3) := by decide +kernel
theorem dX4_init_28 : decode cX4_init 28 = .ok (.return_, 1) := by decide +kernel
theorem dX4_number_0 : decode cX4_number 0 = .ok (.aload_n 0, 1) := by decide +kernel
theorem dX4_number_1 : decode cX4_number 1 = .ok (.getfield 21, 3) := by decide +kernel
theorem dX4_number_4 : decode cX4_number 4 = .ok (.ireturn, 1) := by decide +kernel
theorem dX4_put_0 : decode cX4_put 0 = .ok (.aload_n 0, 1) := by decide +kernel
theorem dX4_put_1 : decode cX4_put 1 = .ok (.iload_n 1, 1) := by decide +kernel
theorem dX4_put_2 : decode cX4_put 2 = .ok (.invokevirtual 25, 3) := by decide +kernel
theorem dX4_put_5 : decode cX4_put 5 = .ok (.ifCond .ne 7, 3) := by decide +kernel
theorem dX4_put_8 : decode cX4_put 8 = .ok (.aload_n 0, 1) := by decide +kernel
theorem dX4_put_9 : decode cX4_put 9 = .ok (.invokevirtual 29, 3) := by decide +kernel
theorem dX4_put_12 : decode cX4_put 12 = .ok (.aload_n 0, 1) := by decide +kernel
theorem dX4_put_13 : decode cX4_put 13 = .ok (.getfield 21, 3) := by decide +kernel
theorem dX4_put_16 : decode cX4_put 16 = .ok (.iconst 1, 1) := by decide +kernel
theorem dX4_put_17 : decode cX4_put 17 = .ok (.isub, 1) := by decide +kernel
theorem dX4_put_18 : decode cX4_put 18 = .ok (.istore 4, 2) := by decide +kernel
theorem dX4_put_20 : decode cX4_put 20 = .ok (.aload_n 0, 1) := by decide +kernel
theorem dX4_put_21 : decode cX4_put 21 = .ok (.iload 4, 2) := by decide +kernel
theorem dX4_put_23 : decode cX4_put 23 = .ok (.invokevirtual 32, 3) := by decide +kernel
theorem dX4_put_26 : decode cX4_put 26 = .ok (.ifCond .eq 29, 3) := by decide +kernel
theorem dX4_put_29 : decode cX4_put 29 = .ok (.aload_n 0, 1) := by decide +kernel
theorem dX4_put_30 : decode cX4_put 30 = .ok (.getfield 9, 3) := by decide +kernel
theorem dX4_put_33 : decode cX4_put 33 = .ok (.iload 4, 2) := by decide +kernel
theorem dX4_put_35 : decode cX4_put 35 = .ok (.iload_n 1, 1) := by decide +kernel
theorem dX4_put_36 : decode cX4_put 36 = .ok (.iastore, 1) := by decide +kernel
theorem dX4_put_37 : decode cX4_put 37 = .ok (.aload_n 0, 1) := by decide +kernel
theorem dX4_put_38 : decode cX4_put 38 = .ok (.getfield 15, 3) := by decide +kernel
theorem dX4_put_41 : decode cX4_put 41 = .ok (.iload 4, 2) := by decide +kernel
theorem dX4_put_43 : decode cX4_put 43 = .ok (.iload_n 2, 1) := by decide +kernel
theorem dX4_put_44 : decode cX4_put 44 = .ok (.iastore, 1) := by decide +kernel
theorem dX4_put_45 : decode cX4_put 45 = .ok (.aload_n 0, 1) := by decide +kernel
theorem dX4_put_46 : decode cX4_put 46 = .ok (.getfield 18, 3) := by decide +kernel
theorem dX4_put_49 : decode cX4_put 49 = .ok (.iload 4, 2) := by decide +kernel
theorem dX4_put_51 : decode cX4_put 51 = .ok (.iload_n 2, 1) := by decide +kernel
theorem dX4_put_52 : decode cX4_put 52 = .ok (.iload_n 3, 1) := by decide +kernel
theorem dX4_put_53 : decode cX4_put 53 = .ok (.iadd, 1) := by decide +kernel
theorem dX4_put_54 : decode cX4_put 54 = .ok (.iastore, 1) := by decide +kernel
theorem dX4_put_55 : decode cX4_put 55 = .ok (.return_, 1) := by decide +kernel
theorem dX4_addFreedOn_0 : decode cX4_addFreedOn 0 = .ok (.aload_n 0, 1) := by decide +kernel
theorem dX4_addFreedOn_1 : decode cX4_addFreedOn 1 = .ok (.iload_n 1, 1) := by decide +kernel
theorem dX4_addFreedOn_2 : decode cX4_addFreedOn 2 = .ok (.invokevirtual 25, 3) := by decide +kernel
theorem dX4_addFreedOn_5 : decode cX4_addFreedOn 5 = .ok (.ifCond .eq 18, 3) := by decide +kernel
theorem dX4_addFreedOn_8 : decode cX4_addFreedOn 8 = .ok (.aload_n 0, 1) := by decide +kernel
theorem dX4_addFreedOn_9 : decode cX4_addFreedOn 9 = .ok (.getfield 18, 3) := by decide +kernel
theorem dX4_addFreedOn_12 : decode cX4_addFreedOn 12 = .ok (.aload_n 0, 1) := by decide +kernel
theorem dX4_addFreedOn_13 : decode cX4_addFreedOn 13 = .ok (.getfield 21, 3) := by decide +kernel
theorem dX4_addFreedOn_16 : decode cX4_addFreedOn 16 = .ok (.iconst 1, 1) := by decide +kernel
theorem dX4_addFreedOn_17 : decode cX4_addFreedOn 17 = .ok (.isub, 1) := by decide +kernel
theorem dX4_addFreedOn_18 : decode cX4_addFreedOn 18 = .ok (.dup2, 1) := by decide +kernel
theorem dX4_addFreedOn_19 : decode cX4_addFreedOn 19 = .ok (.iaload, 1) := by decide +kernel
theorem dX4_addFreedOn_20 : decode cX4_addFreedOn 20 = .ok (.iload_n 2, 1) := by decide +kernel
theorem dX4_addFreedOn_21 : decode cX4_addFreedOn 21 = .ok (.iadd, 1) := by decide +kernel
theorem dX4_addFreedOn_22 : decode cX4_addFreedOn 22 = .ok (.iastore, 1) := by decide +kernel
theorem dX4_addFreedOn_23 : decode cX4_addFreedOn 23 = .ok (.return_, 1) := by decide +kernel
theorem dX4_dayAt_0 : decode cX4_dayAt 0 = .ok (.aload_n 0, 1) := by decide +kernel
theorem dX4_dayAt_1 : decode cX4_dayAt 1 = .ok (.iload_n 1, 1) := by decide +kernel
theorem dX4_dayAt_2 : decode cX4_dayAt 2 = .ok (.invokevirtual 32, 3) := by decide +kernel
theorem dX4_dayAt_5 : decode cX4_dayAt 5 = .ok (.ifCond .eq 12, 3) := by decide +kernel
theorem dX4_dayAt_8 : decode cX4_dayAt 8 = .ok (.aload_n 0, 1) := by decide +kernel
theorem dX4_dayAt_9 : decode cX4_dayAt 9 = .ok (.getfield 9, 3) := by decide +kernel
theorem dX4_dayAt_12 : decode cX4_dayAt 12 = .ok (.iload_n 1, 1) := by decide +kernel
theorem dX4_dayAt_13 : decode cX4_dayAt 13 = .ok (.iaload, 1) := by decide +kernel
theorem dX4_dayAt_14 : decode cX4_dayAt 14 = .ok (.goto 4, 3) := by decide +kernel
theorem dX4_dayAt_17 : decode cX4_dayAt 17 = .ok (.iconst 0, 1) := by decide +kernel
theorem dX4_dayAt_18 : decode cX4_dayAt 18 = .ok (.ireturn, 1) := by decide +kernel
theorem dX4_usedAt_0 : decode cX4_usedAt 0 = .ok (.aload_n 0, 1) := by decide +kernel
theorem dX4_usedAt_1 : decode cX4_usedAt 1 = .ok (.iload_n 1, 1) := by decide +kernel
theorem dX4_usedAt_2 : decode cX4_usedAt 2 = .ok (.invokevirtual 32, 3) := by decide +kernel
theorem dX4_usedAt_5 : decode cX4_usedAt 5 = .ok (.ifCond .eq 12, 3) := by decide +kernel
theorem dX4_usedAt_8 : decode cX4_usedAt 8 = .ok (.aload_n 0, 1) := by decide +kernel
theorem dX4_usedAt_9 : decode cX4_usedAt 9 = .ok (.getfield 15, 3) := by decide +kernel
theorem dX4_usedAt_12 : decode cX4_usedAt 12 = .ok (.iload_n 1, 1) := by decide +kernel
theorem dX4_usedAt_13 : decode cX4_usedAt 13 = .ok (.iaload, 1) := by decide +kernel
theorem dX4_usedAt_14 : decode cX4_usedAt 14 = .ok (.goto 4, 3) := by decide +kernel
theorem dX4_usedAt_17 : decode cX4_usedAt 17 = .ok (.iconst 0, 1) := by decide +kernel
theorem dX4_usedAt_18 : decode cX4_usedAt 18 = .ok (.ireturn, 1) := by decide +kernel
theorem dX4_filledAt_0 : decode cX4_filledAt 0 = .ok (.aload_n 0, 1) := by decide +kernel
theorem dX4_filledAt_1 : decode cX4_filledAt 1 = .ok (.iload_n 1, 1) := by decide +kernel
theorem dX4_filledAt_2 : decode cX4_filledAt 2 = .ok (.invokevirtual 32, 3) := by decide +kernel
theorem dX4_filledAt_5 : decode cX4_filledAt 5 = .ok (.ifCond .eq 12, 3) := by decide +kernel
theorem dX4_filledAt_8 : decode cX4_filledAt 8 = .ok (.aload_n 0, 1) := by decide +kernel
theorem dX4_filledAt_9 : decode cX4_filledAt 9 = .ok (.getfield 18, 3) := by decide +kernel
theorem dX4_filledAt_12 : decode cX4_filledAt 12 = .ok (.iload_n 1, 1) := by decide +kernel
theorem dX4_filledAt_13 : decode cX4_filledAt 13 = .ok (.iaload, 1) := by decide +kernel
theorem dX4_filledAt_14 : decode cX4_filledAt 14 = .ok (.goto 4, 3) := by decide +kernel
theorem dX4_filledAt_17 : decode cX4_filledAt 17 = .ok (.iconst 0, 1) := by decide +kernel
theorem dX4_filledAt_18 : decode cX4_filledAt 18 = .ok (.ireturn, 1) := by decide +kernel
theorem dX4_lastPlaceWithout_0 : decode cX4_lastPlaceWithout 0 = .ok (.iload_n 1, 1) := by decide +kernel
theorem dX4_lastPlaceWithout_1 : decode cX4_lastPlaceWithout 1 = .ok (.aload_n 0, 1) := by decide +kernel
theorem dX4_lastPlaceWithout_2 : decode cX4_lastPlaceWithout 2 = .ok (.getfield 21, 3) := by decide +kernel
theorem dX4_lastPlaceWithout_5 : decode cX4_lastPlaceWithout 5 = .ok (.iconst 1, 1) := by decide +kernel
theorem dX4_lastPlaceWithout_6 : decode cX4_lastPlaceWithout 6 = .ok (.isub, 1) := by decide +kernel
theorem dX4_lastPlaceWithout_7 : decode cX4_lastPlaceWithout 7 = .ok (.if_icmp .ne 12, 3) := by decide +kernel
theorem dX4_lastPlaceWithout_10 : decode cX4_lastPlaceWithout 10 = .ok (.aload_n 0, 1) := by decide +kernel
theorem dX4_lastPlaceWithout_11 : decode cX4_lastPlaceWithout 11 = .ok (.getfield 21, 3) := by decide +kernel
theorem dX4_lastPlaceWithout_14 : decode cX4_lastPlaceWithout 14 = .ok (.iconst 2, 1) := by decide +kernel
theorem dX4_lastPlaceWithout_15 : decode cX4_lastPlaceWithout 15 = .ok (.isub, 1) := by decide +kernel
theorem dX4_lastPlaceWithout_16 : decode cX4_lastPlaceWithout 16 = .ok (.goto 9, 3) := by decide +kernel
theorem dX4_lastPlaceWithout_19 : decode cX4_lastPlaceWithout 19 = .ok (.aload_n 0, 1) := by decide +kernel
theorem dX4_lastPlaceWithout_20 : decode cX4_lastPlaceWithout 20 = .ok (.getfield 21, 3) := by decide +kernel
theorem dX4_lastPlaceWithout_23 : decode cX4_lastPlaceWithout 23 = .ok (.iconst 1, 1) := by decide +kernel
theorem dX4_lastPlaceWithout_24 : decode cX4_lastPlaceWithout 24 = .ok (.isub, 1) := by decide +kernel
theorem dX4_lastPlaceWithout_25 : decode cX4_lastPlaceWithout 25 = .ok (.ireturn, 1) := by decide +kernel
theorem dX4_has_0 : decode cX4_has 0 = .ok (.iload_n 1, 1) := by decide +kernel
theorem dX4_has_1 : decode cX4_has 1 = .ok (.ifCond .lt 15, 3) := by decide +kernel
theorem dX4_has_4 : decode cX4_has 4 = .ok (.iload_n 1, 1) := by decide +kernel
theorem dX4_has_5 : decode cX4_has 5 = .ok (.aload_n 0, 1) := by decide +kernel
theorem dX4_has_6 : decode cX4_has 6 = .ok (.getfield 21, 3) := by decide +kernel
theorem dX4_has_9 : decode cX4_has 9 = .ok (.if_icmp .ge 7, 3) := by decide +kernel
theorem dX4_has_12 : decode cX4_has 12 = .ok (.iconst 1, 1) := by decide +kernel
theorem dX4_has_13 : decode cX4_has 13 = .ok (.goto 4, 3) := by decide +kernel
theorem dX4_has_16 : decode cX4_has 16 = .ok (.iconst 0, 1) := by decide +kernel
theorem dX4_has_17 : decode cX4_has 17 = .ok (.ireturn, 1) := by decide +kernel
theorem dX4_lastIsOf_0 : decode cX4_lastIsOf 0 = .ok (.aload_n 0, 1) := by decide +kernel
theorem dX4_lastIsOf_1 : decode cX4_lastIsOf 1 = .ok (.getfield 21, 3) := by decide +kernel
theorem dX4_lastIsOf_4 : decode cX4_lastIsOf 4 = .ok (.ifCond .le 22, 3) := by decide +kernel
theorem dX4_lastIsOf_7 : decode cX4_lastIsOf 7 = .ok (.aload_n 0, 1) := by decide +kernel
theorem dX4_lastIsOf_8 : decode cX4_lastIsOf 8 = .ok (.getfield 9, 3) := by decide +kernel
theorem dX4_lastIsOf_11 : decode cX4_lastIsOf 11 = .ok (.aload_n 0, 1) := by decide +kernel
theorem dX4_lastIsOf_12 : decode cX4_lastIsOf 12 = .ok (.getfield 21, 3) := by decide +kernel
theorem dX4_lastIsOf_15 : decode cX4_lastIsOf 15 = .ok (.iconst 1, 1) := by decide +kernel
theorem dX4_lastIsOf_16 : decode cX4_lastIsOf 16 = .ok (.isub, 1) := by decide +kernel
theorem dX4_lastIsOf_17 : decode cX4_lastIsOf 17 = .ok (.iaload, 1) := by decide +kernel
theorem dX4_lastIsOf_18 : decode cX4_lastIsOf 18 = .ok (.iload_n 1, 1) := by decide +kernel
theorem dX4_lastIsOf_19 : decode cX4_lastIsOf 19 = .ok (.if_icmp .ne 7, 3) := by decide +kernel
theorem dX4_lastIsOf_22 : decode cX4_lastIsOf 22 = .ok (.iconst 1, 1) := by decide +kernel
theorem dX4_lastIsOf_23 : decode cX4_lastIsOf 23 = .ok (.goto 4, 3) := by decide +kernel
theorem dX4_lastIsOf_26 : decode cX4_lastIsOf 26 = .ok (.iconst 0, 1) := by decide +kernel
theorem dX4_lastIsOf_27 : decode cX4_lastIsOf 27 = .ok (.ireturn, 1) := by decide +kernel
theorem dX4_openLastPlace_0 : decode cX4_openLastPlace 0 = .ok (.aload_n 0, 1) := by decide +kernel
theorem dX4_openLastPlace_1 : decode cX4_openLastPlace 1 = .ok (.getfield 21, 3) := by decide +kernel
theorem dX4_openLastPlace_4 : decode cX4_openLastPlace 4 = .ok (.bipush 12, 2) := by decide +kernel
theorem dX4_openLastPlace_6 : decode cX4_openLastPlace 6 = .ok (.if_icmp .ge 14, 3) := by decide +kernel
theorem dX4_openLastPlace_9 : decode cX4_openLastPlace 9 = .ok (.aload_n 0, 1) := by decide +kernel
theorem dX4_openLastPlace_10 : decode cX4_openLastPlace 10 = .ok (.dup, 1) := by decide +kernel
theorem dX4_openLastPlace_11 : decode cX4_openLastPlace 11 = .ok (.getfield 21, 3) := by decide +kernel
theorem dX4_openLastPlace_14 : decode cX4_openLastPlace 14 = .ok (.iconst 1, 1) := by decide +kernel
theorem dX4_openLastPlace_15 : decode cX4_openLastPlace 15 = .ok (.iadd, 1) := by decide +kernel
theorem dX4_openLastPlace_16 : decode cX4_openLastPlace 16 = .ok (.putfield 21, 3) := by decide +kernel
theorem dX4_openLastPlace_19 : decode cX4_openLastPlace 19 = .ok (.return_, 1) := by decide +kernel
theorem dX4_openLastPlace_20 : decode cX4_openLastPlace 20 = .ok (.iconst 1, 1) := by decide +kernel
theorem dX4_openLastPlace_21 : decode cX4_openLastPlace 21 = .ok (.istore_n 1, 1) := by decide +kernel
theorem dX4_openLastPlace_22 : decode cX4_openLastPlace 22 = .ok (.iload_n 1, 1) := by decide +kernel
theorem dX4_openLastPlace_23 : decode cX4_openLastPlace 23 = .ok (.bipush 12, 2) := by decide +kernel
theorem dX4_openLastPlace_25 : decode cX4_openLastPlace 25 = .ok (.if_icmp .ge 51, 3) := by decide +kernel
theorem dX4_openLastPlace_28 : decode cX4_openLastPlace 28 = .ok (.aload_n 0, 1) := by decide +kernel
theorem dX4_openLastPlace_29 : decode cX4_openLastPlace 29 = .ok (.getfield 9, 3) := by decide +kernel
theorem dX4_openLastPlace_32 : decode cX4_openLastPlace 32 = .ok (.iload_n 1, 1) := by decide +kernel
theorem dX4_openLastPlace_33 : decode cX4_openLastPlace 33 = .ok (.iconst 1, 1) := by decide +kernel
theorem dX4_openLastPlace_34 : decode cX4_openLastPlace 34 = .ok (.isub, 1) := by decide +kernel
theorem dX4_openLastPlace_35 : decode cX4_openLastPlace 35 = .ok (.aload_n 0, 1) := by decide +kernel
theorem dX4_openLastPlace_36 : decode cX4_openLastPlace 36 = .ok (.getfield 9, 3) := by decide +kernel
theorem dX4_openLastPlace_39 : decode cX4_openLastPlace 39 = .ok (.iload_n 1, 1) := by decide +kernel
theorem dX4_openLastPlace_40 : decode cX4_openLastPlace 40 = .ok (.iaload, 1) := by decide +kernel
theorem dX4_openLastPlace_41 : decode cX4_openLastPlace 41 = .ok (.iastore, 1) := by decide +kernel
theorem dX4_openLastPlace_42 : decode cX4_openLastPlace 42 = .ok (.aload_n 0, 1) := by decide +kernel
theorem dX4_openLastPlace_43 : decode cX4_openLastPlace 43 = .ok (.getfield 15, 3) := by decide +kernel
theorem dX4_openLastPlace_46 : decode cX4_openLastPlace 46 = .ok (.iload_n 1, 1) := by decide +kernel
theorem dX4_openLastPlace_47 : decode cX4_openLastPlace 47 = .ok (.iconst 1, 1) := by decide +kernel
theorem dX4_openLastPlace_48 : decode cX4_openLastPlace 48 = .ok (.isub, 1) := by decide +kernel
theorem dX4_openLastPlace_49 : decode cX4_openLastPlace 49 = .ok (.aload_n 0, 1) := by decide +kernel
theorem dX4_openLastPlace_50 : decode cX4_openLastPlace 50 = .ok (.getfield 15, 3) := by decide +kernel
theorem dX4_openLastPlace_53 : decode cX4_openLastPlace 53 = .ok (.iload_n 1, 1) := by decide +kernel
theorem dX4_openLastPlace_54 : decode cX4_openLastPlace 54 = .ok (.iaload, 1) := by decide +kernel
theorem dX4_openLastPlace_55 : decode cX4_openLastPlace 55 = .ok (.iastore, 1) := by decide +kernel
theorem dX4_openLastPlace_56 : decode cX4_openLastPlace 56 = .ok (.aload_n 0, 1) := by decide +kernel
theorem dX4_openLastPlace_57 : decode cX4_openLastPlace 57 = .ok (.getfield 18, 3) := by decide +kernel
theorem dX4_openLastPlace_60 : decode cX4_openLastPlace 60 = .ok (.iload_n 1, 1) := by decide +kernel
theorem dX4_openLastPlace_61 : decode cX4_openLastPlace 61 = .ok (.iconst 1, 1) := by decide +kernel
theorem dX4_openLastPlace_62 : decode cX4_openLastPlace 62 = .ok (.isub, 1) := by decide +kernel
theorem dX4_openLastPlace_63 : decode cX4_openLastPlace 63 = .ok (.aload_n 0, 1) := by decide +kernel
theorem dX4_openLastPlace_64 : decode cX4_openLastPlace 64 = .ok (.getfield 18, 3) := by decide +kernel
theorem dX4_openLastPlace_67 : decode cX4_openLastPlace 67 = .ok (.iload_n 1, 1) := by decide +kernel
theorem dX4_openLastPlace_68 : decode cX4_openLastPlace 68 = .ok (.iaload, 1) := by decide +kernel
theorem dX4_openLastPlace_69 : decode cX4_openLastPlace 69 = .ok (.iastore, 1) := by decide +kernel
theorem dX4_openLastPlace_70 : decode cX4_openLastPlace 70 = .ok (.iinc 1 1, 3) := by decide +kernel
theorem dX4_openLastPlace_73 : decode cX4_openLastPlace 73 = .ok (.goto (-51), 3) := by decide +kernel
theorem dX4_openLastPlace_76 : decode cX4_openLastPlace 76 = .ok (.return_, 1) := by decide +kernel
theorem dX5_init_0 : decode cX5_init 0 = .ok (.aload_n 0, 1) := by decide +kernel
theorem dX5_init_1 : decode cX5_init 1 = .ok (.invokespecial 3, 3) := by decide +kernel
theorem dX5_init_4 : decode cX5_init 4 = .ok (.aload_n 0, 1) := by decide +kernel
theorem dX5_init_5 : decode cX5_init 5 = .ok (.new 9, 3) := by decide +kernel
theorem dX5_init_8 : decode cX5_init 8 = .ok (.dup, 1) := by decide +kernel
theorem dX5_init_9 : decode cX5_init 9 = .ok (.invokespecial 11, 3) := by decide +kernel
theorem dX5_init_12 : decode cX5_init 12 = .ok (.putfield 12, 3) := by decide +kernel
theorem dX5_init_15 : decode cX5_init 15 = .ok (.aload_n 0, 1) := by decide +kernel
theorem dX5_init_16 : decode cX5_init 16 = .ok (.new 18, 3) := by decide +kernel
theorem dX5_init_19 : decode cX5_init 19 = .ok (.dup, 1) := by decide +kernel
theorem dX5_init_20 : decode cX5_init 20 = .ok (.invokespecial 20, 3) := by decide +kernel
theorem dX5_init_23 : decode cX5_init 23 = .ok (.putfield 21, 3) := by decide +kernel
theorem dX5_init_26 : decode cX5_init 26 = .ok (.aload_n 0, 1) := by decide +kernel
theorem dX5_init_27 : decode cX5_init 27 = .ok (.new 25, 3) := by decide +kernel
theorem dX5_init_30 : decode cX5_init 30 = .ok (.dup, 1) := by decide +kernel
theorem dX5_init_31 : decode cX5_init 31 = .ok (.invokespecial 27, 3) := by decide +kernel
theorem dX5_init_34 : decode cX5_init 34 = .ok (.putfield 28, 3) := by decide +kernel
theorem dX5_init_37 : decode cX5_init 37 = .ok (.aload_n 0, 1) := by decide +kernel
theorem dX5_init_38 : decode cX5_init 38 = .ok (.new 32, 3) := by decide +kernel
theorem dX5_init_41 : decode cX5_init 41 = .ok (.dup, 1) := by decide +kernel
theorem dX5_init_42 : decode cX5_init 42 = .ok (.invokespecial 34, 3) := by decide +kernel
theorem dX5_init_45 : decode cX5_init 45 = .ok (.putfield 35, 3) := by decide +kernel
theorem dX5_init_48 : decode cX5_init 48 = .ok (.aload_n 0, 1) := by decide +kernel
theorem dX5_init_49 : decode cX5_init 49 = .ok (.new 39, 3) := by decide +kernel
theorem dX5_init_52 : decode cX5_init 52 = .ok (.dup, 1) := by decide +kernel
theorem dX5_init_53 : decode cX5_init 53 = .ok (.invokespecial 41, 3) := by decide +kernel
theorem dX5_init_56 : decode cX5_init 56 = .ok (.putfield 42, 3) := by decide +kernel
theorem dX5_init_59 : decode cX5_init 59 = .ok (.aload_n 0, 1) := by decide +kernel
theorem dX5_init_60 : decode cX5_init 60 = .ok (.new 46, 3) := by decide +kernel
theorem dX5_init_63 : decode cX5_init 63 = .ok (.dup, 1) := by decide +kernel
theorem dX5_init_64 : decode cX5_init 64 = .ok (.invokespecial 48, 3) := by decide +kernel
theorem dX5_init_67 : decode cX5_init 67 = .ok (.putfield 49, 3) := by decide +kernel
theorem dX5_init_70 : decode cX5_init 70 = .ok (.aload_n 0, 1) := by decide +kernel
theorem dX5_init_71 : decode cX5_init 71 = .ok (.iload_n 1, 1) := by decide +kernel
theorem dX5_init_72 : decode cX5_init 72 = .ok (.putfield 53, 3) := by decide +kernel
theorem dX5_init_75 : decode cX5_init 75 = .ok (.return_, 1) := by decide +kernel
theorem dX5_tellUsed_0 : decode cX5_tellUsed 0 = .ok (.aload_n 0, 1) := by decide +kernel
theorem dX5_tellUsed_1 : decode cX5_tellUsed 1 = .ok (.getfield 12, 3) := by decide +kernel
theorem dX5_tellUsed_4 : decode cX5_tellUsed 4 = .ok (.iload_n 1, 1) := by decide +kernel
theorem dX5_tellUsed_5 : decode cX5_tellUsed 5 = .ok (.iload_n 2, 1) := by decide +kernel
theorem dX5_tellUsed_6 : decode cX5_tellUsed 6 = .ok (.aload_n 0, 1) := by decide +kernel
theorem dX5_tellUsed_7 : decode cX5_tellUsed 7 = .ok (.getfield 28, 3) := by decide +kernel
theorem dX5_tellUsed_10 : decode cX5_tellUsed 10 = .ok (.invokevirtual 57, 3) := by decide +kernel
theorem dX5_tellUsed_13 : decode cX5_tellUsed 13 = .ok (.invokevirtual 61, 3) := by decide +kernel
theorem dX5_tellUsed_16 : decode cX5_tellUsed 16 = .ok (.aload_n 0, 1) := by decide +kernel
theorem dX5_tellUsed_17 : decode cX5_tellUsed 17 = .ok (.getfield 21, 3) := by decide +kernel
theorem dX5_tellUsed_20 : decode cX5_tellUsed 20 = .ok (.aload_n 0, 1) := by decide +kernel
theorem dX5_tellUsed_21 : decode cX5_tellUsed 21 = .ok (.getfield 12, 3) := by decide +kernel
theorem dX5_tellUsed_24 : decode cX5_tellUsed 24 = .ok (.invokevirtual 65, 3) := by decide +kernel
theorem dX5_tellUsed_27 : decode cX5_tellUsed 27 = .ok (.return_, 1) := by decide +kernel
theorem dX5_tellFreed_0 : decode cX5_tellFreed 0 = .ok (.aload_n 0, 1) := by decide +kernel
theorem dX5_tellFreed_1 : decode cX5_tellFreed 1 = .ok (.getfield 28, 3) := by decide +kernel
theorem dX5_tellFreed_4 : decode cX5_tellFreed 4 = .ok (.iload_n 2, 1) := by decide +kernel
theorem dX5_tellFreed_5 : decode cX5_tellFreed 5 = .ok (.invokevirtual 69, 3) := by decide +kernel
theorem dX5_tellFreed_8 : decode cX5_tellFreed 8 = .ok (.aload_n 0, 1) := by decide +kernel
theorem dX5_tellFreed_9 : decode cX5_tellFreed 9 = .ok (.getfield 12, 3) := by decide +kernel
theorem dX5_tellFreed_12 : decode cX5_tellFreed 12 = .ok (.iload_n 1, 1) := by decide +kernel
theorem dX5_tellFreed_13 : decode cX5_tellFreed 13 = .ok (.iload_n 2, 1) := by decide +kernel
theorem dX5_tellFreed_14 : decode cX5_tellFreed 14 = .ok (.invokevirtual 72, 3) := by decide +kernel
theorem dX5_tellFreed_17 : decode cX5_tellFreed 17 = .ok (.aload_n 0, 1) := by decide +kernel
theorem dX5_tellFreed_18 : decode cX5_tellFreed 18 = .ok (.getfield 21, 3) := by decide +kernel
theorem dX5_tellFreed_21 : decode cX5_tellFreed 21 = .ok (.aload_n 0, 1) := by decide +kernel
theorem dX5_tellFreed_22 : decode cX5_tellFreed 22 = .ok (.getfield 12, 3) := by decide +kernel
theorem dX5_tellFreed_25 : decode cX5_tellFreed 25 = .ok (.invokevirtual 65, 3) := by decide +kernel
theorem dX5_tellFreed_28 : decode cX5_tellFreed 28 = .ok (.return_, 1) := by decide +kernel
theorem dX5_hasSlope_0 : decode cX5_hasSlope 0 = .ok (.aload_n 0, 1) := by decide +kernel
theorem dX5_hasSlope_1 : decode cX5_hasSlope 1 = .ok (.getfield 12, 3) := by decide +kernel
theorem dX5_hasSlope_4 : decode cX5_hasSlope 4 = .ok (.invokevirtual 76, 3) := by decide +kernel
theorem dX5_hasSlope_7 : decode cX5_hasSlope 7 = .ok (.iconst 2, 1) := by decide +kernel
theorem dX5_hasSlope_8 : decode cX5_hasSlope 8 = .ok (.if_icmp .lt 7, 3) := by decide +kernel
theorem dX5_hasSlope_11 : decode cX5_hasSlope 11 = .ok (.iconst 1, 1) := by decide +kernel
theorem dX5_hasSlope_12 : decode cX5_hasSlope 12 = .ok (.goto 4, 3) := by decide +kernel
theorem dX5_hasSlope_15 : decode cX5_hasSlope 15 = .ok (.iconst 0, 1) := by decide +kernel
theorem dX5_hasSlope_16 : decode cX5_hasSlope 16 = .ok (.ireturn, 1) := by decide +kernel
theorem dX5_drawLineWithout_0 : decode cX5_drawLineWithout 0 = .ok (.aload_n 0, 1) := by decide +kernel
theorem dX5_drawLineWithout_1 : decode cX5_drawLineWithout 1 = .ok (.getfield 12, 3) := by decide +kernel
theorem dX5_drawLineWithout_4 : decode cX5_drawLineWithout 4 = .ok (.iload_n 1, 1) := by decide +kernel
theorem dX5_drawLineWithout_5 : decode cX5_drawLineWithout 5 = .ok (.invokevirtual 79, 3) := by decide +kernel
theorem dX5_drawLineWithout_8 : decode cX5_drawLineWithout 8 = .ok (.istore_n 2, 1) := by decide +kernel
theorem dX5_drawLineWithout_9 : decode cX5_drawLineWithout 9 = .ok (.aload_n 0, 1) := by decide +kernel
theorem dX5_drawLineWithout_10 : decode cX5_drawLineWithout 10 = .ok (.getfield 21, 3) := by decide +kernel
theorem dX5_drawLineWithout_13 : decode cX5_drawLineWithout 13 = .ok (.iload_n 1, 1) := by decide +kernel
theorem dX5_drawLineWithout_14 : decode cX5_drawLineWithout 14 = .ok (.invokevirtual 83, 3) := by decide +kernel
theorem dX5_drawLineWithout_17 : decode cX5_drawLineWithout 17 = .ok (.istore_n 3, 1) := by decide +kernel
theorem dX5_drawLineWithout_18 : decode cX5_drawLineWithout 18 = .ok (.aload_n 0, 1) := by decide +kernel
theorem dX5_drawLineWithout_19 : decode cX5_drawLineWithout 19 = .ok (.getfield 42, 3) := by decide +kernel
theorem dX5_drawLineWithout_22 : decode cX5_drawLineWithout 22 = .ok (.aload_n 0, 1) := by decide +kernel
theorem dX5_drawLineWithout_23 : decode cX5_drawLineWithout 23 = .ok (.getfield 12, 3) := by decide +kernel
theorem dX5_drawLineWithout_26 : decode cX5_drawLineWithout 26 = .ok (.iload_n 2, 1) := by decide +kernel
theorem dX5_drawLineWithout_27 : decode cX5_drawLineWithout 27 = .ok (.invokevirtual 86, 3) := by decide +kernel
theorem dX5_drawLineWithout_30 : decode cX5_drawLineWithout 30 = .ok (.aload_n 0, 1) := by decide +kernel
theorem dX5_drawLineWithout_31 : decode cX5_drawLineWithout 31 = .ok (.getfield 12, 3) := by decide +kernel
theorem dX5_drawLineWithout_34 : decode cX5_drawLineWithout 34 = .ok (.iload_n 2, 1) := by decide +kernel
theorem dX5_drawLineWithout_35 : decode cX5_drawLineWithout 35 = .ok (.invokevirtual 89, 3) := by decide +kernel
theorem dX5_drawLineWithout_38 : decode cX5_drawLineWithout 38 = .ok (.invokevirtual 92, 3) := by decide +kernel
theorem dX5_drawLineWithout_41 : decode cX5_drawLineWithout 41 = .ok (.aload_n 0, 1) := by decide +kernel
theorem dX5_drawLineWithout_42 : decode cX5_drawLineWithout 42 = .ok (.getfield 42, 3) := by decide +kernel
theorem dX5_drawLineWithout_45 : decode cX5_drawLineWithout 45 = .ok (.aload_n 0, 1) := by decide +kernel
theorem dX5_drawLineWithout_46 : decode cX5_drawLineWithout 46 = .ok (.getfield 21, 3) := by decide +kernel
theorem dX5_drawLineWithout_49 : decode cX5_drawLineWithout 49 = .ok (.iload_n 3, 1) := by decide +kernel
theorem dX5_drawLineWithout_50 : decode cX5_drawLineWithout 50 = .ok (.invokevirtual 95, 3) := by decide +kernel
theorem dX5_drawLineWithout_53 : decode cX5_drawLineWithout 53 = .ok (.aload_n 0, 1) := by decide +kernel
theorem dX5_drawLineWithout_54 : decode cX5_drawLineWithout 54 = .ok (.getfield 21, 3) := by decide +kernel
theorem dX5_drawLineWithout_57 : decode cX5_drawLineWithout 57 = .ok (.iload_n 3, 1) := by decide +kernel
theorem dX5_drawLineWithout_58 : decode cX5_drawLineWithout 58 = .ok (.invokevirtual 98, 3) := by decide +kernel
theorem dX5_drawLineWithout_61 : decode cX5_drawLineWithout 61 = .ok (.invokevirtual 101, 3) := by decide +kernel
theorem dX5_drawLineWithout_64 : decode cX5_drawLineWithout 64 = .ok (.return_, 1) := by decide +kernel
theorem dX5_roomOn_0 : decode cX5_roomOn 0 = .ok (.aload_n 0, 1) := by decide +kernel
theorem dX5_roomOn_1 : decode cX5_roomOn 1 = .ok (.getfield 28, 3) := by decide +kernel
theorem dX5_roomOn_4 : decode cX5_roomOn 4 = .ok (.invokevirtual 104, 3) := by decide +kernel
theorem dX5_roomOn_7 : decode cX5_roomOn 7 = .ok (.i2l, 1) := by decide +kernel
theorem dX5_roomOn_8 : decode cX5_roomOn 8 = .ok (.aload_n 0, 1) := by decide +kernel
theorem dX5_roomOn_9 : decode cX5_roomOn 9 = .ok (.getfield 35, 3) := by decide +kernel
theorem dX5_roomOn_12 : decode cX5_roomOn 12 = .ok (.aload_n 0, 1) := by decide +kernel
theorem dX5_roomOn_13 : decode cX5_roomOn 13 = .ok (.getfield 42, 3) := by decide +kernel
theorem dX5_roomOn_16 : decode cX5_roomOn 16 = .ok (.getfield 107, 3) := by decide +kernel
theorem dX5_roomOn_19 : decode cX5_roomOn 19 = .ok (.iload_n 1, 1) := by decide +kernel
theorem dX5_roomOn_20 : decode cX5_roomOn 20 = .ok (.invokevirtual 110, 3) := by decide +kernel
theorem dX5_roomOn_23 : decode cX5_roomOn 23 = .ok (.i2l, 1) := by decide +kernel
theorem dX5_roomOn_24 : decode cX5_roomOn 24 = .ok (.lmul, 1) := by decide +kernel
theorem dX5_roomOn_25 : decode cX5_roomOn 25 = .ok (.lstore_n 2, 1) := by decide +kernel
theorem dX5_roomOn_26 : decode cX5_roomOn 26 = .ok (.aload_n 0, 1) := by decide +kernel
theorem dX5_roomOn_27 : decode cX5_roomOn 27 = .ok (.getfield 42, 3) := by decide +kernel
theorem dX5_roomOn_30 : decode cX5_roomOn 30 = .ok (.iload_n 1, 1) := by decide +kernel
theorem dX5_roomOn_31 : decode cX5_roomOn 31 = .ok (.invokevirtual 114, 3) := by decide +kernel
theorem dX5_roomOn_34 : decode cX5_roomOn 34 = .ok (.lload_n 2, 1) := by decide +kernel
theorem dX5_roomOn_35 : decode cX5_roomOn 35 = .ok (.lsub, 1) := by decide +kernel
theorem dX5_roomOn_36 : decode cX5_roomOn 36 = .ok (.lstore 4, 2) := by decide +kernel
theorem dX5_roomOn_38 : decode cX5_roomOn 38 = .ok (.lload 4, 2) := by decide +kernel
theorem dX5_roomOn_40 : decode cX5_roomOn 40 = .ok (.lconst 0, 1) := by decide +kernel
theorem dX5_roomOn_41 : decode cX5_roomOn 41 = .ok (.invokestatic 118, 3) := by decide +kernel
theorem dX5_roomOn_44 : decode cX5_roomOn 44 = .ok (.ldc2_w 124, 3) := by decide +kernel
theorem dX5_roomOn_47 : decode cX5_roomOn 47 = .ok (.invokestatic 126, 3) := by decide +kernel
theorem dX5_roomOn_50 : decode cX5_roomOn 50 = .ok (.l2i, 1) := by decide +kernel
theorem dX5_roomOn_51 : decode cX5_roomOn 51 = .ok (.ireturn, 1) := by decide +kernel
theorem dX5_fullDay_0 : decode cX5_fullDay 0 = .ok (.aload_n 0, 1) := by decide +kernel
theorem dX5_fullDay_1 : decode cX5_fullDay 1 = .ok (.invokevirtual 129, 3) := by decide +kernel
theorem dX5_fullDay_4 : decode cX5_fullDay 4 = .ok (.ifCond .eq 11, 3) := by decide +kernel
theorem dX5_fullDay_7 : decode cX5_fullDay 7 = .ok (.aload_n 0, 1) := by decide +kernel
theorem dX5_fullDay_8 : decode cX5_fullDay 8 = .ok (.iconst (-1), 1) := by decide +kernel
theorem dX5_fullDay_9 : decode cX5_fullDay 9 = .ok (.invokevirtual 133, 3) := by decide +kernel
theorem dX5_fullDay_12 : decode cX5_fullDay 12 = .ok (.goto 5, 3) := by decide +kernel
theorem dX5_fullDay_15 : decode cX5_fullDay 15 = .ok (.ldc 136, 2) := by decide +kernel
theorem dX5_fullDay_17 : decode cX5_fullDay 17 = .ok (.ireturn, 1) := by decide +kernel
theorem dX5_fullDayWithout_0 : decode cX5_fullDayWithout 0 = .ok (.aload_n 0, 1) := by decide +kernel
theorem dX5_fullDayWithout_1 : decode cX5_fullDayWithout 1 = .ok (.iload_n 1, 1) := by decide +kernel
theorem dX5_fullDayWithout_2 : decode cX5_fullDayWithout 2 = .ok (.invokevirtual 137, 3) := by decide +kernel
theorem dX5_fullDayWithout_5 : decode cX5_fullDayWithout 5 = .ok (.iconst 1, 1) := by decide +kernel
theorem dX5_fullDayWithout_6 : decode cX5_fullDayWithout 6 = .ok (.istore_n 2, 1) := by decide +kernel
theorem dX5_fullDayWithout_7 : decode cX5_fullDayWithout 7 = .ok (.iconst 1, 1) := by decide +kernel
theorem dX5_fullDayWithout_8 : decode cX5_fullDayWithout 8 = .ok (.istore_n 3, 1) := by decide +kernel
theorem dX5_fullDayWithout_9 : decode cX5_fullDayWithout 9 = .ok (.iload_n 3, 1) := by decide +kernel
theorem dX5_fullDayWithout_10 : decode cX5_fullDayWithout 10 = .ok (.sipush 1000, 3) := by decide +kernel
theorem dX5_fullDayWithout_13 : decode cX5_fullDayWithout 13 = .ok (.if_icmp .gt 59, 3) := by decide +kernel
theorem dX5_fullDayWithout_16 : decode cX5_fullDayWithout 16 = .ok (.aload_n 0, 1) := by decide +kernel
theorem dX5_fullDayWithout_17 : decode cX5_fullDayWithout 17 = .ok (.getfield 53, 3) := by decide +kernel
theorem dX5_fullDayWithout_20 : decode cX5_fullDayWithout 20 = .ok (.aload_n 0, 1) := by decide +kernel
theorem dX5_fullDayWithout_21 : decode cX5_fullDayWithout 21 = .ok (.aload_n 0, 1) := by decide +kernel
theorem dX5_fullDayWithout_22 : decode cX5_fullDayWithout 22 = .ok (.getfield 42, 3) := by decide +kernel
theorem dX5_fullDayWithout_25 : decode cX5_fullDayWithout 25 = .ok (.getfield 107, 3) := by decide +kernel
theorem dX5_fullDayWithout_28 : decode cX5_fullDayWithout 28 = .ok (.iload_n 3, 1) := by decide +kernel
theorem dX5_fullDayWithout_29 : decode cX5_fullDayWithout 29 = .ok (.iadd, 1) := by decide +kernel
theorem dX5_fullDayWithout_30 : decode cX5_fullDayWithout 30 = .ok (.invokevirtual 140, 3) := by decide +kernel
theorem dX5_fullDayWithout_33 : decode cX5_fullDayWithout 33 = .ok (.isub, 1) := by decide +kernel
theorem dX5_fullDayWithout_34 : decode cX5_fullDayWithout 34 = .ok (.istore 4, 2) := by decide +kernel
theorem dX5_fullDayWithout_36 : decode cX5_fullDayWithout 36 = .ok (.iload 4, 2) := by decide +kernel
theorem dX5_fullDayWithout_38 : decode cX5_fullDayWithout 38 = .ok (.ifCond .gt 13, 3) := by decide +kernel
theorem dX5_fullDayWithout_41 : decode cX5_fullDayWithout 41 = .ok (.aload_n 0, 1) := by decide +kernel
theorem dX5_fullDayWithout_42 : decode cX5_fullDayWithout 42 = .ok (.getfield 42, 3) := by decide +kernel
theorem dX5_fullDayWithout_45 : decode cX5_fullDayWithout 45 = .ok (.getfield 107, 3) := by decide +kernel
theorem dX5_fullDayWithout_48 : decode cX5_fullDayWithout 48 = .ok (.iload_n 3, 1) := by decide +kernel
theorem dX5_fullDayWithout_49 : decode cX5_fullDayWithout 49 = .ok (.iadd, 1) := by decide +kernel
theorem dX5_fullDayWithout_50 : decode cX5_fullDayWithout 50 = .ok (.ireturn, 1) := by decide +kernel
theorem dX5_fullDayWithout_51 : decode cX5_fullDayWithout 51 = .ok (.iconst 1, 1) := by decide +kernel
theorem dX5_fullDayWithout_52 : decode cX5_fullDayWithout 52 = .ok (.aload_n 0, 1) := by decide +kernel
theorem dX5_fullDayWithout_53 : decode cX5_fullDayWithout 53 = .ok (.getfield 42, 3) := by decide +kernel
theorem dX5_fullDayWithout_56 : decode cX5_fullDayWithout 56 = .ok (.iload 4, 2) := by decide +kernel
theorem dX5_fullDayWithout_58 : decode cX5_fullDayWithout 58 = .ok (.invokevirtual 143, 3) := by decide +kernel
theorem dX5_fullDayWithout_61 : decode cX5_fullDayWithout 61 = .ok (.invokestatic 146, 3) := by decide +kernel
theorem dX5_fullDayWithout_64 : decode cX5_fullDayWithout 64 = .ok (.istore_n 2, 1) := by decide +kernel
theorem dX5_fullDayWithout_65 : decode cX5_fullDayWithout 65 = .ok (.iload_n 3, 1) := by decide +kernel
theorem dX5_fullDayWithout_66 : decode cX5_fullDayWithout 66 = .ok (.iload_n 2, 1) := by decide +kernel
theorem dX5_fullDayWithout_67 : decode cX5_fullDayWithout 67 = .ok (.iadd, 1) := by decide +kernel
theorem dX5_fullDayWithout_68 : decode cX5_fullDayWithout 68 = .ok (.istore_n 3, 1) := by decide +kernel
theorem dX5_fullDayWithout_69 : decode cX5_fullDayWithout 69 = .ok (.goto (-60), 3) := by decide +kernel
theorem dX5_fullDayWithout_72 : decode cX5_fullDayWithout 72 = .ok (.ldc 136, 2) := by decide +kernel
theorem dX5_fullDayWithout_74 : decode cX5_fullDayWithout 74 = .ok (.ireturn, 1) := by decide +kernel
theorem dX5_earlyBound_0 : decode cX5_earlyBound 0 = .ok (.aload_n 0, 1) := by decide +kernel
theorem dX5_earlyBound_1 : decode cX5_earlyBound 1 = .ok (.getfield 12, 3) := by decide +kernel
theorem dX5_earlyBound_4 : decode cX5_earlyBound 4 = .ok (.invokevirtual 76, 3) := by decide +kernel
theorem dX5_earlyBound_7 : decode cX5_earlyBound 7 = .ok (.iconst 3, 1) := by decide +kernel
theorem dX5_earlyBound_8 : decode cX5_earlyBound 8 = .ok (.if_icmp .ge 6, 3) := by decide +kernel
theorem dX5_earlyBound_11 : decode cX5_earlyBound 11 = .ok (.ldc 136, 2) := by decide +kernel
theorem dX5_earlyBound_13 : decode cX5_earlyBound 13 = .ok (.ireturn, 1) := by decide +kernel
theorem dX5_earlyBound_14 : decode cX5_earlyBound 14 = .ok (.aload_n 0, 1) := by decide +kernel
theorem dX5_earlyBound_15 : decode cX5_earlyBound 15 = .ok (.iconst (-1), 1) := by decide +kernel
theorem dX5_earlyBound_16 : decode cX5_earlyBound 16 = .ok (.invokevirtual 133, 3) := by decide +kernel
theorem dX5_earlyBound_19 : decode cX5_earlyBound 19 = .ok (.istore_n 1, 1) := by decide +kernel
theorem dX5_earlyBound_20 : decode cX5_earlyBound 20 = .ok (.iconst 0, 1) := by decide +kernel
theorem dX5_earlyBound_21 : decode cX5_earlyBound 21 = .ok (.istore_n 2, 1) := by decide +kernel
theorem dX5_earlyBound_22 : decode cX5_earlyBound 22 = .ok (.iload_n 2, 1) := by decide +kernel
theorem dX5_earlyBound_23 : decode cX5_earlyBound 23 = .ok (.aload_n 0, 1) := by decide +kernel
theorem dX5_earlyBound_24 : decode cX5_earlyBound 24 = .ok (.getfield 12, 3) := by decide +kernel
theorem dX5_earlyBound_27 : decode cX5_earlyBound 27 = .ok (.invokevirtual 76, 3) := by decide +kernel
theorem dX5_earlyBound_30 : decode cX5_earlyBound 30 = .ok (.if_icmp .ge 19, 3) := by decide +kernel
theorem dX5_earlyBound_33 : decode cX5_earlyBound 33 = .ok (.iload_n 1, 1) := by decide +kernel
theorem dX5_earlyBound_34 : decode cX5_earlyBound 34 = .ok (.aload_n 0, 1) := by decide +kernel
theorem dX5_earlyBound_35 : decode cX5_earlyBound 35 = .ok (.iload_n 2, 1) := by decide +kernel
theorem dX5_earlyBound_36 : decode cX5_earlyBound 36 = .ok (.invokevirtual 133, 3) := by decide +kernel
theorem dX5_earlyBound_39 : decode cX5_earlyBound 39 = .ok (.invokestatic 148, 3) := by decide +kernel
theorem dX5_earlyBound_42 : decode cX5_earlyBound 42 = .ok (.istore_n 1, 1) := by decide +kernel
theorem dX5_earlyBound_43 : decode cX5_earlyBound 43 = .ok (.iinc 2 1, 3) := by decide +kernel
theorem dX5_earlyBound_46 : decode cX5_earlyBound 46 = .ok (.goto (-24), 3) := by decide +kernel
theorem dX5_earlyBound_49 : decode cX5_earlyBound 49 = .ok (.iload_n 1, 1) := by decide +kernel
theorem dX5_earlyBound_50 : decode cX5_earlyBound 50 = .ok (.ireturn, 1) := by decide +kernel
theorem dX5_lateBound_0 : decode cX5_lateBound 0 = .ok (.aload_n 0, 1) := by decide +kernel
theorem dX5_lateBound_1 : decode cX5_lateBound 1 = .ok (.getfield 12, 3) := by decide +kernel
theorem dX5_lateBound_4 : decode cX5_lateBound 4 = .ok (.invokevirtual 76, 3) := by decide +kernel
theorem dX5_lateBound_7 : decode cX5_lateBound 7 = .ok (.iconst 3, 1) := by decide +kernel
theorem dX5_lateBound_8 : decode cX5_lateBound 8 = .ok (.if_icmp .ge 6, 3) := by decide +kernel
theorem dX5_lateBound_11 : decode cX5_lateBound 11 = .ok (.ldc 136, 2) := by decide +kernel
theorem dX5_lateBound_13 : decode cX5_lateBound 13 = .ok (.ireturn, 1) := by decide +kernel
theorem dX5_lateBound_14 : decode cX5_lateBound 14 = .ok (.aload_n 0, 1) := by decide +kernel
theorem dX5_lateBound_15 : decode cX5_lateBound 15 = .ok (.iconst (-1), 1) := by decide +kernel
theorem dX5_lateBound_16 : decode cX5_lateBound 16 = .ok (.invokevirtual 133, 3) := by decide +kernel
theorem dX5_lateBound_19 : decode cX5_lateBound 19 = .ok (.istore_n 1, 1) := by decide +kernel
theorem dX5_lateBound_20 : decode cX5_lateBound 20 = .ok (.iconst 0, 1) := by decide +kernel
theorem dX5_lateBound_21 : decode cX5_lateBound 21 = .ok (.istore_n 2, 1) := by decide +kernel
theorem dX5_lateBound_22 : decode cX5_lateBound 22 = .ok (.iload_n 2, 1) := by decide +kernel
theorem dX5_lateBound_23 : decode cX5_lateBound 23 = .ok (.aload_n 0, 1) := by decide +kernel
theorem dX5_lateBound_24 : decode cX5_lateBound 24 = .ok (.getfield 12, 3) := by decide +kernel
theorem dX5_lateBound_27 : decode cX5_lateBound 27 = .ok (.invokevirtual 76, 3) := by decide +kernel
theorem dX5_lateBound_30 : decode cX5_lateBound 30 = .ok (.if_icmp .ge 19, 3) := by decide +kernel
theorem dX5_lateBound_33 : decode cX5_lateBound 33 = .ok (.iload_n 1, 1) := by decide +kernel
theorem dX5_lateBound_34 : decode cX5_lateBound 34 = .ok (.aload_n 0, 1) := by decide +kernel
theorem dX5_lateBound_35 : decode cX5_lateBound 35 = .ok (.iload_n 2, 1) := by decide +kernel
theorem dX5_lateBound_36 : decode cX5_lateBound 36 = .ok (.invokevirtual 133, 3) := by decide +kernel
theorem dX5_lateBound_39 : decode cX5_lateBound 39 = .ok (.invokestatic 146, 3) := by decide +kernel
theorem dX5_lateBound_42 : decode cX5_lateBound 42 = .ok (.istore_n 1, 1) := by decide +kernel
theorem dX5_lateBound_43 : decode cX5_lateBound 43 = .ok (.iinc 2 1, 3) := by decide +kernel
theorem dX5_lateBound_46 : decode cX5_lateBound 46 = .ok (.goto (-24), 3) := by decide +kernel
theorem dX5_lateBound_49 : decode cX5_lateBound 49 = .ok (.iload_n 1, 1) := by decide +kernel
theorem dX5_lateBound_50 : decode cX5_lateBound 50 = .ok (.ireturn, 1) := by decide +kernel
theorem dX5_lookOnDaysAfter_0 : decode cX5_lookOnDaysAfter 0 = .ok (.aload_n 0, 1) := by decide +kernel
theorem dX5_lookOnDaysAfter_1 : decode cX5_lookOnDaysAfter 1 = .ok (.invokevirtual 150, 3) := by decide +kernel
theorem dX5_lookOnDaysAfter_4 : decode cX5_lookOnDaysAfter 4 = .ok (.istore_n 3, 1) := by decide +kernel
theorem dX5_lookOnDaysAfter_5 : decode cX5_lookOnDaysAfter 5 = .ok (.iconst 0, 1) := by decide +kernel
theorem dX5_lookOnDaysAfter_6 : decode cX5_lookOnDaysAfter 6 = .ok (.istore 4, 2) := by decide +kernel
theorem dX5_lookOnDaysAfter_8 : decode cX5_lookOnDaysAfter 8 = .ok (.iconst 1, 1) := by decide +kernel
theorem dX5_lookOnDaysAfter_9 : decode cX5_lookOnDaysAfter 9 = .ok (.istore 5, 2) := by decide +kernel
theorem dX5_lookOnDaysAfter_11 : decode cX5_lookOnDaysAfter 11 = .ok (.iload 5, 2) := by decide +kernel
theorem dX5_lookOnDaysAfter_13 : decode cX5_lookOnDaysAfter 13 = .ok (.iload_n 2, 1) := by decide +kernel
theorem dX5_lookOnDaysAfter_14 : decode cX5_lookOnDaysAfter 14 = .ok (.if_icmp .gt 27, 3) := by decide +kernel
theorem dX5_lookOnDaysAfter_17 : decode cX5_lookOnDaysAfter 17 = .ok (.aload_n 0, 1) := by decide +kernel
theorem dX5_lookOnDaysAfter_18 : decode cX5_lookOnDaysAfter 18 = .ok (.getfield 49, 3) := by decide +kernel
theorem dX5_lookOnDaysAfter_21 : decode cX5_lookOnDaysAfter 21 = .ok (.iload_n 3, 1) := by decide +kernel
theorem dX5_lookOnDaysAfter_22 : decode cX5_lookOnDaysAfter 22 = .ok (.iload_n 1, 1) := by decide +kernel
theorem dX5_lookOnDaysAfter_23 : decode cX5_lookOnDaysAfter 23 = .ok (.iload 5, 2) := by decide +kernel
theorem dX5_lookOnDaysAfter_25 : decode cX5_lookOnDaysAfter 25 = .ok (.iadd, 1) := by decide +kernel
theorem dX5_lookOnDaysAfter_26 : decode cX5_lookOnDaysAfter 26 = .ok (.invokevirtual 153, 3) := by decide +kernel
theorem dX5_lookOnDaysAfter_29 : decode cX5_lookOnDaysAfter 29 = .ok (.ifCond .eq 6, 3) := by decide +kernel
theorem dX5_lookOnDaysAfter_32 : decode cX5_lookOnDaysAfter 32 = .ok (.iinc 4 1, 3) := by decide +kernel
theorem dX5_lookOnDaysAfter_35 : decode cX5_lookOnDaysAfter 35 = .ok (.iinc 5 1, 3) := by decide +kernel
theorem dX5_lookOnDaysAfter_38 : decode cX5_lookOnDaysAfter 38 = .ok (.goto (-27), 3) := by decide +kernel
theorem dX5_lookOnDaysAfter_41 : decode cX5_lookOnDaysAfter 41 = .ok (.iload 4, 2) := by decide +kernel
theorem dX5_lookOnDaysAfter_43 : decode cX5_lookOnDaysAfter 43 = .ok (.ireturn, 1) := by decide +kernel
theorem dX6_init_0 : decode cX6_init 0 = .ok (.aload_n 0, 1) := by decide +kernel
theorem dX6_init_1 : decode cX6_init 1 = .ok (.invokespecial 3, 3) := by decide +kernel
theorem dX6_init_4 : decode cX6_init 4 = .ok (.return_, 1) := by decide +kernel
theorem dX6_lookChanges_0 : decode cX6_lookChanges 0 = .ok (.aload_n 0, 1) := by decide +kernel
theorem dX6_lookChanges_1 : decode cX6_lookChanges 1 = .ok (.getfield 9, 3) := by decide +kernel
theorem dX6_lookChanges_4 : decode cX6_lookChanges 4 = .ok (.istore_n 3, 1) := by decide +kernel
theorem dX6_lookChanges_5 : decode cX6_lookChanges 5 = .ok (.iload_n 1, 1) := by decide +kernel
theorem dX6_lookChanges_6 : decode cX6_lookChanges 6 = .ok (.iload_n 2, 1) := by decide +kernel
theorem dX6_lookChanges_7 : decode cX6_lookChanges 7 = .ok (.isub, 1) := by decide +kernel
theorem dX6_lookChanges_8 : decode cX6_lookChanges 8 = .ok (.istore 4, 2) := by decide +kernel
theorem dX6_lookChanges_10 : decode cX6_lookChanges 10 = .ok (.iload 4, 2) := by decide +kernel
theorem dX6_lookChanges_12 : decode cX6_lookChanges 12 = .ok (.bipush 14, 2) := by decide +kernel
theorem dX6_lookChanges_14 : decode cX6_lookChanges 14 = .ok (.if_icmp .gt 7, 3) := by decide +kernel
theorem dX6_lookChanges_17 : decode cX6_lookChanges 17 = .ok (.iconst 1, 1) := by decide +kernel
theorem dX6_lookChanges_18 : decode cX6_lookChanges 18 = .ok (.goto 4, 3) := by decide +kernel
theorem dX6_lookChanges_21 : decode cX6_lookChanges 21 = .ok (.iconst 0, 1) := by decide +kernel
theorem dX6_lookChanges_22 : decode cX6_lookChanges 22 = .ok (.istore 5, 2) := by decide +kernel
theorem dX6_lookChanges_24 : decode cX6_lookChanges 24 = .ok (.iload 5, 2) := by decide +kernel
theorem dX6_lookChanges_26 : decode cX6_lookChanges 26 = .ok (.ifCond .eq 18, 3) := by decide +kernel
theorem dX6_lookChanges_29 : decode cX6_lookChanges 29 = .ok (.aload_n 0, 1) := by decide +kernel
theorem dX6_lookChanges_30 : decode cX6_lookChanges 30 = .ok (.getfield 15, 3) := by decide +kernel
theorem dX6_lookChanges_33 : decode cX6_lookChanges 33 = .ok (.ifCond .eq 11, 3) := by decide +kernel
theorem dX6_lookChanges_36 : decode cX6_lookChanges 36 = .ok (.aload_n 0, 1) := by decide +kernel
theorem dX6_lookChanges_37 : decode cX6_lookChanges 37 = .ok (.iconst 1, 1) := by decide +kernel
theorem dX6_lookChanges_38 : decode cX6_lookChanges 38 = .ok (.putfield 9, 3) := by decide +kernel
theorem dX6_lookChanges_41 : decode cX6_lookChanges 41 = .ok (.goto 15, 3) := by decide +kernel
theorem dX6_lookChanges_44 : decode cX6_lookChanges 44 = .ok (.iload 4, 2) := by decide +kernel
theorem dX6_lookChanges_46 : decode cX6_lookChanges 46 = .ok (.bipush 21, 2) := by decide +kernel
theorem dX6_lookChanges_48 : decode cX6_lookChanges 48 = .ok (.if_icmp .le 8, 3) := by decide +kernel
theorem dX6_lookChanges_51 : decode cX6_lookChanges 51 = .ok (.aload_n 0, 1) := by decide +kernel
theorem dX6_lookChanges_52 : decode cX6_lookChanges 52 = .ok (.iconst 0, 1) := by decide +kernel
theorem dX6_lookChanges_53 : decode cX6_lookChanges 53 = .ok (.putfield 9, 3) := by decide +kernel
theorem dX6_lookChanges_56 : decode cX6_lookChanges 56 = .ok (.aload_n 0, 1) := by decide +kernel
theorem dX6_lookChanges_57 : decode cX6_lookChanges 57 = .ok (.iload 5, 2) := by decide +kernel
theorem dX6_lookChanges_59 : decode cX6_lookChanges 59 = .ok (.putfield 15, 3) := by decide +kernel
theorem dX6_lookChanges_62 : decode cX6_lookChanges 62 = .ok (.aload_n 0, 1) := by decide +kernel
theorem dX6_lookChanges_63 : decode cX6_lookChanges 63 = .ok (.getfield 9, 3) := by decide +kernel
theorem dX6_lookChanges_66 : decode cX6_lookChanges 66 = .ok (.iload_n 3, 1) := by decide +kernel
theorem dX6_lookChanges_67 : decode cX6_lookChanges 67 = .ok (.if_icmp .eq 7, 3) := by decide +kernel
theorem dX6_lookChanges_70 : decode cX6_lookChanges 70 = .ok (.iconst 1, 1) := by decide +kernel
theorem dX6_lookChanges_71 : decode cX6_lookChanges 71 = .ok (.goto 4, 3) := by decide +kernel
theorem dX6_lookChanges_74 : decode cX6_lookChanges 74 = .ok (.iconst 0, 1) := by decide +kernel
theorem dX6_lookChanges_75 : decode cX6_lookChanges 75 = .ok (.ireturn, 1) := by decide +kernel
theorem dX7_init_0 : decode cX7_init 0 = .ok (.aload_n 0, 1) := by decide +kernel
theorem dX7_init_1 : decode cX7_init 1 = .ok (.invokespecial 3, 3) := by decide +kernel
theorem dX7_init_4 : decode cX7_init 4 = .ok (.aload_n 0, 1) := by decide +kernel
theorem dX7_init_5 : decode cX7_init 5 = .ok (.new 9, 3) := by decide +kernel
theorem dX7_init_8 : decode cX7_init 8 = .ok (.dup, 1) := by decide +kernel
theorem dX7_init_9 : decode cX7_init 9 = .ok (.invokespecial 11, 3) := by decide +kernel
theorem dX7_init_12 : decode cX7_init 12 = .ok (.putfield 12, 3) := by decide +kernel
theorem dX7_init_15 : decode cX7_init 15 = .ok (.aload_n 0, 1) := by decide +kernel
theorem dX7_init_16 : decode cX7_init 16 = .ok (.iconst 0, 1) := by decide +kernel
theorem dX7_init_17 : decode cX7_init 17 = .ok (.putfield 16, 3) := by decide +kernel
theorem dX7_init_20 : decode cX7_init 20 = .ok (.return_, 1) := by decide +kernel
theorem dX7_addStore_0 : decode cX7_addStore 0 = .ok (.iload_n 1, 1) := by decide +kernel
theorem dX7_addStore_1 : decode cX7_addStore 1 = .ok (.iconst 1, 1) := by decide +kernel
theorem dX7_addStore_2 : decode cX7_addStore 2 = .ok (.ldc 20, 2) := by decide +kernel
theorem dX7_addStore_4 : decode cX7_addStore 4 = .ok (.invokestatic 21, 3) := by decide +kernel
theorem dX7_addStore_7 : decode cX7_addStore 7 = .ok (.aload_n 0, 1) := by decide +kernel
theorem dX7_addStore_8 : decode cX7_addStore 8 = .ok (.getfield 12, 3) := by decide +kernel
theorem dX7_addStore_11 : decode cX7_addStore 11 = .ok (.invokevirtual 25, 3) := by decide +kernel
theorem dX7_addStore_14 : decode cX7_addStore 14 = .ok (.bipush 8, 2) := by decide +kernel
theorem dX7_addStore_16 : decode cX7_addStore 16 = .ok (.if_icmp .lt 13, 3) := by decide +kernel
theorem dX7_addStore_19 : decode cX7_addStore 19 = .ok (.new 29, 3) := by decide +kernel
theorem dX7_addStore_22 : decode cX7_addStore 22 = .ok (.dup, 1) := by decide +kernel
theorem dX7_addStore_23 : decode cX7_addStore 23 = .ok (.ldc 31, 2) := by decide +kernel
theorem dX7_addStore_25 : decode cX7_addStore 25 = .ok (.invokespecial 33, 3) := by decide +kernel
theorem dX7_addStore_28 : decode cX7_addStore 28 = .ok (.athrow, 1) := by decide +kernel
theorem dX7_addStore_29 : decode cX7_addStore 29 = .ok (.aload_n 0, 1) := by decide +kernel
theorem dX7_addStore_30 : decode cX7_addStore 30 = .ok (.getfield 12, 3) := by decide +kernel
theorem dX7_addStore_33 : decode cX7_addStore 33 = .ok (.new 36, 3) := by decide +kernel
theorem dX7_addStore_36 : decode cX7_addStore 36 = .ok (.dup, 1) := by decide +kernel
theorem dX7_addStore_37 : decode cX7_addStore 37 = .ok (.iload_n 1, 1) := by decide +kernel
theorem dX7_addStore_38 : decode cX7_addStore 38 = .ok (.invokespecial 38, 3) := by decide +kernel
theorem dX7_addStore_41 : decode cX7_addStore 41 = .ok (.invokevirtual 41, 3) := by decide +kernel
theorem dX7_addStore_44 : decode cX7_addStore 44 = .ok (.pop, 1) := by decide +kernel
theorem dX7_addStore_45 : decode cX7_addStore 45 = .ok (.aload_n 0, 1) := by decide +kernel
theorem dX7_addStore_46 : decode cX7_addStore 46 = .ok (.getfield 12, 3) := by decide +kernel
theorem dX7_addStore_49 : decode cX7_addStore 49 = .ok (.invokevirtual 25, 3) := by decide +kernel
theorem dX7_addStore_52 : decode cX7_addStore 52 = .ok (.iconst 1, 1) := by decide +kernel
theorem dX7_addStore_53 : decode cX7_addStore 53 = .ok (.isub, 1) := by decide +kernel
end
section
theorem dX7_addStore_54 : decode cX7_addStore 54 = .ok (.ireturn, 1) := by decide +kernel
theorem dX7_setSize_0 : decode cX7_setSize 0 = .ok (.aload_n 0, 1) := by decide +kernel
theorem dX7_setSize_1 : decode cX7_setSize 1 = .ok (.iload_n 1, 1) := by decide +kernel
theorem dX7_setSize_2 : decode cX7_setSize 2 = .ok (.invokevirtual 45, 3) := by decide +kernel
theorem dX7_setSize_5 : decode cX7_setSize 5 = .ok (.astore_n 3, 1) := by decide +kernel
theorem dX7_setSize_6 : decode cX7_setSize 6 = .ok (.iload_n 2, 1) := by decide +kernel
theorem dX7_setSize_7 : decode cX7_setSize 7 = .ok (.iconst 1, 1) := by decide +kernel
theorem dX7_setSize_8 : decode cX7_setSize 8 = .ok (.ldc 20, 2) := by decide +kernel
theorem dX7_setSize_10 : decode cX7_setSize 10 = .ok (.invokestatic 21, 3) := by decide +kernel
theorem dX7_setSize_13 : decode cX7_setSize 13 = .ok (.aload_n 3, 1) := by decide +kernel
theorem dX7_setSize_14 : decode cX7_setSize 14 = .ok (.getfield 49, 3) := by decide +kernel
theorem dX7_setSize_17 : decode cX7_setSize 17 = .ok (.istore 4, 2) := by decide +kernel
theorem dX7_setSize_19 : decode cX7_setSize 19 = .ok (.aload_n 3, 1) := by decide +kernel
theorem dX7_setSize_20 : decode cX7_setSize 20 = .ok (.iload_n 2, 1) := by decide +kernel
theorem dX7_setSize_21 : decode cX7_setSize 21 = .ok (.putfield 49, 3) := by decide +kernel
theorem dX7_setSize_24 : decode cX7_setSize 24 = .ok (.iload 4, 2) := by decide +kernel
theorem dX7_setSize_26 : decode cX7_setSize 26 = .ok (.ireturn, 1) := by decide +kernel
theorem dX7_sample_0 : decode cX7_sample 0 = .ok (.aload_n 0, 1) := by decide +kernel
theorem dX7_sample_1 : decode cX7_sample 1 = .ok (.iload_n 1, 1) := by decide +kernel
theorem dX7_sample_2 : decode cX7_sample 2 = .ok (.invokevirtual 45, 3) := by decide +kernel
theorem dX7_sample_5 : decode cX7_sample 5 = .ok (.astore_n 3, 1) := by decide +kernel
theorem dX7_sample_6 : decode cX7_sample 6 = .ok (.iload_n 2, 1) := by decide +kernel
theorem dX7_sample_7 : decode cX7_sample 7 = .ok (.iconst 0, 1) := by decide +kernel
theorem dX7_sample_8 : decode cX7_sample 8 = .ok (.ldc 20, 2) := by decide +kernel
theorem dX7_sample_10 : decode cX7_sample 10 = .ok (.invokestatic 21, 3) := by decide +kernel
theorem dX7_sample_13 : decode cX7_sample 13 = .ok (.aload_n 3, 1) := by decide +kernel
theorem dX7_sample_14 : decode cX7_sample 14 = .ok (.aload_n 0, 1) := by decide +kernel
theorem dX7_sample_15 : decode cX7_sample 15 = .ok (.getfield 16, 3) := by decide +kernel
theorem dX7_sample_18 : decode cX7_sample 18 = .ok (.iload_n 2, 1) := by decide +kernel
theorem dX7_sample_19 : decode cX7_sample 19 = .ok (.invokevirtual 51, 3) := by decide +kernel
theorem dX7_sample_22 : decode cX7_sample 22 = .ok (.aload_n 3, 1) := by decide +kernel
theorem dX7_sample_23 : decode cX7_sample 23 = .ok (.getfield 55, 3) := by decide +kernel
theorem dX7_sample_26 : decode cX7_sample 26 = .ok (.invokevirtual 59, 3) := by decide +kernel
theorem dX7_sample_29 : decode cX7_sample 29 = .ok (.ireturn, 1) := by decide +kernel
theorem dX7_clean_0 : decode cX7_clean 0 = .ok (.aload_n 0, 1) := by decide +kernel
theorem dX7_clean_1 : decode cX7_clean 1 = .ok (.iload_n 1, 1) := by decide +kernel
theorem dX7_clean_2 : decode cX7_clean 2 = .ok (.invokevirtual 45, 3) := by decide +kernel
theorem dX7_clean_5 : decode cX7_clean 5 = .ok (.astore_n 3, 1) := by decide +kernel
theorem dX7_clean_6 : decode cX7_clean 6 = .ok (.iload_n 2, 1) := by decide +kernel
theorem dX7_clean_7 : decode cX7_clean 7 = .ok (.iconst 1, 1) := by decide +kernel
theorem dX7_clean_8 : decode cX7_clean 8 = .ok (.ldc 64, 2) := by decide +kernel
theorem dX7_clean_10 : decode cX7_clean 10 = .ok (.invokestatic 21, 3) := by decide +kernel
theorem dX7_clean_13 : decode cX7_clean 13 = .ok (.aload_n 3, 1) := by decide +kernel
theorem dX7_clean_14 : decode cX7_clean 14 = .ok (.getfield 65, 3) := by decide +kernel
theorem dX7_clean_17 : decode cX7_clean 17 = .ok (.invokevirtual 69, 3) := by decide +kernel
theorem dX7_clean_20 : decode cX7_clean 20 = .ok (.bipush 60, 2) := by decide +kernel
theorem dX7_clean_22 : decode cX7_clean 22 = .ok (.if_icmp .lt 13, 3) := by decide +kernel
theorem dX7_clean_25 : decode cX7_clean 25 = .ok (.new 29, 3) := by decide +kernel
theorem dX7_clean_28 : decode cX7_clean 28 = .ok (.dup, 1) := by decide +kernel
theorem dX7_clean_29 : decode cX7_clean 29 = .ok (.ldc 72, 2) := by decide +kernel
theorem dX7_clean_31 : decode cX7_clean 31 = .ok (.invokespecial 33, 3) := by decide +kernel
theorem dX7_clean_34 : decode cX7_clean 34 = .ok (.athrow, 1) := by decide +kernel
theorem dX7_clean_35 : decode cX7_clean 35 = .ok (.aload_n 3, 1) := by decide +kernel
theorem dX7_clean_36 : decode cX7_clean 36 = .ok (.aload_n 0, 1) := by decide +kernel
theorem dX7_clean_37 : decode cX7_clean 37 = .ok (.getfield 16, 3) := by decide +kernel
theorem dX7_clean_40 : decode cX7_clean 40 = .ok (.iload_n 2, 1) := by decide +kernel
theorem dX7_clean_41 : decode cX7_clean 41 = .ok (.invokevirtual 74, 3) := by decide +kernel
theorem dX7_clean_44 : decode cX7_clean 44 = .ok (.aload_n 3, 1) := by decide +kernel
theorem dX7_clean_45 : decode cX7_clean 45 = .ok (.getfield 65, 3) := by decide +kernel
theorem dX7_clean_48 : decode cX7_clean 48 = .ok (.invokevirtual 69, 3) := by decide +kernel
theorem dX7_clean_51 : decode cX7_clean 51 = .ok (.ireturn, 1) := by decide +kernel
theorem dX7_setRule_0 : decode cX7_setRule 0 = .ok (.aload_n 0, 1) := by decide +kernel
theorem dX7_setRule_1 : decode cX7_setRule 1 = .ok (.iload_n 1, 1) := by decide +kernel
theorem dX7_setRule_2 : decode cX7_setRule 2 = .ok (.invokevirtual 45, 3) := by decide +kernel
theorem dX7_setRule_5 : decode cX7_setRule 5 = .ok (.astore 4, 2) := by decide +kernel
theorem dX7_setRule_7 : decode cX7_setRule 7 = .ok (.iload_n 2, 1) := by decide +kernel
theorem dX7_setRule_8 : decode cX7_setRule 8 = .ok (.iconst 0, 1) := by decide +kernel
theorem dX7_setRule_9 : decode cX7_setRule 9 = .ok (.sipush 3000, 3) := by decide +kernel
theorem dX7_setRule_12 : decode cX7_setRule 12 = .ok (.invokestatic 21, 3) := by decide +kernel
theorem dX7_setRule_15 : decode cX7_setRule 15 = .ok (.iload_n 3, 1) := by decide +kernel
theorem dX7_setRule_16 : decode cX7_setRule 16 = .ok (.iconst 0, 1) := by decide +kernel
theorem dX7_setRule_17 : decode cX7_setRule 17 = .ok (.bipush 100, 2) := by decide +kernel
theorem dX7_setRule_19 : decode cX7_setRule 19 = .ok (.invokestatic 21, 3) := by decide +kernel
theorem dX7_setRule_22 : decode cX7_setRule 22 = .ok (.aload 4, 2) := by decide +kernel
theorem dX7_setRule_24 : decode cX7_setRule 24 = .ok (.getfield 77, 3) := by decide +kernel
theorem dX7_setRule_27 : decode cX7_setRule 27 = .ok (.iload_n 2, 1) := by decide +kernel
theorem dX7_setRule_28 : decode cX7_setRule 28 = .ok (.iload_n 3, 1) := by decide +kernel
theorem dX7_setRule_29 : decode cX7_setRule 29 = .ok (.invokevirtual 81, 3) := by decide +kernel
theorem dX7_setRule_32 : decode cX7_setRule 32 = .ok (.return_, 1) := by decide +kernel
theorem dX7_pass_0 : decode cX7_pass 0 = .ok (.iload_n 1, 1) := by decide +kernel
theorem dX7_pass_1 : decode cX7_pass 1 = .ok (.iconst 1, 1) := by decide +kernel
theorem dX7_pass_2 : decode cX7_pass 2 = .ok (.bipush 100, 2) := by decide +kernel
theorem dX7_pass_4 : decode cX7_pass 4 = .ok (.invokestatic 21, 3) := by decide +kernel
theorem dX7_pass_7 : decode cX7_pass 7 = .ok (.aload_n 0, 1) := by decide +kernel
theorem dX7_pass_8 : decode cX7_pass 8 = .ok (.getfield 16, 3) := by decide +kernel
theorem dX7_pass_11 : decode cX7_pass 11 = .ok (.iload_n 1, 1) := by decide +kernel
theorem dX7_pass_12 : decode cX7_pass 12 = .ok (.iadd, 1) := by decide +kernel
theorem dX7_pass_13 : decode cX7_pass 13 = .ok (.sipush 2000, 3) := by decide +kernel
theorem dX7_pass_16 : decode cX7_pass 16 = .ok (.if_icmp .le 13, 3) := by decide +kernel
theorem dX7_pass_19 : decode cX7_pass 19 = .ok (.new 29, 3) := by decide +kernel
theorem dX7_pass_22 : decode cX7_pass 22 = .ok (.dup, 1) := by decide +kernel
theorem dX7_pass_23 : decode cX7_pass 23 = .ok (.ldc 86, 2) := by decide +kernel
theorem dX7_pass_25 : decode cX7_pass 25 = .ok (.invokespecial 33, 3) := by decide +kernel
theorem dX7_pass_28 : decode cX7_pass 28 = .ok (.athrow, 1) := by decide +kernel
theorem dX7_pass_29 : decode cX7_pass 29 = .ok (.iconst 0, 1) := by decide +kernel
theorem dX7_pass_30 : decode cX7_pass 30 = .ok (.istore_n 2, 1) := by decide +kernel
theorem dX7_pass_31 : decode cX7_pass 31 = .ok (.iconst 0, 1) := by decide +kernel
theorem dX7_pass_32 : decode cX7_pass 32 = .ok (.istore_n 3, 1) := by decide +kernel
theorem dX7_pass_33 : decode cX7_pass 33 = .ok (.iload_n 3, 1) := by decide +kernel
theorem dX7_pass_34 : decode cX7_pass 34 = .ok (.aload_n 0, 1) := by decide +kernel
theorem dX7_pass_35 : decode cX7_pass 35 = .ok (.getfield 12, 3) := by decide +kernel
theorem dX7_pass_38 : decode cX7_pass 38 = .ok (.invokevirtual 25, 3) := by decide +kernel
theorem dX7_pass_41 : decode cX7_pass 41 = .ok (.if_icmp .ge 31, 3) := by decide +kernel
theorem dX7_pass_44 : decode cX7_pass 44 = .ok (.iload_n 2, 1) := by decide +kernel
theorem dX7_pass_45 : decode cX7_pass 45 = .ok (.aload_n 0, 1) := by decide +kernel
theorem dX7_pass_46 : decode cX7_pass 46 = .ok (.getfield 12, 3) := by decide +kernel
theorem dX7_pass_49 : decode cX7_pass 49 = .ok (.iload_n 3, 1) := by decide +kernel
theorem dX7_pass_50 : decode cX7_pass 50 = .ok (.invokevirtual 88, 3) := by decide +kernel
theorem dX7_pass_53 : decode cX7_pass 53 = .ok (.checkcast 36, 3) := by decide +kernel
theorem dX7_pass_56 : decode cX7_pass 56 = .ok (.aload_n 0, 1) := by decide +kernel
theorem dX7_pass_57 : decode cX7_pass 57 = .ok (.getfield 16, 3) := by decide +kernel
theorem dX7_pass_60 : decode cX7_pass 60 = .ok (.iload_n 1, 1) := by decide +kernel
theorem dX7_pass_61 : decode cX7_pass 61 = .ok (.invokevirtual 92, 3) := by decide +kernel
theorem dX7_pass_64 : decode cX7_pass 64 = .ok (.iadd, 1) := by decide +kernel
theorem dX7_pass_65 : decode cX7_pass 65 = .ok (.istore_n 2, 1) := by decide +kernel
theorem dX7_pass_66 : decode cX7_pass 66 = .ok (.iinc 3 1, 3) := by decide +kernel
theorem dX7_pass_69 : decode cX7_pass 69 = .ok (.goto (-36), 3) := by decide +kernel
theorem dX7_pass_72 : decode cX7_pass 72 = .ok (.aload_n 0, 1) := by decide +kernel
theorem dX7_pass_73 : decode cX7_pass 73 = .ok (.dup, 1) := by decide +kernel
theorem dX7_pass_74 : decode cX7_pass 74 = .ok (.getfield 16, 3) := by decide +kernel
theorem dX7_pass_77 : decode cX7_pass 77 = .ok (.iload_n 1, 1) := by decide +kernel
theorem dX7_pass_78 : decode cX7_pass 78 = .ok (.iadd, 1) := by decide +kernel
theorem dX7_pass_79 : decode cX7_pass 79 = .ok (.putfield 16, 3) := by decide +kernel
theorem dX7_pass_82 : decode cX7_pass 82 = .ok (.iload_n 2, 1) := by decide +kernel
theorem dX7_pass_83 : decode cX7_pass 83 = .ok (.ireturn, 1) := by decide +kernel
theorem dX7_today_0 : decode cX7_today 0 = .ok (.aload_n 0, 1) := by decide +kernel
theorem dX7_today_1 : decode cX7_today 1 = .ok (.getfield 16, 3) := by decide +kernel
theorem dX7_today_4 : decode cX7_today 4 = .ok (.ireturn, 1) := by decide +kernel
theorem dX7_samples_0 : decode cX7_samples 0 = .ok (.aload_n 0, 1) := by decide +kernel
theorem dX7_samples_1 : decode cX7_samples 1 = .ok (.iload_n 1, 1) := by decide +kernel
theorem dX7_samples_2 : decode cX7_samples 2 = .ok (.invokevirtual 45, 3) := by decide +kernel
theorem dX7_samples_5 : decode cX7_samples 5 = .ok (.getfield 55, 3) := by decide +kernel
theorem dX7_samples_8 : decode cX7_samples 8 = .ok (.invokevirtual 59, 3) := by decide +kernel
theorem dX7_samples_11 : decode cX7_samples 11 = .ok (.ireturn, 1) := by decide +kernel
theorem dX7_slopeNumerator_0 : decode cX7_slopeNumerator 0 = .ok (.aload_n 0, 1) := by decide +kernel
theorem dX7_slopeNumerator_1 : decode cX7_slopeNumerator 1 = .ok (.iload_n 1, 1) := by decide +kernel
theorem dX7_slopeNumerator_2 : decode cX7_slopeNumerator 2 = .ok (.invokevirtual 96, 3) := by decide +kernel
theorem dX7_slopeNumerator_5 : decode cX7_slopeNumerator 5 = .ok (.invokevirtual 100, 3) := by decide +kernel
theorem dX7_slopeNumerator_8 : decode cX7_slopeNumerator 8 = .ok (.ireturn, 1) := by decide +kernel
theorem dX7_slopeDenominator_0 : decode cX7_slopeDenominator 0 = .ok (.aload_n 0, 1) := by decide +kernel
theorem dX7_slopeDenominator_1 : decode cX7_slopeDenominator 1 = .ok (.iload_n 1, 1) := by decide +kernel
theorem dX7_slopeDenominator_2 : decode cX7_slopeDenominator 2 = .ok (.invokevirtual 96, 3) := by decide +kernel
theorem dX7_slopeDenominator_5 : decode cX7_slopeDenominator 5 = .ok (.invokevirtual 105, 3) := by decide +kernel
theorem dX7_slopeDenominator_8 : decode cX7_slopeDenominator 8 = .ok (.ireturn, 1) := by decide +kernel
theorem dX7_usual_0 : decode cX7_usual 0 = .ok (.aload_n 0, 1) := by decide +kernel
theorem dX7_usual_1 : decode cX7_usual 1 = .ok (.iload_n 1, 1) := by decide +kernel
theorem dX7_usual_2 : decode cX7_usual 2 = .ok (.invokevirtual 45, 3) := by decide +kernel
theorem dX7_usual_5 : decode cX7_usual 5 = .ok (.getfield 65, 3) := by decide +kernel
theorem dX7_usual_8 : decode cX7_usual 8 = .ok (.invokevirtual 108, 3) := by decide +kernel
theorem dX7_usual_11 : decode cX7_usual 11 = .ok (.ireturn, 1) := by decide +kernel
theorem dX7_forecast_0 : decode cX7_forecast 0 = .ok (.aload_n 0, 1) := by decide +kernel
theorem dX7_forecast_1 : decode cX7_forecast 1 = .ok (.iload_n 1, 1) := by decide +kernel
theorem dX7_forecast_2 : decode cX7_forecast 2 = .ok (.invokevirtual 45, 3) := by decide +kernel
theorem dX7_forecast_5 : decode cX7_forecast 5 = .ok (.astore_n 3, 1) := by decide +kernel
theorem dX7_forecast_6 : decode cX7_forecast 6 = .ok (.aload_n 0, 1) := by decide +kernel
theorem dX7_forecast_7 : decode cX7_forecast 7 = .ok (.iload_n 1, 1) := by decide +kernel
theorem dX7_forecast_8 : decode cX7_forecast 8 = .ok (.invokevirtual 96, 3) := by decide +kernel
theorem dX7_forecast_11 : decode cX7_forecast 11 = .ok (.astore 4, 2) := by decide +kernel
theorem dX7_forecast_13 : decode cX7_forecast 13 = .ok (.iload_n 2, 1) := by decide +kernel
theorem dX7_forecast_14 : decode cX7_forecast 14 = .ok (.aload 4, 2) := by decide +kernel
theorem dX7_forecast_16 : decode cX7_forecast 16 = .ok (.getfield 111, 3) := by decide +kernel
theorem dX7_forecast_19 : decode cX7_forecast 19 = .ok (.iconst 1, 1) := by decide +kernel
theorem dX7_forecast_20 : decode cX7_forecast 20 = .ok (.iadd, 1) := by decide +kernel
theorem dX7_forecast_21 : decode cX7_forecast 21 = .ok (.aload 4, 2) := by decide +kernel
theorem dX7_forecast_23 : decode cX7_forecast 23 = .ok (.getfield 111, 3) := by decide +kernel
theorem dX7_forecast_26 : decode cX7_forecast 26 = .ok (.sipush 1000, 3) := by decide +kernel
theorem dX7_forecast_29 : decode cX7_forecast 29 = .ok (.iadd, 1) := by decide +kernel
theorem dX7_forecast_30 : decode cX7_forecast 30 = .ok (.invokestatic 21, 3) := by decide +kernel
theorem dX7_forecast_33 : decode cX7_forecast 33 = .ok (.aload_n 3, 1) := by decide +kernel
theorem dX7_forecast_34 : decode cX7_forecast 34 = .ok (.iload_n 2, 1) := by decide +kernel
theorem dX7_forecast_35 : decode cX7_forecast 35 = .ok (.invokevirtual 114, 3) := by decide +kernel
theorem dX7_forecast_38 : decode cX7_forecast 38 = .ok (.ireturn, 1) := by decide +kernel
theorem dX7_full_0 : decode cX7_full 0 = .ok (.aload_n 0, 1) := by decide +kernel
theorem dX7_full_1 : decode cX7_full 1 = .ok (.iload_n 1, 1) := by decide +kernel
theorem dX7_full_2 : decode cX7_full 2 = .ok (.invokevirtual 45, 3) := by decide +kernel
theorem dX7_full_5 : decode cX7_full 5 = .ok (.invokevirtual 118, 3) := by decide +kernel
theorem dX7_full_8 : decode cX7_full 8 = .ok (.invokestatic 121, 3) := by decide +kernel
theorem dX7_full_11 : decode cX7_full 11 = .ok (.ireturn, 1) := by decide +kernel
theorem dX7_early_0 : decode cX7_early 0 = .ok (.aload_n 0, 1) := by decide +kernel
theorem dX7_early_1 : decode cX7_early 1 = .ok (.iload_n 1, 1) := by decide +kernel
theorem dX7_early_2 : decode cX7_early 2 = .ok (.invokevirtual 45, 3) := by decide +kernel
theorem dX7_early_5 : decode cX7_early 5 = .ok (.invokevirtual 124, 3) := by decide +kernel
theorem dX7_early_8 : decode cX7_early 8 = .ok (.invokestatic 121, 3) := by decide +kernel
theorem dX7_early_11 : decode cX7_early 11 = .ok (.ireturn, 1) := by decide +kernel
theorem dX7_late_0 : decode cX7_late 0 = .ok (.aload_n 0, 1) := by decide +kernel
theorem dX7_late_1 : decode cX7_late 1 = .ok (.iload_n 1, 1) := by decide +kernel
theorem dX7_late_2 : decode cX7_late 2 = .ok (.invokevirtual 45, 3) := by decide +kernel
theorem dX7_late_5 : decode cX7_late 5 = .ok (.invokevirtual 127, 3) := by decide +kernel
theorem dX7_late_8 : decode cX7_late 8 = .ok (.invokestatic 121, 3) := by decide +kernel
theorem dX7_late_11 : decode cX7_late 11 = .ok (.ireturn, 1) := by decide +kernel
theorem dX7_warns_0 : decode cX7_warns 0 = .ok (.aload_n 0, 1) := by decide +kernel
theorem dX7_warns_1 : decode cX7_warns 1 = .ok (.iload_n 1, 1) := by decide +kernel
theorem dX7_warns_2 : decode cX7_warns 2 = .ok (.invokevirtual 45, 3) := by decide +kernel
theorem dX7_warns_5 : decode cX7_warns 5 = .ok (.getfield 130, 3) := by decide +kernel
theorem dX7_warns_8 : decode cX7_warns 8 = .ok (.getfield 134, 3) := by decide +kernel
theorem dX7_warns_11 : decode cX7_warns 11 = .ok (.ireturn, 1) := by decide +kernel
theorem dX7_poolFull_0 : decode cX7_poolFull 0 = .ok (.iload_n 1, 1) := by decide +kernel
theorem dX7_poolFull_1 : decode cX7_poolFull 1 = .ok (.ifCond .eq 15, 3) := by decide +kernel
theorem dX7_poolFull_4 : decode cX7_poolFull 4 = .ok (.iload_n 1, 1) := by decide +kernel
theorem dX7_poolFull_5 : decode cX7_poolFull 5 = .ok (.aload_n 0, 1) := by decide +kernel
theorem dX7_poolFull_6 : decode cX7_poolFull 6 = .ok (.getfield 12, 3) := by decide +kernel
theorem dX7_poolFull_9 : decode cX7_poolFull 9 = .ok (.invokevirtual 25, 3) := by decide +kernel
theorem dX7_poolFull_12 : decode cX7_poolFull 12 = .ok (.iushr, 1) := by decide +kernel
theorem dX7_poolFull_13 : decode cX7_poolFull 13 = .ok (.ifCond .eq 13, 3) := by decide +kernel
theorem dX7_poolFull_16 : decode cX7_poolFull 16 = .ok (.new 140, 3) := by decide +kernel
theorem dX7_poolFull_19 : decode cX7_poolFull 19 = .ok (.dup, 1) := by decide +kernel
theorem dX7_poolFull_20 : decode cX7_poolFull 20 = .ok (.ldc 142, 2) := by decide +kernel
theorem dX7_poolFull_22 : decode cX7_poolFull 22 = .ok (.invokespecial 144, 3) := by decide +kernel
theorem dX7_poolFull_25 : decode cX7_poolFull 25 = .ok (.athrow, 1) := by decide +kernel
theorem dX7_poolFull_26 : decode cX7_poolFull 26 = .ok (.aload_n 0, 1) := by decide +kernel
theorem dX7_poolFull_27 : decode cX7_poolFull 27 = .ok (.iload_n 1, 1) := by decide +kernel
theorem dX7_poolFull_28 : decode cX7_poolFull 28 = .ok (.invokevirtual 145, 3) := by decide +kernel
theorem dX7_poolFull_31 : decode cX7_poolFull 31 = .ok (.ifCond .ne 5, 3) := by decide +kernel
theorem dX7_poolFull_34 : decode cX7_poolFull 34 = .ok (.iconst (-1), 1) := by decide +kernel
theorem dX7_poolFull_35 : decode cX7_poolFull 35 = .ok (.ireturn, 1) := by decide +kernel
theorem dX7_poolFull_36 : decode cX7_poolFull 36 = .ok (.aload_n 0, 1) := by decide +kernel
theorem dX7_poolFull_37 : decode cX7_poolFull 37 = .ok (.iload_n 1, 1) := by decide +kernel
theorem dX7_poolFull_38 : decode cX7_poolFull 38 = .ok (.invokevirtual 149, 3) := by decide +kernel
theorem dX7_poolFull_41 : decode cX7_poolFull 41 = .ok (.lstore_n 2, 1) := by decide +kernel
theorem dX7_poolFull_42 : decode cX7_poolFull 42 = .ok (.iconst 1, 1) := by decide +kernel
theorem dX7_poolFull_43 : decode cX7_poolFull 43 = .ok (.istore 4, 2) := by decide +kernel
theorem dX7_poolFull_45 : decode cX7_poolFull 45 = .ok (.iload 4, 2) := by decide +kernel
theorem dX7_poolFull_47 : decode cX7_poolFull 47 = .ok (.sipush 1000, 3) := by decide +kernel
theorem dX7_poolFull_50 : decode cX7_poolFull 50 = .ok (.if_icmp .gt 34, 3) := by decide +kernel
theorem dX7_poolFull_53 : decode cX7_poolFull 53 = .ok (.aload_n 0, 1) := by decide +kernel
theorem dX7_poolFull_54 : decode cX7_poolFull 54 = .ok (.iload_n 1, 1) := by decide +kernel
theorem dX7_poolFull_55 : decode cX7_poolFull 55 = .ok (.aload_n 0, 1) := by decide +kernel
theorem dX7_poolFull_56 : decode cX7_poolFull 56 = .ok (.getfield 16, 3) := by decide +kernel
theorem dX7_poolFull_59 : decode cX7_poolFull 59 = .ok (.iload 4, 2) := by decide +kernel
theorem dX7_poolFull_61 : decode cX7_poolFull 61 = .ok (.iadd, 1) := by decide +kernel
theorem dX7_poolFull_62 : decode cX7_poolFull 62 = .ok (.invokevirtual 153, 3) := by decide +kernel
theorem dX7_poolFull_65 : decode cX7_poolFull 65 = .ok (.lload_n 2, 1) := by decide +kernel
theorem dX7_poolFull_66 : decode cX7_poolFull 66 = .ok (.lcmp, 1) := by decide +kernel
theorem dX7_poolFull_67 : decode cX7_poolFull 67 = .ok (.ifCond .lt 11, 3) := by decide +kernel
theorem dX7_poolFull_70 : decode cX7_poolFull 70 = .ok (.aload_n 0, 1) := by decide +kernel
theorem dX7_poolFull_71 : decode cX7_poolFull 71 = .ok (.getfield 16, 3) := by decide +kernel
theorem dX7_poolFull_74 : decode cX7_poolFull 74 = .ok (.iload 4, 2) := by decide +kernel
theorem dX7_poolFull_76 : decode cX7_poolFull 76 = .ok (.iadd, 1) := by decide +kernel
theorem dX7_poolFull_77 : decode cX7_poolFull 77 = .ok (.ireturn, 1) := by decide +kernel
theorem dX7_poolFull_78 : decode cX7_poolFull 78 = .ok (.iinc 4 1, 3) := by decide +kernel
theorem dX7_poolFull_81 : decode cX7_poolFull 81 = .ok (.goto (-36), 3) := by decide +kernel
theorem dX7_poolFull_84 : decode cX7_poolFull 84 = .ok (.iconst (-1), 1) := by decide +kernel
theorem dX7_poolFull_85 : decode cX7_poolFull 85 = .ok (.ireturn, 1) := by decide +kernel
theorem dX7_demandRange_0 : decode cX7_demandRange 0 = .ok (.iload_n 0, 1) := by decide +kernel
theorem dX7_demandRange_1 : decode cX7_demandRange 1 = .ok (.iload_n 1, 1) := by decide +kernel
theorem dX7_demandRange_2 : decode cX7_demandRange 2 = .ok (.if_icmp .lt 8, 3) := by decide +kernel
theorem dX7_demandRange_5 : decode cX7_demandRange 5 = .ok (.iload_n 0, 1) := by decide +kernel
theorem dX7_demandRange_6 : decode cX7_demandRange 6 = .ok (.iload_n 2, 1) := by decide +kernel
theorem dX7_demandRange_7 : decode cX7_demandRange 7 = .ok (.if_icmp .le 13, 3) := by decide +kernel
theorem dX7_demandRange_10 : decode cX7_demandRange 10 = .ok (.new 140, 3) := by decide +kernel
theorem dX7_demandRange_13 : decode cX7_demandRange 13 = .ok (.dup, 1) := by decide +kernel
theorem dX7_demandRange_14 : decode cX7_demandRange 14 = .ok (.ldc 157, 2) := by decide +kernel
theorem dX7_demandRange_16 : decode cX7_demandRange 16 = .ok (.invokespecial 144, 3) := by decide +kernel
theorem dX7_demandRange_19 : decode cX7_demandRange 19 = .ok (.athrow, 1) := by decide +kernel
theorem dX7_demandRange_20 : decode cX7_demandRange 20 = .ok (.return_, 1) := by decide +kernel
theorem dX7_storeAt_0 : decode cX7_storeAt 0 = .ok (.iload_n 1, 1) := by decide +kernel
theorem dX7_storeAt_1 : decode cX7_storeAt 1 = .ok (.ifCond .lt 14, 3) := by decide +kernel
theorem dX7_storeAt_4 : decode cX7_storeAt 4 = .ok (.iload_n 1, 1) := by decide +kernel
theorem dX7_storeAt_5 : decode cX7_storeAt 5 = .ok (.aload_n 0, 1) := by decide +kernel
theorem dX7_storeAt_6 : decode cX7_storeAt 6 = .ok (.getfield 12, 3) := by decide +kernel
theorem dX7_storeAt_9 : decode cX7_storeAt 9 = .ok (.invokevirtual 25, 3) := by decide +kernel
theorem dX7_storeAt_12 : decode cX7_storeAt 12 = .ok (.if_icmp .lt 13, 3) := by decide +kernel
theorem dX7_storeAt_15 : decode cX7_storeAt 15 = .ok (.new 159, 3) := by decide +kernel
theorem dX7_storeAt_18 : decode cX7_storeAt 18 = .ok (.dup, 1) := by decide +kernel
theorem dX7_storeAt_19 : decode cX7_storeAt 19 = .ok (.ldc 161, 2) := by decide +kernel
theorem dX7_storeAt_21 : decode cX7_storeAt 21 = .ok (.invokespecial 163, 3) := by decide +kernel
theorem dX7_storeAt_24 : decode cX7_storeAt 24 = .ok (.athrow, 1) := by decide +kernel
theorem dX7_storeAt_25 : decode cX7_storeAt 25 = .ok (.aload_n 0, 1) := by decide +kernel
theorem dX7_storeAt_26 : decode cX7_storeAt 26 = .ok (.getfield 12, 3) := by decide +kernel
theorem dX7_storeAt_29 : decode cX7_storeAt 29 = .ok (.iload_n 1, 1) := by decide +kernel
theorem dX7_storeAt_30 : decode cX7_storeAt 30 = .ok (.invokevirtual 88, 3) := by decide +kernel
theorem dX7_storeAt_33 : decode cX7_storeAt 33 = .ok (.checkcast 36, 3) := by decide +kernel
theorem dX7_storeAt_36 : decode cX7_storeAt 36 = .ok (.areturn, 1) := by decide +kernel
theorem dX7_slopeOf_0 : decode cX7_slopeOf 0 = .ok (.aload_n 0, 1) := by decide +kernel
theorem dX7_slopeOf_1 : decode cX7_slopeOf 1 = .ok (.iload_n 1, 1) := by decide +kernel
theorem dX7_slopeOf_2 : decode cX7_slopeOf 2 = .ok (.invokevirtual 45, 3) := by decide +kernel
theorem dX7_slopeOf_5 : decode cX7_slopeOf 5 = .ok (.astore_n 2, 1) := by decide +kernel
theorem dX7_slopeOf_6 : decode cX7_slopeOf 6 = .ok (.aload_n 2, 1) := by decide +kernel
theorem dX7_slopeOf_7 : decode cX7_slopeOf 7 = .ok (.invokevirtual 164, 3) := by decide +kernel
theorem dX7_slopeOf_10 : decode cX7_slopeOf 10 = .ok (.ifCond .ne 13, 3) := by decide +kernel
theorem dX7_slopeOf_13 : decode cX7_slopeOf 13 = .ok (.new 29, 3) := by decide +kernel
theorem dX7_slopeOf_16 : decode cX7_slopeOf 16 = .ok (.dup, 1) := by decide +kernel
theorem dX7_slopeOf_17 : decode cX7_slopeOf 17 = .ok (.ldc 168, 2) := by decide +kernel
theorem dX7_slopeOf_19 : decode cX7_slopeOf 19 = .ok (.invokespecial 33, 3) := by decide +kernel
theorem dX7_slopeOf_22 : decode cX7_slopeOf 22 = .ok (.athrow, 1) := by decide +kernel
theorem dX7_slopeOf_23 : decode cX7_slopeOf 23 = .ok (.aload_n 2, 1) := by decide +kernel
theorem dX7_slopeOf_24 : decode cX7_slopeOf 24 = .ok (.iconst (-1), 1) := by decide +kernel
theorem dX7_slopeOf_25 : decode cX7_slopeOf 25 = .ok (.invokevirtual 170, 3) := by decide +kernel
theorem dX7_slopeOf_28 : decode cX7_slopeOf 28 = .ok (.aload_n 2, 1) := by decide +kernel
theorem dX7_slopeOf_29 : decode cX7_slopeOf 29 = .ok (.getfield 173, 3) := by decide +kernel
theorem dX7_slopeOf_32 : decode cX7_slopeOf 32 = .ok (.areturn, 1) := by decide +kernel
theorem dX7_dayOrNone_0 : decode cX7_dayOrNone 0 = .ok (.iload_n 0, 1) := by decide +kernel
theorem dX7_dayOrNone_1 : decode cX7_dayOrNone 1 = .ok (.ldc 20, 2) := by decide +kernel
theorem dX7_dayOrNone_3 : decode cX7_dayOrNone 3 = .ok (.if_icmp .ne 7, 3) := by decide +kernel
theorem dX7_dayOrNone_6 : decode cX7_dayOrNone 6 = .ok (.iconst (-1), 1) := by decide +kernel
theorem dX7_dayOrNone_7 : decode cX7_dayOrNone 7 = .ok (.goto 4, 3) := by decide +kernel
theorem dX7_dayOrNone_10 : decode cX7_dayOrNone 10 = .ok (.iload_n 0, 1) := by decide +kernel
theorem dX7_dayOrNone_11 : decode cX7_dayOrNone 11 = .ok (.ireturn, 1) := by decide +kernel
theorem dX7_middlePlace_0 : decode cX7_middlePlace 0 = .ok (.iload_n 0, 1) := by decide +kernel
theorem dX7_middlePlace_1 : decode cX7_middlePlace 1 = .ok (.iconst 1, 1) := by decide +kernel
theorem dX7_middlePlace_2 : decode cX7_middlePlace 2 = .ok (.isub, 1) := by decide +kernel
theorem dX7_middlePlace_3 : decode cX7_middlePlace 3 = .ok (.iconst 2, 1) := by decide +kernel
theorem dX7_middlePlace_4 : decode cX7_middlePlace 4 = .ok (.idiv, 1) := by decide +kernel
theorem dX7_middlePlace_5 : decode cX7_middlePlace 5 = .ok (.ireturn, 1) := by decide +kernel
theorem dX7_isInPool_0 : decode cX7_isInPool 0 = .ok (.iload_n 0, 1) := by decide +kernel
theorem dX7_isInPool_1 : decode cX7_isInPool 1 = .ok (.iload_n 1, 1) := by decide +kernel
theorem dX7_isInPool_2 : decode cX7_isInPool 2 = .ok (.iushr, 1) := by decide +kernel
theorem dX7_isInPool_3 : decode cX7_isInPool 3 = .ok (.iconst 1, 1) := by decide +kernel
theorem dX7_isInPool_4 : decode cX7_isInPool 4 = .ok (.iand, 1) := by decide +kernel
theorem dX7_isInPool_5 : decode cX7_isInPool 5 = .ok (.iconst 1, 1) := by decide +kernel
theorem dX7_isInPool_6 : decode cX7_isInPool 6 = .ok (.if_icmp .ne 7, 3) := by decide +kernel
theorem dX7_isInPool_9 : decode cX7_isInPool 9 = .ok (.iconst 1, 1) := by decide +kernel
theorem dX7_isInPool_10 : decode cX7_isInPool 10 = .ok (.goto 4, 3) := by decide +kernel
theorem dX7_isInPool_13 : decode cX7_isInPool 13 = .ok (.iconst 0, 1) := by decide +kernel
theorem dX7_isInPool_14 : decode cX7_isInPool 14 = .ok (.ireturn, 1) := by decide +kernel
theorem dX7_drawPool_0 : decode cX7_drawPool 0 = .ok (.iconst 1, 1) := by decide +kernel
theorem dX7_drawPool_1 : decode cX7_drawPool 1 = .ok (.istore_n 2, 1) := by decide +kernel
theorem dX7_drawPool_2 : decode cX7_drawPool 2 = .ok (.iconst 0, 1) := by decide +kernel
theorem dX7_drawPool_3 : decode cX7_drawPool 3 = .ok (.istore_n 3, 1) := by decide +kernel
theorem dX7_drawPool_4 : decode cX7_drawPool 4 = .ok (.iload_n 3, 1) := by decide +kernel
theorem dX7_drawPool_5 : decode cX7_drawPool 5 = .ok (.aload_n 0, 1) := by decide +kernel
theorem dX7_drawPool_6 : decode cX7_drawPool 6 = .ok (.getfield 12, 3) := by decide +kernel
theorem dX7_drawPool_9 : decode cX7_drawPool 9 = .ok (.invokevirtual 25, 3) := by decide +kernel
theorem dX7_drawPool_12 : decode cX7_drawPool 12 = .ok (.if_icmp .ge 59, 3) := by decide +kernel
theorem dX7_drawPool_15 : decode cX7_drawPool 15 = .ok (.iload_n 1, 1) := by decide +kernel
theorem dX7_drawPool_16 : decode cX7_drawPool 16 = .ok (.iload_n 3, 1) := by decide +kernel
theorem dX7_drawPool_17 : decode cX7_drawPool 17 = .ok (.invokestatic 177, 3) := by decide +kernel
theorem dX7_drawPool_20 : decode cX7_drawPool 20 = .ok (.ifCond .eq 45, 3) := by decide +kernel
theorem dX7_drawPool_23 : decode cX7_drawPool 23 = .ok (.iload_n 2, 1) := by decide +kernel
theorem dX7_drawPool_24 : decode cX7_drawPool 24 = .ok (.ifCond .eq 24, 3) := by decide +kernel
theorem dX7_drawPool_27 : decode cX7_drawPool 27 = .ok (.aload_n 0, 1) := by decide +kernel
theorem dX7_drawPool_28 : decode cX7_drawPool 28 = .ok (.getfield 12, 3) := by decide +kernel
theorem dX7_drawPool_31 : decode cX7_drawPool 31 = .ok (.iload_n 3, 1) := by decide +kernel
theorem dX7_drawPool_32 : decode cX7_drawPool 32 = .ok (.invokevirtual 88, 3) := by decide +kernel
theorem dX7_drawPool_35 : decode cX7_drawPool 35 = .ok (.checkcast 36, 3) := by decide +kernel
theorem dX7_drawPool_38 : decode cX7_drawPool 38 = .ok (.invokevirtual 164, 3) := by decide +kernel
theorem dX7_drawPool_41 : decode cX7_drawPool 41 = .ok (.ifCond .eq 7, 3) := by decide +kernel
theorem dX7_drawPool_44 : decode cX7_drawPool 44 = .ok (.iconst 1, 1) := by decide +kernel
theorem dX7_drawPool_45 : decode cX7_drawPool 45 = .ok (.goto 4, 3) := by decide +kernel
theorem dX7_drawPool_48 : decode cX7_drawPool 48 = .ok (.iconst 0, 1) := by decide +kernel
theorem dX7_drawPool_49 : decode cX7_drawPool 49 = .ok (.istore_n 2, 1) := by decide +kernel
theorem dX7_drawPool_50 : decode cX7_drawPool 50 = .ok (.aload_n 0, 1) := by decide +kernel
theorem dX7_drawPool_51 : decode cX7_drawPool 51 = .ok (.getfield 12, 3) := by decide +kernel
theorem dX7_drawPool_54 : decode cX7_drawPool 54 = .ok (.iload_n 3, 1) := by decide +kernel
theorem dX7_drawPool_55 : decode cX7_drawPool 55 = .ok (.invokevirtual 88, 3) := by decide +kernel
theorem dX7_drawPool_58 : decode cX7_drawPool 58 = .ok (.checkcast 36, 3) := by decide +kernel
theorem dX7_drawPool_61 : decode cX7_drawPool 61 = .ok (.iconst (-1), 1) := by decide +kernel
theorem dX7_drawPool_62 : decode cX7_drawPool 62 = .ok (.invokevirtual 170, 3) := by decide +kernel
theorem dX7_drawPool_65 : decode cX7_drawPool 65 = .ok (.iinc 3 1, 3) := by decide +kernel
theorem dX7_drawPool_68 : decode cX7_drawPool 68 = .ok (.goto (-64), 3) := by decide +kernel
theorem dX7_drawPool_71 : decode cX7_drawPool 71 = .ok (.iload_n 2, 1) := by decide +kernel
theorem dX7_drawPool_72 : decode cX7_drawPool 72 = .ok (.ireturn, 1) := by decide +kernel
theorem dX7_poolSize_0 : decode cX7_poolSize 0 = .ok (.lconst 0, 1) := by decide +kernel
theorem dX7_poolSize_1 : decode cX7_poolSize 1 = .ok (.lstore_n 2, 1) := by decide +kernel
theorem dX7_poolSize_2 : decode cX7_poolSize 2 = .ok (.iconst 0, 1) := by decide +kernel
theorem dX7_poolSize_3 : decode cX7_poolSize 3 = .ok (.istore 4, 2) := by decide +kernel
theorem dX7_poolSize_5 : decode cX7_poolSize 5 = .ok (.iload 4, 2) := by decide +kernel
theorem dX7_poolSize_7 : decode cX7_poolSize 7 = .ok (.aload_n 0, 1) := by decide +kernel
theorem dX7_poolSize_8 : decode cX7_poolSize 8 = .ok (.getfield 12, 3) := by decide +kernel
theorem dX7_poolSize_11 : decode cX7_poolSize 11 = .ok (.invokevirtual 25, 3) := by decide +kernel
theorem dX7_poolSize_14 : decode cX7_poolSize 14 = .ok (.if_icmp .ge 37, 3) := by decide +kernel
theorem dX7_poolSize_17 : decode cX7_poolSize 17 = .ok (.iload_n 1, 1) := by decide +kernel
theorem dX7_poolSize_18 : decode cX7_poolSize 18 = .ok (.iload 4, 2) := by decide +kernel
theorem dX7_poolSize_20 : decode cX7_poolSize 20 = .ok (.invokestatic 177, 3) := by decide +kernel
theorem dX7_poolSize_23 : decode cX7_poolSize 23 = .ok (.ifCond .eq 22, 3) := by decide +kernel
theorem dX7_poolSize_26 : decode cX7_poolSize 26 = .ok (.lload_n 2, 1) := by decide +kernel
theorem dX7_poolSize_27 : decode cX7_poolSize 27 = .ok (.aload_n 0, 1) := by decide +kernel
theorem dX7_poolSize_28 : decode cX7_poolSize 28 = .ok (.getfield 12, 3) := by decide +kernel
theorem dX7_poolSize_31 : decode cX7_poolSize 31 = .ok (.iload 4, 2) := by decide +kernel
theorem dX7_poolSize_33 : decode cX7_poolSize 33 = .ok (.invokevirtual 88, 3) := by decide +kernel
theorem dX7_poolSize_36 : decode cX7_poolSize 36 = .ok (.checkcast 36, 3) := by decide +kernel
theorem dX7_poolSize_39 : decode cX7_poolSize 39 = .ok (.getfield 49, 3) := by decide +kernel
theorem dX7_poolSize_42 : decode cX7_poolSize 42 = .ok (.i2l, 1) := by decide +kernel
theorem dX7_poolSize_43 : decode cX7_poolSize 43 = .ok (.ladd, 1) := by decide +kernel
theorem dX7_poolSize_44 : decode cX7_poolSize 44 = .ok (.lstore_n 2, 1) := by decide +kernel
theorem dX7_poolSize_45 : decode cX7_poolSize 45 = .ok (.iinc 4 1, 3) := by decide +kernel
theorem dX7_poolSize_48 : decode cX7_poolSize 48 = .ok (.goto (-43), 3) := by decide +kernel
theorem dX7_poolSize_51 : decode cX7_poolSize 51 = .ok (.lload_n 2, 1) := by decide +kernel
theorem dX7_poolSize_52 : decode cX7_poolSize 52 = .ok (.lreturn, 1) := by decide +kernel
theorem dX7_poolRoomOn_0 : decode cX7_poolRoomOn 0 = .ok (.lconst 0, 1) := by decide +kernel
theorem dX7_poolRoomOn_1 : decode cX7_poolRoomOn 1 = .ok (.lstore_n 3, 1) := by decide +kernel
theorem dX7_poolRoomOn_2 : decode cX7_poolRoomOn 2 = .ok (.iconst 0, 1) := by decide +kernel
theorem dX7_poolRoomOn_3 : decode cX7_poolRoomOn 3 = .ok (.istore 5, 2) := by decide +kernel
theorem dX7_poolRoomOn_5 : decode cX7_poolRoomOn 5 = .ok (.iload 5, 2) := by decide +kernel
theorem dX7_poolRoomOn_7 : decode cX7_poolRoomOn 7 = .ok (.aload_n 0, 1) := by decide +kernel
theorem dX7_poolRoomOn_8 : decode cX7_poolRoomOn 8 = .ok (.getfield 12, 3) := by decide +kernel
theorem dX7_poolRoomOn_11 : decode cX7_poolRoomOn 11 = .ok (.invokevirtual 25, 3) := by decide +kernel
theorem dX7_poolRoomOn_14 : decode cX7_poolRoomOn 14 = .ok (.if_icmp .ge 38, 3) := by decide +kernel
theorem dX7_poolRoomOn_17 : decode cX7_poolRoomOn 17 = .ok (.iload_n 1, 1) := by decide +kernel
theorem dX7_poolRoomOn_18 : decode cX7_poolRoomOn 18 = .ok (.iload 5, 2) := by decide +kernel
theorem dX7_poolRoomOn_20 : decode cX7_poolRoomOn 20 = .ok (.invokestatic 177, 3) := by decide +kernel
theorem dX7_poolRoomOn_23 : decode cX7_poolRoomOn 23 = .ok (.ifCond .eq 23, 3) := by decide +kernel
theorem dX7_poolRoomOn_26 : decode cX7_poolRoomOn 26 = .ok (.lload_n 3, 1) := by decide +kernel
theorem dX7_poolRoomOn_27 : decode cX7_poolRoomOn 27 = .ok (.aload_n 0, 1) := by decide +kernel
theorem dX7_poolRoomOn_28 : decode cX7_poolRoomOn 28 = .ok (.getfield 12, 3) := by decide +kernel
theorem dX7_poolRoomOn_31 : decode cX7_poolRoomOn 31 = .ok (.iload 5, 2) := by decide +kernel
theorem dX7_poolRoomOn_33 : decode cX7_poolRoomOn 33 = .ok (.invokevirtual 88, 3) := by decide +kernel
theorem dX7_poolRoomOn_36 : decode cX7_poolRoomOn 36 = .ok (.checkcast 36, 3) := by decide +kernel
theorem dX7_poolRoomOn_39 : decode cX7_poolRoomOn 39 = .ok (.iload_n 2, 1) := by decide +kernel
theorem dX7_poolRoomOn_40 : decode cX7_poolRoomOn 40 = .ok (.invokevirtual 114, 3) := by decide +kernel
theorem dX7_poolRoomOn_43 : decode cX7_poolRoomOn 43 = .ok (.i2l, 1) := by decide +kernel
theorem dX7_poolRoomOn_44 : decode cX7_poolRoomOn 44 = .ok (.ladd, 1) := by decide +kernel
theorem dX7_poolRoomOn_45 : decode cX7_poolRoomOn 45 = .ok (.lstore_n 3, 1) := by decide +kernel
theorem dX7_poolRoomOn_46 : decode cX7_poolRoomOn 46 = .ok (.iinc 5 1, 3) := by decide +kernel
theorem dX7_poolRoomOn_49 : decode cX7_poolRoomOn 49 = .ok (.goto (-44), 3) := by decide +kernel
theorem dX7_poolRoomOn_52 : decode cX7_poolRoomOn 52 = .ok (.lload_n 3, 1) := by decide +kernel
theorem dX7_poolRoomOn_53 : decode cX7_poolRoomOn 53 = .ok (.lreturn, 1) := by decide +kernel
theorem dX8_init_0 : decode cX8_init 0 = .ok (.aload_n 0, 1) := by decide +kernel
theorem dX8_init_1 : decode cX8_init 1 = .ok (.invokespecial 1, 3) := by decide +kernel
theorem dX8_init_4 : decode cX8_init 4 = .ok (.aload_n 0, 1) := by decide +kernel
theorem dX8_init_5 : decode cX8_init 5 = .ok (.bipush 8, 2) := by decide +kernel
theorem dX8_init_7 : decode cX8_init 7 = .ok (.newarray .int, 2) := by decide +kernel
theorem dX8_init_9 : decode cX8_init 9 = .ok (.putfield 7, 3) := by decide +kernel
theorem dX8_init_12 : decode cX8_init 12 = .ok (.aload_n 0, 1) := by decide +kernel
theorem dX8_init_13 : decode cX8_init 13 = .ok (.bipush 8, 2) := by decide +kernel
theorem dX8_init_15 : decode cX8_init 15 = .ok (.newarray .int, 2) := by decide +kernel
theorem dX8_init_17 : decode cX8_init 17 = .ok (.putfield 13, 3) := by decide +kernel
theorem dX8_init_20 : decode cX8_init 20 = .ok (.aload_n 0, 1) := by decide +kernel
theorem dX8_init_21 : decode cX8_init 21 = .ok (.bipush 96, 2) := by decide +kernel
theorem dX8_init_23 : decode cX8_init 23 = .ok (.newarray .int, 2) := by decide +kernel
theorem dX8_init_25 : decode cX8_init 25 = .ok (.putfield 16, 3) := by decide +kernel
theorem dX8_init_28 : decode cX8_init 28 = .ok (.aload_n 0, 1) := by decide +kernel
theorem dX8_init_29 : decode cX8_init 29 = .ok (.bipush 96, 2) := by decide +kernel
theorem dX8_init_31 : decode cX8_init 31 = .ok (.newarray .int, 2) := by decide +kernel
theorem dX8_init_33 : decode cX8_init 33 = .ok (.putfield 19, 3) := by decide +kernel
theorem dX8_init_36 : decode cX8_init 36 = .ok (.aload_n 0, 1) := by decide +kernel
theorem dX8_init_37 : decode cX8_init 37 = .ok (.bipush 8, 2) := by decide +kernel
theorem dX8_init_39 : decode cX8_init 39 = .ok (.newarray .int, 2) := by decide +kernel
theorem dX8_init_41 : decode cX8_init 41 = .ok (.putfield 22, 3) := by decide +kernel
theorem dX8_init_44 : decode cX8_init 44 = .ok (.aload_n 0, 1) := by decide +kernel
theorem dX8_init_45 : decode cX8_init 45 = .ok (.sipush 480, 3) := by decide +kernel
theorem dX8_init_48 : decode cX8_init 48 = .ok (.newarray .int, 2) := by decide +kernel
theorem dX8_init_50 : decode cX8_init 50 = .ok (.putfield 25, 3) := by decide +kernel
theorem dX8_init_53 : decode cX8_init 53 = .ok (.aload_n 0, 1) := by decide +kernel
theorem dX8_init_54 : decode cX8_init 54 = .ok (.sipush 480, 3) := by decide +kernel
theorem dX8_init_57 : decode cX8_init 57 = .ok (.newarray .int, 2) := by decide +kernel
theorem dX8_init_59 : decode cX8_init 59 = .ok (.putfield 28, 3) := by decide +kernel
theorem dX8_init_62 : decode cX8_init 62 = .ok (.aload_n 0, 1) := by decide +kernel
theorem dX8_init_63 : decode cX8_init 63 = .ok (.bipush 8, 2) := by decide +kernel
theorem dX8_init_65 : decode cX8_init 65 = .ok (.newarray .int, 2) := by decide +kernel
theorem dX8_init_67 : decode cX8_init 67 = .ok (.putfield 31, 3) := by decide +kernel
theorem dX8_init_70 : decode cX8_init 70 = .ok (.aload_n 0, 1) := by decide +kernel
theorem dX8_init_71 : decode cX8_init 71 = .ok (.bipush 8, 2) := by decide +kernel
theorem dX8_init_73 : decode cX8_init 73 = .ok (.newarray .int, 2) := by decide +kernel
theorem dX8_init_75 : decode cX8_init 75 = .ok (.putfield 34, 3) := by decide +kernel
theorem dX8_init_78 : decode cX8_init 78 = .ok (.aload_n 0, 1) := by decide +kernel
theorem dX8_init_79 : decode cX8_init 79 = .ok (.bipush 8, 2) := by decide +kernel
theorem dX8_init_81 : decode cX8_init 81 = .ok (.newarray .boolean, 2) := by decide +kernel
theorem dX8_init_83 : decode cX8_init 83 = .ok (.putfield 37, 3) := by decide +kernel
theorem dX8_init_86 : decode cX8_init 86 = .ok (.aload_n 0, 1) := by decide +kernel
theorem dX8_init_87 : decode cX8_init 87 = .ok (.bipush 8, 2) := by decide +kernel
theorem dX8_init_89 : decode cX8_init 89 = .ok (.newarray .boolean, 2) := by decide +kernel
theorem dX8_init_91 : decode cX8_init 91 = .ok (.putfield 41, 3) := by decide +kernel
theorem dX8_init_94 : decode cX8_init 94 = .ok (.aload_n 0, 1) := by decide +kernel
theorem dX8_init_95 : decode cX8_init 95 = .ok (.bipush 8, 2) := by decide +kernel
theorem dX8_init_97 : decode cX8_init 97 = .ok (.newarray .boolean, 2) := by decide +kernel
theorem dX8_init_99 : decode cX8_init 99 = .ok (.putfield 44, 3) := by decide +kernel
theorem dX8_init_102 : decode cX8_init 102 = .ok (.aload_n 0, 1) := by decide +kernel
theorem dX8_init_103 : decode cX8_init 103 = .ok (.bipush 8, 2) := by decide +kernel
theorem dX8_init_105 : decode cX8_init 105 = .ok (.newarray .int, 2) := by decide +kernel
theorem dX8_init_107 : decode cX8_init 107 = .ok (.putfield 47, 3) := by decide +kernel
theorem dX8_init_110 : decode cX8_init 110 = .ok (.aload_n 0, 1) := by decide +kernel
theorem dX8_init_111 : decode cX8_init 111 = .ok (.bipush 8, 2) := by decide +kernel
theorem dX8_init_113 : decode cX8_init 113 = .ok (.newarray .int, 2) := by decide +kernel
theorem dX8_init_115 : decode cX8_init 115 = .ok (.putfield 50, 3) := by decide +kernel
theorem dX8_init_118 : decode cX8_init 118 = .ok (.aload_n 0, 1) := by decide +kernel
theorem dX8_init_119 : decode cX8_init 119 = .ok (.bipush 12, 2) := by decide +kernel
theorem dX8_init_121 : decode cX8_init 121 = .ok (.newarray .int, 2) := by decide +kernel
theorem dX8_init_123 : decode cX8_init 123 = .ok (.putfield 53, 3) := by decide +kernel
theorem dX8_init_126 : decode cX8_init 126 = .ok (.aload_n 0, 1) := by decide +kernel
theorem dX8_init_127 : decode cX8_init 127 = .ok (.bipush 66, 2) := by decide +kernel
theorem dX8_init_129 : decode cX8_init 129 = .ok (.newarray .int, 2) := by decide +kernel
theorem dX8_init_131 : decode cX8_init 131 = .ok (.putfield 56, 3) := by decide +kernel
theorem dX8_init_134 : decode cX8_init 134 = .ok (.aload_n 0, 1) := by decide +kernel
theorem dX8_init_135 : decode cX8_init 135 = .ok (.bipush 66, 2) := by decide +kernel
theorem dX8_init_137 : decode cX8_init 137 = .ok (.newarray .int, 2) := by decide +kernel
theorem dX8_init_139 : decode cX8_init 139 = .ok (.putfield 59, 3) := by decide +kernel
theorem dX8_init_142 : decode cX8_init 142 = .ok (.aload_n 0, 1) := by decide +kernel
theorem dX8_init_143 : decode cX8_init 143 = .ok (.bipush 8, 2) := by decide +kernel
theorem dX8_init_145 : decode cX8_init 145 = .ok (.newarray .int, 2) := by decide +kernel
theorem dX8_init_147 : decode cX8_init 147 = .ok (.putfield 62, 3) := by decide +kernel
theorem dX8_init_150 : decode cX8_init 150 = .ok (.aload_n 0, 1) := by decide +kernel
theorem dX8_init_151 : decode cX8_init 151 = .ok (.bipush 8, 2) := by decide +kernel
theorem dX8_init_153 : decode cX8_init 153 = .ok (.newarray .int, 2) := by decide +kernel
theorem dX8_init_155 : decode cX8_init 155 = .ok (.putfield 65, 3) := by decide +kernel
theorem dX8_init_158 : decode cX8_init 158 = .ok (.aload_n 0, 1) := by decide +kernel
theorem dX8_init_159 : decode cX8_init 159 = .ok (.bipush 8, 2) := by decide +kernel
theorem dX8_init_161 : decode cX8_init 161 = .ok (.newarray .int, 2) := by decide +kernel
theorem dX8_init_163 : decode cX8_init 163 = .ok (.putfield 68, 3) := by decide +kernel
theorem dX8_init_166 : decode cX8_init 166 = .ok (.aload_n 0, 1) := by decide +kernel
theorem dX8_init_167 : decode cX8_init 167 = .ok (.bipush 8, 2) := by decide +kernel
theorem dX8_init_169 : decode cX8_init 169 = .ok (.newarray .int, 2) := by decide +kernel
theorem dX8_init_171 : decode cX8_init 171 = .ok (.putfield 71, 3) := by decide +kernel
theorem dX8_init_174 : decode cX8_init 174 = .ok (.aload_n 0, 1) := by decide +kernel
theorem dX8_init_175 : decode cX8_init 175 = .ok (.bipush 8, 2) := by decide +kernel
theorem dX8_init_177 : decode cX8_init 177 = .ok (.newarray .int, 2) := by decide +kernel
theorem dX8_init_179 : decode cX8_init 179 = .ok (.putfield 74, 3) := by decide +kernel
theorem dX8_init_182 : decode cX8_init 182 = .ok (.return_, 1) := by decide +kernel
theorem dX8_thrown_0 : decode cX8_thrown 0 = .ok (.aload_n 0, 1) := by decide +kernel
theorem dX8_thrown_1 : decode cX8_thrown 1 = .ok (.getfield 77, 3) := by decide +kernel
theorem dX8_thrown_4 : decode cX8_thrown 4 = .ok (.ireturn, 1) := by decide +kernel
theorem dX8_goes_0 : decode cX8_goes 0 = .ok (.aload_n 0, 1) := by decide +kernel
theorem dX8_goes_1 : decode cX8_goes 1 = .ok (.iload_n 1, 1) := by decide +kernel
theorem dX8_goes_2 : decode cX8_goes 2 = .ok (.putfield 77, 3) := by decide +kernel
theorem dX8_goes_5 : decode cX8_goes 5 = .ok (.iload_n 1, 1) := by decide +kernel
theorem dX8_goes_6 : decode cX8_goes 6 = .ok (.ifCond .ne 7, 3) := by decide +kernel
theorem dX8_goes_9 : decode cX8_goes 9 = .ok (.iconst 1, 1) := by decide +kernel
theorem dX8_goes_10 : decode cX8_goes 10 = .ok (.goto 4, 3) := by decide +kernel
theorem dX8_goes_13 : decode cX8_goes 13 = .ok (.iconst 0, 1) := by decide +kernel
theorem dX8_goes_14 : decode cX8_goes 14 = .ok (.ireturn, 1) := by decide +kernel
theorem dX8_isIn_0 : decode cX8_isIn 0 = .ok (.iload_n 0, 1) := by decide +kernel
theorem dX8_isIn_1 : decode cX8_isIn 1 = .ok (.iload_n 1, 1) := by decide +kernel
theorem dX8_isIn_2 : decode cX8_isIn 2 = .ok (.if_icmp .lt 12, 3) := by decide +kernel
theorem dX8_isIn_5 : decode cX8_isIn 5 = .ok (.iload_n 0, 1) := by decide +kernel
theorem dX8_isIn_6 : decode cX8_isIn 6 = .ok (.iload_n 2, 1) := by decide +kernel
theorem dX8_isIn_7 : decode cX8_isIn 7 = .ok (.if_icmp .gt 7, 3) := by decide +kernel
theorem dX8_isIn_10 : decode cX8_isIn 10 = .ok (.iconst 1, 1) := by decide +kernel
theorem dX8_isIn_11 : decode cX8_isIn 11 = .ok (.goto 4, 3) := by decide +kernel
theorem dX8_isIn_14 : decode cX8_isIn 14 = .ok (.iconst 0, 1) := by decide +kernel
theorem dX8_isIn_15 : decode cX8_isIn 15 = .ok (.ireturn, 1) := by decide +kernel
theorem dX8_isStore_0 : decode cX8_isStore 0 = .ok (.iload_n 1, 1) := by decide +kernel
theorem dX8_isStore_1 : decode cX8_isStore 1 = .ok (.iconst 0, 1) := by decide +kernel
theorem dX8_isStore_2 : decode cX8_isStore 2 = .ok (.aload_n 0, 1) := by decide +kernel
theorem dX8_isStore_3 : decode cX8_isStore 3 = .ok (.getfield 81, 3) := by decide +kernel
theorem dX8_isStore_6 : decode cX8_isStore 6 = .ok (.iconst 1, 1) := by decide +kernel
theorem dX8_isStore_7 : decode cX8_isStore 7 = .ok (.isub, 1) := by decide +kernel
theorem dX8_isStore_8 : decode cX8_isStore 8 = .ok (.invokestatic 84, 3) := by decide +kernel
theorem dX8_isStore_11 : decode cX8_isStore 11 = .ok (.ireturn, 1) := by decide +kernel
theorem dX8_addStore_0 : decode cX8_addStore 0 = .ok (.aload_n 0, 1) := by decide +kernel
theorem dX8_addStore_1 : decode cX8_addStore 1 = .ok (.iload_n 1, 1) := by decide +kernel
theorem dX8_addStore_2 : decode cX8_addStore 2 = .ok (.iconst 1, 1) := by decide +kernel
theorem dX8_addStore_3 : decode cX8_addStore 3 = .ok (.ldc 88, 2) := by decide +kernel
theorem dX8_addStore_5 : decode cX8_addStore 5 = .ok (.invokestatic 84, 3) := by decide +kernel
theorem dX8_addStore_8 : decode cX8_addStore 8 = .ok (.ifCond .ne 7, 3) := by decide +kernel
theorem dX8_addStore_11 : decode cX8_addStore 11 = .ok (.iconst 1, 1) := by decide +kernel
theorem dX8_addStore_12 : decode cX8_addStore 12 = .ok (.goto 17, 3) := by decide +kernel
theorem dX8_addStore_15 : decode cX8_addStore 15 = .ok (.aload_n 0, 1) := by decide +kernel
theorem dX8_addStore_16 : decode cX8_addStore 16 = .ok (.getfield 81, 3) := by decide +kernel
theorem dX8_addStore_19 : decode cX8_addStore 19 = .ok (.bipush 8, 2) := by decide +kernel
theorem dX8_addStore_21 : decode cX8_addStore 21 = .ok (.if_icmp .ne 7, 3) := by decide +kernel
theorem dX8_addStore_24 : decode cX8_addStore 24 = .ok (.iconst 2, 1) := by decide +kernel
theorem dX8_addStore_25 : decode cX8_addStore 25 = .ok (.goto 4, 3) := by decide +kernel
theorem dX8_addStore_28 : decode cX8_addStore 28 = .ok (.iconst 0, 1) := by decide +kernel
theorem dX8_addStore_29 : decode cX8_addStore 29 = .ok (.invokevirtual 89, 3) := by decide +kernel
theorem dX8_addStore_32 : decode cX8_addStore 32 = .ok (.ifCond .ne 5, 3) := by decide +kernel
theorem dX8_addStore_35 : decode cX8_addStore 35 = .ok (.iconst 0, 1) := by decide +kernel
theorem dX8_addStore_36 : decode cX8_addStore 36 = .ok (.ireturn, 1) := by decide +kernel
theorem dX8_addStore_37 : decode cX8_addStore 37 = .ok (.aload_n 0, 1) := by decide +kernel
theorem dX8_addStore_38 : decode cX8_addStore 38 = .ok (.getfield 7, 3) := by decide +kernel
theorem dX8_addStore_41 : decode cX8_addStore 41 = .ok (.aload_n 0, 1) := by decide +kernel
theorem dX8_addStore_42 : decode cX8_addStore 42 = .ok (.getfield 81, 3) := by decide +kernel
theorem dX8_addStore_45 : decode cX8_addStore 45 = .ok (.iload_n 1, 1) := by decide +kernel
theorem dX8_addStore_46 : decode cX8_addStore 46 = .ok (.iastore, 1) := by decide +kernel
theorem dX8_addStore_47 : decode cX8_addStore 47 = .ok (.aload_n 0, 1) := by decide +kernel
theorem dX8_addStore_48 : decode cX8_addStore 48 = .ok (.dup, 1) := by decide +kernel
theorem dX8_addStore_49 : decode cX8_addStore 49 = .ok (.getfield 81, 3) := by decide +kernel
theorem dX8_addStore_52 : decode cX8_addStore 52 = .ok (.iconst 1, 1) := by decide +kernel
theorem dX8_addStore_53 : decode cX8_addStore 53 = .ok (.iadd, 1) := by decide +kernel
theorem dX8_addStore_54 : decode cX8_addStore 54 = .ok (.putfield 81, 3) := by decide +kernel
theorem dX8_addStore_57 : decode cX8_addStore 57 = .ok (.aload_n 0, 1) := by decide +kernel
theorem dX8_addStore_58 : decode cX8_addStore 58 = .ok (.getfield 81, 3) := by decide +kernel
theorem dX8_addStore_61 : decode cX8_addStore 61 = .ok (.iconst 1, 1) := by decide +kernel
theorem dX8_addStore_62 : decode cX8_addStore 62 = .ok (.isub, 1) := by decide +kernel
theorem dX8_addStore_63 : decode cX8_addStore 63 = .ok (.ireturn, 1) := by decide +kernel
theorem dX8_setSize_0 : decode cX8_setSize 0 = .ok (.aload_n 0, 1) := by decide +kernel
theorem dX8_setSize_1 : decode cX8_setSize 1 = .ok (.aload_n 0, 1) := by decide +kernel
theorem dX8_setSize_2 : decode cX8_setSize 2 = .ok (.iload_n 1, 1) := by decide +kernel
theorem dX8_setSize_3 : decode cX8_setSize 3 = .ok (.invokevirtual 93, 3) := by decide +kernel
theorem dX8_setSize_6 : decode cX8_setSize 6 = .ok (.ifCond .ne 7, 3) := by decide +kernel
theorem dX8_setSize_9 : decode cX8_setSize 9 = .ok (.iconst 1, 1) := by decide +kernel
theorem dX8_setSize_10 : decode cX8_setSize 10 = .ok (.goto 18, 3) := by decide +kernel
theorem dX8_setSize_13 : decode cX8_setSize 13 = .ok (.iload_n 2, 1) := by decide +kernel
theorem dX8_setSize_14 : decode cX8_setSize 14 = .ok (.iconst 1, 1) := by decide +kernel
theorem dX8_setSize_15 : decode cX8_setSize 15 = .ok (.ldc 88, 2) := by decide +kernel
theorem dX8_setSize_17 : decode cX8_setSize 17 = .ok (.invokestatic 84, 3) := by decide +kernel
theorem dX8_setSize_20 : decode cX8_setSize 20 = .ok (.ifCond .eq 7, 3) := by decide +kernel
theorem dX8_setSize_23 : decode cX8_setSize 23 = .ok (.iconst 0, 1) := by decide +kernel
theorem dX8_setSize_24 : decode cX8_setSize 24 = .ok (.goto 4, 3) := by decide +kernel
theorem dX8_setSize_27 : decode cX8_setSize 27 = .ok (.iconst 2, 1) := by decide +kernel
theorem dX8_setSize_28 : decode cX8_setSize 28 = .ok (.invokevirtual 89, 3) := by decide +kernel
theorem dX8_setSize_31 : decode cX8_setSize 31 = .ok (.ifCond .ne 5, 3) := by decide +kernel
theorem dX8_setSize_34 : decode cX8_setSize 34 = .ok (.iconst 0, 1) := by decide +kernel
theorem dX8_setSize_35 : decode cX8_setSize 35 = .ok (.ireturn, 1) := by decide +kernel
theorem dX8_setSize_36 : decode cX8_setSize 36 = .ok (.aload_n 0, 1) := by decide +kernel
theorem dX8_setSize_37 : decode cX8_setSize 37 = .ok (.getfield 7, 3) := by decide +kernel
theorem dX8_setSize_40 : decode cX8_setSize 40 = .ok (.iload_n 1, 1) := by decide +kernel
theorem dX8_setSize_41 : decode cX8_setSize 41 = .ok (.iaload, 1) := by decide +kernel
theorem dX8_setSize_42 : decode cX8_setSize 42 = .ok (.istore_n 3, 1) := by decide +kernel
theorem dX8_setSize_43 : decode cX8_setSize 43 = .ok (.aload_n 0, 1) := by decide +kernel
theorem dX8_setSize_44 : decode cX8_setSize 44 = .ok (.getfield 7, 3) := by decide +kernel
theorem dX8_setSize_47 : decode cX8_setSize 47 = .ok (.iload_n 1, 1) := by decide +kernel
theorem dX8_setSize_48 : decode cX8_setSize 48 = .ok (.iload_n 2, 1) := by decide +kernel
theorem dX8_setSize_49 : decode cX8_setSize 49 = .ok (.iastore, 1) := by decide +kernel
theorem dX8_setSize_50 : decode cX8_setSize 50 = .ok (.aload_n 0, 1) := by decide +kernel
theorem dX8_setSize_51 : decode cX8_setSize 51 = .ok (.getfield 44, 3) := by decide +kernel
theorem dX8_setSize_54 : decode cX8_setSize 54 = .ok (.iload_n 1, 1) := by decide +kernel
theorem dX8_setSize_55 : decode cX8_setSize 55 = .ok (.iconst 0, 1) := by decide +kernel
theorem dX8_setSize_56 : decode cX8_setSize 56 = .ok (.bastore, 1) := by decide +kernel
theorem dX8_setSize_57 : decode cX8_setSize 57 = .ok (.iload_n 3, 1) := by decide +kernel
theorem dX8_setSize_58 : decode cX8_setSize 58 = .ok (.ireturn, 1) := by decide +kernel
theorem dX8_sample_0 : decode cX8_sample 0 = .ok (.aload_n 0, 1) := by decide +kernel
theorem dX8_sample_1 : decode cX8_sample 1 = .ok (.aload_n 0, 1) := by decide +kernel
theorem dX8_sample_2 : decode cX8_sample 2 = .ok (.iload_n 1, 1) := by decide +kernel
theorem dX8_sample_3 : decode cX8_sample 3 = .ok (.invokevirtual 93, 3) := by decide +kernel
theorem dX8_sample_6 : decode cX8_sample 6 = .ok (.ifCond .ne 7, 3) := by decide +kernel
theorem dX8_sample_9 : decode cX8_sample 9 = .ok (.iconst 1, 1) := by decide +kernel
theorem dX8_sample_10 : decode cX8_sample 10 = .ok (.goto 18, 3) := by decide +kernel
theorem dX8_sample_13 : decode cX8_sample 13 = .ok (.iload_n 2, 1) := by decide +kernel
theorem dX8_sample_14 : decode cX8_sample 14 = .ok (.iconst 0, 1) := by decide +kernel
theorem dX8_sample_15 : decode cX8_sample 15 = .ok (.ldc 88, 2) := by decide +kernel
theorem dX8_sample_17 : decode cX8_sample 17 = .ok (.invokestatic 84, 3) := by decide +kernel
theorem dX8_sample_20 : decode cX8_sample 20 = .ok (.ifCond .eq 7, 3) := by decide +kernel
theorem dX8_sample_23 : decode cX8_sample 23 = .ok (.iconst 0, 1) := by decide +kernel
theorem dX8_sample_24 : decode cX8_sample 24 = .ok (.goto 4, 3) := by decide +kernel
theorem dX8_sample_27 : decode cX8_sample 27 = .ok (.iconst 2, 1) := by decide +kernel
theorem dX8_sample_28 : decode cX8_sample 28 = .ok (.invokevirtual 89, 3) := by decide +kernel
theorem dX8_sample_31 : decode cX8_sample 31 = .ok (.ifCond .ne 5, 3) := by decide +kernel
theorem dX8_sample_34 : decode cX8_sample 34 = .ok (.iconst 0, 1) := by decide +kernel
theorem dX8_sample_35 : decode cX8_sample 35 = .ok (.ireturn, 1) := by decide +kernel
theorem dX8_sample_36 : decode cX8_sample 36 = .ok (.bipush 12, 2) := by decide +kernel
theorem dX8_sample_38 : decode cX8_sample 38 = .ok (.iload_n 1, 1) := by decide +kernel
theorem dX8_sample_39 : decode cX8_sample 39 = .ok (.imul, 1) := by decide +kernel
theorem dX8_sample_40 : decode cX8_sample 40 = .ok (.istore_n 3, 1) := by decide +kernel
theorem dX8_sample_41 : decode cX8_sample 41 = .ok (.aload_n 0, 1) := by decide +kernel
theorem dX8_sample_42 : decode cX8_sample 42 = .ok (.getfield 13, 3) := by decide +kernel
theorem dX8_sample_45 : decode cX8_sample 45 = .ok (.iload_n 1, 1) := by decide +kernel
theorem dX8_sample_46 : decode cX8_sample 46 = .ok (.iaload, 1) := by decide +kernel
theorem dX8_sample_47 : decode cX8_sample 47 = .ok (.istore 4, 2) := by decide +kernel
theorem dX8_sample_49 : decode cX8_sample 49 = .ok (.iload 4, 2) := by decide +kernel
theorem dX8_sample_51 : decode cX8_sample 51 = .ok (.ifCond .le 25, 3) := by decide +kernel
theorem dX8_sample_54 : decode cX8_sample 54 = .ok (.aload_n 0, 1) := by decide +kernel
theorem dX8_sample_55 : decode cX8_sample 55 = .ok (.getfield 16, 3) := by decide +kernel
theorem dX8_sample_58 : decode cX8_sample 58 = .ok (.iload_n 3, 1) := by decide +kernel
theorem dX8_sample_59 : decode cX8_sample 59 = .ok (.iload 4, 2) := by decide +kernel
theorem dX8_sample_61 : decode cX8_sample 61 = .ok (.iadd, 1) := by decide +kernel
theorem dX8_sample_62 : decode cX8_sample 62 = .ok (.iconst 1, 1) := by decide +kernel
theorem dX8_sample_63 : decode cX8_sample 63 = .ok (.isub, 1) := by decide +kernel
theorem dX8_sample_64 : decode cX8_sample 64 = .ok (.iaload, 1) := by decide +kernel
theorem dX8_sample_65 : decode cX8_sample 65 = .ok (.aload_n 0, 1) := by decide +kernel
theorem dX8_sample_66 : decode cX8_sample 66 = .ok (.getfield 96, 3) := by decide +kernel
theorem dX8_sample_69 : decode cX8_sample 69 = .ok (.if_icmp .ne 7, 3) := by decide +kernel
theorem dX8_sample_72 : decode cX8_sample 72 = .ok (.iconst 1, 1) := by decide +kernel
theorem dX8_sample_73 : decode cX8_sample 73 = .ok (.goto 4, 3) := by decide +kernel
theorem dX8_sample_76 : decode cX8_sample 76 = .ok (.iconst 0, 1) := by decide +kernel
theorem dX8_sample_77 : decode cX8_sample 77 = .ok (.istore 5, 2) := by decide +kernel
theorem dX8_sample_79 : decode cX8_sample 79 = .ok (.iload 5, 2) := by decide +kernel
theorem dX8_sample_81 : decode cX8_sample 81 = .ok (.ifCond .ne 69, 3) := by decide +kernel
theorem dX8_sample_84 : decode cX8_sample 84 = .ok (.iload 4, 2) := by decide +kernel
theorem dX8_sample_86 : decode cX8_sample 86 = .ok (.bipush 12, 2) := by decide +kernel
theorem dX8_sample_88 : decode cX8_sample 88 = .ok (.if_icmp .ne 62, 3) := by decide +kernel
theorem dX8_sample_91 : decode cX8_sample 91 = .ok (.iinc 4 (-1), 3) := by decide +kernel
theorem dX8_sample_94 : decode cX8_sample 94 = .ok (.iconst 0, 1) := by decide +kernel
theorem dX8_sample_95 : decode cX8_sample 95 = .ok (.istore 6, 2) := by decide +kernel
theorem dX8_sample_97 : decode cX8_sample 97 = .ok (.iload 6, 2) := by decide +kernel
theorem dX8_sample_99 : decode cX8_sample 99 = .ok (.iload 4, 2) := by decide +kernel
theorem dX8_sample_101 : decode cX8_sample 101 = .ok (.if_icmp .ge 49, 3) := by decide +kernel
theorem dX8_sample_104 : decode cX8_sample 104 = .ok (.aload_n 0, 1) := by decide +kernel
theorem dX8_sample_105 : decode cX8_sample 105 = .ok (.getfield 16, 3) := by decide +kernel
theorem dX8_sample_108 : decode cX8_sample 108 = .ok (.iload_n 3, 1) := by decide +kernel
theorem dX8_sample_109 : decode cX8_sample 109 = .ok (.iload 6, 2) := by decide +kernel
theorem dX8_sample_111 : decode cX8_sample 111 = .ok (.iadd, 1) := by decide +kernel
theorem dX8_sample_112 : decode cX8_sample 112 = .ok (.aload_n 0, 1) := by decide +kernel
theorem dX8_sample_113 : decode cX8_sample 113 = .ok (.getfield 16, 3) := by decide +kernel
theorem dX8_sample_116 : decode cX8_sample 116 = .ok (.iload_n 3, 1) := by decide +kernel
theorem dX8_sample_117 : decode cX8_sample 117 = .ok (.iload 6, 2) := by decide +kernel
theorem dX8_sample_119 : decode cX8_sample 119 = .ok (.iadd, 1) := by decide +kernel
theorem dX8_sample_120 : decode cX8_sample 120 = .ok (.iconst 1, 1) := by decide +kernel
theorem dX8_sample_121 : decode cX8_sample 121 = .ok (.iadd, 1) := by decide +kernel
theorem dX8_sample_122 : decode cX8_sample 122 = .ok (.iaload, 1) := by decide +kernel
theorem dX8_sample_123 : decode cX8_sample 123 = .ok (.iastore, 1) := by decide +kernel
theorem dX8_sample_124 : decode cX8_sample 124 = .ok (.aload_n 0, 1) := by decide +kernel
theorem dX8_sample_125 : decode cX8_sample 125 = .ok (.getfield 19, 3) := by decide +kernel
theorem dX8_sample_128 : decode cX8_sample 128 = .ok (.iload_n 3, 1) := by decide +kernel
theorem dX8_sample_129 : decode cX8_sample 129 = .ok (.iload 6, 2) := by decide +kernel
theorem dX8_sample_131 : decode cX8_sample 131 = .ok (.iadd, 1) := by decide +kernel
theorem dX8_sample_132 : decode cX8_sample 132 = .ok (.aload_n 0, 1) := by decide +kernel
theorem dX8_sample_133 : decode cX8_sample 133 = .ok (.getfield 19, 3) := by decide +kernel
theorem dX8_sample_136 : decode cX8_sample 136 = .ok (.iload_n 3, 1) := by decide +kernel
theorem dX8_sample_137 : decode cX8_sample 137 = .ok (.iload 6, 2) := by decide +kernel
theorem dX8_sample_139 : decode cX8_sample 139 = .ok (.iadd, 1) := by decide +kernel
theorem dX8_sample_140 : decode cX8_sample 140 = .ok (.iconst 1, 1) := by decide +kernel
theorem dX8_sample_141 : decode cX8_sample 141 = .ok (.iadd, 1) := by decide +kernel
theorem dX8_sample_142 : decode cX8_sample 142 = .ok (.iaload, 1) := by decide +kernel
theorem dX8_sample_143 : decode cX8_sample 143 = .ok (.iastore, 1) := by decide +kernel
theorem dX8_sample_144 : decode cX8_sample 144 = .ok (.iinc 6 1, 3) := by decide +kernel
theorem dX8_sample_147 : decode cX8_sample 147 = .ok (.goto (-50), 3) := by decide +kernel
theorem dX8_sample_150 : decode cX8_sample 150 = .ok (.iload 4, 2) := by decide +kernel
theorem dX8_sample_152 : decode cX8_sample 152 = .ok (.iload 5, 2) := by decide +kernel
theorem dX8_sample_154 : decode cX8_sample 154 = .ok (.ifCond .eq 7, 3) := by decide +kernel
theorem dX8_sample_157 : decode cX8_sample 157 = .ok (.iconst 0, 1) := by decide +kernel
theorem dX8_sample_158 : decode cX8_sample 158 = .ok (.goto 4, 3) := by decide +kernel
theorem dX8_sample_161 : decode cX8_sample 161 = .ok (.iconst 1, 1) := by decide +kernel
theorem dX8_sample_162 : decode cX8_sample 162 = .ok (.iadd, 1) := by decide +kernel
theorem dX8_sample_163 : decode cX8_sample 163 = .ok (.istore 4, 2) := by decide +kernel
theorem dX8_sample_165 : decode cX8_sample 165 = .ok (.aload_n 0, 1) := by decide +kernel
theorem dX8_sample_166 : decode cX8_sample 166 = .ok (.getfield 16, 3) := by decide +kernel
theorem dX8_sample_169 : decode cX8_sample 169 = .ok (.iload_n 3, 1) := by decide +kernel
theorem dX8_sample_170 : decode cX8_sample 170 = .ok (.iload 4, 2) := by decide +kernel
theorem dX8_sample_172 : decode cX8_sample 172 = .ok (.iadd, 1) := by decide +kernel
theorem dX8_sample_173 : decode cX8_sample 173 = .ok (.iconst 1, 1) := by decide +kernel
theorem dX8_sample_174 : decode cX8_sample 174 = .ok (.isub, 1) := by decide +kernel
theorem dX8_sample_175 : decode cX8_sample 175 = .ok (.aload_n 0, 1) := by decide +kernel
theorem dX8_sample_176 : decode cX8_sample 176 = .ok (.getfield 96, 3) := by decide +kernel
theorem dX8_sample_179 : decode cX8_sample 179 = .ok (.iastore, 1) := by decide +kernel
theorem dX8_sample_180 : decode cX8_sample 180 = .ok (.aload_n 0, 1) := by decide +kernel
theorem dX8_sample_181 : decode cX8_sample 181 = .ok (.getfield 19, 3) := by decide +kernel
theorem dX8_sample_184 : decode cX8_sample 184 = .ok (.iload_n 3, 1) := by decide +kernel
theorem dX8_sample_185 : decode cX8_sample 185 = .ok (.iload 4, 2) := by decide +kernel
theorem dX8_sample_187 : decode cX8_sample 187 = .ok (.iadd, 1) := by decide +kernel
theorem dX8_sample_188 : decode cX8_sample 188 = .ok (.iconst 1, 1) := by decide +kernel
theorem dX8_sample_189 : decode cX8_sample 189 = .ok (.isub, 1) := by decide +kernel
theorem dX8_sample_190 : decode cX8_sample 190 = .ok (.iload_n 2, 1) := by decide +kernel
theorem dX8_sample_191 : decode cX8_sample 191 = .ok (.iastore, 1) := by decide +kernel
theorem dX8_sample_192 : decode cX8_sample 192 = .ok (.aload_n 0, 1) := by decide +kernel
theorem dX8_sample_193 : decode cX8_sample 193 = .ok (.getfield 13, 3) := by decide +kernel
theorem dX8_sample_196 : decode cX8_sample 196 = .ok (.iload_n 1, 1) := by decide +kernel
theorem dX8_sample_197 : decode cX8_sample 197 = .ok (.iload 4, 2) := by decide +kernel
theorem dX8_sample_199 : decode cX8_sample 199 = .ok (.iastore, 1) := by decide +kernel
theorem dX8_sample_200 : decode cX8_sample 200 = .ok (.aload_n 0, 1) := by decide +kernel
theorem dX8_sample_201 : decode cX8_sample 201 = .ok (.getfield 44, 3) := by decide +kernel
theorem dX8_sample_204 : decode cX8_sample 204 = .ok (.iload_n 1, 1) := by decide +kernel
theorem dX8_sample_205 : decode cX8_sample 205 = .ok (.iconst 0, 1) := by decide +kernel
theorem dX8_sample_206 : decode cX8_sample 206 = .ok (.bastore, 1) := by decide +kernel
theorem dX8_sample_207 : decode cX8_sample 207 = .ok (.iload 4, 2) := by decide +kernel
theorem dX8_sample_209 : decode cX8_sample 209 = .ok (.ireturn, 1) := by decide +kernel
theorem dX8_clean_0 : decode cX8_clean 0 = .ok (.aload_n 0, 1) := by decide +kernel
theorem dX8_clean_1 : decode cX8_clean 1 = .ok (.aload_n 0, 1) := by decide +kernel
theorem dX8_clean_2 : decode cX8_clean 2 = .ok (.iload_n 1, 1) := by decide +kernel
theorem dX8_clean_3 : decode cX8_clean 3 = .ok (.invokevirtual 93, 3) := by decide +kernel
theorem dX8_clean_6 : decode cX8_clean 6 = .ok (.ifCond .ne 7, 3) := by decide +kernel
theorem dX8_clean_9 : decode cX8_clean 9 = .ok (.iconst 1, 1) := by decide +kernel
theorem dX8_clean_10 : decode cX8_clean 10 = .ok (.goto 33, 3) := by decide +kernel
theorem dX8_clean_13 : decode cX8_clean 13 = .ok (.iload_n 2, 1) := by decide +kernel
theorem dX8_clean_14 : decode cX8_clean 14 = .ok (.iconst 1, 1) := by decide +kernel
theorem dX8_clean_15 : decode cX8_clean 15 = .ok (.ldc 99, 2) := by decide +kernel
theorem dX8_clean_17 : decode cX8_clean 17 = .ok (.invokestatic 84, 3) := by decide +kernel
theorem dX8_clean_20 : decode cX8_clean 20 = .ok (.ifCond .ne 7, 3) := by decide +kernel
theorem dX8_clean_23 : decode cX8_clean 23 = .ok (.iconst 2, 1) := by decide +kernel
theorem dX8_clean_24 : decode cX8_clean 24 = .ok (.goto 19, 3) := by decide +kernel
theorem dX8_clean_27 : decode cX8_clean 27 = .ok (.aload_n 0, 1) := by decide +kernel
theorem dX8_clean_28 : decode cX8_clean 28 = .ok (.getfield 22, 3) := by decide +kernel
theorem dX8_clean_31 : decode cX8_clean 31 = .ok (.iload_n 1, 1) := by decide +kernel
theorem dX8_clean_32 : decode cX8_clean 32 = .ok (.iaload, 1) := by decide +kernel
theorem dX8_clean_33 : decode cX8_clean 33 = .ok (.bipush 60, 2) := by decide +kernel
theorem dX8_clean_35 : decode cX8_clean 35 = .ok (.if_icmp .ne 7, 3) := by decide +kernel
theorem dX8_clean_38 : decode cX8_clean 38 = .ok (.iconst 3, 1) := by decide +kernel
theorem dX8_clean_39 : decode cX8_clean 39 = .ok (.goto 4, 3) := by decide +kernel
theorem dX8_clean_42 : decode cX8_clean 42 = .ok (.iconst 0, 1) := by decide +kernel
theorem dX8_clean_43 : decode cX8_clean 43 = .ok (.invokevirtual 89, 3) := by decide +kernel
theorem dX8_clean_46 : decode cX8_clean 46 = .ok (.ifCond .ne 5, 3) := by decide +kernel
theorem dX8_clean_49 : decode cX8_clean 49 = .ok (.iconst 0, 1) := by decide +kernel
theorem dX8_clean_50 : decode cX8_clean 50 = .ok (.ireturn, 1) := by decide +kernel
theorem dX8_clean_51 : decode cX8_clean 51 = .ok (.bipush 60, 2) := by decide +kernel
theorem dX8_clean_53 : decode cX8_clean 53 = .ok (.iload_n 1, 1) := by decide +kernel
theorem dX8_clean_54 : decode cX8_clean 54 = .ok (.imul, 1) := by decide +kernel
theorem dX8_clean_55 : decode cX8_clean 55 = .ok (.aload_n 0, 1) := by decide +kernel
theorem dX8_clean_56 : decode cX8_clean 56 = .ok (.getfield 22, 3) := by decide +kernel
theorem dX8_clean_59 : decode cX8_clean 59 = .ok (.iload_n 1, 1) := by decide +kernel
theorem dX8_clean_60 : decode cX8_clean 60 = .ok (.iaload, 1) := by decide +kernel
theorem dX8_clean_61 : decode cX8_clean 61 = .ok (.iadd, 1) := by decide +kernel
theorem dX8_clean_62 : decode cX8_clean 62 = .ok (.istore_n 3, 1) := by decide +kernel
theorem dX8_clean_63 : decode cX8_clean 63 = .ok (.aload_n 0, 1) := by decide +kernel
theorem dX8_clean_64 : decode cX8_clean 64 = .ok (.getfield 25, 3) := by decide +kernel
theorem dX8_clean_67 : decode cX8_clean 67 = .ok (.iload_n 3, 1) := by decide +kernel
theorem dX8_clean_68 : decode cX8_clean 68 = .ok (.aload_n 0, 1) := by decide +kernel
theorem dX8_clean_69 : decode cX8_clean 69 = .ok (.getfield 96, 3) := by decide +kernel
theorem dX8_clean_72 : decode cX8_clean 72 = .ok (.iastore, 1) := by decide +kernel
theorem dX8_clean_73 : decode cX8_clean 73 = .ok (.aload_n 0, 1) := by decide +kernel
theorem dX8_clean_74 : decode cX8_clean 74 = .ok (.getfield 28, 3) := by decide +kernel
theorem dX8_clean_77 : decode cX8_clean 77 = .ok (.iload_n 3, 1) := by decide +kernel
theorem dX8_clean_78 : decode cX8_clean 78 = .ok (.iload_n 2, 1) := by decide +kernel
theorem dX8_clean_79 : decode cX8_clean 79 = .ok (.iastore, 1) := by decide +kernel
theorem dX8_clean_80 : decode cX8_clean 80 = .ok (.aload_n 0, 1) := by decide +kernel
theorem dX8_clean_81 : decode cX8_clean 81 = .ok (.getfield 22, 3) := by decide +kernel
theorem dX8_clean_84 : decode cX8_clean 84 = .ok (.iload_n 1, 1) := by decide +kernel
theorem dX8_clean_85 : decode cX8_clean 85 = .ok (.dup2, 1) := by decide +kernel
theorem dX8_clean_86 : decode cX8_clean 86 = .ok (.iaload, 1) := by decide +kernel
theorem dX8_clean_87 : decode cX8_clean 87 = .ok (.iconst 1, 1) := by decide +kernel
theorem dX8_clean_88 : decode cX8_clean 88 = .ok (.iadd, 1) := by decide +kernel
theorem dX8_clean_89 : decode cX8_clean 89 = .ok (.iastore, 1) := by decide +kernel
theorem dX8_clean_90 : decode cX8_clean 90 = .ok (.aload_n 0, 1) := by decide +kernel
theorem dX8_clean_91 : decode cX8_clean 91 = .ok (.getfield 44, 3) := by decide +kernel
theorem dX8_clean_94 : decode cX8_clean 94 = .ok (.iload_n 1, 1) := by decide +kernel
theorem dX8_clean_95 : decode cX8_clean 95 = .ok (.iconst 0, 1) := by decide +kernel
theorem dX8_clean_96 : decode cX8_clean 96 = .ok (.bastore, 1) := by decide +kernel
theorem dX8_clean_97 : decode cX8_clean 97 = .ok (.aload_n 0, 1) := by decide +kernel
theorem dX8_clean_98 : decode cX8_clean 98 = .ok (.getfield 22, 3) := by decide +kernel
theorem dX8_clean_101 : decode cX8_clean 101 = .ok (.iload_n 1, 1) := by decide +kernel
theorem dX8_clean_102 : decode cX8_clean 102 = .ok (.iaload, 1) := by decide +kernel
theorem dX8_clean_103 : decode cX8_clean 103 = .ok (.ireturn, 1) := by decide +kernel
theorem dX8_setRule_0 : decode cX8_setRule 0 = .ok (.iload_n 2, 1) := by decide +kernel
theorem dX8_setRule_1 : decode cX8_setRule 1 = .ok (.iconst 0, 1) := by decide +kernel
theorem dX8_setRule_2 : decode cX8_setRule 2 = .ok (.sipush 3000, 3) := by decide +kernel
theorem dX8_setRule_5 : decode cX8_setRule 5 = .ok (.invokestatic 84, 3) := by decide +kernel
theorem dX8_setRule_8 : decode cX8_setRule 8 = .ok (.ifCond .eq 17, 3) := by decide +kernel
theorem dX8_setRule_11 : decode cX8_setRule 11 = .ok (.iload_n 3, 1) := by decide +kernel
theorem dX8_setRule_12 : decode cX8_setRule 12 = .ok (.iconst 0, 1) := by decide +kernel
theorem dX8_setRule_13 : decode cX8_setRule 13 = .ok (.bipush 100, 2) := by decide +kernel
theorem dX8_setRule_15 : decode cX8_setRule 15 = .ok (.invokestatic 84, 3) := by decide +kernel
theorem dX8_setRule_18 : decode cX8_setRule 18 = .ok (.ifCond .eq 7, 3) := by decide +kernel
theorem dX8_setRule_21 : decode cX8_setRule 21 = .ok (.iconst 1, 1) := by decide +kernel
theorem dX8_setRule_22 : decode cX8_setRule 22 = .ok (.goto 4, 3) := by decide +kernel
theorem dX8_setRule_25 : decode cX8_setRule 25 = .ok (.iconst 0, 1) := by decide +kernel
theorem dX8_setRule_26 : decode cX8_setRule 26 = .ok (.istore 4, 2) := by decide +kernel
theorem dX8_setRule_28 : decode cX8_setRule 28 = .ok (.aload_n 0, 1) := by decide +kernel
theorem dX8_setRule_29 : decode cX8_setRule 29 = .ok (.aload_n 0, 1) := by decide +kernel
theorem dX8_setRule_30 : decode cX8_setRule 30 = .ok (.iload_n 1, 1) := by decide +kernel
theorem dX8_setRule_31 : decode cX8_setRule 31 = .ok (.invokevirtual 93, 3) := by decide +kernel
theorem dX8_setRule_34 : decode cX8_setRule 34 = .ok (.ifCond .ne 7, 3) := by decide +kernel
theorem dX8_setRule_37 : decode cX8_setRule 37 = .ok (.iconst 1, 1) := by decide +kernel
theorem dX8_setRule_38 : decode cX8_setRule 38 = .ok (.goto 13, 3) := by decide +kernel
theorem dX8_setRule_41 : decode cX8_setRule 41 = .ok (.iload 4, 2) := by decide +kernel
theorem dX8_setRule_43 : decode cX8_setRule 43 = .ok (.ifCond .eq 7, 3) := by decide +kernel
theorem dX8_setRule_46 : decode cX8_setRule 46 = .ok (.iconst 0, 1) := by decide +kernel
theorem dX8_setRule_47 : decode cX8_setRule 47 = .ok (.goto 4, 3) := by decide +kernel
theorem dX8_setRule_50 : decode cX8_setRule 50 = .ok (.iconst 2, 1) := by decide +kernel
theorem dX8_setRule_51 : decode cX8_setRule 51 = .ok (.invokevirtual 89, 3) := by decide +kernel
theorem dX8_setRule_54 : decode cX8_setRule 54 = .ok (.ifCond .eq 24, 3) := by decide +kernel
theorem dX8_setRule_57 : decode cX8_setRule 57 = .ok (.aload_n 0, 1) := by decide +kernel
theorem dX8_setRule_58 : decode cX8_setRule 58 = .ok (.getfield 31, 3) := by decide +kernel
theorem dX8_setRule_61 : decode cX8_setRule 61 = .ok (.iload_n 1, 1) := by decide +kernel
theorem dX8_setRule_62 : decode cX8_setRule 62 = .ok (.iload_n 2, 1) := by decide +kernel
theorem dX8_setRule_63 : decode cX8_setRule 63 = .ok (.iastore, 1) := by decide +kernel
theorem dX8_setRule_64 : decode cX8_setRule 64 = .ok (.aload_n 0, 1) := by decide +kernel
theorem dX8_setRule_65 : decode cX8_setRule 65 = .ok (.getfield 34, 3) := by decide +kernel
theorem dX8_setRule_68 : decode cX8_setRule 68 = .ok (.iload_n 1, 1) := by decide +kernel
theorem dX8_setRule_69 : decode cX8_setRule 69 = .ok (.iload_n 3, 1) := by decide +kernel
theorem dX8_setRule_70 : decode cX8_setRule 70 = .ok (.iastore, 1) := by decide +kernel
theorem dX8_setRule_71 : decode cX8_setRule 71 = .ok (.aload_n 0, 1) := by decide +kernel
theorem dX8_setRule_72 : decode cX8_setRule 72 = .ok (.getfield 44, 3) := by decide +kernel
theorem dX8_setRule_75 : decode cX8_setRule 75 = .ok (.iload_n 1, 1) := by decide +kernel
theorem dX8_setRule_76 : decode cX8_setRule 76 = .ok (.iconst 0, 1) := by decide +kernel
theorem dX8_setRule_77 : decode cX8_setRule 77 = .ok (.bastore, 1) := by decide +kernel
theorem dX8_setRule_78 : decode cX8_setRule 78 = .ok (.return_, 1) := by decide +kernel
theorem dX8_middle_0 : decode cX8_middle 0 = .ok (.iload_n 0, 1) := by decide +kernel
theorem dX8_middle_1 : decode cX8_middle 1 = .ok (.iconst 2, 1) := by decide +kernel
theorem dX8_middle_2 : decode cX8_middle 2 = .ok (.irem, 1) := by decide +kernel
theorem dX8_middle_3 : decode cX8_middle 3 = .ok (.iconst 1, 1) := by decide +kernel
theorem dX8_middle_4 : decode cX8_middle 4 = .ok (.if_icmp .ne 9, 3) := by decide +kernel
theorem dX8_middle_7 : decode cX8_middle 7 = .ok (.iload_n 0, 1) := by decide +kernel
theorem dX8_middle_8 : decode cX8_middle 8 = .ok (.iconst 2, 1) := by decide +kernel
theorem dX8_middle_9 : decode cX8_middle 9 = .ok (.idiv, 1) := by decide +kernel
theorem dX8_middle_10 : decode cX8_middle 10 = .ok (.goto 8, 3) := by decide +kernel
theorem dX8_middle_13 : decode cX8_middle 13 = .ok (.iload_n 0, 1) := by decide +kernel
theorem dX8_middle_14 : decode cX8_middle 14 = .ok (.iconst 2, 1) := by decide +kernel
theorem dX8_middle_15 : decode cX8_middle 15 = .ok (.idiv, 1) := by decide +kernel
theorem dX8_middle_16 : decode cX8_middle 16 = .ok (.iconst 1, 1) := by decide +kernel
theorem dX8_middle_17 : decode cX8_middle 17 = .ok (.isub, 1) := by decide +kernel
theorem dX8_middle_18 : decode cX8_middle 18 = .ok (.ireturn, 1) := by decide +kernel
theorem dX8_fill_0 : decode cX8_fill 0 = .ok (.aload_n 0, 1) := by decide +kernel
theorem dX8_fill_1 : decode cX8_fill 1 = .ok (.getfield 19, 3) := by decide +kernel
theorem dX8_fill_4 : decode cX8_fill 4 = .ok (.bipush 12, 2) := by decide +kernel
theorem dX8_fill_6 : decode cX8_fill 6 = .ok (.iload_n 1, 1) := by decide +kernel
theorem dX8_fill_7 : decode cX8_fill 7 = .ok (.imul, 1) := by decide +kernel
theorem dX8_fill_8 : decode cX8_fill 8 = .ok (.iload_n 2, 1) := by decide +kernel
theorem dX8_fill_9 : decode cX8_fill 9 = .ok (.iadd, 1) := by decide +kernel
theorem dX8_fill_10 : decode cX8_fill 10 = .ok (.iaload, 1) := by decide +kernel
theorem dX8_fill_11 : decode cX8_fill 11 = .ok (.istore_n 3, 1) := by decide +kernel
theorem dX8_fill_12 : decode cX8_fill 12 = .ok (.bipush 60, 2) := by decide +kernel
theorem dX8_fill_14 : decode cX8_fill 14 = .ok (.iload_n 1, 1) := by decide +kernel
theorem dX8_fill_15 : decode cX8_fill 15 = .ok (.imul, 1) := by decide +kernel
theorem dX8_fill_16 : decode cX8_fill 16 = .ok (.istore 4, 2) := by decide +kernel
theorem dX8_fill_18 : decode cX8_fill 18 = .ok (.iload 4, 2) := by decide +kernel
theorem dX8_fill_20 : decode cX8_fill 20 = .ok (.bipush 60, 2) := by decide +kernel
theorem dX8_fill_22 : decode cX8_fill 22 = .ok (.iload_n 1, 1) := by decide +kernel
theorem dX8_fill_23 : decode cX8_fill 23 = .ok (.imul, 1) := by decide +kernel
theorem dX8_fill_24 : decode cX8_fill 24 = .ok (.aload_n 0, 1) := by decide +kernel
theorem dX8_fill_25 : decode cX8_fill 25 = .ok (.getfield 22, 3) := by decide +kernel
theorem dX8_fill_28 : decode cX8_fill 28 = .ok (.iload_n 1, 1) := by decide +kernel
theorem dX8_fill_29 : decode cX8_fill 29 = .ok (.iaload, 1) := by decide +kernel
theorem dX8_fill_30 : decode cX8_fill 30 = .ok (.iadd, 1) := by decide +kernel
theorem dX8_fill_31 : decode cX8_fill 31 = .ok (.if_icmp .ge 44, 3) := by decide +kernel
theorem dX8_fill_34 : decode cX8_fill 34 = .ok (.iload_n 3, 1) := by decide +kernel
theorem dX8_fill_35 : decode cX8_fill 35 = .ok (.aload_n 0, 1) := by decide +kernel
theorem dX8_fill_36 : decode cX8_fill 36 = .ok (.getfield 25, 3) := by decide +kernel
theorem dX8_fill_39 : decode cX8_fill 39 = .ok (.iload 4, 2) := by decide +kernel
theorem dX8_fill_41 : decode cX8_fill 41 = .ok (.iaload, 1) := by decide +kernel
theorem dX8_fill_42 : decode cX8_fill 42 = .ok (.aload_n 0, 1) := by decide +kernel
theorem dX8_fill_43 : decode cX8_fill 43 = .ok (.getfield 16, 3) := by decide +kernel
theorem dX8_fill_46 : decode cX8_fill 46 = .ok (.bipush 12, 2) := by decide +kernel
theorem dX8_fill_48 : decode cX8_fill 48 = .ok (.iload_n 1, 1) := by decide +kernel
theorem dX8_fill_49 : decode cX8_fill 49 = .ok (.imul, 1) := by decide +kernel
theorem dX8_fill_50 : decode cX8_fill 50 = .ok (.iload_n 2, 1) := by decide +kernel
theorem dX8_fill_51 : decode cX8_fill 51 = .ok (.iadd, 1) := by decide +kernel
theorem dX8_fill_52 : decode cX8_fill 52 = .ok (.iaload, 1) := by decide +kernel
theorem dX8_fill_53 : decode cX8_fill 53 = .ok (.if_icmp .gt 13, 3) := by decide +kernel
theorem dX8_fill_56 : decode cX8_fill 56 = .ok (.aload_n 0, 1) := by decide +kernel
theorem dX8_fill_57 : decode cX8_fill 57 = .ok (.getfield 28, 3) := by decide +kernel
theorem dX8_fill_60 : decode cX8_fill 60 = .ok (.iload 4, 2) := by decide +kernel
theorem dX8_fill_62 : decode cX8_fill 62 = .ok (.iaload, 1) := by decide +kernel
theorem dX8_fill_63 : decode cX8_fill 63 = .ok (.goto 4, 3) := by decide +kernel
theorem dX8_fill_66 : decode cX8_fill 66 = .ok (.iconst 0, 1) := by decide +kernel
theorem dX8_fill_67 : decode cX8_fill 67 = .ok (.iadd, 1) := by decide +kernel
theorem dX8_fill_68 : decode cX8_fill 68 = .ok (.istore_n 3, 1) := by decide +kernel
theorem dX8_fill_69 : decode cX8_fill 69 = .ok (.iinc 4 1, 3) := by decide +kernel
theorem dX8_fill_72 : decode cX8_fill 72 = .ok (.goto (-54), 3) := by decide +kernel
theorem dX8_fill_75 : decode cX8_fill 75 = .ok (.iload_n 3, 1) := by decide +kernel
theorem dX8_fill_76 : decode cX8_fill 76 = .ok (.ireturn, 1) := by decide +kernel
theorem dX8_compare_0 : decode cX8_compare 0 = .ok (.aload_n 0, 1) := by decide +kernel
theorem dX8_compare_1 : decode cX8_compare 1 = .ok (.getfield 56, 3) := by decide +kernel
theorem dX8_compare_4 : decode cX8_compare 4 = .ok (.iload_n 1, 1) := by decide +kernel
theorem dX8_compare_5 : decode cX8_compare 5 = .ok (.iaload, 1) := by decide +kernel
theorem dX8_compare_6 : decode cX8_compare 6 = .ok (.i2l, 1) := by decide +kernel
theorem dX8_compare_7 : decode cX8_compare 7 = .ok (.aload_n 0, 1) := by decide +kernel
theorem dX8_compare_8 : decode cX8_compare 8 = .ok (.getfield 59, 3) := by decide +kernel
theorem dX8_compare_11 : decode cX8_compare 11 = .ok (.iload_n 2, 1) := by decide +kernel
theorem dX8_compare_12 : decode cX8_compare 12 = .ok (.iaload, 1) := by decide +kernel
theorem dX8_compare_13 : decode cX8_compare 13 = .ok (.i2l, 1) := by decide +kernel
theorem dX8_compare_14 : decode cX8_compare 14 = .ok (.lmul, 1) := by decide +kernel
theorem dX8_compare_15 : decode cX8_compare 15 = .ok (.aload_n 0, 1) := by decide +kernel
theorem dX8_compare_16 : decode cX8_compare 16 = .ok (.getfield 56, 3) := by decide +kernel
theorem dX8_compare_19 : decode cX8_compare 19 = .ok (.iload_n 2, 1) := by decide +kernel
theorem dX8_compare_20 : decode cX8_compare 20 = .ok (.iaload, 1) := by decide +kernel
theorem dX8_compare_21 : decode cX8_compare 21 = .ok (.i2l, 1) := by decide +kernel
theorem dX8_compare_22 : decode cX8_compare 22 = .ok (.aload_n 0, 1) := by decide +kernel
theorem dX8_compare_23 : decode cX8_compare 23 = .ok (.getfield 59, 3) := by decide +kernel
theorem dX8_compare_26 : decode cX8_compare 26 = .ok (.iload_n 1, 1) := by decide +kernel
theorem dX8_compare_27 : decode cX8_compare 27 = .ok (.iaload, 1) := by decide +kernel
theorem dX8_compare_28 : decode cX8_compare 28 = .ok (.i2l, 1) := by decide +kernel
theorem dX8_compare_29 : decode cX8_compare 29 = .ok (.lmul, 1) := by decide +kernel
theorem dX8_compare_30 : decode cX8_compare 30 = .ok (.lsub, 1) := by decide +kernel
theorem dX8_compare_31 : decode cX8_compare 31 = .ok (.lstore_n 3, 1) := by decide +kernel
theorem dX8_compare_32 : decode cX8_compare 32 = .ok (.lload_n 3, 1) := by decide +kernel
theorem dX8_compare_33 : decode cX8_compare 33 = .ok (.lconst 0, 1) := by decide +kernel
theorem dX8_compare_34 : decode cX8_compare 34 = .ok (.lcmp, 1) := by decide +kernel
theorem dX8_compare_35 : decode cX8_compare 35 = .ok (.ifCond .ge 7, 3) := by decide +kernel
theorem dX8_compare_38 : decode cX8_compare 38 = .ok (.iconst (-1), 1) := by decide +kernel
theorem dX8_compare_39 : decode cX8_compare 39 = .ok (.goto 14, 3) := by decide +kernel
theorem dX8_compare_42 : decode cX8_compare 42 = .ok (.lload_n 3, 1) := by decide +kernel
theorem dX8_compare_43 : decode cX8_compare 43 = .ok (.lconst 0, 1) := by decide +kernel
theorem dX8_compare_44 : decode cX8_compare 44 = .ok (.lcmp, 1) := by decide +kernel
theorem dX8_compare_45 : decode cX8_compare 45 = .ok (.ifCond .le 7, 3) := by decide +kernel
theorem dX8_compare_48 : decode cX8_compare 48 = .ok (.iconst 1, 1) := by decide +kernel
theorem dX8_compare_49 : decode cX8_compare 49 = .ok (.goto 4, 3) := by decide +kernel
theorem dX8_compare_52 : decode cX8_compare 52 = .ok (.iconst 0, 1) := by decide +kernel
theorem dX8_compare_53 : decode cX8_compare 53 = .ok (.ireturn, 1) := by decide +kernel
theorem dX8_divisor_0 : decode cX8_divisor 0 = .ok (.iload_n 0, 1) := by decide +kernel
theorem dX8_divisor_1 : decode cX8_divisor 1 = .ok (.ifCond .ge 8, 3) := by decide +kernel
theorem dX8_divisor_4 : decode cX8_divisor 4 = .ok (.iload_n 0, 1) := by decide +kernel
theorem dX8_divisor_5 : decode cX8_divisor 5 = .ok (.ineg, 1) := by decide +kernel
theorem dX8_divisor_6 : decode cX8_divisor 6 = .ok (.goto 4, 3) := by decide +kernel
theorem dX8_divisor_9 : decode cX8_divisor 9 = .ok (.iload_n 0, 1) := by decide +kernel
theorem dX8_divisor_10 : decode cX8_divisor 10 = .ok (.istore_n 2, 1) := by decide +kernel
theorem dX8_divisor_11 : decode cX8_divisor 11 = .ok (.iload_n 1, 1) := by decide +kernel
theorem dX8_divisor_12 : decode cX8_divisor 12 = .ok (.istore_n 3, 1) := by decide +kernel
theorem dX8_divisor_13 : decode cX8_divisor 13 = .ok (.iload_n 3, 1) := by decide +kernel
theorem dX8_divisor_14 : decode cX8_divisor 14 = .ok (.ifCond .le 16, 3) := by decide +kernel
theorem dX8_divisor_17 : decode cX8_divisor 17 = .ok (.iload_n 2, 1) := by decide +kernel
theorem dX8_divisor_18 : decode cX8_divisor 18 = .ok (.iload_n 3, 1) := by decide +kernel
theorem dX8_divisor_19 : decode cX8_divisor 19 = .ok (.irem, 1) := by decide +kernel
theorem dX8_divisor_20 : decode cX8_divisor 20 = .ok (.istore 4, 2) := by decide +kernel
theorem dX8_divisor_22 : decode cX8_divisor 22 = .ok (.iload_n 3, 1) := by decide +kernel
theorem dX8_divisor_23 : decode cX8_divisor 23 = .ok (.istore_n 2, 1) := by decide +kernel
theorem dX8_divisor_24 : decode cX8_divisor 24 = .ok (.iload 4, 2) := by decide +kernel
theorem dX8_divisor_26 : decode cX8_divisor 26 = .ok (.istore_n 3, 1) := by decide +kernel
theorem dX8_divisor_27 : decode cX8_divisor 27 = .ok (.goto (-14), 3) := by decide +kernel
theorem dX8_divisor_30 : decode cX8_divisor 30 = .ok (.iload_n 2, 1) := by decide +kernel
theorem dX8_divisor_31 : decode cX8_divisor 31 = .ok (.ireturn, 1) := by decide +kernel
theorem dX8_laysSlopes_0 : decode cX8_laysSlopes 0 = .ok (.aload_n 0, 1) := by decide +kernel
theorem dX8_laysSlopes_1 : decode cX8_laysSlopes 1 = .ok (.iconst 0, 1) := by decide +kernel
theorem dX8_laysSlopes_2 : decode cX8_laysSlopes 2 = .ok (.putfield 100, 3) := by decide +kernel
theorem dX8_laysSlopes_5 : decode cX8_laysSlopes 5 = .ok (.iconst 0, 1) := by decide +kernel
theorem dX8_laysSlopes_6 : decode cX8_laysSlopes 6 = .ok (.istore_n 3, 1) := by decide +kernel
theorem dX8_laysSlopes_7 : decode cX8_laysSlopes 7 = .ok (.iload_n 3, 1) := by decide +kernel
theorem dX8_laysSlopes_8 : decode cX8_laysSlopes 8 = .ok (.aload_n 0, 1) := by decide +kernel
theorem dX8_laysSlopes_9 : decode cX8_laysSlopes 9 = .ok (.getfield 13, 3) := by decide +kernel
theorem dX8_laysSlopes_12 : decode cX8_laysSlopes 12 = .ok (.iload_n 1, 1) := by decide +kernel
theorem dX8_laysSlopes_13 : decode cX8_laysSlopes 13 = .ok (.iaload, 1) := by decide +kernel
theorem dX8_laysSlopes_14 : decode cX8_laysSlopes 14 = .ok (.if_icmp .ge 167, 3) := by decide +kernel
theorem dX8_laysSlopes_17 : decode cX8_laysSlopes 17 = .ok (.aload_n 0, 1) := by decide +kernel
theorem dX8_laysSlopes_18 : decode cX8_laysSlopes 18 = .ok (.getfield 53, 3) := by decide +kernel
theorem dX8_laysSlopes_21 : decode cX8_laysSlopes 21 = .ok (.iload_n 3, 1) := by decide +kernel
theorem dX8_laysSlopes_22 : decode cX8_laysSlopes 22 = .ok (.aload_n 0, 1) := by decide +kernel
theorem dX8_laysSlopes_23 : decode cX8_laysSlopes 23 = .ok (.iload_n 1, 1) := by decide +kernel
theorem dX8_laysSlopes_24 : decode cX8_laysSlopes 24 = .ok (.iload_n 3, 1) := by decide +kernel
theorem dX8_laysSlopes_25 : decode cX8_laysSlopes 25 = .ok (.invokevirtual 103, 3) := by decide +kernel
theorem dX8_laysSlopes_28 : decode cX8_laysSlopes 28 = .ok (.iastore, 1) := by decide +kernel
theorem dX8_laysSlopes_29 : decode cX8_laysSlopes 29 = .ok (.aload_n 0, 1) := by decide +kernel
theorem dX8_laysSlopes_30 : decode cX8_laysSlopes 30 = .ok (.iload_n 3, 1) := by decide +kernel
theorem dX8_laysSlopes_31 : decode cX8_laysSlopes 31 = .ok (.iload_n 2, 1) := by decide +kernel
theorem dX8_laysSlopes_32 : decode cX8_laysSlopes 32 = .ok (.if_icmp .ne 10, 3) := by decide +kernel
theorem dX8_laysSlopes_35 : decode cX8_laysSlopes 35 = .ok (.aload_n 0, 1) := by decide +kernel
theorem dX8_laysSlopes_36 : decode cX8_laysSlopes 36 = .ok (.getfield 107, 3) := by decide +kernel
theorem dX8_laysSlopes_39 : decode cX8_laysSlopes 39 = .ok (.goto 14, 3) := by decide +kernel
theorem dX8_laysSlopes_42 : decode cX8_laysSlopes 42 = .ok (.aload_n 0, 1) := by decide +kernel
theorem dX8_laysSlopes_43 : decode cX8_laysSlopes 43 = .ok (.getfield 16, 3) := by decide +kernel
theorem dX8_laysSlopes_46 : decode cX8_laysSlopes 46 = .ok (.bipush 12, 2) := by decide +kernel
theorem dX8_laysSlopes_48 : decode cX8_laysSlopes 48 = .ok (.iload_n 1, 1) := by decide +kernel
theorem dX8_laysSlopes_49 : decode cX8_laysSlopes 49 = .ok (.imul, 1) := by decide +kernel
theorem dX8_laysSlopes_50 : decode cX8_laysSlopes 50 = .ok (.iload_n 3, 1) := by decide +kernel
theorem dX8_laysSlopes_51 : decode cX8_laysSlopes 51 = .ok (.iadd, 1) := by decide +kernel
theorem dX8_laysSlopes_52 : decode cX8_laysSlopes 52 = .ok (.iaload, 1) := by decide +kernel
theorem dX8_laysSlopes_53 : decode cX8_laysSlopes 53 = .ok (.putfield 107, 3) := by decide +kernel
theorem dX8_laysSlopes_56 : decode cX8_laysSlopes 56 = .ok (.aload_n 0, 1) := by decide +kernel
theorem dX8_laysSlopes_57 : decode cX8_laysSlopes 57 = .ok (.iload_n 3, 1) := by decide +kernel
theorem dX8_laysSlopes_58 : decode cX8_laysSlopes 58 = .ok (.iload_n 2, 1) := by decide +kernel
theorem dX8_laysSlopes_59 : decode cX8_laysSlopes 59 = .ok (.if_icmp .ne 10, 3) := by decide +kernel
theorem dX8_laysSlopes_62 : decode cX8_laysSlopes 62 = .ok (.aload_n 0, 1) := by decide +kernel
theorem dX8_laysSlopes_63 : decode cX8_laysSlopes 63 = .ok (.getfield 110, 3) := by decide +kernel
theorem dX8_laysSlopes_66 : decode cX8_laysSlopes 66 = .ok (.goto 14, 3) := by decide +kernel
theorem dX8_laysSlopes_69 : decode cX8_laysSlopes 69 = .ok (.aload_n 0, 1) := by decide +kernel
theorem dX8_laysSlopes_70 : decode cX8_laysSlopes 70 = .ok (.getfield 19, 3) := by decide +kernel
theorem dX8_laysSlopes_73 : decode cX8_laysSlopes 73 = .ok (.bipush 12, 2) := by decide +kernel
theorem dX8_laysSlopes_75 : decode cX8_laysSlopes 75 = .ok (.iload_n 1, 1) := by decide +kernel
theorem dX8_laysSlopes_76 : decode cX8_laysSlopes 76 = .ok (.imul, 1) := by decide +kernel
theorem dX8_laysSlopes_77 : decode cX8_laysSlopes 77 = .ok (.iload_n 3, 1) := by decide +kernel
theorem dX8_laysSlopes_78 : decode cX8_laysSlopes 78 = .ok (.iadd, 1) := by decide +kernel
theorem dX8_laysSlopes_79 : decode cX8_laysSlopes 79 = .ok (.iaload, 1) := by decide +kernel
theorem dX8_laysSlopes_80 : decode cX8_laysSlopes 80 = .ok (.putfield 110, 3) := by decide +kernel
theorem dX8_laysSlopes_83 : decode cX8_laysSlopes 83 = .ok (.iconst 0, 1) := by decide +kernel
theorem dX8_laysSlopes_84 : decode cX8_laysSlopes 84 = .ok (.istore 4, 2) := by decide +kernel
theorem dX8_laysSlopes_86 : decode cX8_laysSlopes 86 = .ok (.iload 4, 2) := by decide +kernel
theorem dX8_laysSlopes_88 : decode cX8_laysSlopes 88 = .ok (.iload_n 3, 1) := by decide +kernel
theorem dX8_laysSlopes_89 : decode cX8_laysSlopes 89 = .ok (.if_icmp .ge 86, 3) := by decide +kernel
theorem dX8_laysSlopes_92 : decode cX8_laysSlopes 92 = .ok (.iload_n 3, 1) := by decide +kernel
theorem dX8_laysSlopes_93 : decode cX8_laysSlopes 93 = .ok (.iload_n 2, 1) := by decide +kernel
theorem dX8_laysSlopes_94 : decode cX8_laysSlopes 94 = .ok (.if_icmp .eq 75, 3) := by decide +kernel
theorem dX8_laysSlopes_97 : decode cX8_laysSlopes 97 = .ok (.iload 4, 2) := by decide +kernel
theorem dX8_laysSlopes_99 : decode cX8_laysSlopes 99 = .ok (.iload_n 2, 1) := by decide +kernel
theorem dX8_laysSlopes_100 : decode cX8_laysSlopes 100 = .ok (.if_icmp .eq 69, 3) := by decide +kernel
theorem dX8_laysSlopes_103 : decode cX8_laysSlopes 103 = .ok (.aload_n 0, 1) := by decide +kernel
theorem dX8_laysSlopes_104 : decode cX8_laysSlopes 104 = .ok (.getfield 56, 3) := by decide +kernel
theorem dX8_laysSlopes_107 : decode cX8_laysSlopes 107 = .ok (.aload_n 0, 1) := by decide +kernel
theorem dX8_laysSlopes_108 : decode cX8_laysSlopes 108 = .ok (.getfield 100, 3) := by decide +kernel
theorem dX8_laysSlopes_111 : decode cX8_laysSlopes 111 = .ok (.aload_n 0, 1) := by decide +kernel
theorem dX8_laysSlopes_112 : decode cX8_laysSlopes 112 = .ok (.getfield 53, 3) := by decide +kernel
theorem dX8_laysSlopes_115 : decode cX8_laysSlopes 115 = .ok (.iload_n 3, 1) := by decide +kernel
theorem dX8_laysSlopes_116 : decode cX8_laysSlopes 116 = .ok (.iaload, 1) := by decide +kernel
theorem dX8_laysSlopes_117 : decode cX8_laysSlopes 117 = .ok (.aload_n 0, 1) := by decide +kernel
theorem dX8_laysSlopes_118 : decode cX8_laysSlopes 118 = .ok (.getfield 53, 3) := by decide +kernel
theorem dX8_laysSlopes_121 : decode cX8_laysSlopes 121 = .ok (.iload 4, 2) := by decide +kernel
theorem dX8_laysSlopes_123 : decode cX8_laysSlopes 123 = .ok (.iaload, 1) := by decide +kernel
theorem dX8_laysSlopes_124 : decode cX8_laysSlopes 124 = .ok (.isub, 1) := by decide +kernel
theorem dX8_laysSlopes_125 : decode cX8_laysSlopes 125 = .ok (.iastore, 1) := by decide +kernel
theorem dX8_laysSlopes_126 : decode cX8_laysSlopes 126 = .ok (.aload_n 0, 1) := by decide +kernel
theorem dX8_laysSlopes_127 : decode cX8_laysSlopes 127 = .ok (.getfield 59, 3) := by decide +kernel
theorem dX8_laysSlopes_130 : decode cX8_laysSlopes 130 = .ok (.aload_n 0, 1) := by decide +kernel
theorem dX8_laysSlopes_131 : decode cX8_laysSlopes 131 = .ok (.getfield 100, 3) := by decide +kernel
theorem dX8_laysSlopes_134 : decode cX8_laysSlopes 134 = .ok (.aload_n 0, 1) := by decide +kernel
end
section
theorem dX8_laysSlopes_135 : decode cX8_laysSlopes 135 = .ok (.getfield 16, 3) := by decide +kernel
theorem dX8_laysSlopes_138 : decode cX8_laysSlopes 138 = .ok (.bipush 12, 2) := by decide +kernel
theorem dX8_laysSlopes_140 : decode cX8_laysSlopes 140 = .ok (.iload_n 1, 1) := by decide +kernel
theorem dX8_laysSlopes_141 : decode cX8_laysSlopes 141 = .ok (.imul, 1) := by decide +kernel
theorem dX8_laysSlopes_142 : decode cX8_laysSlopes 142 = .ok (.iload_n 3, 1) := by decide +kernel
theorem dX8_laysSlopes_143 : decode cX8_laysSlopes 143 = .ok (.iadd, 1) := by decide +kernel
theorem dX8_laysSlopes_144 : decode cX8_laysSlopes 144 = .ok (.iaload, 1) := by decide +kernel
theorem dX8_laysSlopes_145 : decode cX8_laysSlopes 145 = .ok (.aload_n 0, 1) := by decide +kernel
theorem dX8_laysSlopes_146 : decode cX8_laysSlopes 146 = .ok (.getfield 16, 3) := by decide +kernel
theorem dX8_laysSlopes_149 : decode cX8_laysSlopes 149 = .ok (.bipush 12, 2) := by decide +kernel
theorem dX8_laysSlopes_151 : decode cX8_laysSlopes 151 = .ok (.iload_n 1, 1) := by decide +kernel
theorem dX8_laysSlopes_152 : decode cX8_laysSlopes 152 = .ok (.imul, 1) := by decide +kernel
theorem dX8_laysSlopes_153 : decode cX8_laysSlopes 153 = .ok (.iload 4, 2) := by decide +kernel
theorem dX8_laysSlopes_155 : decode cX8_laysSlopes 155 = .ok (.iadd, 1) := by decide +kernel
theorem dX8_laysSlopes_156 : decode cX8_laysSlopes 156 = .ok (.iaload, 1) := by decide +kernel
theorem dX8_laysSlopes_157 : decode cX8_laysSlopes 157 = .ok (.isub, 1) := by decide +kernel
theorem dX8_laysSlopes_158 : decode cX8_laysSlopes 158 = .ok (.iastore, 1) := by decide +kernel
theorem dX8_laysSlopes_159 : decode cX8_laysSlopes 159 = .ok (.aload_n 0, 1) := by decide +kernel
theorem dX8_laysSlopes_160 : decode cX8_laysSlopes 160 = .ok (.dup, 1) := by decide +kernel
theorem dX8_laysSlopes_161 : decode cX8_laysSlopes 161 = .ok (.getfield 100, 3) := by decide +kernel
theorem dX8_laysSlopes_164 : decode cX8_laysSlopes 164 = .ok (.iconst 1, 1) := by decide +kernel
theorem dX8_laysSlopes_165 : decode cX8_laysSlopes 165 = .ok (.iadd, 1) := by decide +kernel
theorem dX8_laysSlopes_166 : decode cX8_laysSlopes 166 = .ok (.putfield 100, 3) := by decide +kernel
theorem dX8_laysSlopes_169 : decode cX8_laysSlopes 169 = .ok (.iinc 4 1, 3) := by decide +kernel
theorem dX8_laysSlopes_172 : decode cX8_laysSlopes 172 = .ok (.goto (-86), 3) := by decide +kernel
theorem dX8_laysSlopes_175 : decode cX8_laysSlopes 175 = .ok (.iinc 3 1, 3) := by decide +kernel
theorem dX8_laysSlopes_178 : decode cX8_laysSlopes 178 = .ok (.goto (-171), 3) := by decide +kernel
theorem dX8_laysSlopes_181 : decode cX8_laysSlopes 181 = .ok (.aload_n 0, 1) := by decide +kernel
theorem dX8_laysSlopes_182 : decode cX8_laysSlopes 182 = .ok (.getfield 100, 3) := by decide +kernel
theorem dX8_laysSlopes_185 : decode cX8_laysSlopes 185 = .ok (.ifCond .le 7, 3) := by decide +kernel
theorem dX8_laysSlopes_188 : decode cX8_laysSlopes 188 = .ok (.iconst 1, 1) := by decide +kernel
theorem dX8_laysSlopes_189 : decode cX8_laysSlopes 189 = .ok (.goto 4, 3) := by decide +kernel
theorem dX8_laysSlopes_192 : decode cX8_laysSlopes 192 = .ok (.iconst 0, 1) := by decide +kernel
theorem dX8_laysSlopes_193 : decode cX8_laysSlopes 193 = .ok (.ireturn, 1) := by decide +kernel
theorem dX8_findsSlope_0 : decode cX8_findsSlope 0 = .ok (.aload_n 0, 1) := by decide +kernel
theorem dX8_findsSlope_1 : decode cX8_findsSlope 1 = .ok (.iload_n 1, 1) := by decide +kernel
theorem dX8_findsSlope_2 : decode cX8_findsSlope 2 = .ok (.iload_n 2, 1) := by decide +kernel
theorem dX8_findsSlope_3 : decode cX8_findsSlope 3 = .ok (.invokevirtual 113, 3) := by decide +kernel
theorem dX8_findsSlope_6 : decode cX8_findsSlope 6 = .ok (.ifCond .ne 5, 3) := by decide +kernel
theorem dX8_findsSlope_9 : decode cX8_findsSlope 9 = .ok (.iconst 0, 1) := by decide +kernel
theorem dX8_findsSlope_10 : decode cX8_findsSlope 10 = .ok (.ireturn, 1) := by decide +kernel
theorem dX8_findsSlope_11 : decode cX8_findsSlope 11 = .ok (.iconst 0, 1) := by decide +kernel
theorem dX8_findsSlope_12 : decode cX8_findsSlope 12 = .ok (.istore_n 3, 1) := by decide +kernel
theorem dX8_findsSlope_13 : decode cX8_findsSlope 13 = .ok (.iload_n 3, 1) := by decide +kernel
theorem dX8_findsSlope_14 : decode cX8_findsSlope 14 = .ok (.aload_n 0, 1) := by decide +kernel
theorem dX8_findsSlope_15 : decode cX8_findsSlope 15 = .ok (.getfield 100, 3) := by decide +kernel
theorem dX8_findsSlope_18 : decode cX8_findsSlope 18 = .ok (.if_icmp .ge 143, 3) := by decide +kernel
theorem dX8_findsSlope_21 : decode cX8_findsSlope 21 = .ok (.iconst 0, 1) := by decide +kernel
theorem dX8_findsSlope_22 : decode cX8_findsSlope 22 = .ok (.istore 4, 2) := by decide +kernel
theorem dX8_findsSlope_24 : decode cX8_findsSlope 24 = .ok (.iconst 0, 1) := by decide +kernel
theorem dX8_findsSlope_25 : decode cX8_findsSlope 25 = .ok (.istore 5, 2) := by decide +kernel
theorem dX8_findsSlope_27 : decode cX8_findsSlope 27 = .ok (.iconst 0, 1) := by decide +kernel
theorem dX8_findsSlope_28 : decode cX8_findsSlope 28 = .ok (.istore 6, 2) := by decide +kernel
theorem dX8_findsSlope_30 : decode cX8_findsSlope 30 = .ok (.iload 6, 2) := by decide +kernel
theorem dX8_findsSlope_32 : decode cX8_findsSlope 32 = .ok (.aload_n 0, 1) := by decide +kernel
theorem dX8_findsSlope_33 : decode cX8_findsSlope 33 = .ok (.getfield 100, 3) := by decide +kernel
theorem dX8_findsSlope_36 : decode cX8_findsSlope 36 = .ok (.if_icmp .ge 49, 3) := by decide +kernel
theorem dX8_findsSlope_39 : decode cX8_findsSlope 39 = .ok (.iload 4, 2) := by decide +kernel
theorem dX8_findsSlope_41 : decode cX8_findsSlope 41 = .ok (.aload_n 0, 1) := by decide +kernel
theorem dX8_findsSlope_42 : decode cX8_findsSlope 42 = .ok (.iload 6, 2) := by decide +kernel
theorem dX8_findsSlope_44 : decode cX8_findsSlope 44 = .ok (.iload_n 3, 1) := by decide +kernel
theorem dX8_findsSlope_45 : decode cX8_findsSlope 45 = .ok (.invokevirtual 117, 3) := by decide +kernel
theorem dX8_findsSlope_48 : decode cX8_findsSlope 48 = .ok (.ifCond .ge 7, 3) := by decide +kernel
theorem dX8_findsSlope_51 : decode cX8_findsSlope 51 = .ok (.iconst 1, 1) := by decide +kernel
theorem dX8_findsSlope_52 : decode cX8_findsSlope 52 = .ok (.goto 4, 3) := by decide +kernel
theorem dX8_findsSlope_55 : decode cX8_findsSlope 55 = .ok (.iconst 0, 1) := by decide +kernel
theorem dX8_findsSlope_56 : decode cX8_findsSlope 56 = .ok (.iadd, 1) := by decide +kernel
theorem dX8_findsSlope_57 : decode cX8_findsSlope 57 = .ok (.istore 4, 2) := by decide +kernel
theorem dX8_findsSlope_59 : decode cX8_findsSlope 59 = .ok (.iload 5, 2) := by decide +kernel
theorem dX8_findsSlope_61 : decode cX8_findsSlope 61 = .ok (.aload_n 0, 1) := by decide +kernel
theorem dX8_findsSlope_62 : decode cX8_findsSlope 62 = .ok (.iload 6, 2) := by decide +kernel
theorem dX8_findsSlope_64 : decode cX8_findsSlope 64 = .ok (.iload_n 3, 1) := by decide +kernel
theorem dX8_findsSlope_65 : decode cX8_findsSlope 65 = .ok (.invokevirtual 117, 3) := by decide +kernel
theorem dX8_findsSlope_68 : decode cX8_findsSlope 68 = .ok (.ifCond .ne 7, 3) := by decide +kernel
theorem dX8_findsSlope_71 : decode cX8_findsSlope 71 = .ok (.iconst 1, 1) := by decide +kernel
theorem dX8_findsSlope_72 : decode cX8_findsSlope 72 = .ok (.goto 4, 3) := by decide +kernel
theorem dX8_findsSlope_75 : decode cX8_findsSlope 75 = .ok (.iconst 0, 1) := by decide +kernel
theorem dX8_findsSlope_76 : decode cX8_findsSlope 76 = .ok (.iadd, 1) := by decide +kernel
theorem dX8_findsSlope_77 : decode cX8_findsSlope 77 = .ok (.istore 5, 2) := by decide +kernel
theorem dX8_findsSlope_79 : decode cX8_findsSlope 79 = .ok (.iinc 6 1, 3) := by decide +kernel
theorem dX8_findsSlope_82 : decode cX8_findsSlope 82 = .ok (.goto (-52), 3) := by decide +kernel
theorem dX8_findsSlope_85 : decode cX8_findsSlope 85 = .ok (.aload_n 0, 1) := by decide +kernel
theorem dX8_findsSlope_86 : decode cX8_findsSlope 86 = .ok (.getfield 100, 3) := by decide +kernel
theorem dX8_findsSlope_89 : decode cX8_findsSlope 89 = .ok (.invokestatic 120, 3) := by decide +kernel
theorem dX8_findsSlope_92 : decode cX8_findsSlope 92 = .ok (.iload 4, 2) := by decide +kernel
theorem dX8_findsSlope_94 : decode cX8_findsSlope 94 = .ok (.if_icmp .lt 61, 3) := by decide +kernel
theorem dX8_findsSlope_97 : decode cX8_findsSlope 97 = .ok (.aload_n 0, 1) := by decide +kernel
theorem dX8_findsSlope_98 : decode cX8_findsSlope 98 = .ok (.getfield 100, 3) := by decide +kernel
theorem dX8_findsSlope_101 : decode cX8_findsSlope 101 = .ok (.invokestatic 120, 3) := by decide +kernel
theorem dX8_findsSlope_104 : decode cX8_findsSlope 104 = .ok (.iload 4, 2) := by decide +kernel
theorem dX8_findsSlope_106 : decode cX8_findsSlope 106 = .ok (.iload 5, 2) := by decide +kernel
theorem dX8_findsSlope_108 : decode cX8_findsSlope 108 = .ok (.iadd, 1) := by decide +kernel
theorem dX8_findsSlope_109 : decode cX8_findsSlope 109 = .ok (.if_icmp .ge 46, 3) := by decide +kernel
theorem dX8_findsSlope_112 : decode cX8_findsSlope 112 = .ok (.aload_n 0, 1) := by decide +kernel
theorem dX8_findsSlope_113 : decode cX8_findsSlope 113 = .ok (.getfield 56, 3) := by decide +kernel
theorem dX8_findsSlope_116 : decode cX8_findsSlope 116 = .ok (.iload_n 3, 1) := by decide +kernel
theorem dX8_findsSlope_117 : decode cX8_findsSlope 117 = .ok (.iaload, 1) := by decide +kernel
theorem dX8_findsSlope_118 : decode cX8_findsSlope 118 = .ok (.aload_n 0, 1) := by decide +kernel
theorem dX8_findsSlope_119 : decode cX8_findsSlope 119 = .ok (.getfield 59, 3) := by decide +kernel
theorem dX8_findsSlope_122 : decode cX8_findsSlope 122 = .ok (.iload_n 3, 1) := by decide +kernel
theorem dX8_findsSlope_123 : decode cX8_findsSlope 123 = .ok (.iaload, 1) := by decide +kernel
theorem dX8_findsSlope_124 : decode cX8_findsSlope 124 = .ok (.invokestatic 124, 3) := by decide +kernel
theorem dX8_findsSlope_127 : decode cX8_findsSlope 127 = .ok (.istore 6, 2) := by decide +kernel
theorem dX8_findsSlope_129 : decode cX8_findsSlope 129 = .ok (.aload_n 0, 1) := by decide +kernel
theorem dX8_findsSlope_130 : decode cX8_findsSlope 130 = .ok (.aload_n 0, 1) := by decide +kernel
theorem dX8_findsSlope_131 : decode cX8_findsSlope 131 = .ok (.getfield 56, 3) := by decide +kernel
theorem dX8_findsSlope_134 : decode cX8_findsSlope 134 = .ok (.iload_n 3, 1) := by decide +kernel
theorem dX8_findsSlope_135 : decode cX8_findsSlope 135 = .ok (.iaload, 1) := by decide +kernel
theorem dX8_findsSlope_136 : decode cX8_findsSlope 136 = .ok (.iload 6, 2) := by decide +kernel
theorem dX8_findsSlope_138 : decode cX8_findsSlope 138 = .ok (.idiv, 1) := by decide +kernel
theorem dX8_findsSlope_139 : decode cX8_findsSlope 139 = .ok (.putfield 127, 3) := by decide +kernel
theorem dX8_findsSlope_142 : decode cX8_findsSlope 142 = .ok (.aload_n 0, 1) := by decide +kernel
theorem dX8_findsSlope_143 : decode cX8_findsSlope 143 = .ok (.aload_n 0, 1) := by decide +kernel
theorem dX8_findsSlope_144 : decode cX8_findsSlope 144 = .ok (.getfield 59, 3) := by decide +kernel
theorem dX8_findsSlope_147 : decode cX8_findsSlope 147 = .ok (.iload_n 3, 1) := by decide +kernel
theorem dX8_findsSlope_148 : decode cX8_findsSlope 148 = .ok (.iaload, 1) := by decide +kernel
theorem dX8_findsSlope_149 : decode cX8_findsSlope 149 = .ok (.iload 6, 2) := by decide +kernel
theorem dX8_findsSlope_151 : decode cX8_findsSlope 151 = .ok (.idiv, 1) := by decide +kernel
theorem dX8_findsSlope_152 : decode cX8_findsSlope 152 = .ok (.putfield 130, 3) := by decide +kernel
theorem dX8_findsSlope_155 : decode cX8_findsSlope 155 = .ok (.iinc 3 1, 3) := by decide +kernel
theorem dX8_findsSlope_158 : decode cX8_findsSlope 158 = .ok (.goto (-145), 3) := by decide +kernel
theorem dX8_findsSlope_161 : decode cX8_findsSlope 161 = .ok (.iconst 1, 1) := by decide +kernel
theorem dX8_findsSlope_162 : decode cX8_findsSlope 162 = .ok (.ireturn, 1) := by decide +kernel
theorem dX8_usualOf_0 : decode cX8_usualOf 0 = .ok (.iconst 0, 1) := by decide +kernel
theorem dX8_usualOf_1 : decode cX8_usualOf 1 = .ok (.istore_n 2, 1) := by decide +kernel
theorem dX8_usualOf_2 : decode cX8_usualOf 2 = .ok (.bipush 60, 2) := by decide +kernel
theorem dX8_usualOf_4 : decode cX8_usualOf 4 = .ok (.iload_n 1, 1) := by decide +kernel
theorem dX8_usualOf_5 : decode cX8_usualOf 5 = .ok (.imul, 1) := by decide +kernel
theorem dX8_usualOf_6 : decode cX8_usualOf 6 = .ok (.istore_n 3, 1) := by decide +kernel
theorem dX8_usualOf_7 : decode cX8_usualOf 7 = .ok (.iload_n 3, 1) := by decide +kernel
theorem dX8_usualOf_8 : decode cX8_usualOf 8 = .ok (.istore 4, 2) := by decide +kernel
theorem dX8_usualOf_10 : decode cX8_usualOf 10 = .ok (.iload 4, 2) := by decide +kernel
theorem dX8_usualOf_12 : decode cX8_usualOf 12 = .ok (.iload_n 3, 1) := by decide +kernel
theorem dX8_usualOf_13 : decode cX8_usualOf 13 = .ok (.aload_n 0, 1) := by decide +kernel
theorem dX8_usualOf_14 : decode cX8_usualOf 14 = .ok (.getfield 22, 3) := by decide +kernel
theorem dX8_usualOf_17 : decode cX8_usualOf 17 = .ok (.iload_n 1, 1) := by decide +kernel
theorem dX8_usualOf_18 : decode cX8_usualOf 18 = .ok (.iaload, 1) := by decide +kernel
theorem dX8_usualOf_19 : decode cX8_usualOf 19 = .ok (.iadd, 1) := by decide +kernel
theorem dX8_usualOf_20 : decode cX8_usualOf 20 = .ok (.if_icmp .ge 131, 3) := by decide +kernel
theorem dX8_usualOf_23 : decode cX8_usualOf 23 = .ok (.iconst 0, 1) := by decide +kernel
theorem dX8_usualOf_24 : decode cX8_usualOf 24 = .ok (.istore 5, 2) := by decide +kernel
theorem dX8_usualOf_26 : decode cX8_usualOf 26 = .ok (.iconst 0, 1) := by decide +kernel
theorem dX8_usualOf_27 : decode cX8_usualOf 27 = .ok (.istore 6, 2) := by decide +kernel
theorem dX8_usualOf_29 : decode cX8_usualOf 29 = .ok (.iload_n 3, 1) := by decide +kernel
theorem dX8_usualOf_30 : decode cX8_usualOf 30 = .ok (.istore 7, 2) := by decide +kernel
theorem dX8_usualOf_32 : decode cX8_usualOf 32 = .ok (.iload 7, 2) := by decide +kernel
theorem dX8_usualOf_34 : decode cX8_usualOf 34 = .ok (.iload_n 3, 1) := by decide +kernel
theorem dX8_usualOf_35 : decode cX8_usualOf 35 = .ok (.aload_n 0, 1) := by decide +kernel
theorem dX8_usualOf_36 : decode cX8_usualOf 36 = .ok (.getfield 22, 3) := by decide +kernel
theorem dX8_usualOf_39 : decode cX8_usualOf 39 = .ok (.iload_n 1, 1) := by decide +kernel
theorem dX8_usualOf_40 : decode cX8_usualOf 40 = .ok (.iaload, 1) := by decide +kernel
theorem dX8_usualOf_41 : decode cX8_usualOf 41 = .ok (.iadd, 1) := by decide +kernel
theorem dX8_usualOf_42 : decode cX8_usualOf 42 = .ok (.if_icmp .ge 63, 3) := by decide +kernel
theorem dX8_usualOf_45 : decode cX8_usualOf 45 = .ok (.iload 5, 2) := by decide +kernel
theorem dX8_usualOf_47 : decode cX8_usualOf 47 = .ok (.aload_n 0, 1) := by decide +kernel
theorem dX8_usualOf_48 : decode cX8_usualOf 48 = .ok (.getfield 28, 3) := by decide +kernel
theorem dX8_usualOf_51 : decode cX8_usualOf 51 = .ok (.iload 7, 2) := by decide +kernel
theorem dX8_usualOf_53 : decode cX8_usualOf 53 = .ok (.iaload, 1) := by decide +kernel
theorem dX8_usualOf_54 : decode cX8_usualOf 54 = .ok (.aload_n 0, 1) := by decide +kernel
theorem dX8_usualOf_55 : decode cX8_usualOf 55 = .ok (.getfield 28, 3) := by decide +kernel
theorem dX8_usualOf_58 : decode cX8_usualOf 58 = .ok (.iload 4, 2) := by decide +kernel
theorem dX8_usualOf_60 : decode cX8_usualOf 60 = .ok (.iaload, 1) := by decide +kernel
theorem dX8_usualOf_61 : decode cX8_usualOf 61 = .ok (.if_icmp .ge 7, 3) := by decide +kernel
theorem dX8_usualOf_64 : decode cX8_usualOf 64 = .ok (.iconst 1, 1) := by decide +kernel
theorem dX8_usualOf_65 : decode cX8_usualOf 65 = .ok (.goto 4, 3) := by decide +kernel
theorem dX8_usualOf_68 : decode cX8_usualOf 68 = .ok (.iconst 0, 1) := by decide +kernel
theorem dX8_usualOf_69 : decode cX8_usualOf 69 = .ok (.iadd, 1) := by decide +kernel
theorem dX8_usualOf_70 : decode cX8_usualOf 70 = .ok (.istore 5, 2) := by decide +kernel
theorem dX8_usualOf_72 : decode cX8_usualOf 72 = .ok (.iload 6, 2) := by decide +kernel
theorem dX8_usualOf_74 : decode cX8_usualOf 74 = .ok (.aload_n 0, 1) := by decide +kernel
theorem dX8_usualOf_75 : decode cX8_usualOf 75 = .ok (.getfield 28, 3) := by decide +kernel
theorem dX8_usualOf_78 : decode cX8_usualOf 78 = .ok (.iload 7, 2) := by decide +kernel
theorem dX8_usualOf_80 : decode cX8_usualOf 80 = .ok (.iaload, 1) := by decide +kernel
theorem dX8_usualOf_81 : decode cX8_usualOf 81 = .ok (.aload_n 0, 1) := by decide +kernel
theorem dX8_usualOf_82 : decode cX8_usualOf 82 = .ok (.getfield 28, 3) := by decide +kernel
theorem dX8_usualOf_85 : decode cX8_usualOf 85 = .ok (.iload 4, 2) := by decide +kernel
theorem dX8_usualOf_87 : decode cX8_usualOf 87 = .ok (.iaload, 1) := by decide +kernel
theorem dX8_usualOf_88 : decode cX8_usualOf 88 = .ok (.if_icmp .ne 7, 3) := by decide +kernel
theorem dX8_usualOf_91 : decode cX8_usualOf 91 = .ok (.iconst 1, 1) := by decide +kernel
theorem dX8_usualOf_92 : decode cX8_usualOf 92 = .ok (.goto 4, 3) := by decide +kernel
theorem dX8_usualOf_95 : decode cX8_usualOf 95 = .ok (.iconst 0, 1) := by decide +kernel
theorem dX8_usualOf_96 : decode cX8_usualOf 96 = .ok (.iadd, 1) := by decide +kernel
theorem dX8_usualOf_97 : decode cX8_usualOf 97 = .ok (.istore 6, 2) := by decide +kernel
theorem dX8_usualOf_99 : decode cX8_usualOf 99 = .ok (.iinc 7 1, 3) := by decide +kernel
theorem dX8_usualOf_102 : decode cX8_usualOf 102 = .ok (.goto (-70), 3) := by decide +kernel
theorem dX8_usualOf_105 : decode cX8_usualOf 105 = .ok (.aload_n 0, 1) := by decide +kernel
theorem dX8_usualOf_106 : decode cX8_usualOf 106 = .ok (.getfield 22, 3) := by decide +kernel
theorem dX8_usualOf_109 : decode cX8_usualOf 109 = .ok (.iload_n 1, 1) := by decide +kernel
theorem dX8_usualOf_110 : decode cX8_usualOf 110 = .ok (.iaload, 1) := by decide +kernel
theorem dX8_usualOf_111 : decode cX8_usualOf 111 = .ok (.invokestatic 120, 3) := by decide +kernel
theorem dX8_usualOf_114 : decode cX8_usualOf 114 = .ok (.istore 7, 2) := by decide +kernel
theorem dX8_usualOf_116 : decode cX8_usualOf 116 = .ok (.iload 7, 2) := by decide +kernel
theorem dX8_usualOf_118 : decode cX8_usualOf 118 = .ok (.iload 5, 2) := by decide +kernel
theorem dX8_usualOf_120 : decode cX8_usualOf 120 = .ok (.if_icmp .lt 23, 3) := by decide +kernel
theorem dX8_usualOf_123 : decode cX8_usualOf 123 = .ok (.iload 7, 2) := by decide +kernel
theorem dX8_usualOf_125 : decode cX8_usualOf 125 = .ok (.iload 5, 2) := by decide +kernel
theorem dX8_usualOf_127 : decode cX8_usualOf 127 = .ok (.iload 6, 2) := by decide +kernel
theorem dX8_usualOf_129 : decode cX8_usualOf 129 = .ok (.iadd, 1) := by decide +kernel
theorem dX8_usualOf_130 : decode cX8_usualOf 130 = .ok (.if_icmp .ge 13, 3) := by decide +kernel
theorem dX8_usualOf_133 : decode cX8_usualOf 133 = .ok (.aload_n 0, 1) := by decide +kernel
theorem dX8_usualOf_134 : decode cX8_usualOf 134 = .ok (.getfield 28, 3) := by decide +kernel
theorem dX8_usualOf_137 : decode cX8_usualOf 137 = .ok (.iload 4, 2) := by decide +kernel
theorem dX8_usualOf_139 : decode cX8_usualOf 139 = .ok (.iaload, 1) := by decide +kernel
theorem dX8_usualOf_140 : decode cX8_usualOf 140 = .ok (.goto 4, 3) := by decide +kernel
theorem dX8_usualOf_143 : decode cX8_usualOf 143 = .ok (.iload_n 2, 1) := by decide +kernel
theorem dX8_usualOf_144 : decode cX8_usualOf 144 = .ok (.istore_n 2, 1) := by decide +kernel
theorem dX8_usualOf_145 : decode cX8_usualOf 145 = .ok (.iinc 4 1, 3) := by decide +kernel
theorem dX8_usualOf_148 : decode cX8_usualOf 148 = .ok (.goto (-138), 3) := by decide +kernel
theorem dX8_usualOf_151 : decode cX8_usualOf 151 = .ok (.iload_n 2, 1) := by decide +kernel
theorem dX8_usualOf_152 : decode cX8_usualOf 152 = .ok (.ireturn, 1) := by decide +kernel
theorem dX8_ruled_0 : decode cX8_ruled 0 = .ok (.aload_n 0, 1) := by decide +kernel
theorem dX8_ruled_1 : decode cX8_ruled 1 = .ok (.getfield 34, 3) := by decide +kernel
theorem dX8_ruled_4 : decode cX8_ruled 4 = .ok (.iload_n 1, 1) := by decide +kernel
theorem dX8_ruled_5 : decode cX8_ruled 5 = .ok (.iaload, 1) := by decide +kernel
theorem dX8_ruled_6 : decode cX8_ruled 6 = .ok (.ifCond .eq 13, 3) := by decide +kernel
theorem dX8_ruled_9 : decode cX8_ruled 9 = .ok (.iload_n 2, 1) := by decide +kernel
theorem dX8_ruled_10 : decode cX8_ruled 10 = .ok (.aload_n 0, 1) := by decide +kernel
theorem dX8_ruled_11 : decode cX8_ruled 11 = .ok (.getfield 31, 3) := by decide +kernel
theorem dX8_ruled_14 : decode cX8_ruled 14 = .ok (.iload_n 1, 1) := by decide +kernel
theorem dX8_ruled_15 : decode cX8_ruled 15 = .ok (.iaload, 1) := by decide +kernel
theorem dX8_ruled_16 : decode cX8_ruled 16 = .ok (.if_icmp .ge 7, 3) := by decide +kernel
theorem dX8_ruled_19 : decode cX8_ruled 19 = .ok (.iconst 0, 1) := by decide +kernel
theorem dX8_ruled_20 : decode cX8_ruled 20 = .ok (.goto 20, 3) := by decide +kernel
theorem dX8_ruled_23 : decode cX8_ruled 23 = .ok (.iload_n 2, 1) := by decide +kernel
theorem dX8_ruled_24 : decode cX8_ruled 24 = .ok (.aload_n 0, 1) := by decide +kernel
theorem dX8_ruled_25 : decode cX8_ruled 25 = .ok (.getfield 31, 3) := by decide +kernel
theorem dX8_ruled_28 : decode cX8_ruled 28 = .ok (.iload_n 1, 1) := by decide +kernel
theorem dX8_ruled_29 : decode cX8_ruled 29 = .ok (.iaload, 1) := by decide +kernel
theorem dX8_ruled_30 : decode cX8_ruled 30 = .ok (.isub, 1) := by decide +kernel
theorem dX8_ruled_31 : decode cX8_ruled 31 = .ok (.aload_n 0, 1) := by decide +kernel
theorem dX8_ruled_32 : decode cX8_ruled 32 = .ok (.getfield 34, 3) := by decide +kernel
theorem dX8_ruled_35 : decode cX8_ruled 35 = .ok (.iload_n 1, 1) := by decide +kernel
theorem dX8_ruled_36 : decode cX8_ruled 36 = .ok (.iaload, 1) := by decide +kernel
theorem dX8_ruled_37 : decode cX8_ruled 37 = .ok (.idiv, 1) := by decide +kernel
theorem dX8_ruled_38 : decode cX8_ruled 38 = .ok (.iconst 1, 1) := by decide +kernel
theorem dX8_ruled_39 : decode cX8_ruled 39 = .ok (.iadd, 1) := by decide +kernel
theorem dX8_ruled_40 : decode cX8_ruled 40 = .ok (.ireturn, 1) := by decide +kernel
theorem dX8_forecastFor_0 : decode cX8_forecastFor 0 = .ok (.aload_n 0, 1) := by decide +kernel
theorem dX8_forecastFor_1 : decode cX8_forecastFor 1 = .ok (.getfield 127, 3) := by decide +kernel
theorem dX8_forecastFor_4 : decode cX8_forecastFor 4 = .ok (.i2l, 1) := by decide +kernel
theorem dX8_forecastFor_5 : decode cX8_forecastFor 5 = .ok (.iload_n 2, 1) := by decide +kernel
theorem dX8_forecastFor_6 : decode cX8_forecastFor 6 = .ok (.aload_n 0, 1) := by decide +kernel
theorem dX8_forecastFor_7 : decode cX8_forecastFor 7 = .ok (.getfield 107, 3) := by decide +kernel
theorem dX8_forecastFor_10 : decode cX8_forecastFor 10 = .ok (.isub, 1) := by decide +kernel
theorem dX8_forecastFor_11 : decode cX8_forecastFor 11 = .ok (.i2l, 1) := by decide +kernel
theorem dX8_forecastFor_12 : decode cX8_forecastFor 12 = .ok (.lmul, 1) := by decide +kernel
theorem dX8_forecastFor_13 : decode cX8_forecastFor 13 = .ok (.lstore 4, 2) := by decide +kernel
theorem dX8_forecastFor_15 : decode cX8_forecastFor 15 = .ok (.lload 4, 2) := by decide +kernel
theorem dX8_forecastFor_17 : decode cX8_forecastFor 17 = .ok (.aload_n 0, 1) := by decide +kernel
theorem dX8_forecastFor_18 : decode cX8_forecastFor 18 = .ok (.getfield 130, 3) := by decide +kernel
theorem dX8_forecastFor_21 : decode cX8_forecastFor 21 = .ok (.i2l, 1) := by decide +kernel
theorem dX8_forecastFor_22 : decode cX8_forecastFor 22 = .ok (.ldiv, 1) := by decide +kernel
theorem dX8_forecastFor_23 : decode cX8_forecastFor 23 = .ok (.lstore 6, 2) := by decide +kernel
theorem dX8_forecastFor_25 : decode cX8_forecastFor 25 = .ok (.lload 6, 2) := by decide +kernel
theorem dX8_forecastFor_27 : decode cX8_forecastFor 27 = .ok (.lload 4, 2) := by decide +kernel
theorem dX8_forecastFor_29 : decode cX8_forecastFor 29 = .ok (.lconst 0, 1) := by decide +kernel
theorem dX8_forecastFor_30 : decode cX8_forecastFor 30 = .ok (.lcmp, 1) := by decide +kernel
theorem dX8_forecastFor_31 : decode cX8_forecastFor 31 = .ok (.ifCond .ge 20, 3) := by decide +kernel
theorem dX8_forecastFor_34 : decode cX8_forecastFor 34 = .ok (.lload 4, 2) := by decide +kernel
theorem dX8_forecastFor_36 : decode cX8_forecastFor 36 = .ok (.aload_n 0, 1) := by decide +kernel
theorem dX8_forecastFor_37 : decode cX8_forecastFor 37 = .ok (.getfield 130, 3) := by decide +kernel
theorem dX8_forecastFor_40 : decode cX8_forecastFor 40 = .ok (.i2l, 1) := by decide +kernel
theorem dX8_forecastFor_41 : decode cX8_forecastFor 41 = .ok (.lrem, 1) := by decide +kernel
theorem dX8_forecastFor_42 : decode cX8_forecastFor 42 = .ok (.lconst 0, 1) := by decide +kernel
theorem dX8_forecastFor_43 : decode cX8_forecastFor 43 = .ok (.lcmp, 1) := by decide +kernel
theorem dX8_forecastFor_44 : decode cX8_forecastFor 44 = .ok (.ifCond .eq 7, 3) := by decide +kernel
theorem dX8_forecastFor_47 : decode cX8_forecastFor 47 = .ok (.lconst 1, 1) := by decide +kernel
theorem dX8_forecastFor_48 : decode cX8_forecastFor 48 = .ok (.goto 4, 3) := by decide +kernel
theorem dX8_forecastFor_51 : decode cX8_forecastFor 51 = .ok (.lconst 0, 1) := by decide +kernel
theorem dX8_forecastFor_52 : decode cX8_forecastFor 52 = .ok (.lsub, 1) := by decide +kernel
theorem dX8_forecastFor_53 : decode cX8_forecastFor 53 = .ok (.lstore 6, 2) := by decide +kernel
theorem dX8_forecastFor_55 : decode cX8_forecastFor 55 = .ok (.aload_n 0, 1) := by decide +kernel
theorem dX8_forecastFor_56 : decode cX8_forecastFor 56 = .ok (.getfield 110, 3) := by decide +kernel
theorem dX8_forecastFor_59 : decode cX8_forecastFor 59 = .ok (.i2l, 1) := by decide +kernel
theorem dX8_forecastFor_60 : decode cX8_forecastFor 60 = .ok (.lload 6, 2) := by decide +kernel
theorem dX8_forecastFor_62 : decode cX8_forecastFor 62 = .ok (.ladd, 1) := by decide +kernel
theorem dX8_forecastFor_63 : decode cX8_forecastFor 63 = .ok (.iload_n 3, 1) := by decide +kernel
theorem dX8_forecastFor_64 : decode cX8_forecastFor 64 = .ok (.i2l, 1) := by decide +kernel
theorem dX8_forecastFor_65 : decode cX8_forecastFor 65 = .ok (.aload_n 0, 1) := by decide +kernel
theorem dX8_forecastFor_66 : decode cX8_forecastFor 66 = .ok (.iload_n 1, 1) := by decide +kernel
theorem dX8_forecastFor_67 : decode cX8_forecastFor 67 = .ok (.iload_n 2, 1) := by decide +kernel
theorem dX8_forecastFor_68 : decode cX8_forecastFor 68 = .ok (.invokevirtual 133, 3) := by decide +kernel
theorem dX8_forecastFor_71 : decode cX8_forecastFor 71 = .ok (.aload_n 0, 1) := by decide +kernel
theorem dX8_forecastFor_72 : decode cX8_forecastFor 72 = .ok (.iload_n 1, 1) := by decide +kernel
theorem dX8_forecastFor_73 : decode cX8_forecastFor 73 = .ok (.aload_n 0, 1) := by decide +kernel
theorem dX8_forecastFor_74 : decode cX8_forecastFor 74 = .ok (.getfield 107, 3) := by decide +kernel
theorem dX8_forecastFor_77 : decode cX8_forecastFor 77 = .ok (.invokevirtual 133, 3) := by decide +kernel
theorem dX8_forecastFor_80 : decode cX8_forecastFor 80 = .ok (.isub, 1) := by decide +kernel
theorem dX8_forecastFor_81 : decode cX8_forecastFor 81 = .ok (.i2l, 1) := by decide +kernel
theorem dX8_forecastFor_82 : decode cX8_forecastFor 82 = .ok (.lmul, 1) := by decide +kernel
theorem dX8_forecastFor_83 : decode cX8_forecastFor 83 = .ok (.lsub, 1) := by decide +kernel
theorem dX8_forecastFor_84 : decode cX8_forecastFor 84 = .ok (.lstore 8, 2) := by decide +kernel
theorem dX8_forecastFor_86 : decode cX8_forecastFor 86 = .ok (.lload 8, 2) := by decide +kernel
theorem dX8_forecastFor_88 : decode cX8_forecastFor 88 = .ok (.lconst 0, 1) := by decide +kernel
theorem dX8_forecastFor_89 : decode cX8_forecastFor 89 = .ok (.lcmp, 1) := by decide +kernel
theorem dX8_forecastFor_90 : decode cX8_forecastFor 90 = .ok (.ifCond .ge 7, 3) := by decide +kernel
theorem dX8_forecastFor_93 : decode cX8_forecastFor 93 = .ok (.lconst 0, 1) := by decide +kernel
theorem dX8_forecastFor_94 : decode cX8_forecastFor 94 = .ok (.goto 20, 3) := by decide +kernel
theorem dX8_forecastFor_97 : decode cX8_forecastFor 97 = .ok (.lload 8, 2) := by decide +kernel
theorem dX8_forecastFor_99 : decode cX8_forecastFor 99 = .ok (.ldc2_w 136, 3) := by decide +kernel
theorem dX8_forecastFor_102 : decode cX8_forecastFor 102 = .ok (.lcmp, 1) := by decide +kernel
theorem dX8_forecastFor_103 : decode cX8_forecastFor 103 = .ok (.ifCond .le 9, 3) := by decide +kernel
theorem dX8_forecastFor_106 : decode cX8_forecastFor 106 = .ok (.ldc2_w 136, 3) := by decide +kernel
theorem dX8_forecastFor_109 : decode cX8_forecastFor 109 = .ok (.goto 5, 3) := by decide +kernel
theorem dX8_forecastFor_112 : decode cX8_forecastFor 112 = .ok (.lload 8, 2) := by decide +kernel
theorem dX8_forecastFor_114 : decode cX8_forecastFor 114 = .ok (.lreturn, 1) := by decide +kernel
theorem dX8_fullDay_0 : decode cX8_fullDay 0 = .ok (.aload_n 0, 1) := by decide +kernel
theorem dX8_fullDay_1 : decode cX8_fullDay 1 = .ok (.iload_n 1, 1) := by decide +kernel
theorem dX8_fullDay_2 : decode cX8_fullDay 2 = .ok (.iload_n 2, 1) := by decide +kernel
theorem dX8_fullDay_3 : decode cX8_fullDay 3 = .ok (.invokevirtual 138, 3) := by decide +kernel
theorem dX8_fullDay_6 : decode cX8_fullDay 6 = .ok (.ifCond .ne 6, 3) := by decide +kernel
theorem dX8_fullDay_9 : decode cX8_fullDay 9 = .ok (.ldc 88, 2) := by decide +kernel
theorem dX8_fullDay_11 : decode cX8_fullDay 11 = .ok (.ireturn, 1) := by decide +kernel
theorem dX8_fullDay_12 : decode cX8_fullDay 12 = .ok (.aload_n 0, 1) := by decide +kernel
theorem dX8_fullDay_13 : decode cX8_fullDay 13 = .ok (.iload_n 1, 1) := by decide +kernel
theorem dX8_fullDay_14 : decode cX8_fullDay 14 = .ok (.invokevirtual 141, 3) := by decide +kernel
theorem dX8_fullDay_17 : decode cX8_fullDay 17 = .ok (.istore_n 3, 1) := by decide +kernel
theorem dX8_fullDay_18 : decode cX8_fullDay 18 = .ok (.ldc 88, 2) := by decide +kernel
theorem dX8_fullDay_20 : decode cX8_fullDay 20 = .ok (.istore 4, 2) := by decide +kernel
theorem dX8_fullDay_22 : decode cX8_fullDay 22 = .ok (.aload_n 0, 1) := by decide +kernel
theorem dX8_fullDay_23 : decode cX8_fullDay 23 = .ok (.getfield 107, 3) := by decide +kernel
theorem dX8_fullDay_26 : decode cX8_fullDay 26 = .ok (.iconst 1, 1) := by decide +kernel
theorem dX8_fullDay_27 : decode cX8_fullDay 27 = .ok (.iadd, 1) := by decide +kernel
theorem dX8_fullDay_28 : decode cX8_fullDay 28 = .ok (.istore 5, 2) := by decide +kernel
theorem dX8_fullDay_30 : decode cX8_fullDay 30 = .ok (.iload 5, 2) := by decide +kernel
theorem dX8_fullDay_32 : decode cX8_fullDay 32 = .ok (.aload_n 0, 1) := by decide +kernel
theorem dX8_fullDay_33 : decode cX8_fullDay 33 = .ok (.getfield 107, 3) := by decide +kernel
theorem dX8_fullDay_36 : decode cX8_fullDay 36 = .ok (.sipush 1000, 3) := by decide +kernel
theorem dX8_fullDay_39 : decode cX8_fullDay 39 = .ok (.iadd, 1) := by decide +kernel
theorem dX8_fullDay_40 : decode cX8_fullDay 40 = .ok (.if_icmp .gt 44, 3) := by decide +kernel
theorem dX8_fullDay_43 : decode cX8_fullDay 43 = .ok (.iload 4, 2) := by decide +kernel
theorem dX8_fullDay_45 : decode cX8_fullDay 45 = .ok (.ldc 88, 2) := by decide +kernel
theorem dX8_fullDay_47 : decode cX8_fullDay 47 = .ok (.if_icmp .ne 37, 3) := by decide +kernel
theorem dX8_fullDay_50 : decode cX8_fullDay 50 = .ok (.aload_n 0, 1) := by decide +kernel
theorem dX8_fullDay_51 : decode cX8_fullDay 51 = .ok (.iload_n 1, 1) := by decide +kernel
theorem dX8_fullDay_52 : decode cX8_fullDay 52 = .ok (.iload 5, 2) := by decide +kernel
theorem dX8_fullDay_54 : decode cX8_fullDay 54 = .ok (.iload_n 3, 1) := by decide +kernel
theorem dX8_fullDay_55 : decode cX8_fullDay 55 = .ok (.invokevirtual 144, 3) := by decide +kernel
theorem dX8_fullDay_58 : decode cX8_fullDay 58 = .ok (.aload_n 0, 1) := by decide +kernel
theorem dX8_fullDay_59 : decode cX8_fullDay 59 = .ok (.getfield 7, 3) := by decide +kernel
theorem dX8_fullDay_62 : decode cX8_fullDay 62 = .ok (.iload_n 1, 1) := by decide +kernel
theorem dX8_fullDay_63 : decode cX8_fullDay 63 = .ok (.iaload, 1) := by decide +kernel
theorem dX8_fullDay_64 : decode cX8_fullDay 64 = .ok (.i2l, 1) := by decide +kernel
theorem dX8_fullDay_65 : decode cX8_fullDay 65 = .ok (.lcmp, 1) := by decide +kernel
theorem dX8_fullDay_66 : decode cX8_fullDay 66 = .ok (.ifCond .lt 8, 3) := by decide +kernel
theorem dX8_fullDay_69 : decode cX8_fullDay 69 = .ok (.iload 5, 2) := by decide +kernel
theorem dX8_fullDay_71 : decode cX8_fullDay 71 = .ok (.goto 5, 3) := by decide +kernel
theorem dX8_fullDay_74 : decode cX8_fullDay 74 = .ok (.iload 4, 2) := by decide +kernel
theorem dX8_fullDay_76 : decode cX8_fullDay 76 = .ok (.istore 4, 2) := by decide +kernel
theorem dX8_fullDay_78 : decode cX8_fullDay 78 = .ok (.iinc 5 1, 3) := by decide +kernel
theorem dX8_fullDay_81 : decode cX8_fullDay 81 = .ok (.goto (-51), 3) := by decide +kernel
theorem dX8_fullDay_84 : decode cX8_fullDay 84 = .ok (.iload 4, 2) := by decide +kernel
theorem dX8_fullDay_86 : decode cX8_fullDay 86 = .ok (.ireturn, 1) := by decide +kernel
theorem dX8_findsBounds_0 : decode cX8_findsBounds 0 = .ok (.aload_n 0, 1) := by decide +kernel
theorem dX8_findsBounds_1 : decode cX8_findsBounds 1 = .ok (.getfield 44, 3) := by decide +kernel
theorem dX8_findsBounds_4 : decode cX8_findsBounds 4 = .ok (.iload_n 1, 1) := by decide +kernel
theorem dX8_findsBounds_5 : decode cX8_findsBounds 5 = .ok (.baload, 1) := by decide +kernel
theorem dX8_findsBounds_6 : decode cX8_findsBounds 6 = .ok (.ifCond .eq 4, 3) := by decide +kernel
theorem dX8_findsBounds_9 : decode cX8_findsBounds 9 = .ok (.return_, 1) := by decide +kernel
theorem dX8_findsBounds_10 : decode cX8_findsBounds 10 = .ok (.aload_n 0, 1) := by decide +kernel
theorem dX8_findsBounds_11 : decode cX8_findsBounds 11 = .ok (.getfield 44, 3) := by decide +kernel
theorem dX8_findsBounds_14 : decode cX8_findsBounds 14 = .ok (.iload_n 1, 1) := by decide +kernel
theorem dX8_findsBounds_15 : decode cX8_findsBounds 15 = .ok (.iconst 1, 1) := by decide +kernel
theorem dX8_findsBounds_16 : decode cX8_findsBounds 16 = .ok (.bastore, 1) := by decide +kernel
theorem dX8_findsBounds_17 : decode cX8_findsBounds 17 = .ok (.aload_n 0, 1) := by decide +kernel
theorem dX8_findsBounds_18 : decode cX8_findsBounds 18 = .ok (.getfield 47, 3) := by decide +kernel
theorem dX8_findsBounds_21 : decode cX8_findsBounds 21 = .ok (.iload_n 1, 1) := by decide +kernel
theorem dX8_findsBounds_22 : decode cX8_findsBounds 22 = .ok (.ldc 88, 2) := by decide +kernel
theorem dX8_findsBounds_24 : decode cX8_findsBounds 24 = .ok (.iastore, 1) := by decide +kernel
theorem dX8_findsBounds_25 : decode cX8_findsBounds 25 = .ok (.aload_n 0, 1) := by decide +kernel
theorem dX8_findsBounds_26 : decode cX8_findsBounds 26 = .ok (.getfield 50, 3) := by decide +kernel
theorem dX8_findsBounds_29 : decode cX8_findsBounds 29 = .ok (.iload_n 1, 1) := by decide +kernel
theorem dX8_findsBounds_30 : decode cX8_findsBounds 30 = .ok (.aload_n 0, 1) := by decide +kernel
theorem dX8_findsBounds_31 : decode cX8_findsBounds 31 = .ok (.getfield 13, 3) := by decide +kernel
theorem dX8_findsBounds_34 : decode cX8_findsBounds 34 = .ok (.iload_n 1, 1) := by decide +kernel
theorem dX8_findsBounds_35 : decode cX8_findsBounds 35 = .ok (.iaload, 1) := by decide +kernel
theorem dX8_findsBounds_36 : decode cX8_findsBounds 36 = .ok (.iconst 3, 1) := by decide +kernel
theorem dX8_findsBounds_37 : decode cX8_findsBounds 37 = .ok (.if_icmp .ge 8, 3) := by decide +kernel
theorem dX8_findsBounds_40 : decode cX8_findsBounds 40 = .ok (.ldc 88, 2) := by decide +kernel
theorem dX8_findsBounds_42 : decode cX8_findsBounds 42 = .ok (.goto 4, 3) := by decide +kernel
theorem dX8_findsBounds_45 : decode cX8_findsBounds 45 = .ok (.iconst 0, 1) := by decide +kernel
theorem dX8_findsBounds_46 : decode cX8_findsBounds 46 = .ok (.iastore, 1) := by decide +kernel
theorem dX8_findsBounds_47 : decode cX8_findsBounds 47 = .ok (.iconst (-1), 1) := by decide +kernel
theorem dX8_findsBounds_48 : decode cX8_findsBounds 48 = .ok (.istore_n 2, 1) := by decide +kernel
theorem dX8_findsBounds_49 : decode cX8_findsBounds 49 = .ok (.iload_n 2, 1) := by decide +kernel
theorem dX8_findsBounds_50 : decode cX8_findsBounds 50 = .ok (.aload_n 0, 1) := by decide +kernel
theorem dX8_findsBounds_51 : decode cX8_findsBounds 51 = .ok (.getfield 13, 3) := by decide +kernel
theorem dX8_findsBounds_54 : decode cX8_findsBounds 54 = .ok (.iload_n 1, 1) := by decide +kernel
theorem dX8_findsBounds_55 : decode cX8_findsBounds 55 = .ok (.iaload, 1) := by decide +kernel
theorem dX8_findsBounds_56 : decode cX8_findsBounds 56 = .ok (.if_icmp .ge 78, 3) := by decide +kernel
theorem dX8_findsBounds_59 : decode cX8_findsBounds 59 = .ok (.aload_n 0, 1) := by decide +kernel
theorem dX8_findsBounds_60 : decode cX8_findsBounds 60 = .ok (.getfield 13, 3) := by decide +kernel
theorem dX8_findsBounds_63 : decode cX8_findsBounds 63 = .ok (.iload_n 1, 1) := by decide +kernel
theorem dX8_findsBounds_64 : decode cX8_findsBounds 64 = .ok (.iaload, 1) := by decide +kernel
theorem dX8_findsBounds_65 : decode cX8_findsBounds 65 = .ok (.iconst 2, 1) := by decide +kernel
theorem dX8_findsBounds_66 : decode cX8_findsBounds 66 = .ok (.if_icmp .le 68, 3) := by decide +kernel
theorem dX8_findsBounds_69 : decode cX8_findsBounds 69 = .ok (.aload_n 0, 1) := by decide +kernel
theorem dX8_findsBounds_70 : decode cX8_findsBounds 70 = .ok (.iload_n 1, 1) := by decide +kernel
theorem dX8_findsBounds_71 : decode cX8_findsBounds 71 = .ok (.iload_n 2, 1) := by decide +kernel
theorem dX8_findsBounds_72 : decode cX8_findsBounds 72 = .ok (.invokevirtual 148, 3) := by decide +kernel
theorem dX8_findsBounds_75 : decode cX8_findsBounds 75 = .ok (.istore_n 3, 1) := by decide +kernel
theorem dX8_findsBounds_76 : decode cX8_findsBounds 76 = .ok (.aload_n 0, 1) := by decide +kernel
theorem dX8_findsBounds_77 : decode cX8_findsBounds 77 = .ok (.getfield 47, 3) := by decide +kernel
theorem dX8_findsBounds_80 : decode cX8_findsBounds 80 = .ok (.iload_n 1, 1) := by decide +kernel
theorem dX8_findsBounds_81 : decode cX8_findsBounds 81 = .ok (.iload_n 3, 1) := by decide +kernel
theorem dX8_findsBounds_82 : decode cX8_findsBounds 82 = .ok (.aload_n 0, 1) := by decide +kernel
theorem dX8_findsBounds_83 : decode cX8_findsBounds 83 = .ok (.getfield 47, 3) := by decide +kernel
theorem dX8_findsBounds_86 : decode cX8_findsBounds 86 = .ok (.iload_n 1, 1) := by decide +kernel
theorem dX8_findsBounds_87 : decode cX8_findsBounds 87 = .ok (.iaload, 1) := by decide +kernel
theorem dX8_findsBounds_88 : decode cX8_findsBounds 88 = .ok (.if_icmp .ge 7, 3) := by decide +kernel
theorem dX8_findsBounds_91 : decode cX8_findsBounds 91 = .ok (.iload_n 3, 1) := by decide +kernel
theorem dX8_findsBounds_92 : decode cX8_findsBounds 92 = .ok (.goto 9, 3) := by decide +kernel
theorem dX8_findsBounds_95 : decode cX8_findsBounds 95 = .ok (.aload_n 0, 1) := by decide +kernel
theorem dX8_findsBounds_96 : decode cX8_findsBounds 96 = .ok (.getfield 47, 3) := by decide +kernel
theorem dX8_findsBounds_99 : decode cX8_findsBounds 99 = .ok (.iload_n 1, 1) := by decide +kernel
theorem dX8_findsBounds_100 : decode cX8_findsBounds 100 = .ok (.iaload, 1) := by decide +kernel
theorem dX8_findsBounds_101 : decode cX8_findsBounds 101 = .ok (.iastore, 1) := by decide +kernel
theorem dX8_findsBounds_102 : decode cX8_findsBounds 102 = .ok (.aload_n 0, 1) := by decide +kernel
theorem dX8_findsBounds_103 : decode cX8_findsBounds 103 = .ok (.getfield 50, 3) := by decide +kernel
theorem dX8_findsBounds_106 : decode cX8_findsBounds 106 = .ok (.iload_n 1, 1) := by decide +kernel
theorem dX8_findsBounds_107 : decode cX8_findsBounds 107 = .ok (.iload_n 3, 1) := by decide +kernel
theorem dX8_findsBounds_108 : decode cX8_findsBounds 108 = .ok (.aload_n 0, 1) := by decide +kernel
theorem dX8_findsBounds_109 : decode cX8_findsBounds 109 = .ok (.getfield 50, 3) := by decide +kernel
theorem dX8_findsBounds_112 : decode cX8_findsBounds 112 = .ok (.iload_n 1, 1) := by decide +kernel
theorem dX8_findsBounds_113 : decode cX8_findsBounds 113 = .ok (.iaload, 1) := by decide +kernel
theorem dX8_findsBounds_114 : decode cX8_findsBounds 114 = .ok (.if_icmp .le 7, 3) := by decide +kernel
theorem dX8_findsBounds_117 : decode cX8_findsBounds 117 = .ok (.iload_n 3, 1) := by decide +kernel
theorem dX8_findsBounds_118 : decode cX8_findsBounds 118 = .ok (.goto 9, 3) := by decide +kernel
theorem dX8_findsBounds_121 : decode cX8_findsBounds 121 = .ok (.aload_n 0, 1) := by decide +kernel
theorem dX8_findsBounds_122 : decode cX8_findsBounds 122 = .ok (.getfield 50, 3) := by decide +kernel
theorem dX8_findsBounds_125 : decode cX8_findsBounds 125 = .ok (.iload_n 1, 1) := by decide +kernel
theorem dX8_findsBounds_126 : decode cX8_findsBounds 126 = .ok (.iaload, 1) := by decide +kernel
theorem dX8_findsBounds_127 : decode cX8_findsBounds 127 = .ok (.iastore, 1) := by decide +kernel
theorem dX8_findsBounds_128 : decode cX8_findsBounds 128 = .ok (.iinc 2 1, 3) := by decide +kernel
theorem dX8_findsBounds_131 : decode cX8_findsBounds 131 = .ok (.goto (-82), 3) := by decide +kernel
theorem dX8_findsBounds_134 : decode cX8_findsBounds 134 = .ok (.return_, 1) := by decide +kernel
theorem dX8_looks_0 : decode cX8_looks 0 = .ok (.aload_n 0, 1) := by decide +kernel
theorem dX8_looks_1 : decode cX8_looks 1 = .ok (.iload_n 1, 1) := by decide +kernel
theorem dX8_looks_2 : decode cX8_looks 2 = .ok (.invokevirtual 151, 3) := by decide +kernel
theorem dX8_looks_5 : decode cX8_looks 5 = .ok (.aload_n 0, 1) := by decide +kernel
theorem dX8_looks_6 : decode cX8_looks 6 = .ok (.getfield 47, 3) := by decide +kernel
theorem dX8_looks_9 : decode cX8_looks 9 = .ok (.iload_n 1, 1) := by decide +kernel
theorem dX8_looks_10 : decode cX8_looks 10 = .ok (.iaload, 1) := by decide +kernel
theorem dX8_looks_11 : decode cX8_looks 11 = .ok (.aload_n 0, 1) := by decide +kernel
theorem dX8_looks_12 : decode cX8_looks 12 = .ok (.getfield 96, 3) := by decide +kernel
theorem dX8_looks_15 : decode cX8_looks 15 = .ok (.bipush 14, 2) := by decide +kernel
theorem dX8_looks_17 : decode cX8_looks 17 = .ok (.iadd, 1) := by decide +kernel
theorem dX8_looks_18 : decode cX8_looks 18 = .ok (.if_icmp .gt 7, 3) := by decide +kernel
theorem dX8_looks_21 : decode cX8_looks 21 = .ok (.iconst 1, 1) := by decide +kernel
theorem dX8_looks_22 : decode cX8_looks 22 = .ok (.goto 4, 3) := by decide +kernel
theorem dX8_looks_25 : decode cX8_looks 25 = .ok (.iconst 0, 1) := by decide +kernel
theorem dX8_looks_26 : decode cX8_looks 26 = .ok (.istore_n 2, 1) := by decide +kernel
theorem dX8_looks_27 : decode cX8_looks 27 = .ok (.aload_n 0, 1) := by decide +kernel
theorem dX8_looks_28 : decode cX8_looks 28 = .ok (.getfield 37, 3) := by decide +kernel
theorem dX8_looks_31 : decode cX8_looks 31 = .ok (.iload_n 1, 1) := by decide +kernel
theorem dX8_looks_32 : decode cX8_looks 32 = .ok (.baload, 1) := by decide +kernel
theorem dX8_looks_33 : decode cX8_looks 33 = .ok (.istore_n 3, 1) := by decide +kernel
theorem dX8_looks_34 : decode cX8_looks 34 = .ok (.aload_n 0, 1) := by decide +kernel
theorem dX8_looks_35 : decode cX8_looks 35 = .ok (.getfield 37, 3) := by decide +kernel
theorem dX8_looks_38 : decode cX8_looks 38 = .ok (.iload_n 1, 1) := by decide +kernel
theorem dX8_looks_39 : decode cX8_looks 39 = .ok (.iload_n 3, 1) := by decide +kernel
theorem dX8_looks_40 : decode cX8_looks 40 = .ok (.ifCond .eq 27, 3) := by decide +kernel
theorem dX8_looks_43 : decode cX8_looks 43 = .ok (.aload_n 0, 1) := by decide +kernel
theorem dX8_looks_44 : decode cX8_looks 44 = .ok (.getfield 47, 3) := by decide +kernel
theorem dX8_looks_47 : decode cX8_looks 47 = .ok (.iload_n 1, 1) := by decide +kernel
theorem dX8_looks_48 : decode cX8_looks 48 = .ok (.iaload, 1) := by decide +kernel
theorem dX8_looks_49 : decode cX8_looks 49 = .ok (.aload_n 0, 1) := by decide +kernel
theorem dX8_looks_50 : decode cX8_looks 50 = .ok (.getfield 96, 3) := by decide +kernel
theorem dX8_looks_53 : decode cX8_looks 53 = .ok (.bipush 21, 2) := by decide +kernel
theorem dX8_looks_55 : decode cX8_looks 55 = .ok (.iadd, 1) := by decide +kernel
theorem dX8_looks_56 : decode cX8_looks 56 = .ok (.if_icmp .gt 7, 3) := by decide +kernel
theorem dX8_looks_59 : decode cX8_looks 59 = .ok (.iconst 1, 1) := by decide +kernel
theorem dX8_looks_60 : decode cX8_looks 60 = .ok (.goto 25, 3) := by decide +kernel
theorem dX8_looks_63 : decode cX8_looks 63 = .ok (.iconst 0, 1) := by decide +kernel
theorem dX8_looks_64 : decode cX8_looks 64 = .ok (.goto 21, 3) := by decide +kernel
theorem dX8_looks_67 : decode cX8_looks 67 = .ok (.iload_n 2, 1) := by decide +kernel
theorem dX8_looks_68 : decode cX8_looks 68 = .ok (.ifCond .eq 16, 3) := by decide +kernel
theorem dX8_looks_71 : decode cX8_looks 71 = .ok (.aload_n 0, 1) := by decide +kernel
theorem dX8_looks_72 : decode cX8_looks 72 = .ok (.getfield 41, 3) := by decide +kernel
theorem dX8_looks_75 : decode cX8_looks 75 = .ok (.iload_n 1, 1) := by decide +kernel
theorem dX8_looks_76 : decode cX8_looks 76 = .ok (.baload, 1) := by decide +kernel
theorem dX8_looks_77 : decode cX8_looks 77 = .ok (.ifCond .eq 7, 3) := by decide +kernel
theorem dX8_looks_80 : decode cX8_looks 80 = .ok (.iconst 1, 1) := by decide +kernel
theorem dX8_looks_81 : decode cX8_looks 81 = .ok (.goto 4, 3) := by decide +kernel
theorem dX8_looks_84 : decode cX8_looks 84 = .ok (.iconst 0, 1) := by decide +kernel
theorem dX8_looks_85 : decode cX8_looks 85 = .ok (.bastore, 1) := by decide +kernel
theorem dX8_looks_86 : decode cX8_looks 86 = .ok (.aload_n 0, 1) := by decide +kernel
theorem dX8_looks_87 : decode cX8_looks 87 = .ok (.getfield 41, 3) := by decide +kernel
theorem dX8_looks_90 : decode cX8_looks 90 = .ok (.iload_n 1, 1) := by decide +kernel
theorem dX8_looks_91 : decode cX8_looks 91 = .ok (.iload_n 2, 1) := by decide +kernel
theorem dX8_looks_92 : decode cX8_looks 92 = .ok (.bastore, 1) := by decide +kernel
theorem dX8_looks_93 : decode cX8_looks 93 = .ok (.aload_n 0, 1) := by decide +kernel
theorem dX8_looks_94 : decode cX8_looks 94 = .ok (.getfield 37, 3) := by decide +kernel
theorem dX8_looks_97 : decode cX8_looks 97 = .ok (.iload_n 1, 1) := by decide +kernel
theorem dX8_looks_98 : decode cX8_looks 98 = .ok (.baload, 1) := by decide +kernel
theorem dX8_looks_99 : decode cX8_looks 99 = .ok (.iload_n 3, 1) := by decide +kernel
theorem dX8_looks_100 : decode cX8_looks 100 = .ok (.if_icmp .eq 7, 3) := by decide +kernel
theorem dX8_looks_103 : decode cX8_looks 103 = .ok (.iconst 1, 1) := by decide +kernel
theorem dX8_looks_104 : decode cX8_looks 104 = .ok (.goto 4, 3) := by decide +kernel
theorem dX8_looks_107 : decode cX8_looks 107 = .ok (.iconst 0, 1) := by decide +kernel
theorem dX8_looks_108 : decode cX8_looks 108 = .ok (.ireturn, 1) := by decide +kernel
theorem dX8_pass_0 : decode cX8_pass 0 = .ok (.aload_n 0, 1) := by decide +kernel
theorem dX8_pass_1 : decode cX8_pass 1 = .ok (.iload_n 1, 1) := by decide +kernel
theorem dX8_pass_2 : decode cX8_pass 2 = .ok (.iconst 1, 1) := by decide +kernel
theorem dX8_pass_3 : decode cX8_pass 3 = .ok (.bipush 100, 2) := by decide +kernel
theorem dX8_pass_5 : decode cX8_pass 5 = .ok (.invokestatic 84, 3) := by decide +kernel
theorem dX8_pass_8 : decode cX8_pass 8 = .ok (.ifCond .ne 7, 3) := by decide +kernel
theorem dX8_pass_11 : decode cX8_pass 11 = .ok (.iconst 1, 1) := by decide +kernel
theorem dX8_pass_12 : decode cX8_pass 12 = .ok (.goto 20, 3) := by decide +kernel
theorem dX8_pass_15 : decode cX8_pass 15 = .ok (.aload_n 0, 1) := by decide +kernel
theorem dX8_pass_16 : decode cX8_pass 16 = .ok (.getfield 96, 3) := by decide +kernel
theorem dX8_pass_19 : decode cX8_pass 19 = .ok (.iload_n 1, 1) := by decide +kernel
theorem dX8_pass_20 : decode cX8_pass 20 = .ok (.iadd, 1) := by decide +kernel
theorem dX8_pass_21 : decode cX8_pass 21 = .ok (.sipush 2000, 3) := by decide +kernel
theorem dX8_pass_24 : decode cX8_pass 24 = .ok (.if_icmp .le 7, 3) := by decide +kernel
theorem dX8_pass_27 : decode cX8_pass 27 = .ok (.iconst 2, 1) := by decide +kernel
theorem dX8_pass_28 : decode cX8_pass 28 = .ok (.goto 4, 3) := by decide +kernel
theorem dX8_pass_31 : decode cX8_pass 31 = .ok (.iconst 0, 1) := by decide +kernel
theorem dX8_pass_32 : decode cX8_pass 32 = .ok (.invokevirtual 89, 3) := by decide +kernel
theorem dX8_pass_35 : decode cX8_pass 35 = .ok (.ifCond .ne 5, 3) := by decide +kernel
theorem dX8_pass_38 : decode cX8_pass 38 = .ok (.iconst 0, 1) := by decide +kernel
theorem dX8_pass_39 : decode cX8_pass 39 = .ok (.ireturn, 1) := by decide +kernel
theorem dX8_pass_40 : decode cX8_pass 40 = .ok (.iconst 0, 1) := by decide +kernel
theorem dX8_pass_41 : decode cX8_pass 41 = .ok (.istore_n 2, 1) := by decide +kernel
theorem dX8_pass_42 : decode cX8_pass 42 = .ok (.iconst 0, 1) := by decide +kernel
theorem dX8_pass_43 : decode cX8_pass 43 = .ok (.istore_n 3, 1) := by decide +kernel
theorem dX8_pass_44 : decode cX8_pass 44 = .ok (.iload_n 3, 1) := by decide +kernel
theorem dX8_pass_45 : decode cX8_pass 45 = .ok (.iload_n 1, 1) := by decide +kernel
theorem dX8_pass_46 : decode cX8_pass 46 = .ok (.if_icmp .ge 54, 3) := by decide +kernel
theorem dX8_pass_49 : decode cX8_pass 49 = .ok (.aload_n 0, 1) := by decide +kernel
theorem dX8_pass_50 : decode cX8_pass 50 = .ok (.dup, 1) := by decide +kernel
theorem dX8_pass_51 : decode cX8_pass 51 = .ok (.getfield 96, 3) := by decide +kernel
theorem dX8_pass_54 : decode cX8_pass 54 = .ok (.iconst 1, 1) := by decide +kernel
theorem dX8_pass_55 : decode cX8_pass 55 = .ok (.iadd, 1) := by decide +kernel
theorem dX8_pass_56 : decode cX8_pass 56 = .ok (.putfield 96, 3) := by decide +kernel
theorem dX8_pass_59 : decode cX8_pass 59 = .ok (.iconst 0, 1) := by decide +kernel
theorem dX8_pass_60 : decode cX8_pass 60 = .ok (.istore 4, 2) := by decide +kernel
theorem dX8_pass_62 : decode cX8_pass 62 = .ok (.iload 4, 2) := by decide +kernel
theorem dX8_pass_64 : decode cX8_pass 64 = .ok (.aload_n 0, 1) := by decide +kernel
theorem dX8_pass_65 : decode cX8_pass 65 = .ok (.getfield 81, 3) := by decide +kernel
theorem dX8_pass_68 : decode cX8_pass 68 = .ok (.if_icmp .ge 26, 3) := by decide +kernel
theorem dX8_pass_71 : decode cX8_pass 71 = .ok (.iload_n 2, 1) := by decide +kernel
theorem dX8_pass_72 : decode cX8_pass 72 = .ok (.aload_n 0, 1) := by decide +kernel
theorem dX8_pass_73 : decode cX8_pass 73 = .ok (.iload 4, 2) := by decide +kernel
theorem dX8_pass_75 : decode cX8_pass 75 = .ok (.invokevirtual 155, 3) := by decide +kernel
theorem dX8_pass_78 : decode cX8_pass 78 = .ok (.ifCond .eq 7, 3) := by decide +kernel
theorem dX8_pass_81 : decode cX8_pass 81 = .ok (.iconst 1, 1) := by decide +kernel
theorem dX8_pass_82 : decode cX8_pass 82 = .ok (.goto 4, 3) := by decide +kernel
theorem dX8_pass_85 : decode cX8_pass 85 = .ok (.iconst 0, 1) := by decide +kernel
theorem dX8_pass_86 : decode cX8_pass 86 = .ok (.iadd, 1) := by decide +kernel
theorem dX8_pass_87 : decode cX8_pass 87 = .ok (.istore_n 2, 1) := by decide +kernel
theorem dX8_pass_88 : decode cX8_pass 88 = .ok (.iinc 4 1, 3) := by decide +kernel
theorem dX8_pass_91 : decode cX8_pass 91 = .ok (.goto (-29), 3) := by decide +kernel
theorem dX8_pass_94 : decode cX8_pass 94 = .ok (.iinc 3 1, 3) := by decide +kernel
theorem dX8_pass_97 : decode cX8_pass 97 = .ok (.goto (-53), 3) := by decide +kernel
theorem dX8_pass_100 : decode cX8_pass 100 = .ok (.iload_n 2, 1) := by decide +kernel
theorem dX8_pass_101 : decode cX8_pass 101 = .ok (.ireturn, 1) := by decide +kernel
theorem dX8_today_0 : decode cX8_today 0 = .ok (.aload_n 0, 1) := by decide +kernel
theorem dX8_today_1 : decode cX8_today 1 = .ok (.iconst 0, 1) := by decide +kernel
theorem dX8_today_2 : decode cX8_today 2 = .ok (.putfield 77, 3) := by decide +kernel
theorem dX8_today_5 : decode cX8_today 5 = .ok (.aload_n 0, 1) := by decide +kernel
theorem dX8_today_6 : decode cX8_today 6 = .ok (.getfield 96, 3) := by decide +kernel
theorem dX8_today_9 : decode cX8_today 9 = .ok (.ireturn, 1) := by decide +kernel
theorem dX8_asks_0 : decode cX8_asks 0 = .ok (.aload_n 0, 1) := by decide +kernel
theorem dX8_asks_1 : decode cX8_asks 1 = .ok (.aload_n 0, 1) := by decide +kernel
theorem dX8_asks_2 : decode cX8_asks 2 = .ok (.iload_n 1, 1) := by decide +kernel
theorem dX8_asks_3 : decode cX8_asks 3 = .ok (.invokevirtual 93, 3) := by decide +kernel
theorem dX8_asks_6 : decode cX8_asks 6 = .ok (.ifCond .eq 7, 3) := by decide +kernel
theorem dX8_asks_9 : decode cX8_asks 9 = .ok (.iconst 0, 1) := by decide +kernel
theorem dX8_asks_10 : decode cX8_asks 10 = .ok (.goto 4, 3) := by decide +kernel
theorem dX8_asks_13 : decode cX8_asks 13 = .ok (.iconst 1, 1) := by decide +kernel
theorem dX8_asks_14 : decode cX8_asks 14 = .ok (.invokevirtual 89, 3) := by decide +kernel
theorem dX8_asks_17 : decode cX8_asks 17 = .ok (.ireturn, 1) := by decide +kernel
theorem dX8_samples_0 : decode cX8_samples 0 = .ok (.aload_n 0, 1) := by decide +kernel
theorem dX8_samples_1 : decode cX8_samples 1 = .ok (.iload_n 1, 1) := by decide +kernel
theorem dX8_samples_2 : decode cX8_samples 2 = .ok (.invokevirtual 158, 3) := by decide +kernel
theorem dX8_samples_5 : decode cX8_samples 5 = .ok (.ifCond .eq 12, 3) := by decide +kernel
theorem dX8_samples_8 : decode cX8_samples 8 = .ok (.aload_n 0, 1) := by decide +kernel
theorem dX8_samples_9 : decode cX8_samples 9 = .ok (.getfield 13, 3) := by decide +kernel
theorem dX8_samples_12 : decode cX8_samples 12 = .ok (.iload_n 1, 1) := by decide +kernel
theorem dX8_samples_13 : decode cX8_samples 13 = .ok (.iaload, 1) := by decide +kernel
theorem dX8_samples_14 : decode cX8_samples 14 = .ok (.goto 4, 3) := by decide +kernel
theorem dX8_samples_17 : decode cX8_samples 17 = .ok (.iconst 0, 1) := by decide +kernel
theorem dX8_samples_18 : decode cX8_samples 18 = .ok (.ireturn, 1) := by decide +kernel
theorem dX8_asksSlope_0 : decode cX8_asksSlope 0 = .ok (.aload_n 0, 1) := by decide +kernel
theorem dX8_asksSlope_1 : decode cX8_asksSlope 1 = .ok (.aload_n 0, 1) := by decide +kernel
theorem dX8_asksSlope_2 : decode cX8_asksSlope 2 = .ok (.iload_n 1, 1) := by decide +kernel
theorem dX8_asksSlope_3 : decode cX8_asksSlope 3 = .ok (.invokevirtual 93, 3) := by decide +kernel
theorem dX8_asksSlope_6 : decode cX8_asksSlope 6 = .ok (.ifCond .ne 7, 3) := by decide +kernel
theorem dX8_asksSlope_9 : decode cX8_asksSlope 9 = .ok (.iconst 1, 1) := by decide +kernel
theorem dX8_asksSlope_10 : decode cX8_asksSlope 10 = .ok (.goto 18, 3) := by decide +kernel
theorem dX8_asksSlope_13 : decode cX8_asksSlope 13 = .ok (.aload_n 0, 1) := by decide +kernel
theorem dX8_asksSlope_14 : decode cX8_asksSlope 14 = .ok (.getfield 13, 3) := by decide +kernel
theorem dX8_asksSlope_17 : decode cX8_asksSlope 17 = .ok (.iload_n 1, 1) := by decide +kernel
theorem dX8_asksSlope_18 : decode cX8_asksSlope 18 = .ok (.iaload, 1) := by decide +kernel
theorem dX8_asksSlope_19 : decode cX8_asksSlope 19 = .ok (.iconst 2, 1) := by decide +kernel
theorem dX8_asksSlope_20 : decode cX8_asksSlope 20 = .ok (.if_icmp .ge 7, 3) := by decide +kernel
theorem dX8_asksSlope_23 : decode cX8_asksSlope 23 = .ok (.iconst 2, 1) := by decide +kernel
theorem dX8_asksSlope_24 : decode cX8_asksSlope 24 = .ok (.goto 4, 3) := by decide +kernel
theorem dX8_asksSlope_27 : decode cX8_asksSlope 27 = .ok (.iconst 0, 1) := by decide +kernel
theorem dX8_asksSlope_28 : decode cX8_asksSlope 28 = .ok (.invokevirtual 89, 3) := by decide +kernel
theorem dX8_asksSlope_31 : decode cX8_asksSlope 31 = .ok (.ifCond .eq 16, 3) := by decide +kernel
theorem dX8_asksSlope_34 : decode cX8_asksSlope 34 = .ok (.aload_n 0, 1) := by decide +kernel
theorem dX8_asksSlope_35 : decode cX8_asksSlope 35 = .ok (.iload_n 1, 1) := by decide +kernel
theorem dX8_asksSlope_36 : decode cX8_asksSlope 36 = .ok (.iconst (-1), 1) := by decide +kernel
theorem dX8_asksSlope_37 : decode cX8_asksSlope 37 = .ok (.invokevirtual 138, 3) := by decide +kernel
theorem dX8_asksSlope_40 : decode cX8_asksSlope 40 = .ok (.ifCond .eq 7, 3) := by decide +kernel
theorem dX8_asksSlope_43 : decode cX8_asksSlope 43 = .ok (.iconst 1, 1) := by decide +kernel
theorem dX8_asksSlope_44 : decode cX8_asksSlope 44 = .ok (.goto 4, 3) := by decide +kernel
theorem dX8_asksSlope_47 : decode cX8_asksSlope 47 = .ok (.iconst 0, 1) := by decide +kernel
theorem dX8_asksSlope_48 : decode cX8_asksSlope 48 = .ok (.ireturn, 1) := by decide +kernel
theorem dX8_slopeNumerator_0 : decode cX8_slopeNumerator 0 = .ok (.aload_n 0, 1) := by decide +kernel
theorem dX8_slopeNumerator_1 : decode cX8_slopeNumerator 1 = .ok (.iload_n 1, 1) := by decide +kernel
theorem dX8_slopeNumerator_2 : decode cX8_slopeNumerator 2 = .ok (.invokevirtual 161, 3) := by decide +kernel
theorem dX8_slopeNumerator_5 : decode cX8_slopeNumerator 5 = .ok (.ifCond .eq 10, 3) := by decide +kernel
theorem dX8_slopeNumerator_8 : decode cX8_slopeNumerator 8 = .ok (.aload_n 0, 1) := by decide +kernel
theorem dX8_slopeNumerator_9 : decode cX8_slopeNumerator 9 = .ok (.getfield 127, 3) := by decide +kernel
theorem dX8_slopeNumerator_12 : decode cX8_slopeNumerator 12 = .ok (.goto 4, 3) := by decide +kernel
theorem dX8_slopeNumerator_15 : decode cX8_slopeNumerator 15 = .ok (.iconst 0, 1) := by decide +kernel
theorem dX8_slopeNumerator_16 : decode cX8_slopeNumerator 16 = .ok (.ireturn, 1) := by decide +kernel
theorem dX8_slopeDenominator_0 : decode cX8_slopeDenominator 0 = .ok (.aload_n 0, 1) := by decide +kernel
theorem dX8_slopeDenominator_1 : decode cX8_slopeDenominator 1 = .ok (.iload_n 1, 1) := by decide +kernel
theorem dX8_slopeDenominator_2 : decode cX8_slopeDenominator 2 = .ok (.invokevirtual 161, 3) := by decide +kernel
theorem dX8_slopeDenominator_5 : decode cX8_slopeDenominator 5 = .ok (.ifCond .eq 10, 3) := by decide +kernel
theorem dX8_slopeDenominator_8 : decode cX8_slopeDenominator 8 = .ok (.aload_n 0, 1) := by decide +kernel
theorem dX8_slopeDenominator_9 : decode cX8_slopeDenominator 9 = .ok (.getfield 130, 3) := by decide +kernel
theorem dX8_slopeDenominator_12 : decode cX8_slopeDenominator 12 = .ok (.goto 4, 3) := by decide +kernel
theorem dX8_slopeDenominator_15 : decode cX8_slopeDenominator 15 = .ok (.iconst 0, 1) := by decide +kernel
theorem dX8_slopeDenominator_16 : decode cX8_slopeDenominator 16 = .ok (.ireturn, 1) := by decide +kernel
theorem dX8_usual_0 : decode cX8_usual 0 = .ok (.aload_n 0, 1) := by decide +kernel
theorem dX8_usual_1 : decode cX8_usual 1 = .ok (.iload_n 1, 1) := by decide +kernel
theorem dX8_usual_2 : decode cX8_usual 2 = .ok (.invokevirtual 158, 3) := by decide +kernel
theorem dX8_usual_5 : decode cX8_usual 5 = .ok (.ifCond .eq 11, 3) := by decide +kernel
theorem dX8_usual_8 : decode cX8_usual 8 = .ok (.aload_n 0, 1) := by decide +kernel
theorem dX8_usual_9 : decode cX8_usual 9 = .ok (.iload_n 1, 1) := by decide +kernel
theorem dX8_usual_10 : decode cX8_usual 10 = .ok (.invokevirtual 141, 3) := by decide +kernel
theorem dX8_usual_13 : decode cX8_usual 13 = .ok (.goto 4, 3) := by decide +kernel
theorem dX8_usual_16 : decode cX8_usual 16 = .ok (.iconst 0, 1) := by decide +kernel
theorem dX8_usual_17 : decode cX8_usual 17 = .ok (.ireturn, 1) := by decide +kernel
theorem dX8_forecast_0 : decode cX8_forecast 0 = .ok (.aload_n 0, 1) := by decide +kernel
theorem dX8_forecast_1 : decode cX8_forecast 1 = .ok (.iload_n 1, 1) := by decide +kernel
theorem dX8_forecast_2 : decode cX8_forecast 2 = .ok (.invokevirtual 161, 3) := by decide +kernel
theorem dX8_forecast_5 : decode cX8_forecast 5 = .ok (.ifCond .ne 5, 3) := by decide +kernel
theorem dX8_forecast_8 : decode cX8_forecast 8 = .ok (.iconst 0, 1) := by decide +kernel
theorem dX8_forecast_9 : decode cX8_forecast 9 = .ok (.ireturn, 1) := by decide +kernel
theorem dX8_forecast_10 : decode cX8_forecast 10 = .ok (.aload_n 0, 1) := by decide +kernel
theorem dX8_forecast_11 : decode cX8_forecast 11 = .ok (.iload_n 2, 1) := by decide +kernel
theorem dX8_forecast_12 : decode cX8_forecast 12 = .ok (.aload_n 0, 1) := by decide +kernel
theorem dX8_forecast_13 : decode cX8_forecast 13 = .ok (.getfield 107, 3) := by decide +kernel
theorem dX8_forecast_16 : decode cX8_forecast 16 = .ok (.iconst 1, 1) := by decide +kernel
theorem dX8_forecast_17 : decode cX8_forecast 17 = .ok (.iadd, 1) := by decide +kernel
theorem dX8_forecast_18 : decode cX8_forecast 18 = .ok (.aload_n 0, 1) := by decide +kernel
theorem dX8_forecast_19 : decode cX8_forecast 19 = .ok (.getfield 107, 3) := by decide +kernel
theorem dX8_forecast_22 : decode cX8_forecast 22 = .ok (.sipush 1000, 3) := by decide +kernel
theorem dX8_forecast_25 : decode cX8_forecast 25 = .ok (.iadd, 1) := by decide +kernel
theorem dX8_forecast_26 : decode cX8_forecast 26 = .ok (.invokestatic 84, 3) := by decide +kernel
theorem dX8_forecast_29 : decode cX8_forecast 29 = .ok (.ifCond .eq 7, 3) := by decide +kernel
theorem dX8_forecast_32 : decode cX8_forecast 32 = .ok (.iconst 0, 1) := by decide +kernel
theorem dX8_forecast_33 : decode cX8_forecast 33 = .ok (.goto 4, 3) := by decide +kernel
theorem dX8_forecast_36 : decode cX8_forecast 36 = .ok (.iconst 3, 1) := by decide +kernel
theorem dX8_forecast_37 : decode cX8_forecast 37 = .ok (.invokevirtual 89, 3) := by decide +kernel
theorem dX8_forecast_40 : decode cX8_forecast 40 = .ok (.ifCond .eq 18, 3) := by decide +kernel
theorem dX8_forecast_43 : decode cX8_forecast 43 = .ok (.aload_n 0, 1) := by decide +kernel
theorem dX8_forecast_44 : decode cX8_forecast 44 = .ok (.iload_n 1, 1) := by decide +kernel
theorem dX8_forecast_45 : decode cX8_forecast 45 = .ok (.iload_n 2, 1) := by decide +kernel
theorem dX8_forecast_46 : decode cX8_forecast 46 = .ok (.aload_n 0, 1) := by decide +kernel
theorem dX8_forecast_47 : decode cX8_forecast 47 = .ok (.iload_n 1, 1) := by decide +kernel
theorem dX8_forecast_48 : decode cX8_forecast 48 = .ok (.invokevirtual 141, 3) := by decide +kernel
theorem dX8_forecast_51 : decode cX8_forecast 51 = .ok (.invokevirtual 144, 3) := by decide +kernel
theorem dX8_forecast_54 : decode cX8_forecast 54 = .ok (.l2i, 1) := by decide +kernel
theorem dX8_forecast_55 : decode cX8_forecast 55 = .ok (.goto 4, 3) := by decide +kernel
theorem dX8_forecast_58 : decode cX8_forecast 58 = .ok (.iconst 0, 1) := by decide +kernel
theorem dX8_forecast_59 : decode cX8_forecast 59 = .ok (.ireturn, 1) := by decide +kernel
theorem dX8_told_0 : decode cX8_told 0 = .ok (.iload_n 0, 1) := by decide +kernel
theorem dX8_told_1 : decode cX8_told 1 = .ok (.ldc 88, 2) := by decide +kernel
theorem dX8_told_3 : decode cX8_told 3 = .ok (.if_icmp .ne 7, 3) := by decide +kernel
theorem dX8_told_6 : decode cX8_told 6 = .ok (.iconst (-1), 1) := by decide +kernel
theorem dX8_told_7 : decode cX8_told 7 = .ok (.goto 4, 3) := by decide +kernel
theorem dX8_told_10 : decode cX8_told 10 = .ok (.iload_n 0, 1) := by decide +kernel
theorem dX8_told_11 : decode cX8_told 11 = .ok (.ireturn, 1) := by decide +kernel
theorem dX8_full_0 : decode cX8_full 0 = .ok (.aload_n 0, 1) := by decide +kernel
theorem dX8_full_1 : decode cX8_full 1 = .ok (.iload_n 1, 1) := by decide +kernel
theorem dX8_full_2 : decode cX8_full 2 = .ok (.invokevirtual 158, 3) := by decide +kernel
theorem dX8_full_5 : decode cX8_full 5 = .ok (.ifCond .eq 15, 3) := by decide +kernel
theorem dX8_full_8 : decode cX8_full 8 = .ok (.aload_n 0, 1) := by decide +kernel
theorem dX8_full_9 : decode cX8_full 9 = .ok (.iload_n 1, 1) := by decide +kernel
theorem dX8_full_10 : decode cX8_full 10 = .ok (.iconst (-1), 1) := by decide +kernel
theorem dX8_full_11 : decode cX8_full 11 = .ok (.invokevirtual 148, 3) := by decide +kernel
theorem dX8_full_14 : decode cX8_full 14 = .ok (.invokestatic 164, 3) := by decide +kernel
theorem dX8_full_17 : decode cX8_full 17 = .ok (.goto 4, 3) := by decide +kernel
theorem dX8_full_20 : decode cX8_full 20 = .ok (.iconst 0, 1) := by decide +kernel
theorem dX8_full_21 : decode cX8_full 21 = .ok (.ireturn, 1) := by decide +kernel
theorem dX8_early_0 : decode cX8_early 0 = .ok (.aload_n 0, 1) := by decide +kernel
theorem dX8_early_1 : decode cX8_early 1 = .ok (.iload_n 1, 1) := by decide +kernel
theorem dX8_early_2 : decode cX8_early 2 = .ok (.invokevirtual 158, 3) := by decide +kernel
theorem dX8_early_5 : decode cX8_early 5 = .ok (.ifCond .ne 5, 3) := by decide +kernel
theorem dX8_early_8 : decode cX8_early 8 = .ok (.iconst 0, 1) := by decide +kernel
theorem dX8_early_9 : decode cX8_early 9 = .ok (.ireturn, 1) := by decide +kernel
theorem dX8_early_10 : decode cX8_early 10 = .ok (.aload_n 0, 1) := by decide +kernel
theorem dX8_early_11 : decode cX8_early 11 = .ok (.iload_n 1, 1) := by decide +kernel
theorem dX8_early_12 : decode cX8_early 12 = .ok (.invokevirtual 151, 3) := by decide +kernel
theorem dX8_early_15 : decode cX8_early 15 = .ok (.aload_n 0, 1) := by decide +kernel
theorem dX8_early_16 : decode cX8_early 16 = .ok (.getfield 47, 3) := by decide +kernel
theorem dX8_early_19 : decode cX8_early 19 = .ok (.iload_n 1, 1) := by decide +kernel
theorem dX8_early_20 : decode cX8_early 20 = .ok (.iaload, 1) := by decide +kernel
theorem dX8_early_21 : decode cX8_early 21 = .ok (.invokestatic 164, 3) := by decide +kernel
theorem dX8_early_24 : decode cX8_early 24 = .ok (.ireturn, 1) := by decide +kernel
theorem dX8_late_0 : decode cX8_late 0 = .ok (.aload_n 0, 1) := by decide +kernel
theorem dX8_late_1 : decode cX8_late 1 = .ok (.iload_n 1, 1) := by decide +kernel
theorem dX8_late_2 : decode cX8_late 2 = .ok (.invokevirtual 158, 3) := by decide +kernel
theorem dX8_late_5 : decode cX8_late 5 = .ok (.ifCond .ne 5, 3) := by decide +kernel
theorem dX8_late_8 : decode cX8_late 8 = .ok (.iconst 0, 1) := by decide +kernel
theorem dX8_late_9 : decode cX8_late 9 = .ok (.ireturn, 1) := by decide +kernel
theorem dX8_late_10 : decode cX8_late 10 = .ok (.aload_n 0, 1) := by decide +kernel
theorem dX8_late_11 : decode cX8_late 11 = .ok (.iload_n 1, 1) := by decide +kernel
theorem dX8_late_12 : decode cX8_late 12 = .ok (.invokevirtual 151, 3) := by decide +kernel
theorem dX8_late_15 : decode cX8_late 15 = .ok (.aload_n 0, 1) := by decide +kernel
theorem dX8_late_16 : decode cX8_late 16 = .ok (.getfield 50, 3) := by decide +kernel
theorem dX8_late_19 : decode cX8_late 19 = .ok (.iload_n 1, 1) := by decide +kernel
theorem dX8_late_20 : decode cX8_late 20 = .ok (.iaload, 1) := by decide +kernel
theorem dX8_late_21 : decode cX8_late 21 = .ok (.invokestatic 164, 3) := by decide +kernel
theorem dX8_late_24 : decode cX8_late 24 = .ok (.ireturn, 1) := by decide +kernel
theorem dX8_warns_0 : decode cX8_warns 0 = .ok (.aload_n 0, 1) := by decide +kernel
theorem dX8_warns_1 : decode cX8_warns 1 = .ok (.iload_n 1, 1) := by decide +kernel
theorem dX8_warns_2 : decode cX8_warns 2 = .ok (.invokevirtual 158, 3) := by decide +kernel
theorem dX8_warns_5 : decode cX8_warns 5 = .ok (.ifCond .eq 16, 3) := by decide +kernel
theorem dX8_warns_8 : decode cX8_warns 8 = .ok (.aload_n 0, 1) := by decide +kernel
theorem dX8_warns_9 : decode cX8_warns 9 = .ok (.getfield 37, 3) := by decide +kernel
theorem dX8_warns_12 : decode cX8_warns 12 = .ok (.iload_n 1, 1) := by decide +kernel
theorem dX8_warns_13 : decode cX8_warns 13 = .ok (.baload, 1) := by decide +kernel
theorem dX8_warns_14 : decode cX8_warns 14 = .ok (.ifCond .eq 7, 3) := by decide +kernel
theorem dX8_warns_17 : decode cX8_warns 17 = .ok (.iconst 1, 1) := by decide +kernel
theorem dX8_warns_18 : decode cX8_warns 18 = .ok (.goto 4, 3) := by decide +kernel
theorem dX8_warns_21 : decode cX8_warns 21 = .ok (.iconst 0, 1) := by decide +kernel
theorem dX8_warns_22 : decode cX8_warns 22 = .ok (.ireturn, 1) := by decide +kernel
theorem dX8_keeps_0 : decode cX8_keeps 0 = .ok (.aload_n 0, 1) := by decide +kernel
theorem dX8_keeps_1 : decode cX8_keeps 1 = .ok (.iload_n 1, 1) := by decide +kernel
theorem dX8_keeps_2 : decode cX8_keeps 2 = .ok (.iconst (-1), 1) := by decide +kernel
theorem dX8_keeps_3 : decode cX8_keeps 3 = .ok (.invokevirtual 138, 3) := by decide +kernel
theorem dX8_keeps_6 : decode cX8_keeps 6 = .ok (.pop, 1) := by decide +kernel
theorem dX8_keeps_7 : decode cX8_keeps 7 = .ok (.aload_n 0, 1) := by decide +kernel
theorem dX8_keeps_8 : decode cX8_keeps 8 = .ok (.getfield 62, 3) := by decide +kernel
theorem dX8_keeps_11 : decode cX8_keeps 11 = .ok (.iload_n 1, 1) := by decide +kernel
theorem dX8_keeps_12 : decode cX8_keeps 12 = .ok (.aload_n 0, 1) := by decide +kernel
theorem dX8_keeps_13 : decode cX8_keeps 13 = .ok (.getfield 127, 3) := by decide +kernel
theorem dX8_keeps_16 : decode cX8_keeps 16 = .ok (.iastore, 1) := by decide +kernel
theorem dX8_keeps_17 : decode cX8_keeps 17 = .ok (.aload_n 0, 1) := by decide +kernel
theorem dX8_keeps_18 : decode cX8_keeps 18 = .ok (.getfield 65, 3) := by decide +kernel
theorem dX8_keeps_21 : decode cX8_keeps 21 = .ok (.iload_n 1, 1) := by decide +kernel
theorem dX8_keeps_22 : decode cX8_keeps 22 = .ok (.aload_n 0, 1) := by decide +kernel
theorem dX8_keeps_23 : decode cX8_keeps 23 = .ok (.getfield 130, 3) := by decide +kernel
theorem dX8_keeps_26 : decode cX8_keeps 26 = .ok (.iastore, 1) := by decide +kernel
theorem dX8_keeps_27 : decode cX8_keeps 27 = .ok (.aload_n 0, 1) := by decide +kernel
theorem dX8_keeps_28 : decode cX8_keeps 28 = .ok (.getfield 68, 3) := by decide +kernel
theorem dX8_keeps_31 : decode cX8_keeps 31 = .ok (.iload_n 1, 1) := by decide +kernel
theorem dX8_keeps_32 : decode cX8_keeps 32 = .ok (.aload_n 0, 1) := by decide +kernel
theorem dX8_keeps_33 : decode cX8_keeps 33 = .ok (.getfield 107, 3) := by decide +kernel
theorem dX8_keeps_36 : decode cX8_keeps 36 = .ok (.iastore, 1) := by decide +kernel
theorem dX8_keeps_37 : decode cX8_keeps 37 = .ok (.aload_n 0, 1) := by decide +kernel
theorem dX8_keeps_38 : decode cX8_keeps 38 = .ok (.getfield 71, 3) := by decide +kernel
theorem dX8_keeps_41 : decode cX8_keeps 41 = .ok (.iload_n 1, 1) := by decide +kernel
theorem dX8_keeps_42 : decode cX8_keeps 42 = .ok (.aload_n 0, 1) := by decide +kernel
theorem dX8_keeps_43 : decode cX8_keeps 43 = .ok (.getfield 110, 3) := by decide +kernel
theorem dX8_keeps_46 : decode cX8_keeps 46 = .ok (.iastore, 1) := by decide +kernel
theorem dX8_keeps_47 : decode cX8_keeps 47 = .ok (.aload_n 0, 1) := by decide +kernel
theorem dX8_keeps_48 : decode cX8_keeps 48 = .ok (.getfield 74, 3) := by decide +kernel
theorem dX8_keeps_51 : decode cX8_keeps 51 = .ok (.iload_n 1, 1) := by decide +kernel
theorem dX8_keeps_52 : decode cX8_keeps 52 = .ok (.aload_n 0, 1) := by decide +kernel
theorem dX8_keeps_53 : decode cX8_keeps 53 = .ok (.iload_n 1, 1) := by decide +kernel
theorem dX8_keeps_54 : decode cX8_keeps 54 = .ok (.invokevirtual 141, 3) := by decide +kernel
theorem dX8_keeps_57 : decode cX8_keeps 57 = .ok (.iastore, 1) := by decide +kernel
theorem dX8_keeps_58 : decode cX8_keeps 58 = .ok (.return_, 1) := by decide +kernel
theorem dX8_together_0 : decode cX8_together 0 = .ok (.lconst 0, 1) := by decide +kernel
theorem dX8_together_1 : decode cX8_together 1 = .ok (.lstore_n 3, 1) := by decide +kernel
theorem dX8_together_2 : decode cX8_together 2 = .ok (.iconst 0, 1) := by decide +kernel
theorem dX8_together_3 : decode cX8_together 3 = .ok (.istore 5, 2) := by decide +kernel
theorem dX8_together_5 : decode cX8_together 5 = .ok (.iload 5, 2) := by decide +kernel
theorem dX8_together_7 : decode cX8_together 7 = .ok (.aload_n 0, 1) := by decide +kernel
theorem dX8_together_8 : decode cX8_together 8 = .ok (.getfield 81, 3) := by decide +kernel
theorem dX8_together_11 : decode cX8_together 11 = .ok (.if_icmp .ge 80, 3) := by decide +kernel
theorem dX8_together_14 : decode cX8_together 14 = .ok (.iload_n 1, 1) := by decide +kernel
theorem dX8_together_15 : decode cX8_together 15 = .ok (.iload 5, 2) := by decide +kernel
theorem dX8_together_17 : decode cX8_together 17 = .ok (.ishr, 1) := by decide +kernel
theorem dX8_together_18 : decode cX8_together 18 = .ok (.iconst 1, 1) := by decide +kernel
theorem dX8_together_19 : decode cX8_together 19 = .ok (.iand, 1) := by decide +kernel
theorem dX8_together_20 : decode cX8_together 20 = .ok (.iconst 1, 1) := by decide +kernel
theorem dX8_together_21 : decode cX8_together 21 = .ok (.if_icmp .ne 64, 3) := by decide +kernel
theorem dX8_together_24 : decode cX8_together 24 = .ok (.aload_n 0, 1) := by decide +kernel
theorem dX8_together_25 : decode cX8_together 25 = .ok (.aload_n 0, 1) := by decide +kernel
theorem dX8_together_26 : decode cX8_together 26 = .ok (.getfield 62, 3) := by decide +kernel
theorem dX8_together_29 : decode cX8_together 29 = .ok (.iload 5, 2) := by decide +kernel
theorem dX8_together_31 : decode cX8_together 31 = .ok (.iaload, 1) := by decide +kernel
theorem dX8_together_32 : decode cX8_together 32 = .ok (.putfield 127, 3) := by decide +kernel
theorem dX8_together_35 : decode cX8_together 35 = .ok (.aload_n 0, 1) := by decide +kernel
theorem dX8_together_36 : decode cX8_together 36 = .ok (.aload_n 0, 1) := by decide +kernel
theorem dX8_together_37 : decode cX8_together 37 = .ok (.getfield 65, 3) := by decide +kernel
theorem dX8_together_40 : decode cX8_together 40 = .ok (.iload 5, 2) := by decide +kernel
theorem dX8_together_42 : decode cX8_together 42 = .ok (.iaload, 1) := by decide +kernel
theorem dX8_together_43 : decode cX8_together 43 = .ok (.putfield 130, 3) := by decide +kernel
theorem dX8_together_46 : decode cX8_together 46 = .ok (.aload_n 0, 1) := by decide +kernel
theorem dX8_together_47 : decode cX8_together 47 = .ok (.aload_n 0, 1) := by decide +kernel
theorem dX8_together_48 : decode cX8_together 48 = .ok (.getfield 68, 3) := by decide +kernel
theorem dX8_together_51 : decode cX8_together 51 = .ok (.iload 5, 2) := by decide +kernel
theorem dX8_together_53 : decode cX8_together 53 = .ok (.iaload, 1) := by decide +kernel
theorem dX8_together_54 : decode cX8_together 54 = .ok (.putfield 107, 3) := by decide +kernel
theorem dX8_together_57 : decode cX8_together 57 = .ok (.aload_n 0, 1) := by decide +kernel
theorem dX8_together_58 : decode cX8_together 58 = .ok (.aload_n 0, 1) := by decide +kernel
theorem dX8_together_59 : decode cX8_together 59 = .ok (.getfield 71, 3) := by decide +kernel
theorem dX8_together_62 : decode cX8_together 62 = .ok (.iload 5, 2) := by decide +kernel
theorem dX8_together_64 : decode cX8_together 64 = .ok (.iaload, 1) := by decide +kernel
theorem dX8_together_65 : decode cX8_together 65 = .ok (.putfield 110, 3) := by decide +kernel
theorem dX8_together_68 : decode cX8_together 68 = .ok (.lload_n 3, 1) := by decide +kernel
theorem dX8_together_69 : decode cX8_together 69 = .ok (.aload_n 0, 1) := by decide +kernel
theorem dX8_together_70 : decode cX8_together 70 = .ok (.iload 5, 2) := by decide +kernel
theorem dX8_together_72 : decode cX8_together 72 = .ok (.iload_n 2, 1) := by decide +kernel
theorem dX8_together_73 : decode cX8_together 73 = .ok (.aload_n 0, 1) := by decide +kernel
theorem dX8_together_74 : decode cX8_together 74 = .ok (.getfield 74, 3) := by decide +kernel
theorem dX8_together_77 : decode cX8_together 77 = .ok (.iload 5, 2) := by decide +kernel
theorem dX8_together_79 : decode cX8_together 79 = .ok (.iaload, 1) := by decide +kernel
theorem dX8_together_80 : decode cX8_together 80 = .ok (.invokevirtual 144, 3) := by decide +kernel
theorem dX8_together_83 : decode cX8_together 83 = .ok (.ladd, 1) := by decide +kernel
theorem dX8_together_84 : decode cX8_together 84 = .ok (.lstore_n 3, 1) := by decide +kernel
theorem dX8_together_85 : decode cX8_together 85 = .ok (.iinc 5 1, 3) := by decide +kernel
theorem dX8_together_88 : decode cX8_together 88 = .ok (.goto (-83), 3) := by decide +kernel
theorem dX8_together_91 : decode cX8_together 91 = .ok (.lload_n 3, 1) := by decide +kernel
theorem dX8_together_92 : decode cX8_together 92 = .ok (.lreturn, 1) := by decide +kernel
theorem dX8_poolFull_0 : decode cX8_poolFull 0 = .ok (.aload_n 0, 1) := by decide +kernel
theorem dX8_poolFull_1 : decode cX8_poolFull 1 = .ok (.iload_n 1, 1) := by decide +kernel
theorem dX8_poolFull_2 : decode cX8_poolFull 2 = .ok (.ifCond .le 16, 3) := by decide +kernel
theorem dX8_poolFull_5 : decode cX8_poolFull 5 = .ok (.iload_n 1, 1) := by decide +kernel
theorem dX8_poolFull_6 : decode cX8_poolFull 6 = .ok (.aload_n 0, 1) := by decide +kernel
theorem dX8_poolFull_7 : decode cX8_poolFull 7 = .ok (.getfield 81, 3) := by decide +kernel
theorem dX8_poolFull_10 : decode cX8_poolFull 10 = .ok (.ishr, 1) := by decide +kernel
theorem dX8_poolFull_11 : decode cX8_poolFull 11 = .ok (.ifCond .ne 7, 3) := by decide +kernel
theorem dX8_poolFull_14 : decode cX8_poolFull 14 = .ok (.iconst 0, 1) := by decide +kernel
theorem dX8_poolFull_15 : decode cX8_poolFull 15 = .ok (.goto 4, 3) := by decide +kernel
theorem dX8_poolFull_18 : decode cX8_poolFull 18 = .ok (.iconst 1, 1) := by decide +kernel
theorem dX8_poolFull_19 : decode cX8_poolFull 19 = .ok (.invokevirtual 89, 3) := by decide +kernel
theorem dX8_poolFull_22 : decode cX8_poolFull 22 = .ok (.ifCond .ne 5, 3) := by decide +kernel
theorem dX8_poolFull_25 : decode cX8_poolFull 25 = .ok (.iconst 0, 1) := by decide +kernel
theorem dX8_poolFull_26 : decode cX8_poolFull 26 = .ok (.ireturn, 1) := by decide +kernel
theorem dX8_poolFull_27 : decode cX8_poolFull 27 = .ok (.lconst 0, 1) := by decide +kernel
theorem dX8_poolFull_28 : decode cX8_poolFull 28 = .ok (.lstore_n 2, 1) := by decide +kernel
theorem dX8_poolFull_29 : decode cX8_poolFull 29 = .ok (.iconst 1, 1) := by decide +kernel
theorem dX8_poolFull_30 : decode cX8_poolFull 30 = .ok (.istore 4, 2) := by decide +kernel
theorem dX8_poolFull_32 : decode cX8_poolFull 32 = .ok (.iconst 0, 1) := by decide +kernel
theorem dX8_poolFull_33 : decode cX8_poolFull 33 = .ok (.istore 5, 2) := by decide +kernel
theorem dX8_poolFull_35 : decode cX8_poolFull 35 = .ok (.iload 5, 2) := by decide +kernel
theorem dX8_poolFull_37 : decode cX8_poolFull 37 = .ok (.aload_n 0, 1) := by decide +kernel
theorem dX8_poolFull_38 : decode cX8_poolFull 38 = .ok (.getfield 81, 3) := by decide +kernel
theorem dX8_poolFull_41 : decode cX8_poolFull 41 = .ok (.if_icmp .ge 80, 3) := by decide +kernel
theorem dX8_poolFull_44 : decode cX8_poolFull 44 = .ok (.iload_n 1, 1) := by decide +kernel
theorem dX8_poolFull_45 : decode cX8_poolFull 45 = .ok (.iload 5, 2) := by decide +kernel
theorem dX8_poolFull_47 : decode cX8_poolFull 47 = .ok (.ishr, 1) := by decide +kernel
theorem dX8_poolFull_48 : decode cX8_poolFull 48 = .ok (.iconst 1, 1) := by decide +kernel
theorem dX8_poolFull_49 : decode cX8_poolFull 49 = .ok (.iand, 1) := by decide +kernel
theorem dX8_poolFull_50 : decode cX8_poolFull 50 = .ok (.iconst 1, 1) := by decide +kernel
theorem dX8_poolFull_51 : decode cX8_poolFull 51 = .ok (.if_icmp .ne 7, 3) := by decide +kernel
theorem dX8_poolFull_54 : decode cX8_poolFull 54 = .ok (.iconst 1, 1) := by decide +kernel
theorem dX8_poolFull_55 : decode cX8_poolFull 55 = .ok (.goto 4, 3) := by decide +kernel
theorem dX8_poolFull_58 : decode cX8_poolFull 58 = .ok (.iconst 0, 1) := by decide +kernel
theorem dX8_poolFull_59 : decode cX8_poolFull 59 = .ok (.istore 6, 2) := by decide +kernel
theorem dX8_poolFull_61 : decode cX8_poolFull 61 = .ok (.iload 4, 2) := by decide +kernel
theorem dX8_poolFull_63 : decode cX8_poolFull 63 = .ok (.ifCond .eq 23, 3) := by decide +kernel
theorem dX8_poolFull_66 : decode cX8_poolFull 66 = .ok (.iload 6, 2) := by decide +kernel
theorem dX8_poolFull_68 : decode cX8_poolFull 68 = .ok (.ifCond .eq 14, 3) := by decide +kernel
theorem dX8_poolFull_71 : decode cX8_poolFull 71 = .ok (.aload_n 0, 1) := by decide +kernel
theorem dX8_poolFull_72 : decode cX8_poolFull 72 = .ok (.getfield 13, 3) := by decide +kernel
theorem dX8_poolFull_75 : decode cX8_poolFull 75 = .ok (.iload 5, 2) := by decide +kernel
theorem dX8_poolFull_77 : decode cX8_poolFull 77 = .ok (.iaload, 1) := by decide +kernel
theorem dX8_poolFull_78 : decode cX8_poolFull 78 = .ok (.iconst 1, 1) := by decide +kernel
theorem dX8_poolFull_79 : decode cX8_poolFull 79 = .ok (.if_icmp .le 7, 3) := by decide +kernel
theorem dX8_poolFull_82 : decode cX8_poolFull 82 = .ok (.iconst 1, 1) := by decide +kernel
theorem dX8_poolFull_83 : decode cX8_poolFull 83 = .ok (.goto 4, 3) := by decide +kernel
theorem dX8_poolFull_86 : decode cX8_poolFull 86 = .ok (.iconst 0, 1) := by decide +kernel
theorem dX8_poolFull_87 : decode cX8_poolFull 87 = .ok (.istore 4, 2) := by decide +kernel
theorem dX8_poolFull_89 : decode cX8_poolFull 89 = .ok (.lload_n 2, 1) := by decide +kernel
theorem dX8_poolFull_90 : decode cX8_poolFull 90 = .ok (.iload 6, 2) := by decide +kernel
theorem dX8_poolFull_92 : decode cX8_poolFull 92 = .ok (.ifCond .eq 14, 3) := by decide +kernel
theorem dX8_poolFull_95 : decode cX8_poolFull 95 = .ok (.aload_n 0, 1) := by decide +kernel
theorem dX8_poolFull_96 : decode cX8_poolFull 96 = .ok (.getfield 7, 3) := by decide +kernel
theorem dX8_poolFull_99 : decode cX8_poolFull 99 = .ok (.iload 5, 2) := by decide +kernel
theorem dX8_poolFull_101 : decode cX8_poolFull 101 = .ok (.iaload, 1) := by decide +kernel
theorem dX8_poolFull_102 : decode cX8_poolFull 102 = .ok (.i2l, 1) := by decide +kernel
theorem dX8_poolFull_103 : decode cX8_poolFull 103 = .ok (.goto 4, 3) := by decide +kernel
theorem dX8_poolFull_106 : decode cX8_poolFull 106 = .ok (.lconst 0, 1) := by decide +kernel
theorem dX8_poolFull_107 : decode cX8_poolFull 107 = .ok (.ladd, 1) := by decide +kernel
theorem dX8_poolFull_108 : decode cX8_poolFull 108 = .ok (.lstore_n 2, 1) := by decide +kernel
theorem dX8_poolFull_109 : decode cX8_poolFull 109 = .ok (.aload_n 0, 1) := by decide +kernel
theorem dX8_poolFull_110 : decode cX8_poolFull 110 = .ok (.iload 5, 2) := by decide +kernel
theorem dX8_poolFull_112 : decode cX8_poolFull 112 = .ok (.invokevirtual 167, 3) := by decide +kernel
theorem dX8_poolFull_115 : decode cX8_poolFull 115 = .ok (.iinc 5 1, 3) := by decide +kernel
theorem dX8_poolFull_118 : decode cX8_poolFull 118 = .ok (.goto (-83), 3) := by decide +kernel
theorem dX8_poolFull_121 : decode cX8_poolFull 121 = .ok (.iconst (-1), 1) := by decide +kernel
theorem dX8_poolFull_122 : decode cX8_poolFull 122 = .ok (.istore 5, 2) := by decide +kernel
theorem dX8_poolFull_124 : decode cX8_poolFull 124 = .ok (.aload_n 0, 1) := by decide +kernel
theorem dX8_poolFull_125 : decode cX8_poolFull 125 = .ok (.getfield 96, 3) := by decide +kernel
theorem dX8_poolFull_128 : decode cX8_poolFull 128 = .ok (.iconst 1, 1) := by decide +kernel
theorem dX8_poolFull_129 : decode cX8_poolFull 129 = .ok (.iadd, 1) := by decide +kernel
theorem dX8_poolFull_130 : decode cX8_poolFull 130 = .ok (.istore 6, 2) := by decide +kernel
theorem dX8_poolFull_132 : decode cX8_poolFull 132 = .ok (.iload 6, 2) := by decide +kernel
theorem dX8_poolFull_134 : decode cX8_poolFull 134 = .ok (.aload_n 0, 1) := by decide +kernel
theorem dX8_poolFull_135 : decode cX8_poolFull 135 = .ok (.getfield 96, 3) := by decide +kernel
theorem dX8_poolFull_138 : decode cX8_poolFull 138 = .ok (.sipush 1000, 3) := by decide +kernel
theorem dX8_poolFull_141 : decode cX8_poolFull 141 = .ok (.iadd, 1) := by decide +kernel
theorem dX8_poolFull_142 : decode cX8_poolFull 142 = .ok (.if_icmp .gt 40, 3) := by decide +kernel
theorem dX8_poolFull_145 : decode cX8_poolFull 145 = .ok (.iload 4, 2) := by decide +kernel
theorem dX8_poolFull_147 : decode cX8_poolFull 147 = .ok (.ifCond .eq 35, 3) := by decide +kernel
theorem dX8_poolFull_150 : decode cX8_poolFull 150 = .ok (.iload 5, 2) := by decide +kernel
theorem dX8_poolFull_152 : decode cX8_poolFull 152 = .ok (.iconst (-1), 1) := by decide +kernel
theorem dX8_poolFull_153 : decode cX8_poolFull 153 = .ok (.if_icmp .ne 29, 3) := by decide +kernel
theorem dX8_poolFull_156 : decode cX8_poolFull 156 = .ok (.aload_n 0, 1) := by decide +kernel
theorem dX8_poolFull_157 : decode cX8_poolFull 157 = .ok (.iload_n 1, 1) := by decide +kernel
theorem dX8_poolFull_158 : decode cX8_poolFull 158 = .ok (.iload 6, 2) := by decide +kernel
theorem dX8_poolFull_160 : decode cX8_poolFull 160 = .ok (.invokevirtual 170, 3) := by decide +kernel
theorem dX8_poolFull_163 : decode cX8_poolFull 163 = .ok (.lload_n 2, 1) := by decide +kernel
theorem dX8_poolFull_164 : decode cX8_poolFull 164 = .ok (.lcmp, 1) := by decide +kernel
theorem dX8_poolFull_165 : decode cX8_poolFull 165 = .ok (.ifCond .lt 8, 3) := by decide +kernel
theorem dX8_poolFull_168 : decode cX8_poolFull 168 = .ok (.iload 6, 2) := by decide +kernel
theorem dX8_poolFull_170 : decode cX8_poolFull 170 = .ok (.goto 4, 3) := by decide +kernel
theorem dX8_poolFull_173 : decode cX8_poolFull 173 = .ok (.iconst (-1), 1) := by decide +kernel
theorem dX8_poolFull_174 : decode cX8_poolFull 174 = .ok (.istore 5, 2) := by decide +kernel
theorem dX8_poolFull_176 : decode cX8_poolFull 176 = .ok (.iinc 6 1, 3) := by decide +kernel
theorem dX8_poolFull_179 : decode cX8_poolFull 179 = .ok (.goto (-47), 3) := by decide +kernel
theorem dX8_poolFull_182 : decode cX8_poolFull 182 = .ok (.iload 5, 2) := by decide +kernel
theorem dX8_poolFull_184 : decode cX8_poolFull 184 = .ok (.ireturn, 1) := by decide +kernel
theorem dJ9_floorDiv_f86c9_0 : decode cJ9_floorDiv_f86c9 0 = .ok (.lload_n 0, 1) := by decide +kernel
theorem dJ9_floorDiv_f86c9_1 : decode cJ9_floorDiv_f86c9 1 = .ok (.lload_n 2, 1) := by decide +kernel
theorem dJ9_floorDiv_f86c9_2 : decode cJ9_floorDiv_f86c9 2 = .ok (.ldiv, 1) := by decide +kernel
theorem dJ9_floorDiv_f86c9_3 : decode cJ9_floorDiv_f86c9 3 = .ok (.lstore 4, 2) := by decide +kernel
theorem dJ9_floorDiv_f86c9_5 : decode cJ9_floorDiv_f86c9 5 = .ok (.lload_n 0, 1) := by decide +kernel
theorem dJ9_floorDiv_f86c9_6 : decode cJ9_floorDiv_f86c9 6 = .ok (.lload_n 2, 1) := by decide +kernel
theorem dJ9_floorDiv_f86c9_7 : decode cJ9_floorDiv_f86c9 7 = .ok (.lxor, 1) := by decide +kernel
theorem dJ9_floorDiv_f86c9_8 : decode cJ9_floorDiv_f86c9 8 = .ok (.lconst 0, 1) := by decide +kernel
theorem dJ9_floorDiv_f86c9_9 : decode cJ9_floorDiv_f86c9 9 = .ok (.lcmp, 1) := by decide +kernel
theorem dJ9_floorDiv_f86c9_10 : decode cJ9_floorDiv_f86c9 10 = .ok (.ifCond .ge 17, 3) := by decide +kernel
theorem dJ9_floorDiv_f86c9_13 : decode cJ9_floorDiv_f86c9 13 = .ok (.lload 4, 2) := by decide +kernel
theorem dJ9_floorDiv_f86c9_15 : decode cJ9_floorDiv_f86c9 15 = .ok (.lload_n 2, 1) := by decide +kernel
theorem dJ9_floorDiv_f86c9_16 : decode cJ9_floorDiv_f86c9 16 = .ok (.lmul, 1) := by decide +kernel
theorem dJ9_floorDiv_f86c9_17 : decode cJ9_floorDiv_f86c9 17 = .ok (.lload_n 0, 1) := by decide +kernel
theorem dJ9_floorDiv_f86c9_18 : decode cJ9_floorDiv_f86c9 18 = .ok (.lcmp, 1) := by decide +kernel
theorem dJ9_floorDiv_f86c9_19 : decode cJ9_floorDiv_f86c9 19 = .ok (.ifCond .eq 8, 3) := by decide +kernel
theorem dJ9_floorDiv_f86c9_22 : decode cJ9_floorDiv_f86c9 22 = .ok (.lload 4, 2) := by decide +kernel
theorem dJ9_floorDiv_f86c9_24 : decode cJ9_floorDiv_f86c9 24 = .ok (.lconst 1, 1) := by decide +kernel
theorem dJ9_floorDiv_f86c9_25 : decode cJ9_floorDiv_f86c9 25 = .ok (.lsub, 1) := by decide +kernel
theorem dJ9_floorDiv_f86c9_26 : decode cJ9_floorDiv_f86c9 26 = .ok (.lreturn, 1) := by decide +kernel
theorem dJ9_floorDiv_f86c9_27 : decode cJ9_floorDiv_f86c9 27 = .ok (.lload 4, 2) := by decide +kernel
theorem dJ9_floorDiv_f86c9_29 : decode cJ9_floorDiv_f86c9 29 = .ok (.lreturn, 1) := by decide +kernel
theorem dJ9_abs_0f7a4_0 : decode cJ9_abs_0f7a4 0 = .ok (.iload_n 0, 1) := by decide +kernel
theorem dJ9_abs_0f7a4_1 : decode cJ9_abs_0f7a4 1 = .ok (.ifCond .ge 8, 3) := by decide +kernel
theorem dJ9_abs_0f7a4_4 : decode cJ9_abs_0f7a4 4 = .ok (.iload_n 0, 1) := by decide +kernel
theorem dJ9_abs_0f7a4_5 : decode cJ9_abs_0f7a4 5 = .ok (.ineg, 1) := by decide +kernel
theorem dJ9_abs_0f7a4_6 : decode cJ9_abs_0f7a4 6 = .ok (.goto 4, 3) := by decide +kernel
theorem dJ9_abs_0f7a4_9 : decode cJ9_abs_0f7a4 9 = .ok (.iload_n 0, 1) := by decide +kernel
theorem dJ9_abs_0f7a4_10 : decode cJ9_abs_0f7a4 10 = .ok (.ireturn, 1) := by decide +kernel
theorem dJ9_max_7cf53_0 : decode cJ9_max_7cf53 0 = .ok (.iload_n 0, 1) := by decide +kernel
theorem dJ9_max_7cf53_1 : decode cJ9_max_7cf53 1 = .ok (.iload_n 1, 1) := by decide +kernel
theorem dJ9_max_7cf53_2 : decode cJ9_max_7cf53 2 = .ok (.if_icmp .lt 7, 3) := by decide +kernel
theorem dJ9_max_7cf53_5 : decode cJ9_max_7cf53 5 = .ok (.iload_n 0, 1) := by decide +kernel
theorem dJ9_max_7cf53_6 : decode cJ9_max_7cf53 6 = .ok (.goto 4, 3) := by decide +kernel
theorem dJ9_max_7cf53_9 : decode cJ9_max_7cf53 9 = .ok (.iload_n 1, 1) := by decide +kernel
theorem dJ9_max_7cf53_10 : decode cJ9_max_7cf53 10 = .ok (.ireturn, 1) := by decide +kernel
theorem dJ9_max_f86c9_0 : decode cJ9_max_f86c9 0 = .ok (.lload_n 0, 1) := by decide +kernel
theorem dJ9_max_f86c9_1 : decode cJ9_max_f86c9 1 = .ok (.lload_n 2, 1) := by decide +kernel
theorem dJ9_max_f86c9_2 : decode cJ9_max_f86c9 2 = .ok (.lcmp, 1) := by decide +kernel
theorem dJ9_max_f86c9_3 : decode cJ9_max_f86c9 3 = .ok (.ifCond .lt 7, 3) := by decide +kernel
theorem dJ9_max_f86c9_6 : decode cJ9_max_f86c9 6 = .ok (.lload_n 0, 1) := by decide +kernel
theorem dJ9_max_f86c9_7 : decode cJ9_max_f86c9 7 = .ok (.goto 4, 3) := by decide +kernel
theorem dJ9_max_f86c9_10 : decode cJ9_max_f86c9 10 = .ok (.lload_n 2, 1) := by decide +kernel
theorem dJ9_max_f86c9_11 : decode cJ9_max_f86c9 11 = .ok (.lreturn, 1) := by decide +kernel
theorem dJ9_min_7cf53_0 : decode cJ9_min_7cf53 0 = .ok (.iload_n 0, 1) := by decide +kernel
theorem dJ9_min_7cf53_1 : decode cJ9_min_7cf53 1 = .ok (.iload_n 1, 1) := by decide +kernel
theorem dJ9_min_7cf53_2 : decode cJ9_min_7cf53 2 = .ok (.if_icmp .gt 7, 3) := by decide +kernel
theorem dJ9_min_7cf53_5 : decode cJ9_min_7cf53 5 = .ok (.iload_n 0, 1) := by decide +kernel
theorem dJ9_min_7cf53_6 : decode cJ9_min_7cf53 6 = .ok (.goto 4, 3) := by decide +kernel
theorem dJ9_min_7cf53_9 : decode cJ9_min_7cf53 9 = .ok (.iload_n 1, 1) := by decide +kernel
theorem dJ9_min_7cf53_10 : decode cJ9_min_7cf53 10 = .ok (.ireturn, 1) := by decide +kernel
theorem dJ9_min_f86c9_0 : decode cJ9_min_f86c9 0 = .ok (.lload_n 0, 1) := by decide +kernel
theorem dJ9_min_f86c9_1 : decode cJ9_min_f86c9 1 = .ok (.lload_n 2, 1) := by decide +kernel
theorem dJ9_min_f86c9_2 : decode cJ9_min_f86c9 2 = .ok (.lcmp, 1) := by decide +kernel
theorem dJ9_min_f86c9_3 : decode cJ9_min_f86c9 3 = .ok (.ifCond .gt 7, 3) := by decide +kernel
theorem dJ9_min_f86c9_6 : decode cJ9_min_f86c9 6 = .ok (.lload_n 0, 1) := by decide +kernel
theorem dJ9_min_f86c9_7 : decode cJ9_min_f86c9 7 = .ok (.goto 4, 3) := by decide +kernel
theorem dJ9_min_f86c9_10 : decode cJ9_min_f86c9 10 = .ok (.lload_n 2, 1) := by decide +kernel
theorem dJ9_min_f86c9_11 : decode cJ9_min_f86c9 11 = .ok (.lreturn, 1) := by decide +kernel
theorem dJxa1e45_init_da8c8_0 : decode cJxa1e45_init_da8c8 0 = .ok (.aload_n 0, 1) := by decide +kernel
theorem dJxa1e45_init_da8c8_1 : decode cJxa1e45_init_da8c8 1 = .ok (.invokespecial 1, 3) := by decide +kernel
theorem dJxa1e45_init_da8c8_4 : decode cJxa1e45_init_da8c8 4 = .ok (.return_, 1) := by decide +kernel
theorem dJxc12de_init_da8c8_0 : decode cJxc12de_init_da8c8 0 = .ok (.aload_n 0, 1) := by decide +kernel
theorem dJxc12de_init_da8c8_1 : decode cJxc12de_init_da8c8 1 = .ok (.invokespecial 1, 3) := by decide +kernel
theorem dJxc12de_init_da8c8_4 : decode cJxc12de_init_da8c8 4 = .ok (.aload_n 0, 1) := by decide +kernel
theorem dJxc12de_init_da8c8_5 : decode cJxc12de_init_da8c8 5 = .ok (.iconst 0, 1) := by decide +kernel
theorem dJxc12de_init_da8c8_6 : decode cJxc12de_init_da8c8 6 = .ok (.putfield 7, 3) := by decide +kernel
theorem dJxc12de_init_da8c8_9 : decode cJxc12de_init_da8c8 9 = .ok (.return_, 1) := by decide +kernel
theorem dJx4a65c_init_da8c8_0 : decode cJx4a65c_init_da8c8 0 = .ok (.aload_n 0, 1) := by decide +kernel
theorem dJx4a65c_init_da8c8_1 : decode cJx4a65c_init_da8c8 1 = .ok (.invokespecial 1, 3) := by decide +kernel
theorem dJx4a65c_init_da8c8_4 : decode cJx4a65c_init_da8c8 4 = .ok (.aload_n 0, 1) := by decide +kernel
theorem dJx4a65c_init_da8c8_5 : decode cJx4a65c_init_da8c8 5 = .ok (.getstatic 39, 3) := by decide +kernel
theorem dJx4a65c_init_da8c8_8 : decode cJx4a65c_init_da8c8 8 = .ok (.putfield 9, 3) := by decide +kernel
theorem dJx4a65c_init_da8c8_11 : decode cJx4a65c_init_da8c8 11 = .ok (.return_, 1) := by decide +kernel
theorem dJx4a65c_grow_92f84_0 : decode cJx4a65c_grow_92f84 0 = .ok (.aload_n 0, 1) := by decide +kernel
theorem dJx4a65c_grow_92f84_1 : decode cJx4a65c_grow_92f84 1 = .ok (.getfield 9, 3) := by decide +kernel
theorem dJx4a65c_grow_92f84_4 : decode cJx4a65c_grow_92f84 4 = .ok (.arraylength, 1) := by decide +kernel
theorem dJx4a65c_grow_92f84_5 : decode cJx4a65c_grow_92f84 5 = .ok (.istore_n 2, 1) := by decide +kernel
theorem dJx4a65c_grow_92f84_6 : decode cJx4a65c_grow_92f84 6 = .ok (.iload_n 2, 1) := by decide +kernel
theorem dJx4a65c_grow_92f84_7 : decode cJx4a65c_grow_92f84 7 = .ok (.ifCond .gt 13, 3) := by decide +kernel
theorem dJx4a65c_grow_92f84_10 : decode cJx4a65c_grow_92f84 10 = .ok (.aload_n 0, 1) := by decide +kernel
theorem dJx4a65c_grow_92f84_11 : decode cJx4a65c_grow_92f84 11 = .ok (.getfield 9, 3) := by decide +kernel
theorem dJx4a65c_grow_92f84_14 : decode cJx4a65c_grow_92f84 14 = .ok (.getstatic 39, 3) := by decide +kernel
theorem dJx4a65c_grow_92f84_17 : decode cJx4a65c_grow_92f84 17 = .ok (.if_acmp .eq 28, 3) := by decide +kernel
theorem dJx4a65c_grow_92f84_20 : decode cJx4a65c_grow_92f84 20 = .ok (.iload_n 2, 1) := by decide +kernel
theorem dJx4a65c_grow_92f84_21 : decode cJx4a65c_grow_92f84 21 = .ok (.iload_n 1, 1) := by decide +kernel
theorem dJx4a65c_grow_92f84_22 : decode cJx4a65c_grow_92f84 22 = .ok (.iload_n 2, 1) := by decide +kernel
theorem dJx4a65c_grow_92f84_23 : decode cJx4a65c_grow_92f84 23 = .ok (.isub, 1) := by decide +kernel
theorem dJx4a65c_grow_92f84_24 : decode cJx4a65c_grow_92f84 24 = .ok (.iload_n 2, 1) := by decide +kernel
theorem dJx4a65c_grow_92f84_25 : decode cJx4a65c_grow_92f84 25 = .ok (.iconst 1, 1) := by decide +kernel
theorem dJx4a65c_grow_92f84_26 : decode cJx4a65c_grow_92f84 26 = .ok (.ishr, 1) := by decide +kernel
theorem dJx4a65c_grow_92f84_27 : decode cJx4a65c_grow_92f84 27 = .ok (.invokestatic 73, 3) := by decide +kernel
theorem dJx4a65c_grow_92f84_30 : decode cJx4a65c_grow_92f84 30 = .ok (.istore_n 3, 1) := by decide +kernel
theorem dJx4a65c_grow_92f84_31 : decode cJx4a65c_grow_92f84 31 = .ok (.aload_n 0, 1) := by decide +kernel
theorem dJx4a65c_grow_92f84_32 : decode cJx4a65c_grow_92f84 32 = .ok (.aload_n 0, 1) := by decide +kernel
theorem dJx4a65c_grow_92f84_33 : decode cJx4a65c_grow_92f84 33 = .ok (.getfield 9, 3) := by decide +kernel
theorem dJx4a65c_grow_92f84_36 : decode cJx4a65c_grow_92f84 36 = .ok (.iload_n 3, 1) := by decide +kernel
theorem dJx4a65c_grow_92f84_37 : decode cJx4a65c_grow_92f84 37 = .ok (.invokestatic 66, 3) := by decide +kernel
theorem dJx4a65c_grow_92f84_40 : decode cJx4a65c_grow_92f84 40 = .ok (.dup_x1, 1) := by decide +kernel
theorem dJx4a65c_grow_92f84_41 : decode cJx4a65c_grow_92f84 41 = .ok (.putfield 9, 3) := by decide +kernel
theorem dJx4a65c_grow_92f84_44 : decode cJx4a65c_grow_92f84 44 = .ok (.areturn, 1) := by decide +kernel
theorem dJx4a65c_grow_92f84_45 : decode cJx4a65c_grow_92f84 45 = .ok (.aload_n 0, 1) := by decide +kernel
theorem dJx4a65c_grow_92f84_46 : decode cJx4a65c_grow_92f84 46 = .ok (.bipush 10, 2) := by decide +kernel
theorem dJx4a65c_grow_92f84_48 : decode cJx4a65c_grow_92f84 48 = .ok (.iload_n 1, 1) := by decide +kernel
theorem dJx4a65c_grow_92f84_49 : decode cJx4a65c_grow_92f84 49 = .ok (.invokestatic 79, 3) := by decide +kernel
theorem dJx4a65c_grow_92f84_52 : decode cJx4a65c_grow_92f84 52 = .ok (.anewarray 7, 3) := by decide +kernel
theorem dJx4a65c_grow_92f84_55 : decode cJx4a65c_grow_92f84 55 = .ok (.dup_x1, 1) := by decide +kernel
theorem dJx4a65c_grow_92f84_56 : decode cJx4a65c_grow_92f84 56 = .ok (.putfield 9, 3) := by decide +kernel
theorem dJx4a65c_grow_92f84_59 : decode cJx4a65c_grow_92f84 59 = .ok (.areturn, 1) := by decide +kernel
theorem dJx4a65c_grow_d5877_0 : decode cJx4a65c_grow_d5877 0 = .ok (.aload_n 0, 1) := by decide +kernel
theorem dJx4a65c_grow_d5877_1 : decode cJx4a65c_grow_d5877 1 = .ok (.aload_n 0, 1) := by decide +kernel
theorem dJx4a65c_grow_d5877_2 : decode cJx4a65c_grow_d5877 2 = .ok (.getfield 48, 3) := by decide +kernel
theorem dJx4a65c_grow_d5877_5 : decode cJx4a65c_grow_d5877 5 = .ok (.iconst 1, 1) := by decide +kernel
end
section
theorem dJx4a65c_grow_d5877_6 : decode cJx4a65c_grow_d5877 6 = .ok (.iadd, 1) := by decide +kernel
theorem dJx4a65c_grow_d5877_7 : decode cJx4a65c_grow_d5877 7 = .ok (.invokevirtual 69, 3) := by decide +kernel
theorem dJx4a65c_grow_d5877_10 : decode cJx4a65c_grow_d5877 10 = .ok (.areturn, 1) := by decide +kernel
theorem dJx4a65c_size_8abf5_0 : decode cJx4a65c_size_8abf5 0 = .ok (.aload_n 0, 1) := by decide +kernel
theorem dJx4a65c_size_8abf5_1 : decode cJx4a65c_size_8abf5 1 = .ok (.getfield 48, 3) := by decide +kernel
theorem dJx4a65c_size_8abf5_4 : decode cJx4a65c_size_8abf5 4 = .ok (.ireturn, 1) := by decide +kernel
theorem dJx4a65c_elementData_915e3_0 : decode cJx4a65c_elementData_915e3 0 = .ok (.aload_n 0, 1) := by decide +kernel
theorem dJx4a65c_elementData_915e3_1 : decode cJx4a65c_elementData_915e3 1 = .ok (.getfield 9, 3) := by decide +kernel
theorem dJx4a65c_elementData_915e3_4 : decode cJx4a65c_elementData_915e3 4 = .ok (.iload_n 1, 1) := by decide +kernel
theorem dJx4a65c_elementData_915e3_5 : decode cJx4a65c_elementData_915e3 5 = .ok (.aaload, 1) := by decide +kernel
theorem dJx4a65c_elementData_915e3_6 : decode cJx4a65c_elementData_915e3 6 = .ok (.areturn, 1) := by decide +kernel
theorem dJx4a65c_get_915e3_0 : decode cJx4a65c_get_915e3 0 = .ok (.iload_n 1, 1) := by decide +kernel
theorem dJx4a65c_get_915e3_1 : decode cJx4a65c_get_915e3 1 = .ok (.aload_n 0, 1) := by decide +kernel
theorem dJx4a65c_get_915e3_2 : decode cJx4a65c_get_915e3 2 = .ok (.getfield 48, 3) := by decide +kernel
theorem dJx4a65c_get_915e3_5 : decode cJx4a65c_get_915e3 5 = .ok (.invokestatic 118, 3) := by decide +kernel
theorem dJx4a65c_get_915e3_8 : decode cJx4a65c_get_915e3 8 = .ok (.pop, 1) := by decide +kernel
theorem dJx4a65c_get_915e3_9 : decode cJx4a65c_get_915e3 9 = .ok (.aload_n 0, 1) := by decide +kernel
theorem dJx4a65c_get_915e3_10 : decode cJx4a65c_get_915e3 10 = .ok (.iload_n 1, 1) := by decide +kernel
theorem dJx4a65c_get_915e3_11 : decode cJx4a65c_get_915e3 11 = .ok (.invokevirtual 123, 3) := by decide +kernel
theorem dJx4a65c_get_915e3_14 : decode cJx4a65c_get_915e3 14 = .ok (.areturn, 1) := by decide +kernel
theorem dJx4a65c_add_72be8_0 : decode cJx4a65c_add_72be8 0 = .ok (.iload_n 3, 1) := by decide +kernel
theorem dJx4a65c_add_72be8_1 : decode cJx4a65c_add_72be8 1 = .ok (.aload_n 2, 1) := by decide +kernel
theorem dJx4a65c_add_72be8_2 : decode cJx4a65c_add_72be8 2 = .ok (.arraylength, 1) := by decide +kernel
theorem dJx4a65c_add_72be8_3 : decode cJx4a65c_add_72be8 3 = .ok (.if_icmp .ne 8, 3) := by decide +kernel
theorem dJx4a65c_add_72be8_6 : decode cJx4a65c_add_72be8 6 = .ok (.aload_n 0, 1) := by decide +kernel
theorem dJx4a65c_add_72be8_7 : decode cJx4a65c_add_72be8 7 = .ok (.invokevirtual 129, 3) := by decide +kernel
theorem dJx4a65c_add_72be8_10 : decode cJx4a65c_add_72be8 10 = .ok (.astore_n 2, 1) := by decide +kernel
theorem dJx4a65c_add_72be8_11 : decode cJx4a65c_add_72be8 11 = .ok (.aload_n 2, 1) := by decide +kernel
theorem dJx4a65c_add_72be8_12 : decode cJx4a65c_add_72be8 12 = .ok (.iload_n 3, 1) := by decide +kernel
theorem dJx4a65c_add_72be8_13 : decode cJx4a65c_add_72be8 13 = .ok (.aload_n 1, 1) := by decide +kernel
theorem dJx4a65c_add_72be8_14 : decode cJx4a65c_add_72be8 14 = .ok (.aastore, 1) := by decide +kernel
theorem dJx4a65c_add_72be8_15 : decode cJx4a65c_add_72be8 15 = .ok (.aload_n 0, 1) := by decide +kernel
theorem dJx4a65c_add_72be8_16 : decode cJx4a65c_add_72be8 16 = .ok (.iload_n 3, 1) := by decide +kernel
theorem dJx4a65c_add_72be8_17 : decode cJx4a65c_add_72be8 17 = .ok (.iconst 1, 1) := by decide +kernel
theorem dJx4a65c_add_72be8_18 : decode cJx4a65c_add_72be8 18 = .ok (.iadd, 1) := by decide +kernel
theorem dJx4a65c_add_72be8_19 : decode cJx4a65c_add_72be8 19 = .ok (.putfield 48, 3) := by decide +kernel
theorem dJx4a65c_add_72be8_22 : decode cJx4a65c_add_72be8 22 = .ok (.return_, 1) := by decide +kernel
theorem dJx4a65c_add_9ea2d_0 : decode cJx4a65c_add_9ea2d 0 = .ok (.aload_n 0, 1) := by decide +kernel
theorem dJx4a65c_add_9ea2d_1 : decode cJx4a65c_add_9ea2d 1 = .ok (.dup, 1) := by decide +kernel
theorem dJx4a65c_add_9ea2d_2 : decode cJx4a65c_add_9ea2d 2 = .ok (.getfield 63, 3) := by decide +kernel
theorem dJx4a65c_add_9ea2d_5 : decode cJx4a65c_add_9ea2d 5 = .ok (.iconst 1, 1) := by decide +kernel
theorem dJx4a65c_add_9ea2d_6 : decode cJx4a65c_add_9ea2d 6 = .ok (.iadd, 1) := by decide +kernel
theorem dJx4a65c_add_9ea2d_7 : decode cJx4a65c_add_9ea2d 7 = .ok (.putfield 63, 3) := by decide +kernel
theorem dJx4a65c_add_9ea2d_10 : decode cJx4a65c_add_9ea2d 10 = .ok (.aload_n 0, 1) := by decide +kernel
theorem dJx4a65c_add_9ea2d_11 : decode cJx4a65c_add_9ea2d 11 = .ok (.aload_n 1, 1) := by decide +kernel
theorem dJx4a65c_add_9ea2d_12 : decode cJx4a65c_add_9ea2d 12 = .ok (.aload_n 0, 1) := by decide +kernel
theorem dJx4a65c_add_9ea2d_13 : decode cJx4a65c_add_9ea2d 13 = .ok (.getfield 9, 3) := by decide +kernel
theorem dJx4a65c_add_9ea2d_16 : decode cJx4a65c_add_9ea2d 16 = .ok (.aload_n 0, 1) := by decide +kernel
theorem dJx4a65c_add_9ea2d_17 : decode cJx4a65c_add_9ea2d 17 = .ok (.getfield 48, 3) := by decide +kernel
theorem dJx4a65c_add_9ea2d_20 : decode cJx4a65c_add_9ea2d 20 = .ok (.invokevirtual 131, 3) := by decide +kernel
theorem dJx4a65c_add_9ea2d_23 : decode cJx4a65c_add_9ea2d 23 = .ok (.iconst 1, 1) := by decide +kernel
theorem dJx4a65c_add_9ea2d_24 : decode cJx4a65c_add_9ea2d 24 = .ok (.ireturn, 1) := by decide +kernel
theorem dJ7_copyOf_1904c_0 : decode cJ7_copyOf_1904c 0 = .ok (.aload_n 0, 1) := by decide +kernel
theorem dJ7_copyOf_1904c_1 : decode cJ7_copyOf_1904c 1 = .ok (.iload_n 1, 1) := by decide +kernel
theorem dJ7_copyOf_1904c_2 : decode cJ7_copyOf_1904c 2 = .ok (.aload_n 0, 1) := by decide +kernel
theorem dJ7_copyOf_1904c_3 : decode cJ7_copyOf_1904c 3 = .ok (.invokevirtual 86, 3) := by decide +kernel
theorem dJ7_copyOf_1904c_6 : decode cJ7_copyOf_1904c 6 = .ok (.invokestatic 300, 3) := by decide +kernel
theorem dJ7_copyOf_1904c_9 : decode cJ7_copyOf_1904c 9 = .ok (.areturn, 1) := by decide +kernel
theorem dJ7_copyOf_6403c_0 : decode cJ7_copyOf_6403c 0 = .ok (.aload_n 2, 1) := by decide +kernel
theorem dJ7_copyOf_6403c_1 : decode cJ7_copyOf_6403c 1 = .ok (.ldc 110, 2) := by decide +kernel
theorem dJ7_copyOf_6403c_3 : decode cJ7_copyOf_6403c 3 = .ok (.if_acmp .ne 10, 3) := by decide +kernel
theorem dJ7_copyOf_6403c_6 : decode cJ7_copyOf_6403c 6 = .ok (.iload_n 1, 1) := by decide +kernel
theorem dJ7_copyOf_6403c_7 : decode cJ7_copyOf_6403c 7 = .ok (.anewarray 2, 3) := by decide +kernel
theorem dJ7_copyOf_6403c_10 : decode cJ7_copyOf_6403c 10 = .ok (.goto 14, 3) := by decide +kernel
theorem dJ7_copyOf_6403c_13 : decode cJ7_copyOf_6403c 13 = .ok (.aload_n 2, 1) := by decide +kernel
theorem dJ7_copyOf_6403c_14 : decode cJ7_copyOf_6403c 14 = .ok (.invokevirtual 90, 3) := by decide +kernel
theorem dJ7_copyOf_6403c_17 : decode cJ7_copyOf_6403c 17 = .ok (.iload_n 1, 1) := by decide +kernel
theorem dJ7_copyOf_6403c_18 : decode cJ7_copyOf_6403c 18 = .ok (.invokestatic 95, 3) := by decide +kernel
theorem dJ7_copyOf_6403c_21 : decode cJ7_copyOf_6403c 21 = .ok (.checkcast 110, 3) := by decide +kernel
theorem dJ7_copyOf_6403c_24 : decode cJ7_copyOf_6403c 24 = .ok (.astore_n 3, 1) := by decide +kernel
theorem dJ7_copyOf_6403c_25 : decode cJ7_copyOf_6403c 25 = .ok (.aload_n 0, 1) := by decide +kernel
theorem dJ7_copyOf_6403c_26 : decode cJ7_copyOf_6403c 26 = .ok (.iconst 0, 1) := by decide +kernel
theorem dJ7_copyOf_6403c_27 : decode cJ7_copyOf_6403c 27 = .ok (.aload_n 3, 1) := by decide +kernel
theorem dJ7_copyOf_6403c_28 : decode cJ7_copyOf_6403c 28 = .ok (.iconst 0, 1) := by decide +kernel
theorem dJ7_copyOf_6403c_29 : decode cJ7_copyOf_6403c 29 = .ok (.aload_n 0, 1) := by decide +kernel
theorem dJ7_copyOf_6403c_30 : decode cJ7_copyOf_6403c 30 = .ok (.arraylength, 1) := by decide +kernel
theorem dJ7_copyOf_6403c_31 : decode cJ7_copyOf_6403c 31 = .ok (.iload_n 1, 1) := by decide +kernel
theorem dJ7_copyOf_6403c_32 : decode cJ7_copyOf_6403c 32 = .ok (.invokestatic 304, 3) := by decide +kernel
theorem dJ7_copyOf_6403c_35 : decode cJ7_copyOf_6403c 35 = .ok (.invokestatic 150, 3) := by decide +kernel
theorem dJ7_copyOf_6403c_38 : decode cJ7_copyOf_6403c 38 = .ok (.aload_n 3, 1) := by decide +kernel
theorem dJ7_copyOf_6403c_39 : decode cJ7_copyOf_6403c 39 = .ok (.areturn, 1) := by decide +kernel
theorem dJ15_checkIndex_7cf53_0 : decode cJ15_checkIndex_7cf53 0 = .ok (.iload_n 0, 1) := by decide +kernel
theorem dJ15_checkIndex_7cf53_1 : decode cJ15_checkIndex_7cf53 1 = .ok (.iload_n 1, 1) := by decide +kernel
theorem dJ15_checkIndex_7cf53_2 : decode cJ15_checkIndex_7cf53 2 = .ok (.aconst_null, 1) := by decide +kernel
theorem dJ15_checkIndex_7cf53_3 : decode cJ15_checkIndex_7cf53 3 = .ok (.invokestatic 105, 3) := by decide +kernel
theorem dJ15_checkIndex_7cf53_6 : decode cJ15_checkIndex_7cf53 6 = .ok (.ireturn, 1) := by decide +kernel
theorem dJ8_newLength_cabcc_0 : decode cJ8_newLength_cabcc 0 = .ok (.iload_n 0, 1) := by decide +kernel
theorem dJ8_newLength_cabcc_1 : decode cJ8_newLength_cabcc 1 = .ok (.iload_n 1, 1) := by decide +kernel
theorem dJ8_newLength_cabcc_2 : decode cJ8_newLength_cabcc 2 = .ok (.iload_n 2, 1) := by decide +kernel
theorem dJ8_newLength_cabcc_3 : decode cJ8_newLength_cabcc 3 = .ok (.invokestatic 194, 3) := by decide +kernel
theorem dJ8_newLength_cabcc_6 : decode cJ8_newLength_cabcc 6 = .ok (.iadd, 1) := by decide +kernel
theorem dJ8_newLength_cabcc_7 : decode cJ8_newLength_cabcc 7 = .ok (.istore_n 3, 1) := by decide +kernel
theorem dJ8_newLength_cabcc_8 : decode cJ8_newLength_cabcc 8 = .ok (.iconst 0, 1) := by decide +kernel
theorem dJ8_newLength_cabcc_9 : decode cJ8_newLength_cabcc 9 = .ok (.iload_n 3, 1) := by decide +kernel
theorem dJ8_newLength_cabcc_10 : decode cJ8_newLength_cabcc 10 = .ok (.if_icmp .ge 11, 3) := by decide +kernel
theorem dJ8_newLength_cabcc_13 : decode cJ8_newLength_cabcc 13 = .ok (.iload_n 3, 1) := by decide +kernel
theorem dJ8_newLength_cabcc_14 : decode cJ8_newLength_cabcc 14 = .ok (.ldc 200, 2) := by decide +kernel
theorem dJ8_newLength_cabcc_16 : decode cJ8_newLength_cabcc 16 = .ok (.if_icmp .gt 5, 3) := by decide +kernel
theorem dJ8_newLength_cabcc_19 : decode cJ8_newLength_cabcc 19 = .ok (.iload_n 3, 1) := by decide +kernel
theorem dJ8_newLength_cabcc_20 : decode cJ8_newLength_cabcc 20 = .ok (.ireturn, 1) := by decide +kernel
theorem dJ8_newLength_cabcc_21 : decode cJ8_newLength_cabcc 21 = .ok (.iload_n 0, 1) := by decide +kernel
theorem dJ8_newLength_cabcc_22 : decode cJ8_newLength_cabcc 22 = .ok (.iload_n 1, 1) := by decide +kernel
theorem dJ8_newLength_cabcc_23 : decode cJ8_newLength_cabcc 23 = .ok (.invokestatic 201, 3) := by decide +kernel
theorem dJ8_newLength_cabcc_26 : decode cJ8_newLength_cabcc 26 = .ok (.ireturn, 1) := by decide +kernel
theorem dJ8_hugeLength_7cf53_0 : decode cJ8_hugeLength_7cf53 0 = .ok (.iload_n 0, 1) := by decide +kernel
theorem dJ8_hugeLength_7cf53_1 : decode cJ8_hugeLength_7cf53 1 = .ok (.iload_n 1, 1) := by decide +kernel
theorem dJ8_hugeLength_7cf53_2 : decode cJ8_hugeLength_7cf53 2 = .ok (.iadd, 1) := by decide +kernel
theorem dJ8_hugeLength_7cf53_3 : decode cJ8_hugeLength_7cf53 3 = .ok (.istore_n 2, 1) := by decide +kernel
theorem dJ8_hugeLength_7cf53_4 : decode cJ8_hugeLength_7cf53 4 = .ok (.iload_n 2, 1) := by decide +kernel
theorem dJ8_hugeLength_7cf53_5 : decode cJ8_hugeLength_7cf53 5 = .ok (.ifCond .ge 44, 3) := by decide +kernel
theorem dJ8_hugeLength_7cf53_8 : decode cJ8_hugeLength_7cf53 8 = .ok (.new 204, 3) := by decide +kernel
theorem dJ8_hugeLength_7cf53_11 : decode cJ8_hugeLength_7cf53 11 = .ok (.dup, 1) := by decide +kernel
theorem dJ8_hugeLength_7cf53_12 : decode cJ8_hugeLength_7cf53 12 = .ok (.new 89, 3) := by decide +kernel
theorem dJ8_hugeLength_7cf53_15 : decode cJ8_hugeLength_7cf53 15 = .ok (.dup, 1) := by decide +kernel
theorem dJ8_hugeLength_7cf53_16 : decode cJ8_hugeLength_7cf53 16 = .ok (.invokespecial 91, 3) := by decide +kernel
theorem dJ8_hugeLength_7cf53_19 : decode cJ8_hugeLength_7cf53 19 = .ok (.ldc 206, 2) := by decide +kernel
theorem dJ8_hugeLength_7cf53_21 : decode cJ8_hugeLength_7cf53 21 = .ok (.invokevirtual 94, 3) := by decide +kernel
theorem dJ8_hugeLength_7cf53_24 : decode cJ8_hugeLength_7cf53 24 = .ok (.iload_n 0, 1) := by decide +kernel
theorem dJ8_hugeLength_7cf53_25 : decode cJ8_hugeLength_7cf53 25 = .ok (.invokevirtual 98, 3) := by decide +kernel
theorem dJ8_hugeLength_7cf53_28 : decode cJ8_hugeLength_7cf53 28 = .ok (.ldc 208, 2) := by decide +kernel
theorem dJ8_hugeLength_7cf53_30 : decode cJ8_hugeLength_7cf53 30 = .ok (.invokevirtual 94, 3) := by decide +kernel
theorem dJ8_hugeLength_7cf53_33 : decode cJ8_hugeLength_7cf53 33 = .ok (.iload_n 1, 1) := by decide +kernel
theorem dJ8_hugeLength_7cf53_34 : decode cJ8_hugeLength_7cf53 34 = .ok (.invokevirtual 98, 3) := by decide +kernel
theorem dJ8_hugeLength_7cf53_37 : decode cJ8_hugeLength_7cf53 37 = .ok (.ldc 210, 2) := by decide +kernel
theorem dJ8_hugeLength_7cf53_39 : decode cJ8_hugeLength_7cf53 39 = .ok (.invokevirtual 94, 3) := by decide +kernel
theorem dJ8_hugeLength_7cf53_42 : decode cJ8_hugeLength_7cf53 42 = .ok (.invokevirtual 101, 3) := by decide +kernel
theorem dJ8_hugeLength_7cf53_45 : decode cJ8_hugeLength_7cf53 45 = .ok (.invokespecial 212, 3) := by decide +kernel
theorem dJ8_hugeLength_7cf53_48 : decode cJ8_hugeLength_7cf53 48 = .ok (.athrow, 1) := by decide +kernel
theorem dJ8_hugeLength_7cf53_49 : decode cJ8_hugeLength_7cf53 49 = .ok (.iload_n 2, 1) := by decide +kernel
theorem dJ8_hugeLength_7cf53_50 : decode cJ8_hugeLength_7cf53 50 = .ok (.ldc 200, 2) := by decide +kernel
theorem dJ8_hugeLength_7cf53_52 : decode cJ8_hugeLength_7cf53 52 = .ok (.if_icmp .gt 6, 3) := by decide +kernel
theorem dJ8_hugeLength_7cf53_55 : decode cJ8_hugeLength_7cf53 55 = .ok (.ldc 200, 2) := by decide +kernel
theorem dJ8_hugeLength_7cf53_57 : decode cJ8_hugeLength_7cf53 57 = .ok (.ireturn, 1) := by decide +kernel
theorem dJ8_hugeLength_7cf53_58 : decode cJ8_hugeLength_7cf53 58 = .ok (.iload_n 2, 1) := by decide +kernel
theorem dJ8_hugeLength_7cf53_59 : decode cJ8_hugeLength_7cf53 59 = .ok (.ireturn, 1) := by decide +kernel
theorem dJ3_checkIndex_8e157_0 : decode cJ3_checkIndex_8e157 0 = .ok (.iload_n 0, 1) := by decide +kernel
theorem dJ3_checkIndex_8e157_1 : decode cJ3_checkIndex_8e157 1 = .ok (.ifCond .lt 8, 3) := by decide +kernel
theorem dJ3_checkIndex_8e157_4 : decode cJ3_checkIndex_8e157 4 = .ok (.iload_n 0, 1) := by decide +kernel
theorem dJ3_checkIndex_8e157_5 : decode cJ3_checkIndex_8e157 5 = .ok (.iload_n 1, 1) := by decide +kernel
theorem dJ3_checkIndex_8e157_6 : decode cJ3_checkIndex_8e157 6 = .ok (.if_icmp .lt 10, 3) := by decide +kernel
theorem dJ3_checkIndex_8e157_9 : decode cJ3_checkIndex_8e157 9 = .ok (.aload_n 2, 1) := by decide +kernel
theorem dJ3_checkIndex_8e157_10 : decode cJ3_checkIndex_8e157 10 = .ok (.iload_n 0, 1) := by decide +kernel
theorem dJ3_checkIndex_8e157_11 : decode cJ3_checkIndex_8e157 11 = .ok (.iload_n 1, 1) := by decide +kernel
theorem dJ3_checkIndex_8e157_12 : decode cJ3_checkIndex_8e157 12 = .ok (.invokestatic 95, 3) := by decide +kernel
theorem dJ3_checkIndex_8e157_15 : decode cJ3_checkIndex_8e157 15 = .ok (.athrow, 1) := by decide +kernel
theorem dJ3_checkIndex_8e157_16 : decode cJ3_checkIndex_8e157 16 = .ok (.iload_n 0, 1) := by decide +kernel
theorem dJ3_checkIndex_8e157_17 : decode cJ3_checkIndex_8e157 17 = .ok (.ireturn, 1) := by decide +kernel
theorem dL_addStore_0 : decode cL_addStore 0 = .ok (.aload_n 2, 1) := by decide +kernel
theorem dL_addStore_1 : decode cL_addStore 1 = .ok (.iconst 0, 1) := by decide +kernel
theorem dL_addStore_2 : decode cL_addStore 2 = .ok (.aload_n 0, 1) := by decide +kernel
theorem dL_addStore_3 : decode cL_addStore 3 = .ok (.iload_n 1, 1) := by decide +kernel
theorem dL_addStore_4 : decode cL_addStore 4 = .ok (.invokevirtual 7, 3) := by decide +kernel
theorem dL_addStore_7 : decode cL_addStore 7 = .ok (.i2l, 1) := by decide +kernel
theorem dL_addStore_8 : decode cL_addStore 8 = .ok (.lastore, 1) := by decide +kernel
theorem dL_addStore_9 : decode cL_addStore 9 = .ok (.goto 9, 3) := by decide +kernel
theorem dL_addStore_12 : decode cL_addStore 12 = .ok (.astore_n 3, 1) := by decide +kernel
theorem dL_addStore_13 : decode cL_addStore 13 = .ok (.iconst 1, 1) := by decide +kernel
theorem dL_addStore_14 : decode cL_addStore 14 = .ok (.ireturn, 1) := by decide +kernel
theorem dL_addStore_15 : decode cL_addStore 15 = .ok (.astore_n 3, 1) := by decide +kernel
theorem dL_addStore_16 : decode cL_addStore 16 = .ok (.iconst 2, 1) := by decide +kernel
theorem dL_addStore_17 : decode cL_addStore 17 = .ok (.ireturn, 1) := by decide +kernel
theorem dL_addStore_18 : decode cL_addStore 18 = .ok (.iconst 0, 1) := by decide +kernel
theorem dL_addStore_19 : decode cL_addStore 19 = .ok (.ireturn, 1) := by decide +kernel
theorem dL_setSize_0 : decode cL_setSize 0 = .ok (.aload_n 3, 1) := by decide +kernel
theorem dL_setSize_1 : decode cL_setSize 1 = .ok (.iconst 0, 1) := by decide +kernel
theorem dL_setSize_2 : decode cL_setSize 2 = .ok (.aload_n 0, 1) := by decide +kernel
theorem dL_setSize_3 : decode cL_setSize 3 = .ok (.iload_n 1, 1) := by decide +kernel
theorem dL_setSize_4 : decode cL_setSize 4 = .ok (.iload_n 2, 1) := by decide +kernel
theorem dL_setSize_5 : decode cL_setSize 5 = .ok (.invokevirtual 17, 3) := by decide +kernel
theorem dL_setSize_8 : decode cL_setSize 8 = .ok (.i2l, 1) := by decide +kernel
theorem dL_setSize_9 : decode cL_setSize 9 = .ok (.lastore, 1) := by decide +kernel
theorem dL_setSize_10 : decode cL_setSize 10 = .ok (.goto 11, 3) := by decide +kernel
theorem dL_setSize_13 : decode cL_setSize 13 = .ok (.astore 4, 2) := by decide +kernel
theorem dL_setSize_15 : decode cL_setSize 15 = .ok (.iconst 1, 1) := by decide +kernel
theorem dL_setSize_16 : decode cL_setSize 16 = .ok (.ireturn, 1) := by decide +kernel
theorem dL_setSize_17 : decode cL_setSize 17 = .ok (.astore 4, 2) := by decide +kernel
theorem dL_setSize_19 : decode cL_setSize 19 = .ok (.iconst 2, 1) := by decide +kernel
theorem dL_setSize_20 : decode cL_setSize 20 = .ok (.ireturn, 1) := by decide +kernel
theorem dL_setSize_21 : decode cL_setSize 21 = .ok (.iconst 0, 1) := by decide +kernel
theorem dL_setSize_22 : decode cL_setSize 22 = .ok (.ireturn, 1) := by decide +kernel
theorem dL_sample_0 : decode cL_sample 0 = .ok (.aload_n 3, 1) := by decide +kernel
theorem dL_sample_1 : decode cL_sample 1 = .ok (.iconst 0, 1) := by decide +kernel
theorem dL_sample_2 : decode cL_sample 2 = .ok (.aload_n 0, 1) := by decide +kernel
theorem dL_sample_3 : decode cL_sample 3 = .ok (.iload_n 1, 1) := by decide +kernel
theorem dL_sample_4 : decode cL_sample 4 = .ok (.iload_n 2, 1) := by decide +kernel
theorem dL_sample_5 : decode cL_sample 5 = .ok (.invokevirtual 23, 3) := by decide +kernel
theorem dL_sample_8 : decode cL_sample 8 = .ok (.i2l, 1) := by decide +kernel
theorem dL_sample_9 : decode cL_sample 9 = .ok (.lastore, 1) := by decide +kernel
theorem dL_sample_10 : decode cL_sample 10 = .ok (.goto 11, 3) := by decide +kernel
theorem dL_sample_13 : decode cL_sample 13 = .ok (.astore 4, 2) := by decide +kernel
theorem dL_sample_15 : decode cL_sample 15 = .ok (.iconst 1, 1) := by decide +kernel
theorem dL_sample_16 : decode cL_sample 16 = .ok (.ireturn, 1) := by decide +kernel
theorem dL_sample_17 : decode cL_sample 17 = .ok (.astore 4, 2) := by decide +kernel
theorem dL_sample_19 : decode cL_sample 19 = .ok (.iconst 2, 1) := by decide +kernel
theorem dL_sample_20 : decode cL_sample 20 = .ok (.ireturn, 1) := by decide +kernel
theorem dL_sample_21 : decode cL_sample 21 = .ok (.iconst 0, 1) := by decide +kernel
theorem dL_sample_22 : decode cL_sample 22 = .ok (.ireturn, 1) := by decide +kernel
theorem dL_clean_0 : decode cL_clean 0 = .ok (.aload_n 3, 1) := by decide +kernel
theorem dL_clean_1 : decode cL_clean 1 = .ok (.iconst 0, 1) := by decide +kernel
theorem dL_clean_2 : decode cL_clean 2 = .ok (.aload_n 0, 1) := by decide +kernel
theorem dL_clean_3 : decode cL_clean 3 = .ok (.iload_n 1, 1) := by decide +kernel
theorem dL_clean_4 : decode cL_clean 4 = .ok (.iload_n 2, 1) := by decide +kernel
theorem dL_clean_5 : decode cL_clean 5 = .ok (.invokevirtual 26, 3) := by decide +kernel
theorem dL_clean_8 : decode cL_clean 8 = .ok (.i2l, 1) := by decide +kernel
theorem dL_clean_9 : decode cL_clean 9 = .ok (.lastore, 1) := by decide +kernel
theorem dL_clean_10 : decode cL_clean 10 = .ok (.goto 15, 3) := by decide +kernel
theorem dL_clean_13 : decode cL_clean 13 = .ok (.astore 4, 2) := by decide +kernel
theorem dL_clean_15 : decode cL_clean 15 = .ok (.iconst 1, 1) := by decide +kernel
theorem dL_clean_16 : decode cL_clean 16 = .ok (.ireturn, 1) := by decide +kernel
theorem dL_clean_17 : decode cL_clean 17 = .ok (.astore 4, 2) := by decide +kernel
theorem dL_clean_19 : decode cL_clean 19 = .ok (.iconst 2, 1) := by decide +kernel
theorem dL_clean_20 : decode cL_clean 20 = .ok (.ireturn, 1) := by decide +kernel
theorem dL_clean_21 : decode cL_clean 21 = .ok (.astore 4, 2) := by decide +kernel
theorem dL_clean_23 : decode cL_clean 23 = .ok (.iconst 3, 1) := by decide +kernel
theorem dL_clean_24 : decode cL_clean 24 = .ok (.ireturn, 1) := by decide +kernel
theorem dL_clean_25 : decode cL_clean 25 = .ok (.iconst 0, 1) := by decide +kernel
theorem dL_clean_26 : decode cL_clean 26 = .ok (.ireturn, 1) := by decide +kernel
theorem dL_setRule_0 : decode cL_setRule 0 = .ok (.aload_n 0, 1) := by decide +kernel
theorem dL_setRule_1 : decode cL_setRule 1 = .ok (.iload_n 1, 1) := by decide +kernel
theorem dL_setRule_2 : decode cL_setRule 2 = .ok (.iload_n 2, 1) := by decide +kernel
theorem dL_setRule_3 : decode cL_setRule 3 = .ok (.iload_n 3, 1) := by decide +kernel
theorem dL_setRule_4 : decode cL_setRule 4 = .ok (.invokevirtual 29, 3) := by decide +kernel
theorem dL_setRule_7 : decode cL_setRule 7 = .ok (.goto 11, 3) := by decide +kernel
theorem dL_setRule_10 : decode cL_setRule 10 = .ok (.astore 4, 2) := by decide +kernel
theorem dL_setRule_12 : decode cL_setRule 12 = .ok (.iconst 1, 1) := by decide +kernel
theorem dL_setRule_13 : decode cL_setRule 13 = .ok (.ireturn, 1) := by decide +kernel
theorem dL_setRule_14 : decode cL_setRule 14 = .ok (.astore 4, 2) := by decide +kernel
theorem dL_setRule_16 : decode cL_setRule 16 = .ok (.iconst 2, 1) := by decide +kernel
theorem dL_setRule_17 : decode cL_setRule 17 = .ok (.ireturn, 1) := by decide +kernel
theorem dL_setRule_18 : decode cL_setRule 18 = .ok (.iconst 0, 1) := by decide +kernel
theorem dL_setRule_19 : decode cL_setRule 19 = .ok (.ireturn, 1) := by decide +kernel
theorem dL_pass_0 : decode cL_pass 0 = .ok (.aload_n 2, 1) := by decide +kernel
theorem dL_pass_1 : decode cL_pass 1 = .ok (.iconst 0, 1) := by decide +kernel
theorem dL_pass_2 : decode cL_pass 2 = .ok (.aload_n 0, 1) := by decide +kernel
theorem dL_pass_3 : decode cL_pass 3 = .ok (.iload_n 1, 1) := by decide +kernel
theorem dL_pass_4 : decode cL_pass 4 = .ok (.invokevirtual 33, 3) := by decide +kernel
theorem dL_pass_7 : decode cL_pass 7 = .ok (.i2l, 1) := by decide +kernel
theorem dL_pass_8 : decode cL_pass 8 = .ok (.lastore, 1) := by decide +kernel
theorem dL_pass_9 : decode cL_pass 9 = .ok (.goto 9, 3) := by decide +kernel
theorem dL_pass_12 : decode cL_pass 12 = .ok (.astore_n 3, 1) := by decide +kernel
theorem dL_pass_13 : decode cL_pass 13 = .ok (.iconst 1, 1) := by decide +kernel
theorem dL_pass_14 : decode cL_pass 14 = .ok (.ireturn, 1) := by decide +kernel
theorem dL_pass_15 : decode cL_pass 15 = .ok (.astore_n 3, 1) := by decide +kernel
theorem dL_pass_16 : decode cL_pass 16 = .ok (.iconst 2, 1) := by decide +kernel
theorem dL_pass_17 : decode cL_pass 17 = .ok (.ireturn, 1) := by decide +kernel
theorem dL_pass_18 : decode cL_pass 18 = .ok (.iconst 0, 1) := by decide +kernel
theorem dL_pass_19 : decode cL_pass 19 = .ok (.ireturn, 1) := by decide +kernel
theorem dL_samples_0 : decode cL_samples 0 = .ok (.aload_n 2, 1) := by decide +kernel
theorem dL_samples_1 : decode cL_samples 1 = .ok (.iconst 0, 1) := by decide +kernel
theorem dL_samples_2 : decode cL_samples 2 = .ok (.aload_n 0, 1) := by decide +kernel
theorem dL_samples_3 : decode cL_samples 3 = .ok (.iload_n 1, 1) := by decide +kernel
theorem dL_samples_4 : decode cL_samples 4 = .ok (.invokevirtual 36, 3) := by decide +kernel
theorem dL_samples_7 : decode cL_samples 7 = .ok (.i2l, 1) := by decide +kernel
theorem dL_samples_8 : decode cL_samples 8 = .ok (.lastore, 1) := by decide +kernel
theorem dL_samples_9 : decode cL_samples 9 = .ok (.goto 6, 3) := by decide +kernel
theorem dL_samples_12 : decode cL_samples 12 = .ok (.astore_n 3, 1) := by decide +kernel
theorem dL_samples_13 : decode cL_samples 13 = .ok (.iconst 1, 1) := by decide +kernel
theorem dL_samples_14 : decode cL_samples 14 = .ok (.ireturn, 1) := by decide +kernel
theorem dL_samples_15 : decode cL_samples 15 = .ok (.iconst 0, 1) := by decide +kernel
theorem dL_samples_16 : decode cL_samples 16 = .ok (.ireturn, 1) := by decide +kernel
theorem dL_slopeNumerator_0 : decode cL_slopeNumerator 0 = .ok (.aload_n 2, 1) := by decide +kernel
theorem dL_slopeNumerator_1 : decode cL_slopeNumerator 1 = .ok (.iconst 0, 1) := by decide +kernel
theorem dL_slopeNumerator_2 : decode cL_slopeNumerator 2 = .ok (.aload_n 0, 1) := by decide +kernel
theorem dL_slopeNumerator_3 : decode cL_slopeNumerator 3 = .ok (.iload_n 1, 1) := by decide +kernel
theorem dL_slopeNumerator_4 : decode cL_slopeNumerator 4 = .ok (.invokevirtual 39, 3) := by decide +kernel
theorem dL_slopeNumerator_7 : decode cL_slopeNumerator 7 = .ok (.i2l, 1) := by decide +kernel
theorem dL_slopeNumerator_8 : decode cL_slopeNumerator 8 = .ok (.lastore, 1) := by decide +kernel
theorem dL_slopeNumerator_9 : decode cL_slopeNumerator 9 = .ok (.goto 9, 3) := by decide +kernel
theorem dL_slopeNumerator_12 : decode cL_slopeNumerator 12 = .ok (.astore_n 3, 1) := by decide +kernel
theorem dL_slopeNumerator_13 : decode cL_slopeNumerator 13 = .ok (.iconst 1, 1) := by decide +kernel
theorem dL_slopeNumerator_14 : decode cL_slopeNumerator 14 = .ok (.ireturn, 1) := by decide +kernel
theorem dL_slopeNumerator_15 : decode cL_slopeNumerator 15 = .ok (.astore_n 3, 1) := by decide +kernel
theorem dL_slopeNumerator_16 : decode cL_slopeNumerator 16 = .ok (.iconst 2, 1) := by decide +kernel
theorem dL_slopeNumerator_17 : decode cL_slopeNumerator 17 = .ok (.ireturn, 1) := by decide +kernel
theorem dL_slopeNumerator_18 : decode cL_slopeNumerator 18 = .ok (.iconst 0, 1) := by decide +kernel
theorem dL_slopeNumerator_19 : decode cL_slopeNumerator 19 = .ok (.ireturn, 1) := by decide +kernel
theorem dL_slopeDenominator_0 : decode cL_slopeDenominator 0 = .ok (.aload_n 2, 1) := by decide +kernel
theorem dL_slopeDenominator_1 : decode cL_slopeDenominator 1 = .ok (.iconst 0, 1) := by decide +kernel
theorem dL_slopeDenominator_2 : decode cL_slopeDenominator 2 = .ok (.aload_n 0, 1) := by decide +kernel
theorem dL_slopeDenominator_3 : decode cL_slopeDenominator 3 = .ok (.iload_n 1, 1) := by decide +kernel
theorem dL_slopeDenominator_4 : decode cL_slopeDenominator 4 = .ok (.invokevirtual 42, 3) := by decide +kernel
theorem dL_slopeDenominator_7 : decode cL_slopeDenominator 7 = .ok (.i2l, 1) := by decide +kernel
theorem dL_slopeDenominator_8 : decode cL_slopeDenominator 8 = .ok (.lastore, 1) := by decide +kernel
theorem dL_slopeDenominator_9 : decode cL_slopeDenominator 9 = .ok (.goto 9, 3) := by decide +kernel
theorem dL_slopeDenominator_12 : decode cL_slopeDenominator 12 = .ok (.astore_n 3, 1) := by decide +kernel
theorem dL_slopeDenominator_13 : decode cL_slopeDenominator 13 = .ok (.iconst 1, 1) := by decide +kernel
theorem dL_slopeDenominator_14 : decode cL_slopeDenominator 14 = .ok (.ireturn, 1) := by decide +kernel
theorem dL_slopeDenominator_15 : decode cL_slopeDenominator 15 = .ok (.astore_n 3, 1) := by decide +kernel
theorem dL_slopeDenominator_16 : decode cL_slopeDenominator 16 = .ok (.iconst 2, 1) := by decide +kernel
theorem dL_slopeDenominator_17 : decode cL_slopeDenominator 17 = .ok (.ireturn, 1) := by decide +kernel
theorem dL_slopeDenominator_18 : decode cL_slopeDenominator 18 = .ok (.iconst 0, 1) := by decide +kernel
theorem dL_slopeDenominator_19 : decode cL_slopeDenominator 19 = .ok (.ireturn, 1) := by decide +kernel
theorem dL_usual_0 : decode cL_usual 0 = .ok (.aload_n 2, 1) := by decide +kernel
theorem dL_usual_1 : decode cL_usual 1 = .ok (.iconst 0, 1) := by decide +kernel
theorem dL_usual_2 : decode cL_usual 2 = .ok (.aload_n 0, 1) := by decide +kernel
theorem dL_usual_3 : decode cL_usual 3 = .ok (.iload_n 1, 1) := by decide +kernel
theorem dL_usual_4 : decode cL_usual 4 = .ok (.invokevirtual 45, 3) := by decide +kernel
theorem dL_usual_7 : decode cL_usual 7 = .ok (.i2l, 1) := by decide +kernel
theorem dL_usual_8 : decode cL_usual 8 = .ok (.lastore, 1) := by decide +kernel
theorem dL_usual_9 : decode cL_usual 9 = .ok (.goto 6, 3) := by decide +kernel
theorem dL_usual_12 : decode cL_usual 12 = .ok (.astore_n 3, 1) := by decide +kernel
theorem dL_usual_13 : decode cL_usual 13 = .ok (.iconst 1, 1) := by decide +kernel
theorem dL_usual_14 : decode cL_usual 14 = .ok (.ireturn, 1) := by decide +kernel
theorem dL_usual_15 : decode cL_usual 15 = .ok (.iconst 0, 1) := by decide +kernel
theorem dL_usual_16 : decode cL_usual 16 = .ok (.ireturn, 1) := by decide +kernel
theorem dL_forecast_0 : decode cL_forecast 0 = .ok (.aload_n 3, 1) := by decide +kernel
theorem dL_forecast_1 : decode cL_forecast 1 = .ok (.iconst 0, 1) := by decide +kernel
theorem dL_forecast_2 : decode cL_forecast 2 = .ok (.aload_n 0, 1) := by decide +kernel
theorem dL_forecast_3 : decode cL_forecast 3 = .ok (.iload_n 1, 1) := by decide +kernel
theorem dL_forecast_4 : decode cL_forecast 4 = .ok (.iload_n 2, 1) := by decide +kernel
theorem dL_forecast_5 : decode cL_forecast 5 = .ok (.invokevirtual 48, 3) := by decide +kernel
theorem dL_forecast_8 : decode cL_forecast 8 = .ok (.i2l, 1) := by decide +kernel
theorem dL_forecast_9 : decode cL_forecast 9 = .ok (.lastore, 1) := by decide +kernel
theorem dL_forecast_10 : decode cL_forecast 10 = .ok (.goto 15, 3) := by decide +kernel
theorem dL_forecast_13 : decode cL_forecast 13 = .ok (.astore 4, 2) := by decide +kernel
theorem dL_forecast_15 : decode cL_forecast 15 = .ok (.iconst 1, 1) := by decide +kernel
theorem dL_forecast_16 : decode cL_forecast 16 = .ok (.ireturn, 1) := by decide +kernel
theorem dL_forecast_17 : decode cL_forecast 17 = .ok (.astore 4, 2) := by decide +kernel
theorem dL_forecast_19 : decode cL_forecast 19 = .ok (.iconst 2, 1) := by decide +kernel
theorem dL_forecast_20 : decode cL_forecast 20 = .ok (.ireturn, 1) := by decide +kernel
theorem dL_forecast_21 : decode cL_forecast 21 = .ok (.astore 4, 2) := by decide +kernel
theorem dL_forecast_23 : decode cL_forecast 23 = .ok (.iconst 3, 1) := by decide +kernel
theorem dL_forecast_24 : decode cL_forecast 24 = .ok (.ireturn, 1) := by decide +kernel
theorem dL_forecast_25 : decode cL_forecast 25 = .ok (.iconst 0, 1) := by decide +kernel
theorem dL_forecast_26 : decode cL_forecast 26 = .ok (.ireturn, 1) := by decide +kernel
theorem dL_full_0 : decode cL_full 0 = .ok (.aload_n 2, 1) := by decide +kernel
theorem dL_full_1 : decode cL_full 1 = .ok (.iconst 0, 1) := by decide +kernel
theorem dL_full_2 : decode cL_full 2 = .ok (.aload_n 0, 1) := by decide +kernel
theorem dL_full_3 : decode cL_full 3 = .ok (.iload_n 1, 1) := by decide +kernel
theorem dL_full_4 : decode cL_full 4 = .ok (.invokevirtual 51, 3) := by decide +kernel
theorem dL_full_7 : decode cL_full 7 = .ok (.i2l, 1) := by decide +kernel
theorem dL_full_8 : decode cL_full 8 = .ok (.lastore, 1) := by decide +kernel
theorem dL_full_9 : decode cL_full 9 = .ok (.goto 6, 3) := by decide +kernel
theorem dL_full_12 : decode cL_full 12 = .ok (.astore_n 3, 1) := by decide +kernel
theorem dL_full_13 : decode cL_full 13 = .ok (.iconst 1, 1) := by decide +kernel
theorem dL_full_14 : decode cL_full 14 = .ok (.ireturn, 1) := by decide +kernel
theorem dL_full_15 : decode cL_full 15 = .ok (.iconst 0, 1) := by decide +kernel
theorem dL_full_16 : decode cL_full 16 = .ok (.ireturn, 1) := by decide +kernel
theorem dL_early_0 : decode cL_early 0 = .ok (.aload_n 2, 1) := by decide +kernel
theorem dL_early_1 : decode cL_early 1 = .ok (.iconst 0, 1) := by decide +kernel
theorem dL_early_2 : decode cL_early 2 = .ok (.aload_n 0, 1) := by decide +kernel
theorem dL_early_3 : decode cL_early 3 = .ok (.iload_n 1, 1) := by decide +kernel
theorem dL_early_4 : decode cL_early 4 = .ok (.invokevirtual 54, 3) := by decide +kernel
theorem dL_early_7 : decode cL_early 7 = .ok (.i2l, 1) := by decide +kernel
theorem dL_early_8 : decode cL_early 8 = .ok (.lastore, 1) := by decide +kernel
theorem dL_early_9 : decode cL_early 9 = .ok (.goto 6, 3) := by decide +kernel
theorem dL_early_12 : decode cL_early 12 = .ok (.astore_n 3, 1) := by decide +kernel
theorem dL_early_13 : decode cL_early 13 = .ok (.iconst 1, 1) := by decide +kernel
theorem dL_early_14 : decode cL_early 14 = .ok (.ireturn, 1) := by decide +kernel
theorem dL_early_15 : decode cL_early 15 = .ok (.iconst 0, 1) := by decide +kernel
theorem dL_early_16 : decode cL_early 16 = .ok (.ireturn, 1) := by decide +kernel
theorem dL_late_0 : decode cL_late 0 = .ok (.aload_n 2, 1) := by decide +kernel
theorem dL_late_1 : decode cL_late 1 = .ok (.iconst 0, 1) := by decide +kernel
theorem dL_late_2 : decode cL_late 2 = .ok (.aload_n 0, 1) := by decide +kernel
theorem dL_late_3 : decode cL_late 3 = .ok (.iload_n 1, 1) := by decide +kernel
theorem dL_late_4 : decode cL_late 4 = .ok (.invokevirtual 57, 3) := by decide +kernel
theorem dL_late_7 : decode cL_late 7 = .ok (.i2l, 1) := by decide +kernel
theorem dL_late_8 : decode cL_late 8 = .ok (.lastore, 1) := by decide +kernel
theorem dL_late_9 : decode cL_late 9 = .ok (.goto 6, 3) := by decide +kernel
theorem dL_late_12 : decode cL_late 12 = .ok (.astore_n 3, 1) := by decide +kernel
theorem dL_late_13 : decode cL_late 13 = .ok (.iconst 1, 1) := by decide +kernel
theorem dL_late_14 : decode cL_late 14 = .ok (.ireturn, 1) := by decide +kernel
theorem dL_late_15 : decode cL_late 15 = .ok (.iconst 0, 1) := by decide +kernel
theorem dL_late_16 : decode cL_late 16 = .ok (.ireturn, 1) := by decide +kernel
theorem dL_warns_0 : decode cL_warns 0 = .ok (.aload_n 2, 1) := by decide +kernel
theorem dL_warns_1 : decode cL_warns 1 = .ok (.iconst 0, 1) := by decide +kernel
theorem dL_warns_2 : decode cL_warns 2 = .ok (.aload_n 0, 1) := by decide +kernel
theorem dL_warns_3 : decode cL_warns 3 = .ok (.iload_n 1, 1) := by decide +kernel
theorem dL_warns_4 : decode cL_warns 4 = .ok (.invokevirtual 60, 3) := by decide +kernel
theorem dL_warns_7 : decode cL_warns 7 = .ok (.ifCond .eq 7, 3) := by decide +kernel
theorem dL_warns_10 : decode cL_warns 10 = .ok (.lconst 1, 1) := by decide +kernel
theorem dL_warns_11 : decode cL_warns 11 = .ok (.goto 4, 3) := by decide +kernel
theorem dL_warns_14 : decode cL_warns 14 = .ok (.lconst 0, 1) := by decide +kernel
theorem dL_warns_15 : decode cL_warns 15 = .ok (.lastore, 1) := by decide +kernel
theorem dL_warns_16 : decode cL_warns 16 = .ok (.goto 6, 3) := by decide +kernel
theorem dL_warns_19 : decode cL_warns 19 = .ok (.astore_n 3, 1) := by decide +kernel
theorem dL_warns_20 : decode cL_warns 20 = .ok (.iconst 1, 1) := by decide +kernel
theorem dL_warns_21 : decode cL_warns 21 = .ok (.ireturn, 1) := by decide +kernel
theorem dL_warns_22 : decode cL_warns 22 = .ok (.iconst 0, 1) := by decide +kernel
theorem dL_warns_23 : decode cL_warns 23 = .ok (.ireturn, 1) := by decide +kernel
theorem dL_poolFull_0 : decode cL_poolFull 0 = .ok (.aload_n 2, 1) := by decide +kernel
theorem dL_poolFull_1 : decode cL_poolFull 1 = .ok (.iconst 0, 1) := by decide +kernel
theorem dL_poolFull_2 : decode cL_poolFull 2 = .ok (.aload_n 0, 1) := by decide +kernel
theorem dL_poolFull_3 : decode cL_poolFull 3 = .ok (.iload_n 1, 1) := by decide +kernel
theorem dL_poolFull_4 : decode cL_poolFull 4 = .ok (.invokevirtual 64, 3) := by decide +kernel
theorem dL_poolFull_7 : decode cL_poolFull 7 = .ok (.i2l, 1) := by decide +kernel
theorem dL_poolFull_8 : decode cL_poolFull 8 = .ok (.lastore, 1) := by decide +kernel
theorem dL_poolFull_9 : decode cL_poolFull 9 = .ok (.goto 6, 3) := by decide +kernel
theorem dL_poolFull_12 : decode cL_poolFull 12 = .ok (.astore_n 3, 1) := by decide +kernel
theorem dL_poolFull_13 : decode cL_poolFull 13 = .ok (.iconst 1, 1) := by decide +kernel
theorem dL_poolFull_14 : decode cL_poolFull 14 = .ok (.ireturn, 1) := by decide +kernel
theorem dL_poolFull_15 : decode cL_poolFull 15 = .ok (.iconst 0, 1) := by decide +kernel
theorem dL_poolFull_16 : decode cL_poolFull 16 = .ok (.ireturn, 1) := by decide +kernel
theorem dL_law_0 : decode cL_law 0 = .ok (.new 8, 3) := by decide +kernel
theorem dL_law_3 : decode cL_law 3 = .ok (.dup, 1) := by decide +kernel
theorem dL_law_4 : decode cL_law 4 = .ok (.invokespecial 67, 3) := by decide +kernel
theorem dL_law_7 : decode cL_law 7 = .ok (.astore_n 1, 1) := by decide +kernel
theorem dL_law_8 : decode cL_law 8 = .ok (.new 68, 3) := by decide +kernel
theorem dL_law_11 : decode cL_law 11 = .ok (.dup, 1) := by decide +kernel
theorem dL_law_12 : decode cL_law 12 = .ok (.invokespecial 70, 3) := by decide +kernel
theorem dL_law_15 : decode cL_law 15 = .ok (.astore_n 2, 1) := by decide +kernel
theorem dL_law_16 : decode cL_law 16 = .ok (.iconst 1, 1) := by decide +kernel
theorem dL_law_17 : decode cL_law 17 = .ok (.newarray .long, 2) := by decide +kernel
theorem dL_law_19 : decode cL_law 19 = .ok (.astore_n 3, 1) := by decide +kernel
theorem dL_law_20 : decode cL_law 20 = .ok (.iconst 0, 1) := by decide +kernel
theorem dL_law_21 : decode cL_law 21 = .ok (.istore 4, 2) := by decide +kernel
theorem dL_law_23 : decode cL_law 23 = .ok (.iload 4, 2) := by decide +kernel
theorem dL_law_25 : decode cL_law 25 = .ok (.aload_n 0, 1) := by decide +kernel
theorem dL_law_26 : decode cL_law 26 = .ok (.arraylength, 1) := by decide +kernel
theorem dL_law_27 : decode cL_law 27 = .ok (.iconst 4, 1) := by decide +kernel
theorem dL_law_28 : decode cL_law 28 = .ok (.isub, 1) := by decide +kernel
theorem dL_law_29 : decode cL_law 29 = .ok (.if_icmp .gt 1065, 3) := by decide +kernel
theorem dL_law_32 : decode cL_law 32 = .ok (.aload_n 0, 1) := by decide +kernel
theorem dL_law_33 : decode cL_law 33 = .ok (.iload 4, 2) := by decide +kernel
theorem dL_law_35 : decode cL_law 35 = .ok (.iaload, 1) := by decide +kernel
theorem dL_law_36 : decode cL_law 36 = .ok (.bipush 31, 2) := by decide +kernel
theorem dL_law_38 : decode cL_law 38 = .ok (.iand, 1) := by decide +kernel
theorem dL_law_39 : decode cL_law 39 = .ok (.tableswitch 1049 0 16 #[81, 137, 205, 273, 341, 401, 457, 470, 526, 582, 638, 694, 762, 818, 874, 930, 993], 81) := by decide +kernel
theorem dL_law_120 : decode cL_law 120 = .ok (.aload_n 1, 1) := by decide +kernel
theorem dL_law_121 : decode cL_law 121 = .ok (.aload_n 0, 1) := by decide +kernel
theorem dL_law_122 : decode cL_law 122 = .ok (.iload 4, 2) := by decide +kernel
theorem dL_law_124 : decode cL_law 124 = .ok (.iconst 1, 1) := by decide +kernel
theorem dL_law_125 : decode cL_law 125 = .ok (.iadd, 1) := by decide +kernel
theorem dL_law_126 : decode cL_law 126 = .ok (.iaload, 1) := by decide +kernel
theorem dL_law_127 : decode cL_law 127 = .ok (.aload_n 3, 1) := by decide +kernel
theorem dL_law_128 : decode cL_law 128 = .ok (.invokestatic 71, 3) := by decide +kernel
theorem dL_law_131 : decode cL_law 131 = .ok (.istore 5, 2) := by decide +kernel
theorem dL_law_133 : decode cL_law 133 = .ok (.aload_n 2, 1) := by decide +kernel
theorem dL_law_134 : decode cL_law 134 = .ok (.aload_n 0, 1) := by decide +kernel
theorem dL_law_135 : decode cL_law 135 = .ok (.iload 4, 2) := by decide +kernel
theorem dL_law_137 : decode cL_law 137 = .ok (.iconst 1, 1) := by decide +kernel
theorem dL_law_138 : decode cL_law 138 = .ok (.iadd, 1) := by decide +kernel
theorem dL_law_139 : decode cL_law 139 = .ok (.iaload, 1) := by decide +kernel
theorem dL_law_140 : decode cL_law 140 = .ok (.invokevirtual 76, 3) := by decide +kernel
theorem dL_law_143 : decode cL_law 143 = .ok (.istore 6, 2) := by decide +kernel
theorem dL_law_145 : decode cL_law 145 = .ok (.aload_n 2, 1) := by decide +kernel
theorem dL_law_146 : decode cL_law 146 = .ok (.invokevirtual 77, 3) := by decide +kernel
theorem dL_law_149 : decode cL_law 149 = .ok (.iload 5, 2) := by decide +kernel
theorem dL_law_151 : decode cL_law 151 = .ok (.if_icmp .eq 5, 3) := by decide +kernel
theorem dL_law_154 : decode cL_law 154 = .ok (.iconst 0, 1) := by decide +kernel
theorem dL_law_155 : decode cL_law 155 = .ok (.ireturn, 1) := by decide +kernel
theorem dL_law_156 : decode cL_law 156 = .ok (.iload 5, 2) := by decide +kernel
theorem dL_law_158 : decode cL_law 158 = .ok (.ifCond .ne 15, 3) := by decide +kernel
theorem dL_law_161 : decode cL_law 161 = .ok (.aload_n 3, 1) := by decide +kernel
theorem dL_law_162 : decode cL_law 162 = .ok (.iconst 0, 1) := by decide +kernel
theorem dL_law_163 : decode cL_law 163 = .ok (.laload, 1) := by decide +kernel
theorem dL_law_164 : decode cL_law 164 = .ok (.iload 6, 2) := by decide +kernel
theorem dL_law_166 : decode cL_law 166 = .ok (.i2l, 1) := by decide +kernel
theorem dL_law_167 : decode cL_law 167 = .ok (.lcmp, 1) := by decide +kernel
theorem dL_law_168 : decode cL_law 168 = .ok (.ifCond .eq 5, 3) := by decide +kernel
theorem dL_law_171 : decode cL_law 171 = .ok (.iconst 0, 1) := by decide +kernel
theorem dL_law_172 : decode cL_law 172 = .ok (.ireturn, 1) := by decide +kernel
theorem dL_law_173 : decode cL_law 173 = .ok (.goto 915, 3) := by decide +kernel
theorem dL_law_176 : decode cL_law 176 = .ok (.aload_n 1, 1) := by decide +kernel
theorem dL_law_177 : decode cL_law 177 = .ok (.aload_n 0, 1) := by decide +kernel
theorem dL_law_178 : decode cL_law 178 = .ok (.iload 4, 2) := by decide +kernel
theorem dL_law_180 : decode cL_law 180 = .ok (.iconst 1, 1) := by decide +kernel
theorem dL_law_181 : decode cL_law 181 = .ok (.iadd, 1) := by decide +kernel
theorem dL_law_182 : decode cL_law 182 = .ok (.iaload, 1) := by decide +kernel
theorem dL_law_183 : decode cL_law 183 = .ok (.aload_n 0, 1) := by decide +kernel
theorem dL_law_184 : decode cL_law 184 = .ok (.iload 4, 2) := by decide +kernel
theorem dL_law_186 : decode cL_law 186 = .ok (.iconst 2, 1) := by decide +kernel
theorem dL_law_187 : decode cL_law 187 = .ok (.iadd, 1) := by decide +kernel
theorem dL_law_188 : decode cL_law 188 = .ok (.iaload, 1) := by decide +kernel
theorem dL_law_189 : decode cL_law 189 = .ok (.aload_n 3, 1) := by decide +kernel
theorem dL_law_190 : decode cL_law 190 = .ok (.invokestatic 81, 3) := by decide +kernel
theorem dL_law_193 : decode cL_law 193 = .ok (.istore 5, 2) := by decide +kernel
theorem dL_law_195 : decode cL_law 195 = .ok (.aload_n 2, 1) := by decide +kernel
theorem dL_law_196 : decode cL_law 196 = .ok (.aload_n 0, 1) := by decide +kernel
theorem dL_law_197 : decode cL_law 197 = .ok (.iload 4, 2) := by decide +kernel
theorem dL_law_199 : decode cL_law 199 = .ok (.iconst 1, 1) := by decide +kernel
theorem dL_law_200 : decode cL_law 200 = .ok (.iadd, 1) := by decide +kernel
theorem dL_law_201 : decode cL_law 201 = .ok (.iaload, 1) := by decide +kernel
theorem dL_law_202 : decode cL_law 202 = .ok (.aload_n 0, 1) := by decide +kernel
theorem dL_law_203 : decode cL_law 203 = .ok (.iload 4, 2) := by decide +kernel
theorem dL_law_205 : decode cL_law 205 = .ok (.iconst 2, 1) := by decide +kernel
theorem dL_law_206 : decode cL_law 206 = .ok (.iadd, 1) := by decide +kernel
theorem dL_law_207 : decode cL_law 207 = .ok (.iaload, 1) := by decide +kernel
theorem dL_law_208 : decode cL_law 208 = .ok (.invokevirtual 84, 3) := by decide +kernel
theorem dL_law_211 : decode cL_law 211 = .ok (.istore 6, 2) := by decide +kernel
theorem dL_law_213 : decode cL_law 213 = .ok (.aload_n 2, 1) := by decide +kernel
theorem dL_law_214 : decode cL_law 214 = .ok (.invokevirtual 77, 3) := by decide +kernel
theorem dL_law_217 : decode cL_law 217 = .ok (.iload 5, 2) := by decide +kernel
theorem dL_law_219 : decode cL_law 219 = .ok (.if_icmp .eq 5, 3) := by decide +kernel
theorem dL_law_222 : decode cL_law 222 = .ok (.iconst 0, 1) := by decide +kernel
theorem dL_law_223 : decode cL_law 223 = .ok (.ireturn, 1) := by decide +kernel
theorem dL_law_224 : decode cL_law 224 = .ok (.iload 5, 2) := by decide +kernel
theorem dL_law_226 : decode cL_law 226 = .ok (.ifCond .ne 15, 3) := by decide +kernel
theorem dL_law_229 : decode cL_law 229 = .ok (.aload_n 3, 1) := by decide +kernel
theorem dL_law_230 : decode cL_law 230 = .ok (.iconst 0, 1) := by decide +kernel
theorem dL_law_231 : decode cL_law 231 = .ok (.laload, 1) := by decide +kernel
theorem dL_law_232 : decode cL_law 232 = .ok (.iload 6, 2) := by decide +kernel
theorem dL_law_234 : decode cL_law 234 = .ok (.i2l, 1) := by decide +kernel
theorem dL_law_235 : decode cL_law 235 = .ok (.lcmp, 1) := by decide +kernel
theorem dL_law_236 : decode cL_law 236 = .ok (.ifCond .eq 5, 3) := by decide +kernel
theorem dL_law_239 : decode cL_law 239 = .ok (.iconst 0, 1) := by decide +kernel
theorem dL_law_240 : decode cL_law 240 = .ok (.ireturn, 1) := by decide +kernel
theorem dL_law_241 : decode cL_law 241 = .ok (.goto 847, 3) := by decide +kernel
theorem dL_law_244 : decode cL_law 244 = .ok (.aload_n 1, 1) := by decide +kernel
theorem dL_law_245 : decode cL_law 245 = .ok (.aload_n 0, 1) := by decide +kernel
theorem dL_law_246 : decode cL_law 246 = .ok (.iload 4, 2) := by decide +kernel
theorem dL_law_248 : decode cL_law 248 = .ok (.iconst 1, 1) := by decide +kernel
theorem dL_law_249 : decode cL_law 249 = .ok (.iadd, 1) := by decide +kernel
theorem dL_law_250 : decode cL_law 250 = .ok (.iaload, 1) := by decide +kernel
theorem dL_law_251 : decode cL_law 251 = .ok (.aload_n 0, 1) := by decide +kernel
theorem dL_law_252 : decode cL_law 252 = .ok (.iload 4, 2) := by decide +kernel
theorem dL_law_254 : decode cL_law 254 = .ok (.iconst 2, 1) := by decide +kernel
theorem dL_law_255 : decode cL_law 255 = .ok (.iadd, 1) := by decide +kernel
theorem dL_law_256 : decode cL_law 256 = .ok (.iaload, 1) := by decide +kernel
theorem dL_law_257 : decode cL_law 257 = .ok (.aload_n 3, 1) := by decide +kernel
theorem dL_law_258 : decode cL_law 258 = .ok (.invokestatic 85, 3) := by decide +kernel
theorem dL_law_261 : decode cL_law 261 = .ok (.istore 5, 2) := by decide +kernel
theorem dL_law_263 : decode cL_law 263 = .ok (.aload_n 2, 1) := by decide +kernel
theorem dL_law_264 : decode cL_law 264 = .ok (.aload_n 0, 1) := by decide +kernel
theorem dL_law_265 : decode cL_law 265 = .ok (.iload 4, 2) := by decide +kernel
theorem dL_law_267 : decode cL_law 267 = .ok (.iconst 1, 1) := by decide +kernel
theorem dL_law_268 : decode cL_law 268 = .ok (.iadd, 1) := by decide +kernel
theorem dL_law_269 : decode cL_law 269 = .ok (.iaload, 1) := by decide +kernel
theorem dL_law_270 : decode cL_law 270 = .ok (.aload_n 0, 1) := by decide +kernel
theorem dL_law_271 : decode cL_law 271 = .ok (.iload 4, 2) := by decide +kernel
theorem dL_law_273 : decode cL_law 273 = .ok (.iconst 2, 1) := by decide +kernel
theorem dL_law_274 : decode cL_law 274 = .ok (.iadd, 1) := by decide +kernel
theorem dL_law_275 : decode cL_law 275 = .ok (.iaload, 1) := by decide +kernel
theorem dL_law_276 : decode cL_law 276 = .ok (.invokevirtual 87, 3) := by decide +kernel
theorem dL_law_279 : decode cL_law 279 = .ok (.istore 6, 2) := by decide +kernel
theorem dL_law_281 : decode cL_law 281 = .ok (.aload_n 2, 1) := by decide +kernel
theorem dL_law_282 : decode cL_law 282 = .ok (.invokevirtual 77, 3) := by decide +kernel
theorem dL_law_285 : decode cL_law 285 = .ok (.iload 5, 2) := by decide +kernel
theorem dL_law_287 : decode cL_law 287 = .ok (.if_icmp .eq 5, 3) := by decide +kernel
theorem dL_law_290 : decode cL_law 290 = .ok (.iconst 0, 1) := by decide +kernel
theorem dL_law_291 : decode cL_law 291 = .ok (.ireturn, 1) := by decide +kernel
theorem dL_law_292 : decode cL_law 292 = .ok (.iload 5, 2) := by decide +kernel
theorem dL_law_294 : decode cL_law 294 = .ok (.ifCond .ne 15, 3) := by decide +kernel
theorem dL_law_297 : decode cL_law 297 = .ok (.aload_n 3, 1) := by decide +kernel
theorem dL_law_298 : decode cL_law 298 = .ok (.iconst 0, 1) := by decide +kernel
theorem dL_law_299 : decode cL_law 299 = .ok (.laload, 1) := by decide +kernel
theorem dL_law_300 : decode cL_law 300 = .ok (.iload 6, 2) := by decide +kernel
theorem dL_law_302 : decode cL_law 302 = .ok (.i2l, 1) := by decide +kernel
theorem dL_law_303 : decode cL_law 303 = .ok (.lcmp, 1) := by decide +kernel
theorem dL_law_304 : decode cL_law 304 = .ok (.ifCond .eq 5, 3) := by decide +kernel
theorem dL_law_307 : decode cL_law 307 = .ok (.iconst 0, 1) := by decide +kernel
theorem dL_law_308 : decode cL_law 308 = .ok (.ireturn, 1) := by decide +kernel
theorem dL_law_309 : decode cL_law 309 = .ok (.goto 779, 3) := by decide +kernel
theorem dL_law_312 : decode cL_law 312 = .ok (.aload_n 1, 1) := by decide +kernel
theorem dL_law_313 : decode cL_law 313 = .ok (.aload_n 0, 1) := by decide +kernel
theorem dL_law_314 : decode cL_law 314 = .ok (.iload 4, 2) := by decide +kernel
theorem dL_law_316 : decode cL_law 316 = .ok (.iconst 1, 1) := by decide +kernel
theorem dL_law_317 : decode cL_law 317 = .ok (.iadd, 1) := by decide +kernel
theorem dL_law_318 : decode cL_law 318 = .ok (.iaload, 1) := by decide +kernel
theorem dL_law_319 : decode cL_law 319 = .ok (.aload_n 0, 1) := by decide +kernel
theorem dL_law_320 : decode cL_law 320 = .ok (.iload 4, 2) := by decide +kernel
theorem dL_law_322 : decode cL_law 322 = .ok (.iconst 2, 1) := by decide +kernel
theorem dL_law_323 : decode cL_law 323 = .ok (.iadd, 1) := by decide +kernel
theorem dL_law_324 : decode cL_law 324 = .ok (.iaload, 1) := by decide +kernel
theorem dL_law_325 : decode cL_law 325 = .ok (.aload_n 3, 1) := by decide +kernel
theorem dL_law_326 : decode cL_law 326 = .ok (.invokestatic 88, 3) := by decide +kernel
theorem dL_law_329 : decode cL_law 329 = .ok (.istore 5, 2) := by decide +kernel
theorem dL_law_331 : decode cL_law 331 = .ok (.aload_n 2, 1) := by decide +kernel
theorem dL_law_332 : decode cL_law 332 = .ok (.aload_n 0, 1) := by decide +kernel
theorem dL_law_333 : decode cL_law 333 = .ok (.iload 4, 2) := by decide +kernel
theorem dL_law_335 : decode cL_law 335 = .ok (.iconst 1, 1) := by decide +kernel
theorem dL_law_336 : decode cL_law 336 = .ok (.iadd, 1) := by decide +kernel
theorem dL_law_337 : decode cL_law 337 = .ok (.iaload, 1) := by decide +kernel
theorem dL_law_338 : decode cL_law 338 = .ok (.aload_n 0, 1) := by decide +kernel
theorem dL_law_339 : decode cL_law 339 = .ok (.iload 4, 2) := by decide +kernel
theorem dL_law_341 : decode cL_law 341 = .ok (.iconst 2, 1) := by decide +kernel
theorem dL_law_342 : decode cL_law 342 = .ok (.iadd, 1) := by decide +kernel
theorem dL_law_343 : decode cL_law 343 = .ok (.iaload, 1) := by decide +kernel
theorem dL_law_344 : decode cL_law 344 = .ok (.invokevirtual 90, 3) := by decide +kernel
theorem dL_law_347 : decode cL_law 347 = .ok (.istore 6, 2) := by decide +kernel
theorem dL_law_349 : decode cL_law 349 = .ok (.aload_n 2, 1) := by decide +kernel
theorem dL_law_350 : decode cL_law 350 = .ok (.invokevirtual 77, 3) := by decide +kernel
theorem dL_law_353 : decode cL_law 353 = .ok (.iload 5, 2) := by decide +kernel
theorem dL_law_355 : decode cL_law 355 = .ok (.if_icmp .eq 5, 3) := by decide +kernel
theorem dL_law_358 : decode cL_law 358 = .ok (.iconst 0, 1) := by decide +kernel
theorem dL_law_359 : decode cL_law 359 = .ok (.ireturn, 1) := by decide +kernel
theorem dL_law_360 : decode cL_law 360 = .ok (.iload 5, 2) := by decide +kernel
theorem dL_law_362 : decode cL_law 362 = .ok (.ifCond .ne 15, 3) := by decide +kernel
theorem dL_law_365 : decode cL_law 365 = .ok (.aload_n 3, 1) := by decide +kernel
theorem dL_law_366 : decode cL_law 366 = .ok (.iconst 0, 1) := by decide +kernel
theorem dL_law_367 : decode cL_law 367 = .ok (.laload, 1) := by decide +kernel
theorem dL_law_368 : decode cL_law 368 = .ok (.iload 6, 2) := by decide +kernel
theorem dL_law_370 : decode cL_law 370 = .ok (.i2l, 1) := by decide +kernel
theorem dL_law_371 : decode cL_law 371 = .ok (.lcmp, 1) := by decide +kernel
theorem dL_law_372 : decode cL_law 372 = .ok (.ifCond .eq 5, 3) := by decide +kernel
theorem dL_law_375 : decode cL_law 375 = .ok (.iconst 0, 1) := by decide +kernel
theorem dL_law_376 : decode cL_law 376 = .ok (.ireturn, 1) := by decide +kernel
theorem dL_law_377 : decode cL_law 377 = .ok (.goto 711, 3) := by decide +kernel
theorem dL_law_380 : decode cL_law 380 = .ok (.aload_n 1, 1) := by decide +kernel
theorem dL_law_381 : decode cL_law 381 = .ok (.aload_n 0, 1) := by decide +kernel
theorem dL_law_382 : decode cL_law 382 = .ok (.iload 4, 2) := by decide +kernel
theorem dL_law_384 : decode cL_law 384 = .ok (.iconst 1, 1) := by decide +kernel
theorem dL_law_385 : decode cL_law 385 = .ok (.iadd, 1) := by decide +kernel
theorem dL_law_386 : decode cL_law 386 = .ok (.iaload, 1) := by decide +kernel
theorem dL_law_387 : decode cL_law 387 = .ok (.aload_n 0, 1) := by decide +kernel
theorem dL_law_388 : decode cL_law 388 = .ok (.iload 4, 2) := by decide +kernel
theorem dL_law_390 : decode cL_law 390 = .ok (.iconst 2, 1) := by decide +kernel
theorem dL_law_391 : decode cL_law 391 = .ok (.iadd, 1) := by decide +kernel
theorem dL_law_392 : decode cL_law 392 = .ok (.iaload, 1) := by decide +kernel
theorem dL_law_393 : decode cL_law 393 = .ok (.aload_n 0, 1) := by decide +kernel
theorem dL_law_394 : decode cL_law 394 = .ok (.iload 4, 2) := by decide +kernel
theorem dL_law_396 : decode cL_law 396 = .ok (.iconst 3, 1) := by decide +kernel
theorem dL_law_397 : decode cL_law 397 = .ok (.iadd, 1) := by decide +kernel
theorem dL_law_398 : decode cL_law 398 = .ok (.iaload, 1) := by decide +kernel
theorem dL_law_399 : decode cL_law 399 = .ok (.invokestatic 91, 3) := by decide +kernel
theorem dL_law_402 : decode cL_law 402 = .ok (.istore 5, 2) := by decide +kernel
theorem dL_law_404 : decode cL_law 404 = .ok (.aload_n 2, 1) := by decide +kernel
theorem dL_law_405 : decode cL_law 405 = .ok (.aload_n 0, 1) := by decide +kernel
theorem dL_law_406 : decode cL_law 406 = .ok (.iload 4, 2) := by decide +kernel
theorem dL_law_408 : decode cL_law 408 = .ok (.iconst 1, 1) := by decide +kernel
theorem dL_law_409 : decode cL_law 409 = .ok (.iadd, 1) := by decide +kernel
theorem dL_law_410 : decode cL_law 410 = .ok (.iaload, 1) := by decide +kernel
theorem dL_law_411 : decode cL_law 411 = .ok (.aload_n 0, 1) := by decide +kernel
theorem dL_law_412 : decode cL_law 412 = .ok (.iload 4, 2) := by decide +kernel
theorem dL_law_414 : decode cL_law 414 = .ok (.iconst 2, 1) := by decide +kernel
theorem dL_law_415 : decode cL_law 415 = .ok (.iadd, 1) := by decide +kernel
theorem dL_law_416 : decode cL_law 416 = .ok (.iaload, 1) := by decide +kernel
theorem dL_law_417 : decode cL_law 417 = .ok (.aload_n 0, 1) := by decide +kernel
theorem dL_law_418 : decode cL_law 418 = .ok (.iload 4, 2) := by decide +kernel
theorem dL_law_420 : decode cL_law 420 = .ok (.iconst 3, 1) := by decide +kernel
theorem dL_law_421 : decode cL_law 421 = .ok (.iadd, 1) := by decide +kernel
theorem dL_law_422 : decode cL_law 422 = .ok (.iaload, 1) := by decide +kernel
theorem dL_law_423 : decode cL_law 423 = .ok (.invokevirtual 94, 3) := by decide +kernel
theorem dL_law_426 : decode cL_law 426 = .ok (.aload_n 2, 1) := by decide +kernel
theorem dL_law_427 : decode cL_law 427 = .ok (.invokevirtual 77, 3) := by decide +kernel
theorem dL_law_430 : decode cL_law 430 = .ok (.iload 5, 2) := by decide +kernel
theorem dL_law_432 : decode cL_law 432 = .ok (.if_icmp .eq 5, 3) := by decide +kernel
theorem dL_law_435 : decode cL_law 435 = .ok (.iconst 0, 1) := by decide +kernel
theorem dL_law_436 : decode cL_law 436 = .ok (.ireturn, 1) := by decide +kernel
theorem dL_law_437 : decode cL_law 437 = .ok (.goto 651, 3) := by decide +kernel
theorem dL_law_440 : decode cL_law 440 = .ok (.aload_n 1, 1) := by decide +kernel
theorem dL_law_441 : decode cL_law 441 = .ok (.aload_n 0, 1) := by decide +kernel
theorem dL_law_442 : decode cL_law 442 = .ok (.iload 4, 2) := by decide +kernel
theorem dL_law_444 : decode cL_law 444 = .ok (.iconst 1, 1) := by decide +kernel
theorem dL_law_445 : decode cL_law 445 = .ok (.iadd, 1) := by decide +kernel
theorem dL_law_446 : decode cL_law 446 = .ok (.iaload, 1) := by decide +kernel
theorem dL_law_447 : decode cL_law 447 = .ok (.aload_n 3, 1) := by decide +kernel
theorem dL_law_448 : decode cL_law 448 = .ok (.invokestatic 95, 3) := by decide +kernel
theorem dL_law_451 : decode cL_law 451 = .ok (.istore 5, 2) := by decide +kernel
theorem dL_law_453 : decode cL_law 453 = .ok (.aload_n 2, 1) := by decide +kernel
theorem dL_law_454 : decode cL_law 454 = .ok (.aload_n 0, 1) := by decide +kernel
theorem dL_law_455 : decode cL_law 455 = .ok (.iload 4, 2) := by decide +kernel
theorem dL_law_457 : decode cL_law 457 = .ok (.iconst 1, 1) := by decide +kernel
theorem dL_law_458 : decode cL_law 458 = .ok (.iadd, 1) := by decide +kernel
theorem dL_law_459 : decode cL_law 459 = .ok (.iaload, 1) := by decide +kernel
theorem dL_law_460 : decode cL_law 460 = .ok (.invokevirtual 97, 3) := by decide +kernel
theorem dL_law_463 : decode cL_law 463 = .ok (.istore 6, 2) := by decide +kernel
theorem dL_law_465 : decode cL_law 465 = .ok (.aload_n 2, 1) := by decide +kernel
theorem dL_law_466 : decode cL_law 466 = .ok (.invokevirtual 77, 3) := by decide +kernel
theorem dL_law_469 : decode cL_law 469 = .ok (.iload 5, 2) := by decide +kernel
theorem dL_law_471 : decode cL_law 471 = .ok (.if_icmp .eq 5, 3) := by decide +kernel
theorem dL_law_474 : decode cL_law 474 = .ok (.iconst 0, 1) := by decide +kernel
theorem dL_law_475 : decode cL_law 475 = .ok (.ireturn, 1) := by decide +kernel
theorem dL_law_476 : decode cL_law 476 = .ok (.iload 5, 2) := by decide +kernel
theorem dL_law_478 : decode cL_law 478 = .ok (.ifCond .ne 15, 3) := by decide +kernel
theorem dL_law_481 : decode cL_law 481 = .ok (.aload_n 3, 1) := by decide +kernel
theorem dL_law_482 : decode cL_law 482 = .ok (.iconst 0, 1) := by decide +kernel
theorem dL_law_483 : decode cL_law 483 = .ok (.laload, 1) := by decide +kernel
theorem dL_law_484 : decode cL_law 484 = .ok (.iload 6, 2) := by decide +kernel
theorem dL_law_486 : decode cL_law 486 = .ok (.i2l, 1) := by decide +kernel
theorem dL_law_487 : decode cL_law 487 = .ok (.lcmp, 1) := by decide +kernel
theorem dL_law_488 : decode cL_law 488 = .ok (.ifCond .eq 5, 3) := by decide +kernel
theorem dL_law_491 : decode cL_law 491 = .ok (.iconst 0, 1) := by decide +kernel
theorem dL_law_492 : decode cL_law 492 = .ok (.ireturn, 1) := by decide +kernel
theorem dL_law_493 : decode cL_law 493 = .ok (.goto 595, 3) := by decide +kernel
theorem dL_law_496 : decode cL_law 496 = .ok (.aload_n 1, 1) := by decide +kernel
theorem dL_law_497 : decode cL_law 497 = .ok (.invokevirtual 98, 3) := by decide +kernel
theorem dL_law_500 : decode cL_law 500 = .ok (.aload_n 2, 1) := by decide +kernel
theorem dL_law_501 : decode cL_law 501 = .ok (.invokevirtual 101, 3) := by decide +kernel
theorem dL_law_504 : decode cL_law 504 = .ok (.if_icmp .eq 584, 3) := by decide +kernel
theorem dL_law_507 : decode cL_law 507 = .ok (.iconst 0, 1) := by decide +kernel
theorem dL_law_508 : decode cL_law 508 = .ok (.ireturn, 1) := by decide +kernel
theorem dL_law_509 : decode cL_law 509 = .ok (.aload_n 1, 1) := by decide +kernel
theorem dL_law_510 : decode cL_law 510 = .ok (.aload_n 0, 1) := by decide +kernel
theorem dL_law_511 : decode cL_law 511 = .ok (.iload 4, 2) := by decide +kernel
theorem dL_law_513 : decode cL_law 513 = .ok (.iconst 1, 1) := by decide +kernel
theorem dL_law_514 : decode cL_law 514 = .ok (.iadd, 1) := by decide +kernel
theorem dL_law_515 : decode cL_law 515 = .ok (.iaload, 1) := by decide +kernel
theorem dL_law_516 : decode cL_law 516 = .ok (.aload_n 3, 1) := by decide +kernel
theorem dL_law_517 : decode cL_law 517 = .ok (.invokestatic 102, 3) := by decide +kernel
theorem dL_law_520 : decode cL_law 520 = .ok (.istore 5, 2) := by decide +kernel
theorem dL_law_522 : decode cL_law 522 = .ok (.aload_n 2, 1) := by decide +kernel
theorem dL_law_523 : decode cL_law 523 = .ok (.aload_n 0, 1) := by decide +kernel
theorem dL_law_524 : decode cL_law 524 = .ok (.iload 4, 2) := by decide +kernel
theorem dL_law_526 : decode cL_law 526 = .ok (.iconst 1, 1) := by decide +kernel
theorem dL_law_527 : decode cL_law 527 = .ok (.iadd, 1) := by decide +kernel
theorem dL_law_528 : decode cL_law 528 = .ok (.iaload, 1) := by decide +kernel
theorem dL_law_529 : decode cL_law 529 = .ok (.invokevirtual 104, 3) := by decide +kernel
theorem dL_law_532 : decode cL_law 532 = .ok (.istore 6, 2) := by decide +kernel
theorem dL_law_534 : decode cL_law 534 = .ok (.aload_n 2, 1) := by decide +kernel
theorem dL_law_535 : decode cL_law 535 = .ok (.invokevirtual 77, 3) := by decide +kernel
theorem dL_law_538 : decode cL_law 538 = .ok (.iload 5, 2) := by decide +kernel
theorem dL_law_540 : decode cL_law 540 = .ok (.if_icmp .eq 5, 3) := by decide +kernel
theorem dL_law_543 : decode cL_law 543 = .ok (.iconst 0, 1) := by decide +kernel
theorem dL_law_544 : decode cL_law 544 = .ok (.ireturn, 1) := by decide +kernel
theorem dL_law_545 : decode cL_law 545 = .ok (.iload 5, 2) := by decide +kernel
theorem dL_law_547 : decode cL_law 547 = .ok (.ifCond .ne 15, 3) := by decide +kernel
theorem dL_law_550 : decode cL_law 550 = .ok (.aload_n 3, 1) := by decide +kernel
theorem dL_law_551 : decode cL_law 551 = .ok (.iconst 0, 1) := by decide +kernel
theorem dL_law_552 : decode cL_law 552 = .ok (.laload, 1) := by decide +kernel
theorem dL_law_553 : decode cL_law 553 = .ok (.iload 6, 2) := by decide +kernel
theorem dL_law_555 : decode cL_law 555 = .ok (.i2l, 1) := by decide +kernel
theorem dL_law_556 : decode cL_law 556 = .ok (.lcmp, 1) := by decide +kernel
theorem dL_law_557 : decode cL_law 557 = .ok (.ifCond .eq 5, 3) := by decide +kernel
theorem dL_law_560 : decode cL_law 560 = .ok (.iconst 0, 1) := by decide +kernel
theorem dL_law_561 : decode cL_law 561 = .ok (.ireturn, 1) := by decide +kernel
theorem dL_law_562 : decode cL_law 562 = .ok (.goto 526, 3) := by decide +kernel
theorem dL_law_565 : decode cL_law 565 = .ok (.aload_n 1, 1) := by decide +kernel
theorem dL_law_566 : decode cL_law 566 = .ok (.aload_n 0, 1) := by decide +kernel
theorem dL_law_567 : decode cL_law 567 = .ok (.iload 4, 2) := by decide +kernel
theorem dL_law_569 : decode cL_law 569 = .ok (.iconst 1, 1) := by decide +kernel
theorem dL_law_570 : decode cL_law 570 = .ok (.iadd, 1) := by decide +kernel
theorem dL_law_571 : decode cL_law 571 = .ok (.iaload, 1) := by decide +kernel
theorem dL_law_572 : decode cL_law 572 = .ok (.aload_n 3, 1) := by decide +kernel
theorem dL_law_573 : decode cL_law 573 = .ok (.invokestatic 105, 3) := by decide +kernel
theorem dL_law_576 : decode cL_law 576 = .ok (.istore 5, 2) := by decide +kernel
theorem dL_law_578 : decode cL_law 578 = .ok (.aload_n 2, 1) := by decide +kernel
theorem dL_law_579 : decode cL_law 579 = .ok (.aload_n 0, 1) := by decide +kernel
theorem dL_law_580 : decode cL_law 580 = .ok (.iload 4, 2) := by decide +kernel
theorem dL_law_582 : decode cL_law 582 = .ok (.iconst 1, 1) := by decide +kernel
theorem dL_law_583 : decode cL_law 583 = .ok (.iadd, 1) := by decide +kernel
theorem dL_law_584 : decode cL_law 584 = .ok (.iaload, 1) := by decide +kernel
theorem dL_law_585 : decode cL_law 585 = .ok (.invokevirtual 107, 3) := by decide +kernel
theorem dL_law_588 : decode cL_law 588 = .ok (.istore 6, 2) := by decide +kernel
theorem dL_law_590 : decode cL_law 590 = .ok (.aload_n 2, 1) := by decide +kernel
theorem dL_law_591 : decode cL_law 591 = .ok (.invokevirtual 77, 3) := by decide +kernel
theorem dL_law_594 : decode cL_law 594 = .ok (.iload 5, 2) := by decide +kernel
theorem dL_law_596 : decode cL_law 596 = .ok (.if_icmp .eq 5, 3) := by decide +kernel
theorem dL_law_599 : decode cL_law 599 = .ok (.iconst 0, 1) := by decide +kernel
theorem dL_law_600 : decode cL_law 600 = .ok (.ireturn, 1) := by decide +kernel
theorem dL_law_601 : decode cL_law 601 = .ok (.iload 5, 2) := by decide +kernel
theorem dL_law_603 : decode cL_law 603 = .ok (.ifCond .ne 15, 3) := by decide +kernel
theorem dL_law_606 : decode cL_law 606 = .ok (.aload_n 3, 1) := by decide +kernel
theorem dL_law_607 : decode cL_law 607 = .ok (.iconst 0, 1) := by decide +kernel
theorem dL_law_608 : decode cL_law 608 = .ok (.laload, 1) := by decide +kernel
theorem dL_law_609 : decode cL_law 609 = .ok (.iload 6, 2) := by decide +kernel
theorem dL_law_611 : decode cL_law 611 = .ok (.i2l, 1) := by decide +kernel
theorem dL_law_612 : decode cL_law 612 = .ok (.lcmp, 1) := by decide +kernel
theorem dL_law_613 : decode cL_law 613 = .ok (.ifCond .eq 5, 3) := by decide +kernel
theorem dL_law_616 : decode cL_law 616 = .ok (.iconst 0, 1) := by decide +kernel
theorem dL_law_617 : decode cL_law 617 = .ok (.ireturn, 1) := by decide +kernel
theorem dL_law_618 : decode cL_law 618 = .ok (.goto 470, 3) := by decide +kernel
theorem dL_law_621 : decode cL_law 621 = .ok (.aload_n 1, 1) := by decide +kernel
theorem dL_law_622 : decode cL_law 622 = .ok (.aload_n 0, 1) := by decide +kernel
theorem dL_law_623 : decode cL_law 623 = .ok (.iload 4, 2) := by decide +kernel
theorem dL_law_625 : decode cL_law 625 = .ok (.iconst 1, 1) := by decide +kernel
theorem dL_law_626 : decode cL_law 626 = .ok (.iadd, 1) := by decide +kernel
theorem dL_law_627 : decode cL_law 627 = .ok (.iaload, 1) := by decide +kernel
theorem dL_law_628 : decode cL_law 628 = .ok (.aload_n 3, 1) := by decide +kernel
theorem dL_law_629 : decode cL_law 629 = .ok (.invokestatic 108, 3) := by decide +kernel
theorem dL_law_632 : decode cL_law 632 = .ok (.istore 5, 2) := by decide +kernel
theorem dL_law_634 : decode cL_law 634 = .ok (.aload_n 2, 1) := by decide +kernel
theorem dL_law_635 : decode cL_law 635 = .ok (.aload_n 0, 1) := by decide +kernel
theorem dL_law_636 : decode cL_law 636 = .ok (.iload 4, 2) := by decide +kernel
theorem dL_law_638 : decode cL_law 638 = .ok (.iconst 1, 1) := by decide +kernel
theorem dL_law_639 : decode cL_law 639 = .ok (.iadd, 1) := by decide +kernel
theorem dL_law_640 : decode cL_law 640 = .ok (.iaload, 1) := by decide +kernel
theorem dL_law_641 : decode cL_law 641 = .ok (.invokevirtual 110, 3) := by decide +kernel
theorem dL_law_644 : decode cL_law 644 = .ok (.istore 6, 2) := by decide +kernel
theorem dL_law_646 : decode cL_law 646 = .ok (.aload_n 2, 1) := by decide +kernel
theorem dL_law_647 : decode cL_law 647 = .ok (.invokevirtual 77, 3) := by decide +kernel
theorem dL_law_650 : decode cL_law 650 = .ok (.iload 5, 2) := by decide +kernel
theorem dL_law_652 : decode cL_law 652 = .ok (.if_icmp .eq 5, 3) := by decide +kernel
theorem dL_law_655 : decode cL_law 655 = .ok (.iconst 0, 1) := by decide +kernel
theorem dL_law_656 : decode cL_law 656 = .ok (.ireturn, 1) := by decide +kernel
theorem dL_law_657 : decode cL_law 657 = .ok (.iload 5, 2) := by decide +kernel
theorem dL_law_659 : decode cL_law 659 = .ok (.ifCond .ne 15, 3) := by decide +kernel
theorem dL_law_662 : decode cL_law 662 = .ok (.aload_n 3, 1) := by decide +kernel
theorem dL_law_663 : decode cL_law 663 = .ok (.iconst 0, 1) := by decide +kernel
theorem dL_law_664 : decode cL_law 664 = .ok (.laload, 1) := by decide +kernel
theorem dL_law_665 : decode cL_law 665 = .ok (.iload 6, 2) := by decide +kernel
theorem dL_law_667 : decode cL_law 667 = .ok (.i2l, 1) := by decide +kernel
theorem dL_law_668 : decode cL_law 668 = .ok (.lcmp, 1) := by decide +kernel
theorem dL_law_669 : decode cL_law 669 = .ok (.ifCond .eq 5, 3) := by decide +kernel
theorem dL_law_672 : decode cL_law 672 = .ok (.iconst 0, 1) := by decide +kernel
theorem dL_law_673 : decode cL_law 673 = .ok (.ireturn, 1) := by decide +kernel
theorem dL_law_674 : decode cL_law 674 = .ok (.goto 414, 3) := by decide +kernel
theorem dL_law_677 : decode cL_law 677 = .ok (.aload_n 1, 1) := by decide +kernel
theorem dL_law_678 : decode cL_law 678 = .ok (.aload_n 0, 1) := by decide +kernel
theorem dL_law_679 : decode cL_law 679 = .ok (.iload 4, 2) := by decide +kernel
theorem dL_law_681 : decode cL_law 681 = .ok (.iconst 1, 1) := by decide +kernel
theorem dL_law_682 : decode cL_law 682 = .ok (.iadd, 1) := by decide +kernel
theorem dL_law_683 : decode cL_law 683 = .ok (.iaload, 1) := by decide +kernel
theorem dL_law_684 : decode cL_law 684 = .ok (.aload_n 3, 1) := by decide +kernel
theorem dL_law_685 : decode cL_law 685 = .ok (.invokestatic 111, 3) := by decide +kernel
theorem dL_law_688 : decode cL_law 688 = .ok (.istore 5, 2) := by decide +kernel
theorem dL_law_690 : decode cL_law 690 = .ok (.aload_n 2, 1) := by decide +kernel
theorem dL_law_691 : decode cL_law 691 = .ok (.aload_n 0, 1) := by decide +kernel
theorem dL_law_692 : decode cL_law 692 = .ok (.iload 4, 2) := by decide +kernel
theorem dL_law_694 : decode cL_law 694 = .ok (.iconst 1, 1) := by decide +kernel
theorem dL_law_695 : decode cL_law 695 = .ok (.iadd, 1) := by decide +kernel
theorem dL_law_696 : decode cL_law 696 = .ok (.iaload, 1) := by decide +kernel
theorem dL_law_697 : decode cL_law 697 = .ok (.invokevirtual 113, 3) := by decide +kernel
theorem dL_law_700 : decode cL_law 700 = .ok (.istore 6, 2) := by decide +kernel
theorem dL_law_702 : decode cL_law 702 = .ok (.aload_n 2, 1) := by decide +kernel
theorem dL_law_703 : decode cL_law 703 = .ok (.invokevirtual 77, 3) := by decide +kernel
theorem dL_law_706 : decode cL_law 706 = .ok (.iload 5, 2) := by decide +kernel
theorem dL_law_708 : decode cL_law 708 = .ok (.if_icmp .eq 5, 3) := by decide +kernel
theorem dL_law_711 : decode cL_law 711 = .ok (.iconst 0, 1) := by decide +kernel
theorem dL_law_712 : decode cL_law 712 = .ok (.ireturn, 1) := by decide +kernel
theorem dL_law_713 : decode cL_law 713 = .ok (.iload 5, 2) := by decide +kernel
theorem dL_law_715 : decode cL_law 715 = .ok (.ifCond .ne 15, 3) := by decide +kernel
theorem dL_law_718 : decode cL_law 718 = .ok (.aload_n 3, 1) := by decide +kernel
theorem dL_law_719 : decode cL_law 719 = .ok (.iconst 0, 1) := by decide +kernel
theorem dL_law_720 : decode cL_law 720 = .ok (.laload, 1) := by decide +kernel
theorem dL_law_721 : decode cL_law 721 = .ok (.iload 6, 2) := by decide +kernel
theorem dL_law_723 : decode cL_law 723 = .ok (.i2l, 1) := by decide +kernel
theorem dL_law_724 : decode cL_law 724 = .ok (.lcmp, 1) := by decide +kernel
theorem dL_law_725 : decode cL_law 725 = .ok (.ifCond .eq 5, 3) := by decide +kernel
theorem dL_law_728 : decode cL_law 728 = .ok (.iconst 0, 1) := by decide +kernel
theorem dL_law_729 : decode cL_law 729 = .ok (.ireturn, 1) := by decide +kernel
theorem dL_law_730 : decode cL_law 730 = .ok (.goto 358, 3) := by decide +kernel
theorem dL_law_733 : decode cL_law 733 = .ok (.aload_n 1, 1) := by decide +kernel
theorem dL_law_734 : decode cL_law 734 = .ok (.aload_n 0, 1) := by decide +kernel
theorem dL_law_735 : decode cL_law 735 = .ok (.iload 4, 2) := by decide +kernel
theorem dL_law_737 : decode cL_law 737 = .ok (.iconst 1, 1) := by decide +kernel
theorem dL_law_738 : decode cL_law 738 = .ok (.iadd, 1) := by decide +kernel
theorem dL_law_739 : decode cL_law 739 = .ok (.iaload, 1) := by decide +kernel
theorem dL_law_740 : decode cL_law 740 = .ok (.aload_n 0, 1) := by decide +kernel
theorem dL_law_741 : decode cL_law 741 = .ok (.iload 4, 2) := by decide +kernel
theorem dL_law_743 : decode cL_law 743 = .ok (.iconst 2, 1) := by decide +kernel
theorem dL_law_744 : decode cL_law 744 = .ok (.iadd, 1) := by decide +kernel
theorem dL_law_745 : decode cL_law 745 = .ok (.iaload, 1) := by decide +kernel
theorem dL_law_746 : decode cL_law 746 = .ok (.aload_n 3, 1) := by decide +kernel
theorem dL_law_747 : decode cL_law 747 = .ok (.invokestatic 114, 3) := by decide +kernel
theorem dL_law_750 : decode cL_law 750 = .ok (.istore 5, 2) := by decide +kernel
theorem dL_law_752 : decode cL_law 752 = .ok (.aload_n 2, 1) := by decide +kernel
theorem dL_law_753 : decode cL_law 753 = .ok (.aload_n 0, 1) := by decide +kernel
theorem dL_law_754 : decode cL_law 754 = .ok (.iload 4, 2) := by decide +kernel
theorem dL_law_756 : decode cL_law 756 = .ok (.iconst 1, 1) := by decide +kernel
theorem dL_law_757 : decode cL_law 757 = .ok (.iadd, 1) := by decide +kernel
theorem dL_law_758 : decode cL_law 758 = .ok (.iaload, 1) := by decide +kernel
theorem dL_law_759 : decode cL_law 759 = .ok (.aload_n 0, 1) := by decide +kernel
theorem dL_law_760 : decode cL_law 760 = .ok (.iload 4, 2) := by decide +kernel
theorem dL_law_762 : decode cL_law 762 = .ok (.iconst 2, 1) := by decide +kernel
theorem dL_law_763 : decode cL_law 763 = .ok (.iadd, 1) := by decide +kernel
theorem dL_law_764 : decode cL_law 764 = .ok (.iaload, 1) := by decide +kernel
theorem dL_law_765 : decode cL_law 765 = .ok (.invokevirtual 116, 3) := by decide +kernel
theorem dL_law_768 : decode cL_law 768 = .ok (.istore 6, 2) := by decide +kernel
theorem dL_law_770 : decode cL_law 770 = .ok (.aload_n 2, 1) := by decide +kernel
theorem dL_law_771 : decode cL_law 771 = .ok (.invokevirtual 77, 3) := by decide +kernel
theorem dL_law_774 : decode cL_law 774 = .ok (.iload 5, 2) := by decide +kernel
theorem dL_law_776 : decode cL_law 776 = .ok (.if_icmp .eq 5, 3) := by decide +kernel
theorem dL_law_779 : decode cL_law 779 = .ok (.iconst 0, 1) := by decide +kernel
theorem dL_law_780 : decode cL_law 780 = .ok (.ireturn, 1) := by decide +kernel
theorem dL_law_781 : decode cL_law 781 = .ok (.iload 5, 2) := by decide +kernel
theorem dL_law_783 : decode cL_law 783 = .ok (.ifCond .ne 15, 3) := by decide +kernel
theorem dL_law_786 : decode cL_law 786 = .ok (.aload_n 3, 1) := by decide +kernel
theorem dL_law_787 : decode cL_law 787 = .ok (.iconst 0, 1) := by decide +kernel
theorem dL_law_788 : decode cL_law 788 = .ok (.laload, 1) := by decide +kernel
theorem dL_law_789 : decode cL_law 789 = .ok (.iload 6, 2) := by decide +kernel
theorem dL_law_791 : decode cL_law 791 = .ok (.i2l, 1) := by decide +kernel
theorem dL_law_792 : decode cL_law 792 = .ok (.lcmp, 1) := by decide +kernel
theorem dL_law_793 : decode cL_law 793 = .ok (.ifCond .eq 5, 3) := by decide +kernel
theorem dL_law_796 : decode cL_law 796 = .ok (.iconst 0, 1) := by decide +kernel
theorem dL_law_797 : decode cL_law 797 = .ok (.ireturn, 1) := by decide +kernel
theorem dL_law_798 : decode cL_law 798 = .ok (.goto 290, 3) := by decide +kernel
theorem dL_law_801 : decode cL_law 801 = .ok (.aload_n 1, 1) := by decide +kernel
theorem dL_law_802 : decode cL_law 802 = .ok (.aload_n 0, 1) := by decide +kernel
theorem dL_law_803 : decode cL_law 803 = .ok (.iload 4, 2) := by decide +kernel
theorem dL_law_805 : decode cL_law 805 = .ok (.iconst 1, 1) := by decide +kernel
theorem dL_law_806 : decode cL_law 806 = .ok (.iadd, 1) := by decide +kernel
theorem dL_law_807 : decode cL_law 807 = .ok (.iaload, 1) := by decide +kernel
theorem dL_law_808 : decode cL_law 808 = .ok (.aload_n 3, 1) := by decide +kernel
theorem dL_law_809 : decode cL_law 809 = .ok (.invokestatic 117, 3) := by decide +kernel
theorem dL_law_812 : decode cL_law 812 = .ok (.istore 5, 2) := by decide +kernel
theorem dL_law_814 : decode cL_law 814 = .ok (.aload_n 2, 1) := by decide +kernel
theorem dL_law_815 : decode cL_law 815 = .ok (.aload_n 0, 1) := by decide +kernel
theorem dL_law_816 : decode cL_law 816 = .ok (.iload 4, 2) := by decide +kernel
theorem dL_law_818 : decode cL_law 818 = .ok (.iconst 1, 1) := by decide +kernel
theorem dL_law_819 : decode cL_law 819 = .ok (.iadd, 1) := by decide +kernel
theorem dL_law_820 : decode cL_law 820 = .ok (.iaload, 1) := by decide +kernel
theorem dL_law_821 : decode cL_law 821 = .ok (.invokevirtual 119, 3) := by decide +kernel
theorem dL_law_824 : decode cL_law 824 = .ok (.istore 6, 2) := by decide +kernel
theorem dL_law_826 : decode cL_law 826 = .ok (.aload_n 2, 1) := by decide +kernel
theorem dL_law_827 : decode cL_law 827 = .ok (.invokevirtual 77, 3) := by decide +kernel
theorem dL_law_830 : decode cL_law 830 = .ok (.iload 5, 2) := by decide +kernel
theorem dL_law_832 : decode cL_law 832 = .ok (.if_icmp .eq 5, 3) := by decide +kernel
theorem dL_law_835 : decode cL_law 835 = .ok (.iconst 0, 1) := by decide +kernel
theorem dL_law_836 : decode cL_law 836 = .ok (.ireturn, 1) := by decide +kernel
theorem dL_law_837 : decode cL_law 837 = .ok (.iload 5, 2) := by decide +kernel
theorem dL_law_839 : decode cL_law 839 = .ok (.ifCond .ne 15, 3) := by decide +kernel
theorem dL_law_842 : decode cL_law 842 = .ok (.aload_n 3, 1) := by decide +kernel
theorem dL_law_843 : decode cL_law 843 = .ok (.iconst 0, 1) := by decide +kernel
theorem dL_law_844 : decode cL_law 844 = .ok (.laload, 1) := by decide +kernel
theorem dL_law_845 : decode cL_law 845 = .ok (.iload 6, 2) := by decide +kernel
theorem dL_law_847 : decode cL_law 847 = .ok (.i2l, 1) := by decide +kernel
theorem dL_law_848 : decode cL_law 848 = .ok (.lcmp, 1) := by decide +kernel
theorem dL_law_849 : decode cL_law 849 = .ok (.ifCond .eq 5, 3) := by decide +kernel
theorem dL_law_852 : decode cL_law 852 = .ok (.iconst 0, 1) := by decide +kernel
theorem dL_law_853 : decode cL_law 853 = .ok (.ireturn, 1) := by decide +kernel
theorem dL_law_854 : decode cL_law 854 = .ok (.goto 234, 3) := by decide +kernel
theorem dL_law_857 : decode cL_law 857 = .ok (.aload_n 1, 1) := by decide +kernel
theorem dL_law_858 : decode cL_law 858 = .ok (.aload_n 0, 1) := by decide +kernel
theorem dL_law_859 : decode cL_law 859 = .ok (.iload 4, 2) := by decide +kernel
theorem dL_law_861 : decode cL_law 861 = .ok (.iconst 1, 1) := by decide +kernel
theorem dL_law_862 : decode cL_law 862 = .ok (.iadd, 1) := by decide +kernel
theorem dL_law_863 : decode cL_law 863 = .ok (.iaload, 1) := by decide +kernel
theorem dL_law_864 : decode cL_law 864 = .ok (.aload_n 3, 1) := by decide +kernel
theorem dL_law_865 : decode cL_law 865 = .ok (.invokestatic 120, 3) := by decide +kernel
theorem dL_law_868 : decode cL_law 868 = .ok (.istore 5, 2) := by decide +kernel
theorem dL_law_870 : decode cL_law 870 = .ok (.aload_n 2, 1) := by decide +kernel
theorem dL_law_871 : decode cL_law 871 = .ok (.aload_n 0, 1) := by decide +kernel
theorem dL_law_872 : decode cL_law 872 = .ok (.iload 4, 2) := by decide +kernel
theorem dL_law_874 : decode cL_law 874 = .ok (.iconst 1, 1) := by decide +kernel
theorem dL_law_875 : decode cL_law 875 = .ok (.iadd, 1) := by decide +kernel
theorem dL_law_876 : decode cL_law 876 = .ok (.iaload, 1) := by decide +kernel
theorem dL_law_877 : decode cL_law 877 = .ok (.invokevirtual 122, 3) := by decide +kernel
theorem dL_law_880 : decode cL_law 880 = .ok (.istore 6, 2) := by decide +kernel
theorem dL_law_882 : decode cL_law 882 = .ok (.aload_n 2, 1) := by decide +kernel
theorem dL_law_883 : decode cL_law 883 = .ok (.invokevirtual 77, 3) := by decide +kernel
theorem dL_law_886 : decode cL_law 886 = .ok (.iload 5, 2) := by decide +kernel
theorem dL_law_888 : decode cL_law 888 = .ok (.if_icmp .eq 5, 3) := by decide +kernel
theorem dL_law_891 : decode cL_law 891 = .ok (.iconst 0, 1) := by decide +kernel
theorem dL_law_892 : decode cL_law 892 = .ok (.ireturn, 1) := by decide +kernel
theorem dL_law_893 : decode cL_law 893 = .ok (.iload 5, 2) := by decide +kernel
theorem dL_law_895 : decode cL_law 895 = .ok (.ifCond .ne 15, 3) := by decide +kernel
theorem dL_law_898 : decode cL_law 898 = .ok (.aload_n 3, 1) := by decide +kernel
theorem dL_law_899 : decode cL_law 899 = .ok (.iconst 0, 1) := by decide +kernel
theorem dL_law_900 : decode cL_law 900 = .ok (.laload, 1) := by decide +kernel
theorem dL_law_901 : decode cL_law 901 = .ok (.iload 6, 2) := by decide +kernel
theorem dL_law_903 : decode cL_law 903 = .ok (.i2l, 1) := by decide +kernel
theorem dL_law_904 : decode cL_law 904 = .ok (.lcmp, 1) := by decide +kernel
theorem dL_law_905 : decode cL_law 905 = .ok (.ifCond .eq 5, 3) := by decide +kernel
theorem dL_law_908 : decode cL_law 908 = .ok (.iconst 0, 1) := by decide +kernel
theorem dL_law_909 : decode cL_law 909 = .ok (.ireturn, 1) := by decide +kernel
theorem dL_law_910 : decode cL_law 910 = .ok (.goto 178, 3) := by decide +kernel
theorem dL_law_913 : decode cL_law 913 = .ok (.aload_n 1, 1) := by decide +kernel
theorem dL_law_914 : decode cL_law 914 = .ok (.aload_n 0, 1) := by decide +kernel
theorem dL_law_915 : decode cL_law 915 = .ok (.iload 4, 2) := by decide +kernel
theorem dL_law_917 : decode cL_law 917 = .ok (.iconst 1, 1) := by decide +kernel
theorem dL_law_918 : decode cL_law 918 = .ok (.iadd, 1) := by decide +kernel
theorem dL_law_919 : decode cL_law 919 = .ok (.iaload, 1) := by decide +kernel
theorem dL_law_920 : decode cL_law 920 = .ok (.aload_n 3, 1) := by decide +kernel
theorem dL_law_921 : decode cL_law 921 = .ok (.invokestatic 123, 3) := by decide +kernel
theorem dL_law_924 : decode cL_law 924 = .ok (.istore 5, 2) := by decide +kernel
theorem dL_law_926 : decode cL_law 926 = .ok (.aload_n 2, 1) := by decide +kernel
theorem dL_law_927 : decode cL_law 927 = .ok (.aload_n 0, 1) := by decide +kernel
theorem dL_law_928 : decode cL_law 928 = .ok (.iload 4, 2) := by decide +kernel
theorem dL_law_930 : decode cL_law 930 = .ok (.iconst 1, 1) := by decide +kernel
theorem dL_law_931 : decode cL_law 931 = .ok (.iadd, 1) := by decide +kernel
theorem dL_law_932 : decode cL_law 932 = .ok (.iaload, 1) := by decide +kernel
theorem dL_law_933 : decode cL_law 933 = .ok (.invokevirtual 125, 3) := by decide +kernel
theorem dL_law_936 : decode cL_law 936 = .ok (.istore 6, 2) := by decide +kernel
theorem dL_law_938 : decode cL_law 938 = .ok (.aload_n 2, 1) := by decide +kernel
theorem dL_law_939 : decode cL_law 939 = .ok (.invokevirtual 77, 3) := by decide +kernel
theorem dL_law_942 : decode cL_law 942 = .ok (.iload 5, 2) := by decide +kernel
theorem dL_law_944 : decode cL_law 944 = .ok (.if_icmp .eq 5, 3) := by decide +kernel
theorem dL_law_947 : decode cL_law 947 = .ok (.iconst 0, 1) := by decide +kernel
theorem dL_law_948 : decode cL_law 948 = .ok (.ireturn, 1) := by decide +kernel
theorem dL_law_949 : decode cL_law 949 = .ok (.iload 5, 2) := by decide +kernel
theorem dL_law_951 : decode cL_law 951 = .ok (.ifCond .ne 15, 3) := by decide +kernel
theorem dL_law_954 : decode cL_law 954 = .ok (.aload_n 3, 1) := by decide +kernel
theorem dL_law_955 : decode cL_law 955 = .ok (.iconst 0, 1) := by decide +kernel
theorem dL_law_956 : decode cL_law 956 = .ok (.laload, 1) := by decide +kernel
theorem dL_law_957 : decode cL_law 957 = .ok (.iload 6, 2) := by decide +kernel
theorem dL_law_959 : decode cL_law 959 = .ok (.i2l, 1) := by decide +kernel
theorem dL_law_960 : decode cL_law 960 = .ok (.lcmp, 1) := by decide +kernel
theorem dL_law_961 : decode cL_law 961 = .ok (.ifCond .eq 5, 3) := by decide +kernel
theorem dL_law_964 : decode cL_law 964 = .ok (.iconst 0, 1) := by decide +kernel
theorem dL_law_965 : decode cL_law 965 = .ok (.ireturn, 1) := by decide +kernel
theorem dL_law_966 : decode cL_law 966 = .ok (.goto 122, 3) := by decide +kernel
theorem dL_law_969 : decode cL_law 969 = .ok (.aload_n 1, 1) := by decide +kernel
theorem dL_law_970 : decode cL_law 970 = .ok (.aload_n 0, 1) := by decide +kernel
theorem dL_law_971 : decode cL_law 971 = .ok (.iload 4, 2) := by decide +kernel
theorem dL_law_973 : decode cL_law 973 = .ok (.iconst 1, 1) := by decide +kernel
theorem dL_law_974 : decode cL_law 974 = .ok (.iadd, 1) := by decide +kernel
theorem dL_law_975 : decode cL_law 975 = .ok (.iaload, 1) := by decide +kernel
theorem dL_law_976 : decode cL_law 976 = .ok (.aload_n 3, 1) := by decide +kernel
theorem dL_law_977 : decode cL_law 977 = .ok (.invokestatic 126, 3) := by decide +kernel
theorem dL_law_980 : decode cL_law 980 = .ok (.istore 5, 2) := by decide +kernel
theorem dL_law_982 : decode cL_law 982 = .ok (.aload_n 2, 1) := by decide +kernel
theorem dL_law_983 : decode cL_law 983 = .ok (.aload_n 0, 1) := by decide +kernel
theorem dL_law_984 : decode cL_law 984 = .ok (.iload 4, 2) := by decide +kernel
theorem dL_law_986 : decode cL_law 986 = .ok (.iconst 1, 1) := by decide +kernel
theorem dL_law_987 : decode cL_law 987 = .ok (.iadd, 1) := by decide +kernel
theorem dL_law_988 : decode cL_law 988 = .ok (.iaload, 1) := by decide +kernel
theorem dL_law_989 : decode cL_law 989 = .ok (.invokevirtual 128, 3) := by decide +kernel
theorem dL_law_992 : decode cL_law 992 = .ok (.istore 6, 2) := by decide +kernel
theorem dL_law_994 : decode cL_law 994 = .ok (.aload_n 2, 1) := by decide +kernel
theorem dL_law_995 : decode cL_law 995 = .ok (.invokevirtual 77, 3) := by decide +kernel
theorem dL_law_998 : decode cL_law 998 = .ok (.iload 5, 2) := by decide +kernel
theorem dL_law_1000 : decode cL_law 1000 = .ok (.if_icmp .eq 5, 3) := by decide +kernel
theorem dL_law_1003 : decode cL_law 1003 = .ok (.iconst 0, 1) := by decide +kernel
theorem dL_law_1004 : decode cL_law 1004 = .ok (.ireturn, 1) := by decide +kernel
theorem dL_law_1005 : decode cL_law 1005 = .ok (.iload 5, 2) := by decide +kernel
theorem dL_law_1007 : decode cL_law 1007 = .ok (.ifCond .ne 22, 3) := by decide +kernel
theorem dL_law_1010 : decode cL_law 1010 = .ok (.aload_n 3, 1) := by decide +kernel
theorem dL_law_1011 : decode cL_law 1011 = .ok (.iconst 0, 1) := by decide +kernel
theorem dL_law_1012 : decode cL_law 1012 = .ok (.laload, 1) := by decide +kernel
theorem dL_law_1013 : decode cL_law 1013 = .ok (.iload 6, 2) := by decide +kernel
theorem dL_law_1015 : decode cL_law 1015 = .ok (.ifCond .eq 7, 3) := by decide +kernel
theorem dL_law_1018 : decode cL_law 1018 = .ok (.lconst 1, 1) := by decide +kernel
theorem dL_law_1019 : decode cL_law 1019 = .ok (.goto 4, 3) := by decide +kernel
theorem dL_law_1022 : decode cL_law 1022 = .ok (.lconst 0, 1) := by decide +kernel
theorem dL_law_1023 : decode cL_law 1023 = .ok (.lcmp, 1) := by decide +kernel
theorem dL_law_1024 : decode cL_law 1024 = .ok (.ifCond .eq 5, 3) := by decide +kernel
theorem dL_law_1027 : decode cL_law 1027 = .ok (.iconst 0, 1) := by decide +kernel
theorem dL_law_1028 : decode cL_law 1028 = .ok (.ireturn, 1) := by decide +kernel
theorem dL_law_1029 : decode cL_law 1029 = .ok (.goto 59, 3) := by decide +kernel
theorem dL_law_1032 : decode cL_law 1032 = .ok (.aload_n 1, 1) := by decide +kernel
theorem dL_law_1033 : decode cL_law 1033 = .ok (.aload_n 0, 1) := by decide +kernel
theorem dL_law_1034 : decode cL_law 1034 = .ok (.iload 4, 2) := by decide +kernel
theorem dL_law_1036 : decode cL_law 1036 = .ok (.iconst 1, 1) := by decide +kernel
theorem dL_law_1037 : decode cL_law 1037 = .ok (.iadd, 1) := by decide +kernel
theorem dL_law_1038 : decode cL_law 1038 = .ok (.iaload, 1) := by decide +kernel
theorem dL_law_1039 : decode cL_law 1039 = .ok (.aload_n 3, 1) := by decide +kernel
theorem dL_law_1040 : decode cL_law 1040 = .ok (.invokestatic 129, 3) := by decide +kernel
theorem dL_law_1043 : decode cL_law 1043 = .ok (.istore 5, 2) := by decide +kernel
theorem dL_law_1045 : decode cL_law 1045 = .ok (.aload_n 2, 1) := by decide +kernel
theorem dL_law_1046 : decode cL_law 1046 = .ok (.aload_n 0, 1) := by decide +kernel
theorem dL_law_1047 : decode cL_law 1047 = .ok (.iload 4, 2) := by decide +kernel
theorem dL_law_1049 : decode cL_law 1049 = .ok (.iconst 1, 1) := by decide +kernel
theorem dL_law_1050 : decode cL_law 1050 = .ok (.iadd, 1) := by decide +kernel
theorem dL_law_1051 : decode cL_law 1051 = .ok (.iaload, 1) := by decide +kernel
theorem dL_law_1052 : decode cL_law 1052 = .ok (.invokevirtual 131, 3) := by decide +kernel
theorem dL_law_1055 : decode cL_law 1055 = .ok (.istore 6, 2) := by decide +kernel
theorem dL_law_1057 : decode cL_law 1057 = .ok (.aload_n 2, 1) := by decide +kernel
theorem dL_law_1058 : decode cL_law 1058 = .ok (.invokevirtual 77, 3) := by decide +kernel
theorem dL_law_1061 : decode cL_law 1061 = .ok (.iload 5, 2) := by decide +kernel
theorem dL_law_1063 : decode cL_law 1063 = .ok (.if_icmp .eq 5, 3) := by decide +kernel
theorem dL_law_1066 : decode cL_law 1066 = .ok (.iconst 0, 1) := by decide +kernel
theorem dL_law_1067 : decode cL_law 1067 = .ok (.ireturn, 1) := by decide +kernel
theorem dL_law_1068 : decode cL_law 1068 = .ok (.iload 5, 2) := by decide +kernel
theorem dL_law_1070 : decode cL_law 1070 = .ok (.ifCond .ne 15, 3) := by decide +kernel
theorem dL_law_1073 : decode cL_law 1073 = .ok (.aload_n 3, 1) := by decide +kernel
theorem dL_law_1074 : decode cL_law 1074 = .ok (.iconst 0, 1) := by decide +kernel
theorem dL_law_1075 : decode cL_law 1075 = .ok (.laload, 1) := by decide +kernel
theorem dL_law_1076 : decode cL_law 1076 = .ok (.iload 6, 2) := by decide +kernel
theorem dL_law_1078 : decode cL_law 1078 = .ok (.i2l, 1) := by decide +kernel
theorem dL_law_1079 : decode cL_law 1079 = .ok (.lcmp, 1) := by decide +kernel
theorem dL_law_1080 : decode cL_law 1080 = .ok (.ifCond .eq 5, 3) := by decide +kernel
theorem dL_law_1083 : decode cL_law 1083 = .ok (.iconst 0, 1) := by decide +kernel
theorem dL_law_1084 : decode cL_law 1084 = .ok (.ireturn, 1) := by decide +kernel
theorem dL_law_1085 : decode cL_law 1085 = .ok (.goto 3, 3) := by decide +kernel
theorem dL_law_1088 : decode cL_law 1088 = .ok (.iinc 4 4, 3) := by decide +kernel
theorem dL_law_1091 : decode cL_law 1091 = .ok (.goto (-1068), 3) := by decide +kernel
theorem dL_law_1094 : decode cL_law 1094 = .ok (.iconst 1, 1) := by decide +kernel
theorem dL_law_1095 : decode cL_law 1095 = .ok (.ireturn, 1) := by decide +kernel
end
section
def GC0 : List Cond := [Cond.code yX0_init cX0_init 1 none, Cond.methodLink RX0 3 objectInit, Cond.instanceMethod objectInit, Cond.code objectInit ⟨#[0xb1]⟩ 1 none, Cond.arrayClass .int, Cond.fieldLink RX0 9 "RoomForecast$Cleanings" "sizes" "[I", Cond.code yX0_number cX0_number 1 (some .int), Cond.fieldLink RX0 15 "RoomForecast$Cleanings" "count" "I", Cond.code yX0_freedInAll cX0_freedInAll 1 (some .int), Cond.fieldLink RX0 19 "RoomForecast$Cleanings" "freedInAll" "I", Cond.code yX0_put cX0_put 3 none, Cond.code yX7_middlePlace cX7_middlePlace 1 (some .int), Cond.code yX0_usualSize cX0_usualSize 1 (some .int), Cond.static yX7_middlePlace, Cond.initialized RX7, Cond.code yX1_init cX1_init 1 none, Cond.methodLink RX1 3 objectInit, Cond.fieldLink RX1 9 "RoomForecast$Line" "run" "I", Cond.code yX1_start cX1_start 3 none, Cond.fieldLink RX1 15 "RoomForecast$Line" "startDay" "I", Cond.fieldLink RX1 18 "RoomForecast$Line" "startUsed" "I", Cond.code yX1_climb cX1_climb 3 none, Cond.fieldLink RX1 21 "RoomForecast$Line" "rise" "I", Cond.code yJ9_floorDiv_f86c9 cJ9_floorDiv_f86c9 6 (some .long), Cond.code yX1_heightOn cX1_heightOn 4 (some .long), Cond.methodLink RX1 24 yJ9_floorDiv_f86c9, Cond.static yJ9_floorDiv_f86c9, Cond.initialized RJ9, Cond.code yX1_leastDaysToClimb cX1_leastDaysToClimb 2 (some .int), Cond.constantLong RX1 30 (1000)]
theorem GC0_ok : GC0.all goodWord = true := by decide +kernel
def GC1 : List Cond := [Cond.methodLink RX1 32 Lib.MathLoose.min_long.x, Cond.static Lib.MathLoose.min_long.x, Cond.initialized "java/lang/Math", Cond.code Lib.MathLoose.min_long.x Lib.MathLoose.min_long.code 4 (some .long), Cond.code yX1_commonDivisor cX1_commonDivisor 5 (some .int), Cond.methodLink RX1 39 Lib.Math.abs.name, Cond.static Lib.Math.abs.name, Cond.code Lib.Math.abs.name Lib.Math.abs.code 1 (some .int), Cond.code yX1_riseInLowestTerms cX1_riseInLowestTerms 2 (some .int), Cond.methodLink RX1 35 yX1_commonDivisor, Cond.instanceMethod yX1_commonDivisor, Cond.selects RX1 yX1_commonDivisor yX1_commonDivisor, Cond.initialized RX1, Cond.code yX1_runInLowestTerms cX1_runInLowestTerms 2 (some .int), Cond.code yX2_init cX2_init 1 none, Cond.methodLink RX2 3 objectInit, Cond.fieldLink RX2 9 "RoomForecast$PairSlopes" "rises" "[I", Cond.fieldLink RX2 15 "RoomForecast$PairSlopes" "runs" "[I", Cond.fieldLink RX2 18 "RoomForecast$PairSlopes" "earlier" "[I", Cond.fieldLink RX2 21 "RoomForecast$PairSlopes" "later" "[I", Cond.code yX4_number cX4_number 1 (some .int), Cond.fieldLink RX4 21 "RoomForecast$Samples" "count" "I", Cond.code yX4_has cX4_has 2 (some .boolean), Cond.code yX4_filledAt cX4_filledAt 2 (some .int), Cond.fieldLink RX4 18 "RoomForecast$Samples" "filled" "[I", Cond.methodLink RX4 32 yX4_has, Cond.instanceMethod yX4_has, Cond.selects RX4 yX4_has yX4_has, Cond.initialized RX4, Cond.code yX4_dayAt cX4_dayAt 2 (some .int)]
theorem GC1_ok : GC1.all goodWord = true := by decide +kernel
def GC2 : List Cond := [Cond.fieldLink RX4 9 "RoomForecast$Samples" "days" "[I", Cond.code yX2_has cX2_has 2 (some .boolean), Cond.fieldLink RX2 24 "RoomForecast$PairSlopes" "count" "I", Cond.code yX2_riseAt cX2_riseAt 2 (some .int), Cond.methodLink RX2 68 yX2_has, Cond.instanceMethod yX2_has, Cond.selects RX2 yX2_has yX2_has, Cond.initialized RX2, Cond.code yX2_runAt cX2_runAt 2 (some .int), Cond.code yX2_isGreater cX2_isGreater 4 (some .boolean), Cond.methodLink RX2 52 yX2_riseAt, Cond.instanceMethod yX2_riseAt, Cond.selects RX2 yX2_riseAt yX2_riseAt, Cond.methodLink RX2 55 yX2_runAt, Cond.instanceMethod yX2_runAt, Cond.selects RX2 yX2_runAt yX2_runAt, Cond.methodLink RX2 41 yX4_filledAt, Cond.instanceMethod yX4_filledAt, Cond.selects RX4 yX4_filledAt yX4_filledAt, Cond.methodLink RX2 45 yX4_dayAt, Cond.instanceMethod yX4_dayAt, Cond.selects RX4 yX4_dayAt yX4_dayAt, Cond.methodLink RX2 48 yX2_isGreater, Cond.instanceMethod yX2_isGreater, Cond.selects RX2 yX2_isGreater yX2_isGreater, Cond.code yX2_putInOrder cX2_putInOrder 7 none, Cond.fieldLink RX2 34 "RoomForecast$PairSlopes" "sampleCount" "I", Cond.methodLink RX2 28 yX4_number, Cond.instanceMethod yX4_number, Cond.selects RX4 yX4_number yX4_number]
theorem GC2_ok : GC2.all goodWord = true := by decide +kernel
def GC3 : List Cond := [Cond.methodLink RX2 37 yX2_putInOrder, Cond.instanceMethod yX2_putInOrder, Cond.selects RX2 yX2_putInOrder yX2_putInOrder, Cond.code yX2_orderAll cX2_orderAll 4 none, Cond.code yX2_numberWithout cX2_numberWithout 3 (some .int), Cond.code yX2_isWithout cX2_isWithout 3 (some .boolean), Cond.code yX2_middlePlaceWithout cX2_middlePlaceWithout 5 (some .int), Cond.methodLink RX2 58 yX2_numberWithout, Cond.instanceMethod yX2_numberWithout, Cond.selects RX2 yX2_numberWithout yX2_numberWithout, Cond.methodLink RX2 64 yX2_isWithout, Cond.instanceMethod yX2_isWithout, Cond.selects RX2 yX2_isWithout yX2_isWithout, Cond.code yX3_init cX3_init 1 none, Cond.methodLink RX3 1 objectInit, Cond.code yX3_change cX3_change 3 none, Cond.fieldLink RX3 7 "RoomForecast$Rule" "from" "I", Cond.fieldLink RX3 13 "RoomForecast$Rule" "every" "I", Cond.code yX3_daysUntil cX3_daysUntil 2 (some .int), Cond.code yX3_daysWithin cX3_daysWithin 3 (some .int), Cond.methodLink RX3 16 yX3_daysUntil, Cond.instanceMethod yX3_daysUntil, Cond.selects RX3 yX3_daysUntil yX3_daysUntil, Cond.initialized RX3, Cond.code yX4_init cX4_init 1 none, Cond.methodLink RX4 3 objectInit, Cond.fieldLink RX4 15 "RoomForecast$Samples" "used" "[I", Cond.code yX4_lastIsOf cX4_lastIsOf 2 (some .boolean), Cond.code yX4_openLastPlace cX4_openLastPlace 2 none, Cond.code yX4_put cX4_put 5 none]
theorem GC3_ok : GC3.all goodWord = true := by decide +kernel
def GC4 : List Cond := [Cond.methodLink RX4 25 yX4_lastIsOf, Cond.instanceMethod yX4_lastIsOf, Cond.selects RX4 yX4_lastIsOf yX4_lastIsOf, Cond.methodLink RX4 29 yX4_openLastPlace, Cond.instanceMethod yX4_openLastPlace, Cond.selects RX4 yX4_openLastPlace yX4_openLastPlace, Cond.code yX4_addFreedOn cX4_addFreedOn 3 none, Cond.code yX4_usedAt cX4_usedAt 2 (some .int), Cond.code yX4_lastPlaceWithout cX4_lastPlaceWithout 2 (some .int), Cond.code yX6_init cX6_init 1 none, Cond.methodLink RX6 3 objectInit, Cond.methodLink RX5 3 objectInit, Cond.classLink RX5 9 RX4, Cond.instantiable RX4 4, Cond.fieldLink RX5 12 "RoomForecast$Store" "samples" "LRoomForecast$Samples;", Cond.classLink RX5 18 RX2, Cond.instantiable RX2 6, Cond.fieldLink RX5 21 "RoomForecast$Store" "slopes" "LRoomForecast$PairSlopes;", Cond.classLink RX5 25 RX0, Cond.instantiable RX0 3, Cond.initialized RX0, Cond.fieldLink RX5 28 "RoomForecast$Store" "cleanings" "LRoomForecast$Cleanings;", Cond.classLink RX5 32 RX3, Cond.instantiable RX3 2, Cond.fieldLink RX5 35 "RoomForecast$Store" "rule" "LRoomForecast$Rule;", Cond.classLink RX5 39 RX1, Cond.instantiable RX1 4, Cond.fieldLink RX5 42 "RoomForecast$Store" "line" "LRoomForecast$Line;", Cond.classLink RX5 46 RX6, Cond.instantiable RX6 2]
theorem GC4_ok : GC4.all goodWord = true := by decide +kernel
def GC5 : List Cond := [Cond.initialized RX6, Cond.fieldLink RX5 49 "RoomForecast$Store" "warning" "LRoomForecast$Warning;", Cond.fieldLink RX5 53 "RoomForecast$Store" "size" "I", Cond.instanceMethod yX4_init, Cond.instanceMethod yX2_init, Cond.instanceMethod yX0_init, Cond.instanceMethod yX3_init, Cond.instanceMethod yX1_init, Cond.instanceMethod yX6_init, Cond.code yX5_init cX5_init 2 none, Cond.methodLink RX5 57 yX0_freedInAll, Cond.instanceMethod yX0_freedInAll, Cond.selects RX0 yX0_freedInAll yX0_freedInAll, Cond.methodLink RX5 61 yX4_put, Cond.instanceMethod yX4_put, Cond.selects RX4 yX4_put yX4_put, Cond.methodLink RX5 65 yX2_orderAll, Cond.instanceMethod yX2_orderAll, Cond.selects RX2 yX2_orderAll yX2_orderAll, Cond.code yX5_tellUsed cX5_tellUsed 3 none, Cond.methodLink RX5 69 yX0_put, Cond.instanceMethod yX0_put, Cond.selects RX0 yX0_put yX0_put, Cond.methodLink RX5 72 yX4_addFreedOn, Cond.instanceMethod yX4_addFreedOn, Cond.selects RX4 yX4_addFreedOn yX4_addFreedOn, Cond.code yX5_tellFreed cX5_tellFreed 3 none, Cond.code yX5_hasSlope cX5_hasSlope 1 (some .boolean), Cond.methodLink RX5 76 yX4_number, Cond.methodLink RX5 79 yX4_lastPlaceWithout]
theorem GC5_ok : GC5.all goodWord = true := by decide +kernel
def GC6 : List Cond := [Cond.instanceMethod yX4_lastPlaceWithout, Cond.selects RX4 yX4_lastPlaceWithout yX4_lastPlaceWithout, Cond.methodLink RX5 83 yX2_middlePlaceWithout, Cond.instanceMethod yX2_middlePlaceWithout, Cond.selects RX2 yX2_middlePlaceWithout yX2_middlePlaceWithout, Cond.methodLink RX5 86 yX4_dayAt, Cond.methodLink RX5 89 yX4_usedAt, Cond.instanceMethod yX4_usedAt, Cond.selects RX4 yX4_usedAt yX4_usedAt, Cond.methodLink RX5 92 yX1_start, Cond.instanceMethod yX1_start, Cond.selects RX1 yX1_start yX1_start, Cond.methodLink RX5 95 yX2_riseAt, Cond.methodLink RX5 98 yX2_runAt, Cond.methodLink RX5 101 yX1_climb, Cond.instanceMethod yX1_climb, Cond.selects RX1 yX1_climb yX1_climb, Cond.code yX5_drawLineWithout cX5_drawLineWithout 4 none, Cond.methodLink RX5 118 Lib.MathLoose.max_long.x, Cond.static Lib.MathLoose.max_long.x, Cond.code Lib.MathLoose.max_long.x Lib.MathLoose.max_long.code 4 (some .long), Cond.constantLong RX5 124 (2000000000), Cond.methodLink RX5 126 Lib.MathLoose.min_long.x, Cond.methodLink RX5 104 yX0_usualSize, Cond.instanceMethod yX0_usualSize, Cond.selects RX0 yX0_usualSize yX0_usualSize, Cond.methodLink RX5 110 yX3_daysWithin, Cond.instanceMethod yX3_daysWithin, Cond.selects RX3 yX3_daysWithin yX3_daysWithin, Cond.methodLink RX5 114 yX1_heightOn]
theorem GC6_ok : GC6.all goodWord = true := by decide +kernel
def GC7 : List Cond := [Cond.instanceMethod yX1_heightOn, Cond.selects RX1 yX1_heightOn yX1_heightOn, Cond.code yX5_roomOn cX5_roomOn 6 (some .int), Cond.methodLink RX5 146 Lib.Math.max.name, Cond.static Lib.Math.max.name, Cond.code Lib.Math.max.name Lib.Math.max.code 2 (some .int), Cond.constant RX5 136 (1000000), Cond.methodLink RX5 137 yX5_drawLineWithout, Cond.instanceMethod yX5_drawLineWithout, Cond.selects RX5 yX5_drawLineWithout yX5_drawLineWithout, Cond.initialized RX5, Cond.methodLink RX5 140 yX5_roomOn, Cond.instanceMethod yX5_roomOn, Cond.selects RX5 yX5_roomOn yX5_roomOn, Cond.methodLink RX5 143 yX1_leastDaysToClimb, Cond.instanceMethod yX1_leastDaysToClimb, Cond.selects RX1 yX1_leastDaysToClimb yX1_leastDaysToClimb, Cond.code yX5_fullDayWithout cX5_fullDayWithout 5 (some .int), Cond.methodLink RX5 129 yX5_hasSlope, Cond.instanceMethod yX5_hasSlope, Cond.selects RX5 yX5_hasSlope yX5_hasSlope, Cond.methodLink RX5 133 yX5_fullDayWithout, Cond.instanceMethod yX5_fullDayWithout, Cond.selects RX5 yX5_fullDayWithout yX5_fullDayWithout, Cond.code yX5_fullDay cX5_fullDay 1 (some .int), Cond.methodLink RX5 148 Lib.Math.min.name, Cond.static Lib.Math.min.name, Cond.code Lib.Math.min.name Lib.Math.min.code 2 (some .int), Cond.code yX5_earlyBound cX5_earlyBound 3 (some .int), Cond.code yX5_lateBound cX5_lateBound 3 (some .int)]
theorem GC7_ok : GC7.all goodWord = true := by decide +kernel
def GC8 : List Cond := [Cond.code yX6_lookChanges cX6_lookChanges 6 (some .boolean), Cond.fieldLink RX6 9 "RoomForecast$Warning" "on" "Z", Cond.fieldLink RX6 15 "RoomForecast$Warning" "wasNear" "Z", Cond.methodLink RX5 150 yX5_earlyBound, Cond.instanceMethod yX5_earlyBound, Cond.selects RX5 yX5_earlyBound yX5_earlyBound, Cond.methodLink RX5 153 yX6_lookChanges, Cond.instanceMethod yX6_lookChanges, Cond.selects RX6 yX6_lookChanges yX6_lookChanges, Cond.code yX5_lookOnDaysAfter cX5_lookOnDaysAfter 6 (some .int), Cond.code yJxa1e45_init_da8c8 cJxa1e45_init_da8c8 1 none, Cond.methodLink RJxa1e45 1 objectInit, Cond.code yJxc12de_init_da8c8 cJxc12de_init_da8c8 1 none, Cond.fieldLink RJxc12de 7 "java/util/AbstractList" "modCount" "I", Cond.methodLink RJxc12de 1 yJxa1e45_init_da8c8, Cond.instanceMethod yJxa1e45_init_da8c8, Cond.initialized RJxa1e45, Cond.code yJx4a65c_init_da8c8 cJx4a65c_init_da8c8 1 none, Cond.fieldLink RJx4a65c 39 "java/util/ArrayList" "DEFAULTCAPACITY_EMPTY_ELEMENTDATA" "[Ljava/lang/Object;", Cond.fieldLink RJx4a65c 9 "java/util/ArrayList" "elementData" "[Ljava/lang/Object;", Cond.methodLink RJx4a65c 1 yJxc12de_init_da8c8, Cond.instanceMethod yJxc12de_init_da8c8, Cond.initialized RJxc12de, Cond.code yX7_init cX7_init 1 none, Cond.methodLink RX7 3 objectInit, Cond.classLink RX7 9 RJx4a65c, Cond.instantiable RJx4a65c 3, Cond.initialized RJx4a65c, Cond.fieldLink RX7 12 "RoomForecast" "stores" "Ljava/util/ArrayList;", Cond.fieldLink RX7 16 "RoomForecast" "currentDay" "I"]
theorem GC8_ok : GC8.all goodWord = true := by decide +kernel
def GC9 : List Cond := [Cond.methodLink RX7 11 yJx4a65c_init_da8c8, Cond.instanceMethod yJx4a65c_init_da8c8, Cond.code yX7_demandRange cX7_demandRange 3 none, Cond.classLink RX7 140 "java/lang/IllegalArgumentException", Cond.initialized "java/lang/IllegalArgumentException", Cond.code yJx4a65c_size_8abf5 cJx4a65c_size_8abf5 1 (some .int), Cond.fieldLink RJx4a65c 48 "java/util/ArrayList" "size" "I", Cond.code yJ8_hugeLength_7cf53 cJ8_hugeLength_7cf53 3 (some .int), Cond.constant RJ8 200 (2147483639), Cond.code yJ8_newLength_cabcc cJ8_newLength_cabcc 4 (some .int), Cond.methodLink RJ8 194 Lib.Math.max.name, Cond.methodLink RJ8 201 yJ8_hugeLength_7cf53, Cond.static yJ8_hugeLength_7cf53, Cond.initialized RJ8, Cond.code yJ7_copyOf_6403c cJ7_copyOf_6403c 4 (some (.array (.object "java/lang/Object"))), Cond.classLink RJ7 110 "[Ljava/lang/Object;", Cond.classLink RJ7 2 "java/lang/Object", Cond.methodLink RJ7 304 Lib.Math.min.name, Cond.methodLink RJ7 150 arraycopyName, Cond.native arraycopyName, Cond.static arraycopyName, Cond.initialized "java/lang/System", Cond.code yJ7_copyOf_1904c cJ7_copyOf_1904c 2 (some (.array (.object "java/lang/Object"))), Cond.methodLink RJ7 86 ⟨"java/lang/Object", "getClass", "()Ljava/lang/Class;"⟩, Cond.selects "[Ljava/lang/Object;" ⟨"java/lang/Object", "getClass", "()Ljava/lang/Class;"⟩ ⟨"java/lang/Object", "getClass", "()Ljava/lang/Class;"⟩, Cond.instanceMethod ⟨"java/lang/Object", "getClass", "()Ljava/lang/Class;"⟩, Cond.native ⟨"java/lang/Object", "getClass", "()Ljava/lang/Class;"⟩, Cond.methodLink RJ7 300 yJ7_copyOf_6403c, Cond.static yJ7_copyOf_6403c, Cond.initialized RJ7]
theorem GC9_ok : GC9.all goodWord = true := by decide +kernel
def GC10 : List Cond := [Cond.methodLink RJx4a65c 79 Lib.Math.max.name, Cond.classLink RJx4a65c 7 "java/lang/Object", Cond.methodLink RJx4a65c 73 yJ8_newLength_cabcc, Cond.static yJ8_newLength_cabcc, Cond.methodLink RJx4a65c 66 yJ7_copyOf_1904c, Cond.static yJ7_copyOf_1904c, Cond.code yJx4a65c_grow_92f84 cJx4a65c_grow_92f84 4 (some (.array (.object "java/lang/Object"))), Cond.methodLink RJx4a65c 69 yJx4a65c_grow_92f84, Cond.instanceMethod yJx4a65c_grow_92f84, Cond.selects RJx4a65c yJx4a65c_grow_92f84 yJx4a65c_grow_92f84, Cond.code yJx4a65c_grow_d5877 cJx4a65c_grow_d5877 1 (some (.array (.object "java/lang/Object"))), Cond.methodLink RJx4a65c 129 yJx4a65c_grow_d5877, Cond.instanceMethod yJx4a65c_grow_d5877, Cond.selects RJx4a65c yJx4a65c_grow_d5877 yJx4a65c_grow_d5877, Cond.code yJx4a65c_add_72be8 cJx4a65c_add_72be8 4 none, Cond.fieldLink RJx4a65c 63 "java/util/ArrayList" "modCount" "I", Cond.sameField "java/util/ArrayList" "java/util/AbstractList" "modCount" "I", Cond.methodLink RJx4a65c 131 yJx4a65c_add_72be8, Cond.instanceMethod yJx4a65c_add_72be8, Cond.selects RJx4a65c yJx4a65c_add_72be8 yJx4a65c_add_72be8, Cond.code yJx4a65c_add_9ea2d cJx4a65c_add_9ea2d 2 (some .boolean), Cond.classLink RX7 29 "java/lang/IllegalStateException", Cond.initialized "java/lang/IllegalStateException", Cond.constant RX7 20 (1000000), Cond.classLink RX7 36 RX5, Cond.instantiable RX5 7, Cond.methodLink RX7 21 yX7_demandRange, Cond.static yX7_demandRange, Cond.methodLink RX7 25 yJx4a65c_size_8abf5, Cond.instanceMethod yJx4a65c_size_8abf5]
theorem GC10_ok : GC10.all goodWord = true := by decide +kernel
def GC11 : List Cond := [Cond.selects RJx4a65c yJx4a65c_size_8abf5 yJx4a65c_size_8abf5, Cond.methodLink RX7 38 yX5_init, Cond.instanceMethod yX5_init, Cond.methodLink RX7 41 yJx4a65c_add_9ea2d, Cond.instanceMethod yJx4a65c_add_9ea2d, Cond.selects RJx4a65c yJx4a65c_add_9ea2d yJx4a65c_add_9ea2d, Cond.code yX7_addStore cX7_addStore 2 (some .int), Cond.code yJ3_checkIndex_8e157 cJ3_checkIndex_8e157 3 (some .int), Cond.code yJ15_checkIndex_7cf53 cJ15_checkIndex_7cf53 2 (some .int), Cond.methodLink RJ15 105 yJ3_checkIndex_8e157, Cond.static yJ3_checkIndex_8e157, Cond.initialized RJ3, Cond.code yJx4a65c_elementData_915e3 cJx4a65c_elementData_915e3 2 (some (.object "java/lang/Object")), Cond.code yJx4a65c_get_915e3 cJx4a65c_get_915e3 2 (some (.object "java/lang/Object")), Cond.methodLink RJx4a65c 118 yJ15_checkIndex_7cf53, Cond.static yJ15_checkIndex_7cf53, Cond.initialized RJ15, Cond.methodLink RJx4a65c 123 yJx4a65c_elementData_915e3, Cond.instanceMethod yJx4a65c_elementData_915e3, Cond.selects RJx4a65c yJx4a65c_elementData_915e3 yJx4a65c_elementData_915e3, Cond.classLink RX7 159 "java/lang/IndexOutOfBoundsException", Cond.initialized "java/lang/IndexOutOfBoundsException", Cond.classLink RX7 36 "RoomForecast$Store", Cond.methodLink RX7 88 yJx4a65c_get_915e3, Cond.instanceMethod yJx4a65c_get_915e3, Cond.selects RJx4a65c yJx4a65c_get_915e3 yJx4a65c_get_915e3, Cond.code yX7_storeAt cX7_storeAt 2 (some (.object "RoomForecast$Store")), Cond.methodLink RX7 45 yX7_storeAt, Cond.instanceMethod yX7_storeAt, Cond.selects RX7 yX7_storeAt yX7_storeAt]
theorem GC11_ok : GC11.all goodWord = true := by decide +kernel
def GC12 : List Cond := [Cond.code yX7_setSize cX7_setSize 5 (some .int), Cond.methodLink RX7 51 yX5_tellUsed, Cond.instanceMethod yX5_tellUsed, Cond.selects RX5 yX5_tellUsed yX5_tellUsed, Cond.methodLink RX7 59 yX4_number, Cond.code yX7_sample cX7_sample 4 (some .int), Cond.constant RX7 64 (100000), Cond.methodLink RX7 69 yX0_number, Cond.instanceMethod yX0_number, Cond.selects RX0 yX0_number yX0_number, Cond.methodLink RX7 74 yX5_tellFreed, Cond.instanceMethod yX5_tellFreed, Cond.selects RX5 yX5_tellFreed yX5_tellFreed, Cond.code yX7_clean cX7_clean 4 (some .int), Cond.methodLink RX7 81 yX3_change, Cond.instanceMethod yX3_change, Cond.selects RX3 yX3_change yX3_change, Cond.code yX7_setRule cX7_setRule 5 none, Cond.methodLink RX7 92 yX5_lookOnDaysAfter, Cond.instanceMethod yX5_lookOnDaysAfter, Cond.selects RX5 yX5_lookOnDaysAfter yX5_lookOnDaysAfter, Cond.code yX7_pass cX7_pass 4 (some .int), Cond.code yX7_today cX7_today 1 (some .int), Cond.code yX7_samples cX7_samples 2 (some .int), Cond.methodLink RX7 164 yX5_hasSlope, Cond.methodLink RX7 170 yX5_drawLineWithout, Cond.code yX7_slopeOf cX7_slopeOf 3 (some (.object "RoomForecast$Line")), Cond.methodLink RX7 96 yX7_slopeOf, Cond.instanceMethod yX7_slopeOf, Cond.selects RX7 yX7_slopeOf yX7_slopeOf]
theorem GC12_ok : GC12.all goodWord = true := by decide +kernel
def GC13 : List Cond := [Cond.methodLink RX7 100 yX1_riseInLowestTerms, Cond.instanceMethod yX1_riseInLowestTerms, Cond.selects RX1 yX1_riseInLowestTerms yX1_riseInLowestTerms, Cond.code yX7_slopeNumerator cX7_slopeNumerator 2 (some .int), Cond.methodLink RX7 105 yX1_runInLowestTerms, Cond.instanceMethod yX1_runInLowestTerms, Cond.selects RX1 yX1_runInLowestTerms yX1_runInLowestTerms, Cond.code yX7_slopeDenominator cX7_slopeDenominator 2 (some .int), Cond.methodLink RX7 108 yX0_usualSize, Cond.code yX7_usual cX7_usual 2 (some .int), Cond.methodLink RX7 114 yX5_roomOn, Cond.code yX7_forecast cX7_forecast 5 (some .int), Cond.code yX7_dayOrNone cX7_dayOrNone 1 (some .int), Cond.methodLink RX7 118 yX5_fullDay, Cond.instanceMethod yX5_fullDay, Cond.selects RX5 yX5_fullDay yX5_fullDay, Cond.methodLink RX7 121 yX7_dayOrNone, Cond.static yX7_dayOrNone, Cond.code yX7_full cX7_full 2 (some .int), Cond.methodLink RX7 124 yX5_earlyBound, Cond.code yX7_early cX7_early 2 (some .int), Cond.methodLink RX7 127 yX5_lateBound, Cond.instanceMethod yX5_lateBound, Cond.selects RX5 yX5_lateBound yX5_lateBound, Cond.code yX7_late cX7_late 2 (some .int), Cond.code yX7_warns cX7_warns 2 (some .boolean), Cond.code yX7_isInPool cX7_isInPool 2 (some .boolean), Cond.methodLink RX7 177 yX7_isInPool, Cond.static yX7_isInPool, Cond.code yX7_drawPool cX7_drawPool 4 (some .boolean)]
theorem GC13_ok : GC13.all goodWord = true := by decide +kernel
def GC14 : List Cond := [Cond.code yX7_poolSize cX7_poolSize 5 (some .long), Cond.code yX7_poolRoomOn cX7_poolRoomOn 6 (some .long), Cond.methodLink RX7 145 yX7_drawPool, Cond.instanceMethod yX7_drawPool, Cond.selects RX7 yX7_drawPool yX7_drawPool, Cond.methodLink RX7 149 yX7_poolSize, Cond.instanceMethod yX7_poolSize, Cond.selects RX7 yX7_poolSize yX7_poolSize, Cond.methodLink RX7 153 yX7_poolRoomOn, Cond.instanceMethod yX7_poolRoomOn, Cond.selects RX7 yX7_poolRoomOn yX7_poolRoomOn, Cond.code yX7_poolFull cX7_poolFull 5 (some .int), Cond.methodLink RX8 1 objectInit, Cond.fieldLink RX8 7 "RoomForecastModel" "sizes" "[I", Cond.fieldLink RX8 13 "RoomForecastModel" "counts" "[I", Cond.fieldLink RX8 16 "RoomForecastModel" "days" "[I", Cond.fieldLink RX8 19 "RoomForecastModel" "used" "[I", Cond.fieldLink RX8 22 "RoomForecastModel" "cleaned" "[I", Cond.fieldLink RX8 25 "RoomForecastModel" "cleanDays" "[I", Cond.fieldLink RX8 28 "RoomForecastModel" "freed" "[I", Cond.fieldLink RX8 31 "RoomForecastModel" "froms" "[I", Cond.fieldLink RX8 34 "RoomForecastModel" "every" "[I", Cond.arrayClass .boolean, Cond.fieldLink RX8 37 "RoomForecastModel" "warns" "[Z", Cond.fieldLink RX8 41 "RoomForecastModel" "wasNear" "[Z", Cond.fieldLink RX8 44 "RoomForecastModel" "isFound" "[Z", Cond.fieldLink RX8 47 "RoomForecastModel" "earliest" "[I", Cond.fieldLink RX8 50 "RoomForecastModel" "latest" "[I", Cond.fieldLink RX8 53 "RoomForecastModel" "filled" "[I", Cond.fieldLink RX8 56 "RoomForecastModel" "numerators" "[I"]
theorem GC14_ok : GC14.all goodWord = true := by decide +kernel
def GC15 : List Cond := [Cond.fieldLink RX8 59 "RoomForecastModel" "denominators" "[I", Cond.fieldLink RX8 62 "RoomForecastModel" "slopeNs" "[I", Cond.fieldLink RX8 65 "RoomForecastModel" "slopeDs" "[I", Cond.fieldLink RX8 68 "RoomForecastModel" "lastDays" "[I", Cond.fieldLink RX8 71 "RoomForecastModel" "lastUseds" "[I", Cond.fieldLink RX8 74 "RoomForecastModel" "usuals" "[I", Cond.code yX8_init cX8_init 1 none, Cond.code yX8_thrown cX8_thrown 1 (some .int), Cond.fieldLink RX8 77 "RoomForecastModel" "thrown" "I", Cond.code yX8_goes cX8_goes 2 (some .boolean), Cond.code yX8_isIn cX8_isIn 3 (some .boolean), Cond.code yX8_isStore cX8_isStore 2 (some .boolean), Cond.fieldLink RX8 81 "RoomForecastModel" "stores" "I", Cond.methodLink RX8 84 yX8_isIn, Cond.static yX8_isIn, Cond.initialized RX8, Cond.code yX8_addStore cX8_addStore 2 (some .int), Cond.constant RX8 88 (1000000), Cond.methodLink RX8 89 yX8_goes, Cond.instanceMethod yX8_goes, Cond.selects RX8 yX8_goes yX8_goes, Cond.code yX8_setSize cX8_setSize 4 (some .int), Cond.methodLink RX8 93 yX8_isStore, Cond.instanceMethod yX8_isStore, Cond.selects RX8 yX8_isStore yX8_isStore, Cond.code yX8_sample cX8_sample 7 (some .int), Cond.fieldLink RX8 96 "RoomForecastModel" "today" "I", Cond.code yX8_clean cX8_clean 4 (some .int), Cond.constant RX8 99 (100000), Cond.code yX8_setRule cX8_setRule 5 none]
theorem GC15_ok : GC15.all goodWord = true := by decide +kernel
def GC16 : List Cond := [Cond.code yX8_middle cX8_middle 1 (some .int), Cond.code yX8_fill cX8_fill 5 (some .int), Cond.code yX8_compare cX8_compare 5 (some .int), Cond.code yX8_divisor cX8_divisor 5 (some .int), Cond.code yX8_laysSlopes cX8_laysSlopes 5 (some .boolean), Cond.fieldLink RX8 100 "RoomForecastModel" "slopes" "I", Cond.fieldLink RX8 107 "RoomForecastModel" "lastDay" "I", Cond.fieldLink RX8 110 "RoomForecastModel" "lastUsed" "I", Cond.methodLink RX8 103 yX8_fill, Cond.instanceMethod yX8_fill, Cond.selects RX8 yX8_fill yX8_fill, Cond.fieldLink RX8 127 "RoomForecastModel" "slopeN" "I", Cond.fieldLink RX8 130 "RoomForecastModel" "slopeD" "I", Cond.methodLink RX8 113 yX8_laysSlopes, Cond.instanceMethod yX8_laysSlopes, Cond.selects RX8 yX8_laysSlopes yX8_laysSlopes, Cond.methodLink RX8 117 yX8_compare, Cond.instanceMethod yX8_compare, Cond.selects RX8 yX8_compare yX8_compare, Cond.methodLink RX8 120 yX8_middle, Cond.static yX8_middle, Cond.methodLink RX8 124 yX8_divisor, Cond.static yX8_divisor, Cond.code yX8_findsSlope cX8_findsSlope 7 (some .boolean), Cond.code yX8_usualOf cX8_usualOf 8 (some .int), Cond.code yX8_ruled cX8_ruled 3 (some .int), Cond.code yX8_forecastFor cX8_forecastFor 10 (some .long), Cond.constantLong RX8 136 (2000000000), Cond.methodLink RX8 133 yX8_ruled, Cond.instanceMethod yX8_ruled]
theorem GC16_ok : GC16.all goodWord = true := by decide +kernel
def GC17 : List Cond := [Cond.selects RX8 yX8_ruled yX8_ruled, Cond.methodLink RX8 138 yX8_findsSlope, Cond.instanceMethod yX8_findsSlope, Cond.selects RX8 yX8_findsSlope yX8_findsSlope, Cond.methodLink RX8 141 yX8_usualOf, Cond.instanceMethod yX8_usualOf, Cond.selects RX8 yX8_usualOf yX8_usualOf, Cond.methodLink RX8 144 yX8_forecastFor, Cond.instanceMethod yX8_forecastFor, Cond.selects RX8 yX8_forecastFor yX8_forecastFor, Cond.code yX8_fullDay cX8_fullDay 6 (some .int), Cond.methodLink RX8 148 yX8_fullDay, Cond.instanceMethod yX8_fullDay, Cond.selects RX8 yX8_fullDay yX8_fullDay, Cond.code yX8_findsBounds cX8_findsBounds 4 none, Cond.methodLink RX8 151 yX8_findsBounds, Cond.instanceMethod yX8_findsBounds, Cond.selects RX8 yX8_findsBounds yX8_findsBounds, Cond.code yX8_looks cX8_looks 4 (some .boolean), Cond.methodLink RX8 155 yX8_looks, Cond.instanceMethod yX8_looks, Cond.selects RX8 yX8_looks yX8_looks, Cond.code yX8_pass cX8_pass 5 (some .int), Cond.code yX8_today cX8_today 1 (some .int), Cond.code yX8_asks cX8_asks 2 (some .boolean), Cond.code yX8_samples cX8_samples 2 (some .int), Cond.methodLink RX8 158 yX8_asks, Cond.instanceMethod yX8_asks, Cond.selects RX8 yX8_asks yX8_asks, Cond.code yX8_asksSlope cX8_asksSlope 2 (some .boolean)]
theorem GC17_ok : GC17.all goodWord = true := by decide +kernel
def GC18 : List Cond := [Cond.methodLink RX8 161 yX8_asksSlope, Cond.instanceMethod yX8_asksSlope, Cond.selects RX8 yX8_asksSlope yX8_asksSlope, Cond.code yX8_slopeNumerator cX8_slopeNumerator 2 (some .int), Cond.code yX8_slopeDenominator cX8_slopeDenominator 2 (some .int), Cond.code yX8_usual cX8_usual 2 (some .int), Cond.code yX8_forecast cX8_forecast 3 (some .int), Cond.code yX8_told cX8_told 1 (some .int), Cond.methodLink RX8 164 yX8_told, Cond.static yX8_told, Cond.code yX8_full cX8_full 2 (some .int), Cond.code yX8_early cX8_early 2 (some .int), Cond.code yX8_late cX8_late 2 (some .int), Cond.code yX8_warns cX8_warns 2 (some .boolean), Cond.code yX8_keeps cX8_keeps 2 none, Cond.code yX8_together cX8_together 6 (some .long), Cond.methodLink RX8 167 yX8_keeps, Cond.instanceMethod yX8_keeps, Cond.selects RX8 yX8_keeps yX8_keeps, Cond.methodLink RX8 170 yX8_together, Cond.instanceMethod yX8_together, Cond.selects RX8 yX8_together yX8_together, Cond.code yX8_poolFull cX8_poolFull 7 (some .int), Cond.code yJ9_abs_0f7a4 cJ9_abs_0f7a4 1 (some .int), Cond.code yJ9_max_7cf53 cJ9_max_7cf53 2 (some .int), Cond.code yJ9_max_f86c9 cJ9_max_f86c9 4 (some .long), Cond.code yJ9_min_7cf53 cJ9_min_7cf53 2 (some .int), Cond.code yJ9_min_f86c9 cJ9_min_f86c9 4 (some .long), Cond.classLink RL 13 "java/lang/IllegalArgumentException", Cond.classLink RL 15 "java/lang/IllegalStateException"]
theorem GC18_ok : GC18.all goodWord = true := by decide +kernel
def GC19 : List Cond := [Cond.methodLink RL 7 yX7_addStore, Cond.instanceMethod yX7_addStore, Cond.selects RX7 yX7_addStore yX7_addStore, Cond.codeWith yL_addStore cL_addStore 4 (some .int) [(0, 9, 12, 13), (0, 9, 15, 15)], Cond.classLink RL 21 "java/lang/IndexOutOfBoundsException", Cond.methodLink RL 17 yX7_setSize, Cond.instanceMethod yX7_setSize, Cond.selects RX7 yX7_setSize yX7_setSize, Cond.codeWith yL_setSize cL_setSize 5 (some .int) [(0, 10, 13, 21), (0, 10, 17, 13)], Cond.methodLink RL 23 yX7_sample, Cond.instanceMethod yX7_sample, Cond.selects RX7 yX7_sample yX7_sample, Cond.codeWith yL_sample cL_sample 5 (some .int) [(0, 10, 13, 21), (0, 10, 17, 13)], Cond.methodLink RL 26 yX7_clean, Cond.instanceMethod yX7_clean, Cond.selects RX7 yX7_clean yX7_clean, Cond.codeWith yL_clean cL_clean 5 (some .int) [(0, 10, 13, 21), (0, 10, 17, 13), (0, 10, 21, 15)], Cond.methodLink RL 29 yX7_setRule, Cond.instanceMethod yX7_setRule, Cond.selects RX7 yX7_setRule yX7_setRule, Cond.codeWith yL_setRule cL_setRule 5 (some .int) [(0, 7, 10, 21), (0, 7, 14, 13)], Cond.methodLink RL 33 yX7_pass, Cond.instanceMethod yX7_pass, Cond.selects RX7 yX7_pass yX7_pass, Cond.codeWith yL_pass cL_pass 4 (some .int) [(0, 9, 12, 13), (0, 9, 15, 15)], Cond.methodLink RL 36 yX7_samples, Cond.instanceMethod yX7_samples, Cond.selects RX7 yX7_samples yX7_samples, Cond.codeWith yL_samples cL_samples 4 (some .int) [(0, 9, 12, 21)], Cond.methodLink RL 39 yX7_slopeNumerator]
theorem GC19_ok : GC19.all goodWord = true := by decide +kernel
def GC20 : List Cond := [Cond.instanceMethod yX7_slopeNumerator, Cond.selects RX7 yX7_slopeNumerator yX7_slopeNumerator, Cond.codeWith yL_slopeNumerator cL_slopeNumerator 4 (some .int) [(0, 9, 12, 21), (0, 9, 15, 15)], Cond.methodLink RL 42 yX7_slopeDenominator, Cond.instanceMethod yX7_slopeDenominator, Cond.selects RX7 yX7_slopeDenominator yX7_slopeDenominator, Cond.codeWith yL_slopeDenominator cL_slopeDenominator 4 (some .int) [(0, 9, 12, 21), (0, 9, 15, 15)], Cond.methodLink RL 45 yX7_usual, Cond.instanceMethod yX7_usual, Cond.selects RX7 yX7_usual yX7_usual, Cond.codeWith yL_usual cL_usual 4 (some .int) [(0, 9, 12, 21)], Cond.methodLink RL 48 yX7_forecast, Cond.instanceMethod yX7_forecast, Cond.selects RX7 yX7_forecast yX7_forecast, Cond.codeWith yL_forecast cL_forecast 5 (some .int) [(0, 10, 13, 21), (0, 10, 17, 15), (0, 10, 21, 13)], Cond.methodLink RL 51 yX7_full, Cond.instanceMethod yX7_full, Cond.selects RX7 yX7_full yX7_full, Cond.codeWith yL_full cL_full 4 (some .int) [(0, 9, 12, 21)], Cond.methodLink RL 54 yX7_early, Cond.instanceMethod yX7_early, Cond.selects RX7 yX7_early yX7_early, Cond.codeWith yL_early cL_early 4 (some .int) [(0, 9, 12, 21)], Cond.methodLink RL 57 yX7_late, Cond.instanceMethod yX7_late, Cond.selects RX7 yX7_late yX7_late, Cond.codeWith yL_late cL_late 4 (some .int) [(0, 9, 12, 21)], Cond.methodLink RL 60 yX7_warns, Cond.instanceMethod yX7_warns, Cond.selects RX7 yX7_warns yX7_warns]
theorem GC20_ok : GC20.all goodWord = true := by decide +kernel
def GC21 : List Cond := [Cond.codeWith yL_warns cL_warns 4 (some .int) [(0, 16, 19, 21)], Cond.methodLink RL 64 yX7_poolFull, Cond.instanceMethod yX7_poolFull, Cond.selects RX7 yX7_poolFull yX7_poolFull, Cond.codeWith yL_poolFull cL_poolFull 4 (some .int) [(0, 9, 12, 13)], Cond.classLink RL 8 RX7, Cond.instantiable RX7 2, Cond.classLink RL 68 RX8, Cond.instantiable RX8 30, Cond.arrayClass .long, Cond.methodLink RL 67 yX7_init, Cond.instanceMethod yX7_init, Cond.methodLink RL 70 yX8_init, Cond.instanceMethod yX8_init, Cond.methodLink RL 71 yL_addStore, Cond.static yL_addStore, Cond.initialized RL, Cond.methodLink RL 76 yX8_addStore, Cond.instanceMethod yX8_addStore, Cond.selects RX8 yX8_addStore yX8_addStore, Cond.methodLink RL 77 yX8_thrown, Cond.instanceMethod yX8_thrown, Cond.selects RX8 yX8_thrown yX8_thrown, Cond.methodLink RL 81 yL_setSize, Cond.static yL_setSize, Cond.methodLink RL 84 yX8_setSize, Cond.instanceMethod yX8_setSize, Cond.selects RX8 yX8_setSize yX8_setSize, Cond.methodLink RL 85 yL_sample, Cond.static yL_sample]
theorem GC21_ok : GC21.all goodWord = true := by decide +kernel
def GC22 : List Cond := [Cond.methodLink RL 87 yX8_sample, Cond.instanceMethod yX8_sample, Cond.selects RX8 yX8_sample yX8_sample, Cond.methodLink RL 88 yL_clean, Cond.static yL_clean, Cond.methodLink RL 90 yX8_clean, Cond.instanceMethod yX8_clean, Cond.selects RX8 yX8_clean yX8_clean, Cond.methodLink RL 91 yL_setRule, Cond.static yL_setRule, Cond.methodLink RL 94 yX8_setRule, Cond.instanceMethod yX8_setRule, Cond.selects RX8 yX8_setRule yX8_setRule, Cond.methodLink RL 95 yL_pass, Cond.static yL_pass, Cond.methodLink RL 97 yX8_pass, Cond.instanceMethod yX8_pass, Cond.selects RX8 yX8_pass yX8_pass, Cond.methodLink RL 98 yX7_today, Cond.instanceMethod yX7_today, Cond.selects RX7 yX7_today yX7_today, Cond.methodLink RL 101 yX8_today, Cond.instanceMethod yX8_today, Cond.selects RX8 yX8_today yX8_today, Cond.methodLink RL 102 yL_samples, Cond.static yL_samples, Cond.methodLink RL 104 yX8_samples, Cond.instanceMethod yX8_samples, Cond.selects RX8 yX8_samples yX8_samples, Cond.methodLink RL 105 yL_slopeNumerator]
theorem GC22_ok : GC22.all goodWord = true := by decide +kernel
def GC23 : List Cond := [Cond.static yL_slopeNumerator, Cond.methodLink RL 107 yX8_slopeNumerator, Cond.instanceMethod yX8_slopeNumerator, Cond.selects RX8 yX8_slopeNumerator yX8_slopeNumerator, Cond.methodLink RL 108 yL_slopeDenominator, Cond.static yL_slopeDenominator, Cond.methodLink RL 110 yX8_slopeDenominator, Cond.instanceMethod yX8_slopeDenominator, Cond.selects RX8 yX8_slopeDenominator yX8_slopeDenominator, Cond.methodLink RL 111 yL_usual, Cond.static yL_usual, Cond.methodLink RL 113 yX8_usual, Cond.instanceMethod yX8_usual, Cond.selects RX8 yX8_usual yX8_usual, Cond.methodLink RL 114 yL_forecast, Cond.static yL_forecast, Cond.methodLink RL 116 yX8_forecast, Cond.instanceMethod yX8_forecast, Cond.selects RX8 yX8_forecast yX8_forecast, Cond.methodLink RL 117 yL_full, Cond.static yL_full, Cond.methodLink RL 119 yX8_full, Cond.instanceMethod yX8_full, Cond.selects RX8 yX8_full yX8_full, Cond.methodLink RL 120 yL_early, Cond.static yL_early, Cond.methodLink RL 122 yX8_early, Cond.instanceMethod yX8_early, Cond.selects RX8 yX8_early yX8_early, Cond.methodLink RL 123 yL_late]
theorem GC23_ok : GC23.all goodWord = true := by decide +kernel
def GC24 : List Cond := [Cond.static yL_late, Cond.methodLink RL 125 yX8_late, Cond.instanceMethod yX8_late, Cond.selects RX8 yX8_late yX8_late, Cond.methodLink RL 126 yL_warns, Cond.static yL_warns, Cond.methodLink RL 128 yX8_warns, Cond.instanceMethod yX8_warns, Cond.selects RX8 yX8_warns yX8_warns, Cond.methodLink RL 129 yL_poolFull, Cond.static yL_poolFull, Cond.methodLink RL 131 yX8_poolFull, Cond.instanceMethod yX8_poolFull, Cond.selects RX8 yX8_poolFull yX8_poolFull]
theorem GC24_ok : GC24.all goodWord = true := by decide +kernel
theorem ok_wsX00 : (u_ws RX0 TX0 3).all goodWord = true := by decide +kernel
theorem ok_wsX10 : (u_ws RX1 TX1 4).all goodWord = true := by decide +kernel
theorem ok_wsX20 : (u_ws RX2 TX2 6).all goodWord = true := by decide +kernel
theorem ok_wsX30 : (u_ws RX3 TX3 2).all goodWord = true := by decide +kernel
theorem ok_wsX40 : (u_ws RX4 TX4 4).all goodWord = true := by decide +kernel
theorem ok_wsX50 : (u_ws RX5 TX5 7).all goodWord = true := by decide +kernel
theorem ok_wsX60 : (u_ws RX6 TX6 2).all goodWord = true := by decide +kernel
theorem ok_wsX70 : (u_ws RX7 TX7 2).all goodWord = true := by decide +kernel
theorem ok_wsX80 : (u_ws RX8 TX8 30).all goodWord = true := by decide +kernel
theorem ok_wsJx145de0 : (u_ws RJx145de TJx145de 0).all goodWord = true := by decide +kernel
theorem ok_wsJx8e1880 : (u_ws RJx8e188 TJx8e188 0).all goodWord = true := by decide +kernel
theorem ok_wsJxab1ab0 : (u_ws RJxab1ab TJxab1ab 0).all goodWord = true := by decide +kernel
theorem ok_wsJ90 : (u_ws RJ9 TJ9 0).all goodWord = true := by decide +kernel
theorem ok_wsJ00 : (u_ws RJ0 TJ0 0).all goodWord = true := by decide +kernel
theorem ok_wsJ100 : (u_ws RJ10 TJ10 0).all goodWord = true := by decide +kernel
theorem ok_wsJxa1e450 : (u_ws RJxa1e45 TJxa1e45 0).all goodWord = true := by decide +kernel
theorem ok_wsJxc12de0 : (u_ws RJxc12de TJxc12de 0).all goodWord = true := by decide +kernel
theorem ok_wsJx4a65c0 : (u_ws RJx4a65c TJx4a65c 3).all goodWord = true := by decide +kernel
theorem ok_wsJ70 : (u_ws RJ7 TJ7 0).all goodWord = true := by decide +kernel
theorem ok_wsJx5ef630 : (u_ws RJx5ef63 TJx5ef63 0).all goodWord = true := by decide +kernel
theorem ok_wsJxbd7250 : (u_ws RJxbd725 TJxbd725 0).all goodWord = true := by decide +kernel
theorem ok_wsJ150 : (u_ws RJ15 TJ15 0).all goodWord = true := by decide +kernel
theorem ok_wsJxf0a740 : (u_ws RJxf0a74 TJxf0a74 0).all goodWord = true := by decide +kernel
theorem ok_wsJxa66e60 : (u_ws RJxa66e6 TJxa66e6 0).all goodWord = true := by decide +kernel
theorem ok_wsJ80 : (u_ws RJ8 TJ8 0).all goodWord = true := by decide +kernel
theorem ok_wsJ30 : (u_ws RJ3 TJ3 0).all goodWord = true := by decide +kernel
def GWs : List (List Cond) := [GC0, GC1, GC2, GC3, GC4, GC5, GC6, GC7, GC8, GC9, GC10, GC11, GC12, GC13, GC14, GC15, GC16, GC17, GC18, GC19, GC20, GC21, GC22, GC23, GC24, (u_ws RX0 TX0 3), (u_ws RX1 TX1 4), (u_ws RX2 TX2 6), (u_ws RX3 TX3 2), (u_ws RX4 TX4 4), (u_ws RX5 TX5 7), (u_ws RX6 TX6 2), (u_ws RX7 TX7 2), (u_ws RX8 TX8 30), (u_ws RJx145de TJx145de 0), (u_ws RJx8e188 TJx8e188 0), (u_ws RJxab1ab TJxab1ab 0), (u_ws RJ9 TJ9 0), (u_ws RJ0 TJ0 0), (u_ws RJ10 TJ10 0), (u_ws RJxa1e45 TJxa1e45 0), (u_ws RJxc12de TJxc12de 0), (u_ws RJx4a65c TJx4a65c 3), (u_ws RJ7 TJ7 0), (u_ws RJx5ef63 TJx5ef63 0), (u_ws RJxbd725 TJxbd725 0), (u_ws RJ15 TJ15 0), (u_ws RJxf0a74 TJxf0a74 0), (u_ws RJxa66e6 TJxa66e6 0), (u_ws RJ8 TJ8 0), (u_ws RJ3 TJ3 0)]
theorem GWs_ok : ∀ c ∈ GWs, c.all goodWord = true := by
  intro c hc
  simp only [GWs, List.mem_cons, List.not_mem_nil, or_false] at hc
  rcases hc with rfl | rfl | rfl | rfl | rfl | rfl | rfl | rfl | rfl | rfl | rfl | rfl | rfl | rfl | rfl | rfl | rfl | rfl | rfl | rfl | rfl | rfl | rfl | rfl | rfl | rfl | rfl | rfl | rfl | rfl | rfl | rfl | rfl | rfl | rfl | rfl | rfl | rfl | rfl | rfl | rfl | rfl | rfl | rfl | rfl | rfl | rfl | rfl | rfl | rfl | rfl
  · exact GC0_ok
  · exact GC1_ok
  · exact GC2_ok
  · exact GC3_ok
  · exact GC4_ok
  · exact GC5_ok
  · exact GC6_ok
  · exact GC7_ok
  · exact GC8_ok
  · exact GC9_ok
  · exact GC10_ok
  · exact GC11_ok
  · exact GC12_ok
  · exact GC13_ok
  · exact GC14_ok
  · exact GC15_ok
  · exact GC16_ok
  · exact GC17_ok
  · exact GC18_ok
  · exact GC19_ok
  · exact GC20_ok
  · exact GC21_ok
  · exact GC22_ok
  · exact GC23_ok
  · exact GC24_ok
  · exact ok_wsX00
  · exact ok_wsX10
  · exact ok_wsX20
  · exact ok_wsX30
  · exact ok_wsX40
  · exact ok_wsX50
  · exact ok_wsX60
  · exact ok_wsX70
  · exact ok_wsX80
  · exact ok_wsJx145de0
  · exact ok_wsJx8e1880
  · exact ok_wsJxab1ab0
  · exact ok_wsJ90
  · exact ok_wsJ00
  · exact ok_wsJ100
  · exact ok_wsJxa1e450
  · exact ok_wsJxc12de0
  · exact ok_wsJx4a65c0
  · exact ok_wsJ70
  · exact ok_wsJx5ef630
  · exact ok_wsJxbd7250
  · exact ok_wsJ150
  · exact ok_wsJxf0a740
  · exact ok_wsJxa66e60
  · exact ok_wsJ80
  · exact ok_wsJ30
def GW : List Cond := GWs.flatten
theorem GW_ok : ∀ w ∈ GW, goodWord w = true := by
  intro w hw
  obtain ⟨c, hc, hw⟩ := List.mem_flatten.mp hw
  exact List.all_eq_true.mp (GWs_ok c hc) w hw
theorem GW_in {c : List Cond} (j : Nat) (hc : GWs[j]? = some c) {w : Cond} (hw : w ∈ c) : w ∈ GW := List.mem_flatten.mpr ⟨c, List.mem_of_getElem? hc, hw⟩
theorem q_0 : Cond.code yX0_init cX0_init 1 none ∈ GW := GW_in 0 rfl (List.mem_of_getElem? (i := 0) rfl)
theorem q_1 : Cond.methodLink RX0 3 objectInit ∈ GW := GW_in 0 rfl (List.mem_of_getElem? (i := 1) rfl)
theorem q_2 : Cond.instanceMethod objectInit ∈ GW := GW_in 0 rfl (List.mem_of_getElem? (i := 2) rfl)
theorem q_3 : Cond.code objectInit ⟨#[0xb1]⟩ 1 none ∈ GW := GW_in 0 rfl (List.mem_of_getElem? (i := 3) rfl)
theorem q_4 : Cond.arrayClass .int ∈ GW := GW_in 0 rfl (List.mem_of_getElem? (i := 4) rfl)
theorem q_5 : Cond.fieldLink RX0 9 "RoomForecast$Cleanings" "sizes" "[I" ∈ GW := GW_in 0 rfl (List.mem_of_getElem? (i := 5) rfl)
theorem q_6 : Cond.code yX0_number cX0_number 1 (some .int) ∈ GW := GW_in 0 rfl (List.mem_of_getElem? (i := 6) rfl)
theorem q_7 : Cond.fieldLink RX0 15 "RoomForecast$Cleanings" "count" "I" ∈ GW := GW_in 0 rfl (List.mem_of_getElem? (i := 7) rfl)
theorem q_8 : Cond.code yX0_freedInAll cX0_freedInAll 1 (some .int) ∈ GW := GW_in 0 rfl (List.mem_of_getElem? (i := 8) rfl)
theorem q_9 : Cond.fieldLink RX0 19 "RoomForecast$Cleanings" "freedInAll" "I" ∈ GW := GW_in 0 rfl (List.mem_of_getElem? (i := 9) rfl)
theorem q_10 : Cond.code yX0_put cX0_put 3 none ∈ GW := GW_in 0 rfl (List.mem_of_getElem? (i := 10) rfl)
theorem q_11 : Cond.code yX7_middlePlace cX7_middlePlace 1 (some .int) ∈ GW := GW_in 0 rfl (List.mem_of_getElem? (i := 11) rfl)
theorem q_12 : Cond.code yX0_usualSize cX0_usualSize 1 (some .int) ∈ GW := GW_in 0 rfl (List.mem_of_getElem? (i := 12) rfl)
theorem q_13 : Cond.static yX7_middlePlace ∈ GW := GW_in 0 rfl (List.mem_of_getElem? (i := 13) rfl)
theorem q_14 : Cond.initialized RX7 ∈ GW := GW_in 0 rfl (List.mem_of_getElem? (i := 14) rfl)
theorem q_15 : Cond.code yX1_init cX1_init 1 none ∈ GW := GW_in 0 rfl (List.mem_of_getElem? (i := 15) rfl)
theorem q_16 : Cond.methodLink RX1 3 objectInit ∈ GW := GW_in 0 rfl (List.mem_of_getElem? (i := 16) rfl)
theorem q_17 : Cond.fieldLink RX1 9 "RoomForecast$Line" "run" "I" ∈ GW := GW_in 0 rfl (List.mem_of_getElem? (i := 17) rfl)
theorem q_18 : Cond.code yX1_start cX1_start 3 none ∈ GW := GW_in 0 rfl (List.mem_of_getElem? (i := 18) rfl)
theorem q_19 : Cond.fieldLink RX1 15 "RoomForecast$Line" "startDay" "I" ∈ GW := GW_in 0 rfl (List.mem_of_getElem? (i := 19) rfl)
theorem q_20 : Cond.fieldLink RX1 18 "RoomForecast$Line" "startUsed" "I" ∈ GW := GW_in 0 rfl (List.mem_of_getElem? (i := 20) rfl)
theorem q_21 : Cond.code yX1_climb cX1_climb 3 none ∈ GW := GW_in 0 rfl (List.mem_of_getElem? (i := 21) rfl)
theorem q_22 : Cond.fieldLink RX1 21 "RoomForecast$Line" "rise" "I" ∈ GW := GW_in 0 rfl (List.mem_of_getElem? (i := 22) rfl)
theorem q_23 : Cond.code yJ9_floorDiv_f86c9 cJ9_floorDiv_f86c9 6 (some .long) ∈ GW := GW_in 0 rfl (List.mem_of_getElem? (i := 23) rfl)
theorem q_24 : Cond.code yX1_heightOn cX1_heightOn 4 (some .long) ∈ GW := GW_in 0 rfl (List.mem_of_getElem? (i := 24) rfl)
theorem q_25 : Cond.methodLink RX1 24 yJ9_floorDiv_f86c9 ∈ GW := GW_in 0 rfl (List.mem_of_getElem? (i := 25) rfl)
theorem q_26 : Cond.static yJ9_floorDiv_f86c9 ∈ GW := GW_in 0 rfl (List.mem_of_getElem? (i := 26) rfl)
theorem q_27 : Cond.initialized RJ9 ∈ GW := GW_in 0 rfl (List.mem_of_getElem? (i := 27) rfl)
theorem q_28 : Cond.code yX1_leastDaysToClimb cX1_leastDaysToClimb 2 (some .int) ∈ GW := GW_in 0 rfl (List.mem_of_getElem? (i := 28) rfl)
theorem q_29 : Cond.constantLong RX1 30 (1000) ∈ GW := GW_in 0 rfl (List.mem_of_getElem? (i := 29) rfl)
theorem q_30 : Cond.methodLink RX1 32 Lib.MathLoose.min_long.x ∈ GW := GW_in 1 rfl (List.mem_of_getElem? (i := 0) rfl)
theorem q_31 : Cond.static Lib.MathLoose.min_long.x ∈ GW := GW_in 1 rfl (List.mem_of_getElem? (i := 1) rfl)
theorem q_32 : Cond.initialized "java/lang/Math" ∈ GW := GW_in 1 rfl (List.mem_of_getElem? (i := 2) rfl)
theorem q_33 : Cond.code Lib.MathLoose.min_long.x Lib.MathLoose.min_long.code 4 (some .long) ∈ GW := GW_in 1 rfl (List.mem_of_getElem? (i := 3) rfl)
theorem q_34 : Cond.code yX1_commonDivisor cX1_commonDivisor 5 (some .int) ∈ GW := GW_in 1 rfl (List.mem_of_getElem? (i := 4) rfl)
theorem q_35 : Cond.methodLink RX1 39 Lib.Math.abs.name ∈ GW := GW_in 1 rfl (List.mem_of_getElem? (i := 5) rfl)
theorem q_36 : Cond.static Lib.Math.abs.name ∈ GW := GW_in 1 rfl (List.mem_of_getElem? (i := 6) rfl)
theorem q_37 : Cond.code Lib.Math.abs.name Lib.Math.abs.code 1 (some .int) ∈ GW := GW_in 1 rfl (List.mem_of_getElem? (i := 7) rfl)
theorem q_38 : Cond.code yX1_riseInLowestTerms cX1_riseInLowestTerms 2 (some .int) ∈ GW := GW_in 1 rfl (List.mem_of_getElem? (i := 8) rfl)
theorem q_39 : Cond.methodLink RX1 35 yX1_commonDivisor ∈ GW := GW_in 1 rfl (List.mem_of_getElem? (i := 9) rfl)
theorem q_40 : Cond.instanceMethod yX1_commonDivisor ∈ GW := GW_in 1 rfl (List.mem_of_getElem? (i := 10) rfl)
theorem q_41 : Cond.selects RX1 yX1_commonDivisor yX1_commonDivisor ∈ GW := GW_in 1 rfl (List.mem_of_getElem? (i := 11) rfl)
theorem q_42 : Cond.initialized RX1 ∈ GW := GW_in 1 rfl (List.mem_of_getElem? (i := 12) rfl)
theorem q_43 : Cond.code yX1_runInLowestTerms cX1_runInLowestTerms 2 (some .int) ∈ GW := GW_in 1 rfl (List.mem_of_getElem? (i := 13) rfl)
theorem q_44 : Cond.code yX2_init cX2_init 1 none ∈ GW := GW_in 1 rfl (List.mem_of_getElem? (i := 14) rfl)
theorem q_45 : Cond.methodLink RX2 3 objectInit ∈ GW := GW_in 1 rfl (List.mem_of_getElem? (i := 15) rfl)
theorem q_46 : Cond.fieldLink RX2 9 "RoomForecast$PairSlopes" "rises" "[I" ∈ GW := GW_in 1 rfl (List.mem_of_getElem? (i := 16) rfl)
theorem q_47 : Cond.fieldLink RX2 15 "RoomForecast$PairSlopes" "runs" "[I" ∈ GW := GW_in 1 rfl (List.mem_of_getElem? (i := 17) rfl)
theorem q_48 : Cond.fieldLink RX2 18 "RoomForecast$PairSlopes" "earlier" "[I" ∈ GW := GW_in 1 rfl (List.mem_of_getElem? (i := 18) rfl)
theorem q_49 : Cond.fieldLink RX2 21 "RoomForecast$PairSlopes" "later" "[I" ∈ GW := GW_in 1 rfl (List.mem_of_getElem? (i := 19) rfl)
theorem q_50 : Cond.code yX4_number cX4_number 1 (some .int) ∈ GW := GW_in 1 rfl (List.mem_of_getElem? (i := 20) rfl)
theorem q_51 : Cond.fieldLink RX4 21 "RoomForecast$Samples" "count" "I" ∈ GW := GW_in 1 rfl (List.mem_of_getElem? (i := 21) rfl)
theorem q_52 : Cond.code yX4_has cX4_has 2 (some .boolean) ∈ GW := GW_in 1 rfl (List.mem_of_getElem? (i := 22) rfl)
theorem q_53 : Cond.code yX4_filledAt cX4_filledAt 2 (some .int) ∈ GW := GW_in 1 rfl (List.mem_of_getElem? (i := 23) rfl)
theorem q_54 : Cond.fieldLink RX4 18 "RoomForecast$Samples" "filled" "[I" ∈ GW := GW_in 1 rfl (List.mem_of_getElem? (i := 24) rfl)
theorem q_55 : Cond.methodLink RX4 32 yX4_has ∈ GW := GW_in 1 rfl (List.mem_of_getElem? (i := 25) rfl)
theorem q_56 : Cond.instanceMethod yX4_has ∈ GW := GW_in 1 rfl (List.mem_of_getElem? (i := 26) rfl)
theorem q_57 : Cond.selects RX4 yX4_has yX4_has ∈ GW := GW_in 1 rfl (List.mem_of_getElem? (i := 27) rfl)
theorem q_58 : Cond.initialized RX4 ∈ GW := GW_in 1 rfl (List.mem_of_getElem? (i := 28) rfl)
theorem q_59 : Cond.code yX4_dayAt cX4_dayAt 2 (some .int) ∈ GW := GW_in 1 rfl (List.mem_of_getElem? (i := 29) rfl)
theorem q_60 : Cond.fieldLink RX4 9 "RoomForecast$Samples" "days" "[I" ∈ GW := GW_in 2 rfl (List.mem_of_getElem? (i := 0) rfl)
theorem q_61 : Cond.code yX2_has cX2_has 2 (some .boolean) ∈ GW := GW_in 2 rfl (List.mem_of_getElem? (i := 1) rfl)
theorem q_62 : Cond.fieldLink RX2 24 "RoomForecast$PairSlopes" "count" "I" ∈ GW := GW_in 2 rfl (List.mem_of_getElem? (i := 2) rfl)
theorem q_63 : Cond.code yX2_riseAt cX2_riseAt 2 (some .int) ∈ GW := GW_in 2 rfl (List.mem_of_getElem? (i := 3) rfl)
theorem q_64 : Cond.methodLink RX2 68 yX2_has ∈ GW := GW_in 2 rfl (List.mem_of_getElem? (i := 4) rfl)
theorem q_65 : Cond.instanceMethod yX2_has ∈ GW := GW_in 2 rfl (List.mem_of_getElem? (i := 5) rfl)
theorem q_66 : Cond.selects RX2 yX2_has yX2_has ∈ GW := GW_in 2 rfl (List.mem_of_getElem? (i := 6) rfl)
theorem q_67 : Cond.initialized RX2 ∈ GW := GW_in 2 rfl (List.mem_of_getElem? (i := 7) rfl)
theorem q_68 : Cond.code yX2_runAt cX2_runAt 2 (some .int) ∈ GW := GW_in 2 rfl (List.mem_of_getElem? (i := 8) rfl)
theorem q_69 : Cond.code yX2_isGreater cX2_isGreater 4 (some .boolean) ∈ GW := GW_in 2 rfl (List.mem_of_getElem? (i := 9) rfl)
theorem q_70 : Cond.methodLink RX2 52 yX2_riseAt ∈ GW := GW_in 2 rfl (List.mem_of_getElem? (i := 10) rfl)
theorem q_71 : Cond.instanceMethod yX2_riseAt ∈ GW := GW_in 2 rfl (List.mem_of_getElem? (i := 11) rfl)
theorem q_72 : Cond.selects RX2 yX2_riseAt yX2_riseAt ∈ GW := GW_in 2 rfl (List.mem_of_getElem? (i := 12) rfl)
theorem q_73 : Cond.methodLink RX2 55 yX2_runAt ∈ GW := GW_in 2 rfl (List.mem_of_getElem? (i := 13) rfl)
theorem q_74 : Cond.instanceMethod yX2_runAt ∈ GW := GW_in 2 rfl (List.mem_of_getElem? (i := 14) rfl)
theorem q_75 : Cond.selects RX2 yX2_runAt yX2_runAt ∈ GW := GW_in 2 rfl (List.mem_of_getElem? (i := 15) rfl)
theorem q_76 : Cond.methodLink RX2 41 yX4_filledAt ∈ GW := GW_in 2 rfl (List.mem_of_getElem? (i := 16) rfl)
theorem q_77 : Cond.instanceMethod yX4_filledAt ∈ GW := GW_in 2 rfl (List.mem_of_getElem? (i := 17) rfl)
theorem q_78 : Cond.selects RX4 yX4_filledAt yX4_filledAt ∈ GW := GW_in 2 rfl (List.mem_of_getElem? (i := 18) rfl)
theorem q_79 : Cond.methodLink RX2 45 yX4_dayAt ∈ GW := GW_in 2 rfl (List.mem_of_getElem? (i := 19) rfl)
theorem q_80 : Cond.instanceMethod yX4_dayAt ∈ GW := GW_in 2 rfl (List.mem_of_getElem? (i := 20) rfl)
theorem q_81 : Cond.selects RX4 yX4_dayAt yX4_dayAt ∈ GW := GW_in 2 rfl (List.mem_of_getElem? (i := 21) rfl)
theorem q_82 : Cond.methodLink RX2 48 yX2_isGreater ∈ GW := GW_in 2 rfl (List.mem_of_getElem? (i := 22) rfl)
theorem q_83 : Cond.instanceMethod yX2_isGreater ∈ GW := GW_in 2 rfl (List.mem_of_getElem? (i := 23) rfl)
theorem q_84 : Cond.selects RX2 yX2_isGreater yX2_isGreater ∈ GW := GW_in 2 rfl (List.mem_of_getElem? (i := 24) rfl)
theorem q_85 : Cond.code yX2_putInOrder cX2_putInOrder 7 none ∈ GW := GW_in 2 rfl (List.mem_of_getElem? (i := 25) rfl)
theorem q_86 : Cond.fieldLink RX2 34 "RoomForecast$PairSlopes" "sampleCount" "I" ∈ GW := GW_in 2 rfl (List.mem_of_getElem? (i := 26) rfl)
theorem q_87 : Cond.methodLink RX2 28 yX4_number ∈ GW := GW_in 2 rfl (List.mem_of_getElem? (i := 27) rfl)
theorem q_88 : Cond.instanceMethod yX4_number ∈ GW := GW_in 2 rfl (List.mem_of_getElem? (i := 28) rfl)
theorem q_89 : Cond.selects RX4 yX4_number yX4_number ∈ GW := GW_in 2 rfl (List.mem_of_getElem? (i := 29) rfl)
theorem q_90 : Cond.methodLink RX2 37 yX2_putInOrder ∈ GW := GW_in 3 rfl (List.mem_of_getElem? (i := 0) rfl)
theorem q_91 : Cond.instanceMethod yX2_putInOrder ∈ GW := GW_in 3 rfl (List.mem_of_getElem? (i := 1) rfl)
theorem q_92 : Cond.selects RX2 yX2_putInOrder yX2_putInOrder ∈ GW := GW_in 3 rfl (List.mem_of_getElem? (i := 2) rfl)
theorem q_93 : Cond.code yX2_orderAll cX2_orderAll 4 none ∈ GW := GW_in 3 rfl (List.mem_of_getElem? (i := 3) rfl)
theorem q_94 : Cond.code yX2_numberWithout cX2_numberWithout 3 (some .int) ∈ GW := GW_in 3 rfl (List.mem_of_getElem? (i := 4) rfl)
theorem q_95 : Cond.code yX2_isWithout cX2_isWithout 3 (some .boolean) ∈ GW := GW_in 3 rfl (List.mem_of_getElem? (i := 5) rfl)
theorem q_96 : Cond.code yX2_middlePlaceWithout cX2_middlePlaceWithout 5 (some .int) ∈ GW := GW_in 3 rfl (List.mem_of_getElem? (i := 6) rfl)
theorem q_97 : Cond.methodLink RX2 58 yX2_numberWithout ∈ GW := GW_in 3 rfl (List.mem_of_getElem? (i := 7) rfl)
theorem q_98 : Cond.instanceMethod yX2_numberWithout ∈ GW := GW_in 3 rfl (List.mem_of_getElem? (i := 8) rfl)
theorem q_99 : Cond.selects RX2 yX2_numberWithout yX2_numberWithout ∈ GW := GW_in 3 rfl (List.mem_of_getElem? (i := 9) rfl)
theorem q_100 : Cond.methodLink RX2 64 yX2_isWithout ∈ GW := GW_in 3 rfl (List.mem_of_getElem? (i := 10) rfl)
theorem q_101 : Cond.instanceMethod yX2_isWithout ∈ GW := GW_in 3 rfl (List.mem_of_getElem? (i := 11) rfl)
theorem q_102 : Cond.selects RX2 yX2_isWithout yX2_isWithout ∈ GW := GW_in 3 rfl (List.mem_of_getElem? (i := 12) rfl)
theorem q_103 : Cond.code yX3_init cX3_init 1 none ∈ GW := GW_in 3 rfl (List.mem_of_getElem? (i := 13) rfl)
theorem q_104 : Cond.methodLink RX3 1 objectInit ∈ GW := GW_in 3 rfl (List.mem_of_getElem? (i := 14) rfl)
theorem q_105 : Cond.code yX3_change cX3_change 3 none ∈ GW := GW_in 3 rfl (List.mem_of_getElem? (i := 15) rfl)
theorem q_106 : Cond.fieldLink RX3 7 "RoomForecast$Rule" "from" "I" ∈ GW := GW_in 3 rfl (List.mem_of_getElem? (i := 16) rfl)
theorem q_107 : Cond.fieldLink RX3 13 "RoomForecast$Rule" "every" "I" ∈ GW := GW_in 3 rfl (List.mem_of_getElem? (i := 17) rfl)
theorem q_108 : Cond.code yX3_daysUntil cX3_daysUntil 2 (some .int) ∈ GW := GW_in 3 rfl (List.mem_of_getElem? (i := 18) rfl)
theorem q_109 : Cond.code yX3_daysWithin cX3_daysWithin 3 (some .int) ∈ GW := GW_in 3 rfl (List.mem_of_getElem? (i := 19) rfl)
theorem q_110 : Cond.methodLink RX3 16 yX3_daysUntil ∈ GW := GW_in 3 rfl (List.mem_of_getElem? (i := 20) rfl)
theorem q_111 : Cond.instanceMethod yX3_daysUntil ∈ GW := GW_in 3 rfl (List.mem_of_getElem? (i := 21) rfl)
theorem q_112 : Cond.selects RX3 yX3_daysUntil yX3_daysUntil ∈ GW := GW_in 3 rfl (List.mem_of_getElem? (i := 22) rfl)
theorem q_113 : Cond.initialized RX3 ∈ GW := GW_in 3 rfl (List.mem_of_getElem? (i := 23) rfl)
theorem q_114 : Cond.code yX4_init cX4_init 1 none ∈ GW := GW_in 3 rfl (List.mem_of_getElem? (i := 24) rfl)
theorem q_115 : Cond.methodLink RX4 3 objectInit ∈ GW := GW_in 3 rfl (List.mem_of_getElem? (i := 25) rfl)
theorem q_116 : Cond.fieldLink RX4 15 "RoomForecast$Samples" "used" "[I" ∈ GW := GW_in 3 rfl (List.mem_of_getElem? (i := 26) rfl)
theorem q_117 : Cond.code yX4_lastIsOf cX4_lastIsOf 2 (some .boolean) ∈ GW := GW_in 3 rfl (List.mem_of_getElem? (i := 27) rfl)
theorem q_118 : Cond.code yX4_openLastPlace cX4_openLastPlace 2 none ∈ GW := GW_in 3 rfl (List.mem_of_getElem? (i := 28) rfl)
theorem q_119 : Cond.code yX4_put cX4_put 5 none ∈ GW := GW_in 3 rfl (List.mem_of_getElem? (i := 29) rfl)
theorem q_120 : Cond.methodLink RX4 25 yX4_lastIsOf ∈ GW := GW_in 4 rfl (List.mem_of_getElem? (i := 0) rfl)
theorem q_121 : Cond.instanceMethod yX4_lastIsOf ∈ GW := GW_in 4 rfl (List.mem_of_getElem? (i := 1) rfl)
theorem q_122 : Cond.selects RX4 yX4_lastIsOf yX4_lastIsOf ∈ GW := GW_in 4 rfl (List.mem_of_getElem? (i := 2) rfl)
theorem q_123 : Cond.methodLink RX4 29 yX4_openLastPlace ∈ GW := GW_in 4 rfl (List.mem_of_getElem? (i := 3) rfl)
theorem q_124 : Cond.instanceMethod yX4_openLastPlace ∈ GW := GW_in 4 rfl (List.mem_of_getElem? (i := 4) rfl)
theorem q_125 : Cond.selects RX4 yX4_openLastPlace yX4_openLastPlace ∈ GW := GW_in 4 rfl (List.mem_of_getElem? (i := 5) rfl)
theorem q_126 : Cond.code yX4_addFreedOn cX4_addFreedOn 3 none ∈ GW := GW_in 4 rfl (List.mem_of_getElem? (i := 6) rfl)
theorem q_127 : Cond.code yX4_usedAt cX4_usedAt 2 (some .int) ∈ GW := GW_in 4 rfl (List.mem_of_getElem? (i := 7) rfl)
theorem q_128 : Cond.code yX4_lastPlaceWithout cX4_lastPlaceWithout 2 (some .int) ∈ GW := GW_in 4 rfl (List.mem_of_getElem? (i := 8) rfl)
theorem q_129 : Cond.code yX6_init cX6_init 1 none ∈ GW := GW_in 4 rfl (List.mem_of_getElem? (i := 9) rfl)
theorem q_130 : Cond.methodLink RX6 3 objectInit ∈ GW := GW_in 4 rfl (List.mem_of_getElem? (i := 10) rfl)
theorem q_131 : Cond.methodLink RX5 3 objectInit ∈ GW := GW_in 4 rfl (List.mem_of_getElem? (i := 11) rfl)
theorem q_132 : Cond.classLink RX5 9 RX4 ∈ GW := GW_in 4 rfl (List.mem_of_getElem? (i := 12) rfl)
theorem q_133 : Cond.instantiable RX4 4 ∈ GW := GW_in 4 rfl (List.mem_of_getElem? (i := 13) rfl)
theorem q_134 : Cond.fieldLink RX5 12 "RoomForecast$Store" "samples" "LRoomForecast$Samples;" ∈ GW := GW_in 4 rfl (List.mem_of_getElem? (i := 14) rfl)
theorem q_135 : Cond.classLink RX5 18 RX2 ∈ GW := GW_in 4 rfl (List.mem_of_getElem? (i := 15) rfl)
theorem q_136 : Cond.instantiable RX2 6 ∈ GW := GW_in 4 rfl (List.mem_of_getElem? (i := 16) rfl)
theorem q_137 : Cond.fieldLink RX5 21 "RoomForecast$Store" "slopes" "LRoomForecast$PairSlopes;" ∈ GW := GW_in 4 rfl (List.mem_of_getElem? (i := 17) rfl)
theorem q_138 : Cond.classLink RX5 25 RX0 ∈ GW := GW_in 4 rfl (List.mem_of_getElem? (i := 18) rfl)
theorem q_139 : Cond.instantiable RX0 3 ∈ GW := GW_in 4 rfl (List.mem_of_getElem? (i := 19) rfl)
theorem q_140 : Cond.initialized RX0 ∈ GW := GW_in 4 rfl (List.mem_of_getElem? (i := 20) rfl)
theorem q_141 : Cond.fieldLink RX5 28 "RoomForecast$Store" "cleanings" "LRoomForecast$Cleanings;" ∈ GW := GW_in 4 rfl (List.mem_of_getElem? (i := 21) rfl)
theorem q_142 : Cond.classLink RX5 32 RX3 ∈ GW := GW_in 4 rfl (List.mem_of_getElem? (i := 22) rfl)
theorem q_143 : Cond.instantiable RX3 2 ∈ GW := GW_in 4 rfl (List.mem_of_getElem? (i := 23) rfl)
theorem q_144 : Cond.fieldLink RX5 35 "RoomForecast$Store" "rule" "LRoomForecast$Rule;" ∈ GW := GW_in 4 rfl (List.mem_of_getElem? (i := 24) rfl)
theorem q_145 : Cond.classLink RX5 39 RX1 ∈ GW := GW_in 4 rfl (List.mem_of_getElem? (i := 25) rfl)
theorem q_146 : Cond.instantiable RX1 4 ∈ GW := GW_in 4 rfl (List.mem_of_getElem? (i := 26) rfl)
theorem q_147 : Cond.fieldLink RX5 42 "RoomForecast$Store" "line" "LRoomForecast$Line;" ∈ GW := GW_in 4 rfl (List.mem_of_getElem? (i := 27) rfl)
theorem q_148 : Cond.classLink RX5 46 RX6 ∈ GW := GW_in 4 rfl (List.mem_of_getElem? (i := 28) rfl)
theorem q_149 : Cond.instantiable RX6 2 ∈ GW := GW_in 4 rfl (List.mem_of_getElem? (i := 29) rfl)
theorem q_150 : Cond.initialized RX6 ∈ GW := GW_in 5 rfl (List.mem_of_getElem? (i := 0) rfl)
theorem q_151 : Cond.fieldLink RX5 49 "RoomForecast$Store" "warning" "LRoomForecast$Warning;" ∈ GW := GW_in 5 rfl (List.mem_of_getElem? (i := 1) rfl)
theorem q_152 : Cond.fieldLink RX5 53 "RoomForecast$Store" "size" "I" ∈ GW := GW_in 5 rfl (List.mem_of_getElem? (i := 2) rfl)
theorem q_153 : Cond.instanceMethod yX4_init ∈ GW := GW_in 5 rfl (List.mem_of_getElem? (i := 3) rfl)
theorem q_154 : Cond.instanceMethod yX2_init ∈ GW := GW_in 5 rfl (List.mem_of_getElem? (i := 4) rfl)
theorem q_155 : Cond.instanceMethod yX0_init ∈ GW := GW_in 5 rfl (List.mem_of_getElem? (i := 5) rfl)
theorem q_156 : Cond.instanceMethod yX3_init ∈ GW := GW_in 5 rfl (List.mem_of_getElem? (i := 6) rfl)
theorem q_157 : Cond.instanceMethod yX1_init ∈ GW := GW_in 5 rfl (List.mem_of_getElem? (i := 7) rfl)
theorem q_158 : Cond.instanceMethod yX6_init ∈ GW := GW_in 5 rfl (List.mem_of_getElem? (i := 8) rfl)
theorem q_159 : Cond.code yX5_init cX5_init 2 none ∈ GW := GW_in 5 rfl (List.mem_of_getElem? (i := 9) rfl)
theorem q_160 : Cond.methodLink RX5 57 yX0_freedInAll ∈ GW := GW_in 5 rfl (List.mem_of_getElem? (i := 10) rfl)
theorem q_161 : Cond.instanceMethod yX0_freedInAll ∈ GW := GW_in 5 rfl (List.mem_of_getElem? (i := 11) rfl)
theorem q_162 : Cond.selects RX0 yX0_freedInAll yX0_freedInAll ∈ GW := GW_in 5 rfl (List.mem_of_getElem? (i := 12) rfl)
theorem q_163 : Cond.methodLink RX5 61 yX4_put ∈ GW := GW_in 5 rfl (List.mem_of_getElem? (i := 13) rfl)
theorem q_164 : Cond.instanceMethod yX4_put ∈ GW := GW_in 5 rfl (List.mem_of_getElem? (i := 14) rfl)
theorem q_165 : Cond.selects RX4 yX4_put yX4_put ∈ GW := GW_in 5 rfl (List.mem_of_getElem? (i := 15) rfl)
theorem q_166 : Cond.methodLink RX5 65 yX2_orderAll ∈ GW := GW_in 5 rfl (List.mem_of_getElem? (i := 16) rfl)
theorem q_167 : Cond.instanceMethod yX2_orderAll ∈ GW := GW_in 5 rfl (List.mem_of_getElem? (i := 17) rfl)
theorem q_168 : Cond.selects RX2 yX2_orderAll yX2_orderAll ∈ GW := GW_in 5 rfl (List.mem_of_getElem? (i := 18) rfl)
theorem q_169 : Cond.code yX5_tellUsed cX5_tellUsed 3 none ∈ GW := GW_in 5 rfl (List.mem_of_getElem? (i := 19) rfl)
theorem q_170 : Cond.methodLink RX5 69 yX0_put ∈ GW := GW_in 5 rfl (List.mem_of_getElem? (i := 20) rfl)
theorem q_171 : Cond.instanceMethod yX0_put ∈ GW := GW_in 5 rfl (List.mem_of_getElem? (i := 21) rfl)
theorem q_172 : Cond.selects RX0 yX0_put yX0_put ∈ GW := GW_in 5 rfl (List.mem_of_getElem? (i := 22) rfl)
theorem q_173 : Cond.methodLink RX5 72 yX4_addFreedOn ∈ GW := GW_in 5 rfl (List.mem_of_getElem? (i := 23) rfl)
theorem q_174 : Cond.instanceMethod yX4_addFreedOn ∈ GW := GW_in 5 rfl (List.mem_of_getElem? (i := 24) rfl)
theorem q_175 : Cond.selects RX4 yX4_addFreedOn yX4_addFreedOn ∈ GW := GW_in 5 rfl (List.mem_of_getElem? (i := 25) rfl)
theorem q_176 : Cond.code yX5_tellFreed cX5_tellFreed 3 none ∈ GW := GW_in 5 rfl (List.mem_of_getElem? (i := 26) rfl)
theorem q_177 : Cond.code yX5_hasSlope cX5_hasSlope 1 (some .boolean) ∈ GW := GW_in 5 rfl (List.mem_of_getElem? (i := 27) rfl)
theorem q_178 : Cond.methodLink RX5 76 yX4_number ∈ GW := GW_in 5 rfl (List.mem_of_getElem? (i := 28) rfl)
theorem q_179 : Cond.methodLink RX5 79 yX4_lastPlaceWithout ∈ GW := GW_in 5 rfl (List.mem_of_getElem? (i := 29) rfl)
theorem q_180 : Cond.instanceMethod yX4_lastPlaceWithout ∈ GW := GW_in 6 rfl (List.mem_of_getElem? (i := 0) rfl)
theorem q_181 : Cond.selects RX4 yX4_lastPlaceWithout yX4_lastPlaceWithout ∈ GW := GW_in 6 rfl (List.mem_of_getElem? (i := 1) rfl)
theorem q_182 : Cond.methodLink RX5 83 yX2_middlePlaceWithout ∈ GW := GW_in 6 rfl (List.mem_of_getElem? (i := 2) rfl)
theorem q_183 : Cond.instanceMethod yX2_middlePlaceWithout ∈ GW := GW_in 6 rfl (List.mem_of_getElem? (i := 3) rfl)
theorem q_184 : Cond.selects RX2 yX2_middlePlaceWithout yX2_middlePlaceWithout ∈ GW := GW_in 6 rfl (List.mem_of_getElem? (i := 4) rfl)
theorem q_185 : Cond.methodLink RX5 86 yX4_dayAt ∈ GW := GW_in 6 rfl (List.mem_of_getElem? (i := 5) rfl)
theorem q_186 : Cond.methodLink RX5 89 yX4_usedAt ∈ GW := GW_in 6 rfl (List.mem_of_getElem? (i := 6) rfl)
theorem q_187 : Cond.instanceMethod yX4_usedAt ∈ GW := GW_in 6 rfl (List.mem_of_getElem? (i := 7) rfl)
theorem q_188 : Cond.selects RX4 yX4_usedAt yX4_usedAt ∈ GW := GW_in 6 rfl (List.mem_of_getElem? (i := 8) rfl)
theorem q_189 : Cond.methodLink RX5 92 yX1_start ∈ GW := GW_in 6 rfl (List.mem_of_getElem? (i := 9) rfl)
theorem q_190 : Cond.instanceMethod yX1_start ∈ GW := GW_in 6 rfl (List.mem_of_getElem? (i := 10) rfl)
theorem q_191 : Cond.selects RX1 yX1_start yX1_start ∈ GW := GW_in 6 rfl (List.mem_of_getElem? (i := 11) rfl)
theorem q_192 : Cond.methodLink RX5 95 yX2_riseAt ∈ GW := GW_in 6 rfl (List.mem_of_getElem? (i := 12) rfl)
theorem q_193 : Cond.methodLink RX5 98 yX2_runAt ∈ GW := GW_in 6 rfl (List.mem_of_getElem? (i := 13) rfl)
theorem q_194 : Cond.methodLink RX5 101 yX1_climb ∈ GW := GW_in 6 rfl (List.mem_of_getElem? (i := 14) rfl)
theorem q_195 : Cond.instanceMethod yX1_climb ∈ GW := GW_in 6 rfl (List.mem_of_getElem? (i := 15) rfl)
theorem q_196 : Cond.selects RX1 yX1_climb yX1_climb ∈ GW := GW_in 6 rfl (List.mem_of_getElem? (i := 16) rfl)
theorem q_197 : Cond.code yX5_drawLineWithout cX5_drawLineWithout 4 none ∈ GW := GW_in 6 rfl (List.mem_of_getElem? (i := 17) rfl)
theorem q_198 : Cond.methodLink RX5 118 Lib.MathLoose.max_long.x ∈ GW := GW_in 6 rfl (List.mem_of_getElem? (i := 18) rfl)
theorem q_199 : Cond.static Lib.MathLoose.max_long.x ∈ GW := GW_in 6 rfl (List.mem_of_getElem? (i := 19) rfl)
theorem q_200 : Cond.code Lib.MathLoose.max_long.x Lib.MathLoose.max_long.code 4 (some .long) ∈ GW := GW_in 6 rfl (List.mem_of_getElem? (i := 20) rfl)
theorem q_201 : Cond.constantLong RX5 124 (2000000000) ∈ GW := GW_in 6 rfl (List.mem_of_getElem? (i := 21) rfl)
theorem q_202 : Cond.methodLink RX5 126 Lib.MathLoose.min_long.x ∈ GW := GW_in 6 rfl (List.mem_of_getElem? (i := 22) rfl)
theorem q_203 : Cond.methodLink RX5 104 yX0_usualSize ∈ GW := GW_in 6 rfl (List.mem_of_getElem? (i := 23) rfl)
theorem q_204 : Cond.instanceMethod yX0_usualSize ∈ GW := GW_in 6 rfl (List.mem_of_getElem? (i := 24) rfl)
theorem q_205 : Cond.selects RX0 yX0_usualSize yX0_usualSize ∈ GW := GW_in 6 rfl (List.mem_of_getElem? (i := 25) rfl)
theorem q_206 : Cond.methodLink RX5 110 yX3_daysWithin ∈ GW := GW_in 6 rfl (List.mem_of_getElem? (i := 26) rfl)
theorem q_207 : Cond.instanceMethod yX3_daysWithin ∈ GW := GW_in 6 rfl (List.mem_of_getElem? (i := 27) rfl)
theorem q_208 : Cond.selects RX3 yX3_daysWithin yX3_daysWithin ∈ GW := GW_in 6 rfl (List.mem_of_getElem? (i := 28) rfl)
theorem q_209 : Cond.methodLink RX5 114 yX1_heightOn ∈ GW := GW_in 6 rfl (List.mem_of_getElem? (i := 29) rfl)
theorem q_210 : Cond.instanceMethod yX1_heightOn ∈ GW := GW_in 7 rfl (List.mem_of_getElem? (i := 0) rfl)
theorem q_211 : Cond.selects RX1 yX1_heightOn yX1_heightOn ∈ GW := GW_in 7 rfl (List.mem_of_getElem? (i := 1) rfl)
theorem q_212 : Cond.code yX5_roomOn cX5_roomOn 6 (some .int) ∈ GW := GW_in 7 rfl (List.mem_of_getElem? (i := 2) rfl)
theorem q_213 : Cond.methodLink RX5 146 Lib.Math.max.name ∈ GW := GW_in 7 rfl (List.mem_of_getElem? (i := 3) rfl)
theorem q_214 : Cond.static Lib.Math.max.name ∈ GW := GW_in 7 rfl (List.mem_of_getElem? (i := 4) rfl)
theorem q_215 : Cond.code Lib.Math.max.name Lib.Math.max.code 2 (some .int) ∈ GW := GW_in 7 rfl (List.mem_of_getElem? (i := 5) rfl)
theorem q_216 : Cond.constant RX5 136 (1000000) ∈ GW := GW_in 7 rfl (List.mem_of_getElem? (i := 6) rfl)
theorem q_217 : Cond.methodLink RX5 137 yX5_drawLineWithout ∈ GW := GW_in 7 rfl (List.mem_of_getElem? (i := 7) rfl)
theorem q_218 : Cond.instanceMethod yX5_drawLineWithout ∈ GW := GW_in 7 rfl (List.mem_of_getElem? (i := 8) rfl)
theorem q_219 : Cond.selects RX5 yX5_drawLineWithout yX5_drawLineWithout ∈ GW := GW_in 7 rfl (List.mem_of_getElem? (i := 9) rfl)
theorem q_220 : Cond.initialized RX5 ∈ GW := GW_in 7 rfl (List.mem_of_getElem? (i := 10) rfl)
theorem q_221 : Cond.methodLink RX5 140 yX5_roomOn ∈ GW := GW_in 7 rfl (List.mem_of_getElem? (i := 11) rfl)
theorem q_222 : Cond.instanceMethod yX5_roomOn ∈ GW := GW_in 7 rfl (List.mem_of_getElem? (i := 12) rfl)
theorem q_223 : Cond.selects RX5 yX5_roomOn yX5_roomOn ∈ GW := GW_in 7 rfl (List.mem_of_getElem? (i := 13) rfl)
theorem q_224 : Cond.methodLink RX5 143 yX1_leastDaysToClimb ∈ GW := GW_in 7 rfl (List.mem_of_getElem? (i := 14) rfl)
theorem q_225 : Cond.instanceMethod yX1_leastDaysToClimb ∈ GW := GW_in 7 rfl (List.mem_of_getElem? (i := 15) rfl)
theorem q_226 : Cond.selects RX1 yX1_leastDaysToClimb yX1_leastDaysToClimb ∈ GW := GW_in 7 rfl (List.mem_of_getElem? (i := 16) rfl)
theorem q_227 : Cond.code yX5_fullDayWithout cX5_fullDayWithout 5 (some .int) ∈ GW := GW_in 7 rfl (List.mem_of_getElem? (i := 17) rfl)
theorem q_228 : Cond.methodLink RX5 129 yX5_hasSlope ∈ GW := GW_in 7 rfl (List.mem_of_getElem? (i := 18) rfl)
theorem q_229 : Cond.instanceMethod yX5_hasSlope ∈ GW := GW_in 7 rfl (List.mem_of_getElem? (i := 19) rfl)
theorem q_230 : Cond.selects RX5 yX5_hasSlope yX5_hasSlope ∈ GW := GW_in 7 rfl (List.mem_of_getElem? (i := 20) rfl)
theorem q_231 : Cond.methodLink RX5 133 yX5_fullDayWithout ∈ GW := GW_in 7 rfl (List.mem_of_getElem? (i := 21) rfl)
theorem q_232 : Cond.instanceMethod yX5_fullDayWithout ∈ GW := GW_in 7 rfl (List.mem_of_getElem? (i := 22) rfl)
theorem q_233 : Cond.selects RX5 yX5_fullDayWithout yX5_fullDayWithout ∈ GW := GW_in 7 rfl (List.mem_of_getElem? (i := 23) rfl)
theorem q_234 : Cond.code yX5_fullDay cX5_fullDay 1 (some .int) ∈ GW := GW_in 7 rfl (List.mem_of_getElem? (i := 24) rfl)
theorem q_235 : Cond.methodLink RX5 148 Lib.Math.min.name ∈ GW := GW_in 7 rfl (List.mem_of_getElem? (i := 25) rfl)
theorem q_236 : Cond.static Lib.Math.min.name ∈ GW := GW_in 7 rfl (List.mem_of_getElem? (i := 26) rfl)
theorem q_237 : Cond.code Lib.Math.min.name Lib.Math.min.code 2 (some .int) ∈ GW := GW_in 7 rfl (List.mem_of_getElem? (i := 27) rfl)
theorem q_238 : Cond.code yX5_earlyBound cX5_earlyBound 3 (some .int) ∈ GW := GW_in 7 rfl (List.mem_of_getElem? (i := 28) rfl)
theorem q_239 : Cond.code yX5_lateBound cX5_lateBound 3 (some .int) ∈ GW := GW_in 7 rfl (List.mem_of_getElem? (i := 29) rfl)
theorem q_240 : Cond.code yX6_lookChanges cX6_lookChanges 6 (some .boolean) ∈ GW := GW_in 8 rfl (List.mem_of_getElem? (i := 0) rfl)
theorem q_241 : Cond.fieldLink RX6 9 "RoomForecast$Warning" "on" "Z" ∈ GW := GW_in 8 rfl (List.mem_of_getElem? (i := 1) rfl)
theorem q_242 : Cond.fieldLink RX6 15 "RoomForecast$Warning" "wasNear" "Z" ∈ GW := GW_in 8 rfl (List.mem_of_getElem? (i := 2) rfl)
theorem q_243 : Cond.methodLink RX5 150 yX5_earlyBound ∈ GW := GW_in 8 rfl (List.mem_of_getElem? (i := 3) rfl)
theorem q_244 : Cond.instanceMethod yX5_earlyBound ∈ GW := GW_in 8 rfl (List.mem_of_getElem? (i := 4) rfl)
theorem q_245 : Cond.selects RX5 yX5_earlyBound yX5_earlyBound ∈ GW := GW_in 8 rfl (List.mem_of_getElem? (i := 5) rfl)
theorem q_246 : Cond.methodLink RX5 153 yX6_lookChanges ∈ GW := GW_in 8 rfl (List.mem_of_getElem? (i := 6) rfl)
theorem q_247 : Cond.instanceMethod yX6_lookChanges ∈ GW := GW_in 8 rfl (List.mem_of_getElem? (i := 7) rfl)
theorem q_248 : Cond.selects RX6 yX6_lookChanges yX6_lookChanges ∈ GW := GW_in 8 rfl (List.mem_of_getElem? (i := 8) rfl)
theorem q_249 : Cond.code yX5_lookOnDaysAfter cX5_lookOnDaysAfter 6 (some .int) ∈ GW := GW_in 8 rfl (List.mem_of_getElem? (i := 9) rfl)
theorem q_250 : Cond.code yJxa1e45_init_da8c8 cJxa1e45_init_da8c8 1 none ∈ GW := GW_in 8 rfl (List.mem_of_getElem? (i := 10) rfl)
theorem q_251 : Cond.methodLink RJxa1e45 1 objectInit ∈ GW := GW_in 8 rfl (List.mem_of_getElem? (i := 11) rfl)
theorem q_252 : Cond.code yJxc12de_init_da8c8 cJxc12de_init_da8c8 1 none ∈ GW := GW_in 8 rfl (List.mem_of_getElem? (i := 12) rfl)
theorem q_253 : Cond.fieldLink RJxc12de 7 "java/util/AbstractList" "modCount" "I" ∈ GW := GW_in 8 rfl (List.mem_of_getElem? (i := 13) rfl)
theorem q_254 : Cond.methodLink RJxc12de 1 yJxa1e45_init_da8c8 ∈ GW := GW_in 8 rfl (List.mem_of_getElem? (i := 14) rfl)
theorem q_255 : Cond.instanceMethod yJxa1e45_init_da8c8 ∈ GW := GW_in 8 rfl (List.mem_of_getElem? (i := 15) rfl)
theorem q_256 : Cond.initialized RJxa1e45 ∈ GW := GW_in 8 rfl (List.mem_of_getElem? (i := 16) rfl)
theorem q_257 : Cond.code yJx4a65c_init_da8c8 cJx4a65c_init_da8c8 1 none ∈ GW := GW_in 8 rfl (List.mem_of_getElem? (i := 17) rfl)
theorem q_258 : Cond.fieldLink RJx4a65c 39 "java/util/ArrayList" "DEFAULTCAPACITY_EMPTY_ELEMENTDATA" "[Ljava/lang/Object;" ∈ GW := GW_in 8 rfl (List.mem_of_getElem? (i := 18) rfl)
theorem q_259 : Cond.fieldLink RJx4a65c 9 "java/util/ArrayList" "elementData" "[Ljava/lang/Object;" ∈ GW := GW_in 8 rfl (List.mem_of_getElem? (i := 19) rfl)
theorem q_260 : Cond.methodLink RJx4a65c 1 yJxc12de_init_da8c8 ∈ GW := GW_in 8 rfl (List.mem_of_getElem? (i := 20) rfl)
theorem q_261 : Cond.instanceMethod yJxc12de_init_da8c8 ∈ GW := GW_in 8 rfl (List.mem_of_getElem? (i := 21) rfl)
theorem q_262 : Cond.initialized RJxc12de ∈ GW := GW_in 8 rfl (List.mem_of_getElem? (i := 22) rfl)
theorem q_263 : Cond.code yX7_init cX7_init 1 none ∈ GW := GW_in 8 rfl (List.mem_of_getElem? (i := 23) rfl)
theorem q_264 : Cond.methodLink RX7 3 objectInit ∈ GW := GW_in 8 rfl (List.mem_of_getElem? (i := 24) rfl)
theorem q_265 : Cond.classLink RX7 9 RJx4a65c ∈ GW := GW_in 8 rfl (List.mem_of_getElem? (i := 25) rfl)
theorem q_266 : Cond.instantiable RJx4a65c 3 ∈ GW := GW_in 8 rfl (List.mem_of_getElem? (i := 26) rfl)
theorem q_267 : Cond.initialized RJx4a65c ∈ GW := GW_in 8 rfl (List.mem_of_getElem? (i := 27) rfl)
theorem q_268 : Cond.fieldLink RX7 12 "RoomForecast" "stores" "Ljava/util/ArrayList;" ∈ GW := GW_in 8 rfl (List.mem_of_getElem? (i := 28) rfl)
theorem q_269 : Cond.fieldLink RX7 16 "RoomForecast" "currentDay" "I" ∈ GW := GW_in 8 rfl (List.mem_of_getElem? (i := 29) rfl)
theorem q_270 : Cond.methodLink RX7 11 yJx4a65c_init_da8c8 ∈ GW := GW_in 9 rfl (List.mem_of_getElem? (i := 0) rfl)
theorem q_271 : Cond.instanceMethod yJx4a65c_init_da8c8 ∈ GW := GW_in 9 rfl (List.mem_of_getElem? (i := 1) rfl)
theorem q_272 : Cond.code yX7_demandRange cX7_demandRange 3 none ∈ GW := GW_in 9 rfl (List.mem_of_getElem? (i := 2) rfl)
theorem q_273 : Cond.classLink RX7 140 "java/lang/IllegalArgumentException" ∈ GW := GW_in 9 rfl (List.mem_of_getElem? (i := 3) rfl)
theorem q_274 : Cond.initialized "java/lang/IllegalArgumentException" ∈ GW := GW_in 9 rfl (List.mem_of_getElem? (i := 4) rfl)
theorem q_275 : Cond.code yJx4a65c_size_8abf5 cJx4a65c_size_8abf5 1 (some .int) ∈ GW := GW_in 9 rfl (List.mem_of_getElem? (i := 5) rfl)
theorem q_276 : Cond.fieldLink RJx4a65c 48 "java/util/ArrayList" "size" "I" ∈ GW := GW_in 9 rfl (List.mem_of_getElem? (i := 6) rfl)
theorem q_277 : Cond.code yJ8_hugeLength_7cf53 cJ8_hugeLength_7cf53 3 (some .int) ∈ GW := GW_in 9 rfl (List.mem_of_getElem? (i := 7) rfl)
theorem q_278 : Cond.constant RJ8 200 (2147483639) ∈ GW := GW_in 9 rfl (List.mem_of_getElem? (i := 8) rfl)
theorem q_279 : Cond.code yJ8_newLength_cabcc cJ8_newLength_cabcc 4 (some .int) ∈ GW := GW_in 9 rfl (List.mem_of_getElem? (i := 9) rfl)
theorem q_280 : Cond.methodLink RJ8 194 Lib.Math.max.name ∈ GW := GW_in 9 rfl (List.mem_of_getElem? (i := 10) rfl)
theorem q_281 : Cond.methodLink RJ8 201 yJ8_hugeLength_7cf53 ∈ GW := GW_in 9 rfl (List.mem_of_getElem? (i := 11) rfl)
theorem q_282 : Cond.static yJ8_hugeLength_7cf53 ∈ GW := GW_in 9 rfl (List.mem_of_getElem? (i := 12) rfl)
theorem q_283 : Cond.initialized RJ8 ∈ GW := GW_in 9 rfl (List.mem_of_getElem? (i := 13) rfl)
theorem q_284 : Cond.code yJ7_copyOf_6403c cJ7_copyOf_6403c 4 (some (.array (.object "java/lang/Object"))) ∈ GW := GW_in 9 rfl (List.mem_of_getElem? (i := 14) rfl)
theorem q_285 : Cond.classLink RJ7 110 "[Ljava/lang/Object;" ∈ GW := GW_in 9 rfl (List.mem_of_getElem? (i := 15) rfl)
theorem q_286 : Cond.classLink RJ7 2 "java/lang/Object" ∈ GW := GW_in 9 rfl (List.mem_of_getElem? (i := 16) rfl)
theorem q_287 : Cond.methodLink RJ7 304 Lib.Math.min.name ∈ GW := GW_in 9 rfl (List.mem_of_getElem? (i := 17) rfl)
theorem q_288 : Cond.methodLink RJ7 150 arraycopyName ∈ GW := GW_in 9 rfl (List.mem_of_getElem? (i := 18) rfl)
theorem q_289 : Cond.native arraycopyName ∈ GW := GW_in 9 rfl (List.mem_of_getElem? (i := 19) rfl)
theorem q_290 : Cond.static arraycopyName ∈ GW := GW_in 9 rfl (List.mem_of_getElem? (i := 20) rfl)
theorem q_291 : Cond.initialized "java/lang/System" ∈ GW := GW_in 9 rfl (List.mem_of_getElem? (i := 21) rfl)
theorem q_292 : Cond.code yJ7_copyOf_1904c cJ7_copyOf_1904c 2 (some (.array (.object "java/lang/Object"))) ∈ GW := GW_in 9 rfl (List.mem_of_getElem? (i := 22) rfl)
theorem q_293 : Cond.methodLink RJ7 86 ⟨"java/lang/Object", "getClass", "()Ljava/lang/Class;"⟩ ∈ GW := GW_in 9 rfl (List.mem_of_getElem? (i := 23) rfl)
theorem q_294 : Cond.selects "[Ljava/lang/Object;" ⟨"java/lang/Object", "getClass", "()Ljava/lang/Class;"⟩ ⟨"java/lang/Object", "getClass", "()Ljava/lang/Class;"⟩ ∈ GW := GW_in 9 rfl (List.mem_of_getElem? (i := 24) rfl)
theorem q_295 : Cond.instanceMethod ⟨"java/lang/Object", "getClass", "()Ljava/lang/Class;"⟩ ∈ GW := GW_in 9 rfl (List.mem_of_getElem? (i := 25) rfl)
theorem q_296 : Cond.native ⟨"java/lang/Object", "getClass", "()Ljava/lang/Class;"⟩ ∈ GW := GW_in 9 rfl (List.mem_of_getElem? (i := 26) rfl)
theorem q_297 : Cond.methodLink RJ7 300 yJ7_copyOf_6403c ∈ GW := GW_in 9 rfl (List.mem_of_getElem? (i := 27) rfl)
theorem q_298 : Cond.static yJ7_copyOf_6403c ∈ GW := GW_in 9 rfl (List.mem_of_getElem? (i := 28) rfl)
theorem q_299 : Cond.initialized RJ7 ∈ GW := GW_in 9 rfl (List.mem_of_getElem? (i := 29) rfl)
theorem q_300 : Cond.methodLink RJx4a65c 79 Lib.Math.max.name ∈ GW := GW_in 10 rfl (List.mem_of_getElem? (i := 0) rfl)
theorem q_301 : Cond.classLink RJx4a65c 7 "java/lang/Object" ∈ GW := GW_in 10 rfl (List.mem_of_getElem? (i := 1) rfl)
theorem q_302 : Cond.methodLink RJx4a65c 73 yJ8_newLength_cabcc ∈ GW := GW_in 10 rfl (List.mem_of_getElem? (i := 2) rfl)
theorem q_303 : Cond.static yJ8_newLength_cabcc ∈ GW := GW_in 10 rfl (List.mem_of_getElem? (i := 3) rfl)
theorem q_304 : Cond.methodLink RJx4a65c 66 yJ7_copyOf_1904c ∈ GW := GW_in 10 rfl (List.mem_of_getElem? (i := 4) rfl)
theorem q_305 : Cond.static yJ7_copyOf_1904c ∈ GW := GW_in 10 rfl (List.mem_of_getElem? (i := 5) rfl)
theorem q_306 : Cond.code yJx4a65c_grow_92f84 cJx4a65c_grow_92f84 4 (some (.array (.object "java/lang/Object"))) ∈ GW := GW_in 10 rfl (List.mem_of_getElem? (i := 6) rfl)
theorem q_307 : Cond.methodLink RJx4a65c 69 yJx4a65c_grow_92f84 ∈ GW := GW_in 10 rfl (List.mem_of_getElem? (i := 7) rfl)
theorem q_308 : Cond.instanceMethod yJx4a65c_grow_92f84 ∈ GW := GW_in 10 rfl (List.mem_of_getElem? (i := 8) rfl)
theorem q_309 : Cond.selects RJx4a65c yJx4a65c_grow_92f84 yJx4a65c_grow_92f84 ∈ GW := GW_in 10 rfl (List.mem_of_getElem? (i := 9) rfl)
theorem q_310 : Cond.code yJx4a65c_grow_d5877 cJx4a65c_grow_d5877 1 (some (.array (.object "java/lang/Object"))) ∈ GW := GW_in 10 rfl (List.mem_of_getElem? (i := 10) rfl)
theorem q_311 : Cond.methodLink RJx4a65c 129 yJx4a65c_grow_d5877 ∈ GW := GW_in 10 rfl (List.mem_of_getElem? (i := 11) rfl)
theorem q_312 : Cond.instanceMethod yJx4a65c_grow_d5877 ∈ GW := GW_in 10 rfl (List.mem_of_getElem? (i := 12) rfl)
theorem q_313 : Cond.selects RJx4a65c yJx4a65c_grow_d5877 yJx4a65c_grow_d5877 ∈ GW := GW_in 10 rfl (List.mem_of_getElem? (i := 13) rfl)
theorem q_314 : Cond.code yJx4a65c_add_72be8 cJx4a65c_add_72be8 4 none ∈ GW := GW_in 10 rfl (List.mem_of_getElem? (i := 14) rfl)
theorem q_315 : Cond.fieldLink RJx4a65c 63 "java/util/ArrayList" "modCount" "I" ∈ GW := GW_in 10 rfl (List.mem_of_getElem? (i := 15) rfl)
theorem q_316 : Cond.sameField "java/util/ArrayList" "java/util/AbstractList" "modCount" "I" ∈ GW := GW_in 10 rfl (List.mem_of_getElem? (i := 16) rfl)
theorem q_317 : Cond.methodLink RJx4a65c 131 yJx4a65c_add_72be8 ∈ GW := GW_in 10 rfl (List.mem_of_getElem? (i := 17) rfl)
theorem q_318 : Cond.instanceMethod yJx4a65c_add_72be8 ∈ GW := GW_in 10 rfl (List.mem_of_getElem? (i := 18) rfl)
theorem q_319 : Cond.selects RJx4a65c yJx4a65c_add_72be8 yJx4a65c_add_72be8 ∈ GW := GW_in 10 rfl (List.mem_of_getElem? (i := 19) rfl)
theorem q_320 : Cond.code yJx4a65c_add_9ea2d cJx4a65c_add_9ea2d 2 (some .boolean) ∈ GW := GW_in 10 rfl (List.mem_of_getElem? (i := 20) rfl)
theorem q_321 : Cond.classLink RX7 29 "java/lang/IllegalStateException" ∈ GW := GW_in 10 rfl (List.mem_of_getElem? (i := 21) rfl)
theorem q_322 : Cond.initialized "java/lang/IllegalStateException" ∈ GW := GW_in 10 rfl (List.mem_of_getElem? (i := 22) rfl)
theorem q_323 : Cond.constant RX7 20 (1000000) ∈ GW := GW_in 10 rfl (List.mem_of_getElem? (i := 23) rfl)
theorem q_324 : Cond.classLink RX7 36 RX5 ∈ GW := GW_in 10 rfl (List.mem_of_getElem? (i := 24) rfl)
theorem q_325 : Cond.instantiable RX5 7 ∈ GW := GW_in 10 rfl (List.mem_of_getElem? (i := 25) rfl)
theorem q_326 : Cond.methodLink RX7 21 yX7_demandRange ∈ GW := GW_in 10 rfl (List.mem_of_getElem? (i := 26) rfl)
theorem q_327 : Cond.static yX7_demandRange ∈ GW := GW_in 10 rfl (List.mem_of_getElem? (i := 27) rfl)
theorem q_328 : Cond.methodLink RX7 25 yJx4a65c_size_8abf5 ∈ GW := GW_in 10 rfl (List.mem_of_getElem? (i := 28) rfl)
theorem q_329 : Cond.instanceMethod yJx4a65c_size_8abf5 ∈ GW := GW_in 10 rfl (List.mem_of_getElem? (i := 29) rfl)
theorem q_330 : Cond.selects RJx4a65c yJx4a65c_size_8abf5 yJx4a65c_size_8abf5 ∈ GW := GW_in 11 rfl (List.mem_of_getElem? (i := 0) rfl)
theorem q_331 : Cond.methodLink RX7 38 yX5_init ∈ GW := GW_in 11 rfl (List.mem_of_getElem? (i := 1) rfl)
theorem q_332 : Cond.instanceMethod yX5_init ∈ GW := GW_in 11 rfl (List.mem_of_getElem? (i := 2) rfl)
theorem q_333 : Cond.methodLink RX7 41 yJx4a65c_add_9ea2d ∈ GW := GW_in 11 rfl (List.mem_of_getElem? (i := 3) rfl)
theorem q_334 : Cond.instanceMethod yJx4a65c_add_9ea2d ∈ GW := GW_in 11 rfl (List.mem_of_getElem? (i := 4) rfl)
theorem q_335 : Cond.selects RJx4a65c yJx4a65c_add_9ea2d yJx4a65c_add_9ea2d ∈ GW := GW_in 11 rfl (List.mem_of_getElem? (i := 5) rfl)
theorem q_336 : Cond.code yX7_addStore cX7_addStore 2 (some .int) ∈ GW := GW_in 11 rfl (List.mem_of_getElem? (i := 6) rfl)
theorem q_337 : Cond.code yJ3_checkIndex_8e157 cJ3_checkIndex_8e157 3 (some .int) ∈ GW := GW_in 11 rfl (List.mem_of_getElem? (i := 7) rfl)
theorem q_338 : Cond.code yJ15_checkIndex_7cf53 cJ15_checkIndex_7cf53 2 (some .int) ∈ GW := GW_in 11 rfl (List.mem_of_getElem? (i := 8) rfl)
theorem q_339 : Cond.methodLink RJ15 105 yJ3_checkIndex_8e157 ∈ GW := GW_in 11 rfl (List.mem_of_getElem? (i := 9) rfl)
theorem q_340 : Cond.static yJ3_checkIndex_8e157 ∈ GW := GW_in 11 rfl (List.mem_of_getElem? (i := 10) rfl)
theorem q_341 : Cond.initialized RJ3 ∈ GW := GW_in 11 rfl (List.mem_of_getElem? (i := 11) rfl)
theorem q_342 : Cond.code yJx4a65c_elementData_915e3 cJx4a65c_elementData_915e3 2 (some (.object "java/lang/Object")) ∈ GW := GW_in 11 rfl (List.mem_of_getElem? (i := 12) rfl)
theorem q_343 : Cond.code yJx4a65c_get_915e3 cJx4a65c_get_915e3 2 (some (.object "java/lang/Object")) ∈ GW := GW_in 11 rfl (List.mem_of_getElem? (i := 13) rfl)
theorem q_344 : Cond.methodLink RJx4a65c 118 yJ15_checkIndex_7cf53 ∈ GW := GW_in 11 rfl (List.mem_of_getElem? (i := 14) rfl)
theorem q_345 : Cond.static yJ15_checkIndex_7cf53 ∈ GW := GW_in 11 rfl (List.mem_of_getElem? (i := 15) rfl)
theorem q_346 : Cond.initialized RJ15 ∈ GW := GW_in 11 rfl (List.mem_of_getElem? (i := 16) rfl)
theorem q_347 : Cond.methodLink RJx4a65c 123 yJx4a65c_elementData_915e3 ∈ GW := GW_in 11 rfl (List.mem_of_getElem? (i := 17) rfl)
theorem q_348 : Cond.instanceMethod yJx4a65c_elementData_915e3 ∈ GW := GW_in 11 rfl (List.mem_of_getElem? (i := 18) rfl)
theorem q_349 : Cond.selects RJx4a65c yJx4a65c_elementData_915e3 yJx4a65c_elementData_915e3 ∈ GW := GW_in 11 rfl (List.mem_of_getElem? (i := 19) rfl)
theorem q_350 : Cond.classLink RX7 159 "java/lang/IndexOutOfBoundsException" ∈ GW := GW_in 11 rfl (List.mem_of_getElem? (i := 20) rfl)
theorem q_351 : Cond.initialized "java/lang/IndexOutOfBoundsException" ∈ GW := GW_in 11 rfl (List.mem_of_getElem? (i := 21) rfl)
theorem q_352 : Cond.classLink RX7 36 "RoomForecast$Store" ∈ GW := GW_in 11 rfl (List.mem_of_getElem? (i := 22) rfl)
theorem q_353 : Cond.methodLink RX7 88 yJx4a65c_get_915e3 ∈ GW := GW_in 11 rfl (List.mem_of_getElem? (i := 23) rfl)
theorem q_354 : Cond.instanceMethod yJx4a65c_get_915e3 ∈ GW := GW_in 11 rfl (List.mem_of_getElem? (i := 24) rfl)
theorem q_355 : Cond.selects RJx4a65c yJx4a65c_get_915e3 yJx4a65c_get_915e3 ∈ GW := GW_in 11 rfl (List.mem_of_getElem? (i := 25) rfl)
theorem q_356 : Cond.code yX7_storeAt cX7_storeAt 2 (some (.object "RoomForecast$Store")) ∈ GW := GW_in 11 rfl (List.mem_of_getElem? (i := 26) rfl)
theorem q_357 : Cond.methodLink RX7 45 yX7_storeAt ∈ GW := GW_in 11 rfl (List.mem_of_getElem? (i := 27) rfl)
theorem q_358 : Cond.instanceMethod yX7_storeAt ∈ GW := GW_in 11 rfl (List.mem_of_getElem? (i := 28) rfl)
theorem q_359 : Cond.selects RX7 yX7_storeAt yX7_storeAt ∈ GW := GW_in 11 rfl (List.mem_of_getElem? (i := 29) rfl)
theorem q_360 : Cond.code yX7_setSize cX7_setSize 5 (some .int) ∈ GW := GW_in 12 rfl (List.mem_of_getElem? (i := 0) rfl)
theorem q_361 : Cond.methodLink RX7 51 yX5_tellUsed ∈ GW := GW_in 12 rfl (List.mem_of_getElem? (i := 1) rfl)
theorem q_362 : Cond.instanceMethod yX5_tellUsed ∈ GW := GW_in 12 rfl (List.mem_of_getElem? (i := 2) rfl)
theorem q_363 : Cond.selects RX5 yX5_tellUsed yX5_tellUsed ∈ GW := GW_in 12 rfl (List.mem_of_getElem? (i := 3) rfl)
theorem q_364 : Cond.methodLink RX7 59 yX4_number ∈ GW := GW_in 12 rfl (List.mem_of_getElem? (i := 4) rfl)
theorem q_365 : Cond.code yX7_sample cX7_sample 4 (some .int) ∈ GW := GW_in 12 rfl (List.mem_of_getElem? (i := 5) rfl)
theorem q_366 : Cond.constant RX7 64 (100000) ∈ GW := GW_in 12 rfl (List.mem_of_getElem? (i := 6) rfl)
theorem q_367 : Cond.methodLink RX7 69 yX0_number ∈ GW := GW_in 12 rfl (List.mem_of_getElem? (i := 7) rfl)
theorem q_368 : Cond.instanceMethod yX0_number ∈ GW := GW_in 12 rfl (List.mem_of_getElem? (i := 8) rfl)
theorem q_369 : Cond.selects RX0 yX0_number yX0_number ∈ GW := GW_in 12 rfl (List.mem_of_getElem? (i := 9) rfl)
theorem q_370 : Cond.methodLink RX7 74 yX5_tellFreed ∈ GW := GW_in 12 rfl (List.mem_of_getElem? (i := 10) rfl)
theorem q_371 : Cond.instanceMethod yX5_tellFreed ∈ GW := GW_in 12 rfl (List.mem_of_getElem? (i := 11) rfl)
theorem q_372 : Cond.selects RX5 yX5_tellFreed yX5_tellFreed ∈ GW := GW_in 12 rfl (List.mem_of_getElem? (i := 12) rfl)
theorem q_373 : Cond.code yX7_clean cX7_clean 4 (some .int) ∈ GW := GW_in 12 rfl (List.mem_of_getElem? (i := 13) rfl)
theorem q_374 : Cond.methodLink RX7 81 yX3_change ∈ GW := GW_in 12 rfl (List.mem_of_getElem? (i := 14) rfl)
theorem q_375 : Cond.instanceMethod yX3_change ∈ GW := GW_in 12 rfl (List.mem_of_getElem? (i := 15) rfl)
theorem q_376 : Cond.selects RX3 yX3_change yX3_change ∈ GW := GW_in 12 rfl (List.mem_of_getElem? (i := 16) rfl)
theorem q_377 : Cond.code yX7_setRule cX7_setRule 5 none ∈ GW := GW_in 12 rfl (List.mem_of_getElem? (i := 17) rfl)
theorem q_378 : Cond.methodLink RX7 92 yX5_lookOnDaysAfter ∈ GW := GW_in 12 rfl (List.mem_of_getElem? (i := 18) rfl)
theorem q_379 : Cond.instanceMethod yX5_lookOnDaysAfter ∈ GW := GW_in 12 rfl (List.mem_of_getElem? (i := 19) rfl)
theorem q_380 : Cond.selects RX5 yX5_lookOnDaysAfter yX5_lookOnDaysAfter ∈ GW := GW_in 12 rfl (List.mem_of_getElem? (i := 20) rfl)
theorem q_381 : Cond.code yX7_pass cX7_pass 4 (some .int) ∈ GW := GW_in 12 rfl (List.mem_of_getElem? (i := 21) rfl)
theorem q_382 : Cond.code yX7_today cX7_today 1 (some .int) ∈ GW := GW_in 12 rfl (List.mem_of_getElem? (i := 22) rfl)
theorem q_383 : Cond.code yX7_samples cX7_samples 2 (some .int) ∈ GW := GW_in 12 rfl (List.mem_of_getElem? (i := 23) rfl)
theorem q_384 : Cond.methodLink RX7 164 yX5_hasSlope ∈ GW := GW_in 12 rfl (List.mem_of_getElem? (i := 24) rfl)
theorem q_385 : Cond.methodLink RX7 170 yX5_drawLineWithout ∈ GW := GW_in 12 rfl (List.mem_of_getElem? (i := 25) rfl)
theorem q_386 : Cond.code yX7_slopeOf cX7_slopeOf 3 (some (.object "RoomForecast$Line")) ∈ GW := GW_in 12 rfl (List.mem_of_getElem? (i := 26) rfl)
theorem q_387 : Cond.methodLink RX7 96 yX7_slopeOf ∈ GW := GW_in 12 rfl (List.mem_of_getElem? (i := 27) rfl)
theorem q_388 : Cond.instanceMethod yX7_slopeOf ∈ GW := GW_in 12 rfl (List.mem_of_getElem? (i := 28) rfl)
theorem q_389 : Cond.selects RX7 yX7_slopeOf yX7_slopeOf ∈ GW := GW_in 12 rfl (List.mem_of_getElem? (i := 29) rfl)
theorem q_390 : Cond.methodLink RX7 100 yX1_riseInLowestTerms ∈ GW := GW_in 13 rfl (List.mem_of_getElem? (i := 0) rfl)
theorem q_391 : Cond.instanceMethod yX1_riseInLowestTerms ∈ GW := GW_in 13 rfl (List.mem_of_getElem? (i := 1) rfl)
theorem q_392 : Cond.selects RX1 yX1_riseInLowestTerms yX1_riseInLowestTerms ∈ GW := GW_in 13 rfl (List.mem_of_getElem? (i := 2) rfl)
theorem q_393 : Cond.code yX7_slopeNumerator cX7_slopeNumerator 2 (some .int) ∈ GW := GW_in 13 rfl (List.mem_of_getElem? (i := 3) rfl)
theorem q_394 : Cond.methodLink RX7 105 yX1_runInLowestTerms ∈ GW := GW_in 13 rfl (List.mem_of_getElem? (i := 4) rfl)
theorem q_395 : Cond.instanceMethod yX1_runInLowestTerms ∈ GW := GW_in 13 rfl (List.mem_of_getElem? (i := 5) rfl)
theorem q_396 : Cond.selects RX1 yX1_runInLowestTerms yX1_runInLowestTerms ∈ GW := GW_in 13 rfl (List.mem_of_getElem? (i := 6) rfl)
theorem q_397 : Cond.code yX7_slopeDenominator cX7_slopeDenominator 2 (some .int) ∈ GW := GW_in 13 rfl (List.mem_of_getElem? (i := 7) rfl)
theorem q_398 : Cond.methodLink RX7 108 yX0_usualSize ∈ GW := GW_in 13 rfl (List.mem_of_getElem? (i := 8) rfl)
theorem q_399 : Cond.code yX7_usual cX7_usual 2 (some .int) ∈ GW := GW_in 13 rfl (List.mem_of_getElem? (i := 9) rfl)
theorem q_400 : Cond.methodLink RX7 114 yX5_roomOn ∈ GW := GW_in 13 rfl (List.mem_of_getElem? (i := 10) rfl)
theorem q_401 : Cond.code yX7_forecast cX7_forecast 5 (some .int) ∈ GW := GW_in 13 rfl (List.mem_of_getElem? (i := 11) rfl)
theorem q_402 : Cond.code yX7_dayOrNone cX7_dayOrNone 1 (some .int) ∈ GW := GW_in 13 rfl (List.mem_of_getElem? (i := 12) rfl)
theorem q_403 : Cond.methodLink RX7 118 yX5_fullDay ∈ GW := GW_in 13 rfl (List.mem_of_getElem? (i := 13) rfl)
theorem q_404 : Cond.instanceMethod yX5_fullDay ∈ GW := GW_in 13 rfl (List.mem_of_getElem? (i := 14) rfl)
theorem q_405 : Cond.selects RX5 yX5_fullDay yX5_fullDay ∈ GW := GW_in 13 rfl (List.mem_of_getElem? (i := 15) rfl)
theorem q_406 : Cond.methodLink RX7 121 yX7_dayOrNone ∈ GW := GW_in 13 rfl (List.mem_of_getElem? (i := 16) rfl)
theorem q_407 : Cond.static yX7_dayOrNone ∈ GW := GW_in 13 rfl (List.mem_of_getElem? (i := 17) rfl)
theorem q_408 : Cond.code yX7_full cX7_full 2 (some .int) ∈ GW := GW_in 13 rfl (List.mem_of_getElem? (i := 18) rfl)
theorem q_409 : Cond.methodLink RX7 124 yX5_earlyBound ∈ GW := GW_in 13 rfl (List.mem_of_getElem? (i := 19) rfl)
theorem q_410 : Cond.code yX7_early cX7_early 2 (some .int) ∈ GW := GW_in 13 rfl (List.mem_of_getElem? (i := 20) rfl)
theorem q_411 : Cond.methodLink RX7 127 yX5_lateBound ∈ GW := GW_in 13 rfl (List.mem_of_getElem? (i := 21) rfl)
theorem q_412 : Cond.instanceMethod yX5_lateBound ∈ GW := GW_in 13 rfl (List.mem_of_getElem? (i := 22) rfl)
theorem q_413 : Cond.selects RX5 yX5_lateBound yX5_lateBound ∈ GW := GW_in 13 rfl (List.mem_of_getElem? (i := 23) rfl)
theorem q_414 : Cond.code yX7_late cX7_late 2 (some .int) ∈ GW := GW_in 13 rfl (List.mem_of_getElem? (i := 24) rfl)
theorem q_415 : Cond.code yX7_warns cX7_warns 2 (some .boolean) ∈ GW := GW_in 13 rfl (List.mem_of_getElem? (i := 25) rfl)
theorem q_416 : Cond.code yX7_isInPool cX7_isInPool 2 (some .boolean) ∈ GW := GW_in 13 rfl (List.mem_of_getElem? (i := 26) rfl)
theorem q_417 : Cond.methodLink RX7 177 yX7_isInPool ∈ GW := GW_in 13 rfl (List.mem_of_getElem? (i := 27) rfl)
theorem q_418 : Cond.static yX7_isInPool ∈ GW := GW_in 13 rfl (List.mem_of_getElem? (i := 28) rfl)
theorem q_419 : Cond.code yX7_drawPool cX7_drawPool 4 (some .boolean) ∈ GW := GW_in 13 rfl (List.mem_of_getElem? (i := 29) rfl)
theorem q_420 : Cond.code yX7_poolSize cX7_poolSize 5 (some .long) ∈ GW := GW_in 14 rfl (List.mem_of_getElem? (i := 0) rfl)
theorem q_421 : Cond.code yX7_poolRoomOn cX7_poolRoomOn 6 (some .long) ∈ GW := GW_in 14 rfl (List.mem_of_getElem? (i := 1) rfl)
theorem q_422 : Cond.methodLink RX7 145 yX7_drawPool ∈ GW := GW_in 14 rfl (List.mem_of_getElem? (i := 2) rfl)
theorem q_423 : Cond.instanceMethod yX7_drawPool ∈ GW := GW_in 14 rfl (List.mem_of_getElem? (i := 3) rfl)
theorem q_424 : Cond.selects RX7 yX7_drawPool yX7_drawPool ∈ GW := GW_in 14 rfl (List.mem_of_getElem? (i := 4) rfl)
theorem q_425 : Cond.methodLink RX7 149 yX7_poolSize ∈ GW := GW_in 14 rfl (List.mem_of_getElem? (i := 5) rfl)
theorem q_426 : Cond.instanceMethod yX7_poolSize ∈ GW := GW_in 14 rfl (List.mem_of_getElem? (i := 6) rfl)
theorem q_427 : Cond.selects RX7 yX7_poolSize yX7_poolSize ∈ GW := GW_in 14 rfl (List.mem_of_getElem? (i := 7) rfl)
theorem q_428 : Cond.methodLink RX7 153 yX7_poolRoomOn ∈ GW := GW_in 14 rfl (List.mem_of_getElem? (i := 8) rfl)
theorem q_429 : Cond.instanceMethod yX7_poolRoomOn ∈ GW := GW_in 14 rfl (List.mem_of_getElem? (i := 9) rfl)
theorem q_430 : Cond.selects RX7 yX7_poolRoomOn yX7_poolRoomOn ∈ GW := GW_in 14 rfl (List.mem_of_getElem? (i := 10) rfl)
theorem q_431 : Cond.code yX7_poolFull cX7_poolFull 5 (some .int) ∈ GW := GW_in 14 rfl (List.mem_of_getElem? (i := 11) rfl)
theorem q_432 : Cond.methodLink RX8 1 objectInit ∈ GW := GW_in 14 rfl (List.mem_of_getElem? (i := 12) rfl)
theorem q_433 : Cond.fieldLink RX8 7 "RoomForecastModel" "sizes" "[I" ∈ GW := GW_in 14 rfl (List.mem_of_getElem? (i := 13) rfl)
theorem q_434 : Cond.fieldLink RX8 13 "RoomForecastModel" "counts" "[I" ∈ GW := GW_in 14 rfl (List.mem_of_getElem? (i := 14) rfl)
theorem q_435 : Cond.fieldLink RX8 16 "RoomForecastModel" "days" "[I" ∈ GW := GW_in 14 rfl (List.mem_of_getElem? (i := 15) rfl)
theorem q_436 : Cond.fieldLink RX8 19 "RoomForecastModel" "used" "[I" ∈ GW := GW_in 14 rfl (List.mem_of_getElem? (i := 16) rfl)
theorem q_437 : Cond.fieldLink RX8 22 "RoomForecastModel" "cleaned" "[I" ∈ GW := GW_in 14 rfl (List.mem_of_getElem? (i := 17) rfl)
theorem q_438 : Cond.fieldLink RX8 25 "RoomForecastModel" "cleanDays" "[I" ∈ GW := GW_in 14 rfl (List.mem_of_getElem? (i := 18) rfl)
theorem q_439 : Cond.fieldLink RX8 28 "RoomForecastModel" "freed" "[I" ∈ GW := GW_in 14 rfl (List.mem_of_getElem? (i := 19) rfl)
theorem q_440 : Cond.fieldLink RX8 31 "RoomForecastModel" "froms" "[I" ∈ GW := GW_in 14 rfl (List.mem_of_getElem? (i := 20) rfl)
theorem q_441 : Cond.fieldLink RX8 34 "RoomForecastModel" "every" "[I" ∈ GW := GW_in 14 rfl (List.mem_of_getElem? (i := 21) rfl)
theorem q_442 : Cond.arrayClass .boolean ∈ GW := GW_in 14 rfl (List.mem_of_getElem? (i := 22) rfl)
theorem q_443 : Cond.fieldLink RX8 37 "RoomForecastModel" "warns" "[Z" ∈ GW := GW_in 14 rfl (List.mem_of_getElem? (i := 23) rfl)
theorem q_444 : Cond.fieldLink RX8 41 "RoomForecastModel" "wasNear" "[Z" ∈ GW := GW_in 14 rfl (List.mem_of_getElem? (i := 24) rfl)
theorem q_445 : Cond.fieldLink RX8 44 "RoomForecastModel" "isFound" "[Z" ∈ GW := GW_in 14 rfl (List.mem_of_getElem? (i := 25) rfl)
theorem q_446 : Cond.fieldLink RX8 47 "RoomForecastModel" "earliest" "[I" ∈ GW := GW_in 14 rfl (List.mem_of_getElem? (i := 26) rfl)
theorem q_447 : Cond.fieldLink RX8 50 "RoomForecastModel" "latest" "[I" ∈ GW := GW_in 14 rfl (List.mem_of_getElem? (i := 27) rfl)
theorem q_448 : Cond.fieldLink RX8 53 "RoomForecastModel" "filled" "[I" ∈ GW := GW_in 14 rfl (List.mem_of_getElem? (i := 28) rfl)
theorem q_449 : Cond.fieldLink RX8 56 "RoomForecastModel" "numerators" "[I" ∈ GW := GW_in 14 rfl (List.mem_of_getElem? (i := 29) rfl)
theorem q_450 : Cond.fieldLink RX8 59 "RoomForecastModel" "denominators" "[I" ∈ GW := GW_in 15 rfl (List.mem_of_getElem? (i := 0) rfl)
theorem q_451 : Cond.fieldLink RX8 62 "RoomForecastModel" "slopeNs" "[I" ∈ GW := GW_in 15 rfl (List.mem_of_getElem? (i := 1) rfl)
theorem q_452 : Cond.fieldLink RX8 65 "RoomForecastModel" "slopeDs" "[I" ∈ GW := GW_in 15 rfl (List.mem_of_getElem? (i := 2) rfl)
theorem q_453 : Cond.fieldLink RX8 68 "RoomForecastModel" "lastDays" "[I" ∈ GW := GW_in 15 rfl (List.mem_of_getElem? (i := 3) rfl)
theorem q_454 : Cond.fieldLink RX8 71 "RoomForecastModel" "lastUseds" "[I" ∈ GW := GW_in 15 rfl (List.mem_of_getElem? (i := 4) rfl)
theorem q_455 : Cond.fieldLink RX8 74 "RoomForecastModel" "usuals" "[I" ∈ GW := GW_in 15 rfl (List.mem_of_getElem? (i := 5) rfl)
theorem q_456 : Cond.code yX8_init cX8_init 1 none ∈ GW := GW_in 15 rfl (List.mem_of_getElem? (i := 6) rfl)
theorem q_457 : Cond.code yX8_thrown cX8_thrown 1 (some .int) ∈ GW := GW_in 15 rfl (List.mem_of_getElem? (i := 7) rfl)
theorem q_458 : Cond.fieldLink RX8 77 "RoomForecastModel" "thrown" "I" ∈ GW := GW_in 15 rfl (List.mem_of_getElem? (i := 8) rfl)
theorem q_459 : Cond.code yX8_goes cX8_goes 2 (some .boolean) ∈ GW := GW_in 15 rfl (List.mem_of_getElem? (i := 9) rfl)
theorem q_460 : Cond.code yX8_isIn cX8_isIn 3 (some .boolean) ∈ GW := GW_in 15 rfl (List.mem_of_getElem? (i := 10) rfl)
theorem q_461 : Cond.code yX8_isStore cX8_isStore 2 (some .boolean) ∈ GW := GW_in 15 rfl (List.mem_of_getElem? (i := 11) rfl)
theorem q_462 : Cond.fieldLink RX8 81 "RoomForecastModel" "stores" "I" ∈ GW := GW_in 15 rfl (List.mem_of_getElem? (i := 12) rfl)
theorem q_463 : Cond.methodLink RX8 84 yX8_isIn ∈ GW := GW_in 15 rfl (List.mem_of_getElem? (i := 13) rfl)
theorem q_464 : Cond.static yX8_isIn ∈ GW := GW_in 15 rfl (List.mem_of_getElem? (i := 14) rfl)
theorem q_465 : Cond.initialized RX8 ∈ GW := GW_in 15 rfl (List.mem_of_getElem? (i := 15) rfl)
theorem q_466 : Cond.code yX8_addStore cX8_addStore 2 (some .int) ∈ GW := GW_in 15 rfl (List.mem_of_getElem? (i := 16) rfl)
theorem q_467 : Cond.constant RX8 88 (1000000) ∈ GW := GW_in 15 rfl (List.mem_of_getElem? (i := 17) rfl)
theorem q_468 : Cond.methodLink RX8 89 yX8_goes ∈ GW := GW_in 15 rfl (List.mem_of_getElem? (i := 18) rfl)
theorem q_469 : Cond.instanceMethod yX8_goes ∈ GW := GW_in 15 rfl (List.mem_of_getElem? (i := 19) rfl)
theorem q_470 : Cond.selects RX8 yX8_goes yX8_goes ∈ GW := GW_in 15 rfl (List.mem_of_getElem? (i := 20) rfl)
theorem q_471 : Cond.code yX8_setSize cX8_setSize 4 (some .int) ∈ GW := GW_in 15 rfl (List.mem_of_getElem? (i := 21) rfl)
theorem q_472 : Cond.methodLink RX8 93 yX8_isStore ∈ GW := GW_in 15 rfl (List.mem_of_getElem? (i := 22) rfl)
theorem q_473 : Cond.instanceMethod yX8_isStore ∈ GW := GW_in 15 rfl (List.mem_of_getElem? (i := 23) rfl)
theorem q_474 : Cond.selects RX8 yX8_isStore yX8_isStore ∈ GW := GW_in 15 rfl (List.mem_of_getElem? (i := 24) rfl)
theorem q_475 : Cond.code yX8_sample cX8_sample 7 (some .int) ∈ GW := GW_in 15 rfl (List.mem_of_getElem? (i := 25) rfl)
theorem q_476 : Cond.fieldLink RX8 96 "RoomForecastModel" "today" "I" ∈ GW := GW_in 15 rfl (List.mem_of_getElem? (i := 26) rfl)
theorem q_477 : Cond.code yX8_clean cX8_clean 4 (some .int) ∈ GW := GW_in 15 rfl (List.mem_of_getElem? (i := 27) rfl)
theorem q_478 : Cond.constant RX8 99 (100000) ∈ GW := GW_in 15 rfl (List.mem_of_getElem? (i := 28) rfl)
theorem q_479 : Cond.code yX8_setRule cX8_setRule 5 none ∈ GW := GW_in 15 rfl (List.mem_of_getElem? (i := 29) rfl)
theorem q_480 : Cond.code yX8_middle cX8_middle 1 (some .int) ∈ GW := GW_in 16 rfl (List.mem_of_getElem? (i := 0) rfl)
theorem q_481 : Cond.code yX8_fill cX8_fill 5 (some .int) ∈ GW := GW_in 16 rfl (List.mem_of_getElem? (i := 1) rfl)
theorem q_482 : Cond.code yX8_compare cX8_compare 5 (some .int) ∈ GW := GW_in 16 rfl (List.mem_of_getElem? (i := 2) rfl)
theorem q_483 : Cond.code yX8_divisor cX8_divisor 5 (some .int) ∈ GW := GW_in 16 rfl (List.mem_of_getElem? (i := 3) rfl)
theorem q_484 : Cond.code yX8_laysSlopes cX8_laysSlopes 5 (some .boolean) ∈ GW := GW_in 16 rfl (List.mem_of_getElem? (i := 4) rfl)
theorem q_485 : Cond.fieldLink RX8 100 "RoomForecastModel" "slopes" "I" ∈ GW := GW_in 16 rfl (List.mem_of_getElem? (i := 5) rfl)
theorem q_486 : Cond.fieldLink RX8 107 "RoomForecastModel" "lastDay" "I" ∈ GW := GW_in 16 rfl (List.mem_of_getElem? (i := 6) rfl)
theorem q_487 : Cond.fieldLink RX8 110 "RoomForecastModel" "lastUsed" "I" ∈ GW := GW_in 16 rfl (List.mem_of_getElem? (i := 7) rfl)
theorem q_488 : Cond.methodLink RX8 103 yX8_fill ∈ GW := GW_in 16 rfl (List.mem_of_getElem? (i := 8) rfl)
theorem q_489 : Cond.instanceMethod yX8_fill ∈ GW := GW_in 16 rfl (List.mem_of_getElem? (i := 9) rfl)
theorem q_490 : Cond.selects RX8 yX8_fill yX8_fill ∈ GW := GW_in 16 rfl (List.mem_of_getElem? (i := 10) rfl)
theorem q_491 : Cond.fieldLink RX8 127 "RoomForecastModel" "slopeN" "I" ∈ GW := GW_in 16 rfl (List.mem_of_getElem? (i := 11) rfl)
theorem q_492 : Cond.fieldLink RX8 130 "RoomForecastModel" "slopeD" "I" ∈ GW := GW_in 16 rfl (List.mem_of_getElem? (i := 12) rfl)
theorem q_493 : Cond.methodLink RX8 113 yX8_laysSlopes ∈ GW := GW_in 16 rfl (List.mem_of_getElem? (i := 13) rfl)
theorem q_494 : Cond.instanceMethod yX8_laysSlopes ∈ GW := GW_in 16 rfl (List.mem_of_getElem? (i := 14) rfl)
theorem q_495 : Cond.selects RX8 yX8_laysSlopes yX8_laysSlopes ∈ GW := GW_in 16 rfl (List.mem_of_getElem? (i := 15) rfl)
theorem q_496 : Cond.methodLink RX8 117 yX8_compare ∈ GW := GW_in 16 rfl (List.mem_of_getElem? (i := 16) rfl)
theorem q_497 : Cond.instanceMethod yX8_compare ∈ GW := GW_in 16 rfl (List.mem_of_getElem? (i := 17) rfl)
theorem q_498 : Cond.selects RX8 yX8_compare yX8_compare ∈ GW := GW_in 16 rfl (List.mem_of_getElem? (i := 18) rfl)
theorem q_499 : Cond.methodLink RX8 120 yX8_middle ∈ GW := GW_in 16 rfl (List.mem_of_getElem? (i := 19) rfl)
theorem q_500 : Cond.static yX8_middle ∈ GW := GW_in 16 rfl (List.mem_of_getElem? (i := 20) rfl)
theorem q_501 : Cond.methodLink RX8 124 yX8_divisor ∈ GW := GW_in 16 rfl (List.mem_of_getElem? (i := 21) rfl)
theorem q_502 : Cond.static yX8_divisor ∈ GW := GW_in 16 rfl (List.mem_of_getElem? (i := 22) rfl)
theorem q_503 : Cond.code yX8_findsSlope cX8_findsSlope 7 (some .boolean) ∈ GW := GW_in 16 rfl (List.mem_of_getElem? (i := 23) rfl)
theorem q_504 : Cond.code yX8_usualOf cX8_usualOf 8 (some .int) ∈ GW := GW_in 16 rfl (List.mem_of_getElem? (i := 24) rfl)
theorem q_505 : Cond.code yX8_ruled cX8_ruled 3 (some .int) ∈ GW := GW_in 16 rfl (List.mem_of_getElem? (i := 25) rfl)
theorem q_506 : Cond.code yX8_forecastFor cX8_forecastFor 10 (some .long) ∈ GW := GW_in 16 rfl (List.mem_of_getElem? (i := 26) rfl)
theorem q_507 : Cond.constantLong RX8 136 (2000000000) ∈ GW := GW_in 16 rfl (List.mem_of_getElem? (i := 27) rfl)
theorem q_508 : Cond.methodLink RX8 133 yX8_ruled ∈ GW := GW_in 16 rfl (List.mem_of_getElem? (i := 28) rfl)
theorem q_509 : Cond.instanceMethod yX8_ruled ∈ GW := GW_in 16 rfl (List.mem_of_getElem? (i := 29) rfl)
theorem q_510 : Cond.selects RX8 yX8_ruled yX8_ruled ∈ GW := GW_in 17 rfl (List.mem_of_getElem? (i := 0) rfl)
theorem q_511 : Cond.methodLink RX8 138 yX8_findsSlope ∈ GW := GW_in 17 rfl (List.mem_of_getElem? (i := 1) rfl)
theorem q_512 : Cond.instanceMethod yX8_findsSlope ∈ GW := GW_in 17 rfl (List.mem_of_getElem? (i := 2) rfl)
theorem q_513 : Cond.selects RX8 yX8_findsSlope yX8_findsSlope ∈ GW := GW_in 17 rfl (List.mem_of_getElem? (i := 3) rfl)
theorem q_514 : Cond.methodLink RX8 141 yX8_usualOf ∈ GW := GW_in 17 rfl (List.mem_of_getElem? (i := 4) rfl)
theorem q_515 : Cond.instanceMethod yX8_usualOf ∈ GW := GW_in 17 rfl (List.mem_of_getElem? (i := 5) rfl)
theorem q_516 : Cond.selects RX8 yX8_usualOf yX8_usualOf ∈ GW := GW_in 17 rfl (List.mem_of_getElem? (i := 6) rfl)
theorem q_517 : Cond.methodLink RX8 144 yX8_forecastFor ∈ GW := GW_in 17 rfl (List.mem_of_getElem? (i := 7) rfl)
theorem q_518 : Cond.instanceMethod yX8_forecastFor ∈ GW := GW_in 17 rfl (List.mem_of_getElem? (i := 8) rfl)
theorem q_519 : Cond.selects RX8 yX8_forecastFor yX8_forecastFor ∈ GW := GW_in 17 rfl (List.mem_of_getElem? (i := 9) rfl)
theorem q_520 : Cond.code yX8_fullDay cX8_fullDay 6 (some .int) ∈ GW := GW_in 17 rfl (List.mem_of_getElem? (i := 10) rfl)
theorem q_521 : Cond.methodLink RX8 148 yX8_fullDay ∈ GW := GW_in 17 rfl (List.mem_of_getElem? (i := 11) rfl)
theorem q_522 : Cond.instanceMethod yX8_fullDay ∈ GW := GW_in 17 rfl (List.mem_of_getElem? (i := 12) rfl)
theorem q_523 : Cond.selects RX8 yX8_fullDay yX8_fullDay ∈ GW := GW_in 17 rfl (List.mem_of_getElem? (i := 13) rfl)
theorem q_524 : Cond.code yX8_findsBounds cX8_findsBounds 4 none ∈ GW := GW_in 17 rfl (List.mem_of_getElem? (i := 14) rfl)
theorem q_525 : Cond.methodLink RX8 151 yX8_findsBounds ∈ GW := GW_in 17 rfl (List.mem_of_getElem? (i := 15) rfl)
theorem q_526 : Cond.instanceMethod yX8_findsBounds ∈ GW := GW_in 17 rfl (List.mem_of_getElem? (i := 16) rfl)
theorem q_527 : Cond.selects RX8 yX8_findsBounds yX8_findsBounds ∈ GW := GW_in 17 rfl (List.mem_of_getElem? (i := 17) rfl)
theorem q_528 : Cond.code yX8_looks cX8_looks 4 (some .boolean) ∈ GW := GW_in 17 rfl (List.mem_of_getElem? (i := 18) rfl)
theorem q_529 : Cond.methodLink RX8 155 yX8_looks ∈ GW := GW_in 17 rfl (List.mem_of_getElem? (i := 19) rfl)
theorem q_530 : Cond.instanceMethod yX8_looks ∈ GW := GW_in 17 rfl (List.mem_of_getElem? (i := 20) rfl)
theorem q_531 : Cond.selects RX8 yX8_looks yX8_looks ∈ GW := GW_in 17 rfl (List.mem_of_getElem? (i := 21) rfl)
theorem q_532 : Cond.code yX8_pass cX8_pass 5 (some .int) ∈ GW := GW_in 17 rfl (List.mem_of_getElem? (i := 22) rfl)
theorem q_533 : Cond.code yX8_today cX8_today 1 (some .int) ∈ GW := GW_in 17 rfl (List.mem_of_getElem? (i := 23) rfl)
theorem q_534 : Cond.code yX8_asks cX8_asks 2 (some .boolean) ∈ GW := GW_in 17 rfl (List.mem_of_getElem? (i := 24) rfl)
theorem q_535 : Cond.code yX8_samples cX8_samples 2 (some .int) ∈ GW := GW_in 17 rfl (List.mem_of_getElem? (i := 25) rfl)
theorem q_536 : Cond.methodLink RX8 158 yX8_asks ∈ GW := GW_in 17 rfl (List.mem_of_getElem? (i := 26) rfl)
theorem q_537 : Cond.instanceMethod yX8_asks ∈ GW := GW_in 17 rfl (List.mem_of_getElem? (i := 27) rfl)
theorem q_538 : Cond.selects RX8 yX8_asks yX8_asks ∈ GW := GW_in 17 rfl (List.mem_of_getElem? (i := 28) rfl)
theorem q_539 : Cond.code yX8_asksSlope cX8_asksSlope 2 (some .boolean) ∈ GW := GW_in 17 rfl (List.mem_of_getElem? (i := 29) rfl)
theorem q_540 : Cond.methodLink RX8 161 yX8_asksSlope ∈ GW := GW_in 18 rfl (List.mem_of_getElem? (i := 0) rfl)
theorem q_541 : Cond.instanceMethod yX8_asksSlope ∈ GW := GW_in 18 rfl (List.mem_of_getElem? (i := 1) rfl)
theorem q_542 : Cond.selects RX8 yX8_asksSlope yX8_asksSlope ∈ GW := GW_in 18 rfl (List.mem_of_getElem? (i := 2) rfl)
theorem q_543 : Cond.code yX8_slopeNumerator cX8_slopeNumerator 2 (some .int) ∈ GW := GW_in 18 rfl (List.mem_of_getElem? (i := 3) rfl)
theorem q_544 : Cond.code yX8_slopeDenominator cX8_slopeDenominator 2 (some .int) ∈ GW := GW_in 18 rfl (List.mem_of_getElem? (i := 4) rfl)
theorem q_545 : Cond.code yX8_usual cX8_usual 2 (some .int) ∈ GW := GW_in 18 rfl (List.mem_of_getElem? (i := 5) rfl)
theorem q_546 : Cond.code yX8_forecast cX8_forecast 3 (some .int) ∈ GW := GW_in 18 rfl (List.mem_of_getElem? (i := 6) rfl)
theorem q_547 : Cond.code yX8_told cX8_told 1 (some .int) ∈ GW := GW_in 18 rfl (List.mem_of_getElem? (i := 7) rfl)
theorem q_548 : Cond.methodLink RX8 164 yX8_told ∈ GW := GW_in 18 rfl (List.mem_of_getElem? (i := 8) rfl)
theorem q_549 : Cond.static yX8_told ∈ GW := GW_in 18 rfl (List.mem_of_getElem? (i := 9) rfl)
theorem q_550 : Cond.code yX8_full cX8_full 2 (some .int) ∈ GW := GW_in 18 rfl (List.mem_of_getElem? (i := 10) rfl)
theorem q_551 : Cond.code yX8_early cX8_early 2 (some .int) ∈ GW := GW_in 18 rfl (List.mem_of_getElem? (i := 11) rfl)
theorem q_552 : Cond.code yX8_late cX8_late 2 (some .int) ∈ GW := GW_in 18 rfl (List.mem_of_getElem? (i := 12) rfl)
theorem q_553 : Cond.code yX8_warns cX8_warns 2 (some .boolean) ∈ GW := GW_in 18 rfl (List.mem_of_getElem? (i := 13) rfl)
theorem q_554 : Cond.code yX8_keeps cX8_keeps 2 none ∈ GW := GW_in 18 rfl (List.mem_of_getElem? (i := 14) rfl)
theorem q_555 : Cond.code yX8_together cX8_together 6 (some .long) ∈ GW := GW_in 18 rfl (List.mem_of_getElem? (i := 15) rfl)
theorem q_556 : Cond.methodLink RX8 167 yX8_keeps ∈ GW := GW_in 18 rfl (List.mem_of_getElem? (i := 16) rfl)
theorem q_557 : Cond.instanceMethod yX8_keeps ∈ GW := GW_in 18 rfl (List.mem_of_getElem? (i := 17) rfl)
theorem q_558 : Cond.selects RX8 yX8_keeps yX8_keeps ∈ GW := GW_in 18 rfl (List.mem_of_getElem? (i := 18) rfl)
theorem q_559 : Cond.methodLink RX8 170 yX8_together ∈ GW := GW_in 18 rfl (List.mem_of_getElem? (i := 19) rfl)
theorem q_560 : Cond.instanceMethod yX8_together ∈ GW := GW_in 18 rfl (List.mem_of_getElem? (i := 20) rfl)
theorem q_561 : Cond.selects RX8 yX8_together yX8_together ∈ GW := GW_in 18 rfl (List.mem_of_getElem? (i := 21) rfl)
theorem q_562 : Cond.code yX8_poolFull cX8_poolFull 7 (some .int) ∈ GW := GW_in 18 rfl (List.mem_of_getElem? (i := 22) rfl)
theorem q_563 : Cond.code yJ9_abs_0f7a4 cJ9_abs_0f7a4 1 (some .int) ∈ GW := GW_in 18 rfl (List.mem_of_getElem? (i := 23) rfl)
theorem q_564 : Cond.code yJ9_max_7cf53 cJ9_max_7cf53 2 (some .int) ∈ GW := GW_in 18 rfl (List.mem_of_getElem? (i := 24) rfl)
theorem q_565 : Cond.code yJ9_max_f86c9 cJ9_max_f86c9 4 (some .long) ∈ GW := GW_in 18 rfl (List.mem_of_getElem? (i := 25) rfl)
theorem q_566 : Cond.code yJ9_min_7cf53 cJ9_min_7cf53 2 (some .int) ∈ GW := GW_in 18 rfl (List.mem_of_getElem? (i := 26) rfl)
theorem q_567 : Cond.code yJ9_min_f86c9 cJ9_min_f86c9 4 (some .long) ∈ GW := GW_in 18 rfl (List.mem_of_getElem? (i := 27) rfl)
theorem q_568 : Cond.classLink RL 13 "java/lang/IllegalArgumentException" ∈ GW := GW_in 18 rfl (List.mem_of_getElem? (i := 28) rfl)
theorem q_569 : Cond.classLink RL 15 "java/lang/IllegalStateException" ∈ GW := GW_in 18 rfl (List.mem_of_getElem? (i := 29) rfl)
theorem q_570 : Cond.methodLink RL 7 yX7_addStore ∈ GW := GW_in 19 rfl (List.mem_of_getElem? (i := 0) rfl)
theorem q_571 : Cond.instanceMethod yX7_addStore ∈ GW := GW_in 19 rfl (List.mem_of_getElem? (i := 1) rfl)
theorem q_572 : Cond.selects RX7 yX7_addStore yX7_addStore ∈ GW := GW_in 19 rfl (List.mem_of_getElem? (i := 2) rfl)
theorem q_573 : Cond.codeWith yL_addStore cL_addStore 4 (some .int) [(0, 9, 12, 13), (0, 9, 15, 15)] ∈ GW := GW_in 19 rfl (List.mem_of_getElem? (i := 3) rfl)
theorem q_574 : Cond.classLink RL 21 "java/lang/IndexOutOfBoundsException" ∈ GW := GW_in 19 rfl (List.mem_of_getElem? (i := 4) rfl)
theorem q_575 : Cond.methodLink RL 17 yX7_setSize ∈ GW := GW_in 19 rfl (List.mem_of_getElem? (i := 5) rfl)
theorem q_576 : Cond.instanceMethod yX7_setSize ∈ GW := GW_in 19 rfl (List.mem_of_getElem? (i := 6) rfl)
theorem q_577 : Cond.selects RX7 yX7_setSize yX7_setSize ∈ GW := GW_in 19 rfl (List.mem_of_getElem? (i := 7) rfl)
theorem q_578 : Cond.codeWith yL_setSize cL_setSize 5 (some .int) [(0, 10, 13, 21), (0, 10, 17, 13)] ∈ GW := GW_in 19 rfl (List.mem_of_getElem? (i := 8) rfl)
theorem q_579 : Cond.methodLink RL 23 yX7_sample ∈ GW := GW_in 19 rfl (List.mem_of_getElem? (i := 9) rfl)
theorem q_580 : Cond.instanceMethod yX7_sample ∈ GW := GW_in 19 rfl (List.mem_of_getElem? (i := 10) rfl)
theorem q_581 : Cond.selects RX7 yX7_sample yX7_sample ∈ GW := GW_in 19 rfl (List.mem_of_getElem? (i := 11) rfl)
theorem q_582 : Cond.codeWith yL_sample cL_sample 5 (some .int) [(0, 10, 13, 21), (0, 10, 17, 13)] ∈ GW := GW_in 19 rfl (List.mem_of_getElem? (i := 12) rfl)
theorem q_583 : Cond.methodLink RL 26 yX7_clean ∈ GW := GW_in 19 rfl (List.mem_of_getElem? (i := 13) rfl)
theorem q_584 : Cond.instanceMethod yX7_clean ∈ GW := GW_in 19 rfl (List.mem_of_getElem? (i := 14) rfl)
theorem q_585 : Cond.selects RX7 yX7_clean yX7_clean ∈ GW := GW_in 19 rfl (List.mem_of_getElem? (i := 15) rfl)
theorem q_586 : Cond.codeWith yL_clean cL_clean 5 (some .int) [(0, 10, 13, 21), (0, 10, 17, 13), (0, 10, 21, 15)] ∈ GW := GW_in 19 rfl (List.mem_of_getElem? (i := 16) rfl)
theorem q_587 : Cond.methodLink RL 29 yX7_setRule ∈ GW := GW_in 19 rfl (List.mem_of_getElem? (i := 17) rfl)
theorem q_588 : Cond.instanceMethod yX7_setRule ∈ GW := GW_in 19 rfl (List.mem_of_getElem? (i := 18) rfl)
theorem q_589 : Cond.selects RX7 yX7_setRule yX7_setRule ∈ GW := GW_in 19 rfl (List.mem_of_getElem? (i := 19) rfl)
theorem q_590 : Cond.codeWith yL_setRule cL_setRule 5 (some .int) [(0, 7, 10, 21), (0, 7, 14, 13)] ∈ GW := GW_in 19 rfl (List.mem_of_getElem? (i := 20) rfl)
theorem q_591 : Cond.methodLink RL 33 yX7_pass ∈ GW := GW_in 19 rfl (List.mem_of_getElem? (i := 21) rfl)
theorem q_592 : Cond.instanceMethod yX7_pass ∈ GW := GW_in 19 rfl (List.mem_of_getElem? (i := 22) rfl)
theorem q_593 : Cond.selects RX7 yX7_pass yX7_pass ∈ GW := GW_in 19 rfl (List.mem_of_getElem? (i := 23) rfl)
theorem q_594 : Cond.codeWith yL_pass cL_pass 4 (some .int) [(0, 9, 12, 13), (0, 9, 15, 15)] ∈ GW := GW_in 19 rfl (List.mem_of_getElem? (i := 24) rfl)
theorem q_595 : Cond.methodLink RL 36 yX7_samples ∈ GW := GW_in 19 rfl (List.mem_of_getElem? (i := 25) rfl)
theorem q_596 : Cond.instanceMethod yX7_samples ∈ GW := GW_in 19 rfl (List.mem_of_getElem? (i := 26) rfl)
theorem q_597 : Cond.selects RX7 yX7_samples yX7_samples ∈ GW := GW_in 19 rfl (List.mem_of_getElem? (i := 27) rfl)
theorem q_598 : Cond.codeWith yL_samples cL_samples 4 (some .int) [(0, 9, 12, 21)] ∈ GW := GW_in 19 rfl (List.mem_of_getElem? (i := 28) rfl)
theorem q_599 : Cond.methodLink RL 39 yX7_slopeNumerator ∈ GW := GW_in 19 rfl (List.mem_of_getElem? (i := 29) rfl)
theorem q_600 : Cond.instanceMethod yX7_slopeNumerator ∈ GW := GW_in 20 rfl (List.mem_of_getElem? (i := 0) rfl)
theorem q_601 : Cond.selects RX7 yX7_slopeNumerator yX7_slopeNumerator ∈ GW := GW_in 20 rfl (List.mem_of_getElem? (i := 1) rfl)
theorem q_602 : Cond.codeWith yL_slopeNumerator cL_slopeNumerator 4 (some .int) [(0, 9, 12, 21), (0, 9, 15, 15)] ∈ GW := GW_in 20 rfl (List.mem_of_getElem? (i := 2) rfl)
theorem q_603 : Cond.methodLink RL 42 yX7_slopeDenominator ∈ GW := GW_in 20 rfl (List.mem_of_getElem? (i := 3) rfl)
theorem q_604 : Cond.instanceMethod yX7_slopeDenominator ∈ GW := GW_in 20 rfl (List.mem_of_getElem? (i := 4) rfl)
theorem q_605 : Cond.selects RX7 yX7_slopeDenominator yX7_slopeDenominator ∈ GW := GW_in 20 rfl (List.mem_of_getElem? (i := 5) rfl)
theorem q_606 : Cond.codeWith yL_slopeDenominator cL_slopeDenominator 4 (some .int) [(0, 9, 12, 21), (0, 9, 15, 15)] ∈ GW := GW_in 20 rfl (List.mem_of_getElem? (i := 6) rfl)
theorem q_607 : Cond.methodLink RL 45 yX7_usual ∈ GW := GW_in 20 rfl (List.mem_of_getElem? (i := 7) rfl)
theorem q_608 : Cond.instanceMethod yX7_usual ∈ GW := GW_in 20 rfl (List.mem_of_getElem? (i := 8) rfl)
theorem q_609 : Cond.selects RX7 yX7_usual yX7_usual ∈ GW := GW_in 20 rfl (List.mem_of_getElem? (i := 9) rfl)
theorem q_610 : Cond.codeWith yL_usual cL_usual 4 (some .int) [(0, 9, 12, 21)] ∈ GW := GW_in 20 rfl (List.mem_of_getElem? (i := 10) rfl)
theorem q_611 : Cond.methodLink RL 48 yX7_forecast ∈ GW := GW_in 20 rfl (List.mem_of_getElem? (i := 11) rfl)
theorem q_612 : Cond.instanceMethod yX7_forecast ∈ GW := GW_in 20 rfl (List.mem_of_getElem? (i := 12) rfl)
theorem q_613 : Cond.selects RX7 yX7_forecast yX7_forecast ∈ GW := GW_in 20 rfl (List.mem_of_getElem? (i := 13) rfl)
theorem q_614 : Cond.codeWith yL_forecast cL_forecast 5 (some .int) [(0, 10, 13, 21), (0, 10, 17, 15), (0, 10, 21, 13)] ∈ GW := GW_in 20 rfl (List.mem_of_getElem? (i := 14) rfl)
theorem q_615 : Cond.methodLink RL 51 yX7_full ∈ GW := GW_in 20 rfl (List.mem_of_getElem? (i := 15) rfl)
theorem q_616 : Cond.instanceMethod yX7_full ∈ GW := GW_in 20 rfl (List.mem_of_getElem? (i := 16) rfl)
theorem q_617 : Cond.selects RX7 yX7_full yX7_full ∈ GW := GW_in 20 rfl (List.mem_of_getElem? (i := 17) rfl)
theorem q_618 : Cond.codeWith yL_full cL_full 4 (some .int) [(0, 9, 12, 21)] ∈ GW := GW_in 20 rfl (List.mem_of_getElem? (i := 18) rfl)
theorem q_619 : Cond.methodLink RL 54 yX7_early ∈ GW := GW_in 20 rfl (List.mem_of_getElem? (i := 19) rfl)
theorem q_620 : Cond.instanceMethod yX7_early ∈ GW := GW_in 20 rfl (List.mem_of_getElem? (i := 20) rfl)
theorem q_621 : Cond.selects RX7 yX7_early yX7_early ∈ GW := GW_in 20 rfl (List.mem_of_getElem? (i := 21) rfl)
theorem q_622 : Cond.codeWith yL_early cL_early 4 (some .int) [(0, 9, 12, 21)] ∈ GW := GW_in 20 rfl (List.mem_of_getElem? (i := 22) rfl)
theorem q_623 : Cond.methodLink RL 57 yX7_late ∈ GW := GW_in 20 rfl (List.mem_of_getElem? (i := 23) rfl)
theorem q_624 : Cond.instanceMethod yX7_late ∈ GW := GW_in 20 rfl (List.mem_of_getElem? (i := 24) rfl)
theorem q_625 : Cond.selects RX7 yX7_late yX7_late ∈ GW := GW_in 20 rfl (List.mem_of_getElem? (i := 25) rfl)
theorem q_626 : Cond.codeWith yL_late cL_late 4 (some .int) [(0, 9, 12, 21)] ∈ GW := GW_in 20 rfl (List.mem_of_getElem? (i := 26) rfl)
theorem q_627 : Cond.methodLink RL 60 yX7_warns ∈ GW := GW_in 20 rfl (List.mem_of_getElem? (i := 27) rfl)
theorem q_628 : Cond.instanceMethod yX7_warns ∈ GW := GW_in 20 rfl (List.mem_of_getElem? (i := 28) rfl)
theorem q_629 : Cond.selects RX7 yX7_warns yX7_warns ∈ GW := GW_in 20 rfl (List.mem_of_getElem? (i := 29) rfl)
theorem q_630 : Cond.codeWith yL_warns cL_warns 4 (some .int) [(0, 16, 19, 21)] ∈ GW := GW_in 21 rfl (List.mem_of_getElem? (i := 0) rfl)
theorem q_631 : Cond.methodLink RL 64 yX7_poolFull ∈ GW := GW_in 21 rfl (List.mem_of_getElem? (i := 1) rfl)
theorem q_632 : Cond.instanceMethod yX7_poolFull ∈ GW := GW_in 21 rfl (List.mem_of_getElem? (i := 2) rfl)
theorem q_633 : Cond.selects RX7 yX7_poolFull yX7_poolFull ∈ GW := GW_in 21 rfl (List.mem_of_getElem? (i := 3) rfl)
theorem q_634 : Cond.codeWith yL_poolFull cL_poolFull 4 (some .int) [(0, 9, 12, 13)] ∈ GW := GW_in 21 rfl (List.mem_of_getElem? (i := 4) rfl)
theorem q_635 : Cond.classLink RL 8 RX7 ∈ GW := GW_in 21 rfl (List.mem_of_getElem? (i := 5) rfl)
theorem q_636 : Cond.instantiable RX7 2 ∈ GW := GW_in 21 rfl (List.mem_of_getElem? (i := 6) rfl)
theorem q_637 : Cond.classLink RL 68 RX8 ∈ GW := GW_in 21 rfl (List.mem_of_getElem? (i := 7) rfl)
theorem q_638 : Cond.instantiable RX8 30 ∈ GW := GW_in 21 rfl (List.mem_of_getElem? (i := 8) rfl)
theorem q_639 : Cond.arrayClass .long ∈ GW := GW_in 21 rfl (List.mem_of_getElem? (i := 9) rfl)
theorem q_640 : Cond.methodLink RL 67 yX7_init ∈ GW := GW_in 21 rfl (List.mem_of_getElem? (i := 10) rfl)
theorem q_641 : Cond.instanceMethod yX7_init ∈ GW := GW_in 21 rfl (List.mem_of_getElem? (i := 11) rfl)
theorem q_642 : Cond.methodLink RL 70 yX8_init ∈ GW := GW_in 21 rfl (List.mem_of_getElem? (i := 12) rfl)
theorem q_643 : Cond.instanceMethod yX8_init ∈ GW := GW_in 21 rfl (List.mem_of_getElem? (i := 13) rfl)
theorem q_644 : Cond.methodLink RL 71 yL_addStore ∈ GW := GW_in 21 rfl (List.mem_of_getElem? (i := 14) rfl)
theorem q_645 : Cond.static yL_addStore ∈ GW := GW_in 21 rfl (List.mem_of_getElem? (i := 15) rfl)
theorem q_646 : Cond.initialized RL ∈ GW := GW_in 21 rfl (List.mem_of_getElem? (i := 16) rfl)
theorem q_647 : Cond.methodLink RL 76 yX8_addStore ∈ GW := GW_in 21 rfl (List.mem_of_getElem? (i := 17) rfl)
theorem q_648 : Cond.instanceMethod yX8_addStore ∈ GW := GW_in 21 rfl (List.mem_of_getElem? (i := 18) rfl)
theorem q_649 : Cond.selects RX8 yX8_addStore yX8_addStore ∈ GW := GW_in 21 rfl (List.mem_of_getElem? (i := 19) rfl)
theorem q_650 : Cond.methodLink RL 77 yX8_thrown ∈ GW := GW_in 21 rfl (List.mem_of_getElem? (i := 20) rfl)
theorem q_651 : Cond.instanceMethod yX8_thrown ∈ GW := GW_in 21 rfl (List.mem_of_getElem? (i := 21) rfl)
theorem q_652 : Cond.selects RX8 yX8_thrown yX8_thrown ∈ GW := GW_in 21 rfl (List.mem_of_getElem? (i := 22) rfl)
theorem q_653 : Cond.methodLink RL 81 yL_setSize ∈ GW := GW_in 21 rfl (List.mem_of_getElem? (i := 23) rfl)
theorem q_654 : Cond.static yL_setSize ∈ GW := GW_in 21 rfl (List.mem_of_getElem? (i := 24) rfl)
theorem q_655 : Cond.methodLink RL 84 yX8_setSize ∈ GW := GW_in 21 rfl (List.mem_of_getElem? (i := 25) rfl)
theorem q_656 : Cond.instanceMethod yX8_setSize ∈ GW := GW_in 21 rfl (List.mem_of_getElem? (i := 26) rfl)
theorem q_657 : Cond.selects RX8 yX8_setSize yX8_setSize ∈ GW := GW_in 21 rfl (List.mem_of_getElem? (i := 27) rfl)
theorem q_658 : Cond.methodLink RL 85 yL_sample ∈ GW := GW_in 21 rfl (List.mem_of_getElem? (i := 28) rfl)
theorem q_659 : Cond.static yL_sample ∈ GW := GW_in 21 rfl (List.mem_of_getElem? (i := 29) rfl)
theorem q_660 : Cond.methodLink RL 87 yX8_sample ∈ GW := GW_in 22 rfl (List.mem_of_getElem? (i := 0) rfl)
theorem q_661 : Cond.instanceMethod yX8_sample ∈ GW := GW_in 22 rfl (List.mem_of_getElem? (i := 1) rfl)
theorem q_662 : Cond.selects RX8 yX8_sample yX8_sample ∈ GW := GW_in 22 rfl (List.mem_of_getElem? (i := 2) rfl)
theorem q_663 : Cond.methodLink RL 88 yL_clean ∈ GW := GW_in 22 rfl (List.mem_of_getElem? (i := 3) rfl)
theorem q_664 : Cond.static yL_clean ∈ GW := GW_in 22 rfl (List.mem_of_getElem? (i := 4) rfl)
theorem q_665 : Cond.methodLink RL 90 yX8_clean ∈ GW := GW_in 22 rfl (List.mem_of_getElem? (i := 5) rfl)
theorem q_666 : Cond.instanceMethod yX8_clean ∈ GW := GW_in 22 rfl (List.mem_of_getElem? (i := 6) rfl)
theorem q_667 : Cond.selects RX8 yX8_clean yX8_clean ∈ GW := GW_in 22 rfl (List.mem_of_getElem? (i := 7) rfl)
theorem q_668 : Cond.methodLink RL 91 yL_setRule ∈ GW := GW_in 22 rfl (List.mem_of_getElem? (i := 8) rfl)
theorem q_669 : Cond.static yL_setRule ∈ GW := GW_in 22 rfl (List.mem_of_getElem? (i := 9) rfl)
theorem q_670 : Cond.methodLink RL 94 yX8_setRule ∈ GW := GW_in 22 rfl (List.mem_of_getElem? (i := 10) rfl)
theorem q_671 : Cond.instanceMethod yX8_setRule ∈ GW := GW_in 22 rfl (List.mem_of_getElem? (i := 11) rfl)
theorem q_672 : Cond.selects RX8 yX8_setRule yX8_setRule ∈ GW := GW_in 22 rfl (List.mem_of_getElem? (i := 12) rfl)
theorem q_673 : Cond.methodLink RL 95 yL_pass ∈ GW := GW_in 22 rfl (List.mem_of_getElem? (i := 13) rfl)
theorem q_674 : Cond.static yL_pass ∈ GW := GW_in 22 rfl (List.mem_of_getElem? (i := 14) rfl)
theorem q_675 : Cond.methodLink RL 97 yX8_pass ∈ GW := GW_in 22 rfl (List.mem_of_getElem? (i := 15) rfl)
theorem q_676 : Cond.instanceMethod yX8_pass ∈ GW := GW_in 22 rfl (List.mem_of_getElem? (i := 16) rfl)
theorem q_677 : Cond.selects RX8 yX8_pass yX8_pass ∈ GW := GW_in 22 rfl (List.mem_of_getElem? (i := 17) rfl)
theorem q_678 : Cond.methodLink RL 98 yX7_today ∈ GW := GW_in 22 rfl (List.mem_of_getElem? (i := 18) rfl)
theorem q_679 : Cond.instanceMethod yX7_today ∈ GW := GW_in 22 rfl (List.mem_of_getElem? (i := 19) rfl)
theorem q_680 : Cond.selects RX7 yX7_today yX7_today ∈ GW := GW_in 22 rfl (List.mem_of_getElem? (i := 20) rfl)
theorem q_681 : Cond.methodLink RL 101 yX8_today ∈ GW := GW_in 22 rfl (List.mem_of_getElem? (i := 21) rfl)
theorem q_682 : Cond.instanceMethod yX8_today ∈ GW := GW_in 22 rfl (List.mem_of_getElem? (i := 22) rfl)
theorem q_683 : Cond.selects RX8 yX8_today yX8_today ∈ GW := GW_in 22 rfl (List.mem_of_getElem? (i := 23) rfl)
theorem q_684 : Cond.methodLink RL 102 yL_samples ∈ GW := GW_in 22 rfl (List.mem_of_getElem? (i := 24) rfl)
theorem q_685 : Cond.static yL_samples ∈ GW := GW_in 22 rfl (List.mem_of_getElem? (i := 25) rfl)
theorem q_686 : Cond.methodLink RL 104 yX8_samples ∈ GW := GW_in 22 rfl (List.mem_of_getElem? (i := 26) rfl)
theorem q_687 : Cond.instanceMethod yX8_samples ∈ GW := GW_in 22 rfl (List.mem_of_getElem? (i := 27) rfl)
theorem q_688 : Cond.selects RX8 yX8_samples yX8_samples ∈ GW := GW_in 22 rfl (List.mem_of_getElem? (i := 28) rfl)
theorem q_689 : Cond.methodLink RL 105 yL_slopeNumerator ∈ GW := GW_in 22 rfl (List.mem_of_getElem? (i := 29) rfl)
theorem q_690 : Cond.static yL_slopeNumerator ∈ GW := GW_in 23 rfl (List.mem_of_getElem? (i := 0) rfl)
theorem q_691 : Cond.methodLink RL 107 yX8_slopeNumerator ∈ GW := GW_in 23 rfl (List.mem_of_getElem? (i := 1) rfl)
theorem q_692 : Cond.instanceMethod yX8_slopeNumerator ∈ GW := GW_in 23 rfl (List.mem_of_getElem? (i := 2) rfl)
theorem q_693 : Cond.selects RX8 yX8_slopeNumerator yX8_slopeNumerator ∈ GW := GW_in 23 rfl (List.mem_of_getElem? (i := 3) rfl)
theorem q_694 : Cond.methodLink RL 108 yL_slopeDenominator ∈ GW := GW_in 23 rfl (List.mem_of_getElem? (i := 4) rfl)
theorem q_695 : Cond.static yL_slopeDenominator ∈ GW := GW_in 23 rfl (List.mem_of_getElem? (i := 5) rfl)
theorem q_696 : Cond.methodLink RL 110 yX8_slopeDenominator ∈ GW := GW_in 23 rfl (List.mem_of_getElem? (i := 6) rfl)
theorem q_697 : Cond.instanceMethod yX8_slopeDenominator ∈ GW := GW_in 23 rfl (List.mem_of_getElem? (i := 7) rfl)
theorem q_698 : Cond.selects RX8 yX8_slopeDenominator yX8_slopeDenominator ∈ GW := GW_in 23 rfl (List.mem_of_getElem? (i := 8) rfl)
theorem q_699 : Cond.methodLink RL 111 yL_usual ∈ GW := GW_in 23 rfl (List.mem_of_getElem? (i := 9) rfl)
theorem q_700 : Cond.static yL_usual ∈ GW := GW_in 23 rfl (List.mem_of_getElem? (i := 10) rfl)
theorem q_701 : Cond.methodLink RL 113 yX8_usual ∈ GW := GW_in 23 rfl (List.mem_of_getElem? (i := 11) rfl)
theorem q_702 : Cond.instanceMethod yX8_usual ∈ GW := GW_in 23 rfl (List.mem_of_getElem? (i := 12) rfl)
theorem q_703 : Cond.selects RX8 yX8_usual yX8_usual ∈ GW := GW_in 23 rfl (List.mem_of_getElem? (i := 13) rfl)
theorem q_704 : Cond.methodLink RL 114 yL_forecast ∈ GW := GW_in 23 rfl (List.mem_of_getElem? (i := 14) rfl)
theorem q_705 : Cond.static yL_forecast ∈ GW := GW_in 23 rfl (List.mem_of_getElem? (i := 15) rfl)
theorem q_706 : Cond.methodLink RL 116 yX8_forecast ∈ GW := GW_in 23 rfl (List.mem_of_getElem? (i := 16) rfl)
theorem q_707 : Cond.instanceMethod yX8_forecast ∈ GW := GW_in 23 rfl (List.mem_of_getElem? (i := 17) rfl)
theorem q_708 : Cond.selects RX8 yX8_forecast yX8_forecast ∈ GW := GW_in 23 rfl (List.mem_of_getElem? (i := 18) rfl)
theorem q_709 : Cond.methodLink RL 117 yL_full ∈ GW := GW_in 23 rfl (List.mem_of_getElem? (i := 19) rfl)
theorem q_710 : Cond.static yL_full ∈ GW := GW_in 23 rfl (List.mem_of_getElem? (i := 20) rfl)
theorem q_711 : Cond.methodLink RL 119 yX8_full ∈ GW := GW_in 23 rfl (List.mem_of_getElem? (i := 21) rfl)
theorem q_712 : Cond.instanceMethod yX8_full ∈ GW := GW_in 23 rfl (List.mem_of_getElem? (i := 22) rfl)
theorem q_713 : Cond.selects RX8 yX8_full yX8_full ∈ GW := GW_in 23 rfl (List.mem_of_getElem? (i := 23) rfl)
theorem q_714 : Cond.methodLink RL 120 yL_early ∈ GW := GW_in 23 rfl (List.mem_of_getElem? (i := 24) rfl)
theorem q_715 : Cond.static yL_early ∈ GW := GW_in 23 rfl (List.mem_of_getElem? (i := 25) rfl)
theorem q_716 : Cond.methodLink RL 122 yX8_early ∈ GW := GW_in 23 rfl (List.mem_of_getElem? (i := 26) rfl)
theorem q_717 : Cond.instanceMethod yX8_early ∈ GW := GW_in 23 rfl (List.mem_of_getElem? (i := 27) rfl)
theorem q_718 : Cond.selects RX8 yX8_early yX8_early ∈ GW := GW_in 23 rfl (List.mem_of_getElem? (i := 28) rfl)
theorem q_719 : Cond.methodLink RL 123 yL_late ∈ GW := GW_in 23 rfl (List.mem_of_getElem? (i := 29) rfl)
theorem q_720 : Cond.static yL_late ∈ GW := GW_in 24 rfl (List.mem_of_getElem? (i := 0) rfl)
theorem q_721 : Cond.methodLink RL 125 yX8_late ∈ GW := GW_in 24 rfl (List.mem_of_getElem? (i := 1) rfl)
theorem q_722 : Cond.instanceMethod yX8_late ∈ GW := GW_in 24 rfl (List.mem_of_getElem? (i := 2) rfl)
theorem q_723 : Cond.selects RX8 yX8_late yX8_late ∈ GW := GW_in 24 rfl (List.mem_of_getElem? (i := 3) rfl)
theorem q_724 : Cond.methodLink RL 126 yL_warns ∈ GW := GW_in 24 rfl (List.mem_of_getElem? (i := 4) rfl)
theorem q_725 : Cond.static yL_warns ∈ GW := GW_in 24 rfl (List.mem_of_getElem? (i := 5) rfl)
theorem q_726 : Cond.methodLink RL 128 yX8_warns ∈ GW := GW_in 24 rfl (List.mem_of_getElem? (i := 6) rfl)
theorem q_727 : Cond.instanceMethod yX8_warns ∈ GW := GW_in 24 rfl (List.mem_of_getElem? (i := 7) rfl)
theorem q_728 : Cond.selects RX8 yX8_warns yX8_warns ∈ GW := GW_in 24 rfl (List.mem_of_getElem? (i := 8) rfl)
theorem q_729 : Cond.methodLink RL 129 yL_poolFull ∈ GW := GW_in 24 rfl (List.mem_of_getElem? (i := 9) rfl)
theorem q_730 : Cond.static yL_poolFull ∈ GW := GW_in 24 rfl (List.mem_of_getElem? (i := 10) rfl)
theorem q_731 : Cond.methodLink RL 131 yX8_poolFull ∈ GW := GW_in 24 rfl (List.mem_of_getElem? (i := 11) rfl)
theorem q_732 : Cond.instanceMethod yX8_poolFull ∈ GW := GW_in 24 rfl (List.mem_of_getElem? (i := 12) rfl)
theorem q_733 : Cond.selects RX8 yX8_poolFull yX8_poolFull ∈ GW := GW_in 24 rfl (List.mem_of_getElem? (i := 13) rfl)
theorem in_X0 : ∀ w ∈ u_ws RX0 TX0 3, w ∈ GW := fun w hw => GW_in 25 rfl hw
theorem in_X1 : ∀ w ∈ u_ws RX1 TX1 4, w ∈ GW := fun w hw => GW_in 26 rfl hw
theorem in_X2 : ∀ w ∈ u_ws RX2 TX2 6, w ∈ GW := fun w hw => GW_in 27 rfl hw
theorem in_X3 : ∀ w ∈ u_ws RX3 TX3 2, w ∈ GW := fun w hw => GW_in 28 rfl hw
theorem in_X4 : ∀ w ∈ u_ws RX4 TX4 4, w ∈ GW := fun w hw => GW_in 29 rfl hw
theorem in_X5 : ∀ w ∈ u_ws RX5 TX5 7, w ∈ GW := fun w hw => GW_in 30 rfl hw
theorem in_X6 : ∀ w ∈ u_ws RX6 TX6 2, w ∈ GW := fun w hw => GW_in 31 rfl hw
theorem in_X7 : ∀ w ∈ u_ws RX7 TX7 2, w ∈ GW := fun w hw => GW_in 32 rfl hw
theorem in_X8 : ∀ w ∈ u_ws RX8 TX8 30, w ∈ GW := fun w hw => GW_in 33 rfl hw
theorem in_Jx145de : ∀ w ∈ u_ws RJx145de TJx145de 0, w ∈ GW := fun w hw => GW_in 34 rfl hw
theorem in_Jx8e188 : ∀ w ∈ u_ws RJx8e188 TJx8e188 0, w ∈ GW := fun w hw => GW_in 35 rfl hw
theorem in_Jxab1ab : ∀ w ∈ u_ws RJxab1ab TJxab1ab 0, w ∈ GW := fun w hw => GW_in 36 rfl hw
theorem in_J9 : ∀ w ∈ u_ws RJ9 TJ9 0, w ∈ GW := fun w hw => GW_in 37 rfl hw
theorem in_J0 : ∀ w ∈ u_ws RJ0 TJ0 0, w ∈ GW := fun w hw => GW_in 38 rfl hw
theorem in_J10 : ∀ w ∈ u_ws RJ10 TJ10 0, w ∈ GW := fun w hw => GW_in 39 rfl hw
theorem in_Jxa1e45 : ∀ w ∈ u_ws RJxa1e45 TJxa1e45 0, w ∈ GW := fun w hw => GW_in 40 rfl hw
theorem in_Jxc12de : ∀ w ∈ u_ws RJxc12de TJxc12de 0, w ∈ GW := fun w hw => GW_in 41 rfl hw
theorem in_Jx4a65c : ∀ w ∈ u_ws RJx4a65c TJx4a65c 3, w ∈ GW := fun w hw => GW_in 42 rfl hw
theorem in_J7 : ∀ w ∈ u_ws RJ7 TJ7 0, w ∈ GW := fun w hw => GW_in 43 rfl hw
theorem in_Jx5ef63 : ∀ w ∈ u_ws RJx5ef63 TJx5ef63 0, w ∈ GW := fun w hw => GW_in 44 rfl hw
theorem in_Jxbd725 : ∀ w ∈ u_ws RJxbd725 TJxbd725 0, w ∈ GW := fun w hw => GW_in 45 rfl hw
theorem in_J15 : ∀ w ∈ u_ws RJ15 TJ15 0, w ∈ GW := fun w hw => GW_in 46 rfl hw
theorem in_Jxf0a74 : ∀ w ∈ u_ws RJxf0a74 TJxf0a74 0, w ∈ GW := fun w hw => GW_in 47 rfl hw
theorem in_Jxa66e6 : ∀ w ∈ u_ws RJxa66e6 TJxa66e6 0, w ∈ GW := fun w hw => GW_in 48 rfl hw
theorem in_J8 : ∀ w ∈ u_ws RJ8 TJ8 0, w ∈ GW := fun w hw => GW_in 49 rfl hw
theorem in_J3 : ∀ w ∈ u_ws RJ3 TJ3 0, w ∈ GW := fun w hw => GW_in 50 rfl hw
end
section
def NW : List Cond := [Cond.castable "java/lang/IllegalArgumentException" "java/lang/IllegalArgumentException", Cond.castable "java/lang/IllegalStateException" "java/lang/IllegalStateException", Cond.methodLinkNest RX5 11 yX4_init RX7, Cond.methodLinkNest RX5 20 yX2_init RX7, Cond.methodLinkNest RX5 27 yX0_init RX7, Cond.methodLinkNest RX5 34 yX3_init RX7, Cond.methodLinkNest RX5 41 yX1_init RX7, Cond.fieldLinkNest RX5 107 RX1 "startDay" "I" RX7, Cond.fieldLinkNest RX7 111 RX1 "startDay" "I" RX7, Cond.methodLinkNest RX5 48 yX6_init RX7, Cond.fieldLinkNest RX7 134 RX6 "on" "Z" RX7, Cond.fieldLinkNest RX7 55 RX5 "samples" "LRoomForecast$Samples;" RX7, Cond.fieldLinkNest RX7 65 RX5 "cleanings" "LRoomForecast$Cleanings;" RX7, Cond.fieldLinkNest RX7 77 RX5 "rule" "LRoomForecast$Rule;" RX7, Cond.fieldLinkNest RX7 173 RX5 "line" "LRoomForecast$Line;" RX7, Cond.fieldLinkNest RX7 130 RX5 "warning" "LRoomForecast$Warning;" RX7, Cond.fieldLinkNest RX7 49 RX5 "size" "I" RX7, Cond.castable "java/lang/IndexOutOfBoundsException" "java/lang/IndexOutOfBoundsException", Cond.methodLinkNest RX2 61 yX7_middlePlace RX7, Cond.methodLinkNest RX0 22 yX7_middlePlace RX7, Cond.castable "RoomForecast" "java/lang/Object", Cond.castable "java/util/ArrayList" "java/lang/Object", Cond.castable "RoomForecastModel" "java/lang/Object", Cond.castable "java/lang/IllegalArgumentException" "java/lang/Object", Cond.castable "java/lang/IllegalStateException" "java/lang/Object", Cond.castable "RoomForecast$Store" "java/lang/Object", Cond.castable "RoomForecast$Samples" "java/lang/Object", Cond.castable "RoomForecast$PairSlopes" "java/lang/Object", Cond.castable "RoomForecast$Cleanings" "java/lang/Object", Cond.castable "RoomForecast$Rule" "java/lang/Object", Cond.castable "RoomForecast$Line" "java/lang/Object", Cond.castable "RoomForecast$Warning" "java/lang/Object", Cond.castable "java/lang/IndexOutOfBoundsException" "java/lang/Object", Cond.castable "java/lang/Throwable" "java/lang/Object", Cond.castable "java/lang/String" "java/lang/Object", Cond.castable "[B" "java/lang/Object", Cond.castable "[I" "java/lang/Object", Cond.castable "[Ljava/lang/Object;" "java/lang/Object", Cond.castable "[Z" "java/lang/Object", Cond.castable "[J" "java/lang/Object"]
theorem nq_0 : Cond.castable "java/lang/IllegalArgumentException" "java/lang/IllegalArgumentException" ∈ NW := List.mem_of_getElem? (i := 0) rfl
theorem nq_1 : Cond.castable "java/lang/IllegalStateException" "java/lang/IllegalStateException" ∈ NW := List.mem_of_getElem? (i := 1) rfl
theorem nq_2 : Cond.methodLinkNest RX5 11 yX4_init RX7 ∈ NW := List.mem_of_getElem? (i := 2) rfl
theorem nq_3 : Cond.methodLinkNest RX5 20 yX2_init RX7 ∈ NW := List.mem_of_getElem? (i := 3) rfl
theorem nq_4 : Cond.methodLinkNest RX5 27 yX0_init RX7 ∈ NW := List.mem_of_getElem? (i := 4) rfl
theorem nq_5 : Cond.methodLinkNest RX5 34 yX3_init RX7 ∈ NW := List.mem_of_getElem? (i := 5) rfl
theorem nq_6 : Cond.methodLinkNest RX5 41 yX1_init RX7 ∈ NW := List.mem_of_getElem? (i := 6) rfl
theorem nq_7 : Cond.fieldLinkNest RX5 107 RX1 "startDay" "I" RX7 ∈ NW := List.mem_of_getElem? (i := 7) rfl
theorem nq_8 : Cond.fieldLinkNest RX7 111 RX1 "startDay" "I" RX7 ∈ NW := List.mem_of_getElem? (i := 8) rfl
theorem nq_9 : Cond.methodLinkNest RX5 48 yX6_init RX7 ∈ NW := List.mem_of_getElem? (i := 9) rfl
theorem nq_10 : Cond.fieldLinkNest RX7 134 RX6 "on" "Z" RX7 ∈ NW := List.mem_of_getElem? (i := 10) rfl
theorem nq_11 : Cond.fieldLinkNest RX7 55 RX5 "samples" "LRoomForecast$Samples;" RX7 ∈ NW := List.mem_of_getElem? (i := 11) rfl
theorem nq_12 : Cond.fieldLinkNest RX7 65 RX5 "cleanings" "LRoomForecast$Cleanings;" RX7 ∈ NW := List.mem_of_getElem? (i := 12) rfl
theorem nq_13 : Cond.fieldLinkNest RX7 77 RX5 "rule" "LRoomForecast$Rule;" RX7 ∈ NW := List.mem_of_getElem? (i := 13) rfl
theorem nq_14 : Cond.fieldLinkNest RX7 173 RX5 "line" "LRoomForecast$Line;" RX7 ∈ NW := List.mem_of_getElem? (i := 14) rfl
theorem nq_15 : Cond.fieldLinkNest RX7 130 RX5 "warning" "LRoomForecast$Warning;" RX7 ∈ NW := List.mem_of_getElem? (i := 15) rfl
theorem nq_16 : Cond.fieldLinkNest RX7 49 RX5 "size" "I" RX7 ∈ NW := List.mem_of_getElem? (i := 16) rfl
theorem nq_17 : Cond.castable "java/lang/IndexOutOfBoundsException" "java/lang/IndexOutOfBoundsException" ∈ NW := List.mem_of_getElem? (i := 17) rfl
theorem nq_18 : Cond.methodLinkNest RX2 61 yX7_middlePlace RX7 ∈ NW := List.mem_of_getElem? (i := 18) rfl
theorem nq_19 : Cond.methodLinkNest RX0 22 yX7_middlePlace RX7 ∈ NW := List.mem_of_getElem? (i := 19) rfl
theorem nq_20 : Cond.castable "RoomForecast" "java/lang/Object" ∈ NW := List.mem_of_getElem? (i := 20) rfl
theorem nq_21 : Cond.castable "java/util/ArrayList" "java/lang/Object" ∈ NW := List.mem_of_getElem? (i := 21) rfl
theorem nq_22 : Cond.castable "RoomForecastModel" "java/lang/Object" ∈ NW := List.mem_of_getElem? (i := 22) rfl
theorem nq_23 : Cond.castable "java/lang/IllegalArgumentException" "java/lang/Object" ∈ NW := List.mem_of_getElem? (i := 23) rfl
theorem nq_24 : Cond.castable "java/lang/IllegalStateException" "java/lang/Object" ∈ NW := List.mem_of_getElem? (i := 24) rfl
theorem nq_25 : Cond.castable "RoomForecast$Store" "java/lang/Object" ∈ NW := List.mem_of_getElem? (i := 25) rfl
theorem nq_26 : Cond.castable "RoomForecast$Samples" "java/lang/Object" ∈ NW := List.mem_of_getElem? (i := 26) rfl
theorem nq_27 : Cond.castable "RoomForecast$PairSlopes" "java/lang/Object" ∈ NW := List.mem_of_getElem? (i := 27) rfl
theorem nq_28 : Cond.castable "RoomForecast$Cleanings" "java/lang/Object" ∈ NW := List.mem_of_getElem? (i := 28) rfl
theorem nq_29 : Cond.castable "RoomForecast$Rule" "java/lang/Object" ∈ NW := List.mem_of_getElem? (i := 29) rfl
theorem nq_30 : Cond.castable "RoomForecast$Line" "java/lang/Object" ∈ NW := List.mem_of_getElem? (i := 30) rfl
theorem nq_31 : Cond.castable "RoomForecast$Warning" "java/lang/Object" ∈ NW := List.mem_of_getElem? (i := 31) rfl
theorem nq_32 : Cond.castable "java/lang/IndexOutOfBoundsException" "java/lang/Object" ∈ NW := List.mem_of_getElem? (i := 32) rfl
theorem nq_33 : Cond.castable "java/lang/Throwable" "java/lang/Object" ∈ NW := List.mem_of_getElem? (i := 33) rfl
theorem nq_34 : Cond.castable "java/lang/String" "java/lang/Object" ∈ NW := List.mem_of_getElem? (i := 34) rfl
theorem nq_35 : Cond.castable "[B" "java/lang/Object" ∈ NW := List.mem_of_getElem? (i := 35) rfl
theorem nq_36 : Cond.castable "[I" "java/lang/Object" ∈ NW := List.mem_of_getElem? (i := 36) rfl
theorem nq_37 : Cond.castable "[Ljava/lang/Object;" "java/lang/Object" ∈ NW := List.mem_of_getElem? (i := 37) rfl
theorem nq_38 : Cond.castable "[Z" "java/lang/Object" ∈ NW := List.mem_of_getElem? (i := 38) rfl
theorem nq_39 : Cond.castable "[J" "java/lang/Object" ∈ NW := List.mem_of_getElem? (i := 39) rfl
def NW_is (w : Cond) : Bool := match w with
  | .fieldLinkNest _ _ _ _ _ _ => true
  | .methodLinkNest _ _ _ _ => true
  | .castable _ _ => true
  | _ => false
theorem NW_all : NW.all NW_is = true := by decide +kernel
theorem NW_warm {s U : State} (hW : s.WarmedH U.vm) (h : ∀ w ∈ NW, va_Nw w s) : ∀ w ∈ NW, va_Nw w U := by
  intro w hw
  have h1 := List.all_eq_true.mp NW_all w hw
  have h2 := h w hw
  cases w <;> first | exact va_Nw.warmF hW h2 | exact va_Nw.warmM hW h2 | exact va_Nw.warmC hW h2 | exact absurd h1 (by simp [NW_is])
theorem NW_same {s U : State} (hv : s.vm = U.vm) (h : ∀ w ∈ NW, va_Nw w s) : ∀ w ∈ NW, va_Nw w U := by
  intro w hw
  have h1 := List.all_eq_true.mp NW_all w hw
  have h2 := h w hw
  cases w <;> first | exact va_Nw.same rfl hv h2 | exact absurd h1 (by simp [NW_is])
end
section
/-! The worlds' states and the judgement J: 'from any heap that holds the world w, at pc with these locals and this stack, the machine comes to Q'. Over the kit's rows; every method's walk is said in J. -/
abbrev St : Type := (Nat → Int32) × (Nat → Nat → Int32)
def sF (S : St) (k : Nat) (v : Int32) : St := (va_up S.1 k v, S.2)
def sA (S : St) (j i : Nat) (v : Int32) : St := (S.1, va_up S.2 j (upd (S.2 j) i v))
def nmv {α β : Type} (x : α) (f : α → Option β) : Option β := f x
theorem nmv_e {α β : Type} {x : α} {f : α → Option β} {r : β} (h : nmv x f = some r) : ∃ y, y = x ∧ f y = some r := ⟨x, rfl, h⟩
def ck {β : Type} (q : Prop) [Decidable q] (x : Option β) : Option β := if q then x else none
theorem ck_e {β : Type} {q : Prop} [Decidable q] {x : Option β} {r : β} (h : ck q x = some r) : q ∧ x = some r := by
  by_cases hq : q
  · rw [ck, if_pos hq] at h; exact ⟨hq, h⟩
  · rw [ck, if_neg hq] at h; cases h
theorem bk {α β : Type} {x : Option α} {f : α → Option β} {r : β} (h : x.bind f = some r) : ∃ a, x = some a ∧ f a = some r := by
  cases x with
  | none => cases h
  | some a => exact ⟨a, rfl, h⟩
abbrev inb (i : Int32) (n : Nat) : Prop := 0 ≤ i ∧ i.toNatClampNeg < n
theorem inb_in {i : Int32} {n : Nat} (h : inb i n) : vp_in i n := by
  intro q
  rcases q with q | q
  · have h1 := Int32.le_iff_toInt_le.mp h.1
    have h2 := Int32.lt_iff_toInt_lt.mp q
    omega
  · exact Nat.not_le.mpr h.2 q
abbrev isZ (v : Int32) : Prop := v = 0 ∨ v = 1
theorem isZ_nar {v : Int32} (h : isZ v) : narrow .boolean (.int v) = .int v := by
  rcases h with rfl | rfl <;> decide +kernel
theorem isZ_fits {v : Int32} (h : isZ v) : fits .boolean (.int v) = true := by
  rcases h with rfl | rfl <;> decide +kernel
theorem isZ_nar2 {v : Int32} (h : isZ v) : vp_nar .boolean v = v := by
  rcases h with rfl | rfl <;> decide +kernel
abbrev Ev : Type := Launch × va_G × (Nat → ClassId)
abbrev Cx : Type := Program × Env × Room × State × MethodId × Array Value × List Frame × Method × Code × (Nat → Prop) × Nat × (State → Prop)
def tyL (cy : Nat → ClassId) : List (ClassId × FieldType) := [(cy 0, .int), (cy 1, .boolean), (cy 2, .object "java/lang/Object"), (cy 3, .long)]
def J (E : Ev) (x : Cx) (k n : Nat) (w : va_W) (pc : Nat) (lv : List (Nat × Value)) (st : List Value) : Prop :=
  match E, x with
  | (l, D, _), (p, e, R, s, m, args, below, meth, c, A, nL, Q) => ∀ (H : Heap) (locs : List Loc) (ls : Array Slot), va_P D vwCl w H → va_D A w → va_S A s.heap H locs → lv_has ls nL lv → W p l e R s m args below meth c H locs k n Q (F0 m pc ls st)
def Ok (E : Ev) (x : Cx) (cc : ByteArray) (own : String) (rm : Room) (nL0 : Nat) : Prop :=
  match E, x with
  | (_, D, cy), (p, _, R, s, m, args, _, _, c, A, nL, _) => p.tables.exec = Jvm.exec ∧ c.code = cc ∧ c.maxLocals = nL ∧ s.vm.findClass own = some m.cls ∧ (∀ z ∈ GW, z.before args s = true) ∧ va_K D vwCl (tyL cy) s ∧ (∀ z ∈ NW, va_Nw z s) ∧ (∀ q, s.heap.size ≤ q → A q) ∧ R = rm ∧ nL = nL0
section JROWS
variable {E : Ev} {x : Cx} {cc : ByteArray} {own : String} {rm0 : Room} {nL0 k n : Nat} {w : va_W} {pc : Nat} {lv : List (Nat × Value)} {st : List Value}
theorem J_iconst (X : Ok E x cc own rm0 nL0) {i : Int} {v : Int32} (hdg : decode cc pc = .ok (.iconst i, 1)) (hv0 : Int32.ofInt i = v) (k1 : J E x k n w (pc + 1) lv (.int v :: st)) : J E x k n w pc lv (st) := by
  obtain ⟨l, D, cy⟩ := E
  obtain ⟨p, e, R, s, m, args, below, meth, c, A, nL, Q⟩ := x
  obtain ⟨hx, hb, hml, hown, hG, hK, hN, hA, hR, hnl⟩ := X
  intro H locs ls hP hD hS hv
  exact lv_iconst hx hb hdg hv0 (k1 H locs ls hP hD hS hv)
theorem J_bipush (X : Ok E x cc own rm0 nL0) {i : Int} {v : Int32} (hdg : decode cc pc = .ok (.bipush i, 2)) (hv0 : (Int8.ofInt i).toInt32 = v) (k1 : J E x k n w (pc + 2) lv (.int v :: st)) : J E x k n w pc lv (st) := by
  obtain ⟨l, D, cy⟩ := E
  obtain ⟨p, e, R, s, m, args, below, meth, c, A, nL, Q⟩ := x
  obtain ⟨hx, hb, hml, hown, hG, hK, hN, hA, hR, hnl⟩ := X
  intro H locs ls hP hD hS hv
  exact lv_bipush hx hb hdg hv0 (k1 H locs ls hP hD hS hv)
theorem J_sipush (X : Ok E x cc own rm0 nL0) {i : Int} {v : Int32} (hdg : decode cc pc = .ok (.sipush i, 3)) (hv0 : (Int16.ofInt i).toInt32 = v) (k1 : J E x k n w (pc + 3) lv (.int v :: st)) : J E x k n w pc lv (st) := by
  obtain ⟨l, D, cy⟩ := E
  obtain ⟨p, e, R, s, m, args, below, meth, c, A, nL, Q⟩ := x
  obtain ⟨hx, hb, hml, hown, hG, hK, hN, hA, hR, hnl⟩ := X
  intro H locs ls hP hD hS hv
  exact lv_sipush hx hb hdg hv0 (k1 H locs ls hP hD hS hv)
theorem J_lconst (X : Ok E x cc own rm0 nL0) {i : Fin 2} {v : Int64} (hdg : decode cc pc = .ok (.lconst i, 1)) (hv0 : Int64.ofNat (i : Nat) = v) (k1 : J E x k n w (pc + 1) lv (.long v :: st)) : J E x k n w pc lv (st) := by
  obtain ⟨l, D, cy⟩ := E
  obtain ⟨p, e, R, s, m, args, below, meth, c, A, nL, Q⟩ := x
  obtain ⟨hx, hb, hml, hown, hG, hK, hN, hA, hR, hnl⟩ := X
  intro H locs ls hP hD hS hv
  exact lv_lconst hx hb hdg hv0 (k1 H locs ls hP hD hS hv)
theorem J_ldc (X : Ok E x cc own rm0 nL0) {i : Nat} {v : Int32} (hdg : decode cc pc = .ok (.ldc i, 2)) (hw : Cond.constant own i v ∈ GW) (k1 : J E x k n w (pc + 2) lv (.int v :: st)) : J E x k n w pc lv (st) := by
  obtain ⟨l, D, cy⟩ := E
  obtain ⟨p, e, R, s, m, args, below, meth, c, A, nL, Q⟩ := x
  obtain ⟨hx, hb, hml, hown, hG, hK, hN, hA, hR, hnl⟩ := X
  intro H locs ls hP hD hS hv
  exact lv_ldc hx hb hown (hG _ hw) hdg (k1 H locs ls hP hD hS hv)
theorem J_ldc2 (X : Ok E x cc own rm0 nL0) {i : Nat} {v : Int64} (hdg : decode cc pc = .ok (.ldc2_w i, 3)) (hw : Cond.constantLong own i v ∈ GW) (k1 : J E x k n w (pc + 3) lv (.long v :: st)) : J E x k n w pc lv (st) := by
  obtain ⟨l, D, cy⟩ := E
  obtain ⟨p, e, R, s, m, args, below, meth, c, A, nL, Q⟩ := x
  obtain ⟨hx, hb, hml, hown, hG, hK, hN, hA, hR, hnl⟩ := X
  intro H locs ls hP hD hS hv
  exact lv_ldc2 hx hb hown (hG _ hw) hdg (k1 H locs ls hP hD hS hv)
theorem J_iload_n (X : Ok E x cc own rm0 nL0) {i : Fin 4} {v : Int32} (hdg : decode cc pc = .ok (.iload_n i, 1)) (q : Nat) (hl : lv[q]? = some ((i : Nat), .int v)) (k1 : J E x k n w (pc + 1) lv (.int v :: st)) : J E x k n w pc lv (st) := by
  obtain ⟨l, D, cy⟩ := E
  obtain ⟨p, e, R, s, m, args, below, meth, c, A, nL, Q⟩ := x
  obtain ⟨hx, hb, hml, hown, hG, hK, hN, hA, hR, hnl⟩ := X
  intro H locs ls hP hD hS hv
  exact lv_iload_n hx hb hdg rfl (lv_at hv q hl) (k1 H locs ls hP hD hS hv)
theorem J_iload (X : Ok E x cc own rm0 nL0) {i : Nat} {v : Int32} (hdg : decode cc pc = .ok (.iload i, 2)) (q : Nat) (hl : lv[q]? = some (i, .int v)) (k1 : J E x k n w (pc + 2) lv (.int v :: st)) : J E x k n w pc lv (st) := by
  obtain ⟨l, D, cy⟩ := E
  obtain ⟨p, e, R, s, m, args, below, meth, c, A, nL, Q⟩ := x
  obtain ⟨hx, hb, hml, hown, hG, hK, hN, hA, hR, hnl⟩ := X
  intro H locs ls hP hD hS hv
  exact lv_iload hx hb hdg (lv_at hv q hl) (k1 H locs ls hP hD hS hv)
theorem J_lload_n (X : Ok E x cc own rm0 nL0) {i : Fin 4} {v : Int64} (hdg : decode cc pc = .ok (.lload_n i, 1)) (q : Nat) (hl : lv[q]? = some ((i : Nat), .long v)) (k1 : J E x k n w (pc + 1) lv (.long v :: st)) : J E x k n w pc lv (st) := by
  obtain ⟨l, D, cy⟩ := E
  obtain ⟨p, e, R, s, m, args, below, meth, c, A, nL, Q⟩ := x
  obtain ⟨hx, hb, hml, hown, hG, hK, hN, hA, hR, hnl⟩ := X
  intro H locs ls hP hD hS hv
  exact lv_lload_n hx hb hdg rfl (lv_at hv q hl) (k1 H locs ls hP hD hS hv)
theorem J_lload (X : Ok E x cc own rm0 nL0) {i : Nat} {v : Int64} (hdg : decode cc pc = .ok (.lload i, 2)) (q : Nat) (hl : lv[q]? = some (i, .long v)) (k1 : J E x k n w (pc + 2) lv (.long v :: st)) : J E x k n w pc lv (st) := by
  obtain ⟨l, D, cy⟩ := E
  obtain ⟨p, e, R, s, m, args, below, meth, c, A, nL, Q⟩ := x
  obtain ⟨hx, hb, hml, hown, hG, hK, hN, hA, hR, hnl⟩ := X
  intro H locs ls hP hD hS hv
  exact lv_lload hx hb hdg (lv_at hv q hl) (k1 H locs ls hP hD hS hv)
theorem J_aload_n (X : Ok E x cc own rm0 nL0) {i : Fin 4} {v : Nat} (hdg : decode cc pc = .ok (.aload_n i, 1)) (q : Nat) (hl : lv[q]? = some ((i : Nat), .ref v)) (k1 : J E x k n w (pc + 1) lv (.ref v :: st)) : J E x k n w pc lv (st) := by
  obtain ⟨l, D, cy⟩ := E
  obtain ⟨p, e, R, s, m, args, below, meth, c, A, nL, Q⟩ := x
  obtain ⟨hx, hb, hml, hown, hG, hK, hN, hA, hR, hnl⟩ := X
  intro H locs ls hP hD hS hv
  exact lv_aload_n hx hb hdg rfl (lv_at hv q hl) (k1 H locs ls hP hD hS hv)
theorem J_aload (X : Ok E x cc own rm0 nL0) {i : Nat} {v : Nat} (hdg : decode cc pc = .ok (.aload i, 2)) (q : Nat) (hl : lv[q]? = some (i, .ref v)) (k1 : J E x k n w (pc + 2) lv (.ref v :: st)) : J E x k n w pc lv (st) := by
  obtain ⟨l, D, cy⟩ := E
  obtain ⟨p, e, R, s, m, args, below, meth, c, A, nL, Q⟩ := x
  obtain ⟨hx, hb, hml, hown, hG, hK, hN, hA, hR, hnl⟩ := X
  intro H locs ls hP hD hS hv
  exact lv_aload hx hb hdg (lv_at hv q hl) (k1 H locs ls hP hD hS hv)
theorem J_istore_n (X : Ok E x cc own rm0 nL0) {i : Fin 4} {v : Int32} (hdg : decode cc pc = .ok (.istore_n i, 1)) (hn : (i : Nat) < nL0) {lv1 : List (Nat × Value)} (hl : ((i : Nat), Value.int v) :: lv.filter (fun q => !(q.1 == (i : Nat)) && !(q.1 + 1 == (i : Nat) && q.2.category == 2)) = lv1) (k1 : J E x k n w (pc + 1) lv1 st) : J E x k n w pc lv (.int v :: st) := by
  obtain ⟨l, D, cy⟩ := E
  obtain ⟨p, e, R, s, m, args, below, meth, c, A, nL, Q⟩ := x
  obtain ⟨hx, hb, hml, hown, hG, hK, hN, hA, hR, hnl⟩ := X
  intro H locs ls hP hD hS hv
  subst hnl
  exact lv_istore_n hx hb hdg rfl hv hn hl (fun ls hv => k1 H locs ls hP hD hS hv)
theorem J_istore (X : Ok E x cc own rm0 nL0) {i : Nat} {v : Int32} (hdg : decode cc pc = .ok (.istore i, 2)) (hn : (i : Nat) < nL0) {lv1 : List (Nat × Value)} (hl : ((i : Nat), Value.int v) :: lv.filter (fun q => !(q.1 == (i : Nat)) && !(q.1 + 1 == (i : Nat) && q.2.category == 2)) = lv1) (k1 : J E x k n w (pc + 2) lv1 st) : J E x k n w pc lv (.int v :: st) := by
  obtain ⟨l, D, cy⟩ := E
  obtain ⟨p, e, R, s, m, args, below, meth, c, A, nL, Q⟩ := x
  obtain ⟨hx, hb, hml, hown, hG, hK, hN, hA, hR, hnl⟩ := X
  intro H locs ls hP hD hS hv
  subst hnl
  exact lv_istore hx hb hdg hv hn hl (fun ls hv => k1 H locs ls hP hD hS hv)
theorem J_lstore_n (X : Ok E x cc own rm0 nL0) {i : Fin 4} {v : Int64} (hdg : decode cc pc = .ok (.lstore_n i, 1)) (hn : (i : Nat) + 1 < nL0) {lv1 : List (Nat × Value)} (hl : ((i : Nat), Value.long v) :: lv.filter (fun q => !(q.1 == (i : Nat)) && (!(q.1 == (i : Nat) + 1) && !(q.1 + 1 == (i : Nat) && q.2.category == 2))) = lv1) (k1 : J E x k n w (pc + 1) lv1 st) : J E x k n w pc lv (.long v :: st) := by
  obtain ⟨l, D, cy⟩ := E
  obtain ⟨p, e, R, s, m, args, below, meth, c, A, nL, Q⟩ := x
  obtain ⟨hx, hb, hml, hown, hG, hK, hN, hA, hR, hnl⟩ := X
  intro H locs ls hP hD hS hv
  subst hnl
  exact lv_lstore_n hx hb hdg rfl hv hn hl (fun ls hv => k1 H locs ls hP hD hS hv)
theorem J_lstore (X : Ok E x cc own rm0 nL0) {i : Nat} {v : Int64} (hdg : decode cc pc = .ok (.lstore i, 2)) (hn : (i : Nat) + 1 < nL0) {lv1 : List (Nat × Value)} (hl : ((i : Nat), Value.long v) :: lv.filter (fun q => !(q.1 == (i : Nat)) && (!(q.1 == (i : Nat) + 1) && !(q.1 + 1 == (i : Nat) && q.2.category == 2))) = lv1) (k1 : J E x k n w (pc + 2) lv1 st) : J E x k n w pc lv (.long v :: st) := by
  obtain ⟨l, D, cy⟩ := E
  obtain ⟨p, e, R, s, m, args, below, meth, c, A, nL, Q⟩ := x
  obtain ⟨hx, hb, hml, hown, hG, hK, hN, hA, hR, hnl⟩ := X
  intro H locs ls hP hD hS hv
  subst hnl
  exact lv_lstore hx hb hdg hv hn hl (fun ls hv => k1 H locs ls hP hD hS hv)
theorem J_astore_n (X : Ok E x cc own rm0 nL0) {i : Fin 4} {v : Nat} (hdg : decode cc pc = .ok (.astore_n i, 1)) (hn : (i : Nat) < nL0) {lv1 : List (Nat × Value)} (hl : ((i : Nat), Value.ref v) :: lv.filter (fun q => !(q.1 == (i : Nat)) && !(q.1 + 1 == (i : Nat) && q.2.category == 2)) = lv1) (k1 : J E x k n w (pc + 1) lv1 st) : J E x k n w pc lv (.ref v :: st) := by
  obtain ⟨l, D, cy⟩ := E
  obtain ⟨p, e, R, s, m, args, below, meth, c, A, nL, Q⟩ := x
  obtain ⟨hx, hb, hml, hown, hG, hK, hN, hA, hR, hnl⟩ := X
  intro H locs ls hP hD hS hv
  subst hnl
  exact lv_astore_n hx hb hdg rfl hv hn hl (fun ls hv => k1 H locs ls hP hD hS hv)
theorem J_astore (X : Ok E x cc own rm0 nL0) {i : Nat} {v : Nat} (hdg : decode cc pc = .ok (.astore i, 2)) (hn : (i : Nat) < nL0) {lv1 : List (Nat × Value)} (hl : ((i : Nat), Value.ref v) :: lv.filter (fun q => !(q.1 == (i : Nat)) && !(q.1 + 1 == (i : Nat) && q.2.category == 2)) = lv1) (k1 : J E x k n w (pc + 2) lv1 st) : J E x k n w pc lv (.ref v :: st) := by
  obtain ⟨l, D, cy⟩ := E
  obtain ⟨p, e, R, s, m, args, below, meth, c, A, nL, Q⟩ := x
  obtain ⟨hx, hb, hml, hown, hG, hK, hN, hA, hR, hnl⟩ := X
  intro H locs ls hP hD hS hv
  subst hnl
  exact lv_astore hx hb hdg hv hn hl (fun ls hv => k1 H locs ls hP hD hS hv)
theorem J_iinc (X : Ok E x cc own rm0 nL0) {i : Nat} {j : Int} {u v : Int32} (hdg : decode cc pc = .ok (.iinc i j, 3)) (q : Nat) (hq : lv[q]? = some (i, .int u)) (hu : u + Int32.ofInt j = v) (hn : i < nL0) {lv1 : List (Nat × Value)} (hl : (i, Value.int v) :: lv.filter (fun q => !(q.1 == i) && !(q.1 + 1 == i && q.2.category == 2)) = lv1) (k1 : J E x k n w (pc + 3) lv1 st) : J E x k n w pc lv st := by
  obtain ⟨l, D, cy⟩ := E
  obtain ⟨p, e, R, s, m, args, below, meth, c, A, nL, Q⟩ := x
  obtain ⟨hx, hb, hml, hown, hG, hK, hN, hA, hR, hnl⟩ := X
  intro H locs ls hP hD hS hv
  subst hnl
  exact lv_iinc hx hb hdg hv hq hu hn hl (fun ls hv => k1 H locs ls hP hD hS hv)
theorem J_iadd (X : Ok E x cc own rm0 nL0) {u v : Int32} (hdg : decode cc pc = .ok (.iadd, 1)) (k1 : J E x k n w (pc + 1) lv (.int (u + v) :: st)) : J E x k n w pc lv (.int v :: .int u :: st) := by
  obtain ⟨l, D, cy⟩ := E
  obtain ⟨p, e, R, s, m, args, below, meth, c, A, nL, Q⟩ := x
  obtain ⟨hx, hb, hml, hown, hG, hK, hN, hA, hR, hnl⟩ := X
  intro H locs ls hP hD hS hv
  exact lv_iadd hx hb hdg (k1 H locs ls hP hD hS hv)
theorem J_isub (X : Ok E x cc own rm0 nL0) {u v : Int32} (hdg : decode cc pc = .ok (.isub, 1)) (k1 : J E x k n w (pc + 1) lv (.int (u - v) :: st)) : J E x k n w pc lv (.int v :: .int u :: st) := by
  obtain ⟨l, D, cy⟩ := E
  obtain ⟨p, e, R, s, m, args, below, meth, c, A, nL, Q⟩ := x
  obtain ⟨hx, hb, hml, hown, hG, hK, hN, hA, hR, hnl⟩ := X
  intro H locs ls hP hD hS hv
  exact lv_isub hx hb hdg (k1 H locs ls hP hD hS hv)
theorem J_imul (X : Ok E x cc own rm0 nL0) {u v : Int32} (hdg : decode cc pc = .ok (.imul, 1)) (k1 : J E x k n w (pc + 1) lv (.int (u * v) :: st)) : J E x k n w pc lv (.int v :: .int u :: st) := by
  obtain ⟨l, D, cy⟩ := E
  obtain ⟨p, e, R, s, m, args, below, meth, c, A, nL, Q⟩ := x
  obtain ⟨hx, hb, hml, hown, hG, hK, hN, hA, hR, hnl⟩ := X
  intro H locs ls hP hD hS hv
  exact lv_imul hx hb hdg (k1 H locs ls hP hD hS hv)
theorem J_iand (X : Ok E x cc own rm0 nL0) {u v : Int32} (hdg : decode cc pc = .ok (.iand, 1)) (k1 : J E x k n w (pc + 1) lv (.int (u &&& v) :: st)) : J E x k n w pc lv (.int v :: .int u :: st) := by
  obtain ⟨l, D, cy⟩ := E
  obtain ⟨p, e, R, s, m, args, below, meth, c, A, nL, Q⟩ := x
  obtain ⟨hx, hb, hml, hown, hG, hK, hN, hA, hR, hnl⟩ := X
  intro H locs ls hP hD hS hv
  exact lv_iand hx hb hdg (k1 H locs ls hP hD hS hv)
theorem J_ishr (X : Ok E x cc own rm0 nL0) {u v : Int32} (hdg : decode cc pc = .ok (.ishr, 1)) (k1 : J E x k n w (pc + 1) lv (.int (u >>> (v &&& 31)) :: st)) : J E x k n w pc lv (.int v :: .int u :: st) := by
  obtain ⟨l, D, cy⟩ := E
  obtain ⟨p, e, R, s, m, args, below, meth, c, A, nL, Q⟩ := x
  obtain ⟨hx, hb, hml, hown, hG, hK, hN, hA, hR, hnl⟩ := X
  intro H locs ls hP hD hS hv
  exact lv_ishr hx hb hdg (k1 H locs ls hP hD hS hv)
theorem J_ladd (X : Ok E x cc own rm0 nL0) {u v : Int64} (hdg : decode cc pc = .ok (.ladd, 1)) (k1 : J E x k n w (pc + 1) lv (.long (u + v) :: st)) : J E x k n w pc lv (.long v :: .long u :: st) := by
  obtain ⟨l, D, cy⟩ := E
  obtain ⟨p, e, R, s, m, args, below, meth, c, A, nL, Q⟩ := x
  obtain ⟨hx, hb, hml, hown, hG, hK, hN, hA, hR, hnl⟩ := X
  intro H locs ls hP hD hS hv
  exact lv_ladd hx hb hdg (k1 H locs ls hP hD hS hv)
theorem J_lsub (X : Ok E x cc own rm0 nL0) {u v : Int64} (hdg : decode cc pc = .ok (.lsub, 1)) (k1 : J E x k n w (pc + 1) lv (.long (u - v) :: st)) : J E x k n w pc lv (.long v :: .long u :: st) := by
  obtain ⟨l, D, cy⟩ := E
  obtain ⟨p, e, R, s, m, args, below, meth, c, A, nL, Q⟩ := x
  obtain ⟨hx, hb, hml, hown, hG, hK, hN, hA, hR, hnl⟩ := X
  intro H locs ls hP hD hS hv
  exact lv_lsub hx hb hdg (k1 H locs ls hP hD hS hv)
theorem J_lmul (X : Ok E x cc own rm0 nL0) {u v : Int64} (hdg : decode cc pc = .ok (.lmul, 1)) (k1 : J E x k n w (pc + 1) lv (.long (u * v) :: st)) : J E x k n w pc lv (.long v :: .long u :: st) := by
  obtain ⟨l, D, cy⟩ := E
  obtain ⟨p, e, R, s, m, args, below, meth, c, A, nL, Q⟩ := x
  obtain ⟨hx, hb, hml, hown, hG, hK, hN, hA, hR, hnl⟩ := X
  intro H locs ls hP hD hS hv
  exact lv_lmul hx hb hdg (k1 H locs ls hP hD hS hv)
theorem J_lxor (X : Ok E x cc own rm0 nL0) {u v : Int64} (hdg : decode cc pc = .ok (.lxor, 1)) (k1 : J E x k n w (pc + 1) lv (.long (u ^^^ v) :: st)) : J E x k n w pc lv (.long v :: .long u :: st) := by
  obtain ⟨l, D, cy⟩ := E
  obtain ⟨p, e, R, s, m, args, below, meth, c, A, nL, Q⟩ := x
  obtain ⟨hx, hb, hml, hown, hG, hK, hN, hA, hR, hnl⟩ := X
  intro H locs ls hP hD hS hv
  exact lv_lxor hx hb hdg (k1 H locs ls hP hD hS hv)
theorem J_idiv (X : Ok E x cc own rm0 nL0) {u v : Int32} (hdg : decode cc pc = .ok (.idiv, 1)) (hne : ¬ v = 0) (k1 : J E x k n w (pc + 1) lv (.int (u / v) :: st)) : J E x k n w pc lv (.int v :: .int u :: st) := by
  obtain ⟨l, D, cy⟩ := E
  obtain ⟨p, e, R, s, m, args, below, meth, c, A, nL, Q⟩ := x
  obtain ⟨hx, hb, hml, hown, hG, hK, hN, hA, hR, hnl⟩ := X
  intro H locs ls hP hD hS hv
  exact lv_idiv hx hb hdg hne (k1 H locs ls hP hD hS hv)
theorem J_irem (X : Ok E x cc own rm0 nL0) {u v : Int32} (hdg : decode cc pc = .ok (.irem, 1)) (hne : ¬ v = 0) (k1 : J E x k n w (pc + 1) lv (.int (u - u / v * v) :: st)) : J E x k n w pc lv (.int v :: .int u :: st) := by
  obtain ⟨l, D, cy⟩ := E
  obtain ⟨p, e, R, s, m, args, below, meth, c, A, nL, Q⟩ := x
  obtain ⟨hx, hb, hml, hown, hG, hK, hN, hA, hR, hnl⟩ := X
  intro H locs ls hP hD hS hv
  exact lv_irem hx hb hdg hne (k1 H locs ls hP hD hS hv)
theorem J_ldiv (X : Ok E x cc own rm0 nL0) {u v : Int64} (hdg : decode cc pc = .ok (.ldiv, 1)) (hne : ¬ v = 0) (k1 : J E x k n w (pc + 1) lv (.long (u / v) :: st)) : J E x k n w pc lv (.long v :: .long u :: st) := by
  obtain ⟨l, D, cy⟩ := E
  obtain ⟨p, e, R, s, m, args, below, meth, c, A, nL, Q⟩ := x
  obtain ⟨hx, hb, hml, hown, hG, hK, hN, hA, hR, hnl⟩ := X
  intro H locs ls hP hD hS hv
  exact lv_ldiv hx hb hdg hne (k1 H locs ls hP hD hS hv)
theorem J_lrem (X : Ok E x cc own rm0 nL0) {u v : Int64} (hdg : decode cc pc = .ok (.lrem, 1)) (hne : ¬ v = 0) (k1 : J E x k n w (pc + 1) lv (.long (u - u / v * v) :: st)) : J E x k n w pc lv (.long v :: .long u :: st) := by
  obtain ⟨l, D, cy⟩ := E
  obtain ⟨p, e, R, s, m, args, below, meth, c, A, nL, Q⟩ := x
  obtain ⟨hx, hb, hml, hown, hG, hK, hN, hA, hR, hnl⟩ := X
  intro H locs ls hP hD hS hv
  exact lv_lrem hx hb hdg hne (k1 H locs ls hP hD hS hv)
theorem J_ineg (X : Ok E x cc own rm0 nL0) {u : Int32} (hdg : decode cc pc = .ok (.ineg, 1)) (k1 : J E x k n w (pc + 1) lv (.int (-u) :: st)) : J E x k n w pc lv (.int u :: st) := by
  obtain ⟨l, D, cy⟩ := E
  obtain ⟨p, e, R, s, m, args, below, meth, c, A, nL, Q⟩ := x
  obtain ⟨hx, hb, hml, hown, hG, hK, hN, hA, hR, hnl⟩ := X
  intro H locs ls hP hD hS hv
  exact lv_ineg hx hb hdg (k1 H locs ls hP hD hS hv)
theorem J_i2l (X : Ok E x cc own rm0 nL0) {u : Int32} (hdg : decode cc pc = .ok (.i2l, 1)) (k1 : J E x k n w (pc + 1) lv (.long u.toInt64 :: st)) : J E x k n w pc lv (.int u :: st) := by
  obtain ⟨l, D, cy⟩ := E
  obtain ⟨p, e, R, s, m, args, below, meth, c, A, nL, Q⟩ := x
  obtain ⟨hx, hb, hml, hown, hG, hK, hN, hA, hR, hnl⟩ := X
  intro H locs ls hP hD hS hv
  exact lv_i2l hx hb hdg rfl (k1 H locs ls hP hD hS hv)
theorem J_l2i (X : Ok E x cc own rm0 nL0) {u : Int64} (hdg : decode cc pc = .ok (.l2i, 1)) (k1 : J E x k n w (pc + 1) lv (.int u.toInt32 :: st)) : J E x k n w pc lv (.long u :: st) := by
  obtain ⟨l, D, cy⟩ := E
  obtain ⟨p, e, R, s, m, args, below, meth, c, A, nL, Q⟩ := x
  obtain ⟨hx, hb, hml, hown, hG, hK, hN, hA, hR, hnl⟩ := X
  intro H locs ls hP hD hS hv
  exact lv_l2i hx hb hdg rfl (k1 H locs ls hP hD hS hv)
theorem J_iushr (X : Ok E x cc own rm0 nL0) {u v : Int32} (hdg : decode cc pc = .ok (.iushr, 1)) (k1 : J E x k n w (pc + 1) lv (.int (u.toUInt32 >>> (v.toUInt32 &&& Int32.toUInt32 31)).toInt32 :: st)) : J E x k n w pc lv (.int v :: .int u :: st) := by
  obtain ⟨l, D, cy⟩ := E
  obtain ⟨p, e, R, s, m, args, below, meth, c, A, nL, Q⟩ := x
  obtain ⟨hx, hb, hml, hown, hG, hK, hN, hA, hR, hnl⟩ := X
  intro H locs ls hP hD hS hv
  exact lv_iushr hx hb hdg rfl (k1 H locs ls hP hD hS hv)
theorem J_lcmp (X : Ok E x cc own rm0 nL0) {u v : Int64} (hdg : decode cc pc = .ok (.lcmp, 1)) (k1 : J E x k n w (pc + 1) lv (.int (lg_cmp u v) :: st)) : J E x k n w pc lv (.long v :: .long u :: st) := by
  obtain ⟨l, D, cy⟩ := E
  obtain ⟨p, e, R, s, m, args, below, meth, c, A, nL, Q⟩ := x
  obtain ⟨hx, hb, hml, hown, hG, hK, hN, hA, hR, hnl⟩ := X
  intro H locs ls hP hD hS hv
  exact W.lcmp hx hb hdg (k1 H locs ls hP hD hS hv)
theorem J_dup (X : Ok E x cc own rm0 nL0) {u : Value} (hdg : decode cc pc = .ok (.dup, 1)) (hc : u.category = 1) (k1 : J E x k n w (pc + 1) lv (u :: u :: st)) : J E x k n w pc lv (u :: st) := by
  obtain ⟨l, D, cy⟩ := E
  obtain ⟨p, e, R, s, m, args, below, meth, c, A, nL, Q⟩ := x
  obtain ⟨hx, hb, hml, hown, hG, hK, hN, hA, hR, hnl⟩ := X
  intro H locs ls hP hD hS hv
  exact lv_dup hx hb hdg hc (k1 H locs ls hP hD hS hv)
theorem J_pop (X : Ok E x cc own rm0 nL0) {u : Value} (hdg : decode cc pc = .ok (.pop, 1)) (hc : u.category = 1) (k1 : J E x k n w (pc + 1) lv (st)) : J E x k n w pc lv (u :: st) := by
  obtain ⟨l, D, cy⟩ := E
  obtain ⟨p, e, R, s, m, args, below, meth, c, A, nL, Q⟩ := x
  obtain ⟨hx, hb, hml, hown, hG, hK, hN, hA, hR, hnl⟩ := X
  intro H locs ls hP hD hS hv
  exact lv_pop hx hb hdg hc (k1 H locs ls hP hD hS hv)
theorem J_dup2 (X : Ok E x cc own rm0 nL0) {u v : Value} (hdg : decode cc pc = .ok (.dup2, 1)) (hc : u.category = 1) (hc2 : v.category = 1) (k1 : J E x k n w (pc + 1) lv (u :: v :: u :: v :: st)) : J E x k n w pc lv (u :: v :: st) := by
  obtain ⟨l, D, cy⟩ := E
  obtain ⟨p, e, R, s, m, args, below, meth, c, A, nL, Q⟩ := x
  obtain ⟨hx, hb, hml, hown, hG, hK, hN, hA, hR, hnl⟩ := X
  intro H locs ls hP hD hS hv
  exact lv_dup2_11 hx hb hdg hc hc2 (k1 H locs ls hP hD hS hv)
theorem J_if_eq (X : Ok E x cc own rm0 nL0) {u : Int32} {off : Int} (tgt : Nat) (hdg : decode cc pc = .ok (.ifCond .eq off, 3)) (ht : (pc : Int) + off = (tgt : Int)) (kt : u = 0 → J E x k n w tgt lv st) (kf : ¬ u = 0 → J E x k n w (pc + 3) lv st) : J E x k n w pc lv (.int u :: st) := by
  obtain ⟨l, D, cy⟩ := E
  obtain ⟨p, e, R, s, m, args, below, meth, c, A, nL, Q⟩ := x
  obtain ⟨hx, hb, hml, hown, hG, hK, hN, hA, hR, hnl⟩ := X
  intro H locs ls hP hD hS hv
  exact lv_if_eq hx hb hdg ht (fun h => kt h H locs ls hP hD hS hv) (fun h => kf h H locs ls hP hD hS hv)
theorem J_icmp_eq (X : Ok E x cc own rm0 nL0) {u v : Int32} {off : Int} (tgt : Nat) (hdg : decode cc pc = .ok (.if_icmp .eq off, 3)) (ht : (pc : Int) + off = (tgt : Int)) (kt : u = v → J E x k n w tgt lv st) (kf : ¬ u = v → J E x k n w (pc + 3) lv st) : J E x k n w pc lv (.int v :: .int u :: st) := by
  obtain ⟨l, D, cy⟩ := E
  obtain ⟨p, e, R, s, m, args, below, meth, c, A, nL, Q⟩ := x
  obtain ⟨hx, hb, hml, hown, hG, hK, hN, hA, hR, hnl⟩ := X
  intro H locs ls hP hD hS hv
  exact lv_icmp_eq hx hb hdg ht (fun h => kt h H locs ls hP hD hS hv) (fun h => kf h H locs ls hP hD hS hv)
theorem J_if_ne (X : Ok E x cc own rm0 nL0) {u : Int32} {off : Int} (tgt : Nat) (hdg : decode cc pc = .ok (.ifCond .ne off, 3)) (ht : (pc : Int) + off = (tgt : Int)) (kt : ¬ u = 0 → J E x k n w tgt lv st) (kf : u = 0 → J E x k n w (pc + 3) lv st) : J E x k n w pc lv (.int u :: st) := by
  obtain ⟨l, D, cy⟩ := E
  obtain ⟨p, e, R, s, m, args, below, meth, c, A, nL, Q⟩ := x
  obtain ⟨hx, hb, hml, hown, hG, hK, hN, hA, hR, hnl⟩ := X
  intro H locs ls hP hD hS hv
  exact lv_if_ne hx hb hdg ht (fun h => kt h H locs ls hP hD hS hv) (fun h => kf h H locs ls hP hD hS hv)
theorem J_icmp_ne (X : Ok E x cc own rm0 nL0) {u v : Int32} {off : Int} (tgt : Nat) (hdg : decode cc pc = .ok (.if_icmp .ne off, 3)) (ht : (pc : Int) + off = (tgt : Int)) (kt : ¬ u = v → J E x k n w tgt lv st) (kf : u = v → J E x k n w (pc + 3) lv st) : J E x k n w pc lv (.int v :: .int u :: st) := by
  obtain ⟨l, D, cy⟩ := E
  obtain ⟨p, e, R, s, m, args, below, meth, c, A, nL, Q⟩ := x
  obtain ⟨hx, hb, hml, hown, hG, hK, hN, hA, hR, hnl⟩ := X
  intro H locs ls hP hD hS hv
  exact lv_icmp_ne hx hb hdg ht (fun h => kt h H locs ls hP hD hS hv) (fun h => kf h H locs ls hP hD hS hv)
theorem J_if_lt (X : Ok E x cc own rm0 nL0) {u : Int32} {off : Int} (tgt : Nat) (hdg : decode cc pc = .ok (.ifCond .lt off, 3)) (ht : (pc : Int) + off = (tgt : Int)) (kt : u < 0 → J E x k n w tgt lv st) (kf : ¬ u < 0 → J E x k n w (pc + 3) lv st) : J E x k n w pc lv (.int u :: st) := by
  obtain ⟨l, D, cy⟩ := E
  obtain ⟨p, e, R, s, m, args, below, meth, c, A, nL, Q⟩ := x
  obtain ⟨hx, hb, hml, hown, hG, hK, hN, hA, hR, hnl⟩ := X
  intro H locs ls hP hD hS hv
  exact lv_if_lt hx hb hdg ht (fun h => kt h H locs ls hP hD hS hv) (fun h => kf h H locs ls hP hD hS hv)
theorem J_icmp_lt (X : Ok E x cc own rm0 nL0) {u v : Int32} {off : Int} (tgt : Nat) (hdg : decode cc pc = .ok (.if_icmp .lt off, 3)) (ht : (pc : Int) + off = (tgt : Int)) (kt : u < v → J E x k n w tgt lv st) (kf : ¬ u < v → J E x k n w (pc + 3) lv st) : J E x k n w pc lv (.int v :: .int u :: st) := by
  obtain ⟨l, D, cy⟩ := E
  obtain ⟨p, e, R, s, m, args, below, meth, c, A, nL, Q⟩ := x
  obtain ⟨hx, hb, hml, hown, hG, hK, hN, hA, hR, hnl⟩ := X
  intro H locs ls hP hD hS hv
  exact lv_icmp_lt hx hb hdg ht (fun h => kt h H locs ls hP hD hS hv) (fun h => kf h H locs ls hP hD hS hv)
theorem J_if_ge (X : Ok E x cc own rm0 nL0) {u : Int32} {off : Int} (tgt : Nat) (hdg : decode cc pc = .ok (.ifCond .ge off, 3)) (ht : (pc : Int) + off = (tgt : Int)) (kt : 0 ≤ u → J E x k n w tgt lv st) (kf : ¬ 0 ≤ u → J E x k n w (pc + 3) lv st) : J E x k n w pc lv (.int u :: st) := by
  obtain ⟨l, D, cy⟩ := E
  obtain ⟨p, e, R, s, m, args, below, meth, c, A, nL, Q⟩ := x
  obtain ⟨hx, hb, hml, hown, hG, hK, hN, hA, hR, hnl⟩ := X
  intro H locs ls hP hD hS hv
  exact lv_if_ge hx hb hdg ht (fun h => kt h H locs ls hP hD hS hv) (fun h => kf h H locs ls hP hD hS hv)
theorem J_icmp_ge (X : Ok E x cc own rm0 nL0) {u v : Int32} {off : Int} (tgt : Nat) (hdg : decode cc pc = .ok (.if_icmp .ge off, 3)) (ht : (pc : Int) + off = (tgt : Int)) (kt : v ≤ u → J E x k n w tgt lv st) (kf : ¬ v ≤ u → J E x k n w (pc + 3) lv st) : J E x k n w pc lv (.int v :: .int u :: st) := by
  obtain ⟨l, D, cy⟩ := E
  obtain ⟨p, e, R, s, m, args, below, meth, c, A, nL, Q⟩ := x
  obtain ⟨hx, hb, hml, hown, hG, hK, hN, hA, hR, hnl⟩ := X
  intro H locs ls hP hD hS hv
  exact lv_icmp_ge hx hb hdg ht (fun h => kt h H locs ls hP hD hS hv) (fun h => kf h H locs ls hP hD hS hv)
theorem J_if_gt (X : Ok E x cc own rm0 nL0) {u : Int32} {off : Int} (tgt : Nat) (hdg : decode cc pc = .ok (.ifCond .gt off, 3)) (ht : (pc : Int) + off = (tgt : Int)) (kt : 0 < u → J E x k n w tgt lv st) (kf : ¬ 0 < u → J E x k n w (pc + 3) lv st) : J E x k n w pc lv (.int u :: st) := by
  obtain ⟨l, D, cy⟩ := E
  obtain ⟨p, e, R, s, m, args, below, meth, c, A, nL, Q⟩ := x
  obtain ⟨hx, hb, hml, hown, hG, hK, hN, hA, hR, hnl⟩ := X
  intro H locs ls hP hD hS hv
  exact lv_if_gt hx hb hdg ht (fun h => kt h H locs ls hP hD hS hv) (fun h => kf h H locs ls hP hD hS hv)
theorem J_icmp_gt (X : Ok E x cc own rm0 nL0) {u v : Int32} {off : Int} (tgt : Nat) (hdg : decode cc pc = .ok (.if_icmp .gt off, 3)) (ht : (pc : Int) + off = (tgt : Int)) (kt : v < u → J E x k n w tgt lv st) (kf : ¬ v < u → J E x k n w (pc + 3) lv st) : J E x k n w pc lv (.int v :: .int u :: st) := by
  obtain ⟨l, D, cy⟩ := E
  obtain ⟨p, e, R, s, m, args, below, meth, c, A, nL, Q⟩ := x
  obtain ⟨hx, hb, hml, hown, hG, hK, hN, hA, hR, hnl⟩ := X
  intro H locs ls hP hD hS hv
  exact lv_icmp_gt hx hb hdg ht (fun h => kt h H locs ls hP hD hS hv) (fun h => kf h H locs ls hP hD hS hv)
theorem J_if_le (X : Ok E x cc own rm0 nL0) {u : Int32} {off : Int} (tgt : Nat) (hdg : decode cc pc = .ok (.ifCond .le off, 3)) (ht : (pc : Int) + off = (tgt : Int)) (kt : u ≤ 0 → J E x k n w tgt lv st) (kf : ¬ u ≤ 0 → J E x k n w (pc + 3) lv st) : J E x k n w pc lv (.int u :: st) := by
  obtain ⟨l, D, cy⟩ := E
  obtain ⟨p, e, R, s, m, args, below, meth, c, A, nL, Q⟩ := x
  obtain ⟨hx, hb, hml, hown, hG, hK, hN, hA, hR, hnl⟩ := X
  intro H locs ls hP hD hS hv
  exact lv_if_le hx hb hdg ht (fun h => kt h H locs ls hP hD hS hv) (fun h => kf h H locs ls hP hD hS hv)
theorem J_icmp_le (X : Ok E x cc own rm0 nL0) {u v : Int32} {off : Int} (tgt : Nat) (hdg : decode cc pc = .ok (.if_icmp .le off, 3)) (ht : (pc : Int) + off = (tgt : Int)) (kt : u ≤ v → J E x k n w tgt lv st) (kf : ¬ u ≤ v → J E x k n w (pc + 3) lv st) : J E x k n w pc lv (.int v :: .int u :: st) := by
  obtain ⟨l, D, cy⟩ := E
  obtain ⟨p, e, R, s, m, args, below, meth, c, A, nL, Q⟩ := x
  obtain ⟨hx, hb, hml, hown, hG, hK, hN, hA, hR, hnl⟩ := X
  intro H locs ls hP hD hS hv
  exact lv_icmp_le hx hb hdg ht (fun h => kt h H locs ls hP hD hS hv) (fun h => kf h H locs ls hP hD hS hv)
theorem J_goto (X : Ok E x cc own rm0 nL0) {off : Int} (tgt : Nat) (hdg : decode cc pc = .ok (.goto off, 3)) (ht : (pc : Int) + off = (tgt : Int)) (k1 : J E x k n w tgt lv st) : J E x k n w pc lv st := by
  obtain ⟨l, D, cy⟩ := E
  obtain ⟨p, e, R, s, m, args, below, meth, c, A, nL, Q⟩ := x
  obtain ⟨hx, hb, hml, hown, hG, hK, hN, hA, hR, hnl⟩ := X
  intro H locs ls hP hD hS hv
  exact lv_goto hx hb hdg ht (k1 H locs ls hP hD hS hv)
theorem J_getf (X : Ok E x cc own rm0 nL0) {a : Nat} {C : String} {T : u_T} {N ci idx : Nat} {fs : List Value} {v : Value} (q0 : Nat) (he : w[q0]? = some (a, .inr (ci, fs))) (hc : vwCl[ci]? = some (C, T, N)) (hin : ∀ z ∈ u_ws C T N, z ∈ GW) (j : Nat) (hj : j < N) (hw : Cond.fieldLink own idx (T j).1 (T j).2.1 (T j).2.2.1 ∈ GW) (hv1 : fs[j]? = some v) (hdg : decode cc pc = .ok (.getfield idx, 3)) (k1 : J E x k n w (pc + 3) lv (v :: st)) : J E x k n w pc lv (.ref a :: st) := by
  obtain ⟨l, D, cy⟩ := E
  obtain ⟨p, e, R, s, m, args, below, meth, c, A, nL, Q⟩ := x
  obtain ⟨hx, hb, hml, hown, hG, hK, hN, hA, hR, hnl⟩ := X
  intro H locs ls hP hD hS hv
  exact va_get hx hb hG hin hown hK hP q0 he hc j hj (hG _ hw) (fun _ h9 => h9) hv1 hdg (k1 H locs ls hP hD hS hv)
theorem J_getfN (X : Ok E x cc own rm0 nL0) {a : Nat} {C host : String} {T : u_T} {N ci idx : Nat} {fs : List Value} {v : Value} (q0 : Nat) (he : w[q0]? = some (a, .inr (ci, fs))) (hc : vwCl[ci]? = some (C, T, N)) (hin : ∀ z ∈ u_ws C T N, z ∈ GW) (j : Nat) (hj : j < N) (hw : Cond.fieldLinkNest own idx (T j).1 (T j).2.1 (T j).2.2.1 host ∈ NW) (hv1 : fs[j]? = some v) (hdg : decode cc pc = .ok (.getfield idx, 3)) (k1 : J E x k n w (pc + 3) lv (v :: st)) : J E x k n w pc lv (.ref a :: st) := by
  obtain ⟨l, D, cy⟩ := E
  obtain ⟨p, e, R, s, m, args, below, meth, c, A, nL, Q⟩ := x
  obtain ⟨hx, hb, hml, hown, hG, hK, hN, hA, hR, hnl⟩ := X
  intro H locs ls hP hD hS hv
  exact va_getN hx hb hG hin hown hK hP q0 he hc j hj (va_Nw.use rfl (hN _ hw)) (fun _ h9 => h9) hv1 hdg (k1 H locs ls hP hD hS hv)
theorem J_putf (X : Ok E x cc own rm0 nL0) {a : Nat} {C : String} {T : u_T} {N ci idx : Nat} {fs : List Value} {v : Value} {ty : FieldType} {w1 : va_W} (q0 : Nat) (he : w[q0]? = some (a, .inr (ci, fs))) (hc : vwCl[ci]? = some (C, T, N)) (hin : ∀ z ∈ u_ws C T N, z ∈ GW) {ty0 : Nat → FieldType} (hty : ∀ i, i < N → parseFieldDescriptor (T i).2.2.1 = some (ty0 i)) (hnm : ∀ i, i < N → ∀ i2, i2 < N → i ≠ i2 → (T i).2.1 ≠ (T i2).2.1) (j : Nat) (hj : j < N) (hw : Cond.fieldLink own idx (T j).1 (T j).2.1 (T j).2.2.1 ∈ GW) (hfin : (T j).2.2.2 = false) (hd : parseFieldDescriptor (T j).2.2.1 = some ty) (hn : narrow ty v = v) (hfit : fits ty v = true) (hl : j < fs.length) (hdg : decode cc pc = .ok (.putfield idx, 3)) (e1 : w.set q0 (a, .inr (ci, fs.set j v)) = w1) (k1 : J E x k n w1 (pc + 3) lv st) : J E x k n w pc lv (v :: .ref a :: st) := by
  obtain ⟨l, D, cy⟩ := E
  obtain ⟨p, e, R, s, m, args, below, meth, c, A, nL, Q⟩ := x
  obtain ⟨hx, hb, hml, hown, hG, hK, hN, hA, hR, hnl⟩ := X
  intro H locs ls hP hD hS hv
  subst e1
  exact va_put hx hb hG hin ty0 hty hnm hown hK hP hD hS q0 he hc j hj (hG _ hw) (fun _ h9 => h9) hfin hd hn hfit hl hdg (fun H1 locs1 hP hD hS => k1 H1 locs1 ls hP hD hS hv)
theorem J_putfN (X : Ok E x cc own rm0 nL0) {a : Nat} {C host : String} {T : u_T} {N ci idx : Nat} {fs : List Value} {v : Value} {ty : FieldType} {w1 : va_W} (q0 : Nat) (he : w[q0]? = some (a, .inr (ci, fs))) (hc : vwCl[ci]? = some (C, T, N)) (hin : ∀ z ∈ u_ws C T N, z ∈ GW) {ty0 : Nat → FieldType} (hty : ∀ i, i < N → parseFieldDescriptor (T i).2.2.1 = some (ty0 i)) (hnm : ∀ i, i < N → ∀ i2, i2 < N → i ≠ i2 → (T i).2.1 ≠ (T i2).2.1) (j : Nat) (hj : j < N) (hw : Cond.fieldLinkNest own idx (T j).1 (T j).2.1 (T j).2.2.1 host ∈ NW) (hfin : (T j).2.2.2 = false) (hd : parseFieldDescriptor (T j).2.2.1 = some ty) (hn : narrow ty v = v) (hfit : fits ty v = true) (hl : j < fs.length) (hdg : decode cc pc = .ok (.putfield idx, 3)) (e1 : w.set q0 (a, .inr (ci, fs.set j v)) = w1) (k1 : J E x k n w1 (pc + 3) lv st) : J E x k n w pc lv (v :: .ref a :: st) := by
  obtain ⟨l, D, cy⟩ := E
  obtain ⟨p, e, R, s, m, args, below, meth, c, A, nL, Q⟩ := x
  obtain ⟨hx, hb, hml, hown, hG, hK, hN, hA, hR, hnl⟩ := X
  intro H locs ls hP hD hS hv
  subst e1
  exact va_putN hx hb hG hin ty0 hty hnm hown hK hP hD hS q0 he hc j hj (va_Nw.use rfl (hN _ hw)) (fun _ h9 => h9) hfin hd hn hfit hl hdg (fun H1 locs1 hP hD hS => k1 H1 locs1 ls hP hD hS hv)
theorem J_iald (X : Ok E x cc own rm0 nL0) {a N : Nat} {f : Nat → Int32} {i : Int32} (q0 : Nat) (he : w[q0]? = some (a, .inl (E.2.2 0, N, .inl f))) (hi : inb i N) (hdg : decode cc pc = .ok (.iaload, 1)) (k1 : J E x k n w (pc + 1) lv (.int (f i.toNatClampNeg) :: st)) : J E x k n w pc lv (.int i :: .ref a :: st) := by
  obtain ⟨l, D, cy⟩ := E
  obtain ⟨p, e, R, s, m, args, below, meth, c, A, nL, Q⟩ := x
  obtain ⟨hx, hb, hml, hown, hG, hK, hN, hA, hR, hnl⟩ := X
  intro H locs ls hP hD hS hv
  exact va_iald hx hb hK hP q0 0 he rfl (inb_in hi) hdg (k1 H locs ls hP hD hS hv)
theorem J_zald (X : Ok E x cc own rm0 nL0) {a N : Nat} {f : Nat → Int32} {i : Int32} (q0 : Nat) (he : w[q0]? = some (a, .inl (E.2.2 1, N, .inl f))) (hi : inb i N) (hdg : decode cc pc = .ok (.baload, 1)) (k1 : J E x k n w (pc + 1) lv (.int (f i.toNatClampNeg) :: st)) : J E x k n w pc lv (.int i :: .ref a :: st) := by
  obtain ⟨l, D, cy⟩ := E
  obtain ⟨p, e, R, s, m, args, below, meth, c, A, nL, Q⟩ := x
  obtain ⟨hx, hb, hml, hown, hG, hK, hN, hA, hR, hnl⟩ := X
  intro H locs ls hP hD hS hv
  exact va_zald hx hb hK hP q0 1 he rfl (inb_in hi) hdg (k1 H locs ls hP hD hS hv)
theorem J_iast (X : Ok E x cc own rm0 nL0) {a N : Nat} {f : Nat → Int32} {i v : Int32} {w1 : va_W} (q0 : Nat) (he : w[q0]? = some (a, .inl (E.2.2 0, N, .inl f))) (hi : inb i N) (hdg : decode cc pc = .ok (.iastore, 1)) (e1 : w.set q0 (a, .inl (E.2.2 0, N, .inl (upd f i.toNatClampNeg v))) = w1) (k1 : J E x k n w1 (pc + 1) lv st) : J E x k n w pc lv (.int v :: .int i :: .ref a :: st) := by
  obtain ⟨l, D, cy⟩ := E
  obtain ⟨p, e, R, s, m, args, below, meth, c, A, nL, Q⟩ := x
  obtain ⟨hx, hb, hml, hown, hG, hK, hN, hA, hR, hnl⟩ := X
  intro H locs ls hP hD hS hv
  subst e1
  exact va_iast hx hb hK hP hD hS q0 0 he rfl (inb_in hi) hdg (fun H1 locs1 hP hD hS => k1 H1 locs1 ls hP hD hS hv)
theorem J_zast (X : Ok E x cc own rm0 nL0) {a N : Nat} {f : Nat → Int32} {i v : Int32} {w1 : va_W} (q0 : Nat) (he : w[q0]? = some (a, .inl (E.2.2 1, N, .inl f))) (hi : inb i N) (hz : isZ v) (hdg : decode cc pc = .ok (.bastore, 1)) (e1 : w.set q0 (a, .inl (E.2.2 1, N, .inl (upd f i.toNatClampNeg v))) = w1) (k1 : J E x k n w1 (pc + 1) lv st) : J E x k n w pc lv (.int v :: .int i :: .ref a :: st) := by
  obtain ⟨l, D, cy⟩ := E
  obtain ⟨p, e, R, s, m, args, below, meth, c, A, nL, Q⟩ := x
  obtain ⟨hx, hb, hml, hown, hG, hK, hN, hA, hR, hnl⟩ := X
  intro H locs ls hP hD hS hv
  subst e1
  exact va_zast hx hb hK hP hD hS q0 1 he rfl (inb_in hi) hdg (fun H1 locs1 hP hD hS => k1 H1 locs1 ls (by rw [isZ_nar2 hz] at hP; exact hP) (by rw [isZ_nar2 hz] at hD; exact hD) hS hv)
theorem J_sub {E : Ev} {x : Cx} {k n : Nat} {w : va_W} {pc : Nat} {lv lv1 : List (Nat × Value)} {st : List Value} (ks : List Nat) (hl : lv_pick lv ks = lv1) (k1 : J E x k n w pc lv1 st) : J E x k n w pc lv st := by
  obtain ⟨l, D, cy⟩ := E
  obtain ⟨p, e, R, s, m, args, below, meth, c, A, nL, Q⟩ := x
  intro H locs ls hP hD hS hv
  exact k1 H locs ls hP hD hS (lv_sub hv ks hl)
theorem J_nmi {E : Ev} {x : Cx} {k n : Nat} {w : va_W} {pc : Nat} {lv : List (Nat × Value)} {st : List Value} {u v : Int32} (e : v = u) (k1 : J E x k n w pc lv (.int v :: st)) : J E x k n w pc lv (.int u :: st) := e ▸ k1
theorem J_nml {E : Ev} {x : Cx} {k n : Nat} {w : va_W} {pc : Nat} {lv : List (Nat × Value)} {st : List Value} {u v : Int64} (e : v = u) (k1 : J E x k n w pc lv (.long v :: st)) : J E x k n w pc lv (.long u :: st) := e ▸ k1
theorem J_mmax (X : Ok E x cc own rm0 nL0) {idx : Nat} {u v : Int32} (h1 : Cond.methodLink own idx Lib.Math.max.name ∈ GW) (h2 : Cond.static Lib.Math.max.name ∈ GW) (h3 : Cond.initialized "java/lang/Math" ∈ GW) (h4 : Cond.code Lib.Math.max.name Lib.Math.max.code 2 (some .int) ∈ GW) (hf : 1 ≤ rm0.frames) (hlo : (st.map fun v => v.category).sum + 13 ≤ rm0.locals) (hc : k ≤ rm0.cells) (hs : n ≤ rm0.slots) (hdg : decode cc pc = .ok (.invokestatic idx, 3)) (k1 : J E x k n w (pc + 3) lv (.int (if u < v then v else u) :: st)) : J E x k n w pc lv (.int v :: .int u :: st) := by
  obtain ⟨l, D, cy⟩ := E
  obtain ⟨p, e, R, s, m, args, below, meth, c, A, nL, Q⟩ := x
  obtain ⟨hx, hb, hml, hown, hG, hK, hN, hA, hR, hnl⟩ := X
  intro H locs ls hP hD hS hv
  subst hR
  exact va_mmax hx hb (hml.trans hv.1.symm) hown (hG _ h1) (hG _ h2) (hG _ h3) (hG _ h4) hf hlo hc hs hdg (k1 H locs ls hP hD hS hv)
theorem J_mmin (X : Ok E x cc own rm0 nL0) {idx : Nat} {u v : Int32} (h1 : Cond.methodLink own idx Lib.Math.min.name ∈ GW) (h2 : Cond.static Lib.Math.min.name ∈ GW) (h3 : Cond.initialized "java/lang/Math" ∈ GW) (h4 : Cond.code Lib.Math.min.name Lib.Math.min.code 2 (some .int) ∈ GW) (hf : 1 ≤ rm0.frames) (hlo : (st.map fun v => v.category).sum + 13 ≤ rm0.locals) (hc : k ≤ rm0.cells) (hs : n ≤ rm0.slots) (hdg : decode cc pc = .ok (.invokestatic idx, 3)) (k1 : J E x k n w (pc + 3) lv (.int (if v < u then v else u) :: st)) : J E x k n w pc lv (.int v :: .int u :: st) := by
  obtain ⟨l, D, cy⟩ := E
  obtain ⟨p, e, R, s, m, args, below, meth, c, A, nL, Q⟩ := x
  obtain ⟨hx, hb, hml, hown, hG, hK, hN, hA, hR, hnl⟩ := X
  intro H locs ls hP hD hS hv
  subst hR
  exact va_mmin hx hb (hml.trans hv.1.symm) hown (hG _ h1) (hG _ h2) (hG _ h3) (hG _ h4) hf hlo hc hs hdg (k1 H locs ls hP hD hS hv)
theorem J_mmaxl (X : Ok E x cc own rm0 nL0) {idx : Nat} {u v : Int64} (h1 : Cond.methodLink own idx Lib.MathLoose.max_long.x ∈ GW) (h2 : Cond.static Lib.MathLoose.max_long.x ∈ GW) (h3 : Cond.initialized "java/lang/Math" ∈ GW) (h4 : Cond.code Lib.MathLoose.max_long.x Lib.MathLoose.max_long.code 4 (some .long) ∈ GW) (hf : 1 ≤ rm0.frames) (hlo : (st.map fun v => v.category).sum + 15 ≤ rm0.locals) (hc : k ≤ rm0.cells) (hs : n ≤ rm0.slots) (hdg : decode cc pc = .ok (.invokestatic idx, 3)) (k1 : J E x k n w (pc + 3) lv (.long (if v < u then u else v) :: st)) : J E x k n w pc lv (.long v :: .long u :: st) := by
  obtain ⟨l, D, cy⟩ := E
  obtain ⟨p, e, R, s, m, args, below, meth, c, A, nL, Q⟩ := x
  obtain ⟨hx, hb, hml, hown, hG, hK, hN, hA, hR, hnl⟩ := X
  intro H locs ls hP hD hS hv
  subst hR
  exact va_mmax_long hx hb (hml.trans hv.1.symm) hown (hG _ h1) (hG _ h2) (hG _ h3) (hG _ h4) hf hlo hc hs hdg (k1 H locs ls hP hD hS hv)
theorem J_mminl (X : Ok E x cc own rm0 nL0) {idx : Nat} {u v : Int64} (h1 : Cond.methodLink own idx Lib.MathLoose.min_long.x ∈ GW) (h2 : Cond.static Lib.MathLoose.min_long.x ∈ GW) (h3 : Cond.initialized "java/lang/Math" ∈ GW) (h4 : Cond.code Lib.MathLoose.min_long.x Lib.MathLoose.min_long.code 4 (some .long) ∈ GW) (hf : 1 ≤ rm0.frames) (hlo : (st.map fun v => v.category).sum + 15 ≤ rm0.locals) (hc : k ≤ rm0.cells) (hs : n ≤ rm0.slots) (hdg : decode cc pc = .ok (.invokestatic idx, 3)) (k1 : J E x k n w (pc + 3) lv (.long (if v < u then v else u) :: st)) : J E x k n w pc lv (.long v :: .long u :: st) := by
  obtain ⟨l, D, cy⟩ := E
  obtain ⟨p, e, R, s, m, args, below, meth, c, A, nL, Q⟩ := x
  obtain ⟨hx, hb, hml, hown, hG, hK, hN, hA, hR, hnl⟩ := X
  intro H locs ls hP hD hS hv
  subst hR
  exact va_mmin_long hx hb (hml.trans hv.1.symm) hown (hG _ h1) (hG _ h2) (hG _ h3) (hG _ h4) hf hlo hc hs hdg (k1 H locs ls hP hD hS hv)
theorem J_mabs (X : Ok E x cc own rm0 nL0) {idx : Nat} {u : Int32} (h1 : Cond.methodLink own idx Lib.Math.abs.name ∈ GW) (h2 : Cond.static Lib.Math.abs.name ∈ GW) (h3 : Cond.initialized "java/lang/Math" ∈ GW) (h4 : Cond.code Lib.Math.abs.name Lib.Math.abs.code 1 (some .int) ∈ GW) (hf : 1 ≤ rm0.frames) (hlo : (st.map fun v => v.category).sum + 13 ≤ rm0.locals) (hc : k ≤ rm0.cells) (hs : n ≤ rm0.slots) (hdg : decode cc pc = .ok (.invokestatic idx, 3)) (k1 : J E x k n w (pc + 3) lv (.int (if 0 ≤ u then u else 0 - u) :: st)) : J E x k n w pc lv (.int u :: st) := by
  obtain ⟨l, D, cy⟩ := E
  obtain ⟨p, e, R, s, m, args, below, meth, c, A, nL, Q⟩ := x
  obtain ⟨hx, hb, hml, hown, hG, hK, hN, hA, hR, hnl⟩ := X
  intro H locs ls hP hD hS hv
  subst hR
  exact va_mabs hx hb (hml.trans hv.1.symm) hown (hG _ h1) (hG _ h2) (hG _ h3) (hG _ h4) hf hlo hc hs hdg (k1 H locs ls hP hD hS hv)
end JROWS
def Pre0 (E : Ev) (sz : Nat) (w : va_W) (av : List Value) : Array Value → State → Prop := va_Pc av (fun U => U.heap.size = sz ∧ va_P E.2.1 vwCl w U.heap ∧ va_K E.2.1 vwCl (tyL E.2.2) U ∧ (∀ z ∈ NW, va_Nw z U) ∧ va_D (fun _ => True) w)
def End0 (E : Ev) (sz : Nat) (w w1 : va_W) (t : State) : Prop := va_P E.2.1 vwCl w1 t.heap ∧ va_D (va_A w sz) w1
def rmC (f lo : Nat) : Room := { frames := f, cells := 0, slots := 0, locals := lo }
def CtI (E : Ev) (y : MethodName) (b : ByteArray) (nl : Nat) (rt : FieldType) (f lo : Nat) (w : va_W) (av : List Value) (r : Int32) (w1 : va_W) : Prop := ∀ sz, Met E.1 y (.code y b nl (some rt) :: GW) (rmC f lo) (Pre0 E sz w av) (va_Qi (fun (r2 : Int32) (_ : Unit) => r2 = r) (fun _ t => End0 E sz w w1 t) (va_A w sz)) 0 0 (va_A w sz)
def CtL (E : Ev) (y : MethodName) (b : ByteArray) (nl : Nat) (f lo : Nat) (w : va_W) (av : List Value) (r : Int64) (w1 : va_W) : Prop := ∀ sz, Met E.1 y (.code y b nl (some .long) :: GW) (rmC f lo) (Pre0 E sz w av) (va_Ql (fun (r2 : Int64) (_ : Unit) => r2 = r) (fun _ t => End0 E sz w w1 t) (va_A w sz)) 0 0 (va_A w sz)
def CtV (E : Ev) (y : MethodName) (b : ByteArray) (nl : Nat) (f lo : Nat) (w : va_W) (av : List Value) (w1 : va_W) : Prop := ∀ sz, Met E.1 y (.code y b nl none :: GW) (rmC f lo) (Pre0 E sz w av) (va_Qv (fun (_ : Unit) => True) (fun _ t => End0 E sz w w1 t) (va_A w sz)) 0 0 (va_A w sz)
theorem Met_ofW2 {l : Launch} {y : MethodName} {ws ws' : List Cond} {rm : Room} {Pc : Array Value → State → Prop} {Qc : Array Value → State → Outcome → State → Prop} {mc ms : Nat} {free : Addr → Prop} {cc : ByteArray} {maxL : Nat} {ret : Option FieldType}
    (hy : plainFor y = true) (hw : ws = Cond.code y cc maxL ret :: ws')
    (body : ∀ p e s m args below meth c s₁, BodyLoose p l y (headSpec ws rm) cc maxL ret e s m args below meth c s₁ → c.maxLocals = maxL → Pc args s →
      W p l e (headSpec ws rm).room s m args below meth c s.heap [] 0 0 (MQ below Qc args s mc ms free) (entryFrame m args maxL)) : Met l y ws rm Pc Qc mc ms free := by
  refine MetFree.of_bodyRF (code := cc) (maxLocals := maxL) (ret := ret) hy ?_ ?_
  · intro args s m h hn
    obtain ⟨meth, c, h1, h2, h3, h4, h5, h6, -, -⟩ := Cond.code_spec hn (atoms_spec (ws := ws) h _ (by rw [hw]; exact List.mem_cons_self))
    exact ⟨meth, c, h1, h2, h3, h4, h5, h6⟩
  · intro p e s m args below meth c s₁ B hml hP _ hst
    have hh0 : s₁.heap = s.heap := by rw [B.state]; rfl
    obtain ⟨t, a1, o, b1, b2, b3⟩ := body p e s m args below meth c s₁ B hml hP s₁ hh0 (Stand.of_body B)
    exact ⟨t, o, hst.trans a1, b1, b2, ⟨b3.1, b3.2⟩⟩
theorem GW_cons {args : Array Value} {s : State} {z : Cond} (h : ∀ q ∈ z :: GW, q.before args s = true) : ∀ q ∈ GW, q.before args s = true := fun q hq => h q (List.mem_cons_of_mem _ hq)
theorem Pre0_blind {E : Ev} {sz : Nat} {w : va_W} {av : List Value} : FrameBlind (Pre0 E sz w av) := fun a U g mk q => by
  obtain ⟨q0, q1, qP, qK, qN, qD⟩ := q
  exact ⟨q0, q1, qP, va_K.moved (u := U) (U := U.calling g mk a) (Vm.Alike.refl U.vm) qK, NW_same (s := U) (U := U.calling g mk a) rfl qN, qD⟩
theorem GW_good {z : Cond} (h : z ∈ GW) : GoodIn GW (z :: GW) := by
  intro q hq
  rcases List.mem_cons.mp hq with rfl | hq
  · exact ⟨h, good_of_word (GW_ok _ h)⟩
  · exact ⟨hq, good_of_word (GW_ok _ hq)⟩
theorem GW_goodV {own C : String} {idx : Nat} {y : MethodName} {z : Cond} (h1 : Cond.methodLink own idx y ∈ GW) (h2 : Cond.instanceMethod y ∈ GW) (h3 : Cond.selects C y y ∈ GW) (h4 : Cond.initialized C ∈ GW) (h5 : z ∈ GW) : GoodIn GW (wsV own idx C y (z :: GW)) := by
  intro q hq
  have hm : q ∈ GW := by
    simp only [wsV, List.cons_append, List.nil_append, List.mem_cons] at hq
    rcases hq with rfl | rfl | rfl | rfl | rfl | hq
    · exact h1
    · exact h2
    · exact h3
    · exact h4
    · exact h5
    · exact hq
  exact ⟨hm, good_of_word (GW_ok _ hm)⟩
theorem GW_goodS {own : String} {idx : Nat} {y : MethodName} {z : Cond} (h1 : Cond.methodLink own idx y ∈ GW) (h2 : Cond.static y ∈ GW) (h4 : Cond.initialized own ∈ GW) (h5 : z ∈ GW) : GoodIn GW (wsS own idx y (z :: GW)) := by
  intro q hq
  have hm : q ∈ GW := by
    simp only [wsS, List.cons_append, List.nil_append, List.mem_cons] at hq
    rcases hq with rfl | rfl | rfl | rfl | hq
    · exact h1
    · exact h2
    · exact h4
    · exact h5
    · exact hq
  exact ⟨hm, good_of_word (GW_ok _ hm)⟩
theorem CtI_of {E : Ev} {y : MethodName} {b : ByteArray} {nl f lo : Nat} {rt : FieldType} {r : Int32} {w w1 : va_W} {av : List Value} (hy : plainFor y = true) (hle : (lg_sl av).length ≤ nl) (body : ∀ x : Cx, Ok E x b y.cls (rmC f lo) nl → (∀ pc lv, decode b pc = .ok (.ireturn, 1) → narrow rt (.int r) = .int r → J E x 0 0 w1 pc lv [.int r]) → J E x 0 0 w 0 (lv_args 0 av) []) : CtI E y b nl rt f lo w av r w1 := by
  obtain ⟨l, D, cy⟩ := E
  intro sz
  refine Met_ofW2 (cc := b) (maxL := nl) (ret := (some rt)) hy rfl ?_
  intro p e s m args below meth c s₁ B hml hv
  obtain ⟨rfl, hsz, hP, hK, hN, hD0⟩ := hv
  have hx := B.exec
  have hb := B.bytes
  have hr := B.returns
  have hts := GW_cons (atoms_spec (ws := .code y b nl (some rt) :: GW) B.pre)
  have hown : s.vm.findClass y.cls = some m.cls := findClass_of_methodNamed B.named
  have hlocks := B.notSynchronized
  subst hsz
  have hD := hD0.self (sz := s.heap.size)
  have hl := lv_entry av (n := nl) hle
  rw [lg_entry_eq]
  have hB := body (p, e, rmC f lo, s, m, av.toArray, below, meth, c, va_A w s.heap.size, nl, MQ below (va_Qi (fun (r2 : Int32) (_ : Unit) => r2 = r) (fun _ t => End0 (l, D, cy) s.heap.size w w1 t) (va_A w s.heap.size)) av.toArray s 0 0 (va_A w s.heap.size)) ⟨hx, hb, hml, hown, hts, hK, hN, fun q h => Or.inr h, rfl, rfl⟩ (fun pc lv hdg hrt H locs ls hP hD hS hv => ?_)
  · exact hB s.heap [] _ hP hD va_S.rf hl
  · exact W.zret (v := r) hx hb hr hrt (fun t ht hW => ⟨⟨r, (), rfl, rfl, by rw [ht]; exact hP, hD⟩, hS.F ht⟩) hS.2.2 hdg
theorem CtL_of {E : Ev} {y : MethodName} {b : ByteArray} {nl f lo : Nat} {r : Int64} {w w1 : va_W} {av : List Value} (hy : plainFor y = true) (hle : (lg_sl av).length ≤ nl) (body : ∀ x : Cx, Ok E x b y.cls (rmC f lo) nl → (∀ pc lv, decode b pc = .ok (.lreturn, 1) → J E x 0 0 w1 pc lv [.long r]) → J E x 0 0 w 0 (lv_args 0 av) []) : CtL E y b nl f lo w av r w1 := by
  obtain ⟨l, D, cy⟩ := E
  intro sz
  refine Met_ofW2 (cc := b) (maxL := nl) (ret := (some .long)) hy rfl ?_
  intro p e s m args below meth c s₁ B hml hv
  obtain ⟨rfl, hsz, hP, hK, hN, hD0⟩ := hv
  have hx := B.exec
  have hb := B.bytes
  have hr := B.returns
  have hts := GW_cons (atoms_spec (ws := .code y b nl (some .long) :: GW) B.pre)
  have hown : s.vm.findClass y.cls = some m.cls := findClass_of_methodNamed B.named
  have hlocks := B.notSynchronized
  subst hsz
  have hD := hD0.self (sz := s.heap.size)
  have hl := lv_entry av (n := nl) hle
  rw [lg_entry_eq]
  have hB := body (p, e, rmC f lo, s, m, av.toArray, below, meth, c, va_A w s.heap.size, nl, MQ below (va_Ql (fun (r2 : Int64) (_ : Unit) => r2 = r) (fun _ t => End0 (l, D, cy) s.heap.size w w1 t) (va_A w s.heap.size)) av.toArray s 0 0 (va_A w s.heap.size)) ⟨hx, hb, hml, hown, hts, hK, hN, fun q h => Or.inr h, rfl, rfl⟩ (fun pc lv hdg H locs ls hP hD hS hv => ?_)
  · exact hB s.heap [] _ hP hD va_S.rf hl
  · exact W.lret (v := r) hx hb hr (fun t ht hW => ⟨⟨r, (), rfl, rfl, by rw [ht]; exact hP, hD⟩, hS.F ht⟩) hS.2.2 hdg
theorem CtV_of {E : Ev} {y : MethodName} {b : ByteArray} {nl f lo : Nat} {w w1 : va_W} {av : List Value} (hy : plainFor y = true) (hle : (lg_sl av).length ≤ nl) (body : ∀ x : Cx, Ok E x b y.cls (rmC f lo) nl → (∀ pc lv, decode b pc = .ok (.return_, 1) → J E x 0 0 w1 pc lv []) → J E x 0 0 w 0 (lv_args 0 av) []) : CtV E y b nl f lo w av w1 := by
  obtain ⟨l, D, cy⟩ := E
  intro sz
  refine Met_ofW2 (cc := b) (maxL := nl) (ret := none) hy rfl ?_
  intro p e s m args below meth c s₁ B hml hv
  obtain ⟨rfl, hsz, hP, hK, hN, hD0⟩ := hv
  have hx := B.exec
  have hb := B.bytes
  have hr := B.returns
  have hts := GW_cons (atoms_spec (ws := .code y b nl none :: GW) B.pre)
  have hown : s.vm.findClass y.cls = some m.cls := findClass_of_methodNamed B.named
  have hlocks := B.notSynchronized
  subst hsz
  have hD := hD0.self (sz := s.heap.size)
  have hl := lv_entry av (n := nl) hle
  rw [lg_entry_eq]
  have hB := body (p, e, rmC f lo, s, m, av.toArray, below, meth, c, va_A w s.heap.size, nl, MQ below (va_Qv (fun (_ : Unit) => True) (fun _ t => End0 (l, D, cy) s.heap.size w w1 t) (va_A w s.heap.size)) av.toArray s 0 0 (va_A w s.heap.size)) ⟨hx, hb, hml, hown, hts, hK, hN, fun q h => Or.inr h, rfl, rfl⟩ (fun pc lv hdg H locs ls hP hD hS hv => ?_)
  · exact hB s.heap [] _ hP hD va_S.rf hl
  · exact W.vret hx hb hr (fun t ht hW => ⟨⟨(), rfl, trivial, by rw [ht]; exact hP, hD⟩, hS.F ht⟩) hS.2.2 hdg
theorem J_callVI {E : Ev} {x : Cx} {cc : ByteArray} {own : String} {f0 lo0 nL0 k n : Nat} {w w1 : va_W} {pc : Nat} {lv : List (Nat × Value)} {st rest : List Value} (X : Ok E x cc own (rmC f0 lo0) nL0) {T : u_T} {N ci : Nat} {fs : List Value} {a : Nat} {r : Int32} {y : MethodName} {b : ByteArray} {nl f lo idx : Nat} {rt : FieldType} {As : List Value} (hM : CtI E y b nl rt f lo w (.ref a :: As) r w1) (q0 : Nat) (he : w[q0]? = some (a, .inr (ci, fs))) (hc : vwCl[ci]? = some (y.cls, T, N)) (h1 : Cond.methodLink own idx y ∈ GW) (h2 : Cond.instanceMethod y ∈ GW) (h3 : Cond.selects y.cls y y ∈ GW) (h4 : Cond.initialized y.cls ∈ GW) (h5 : Cond.code y b nl (some rt) ∈ GW) {na : Nat} (hna : As.length = na) (hd : y.cls ≠ "java/lang/invoke/MethodHandle" ∧ y.cls ≠ "java/lang/invoke/VarHandle" ∧ (parseMethodDescriptor y.desc).map (fun d => d.parameters.length) = some na) (hf : f + 1 ≤ f0 ∧ 8 + (nl + 11) + lo ≤ lo0) (hst : st = As.reverse ++ .ref a :: rest) (hW : (rest.map fun v => v.category).sum ≤ 8) (hkn : k ≤ 0 ∧ n ≤ 0) (hdg : decode cc pc = .ok (.invokevirtual idx, 3)) (k1 : J E x k n w1 (pc + 3) lv (.int r :: rest)) : J E x k n w pc lv st := by
  obtain ⟨l, D, cy⟩ := E
  obtain ⟨p, e, R, s, m, args, below, meth, c, A, nL, Q⟩ := x
  obtain ⟨hx, hb, hml, hown, hG, hK, hN, hA, hR, hnl⟩ := X
  intro H locs ls hP hD hS hv
  subst hst
  subst hR
  subst hnl
  have hF : ∀ q, va_A w H.size q → A q := fun q h => by
    rcases h with ⟨j, e9, h⟩ | h
    · exact hD.2 j (q, e9) h
    · exact hA q (Nat.le_trans hS.1 h)
  exact va_calli (va_runV (As := As) (rest := rest) (b := a) (n := na) (cc := cc) (nL := nL) (Ts := GW) (own := own) (index := idx) ⟨hx, hb, hml, hown, hG⟩ (hM H.size) (cwV na hG (GW_goodV h1 h2 h3 h4 h5) rfl rfl rfl ⟨rfl, hd⟩ ⟨hf.1, hf.2⟩) ⟨Pre0_blind, va_recv hK hP hc he, fun U hU hW9 => ⟨rfl, by rw [hU], by rw [hU]; exact hP, va_K.moved hW9.alike hK, NW_warm hW9 hN, hD.weaken (fun _ _ _ _ => trivial)⟩⟩ rfl hna hv.1 rfl (lv_room hW) hdg ⟨Nat.le_trans hkn.1 (Nat.zero_le _), Nat.le_trans hkn.2 (Nat.zero_le _)⟩) hS (fun q _ h => hF q h) hF (fun r2 _ t H1 locs1 ht hvm hw hB hz1 hk1 hS => by
    obtain ⟨hP1, hD1⟩ := hB
    rw [ht] at hP1
    subst hw
    exact k1 H1 locs1 ls hP1 (hD1.weaken (fun _ q _ h9 => hF q.1 h9)) hS hv)
theorem J_callVNI {E : Ev} {x : Cx} {cc : ByteArray} {own : String} {f0 lo0 nL0 k n : Nat} {w w1 : va_W} {pc : Nat} {lv : List (Nat × Value)} {st rest : List Value} (X : Ok E x cc own (rmC f0 lo0) nL0) {T : u_T} {N ci : Nat} {fs : List Value} {a : Nat} {r : Int32} {y : MethodName} {b : ByteArray} {nl f lo idx : Nat} {rt : FieldType} {As : List Value} (hM : CtI E y b nl rt f lo w (.ref a :: As) r w1) (q0 : Nat) (he : w[q0]? = some (a, .inr (ci, fs))) (hc : vwCl[ci]? = some (y.cls, T, N)) {host : String} (h1 : Cond.methodLinkNest own idx y host ∈ NW) (h2 : Cond.instanceMethod y ∈ GW) (h3 : Cond.selects y.cls y y ∈ GW) (h4 : Cond.initialized y.cls ∈ GW) (h5 : Cond.code y b nl (some rt) ∈ GW) {na : Nat} (hna : As.length = na) (hd : y.cls ≠ "java/lang/invoke/MethodHandle" ∧ y.cls ≠ "java/lang/invoke/VarHandle" ∧ (parseMethodDescriptor y.desc).map (fun d => d.parameters.length) = some na) (hf : f + 1 ≤ f0 ∧ 8 + (nl + 11) + lo ≤ lo0) (hst : st = As.reverse ++ .ref a :: rest) (hW : (rest.map fun v => v.category).sum ≤ 8) (hkn : k ≤ 0 ∧ n ≤ 0) (hdg : decode cc pc = .ok (.invokevirtual idx, 3)) (k1 : J E x k n w1 (pc + 3) lv (.int r :: rest)) : J E x k n w pc lv st := by
  obtain ⟨l, D, cy⟩ := E
  obtain ⟨p, e, R, s, m, args, below, meth, c, A, nL, Q⟩ := x
  obtain ⟨hx, hb, hml, hown, hG, hK, hN, hA, hR, hnl⟩ := X
  intro H locs ls hP hD hS hv
  subst hst
  subst hR
  subst hnl
  have hF : ∀ q, va_A w H.size q → A q := fun q h => by
    rcases h with ⟨j, e9, h⟩ | h
    · exact hD.2 j (q, e9) h
    · exact hA q (Nat.le_trans hS.1 h)
  exact va_calli (va_runVN (As := As) (rest := rest) (b := a) (n := na) (cc := cc) (nL := nL) (Ts := GW) (own := own) (index := idx) (C := y.cls) ⟨hx, hb, hml, hown, hG⟩ (hM H.size) ⟨va_cnB na hG (GW_good h5) rfl rfl rfl (hN _ h1) (hG _ h4) hd ⟨hf.1, hf.2⟩, hG _ h2, hG _ h3⟩ ⟨Pre0_blind, va_recv hK hP hc he, fun U hU hW9 => ⟨rfl, by rw [hU], by rw [hU]; exact hP, va_K.moved hW9.alike hK, NW_warm hW9 hN, hD.weaken (fun _ _ _ _ => trivial)⟩⟩ rfl hna hv.1 rfl (lv_room hW) hdg ⟨Nat.le_trans hkn.1 (Nat.zero_le _), Nat.le_trans hkn.2 (Nat.zero_le _)⟩) hS (fun q _ h => hF q h) hF (fun r2 _ t H1 locs1 ht hvm hw hB hz1 hk1 hS => by
    obtain ⟨hP1, hD1⟩ := hB
    rw [ht] at hP1
    subst hw
    exact k1 H1 locs1 ls hP1 (hD1.weaken (fun _ q _ h9 => hF q.1 h9)) hS hv)
theorem J_callSI {E : Ev} {x : Cx} {cc : ByteArray} {own : String} {f0 lo0 nL0 k n : Nat} {w w1 : va_W} {pc : Nat} {lv : List (Nat × Value)} {st rest : List Value} (X : Ok E x cc own (rmC f0 lo0) nL0) {r : Int32} {y : MethodName} {b : ByteArray} {nl f lo idx : Nat} {rt : FieldType} {As : List Value} (hM : CtI E y b nl rt f lo w As r w1) (h1 : Cond.methodLink own idx y ∈ GW) (h2 : Cond.static y ∈ GW) (h4 : Cond.initialized y.cls ∈ GW) (h5 : Cond.code y b nl (some rt) ∈ GW) {na : Nat} (hna : As.length = na) (hd : y.cls ≠ "java/lang/invoke/MethodHandle" ∧ y.cls ≠ "java/lang/invoke/VarHandle" ∧ (parseMethodDescriptor y.desc).map (fun d => d.parameters.length) = some na) (hf : f + 1 ≤ f0 ∧ 8 + (nl + 11) + lo ≤ lo0) (hst : st = As.reverse ++ rest) (hW : (rest.map fun v => v.category).sum ≤ 8) (hkn : k ≤ 0 ∧ n ≤ 0) (hdg : decode cc pc = .ok (.invokestatic idx, 3)) (k1 : J E x k n w1 (pc + 3) lv (.int r :: rest)) : J E x k n w pc lv st := by
  obtain ⟨l, D, cy⟩ := E
  obtain ⟨p, e, R, s, m, args, below, meth, c, A, nL, Q⟩ := x
  obtain ⟨hx, hb, hml, hown, hG, hK, hN, hA, hR, hnl⟩ := X
  intro H locs ls hP hD hS hv
  subst hst
  subst hR
  subst hnl
  have hF : ∀ q, va_A w H.size q → A q := fun q h => by
    rcases h with ⟨j, e9, h⟩ | h
    · exact hD.2 j (q, e9) h
    · exact hA q (Nat.le_trans hS.1 h)
  exact va_calli (va_runS (As := As) (rest := rest) (n := na) (cc := cc) (nL := nL) (Ts := GW) (own := own) (index := idx) ⟨hx, hb, hml, hown, hG⟩ (hM H.size) ⟨callB_of na hG (GW_good h5) rfl rfl rfl (hG _ h4) (hG _ h1) hd ⟨hf.1, hf.2⟩, hG _ h2⟩ ⟨Pre0_blind, fun U hU hW9 => ⟨rfl, by rw [hU], by rw [hU]; exact hP, va_K.moved hW9.alike hK, NW_warm hW9 hN, hD.weaken (fun _ _ _ _ => trivial)⟩⟩ rfl hna hv.1 rfl (lv_room hW) hdg ⟨Nat.le_trans hkn.1 (Nat.zero_le _), Nat.le_trans hkn.2 (Nat.zero_le _)⟩) hS (fun q _ h => hF q h) hF (fun r2 _ t H1 locs1 ht hvm hw hB hz1 hk1 hS => by
    obtain ⟨hP1, hD1⟩ := hB
    rw [ht] at hP1
    subst hw
    exact k1 H1 locs1 ls hP1 (hD1.weaken (fun _ q _ h9 => hF q.1 h9)) hS hv)
theorem J_callSNI {E : Ev} {x : Cx} {cc : ByteArray} {own : String} {f0 lo0 nL0 k n : Nat} {w w1 : va_W} {pc : Nat} {lv : List (Nat × Value)} {st rest : List Value} (X : Ok E x cc own (rmC f0 lo0) nL0) {r : Int32} {y : MethodName} {b : ByteArray} {nl f lo idx : Nat} {rt : FieldType} {As : List Value} (hM : CtI E y b nl rt f lo w As r w1) {host : String} (h1 : Cond.methodLinkNest own idx y host ∈ NW) (h2 : Cond.static y ∈ GW) (h4 : Cond.initialized y.cls ∈ GW) (h5 : Cond.code y b nl (some rt) ∈ GW) {na : Nat} (hna : As.length = na) (hd : y.cls ≠ "java/lang/invoke/MethodHandle" ∧ y.cls ≠ "java/lang/invoke/VarHandle" ∧ (parseMethodDescriptor y.desc).map (fun d => d.parameters.length) = some na) (hf : f + 1 ≤ f0 ∧ 8 + (nl + 11) + lo ≤ lo0) (hst : st = As.reverse ++ rest) (hW : (rest.map fun v => v.category).sum ≤ 8) (hkn : k ≤ 0 ∧ n ≤ 0) (hdg : decode cc pc = .ok (.invokestatic idx, 3)) (k1 : J E x k n w1 (pc + 3) lv (.int r :: rest)) : J E x k n w pc lv st := by
  obtain ⟨l, D, cy⟩ := E
  obtain ⟨p, e, R, s, m, args, below, meth, c, A, nL, Q⟩ := x
  obtain ⟨hx, hb, hml, hown, hG, hK, hN, hA, hR, hnl⟩ := X
  intro H locs ls hP hD hS hv
  subst hst
  subst hR
  subst hnl
  have hF : ∀ q, va_A w H.size q → A q := fun q h => by
    rcases h with ⟨j, e9, h⟩ | h
    · exact hD.2 j (q, e9) h
    · exact hA q (Nat.le_trans hS.1 h)
  exact va_calli (va_runSN (As := As) (rest := rest) (n := na) (cc := cc) (nL := nL) (Ts := GW) (own := own) (index := idx) ⟨hx, hb, hml, hown, hG⟩ (hM H.size) ⟨va_cnB na hG (GW_good h5) rfl rfl rfl (hN _ h1) (hG _ h4) hd ⟨hf.1, hf.2⟩, hG _ h2, trivial⟩ ⟨Pre0_blind, fun U hU hW9 => ⟨rfl, by rw [hU], by rw [hU]; exact hP, va_K.moved hW9.alike hK, NW_warm hW9 hN, hD.weaken (fun _ _ _ _ => trivial)⟩⟩ rfl hna hv.1 rfl (lv_room hW) hdg ⟨Nat.le_trans hkn.1 (Nat.zero_le _), Nat.le_trans hkn.2 (Nat.zero_le _)⟩) hS (fun q _ h => hF q h) hF (fun r2 _ t H1 locs1 ht hvm hw hB hz1 hk1 hS => by
    obtain ⟨hP1, hD1⟩ := hB
    rw [ht] at hP1
    subst hw
    exact k1 H1 locs1 ls hP1 (hD1.weaken (fun _ q _ h9 => hF q.1 h9)) hS hv)
theorem J_callVL {E : Ev} {x : Cx} {cc : ByteArray} {own : String} {f0 lo0 nL0 k n : Nat} {w w1 : va_W} {pc : Nat} {lv : List (Nat × Value)} {st rest : List Value} (X : Ok E x cc own (rmC f0 lo0) nL0) {T : u_T} {N ci : Nat} {fs : List Value} {a : Nat} {r : Int64} {y : MethodName} {b : ByteArray} {nl f lo idx : Nat} {As : List Value} (hM : CtL E y b nl f lo w (.ref a :: As) r w1) (q0 : Nat) (he : w[q0]? = some (a, .inr (ci, fs))) (hc : vwCl[ci]? = some (y.cls, T, N)) (h1 : Cond.methodLink own idx y ∈ GW) (h2 : Cond.instanceMethod y ∈ GW) (h3 : Cond.selects y.cls y y ∈ GW) (h4 : Cond.initialized y.cls ∈ GW) (h5 : Cond.code y b nl (some .long) ∈ GW) {na : Nat} (hna : As.length = na) (hd : y.cls ≠ "java/lang/invoke/MethodHandle" ∧ y.cls ≠ "java/lang/invoke/VarHandle" ∧ (parseMethodDescriptor y.desc).map (fun d => d.parameters.length) = some na) (hf : f + 1 ≤ f0 ∧ 8 + (nl + 11) + lo ≤ lo0) (hst : st = As.reverse ++ .ref a :: rest) (hW : (rest.map fun v => v.category).sum ≤ 8) (hkn : k ≤ 0 ∧ n ≤ 0) (hdg : decode cc pc = .ok (.invokevirtual idx, 3)) (k1 : J E x k n w1 (pc + 3) lv (.long r :: rest)) : J E x k n w pc lv st := by
  obtain ⟨l, D, cy⟩ := E
  obtain ⟨p, e, R, s, m, args, below, meth, c, A, nL, Q⟩ := x
  obtain ⟨hx, hb, hml, hown, hG, hK, hN, hA, hR, hnl⟩ := X
  intro H locs ls hP hD hS hv
  subst hst
  subst hR
  subst hnl
  have hF : ∀ q, va_A w H.size q → A q := fun q h => by
    rcases h with ⟨j, e9, h⟩ | h
    · exact hD.2 j (q, e9) h
    · exact hA q (Nat.le_trans hS.1 h)
  exact va_calll (va_runV (As := As) (rest := rest) (b := a) (n := na) (cc := cc) (nL := nL) (Ts := GW) (own := own) (index := idx) ⟨hx, hb, hml, hown, hG⟩ (hM H.size) (cwV na hG (GW_goodV h1 h2 h3 h4 h5) rfl rfl rfl ⟨rfl, hd⟩ ⟨hf.1, hf.2⟩) ⟨Pre0_blind, va_recv hK hP hc he, fun U hU hW9 => ⟨rfl, by rw [hU], by rw [hU]; exact hP, va_K.moved hW9.alike hK, NW_warm hW9 hN, hD.weaken (fun _ _ _ _ => trivial)⟩⟩ rfl hna hv.1 rfl (lv_room hW) hdg ⟨Nat.le_trans hkn.1 (Nat.zero_le _), Nat.le_trans hkn.2 (Nat.zero_le _)⟩) hS (fun q _ h => hF q h) hF (fun r2 _ t H1 locs1 ht hvm hw hB hz1 hk1 hS => by
    obtain ⟨hP1, hD1⟩ := hB
    rw [ht] at hP1
    subst hw
    exact k1 H1 locs1 ls hP1 (hD1.weaken (fun _ q _ h9 => hF q.1 h9)) hS hv)
theorem J_callVNL {E : Ev} {x : Cx} {cc : ByteArray} {own : String} {f0 lo0 nL0 k n : Nat} {w w1 : va_W} {pc : Nat} {lv : List (Nat × Value)} {st rest : List Value} (X : Ok E x cc own (rmC f0 lo0) nL0) {T : u_T} {N ci : Nat} {fs : List Value} {a : Nat} {r : Int64} {y : MethodName} {b : ByteArray} {nl f lo idx : Nat} {As : List Value} (hM : CtL E y b nl f lo w (.ref a :: As) r w1) (q0 : Nat) (he : w[q0]? = some (a, .inr (ci, fs))) (hc : vwCl[ci]? = some (y.cls, T, N)) {host : String} (h1 : Cond.methodLinkNest own idx y host ∈ NW) (h2 : Cond.instanceMethod y ∈ GW) (h3 : Cond.selects y.cls y y ∈ GW) (h4 : Cond.initialized y.cls ∈ GW) (h5 : Cond.code y b nl (some .long) ∈ GW) {na : Nat} (hna : As.length = na) (hd : y.cls ≠ "java/lang/invoke/MethodHandle" ∧ y.cls ≠ "java/lang/invoke/VarHandle" ∧ (parseMethodDescriptor y.desc).map (fun d => d.parameters.length) = some na) (hf : f + 1 ≤ f0 ∧ 8 + (nl + 11) + lo ≤ lo0) (hst : st = As.reverse ++ .ref a :: rest) (hW : (rest.map fun v => v.category).sum ≤ 8) (hkn : k ≤ 0 ∧ n ≤ 0) (hdg : decode cc pc = .ok (.invokevirtual idx, 3)) (k1 : J E x k n w1 (pc + 3) lv (.long r :: rest)) : J E x k n w pc lv st := by
  obtain ⟨l, D, cy⟩ := E
  obtain ⟨p, e, R, s, m, args, below, meth, c, A, nL, Q⟩ := x
  obtain ⟨hx, hb, hml, hown, hG, hK, hN, hA, hR, hnl⟩ := X
  intro H locs ls hP hD hS hv
  subst hst
  subst hR
  subst hnl
  have hF : ∀ q, va_A w H.size q → A q := fun q h => by
    rcases h with ⟨j, e9, h⟩ | h
    · exact hD.2 j (q, e9) h
    · exact hA q (Nat.le_trans hS.1 h)
  exact va_calll (va_runVN (As := As) (rest := rest) (b := a) (n := na) (cc := cc) (nL := nL) (Ts := GW) (own := own) (index := idx) (C := y.cls) ⟨hx, hb, hml, hown, hG⟩ (hM H.size) ⟨va_cnB na hG (GW_good h5) rfl rfl rfl (hN _ h1) (hG _ h4) hd ⟨hf.1, hf.2⟩, hG _ h2, hG _ h3⟩ ⟨Pre0_blind, va_recv hK hP hc he, fun U hU hW9 => ⟨rfl, by rw [hU], by rw [hU]; exact hP, va_K.moved hW9.alike hK, NW_warm hW9 hN, hD.weaken (fun _ _ _ _ => trivial)⟩⟩ rfl hna hv.1 rfl (lv_room hW) hdg ⟨Nat.le_trans hkn.1 (Nat.zero_le _), Nat.le_trans hkn.2 (Nat.zero_le _)⟩) hS (fun q _ h => hF q h) hF (fun r2 _ t H1 locs1 ht hvm hw hB hz1 hk1 hS => by
    obtain ⟨hP1, hD1⟩ := hB
    rw [ht] at hP1
    subst hw
    exact k1 H1 locs1 ls hP1 (hD1.weaken (fun _ q _ h9 => hF q.1 h9)) hS hv)
theorem J_callSL {E : Ev} {x : Cx} {cc : ByteArray} {own : String} {f0 lo0 nL0 k n : Nat} {w w1 : va_W} {pc : Nat} {lv : List (Nat × Value)} {st rest : List Value} (X : Ok E x cc own (rmC f0 lo0) nL0) {r : Int64} {y : MethodName} {b : ByteArray} {nl f lo idx : Nat} {As : List Value} (hM : CtL E y b nl f lo w As r w1) (h1 : Cond.methodLink own idx y ∈ GW) (h2 : Cond.static y ∈ GW) (h4 : Cond.initialized y.cls ∈ GW) (h5 : Cond.code y b nl (some .long) ∈ GW) {na : Nat} (hna : As.length = na) (hd : y.cls ≠ "java/lang/invoke/MethodHandle" ∧ y.cls ≠ "java/lang/invoke/VarHandle" ∧ (parseMethodDescriptor y.desc).map (fun d => d.parameters.length) = some na) (hf : f + 1 ≤ f0 ∧ 8 + (nl + 11) + lo ≤ lo0) (hst : st = As.reverse ++ rest) (hW : (rest.map fun v => v.category).sum ≤ 8) (hkn : k ≤ 0 ∧ n ≤ 0) (hdg : decode cc pc = .ok (.invokestatic idx, 3)) (k1 : J E x k n w1 (pc + 3) lv (.long r :: rest)) : J E x k n w pc lv st := by
  obtain ⟨l, D, cy⟩ := E
  obtain ⟨p, e, R, s, m, args, below, meth, c, A, nL, Q⟩ := x
  obtain ⟨hx, hb, hml, hown, hG, hK, hN, hA, hR, hnl⟩ := X
  intro H locs ls hP hD hS hv
  subst hst
  subst hR
  subst hnl
  have hF : ∀ q, va_A w H.size q → A q := fun q h => by
    rcases h with ⟨j, e9, h⟩ | h
    · exact hD.2 j (q, e9) h
    · exact hA q (Nat.le_trans hS.1 h)
  exact va_calll (va_runS (As := As) (rest := rest) (n := na) (cc := cc) (nL := nL) (Ts := GW) (own := own) (index := idx) ⟨hx, hb, hml, hown, hG⟩ (hM H.size) ⟨callB_of na hG (GW_good h5) rfl rfl rfl (hG _ h4) (hG _ h1) hd ⟨hf.1, hf.2⟩, hG _ h2⟩ ⟨Pre0_blind, fun U hU hW9 => ⟨rfl, by rw [hU], by rw [hU]; exact hP, va_K.moved hW9.alike hK, NW_warm hW9 hN, hD.weaken (fun _ _ _ _ => trivial)⟩⟩ rfl hna hv.1 rfl (lv_room hW) hdg ⟨Nat.le_trans hkn.1 (Nat.zero_le _), Nat.le_trans hkn.2 (Nat.zero_le _)⟩) hS (fun q _ h => hF q h) hF (fun r2 _ t H1 locs1 ht hvm hw hB hz1 hk1 hS => by
    obtain ⟨hP1, hD1⟩ := hB
    rw [ht] at hP1
    subst hw
    exact k1 H1 locs1 ls hP1 (hD1.weaken (fun _ q _ h9 => hF q.1 h9)) hS hv)
theorem J_callSNL {E : Ev} {x : Cx} {cc : ByteArray} {own : String} {f0 lo0 nL0 k n : Nat} {w w1 : va_W} {pc : Nat} {lv : List (Nat × Value)} {st rest : List Value} (X : Ok E x cc own (rmC f0 lo0) nL0) {r : Int64} {y : MethodName} {b : ByteArray} {nl f lo idx : Nat} {As : List Value} (hM : CtL E y b nl f lo w As r w1) {host : String} (h1 : Cond.methodLinkNest own idx y host ∈ NW) (h2 : Cond.static y ∈ GW) (h4 : Cond.initialized y.cls ∈ GW) (h5 : Cond.code y b nl (some .long) ∈ GW) {na : Nat} (hna : As.length = na) (hd : y.cls ≠ "java/lang/invoke/MethodHandle" ∧ y.cls ≠ "java/lang/invoke/VarHandle" ∧ (parseMethodDescriptor y.desc).map (fun d => d.parameters.length) = some na) (hf : f + 1 ≤ f0 ∧ 8 + (nl + 11) + lo ≤ lo0) (hst : st = As.reverse ++ rest) (hW : (rest.map fun v => v.category).sum ≤ 8) (hkn : k ≤ 0 ∧ n ≤ 0) (hdg : decode cc pc = .ok (.invokestatic idx, 3)) (k1 : J E x k n w1 (pc + 3) lv (.long r :: rest)) : J E x k n w pc lv st := by
  obtain ⟨l, D, cy⟩ := E
  obtain ⟨p, e, R, s, m, args, below, meth, c, A, nL, Q⟩ := x
  obtain ⟨hx, hb, hml, hown, hG, hK, hN, hA, hR, hnl⟩ := X
  intro H locs ls hP hD hS hv
  subst hst
  subst hR
  subst hnl
  have hF : ∀ q, va_A w H.size q → A q := fun q h => by
    rcases h with ⟨j, e9, h⟩ | h
    · exact hD.2 j (q, e9) h
    · exact hA q (Nat.le_trans hS.1 h)
  exact va_calll (va_runSN (As := As) (rest := rest) (n := na) (cc := cc) (nL := nL) (Ts := GW) (own := own) (index := idx) ⟨hx, hb, hml, hown, hG⟩ (hM H.size) ⟨va_cnB na hG (GW_good h5) rfl rfl rfl (hN _ h1) (hG _ h4) hd ⟨hf.1, hf.2⟩, hG _ h2, trivial⟩ ⟨Pre0_blind, fun U hU hW9 => ⟨rfl, by rw [hU], by rw [hU]; exact hP, va_K.moved hW9.alike hK, NW_warm hW9 hN, hD.weaken (fun _ _ _ _ => trivial)⟩⟩ rfl hna hv.1 rfl (lv_room hW) hdg ⟨Nat.le_trans hkn.1 (Nat.zero_le _), Nat.le_trans hkn.2 (Nat.zero_le _)⟩) hS (fun q _ h => hF q h) hF (fun r2 _ t H1 locs1 ht hvm hw hB hz1 hk1 hS => by
    obtain ⟨hP1, hD1⟩ := hB
    rw [ht] at hP1
    subst hw
    exact k1 H1 locs1 ls hP1 (hD1.weaken (fun _ q _ h9 => hF q.1 h9)) hS hv)
theorem J_callVV {E : Ev} {x : Cx} {cc : ByteArray} {own : String} {f0 lo0 nL0 k n : Nat} {w w1 : va_W} {pc : Nat} {lv : List (Nat × Value)} {st rest : List Value} (X : Ok E x cc own (rmC f0 lo0) nL0) {T : u_T} {N ci : Nat} {fs : List Value} {a : Nat} {y : MethodName} {b : ByteArray} {nl f lo idx : Nat} {As : List Value} (hM : CtV E y b nl f lo w (.ref a :: As) w1) (q0 : Nat) (he : w[q0]? = some (a, .inr (ci, fs))) (hc : vwCl[ci]? = some (y.cls, T, N)) (h1 : Cond.methodLink own idx y ∈ GW) (h2 : Cond.instanceMethod y ∈ GW) (h3 : Cond.selects y.cls y y ∈ GW) (h4 : Cond.initialized y.cls ∈ GW) (h5 : Cond.code y b nl (none) ∈ GW) {na : Nat} (hna : As.length = na) (hd : y.cls ≠ "java/lang/invoke/MethodHandle" ∧ y.cls ≠ "java/lang/invoke/VarHandle" ∧ (parseMethodDescriptor y.desc).map (fun d => d.parameters.length) = some na) (hf : f + 1 ≤ f0 ∧ 8 + (nl + 11) + lo ≤ lo0) (hst : st = As.reverse ++ .ref a :: rest) (hW : (rest.map fun v => v.category).sum ≤ 8) (hkn : k ≤ 0 ∧ n ≤ 0) (hdg : decode cc pc = .ok (.invokevirtual idx, 3)) (k1 : J E x k n w1 (pc + 3) lv (rest)) : J E x k n w pc lv st := by
  obtain ⟨l, D, cy⟩ := E
  obtain ⟨p, e, R, s, m, args, below, meth, c, A, nL, Q⟩ := x
  obtain ⟨hx, hb, hml, hown, hG, hK, hN, hA, hR, hnl⟩ := X
  intro H locs ls hP hD hS hv
  subst hst
  subst hR
  subst hnl
  have hF : ∀ q, va_A w H.size q → A q := fun q h => by
    rcases h with ⟨j, e9, h⟩ | h
    · exact hD.2 j (q, e9) h
    · exact hA q (Nat.le_trans hS.1 h)
  exact va_callv (va_runV (As := As) (rest := rest) (b := a) (n := na) (cc := cc) (nL := nL) (Ts := GW) (own := own) (index := idx) ⟨hx, hb, hml, hown, hG⟩ (hM H.size) (cwV na hG (GW_goodV h1 h2 h3 h4 h5) rfl rfl rfl ⟨rfl, hd⟩ ⟨hf.1, hf.2⟩) ⟨Pre0_blind, va_recv hK hP hc he, fun U hU hW9 => ⟨rfl, by rw [hU], by rw [hU]; exact hP, va_K.moved hW9.alike hK, NW_warm hW9 hN, hD.weaken (fun _ _ _ _ => trivial)⟩⟩ rfl hna hv.1 rfl (lv_room hW) hdg ⟨Nat.le_trans hkn.1 (Nat.zero_le _), Nat.le_trans hkn.2 (Nat.zero_le _)⟩) hS (fun q _ h => hF q h) hF (fun _ t H1 locs1 ht hvm hw hB hz1 hk1 hS => by
    obtain ⟨hP1, hD1⟩ := hB
    rw [ht] at hP1
    exact k1 H1 locs1 ls hP1 (hD1.weaken (fun _ q _ h9 => hF q.1 h9)) hS hv)
theorem J_callVNV {E : Ev} {x : Cx} {cc : ByteArray} {own : String} {f0 lo0 nL0 k n : Nat} {w w1 : va_W} {pc : Nat} {lv : List (Nat × Value)} {st rest : List Value} (X : Ok E x cc own (rmC f0 lo0) nL0) {T : u_T} {N ci : Nat} {fs : List Value} {a : Nat} {y : MethodName} {b : ByteArray} {nl f lo idx : Nat} {As : List Value} (hM : CtV E y b nl f lo w (.ref a :: As) w1) (q0 : Nat) (he : w[q0]? = some (a, .inr (ci, fs))) (hc : vwCl[ci]? = some (y.cls, T, N)) {host : String} (h1 : Cond.methodLinkNest own idx y host ∈ NW) (h2 : Cond.instanceMethod y ∈ GW) (h3 : Cond.selects y.cls y y ∈ GW) (h4 : Cond.initialized y.cls ∈ GW) (h5 : Cond.code y b nl (none) ∈ GW) {na : Nat} (hna : As.length = na) (hd : y.cls ≠ "java/lang/invoke/MethodHandle" ∧ y.cls ≠ "java/lang/invoke/VarHandle" ∧ (parseMethodDescriptor y.desc).map (fun d => d.parameters.length) = some na) (hf : f + 1 ≤ f0 ∧ 8 + (nl + 11) + lo ≤ lo0) (hst : st = As.reverse ++ .ref a :: rest) (hW : (rest.map fun v => v.category).sum ≤ 8) (hkn : k ≤ 0 ∧ n ≤ 0) (hdg : decode cc pc = .ok (.invokevirtual idx, 3)) (k1 : J E x k n w1 (pc + 3) lv (rest)) : J E x k n w pc lv st := by
  obtain ⟨l, D, cy⟩ := E
  obtain ⟨p, e, R, s, m, args, below, meth, c, A, nL, Q⟩ := x
  obtain ⟨hx, hb, hml, hown, hG, hK, hN, hA, hR, hnl⟩ := X
  intro H locs ls hP hD hS hv
  subst hst
  subst hR
  subst hnl
  have hF : ∀ q, va_A w H.size q → A q := fun q h => by
    rcases h with ⟨j, e9, h⟩ | h
    · exact hD.2 j (q, e9) h
    · exact hA q (Nat.le_trans hS.1 h)
  exact va_callv (va_runVN (As := As) (rest := rest) (b := a) (n := na) (cc := cc) (nL := nL) (Ts := GW) (own := own) (index := idx) (C := y.cls) ⟨hx, hb, hml, hown, hG⟩ (hM H.size) ⟨va_cnB na hG (GW_good h5) rfl rfl rfl (hN _ h1) (hG _ h4) hd ⟨hf.1, hf.2⟩, hG _ h2, hG _ h3⟩ ⟨Pre0_blind, va_recv hK hP hc he, fun U hU hW9 => ⟨rfl, by rw [hU], by rw [hU]; exact hP, va_K.moved hW9.alike hK, NW_warm hW9 hN, hD.weaken (fun _ _ _ _ => trivial)⟩⟩ rfl hna hv.1 rfl (lv_room hW) hdg ⟨Nat.le_trans hkn.1 (Nat.zero_le _), Nat.le_trans hkn.2 (Nat.zero_le _)⟩) hS (fun q _ h => hF q h) hF (fun _ t H1 locs1 ht hvm hw hB hz1 hk1 hS => by
    obtain ⟨hP1, hD1⟩ := hB
    rw [ht] at hP1
    exact k1 H1 locs1 ls hP1 (hD1.weaken (fun _ q _ h9 => hF q.1 h9)) hS hv)
theorem J_callSV {E : Ev} {x : Cx} {cc : ByteArray} {own : String} {f0 lo0 nL0 k n : Nat} {w w1 : va_W} {pc : Nat} {lv : List (Nat × Value)} {st rest : List Value} (X : Ok E x cc own (rmC f0 lo0) nL0) {y : MethodName} {b : ByteArray} {nl f lo idx : Nat} {As : List Value} (hM : CtV E y b nl f lo w As w1) (h1 : Cond.methodLink own idx y ∈ GW) (h2 : Cond.static y ∈ GW) (h4 : Cond.initialized y.cls ∈ GW) (h5 : Cond.code y b nl (none) ∈ GW) {na : Nat} (hna : As.length = na) (hd : y.cls ≠ "java/lang/invoke/MethodHandle" ∧ y.cls ≠ "java/lang/invoke/VarHandle" ∧ (parseMethodDescriptor y.desc).map (fun d => d.parameters.length) = some na) (hf : f + 1 ≤ f0 ∧ 8 + (nl + 11) + lo ≤ lo0) (hst : st = As.reverse ++ rest) (hW : (rest.map fun v => v.category).sum ≤ 8) (hkn : k ≤ 0 ∧ n ≤ 0) (hdg : decode cc pc = .ok (.invokestatic idx, 3)) (k1 : J E x k n w1 (pc + 3) lv (rest)) : J E x k n w pc lv st := by
  obtain ⟨l, D, cy⟩ := E
  obtain ⟨p, e, R, s, m, args, below, meth, c, A, nL, Q⟩ := x
  obtain ⟨hx, hb, hml, hown, hG, hK, hN, hA, hR, hnl⟩ := X
  intro H locs ls hP hD hS hv
  subst hst
  subst hR
  subst hnl
  have hF : ∀ q, va_A w H.size q → A q := fun q h => by
    rcases h with ⟨j, e9, h⟩ | h
    · exact hD.2 j (q, e9) h
    · exact hA q (Nat.le_trans hS.1 h)
  exact va_callv (va_runS (As := As) (rest := rest) (n := na) (cc := cc) (nL := nL) (Ts := GW) (own := own) (index := idx) ⟨hx, hb, hml, hown, hG⟩ (hM H.size) ⟨callB_of na hG (GW_good h5) rfl rfl rfl (hG _ h4) (hG _ h1) hd ⟨hf.1, hf.2⟩, hG _ h2⟩ ⟨Pre0_blind, fun U hU hW9 => ⟨rfl, by rw [hU], by rw [hU]; exact hP, va_K.moved hW9.alike hK, NW_warm hW9 hN, hD.weaken (fun _ _ _ _ => trivial)⟩⟩ rfl hna hv.1 rfl (lv_room hW) hdg ⟨Nat.le_trans hkn.1 (Nat.zero_le _), Nat.le_trans hkn.2 (Nat.zero_le _)⟩) hS (fun q _ h => hF q h) hF (fun _ t H1 locs1 ht hvm hw hB hz1 hk1 hS => by
    obtain ⟨hP1, hD1⟩ := hB
    rw [ht] at hP1
    exact k1 H1 locs1 ls hP1 (hD1.weaken (fun _ q _ h9 => hF q.1 h9)) hS hv)
theorem J_callSNV {E : Ev} {x : Cx} {cc : ByteArray} {own : String} {f0 lo0 nL0 k n : Nat} {w w1 : va_W} {pc : Nat} {lv : List (Nat × Value)} {st rest : List Value} (X : Ok E x cc own (rmC f0 lo0) nL0) {y : MethodName} {b : ByteArray} {nl f lo idx : Nat} {As : List Value} (hM : CtV E y b nl f lo w As w1) {host : String} (h1 : Cond.methodLinkNest own idx y host ∈ NW) (h2 : Cond.static y ∈ GW) (h4 : Cond.initialized y.cls ∈ GW) (h5 : Cond.code y b nl (none) ∈ GW) {na : Nat} (hna : As.length = na) (hd : y.cls ≠ "java/lang/invoke/MethodHandle" ∧ y.cls ≠ "java/lang/invoke/VarHandle" ∧ (parseMethodDescriptor y.desc).map (fun d => d.parameters.length) = some na) (hf : f + 1 ≤ f0 ∧ 8 + (nl + 11) + lo ≤ lo0) (hst : st = As.reverse ++ rest) (hW : (rest.map fun v => v.category).sum ≤ 8) (hkn : k ≤ 0 ∧ n ≤ 0) (hdg : decode cc pc = .ok (.invokestatic idx, 3)) (k1 : J E x k n w1 (pc + 3) lv (rest)) : J E x k n w pc lv st := by
  obtain ⟨l, D, cy⟩ := E
  obtain ⟨p, e, R, s, m, args, below, meth, c, A, nL, Q⟩ := x
  obtain ⟨hx, hb, hml, hown, hG, hK, hN, hA, hR, hnl⟩ := X
  intro H locs ls hP hD hS hv
  subst hst
  subst hR
  subst hnl
  have hF : ∀ q, va_A w H.size q → A q := fun q h => by
    rcases h with ⟨j, e9, h⟩ | h
    · exact hD.2 j (q, e9) h
    · exact hA q (Nat.le_trans hS.1 h)
  exact va_callv (va_runSN (As := As) (rest := rest) (n := na) (cc := cc) (nL := nL) (Ts := GW) (own := own) (index := idx) ⟨hx, hb, hml, hown, hG⟩ (hM H.size) ⟨va_cnB na hG (GW_good h5) rfl rfl rfl (hN _ h1) (hG _ h4) hd ⟨hf.1, hf.2⟩, hG _ h2, trivial⟩ ⟨Pre0_blind, fun U hU hW9 => ⟨rfl, by rw [hU], by rw [hU]; exact hP, va_K.moved hW9.alike hK, NW_warm hW9 hN, hD.weaken (fun _ _ _ _ => trivial)⟩⟩ rfl hna hv.1 rfl (lv_room hW) hdg ⟨Nat.le_trans hkn.1 (Nat.zero_le _), Nat.le_trans hkn.2 (Nat.zero_le _)⟩) hS (fun q _ h => hF q h) hF (fun _ t H1 locs1 ht hvm hw hB hz1 hk1 hS => by
    obtain ⟨hP1, hD1⟩ := hB
    rw [ht] at hP1
    exact k1 H1 locs1 ls hP1 (hD1.weaken (fun _ q _ h9 => hF q.1 h9)) hS hv)
end
section
def sW (E : Ev) (ad : Nat → Nat) (S : St) : va_W := [(ad 0, .inr (6, [.ref (ad 1), .ref (ad 2), .ref (ad 3), .ref (ad 4), .ref (ad 5), .ref (ad 6), .int (S.1 0)])), (ad 1, .inr (5, [.ref (ad 7), .ref (ad 8), .ref (ad 9), .int (S.1 1)])), (ad 2, .inr (3, [.ref (ad 10), .ref (ad 11), .ref (ad 12), .ref (ad 13), .int (S.1 2), .int (S.1 3)])), (ad 3, .inr (1, [.ref (ad 14), .int (S.1 4), .int (S.1 5)])), (ad 4, .inr (4, [.int (S.1 6), .int (S.1 7)])), (ad 5, .inr (2, [.int (S.1 8), .int (S.1 9), .int (S.1 10), .int (S.1 11)])), (ad 6, .inr (7, [.int (S.1 12), .int (S.1 13)])), (ad 7, .inl (E.2.2 0, 12, .inl (S.2 0))), (ad 8, .inl (E.2.2 0, 12, .inl (S.2 1))), (ad 9, .inl (E.2.2 0, 12, .inl (S.2 2))), (ad 10, .inl (E.2.2 0, 66, .inl (S.2 3))), (ad 11, .inl (E.2.2 0, 66, .inl (S.2 4))), (ad 12, .inl (E.2.2 0, 66, .inl (S.2 5))), (ad 13, .inl (E.2.2 0, 66, .inl (S.2 6))), (ad 14, .inl (E.2.2 0, 60, .inl (S.2 7)))]
theorem sW_c0 {E : Ev} {ad : Nat → Nat} {S : St} : (sW E ad S)[0]? = some (ad 0, .inr (6, [.ref (ad 1), .ref (ad 2), .ref (ad 3), .ref (ad 4), .ref (ad 5), .ref (ad 6), .int (S.1 0)])) := rfl
theorem sW_p0 {E : Ev} {ad : Nat → Nat} {S S2 : St} {v : Int32} (e : S2 = sF S 0 v) : (sW E ad S).set 0 (ad 0, .inr (6, ([.ref (ad 1), .ref (ad 2), .ref (ad 3), .ref (ad 4), .ref (ad 5), .ref (ad 6), .int (S.1 0)] : List Value).set 6 (.int v))) = sW E ad S2 := by subst e; rfl
theorem sW_c1 {E : Ev} {ad : Nat → Nat} {S : St} : (sW E ad S)[1]? = some (ad 1, .inr (5, [.ref (ad 7), .ref (ad 8), .ref (ad 9), .int (S.1 1)])) := rfl
theorem sW_p1 {E : Ev} {ad : Nat → Nat} {S S2 : St} {v : Int32} (e : S2 = sF S 1 v) : (sW E ad S).set 1 (ad 1, .inr (5, ([.ref (ad 7), .ref (ad 8), .ref (ad 9), .int (S.1 1)] : List Value).set 3 (.int v))) = sW E ad S2 := by subst e; rfl
theorem sW_c2 {E : Ev} {ad : Nat → Nat} {S : St} : (sW E ad S)[2]? = some (ad 2, .inr (3, [.ref (ad 10), .ref (ad 11), .ref (ad 12), .ref (ad 13), .int (S.1 2), .int (S.1 3)])) := rfl
theorem sW_p2 {E : Ev} {ad : Nat → Nat} {S S2 : St} {v : Int32} (e : S2 = sF S 2 v) : (sW E ad S).set 2 (ad 2, .inr (3, ([.ref (ad 10), .ref (ad 11), .ref (ad 12), .ref (ad 13), .int (S.1 2), .int (S.1 3)] : List Value).set 4 (.int v))) = sW E ad S2 := by subst e; rfl
theorem sW_p3 {E : Ev} {ad : Nat → Nat} {S S2 : St} {v : Int32} (e : S2 = sF S 3 v) : (sW E ad S).set 2 (ad 2, .inr (3, ([.ref (ad 10), .ref (ad 11), .ref (ad 12), .ref (ad 13), .int (S.1 2), .int (S.1 3)] : List Value).set 5 (.int v))) = sW E ad S2 := by subst e; rfl
theorem sW_c3 {E : Ev} {ad : Nat → Nat} {S : St} : (sW E ad S)[3]? = some (ad 3, .inr (1, [.ref (ad 14), .int (S.1 4), .int (S.1 5)])) := rfl
theorem sW_p4 {E : Ev} {ad : Nat → Nat} {S S2 : St} {v : Int32} (e : S2 = sF S 4 v) : (sW E ad S).set 3 (ad 3, .inr (1, ([.ref (ad 14), .int (S.1 4), .int (S.1 5)] : List Value).set 1 (.int v))) = sW E ad S2 := by subst e; rfl
theorem sW_p5 {E : Ev} {ad : Nat → Nat} {S S2 : St} {v : Int32} (e : S2 = sF S 5 v) : (sW E ad S).set 3 (ad 3, .inr (1, ([.ref (ad 14), .int (S.1 4), .int (S.1 5)] : List Value).set 2 (.int v))) = sW E ad S2 := by subst e; rfl
theorem sW_c4 {E : Ev} {ad : Nat → Nat} {S : St} : (sW E ad S)[4]? = some (ad 4, .inr (4, [.int (S.1 6), .int (S.1 7)])) := rfl
theorem sW_p6 {E : Ev} {ad : Nat → Nat} {S S2 : St} {v : Int32} (e : S2 = sF S 6 v) : (sW E ad S).set 4 (ad 4, .inr (4, ([.int (S.1 6), .int (S.1 7)] : List Value).set 0 (.int v))) = sW E ad S2 := by subst e; rfl
theorem sW_p7 {E : Ev} {ad : Nat → Nat} {S S2 : St} {v : Int32} (e : S2 = sF S 7 v) : (sW E ad S).set 4 (ad 4, .inr (4, ([.int (S.1 6), .int (S.1 7)] : List Value).set 1 (.int v))) = sW E ad S2 := by subst e; rfl
theorem sW_c5 {E : Ev} {ad : Nat → Nat} {S : St} : (sW E ad S)[5]? = some (ad 5, .inr (2, [.int (S.1 8), .int (S.1 9), .int (S.1 10), .int (S.1 11)])) := rfl
theorem sW_p8 {E : Ev} {ad : Nat → Nat} {S S2 : St} {v : Int32} (e : S2 = sF S 8 v) : (sW E ad S).set 5 (ad 5, .inr (2, ([.int (S.1 8), .int (S.1 9), .int (S.1 10), .int (S.1 11)] : List Value).set 0 (.int v))) = sW E ad S2 := by subst e; rfl
theorem sW_p9 {E : Ev} {ad : Nat → Nat} {S S2 : St} {v : Int32} (e : S2 = sF S 9 v) : (sW E ad S).set 5 (ad 5, .inr (2, ([.int (S.1 8), .int (S.1 9), .int (S.1 10), .int (S.1 11)] : List Value).set 1 (.int v))) = sW E ad S2 := by subst e; rfl
theorem sW_p10 {E : Ev} {ad : Nat → Nat} {S S2 : St} {v : Int32} (e : S2 = sF S 10 v) : (sW E ad S).set 5 (ad 5, .inr (2, ([.int (S.1 8), .int (S.1 9), .int (S.1 10), .int (S.1 11)] : List Value).set 2 (.int v))) = sW E ad S2 := by subst e; rfl
theorem sW_p11 {E : Ev} {ad : Nat → Nat} {S S2 : St} {v : Int32} (e : S2 = sF S 11 v) : (sW E ad S).set 5 (ad 5, .inr (2, ([.int (S.1 8), .int (S.1 9), .int (S.1 10), .int (S.1 11)] : List Value).set 3 (.int v))) = sW E ad S2 := by subst e; rfl
theorem sW_c6 {E : Ev} {ad : Nat → Nat} {S : St} : (sW E ad S)[6]? = some (ad 6, .inr (7, [.int (S.1 12), .int (S.1 13)])) := rfl
theorem sW_p12 {E : Ev} {ad : Nat → Nat} {S S2 : St} {v : Int32} (e : S2 = sF S 12 v) : (sW E ad S).set 6 (ad 6, .inr (7, ([.int (S.1 12), .int (S.1 13)] : List Value).set 0 (.int v))) = sW E ad S2 := by subst e; rfl
theorem sW_p13 {E : Ev} {ad : Nat → Nat} {S S2 : St} {v : Int32} (e : S2 = sF S 13 v) : (sW E ad S).set 6 (ad 6, .inr (7, ([.int (S.1 12), .int (S.1 13)] : List Value).set 1 (.int v))) = sW E ad S2 := by subst e; rfl
theorem sW_c7 {E : Ev} {ad : Nat → Nat} {S : St} : (sW E ad S)[7]? = some (ad 7, .inl (E.2.2 0, 12, .inl (S.2 0))) := rfl
theorem sW_a0 {E : Ev} {ad : Nat → Nat} {S S2 : St} {i : Nat} {v : Int32} (e : S2 = sA S 0 i v) : (sW E ad S).set 7 (ad 7, .inl (E.2.2 0, 12, .inl (upd (S.2 0) i v))) = sW E ad S2 := by subst e; rfl
theorem sW_c8 {E : Ev} {ad : Nat → Nat} {S : St} : (sW E ad S)[8]? = some (ad 8, .inl (E.2.2 0, 12, .inl (S.2 1))) := rfl
theorem sW_a1 {E : Ev} {ad : Nat → Nat} {S S2 : St} {i : Nat} {v : Int32} (e : S2 = sA S 1 i v) : (sW E ad S).set 8 (ad 8, .inl (E.2.2 0, 12, .inl (upd (S.2 1) i v))) = sW E ad S2 := by subst e; rfl
theorem sW_c9 {E : Ev} {ad : Nat → Nat} {S : St} : (sW E ad S)[9]? = some (ad 9, .inl (E.2.2 0, 12, .inl (S.2 2))) := rfl
theorem sW_a2 {E : Ev} {ad : Nat → Nat} {S S2 : St} {i : Nat} {v : Int32} (e : S2 = sA S 2 i v) : (sW E ad S).set 9 (ad 9, .inl (E.2.2 0, 12, .inl (upd (S.2 2) i v))) = sW E ad S2 := by subst e; rfl
theorem sW_c10 {E : Ev} {ad : Nat → Nat} {S : St} : (sW E ad S)[10]? = some (ad 10, .inl (E.2.2 0, 66, .inl (S.2 3))) := rfl
theorem sW_a3 {E : Ev} {ad : Nat → Nat} {S S2 : St} {i : Nat} {v : Int32} (e : S2 = sA S 3 i v) : (sW E ad S).set 10 (ad 10, .inl (E.2.2 0, 66, .inl (upd (S.2 3) i v))) = sW E ad S2 := by subst e; rfl
theorem sW_c11 {E : Ev} {ad : Nat → Nat} {S : St} : (sW E ad S)[11]? = some (ad 11, .inl (E.2.2 0, 66, .inl (S.2 4))) := rfl
theorem sW_a4 {E : Ev} {ad : Nat → Nat} {S S2 : St} {i : Nat} {v : Int32} (e : S2 = sA S 4 i v) : (sW E ad S).set 11 (ad 11, .inl (E.2.2 0, 66, .inl (upd (S.2 4) i v))) = sW E ad S2 := by subst e; rfl
theorem sW_c12 {E : Ev} {ad : Nat → Nat} {S : St} : (sW E ad S)[12]? = some (ad 12, .inl (E.2.2 0, 66, .inl (S.2 5))) := rfl
theorem sW_a5 {E : Ev} {ad : Nat → Nat} {S S2 : St} {i : Nat} {v : Int32} (e : S2 = sA S 5 i v) : (sW E ad S).set 12 (ad 12, .inl (E.2.2 0, 66, .inl (upd (S.2 5) i v))) = sW E ad S2 := by subst e; rfl
theorem sW_c13 {E : Ev} {ad : Nat → Nat} {S : St} : (sW E ad S)[13]? = some (ad 13, .inl (E.2.2 0, 66, .inl (S.2 6))) := rfl
theorem sW_a6 {E : Ev} {ad : Nat → Nat} {S S2 : St} {i : Nat} {v : Int32} (e : S2 = sA S 6 i v) : (sW E ad S).set 13 (ad 13, .inl (E.2.2 0, 66, .inl (upd (S.2 6) i v))) = sW E ad S2 := by subst e; rfl
theorem sW_c14 {E : Ev} {ad : Nat → Nat} {S : St} : (sW E ad S)[14]? = some (ad 14, .inl (E.2.2 0, 60, .inl (S.2 7))) := rfl
theorem sW_a7 {E : Ev} {ad : Nat → Nat} {S S2 : St} {i : Nat} {v : Int32} (e : S2 = sA S 7 i v) : (sW E ad S).set 14 (ad 14, .inl (E.2.2 0, 60, .inl (upd (S.2 7) i v))) = sW E ad S2 := by subst e; rfl
def mW (E : Ev) (ad : Nat → Nat) (S : St) : va_W := [(ad 0, .inr (9, [.int (S.1 0), .int (S.1 1), .ref (ad 1), .ref (ad 2), .ref (ad 3), .ref (ad 4), .ref (ad 5), .ref (ad 6), .ref (ad 7), .ref (ad 8), .ref (ad 9), .ref (ad 10), .ref (ad 11), .ref (ad 12), .ref (ad 13), .ref (ad 14), .ref (ad 15), .ref (ad 16), .ref (ad 17), .int (S.1 2), .ref (ad 18), .ref (ad 19), .ref (ad 20), .ref (ad 21), .ref (ad 22), .int (S.1 3), .int (S.1 4), .int (S.1 5), .int (S.1 6), .int (S.1 7)])), (ad 1, .inl (E.2.2 0, 8, .inl (S.2 0))), (ad 2, .inl (E.2.2 0, 8, .inl (S.2 1))), (ad 3, .inl (E.2.2 0, 96, .inl (S.2 2))), (ad 4, .inl (E.2.2 0, 96, .inl (S.2 3))), (ad 5, .inl (E.2.2 0, 8, .inl (S.2 4))), (ad 6, .inl (E.2.2 0, 480, .inl (S.2 5))), (ad 7, .inl (E.2.2 0, 480, .inl (S.2 6))), (ad 8, .inl (E.2.2 0, 8, .inl (S.2 7))), (ad 9, .inl (E.2.2 0, 8, .inl (S.2 8))), (ad 10, .inl (E.2.2 1, 8, .inl (S.2 9))), (ad 11, .inl (E.2.2 1, 8, .inl (S.2 10))), (ad 12, .inl (E.2.2 1, 8, .inl (S.2 11))), (ad 13, .inl (E.2.2 0, 8, .inl (S.2 12))), (ad 14, .inl (E.2.2 0, 8, .inl (S.2 13))), (ad 15, .inl (E.2.2 0, 12, .inl (S.2 14))), (ad 16, .inl (E.2.2 0, 66, .inl (S.2 15))), (ad 17, .inl (E.2.2 0, 66, .inl (S.2 16))), (ad 18, .inl (E.2.2 0, 8, .inl (S.2 17))), (ad 19, .inl (E.2.2 0, 8, .inl (S.2 18))), (ad 20, .inl (E.2.2 0, 8, .inl (S.2 19))), (ad 21, .inl (E.2.2 0, 8, .inl (S.2 20))), (ad 22, .inl (E.2.2 0, 8, .inl (S.2 21)))]
theorem mW_c0 {E : Ev} {ad : Nat → Nat} {S : St} : (mW E ad S)[0]? = some (ad 0, .inr (9, [.int (S.1 0), .int (S.1 1), .ref (ad 1), .ref (ad 2), .ref (ad 3), .ref (ad 4), .ref (ad 5), .ref (ad 6), .ref (ad 7), .ref (ad 8), .ref (ad 9), .ref (ad 10), .ref (ad 11), .ref (ad 12), .ref (ad 13), .ref (ad 14), .ref (ad 15), .ref (ad 16), .ref (ad 17), .int (S.1 2), .ref (ad 18), .ref (ad 19), .ref (ad 20), .ref (ad 21), .ref (ad 22), .int (S.1 3), .int (S.1 4), .int (S.1 5), .int (S.1 6), .int (S.1 7)])) := rfl
theorem mW_p0 {E : Ev} {ad : Nat → Nat} {S S2 : St} {v : Int32} (e : S2 = sF S 0 v) : (mW E ad S).set 0 (ad 0, .inr (9, ([.int (S.1 0), .int (S.1 1), .ref (ad 1), .ref (ad 2), .ref (ad 3), .ref (ad 4), .ref (ad 5), .ref (ad 6), .ref (ad 7), .ref (ad 8), .ref (ad 9), .ref (ad 10), .ref (ad 11), .ref (ad 12), .ref (ad 13), .ref (ad 14), .ref (ad 15), .ref (ad 16), .ref (ad 17), .int (S.1 2), .ref (ad 18), .ref (ad 19), .ref (ad 20), .ref (ad 21), .ref (ad 22), .int (S.1 3), .int (S.1 4), .int (S.1 5), .int (S.1 6), .int (S.1 7)] : List Value).set 0 (.int v))) = mW E ad S2 := by subst e; rfl
theorem mW_p1 {E : Ev} {ad : Nat → Nat} {S S2 : St} {v : Int32} (e : S2 = sF S 1 v) : (mW E ad S).set 0 (ad 0, .inr (9, ([.int (S.1 0), .int (S.1 1), .ref (ad 1), .ref (ad 2), .ref (ad 3), .ref (ad 4), .ref (ad 5), .ref (ad 6), .ref (ad 7), .ref (ad 8), .ref (ad 9), .ref (ad 10), .ref (ad 11), .ref (ad 12), .ref (ad 13), .ref (ad 14), .ref (ad 15), .ref (ad 16), .ref (ad 17), .int (S.1 2), .ref (ad 18), .ref (ad 19), .ref (ad 20), .ref (ad 21), .ref (ad 22), .int (S.1 3), .int (S.1 4), .int (S.1 5), .int (S.1 6), .int (S.1 7)] : List Value).set 1 (.int v))) = mW E ad S2 := by subst e; rfl
theorem mW_p2 {E : Ev} {ad : Nat → Nat} {S S2 : St} {v : Int32} (e : S2 = sF S 2 v) : (mW E ad S).set 0 (ad 0, .inr (9, ([.int (S.1 0), .int (S.1 1), .ref (ad 1), .ref (ad 2), .ref (ad 3), .ref (ad 4), .ref (ad 5), .ref (ad 6), .ref (ad 7), .ref (ad 8), .ref (ad 9), .ref (ad 10), .ref (ad 11), .ref (ad 12), .ref (ad 13), .ref (ad 14), .ref (ad 15), .ref (ad 16), .ref (ad 17), .int (S.1 2), .ref (ad 18), .ref (ad 19), .ref (ad 20), .ref (ad 21), .ref (ad 22), .int (S.1 3), .int (S.1 4), .int (S.1 5), .int (S.1 6), .int (S.1 7)] : List Value).set 19 (.int v))) = mW E ad S2 := by subst e; rfl
theorem mW_p3 {E : Ev} {ad : Nat → Nat} {S S2 : St} {v : Int32} (e : S2 = sF S 3 v) : (mW E ad S).set 0 (ad 0, .inr (9, ([.int (S.1 0), .int (S.1 1), .ref (ad 1), .ref (ad 2), .ref (ad 3), .ref (ad 4), .ref (ad 5), .ref (ad 6), .ref (ad 7), .ref (ad 8), .ref (ad 9), .ref (ad 10), .ref (ad 11), .ref (ad 12), .ref (ad 13), .ref (ad 14), .ref (ad 15), .ref (ad 16), .ref (ad 17), .int (S.1 2), .ref (ad 18), .ref (ad 19), .ref (ad 20), .ref (ad 21), .ref (ad 22), .int (S.1 3), .int (S.1 4), .int (S.1 5), .int (S.1 6), .int (S.1 7)] : List Value).set 25 (.int v))) = mW E ad S2 := by subst e; rfl
theorem mW_p4 {E : Ev} {ad : Nat → Nat} {S S2 : St} {v : Int32} (e : S2 = sF S 4 v) : (mW E ad S).set 0 (ad 0, .inr (9, ([.int (S.1 0), .int (S.1 1), .ref (ad 1), .ref (ad 2), .ref (ad 3), .ref (ad 4), .ref (ad 5), .ref (ad 6), .ref (ad 7), .ref (ad 8), .ref (ad 9), .ref (ad 10), .ref (ad 11), .ref (ad 12), .ref (ad 13), .ref (ad 14), .ref (ad 15), .ref (ad 16), .ref (ad 17), .int (S.1 2), .ref (ad 18), .ref (ad 19), .ref (ad 20), .ref (ad 21), .ref (ad 22), .int (S.1 3), .int (S.1 4), .int (S.1 5), .int (S.1 6), .int (S.1 7)] : List Value).set 26 (.int v))) = mW E ad S2 := by subst e; rfl
theorem mW_p5 {E : Ev} {ad : Nat → Nat} {S S2 : St} {v : Int32} (e : S2 = sF S 5 v) : (mW E ad S).set 0 (ad 0, .inr (9, ([.int (S.1 0), .int (S.1 1), .ref (ad 1), .ref (ad 2), .ref (ad 3), .ref (ad 4), .ref (ad 5), .ref (ad 6), .ref (ad 7), .ref (ad 8), .ref (ad 9), .ref (ad 10), .ref (ad 11), .ref (ad 12), .ref (ad 13), .ref (ad 14), .ref (ad 15), .ref (ad 16), .ref (ad 17), .int (S.1 2), .ref (ad 18), .ref (ad 19), .ref (ad 20), .ref (ad 21), .ref (ad 22), .int (S.1 3), .int (S.1 4), .int (S.1 5), .int (S.1 6), .int (S.1 7)] : List Value).set 27 (.int v))) = mW E ad S2 := by subst e; rfl
theorem mW_p6 {E : Ev} {ad : Nat → Nat} {S S2 : St} {v : Int32} (e : S2 = sF S 6 v) : (mW E ad S).set 0 (ad 0, .inr (9, ([.int (S.1 0), .int (S.1 1), .ref (ad 1), .ref (ad 2), .ref (ad 3), .ref (ad 4), .ref (ad 5), .ref (ad 6), .ref (ad 7), .ref (ad 8), .ref (ad 9), .ref (ad 10), .ref (ad 11), .ref (ad 12), .ref (ad 13), .ref (ad 14), .ref (ad 15), .ref (ad 16), .ref (ad 17), .int (S.1 2), .ref (ad 18), .ref (ad 19), .ref (ad 20), .ref (ad 21), .ref (ad 22), .int (S.1 3), .int (S.1 4), .int (S.1 5), .int (S.1 6), .int (S.1 7)] : List Value).set 28 (.int v))) = mW E ad S2 := by subst e; rfl
theorem mW_p7 {E : Ev} {ad : Nat → Nat} {S S2 : St} {v : Int32} (e : S2 = sF S 7 v) : (mW E ad S).set 0 (ad 0, .inr (9, ([.int (S.1 0), .int (S.1 1), .ref (ad 1), .ref (ad 2), .ref (ad 3), .ref (ad 4), .ref (ad 5), .ref (ad 6), .ref (ad 7), .ref (ad 8), .ref (ad 9), .ref (ad 10), .ref (ad 11), .ref (ad 12), .ref (ad 13), .ref (ad 14), .ref (ad 15), .ref (ad 16), .ref (ad 17), .int (S.1 2), .ref (ad 18), .ref (ad 19), .ref (ad 20), .ref (ad 21), .ref (ad 22), .int (S.1 3), .int (S.1 4), .int (S.1 5), .int (S.1 6), .int (S.1 7)] : List Value).set 29 (.int v))) = mW E ad S2 := by subst e; rfl
theorem mW_c1 {E : Ev} {ad : Nat → Nat} {S : St} : (mW E ad S)[1]? = some (ad 1, .inl (E.2.2 0, 8, .inl (S.2 0))) := rfl
theorem mW_a0 {E : Ev} {ad : Nat → Nat} {S S2 : St} {i : Nat} {v : Int32} (e : S2 = sA S 0 i v) : (mW E ad S).set 1 (ad 1, .inl (E.2.2 0, 8, .inl (upd (S.2 0) i v))) = mW E ad S2 := by subst e; rfl
theorem mW_c2 {E : Ev} {ad : Nat → Nat} {S : St} : (mW E ad S)[2]? = some (ad 2, .inl (E.2.2 0, 8, .inl (S.2 1))) := rfl
theorem mW_a1 {E : Ev} {ad : Nat → Nat} {S S2 : St} {i : Nat} {v : Int32} (e : S2 = sA S 1 i v) : (mW E ad S).set 2 (ad 2, .inl (E.2.2 0, 8, .inl (upd (S.2 1) i v))) = mW E ad S2 := by subst e; rfl
theorem mW_c3 {E : Ev} {ad : Nat → Nat} {S : St} : (mW E ad S)[3]? = some (ad 3, .inl (E.2.2 0, 96, .inl (S.2 2))) := rfl
theorem mW_a2 {E : Ev} {ad : Nat → Nat} {S S2 : St} {i : Nat} {v : Int32} (e : S2 = sA S 2 i v) : (mW E ad S).set 3 (ad 3, .inl (E.2.2 0, 96, .inl (upd (S.2 2) i v))) = mW E ad S2 := by subst e; rfl
theorem mW_c4 {E : Ev} {ad : Nat → Nat} {S : St} : (mW E ad S)[4]? = some (ad 4, .inl (E.2.2 0, 96, .inl (S.2 3))) := rfl
theorem mW_a3 {E : Ev} {ad : Nat → Nat} {S S2 : St} {i : Nat} {v : Int32} (e : S2 = sA S 3 i v) : (mW E ad S).set 4 (ad 4, .inl (E.2.2 0, 96, .inl (upd (S.2 3) i v))) = mW E ad S2 := by subst e; rfl
theorem mW_c5 {E : Ev} {ad : Nat → Nat} {S : St} : (mW E ad S)[5]? = some (ad 5, .inl (E.2.2 0, 8, .inl (S.2 4))) := rfl
theorem mW_a4 {E : Ev} {ad : Nat → Nat} {S S2 : St} {i : Nat} {v : Int32} (e : S2 = sA S 4 i v) : (mW E ad S).set 5 (ad 5, .inl (E.2.2 0, 8, .inl (upd (S.2 4) i v))) = mW E ad S2 := by subst e; rfl
theorem mW_c6 {E : Ev} {ad : Nat → Nat} {S : St} : (mW E ad S)[6]? = some (ad 6, .inl (E.2.2 0, 480, .inl (S.2 5))) := rfl
theorem mW_a5 {E : Ev} {ad : Nat → Nat} {S S2 : St} {i : Nat} {v : Int32} (e : S2 = sA S 5 i v) : (mW E ad S).set 6 (ad 6, .inl (E.2.2 0, 480, .inl (upd (S.2 5) i v))) = mW E ad S2 := by subst e; rfl
theorem mW_c7 {E : Ev} {ad : Nat → Nat} {S : St} : (mW E ad S)[7]? = some (ad 7, .inl (E.2.2 0, 480, .inl (S.2 6))) := rfl
theorem mW_a6 {E : Ev} {ad : Nat → Nat} {S S2 : St} {i : Nat} {v : Int32} (e : S2 = sA S 6 i v) : (mW E ad S).set 7 (ad 7, .inl (E.2.2 0, 480, .inl (upd (S.2 6) i v))) = mW E ad S2 := by subst e; rfl
theorem mW_c8 {E : Ev} {ad : Nat → Nat} {S : St} : (mW E ad S)[8]? = some (ad 8, .inl (E.2.2 0, 8, .inl (S.2 7))) := rfl
theorem mW_a7 {E : Ev} {ad : Nat → Nat} {S S2 : St} {i : Nat} {v : Int32} (e : S2 = sA S 7 i v) : (mW E ad S).set 8 (ad 8, .inl (E.2.2 0, 8, .inl (upd (S.2 7) i v))) = mW E ad S2 := by subst e; rfl
theorem mW_c9 {E : Ev} {ad : Nat → Nat} {S : St} : (mW E ad S)[9]? = some (ad 9, .inl (E.2.2 0, 8, .inl (S.2 8))) := rfl
theorem mW_a8 {E : Ev} {ad : Nat → Nat} {S S2 : St} {i : Nat} {v : Int32} (e : S2 = sA S 8 i v) : (mW E ad S).set 9 (ad 9, .inl (E.2.2 0, 8, .inl (upd (S.2 8) i v))) = mW E ad S2 := by subst e; rfl
theorem mW_c10 {E : Ev} {ad : Nat → Nat} {S : St} : (mW E ad S)[10]? = some (ad 10, .inl (E.2.2 1, 8, .inl (S.2 9))) := rfl
theorem mW_a9 {E : Ev} {ad : Nat → Nat} {S S2 : St} {i : Nat} {v : Int32} (e : S2 = sA S 9 i v) : (mW E ad S).set 10 (ad 10, .inl (E.2.2 1, 8, .inl (upd (S.2 9) i v))) = mW E ad S2 := by subst e; rfl
theorem mW_c11 {E : Ev} {ad : Nat → Nat} {S : St} : (mW E ad S)[11]? = some (ad 11, .inl (E.2.2 1, 8, .inl (S.2 10))) := rfl
theorem mW_a10 {E : Ev} {ad : Nat → Nat} {S S2 : St} {i : Nat} {v : Int32} (e : S2 = sA S 10 i v) : (mW E ad S).set 11 (ad 11, .inl (E.2.2 1, 8, .inl (upd (S.2 10) i v))) = mW E ad S2 := by subst e; rfl
theorem mW_c12 {E : Ev} {ad : Nat → Nat} {S : St} : (mW E ad S)[12]? = some (ad 12, .inl (E.2.2 1, 8, .inl (S.2 11))) := rfl
theorem mW_a11 {E : Ev} {ad : Nat → Nat} {S S2 : St} {i : Nat} {v : Int32} (e : S2 = sA S 11 i v) : (mW E ad S).set 12 (ad 12, .inl (E.2.2 1, 8, .inl (upd (S.2 11) i v))) = mW E ad S2 := by subst e; rfl
theorem mW_c13 {E : Ev} {ad : Nat → Nat} {S : St} : (mW E ad S)[13]? = some (ad 13, .inl (E.2.2 0, 8, .inl (S.2 12))) := rfl
theorem mW_a12 {E : Ev} {ad : Nat → Nat} {S S2 : St} {i : Nat} {v : Int32} (e : S2 = sA S 12 i v) : (mW E ad S).set 13 (ad 13, .inl (E.2.2 0, 8, .inl (upd (S.2 12) i v))) = mW E ad S2 := by subst e; rfl
theorem mW_c14 {E : Ev} {ad : Nat → Nat} {S : St} : (mW E ad S)[14]? = some (ad 14, .inl (E.2.2 0, 8, .inl (S.2 13))) := rfl
theorem mW_a13 {E : Ev} {ad : Nat → Nat} {S S2 : St} {i : Nat} {v : Int32} (e : S2 = sA S 13 i v) : (mW E ad S).set 14 (ad 14, .inl (E.2.2 0, 8, .inl (upd (S.2 13) i v))) = mW E ad S2 := by subst e; rfl
theorem mW_c15 {E : Ev} {ad : Nat → Nat} {S : St} : (mW E ad S)[15]? = some (ad 15, .inl (E.2.2 0, 12, .inl (S.2 14))) := rfl
theorem mW_a14 {E : Ev} {ad : Nat → Nat} {S S2 : St} {i : Nat} {v : Int32} (e : S2 = sA S 14 i v) : (mW E ad S).set 15 (ad 15, .inl (E.2.2 0, 12, .inl (upd (S.2 14) i v))) = mW E ad S2 := by subst e; rfl
theorem mW_c16 {E : Ev} {ad : Nat → Nat} {S : St} : (mW E ad S)[16]? = some (ad 16, .inl (E.2.2 0, 66, .inl (S.2 15))) := rfl
theorem mW_a15 {E : Ev} {ad : Nat → Nat} {S S2 : St} {i : Nat} {v : Int32} (e : S2 = sA S 15 i v) : (mW E ad S).set 16 (ad 16, .inl (E.2.2 0, 66, .inl (upd (S.2 15) i v))) = mW E ad S2 := by subst e; rfl
theorem mW_c17 {E : Ev} {ad : Nat → Nat} {S : St} : (mW E ad S)[17]? = some (ad 17, .inl (E.2.2 0, 66, .inl (S.2 16))) := rfl
theorem mW_a16 {E : Ev} {ad : Nat → Nat} {S S2 : St} {i : Nat} {v : Int32} (e : S2 = sA S 16 i v) : (mW E ad S).set 17 (ad 17, .inl (E.2.2 0, 66, .inl (upd (S.2 16) i v))) = mW E ad S2 := by subst e; rfl
theorem mW_c18 {E : Ev} {ad : Nat → Nat} {S : St} : (mW E ad S)[18]? = some (ad 18, .inl (E.2.2 0, 8, .inl (S.2 17))) := rfl
theorem mW_a17 {E : Ev} {ad : Nat → Nat} {S S2 : St} {i : Nat} {v : Int32} (e : S2 = sA S 17 i v) : (mW E ad S).set 18 (ad 18, .inl (E.2.2 0, 8, .inl (upd (S.2 17) i v))) = mW E ad S2 := by subst e; rfl
theorem mW_c19 {E : Ev} {ad : Nat → Nat} {S : St} : (mW E ad S)[19]? = some (ad 19, .inl (E.2.2 0, 8, .inl (S.2 18))) := rfl
theorem mW_a18 {E : Ev} {ad : Nat → Nat} {S S2 : St} {i : Nat} {v : Int32} (e : S2 = sA S 18 i v) : (mW E ad S).set 19 (ad 19, .inl (E.2.2 0, 8, .inl (upd (S.2 18) i v))) = mW E ad S2 := by subst e; rfl
theorem mW_c20 {E : Ev} {ad : Nat → Nat} {S : St} : (mW E ad S)[20]? = some (ad 20, .inl (E.2.2 0, 8, .inl (S.2 19))) := rfl
theorem mW_a19 {E : Ev} {ad : Nat → Nat} {S S2 : St} {i : Nat} {v : Int32} (e : S2 = sA S 19 i v) : (mW E ad S).set 20 (ad 20, .inl (E.2.2 0, 8, .inl (upd (S.2 19) i v))) = mW E ad S2 := by subst e; rfl
theorem mW_c21 {E : Ev} {ad : Nat → Nat} {S : St} : (mW E ad S)[21]? = some (ad 21, .inl (E.2.2 0, 8, .inl (S.2 20))) := rfl
theorem mW_a20 {E : Ev} {ad : Nat → Nat} {S S2 : St} {i : Nat} {v : Int32} (e : S2 = sA S 20 i v) : (mW E ad S).set 21 (ad 21, .inl (E.2.2 0, 8, .inl (upd (S.2 20) i v))) = mW E ad S2 := by subst e; rfl
theorem mW_c22 {E : Ev} {ad : Nat → Nat} {S : St} : (mW E ad S)[22]? = some (ad 22, .inl (E.2.2 0, 8, .inl (S.2 21))) := rfl
theorem mW_a21 {E : Ev} {ad : Nat → Nat} {S S2 : St} {i : Nat} {v : Int32} (e : S2 = sA S 21 i v) : (mW E ad S).set 22 (ad 22, .inl (E.2.2 0, 8, .inl (upd (S.2 21) i v))) = mW E ad S2 := by subst e; rfl
end
section
/-! Frames, permutations, making of objects -/
theorem va_D_pw {A : Nat → Prop} {w : va_W} : va_D A w ↔ (w.Pairwise (fun p q => p.1 ≠ q.1) ∧ ∀ q ∈ w, A q.1) := by
  constructor
  · intro h
    refine ⟨List.pairwise_iff_getElem.mpr fun i j hi hj hij he => ?_, fun q hq => ?_⟩
    · have := h.1 i j _ _ (List.getElem?_eq_getElem hi) (List.getElem?_eq_getElem hj) he
      omega
    · obtain ⟨k, hk⟩ := List.getElem?_of_mem hq
      exact h.2 k q hk
  · intro h
    refine ⟨fun i j p q hi hj he => ?_, fun k q hk => h.2 q (List.mem_of_getElem? hk)⟩
    obtain ⟨hi', rfl⟩ := List.getElem?_eq_some_iff.mp hi
    obtain ⟨hj', rfl⟩ := List.getElem?_eq_some_iff.mp hj
    rcases Nat.lt_trichotomy i j with c | c | c
    · exact absurd he (List.pairwise_iff_getElem.mp h.1 i j hi' hj' c)
    · exact c
    · exact absurd he.symm (List.pairwise_iff_getElem.mp h.1 j i hj' hi' c)
theorem va_P_mem {D : va_G} {cl : List vw_C} {w : va_W} {H : Heap} : va_P D cl w H ↔ ∀ q ∈ w, va_at D cl q H := by
  constructor
  · intro h q hq
    obtain ⟨k, hk⟩ := List.getElem?_of_mem hq
    exact h k q hk
  · intro h k q hk
    exact h q (List.mem_of_getElem? hk)
theorem va_P_perm {D : va_G} {cl : List vw_C} {w w1 : va_W} {H : Heap} (hp : w.Perm w1) (h : va_P D cl w H) : va_P D cl w1 H :=
  va_P_mem.mpr fun q hq => va_P_mem.mp h q (hp.mem_iff.mpr hq)
theorem va_D_perm {A : Nat → Prop} {w w1 : va_W} (hp : w.Perm w1) (h : va_D A w) : va_D A w1 := by
  have h1 := va_D_pw.mp h
  exact va_D_pw.mpr ⟨(hp.pairwise_iff (fun {_ _} h => Ne.symm h)).mp h1.1, fun q hq => h1.2 q (hp.mem_iff.mpr hq)⟩
theorem va_frm {A0 : Nat → Prop} {D : va_G} {cl : List vw_C} {w1 rest w2 : va_W} {H H1 : Heap} (hP : va_P D cl (w1 ++ rest) H) (hD : va_D A0 (w1 ++ rest))
    (hF : ∀ q, va_A w1 H.size q → A0 q) (hk : ∀ q : Nat, q < H.size → ¬ va_A w1 H.size q → H1[q]? = H[q]?) (hP1 : va_P D cl w2 H1) (hD1 : va_D (va_A w1 H.size) w2) : va_P D cl (w2 ++ rest) H1 ∧ va_D A0 (w2 ++ rest) := by
  have apart : ∀ q ∈ rest, q.1 < H.size ∧ ¬ va_A w1 H.size q.1 := by
    intro q hq
    obtain ⟨k, hk⟩ := List.getElem?_of_mem hq
    have h2 : (w1 ++ rest)[w1.length + k]? = some q := by rw [List.getElem?_append_right (Nat.le_add_right _ _), Nat.add_sub_cancel_left]; exact hk
    have hl := (hP _ q h2).lt
    refine ⟨hl, fun h => ?_⟩
    rcases h with ⟨k2, e, h⟩ | h
    · have hk2 : k2 < w1.length := (List.getElem?_eq_some_iff.mp h).1
      have h3 : (w1 ++ rest)[k2]? = some (q.1, e) := by rw [List.getElem?_append_left hk2]; exact h
      have := hD.1 _ _ _ _ h2 h3 rfl
      omega
    · omega
  have hPm := va_P_mem.mp hP
  have hDp := va_D_pw.mp hD
  have hD1p := va_D_pw.mp hD1
  rw [List.pairwise_append] at hDp
  refine ⟨va_P_mem.mpr fun q hq => ?_, va_D_pw.mpr ⟨List.pairwise_append.mpr ⟨hD1p.1, hDp.1.2.1, fun x hx y hy he => ?_⟩, fun q hq => ?_⟩⟩
  · rcases List.mem_append.mp hq with h | h
    · exact va_P_mem.mp hP1 q h
    · obtain ⟨g1, g2⟩ := apart q h
      exact (hPm q (List.mem_append_right _ h)).kept (hk q.1 g1 g2)
  · refine (apart y hy).2 ?_
    rw [← he]
    exact hD1p.2 x hx
  · rcases List.mem_append.mp hq with h | h
    · exact hF _ (hD1p.2 q h)
    · exact hDp.2 q (List.mem_append_right _ h)
theorem va_Dl {A0 : Nat → Prop} {w1 rest : va_W} (hD : va_D A0 (w1 ++ rest)) : va_D A0 w1 := by
  have h := va_D_pw.mp hD
  exact va_D_pw.mpr ⟨(List.pairwise_append.mp h.1).1, fun q hq => h.2 q (List.mem_append_left _ hq)⟩
theorem va_Pl {D : va_G} {cl : List vw_C} {w1 rest : va_W} {H : Heap} (hP : va_P D cl (w1 ++ rest) H) : va_P D cl w1 H :=
  va_P_mem.mpr fun q hq => va_P_mem.mp hP q (List.mem_append_left _ hq)
theorem va_Fl {A0 : Nat → Prop} {w1 rest : va_W} {s : State} {H : Heap} {locs : List Loc} (hD : va_D A0 (w1 ++ rest)) (hS : va_S A0 s.heap H locs) (hA : ∀ q, s.heap.size ≤ q → A0 q) : ∀ q, va_A w1 H.size q → A0 q := by
  intro q h
  rcases h with ⟨j, e9, h⟩ | h
  · exact (va_D_pw.mp hD).2 (q, e9) (List.mem_append_left _ (List.mem_of_getElem? h))
  · exact hA q (Nat.le_trans hS.1 h)
section JROWS2
variable {E : Ev} {x : Cx} {cc : ByteArray} {own : String} {rm0 : Room} {nL0 k n : Nat} {w : va_W} {pc : Nat} {lv : List (Nat × Value)} {st : List Value}
theorem J_perm {w1 : va_W} (hp : w.Perm w1) (k1 : J E x k n w1 pc lv st) : J E x k n w pc lv st := by
  obtain ⟨l, D, cy⟩ := E
  obtain ⟨p, e, R, s, m, args, below, meth, c, A, nL, Q⟩ := x
  intro H locs ls hP hD hS hv
  exact k1 H locs ls (va_P_perm hp hP) (va_D_perm hp hD) hS hv
theorem J_subw {w1 : va_W} (is : List Nat) (hn : va_nd is = true) (hs : is.map (fun i => w[i]?) = w1.map some) (k1 : J E x k n w1 pc lv st) : J E x k n w pc lv st := by
  obtain ⟨l, D, cy⟩ := E
  obtain ⟨p, e, R, s, m, args, below, meth, c, A, nL, Q⟩ := x
  intro H locs ls hP hD hS hv
  have hD1 := hD.sub is hn hs
  have hP1 : va_P D vwCl w1 H := by
    intro j q hq
    have h1 : (is.map (fun i => w[i]?))[j]? = some (some q) := by rw [hs, List.getElem?_map, hq]; rfl
    rw [List.getElem?_map] at h1
    cases hi : is[j]? with
    | none => rw [hi] at h1; cases h1
    | some i => rw [hi] at h1; exact hP i q (Option.some.inj h1)
  exact k1 H locs ls hP1 hD1 hS hv
theorem J_widen {k2 n2 : Nat} (h1 : k ≤ k2) (h2 : n ≤ n2) (k1 : J E x k2 n2 w pc lv st) : J E x k n w pc lv st := by
  obtain ⟨l, D, cy⟩ := E
  obtain ⟨p, e, R, s, m, args, below, meth, c, A, nL, Q⟩ := x
  intro H locs ls hP hD hS hv
  exact W.widen h1 h2 (k1 H locs ls hP hD hS hv)
theorem J_new (X : Ok E x cc own rm0 nL0) {C : String} {T : u_T} {N ci idx : Nat} {fs : List Value} (hin : ∀ z ∈ u_ws C T N, z ∈ GW) (ty : Nat → FieldType) (hty : ∀ j, j < N → parseFieldDescriptor (T j).2.2.1 = some (ty j)) (hcl : Cond.classLink own idx C ∈ GW) (hinst : Cond.instantiable C N ∈ GW) (hini : Cond.initialized C ∈ GW) (hc : vwCl[ci]? = some (C, T, N)) (hfs : ∀ j, j < N → defaultValue (ty j) = vp_V fs j) (hcells : k + 1 ≤ rm0.cells) (hslots : n + N ≤ rm0.slots) (hdg : decode cc pc = .ok (.new idx, 3)) (k1 : ∀ q : Nat, J E x (k + 1) (n + N) (w ++ [(q, .inr (ci, fs))]) (pc + 3) lv (.ref q :: st)) : J E x k n w pc lv st := by
  obtain ⟨l, D, cy⟩ := E
  obtain ⟨p, e, R, s, m, args, below, meth, c, A, nL, Q⟩ := x
  obtain ⟨hx, hb, hml, hown, hG, hK, hN, hA, hR, hnl⟩ := X
  intro H locs ls hP hD hS hv
  subst hR
  exact va_new hx hb hG hin ty hty hown (hG _ hcl) (hG _ hinst) (hG _ hini) hK hP hD hS hA hc hfs hcells hslots hdg (fun q H1 hP hD hS => k1 q H1 locs ls hP hD hS hv)
theorem J_newa (X : Ok E x cc own rm0 nL0) {atype : ArrayType} {ty : FieldType} {i : Int32} {N t0 : Nat} {a0 : vp_A} {cA0 : ClassId} (harr : Cond.arrayClass (newarray.typeOf atype) ∈ GW) (hty : newarray.typeOf atype = ty) (ht : (tyL E.2.2)[t0]? = some (cA0, ty)) (hcls : ∀ (U : State) (cA : ClassId), va_RA U cA0 ty → va_RA U cA ty → cA = cA0) (ha : ∀ cA : ClassId, vp_cell cA a0 = arrV cA N (fun _ => defaultValue ty)) (hn0 : ¬ i < 0) (hN0 : i.toNatClampNeg = N) (hbytes : N * componentBytes ty ≤ 536870912) (hcells : k + 1 ≤ rm0.cells) (hslots : n + N ≤ rm0.slots) (hdg : decode cc pc = .ok (.newarray atype, 2)) (k1 : ∀ q : Nat, J E x (k + 1) (n + N) (w ++ [(q, .inl (cA0, a0))]) (pc + 2) lv (.ref q :: st)) : J E x k n w pc lv (.int i :: st) := by
  obtain ⟨l, D, cy⟩ := E
  obtain ⟨p, e, R, s, m, args, below, meth, c, A, nL, Q⟩ := x
  obtain ⟨hx, hb, hml, hown, hG, hK, hN, hA, hR, hnl⟩ := X
  intro H locs ls hP hD hS hv
  subst hR
  refine va_newa hx hb (hG _ harr) hty hK hP hD hS hA ha hn0 hN0 hbytes hcells hslots hdg (fun q cA H1 hK2 hP hD hS => ?_)
  have e1 := (hK2.2 (tyL cy).length (cA, ty) (by rw [List.getElem?_append_right (Nat.le_refl _), Nat.sub_self]; rfl)).2
  have e0 := (hK.2 t0 (cA0, ty) ht).2
  cases hcls s cA e0 e1
  exact k1 q H1 locs ls hP hD hS hv
theorem J_putfF (X : Ok E x cc own rm0 nL0) (hin2 : x.2.2.2.2.2.2.2.1.name = "<init>") {a : Nat} {C : String} {T : u_T} {N ci idx : Nat} {fs : List Value} {v : Value} {ty : FieldType} {w1 : va_W} (q0 : Nat) (he : w[q0]? = some (a, .inr (ci, fs))) (hc : vwCl[ci]? = some (C, T, N)) (hin : ∀ z ∈ u_ws C T N, z ∈ GW) {ty0 : Nat → FieldType} (hty : ∀ i, i < N → parseFieldDescriptor (T i).2.2.1 = some (ty0 i)) (hnm : ∀ i, i < N → ∀ i2, i2 < N → i ≠ i2 → (T i).2.1 ≠ (T i2).2.1) (j : Nat) (hj : j < N) (hw : Cond.fieldLink own idx (T j).1 (T j).2.1 (T j).2.2.1 ∈ GW) (hfin : (T j).2.2.2 = true) (hdecl : (T j).1 = own) (hd : parseFieldDescriptor (T j).2.2.1 = some ty) (hn0 : narrow ty v = v) (hfit : fits ty v = true) (hl : j < fs.length) (hdg : decode cc pc = .ok (.putfield idx, 3)) (e1 : w.set q0 (a, .inr (ci, fs.set j v)) = w1) (k1 : J E x k n w1 (pc + 3) lv st) : J E x k n w pc lv (v :: .ref a :: st) := by
  obtain ⟨l, D, cy⟩ := E
  obtain ⟨p, e, R, s, m, args, below, meth, c, A, nL, Q⟩ := x
  obtain ⟨hx, hb, hml, hown, hG, hK, hN, hA, hR, hnl⟩ := X
  intro H locs ls hP hD hS hv
  subst e1
  exact va_putF hx hb hG hin ty0 hty hnm hown hK hP hD hS q0 he hc j hj (hG _ hw) (fun _ h9 => h9) hfin hin2 hdecl hd hn0 hfit hl hdg (fun H1 locs1 hP hD hS => k1 H1 locs1 ls hP hD hS hv)
theorem J_objInit (X : Ok E x cc own rm0 nL0) {idx a : Nat} (h1 : Cond.methodLink own idx objectInit ∈ GW) (h2 : Cond.instanceMethod objectInit ∈ GW) (h3 : Cond.code objectInit ⟨#[0xb1]⟩ 1 none ∈ GW) (hf : 1 ≤ rm0.frames) (hlo : (st.map fun v => v.category).sum + 12 ≤ rm0.locals) (hdg : decode cc pc = .ok (.invokespecial idx, 3)) (k1 : J E x k n w (pc + 3) lv st) : J E x k n w pc lv (.ref a :: st) := by
  obtain ⟨l, D, cy⟩ := E
  obtain ⟨p, e, R, s, m, args, below, meth, c, A, nL, Q⟩ := x
  obtain ⟨hx, hb, hml, hown, hG, hK, hN, hA, hR, hnl⟩ := X
  intro H locs ls hP hD hS hv
  subst hR
  refine W.objInit hx hb hown (hG _ h1) (hG _ h2) (hG _ h3) rfl (by rw [hml]; exact hv.1) rfl hdg hf (by show 2 * 0 + _ + 12 ≤ _; omega) ?_
  exact k1 H locs ls hP hD hS hv
end JROWS2
def rmA (f lo mc ms : Nat) : Room := { frames := f, cells := mc, slots := ms, locals := lo }
/-- a constructor: its world afterwards is B u, for some u of which 'post' holds -/
def CtC (E : Ev) (y : MethodName) (b : ByteArray) (nl f lo mc ms : Nat) (w : va_W) (av : List Value) {U : Type} (post : U → Prop) (B : U → va_W) : Prop := ∀ sz, Met E.1 y (.code y b nl none :: GW) (rmA f lo mc ms) (Pre0 E sz w av) (va_Qv post (fun u t => End0 E sz w (B u) t) (va_A w sz)) mc ms (va_A w sz)
theorem CtC_of {E : Ev} {y : MethodName} {b : ByteArray} {nl f lo mc ms : Nat} {w : va_W} {av : List Value} {U : Type} {post : U → Prop} {B : U → va_W} (hy : plainFor y = true) (hle : (lg_sl av).length ≤ nl) (hyi : y.name = "<init>") (body : ∀ x : Cx, Ok E x b y.cls (rmA f lo mc ms) nl → x.2.2.2.2.2.2.2.1.name = "<init>" → (∀ u, post u → ∀ pc lv, decode b pc = .ok (.return_, 1) → J E x mc ms (B u) pc lv []) → J E x 0 0 w 0 (lv_args 0 av) []) : CtC E y b nl f lo mc ms w av post B := by
  obtain ⟨l, D, cy⟩ := E
  intro sz
  refine Met_ofW2 (cc := b) (maxL := nl) (ret := none) hy rfl ?_
  intro p e s m args below meth c s₁ B0 hml hv
  obtain ⟨rfl, hsz, hP, hK, hN, hD0⟩ := hv
  have hx := B0.exec
  have hb := B0.bytes
  have hr := B0.returns
  have hts := GW_cons (atoms_spec (ws := .code y b nl none :: GW) B0.pre)
  have hown : s.vm.findClass y.cls = some m.cls := findClass_of_methodNamed B0.named
  have hlocks := B0.notSynchronized
  have hin : meth.name = "<init>" := (name_of_methodNamed B0.named B0.method).1.trans hyi
  subst hsz
  have hD := hD0.self (sz := s.heap.size)
  have hl := lv_entry av (n := nl) hle
  rw [lg_entry_eq]
  have hB := body (p, e, rmA f lo mc ms, s, m, av.toArray, below, meth, c, va_A w s.heap.size, nl, MQ below (va_Qv post (fun u t => End0 (l, D, cy) s.heap.size w (B u) t) (va_A w s.heap.size)) av.toArray s mc ms (va_A w s.heap.size)) ⟨hx, hb, hml, hown, hts, hK, hN, fun q h => Or.inr h, rfl, rfl⟩ hin (fun u hu pc lv hdg H locs ls hP hD hS hv => ?_)
  · exact hB s.heap [] _ hP hD va_S.rf hl
  · exact W.vret hx hb hr (fun t ht hW => ⟨⟨u, rfl, hu, by rw [ht]; exact hP, hD⟩, hS.F ht⟩) hS.2.2 hdg
theorem J_callCI {E : Ev} {x : Cx} {cc : ByteArray} {own : String} {f0 lo0 mc0 ms0 nL0 k n : Nat} {w1 rw : va_W} {pc : Nat} {lv : List (Nat × Value)} {st rest : List Value} (X : Ok E x cc own (rmA f0 lo0 mc0 ms0) nL0) {y : MethodName} {b : ByteArray} {nl f lo mc ms idx a : Nat} {As : List Value} {U : Type} {post : U → Prop} {B : U → va_W} (hM : CtC E y b nl f lo mc ms w1 (.ref a :: As) post B) (h1 : Cond.methodLink own idx y ∈ GW) (h2 : Cond.instanceMethod y ∈ GW) (h4 : Cond.initialized y.cls ∈ GW) (h5 : Cond.code y b nl none ∈ GW) (hy1 : y.name = "<init>") {na : Nat} (hna : As.length = na) (hd : y.cls ≠ "java/lang/invoke/MethodHandle" ∧ y.cls ≠ "java/lang/invoke/VarHandle" ∧ (parseMethodDescriptor y.desc).map (fun d => d.parameters.length) = some na) (hf : f + 1 ≤ f0 ∧ 8 + (nl + 11) + lo ≤ lo0) (hst : st = As.reverse ++ .ref a :: rest) (hW : (rest.map fun v => v.category).sum ≤ 8) (hkn : k + mc ≤ mc0 ∧ n + ms ≤ ms0) (hdg : decode cc pc = .ok (.invokespecial idx, 3)) (k1 : ∀ u, post u → J E x (k + mc) (n + ms) (B u ++ rw) (pc + 3) lv rest) : J E x k n (w1 ++ rw) pc lv st := by
  obtain ⟨l, D, cy⟩ := E
  obtain ⟨p, e, R, s, m, args, below, meth, c, A, nL, Q⟩ := x
  obtain ⟨hx, hb, hml, hown, hG, hK, hN, hA, hR, hnl⟩ := X
  intro H locs ls hP hD hS hv
  subst hst
  subst hR
  subst hnl
  have hF := va_Fl hD hS hA
  refine va_callv (va_runI (As := As) (rest := rest) (b := a) (n := na) (cc := cc) (nL := nL) (Ts := GW) (own := own) (index := idx) ⟨hx, hb, hml, hown, hG⟩ (hM H.size) (cwI na hG (GW_good h5) rfl rfl rfl (hG _ h4) (hG _ h1) (hG _ h2) hy1 hd ⟨hf.1, hf.2⟩) ⟨Pre0_blind, fun U0 hU hW9 => ⟨rfl, by rw [hU], by rw [hU]; exact va_Pl hP, va_K.moved hW9.alike hK, NW_warm hW9 hN, (va_Dl hD).weaken (fun _ _ _ _ => trivial)⟩⟩ rfl hna hv.1 rfl (lv_room hW) hdg ⟨hkn.1, hkn.2⟩) hS (fun q _ h => hF q h) hF (fun u t H1 locs1 ht hvm hw hB hz1 hk1 hS => ?_)
  obtain ⟨hP1, hD1⟩ := hB
  rw [ht] at hP1
  obtain ⟨hP2, hD2⟩ := va_frm hP hD hF hk1 hP1 hD1
  exact k1 u hw H1 locs1 ls hP2 hD2 hS hv
theorem J_callCIN {E : Ev} {x : Cx} {cc : ByteArray} {own : String} {f0 lo0 mc0 ms0 nL0 k n : Nat} {w1 rw : va_W} {pc : Nat} {lv : List (Nat × Value)} {st rest : List Value} (X : Ok E x cc own (rmA f0 lo0 mc0 ms0) nL0) {y : MethodName} {b : ByteArray} {nl f lo mc ms idx a : Nat} {As : List Value} {U : Type} {post : U → Prop} {B : U → va_W} (hM : CtC E y b nl f lo mc ms w1 (.ref a :: As) post B) {host : String} (h1 : Cond.methodLinkNest own idx y host ∈ NW) (h2 : Cond.instanceMethod y ∈ GW) (h4 : Cond.initialized y.cls ∈ GW) (h5 : Cond.code y b nl none ∈ GW) (hy1 : y.name = "<init>") {na : Nat} (hna : As.length = na) (hd : y.cls ≠ "java/lang/invoke/MethodHandle" ∧ y.cls ≠ "java/lang/invoke/VarHandle" ∧ (parseMethodDescriptor y.desc).map (fun d => d.parameters.length) = some na) (hf : f + 1 ≤ f0 ∧ 8 + (nl + 11) + lo ≤ lo0) (hst : st = As.reverse ++ .ref a :: rest) (hW : (rest.map fun v => v.category).sum ≤ 8) (hkn : k + mc ≤ mc0 ∧ n + ms ≤ ms0) (hdg : decode cc pc = .ok (.invokespecial idx, 3)) (k1 : ∀ u, post u → J E x (k + mc) (n + ms) (B u ++ rw) (pc + 3) lv rest) : J E x k n (w1 ++ rw) pc lv st := by
  obtain ⟨l, D, cy⟩ := E
  obtain ⟨p, e, R, s, m, args, below, meth, c, A, nL, Q⟩ := x
  obtain ⟨hx, hb, hml, hown, hG, hK, hN, hA, hR, hnl⟩ := X
  intro H locs ls hP hD hS hv
  subst hst
  subst hR
  subst hnl
  have hF := va_Fl hD hS hA
  refine va_callv (va_runIN (As := As) (rest := rest) (b := a) (n := na) (cc := cc) (nL := nL) (Ts := GW) (own := own) (index := idx) ⟨hx, hb, hml, hown, hG⟩ (hM H.size) ⟨va_cnB na hG (GW_good h5) rfl rfl rfl (hN _ h1) (hG _ h4) hd ⟨hf.1, hf.2⟩, hy1, hG _ h2⟩ ⟨Pre0_blind, fun U0 hU hW9 => ⟨rfl, by rw [hU], by rw [hU]; exact va_Pl hP, va_K.moved hW9.alike hK, NW_warm hW9 hN, (va_Dl hD).weaken (fun _ _ _ _ => trivial)⟩⟩ rfl hna hv.1 rfl (lv_room hW) hdg ⟨hkn.1, hkn.2⟩) hS (fun q _ h => hF q h) hF (fun u t H1 locs1 ht hvm hw hB hz1 hk1 hS => ?_)
  obtain ⟨hP1, hD1⟩ := hB
  rw [ht] at hP1
  obtain ⟨hP2, hD2⟩ := va_frm hP hD hF hk1 hP1 hD1
  exact k1 u hw H1 locs1 ls hP2 hD2 hS hv
end
section
set_option maxRecDepth 100000 in
set_option maxHeartbeats 8000000 in
theorem c_X4_init (E : Ev) (h0 : Nat) : CtC E yX4_init cX4_init 1 1 12 3 36 [(h0, .inr (5, [.null, .null, .null, .int 0]))] [.ref h0] (fun (_ : Nat × Nat × Nat) => True) (fun ((u1, u2, u3) : Nat × Nat × Nat) => [(h0, .inr (5, [.ref u1, .ref u2, .ref u3, .int 0])), (u1, .inl (E.2.2 0, 12, .inl (fun _ => 0))), (u2, .inl (E.2.2 0, 12, .inl (fun _ => 0))), (u3, .inl (E.2.2 0, 12, .inl (fun _ => 0)))]) := by
  refine CtC_of (by decide +kernel) (Nat.le_of_ble_eq_true rfl) rfl (fun x X hin hE => ?_)
  show J E x 0 0 [(h0, .inr (5, [.null, .null, .null, .int 0]))] 0 [(0, .ref h0)] []
  refine J_aload_n X (pc := 0) dX4_init_0 0 rfl ?_
  refine J_objInit X (pc := 1) q_115 q_2 q_3 (by decide +kernel) (by decide +kernel) dX4_init_1 ?_
  refine J_aload_n X (pc := 4) dX4_init_4 0 rfl ?_
  refine J_bipush X (pc := 5) (v := 12) dX4_init_5 (by decide +kernel) ?_
  refine J_newa X (pc := 7) (atype := .int) (ty := .int) (N := 12) (t0 := 0) (a0 := (12, .inl (fun _ => 0))) (cA0 := E.2.2 0) q_4 rfl rfl (fun U cA h0 h1 => Option.some.inj (h1.symm.trans h0)) (fun _ => rfl) (by decide) (by decide) (Nat.le_of_ble_eq_true rfl) (Nat.le_of_ble_eq_true rfl) (Nat.le_of_ble_eq_true rfl) dX4_init_7 (fun q1 => ?_)
  show J E x 1 12 [(h0, .inr (5, [.null, .null, .null, .int 0])), (q1, .inl (E.2.2 0, 12, .inl (fun _ => 0)))] 9 [(0, .ref h0)] [.ref q1, .ref h0]
  refine J_putfF X (pc := 9) hin (ty := tyX4 0) (w1 := [(h0, .inr (5, [.ref q1, .null, .null, .int 0])), (q1, .inl (E.2.2 0, 12, .inl (fun _ => 0)))]) 0 rfl rfl in_X4 tyX4_ok nmX4 0 (by decide) q_60 rfl rfl (by decide +kernel) rfl rfl (Nat.le_of_ble_eq_true rfl) dX4_init_9 rfl ?_
  refine J_aload_n X (pc := 12) dX4_init_12 0 rfl ?_
  refine J_bipush X (pc := 13) (v := 12) dX4_init_13 (by decide +kernel) ?_
  refine J_newa X (pc := 15) (atype := .int) (ty := .int) (N := 12) (t0 := 0) (a0 := (12, .inl (fun _ => 0))) (cA0 := E.2.2 0) q_4 rfl rfl (fun U cA h0 h1 => Option.some.inj (h1.symm.trans h0)) (fun _ => rfl) (by decide) (by decide) (Nat.le_of_ble_eq_true rfl) (Nat.le_of_ble_eq_true rfl) (Nat.le_of_ble_eq_true rfl) dX4_init_15 (fun q2 => ?_)
  show J E x 2 24 [(h0, .inr (5, [.ref q1, .null, .null, .int 0])), (q1, .inl (E.2.2 0, 12, .inl (fun _ => 0))), (q2, .inl (E.2.2 0, 12, .inl (fun _ => 0)))] 17 [(0, .ref h0)] [.ref q2, .ref h0]
  refine J_putfF X (pc := 17) hin (ty := tyX4 1) (w1 := [(h0, .inr (5, [.ref q1, .ref q2, .null, .int 0])), (q1, .inl (E.2.2 0, 12, .inl (fun _ => 0))), (q2, .inl (E.2.2 0, 12, .inl (fun _ => 0)))]) 0 rfl rfl in_X4 tyX4_ok nmX4 1 (by decide) q_116 rfl rfl (by decide +kernel) rfl rfl (Nat.le_of_ble_eq_true rfl) dX4_init_17 rfl ?_
  refine J_aload_n X (pc := 20) dX4_init_20 0 rfl ?_
  refine J_bipush X (pc := 21) (v := 12) dX4_init_21 (by decide +kernel) ?_
  refine J_newa X (pc := 23) (atype := .int) (ty := .int) (N := 12) (t0 := 0) (a0 := (12, .inl (fun _ => 0))) (cA0 := E.2.2 0) q_4 rfl rfl (fun U cA h0 h1 => Option.some.inj (h1.symm.trans h0)) (fun _ => rfl) (by decide) (by decide) (Nat.le_of_ble_eq_true rfl) (Nat.le_of_ble_eq_true rfl) (Nat.le_of_ble_eq_true rfl) dX4_init_23 (fun q3 => ?_)
  show J E x 3 36 [(h0, .inr (5, [.ref q1, .ref q2, .null, .int 0])), (q1, .inl (E.2.2 0, 12, .inl (fun _ => 0))), (q2, .inl (E.2.2 0, 12, .inl (fun _ => 0))), (q3, .inl (E.2.2 0, 12, .inl (fun _ => 0)))] 25 [(0, .ref h0)] [.ref q3, .ref h0]
  refine J_putfF X (pc := 25) hin (ty := tyX4 2) (w1 := [(h0, .inr (5, [.ref q1, .ref q2, .ref q3, .int 0])), (q1, .inl (E.2.2 0, 12, .inl (fun _ => 0))), (q2, .inl (E.2.2 0, 12, .inl (fun _ => 0))), (q3, .inl (E.2.2 0, 12, .inl (fun _ => 0)))]) 0 rfl rfl in_X4 tyX4_ok nmX4 2 (by decide) q_54 rfl rfl (by decide +kernel) rfl rfl (Nat.le_of_ble_eq_true rfl) dX4_init_25 rfl ?_
  exact hE (q1, q2, q3) trivial _ _ dX4_init_28
set_option maxRecDepth 100000 in
set_option maxHeartbeats 8000000 in
theorem c_X2_init (E : Ev) (h0 : Nat) : CtC E yX2_init cX2_init 1 1 12 4 264 [(h0, .inr (3, [.null, .null, .null, .null, .int 0, .int 0]))] [.ref h0] (fun (_ : Nat × Nat × Nat × Nat) => True) (fun ((u1, u2, u3, u4) : Nat × Nat × Nat × Nat) => [(h0, .inr (3, [.ref u1, .ref u2, .ref u3, .ref u4, .int 0, .int 0])), (u1, .inl (E.2.2 0, 66, .inl (fun _ => 0))), (u2, .inl (E.2.2 0, 66, .inl (fun _ => 0))), (u3, .inl (E.2.2 0, 66, .inl (fun _ => 0))), (u4, .inl (E.2.2 0, 66, .inl (fun _ => 0)))]) := by
  refine CtC_of (by decide +kernel) (Nat.le_of_ble_eq_true rfl) rfl (fun x X hin hE => ?_)
  show J E x 0 0 [(h0, .inr (3, [.null, .null, .null, .null, .int 0, .int 0]))] 0 [(0, .ref h0)] []
  refine J_aload_n X (pc := 0) dX2_init_0 0 rfl ?_
  refine J_objInit X (pc := 1) q_45 q_2 q_3 (by decide +kernel) (by decide +kernel) dX2_init_1 ?_
  refine J_aload_n X (pc := 4) dX2_init_4 0 rfl ?_
  refine J_bipush X (pc := 5) (v := 66) dX2_init_5 (by decide +kernel) ?_
  refine J_newa X (pc := 7) (atype := .int) (ty := .int) (N := 66) (t0 := 0) (a0 := (66, .inl (fun _ => 0))) (cA0 := E.2.2 0) q_4 rfl rfl (fun U cA h0 h1 => Option.some.inj (h1.symm.trans h0)) (fun _ => rfl) (by decide) (by decide) (Nat.le_of_ble_eq_true rfl) (Nat.le_of_ble_eq_true rfl) (Nat.le_of_ble_eq_true rfl) dX2_init_7 (fun q1 => ?_)
  show J E x 1 66 [(h0, .inr (3, [.null, .null, .null, .null, .int 0, .int 0])), (q1, .inl (E.2.2 0, 66, .inl (fun _ => 0)))] 9 [(0, .ref h0)] [.ref q1, .ref h0]
  refine J_putfF X (pc := 9) hin (ty := tyX2 0) (w1 := [(h0, .inr (3, [.ref q1, .null, .null, .null, .int 0, .int 0])), (q1, .inl (E.2.2 0, 66, .inl (fun _ => 0)))]) 0 rfl rfl in_X2 tyX2_ok nmX2 0 (by decide) q_46 rfl rfl (by decide +kernel) rfl rfl (Nat.le_of_ble_eq_true rfl) dX2_init_9 rfl ?_
  refine J_aload_n X (pc := 12) dX2_init_12 0 rfl ?_
  refine J_bipush X (pc := 13) (v := 66) dX2_init_13 (by decide +kernel) ?_
  refine J_newa X (pc := 15) (atype := .int) (ty := .int) (N := 66) (t0 := 0) (a0 := (66, .inl (fun _ => 0))) (cA0 := E.2.2 0) q_4 rfl rfl (fun U cA h0 h1 => Option.some.inj (h1.symm.trans h0)) (fun _ => rfl) (by decide) (by decide) (Nat.le_of_ble_eq_true rfl) (Nat.le_of_ble_eq_true rfl) (Nat.le_of_ble_eq_true rfl) dX2_init_15 (fun q2 => ?_)
  show J E x 2 132 [(h0, .inr (3, [.ref q1, .null, .null, .null, .int 0, .int 0])), (q1, .inl (E.2.2 0, 66, .inl (fun _ => 0))), (q2, .inl (E.2.2 0, 66, .inl (fun _ => 0)))] 17 [(0, .ref h0)] [.ref q2, .ref h0]
  refine J_putfF X (pc := 17) hin (ty := tyX2 1) (w1 := [(h0, .inr (3, [.ref q1, .ref q2, .null, .null, .int 0, .int 0])), (q1, .inl (E.2.2 0, 66, .inl (fun _ => 0))), (q2, .inl (E.2.2 0, 66, .inl (fun _ => 0)))]) 0 rfl rfl in_X2 tyX2_ok nmX2 1 (by decide) q_47 rfl rfl (by decide +kernel) rfl rfl (Nat.le_of_ble_eq_true rfl) dX2_init_17 rfl ?_
  refine J_aload_n X (pc := 20) dX2_init_20 0 rfl ?_
  refine J_bipush X (pc := 21) (v := 66) dX2_init_21 (by decide +kernel) ?_
  refine J_newa X (pc := 23) (atype := .int) (ty := .int) (N := 66) (t0 := 0) (a0 := (66, .inl (fun _ => 0))) (cA0 := E.2.2 0) q_4 rfl rfl (fun U cA h0 h1 => Option.some.inj (h1.symm.trans h0)) (fun _ => rfl) (by decide) (by decide) (Nat.le_of_ble_eq_true rfl) (Nat.le_of_ble_eq_true rfl) (Nat.le_of_ble_eq_true rfl) dX2_init_23 (fun q3 => ?_)
  show J E x 3 198 [(h0, .inr (3, [.ref q1, .ref q2, .null, .null, .int 0, .int 0])), (q1, .inl (E.2.2 0, 66, .inl (fun _ => 0))), (q2, .inl (E.2.2 0, 66, .inl (fun _ => 0))), (q3, .inl (E.2.2 0, 66, .inl (fun _ => 0)))] 25 [(0, .ref h0)] [.ref q3, .ref h0]
  refine J_putfF X (pc := 25) hin (ty := tyX2 2) (w1 := [(h0, .inr (3, [.ref q1, .ref q2, .ref q3, .null, .int 0, .int 0])), (q1, .inl (E.2.2 0, 66, .inl (fun _ => 0))), (q2, .inl (E.2.2 0, 66, .inl (fun _ => 0))), (q3, .inl (E.2.2 0, 66, .inl (fun _ => 0)))]) 0 rfl rfl in_X2 tyX2_ok nmX2 2 (by decide) q_48 rfl rfl (by decide +kernel) rfl rfl (Nat.le_of_ble_eq_true rfl) dX2_init_25 rfl ?_
  refine J_aload_n X (pc := 28) dX2_init_28 0 rfl ?_
  refine J_bipush X (pc := 29) (v := 66) dX2_init_29 (by decide +kernel) ?_
  refine J_newa X (pc := 31) (atype := .int) (ty := .int) (N := 66) (t0 := 0) (a0 := (66, .inl (fun _ => 0))) (cA0 := E.2.2 0) q_4 rfl rfl (fun U cA h0 h1 => Option.some.inj (h1.symm.trans h0)) (fun _ => rfl) (by decide) (by decide) (Nat.le_of_ble_eq_true rfl) (Nat.le_of_ble_eq_true rfl) (Nat.le_of_ble_eq_true rfl) dX2_init_31 (fun q4 => ?_)
  show J E x 4 264 [(h0, .inr (3, [.ref q1, .ref q2, .ref q3, .null, .int 0, .int 0])), (q1, .inl (E.2.2 0, 66, .inl (fun _ => 0))), (q2, .inl (E.2.2 0, 66, .inl (fun _ => 0))), (q3, .inl (E.2.2 0, 66, .inl (fun _ => 0))), (q4, .inl (E.2.2 0, 66, .inl (fun _ => 0)))] 33 [(0, .ref h0)] [.ref q4, .ref h0]
  refine J_putfF X (pc := 33) hin (ty := tyX2 3) (w1 := [(h0, .inr (3, [.ref q1, .ref q2, .ref q3, .ref q4, .int 0, .int 0])), (q1, .inl (E.2.2 0, 66, .inl (fun _ => 0))), (q2, .inl (E.2.2 0, 66, .inl (fun _ => 0))), (q3, .inl (E.2.2 0, 66, .inl (fun _ => 0))), (q4, .inl (E.2.2 0, 66, .inl (fun _ => 0)))]) 0 rfl rfl in_X2 tyX2_ok nmX2 3 (by decide) q_49 rfl rfl (by decide +kernel) rfl rfl (Nat.le_of_ble_eq_true rfl) dX2_init_33 rfl ?_
  exact hE (q1, q2, q3, q4) trivial _ _ dX2_init_36
set_option maxRecDepth 100000 in
set_option maxHeartbeats 8000000 in
theorem c_X0_init (E : Ev) (h0 : Nat) : CtC E yX0_init cX0_init 1 1 12 1 60 [(h0, .inr (1, [.null, .int 0, .int 0]))] [.ref h0] (fun (_ : Nat) => True) (fun (u1 : Nat) => [(h0, .inr (1, [.ref u1, .int 0, .int 0])), (u1, .inl (E.2.2 0, 60, .inl (fun _ => 0)))]) := by
  refine CtC_of (by decide +kernel) (Nat.le_of_ble_eq_true rfl) rfl (fun x X hin hE => ?_)
  show J E x 0 0 [(h0, .inr (1, [.null, .int 0, .int 0]))] 0 [(0, .ref h0)] []
  refine J_aload_n X (pc := 0) dX0_init_0 0 rfl ?_
  refine J_objInit X (pc := 1) q_1 q_2 q_3 (by decide +kernel) (by decide +kernel) dX0_init_1 ?_
  refine J_aload_n X (pc := 4) dX0_init_4 0 rfl ?_
  refine J_bipush X (pc := 5) (v := 60) dX0_init_5 (by decide +kernel) ?_
  refine J_newa X (pc := 7) (atype := .int) (ty := .int) (N := 60) (t0 := 0) (a0 := (60, .inl (fun _ => 0))) (cA0 := E.2.2 0) q_4 rfl rfl (fun U cA h0 h1 => Option.some.inj (h1.symm.trans h0)) (fun _ => rfl) (by decide) (by decide) (Nat.le_of_ble_eq_true rfl) (Nat.le_of_ble_eq_true rfl) (Nat.le_of_ble_eq_true rfl) dX0_init_7 (fun q1 => ?_)
  show J E x 1 60 [(h0, .inr (1, [.null, .int 0, .int 0])), (q1, .inl (E.2.2 0, 60, .inl (fun _ => 0)))] 9 [(0, .ref h0)] [.ref q1, .ref h0]
  refine J_putfF X (pc := 9) hin (ty := tyX0 0) (w1 := [(h0, .inr (1, [.ref q1, .int 0, .int 0])), (q1, .inl (E.2.2 0, 60, .inl (fun _ => 0)))]) 0 rfl rfl in_X0 tyX0_ok nmX0 0 (by decide) q_5 rfl rfl (by decide +kernel) rfl rfl (Nat.le_of_ble_eq_true rfl) dX0_init_9 rfl ?_
  exact hE q1 trivial _ _ dX0_init_12
set_option maxRecDepth 100000 in
set_option maxHeartbeats 8000000 in
theorem c_X3_init (E : Ev) (h0 : Nat) : CtC E yX3_init cX3_init 1 1 12 0 0 [(h0, .inr (4, [.int 0, .int 0]))] [.ref h0] (fun (_ : Unit) => True) (fun (_ : Unit) => [(h0, .inr (4, [.int 0, .int 0]))]) := by
  refine CtC_of (by decide +kernel) (Nat.le_of_ble_eq_true rfl) rfl (fun x X hin hE => ?_)
  show J E x 0 0 [(h0, .inr (4, [.int 0, .int 0]))] 0 [(0, .ref h0)] []
  refine J_aload_n X (pc := 0) dX3_init_0 0 rfl ?_
  refine J_objInit X (pc := 1) q_104 q_2 q_3 (by decide +kernel) (by decide +kernel) dX3_init_1 ?_
  exact hE () trivial _ _ dX3_init_4
set_option maxRecDepth 100000 in
set_option maxHeartbeats 8000000 in
theorem c_X1_init (E : Ev) (h0 : Nat) : CtC E yX1_init cX1_init 1 1 12 0 0 [(h0, .inr (2, [.int 0, .int 0, .int 0, .int 0]))] [.ref h0] (fun (_ : Unit) => True) (fun (_ : Unit) => [(h0, .inr (2, [.int 0, .int 0, .int 0, .int 1]))]) := by
  refine CtC_of (by decide +kernel) (Nat.le_of_ble_eq_true rfl) rfl (fun x X hin hE => ?_)
  show J E x 0 0 [(h0, .inr (2, [.int 0, .int 0, .int 0, .int 0]))] 0 [(0, .ref h0)] []
  refine J_aload_n X (pc := 0) dX1_init_0 0 rfl ?_
  refine J_objInit X (pc := 1) q_16 q_2 q_3 (by decide +kernel) (by decide +kernel) dX1_init_1 ?_
  refine J_aload_n X (pc := 4) dX1_init_4 0 rfl ?_
  refine J_iconst X (pc := 5) (v := 1) dX1_init_5 (by decide +kernel) ?_
  refine J_putf X (pc := 6) (ty := tyX1 3) (w1 := [(h0, .inr (2, [.int 0, .int 0, .int 0, .int 1]))]) 0 rfl rfl in_X1 tyX1_ok nmX1 3 (by decide) q_17 rfl (by decide +kernel) rfl rfl (Nat.le_of_ble_eq_true rfl) dX1_init_6 rfl ?_
  exact hE () trivial _ _ dX1_init_9
set_option maxRecDepth 100000 in
set_option maxHeartbeats 8000000 in
theorem c_X6_init (E : Ev) (h0 : Nat) : CtC E yX6_init cX6_init 1 1 12 0 0 [(h0, .inr (7, [.int 0, .int 0]))] [.ref h0] (fun (_ : Unit) => True) (fun (_ : Unit) => [(h0, .inr (7, [.int 0, .int 0]))]) := by
  refine CtC_of (by decide +kernel) (Nat.le_of_ble_eq_true rfl) rfl (fun x X hin hE => ?_)
  show J E x 0 0 [(h0, .inr (7, [.int 0, .int 0]))] 0 [(0, .ref h0)] []
  refine J_aload_n X (pc := 0) dX6_init_0 0 rfl ?_
  refine J_objInit X (pc := 1) q_130 q_2 q_3 (by decide +kernel) (by decide +kernel) dX6_init_1 ?_
  exact hE () trivial _ _ dX6_init_4
def initS (a1 : Int32) : St := (va_up (va_up (fun _ => 0) 11 1) 0 a1, fun _ _ => 0)
set_option maxRecDepth 100000 in
set_option maxHeartbeats 8000000 in
theorem c_X5_init (E : Ev) (h0 : Nat) (a1 : Int32) : CtC E yX5_init cX5_init 2 2 32 14 381 [(h0, .inr (6, [.null, .null, .null, .null, .null, .null, .int 0]))] [.ref h0, .int a1] (fun (u : Nat → Nat) => u 0 = h0) (fun (u : Nat → Nat) => sW E u (initS a1)) := by
  refine CtC_of (by decide +kernel) (Nat.le_of_ble_eq_true rfl) rfl (fun x X hin hE => ?_)
  show J E x 0 0 [(h0, .inr (6, [.null, .null, .null, .null, .null, .null, .int 0]))] 0 [(0, .ref h0), (1, .int a1)] []
  refine J_aload_n X (pc := 0) dX5_init_0 0 rfl ?_
  refine J_objInit X (pc := 1) q_131 q_2 q_3 (by decide +kernel) (by decide +kernel) dX5_init_1 ?_
  refine J_aload_n X (pc := 4) dX5_init_4 0 rfl ?_
  refine J_new X (pc := 5) (ci := 5) (fs := [.null, .null, .null, .int 0]) in_X4 tyX4 tyX4_ok q_132 q_133 q_58 rfl (fun j hj => by rcases (show j = 0 ∨ j = 1 ∨ j = 2 ∨ j = 3 by omega) with rfl | rfl | rfl | rfl <;> rfl) (Nat.le_of_ble_eq_true rfl) (Nat.le_of_ble_eq_true rfl) dX5_init_5 (fun q1 => ?_)
  show J E x 1 4 [(h0, .inr (6, [.null, .null, .null, .null, .null, .null, .int 0])), (q1, .inr (5, [.null, .null, .null, .int 0]))] 8 [(0, .ref h0), (1, .int a1)] [.ref q1, .ref h0]
  refine J_dup X (pc := 8) dX5_init_8 rfl ?_
  refine J_subw (w1 := [(q1, .inr (5, [.null, .null, .null, .int 0])), (h0, .inr (6, [.null, .null, .null, .null, .null, .null, .int 0]))]) [1, 0] rfl rfl ?_
  refine J_callCIN (w1 := [(q1, .inr (5, [.null, .null, .null, .int 0]))]) (rw := [(h0, .inr (6, [.null, .null, .null, .null, .null, .null, .int 0]))]) X (pc := 9) (y := yX4_init) (na := 0) (As := []) (rest := [.ref q1, .ref h0]) (c_X4_init E q1) nq_2 q_153 q_58 q_114 rfl rfl (by decide +kernel) (by decide +kernel) rfl (Nat.le_of_ble_eq_true rfl) ⟨by decide +kernel, by decide +kernel⟩ dX5_init_9 (fun u9 _ => ?_)
  obtain ⟨q2, q3, q4⟩ := u9
  show J E x 4 40 [(q1, .inr (5, [.ref q2, .ref q3, .ref q4, .int 0])), (q2, .inl (E.2.2 0, 12, .inl (fun _ => 0))), (q3, .inl (E.2.2 0, 12, .inl (fun _ => 0))), (q4, .inl (E.2.2 0, 12, .inl (fun _ => 0))), (h0, .inr (6, [.null, .null, .null, .null, .null, .null, .int 0]))] 12 [(0, .ref h0), (1, .int a1)] [.ref q1, .ref h0]
  refine J_putfF X (pc := 12) hin (ty := tyX5 0) (w1 := [(q1, .inr (5, [.ref q2, .ref q3, .ref q4, .int 0])), (q2, .inl (E.2.2 0, 12, .inl (fun _ => 0))), (q3, .inl (E.2.2 0, 12, .inl (fun _ => 0))), (q4, .inl (E.2.2 0, 12, .inl (fun _ => 0))), (h0, .inr (6, [.ref q1, .null, .null, .null, .null, .null, .int 0]))]) 4 rfl rfl in_X5 tyX5_ok nmX5 0 (by decide) q_134 rfl rfl (by decide +kernel) rfl rfl (Nat.le_of_ble_eq_true rfl) dX5_init_12 rfl ?_
  refine J_aload_n X (pc := 15) dX5_init_15 0 rfl ?_
  refine J_new X (pc := 16) (ci := 3) (fs := [.null, .null, .null, .null, .int 0, .int 0]) in_X2 tyX2 tyX2_ok q_135 q_136 q_67 rfl (fun j hj => by rcases (show j = 0 ∨ j = 1 ∨ j = 2 ∨ j = 3 ∨ j = 4 ∨ j = 5 by omega) with rfl | rfl | rfl | rfl | rfl | rfl <;> rfl) (Nat.le_of_ble_eq_true rfl) (Nat.le_of_ble_eq_true rfl) dX5_init_16 (fun q5 => ?_)
  show J E x 5 46 [(q1, .inr (5, [.ref q2, .ref q3, .ref q4, .int 0])), (q2, .inl (E.2.2 0, 12, .inl (fun _ => 0))), (q3, .inl (E.2.2 0, 12, .inl (fun _ => 0))), (q4, .inl (E.2.2 0, 12, .inl (fun _ => 0))), (h0, .inr (6, [.ref q1, .null, .null, .null, .null, .null, .int 0])), (q5, .inr (3, [.null, .null, .null, .null, .int 0, .int 0]))] 19 [(0, .ref h0), (1, .int a1)] [.ref q5, .ref h0]
  refine J_dup X (pc := 19) dX5_init_19 rfl ?_
  refine J_subw (w1 := [(q5, .inr (3, [.null, .null, .null, .null, .int 0, .int 0])), (q1, .inr (5, [.ref q2, .ref q3, .ref q4, .int 0])), (q2, .inl (E.2.2 0, 12, .inl (fun _ => 0))), (q3, .inl (E.2.2 0, 12, .inl (fun _ => 0))), (q4, .inl (E.2.2 0, 12, .inl (fun _ => 0))), (h0, .inr (6, [.ref q1, .null, .null, .null, .null, .null, .int 0]))]) [5, 0, 1, 2, 3, 4] rfl rfl ?_
  refine J_callCIN (w1 := [(q5, .inr (3, [.null, .null, .null, .null, .int 0, .int 0]))]) (rw := [(q1, .inr (5, [.ref q2, .ref q3, .ref q4, .int 0])), (q2, .inl (E.2.2 0, 12, .inl (fun _ => 0))), (q3, .inl (E.2.2 0, 12, .inl (fun _ => 0))), (q4, .inl (E.2.2 0, 12, .inl (fun _ => 0))), (h0, .inr (6, [.ref q1, .null, .null, .null, .null, .null, .int 0]))]) X (pc := 20) (y := yX2_init) (na := 0) (As := []) (rest := [.ref q5, .ref h0]) (c_X2_init E q5) nq_3 q_154 q_67 q_44 rfl rfl (by decide +kernel) (by decide +kernel) rfl (Nat.le_of_ble_eq_true rfl) ⟨by decide +kernel, by decide +kernel⟩ dX5_init_20 (fun u20 _ => ?_)
  obtain ⟨q6, q7, q8, q9⟩ := u20
  show J E x 9 310 [(q5, .inr (3, [.ref q6, .ref q7, .ref q8, .ref q9, .int 0, .int 0])), (q6, .inl (E.2.2 0, 66, .inl (fun _ => 0))), (q7, .inl (E.2.2 0, 66, .inl (fun _ => 0))), (q8, .inl (E.2.2 0, 66, .inl (fun _ => 0))), (q9, .inl (E.2.2 0, 66, .inl (fun _ => 0))), (q1, .inr (5, [.ref q2, .ref q3, .ref q4, .int 0])), (q2, .inl (E.2.2 0, 12, .inl (fun _ => 0))), (q3, .inl (E.2.2 0, 12, .inl (fun _ => 0))), (q4, .inl (E.2.2 0, 12, .inl (fun _ => 0))), (h0, .inr (6, [.ref q1, .null, .null, .null, .null, .null, .int 0]))] 23 [(0, .ref h0), (1, .int a1)] [.ref q5, .ref h0]
  refine J_putfF X (pc := 23) hin (ty := tyX5 1) (w1 := [(q5, .inr (3, [.ref q6, .ref q7, .ref q8, .ref q9, .int 0, .int 0])), (q6, .inl (E.2.2 0, 66, .inl (fun _ => 0))), (q7, .inl (E.2.2 0, 66, .inl (fun _ => 0))), (q8, .inl (E.2.2 0, 66, .inl (fun _ => 0))), (q9, .inl (E.2.2 0, 66, .inl (fun _ => 0))), (q1, .inr (5, [.ref q2, .ref q3, .ref q4, .int 0])), (q2, .inl (E.2.2 0, 12, .inl (fun _ => 0))), (q3, .inl (E.2.2 0, 12, .inl (fun _ => 0))), (q4, .inl (E.2.2 0, 12, .inl (fun _ => 0))), (h0, .inr (6, [.ref q1, .ref q5, .null, .null, .null, .null, .int 0]))]) 9 rfl rfl in_X5 tyX5_ok nmX5 1 (by decide) q_137 rfl rfl (by decide +kernel) rfl rfl (Nat.le_of_ble_eq_true rfl) dX5_init_23 rfl ?_
  refine J_aload_n X (pc := 26) dX5_init_26 0 rfl ?_
  refine J_new X (pc := 27) (ci := 1) (fs := [.null, .int 0, .int 0]) in_X0 tyX0 tyX0_ok q_138 q_139 q_140 rfl (fun j hj => by rcases (show j = 0 ∨ j = 1 ∨ j = 2 by omega) with rfl | rfl | rfl <;> rfl) (Nat.le_of_ble_eq_true rfl) (Nat.le_of_ble_eq_true rfl) dX5_init_27 (fun q10 => ?_)
  show J E x 10 313 [(q5, .inr (3, [.ref q6, .ref q7, .ref q8, .ref q9, .int 0, .int 0])), (q6, .inl (E.2.2 0, 66, .inl (fun _ => 0))), (q7, .inl (E.2.2 0, 66, .inl (fun _ => 0))), (q8, .inl (E.2.2 0, 66, .inl (fun _ => 0))), (q9, .inl (E.2.2 0, 66, .inl (fun _ => 0))), (q1, .inr (5, [.ref q2, .ref q3, .ref q4, .int 0])), (q2, .inl (E.2.2 0, 12, .inl (fun _ => 0))), (q3, .inl (E.2.2 0, 12, .inl (fun _ => 0))), (q4, .inl (E.2.2 0, 12, .inl (fun _ => 0))), (h0, .inr (6, [.ref q1, .ref q5, .null, .null, .null, .null, .int 0])), (q10, .inr (1, [.null, .int 0, .int 0]))] 30 [(0, .ref h0), (1, .int a1)] [.ref q10, .ref h0]
  refine J_dup X (pc := 30) dX5_init_30 rfl ?_
  refine J_subw (w1 := [(q10, .inr (1, [.null, .int 0, .int 0])), (q5, .inr (3, [.ref q6, .ref q7, .ref q8, .ref q9, .int 0, .int 0])), (q6, .inl (E.2.2 0, 66, .inl (fun _ => 0))), (q7, .inl (E.2.2 0, 66, .inl (fun _ => 0))), (q8, .inl (E.2.2 0, 66, .inl (fun _ => 0))), (q9, .inl (E.2.2 0, 66, .inl (fun _ => 0))), (q1, .inr (5, [.ref q2, .ref q3, .ref q4, .int 0])), (q2, .inl (E.2.2 0, 12, .inl (fun _ => 0))), (q3, .inl (E.2.2 0, 12, .inl (fun _ => 0))), (q4, .inl (E.2.2 0, 12, .inl (fun _ => 0))), (h0, .inr (6, [.ref q1, .ref q5, .null, .null, .null, .null, .int 0]))]) [10, 0, 1, 2, 3, 4, 5, 6, 7, 8, 9] rfl rfl ?_
  refine J_callCIN (w1 := [(q10, .inr (1, [.null, .int 0, .int 0]))]) (rw := [(q5, .inr (3, [.ref q6, .ref q7, .ref q8, .ref q9, .int 0, .int 0])), (q6, .inl (E.2.2 0, 66, .inl (fun _ => 0))), (q7, .inl (E.2.2 0, 66, .inl (fun _ => 0))), (q8, .inl (E.2.2 0, 66, .inl (fun _ => 0))), (q9, .inl (E.2.2 0, 66, .inl (fun _ => 0))), (q1, .inr (5, [.ref q2, .ref q3, .ref q4, .int 0])), (q2, .inl (E.2.2 0, 12, .inl (fun _ => 0))), (q3, .inl (E.2.2 0, 12, .inl (fun _ => 0))), (q4, .inl (E.2.2 0, 12, .inl (fun _ => 0))), (h0, .inr (6, [.ref q1, .ref q5, .null, .null, .null, .null, .int 0]))]) X (pc := 31) (y := yX0_init) (na := 0) (As := []) (rest := [.ref q10, .ref h0]) (c_X0_init E q10) nq_4 q_155 q_140 q_0 rfl rfl (by decide +kernel) (by decide +kernel) rfl (Nat.le_of_ble_eq_true rfl) ⟨by decide +kernel, by decide +kernel⟩ dX5_init_31 (fun u31 _ => ?_)
  obtain ⟨q11, rfl⟩ : ∃ z, z = u31 := ⟨_, rfl⟩
  show J E x 11 373 [(q10, .inr (1, [.ref q11, .int 0, .int 0])), (q11, .inl (E.2.2 0, 60, .inl (fun _ => 0))), (q5, .inr (3, [.ref q6, .ref q7, .ref q8, .ref q9, .int 0, .int 0])), (q6, .inl (E.2.2 0, 66, .inl (fun _ => 0))), (q7, .inl (E.2.2 0, 66, .inl (fun _ => 0))), (q8, .inl (E.2.2 0, 66, .inl (fun _ => 0))), (q9, .inl (E.2.2 0, 66, .inl (fun _ => 0))), (q1, .inr (5, [.ref q2, .ref q3, .ref q4, .int 0])), (q2, .inl (E.2.2 0, 12, .inl (fun _ => 0))), (q3, .inl (E.2.2 0, 12, .inl (fun _ => 0))), (q4, .inl (E.2.2 0, 12, .inl (fun _ => 0))), (h0, .inr (6, [.ref q1, .ref q5, .null, .null, .null, .null, .int 0]))] 34 [(0, .ref h0), (1, .int a1)] [.ref q10, .ref h0]
  refine J_putfF X (pc := 34) hin (ty := tyX5 2) (w1 := [(q10, .inr (1, [.ref q11, .int 0, .int 0])), (q11, .inl (E.2.2 0, 60, .inl (fun _ => 0))), (q5, .inr (3, [.ref q6, .ref q7, .ref q8, .ref q9, .int 0, .int 0])), (q6, .inl (E.2.2 0, 66, .inl (fun _ => 0))), (q7, .inl (E.2.2 0, 66, .inl (fun _ => 0))), (q8, .inl (E.2.2 0, 66, .inl (fun _ => 0))), (q9, .inl (E.2.2 0, 66, .inl (fun _ => 0))), (q1, .inr (5, [.ref q2, .ref q3, .ref q4, .int 0])), (q2, .inl (E.2.2 0, 12, .inl (fun _ => 0))), (q3, .inl (E.2.2 0, 12, .inl (fun _ => 0))), (q4, .inl (E.2.2 0, 12, .inl (fun _ => 0))), (h0, .inr (6, [.ref q1, .ref q5, .ref q10, .null, .null, .null, .int 0]))]) 11 rfl rfl in_X5 tyX5_ok nmX5 2 (by decide) q_141 rfl rfl (by decide +kernel) rfl rfl (Nat.le_of_ble_eq_true rfl) dX5_init_34 rfl ?_
  refine J_aload_n X (pc := 37) dX5_init_37 0 rfl ?_
  refine J_new X (pc := 38) (ci := 4) (fs := [.int 0, .int 0]) in_X3 tyX3 tyX3_ok q_142 q_143 q_113 rfl (fun j hj => by rcases (show j = 0 ∨ j = 1 by omega) with rfl | rfl <;> rfl) (Nat.le_of_ble_eq_true rfl) (Nat.le_of_ble_eq_true rfl) dX5_init_38 (fun q12 => ?_)
  show J E x 12 375 [(q10, .inr (1, [.ref q11, .int 0, .int 0])), (q11, .inl (E.2.2 0, 60, .inl (fun _ => 0))), (q5, .inr (3, [.ref q6, .ref q7, .ref q8, .ref q9, .int 0, .int 0])), (q6, .inl (E.2.2 0, 66, .inl (fun _ => 0))), (q7, .inl (E.2.2 0, 66, .inl (fun _ => 0))), (q8, .inl (E.2.2 0, 66, .inl (fun _ => 0))), (q9, .inl (E.2.2 0, 66, .inl (fun _ => 0))), (q1, .inr (5, [.ref q2, .ref q3, .ref q4, .int 0])), (q2, .inl (E.2.2 0, 12, .inl (fun _ => 0))), (q3, .inl (E.2.2 0, 12, .inl (fun _ => 0))), (q4, .inl (E.2.2 0, 12, .inl (fun _ => 0))), (h0, .inr (6, [.ref q1, .ref q5, .ref q10, .null, .null, .null, .int 0])), (q12, .inr (4, [.int 0, .int 0]))] 41 [(0, .ref h0), (1, .int a1)] [.ref q12, .ref h0]
  refine J_dup X (pc := 41) dX5_init_41 rfl ?_
  refine J_subw (w1 := [(q12, .inr (4, [.int 0, .int 0])), (q10, .inr (1, [.ref q11, .int 0, .int 0])), (q11, .inl (E.2.2 0, 60, .inl (fun _ => 0))), (q5, .inr (3, [.ref q6, .ref q7, .ref q8, .ref q9, .int 0, .int 0])), (q6, .inl (E.2.2 0, 66, .inl (fun _ => 0))), (q7, .inl (E.2.2 0, 66, .inl (fun _ => 0))), (q8, .inl (E.2.2 0, 66, .inl (fun _ => 0))), (q9, .inl (E.2.2 0, 66, .inl (fun _ => 0))), (q1, .inr (5, [.ref q2, .ref q3, .ref q4, .int 0])), (q2, .inl (E.2.2 0, 12, .inl (fun _ => 0))), (q3, .inl (E.2.2 0, 12, .inl (fun _ => 0))), (q4, .inl (E.2.2 0, 12, .inl (fun _ => 0))), (h0, .inr (6, [.ref q1, .ref q5, .ref q10, .null, .null, .null, .int 0]))]) [12, 0, 1, 2, 3, 4, 5, 6, 7, 8, 9, 10, 11] rfl rfl ?_
  refine J_callCIN (w1 := [(q12, .inr (4, [.int 0, .int 0]))]) (rw := [(q10, .inr (1, [.ref q11, .int 0, .int 0])), (q11, .inl (E.2.2 0, 60, .inl (fun _ => 0))), (q5, .inr (3, [.ref q6, .ref q7, .ref q8, .ref q9, .int 0, .int 0])), (q6, .inl (E.2.2 0, 66, .inl (fun _ => 0))), (q7, .inl (E.2.2 0, 66, .inl (fun _ => 0))), (q8, .inl (E.2.2 0, 66, .inl (fun _ => 0))), (q9, .inl (E.2.2 0, 66, .inl (fun _ => 0))), (q1, .inr (5, [.ref q2, .ref q3, .ref q4, .int 0])), (q2, .inl (E.2.2 0, 12, .inl (fun _ => 0))), (q3, .inl (E.2.2 0, 12, .inl (fun _ => 0))), (q4, .inl (E.2.2 0, 12, .inl (fun _ => 0))), (h0, .inr (6, [.ref q1, .ref q5, .ref q10, .null, .null, .null, .int 0]))]) X (pc := 42) (y := yX3_init) (na := 0) (As := []) (rest := [.ref q12, .ref h0]) (c_X3_init E q12) nq_5 q_156 q_113 q_103 rfl rfl (by decide +kernel) (by decide +kernel) rfl (Nat.le_of_ble_eq_true rfl) ⟨by decide +kernel, by decide +kernel⟩ dX5_init_42 (fun u42 _ => ?_)
  show J E x 12 375 [(q12, .inr (4, [.int 0, .int 0])), (q10, .inr (1, [.ref q11, .int 0, .int 0])), (q11, .inl (E.2.2 0, 60, .inl (fun _ => 0))), (q5, .inr (3, [.ref q6, .ref q7, .ref q8, .ref q9, .int 0, .int 0])), (q6, .inl (E.2.2 0, 66, .inl (fun _ => 0))), (q7, .inl (E.2.2 0, 66, .inl (fun _ => 0))), (q8, .inl (E.2.2 0, 66, .inl (fun _ => 0))), (q9, .inl (E.2.2 0, 66, .inl (fun _ => 0))), (q1, .inr (5, [.ref q2, .ref q3, .ref q4, .int 0])), (q2, .inl (E.2.2 0, 12, .inl (fun _ => 0))), (q3, .inl (E.2.2 0, 12, .inl (fun _ => 0))), (q4, .inl (E.2.2 0, 12, .inl (fun _ => 0))), (h0, .inr (6, [.ref q1, .ref q5, .ref q10, .null, .null, .null, .int 0]))] 45 [(0, .ref h0), (1, .int a1)] [.ref q12, .ref h0]
  refine J_putfF X (pc := 45) hin (ty := tyX5 3) (w1 := [(q12, .inr (4, [.int 0, .int 0])), (q10, .inr (1, [.ref q11, .int 0, .int 0])), (q11, .inl (E.2.2 0, 60, .inl (fun _ => 0))), (q5, .inr (3, [.ref q6, .ref q7, .ref q8, .ref q9, .int 0, .int 0])), (q6, .inl (E.2.2 0, 66, .inl (fun _ => 0))), (q7, .inl (E.2.2 0, 66, .inl (fun _ => 0))), (q8, .inl (E.2.2 0, 66, .inl (fun _ => 0))), (q9, .inl (E.2.2 0, 66, .inl (fun _ => 0))), (q1, .inr (5, [.ref q2, .ref q3, .ref q4, .int 0])), (q2, .inl (E.2.2 0, 12, .inl (fun _ => 0))), (q3, .inl (E.2.2 0, 12, .inl (fun _ => 0))), (q4, .inl (E.2.2 0, 12, .inl (fun _ => 0))), (h0, .inr (6, [.ref q1, .ref q5, .ref q10, .ref q12, .null, .null, .int 0]))]) 12 rfl rfl in_X5 tyX5_ok nmX5 3 (by decide) q_144 rfl rfl (by decide +kernel) rfl rfl (Nat.le_of_ble_eq_true rfl) dX5_init_45 rfl ?_
  refine J_aload_n X (pc := 48) dX5_init_48 0 rfl ?_
  refine J_new X (pc := 49) (ci := 2) (fs := [.int 0, .int 0, .int 0, .int 0]) in_X1 tyX1 tyX1_ok q_145 q_146 q_42 rfl (fun j hj => by rcases (show j = 0 ∨ j = 1 ∨ j = 2 ∨ j = 3 by omega) with rfl | rfl | rfl | rfl <;> rfl) (Nat.le_of_ble_eq_true rfl) (Nat.le_of_ble_eq_true rfl) dX5_init_49 (fun q13 => ?_)
  show J E x 13 379 [(q12, .inr (4, [.int 0, .int 0])), (q10, .inr (1, [.ref q11, .int 0, .int 0])), (q11, .inl (E.2.2 0, 60, .inl (fun _ => 0))), (q5, .inr (3, [.ref q6, .ref q7, .ref q8, .ref q9, .int 0, .int 0])), (q6, .inl (E.2.2 0, 66, .inl (fun _ => 0))), (q7, .inl (E.2.2 0, 66, .inl (fun _ => 0))), (q8, .inl (E.2.2 0, 66, .inl (fun _ => 0))), (q9, .inl (E.2.2 0, 66, .inl (fun _ => 0))), (q1, .inr (5, [.ref q2, .ref q3, .ref q4, .int 0])), (q2, .inl (E.2.2 0, 12, .inl (fun _ => 0))), (q3, .inl (E.2.2 0, 12, .inl (fun _ => 0))), (q4, .inl (E.2.2 0, 12, .inl (fun _ => 0))), (h0, .inr (6, [.ref q1, .ref q5, .ref q10, .ref q12, .null, .null, .int 0])), (q13, .inr (2, [.int 0, .int 0, .int 0, .int 0]))] 52 [(0, .ref h0), (1, .int a1)] [.ref q13, .ref h0]
  refine J_dup X (pc := 52) dX5_init_52 rfl ?_
  refine J_subw (w1 := [(q13, .inr (2, [.int 0, .int 0, .int 0, .int 0])), (q12, .inr (4, [.int 0, .int 0])), (q10, .inr (1, [.ref q11, .int 0, .int 0])), (q11, .inl (E.2.2 0, 60, .inl (fun _ => 0))), (q5, .inr (3, [.ref q6, .ref q7, .ref q8, .ref q9, .int 0, .int 0])), (q6, .inl (E.2.2 0, 66, .inl (fun _ => 0))), (q7, .inl (E.2.2 0, 66, .inl (fun _ => 0))), (q8, .inl (E.2.2 0, 66, .inl (fun _ => 0))), (q9, .inl (E.2.2 0, 66, .inl (fun _ => 0))), (q1, .inr (5, [.ref q2, .ref q3, .ref q4, .int 0])), (q2, .inl (E.2.2 0, 12, .inl (fun _ => 0))), (q3, .inl (E.2.2 0, 12, .inl (fun _ => 0))), (q4, .inl (E.2.2 0, 12, .inl (fun _ => 0))), (h0, .inr (6, [.ref q1, .ref q5, .ref q10, .ref q12, .null, .null, .int 0]))]) [13, 0, 1, 2, 3, 4, 5, 6, 7, 8, 9, 10, 11, 12] rfl rfl ?_
  refine J_callCIN (w1 := [(q13, .inr (2, [.int 0, .int 0, .int 0, .int 0]))]) (rw := [(q12, .inr (4, [.int 0, .int 0])), (q10, .inr (1, [.ref q11, .int 0, .int 0])), (q11, .inl (E.2.2 0, 60, .inl (fun _ => 0))), (q5, .inr (3, [.ref q6, .ref q7, .ref q8, .ref q9, .int 0, .int 0])), (q6, .inl (E.2.2 0, 66, .inl (fun _ => 0))), (q7, .inl (E.2.2 0, 66, .inl (fun _ => 0))), (q8, .inl (E.2.2 0, 66, .inl (fun _ => 0))), (q9, .inl (E.2.2 0, 66, .inl (fun _ => 0))), (q1, .inr (5, [.ref q2, .ref q3, .ref q4, .int 0])), (q2, .inl (E.2.2 0, 12, .inl (fun _ => 0))), (q3, .inl (E.2.2 0, 12, .inl (fun _ => 0))), (q4, .inl (E.2.2 0, 12, .inl (fun _ => 0))), (h0, .inr (6, [.ref q1, .ref q5, .ref q10, .ref q12, .null, .null, .int 0]))]) X (pc := 53) (y := yX1_init) (na := 0) (As := []) (rest := [.ref q13, .ref h0]) (c_X1_init E q13) nq_6 q_157 q_42 q_15 rfl rfl (by decide +kernel) (by decide +kernel) rfl (Nat.le_of_ble_eq_true rfl) ⟨by decide +kernel, by decide +kernel⟩ dX5_init_53 (fun u53 _ => ?_)
  show J E x 13 379 [(q13, .inr (2, [.int 0, .int 0, .int 0, .int 1])), (q12, .inr (4, [.int 0, .int 0])), (q10, .inr (1, [.ref q11, .int 0, .int 0])), (q11, .inl (E.2.2 0, 60, .inl (fun _ => 0))), (q5, .inr (3, [.ref q6, .ref q7, .ref q8, .ref q9, .int 0, .int 0])), (q6, .inl (E.2.2 0, 66, .inl (fun _ => 0))), (q7, .inl (E.2.2 0, 66, .inl (fun _ => 0))), (q8, .inl (E.2.2 0, 66, .inl (fun _ => 0))), (q9, .inl (E.2.2 0, 66, .inl (fun _ => 0))), (q1, .inr (5, [.ref q2, .ref q3, .ref q4, .int 0])), (q2, .inl (E.2.2 0, 12, .inl (fun _ => 0))), (q3, .inl (E.2.2 0, 12, .inl (fun _ => 0))), (q4, .inl (E.2.2 0, 12, .inl (fun _ => 0))), (h0, .inr (6, [.ref q1, .ref q5, .ref q10, .ref q12, .null, .null, .int 0]))] 56 [(0, .ref h0), (1, .int a1)] [.ref q13, .ref h0]
  refine J_putfF X (pc := 56) hin (ty := tyX5 4) (w1 := [(q13, .inr (2, [.int 0, .int 0, .int 0, .int 1])), (q12, .inr (4, [.int 0, .int 0])), (q10, .inr (1, [.ref q11, .int 0, .int 0])), (q11, .inl (E.2.2 0, 60, .inl (fun _ => 0))), (q5, .inr (3, [.ref q6, .ref q7, .ref q8, .ref q9, .int 0, .int 0])), (q6, .inl (E.2.2 0, 66, .inl (fun _ => 0))), (q7, .inl (E.2.2 0, 66, .inl (fun _ => 0))), (q8, .inl (E.2.2 0, 66, .inl (fun _ => 0))), (q9, .inl (E.2.2 0, 66, .inl (fun _ => 0))), (q1, .inr (5, [.ref q2, .ref q3, .ref q4, .int 0])), (q2, .inl (E.2.2 0, 12, .inl (fun _ => 0))), (q3, .inl (E.2.2 0, 12, .inl (fun _ => 0))), (q4, .inl (E.2.2 0, 12, .inl (fun _ => 0))), (h0, .inr (6, [.ref q1, .ref q5, .ref q10, .ref q12, .ref q13, .null, .int 0]))]) 13 rfl rfl in_X5 tyX5_ok nmX5 4 (by decide) q_147 rfl rfl (by decide +kernel) rfl rfl (Nat.le_of_ble_eq_true rfl) dX5_init_56 rfl ?_
  refine J_aload_n X (pc := 59) dX5_init_59 0 rfl ?_
  refine J_new X (pc := 60) (ci := 7) (fs := [.int 0, .int 0]) in_X6 tyX6 tyX6_ok q_148 q_149 q_150 rfl (fun j hj => by rcases (show j = 0 ∨ j = 1 by omega) with rfl | rfl <;> rfl) (Nat.le_of_ble_eq_true rfl) (Nat.le_of_ble_eq_true rfl) dX5_init_60 (fun q14 => ?_)
  show J E x 14 381 [(q13, .inr (2, [.int 0, .int 0, .int 0, .int 1])), (q12, .inr (4, [.int 0, .int 0])), (q10, .inr (1, [.ref q11, .int 0, .int 0])), (q11, .inl (E.2.2 0, 60, .inl (fun _ => 0))), (q5, .inr (3, [.ref q6, .ref q7, .ref q8, .ref q9, .int 0, .int 0])), (q6, .inl (E.2.2 0, 66, .inl (fun _ => 0))), (q7, .inl (E.2.2 0, 66, .inl (fun _ => 0))), (q8, .inl (E.2.2 0, 66, .inl (fun _ => 0))), (q9, .inl (E.2.2 0, 66, .inl (fun _ => 0))), (q1, .inr (5, [.ref q2, .ref q3, .ref q4, .int 0])), (q2, .inl (E.2.2 0, 12, .inl (fun _ => 0))), (q3, .inl (E.2.2 0, 12, .inl (fun _ => 0))), (q4, .inl (E.2.2 0, 12, .inl (fun _ => 0))), (h0, .inr (6, [.ref q1, .ref q5, .ref q10, .ref q12, .ref q13, .null, .int 0])), (q14, .inr (7, [.int 0, .int 0]))] 63 [(0, .ref h0), (1, .int a1)] [.ref q14, .ref h0]
  refine J_dup X (pc := 63) dX5_init_63 rfl ?_
  refine J_subw (w1 := [(q14, .inr (7, [.int 0, .int 0])), (q13, .inr (2, [.int 0, .int 0, .int 0, .int 1])), (q12, .inr (4, [.int 0, .int 0])), (q10, .inr (1, [.ref q11, .int 0, .int 0])), (q11, .inl (E.2.2 0, 60, .inl (fun _ => 0))), (q5, .inr (3, [.ref q6, .ref q7, .ref q8, .ref q9, .int 0, .int 0])), (q6, .inl (E.2.2 0, 66, .inl (fun _ => 0))), (q7, .inl (E.2.2 0, 66, .inl (fun _ => 0))), (q8, .inl (E.2.2 0, 66, .inl (fun _ => 0))), (q9, .inl (E.2.2 0, 66, .inl (fun _ => 0))), (q1, .inr (5, [.ref q2, .ref q3, .ref q4, .int 0])), (q2, .inl (E.2.2 0, 12, .inl (fun _ => 0))), (q3, .inl (E.2.2 0, 12, .inl (fun _ => 0))), (q4, .inl (E.2.2 0, 12, .inl (fun _ => 0))), (h0, .inr (6, [.ref q1, .ref q5, .ref q10, .ref q12, .ref q13, .null, .int 0]))]) [14, 0, 1, 2, 3, 4, 5, 6, 7, 8, 9, 10, 11, 12, 13] rfl rfl ?_
  refine J_callCIN (w1 := [(q14, .inr (7, [.int 0, .int 0]))]) (rw := [(q13, .inr (2, [.int 0, .int 0, .int 0, .int 1])), (q12, .inr (4, [.int 0, .int 0])), (q10, .inr (1, [.ref q11, .int 0, .int 0])), (q11, .inl (E.2.2 0, 60, .inl (fun _ => 0))), (q5, .inr (3, [.ref q6, .ref q7, .ref q8, .ref q9, .int 0, .int 0])), (q6, .inl (E.2.2 0, 66, .inl (fun _ => 0))), (q7, .inl (E.2.2 0, 66, .inl (fun _ => 0))), (q8, .inl (E.2.2 0, 66, .inl (fun _ => 0))), (q9, .inl (E.2.2 0, 66, .inl (fun _ => 0))), (q1, .inr (5, [.ref q2, .ref q3, .ref q4, .int 0])), (q2, .inl (E.2.2 0, 12, .inl (fun _ => 0))), (q3, .inl (E.2.2 0, 12, .inl (fun _ => 0))), (q4, .inl (E.2.2 0, 12, .inl (fun _ => 0))), (h0, .inr (6, [.ref q1, .ref q5, .ref q10, .ref q12, .ref q13, .null, .int 0]))]) X (pc := 64) (y := yX6_init) (na := 0) (As := []) (rest := [.ref q14, .ref h0]) (c_X6_init E q14) nq_9 q_158 q_150 q_129 rfl rfl (by decide +kernel) (by decide +kernel) rfl (Nat.le_of_ble_eq_true rfl) ⟨by decide +kernel, by decide +kernel⟩ dX5_init_64 (fun u64 _ => ?_)
  show J E x 14 381 [(q14, .inr (7, [.int 0, .int 0])), (q13, .inr (2, [.int 0, .int 0, .int 0, .int 1])), (q12, .inr (4, [.int 0, .int 0])), (q10, .inr (1, [.ref q11, .int 0, .int 0])), (q11, .inl (E.2.2 0, 60, .inl (fun _ => 0))), (q5, .inr (3, [.ref q6, .ref q7, .ref q8, .ref q9, .int 0, .int 0])), (q6, .inl (E.2.2 0, 66, .inl (fun _ => 0))), (q7, .inl (E.2.2 0, 66, .inl (fun _ => 0))), (q8, .inl (E.2.2 0, 66, .inl (fun _ => 0))), (q9, .inl (E.2.2 0, 66, .inl (fun _ => 0))), (q1, .inr (5, [.ref q2, .ref q3, .ref q4, .int 0])), (q2, .inl (E.2.2 0, 12, .inl (fun _ => 0))), (q3, .inl (E.2.2 0, 12, .inl (fun _ => 0))), (q4, .inl (E.2.2 0, 12, .inl (fun _ => 0))), (h0, .inr (6, [.ref q1, .ref q5, .ref q10, .ref q12, .ref q13, .null, .int 0]))] 67 [(0, .ref h0), (1, .int a1)] [.ref q14, .ref h0]
  refine J_putfF X (pc := 67) hin (ty := tyX5 5) (w1 := [(q14, .inr (7, [.int 0, .int 0])), (q13, .inr (2, [.int 0, .int 0, .int 0, .int 1])), (q12, .inr (4, [.int 0, .int 0])), (q10, .inr (1, [.ref q11, .int 0, .int 0])), (q11, .inl (E.2.2 0, 60, .inl (fun _ => 0))), (q5, .inr (3, [.ref q6, .ref q7, .ref q8, .ref q9, .int 0, .int 0])), (q6, .inl (E.2.2 0, 66, .inl (fun _ => 0))), (q7, .inl (E.2.2 0, 66, .inl (fun _ => 0))), (q8, .inl (E.2.2 0, 66, .inl (fun _ => 0))), (q9, .inl (E.2.2 0, 66, .inl (fun _ => 0))), (q1, .inr (5, [.ref q2, .ref q3, .ref q4, .int 0])), (q2, .inl (E.2.2 0, 12, .inl (fun _ => 0))), (q3, .inl (E.2.2 0, 12, .inl (fun _ => 0))), (q4, .inl (E.2.2 0, 12, .inl (fun _ => 0))), (h0, .inr (6, [.ref q1, .ref q5, .ref q10, .ref q12, .ref q13, .ref q14, .int 0]))]) 14 rfl rfl in_X5 tyX5_ok nmX5 5 (by decide) q_151 rfl rfl (by decide +kernel) rfl rfl (Nat.le_of_ble_eq_true rfl) dX5_init_67 rfl ?_
  refine J_aload_n X (pc := 70) dX5_init_70 0 rfl ?_
  refine J_iload_n X (pc := 71) dX5_init_71 1 rfl ?_
  refine J_putf X (pc := 72) (ty := tyX5 6) (w1 := [(q14, .inr (7, [.int 0, .int 0])), (q13, .inr (2, [.int 0, .int 0, .int 0, .int 1])), (q12, .inr (4, [.int 0, .int 0])), (q10, .inr (1, [.ref q11, .int 0, .int 0])), (q11, .inl (E.2.2 0, 60, .inl (fun _ => 0))), (q5, .inr (3, [.ref q6, .ref q7, .ref q8, .ref q9, .int 0, .int 0])), (q6, .inl (E.2.2 0, 66, .inl (fun _ => 0))), (q7, .inl (E.2.2 0, 66, .inl (fun _ => 0))), (q8, .inl (E.2.2 0, 66, .inl (fun _ => 0))), (q9, .inl (E.2.2 0, 66, .inl (fun _ => 0))), (q1, .inr (5, [.ref q2, .ref q3, .ref q4, .int 0])), (q2, .inl (E.2.2 0, 12, .inl (fun _ => 0))), (q3, .inl (E.2.2 0, 12, .inl (fun _ => 0))), (q4, .inl (E.2.2 0, 12, .inl (fun _ => 0))), (h0, .inr (6, [.ref q1, .ref q5, .ref q10, .ref q12, .ref q13, .ref q14, .int a1]))]) 14 rfl rfl in_X5 tyX5_ok nmX5 6 (by decide) q_152 rfl (by decide +kernel) rfl rfl (Nat.le_of_ble_eq_true rfl) dX5_init_72 rfl ?_
  refine J_subw (w1 := sW E (fun i => ([h0, q1, q5, q10, q12, q13, q14, q2, q3, q4, q6, q7, q8, q9, q11] : List Nat).getD i 0) (initS a1)) [14, 10, 5, 3, 2, 1, 0, 11, 12, 13, 6, 7, 8, 9, 4] rfl rfl ?_
  exact hE (fun i => ([h0, q1, q5, q10, q12, q13, q14, q2, q3, q4, q6, q7, q8, q9, q11] : List Nat).getD i 0) rfl _ _ dX5_init_75
def initM : St := (fun _ => 0, fun _ _ => 0)
set_option maxRecDepth 100000 in
set_option maxHeartbeats 8000000 in
theorem c_X8_init (E : Ev) (h0 : Nat) : CtC E yX8_init cX8_init 1 1 12 22 1416 [(h0, .inr (9, [.int 0, .int 0, .null, .null, .null, .null, .null, .null, .null, .null, .null, .null, .null, .null, .null, .null, .null, .null, .null, .int 0, .null, .null, .null, .null, .null, .int 0, .int 0, .int 0, .int 0, .int 0]))] [.ref h0] (fun (u : Nat → Nat) => u 0 = h0) (fun (u : Nat → Nat) => mW E u initM) := by
  refine CtC_of (by decide +kernel) (Nat.le_of_ble_eq_true rfl) rfl (fun x X hin hE => ?_)
  show J E x 0 0 [(h0, .inr (9, [.int 0, .int 0, .null, .null, .null, .null, .null, .null, .null, .null, .null, .null, .null, .null, .null, .null, .null, .null, .null, .int 0, .null, .null, .null, .null, .null, .int 0, .int 0, .int 0, .int 0, .int 0]))] 0 [(0, .ref h0)] []
  refine J_aload_n X (pc := 0) dX8_init_0 0 rfl ?_
  refine J_objInit X (pc := 1) q_432 q_2 q_3 (by decide +kernel) (by decide +kernel) dX8_init_1 ?_
  refine J_aload_n X (pc := 4) dX8_init_4 0 rfl ?_
  refine J_bipush X (pc := 5) (v := 8) dX8_init_5 (by decide +kernel) ?_
  refine J_newa X (pc := 7) (atype := .int) (ty := .int) (N := 8) (t0 := 0) (a0 := (8, .inl (fun _ => 0))) (cA0 := E.2.2 0) q_4 rfl rfl (fun U cA h0 h1 => Option.some.inj (h1.symm.trans h0)) (fun _ => rfl) (by decide) (by decide) (Nat.le_of_ble_eq_true rfl) (Nat.le_of_ble_eq_true rfl) (Nat.le_of_ble_eq_true rfl) dX8_init_7 (fun q1 => ?_)
  show J E x 1 8 [(h0, .inr (9, [.int 0, .int 0, .null, .null, .null, .null, .null, .null, .null, .null, .null, .null, .null, .null, .null, .null, .null, .null, .null, .int 0, .null, .null, .null, .null, .null, .int 0, .int 0, .int 0, .int 0, .int 0])), (q1, .inl (E.2.2 0, 8, .inl (fun _ => 0)))] 9 [(0, .ref h0)] [.ref q1, .ref h0]
  refine J_putfF X (pc := 9) hin (ty := tyX8 2) (w1 := [(h0, .inr (9, [.int 0, .int 0, .ref q1, .null, .null, .null, .null, .null, .null, .null, .null, .null, .null, .null, .null, .null, .null, .null, .null, .int 0, .null, .null, .null, .null, .null, .int 0, .int 0, .int 0, .int 0, .int 0])), (q1, .inl (E.2.2 0, 8, .inl (fun _ => 0)))]) 0 rfl rfl in_X8 tyX8_ok nmX8 2 (by decide) q_433 rfl rfl (by decide +kernel) rfl rfl (Nat.le_of_ble_eq_true rfl) dX8_init_9 rfl ?_
  refine J_aload_n X (pc := 12) dX8_init_12 0 rfl ?_
  refine J_bipush X (pc := 13) (v := 8) dX8_init_13 (by decide +kernel) ?_
  refine J_newa X (pc := 15) (atype := .int) (ty := .int) (N := 8) (t0 := 0) (a0 := (8, .inl (fun _ => 0))) (cA0 := E.2.2 0) q_4 rfl rfl (fun U cA h0 h1 => Option.some.inj (h1.symm.trans h0)) (fun _ => rfl) (by decide) (by decide) (Nat.le_of_ble_eq_true rfl) (Nat.le_of_ble_eq_true rfl) (Nat.le_of_ble_eq_true rfl) dX8_init_15 (fun q2 => ?_)
  show J E x 2 16 [(h0, .inr (9, [.int 0, .int 0, .ref q1, .null, .null, .null, .null, .null, .null, .null, .null, .null, .null, .null, .null, .null, .null, .null, .null, .int 0, .null, .null, .null, .null, .null, .int 0, .int 0, .int 0, .int 0, .int 0])), (q1, .inl (E.2.2 0, 8, .inl (fun _ => 0))), (q2, .inl (E.2.2 0, 8, .inl (fun _ => 0)))] 17 [(0, .ref h0)] [.ref q2, .ref h0]
  refine J_putfF X (pc := 17) hin (ty := tyX8 3) (w1 := [(h0, .inr (9, [.int 0, .int 0, .ref q1, .ref q2, .null, .null, .null, .null, .null, .null, .null, .null, .null, .null, .null, .null, .null, .null, .null, .int 0, .null, .null, .null, .null, .null, .int 0, .int 0, .int 0, .int 0, .int 0])), (q1, .inl (E.2.2 0, 8, .inl (fun _ => 0))), (q2, .inl (E.2.2 0, 8, .inl (fun _ => 0)))]) 0 rfl rfl in_X8 tyX8_ok nmX8 3 (by decide) q_434 rfl rfl (by decide +kernel) rfl rfl (Nat.le_of_ble_eq_true rfl) dX8_init_17 rfl ?_
  refine J_aload_n X (pc := 20) dX8_init_20 0 rfl ?_
  refine J_bipush X (pc := 21) (v := 96) dX8_init_21 (by decide +kernel) ?_
  refine J_newa X (pc := 23) (atype := .int) (ty := .int) (N := 96) (t0 := 0) (a0 := (96, .inl (fun _ => 0))) (cA0 := E.2.2 0) q_4 rfl rfl (fun U cA h0 h1 => Option.some.inj (h1.symm.trans h0)) (fun _ => rfl) (by decide) (by decide) (Nat.le_of_ble_eq_true rfl) (Nat.le_of_ble_eq_true rfl) (Nat.le_of_ble_eq_true rfl) dX8_init_23 (fun q3 => ?_)
  show J E x 3 112 [(h0, .inr (9, [.int 0, .int 0, .ref q1, .ref q2, .null, .null, .null, .null, .null, .null, .null, .null, .null, .null, .null, .null, .null, .null, .null, .int 0, .null, .null, .null, .null, .null, .int 0, .int 0, .int 0, .int 0, .int 0])), (q1, .inl (E.2.2 0, 8, .inl (fun _ => 0))), (q2, .inl (E.2.2 0, 8, .inl (fun _ => 0))), (q3, .inl (E.2.2 0, 96, .inl (fun _ => 0)))] 25 [(0, .ref h0)] [.ref q3, .ref h0]
  refine J_putfF X (pc := 25) hin (ty := tyX8 4) (w1 := [(h0, .inr (9, [.int 0, .int 0, .ref q1, .ref q2, .ref q3, .null, .null, .null, .null, .null, .null, .null, .null, .null, .null, .null, .null, .null, .null, .int 0, .null, .null, .null, .null, .null, .int 0, .int 0, .int 0, .int 0, .int 0])), (q1, .inl (E.2.2 0, 8, .inl (fun _ => 0))), (q2, .inl (E.2.2 0, 8, .inl (fun _ => 0))), (q3, .inl (E.2.2 0, 96, .inl (fun _ => 0)))]) 0 rfl rfl in_X8 tyX8_ok nmX8 4 (by decide) q_435 rfl rfl (by decide +kernel) rfl rfl (Nat.le_of_ble_eq_true rfl) dX8_init_25 rfl ?_
  refine J_aload_n X (pc := 28) dX8_init_28 0 rfl ?_
  refine J_bipush X (pc := 29) (v := 96) dX8_init_29 (by decide +kernel) ?_
  refine J_newa X (pc := 31) (atype := .int) (ty := .int) (N := 96) (t0 := 0) (a0 := (96, .inl (fun _ => 0))) (cA0 := E.2.2 0) q_4 rfl rfl (fun U cA h0 h1 => Option.some.inj (h1.symm.trans h0)) (fun _ => rfl) (by decide) (by decide) (Nat.le_of_ble_eq_true rfl) (Nat.le_of_ble_eq_true rfl) (Nat.le_of_ble_eq_true rfl) dX8_init_31 (fun q4 => ?_)
  show J E x 4 208 [(h0, .inr (9, [.int 0, .int 0, .ref q1, .ref q2, .ref q3, .null, .null, .null, .null, .null, .null, .null, .null, .null, .null, .null, .null, .null, .null, .int 0, .null, .null, .null, .null, .null, .int 0, .int 0, .int 0, .int 0, .int 0])), (q1, .inl (E.2.2 0, 8, .inl (fun _ => 0))), (q2, .inl (E.2.2 0, 8, .inl (fun _ => 0))), (q3, .inl (E.2.2 0, 96, .inl (fun _ => 0))), (q4, .inl (E.2.2 0, 96, .inl (fun _ => 0)))] 33 [(0, .ref h0)] [.ref q4, .ref h0]
  refine J_putfF X (pc := 33) hin (ty := tyX8 5) (w1 := [(h0, .inr (9, [.int 0, .int 0, .ref q1, .ref q2, .ref q3, .ref q4, .null, .null, .null, .null, .null, .null, .null, .null, .null, .null, .null, .null, .null, .int 0, .null, .null, .null, .null, .null, .int 0, .int 0, .int 0, .int 0, .int 0])), (q1, .inl (E.2.2 0, 8, .inl (fun _ => 0))), (q2, .inl (E.2.2 0, 8, .inl (fun _ => 0))), (q3, .inl (E.2.2 0, 96, .inl (fun _ => 0))), (q4, .inl (E.2.2 0, 96, .inl (fun _ => 0)))]) 0 rfl rfl in_X8 tyX8_ok nmX8 5 (by decide) q_436 rfl rfl (by decide +kernel) rfl rfl (Nat.le_of_ble_eq_true rfl) dX8_init_33 rfl ?_
  refine J_aload_n X (pc := 36) dX8_init_36 0 rfl ?_
  refine J_bipush X (pc := 37) (v := 8) dX8_init_37 (by decide +kernel) ?_
  refine J_newa X (pc := 39) (atype := .int) (ty := .int) (N := 8) (t0 := 0) (a0 := (8, .inl (fun _ => 0))) (cA0 := E.2.2 0) q_4 rfl rfl (fun U cA h0 h1 => Option.some.inj (h1.symm.trans h0)) (fun _ => rfl) (by decide) (by decide) (Nat.le_of_ble_eq_true rfl) (Nat.le_of_ble_eq_true rfl) (Nat.le_of_ble_eq_true rfl) dX8_init_39 (fun q5 => ?_)
  show J E x 5 216 [(h0, .inr (9, [.int 0, .int 0, .ref q1, .ref q2, .ref q3, .ref q4, .null, .null, .null, .null, .null, .null, .null, .null, .null, .null, .null, .null, .null, .int 0, .null, .null, .null, .null, .null, .int 0, .int 0, .int 0, .int 0, .int 0])), (q1, .inl (E.2.2 0, 8, .inl (fun _ => 0))), (q2, .inl (E.2.2 0, 8, .inl (fun _ => 0))), (q3, .inl (E.2.2 0, 96, .inl (fun _ => 0))), (q4, .inl (E.2.2 0, 96, .inl (fun _ => 0))), (q5, .inl (E.2.2 0, 8, .inl (fun _ => 0)))] 41 [(0, .ref h0)] [.ref q5, .ref h0]
  refine J_putfF X (pc := 41) hin (ty := tyX8 6) (w1 := [(h0, .inr (9, [.int 0, .int 0, .ref q1, .ref q2, .ref q3, .ref q4, .ref q5, .null, .null, .null, .null, .null, .null, .null, .null, .null, .null, .null, .null, .int 0, .null, .null, .null, .null, .null, .int 0, .int 0, .int 0, .int 0, .int 0])), (q1, .inl (E.2.2 0, 8, .inl (fun _ => 0))), (q2, .inl (E.2.2 0, 8, .inl (fun _ => 0))), (q3, .inl (E.2.2 0, 96, .inl (fun _ => 0))), (q4, .inl (E.2.2 0, 96, .inl (fun _ => 0))), (q5, .inl (E.2.2 0, 8, .inl (fun _ => 0)))]) 0 rfl rfl in_X8 tyX8_ok nmX8 6 (by decide) q_437 rfl rfl (by decide +kernel) rfl rfl (Nat.le_of_ble_eq_true rfl) dX8_init_41 rfl ?_
  refine J_aload_n X (pc := 44) dX8_init_44 0 rfl ?_
  refine J_sipush X (pc := 45) (v := 480) dX8_init_45 (by decide +kernel) ?_
  refine J_newa X (pc := 48) (atype := .int) (ty := .int) (N := 480) (t0 := 0) (a0 := (480, .inl (fun _ => 0))) (cA0 := E.2.2 0) q_4 rfl rfl (fun U cA h0 h1 => Option.some.inj (h1.symm.trans h0)) (fun _ => rfl) (by decide) (by decide) (Nat.le_of_ble_eq_true rfl) (Nat.le_of_ble_eq_true rfl) (Nat.le_of_ble_eq_true rfl) dX8_init_48 (fun q6 => ?_)
  show J E x 6 696 [(h0, .inr (9, [.int 0, .int 0, .ref q1, .ref q2, .ref q3, .ref q4, .ref q5, .null, .null, .null, .null, .null, .null, .null, .null, .null, .null, .null, .null, .int 0, .null, .null, .null, .null, .null, .int 0, .int 0, .int 0, .int 0, .int 0])), (q1, .inl (E.2.2 0, 8, .inl (fun _ => 0))), (q2, .inl (E.2.2 0, 8, .inl (fun _ => 0))), (q3, .inl (E.2.2 0, 96, .inl (fun _ => 0))), (q4, .inl (E.2.2 0, 96, .inl (fun _ => 0))), (q5, .inl (E.2.2 0, 8, .inl (fun _ => 0))), (q6, .inl (E.2.2 0, 480, .inl (fun _ => 0)))] 50 [(0, .ref h0)] [.ref q6, .ref h0]
  refine J_putfF X (pc := 50) hin (ty := tyX8 7) (w1 := [(h0, .inr (9, [.int 0, .int 0, .ref q1, .ref q2, .ref q3, .ref q4, .ref q5, .ref q6, .null, .null, .null, .null, .null, .null, .null, .null, .null, .null, .null, .int 0, .null, .null, .null, .null, .null, .int 0, .int 0, .int 0, .int 0, .int 0])), (q1, .inl (E.2.2 0, 8, .inl (fun _ => 0))), (q2, .inl (E.2.2 0, 8, .inl (fun _ => 0))), (q3, .inl (E.2.2 0, 96, .inl (fun _ => 0))), (q4, .inl (E.2.2 0, 96, .inl (fun _ => 0))), (q5, .inl (E.2.2 0, 8, .inl (fun _ => 0))), (q6, .inl (E.2.2 0, 480, .inl (fun _ => 0)))]) 0 rfl rfl in_X8 tyX8_ok nmX8 7 (by decide) q_438 rfl rfl (by decide +kernel) rfl rfl (Nat.le_of_ble_eq_true rfl) dX8_init_50 rfl ?_
  refine J_aload_n X (pc := 53) dX8_init_53 0 rfl ?_
  refine J_sipush X (pc := 54) (v := 480) dX8_init_54 (by decide +kernel) ?_
  refine J_newa X (pc := 57) (atype := .int) (ty := .int) (N := 480) (t0 := 0) (a0 := (480, .inl (fun _ => 0))) (cA0 := E.2.2 0) q_4 rfl rfl (fun U cA h0 h1 => Option.some.inj (h1.symm.trans h0)) (fun _ => rfl) (by decide) (by decide) (Nat.le_of_ble_eq_true rfl) (Nat.le_of_ble_eq_true rfl) (Nat.le_of_ble_eq_true rfl) dX8_init_57 (fun q7 => ?_)
  show J E x 7 1176 [(h0, .inr (9, [.int 0, .int 0, .ref q1, .ref q2, .ref q3, .ref q4, .ref q5, .ref q6, .null, .null, .null, .null, .null, .null, .null, .null, .null, .null, .null, .int 0, .null, .null, .null, .null, .null, .int 0, .int 0, .int 0, .int 0, .int 0])), (q1, .inl (E.2.2 0, 8, .inl (fun _ => 0))), (q2, .inl (E.2.2 0, 8, .inl (fun _ => 0))), (q3, .inl (E.2.2 0, 96, .inl (fun _ => 0))), (q4, .inl (E.2.2 0, 96, .inl (fun _ => 0))), (q5, .inl (E.2.2 0, 8, .inl (fun _ => 0))), (q6, .inl (E.2.2 0, 480, .inl (fun _ => 0))), (q7, .inl (E.2.2 0, 480, .inl (fun _ => 0)))] 59 [(0, .ref h0)] [.ref q7, .ref h0]
  refine J_putfF X (pc := 59) hin (ty := tyX8 8) (w1 := [(h0, .inr (9, [.int 0, .int 0, .ref q1, .ref q2, .ref q3, .ref q4, .ref q5, .ref q6, .ref q7, .null, .null, .null, .null, .null, .null, .null, .null, .null, .null, .int 0, .null, .null, .null, .null, .null, .int 0, .int 0, .int 0, .int 0, .int 0])), (q1, .inl (E.2.2 0, 8, .inl (fun _ => 0))), (q2, .inl (E.2.2 0, 8, .inl (fun _ => 0))), (q3, .inl (E.2.2 0, 96, .inl (fun _ => 0))), (q4, .inl (E.2.2 0, 96, .inl (fun _ => 0))), (q5, .inl (E.2.2 0, 8, .inl (fun _ => 0))), (q6, .inl (E.2.2 0, 480, .inl (fun _ => 0))), (q7, .inl (E.2.2 0, 480, .inl (fun _ => 0)))]) 0 rfl rfl in_X8 tyX8_ok nmX8 8 (by decide) q_439 rfl rfl (by decide +kernel) rfl rfl (Nat.le_of_ble_eq_true rfl) dX8_init_59 rfl ?_
  refine J_aload_n X (pc := 62) dX8_init_62 0 rfl ?_
  refine J_bipush X (pc := 63) (v := 8) dX8_init_63 (by decide +kernel) ?_
  refine J_newa X (pc := 65) (atype := .int) (ty := .int) (N := 8) (t0 := 0) (a0 := (8, .inl (fun _ => 0))) (cA0 := E.2.2 0) q_4 rfl rfl (fun U cA h0 h1 => Option.some.inj (h1.symm.trans h0)) (fun _ => rfl) (by decide) (by decide) (Nat.le_of_ble_eq_true rfl) (Nat.le_of_ble_eq_true rfl) (Nat.le_of_ble_eq_true rfl) dX8_init_65 (fun q8 => ?_)
  show J E x 8 1184 [(h0, .inr (9, [.int 0, .int 0, .ref q1, .ref q2, .ref q3, .ref q4, .ref q5, .ref q6, .ref q7, .null, .null, .null, .null, .null, .null, .null, .null, .null, .null, .int 0, .null, .null, .null, .null, .null, .int 0, .int 0, .int 0, .int 0, .int 0])), (q1, .inl (E.2.2 0, 8, .inl (fun _ => 0))), (q2, .inl (E.2.2 0, 8, .inl (fun _ => 0))), (q3, .inl (E.2.2 0, 96, .inl (fun _ => 0))), (q4, .inl (E.2.2 0, 96, .inl (fun _ => 0))), (q5, .inl (E.2.2 0, 8, .inl (fun _ => 0))), (q6, .inl (E.2.2 0, 480, .inl (fun _ => 0))), (q7, .inl (E.2.2 0, 480, .inl (fun _ => 0))), (q8, .inl (E.2.2 0, 8, .inl (fun _ => 0)))] 67 [(0, .ref h0)] [.ref q8, .ref h0]
  refine J_putfF X (pc := 67) hin (ty := tyX8 9) (w1 := [(h0, .inr (9, [.int 0, .int 0, .ref q1, .ref q2, .ref q3, .ref q4, .ref q5, .ref q6, .ref q7, .ref q8, .null, .null, .null, .null, .null, .null, .null, .null, .null, .int 0, .null, .null, .null, .null, .null, .int 0, .int 0, .int 0, .int 0, .int 0])), (q1, .inl (E.2.2 0, 8, .inl (fun _ => 0))), (q2, .inl (E.2.2 0, 8, .inl (fun _ => 0))), (q3, .inl (E.2.2 0, 96, .inl (fun _ => 0))), (q4, .inl (E.2.2 0, 96, .inl (fun _ => 0))), (q5, .inl (E.2.2 0, 8, .inl (fun _ => 0))), (q6, .inl (E.2.2 0, 480, .inl (fun _ => 0))), (q7, .inl (E.2.2 0, 480, .inl (fun _ => 0))), (q8, .inl (E.2.2 0, 8, .inl (fun _ => 0)))]) 0 rfl rfl in_X8 tyX8_ok nmX8 9 (by decide) q_440 rfl rfl (by decide +kernel) rfl rfl (Nat.le_of_ble_eq_true rfl) dX8_init_67 rfl ?_
  refine J_aload_n X (pc := 70) dX8_init_70 0 rfl ?_
  refine J_bipush X (pc := 71) (v := 8) dX8_init_71 (by decide +kernel) ?_
  refine J_newa X (pc := 73) (atype := .int) (ty := .int) (N := 8) (t0 := 0) (a0 := (8, .inl (fun _ => 0))) (cA0 := E.2.2 0) q_4 rfl rfl (fun U cA h0 h1 => Option.some.inj (h1.symm.trans h0)) (fun _ => rfl) (by decide) (by decide) (Nat.le_of_ble_eq_true rfl) (Nat.le_of_ble_eq_true rfl) (Nat.le_of_ble_eq_true rfl) dX8_init_73 (fun q9 => ?_)
  show J E x 9 1192 [(h0, .inr (9, [.int 0, .int 0, .ref q1, .ref q2, .ref q3, .ref q4, .ref q5, .ref q6, .ref q7, .ref q8, .null, .null, .null, .null, .null, .null, .null, .null, .null, .int 0, .null, .null, .null, .null, .null, .int 0, .int 0, .int 0, .int 0, .int 0])), (q1, .inl (E.2.2 0, 8, .inl (fun _ => 0))), (q2, .inl (E.2.2 0, 8, .inl (fun _ => 0))), (q3, .inl (E.2.2 0, 96, .inl (fun _ => 0))), (q4, .inl (E.2.2 0, 96, .inl (fun _ => 0))), (q5, .inl (E.2.2 0, 8, .inl (fun _ => 0))), (q6, .inl (E.2.2 0, 480, .inl (fun _ => 0))), (q7, .inl (E.2.2 0, 480, .inl (fun _ => 0))), (q8, .inl (E.2.2 0, 8, .inl (fun _ => 0))), (q9, .inl (E.2.2 0, 8, .inl (fun _ => 0)))] 75 [(0, .ref h0)] [.ref q9, .ref h0]
  refine J_putfF X (pc := 75) hin (ty := tyX8 10) (w1 := [(h0, .inr (9, [.int 0, .int 0, .ref q1, .ref q2, .ref q3, .ref q4, .ref q5, .ref q6, .ref q7, .ref q8, .ref q9, .null, .null, .null, .null, .null, .null, .null, .null, .int 0, .null, .null, .null, .null, .null, .int 0, .int 0, .int 0, .int 0, .int 0])), (q1, .inl (E.2.2 0, 8, .inl (fun _ => 0))), (q2, .inl (E.2.2 0, 8, .inl (fun _ => 0))), (q3, .inl (E.2.2 0, 96, .inl (fun _ => 0))), (q4, .inl (E.2.2 0, 96, .inl (fun _ => 0))), (q5, .inl (E.2.2 0, 8, .inl (fun _ => 0))), (q6, .inl (E.2.2 0, 480, .inl (fun _ => 0))), (q7, .inl (E.2.2 0, 480, .inl (fun _ => 0))), (q8, .inl (E.2.2 0, 8, .inl (fun _ => 0))), (q9, .inl (E.2.2 0, 8, .inl (fun _ => 0)))]) 0 rfl rfl in_X8 tyX8_ok nmX8 10 (by decide) q_441 rfl rfl (by decide +kernel) rfl rfl (Nat.le_of_ble_eq_true rfl) dX8_init_75 rfl ?_
  refine J_aload_n X (pc := 78) dX8_init_78 0 rfl ?_
  refine J_bipush X (pc := 79) (v := 8) dX8_init_79 (by decide +kernel) ?_
  refine J_newa X (pc := 81) (atype := .boolean) (ty := .boolean) (N := 8) (t0 := 1) (a0 := (8, .inl (fun _ => 0))) (cA0 := E.2.2 1) q_442 rfl rfl (fun U cA h0 h1 => Option.some.inj (h1.symm.trans h0)) (fun _ => rfl) (by decide) (by decide) (Nat.le_of_ble_eq_true rfl) (Nat.le_of_ble_eq_true rfl) (Nat.le_of_ble_eq_true rfl) dX8_init_81 (fun q10 => ?_)
  show J E x 10 1200 [(h0, .inr (9, [.int 0, .int 0, .ref q1, .ref q2, .ref q3, .ref q4, .ref q5, .ref q6, .ref q7, .ref q8, .ref q9, .null, .null, .null, .null, .null, .null, .null, .null, .int 0, .null, .null, .null, .null, .null, .int 0, .int 0, .int 0, .int 0, .int 0])), (q1, .inl (E.2.2 0, 8, .inl (fun _ => 0))), (q2, .inl (E.2.2 0, 8, .inl (fun _ => 0))), (q3, .inl (E.2.2 0, 96, .inl (fun _ => 0))), (q4, .inl (E.2.2 0, 96, .inl (fun _ => 0))), (q5, .inl (E.2.2 0, 8, .inl (fun _ => 0))), (q6, .inl (E.2.2 0, 480, .inl (fun _ => 0))), (q7, .inl (E.2.2 0, 480, .inl (fun _ => 0))), (q8, .inl (E.2.2 0, 8, .inl (fun _ => 0))), (q9, .inl (E.2.2 0, 8, .inl (fun _ => 0))), (q10, .inl (E.2.2 1, 8, .inl (fun _ => 0)))] 83 [(0, .ref h0)] [.ref q10, .ref h0]
  refine J_putfF X (pc := 83) hin (ty := tyX8 11) (w1 := [(h0, .inr (9, [.int 0, .int 0, .ref q1, .ref q2, .ref q3, .ref q4, .ref q5, .ref q6, .ref q7, .ref q8, .ref q9, .ref q10, .null, .null, .null, .null, .null, .null, .null, .int 0, .null, .null, .null, .null, .null, .int 0, .int 0, .int 0, .int 0, .int 0])), (q1, .inl (E.2.2 0, 8, .inl (fun _ => 0))), (q2, .inl (E.2.2 0, 8, .inl (fun _ => 0))), (q3, .inl (E.2.2 0, 96, .inl (fun _ => 0))), (q4, .inl (E.2.2 0, 96, .inl (fun _ => 0))), (q5, .inl (E.2.2 0, 8, .inl (fun _ => 0))), (q6, .inl (E.2.2 0, 480, .inl (fun _ => 0))), (q7, .inl (E.2.2 0, 480, .inl (fun _ => 0))), (q8, .inl (E.2.2 0, 8, .inl (fun _ => 0))), (q9, .inl (E.2.2 0, 8, .inl (fun _ => 0))), (q10, .inl (E.2.2 1, 8, .inl (fun _ => 0)))]) 0 rfl rfl in_X8 tyX8_ok nmX8 11 (by decide) q_443 rfl rfl (by decide +kernel) rfl rfl (Nat.le_of_ble_eq_true rfl) dX8_init_83 rfl ?_
  refine J_aload_n X (pc := 86) dX8_init_86 0 rfl ?_
  refine J_bipush X (pc := 87) (v := 8) dX8_init_87 (by decide +kernel) ?_
  refine J_newa X (pc := 89) (atype := .boolean) (ty := .boolean) (N := 8) (t0 := 1) (a0 := (8, .inl (fun _ => 0))) (cA0 := E.2.2 1) q_442 rfl rfl (fun U cA h0 h1 => Option.some.inj (h1.symm.trans h0)) (fun _ => rfl) (by decide) (by decide) (Nat.le_of_ble_eq_true rfl) (Nat.le_of_ble_eq_true rfl) (Nat.le_of_ble_eq_true rfl) dX8_init_89 (fun q11 => ?_)
  show J E x 11 1208 [(h0, .inr (9, [.int 0, .int 0, .ref q1, .ref q2, .ref q3, .ref q4, .ref q5, .ref q6, .ref q7, .ref q8, .ref q9, .ref q10, .null, .null, .null, .null, .null, .null, .null, .int 0, .null, .null, .null, .null, .null, .int 0, .int 0, .int 0, .int 0, .int 0])), (q1, .inl (E.2.2 0, 8, .inl (fun _ => 0))), (q2, .inl (E.2.2 0, 8, .inl (fun _ => 0))), (q3, .inl (E.2.2 0, 96, .inl (fun _ => 0))), (q4, .inl (E.2.2 0, 96, .inl (fun _ => 0))), (q5, .inl (E.2.2 0, 8, .inl (fun _ => 0))), (q6, .inl (E.2.2 0, 480, .inl (fun _ => 0))), (q7, .inl (E.2.2 0, 480, .inl (fun _ => 0))), (q8, .inl (E.2.2 0, 8, .inl (fun _ => 0))), (q9, .inl (E.2.2 0, 8, .inl (fun _ => 0))), (q10, .inl (E.2.2 1, 8, .inl (fun _ => 0))), (q11, .inl (E.2.2 1, 8, .inl (fun _ => 0)))] 91 [(0, .ref h0)] [.ref q11, .ref h0]
  refine J_putfF X (pc := 91) hin (ty := tyX8 12) (w1 := [(h0, .inr (9, [.int 0, .int 0, .ref q1, .ref q2, .ref q3, .ref q4, .ref q5, .ref q6, .ref q7, .ref q8, .ref q9, .ref q10, .ref q11, .null, .null, .null, .null, .null, .null, .int 0, .null, .null, .null, .null, .null, .int 0, .int 0, .int 0, .int 0, .int 0])), (q1, .inl (E.2.2 0, 8, .inl (fun _ => 0))), (q2, .inl (E.2.2 0, 8, .inl (fun _ => 0))), (q3, .inl (E.2.2 0, 96, .inl (fun _ => 0))), (q4, .inl (E.2.2 0, 96, .inl (fun _ => 0))), (q5, .inl (E.2.2 0, 8, .inl (fun _ => 0))), (q6, .inl (E.2.2 0, 480, .inl (fun _ => 0))), (q7, .inl (E.2.2 0, 480, .inl (fun _ => 0))), (q8, .inl (E.2.2 0, 8, .inl (fun _ => 0))), (q9, .inl (E.2.2 0, 8, .inl (fun _ => 0))), (q10, .inl (E.2.2 1, 8, .inl (fun _ => 0))), (q11, .inl (E.2.2 1, 8, .inl (fun _ => 0)))]) 0 rfl rfl in_X8 tyX8_ok nmX8 12 (by decide) q_444 rfl rfl (by decide +kernel) rfl rfl (Nat.le_of_ble_eq_true rfl) dX8_init_91 rfl ?_
  refine J_aload_n X (pc := 94) dX8_init_94 0 rfl ?_
  refine J_bipush X (pc := 95) (v := 8) dX8_init_95 (by decide +kernel) ?_
  refine J_newa X (pc := 97) (atype := .boolean) (ty := .boolean) (N := 8) (t0 := 1) (a0 := (8, .inl (fun _ => 0))) (cA0 := E.2.2 1) q_442 rfl rfl (fun U cA h0 h1 => Option.some.inj (h1.symm.trans h0)) (fun _ => rfl) (by decide) (by decide) (Nat.le_of_ble_eq_true rfl) (Nat.le_of_ble_eq_true rfl) (Nat.le_of_ble_eq_true rfl) dX8_init_97 (fun q12 => ?_)
  show J E x 12 1216 [(h0, .inr (9, [.int 0, .int 0, .ref q1, .ref q2, .ref q3, .ref q4, .ref q5, .ref q6, .ref q7, .ref q8, .ref q9, .ref q10, .ref q11, .null, .null, .null, .null, .null, .null, .int 0, .null, .null, .null, .null, .null, .int 0, .int 0, .int 0, .int 0, .int 0])), (q1, .inl (E.2.2 0, 8, .inl (fun _ => 0))), (q2, .inl (E.2.2 0, 8, .inl (fun _ => 0))), (q3, .inl (E.2.2 0, 96, .inl (fun _ => 0))), (q4, .inl (E.2.2 0, 96, .inl (fun _ => 0))), (q5, .inl (E.2.2 0, 8, .inl (fun _ => 0))), (q6, .inl (E.2.2 0, 480, .inl (fun _ => 0))), (q7, .inl (E.2.2 0, 480, .inl (fun _ => 0))), (q8, .inl (E.2.2 0, 8, .inl (fun _ => 0))), (q9, .inl (E.2.2 0, 8, .inl (fun _ => 0))), (q10, .inl (E.2.2 1, 8, .inl (fun _ => 0))), (q11, .inl (E.2.2 1, 8, .inl (fun _ => 0))), (q12, .inl (E.2.2 1, 8, .inl (fun _ => 0)))] 99 [(0, .ref h0)] [.ref q12, .ref h0]
  refine J_putfF X (pc := 99) hin (ty := tyX8 13) (w1 := [(h0, .inr (9, [.int 0, .int 0, .ref q1, .ref q2, .ref q3, .ref q4, .ref q5, .ref q6, .ref q7, .ref q8, .ref q9, .ref q10, .ref q11, .ref q12, .null, .null, .null, .null, .null, .int 0, .null, .null, .null, .null, .null, .int 0, .int 0, .int 0, .int 0, .int 0])), (q1, .inl (E.2.2 0, 8, .inl (fun _ => 0))), (q2, .inl (E.2.2 0, 8, .inl (fun _ => 0))), (q3, .inl (E.2.2 0, 96, .inl (fun _ => 0))), (q4, .inl (E.2.2 0, 96, .inl (fun _ => 0))), (q5, .inl (E.2.2 0, 8, .inl (fun _ => 0))), (q6, .inl (E.2.2 0, 480, .inl (fun _ => 0))), (q7, .inl (E.2.2 0, 480, .inl (fun _ => 0))), (q8, .inl (E.2.2 0, 8, .inl (fun _ => 0))), (q9, .inl (E.2.2 0, 8, .inl (fun _ => 0))), (q10, .inl (E.2.2 1, 8, .inl (fun _ => 0))), (q11, .inl (E.2.2 1, 8, .inl (fun _ => 0))), (q12, .inl (E.2.2 1, 8, .inl (fun _ => 0)))]) 0 rfl rfl in_X8 tyX8_ok nmX8 13 (by decide) q_445 rfl rfl (by decide +kernel) rfl rfl (Nat.le_of_ble_eq_true rfl) dX8_init_99 rfl ?_
  refine J_aload_n X (pc := 102) dX8_init_102 0 rfl ?_
  refine J_bipush X (pc := 103) (v := 8) dX8_init_103 (by decide +kernel) ?_
  refine J_newa X (pc := 105) (atype := .int) (ty := .int) (N := 8) (t0 := 0) (a0 := (8, .inl (fun _ => 0))) (cA0 := E.2.2 0) q_4 rfl rfl (fun U cA h0 h1 => Option.some.inj (h1.symm.trans h0)) (fun _ => rfl) (by decide) (by decide) (Nat.le_of_ble_eq_true rfl) (Nat.le_of_ble_eq_true rfl) (Nat.le_of_ble_eq_true rfl) dX8_init_105 (fun q13 => ?_)
  show J E x 13 1224 [(h0, .inr (9, [.int 0, .int 0, .ref q1, .ref q2, .ref q3, .ref q4, .ref q5, .ref q6, .ref q7, .ref q8, .ref q9, .ref q10, .ref q11, .ref q12, .null, .null, .null, .null, .null, .int 0, .null, .null, .null, .null, .null, .int 0, .int 0, .int 0, .int 0, .int 0])), (q1, .inl (E.2.2 0, 8, .inl (fun _ => 0))), (q2, .inl (E.2.2 0, 8, .inl (fun _ => 0))), (q3, .inl (E.2.2 0, 96, .inl (fun _ => 0))), (q4, .inl (E.2.2 0, 96, .inl (fun _ => 0))), (q5, .inl (E.2.2 0, 8, .inl (fun _ => 0))), (q6, .inl (E.2.2 0, 480, .inl (fun _ => 0))), (q7, .inl (E.2.2 0, 480, .inl (fun _ => 0))), (q8, .inl (E.2.2 0, 8, .inl (fun _ => 0))), (q9, .inl (E.2.2 0, 8, .inl (fun _ => 0))), (q10, .inl (E.2.2 1, 8, .inl (fun _ => 0))), (q11, .inl (E.2.2 1, 8, .inl (fun _ => 0))), (q12, .inl (E.2.2 1, 8, .inl (fun _ => 0))), (q13, .inl (E.2.2 0, 8, .inl (fun _ => 0)))] 107 [(0, .ref h0)] [.ref q13, .ref h0]
  refine J_putfF X (pc := 107) hin (ty := tyX8 14) (w1 := [(h0, .inr (9, [.int 0, .int 0, .ref q1, .ref q2, .ref q3, .ref q4, .ref q5, .ref q6, .ref q7, .ref q8, .ref q9, .ref q10, .ref q11, .ref q12, .ref q13, .null, .null, .null, .null, .int 0, .null, .null, .null, .null, .null, .int 0, .int 0, .int 0, .int 0, .int 0])), (q1, .inl (E.2.2 0, 8, .inl (fun _ => 0))), (q2, .inl (E.2.2 0, 8, .inl (fun _ => 0))), (q3, .inl (E.2.2 0, 96, .inl (fun _ => 0))), (q4, .inl (E.2.2 0, 96, .inl (fun _ => 0))), (q5, .inl (E.2.2 0, 8, .inl (fun _ => 0))), (q6, .inl (E.2.2 0, 480, .inl (fun _ => 0))), (q7, .inl (E.2.2 0, 480, .inl (fun _ => 0))), (q8, .inl (E.2.2 0, 8, .inl (fun _ => 0))), (q9, .inl (E.2.2 0, 8, .inl (fun _ => 0))), (q10, .inl (E.2.2 1, 8, .inl (fun _ => 0))), (q11, .inl (E.2.2 1, 8, .inl (fun _ => 0))), (q12, .inl (E.2.2 1, 8, .inl (fun _ => 0))), (q13, .inl (E.2.2 0, 8, .inl (fun _ => 0)))]) 0 rfl rfl in_X8 tyX8_ok nmX8 14 (by decide) q_446 rfl rfl (by decide +kernel) rfl rfl (Nat.le_of_ble_eq_true rfl) dX8_init_107 rfl ?_
  refine J_aload_n X (pc := 110) dX8_init_110 0 rfl ?_
  refine J_bipush X (pc := 111) (v := 8) dX8_init_111 (by decide +kernel) ?_
  refine J_newa X (pc := 113) (atype := .int) (ty := .int) (N := 8) (t0 := 0) (a0 := (8, .inl (fun _ => 0))) (cA0 := E.2.2 0) q_4 rfl rfl (fun U cA h0 h1 => Option.some.inj (h1.symm.trans h0)) (fun _ => rfl) (by decide) (by decide) (Nat.le_of_ble_eq_true rfl) (Nat.le_of_ble_eq_true rfl) (Nat.le_of_ble_eq_true rfl) dX8_init_113 (fun q14 => ?_)
  show J E x 14 1232 [(h0, .inr (9, [.int 0, .int 0, .ref q1, .ref q2, .ref q3, .ref q4, .ref q5, .ref q6, .ref q7, .ref q8, .ref q9, .ref q10, .ref q11, .ref q12, .ref q13, .null, .null, .null, .null, .int 0, .null, .null, .null, .null, .null, .int 0, .int 0, .int 0, .int 0, .int 0])), (q1, .inl (E.2.2 0, 8, .inl (fun _ => 0))), (q2, .inl (E.2.2 0, 8, .inl (fun _ => 0))), (q3, .inl (E.2.2 0, 96, .inl (fun _ => 0))), (q4, .inl (E.2.2 0, 96, .inl (fun _ => 0))), (q5, .inl (E.2.2 0, 8, .inl (fun _ => 0))), (q6, .inl (E.2.2 0, 480, .inl (fun _ => 0))), (q7, .inl (E.2.2 0, 480, .inl (fun _ => 0))), (q8, .inl (E.2.2 0, 8, .inl (fun _ => 0))), (q9, .inl (E.2.2 0, 8, .inl (fun _ => 0))), (q10, .inl (E.2.2 1, 8, .inl (fun _ => 0))), (q11, .inl (E.2.2 1, 8, .inl (fun _ => 0))), (q12, .inl (E.2.2 1, 8, .inl (fun _ => 0))), (q13, .inl (E.2.2 0, 8, .inl (fun _ => 0))), (q14, .inl (E.2.2 0, 8, .inl (fun _ => 0)))] 115 [(0, .ref h0)] [.ref q14, .ref h0]
  refine J_putfF X (pc := 115) hin (ty := tyX8 15) (w1 := [(h0, .inr (9, [.int 0, .int 0, .ref q1, .ref q2, .ref q3, .ref q4, .ref q5, .ref q6, .ref q7, .ref q8, .ref q9, .ref q10, .ref q11, .ref q12, .ref q13, .ref q14, .null, .null, .null, .int 0, .null, .null, .null, .null, .null, .int 0, .int 0, .int 0, .int 0, .int 0])), (q1, .inl (E.2.2 0, 8, .inl (fun _ => 0))), (q2, .inl (E.2.2 0, 8, .inl (fun _ => 0))), (q3, .inl (E.2.2 0, 96, .inl (fun _ => 0))), (q4, .inl (E.2.2 0, 96, .inl (fun _ => 0))), (q5, .inl (E.2.2 0, 8, .inl (fun _ => 0))), (q6, .inl (E.2.2 0, 480, .inl (fun _ => 0))), (q7, .inl (E.2.2 0, 480, .inl (fun _ => 0))), (q8, .inl (E.2.2 0, 8, .inl (fun _ => 0))), (q9, .inl (E.2.2 0, 8, .inl (fun _ => 0))), (q10, .inl (E.2.2 1, 8, .inl (fun _ => 0))), (q11, .inl (E.2.2 1, 8, .inl (fun _ => 0))), (q12, .inl (E.2.2 1, 8, .inl (fun _ => 0))), (q13, .inl (E.2.2 0, 8, .inl (fun _ => 0))), (q14, .inl (E.2.2 0, 8, .inl (fun _ => 0)))]) 0 rfl rfl in_X8 tyX8_ok nmX8 15 (by decide) q_447 rfl rfl (by decide +kernel) rfl rfl (Nat.le_of_ble_eq_true rfl) dX8_init_115 rfl ?_
  refine J_aload_n X (pc := 118) dX8_init_118 0 rfl ?_
  refine J_bipush X (pc := 119) (v := 12) dX8_init_119 (by decide +kernel) ?_
  refine J_newa X (pc := 121) (atype := .int) (ty := .int) (N := 12) (t0 := 0) (a0 := (12, .inl (fun _ => 0))) (cA0 := E.2.2 0) q_4 rfl rfl (fun U cA h0 h1 => Option.some.inj (h1.symm.trans h0)) (fun _ => rfl) (by decide) (by decide) (Nat.le_of_ble_eq_true rfl) (Nat.le_of_ble_eq_true rfl) (Nat.le_of_ble_eq_true rfl) dX8_init_121 (fun q15 => ?_)
  show J E x 15 1244 [(h0, .inr (9, [.int 0, .int 0, .ref q1, .ref q2, .ref q3, .ref q4, .ref q5, .ref q6, .ref q7, .ref q8, .ref q9, .ref q10, .ref q11, .ref q12, .ref q13, .ref q14, .null, .null, .null, .int 0, .null, .null, .null, .null, .null, .int 0, .int 0, .int 0, .int 0, .int 0])), (q1, .inl (E.2.2 0, 8, .inl (fun _ => 0))), (q2, .inl (E.2.2 0, 8, .inl (fun _ => 0))), (q3, .inl (E.2.2 0, 96, .inl (fun _ => 0))), (q4, .inl (E.2.2 0, 96, .inl (fun _ => 0))), (q5, .inl (E.2.2 0, 8, .inl (fun _ => 0))), (q6, .inl (E.2.2 0, 480, .inl (fun _ => 0))), (q7, .inl (E.2.2 0, 480, .inl (fun _ => 0))), (q8, .inl (E.2.2 0, 8, .inl (fun _ => 0))), (q9, .inl (E.2.2 0, 8, .inl (fun _ => 0))), (q10, .inl (E.2.2 1, 8, .inl (fun _ => 0))), (q11, .inl (E.2.2 1, 8, .inl (fun _ => 0))), (q12, .inl (E.2.2 1, 8, .inl (fun _ => 0))), (q13, .inl (E.2.2 0, 8, .inl (fun _ => 0))), (q14, .inl (E.2.2 0, 8, .inl (fun _ => 0))), (q15, .inl (E.2.2 0, 12, .inl (fun _ => 0)))] 123 [(0, .ref h0)] [.ref q15, .ref h0]
  refine J_putfF X (pc := 123) hin (ty := tyX8 16) (w1 := [(h0, .inr (9, [.int 0, .int 0, .ref q1, .ref q2, .ref q3, .ref q4, .ref q5, .ref q6, .ref q7, .ref q8, .ref q9, .ref q10, .ref q11, .ref q12, .ref q13, .ref q14, .ref q15, .null, .null, .int 0, .null, .null, .null, .null, .null, .int 0, .int 0, .int 0, .int 0, .int 0])), (q1, .inl (E.2.2 0, 8, .inl (fun _ => 0))), (q2, .inl (E.2.2 0, 8, .inl (fun _ => 0))), (q3, .inl (E.2.2 0, 96, .inl (fun _ => 0))), (q4, .inl (E.2.2 0, 96, .inl (fun _ => 0))), (q5, .inl (E.2.2 0, 8, .inl (fun _ => 0))), (q6, .inl (E.2.2 0, 480, .inl (fun _ => 0))), (q7, .inl (E.2.2 0, 480, .inl (fun _ => 0))), (q8, .inl (E.2.2 0, 8, .inl (fun _ => 0))), (q9, .inl (E.2.2 0, 8, .inl (fun _ => 0))), (q10, .inl (E.2.2 1, 8, .inl (fun _ => 0))), (q11, .inl (E.2.2 1, 8, .inl (fun _ => 0))), (q12, .inl (E.2.2 1, 8, .inl (fun _ => 0))), (q13, .inl (E.2.2 0, 8, .inl (fun _ => 0))), (q14, .inl (E.2.2 0, 8, .inl (fun _ => 0))), (q15, .inl (E.2.2 0, 12, .inl (fun _ => 0)))]) 0 rfl rfl in_X8 tyX8_ok nmX8 16 (by decide) q_448 rfl rfl (by decide +kernel) rfl rfl (Nat.le_of_ble_eq_true rfl) dX8_init_123 rfl ?_
  refine J_aload_n X (pc := 126) dX8_init_126 0 rfl ?_
  refine J_bipush X (pc := 127) (v := 66) dX8_init_127 (by decide +kernel) ?_
  refine J_newa X (pc := 129) (atype := .int) (ty := .int) (N := 66) (t0 := 0) (a0 := (66, .inl (fun _ => 0))) (cA0 := E.2.2 0) q_4 rfl rfl (fun U cA h0 h1 => Option.some.inj (h1.symm.trans h0)) (fun _ => rfl) (by decide) (by decide) (Nat.le_of_ble_eq_true rfl) (Nat.le_of_ble_eq_true rfl) (Nat.le_of_ble_eq_true rfl) dX8_init_129 (fun q16 => ?_)
  show J E x 16 1310 [(h0, .inr (9, [.int 0, .int 0, .ref q1, .ref q2, .ref q3, .ref q4, .ref q5, .ref q6, .ref q7, .ref q8, .ref q9, .ref q10, .ref q11, .ref q12, .ref q13, .ref q14, .ref q15, .null, .null, .int 0, .null, .null, .null, .null, .null, .int 0, .int 0, .int 0, .int 0, .int 0])), (q1, .inl (E.2.2 0, 8, .inl (fun _ => 0))), (q2, .inl (E.2.2 0, 8, .inl (fun _ => 0))), (q3, .inl (E.2.2 0, 96, .inl (fun _ => 0))), (q4, .inl (E.2.2 0, 96, .inl (fun _ => 0))), (q5, .inl (E.2.2 0, 8, .inl (fun _ => 0))), (q6, .inl (E.2.2 0, 480, .inl (fun _ => 0))), (q7, .inl (E.2.2 0, 480, .inl (fun _ => 0))), (q8, .inl (E.2.2 0, 8, .inl (fun _ => 0))), (q9, .inl (E.2.2 0, 8, .inl (fun _ => 0))), (q10, .inl (E.2.2 1, 8, .inl (fun _ => 0))), (q11, .inl (E.2.2 1, 8, .inl (fun _ => 0))), (q12, .inl (E.2.2 1, 8, .inl (fun _ => 0))), (q13, .inl (E.2.2 0, 8, .inl (fun _ => 0))), (q14, .inl (E.2.2 0, 8, .inl (fun _ => 0))), (q15, .inl (E.2.2 0, 12, .inl (fun _ => 0))), (q16, .inl (E.2.2 0, 66, .inl (fun _ => 0)))] 131 [(0, .ref h0)] [.ref q16, .ref h0]
  refine J_putfF X (pc := 131) hin (ty := tyX8 17) (w1 := [(h0, .inr (9, [.int 0, .int 0, .ref q1, .ref q2, .ref q3, .ref q4, .ref q5, .ref q6, .ref q7, .ref q8, .ref q9, .ref q10, .ref q11, .ref q12, .ref q13, .ref q14, .ref q15, .ref q16, .null, .int 0, .null, .null, .null, .null, .null, .int 0, .int 0, .int 0, .int 0, .int 0])), (q1, .inl (E.2.2 0, 8, .inl (fun _ => 0))), (q2, .inl (E.2.2 0, 8, .inl (fun _ => 0))), (q3, .inl (E.2.2 0, 96, .inl (fun _ => 0))), (q4, .inl (E.2.2 0, 96, .inl (fun _ => 0))), (q5, .inl (E.2.2 0, 8, .inl (fun _ => 0))), (q6, .inl (E.2.2 0, 480, .inl (fun _ => 0))), (q7, .inl (E.2.2 0, 480, .inl (fun _ => 0))), (q8, .inl (E.2.2 0, 8, .inl (fun _ => 0))), (q9, .inl (E.2.2 0, 8, .inl (fun _ => 0))), (q10, .inl (E.2.2 1, 8, .inl (fun _ => 0))), (q11, .inl (E.2.2 1, 8, .inl (fun _ => 0))), (q12, .inl (E.2.2 1, 8, .inl (fun _ => 0))), (q13, .inl (E.2.2 0, 8, .inl (fun _ => 0))), (q14, .inl (E.2.2 0, 8, .inl (fun _ => 0))), (q15, .inl (E.2.2 0, 12, .inl (fun _ => 0))), (q16, .inl (E.2.2 0, 66, .inl (fun _ => 0)))]) 0 rfl rfl in_X8 tyX8_ok nmX8 17 (by decide) q_449 rfl rfl (by decide +kernel) rfl rfl (Nat.le_of_ble_eq_true rfl) dX8_init_131 rfl ?_
  refine J_aload_n X (pc := 134) dX8_init_134 0 rfl ?_
  refine J_bipush X (pc := 135) (v := 66) dX8_init_135 (by decide +kernel) ?_
  refine J_newa X (pc := 137) (atype := .int) (ty := .int) (N := 66) (t0 := 0) (a0 := (66, .inl (fun _ => 0))) (cA0 := E.2.2 0) q_4 rfl rfl (fun U cA h0 h1 => Option.some.inj (h1.symm.trans h0)) (fun _ => rfl) (by decide) (by decide) (Nat.le_of_ble_eq_true rfl) (Nat.le_of_ble_eq_true rfl) (Nat.le_of_ble_eq_true rfl) dX8_init_137 (fun q17 => ?_)
  show J E x 17 1376 [(h0, .inr (9, [.int 0, .int 0, .ref q1, .ref q2, .ref q3, .ref q4, .ref q5, .ref q6, .ref q7, .ref q8, .ref q9, .ref q10, .ref q11, .ref q12, .ref q13, .ref q14, .ref q15, .ref q16, .null, .int 0, .null, .null, .null, .null, .null, .int 0, .int 0, .int 0, .int 0, .int 0])), (q1, .inl (E.2.2 0, 8, .inl (fun _ => 0))), (q2, .inl (E.2.2 0, 8, .inl (fun _ => 0))), (q3, .inl (E.2.2 0, 96, .inl (fun _ => 0))), (q4, .inl (E.2.2 0, 96, .inl (fun _ => 0))), (q5, .inl (E.2.2 0, 8, .inl (fun _ => 0))), (q6, .inl (E.2.2 0, 480, .inl (fun _ => 0))), (q7, .inl (E.2.2 0, 480, .inl (fun _ => 0))), (q8, .inl (E.2.2 0, 8, .inl (fun _ => 0))), (q9, .inl (E.2.2 0, 8, .inl (fun _ => 0))), (q10, .inl (E.2.2 1, 8, .inl (fun _ => 0))), (q11, .inl (E.2.2 1, 8, .inl (fun _ => 0))), (q12, .inl (E.2.2 1, 8, .inl (fun _ => 0))), (q13, .inl (E.2.2 0, 8, .inl (fun _ => 0))), (q14, .inl (E.2.2 0, 8, .inl (fun _ => 0))), (q15, .inl (E.2.2 0, 12, .inl (fun _ => 0))), (q16, .inl (E.2.2 0, 66, .inl (fun _ => 0))), (q17, .inl (E.2.2 0, 66, .inl (fun _ => 0)))] 139 [(0, .ref h0)] [.ref q17, .ref h0]
  refine J_putfF X (pc := 139) hin (ty := tyX8 18) (w1 := [(h0, .inr (9, [.int 0, .int 0, .ref q1, .ref q2, .ref q3, .ref q4, .ref q5, .ref q6, .ref q7, .ref q8, .ref q9, .ref q10, .ref q11, .ref q12, .ref q13, .ref q14, .ref q15, .ref q16, .ref q17, .int 0, .null, .null, .null, .null, .null, .int 0, .int 0, .int 0, .int 0, .int 0])), (q1, .inl (E.2.2 0, 8, .inl (fun _ => 0))), (q2, .inl (E.2.2 0, 8, .inl (fun _ => 0))), (q3, .inl (E.2.2 0, 96, .inl (fun _ => 0))), (q4, .inl (E.2.2 0, 96, .inl (fun _ => 0))), (q5, .inl (E.2.2 0, 8, .inl (fun _ => 0))), (q6, .inl (E.2.2 0, 480, .inl (fun _ => 0))), (q7, .inl (E.2.2 0, 480, .inl (fun _ => 0))), (q8, .inl (E.2.2 0, 8, .inl (fun _ => 0))), (q9, .inl (E.2.2 0, 8, .inl (fun _ => 0))), (q10, .inl (E.2.2 1, 8, .inl (fun _ => 0))), (q11, .inl (E.2.2 1, 8, .inl (fun _ => 0))), (q12, .inl (E.2.2 1, 8, .inl (fun _ => 0))), (q13, .inl (E.2.2 0, 8, .inl (fun _ => 0))), (q14, .inl (E.2.2 0, 8, .inl (fun _ => 0))), (q15, .inl (E.2.2 0, 12, .inl (fun _ => 0))), (q16, .inl (E.2.2 0, 66, .inl (fun _ => 0))), (q17, .inl (E.2.2 0, 66, .inl (fun _ => 0)))]) 0 rfl rfl in_X8 tyX8_ok nmX8 18 (by decide) q_450 rfl rfl (by decide +kernel) rfl rfl (Nat.le_of_ble_eq_true rfl) dX8_init_139 rfl ?_
  refine J_aload_n X (pc := 142) dX8_init_142 0 rfl ?_
  refine J_bipush X (pc := 143) (v := 8) dX8_init_143 (by decide +kernel) ?_
  refine J_newa X (pc := 145) (atype := .int) (ty := .int) (N := 8) (t0 := 0) (a0 := (8, .inl (fun _ => 0))) (cA0 := E.2.2 0) q_4 rfl rfl (fun U cA h0 h1 => Option.some.inj (h1.symm.trans h0)) (fun _ => rfl) (by decide) (by decide) (Nat.le_of_ble_eq_true rfl) (Nat.le_of_ble_eq_true rfl) (Nat.le_of_ble_eq_true rfl) dX8_init_145 (fun q18 => ?_)
  show J E x 18 1384 [(h0, .inr (9, [.int 0, .int 0, .ref q1, .ref q2, .ref q3, .ref q4, .ref q5, .ref q6, .ref q7, .ref q8, .ref q9, .ref q10, .ref q11, .ref q12, .ref q13, .ref q14, .ref q15, .ref q16, .ref q17, .int 0, .null, .null, .null, .null, .null, .int 0, .int 0, .int 0, .int 0, .int 0])), (q1, .inl (E.2.2 0, 8, .inl (fun _ => 0))), (q2, .inl (E.2.2 0, 8, .inl (fun _ => 0))), (q3, .inl (E.2.2 0, 96, .inl (fun _ => 0))), (q4, .inl (E.2.2 0, 96, .inl (fun _ => 0))), (q5, .inl (E.2.2 0, 8, .inl (fun _ => 0))), (q6, .inl (E.2.2 0, 480, .inl (fun _ => 0))), (q7, .inl (E.2.2 0, 480, .inl (fun _ => 0))), (q8, .inl (E.2.2 0, 8, .inl (fun _ => 0))), (q9, .inl (E.2.2 0, 8, .inl (fun _ => 0))), (q10, .inl (E.2.2 1, 8, .inl (fun _ => 0))), (q11, .inl (E.2.2 1, 8, .inl (fun _ => 0))), (q12, .inl (E.2.2 1, 8, .inl (fun _ => 0))), (q13, .inl (E.2.2 0, 8, .inl (fun _ => 0))), (q14, .inl (E.2.2 0, 8, .inl (fun _ => 0))), (q15, .inl (E.2.2 0, 12, .inl (fun _ => 0))), (q16, .inl (E.2.2 0, 66, .inl (fun _ => 0))), (q17, .inl (E.2.2 0, 66, .inl (fun _ => 0))), (q18, .inl (E.2.2 0, 8, .inl (fun _ => 0)))] 147 [(0, .ref h0)] [.ref q18, .ref h0]
  refine J_putfF X (pc := 147) hin (ty := tyX8 20) (w1 := [(h0, .inr (9, [.int 0, .int 0, .ref q1, .ref q2, .ref q3, .ref q4, .ref q5, .ref q6, .ref q7, .ref q8, .ref q9, .ref q10, .ref q11, .ref q12, .ref q13, .ref q14, .ref q15, .ref q16, .ref q17, .int 0, .ref q18, .null, .null, .null, .null, .int 0, .int 0, .int 0, .int 0, .int 0])), (q1, .inl (E.2.2 0, 8, .inl (fun _ => 0))), (q2, .inl (E.2.2 0, 8, .inl (fun _ => 0))), (q3, .inl (E.2.2 0, 96, .inl (fun _ => 0))), (q4, .inl (E.2.2 0, 96, .inl (fun _ => 0))), (q5, .inl (E.2.2 0, 8, .inl (fun _ => 0))), (q6, .inl (E.2.2 0, 480, .inl (fun _ => 0))), (q7, .inl (E.2.2 0, 480, .inl (fun _ => 0))), (q8, .inl (E.2.2 0, 8, .inl (fun _ => 0))), (q9, .inl (E.2.2 0, 8, .inl (fun _ => 0))), (q10, .inl (E.2.2 1, 8, .inl (fun _ => 0))), (q11, .inl (E.2.2 1, 8, .inl (fun _ => 0))), (q12, .inl (E.2.2 1, 8, .inl (fun _ => 0))), (q13, .inl (E.2.2 0, 8, .inl (fun _ => 0))), (q14, .inl (E.2.2 0, 8, .inl (fun _ => 0))), (q15, .inl (E.2.2 0, 12, .inl (fun _ => 0))), (q16, .inl (E.2.2 0, 66, .inl (fun _ => 0))), (q17, .inl (E.2.2 0, 66, .inl (fun _ => 0))), (q18, .inl (E.2.2 0, 8, .inl (fun _ => 0)))]) 0 rfl rfl in_X8 tyX8_ok nmX8 20 (by decide) q_451 rfl rfl (by decide +kernel) rfl rfl (Nat.le_of_ble_eq_true rfl) dX8_init_147 rfl ?_
  refine J_aload_n X (pc := 150) dX8_init_150 0 rfl ?_
  refine J_bipush X (pc := 151) (v := 8) dX8_init_151 (by decide +kernel) ?_
  refine J_newa X (pc := 153) (atype := .int) (ty := .int) (N := 8) (t0 := 0) (a0 := (8, .inl (fun _ => 0))) (cA0 := E.2.2 0) q_4 rfl rfl (fun U cA h0 h1 => Option.some.inj (h1.symm.trans h0)) (fun _ => rfl) (by decide) (by decide) (Nat.le_of_ble_eq_true rfl) (Nat.le_of_ble_eq_true rfl) (Nat.le_of_ble_eq_true rfl) dX8_init_153 (fun q19 => ?_)
  show J E x 19 1392 [(h0, .inr (9, [.int 0, .int 0, .ref q1, .ref q2, .ref q3, .ref q4, .ref q5, .ref q6, .ref q7, .ref q8, .ref q9, .ref q10, .ref q11, .ref q12, .ref q13, .ref q14, .ref q15, .ref q16, .ref q17, .int 0, .ref q18, .null, .null, .null, .null, .int 0, .int 0, .int 0, .int 0, .int 0])), (q1, .inl (E.2.2 0, 8, .inl (fun _ => 0))), (q2, .inl (E.2.2 0, 8, .inl (fun _ => 0))), (q3, .inl (E.2.2 0, 96, .inl (fun _ => 0))), (q4, .inl (E.2.2 0, 96, .inl (fun _ => 0))), (q5, .inl (E.2.2 0, 8, .inl (fun _ => 0))), (q6, .inl (E.2.2 0, 480, .inl (fun _ => 0))), (q7, .inl (E.2.2 0, 480, .inl (fun _ => 0))), (q8, .inl (E.2.2 0, 8, .inl (fun _ => 0))), (q9, .inl (E.2.2 0, 8, .inl (fun _ => 0))), (q10, .inl (E.2.2 1, 8, .inl (fun _ => 0))), (q11, .inl (E.2.2 1, 8, .inl (fun _ => 0))), (q12, .inl (E.2.2 1, 8, .inl (fun _ => 0))), (q13, .inl (E.2.2 0, 8, .inl (fun _ => 0))), (q14, .inl (E.2.2 0, 8, .inl (fun _ => 0))), (q15, .inl (E.2.2 0, 12, .inl (fun _ => 0))), (q16, .inl (E.2.2 0, 66, .inl (fun _ => 0))), (q17, .inl (E.2.2 0, 66, .inl (fun _ => 0))), (q18, .inl (E.2.2 0, 8, .inl (fun _ => 0))), (q19, .inl (E.2.2 0, 8, .inl (fun _ => 0)))] 155 [(0, .ref h0)] [.ref q19, .ref h0]
  refine J_putfF X (pc := 155) hin (ty := tyX8 21) (w1 := [(h0, .inr (9, [.int 0, .int 0, .ref q1, .ref q2, .ref q3, .ref q4, .ref q5, .ref q6, .ref q7, .ref q8, .ref q9, .ref q10, .ref q11, .ref q12, .ref q13, .ref q14, .ref q15, .ref q16, .ref q17, .int 0, .ref q18, .ref q19, .null, .null, .null, .int 0, .int 0, .int 0, .int 0, .int 0])), (q1, .inl (E.2.2 0, 8, .inl (fun _ => 0))), (q2, .inl (E.2.2 0, 8, .inl (fun _ => 0))), (q3, .inl (E.2.2 0, 96, .inl (fun _ => 0))), (q4, .inl (E.2.2 0, 96, .inl (fun _ => 0))), (q5, .inl (E.2.2 0, 8, .inl (fun _ => 0))), (q6, .inl (E.2.2 0, 480, .inl (fun _ => 0))), (q7, .inl (E.2.2 0, 480, .inl (fun _ => 0))), (q8, .inl (E.2.2 0, 8, .inl (fun _ => 0))), (q9, .inl (E.2.2 0, 8, .inl (fun _ => 0))), (q10, .inl (E.2.2 1, 8, .inl (fun _ => 0))), (q11, .inl (E.2.2 1, 8, .inl (fun _ => 0))), (q12, .inl (E.2.2 1, 8, .inl (fun _ => 0))), (q13, .inl (E.2.2 0, 8, .inl (fun _ => 0))), (q14, .inl (E.2.2 0, 8, .inl (fun _ => 0))), (q15, .inl (E.2.2 0, 12, .inl (fun _ => 0))), (q16, .inl (E.2.2 0, 66, .inl (fun _ => 0))), (q17, .inl (E.2.2 0, 66, .inl (fun _ => 0))), (q18, .inl (E.2.2 0, 8, .inl (fun _ => 0))), (q19, .inl (E.2.2 0, 8, .inl (fun _ => 0)))]) 0 rfl rfl in_X8 tyX8_ok nmX8 21 (by decide) q_452 rfl rfl (by decide +kernel) rfl rfl (Nat.le_of_ble_eq_true rfl) dX8_init_155 rfl ?_
  refine J_aload_n X (pc := 158) dX8_init_158 0 rfl ?_
  refine J_bipush X (pc := 159) (v := 8) dX8_init_159 (by decide +kernel) ?_
  refine J_newa X (pc := 161) (atype := .int) (ty := .int) (N := 8) (t0 := 0) (a0 := (8, .inl (fun _ => 0))) (cA0 := E.2.2 0) q_4 rfl rfl (fun U cA h0 h1 => Option.some.inj (h1.symm.trans h0)) (fun _ => rfl) (by decide) (by decide) (Nat.le_of_ble_eq_true rfl) (Nat.le_of_ble_eq_true rfl) (Nat.le_of_ble_eq_true rfl) dX8_init_161 (fun q20 => ?_)
  show J E x 20 1400 [(h0, .inr (9, [.int 0, .int 0, .ref q1, .ref q2, .ref q3, .ref q4, .ref q5, .ref q6, .ref q7, .ref q8, .ref q9, .ref q10, .ref q11, .ref q12, .ref q13, .ref q14, .ref q15, .ref q16, .ref q17, .int 0, .ref q18, .ref q19, .null, .null, .null, .int 0, .int 0, .int 0, .int 0, .int 0])), (q1, .inl (E.2.2 0, 8, .inl (fun _ => 0))), (q2, .inl (E.2.2 0, 8, .inl (fun _ => 0))), (q3, .inl (E.2.2 0, 96, .inl (fun _ => 0))), (q4, .inl (E.2.2 0, 96, .inl (fun _ => 0))), (q5, .inl (E.2.2 0, 8, .inl (fun _ => 0))), (q6, .inl (E.2.2 0, 480, .inl (fun _ => 0))), (q7, .inl (E.2.2 0, 480, .inl (fun _ => 0))), (q8, .inl (E.2.2 0, 8, .inl (fun _ => 0))), (q9, .inl (E.2.2 0, 8, .inl (fun _ => 0))), (q10, .inl (E.2.2 1, 8, .inl (fun _ => 0))), (q11, .inl (E.2.2 1, 8, .inl (fun _ => 0))), (q12, .inl (E.2.2 1, 8, .inl (fun _ => 0))), (q13, .inl (E.2.2 0, 8, .inl (fun _ => 0))), (q14, .inl (E.2.2 0, 8, .inl (fun _ => 0))), (q15, .inl (E.2.2 0, 12, .inl (fun _ => 0))), (q16, .inl (E.2.2 0, 66, .inl (fun _ => 0))), (q17, .inl (E.2.2 0, 66, .inl (fun _ => 0))), (q18, .inl (E.2.2 0, 8, .inl (fun _ => 0))), (q19, .inl (E.2.2 0, 8, .inl (fun _ => 0))), (q20, .inl (E.2.2 0, 8, .inl (fun _ => 0)))] 163 [(0, .ref h0)] [.ref q20, .ref h0]
  refine J_putfF X (pc := 163) hin (ty := tyX8 22) (w1 := [(h0, .inr (9, [.int 0, .int 0, .ref q1, .ref q2, .ref q3, .ref q4, .ref q5, .ref q6, .ref q7, .ref q8, .ref q9, .ref q10, .ref q11, .ref q12, .ref q13, .ref q14, .ref q15, .ref q16, .ref q17, .int 0, .ref q18, .ref q19, .ref q20, .null, .null, .int 0, .int 0, .int 0, .int 0, .int 0])), (q1, .inl (E.2.2 0, 8, .inl (fun _ => 0))), (q2, .inl (E.2.2 0, 8, .inl (fun _ => 0))), (q3, .inl (E.2.2 0, 96, .inl (fun _ => 0))), (q4, .inl (E.2.2 0, 96, .inl (fun _ => 0))), (q5, .inl (E.2.2 0, 8, .inl (fun _ => 0))), (q6, .inl (E.2.2 0, 480, .inl (fun _ => 0))), (q7, .inl (E.2.2 0, 480, .inl (fun _ => 0))), (q8, .inl (E.2.2 0, 8, .inl (fun _ => 0))), (q9, .inl (E.2.2 0, 8, .inl (fun _ => 0))), (q10, .inl (E.2.2 1, 8, .inl (fun _ => 0))), (q11, .inl (E.2.2 1, 8, .inl (fun _ => 0))), (q12, .inl (E.2.2 1, 8, .inl (fun _ => 0))), (q13, .inl (E.2.2 0, 8, .inl (fun _ => 0))), (q14, .inl (E.2.2 0, 8, .inl (fun _ => 0))), (q15, .inl (E.2.2 0, 12, .inl (fun _ => 0))), (q16, .inl (E.2.2 0, 66, .inl (fun _ => 0))), (q17, .inl (E.2.2 0, 66, .inl (fun _ => 0))), (q18, .inl (E.2.2 0, 8, .inl (fun _ => 0))), (q19, .inl (E.2.2 0, 8, .inl (fun _ => 0))), (q20, .inl (E.2.2 0, 8, .inl (fun _ => 0)))]) 0 rfl rfl in_X8 tyX8_ok nmX8 22 (by decide) q_453 rfl rfl (by decide +kernel) rfl rfl (Nat.le_of_ble_eq_true rfl) dX8_init_163 rfl ?_
  refine J_aload_n X (pc := 166) dX8_init_166 0 rfl ?_
  refine J_bipush X (pc := 167) (v := 8) dX8_init_167 (by decide +kernel) ?_
  refine J_newa X (pc := 169) (atype := .int) (ty := .int) (N := 8) (t0 := 0) (a0 := (8, .inl (fun _ => 0))) (cA0 := E.2.2 0) q_4 rfl rfl (fun U cA h0 h1 => Option.some.inj (h1.symm.trans h0)) (fun _ => rfl) (by decide) (by decide) (Nat.le_of_ble_eq_true rfl) (Nat.le_of_ble_eq_true rfl) (Nat.le_of_ble_eq_true rfl) dX8_init_169 (fun q21 => ?_)
  show J E x 21 1408 [(h0, .inr (9, [.int 0, .int 0, .ref q1, .ref q2, .ref q3, .ref q4, .ref q5, .ref q6, .ref q7, .ref q8, .ref q9, .ref q10, .ref q11, .ref q12, .ref q13, .ref q14, .ref q15, .ref q16, .ref q17, .int 0, .ref q18, .ref q19, .ref q20, .null, .null, .int 0, .int 0, .int 0, .int 0, .int 0])), (q1, .inl (E.2.2 0, 8, .inl (fun _ => 0))), (q2, .inl (E.2.2 0, 8, .inl (fun _ => 0))), (q3, .inl (E.2.2 0, 96, .inl (fun _ => 0))), (q4, .inl (E.2.2 0, 96, .inl (fun _ => 0))), (q5, .inl (E.2.2 0, 8, .inl (fun _ => 0))), (q6, .inl (E.2.2 0, 480, .inl (fun _ => 0))), (q7, .inl (E.2.2 0, 480, .inl (fun _ => 0))), (q8, .inl (E.2.2 0, 8, .inl (fun _ => 0))), (q9, .inl (E.2.2 0, 8, .inl (fun _ => 0))), (q10, .inl (E.2.2 1, 8, .inl (fun _ => 0))), (q11, .inl (E.2.2 1, 8, .inl (fun _ => 0))), (q12, .inl (E.2.2 1, 8, .inl (fun _ => 0))), (q13, .inl (E.2.2 0, 8, .inl (fun _ => 0))), (q14, .inl (E.2.2 0, 8, .inl (fun _ => 0))), (q15, .inl (E.2.2 0, 12, .inl (fun _ => 0))), (q16, .inl (E.2.2 0, 66, .inl (fun _ => 0))), (q17, .inl (E.2.2 0, 66, .inl (fun _ => 0))), (q18, .inl (E.2.2 0, 8, .inl (fun _ => 0))), (q19, .inl (E.2.2 0, 8, .inl (fun _ => 0))), (q20, .inl (E.2.2 0, 8, .inl (fun _ => 0))), (q21, .inl (E.2.2 0, 8, .inl (fun _ => 0)))] 171 [(0, .ref h0)] [.ref q21, .ref h0]
  refine J_putfF X (pc := 171) hin (ty := tyX8 23) (w1 := [(h0, .inr (9, [.int 0, .int 0, .ref q1, .ref q2, .ref q3, .ref q4, .ref q5, .ref q6, .ref q7, .ref q8, .ref q9, .ref q10, .ref q11, .ref q12, .ref q13, .ref q14, .ref q15, .ref q16, .ref q17, .int 0, .ref q18, .ref q19, .ref q20, .ref q21, .null, .int 0, .int 0, .int 0, .int 0, .int 0])), (q1, .inl (E.2.2 0, 8, .inl (fun _ => 0))), (q2, .inl (E.2.2 0, 8, .inl (fun _ => 0))), (q3, .inl (E.2.2 0, 96, .inl (fun _ => 0))), (q4, .inl (E.2.2 0, 96, .inl (fun _ => 0))), (q5, .inl (E.2.2 0, 8, .inl (fun _ => 0))), (q6, .inl (E.2.2 0, 480, .inl (fun _ => 0))), (q7, .inl (E.2.2 0, 480, .inl (fun _ => 0))), (q8, .inl (E.2.2 0, 8, .inl (fun _ => 0))), (q9, .inl (E.2.2 0, 8, .inl (fun _ => 0))), (q10, .inl (E.2.2 1, 8, .inl (fun _ => 0))), (q11, .inl (E.2.2 1, 8, .inl (fun _ => 0))), (q12, .inl (E.2.2 1, 8, .inl (fun _ => 0))), (q13, .inl (E.2.2 0, 8, .inl (fun _ => 0))), (q14, .inl (E.2.2 0, 8, .inl (fun _ => 0))), (q15, .inl (E.2.2 0, 12, .inl (fun _ => 0))), (q16, .inl (E.2.2 0, 66, .inl (fun _ => 0))), (q17, .inl (E.2.2 0, 66, .inl (fun _ => 0))), (q18, .inl (E.2.2 0, 8, .inl (fun _ => 0))), (q19, .inl (E.2.2 0, 8, .inl (fun _ => 0))), (q20, .inl (E.2.2 0, 8, .inl (fun _ => 0))), (q21, .inl (E.2.2 0, 8, .inl (fun _ => 0)))]) 0 rfl rfl in_X8 tyX8_ok nmX8 23 (by decide) q_454 rfl rfl (by decide +kernel) rfl rfl (Nat.le_of_ble_eq_true rfl) dX8_init_171 rfl ?_
  refine J_aload_n X (pc := 174) dX8_init_174 0 rfl ?_
  refine J_bipush X (pc := 175) (v := 8) dX8_init_175 (by decide +kernel) ?_
  refine J_newa X (pc := 177) (atype := .int) (ty := .int) (N := 8) (t0 := 0) (a0 := (8, .inl (fun _ => 0))) (cA0 := E.2.2 0) q_4 rfl rfl (fun U cA h0 h1 => Option.some.inj (h1.symm.trans h0)) (fun _ => rfl) (by decide) (by decide) (Nat.le_of_ble_eq_true rfl) (Nat.le_of_ble_eq_true rfl) (Nat.le_of_ble_eq_true rfl) dX8_init_177 (fun q22 => ?_)
  show J E x 22 1416 [(h0, .inr (9, [.int 0, .int 0, .ref q1, .ref q2, .ref q3, .ref q4, .ref q5, .ref q6, .ref q7, .ref q8, .ref q9, .ref q10, .ref q11, .ref q12, .ref q13, .ref q14, .ref q15, .ref q16, .ref q17, .int 0, .ref q18, .ref q19, .ref q20, .ref q21, .null, .int 0, .int 0, .int 0, .int 0, .int 0])), (q1, .inl (E.2.2 0, 8, .inl (fun _ => 0))), (q2, .inl (E.2.2 0, 8, .inl (fun _ => 0))), (q3, .inl (E.2.2 0, 96, .inl (fun _ => 0))), (q4, .inl (E.2.2 0, 96, .inl (fun _ => 0))), (q5, .inl (E.2.2 0, 8, .inl (fun _ => 0))), (q6, .inl (E.2.2 0, 480, .inl (fun _ => 0))), (q7, .inl (E.2.2 0, 480, .inl (fun _ => 0))), (q8, .inl (E.2.2 0, 8, .inl (fun _ => 0))), (q9, .inl (E.2.2 0, 8, .inl (fun _ => 0))), (q10, .inl (E.2.2 1, 8, .inl (fun _ => 0))), (q11, .inl (E.2.2 1, 8, .inl (fun _ => 0))), (q12, .inl (E.2.2 1, 8, .inl (fun _ => 0))), (q13, .inl (E.2.2 0, 8, .inl (fun _ => 0))), (q14, .inl (E.2.2 0, 8, .inl (fun _ => 0))), (q15, .inl (E.2.2 0, 12, .inl (fun _ => 0))), (q16, .inl (E.2.2 0, 66, .inl (fun _ => 0))), (q17, .inl (E.2.2 0, 66, .inl (fun _ => 0))), (q18, .inl (E.2.2 0, 8, .inl (fun _ => 0))), (q19, .inl (E.2.2 0, 8, .inl (fun _ => 0))), (q20, .inl (E.2.2 0, 8, .inl (fun _ => 0))), (q21, .inl (E.2.2 0, 8, .inl (fun _ => 0))), (q22, .inl (E.2.2 0, 8, .inl (fun _ => 0)))] 179 [(0, .ref h0)] [.ref q22, .ref h0]
  refine J_putfF X (pc := 179) hin (ty := tyX8 24) (w1 := [(h0, .inr (9, [.int 0, .int 0, .ref q1, .ref q2, .ref q3, .ref q4, .ref q5, .ref q6, .ref q7, .ref q8, .ref q9, .ref q10, .ref q11, .ref q12, .ref q13, .ref q14, .ref q15, .ref q16, .ref q17, .int 0, .ref q18, .ref q19, .ref q20, .ref q21, .ref q22, .int 0, .int 0, .int 0, .int 0, .int 0])), (q1, .inl (E.2.2 0, 8, .inl (fun _ => 0))), (q2, .inl (E.2.2 0, 8, .inl (fun _ => 0))), (q3, .inl (E.2.2 0, 96, .inl (fun _ => 0))), (q4, .inl (E.2.2 0, 96, .inl (fun _ => 0))), (q5, .inl (E.2.2 0, 8, .inl (fun _ => 0))), (q6, .inl (E.2.2 0, 480, .inl (fun _ => 0))), (q7, .inl (E.2.2 0, 480, .inl (fun _ => 0))), (q8, .inl (E.2.2 0, 8, .inl (fun _ => 0))), (q9, .inl (E.2.2 0, 8, .inl (fun _ => 0))), (q10, .inl (E.2.2 1, 8, .inl (fun _ => 0))), (q11, .inl (E.2.2 1, 8, .inl (fun _ => 0))), (q12, .inl (E.2.2 1, 8, .inl (fun _ => 0))), (q13, .inl (E.2.2 0, 8, .inl (fun _ => 0))), (q14, .inl (E.2.2 0, 8, .inl (fun _ => 0))), (q15, .inl (E.2.2 0, 12, .inl (fun _ => 0))), (q16, .inl (E.2.2 0, 66, .inl (fun _ => 0))), (q17, .inl (E.2.2 0, 66, .inl (fun _ => 0))), (q18, .inl (E.2.2 0, 8, .inl (fun _ => 0))), (q19, .inl (E.2.2 0, 8, .inl (fun _ => 0))), (q20, .inl (E.2.2 0, 8, .inl (fun _ => 0))), (q21, .inl (E.2.2 0, 8, .inl (fun _ => 0))), (q22, .inl (E.2.2 0, 8, .inl (fun _ => 0)))]) 0 rfl rfl in_X8 tyX8_ok nmX8 24 (by decide) q_455 rfl rfl (by decide +kernel) rfl rfl (Nat.le_of_ble_eq_true rfl) dX8_init_179 rfl ?_
  refine J_subw (w1 := mW E (fun i => ([h0, q1, q2, q3, q4, q5, q6, q7, q8, q9, q10, q11, q12, q13, q14, q15, q16, q17, q18, q19, q20, q21, q22] : List Nat).getD i 0) initM) [0, 1, 2, 3, 4, 5, 6, 7, 8, 9, 10, 11, 12, 13, 14, 15, 16, 17, 18, 19, 20, 21, 22] rfl rfl ?_
  exact hE (fun i => ([h0, q1, q2, q3, q4, q5, q6, q7, q8, q9, q10, q11, q12, q13, q14, q15, q16, q17, q18, q19, q20, q21, q22] : List Nat).getD i 0) rfl _ _ dX8_init_182
end
