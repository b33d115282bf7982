def xc {α : Type} (a b : Option α) : Option α := match a with | some v => some v | none => b
theorem xc_e {α : Type} {a b : Option α} {r : α} (h : xc a b = some r) : a = some r ∨ b = some r := by
  cases a with
  | none => exact Or.inr h
  | some v => exact Or.inl h
theorem J_app0 {E : Ev} {x : Cx} {k n : Nat} {w : va_W} {pc : Nat} {lv : List (Nat × Value)} {st : List Value} (h : J E x k n (w ++ []) pc lv st) : J E x k n w pc lv st := by
  rw [List.append_nil] at h; exact h
theorem J_app1 {E : Ev} {x : Cx} {k n : Nat} {w : va_W} {pc : Nat} {lv : List (Nat × Value)} {st : List Value} (h : J E x k n w pc lv st) : J E x k n (w ++ []) pc lv st := by
  rw [List.append_nil]; exact h
def f_X7_dayOrNone (a1 : Int32) : Option (Int32) := if a1 = ((1000000 : Int32)) then some ((-1 : Int32)) else some a1
set_option maxRecDepth 100000 in
set_option maxHeartbeats 4000000 in
theorem c_X7_dayOrNone (E : Ev) (w : va_W) {a1 : Int32} {r : Int32} (h : f_X7_dayOrNone a1 = some r) : CtI E yX7_dayOrNone cX7_dayOrNone 1 .int 0 0 w [.int a1] r w := by
  refine CtI_of (by decide +kernel) (Nat.le_of_ble_eq_true rfl) (fun x X hE => ?_)
  show J E x 0 0 w 0 [(0, .int a1)] []
  unfold f_X7_dayOrNone at h
  refine J_iload_n X (pc := 0) dX7_dayOrNone_0 0 rfl ?_
  refine J_ldc X (pc := 1) dX7_dayOrNone_1 q_323 ?_
  refine J_icmp_ne X (pc := 3) 10 dX7_dayOrNone_3 (by decide) (fun c1 => ?_) (fun c1 => ?_)
  · rw [if_neg c1] at h
    refine J_iload_n X (pc := 10) dX7_dayOrNone_10 0 rfl ?_
    cases h
    exact hE _ _ dX7_dayOrNone_11 rfl
  · rw [if_pos c1] at h
    refine J_iconst X (pc := 6) (v := -1) dX7_dayOrNone_6 (by decide +kernel) ?_
    refine J_goto X (pc := 7) 11 dX7_dayOrNone_7 (by decide) ?_
    cases h
    exact hE _ _ dX7_dayOrNone_11 rfl
def f_X7_isInPool (a1 : Int32) (a2 : Int32) : Option (Int32) := if (((a1.toUInt32 >>> (a2.toUInt32 &&& Int32.toUInt32 31)).toInt32) &&& ((1 : Int32))) = ((1 : Int32)) then some ((1 : Int32)) else some ((0 : Int32))
set_option maxRecDepth 100000 in
set_option maxHeartbeats 4000000 in
theorem c_X7_isInPool (E : Ev) (w : va_W) {a1 : Int32} {a2 : Int32} {r : Int32} (h : f_X7_isInPool a1 a2 = some r) : CtI E yX7_isInPool cX7_isInPool 2 .boolean 0 0 w [.int a1, .int a2] r w := by
  refine CtI_of (by decide +kernel) (Nat.le_of_ble_eq_true rfl) (fun x X hE => ?_)
  show J E x 0 0 w 0 [(0, .int a1), (1, .int a2)] []
  unfold f_X7_isInPool at h
  refine J_iload_n X (pc := 0) dX7_isInPool_0 0 rfl ?_
  refine J_iload_n X (pc := 1) dX7_isInPool_1 1 rfl ?_
  refine J_iushr X (pc := 2) dX7_isInPool_2 ?_
  refine J_iconst X (pc := 3) (v := 1) dX7_isInPool_3 (by decide +kernel) ?_
  refine J_iand X (pc := 4) dX7_isInPool_4 ?_
  refine J_iconst X (pc := 5) (v := 1) dX7_isInPool_5 (by decide +kernel) ?_
  refine J_icmp_ne X (pc := 6) 13 dX7_isInPool_6 (by decide) (fun c1 => ?_) (fun c1 => ?_)
  · rw [if_neg c1] at h
    refine J_iconst X (pc := 13) (v := 0) dX7_isInPool_13 (by decide +kernel) ?_
    cases h
    exact hE _ _ dX7_isInPool_14 (by decide +kernel)
  · rw [if_pos c1] at h
    refine J_iconst X (pc := 9) (v := 1) dX7_isInPool_9 (by decide +kernel) ?_
    refine J_goto X (pc := 10) 14 dX7_isInPool_10 (by decide) ?_
    cases h
    exact hE _ _ dX7_isInPool_14 (by decide +kernel)
def f_X7_demandRange (a1 : Int32) (a2 : Int32) (a3 : Int32) : Option (Unit) := if a1 < a2 then none else if a1 ≤ a3 then some () else none
theorem f_demand_ok {a1 a2 a3 : Int32} (h : a2 ≤ a1 ∧ a1 ≤ a3) : f_X7_demandRange a1 a2 a3 = some () := by
  unfold f_X7_demandRange
  rw [if_neg (Int32.not_lt.mpr h.1), if_pos h.2]
set_option maxRecDepth 100000 in
set_option maxHeartbeats 4000000 in
theorem c_X7_demandRange (E : Ev) (w : va_W) {a1 : Int32} {a2 : Int32} {a3 : Int32} (h0 : a2 ≤ a1 ∧ a1 ≤ a3) : CtV E yX7_demandRange cX7_demandRange 3 0 0 w [.int a1, .int a2, .int a3] w := by
  have h : f_X7_demandRange a1 a2 a3 = some () := f_demand_ok h0
  refine CtV_of (by decide +kernel) (Nat.le_of_ble_eq_true rfl) (fun x X hE => ?_)
  show J E x 0 0 w 0 [(0, .int a1), (1, .int a2), (2, .int a3)] []
  unfold f_X7_demandRange at h
  refine J_iload_n X (pc := 0) dX7_demandRange_0 0 rfl ?_
  refine J_iload_n X (pc := 1) dX7_demandRange_1 1 rfl ?_
  refine J_icmp_lt X (pc := 2) 10 dX7_demandRange_2 (by decide) (fun c1 => ?_) (fun c1 => ?_)
  · rw [if_pos c1] at h
    cases h
  · rw [if_neg c1] at h
    refine J_iload_n X (pc := 5) dX7_demandRange_5 0 rfl ?_
    refine J_iload_n X (pc := 6) dX7_demandRange_6 2 rfl ?_
    refine J_icmp_le X (pc := 7) 20 dX7_demandRange_7 (by decide) (fun c2 => ?_) (fun c2 => ?_)
    · rw [if_pos c2] at h
      cases h
      exact hE _ _ dX7_demandRange_20
    · rw [if_neg c2] at h
      cases h
def x_X7_demandRange (a1 : Int32) (a2 : Int32) (a3 : Int32) : Option (String) := if a1 < a2 then some "java/lang/IllegalArgumentException" else if a1 ≤ a3 then none else some "java/lang/IllegalArgumentException"
set_option maxRecDepth 100000 in
set_option maxHeartbeats 4000000 in
theorem t_X7_demandRange (E : Ev) (w : va_W) {a1 : Int32} {a2 : Int32} {a3 : Int32} {Ex : String} (h : x_X7_demandRange a1 a2 a3 = some Ex) : CtT E yX7_demandRange cX7_demandRange 3 none 6 84 w [.int a1, .int a2, .int a3] Ex w := by
  refine CtT_of (by decide +kernel) (Nat.le_of_ble_eq_true rfl) (fun x X XX IT => ?_)
  show J E x 0 0 w 0 [(0, .int a1), (1, .int a2), (2, .int a3)] []
  unfold x_X7_demandRange at h
  refine J_iload_n X (pc := 0) dX7_demandRange_0 0 rfl ?_
  refine J_iload_n X (pc := 1) dX7_demandRange_1 1 rfl ?_
  refine J_icmp_lt X (pc := 2) 10 dX7_demandRange_2 (by decide) (fun c1 => ?_) (fun c1 => ?_)
  · rw [if_pos c1] at h
    cases h
    exact J_throwS (text := "out of range") X XX IT (by decide +kernel) q_273 q_274 xs_157 (by decide +kernel) inv_144 (by decide +kernel) dX7_demandRange_10 dX7_demandRange_13 dX7_demandRange_14 dX7_demandRange_16 dX7_demandRange_19 (Nat.le_of_ble_eq_true rfl) (Nat.le_of_ble_eq_true rfl) (Nat.le_of_ble_eq_true rfl) (Nat.le_of_ble_eq_true rfl) (Nat.le_of_ble_eq_true rfl) (Nat.le_of_ble_eq_true rfl)
  · rw [if_neg c1] at h
    refine J_iload_n X (pc := 5) dX7_demandRange_5 0 rfl ?_
    refine J_iload_n X (pc := 6) dX7_demandRange_6 2 rfl ?_
    refine J_icmp_le X (pc := 7) 20 dX7_demandRange_7 (by decide) (fun c2 => ?_) (fun c2 => ?_)
    · rw [if_pos c2] at h
      cases h
    · rw [if_neg c2] at h
      cases h
      exact J_throwS (text := "out of range") X XX IT (by decide +kernel) q_273 q_274 xs_157 (by decide +kernel) inv_144 (by decide +kernel) dX7_demandRange_10 dX7_demandRange_13 dX7_demandRange_14 dX7_demandRange_16 dX7_demandRange_19 (Nat.le_of_ble_eq_true rfl) (Nat.le_of_ble_eq_true rfl) (Nat.le_of_ble_eq_true rfl) (Nat.le_of_ble_eq_true rfl) (Nat.le_of_ble_eq_true rfl) (Nat.le_of_ble_eq_true rfl)
def f_X7_storeAt (a1 : Int32) (T : TS) : Option (Unit) := if a1 < 0 then none else if a1 < (nI T.2.1) then ck (inS T a1) (some ()) else none
theorem f_storeAt_ok {a1 : Int32} {T : TS} (h : inS T a1) : f_X7_storeAt a1 T = some () := by
  unfold f_X7_storeAt
  rw [if_neg (Int32.not_lt.mpr h.1), if_pos h.2.1]
  unfold ck
  rw [if_pos h]
set_option maxRecDepth 100000 in
set_option maxHeartbeats 4000000 in
theorem c_X7_storeAt (E : Ev) (ad : CA) {a1 : Int32} {T : TS} (h0 : inS T a1) : CtR E yX7_storeAt cX7_storeAt 2 (.object "RoomForecast$Store") 3 64 0 0 (cW E ad T) [.ref (ad.1 0), .int a1] (fun (_ : Unit) => ad.2 a1.toNatClampNeg 0) (fun _ => True) (fun _ => (cW E ad T)) := by
  have h : f_X7_storeAt a1 T = some () := f_storeAt_ok h0
  refine CtR_of (by decide +kernel) (Nat.le_of_ble_eq_true rfl) (fun x X _ hE => ?_)
  show J E x 0 0 (cW E ad T) 0 [(0, .ref (ad.1 0)), (1, .int a1)] []
  unfold f_X7_storeAt at h
  refine J_iload_n X (pc := 0) dX7_storeAt_0 1 rfl ?_
  refine J_if_lt X (pc := 1) 15 dX7_storeAt_1 (by decide) (fun c1 => ?_) (fun c1 => ?_)
  · rw [if_pos c1] at h
    cases h
  · rw [if_neg c1] at h
    refine J_iload_n X (pc := 4) dX7_storeAt_4 1 rfl ?_
    refine J_aload_n X (pc := 5) dX7_storeAt_5 0 rfl ?_
    refine J_getf X (pc := 6) 0 cW_c0 rfl in_X7 0 (by decide) q_268 rfl dX7_storeAt_6 ?_
    refine J_size X (pc := 9) q_328 ⟨Nat.le_of_ble_eq_true rfl, Nat.le_of_ble_eq_true rfl⟩ (Nat.le_of_ble_eq_true rfl) ⟨Nat.zero_le _, Nat.zero_le _⟩ dX7_storeAt_9 ?_
    refine J_icmp_lt X (pc := 12) 25 dX7_storeAt_12 (by decide) (fun c2 => ?_) (fun c2 => ?_)
    · rw [if_pos c2] at h
      refine J_aload_n X (pc := 25) dX7_storeAt_25 0 rfl ?_
      refine J_getf X (pc := 26) 0 cW_c0 rfl in_X7 0 (by decide) q_268 rfl dX7_storeAt_26 ?_
      refine J_iload_n X (pc := 29) dX7_storeAt_29 1 rfl ?_
      replace h := ck_e h
      obtain ⟨b3, h⟩ := h
      refine J_get X (pc := 30) b3 q_353 ⟨Nat.le_of_ble_eq_true rfl, Nat.le_of_ble_eq_true rfl⟩ (Nat.le_of_ble_eq_true rfl) ⟨Nat.zero_le _, Nat.zero_le _⟩ dX7_storeAt_30 ?_
      refine J_cast X (pc := 33) (cast_mem (inS_lt b3)) rfl q_352 dX7_storeAt_33 ?_
      cases h
      exact hE () trivial _ _ dX7_storeAt_36 (Or.inl ⟨_, rfl⟩)
    · rw [if_neg c2] at h
      cases h
def x_X7_storeAt (a1 : Int32) (T : TS) : Option (String × TS) := if a1 < 0 then some ("java/lang/IndexOutOfBoundsException", T) else if a1 < (nI T.2.1) then ck (inS T a1) (none) else some ("java/lang/IndexOutOfBoundsException", T)
set_option maxRecDepth 100000 in
set_option maxHeartbeats 4000000 in
theorem t_X7_storeAt (E : Ev) (ad : CA) {a1 : Int32} {T : TS} {Ex : String} {T2 : TS} (h : x_X7_storeAt a1 T = some (Ex, T2)) : CtT E yX7_storeAt cX7_storeAt 2 (some (.object "RoomForecast$Store")) 6 84 (cW E ad T) [.ref (ad.1 0), .int a1] Ex (cW E ad T2) := by
  refine CtT_of (by decide +kernel) (Nat.le_of_ble_eq_true rfl) (fun x X XX IT => ?_)
  show J E x 0 0 (cW E ad T) 0 [(0, .ref (ad.1 0)), (1, .int a1)] []
  unfold x_X7_storeAt at h
  refine J_iload_n X (pc := 0) dX7_storeAt_0 1 rfl ?_
  refine J_if_lt X (pc := 1) 15 dX7_storeAt_1 (by decide) (fun c1 => ?_) (fun c1 => ?_)
  · rw [if_pos c1] at h
    cases h
    exact J_throwS (text := "no such store") X XX IT (by decide +kernel) q_350 q_351 xs_161 (by decide +kernel) inv_163 (by decide +kernel) dX7_storeAt_15 dX7_storeAt_18 dX7_storeAt_19 dX7_storeAt_21 dX7_storeAt_24 (Nat.le_of_ble_eq_true rfl) (Nat.le_of_ble_eq_true rfl) (Nat.le_of_ble_eq_true rfl) (Nat.le_of_ble_eq_true rfl) (Nat.le_of_ble_eq_true rfl) (Nat.le_of_ble_eq_true rfl)
  · rw [if_neg c1] at h
    refine J_iload_n X (pc := 4) dX7_storeAt_4 1 rfl ?_
    refine J_aload_n X (pc := 5) dX7_storeAt_5 0 rfl ?_
    refine J_getf X (pc := 6) 0 cW_c0 rfl in_X7 0 (by decide) q_268 rfl dX7_storeAt_6 ?_
    refine J_size X (pc := 9) q_328 ⟨Nat.le_of_ble_eq_true rfl, Nat.le_of_ble_eq_true rfl⟩ (Nat.le_of_ble_eq_true rfl) ⟨Nat.zero_le _, Nat.zero_le _⟩ dX7_storeAt_9 ?_
    refine J_icmp_lt X (pc := 12) 25 dX7_storeAt_12 (by decide) (fun c2 => ?_) (fun c2 => ?_)
    · rw [if_pos c2] at h
      refine J_aload_n X (pc := 25) dX7_storeAt_25 0 rfl ?_
      refine J_getf X (pc := 26) 0 cW_c0 rfl in_X7 0 (by decide) q_268 rfl dX7_storeAt_26 ?_
      refine J_iload_n X (pc := 29) dX7_storeAt_29 1 rfl ?_
      replace h := ck_e h
      obtain ⟨b3, h⟩ := h
      refine J_get X (pc := 30) b3 q_353 ⟨Nat.le_of_ble_eq_true rfl, Nat.le_of_ble_eq_true rfl⟩ (Nat.le_of_ble_eq_true rfl) ⟨Nat.zero_le _, Nat.zero_le _⟩ dX7_storeAt_30 ?_
      refine J_cast X (pc := 33) (cast_mem (inS_lt b3)) rfl q_352 dX7_storeAt_33 ?_
      cases h
    · rw [if_neg c2] at h
      cases h
      exact J_throwS (text := "no such store") X XX IT (by decide +kernel) q_350 q_351 xs_161 (by decide +kernel) inv_163 (by decide +kernel) dX7_storeAt_15 dX7_storeAt_18 dX7_storeAt_19 dX7_storeAt_21 dX7_storeAt_24 (Nat.le_of_ble_eq_true rfl) (Nat.le_of_ble_eq_true rfl) (Nat.le_of_ble_eq_true rfl) (Nat.le_of_ble_eq_true rfl) (Nat.le_of_ble_eq_true rfl) (Nat.le_of_ble_eq_true rfl)
def f_X7_slopeOf (a1 : Int32) (T : TS) : Option (TS) := ck (inS T a1) ((f_X5_hasSlope (T.2.2 a1.toNatClampNeg)).bind (fun (r3 : Int32) => if r3 = 0 then none else (f_X5_drawLineWithout ((-1 : Int32)) (T.2.2 a1.toNatClampNeg)).bind (fun (S6 : St) => nmv (setT T a1.toNatClampNeg S6) (fun (T8 : TS) => some T8))))
set_option maxRecDepth 100000 in
set_option maxHeartbeats 4000000 in
theorem c_X7_slopeOf (E : Ev) (ad : CA) {a1 : Int32} {T : TS} {T2 : TS} (h : f_X7_slopeOf a1 T = some T2) : CtR E yX7_slopeOf cX7_slopeOf 3 (.object "RoomForecast$Line") 4 85 0 0 (cW E ad T) [.ref (ad.1 0), .int a1] (fun (_ : Unit) => ad.2 a1.toNatClampNeg 5) (fun _ => True) (fun _ => (cW E ad T2)) := by
  refine CtR_of (by decide +kernel) (Nat.le_of_ble_eq_true rfl) (fun x X _ hE => ?_)
  show J E x 0 0 (cW E ad T) 0 [(0, .ref (ad.1 0)), (1, .int a1)] []
  unfold f_X7_slopeOf at h
  refine J_aload_n X (pc := 0) dX7_slopeOf_0 0 rfl ?_
  refine J_iload_n X (pc := 1) dX7_slopeOf_1 1 rfl ?_
  replace h := ck_e h
  obtain ⟨b2, h⟩ := h
  refine J_app0 ?_
  refine J_callF0R X (pc := 2) (w1 := cW E ad T) (rw := []) (y := yX7_storeAt) (na := 1) (As := [.int a1]) (rest := []) (c_X7_storeAt E ad b2) 0 cW_c0 rfl q_357 q_358 q_359 q_14 q_356 rfl (by decide +kernel) (by decide +kernel) rfl (Nat.le_of_ble_eq_true rfl) ⟨Nat.zero_le _, Nat.zero_le _⟩ dX7_slopeOf_2 (fun _ _ => ?_)
  refine J_app1 ?_
  refine J_astore_n X (pc := 5) dX7_slopeOf_5 (by decide) rfl ?_
  refine J_aload_n X (pc := 6) dX7_slopeOf_6 0 rfl ?_
  replace h := bk h
  obtain ⟨r3, g4, h⟩ := h
  refine J_stI X (pc := 7) (inS_lt b2) (y := yX5_hasSlope) (na := 0) (As := []) (rest := []) (T2 := T) (c_X5_hasSlope E (ad.2 a1.toNatClampNeg) g4) setT_self.symm 0 sW_c0 rfl q_384 q_229 q_230 q_220 q_177 rfl (by decide +kernel) (by decide +kernel) rfl (Nat.le_of_ble_eq_true rfl) ⟨Nat.zero_le _, Nat.zero_le _⟩ dX7_slopeOf_7 ?_
  refine J_if_ne X (pc := 10) 23 dX7_slopeOf_10 (by decide) (fun c5 => ?_) (fun c5 => ?_)
  · rw [if_neg c5] at h
    refine J_aload_n X (pc := 23) dX7_slopeOf_23 0 rfl ?_
    refine J_iconst X (pc := 24) (v := -1) dX7_slopeOf_24 (by decide +kernel) ?_
    replace h := bk h
    obtain ⟨S6, g7, h⟩ := h
    replace h := nmv_e h
    obtain ⟨T8, eT8, h⟩ := h
    have hk9 : a1.toNatClampNeg < T8.2.1 := by rw [eT8]; exact (inS_lt b2)
    refine J_stV X (pc := 25) (inS_lt b2) (y := yX5_drawLineWithout) (na := 1) (As := [.int ((-1 : Int32))]) (rest := []) (T2 := T8) (c_X5_drawLineWithout E (ad.2 a1.toNatClampNeg) g7) eT8 0 sW_c0 rfl q_385 q_218 q_219 q_220 q_197 rfl (by decide +kernel) (by decide +kernel) rfl (Nat.le_of_ble_eq_true rfl) ⟨Nat.zero_le _, Nat.zero_le _⟩ dX7_slopeOf_25 ?_
    refine J_aload_n X (pc := 28) dX7_slopeOf_28 0 rfl ?_
    refine J_stgetN X (pc := 29) hk9 0 sW_c0 rfl in_X5 4 (by decide) nq_15 rfl dX7_slopeOf_29 ?_
    cases h
    exact hE () trivial _ _ dX7_slopeOf_32 (Or.inl ⟨_, rfl⟩)
  · rw [if_pos c5] at h
    cases h
def x_X7_slopeOf (a1 : Int32) (T : TS) : Option (String × TS) := xc (x_X7_storeAt a1 T) (ck (inS T a1) ((f_X5_hasSlope (T.2.2 a1.toNatClampNeg)).bind (fun (r3 : Int32) => if r3 = 0 then some ("java/lang/IllegalStateException", T) else (f_X5_drawLineWithout ((-1 : Int32)) (T.2.2 a1.toNatClampNeg)).bind (fun (S6 : St) => nmv (setT T a1.toNatClampNeg S6) (fun (T8 : TS) => none)))))
set_option maxRecDepth 100000 in
set_option maxHeartbeats 4000000 in
theorem t_X7_slopeOf (E : Ev) (ad : CA) {a1 : Int32} {T : TS} {Ex : String} {T2 : TS} (h : x_X7_slopeOf a1 T = some (Ex, T2)) : CtT E yX7_slopeOf cX7_slopeOf 3 (some (.object "RoomForecast$Line")) 7 105 (cW E ad T) [.ref (ad.1 0), .int a1] Ex (cW E ad T2) := by
  refine CtT_of (by decide +kernel) (Nat.le_of_ble_eq_true rfl) (fun x X XX IT => ?_)
  show J E x 0 0 (cW E ad T) 0 [(0, .ref (ad.1 0)), (1, .int a1)] []
  unfold x_X7_slopeOf at h
  refine J_aload_n X (pc := 0) dX7_slopeOf_0 0 rfl ?_
  refine J_iload_n X (pc := 1) dX7_slopeOf_1 1 rfl ?_
  rcases xc_e h with h | h
  · exact J_callTV (y := yX7_storeAt) (na := 1) (As := [.int a1]) (rest := []) X XX (t_X7_storeAt E ad h) IT 0 cW_c0 rfl q_357 q_358 q_359 q_14 q_356 rfl (by decide +kernel) (by decide +kernel) rfl (Nat.le_of_ble_eq_true rfl) ⟨by decide +kernel, by decide +kernel⟩ dX7_slopeOf_2 (Nat.le_of_ble_eq_true rfl) (Nat.le_of_ble_eq_true rfl)
  replace h := ck_e h
  obtain ⟨b2, h⟩ := h
  refine J_app0 ?_
  refine J_callF0R X (pc := 2) (w1 := cW E ad T) (rw := []) (y := yX7_storeAt) (na := 1) (As := [.int a1]) (rest := []) (c_X7_storeAt E ad b2) 0 cW_c0 rfl q_357 q_358 q_359 q_14 q_356 rfl (by decide +kernel) (by decide +kernel) rfl (Nat.le_of_ble_eq_true rfl) ⟨Nat.zero_le _, Nat.zero_le _⟩ dX7_slopeOf_2 (fun _ _ => ?_)
  refine J_app1 ?_
  refine J_astore_n X (pc := 5) dX7_slopeOf_5 (by decide) rfl ?_
  refine J_aload_n X (pc := 6) dX7_slopeOf_6 0 rfl ?_
  replace h := bk h
  obtain ⟨r3, g4, h⟩ := h
  refine J_stI X (pc := 7) (inS_lt b2) (y := yX5_hasSlope) (na := 0) (As := []) (rest := []) (T2 := T) (c_X5_hasSlope E (ad.2 a1.toNatClampNeg) g4) setT_self.symm 0 sW_c0 rfl q_384 q_229 q_230 q_220 q_177 rfl (by decide +kernel) (by decide +kernel) rfl (Nat.le_of_ble_eq_true rfl) ⟨Nat.zero_le _, Nat.zero_le _⟩ dX7_slopeOf_7 ?_
  refine J_if_ne X (pc := 10) 23 dX7_slopeOf_10 (by decide) (fun c5 => ?_) (fun c5 => ?_)
  · rw [if_neg c5] at h
    refine J_aload_n X (pc := 23) dX7_slopeOf_23 0 rfl ?_
    refine J_iconst X (pc := 24) (v := -1) dX7_slopeOf_24 (by decide +kernel) ?_
    replace h := bk h
    obtain ⟨S6, g7, h⟩ := h
    replace h := nmv_e h
    obtain ⟨T8, eT8, h⟩ := h
    have hk9 : a1.toNatClampNeg < T8.2.1 := by rw [eT8]; exact (inS_lt b2)
    refine J_stV X (pc := 25) (inS_lt b2) (y := yX5_drawLineWithout) (na := 1) (As := [.int ((-1 : Int32))]) (rest := []) (T2 := T8) (c_X5_drawLineWithout E (ad.2 a1.toNatClampNeg) g7) eT8 0 sW_c0 rfl q_385 q_218 q_219 q_220 q_197 rfl (by decide +kernel) (by decide +kernel) rfl (Nat.le_of_ble_eq_true rfl) ⟨Nat.zero_le _, Nat.zero_le _⟩ dX7_slopeOf_25 ?_
    refine J_aload_n X (pc := 28) dX7_slopeOf_28 0 rfl ?_
    refine J_stgetN X (pc := 29) hk9 0 sW_c0 rfl in_X5 4 (by decide) nq_15 rfl dX7_slopeOf_29 ?_
    cases h
  · rw [if_pos c5] at h
    cases h
    exact J_throwS (text := "no slope") X XX IT (by decide +kernel) q_321 q_322 xs_168 (by decide +kernel) inv_33 (by decide +kernel) dX7_slopeOf_13 dX7_slopeOf_16 dX7_slopeOf_17 dX7_slopeOf_19 dX7_slopeOf_22 (Nat.le_of_ble_eq_true rfl) (Nat.le_of_ble_eq_true rfl) (Nat.le_of_ble_eq_true rfl) (Nat.le_of_ble_eq_true rfl) (Nat.le_of_ble_eq_true rfl) (Nat.le_of_ble_eq_true rfl)
def f_X7_setSize (a1 : Int32) (a2 : Int32) (T : TS) : Option (Int32 × TS) := ck (inS T a1) (ck (((1 : Int32)) ≤ a2 ∧ a2 ≤ ((1000000 : Int32))) (nmv ((T.2.2 a1.toNatClampNeg).1 0) (fun (v4 : Int32) => nmv (setT T a1.toNatClampNeg (sF (T.2.2 a1.toNatClampNeg) 0 a2)) (fun (T5 : TS) => some (v4, T5)))))
set_option maxRecDepth 100000 in
set_option maxHeartbeats 4000000 in
theorem c_X7_setSize (E : Ev) (ad : CA) {a1 : Int32} {a2 : Int32} {T : TS} {r : Int32} {T2 : TS} (h : f_X7_setSize a1 a2 T = some (r, T2)) : CtI E yX7_setSize cX7_setSize 5 .int 4 85 (cW E ad T) [.ref (ad.1 0), .int a1, .int a2] r (cW E ad T2) := by
  refine CtI_of (by decide +kernel) (Nat.le_of_ble_eq_true rfl) (fun x X hE => ?_)
  show J E x 0 0 (cW E ad T) 0 [(0, .ref (ad.1 0)), (1, .int a1), (2, .int a2)] []
  unfold f_X7_setSize at h
  refine J_aload_n X (pc := 0) dX7_setSize_0 0 rfl ?_
  refine J_iload_n X (pc := 1) dX7_setSize_1 1 rfl ?_
  replace h := ck_e h
  obtain ⟨b2, h⟩ := h
  refine J_app0 ?_
  refine J_callF0R X (pc := 2) (w1 := cW E ad T) (rw := []) (y := yX7_storeAt) (na := 1) (As := [.int a1]) (rest := []) (c_X7_storeAt E ad b2) 0 cW_c0 rfl q_357 q_358 q_359 q_14 q_356 rfl (by decide +kernel) (by decide +kernel) rfl (Nat.le_of_ble_eq_true rfl) ⟨Nat.zero_le _, Nat.zero_le _⟩ dX7_setSize_2 (fun _ _ => ?_)
  refine J_app1 ?_
  refine J_astore_n X (pc := 5) dX7_setSize_5 (by decide) rfl ?_
  refine J_iload_n X (pc := 6) dX7_setSize_6 3 rfl ?_
  refine J_iconst X (pc := 7) (v := 1) dX7_setSize_7 (by decide +kernel) ?_
  refine J_ldc X (pc := 8) dX7_setSize_8 q_323 ?_
  replace h := ck_e h
  obtain ⟨b3, h⟩ := h
  refine J_callSV X (pc := 10) (y := yX7_demandRange) (na := 3) (As := [.int a2, .int ((1 : Int32)), .int ((1000000 : Int32))]) (rest := []) (c_X7_demandRange E (cW E ad T) b3) q_326 q_327 q_14 q_272 rfl (by decide +kernel) (by decide +kernel) rfl (Nat.le_of_ble_eq_true rfl) ⟨Nat.zero_le _, Nat.zero_le _⟩ dX7_setSize_10 ?_
  refine J_aload_n X (pc := 13) dX7_setSize_13 0 rfl ?_
  refine J_stgetN X (pc := 14) (inS_lt b2) 0 sW_c0 rfl in_X5 6 (by decide) nq_17 rfl dX7_setSize_14 ?_
  replace h := nmv_e h
  obtain ⟨v4, ev4, h⟩ := h
  refine J_nmi ev4 ?_
  refine J_istore X (pc := 17) dX7_setSize_17 (by decide) rfl ?_
  refine J_aload_n X (pc := 19) dX7_setSize_19 1 rfl ?_
  refine J_iload_n X (pc := 20) dX7_setSize_20 4 rfl ?_
  replace h := nmv_e h
  obtain ⟨T5, eT5, h⟩ := h
  have hk6 : a1.toNatClampNeg < T5.2.1 := by rw [eT5]; exact (inS_lt b2)
  refine J_stputN X (pc := 21) (ty := .int) (inS_lt b2) 0 sW_c0 rfl in_X5 tyX5_ok nmX5 6 (by decide) nq_17 rfl (by decide +kernel) rfl rfl (Nat.le_of_ble_eq_true rfl) dX7_setSize_21 (sW_p0 rfl) eT5 ?_
  refine J_iload X (pc := 24) dX7_setSize_24 0 rfl ?_
  cases h
  exact hE _ _ dX7_setSize_26 rfl
def x_X7_setSize (a1 : Int32) (a2 : Int32) (T : TS) : Option (String × TS) := xc (x_X7_storeAt a1 T) (ck (inS T a1) (xc ((x_X7_demandRange a2 ((1 : Int32)) ((1000000 : Int32))).map (fun z => (z, T))) (ck (((1 : Int32)) ≤ a2 ∧ a2 ≤ ((1000000 : Int32))) (nmv ((T.2.2 a1.toNatClampNeg).1 0) (fun (v4 : Int32) => nmv (setT T a1.toNatClampNeg (sF (T.2.2 a1.toNatClampNeg) 0 a2)) (fun (T5 : TS) => none))))))
set_option maxRecDepth 100000 in
set_option maxHeartbeats 4000000 in
theorem t_X7_setSize (E : Ev) (ad : CA) {a1 : Int32} {a2 : Int32} {T : TS} {Ex : String} {T2 : TS} (h : x_X7_setSize a1 a2 T = some (Ex, T2)) : CtT E yX7_setSize cX7_setSize 5 (some .int) 7 106 (cW E ad T) [.ref (ad.1 0), .int a1, .int a2] Ex (cW E ad T2) := by
  refine CtT_of (by decide +kernel) (Nat.le_of_ble_eq_true rfl) (fun x X XX IT => ?_)
  show J E x 0 0 (cW E ad T) 0 [(0, .ref (ad.1 0)), (1, .int a1), (2, .int a2)] []
  unfold x_X7_setSize at h
  refine J_aload_n X (pc := 0) dX7_setSize_0 0 rfl ?_
  refine J_iload_n X (pc := 1) dX7_setSize_1 1 rfl ?_
  rcases xc_e h with h | h
  · exact J_callTV (y := yX7_storeAt) (na := 1) (As := [.int a1]) (rest := []) X XX (t_X7_storeAt E ad h) IT 0 cW_c0 rfl q_357 q_358 q_359 q_14 q_356 rfl (by decide +kernel) (by decide +kernel) rfl (Nat.le_of_ble_eq_true rfl) ⟨by decide +kernel, by decide +kernel⟩ dX7_setSize_2 (Nat.le_of_ble_eq_true rfl) (Nat.le_of_ble_eq_true rfl)
  replace h := ck_e h
  obtain ⟨b2, h⟩ := h
  refine J_app0 ?_
  refine J_callF0R X (pc := 2) (w1 := cW E ad T) (rw := []) (y := yX7_storeAt) (na := 1) (As := [.int a1]) (rest := []) (c_X7_storeAt E ad b2) 0 cW_c0 rfl q_357 q_358 q_359 q_14 q_356 rfl (by decide +kernel) (by decide +kernel) rfl (Nat.le_of_ble_eq_true rfl) ⟨Nat.zero_le _, Nat.zero_le _⟩ dX7_setSize_2 (fun _ _ => ?_)
  refine J_app1 ?_
  refine J_astore_n X (pc := 5) dX7_setSize_5 (by decide) rfl ?_
  refine J_iload_n X (pc := 6) dX7_setSize_6 3 rfl ?_
  refine J_iconst X (pc := 7) (v := 1) dX7_setSize_7 (by decide +kernel) ?_
  refine J_ldc X (pc := 8) dX7_setSize_8 q_323 ?_
  rcases xc_e h with h | h
  · obtain ⟨z, hz, hz2⟩ := Option.map_eq_some_iff.mp h
    have hz3 := Prod.mk.inj hz2
    rw [← hz3.1, ← hz3.2] at IT
    exact J_callTS (y := yX7_demandRange) (na := 3) (As := [.int a2, .int ((1 : Int32)), .int ((1000000 : Int32))]) (rest := []) X XX (t_X7_demandRange E (cW E ad T) hz) IT q_326 q_327 q_14 q_272 rfl (by decide +kernel) (by decide +kernel) rfl (Nat.le_of_ble_eq_true rfl) ⟨by decide +kernel, by decide +kernel⟩ dX7_setSize_10 (Nat.le_of_ble_eq_true rfl) (Nat.le_of_ble_eq_true rfl)
  replace h := ck_e h
  obtain ⟨b3, h⟩ := h
  refine J_callSV X (pc := 10) (y := yX7_demandRange) (na := 3) (As := [.int a2, .int ((1 : Int32)), .int ((1000000 : Int32))]) (rest := []) (c_X7_demandRange E (cW E ad T) b3) q_326 q_327 q_14 q_272 rfl (by decide +kernel) (by decide +kernel) rfl (Nat.le_of_ble_eq_true rfl) ⟨Nat.zero_le _, Nat.zero_le _⟩ dX7_setSize_10 ?_
  refine J_aload_n X (pc := 13) dX7_setSize_13 0 rfl ?_
  refine J_stgetN X (pc := 14) (inS_lt b2) 0 sW_c0 rfl in_X5 6 (by decide) nq_17 rfl dX7_setSize_14 ?_
  replace h := nmv_e h
  obtain ⟨v4, ev4, h⟩ := h
  refine J_nmi ev4 ?_
  refine J_istore X (pc := 17) dX7_setSize_17 (by decide) rfl ?_
  refine J_aload_n X (pc := 19) dX7_setSize_19 1 rfl ?_
  refine J_iload_n X (pc := 20) dX7_setSize_20 4 rfl ?_
  replace h := nmv_e h
  obtain ⟨T5, eT5, h⟩ := h
  have hk6 : a1.toNatClampNeg < T5.2.1 := by rw [eT5]; exact (inS_lt b2)
  refine J_stputN X (pc := 21) (ty := .int) (inS_lt b2) 0 sW_c0 rfl in_X5 tyX5_ok nmX5 6 (by decide) nq_17 rfl (by decide +kernel) rfl rfl (Nat.le_of_ble_eq_true rfl) dX7_setSize_21 (sW_p0 rfl) eT5 ?_
  refine J_iload X (pc := 24) dX7_setSize_24 0 rfl ?_
  cases h
def f_X7_sample (a1 : Int32) (a2 : Int32) (T : TS) : Option (Int32 × TS) := ck (inS T a1) (ck (((0 : Int32)) ≤ a2 ∧ a2 ≤ ((1000000 : Int32))) ((f_X5_tellUsed T.1.1 a2 (T.2.2 a1.toNatClampNeg)).bind (fun (S4 : St) => nmv (setT T a1.toNatClampNeg S4) (fun (T6 : TS) => (f_X4_number (T6.2.2 a1.toNatClampNeg)).bind (fun (r8 : Int32) => some (r8, T6))))))
set_option maxRecDepth 100000 in
set_option maxHeartbeats 4000000 in
theorem c_X7_sample (E : Ev) (ad : CA) {a1 : Int32} {a2 : Int32} {T : TS} {r : Int32} {T2 : TS} (h : f_X7_sample a1 a2 T = some (r, T2)) : CtI E yX7_sample cX7_sample 4 .int 6 136 (cW E ad T) [.ref (ad.1 0), .int a1, .int a2] r (cW E ad T2) := by
  refine CtI_of (by decide +kernel) (Nat.le_of_ble_eq_true rfl) (fun x X hE => ?_)
  show J E x 0 0 (cW E ad T) 0 [(0, .ref (ad.1 0)), (1, .int a1), (2, .int a2)] []
  unfold f_X7_sample at h
  refine J_aload_n X (pc := 0) dX7_sample_0 0 rfl ?_
  refine J_iload_n X (pc := 1) dX7_sample_1 1 rfl ?_
  replace h := ck_e h
  obtain ⟨b2, h⟩ := h
  refine J_app0 ?_
  refine J_callF0R X (pc := 2) (w1 := cW E ad T) (rw := []) (y := yX7_storeAt) (na := 1) (As := [.int a1]) (rest := []) (c_X7_storeAt E ad b2) 0 cW_c0 rfl q_357 q_358 q_359 q_14 q_356 rfl (by decide +kernel) (by decide +kernel) rfl (Nat.le_of_ble_eq_true rfl) ⟨Nat.zero_le _, Nat.zero_le _⟩ dX7_sample_2 (fun _ _ => ?_)
  refine J_app1 ?_
  refine J_astore_n X (pc := 5) dX7_sample_5 (by decide) rfl ?_
  refine J_iload_n X (pc := 6) dX7_sample_6 3 rfl ?_
  refine J_iconst X (pc := 7) (v := 0) dX7_sample_7 (by decide +kernel) ?_
  refine J_ldc X (pc := 8) dX7_sample_8 q_323 ?_
  replace h := ck_e h
  obtain ⟨b3, h⟩ := h
  refine J_callSV X (pc := 10) (y := yX7_demandRange) (na := 3) (As := [.int a2, .int ((0 : Int32)), .int ((1000000 : Int32))]) (rest := []) (c_X7_demandRange E (cW E ad T) b3) q_326 q_327 q_14 q_272 rfl (by decide +kernel) (by decide +kernel) rfl (Nat.le_of_ble_eq_true rfl) ⟨Nat.zero_le _, Nat.zero_le _⟩ dX7_sample_10 ?_
  refine J_aload_n X (pc := 13) dX7_sample_13 0 rfl ?_
  refine J_aload_n X (pc := 14) dX7_sample_14 1 rfl ?_
  refine J_getf X (pc := 15) 0 cW_c0 rfl in_X7 1 (by decide) q_269 rfl dX7_sample_15 ?_
  refine J_iload_n X (pc := 18) dX7_sample_18 3 rfl ?_
  replace h := bk h
  obtain ⟨S4, g5, h⟩ := h
  replace h := nmv_e h
  obtain ⟨T6, eT6, h⟩ := h
  have hk7 : a1.toNatClampNeg < T6.2.1 := by rw [eT6]; exact (inS_lt b2)
  refine J_stV X (pc := 19) (inS_lt b2) (y := yX5_tellUsed) (na := 2) (As := [.int T.1.1, .int a2]) (rest := []) (T2 := T6) (c_X5_tellUsed E (ad.2 a1.toNatClampNeg) g5) eT6 0 sW_c0 rfl q_361 q_362 q_363 q_220 q_169 rfl (by decide +kernel) (by decide +kernel) rfl (Nat.le_of_ble_eq_true rfl) ⟨Nat.zero_le _, Nat.zero_le _⟩ dX7_sample_19 ?_
  refine J_aload_n X (pc := 22) dX7_sample_22 0 rfl ?_
  refine J_stgetN X (pc := 23) hk7 0 sW_c0 rfl in_X5 0 (by decide) nq_12 rfl dX7_sample_23 ?_
  replace h := bk h
  obtain ⟨r8, g9, h⟩ := h
  refine J_stI X (pc := 26) hk7 (y := yX4_number) (na := 0) (As := []) (rest := []) (T2 := T6) (c_X4_number E (ad.2 a1.toNatClampNeg) g9) setT_self.symm 1 sW_c1 rfl q_364 q_88 q_89 q_58 q_50 rfl (by decide +kernel) (by decide +kernel) rfl (Nat.le_of_ble_eq_true rfl) ⟨Nat.zero_le _, Nat.zero_le _⟩ dX7_sample_26 ?_
  cases h
  exact hE _ _ dX7_sample_29 rfl
def x_X7_sample (a1 : Int32) (a2 : Int32) (T : TS) : Option (String × TS) := xc (x_X7_storeAt a1 T) (ck (inS T a1) (xc ((x_X7_demandRange a2 ((0 : Int32)) ((1000000 : Int32))).map (fun z => (z, T))) (ck (((0 : Int32)) ≤ a2 ∧ a2 ≤ ((1000000 : Int32))) ((f_X5_tellUsed T.1.1 a2 (T.2.2 a1.toNatClampNeg)).bind (fun (S4 : St) => nmv (setT T a1.toNatClampNeg S4) (fun (T6 : TS) => (f_X4_number (T6.2.2 a1.toNatClampNeg)).bind (fun (r8 : Int32) => none)))))))
set_option maxRecDepth 100000 in
set_option maxHeartbeats 4000000 in
theorem t_X7_sample (E : Ev) (ad : CA) {a1 : Int32} {a2 : Int32} {T : TS} {Ex : String} {T2 : TS} (h : x_X7_sample a1 a2 T = some (Ex, T2)) : CtT E yX7_sample cX7_sample 4 (some .int) 7 136 (cW E ad T) [.ref (ad.1 0), .int a1, .int a2] Ex (cW E ad T2) := by
  refine CtT_of (by decide +kernel) (Nat.le_of_ble_eq_true rfl) (fun x X XX IT => ?_)
  show J E x 0 0 (cW E ad T) 0 [(0, .ref (ad.1 0)), (1, .int a1), (2, .int a2)] []
  unfold x_X7_sample at h
  refine J_aload_n X (pc := 0) dX7_sample_0 0 rfl ?_
  refine J_iload_n X (pc := 1) dX7_sample_1 1 rfl ?_
  rcases xc_e h with h | h
  · exact J_callTV (y := yX7_storeAt) (na := 1) (As := [.int a1]) (rest := []) X XX (t_X7_storeAt E ad h) IT 0 cW_c0 rfl q_357 q_358 q_359 q_14 q_356 rfl (by decide +kernel) (by decide +kernel) rfl (Nat.le_of_ble_eq_true rfl) ⟨by decide +kernel, by decide +kernel⟩ dX7_sample_2 (Nat.le_of_ble_eq_true rfl) (Nat.le_of_ble_eq_true rfl)
  replace h := ck_e h
  obtain ⟨b2, h⟩ := h
  refine J_app0 ?_
  refine J_callF0R X (pc := 2) (w1 := cW E ad T) (rw := []) (y := yX7_storeAt) (na := 1) (As := [.int a1]) (rest := []) (c_X7_storeAt E ad b2) 0 cW_c0 rfl q_357 q_358 q_359 q_14 q_356 rfl (by decide +kernel) (by decide +kernel) rfl (Nat.le_of_ble_eq_true rfl) ⟨Nat.zero_le _, Nat.zero_le _⟩ dX7_sample_2 (fun _ _ => ?_)
  refine J_app1 ?_
  refine J_astore_n X (pc := 5) dX7_sample_5 (by decide) rfl ?_
  refine J_iload_n X (pc := 6) dX7_sample_6 3 rfl ?_
  refine J_iconst X (pc := 7) (v := 0) dX7_sample_7 (by decide +kernel) ?_
  refine J_ldc X (pc := 8) dX7_sample_8 q_323 ?_
  rcases xc_e h with h | h
  · obtain ⟨z, hz, hz2⟩ := Option.map_eq_some_iff.mp h
    have hz3 := Prod.mk.inj hz2
    rw [← hz3.1, ← hz3.2] at IT
    exact J_callTS (y := yX7_demandRange) (na := 3) (As := [.int a2, .int ((0 : Int32)), .int ((1000000 : Int32))]) (rest := []) X XX (t_X7_demandRange E (cW E ad T) hz) IT q_326 q_327 q_14 q_272 rfl (by decide +kernel) (by decide +kernel) rfl (Nat.le_of_ble_eq_true rfl) ⟨by decide +kernel, by decide +kernel⟩ dX7_sample_10 (Nat.le_of_ble_eq_true rfl) (Nat.le_of_ble_eq_true rfl)
  replace h := ck_e h
  obtain ⟨b3, h⟩ := h
  refine J_callSV X (pc := 10) (y := yX7_demandRange) (na := 3) (As := [.int a2, .int ((0 : Int32)), .int ((1000000 : Int32))]) (rest := []) (c_X7_demandRange E (cW E ad T) b3) q_326 q_327 q_14 q_272 rfl (by decide +kernel) (by decide +kernel) rfl (Nat.le_of_ble_eq_true rfl) ⟨Nat.zero_le _, Nat.zero_le _⟩ dX7_sample_10 ?_
  refine J_aload_n X (pc := 13) dX7_sample_13 0 rfl ?_
  refine J_aload_n X (pc := 14) dX7_sample_14 1 rfl ?_
  refine J_getf X (pc := 15) 0 cW_c0 rfl in_X7 1 (by decide) q_269 rfl dX7_sample_15 ?_
  refine J_iload_n X (pc := 18) dX7_sample_18 3 rfl ?_
  replace h := bk h
  obtain ⟨S4, g5, h⟩ := h
  replace h := nmv_e h
  obtain ⟨T6, eT6, h⟩ := h
  have hk7 : a1.toNatClampNeg < T6.2.1 := by rw [eT6]; exact (inS_lt b2)
  refine J_stV X (pc := 19) (inS_lt b2) (y := yX5_tellUsed) (na := 2) (As := [.int T.1.1, .int a2]) (rest := []) (T2 := T6) (c_X5_tellUsed E (ad.2 a1.toNatClampNeg) g5) eT6 0 sW_c0 rfl q_361 q_362 q_363 q_220 q_169 rfl (by decide +kernel) (by decide +kernel) rfl (Nat.le_of_ble_eq_true rfl) ⟨Nat.zero_le _, Nat.zero_le _⟩ dX7_sample_19 ?_
  refine J_aload_n X (pc := 22) dX7_sample_22 0 rfl ?_
  refine J_stgetN X (pc := 23) hk7 0 sW_c0 rfl in_X5 0 (by decide) nq_12 rfl dX7_sample_23 ?_
  replace h := bk h
  obtain ⟨r8, g9, h⟩ := h
  refine J_stI X (pc := 26) hk7 (y := yX4_number) (na := 0) (As := []) (rest := []) (T2 := T6) (c_X4_number E (ad.2 a1.toNatClampNeg) g9) setT_self.symm 1 sW_c1 rfl q_364 q_88 q_89 q_58 q_50 rfl (by decide +kernel) (by decide +kernel) rfl (Nat.le_of_ble_eq_true rfl) ⟨Nat.zero_le _, Nat.zero_le _⟩ dX7_sample_26 ?_
  cases h
def f_X7_clean (a1 : Int32) (a2 : Int32) (T : TS) : Option (Int32 × TS) := ck (inS T a1) (ck (((1 : Int32)) ≤ a2 ∧ a2 ≤ ((100000 : Int32))) ((f_X0_number (T.2.2 a1.toNatClampNeg)).bind (fun (r4 : Int32) => if r4 < ((60 : Int32)) then (f_X5_tellFreed T.1.1 a2 (T.2.2 a1.toNatClampNeg)).bind (fun (S7 : St) => nmv (setT T a1.toNatClampNeg S7) (fun (T9 : TS) => (f_X0_number (T9.2.2 a1.toNatClampNeg)).bind (fun (r11 : Int32) => some (r11, T9)))) else none)))
set_option maxRecDepth 100000 in
set_option maxHeartbeats 4000000 in
theorem c_X7_clean (E : Ev) (ad : CA) {a1 : Int32} {a2 : Int32} {T : TS} {r : Int32} {T2 : TS} (h : f_X7_clean a1 a2 T = some (r, T2)) : CtI E yX7_clean cX7_clean 4 .int 6 136 (cW E ad T) [.ref (ad.1 0), .int a1, .int a2] r (cW E ad T2) := by
  refine CtI_of (by decide +kernel) (Nat.le_of_ble_eq_true rfl) (fun x X hE => ?_)
  show J E x 0 0 (cW E ad T) 0 [(0, .ref (ad.1 0)), (1, .int a1), (2, .int a2)] []
  unfold f_X7_clean at h
  refine J_aload_n X (pc := 0) dX7_clean_0 0 rfl ?_
  refine J_iload_n X (pc := 1) dX7_clean_1 1 rfl ?_
  replace h := ck_e h
  obtain ⟨b2, h⟩ := h
  refine J_app0 ?_
  refine J_callF0R X (pc := 2) (w1 := cW E ad T) (rw := []) (y := yX7_storeAt) (na := 1) (As := [.int a1]) (rest := []) (c_X7_storeAt E ad b2) 0 cW_c0 rfl q_357 q_358 q_359 q_14 q_356 rfl (by decide +kernel) (by decide +kernel) rfl (Nat.le_of_ble_eq_true rfl) ⟨Nat.zero_le _, Nat.zero_le _⟩ dX7_clean_2 (fun _ _ => ?_)
  refine J_app1 ?_
  refine J_astore_n X (pc := 5) dX7_clean_5 (by decide) rfl ?_
  refine J_iload_n X (pc := 6) dX7_clean_6 3 rfl ?_
  refine J_iconst X (pc := 7) (v := 1) dX7_clean_7 (by decide +kernel) ?_
  refine J_ldc X (pc := 8) dX7_clean_8 q_366 ?_
  replace h := ck_e h
  obtain ⟨b3, h⟩ := h
  refine J_callSV X (pc := 10) (y := yX7_demandRange) (na := 3) (As := [.int a2, .int ((1 : Int32)), .int ((100000 : Int32))]) (rest := []) (c_X7_demandRange E (cW E ad T) b3) q_326 q_327 q_14 q_272 rfl (by decide +kernel) (by decide +kernel) rfl (Nat.le_of_ble_eq_true rfl) ⟨Nat.zero_le _, Nat.zero_le _⟩ dX7_clean_10 ?_
  refine J_aload_n X (pc := 13) dX7_clean_13 0 rfl ?_
  refine J_stgetN X (pc := 14) (inS_lt b2) 0 sW_c0 rfl in_X5 2 (by decide) nq_13 rfl dX7_clean_14 ?_
  replace h := bk h
  obtain ⟨r4, g5, h⟩ := h
  refine J_stI X (pc := 17) (inS_lt b2) (y := yX0_number) (na := 0) (As := []) (rest := []) (T2 := T) (c_X0_number E (ad.2 a1.toNatClampNeg) g5) setT_self.symm 3 sW_c3 rfl q_367 q_368 q_369 q_140 q_6 rfl (by decide +kernel) (by decide +kernel) rfl (Nat.le_of_ble_eq_true rfl) ⟨Nat.zero_le _, Nat.zero_le _⟩ dX7_clean_17 ?_
  refine J_bipush X (pc := 20) (v := 60) dX7_clean_20 (by decide +kernel) ?_
  refine J_icmp_lt X (pc := 22) 35 dX7_clean_22 (by decide) (fun c6 => ?_) (fun c6 => ?_)
  · rw [if_pos c6] at h
    refine J_aload_n X (pc := 35) dX7_clean_35 0 rfl ?_
    refine J_aload_n X (pc := 36) dX7_clean_36 1 rfl ?_
    refine J_getf X (pc := 37) 0 cW_c0 rfl in_X7 1 (by decide) q_269 rfl dX7_clean_37 ?_
    refine J_iload_n X (pc := 40) dX7_clean_40 3 rfl ?_
    replace h := bk h
    obtain ⟨S7, g8, h⟩ := h
    replace h := nmv_e h
    obtain ⟨T9, eT9, h⟩ := h
    have hk10 : a1.toNatClampNeg < T9.2.1 := by rw [eT9]; exact (inS_lt b2)
    refine J_stV X (pc := 41) (inS_lt b2) (y := yX5_tellFreed) (na := 2) (As := [.int T.1.1, .int a2]) (rest := []) (T2 := T9) (c_X5_tellFreed E (ad.2 a1.toNatClampNeg) g8) eT9 0 sW_c0 rfl q_370 q_371 q_372 q_220 q_176 rfl (by decide +kernel) (by decide +kernel) rfl (Nat.le_of_ble_eq_true rfl) ⟨Nat.zero_le _, Nat.zero_le _⟩ dX7_clean_41 ?_
    refine J_aload_n X (pc := 44) dX7_clean_44 0 rfl ?_
    refine J_stgetN X (pc := 45) hk10 0 sW_c0 rfl in_X5 2 (by decide) nq_13 rfl dX7_clean_45 ?_
    replace h := bk h
    obtain ⟨r11, g12, h⟩ := h
    refine J_stI X (pc := 48) hk10 (y := yX0_number) (na := 0) (As := []) (rest := []) (T2 := T9) (c_X0_number E (ad.2 a1.toNatClampNeg) g12) setT_self.symm 3 sW_c3 rfl q_367 q_368 q_369 q_140 q_6 rfl (by decide +kernel) (by decide +kernel) rfl (Nat.le_of_ble_eq_true rfl) ⟨Nat.zero_le _, Nat.zero_le _⟩ dX7_clean_48 ?_
    cases h
    exact hE _ _ dX7_clean_51 rfl
  · rw [if_neg c6] at h
    cases h
def x_X7_clean (a1 : Int32) (a2 : Int32) (T : TS) : Option (String × TS) := xc (x_X7_storeAt a1 T) (ck (inS T a1) (xc ((x_X7_demandRange a2 ((1 : Int32)) ((100000 : Int32))).map (fun z => (z, T))) (ck (((1 : Int32)) ≤ a2 ∧ a2 ≤ ((100000 : Int32))) ((f_X0_number (T.2.2 a1.toNatClampNeg)).bind (fun (r4 : Int32) => if r4 < ((60 : Int32)) then (f_X5_tellFreed T.1.1 a2 (T.2.2 a1.toNatClampNeg)).bind (fun (S7 : St) => nmv (setT T a1.toNatClampNeg S7) (fun (T9 : TS) => (f_X0_number (T9.2.2 a1.toNatClampNeg)).bind (fun (r11 : Int32) => none))) else some ("java/lang/IllegalStateException", T))))))
set_option maxRecDepth 100000 in
set_option maxHeartbeats 4000000 in
theorem t_X7_clean (E : Ev) (ad : CA) {a1 : Int32} {a2 : Int32} {T : TS} {Ex : String} {T2 : TS} (h : x_X7_clean a1 a2 T = some (Ex, T2)) : CtT E yX7_clean cX7_clean 4 (some .int) 7 136 (cW E ad T) [.ref (ad.1 0), .int a1, .int a2] Ex (cW E ad T2) := by
  refine CtT_of (by decide +kernel) (Nat.le_of_ble_eq_true rfl) (fun x X XX IT => ?_)
  show J E x 0 0 (cW E ad T) 0 [(0, .ref (ad.1 0)), (1, .int a1), (2, .int a2)] []
  unfold x_X7_clean at h
  refine J_aload_n X (pc := 0) dX7_clean_0 0 rfl ?_
  refine J_iload_n X (pc := 1) dX7_clean_1 1 rfl ?_
  rcases xc_e h with h | h
  · exact J_callTV (y := yX7_storeAt) (na := 1) (As := [.int a1]) (rest := []) X XX (t_X7_storeAt E ad h) IT 0 cW_c0 rfl q_357 q_358 q_359 q_14 q_356 rfl (by decide +kernel) (by decide +kernel) rfl (Nat.le_of_ble_eq_true rfl) ⟨by decide +kernel, by decide +kernel⟩ dX7_clean_2 (Nat.le_of_ble_eq_true rfl) (Nat.le_of_ble_eq_true rfl)
  replace h := ck_e h
  obtain ⟨b2, h⟩ := h
  refine J_app0 ?_
  refine J_callF0R X (pc := 2) (w1 := cW E ad T) (rw := []) (y := yX7_storeAt) (na := 1) (As := [.int a1]) (rest := []) (c_X7_storeAt E ad b2) 0 cW_c0 rfl q_357 q_358 q_359 q_14 q_356 rfl (by decide +kernel) (by decide +kernel) rfl (Nat.le_of_ble_eq_true rfl) ⟨Nat.zero_le _, Nat.zero_le _⟩ dX7_clean_2 (fun _ _ => ?_)
  refine J_app1 ?_
  refine J_astore_n X (pc := 5) dX7_clean_5 (by decide) rfl ?_
  refine J_iload_n X (pc := 6) dX7_clean_6 3 rfl ?_
  refine J_iconst X (pc := 7) (v := 1) dX7_clean_7 (by decide +kernel) ?_
  refine J_ldc X (pc := 8) dX7_clean_8 q_366 ?_
  rcases xc_e h with h | h
  · obtain ⟨z, hz, hz2⟩ := Option.map_eq_some_iff.mp h
    have hz3 := Prod.mk.inj hz2
    rw [← hz3.1, ← hz3.2] at IT
    exact J_callTS (y := yX7_demandRange) (na := 3) (As := [.int a2, .int ((1 : Int32)), .int ((100000 : Int32))]) (rest := []) X XX (t_X7_demandRange E (cW E ad T) hz) IT q_326 q_327 q_14 q_272 rfl (by decide +kernel) (by decide +kernel) rfl (Nat.le_of_ble_eq_true rfl) ⟨by decide +kernel, by decide +kernel⟩ dX7_clean_10 (Nat.le_of_ble_eq_true rfl) (Nat.le_of_ble_eq_true rfl)
  replace h := ck_e h
  obtain ⟨b3, h⟩ := h
  refine J_callSV X (pc := 10) (y := yX7_demandRange) (na := 3) (As := [.int a2, .int ((1 : Int32)), .int ((100000 : Int32))]) (rest := []) (c_X7_demandRange E (cW E ad T) b3) q_326 q_327 q_14 q_272 rfl (by decide +kernel) (by decide +kernel) rfl (Nat.le_of_ble_eq_true rfl) ⟨Nat.zero_le _, Nat.zero_le _⟩ dX7_clean_10 ?_
  refine J_aload_n X (pc := 13) dX7_clean_13 0 rfl ?_
  refine J_stgetN X (pc := 14) (inS_lt b2) 0 sW_c0 rfl in_X5 2 (by decide) nq_13 rfl dX7_clean_14 ?_
  replace h := bk h
  obtain ⟨r4, g5, h⟩ := h
  refine J_stI X (pc := 17) (inS_lt b2) (y := yX0_number) (na := 0) (As := []) (rest := []) (T2 := T) (c_X0_number E (ad.2 a1.toNatClampNeg) g5) setT_self.symm 3 sW_c3 rfl q_367 q_368 q_369 q_140 q_6 rfl (by decide +kernel) (by decide +kernel) rfl (Nat.le_of_ble_eq_true rfl) ⟨Nat.zero_le _, Nat.zero_le _⟩ dX7_clean_17 ?_
  refine J_bipush X (pc := 20) (v := 60) dX7_clean_20 (by decide +kernel) ?_
  refine J_icmp_lt X (pc := 22) 35 dX7_clean_22 (by decide) (fun c6 => ?_) (fun c6 => ?_)
  · rw [if_pos c6] at h
    refine J_aload_n X (pc := 35) dX7_clean_35 0 rfl ?_
    refine J_aload_n X (pc := 36) dX7_clean_36 1 rfl ?_
    refine J_getf X (pc := 37) 0 cW_c0 rfl in_X7 1 (by decide) q_269 rfl dX7_clean_37 ?_
    refine J_iload_n X (pc := 40) dX7_clean_40 3 rfl ?_
    replace h := bk h
    obtain ⟨S7, g8, h⟩ := h
    replace h := nmv_e h
    obtain ⟨T9, eT9, h⟩ := h
    have hk10 : a1.toNatClampNeg < T9.2.1 := by rw [eT9]; exact (inS_lt b2)
    refine J_stV X (pc := 41) (inS_lt b2) (y := yX5_tellFreed) (na := 2) (As := [.int T.1.1, .int a2]) (rest := []) (T2 := T9) (c_X5_tellFreed E (ad.2 a1.toNatClampNeg) g8) eT9 0 sW_c0 rfl q_370 q_371 q_372 q_220 q_176 rfl (by decide +kernel) (by decide +kernel) rfl (Nat.le_of_ble_eq_true rfl) ⟨Nat.zero_le _, Nat.zero_le _⟩ dX7_clean_41 ?_
    refine J_aload_n X (pc := 44) dX7_clean_44 0 rfl ?_
    refine J_stgetN X (pc := 45) hk10 0 sW_c0 rfl in_X5 2 (by decide) nq_13 rfl dX7_clean_45 ?_
    replace h := bk h
    obtain ⟨r11, g12, h⟩ := h
    refine J_stI X (pc := 48) hk10 (y := yX0_number) (na := 0) (As := []) (rest := []) (T2 := T9) (c_X0_number E (ad.2 a1.toNatClampNeg) g12) setT_self.symm 3 sW_c3 rfl q_367 q_368 q_369 q_140 q_6 rfl (by decide +kernel) (by decide +kernel) rfl (Nat.le_of_ble_eq_true rfl) ⟨Nat.zero_le _, Nat.zero_le _⟩ dX7_clean_48 ?_
    cases h
  · rw [if_neg c6] at h
    cases h
    exact J_throwS (text := "no more cleanings") X XX IT (by decide +kernel) q_321 q_322 xs_72 (by decide +kernel) inv_33 (by decide +kernel) dX7_clean_25 dX7_clean_28 dX7_clean_29 dX7_clean_31 dX7_clean_34 (Nat.le_of_ble_eq_true rfl) (Nat.le_of_ble_eq_true rfl) (Nat.le_of_ble_eq_true rfl) (Nat.le_of_ble_eq_true rfl) (Nat.le_of_ble_eq_true rfl) (Nat.le_of_ble_eq_true rfl)
def f_X7_setRule (a1 : Int32) (a2 : Int32) (a3 : Int32) (T : TS) : Option (TS) := ck (inS T a1) (ck (((0 : Int32)) ≤ a2 ∧ a2 ≤ ((3000 : Int32))) (ck (((0 : Int32)) ≤ a3 ∧ a3 ≤ ((100 : Int32))) ((f_X3_change a2 a3 (T.2.2 a1.toNatClampNeg)).bind (fun (S5 : St) => nmv (setT T a1.toNatClampNeg S5) (fun (T7 : TS) => some T7)))))
set_option maxRecDepth 100000 in
set_option maxHeartbeats 4000000 in
theorem c_X7_setRule (E : Ev) (ad : CA) {a1 : Int32} {a2 : Int32} {a3 : Int32} {T : TS} {T2 : TS} (h : f_X7_setRule a1 a2 a3 T = some T2) : CtV E yX7_setRule cX7_setRule 5 4 85 (cW E ad T) [.ref (ad.1 0), .int a1, .int a2, .int a3] (cW E ad T2) := by
  refine CtV_of (by decide +kernel) (Nat.le_of_ble_eq_true rfl) (fun x X hE => ?_)
  show J E x 0 0 (cW E ad T) 0 [(0, .ref (ad.1 0)), (1, .int a1), (2, .int a2), (3, .int a3)] []
  unfold f_X7_setRule at h
  refine J_aload_n X (pc := 0) dX7_setRule_0 0 rfl ?_
  refine J_iload_n X (pc := 1) dX7_setRule_1 1 rfl ?_
  replace h := ck_e h
  obtain ⟨b2, h⟩ := h
  refine J_app0 ?_
  refine J_callF0R X (pc := 2) (w1 := cW E ad T) (rw := []) (y := yX7_storeAt) (na := 1) (As := [.int a1]) (rest := []) (c_X7_storeAt E ad b2) 0 cW_c0 rfl q_357 q_358 q_359 q_14 q_356 rfl (by decide +kernel) (by decide +kernel) rfl (Nat.le_of_ble_eq_true rfl) ⟨Nat.zero_le _, Nat.zero_le _⟩ dX7_setRule_2 (fun _ _ => ?_)
  refine J_app1 ?_
  refine J_astore X (pc := 5) dX7_setRule_5 (by decide) rfl ?_
  refine J_iload_n X (pc := 7) dX7_setRule_7 3 rfl ?_
  refine J_iconst X (pc := 8) (v := 0) dX7_setRule_8 (by decide +kernel) ?_
  refine J_sipush X (pc := 9) (v := 3000) dX7_setRule_9 (by decide +kernel) ?_
  replace h := ck_e h
  obtain ⟨b3, h⟩ := h
  refine J_callSV X (pc := 12) (y := yX7_demandRange) (na := 3) (As := [.int a2, .int ((0 : Int32)), .int ((3000 : Int32))]) (rest := []) (c_X7_demandRange E (cW E ad T) b3) q_326 q_327 q_14 q_272 rfl (by decide +kernel) (by decide +kernel) rfl (Nat.le_of_ble_eq_true rfl) ⟨Nat.zero_le _, Nat.zero_le _⟩ dX7_setRule_12 ?_
  refine J_iload_n X (pc := 15) dX7_setRule_15 4 rfl ?_
  refine J_iconst X (pc := 16) (v := 0) dX7_setRule_16 (by decide +kernel) ?_
  refine J_bipush X (pc := 17) (v := 100) dX7_setRule_17 (by decide +kernel) ?_
  replace h := ck_e h
  obtain ⟨b4, h⟩ := h
  refine J_callSV X (pc := 19) (y := yX7_demandRange) (na := 3) (As := [.int a3, .int ((0 : Int32)), .int ((100 : Int32))]) (rest := []) (c_X7_demandRange E (cW E ad T) b4) q_326 q_327 q_14 q_272 rfl (by decide +kernel) (by decide +kernel) rfl (Nat.le_of_ble_eq_true rfl) ⟨Nat.zero_le _, Nat.zero_le _⟩ dX7_setRule_19 ?_
  refine J_aload X (pc := 22) dX7_setRule_22 0 rfl ?_
  refine J_stgetN X (pc := 24) (inS_lt b2) 0 sW_c0 rfl in_X5 3 (by decide) nq_14 rfl dX7_setRule_24 ?_
  refine J_iload_n X (pc := 27) dX7_setRule_27 3 rfl ?_
  refine J_iload_n X (pc := 28) dX7_setRule_28 4 rfl ?_
  replace h := bk h
  obtain ⟨S5, g6, h⟩ := h
  replace h := nmv_e h
  obtain ⟨T7, eT7, h⟩ := h
  have hk8 : a1.toNatClampNeg < T7.2.1 := by rw [eT7]; exact (inS_lt b2)
  refine J_stV X (pc := 29) (inS_lt b2) (y := yX3_change) (na := 2) (As := [.int a2, .int a3]) (rest := []) (T2 := T7) (c_X3_change E (ad.2 a1.toNatClampNeg) g6) eT7 4 sW_c4 rfl q_374 q_375 q_376 q_113 q_105 rfl (by decide +kernel) (by decide +kernel) rfl (Nat.le_of_ble_eq_true rfl) ⟨Nat.zero_le _, Nat.zero_le _⟩ dX7_setRule_29 ?_
  cases h
  exact hE _ _ dX7_setRule_32
def x_X7_setRule (a1 : Int32) (a2 : Int32) (a3 : Int32) (T : TS) : Option (String × TS) := xc (x_X7_storeAt a1 T) (ck (inS T a1) (xc ((x_X7_demandRange a2 ((0 : Int32)) ((3000 : Int32))).map (fun z => (z, T))) (ck (((0 : Int32)) ≤ a2 ∧ a2 ≤ ((3000 : Int32))) (xc ((x_X7_demandRange a3 ((0 : Int32)) ((100 : Int32))).map (fun z => (z, T))) (ck (((0 : Int32)) ≤ a3 ∧ a3 ≤ ((100 : Int32))) ((f_X3_change a2 a3 (T.2.2 a1.toNatClampNeg)).bind (fun (S5 : St) => nmv (setT T a1.toNatClampNeg S5) (fun (T7 : TS) => none))))))))
set_option maxRecDepth 100000 in
set_option maxHeartbeats 4000000 in
theorem t_X7_setRule (E : Ev) (ad : CA) {a1 : Int32} {a2 : Int32} {a3 : Int32} {T : TS} {Ex : String} {T2 : TS} (h : x_X7_setRule a1 a2 a3 T = some (Ex, T2)) : CtT E yX7_setRule cX7_setRule 5 none 7 106 (cW E ad T) [.ref (ad.1 0), .int a1, .int a2, .int a3] Ex (cW E ad T2) := by
  refine CtT_of (by decide +kernel) (Nat.le_of_ble_eq_true rfl) (fun x X XX IT => ?_)
  show J E x 0 0 (cW E ad T) 0 [(0, .ref (ad.1 0)), (1, .int a1), (2, .int a2), (3, .int a3)] []
  unfold x_X7_setRule at h
  refine J_aload_n X (pc := 0) dX7_setRule_0 0 rfl ?_
  refine J_iload_n X (pc := 1) dX7_setRule_1 1 rfl ?_
  rcases xc_e h with h | h
  · exact J_callTV (y := yX7_storeAt) (na := 1) (As := [.int a1]) (rest := []) X XX (t_X7_storeAt E ad h) IT 0 cW_c0 rfl q_357 q_358 q_359 q_14 q_356 rfl (by decide +kernel) (by decide +kernel) rfl (Nat.le_of_ble_eq_true rfl) ⟨by decide +kernel, by decide +kernel⟩ dX7_setRule_2 (Nat.le_of_ble_eq_true rfl) (Nat.le_of_ble_eq_true rfl)
  replace h := ck_e h
  obtain ⟨b2, h⟩ := h
  refine J_app0 ?_
  refine J_callF0R X (pc := 2) (w1 := cW E ad T) (rw := []) (y := yX7_storeAt) (na := 1) (As := [.int a1]) (rest := []) (c_X7_storeAt E ad b2) 0 cW_c0 rfl q_357 q_358 q_359 q_14 q_356 rfl (by decide +kernel) (by decide +kernel) rfl (Nat.le_of_ble_eq_true rfl) ⟨Nat.zero_le _, Nat.zero_le _⟩ dX7_setRule_2 (fun _ _ => ?_)
  refine J_app1 ?_
  refine J_astore X (pc := 5) dX7_setRule_5 (by decide) rfl ?_
  refine J_iload_n X (pc := 7) dX7_setRule_7 3 rfl ?_
  refine J_iconst X (pc := 8) (v := 0) dX7_setRule_8 (by decide +kernel) ?_
  refine J_sipush X (pc := 9) (v := 3000) dX7_setRule_9 (by decide +kernel) ?_
  rcases xc_e h with h | h
  · obtain ⟨z, hz, hz2⟩ := Option.map_eq_some_iff.mp h
    have hz3 := Prod.mk.inj hz2
    rw [← hz3.1, ← hz3.2] at IT
    exact J_callTS (y := yX7_demandRange) (na := 3) (As := [.int a2, .int ((0 : Int32)), .int ((3000 : Int32))]) (rest := []) X XX (t_X7_demandRange E (cW E ad T) hz) IT q_326 q_327 q_14 q_272 rfl (by decide +kernel) (by decide +kernel) rfl (Nat.le_of_ble_eq_true rfl) ⟨by decide +kernel, by decide +kernel⟩ dX7_setRule_12 (Nat.le_of_ble_eq_true rfl) (Nat.le_of_ble_eq_true rfl)
  replace h := ck_e h
  obtain ⟨b3, h⟩ := h
  refine J_callSV X (pc := 12) (y := yX7_demandRange) (na := 3) (As := [.int a2, .int ((0 : Int32)), .int ((3000 : Int32))]) (rest := []) (c_X7_demandRange E (cW E ad T) b3) q_326 q_327 q_14 q_272 rfl (by decide +kernel) (by decide +kernel) rfl (Nat.le_of_ble_eq_true rfl) ⟨Nat.zero_le _, Nat.zero_le _⟩ dX7_setRule_12 ?_
  refine J_iload_n X (pc := 15) dX7_setRule_15 4 rfl ?_
  refine J_iconst X (pc := 16) (v := 0) dX7_setRule_16 (by decide +kernel) ?_
  refine J_bipush X (pc := 17) (v := 100) dX7_setRule_17 (by decide +kernel) ?_
  rcases xc_e h with h | h
  · obtain ⟨z, hz, hz2⟩ := Option.map_eq_some_iff.mp h
    have hz3 := Prod.mk.inj hz2
    rw [← hz3.1, ← hz3.2] at IT
    exact J_callTS (y := yX7_demandRange) (na := 3) (As := [.int a3, .int ((0 : Int32)), .int ((100 : Int32))]) (rest := []) X XX (t_X7_demandRange E (cW E ad T) hz) IT q_326 q_327 q_14 q_272 rfl (by decide +kernel) (by decide +kernel) rfl (Nat.le_of_ble_eq_true rfl) ⟨by decide +kernel, by decide +kernel⟩ dX7_setRule_19 (Nat.le_of_ble_eq_true rfl) (Nat.le_of_ble_eq_true rfl)
  replace h := ck_e h
  obtain ⟨b4, h⟩ := h
  refine J_callSV X (pc := 19) (y := yX7_demandRange) (na := 3) (As := [.int a3, .int ((0 : Int32)), .int ((100 : Int32))]) (rest := []) (c_X7_demandRange E (cW E ad T) b4) q_326 q_327 q_14 q_272 rfl (by decide +kernel) (by decide +kernel) rfl (Nat.le_of_ble_eq_true rfl) ⟨Nat.zero_le _, Nat.zero_le _⟩ dX7_setRule_19 ?_
  refine J_aload X (pc := 22) dX7_setRule_22 0 rfl ?_
  refine J_stgetN X (pc := 24) (inS_lt b2) 0 sW_c0 rfl in_X5 3 (by decide) nq_14 rfl dX7_setRule_24 ?_
  refine J_iload_n X (pc := 27) dX7_setRule_27 3 rfl ?_
  refine J_iload_n X (pc := 28) dX7_setRule_28 4 rfl ?_
  replace h := bk h
  obtain ⟨S5, g6, h⟩ := h
  replace h := nmv_e h
  obtain ⟨T7, eT7, h⟩ := h
  have hk8 : a1.toNatClampNeg < T7.2.1 := by rw [eT7]; exact (inS_lt b2)
  refine J_stV X (pc := 29) (inS_lt b2) (y := yX3_change) (na := 2) (As := [.int a2, .int a3]) (rest := []) (T2 := T7) (c_X3_change E (ad.2 a1.toNatClampNeg) g6) eT7 4 sW_c4 rfl q_374 q_375 q_376 q_113 q_105 rfl (by decide +kernel) (by decide +kernel) rfl (Nat.le_of_ble_eq_true rfl) ⟨Nat.zero_le _, Nat.zero_le _⟩ dX7_setRule_29 ?_
  cases h
def f_X7_pass_33 (a1 : Int32) : Nat → Int32 → Int32 → TS → Option (Int32 × TS)
  | 0, _, _, _ => none
  | n6+1, x3, x4, S5 => if (nI S5.2.1) ≤ x4 then some (x3, S5) else ck (inS S5 x4) ((f_X5_lookOnDaysAfter S5.1.1 a1 (S5.2.2 x4.toNatClampNeg)).bind (fun ((r14, S15) : Int32 × St) => nmv (setT S5 x4.toNatClampNeg S15) (fun (T17 : TS) => nmv (x3 + r14) (fun (v19 : Int32) => nmv (x4 + (1 : Int32)) (fun (v20 : Int32) => f_X7_pass_33 a1 n6 v19 v20 T17)))))
def f_X7_pass (a1 : Int32) (T : TS) : Option (Int32 × TS) := ck (((1 : Int32)) ≤ a1 ∧ a1 ≤ ((100 : Int32))) (if (T.1.1 + a1) ≤ ((2000 : Int32)) then (f_X7_pass_33 a1 3000 ((0 : Int32)) ((0 : Int32)) T).bind (fun ((r8, S9) : Int32 × TS) => nmv (((S9.1.1 + a1, S9.1.2), S9.2)) (fun (T22 : TS) => some (r8, T22))) else none)
set_option maxRecDepth 100000 in
set_option maxHeartbeats 4000000 in
theorem c_X7_pass (E : Ev) (ad : CA) {a1 : Int32} {T : TS} {r : Int32} {T2 : TS} (h : f_X7_pass a1 T = some (r, T2)) : CtI E yX7_pass cX7_pass 4 .int 6 144 (cW E ad T) [.ref (ad.1 0), .int a1] r (cW E ad T2) := by
  refine CtI_of (by decide +kernel) (Nat.le_of_ble_eq_true rfl) (fun x X hE => ?_)
  show J E x 0 0 (cW E ad T) 0 [(0, .ref (ad.1 0)), (1, .int a1)] []
  unfold f_X7_pass at h
  refine J_iload_n X (pc := 0) dX7_pass_0 1 rfl ?_
  refine J_iconst X (pc := 1) (v := 1) dX7_pass_1 (by decide +kernel) ?_
  refine J_bipush X (pc := 2) (v := 100) dX7_pass_2 (by decide +kernel) ?_
  replace h := ck_e h
  obtain ⟨b1, h⟩ := h
  refine J_callSV X (pc := 4) (y := yX7_demandRange) (na := 3) (As := [.int a1, .int ((1 : Int32)), .int ((100 : Int32))]) (rest := []) (c_X7_demandRange E (cW E ad T) b1) q_326 q_327 q_14 q_272 rfl (by decide +kernel) (by decide +kernel) rfl (Nat.le_of_ble_eq_true rfl) ⟨Nat.zero_le _, Nat.zero_le _⟩ dX7_pass_4 ?_
  refine J_aload_n X (pc := 7) dX7_pass_7 0 rfl ?_
  refine J_getf X (pc := 8) 0 cW_c0 rfl in_X7 1 (by decide) q_269 rfl dX7_pass_8 ?_
  refine J_iload_n X (pc := 11) dX7_pass_11 1 rfl ?_
  refine J_iadd X (pc := 12) dX7_pass_12 ?_
  refine J_sipush X (pc := 13) (v := 2000) dX7_pass_13 (by decide +kernel) ?_
  refine J_icmp_le X (pc := 16) 29 dX7_pass_16 (by decide) (fun c2 => ?_) (fun c2 => ?_)
  · rw [if_pos c2] at h
    refine J_iconst X (pc := 29) (v := 0) dX7_pass_29 (by decide +kernel) ?_
    refine J_istore_n X (pc := 30) dX7_pass_30 (by decide) rfl ?_
    refine J_iconst X (pc := 31) (v := 0) dX7_pass_31 (by decide +kernel) ?_
    refine J_istore_n X (pc := 32) dX7_pass_32 (by decide) rfl ?_
    replace h := bk h
    obtain ⟨⟨r8, S9⟩, g11, h⟩ := h
    dsimp only at h
    have k10 : J E x 0 0 (cW E ad S9) 72 [(0, .ref (ad.1 0)), (1, .int a1), (2, .int r8)] [] := by
      refine J_aload_n X (pc := 72) dX7_pass_72 0 rfl ?_
      refine J_dup X (pc := 73) dX7_pass_73 rfl ?_
      refine J_getf X (pc := 74) 0 cW_c0 rfl in_X7 1 (by decide) q_269 rfl dX7_pass_74 ?_
      refine J_iload_n X (pc := 77) dX7_pass_77 1 rfl ?_
      refine J_iadd X (pc := 78) dX7_pass_78 ?_
      replace h := nmv_e h
      obtain ⟨T22, eT22, h⟩ := h
      refine J_putf X (pc := 79) (ty := .int) (w1 := (cW E ad T22)) 0 cW_c0 rfl in_X7 tyX7_ok nmX7 1 (by decide) q_269 rfl (by decide +kernel) rfl rfl (Nat.le_of_ble_eq_true rfl) dX7_pass_79 (cW_pd eT22) ?_
      refine J_iload_n X (pc := 82) dX7_pass_82 2 rfl ?_
      cases h
      exact hE _ _ dX7_pass_83 rfl
    clear h
    have l21 : ∀ (n6 : Nat) (x3 : Int32) (x4 : Int32) (S5 : TS), f_X7_pass_33 a1 n6 x3 x4 S5 = some (r8, S9) → J E x 0 0 (cW E ad S5) 33 [(0, .ref (ad.1 0)), (1, .int a1), (2, .int x3), (3, .int x4)] [] := by
      intro n6
      induction n6 with
      | zero => intro x3 x4 S5 h; rw [f_X7_pass_33] at h; cases h
      | succ n6 ih7 =>
        intro x3 x4 S5 h
        rw [f_X7_pass_33] at h
        refine J_iload_n X (pc := 33) dX7_pass_33 3 rfl ?_
        refine J_aload_n X (pc := 34) dX7_pass_34 0 rfl ?_
        refine J_getf X (pc := 35) 0 cW_c0 rfl in_X7 0 (by decide) q_268 rfl dX7_pass_35 ?_
        refine J_size X (pc := 38) q_328 ⟨Nat.le_of_ble_eq_true rfl, Nat.le_of_ble_eq_true rfl⟩ (Nat.le_of_ble_eq_true rfl) ⟨Nat.zero_le _, Nat.zero_le _⟩ dX7_pass_38 ?_
        refine J_icmp_ge X (pc := 41) 72 dX7_pass_41 (by decide) (fun c12 => ?_) (fun c12 => ?_)
        · rw [if_pos c12] at h
          cases h
          exact J_sub [0, 1, 2] rfl k10
        · rw [if_neg c12] at h
          refine J_iload_n X (pc := 44) dX7_pass_44 2 rfl ?_
          refine J_aload_n X (pc := 45) dX7_pass_45 0 rfl ?_
          refine J_getf X (pc := 46) 0 cW_c0 rfl in_X7 0 (by decide) q_268 rfl dX7_pass_46 ?_
          refine J_iload_n X (pc := 49) dX7_pass_49 3 rfl ?_
          replace h := ck_e h
          obtain ⟨b13, h⟩ := h
          refine J_get X (pc := 50) b13 q_353 ⟨Nat.le_of_ble_eq_true rfl, Nat.le_of_ble_eq_true rfl⟩ (Nat.le_of_ble_eq_true rfl) ⟨Nat.zero_le _, Nat.zero_le _⟩ dX7_pass_50 ?_
          refine J_cast X (pc := 53) (cast_mem (inS_lt b13)) rfl q_352 dX7_pass_53 ?_
          refine J_aload_n X (pc := 56) dX7_pass_56 0 rfl ?_
          refine J_getf X (pc := 57) 0 cW_c0 rfl in_X7 1 (by decide) q_269 rfl dX7_pass_57 ?_
          refine J_iload_n X (pc := 60) dX7_pass_60 1 rfl ?_
          replace h := bk h
          obtain ⟨⟨r14, S15⟩, g16, h⟩ := h
          dsimp only at h
          replace h := nmv_e h
          obtain ⟨T17, eT17, h⟩ := h
          have hk18 : x4.toNatClampNeg < T17.2.1 := by rw [eT17]; exact (inS_lt b13)
          refine J_stI X (pc := 61) (inS_lt b13) (y := yX5_lookOnDaysAfter) (na := 2) (As := [.int S5.1.1, .int a1]) (rest := [.int x3]) (T2 := T17) (c_X5_lookOnDaysAfter E (ad.2 x4.toNatClampNeg) g16) eT17 0 sW_c0 rfl q_378 q_379 q_380 q_220 q_249 rfl (by decide +kernel) (by decide +kernel) rfl (Nat.le_of_ble_eq_true rfl) ⟨Nat.zero_le _, Nat.zero_le _⟩ dX7_pass_61 ?_
          refine J_iadd X (pc := 64) dX7_pass_64 ?_
          replace h := nmv_e h
          obtain ⟨v19, ev19, h⟩ := h
          refine J_nmi ev19 ?_
          refine J_istore_n X (pc := 65) dX7_pass_65 (by decide) rfl ?_
          replace h := nmv_e h
          obtain ⟨v20, ev20, h⟩ := h
          refine J_iinc X (pc := 66) (v := v20) dX7_pass_66 3 rfl (by rw [ev20]; rfl) (by decide) rfl ?_
          refine J_goto X (pc := 69) 33 dX7_pass_69 (by decide) ?_
          exact J_sub [2, 3, 1, 0] rfl (ih7 _ _ _ h)
    exact J_sub [2, 3, 1, 0] rfl (l21 3000 _ _ _ g11)
  · rw [if_neg c2] at h
    cases h
def x_X7_pass_33 (a1 : Int32) : Nat → Int32 → Int32 → TS → Option (Int32 × TS)
  | 0, _, _, _ => none
  | n6+1, x3, x4, S5 => if (nI S5.2.1) ≤ x4 then some (x3, S5) else ck (inS S5 x4) ((f_X5_lookOnDaysAfter S5.1.1 a1 (S5.2.2 x4.toNatClampNeg)).bind (fun ((r14, S15) : Int32 × St) => nmv (setT S5 x4.toNatClampNeg S15) (fun (T17 : TS) => nmv (x3 + r14) (fun (v19 : Int32) => nmv (x4 + (1 : Int32)) (fun (v20 : Int32) => x_X7_pass_33 a1 n6 v19 v20 T17)))))
def x_X7_pass (a1 : Int32) (T : TS) : Option (String × TS) := xc ((x_X7_demandRange a1 ((1 : Int32)) ((100 : Int32))).map (fun z => (z, T))) (ck (((1 : Int32)) ≤ a1 ∧ a1 ≤ ((100 : Int32))) (if (T.1.1 + a1) ≤ ((2000 : Int32)) then (x_X7_pass_33 a1 3000 ((0 : Int32)) ((0 : Int32)) T).bind (fun ((r8, S9) : Int32 × TS) => nmv (((S9.1.1 + a1, S9.1.2), S9.2)) (fun (T22 : TS) => none)) else some ("java/lang/IllegalStateException", T)))
set_option maxRecDepth 100000 in
set_option maxHeartbeats 4000000 in
theorem t_X7_pass (E : Ev) (ad : CA) {a1 : Int32} {T : TS} {Ex : String} {T2 : TS} (h : x_X7_pass a1 T = some (Ex, T2)) : CtT E yX7_pass cX7_pass 4 (some .int) 7 144 (cW E ad T) [.ref (ad.1 0), .int a1] Ex (cW E ad T2) := by
  refine CtT_of (by decide +kernel) (Nat.le_of_ble_eq_true rfl) (fun x X XX IT => ?_)
  show J E x 0 0 (cW E ad T) 0 [(0, .ref (ad.1 0)), (1, .int a1)] []
  unfold x_X7_pass at h
  refine J_iload_n X (pc := 0) dX7_pass_0 1 rfl ?_
  refine J_iconst X (pc := 1) (v := 1) dX7_pass_1 (by decide +kernel) ?_
  refine J_bipush X (pc := 2) (v := 100) dX7_pass_2 (by decide +kernel) ?_
  rcases xc_e h with h | h
  · obtain ⟨z, hz, hz2⟩ := Option.map_eq_some_iff.mp h
    have hz3 := Prod.mk.inj hz2
    rw [← hz3.1, ← hz3.2] at IT
    exact J_callTS (y := yX7_demandRange) (na := 3) (As := [.int a1, .int ((1 : Int32)), .int ((100 : Int32))]) (rest := []) X XX (t_X7_demandRange E (cW E ad T) hz) IT q_326 q_327 q_14 q_272 rfl (by decide +kernel) (by decide +kernel) rfl (Nat.le_of_ble_eq_true rfl) ⟨by decide +kernel, by decide +kernel⟩ dX7_pass_4 (Nat.le_of_ble_eq_true rfl) (Nat.le_of_ble_eq_true rfl)
  replace h := ck_e h
  obtain ⟨b1, h⟩ := h
  refine J_callSV X (pc := 4) (y := yX7_demandRange) (na := 3) (As := [.int a1, .int ((1 : Int32)), .int ((100 : Int32))]) (rest := []) (c_X7_demandRange E (cW E ad T) b1) q_326 q_327 q_14 q_272 rfl (by decide +kernel) (by decide +kernel) rfl (Nat.le_of_ble_eq_true rfl) ⟨Nat.zero_le _, Nat.zero_le _⟩ dX7_pass_4 ?_
  refine J_aload_n X (pc := 7) dX7_pass_7 0 rfl ?_
  refine J_getf X (pc := 8) 0 cW_c0 rfl in_X7 1 (by decide) q_269 rfl dX7_pass_8 ?_
  refine J_iload_n X (pc := 11) dX7_pass_11 1 rfl ?_
  refine J_iadd X (pc := 12) dX7_pass_12 ?_
  refine J_sipush X (pc := 13) (v := 2000) dX7_pass_13 (by decide +kernel) ?_
  refine J_icmp_le X (pc := 16) 29 dX7_pass_16 (by decide) (fun c2 => ?_) (fun c2 => ?_)
  · rw [if_pos c2] at h
    refine J_iconst X (pc := 29) (v := 0) dX7_pass_29 (by decide +kernel) ?_
    refine J_istore_n X (pc := 30) dX7_pass_30 (by decide) rfl ?_
    refine J_iconst X (pc := 31) (v := 0) dX7_pass_31 (by decide +kernel) ?_
    refine J_istore_n X (pc := 32) dX7_pass_32 (by decide) rfl ?_
    replace h := bk h
    obtain ⟨⟨r8, S9⟩, g11, h⟩ := h
    dsimp only at h
    have k10 : J E x 0 0 (cW E ad S9) 72 [(0, .ref (ad.1 0)), (1, .int a1), (2, .int r8)] [] := by
      refine J_aload_n X (pc := 72) dX7_pass_72 0 rfl ?_
      refine J_dup X (pc := 73) dX7_pass_73 rfl ?_
      refine J_getf X (pc := 74) 0 cW_c0 rfl in_X7 1 (by decide) q_269 rfl dX7_pass_74 ?_
      refine J_iload_n X (pc := 77) dX7_pass_77 1 rfl ?_
      refine J_iadd X (pc := 78) dX7_pass_78 ?_
      replace h := nmv_e h
      obtain ⟨T22, eT22, h⟩ := h
      refine J_putf X (pc := 79) (ty := .int) (w1 := (cW E ad T22)) 0 cW_c0 rfl in_X7 tyX7_ok nmX7 1 (by decide) q_269 rfl (by decide +kernel) rfl rfl (Nat.le_of_ble_eq_true rfl) dX7_pass_79 (cW_pd eT22) ?_
      refine J_iload_n X (pc := 82) dX7_pass_82 2 rfl ?_
      cases h
    clear h
    have l21 : ∀ (n6 : Nat) (x3 : Int32) (x4 : Int32) (S5 : TS), x_X7_pass_33 a1 n6 x3 x4 S5 = some (r8, S9) → J E x 0 0 (cW E ad S5) 33 [(0, .ref (ad.1 0)), (1, .int a1), (2, .int x3), (3, .int x4)] [] := by
      intro n6
      induction n6 with
      | zero => intro x3 x4 S5 h; rw [x_X7_pass_33] at h; cases h
      | succ n6 ih7 =>
        intro x3 x4 S5 h
        rw [x_X7_pass_33] at h
        refine J_iload_n X (pc := 33) dX7_pass_33 3 rfl ?_
        refine J_aload_n X (pc := 34) dX7_pass_34 0 rfl ?_
        refine J_getf X (pc := 35) 0 cW_c0 rfl in_X7 0 (by decide) q_268 rfl dX7_pass_35 ?_
        refine J_size X (pc := 38) q_328 ⟨Nat.le_of_ble_eq_true rfl, Nat.le_of_ble_eq_true rfl⟩ (Nat.le_of_ble_eq_true rfl) ⟨Nat.zero_le _, Nat.zero_le _⟩ dX7_pass_38 ?_
        refine J_icmp_ge X (pc := 41) 72 dX7_pass_41 (by decide) (fun c12 => ?_) (fun c12 => ?_)
        · rw [if_pos c12] at h
          cases h
          exact J_sub [0, 1, 2] rfl k10
        · rw [if_neg c12] at h
          refine J_iload_n X (pc := 44) dX7_pass_44 2 rfl ?_
          refine J_aload_n X (pc := 45) dX7_pass_45 0 rfl ?_
          refine J_getf X (pc := 46) 0 cW_c0 rfl in_X7 0 (by decide) q_268 rfl dX7_pass_46 ?_
          refine J_iload_n X (pc := 49) dX7_pass_49 3 rfl ?_
          replace h := ck_e h
          obtain ⟨b13, h⟩ := h
          refine J_get X (pc := 50) b13 q_353 ⟨Nat.le_of_ble_eq_true rfl, Nat.le_of_ble_eq_true rfl⟩ (Nat.le_of_ble_eq_true rfl) ⟨Nat.zero_le _, Nat.zero_le _⟩ dX7_pass_50 ?_
          refine J_cast X (pc := 53) (cast_mem (inS_lt b13)) rfl q_352 dX7_pass_53 ?_
          refine J_aload_n X (pc := 56) dX7_pass_56 0 rfl ?_
          refine J_getf X (pc := 57) 0 cW_c0 rfl in_X7 1 (by decide) q_269 rfl dX7_pass_57 ?_
          refine J_iload_n X (pc := 60) dX7_pass_60 1 rfl ?_
          replace h := bk h
          obtain ⟨⟨r14, S15⟩, g16, h⟩ := h
          dsimp only at h
          replace h := nmv_e h
          obtain ⟨T17, eT17, h⟩ := h
          have hk18 : x4.toNatClampNeg < T17.2.1 := by rw [eT17]; exact (inS_lt b13)
          refine J_stI X (pc := 61) (inS_lt b13) (y := yX5_lookOnDaysAfter) (na := 2) (As := [.int S5.1.1, .int a1]) (rest := [.int x3]) (T2 := T17) (c_X5_lookOnDaysAfter E (ad.2 x4.toNatClampNeg) g16) eT17 0 sW_c0 rfl q_378 q_379 q_380 q_220 q_249 rfl (by decide +kernel) (by decide +kernel) rfl (Nat.le_of_ble_eq_true rfl) ⟨Nat.zero_le _, Nat.zero_le _⟩ dX7_pass_61 ?_
          refine J_iadd X (pc := 64) dX7_pass_64 ?_
          replace h := nmv_e h
          obtain ⟨v19, ev19, h⟩ := h
          refine J_nmi ev19 ?_
          refine J_istore_n X (pc := 65) dX7_pass_65 (by decide) rfl ?_
          replace h := nmv_e h
          obtain ⟨v20, ev20, h⟩ := h
          refine J_iinc X (pc := 66) (v := v20) dX7_pass_66 3 rfl (by rw [ev20]; rfl) (by decide) rfl ?_
          refine J_goto X (pc := 69) 33 dX7_pass_69 (by decide) ?_
          exact J_sub [2, 3, 1, 0] rfl (ih7 _ _ _ h)
    exact J_sub [2, 3, 1, 0] rfl (l21 3000 _ _ _ g11)
  · rw [if_neg c2] at h
    cases h
    exact J_throwS (text := "beyond the last day") X XX IT (by decide +kernel) q_321 q_322 xs_86 (by decide +kernel) inv_33 (by decide +kernel) dX7_pass_19 dX7_pass_22 dX7_pass_23 dX7_pass_25 dX7_pass_28 (Nat.le_of_ble_eq_true rfl) (Nat.le_of_ble_eq_true rfl) (Nat.le_of_ble_eq_true rfl) (Nat.le_of_ble_eq_true rfl) (Nat.le_of_ble_eq_true rfl) (Nat.le_of_ble_eq_true rfl)
