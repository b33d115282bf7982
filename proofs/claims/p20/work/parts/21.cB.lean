def f_X7_today (T : TS) : Option (Int32) := some T.1.1
set_option maxRecDepth 100000 in
set_option maxHeartbeats 4000000 in
theorem c_X7_today (E : Ev) (ad : CA) {T : TS} {r : Int32} (h : f_X7_today T = some r) : CtI E yX7_today cX7_today 1 .int 0 0 (cW E ad T) [.ref (ad.1 0)] r (cW E ad T) := by
  refine CtI_of (by decide +kernel) (Nat.le_of_ble_eq_true rfl) (fun x X hE => ?_)
  show J E x 0 0 (cW E ad T) 0 [(0, .ref (ad.1 0))] []
  unfold f_X7_today at h
  refine J_aload_n X (pc := 0) dX7_today_0 0 rfl ?_
  refine J_getf X (pc := 1) 0 cW_c0 rfl in_X7 1 (by decide) q_269 rfl dX7_today_1 ?_
  cases h
  exact hE _ _ dX7_today_4 rfl
def f_X7_samples (a1 : Int32) (T : TS) : Option (Int32) := ck (inS T a1) ((f_X4_number (T.2.2 a1.toNatClampNeg)).bind (fun (r3 : Int32) => some r3))
set_option maxRecDepth 100000 in
set_option maxHeartbeats 4000000 in
theorem c_X7_samples (E : Ev) (ad : CA) {a1 : Int32} {T : TS} {r : Int32} (h : f_X7_samples a1 T = some r) : CtI E yX7_samples cX7_samples 2 .int 4 85 (cW E ad T) [.ref (ad.1 0), .int a1] r (cW E ad T) := by
  refine CtI_of (by decide +kernel) (Nat.le_of_ble_eq_true rfl) (fun x X hE => ?_)
  show J E x 0 0 (cW E ad T) 0 [(0, .ref (ad.1 0)), (1, .int a1)] []
  unfold f_X7_samples at h
  refine J_aload_n X (pc := 0) dX7_samples_0 0 rfl ?_
  refine J_iload_n X (pc := 1) dX7_samples_1 1 rfl ?_
  replace h := ck_e h
  obtain ⟨b2, h⟩ := h
  refine J_app0 ?_
  refine J_callF0R X (pc := 2) (w1 := cW E ad T) (rw := []) (y := yX7_storeAt) (na := 1) (As := [.int a1]) (rest := []) (c_X7_storeAt E ad b2) 0 cW_c0 rfl q_357 q_358 q_359 q_14 q_356 rfl (by decide +kernel) (by decide +kernel) rfl (Nat.le_of_ble_eq_true rfl) ⟨Nat.zero_le _, Nat.zero_le _⟩ dX7_samples_2 (fun _ _ => ?_)
  refine J_app1 ?_
  refine J_stgetN X (pc := 5) (inS_lt b2) 0 sW_c0 rfl in_X5 0 (by decide) nq_12 rfl dX7_samples_5 ?_
  replace h := bk h
  obtain ⟨r3, g4, h⟩ := h
  refine J_stI X (pc := 8) (inS_lt b2) (y := yX4_number) (na := 0) (As := []) (rest := []) (T2 := T) (c_X4_number E (ad.2 a1.toNatClampNeg) g4) setT_self.symm 1 sW_c1 rfl q_364 q_88 q_89 q_58 q_50 rfl (by decide +kernel) (by decide +kernel) rfl (Nat.le_of_ble_eq_true rfl) ⟨Nat.zero_le _, Nat.zero_le _⟩ dX7_samples_8 ?_
  cases h
  exact hE _ _ dX7_samples_11 rfl
def x_X7_samples (a1 : Int32) (T : TS) : Option (String × TS) := xc (x_X7_storeAt a1 T) (ck (inS T a1) ((f_X4_number (T.2.2 a1.toNatClampNeg)).bind (fun (r3 : Int32) => none)))
set_option maxRecDepth 100000 in
set_option maxHeartbeats 4000000 in
theorem t_X7_samples (E : Ev) (ad : CA) {a1 : Int32} {T : TS} {Ex : String} {T2 : TS} (h : x_X7_samples a1 T = some (Ex, T2)) : CtT E yX7_samples cX7_samples 2 (some .int) 7 105 (cW E ad T) [.ref (ad.1 0), .int a1] Ex (cW E ad T2) := by
  refine CtT_of (by decide +kernel) (Nat.le_of_ble_eq_true rfl) (fun x X XX IT => ?_)
  show J E x 0 0 (cW E ad T) 0 [(0, .ref (ad.1 0)), (1, .int a1)] []
  unfold x_X7_samples at h
  refine J_aload_n X (pc := 0) dX7_samples_0 0 rfl ?_
  refine J_iload_n X (pc := 1) dX7_samples_1 1 rfl ?_
  rcases xc_e h with h | h
  · exact J_callTV (y := yX7_storeAt) (na := 1) (As := [.int a1]) (rest := []) X XX (t_X7_storeAt E ad h) IT 0 cW_c0 rfl q_357 q_358 q_359 q_14 q_356 rfl (by decide +kernel) (by decide +kernel) rfl (Nat.le_of_ble_eq_true rfl) ⟨by decide +kernel, by decide +kernel⟩ dX7_samples_2 (Nat.le_of_ble_eq_true rfl) (Nat.le_of_ble_eq_true rfl)
  replace h := ck_e h
  obtain ⟨b2, h⟩ := h
  refine J_app0 ?_
  refine J_callF0R X (pc := 2) (w1 := cW E ad T) (rw := []) (y := yX7_storeAt) (na := 1) (As := [.int a1]) (rest := []) (c_X7_storeAt E ad b2) 0 cW_c0 rfl q_357 q_358 q_359 q_14 q_356 rfl (by decide +kernel) (by decide +kernel) rfl (Nat.le_of_ble_eq_true rfl) ⟨Nat.zero_le _, Nat.zero_le _⟩ dX7_samples_2 (fun _ _ => ?_)
  refine J_app1 ?_
  refine J_stgetN X (pc := 5) (inS_lt b2) 0 sW_c0 rfl in_X5 0 (by decide) nq_12 rfl dX7_samples_5 ?_
  replace h := bk h
  obtain ⟨r3, g4, h⟩ := h
  refine J_stI X (pc := 8) (inS_lt b2) (y := yX4_number) (na := 0) (As := []) (rest := []) (T2 := T) (c_X4_number E (ad.2 a1.toNatClampNeg) g4) setT_self.symm 1 sW_c1 rfl q_364 q_88 q_89 q_58 q_50 rfl (by decide +kernel) (by decide +kernel) rfl (Nat.le_of_ble_eq_true rfl) ⟨Nat.zero_le _, Nat.zero_le _⟩ dX7_samples_8 ?_
  cases h
def f_X7_slopeNumerator (a1 : Int32) (T : TS) : Option (Int32 × TS) := ck (inS T a1) ((f_X7_slopeOf a1 T).bind (fun (T3 : TS) => ck (a1.toNatClampNeg < T3.2.1) ((f_X1_riseInLowestTerms (T3.2.2 a1.toNatClampNeg)).bind (fun (r5 : Int32) => some (r5, T3)))))
set_option maxRecDepth 100000 in
set_option maxHeartbeats 4000000 in
theorem c_X7_slopeNumerator (E : Ev) (ad : CA) {a1 : Int32} {T : TS} {r : Int32} {T2 : TS} (h : f_X7_slopeNumerator a1 T = some (r, T2)) : CtI E yX7_slopeNumerator cX7_slopeNumerator 2 .int 5 107 (cW E ad T) [.ref (ad.1 0), .int a1] r (cW E ad T2) := by
  refine CtI_of (by decide +kernel) (Nat.le_of_ble_eq_true rfl) (fun x X hE => ?_)
  show J E x 0 0 (cW E ad T) 0 [(0, .ref (ad.1 0)), (1, .int a1)] []
  unfold f_X7_slopeNumerator at h
  refine J_aload_n X (pc := 0) dX7_slopeNumerator_0 0 rfl ?_
  refine J_iload_n X (pc := 1) dX7_slopeNumerator_1 1 rfl ?_
  replace h := ck_e h
  obtain ⟨b2, h⟩ := h
  replace h := bk h
  obtain ⟨T3, g1, h⟩ := h
  replace h := ck_e h
  obtain ⟨b4, h⟩ := h
  refine J_app0 ?_
  refine J_callF0R X (pc := 2) (w1 := cW E ad T) (rw := []) (y := yX7_slopeOf) (na := 1) (As := [.int a1]) (rest := []) (c_X7_slopeOf E ad g1) 0 cW_c0 rfl q_387 q_388 q_389 q_14 q_386 rfl (by decide +kernel) (by decide +kernel) rfl (Nat.le_of_ble_eq_true rfl) ⟨Nat.zero_le _, Nat.zero_le _⟩ dX7_slopeNumerator_2 (fun _ _ => ?_)
  refine J_app1 ?_
  replace h := bk h
  obtain ⟨r5, g6, h⟩ := h
  refine J_stI X (pc := 5) b4 (y := yX1_riseInLowestTerms) (na := 0) (As := []) (rest := []) (T2 := T3) (c_X1_riseInLowestTerms E (ad.2 a1.toNatClampNeg) g6) setT_self.symm 5 sW_c5 rfl q_390 q_391 q_392 q_42 q_38 rfl (by decide +kernel) (by decide +kernel) rfl (Nat.le_of_ble_eq_true rfl) ⟨Nat.zero_le _, Nat.zero_le _⟩ dX7_slopeNumerator_5 ?_
  cases h
  exact hE _ _ dX7_slopeNumerator_8 rfl
def x_X7_slopeNumerator (a1 : Int32) (T : TS) : Option (String × TS) := xc (x_X7_slopeOf a1 T) (ck (inS T a1) ((f_X7_slopeOf a1 T).bind (fun (T3 : TS) => ck (a1.toNatClampNeg < T3.2.1) ((f_X1_riseInLowestTerms (T3.2.2 a1.toNatClampNeg)).bind (fun (r5 : Int32) => none)))))
set_option maxRecDepth 100000 in
set_option maxHeartbeats 4000000 in
theorem t_X7_slopeNumerator (E : Ev) (ad : CA) {a1 : Int32} {T : TS} {Ex : String} {T2 : TS} (h : x_X7_slopeNumerator a1 T = some (Ex, T2)) : CtT E yX7_slopeNumerator cX7_slopeNumerator 2 (some .int) 8 127 (cW E ad T) [.ref (ad.1 0), .int a1] Ex (cW E ad T2) := by
  refine CtT_of (by decide +kernel) (Nat.le_of_ble_eq_true rfl) (fun x X XX IT => ?_)
  show J E x 0 0 (cW E ad T) 0 [(0, .ref (ad.1 0)), (1, .int a1)] []
  unfold x_X7_slopeNumerator at h
  refine J_aload_n X (pc := 0) dX7_slopeNumerator_0 0 rfl ?_
  refine J_iload_n X (pc := 1) dX7_slopeNumerator_1 1 rfl ?_
  rcases xc_e h with h | h
  · exact J_callTV (y := yX7_slopeOf) (na := 1) (As := [.int a1]) (rest := []) X XX (t_X7_slopeOf E ad h) IT 0 cW_c0 rfl q_387 q_388 q_389 q_14 q_386 rfl (by decide +kernel) (by decide +kernel) rfl (Nat.le_of_ble_eq_true rfl) ⟨by decide +kernel, by decide +kernel⟩ dX7_slopeNumerator_2 (Nat.le_of_ble_eq_true rfl) (Nat.le_of_ble_eq_true rfl)
  replace h := ck_e h
  obtain ⟨b2, h⟩ := h
  replace h := bk h
  obtain ⟨T3, g1, h⟩ := h
  replace h := ck_e h
  obtain ⟨b4, h⟩ := h
  refine J_app0 ?_
  refine J_callF0R X (pc := 2) (w1 := cW E ad T) (rw := []) (y := yX7_slopeOf) (na := 1) (As := [.int a1]) (rest := []) (c_X7_slopeOf E ad g1) 0 cW_c0 rfl q_387 q_388 q_389 q_14 q_386 rfl (by decide +kernel) (by decide +kernel) rfl (Nat.le_of_ble_eq_true rfl) ⟨Nat.zero_le _, Nat.zero_le _⟩ dX7_slopeNumerator_2 (fun _ _ => ?_)
  refine J_app1 ?_
  replace h := bk h
  obtain ⟨r5, g6, h⟩ := h
  refine J_stI X (pc := 5) b4 (y := yX1_riseInLowestTerms) (na := 0) (As := []) (rest := []) (T2 := T3) (c_X1_riseInLowestTerms E (ad.2 a1.toNatClampNeg) g6) setT_self.symm 5 sW_c5 rfl q_390 q_391 q_392 q_42 q_38 rfl (by decide +kernel) (by decide +kernel) rfl (Nat.le_of_ble_eq_true rfl) ⟨Nat.zero_le _, Nat.zero_le _⟩ dX7_slopeNumerator_5 ?_
  cases h
def f_X7_slopeDenominator (a1 : Int32) (T : TS) : Option (Int32 × TS) := ck (inS T a1) ((f_X7_slopeOf a1 T).bind (fun (T3 : TS) => ck (a1.toNatClampNeg < T3.2.1) ((f_X1_runInLowestTerms (T3.2.2 a1.toNatClampNeg)).bind (fun (r5 : Int32) => some (r5, T3)))))
set_option maxRecDepth 100000 in
set_option maxHeartbeats 4000000 in
theorem c_X7_slopeDenominator (E : Ev) (ad : CA) {a1 : Int32} {T : TS} {r : Int32} {T2 : TS} (h : f_X7_slopeDenominator a1 T = some (r, T2)) : CtI E yX7_slopeDenominator cX7_slopeDenominator 2 .int 5 107 (cW E ad T) [.ref (ad.1 0), .int a1] r (cW E ad T2) := by
  refine CtI_of (by decide +kernel) (Nat.le_of_ble_eq_true rfl) (fun x X hE => ?_)
  show J E x 0 0 (cW E ad T) 0 [(0, .ref (ad.1 0)), (1, .int a1)] []
  unfold f_X7_slopeDenominator at h
  refine J_aload_n X (pc := 0) dX7_slopeDenominator_0 0 rfl ?_
  refine J_iload_n X (pc := 1) dX7_slopeDenominator_1 1 rfl ?_
  replace h := ck_e h
  obtain ⟨b2, h⟩ := h
  replace h := bk h
  obtain ⟨T3, g1, h⟩ := h
  replace h := ck_e h
  obtain ⟨b4, h⟩ := h
  refine J_app0 ?_
  refine J_callF0R X (pc := 2) (w1 := cW E ad T) (rw := []) (y := yX7_slopeOf) (na := 1) (As := [.int a1]) (rest := []) (c_X7_slopeOf E ad g1) 0 cW_c0 rfl q_387 q_388 q_389 q_14 q_386 rfl (by decide +kernel) (by decide +kernel) rfl (Nat.le_of_ble_eq_true rfl) ⟨Nat.zero_le _, Nat.zero_le _⟩ dX7_slopeDenominator_2 (fun _ _ => ?_)
  refine J_app1 ?_
  replace h := bk h
  obtain ⟨r5, g6, h⟩ := h
  refine J_stI X (pc := 5) b4 (y := yX1_runInLowestTerms) (na := 0) (As := []) (rest := []) (T2 := T3) (c_X1_runInLowestTerms E (ad.2 a1.toNatClampNeg) g6) setT_self.symm 5 sW_c5 rfl q_394 q_395 q_396 q_42 q_43 rfl (by decide +kernel) (by decide +kernel) rfl (Nat.le_of_ble_eq_true rfl) ⟨Nat.zero_le _, Nat.zero_le _⟩ dX7_slopeDenominator_5 ?_
  cases h
  exact hE _ _ dX7_slopeDenominator_8 rfl
def x_X7_slopeDenominator (a1 : Int32) (T : TS) : Option (String × TS) := xc (x_X7_slopeOf a1 T) (ck (inS T a1) ((f_X7_slopeOf a1 T).bind (fun (T3 : TS) => ck (a1.toNatClampNeg < T3.2.1) ((f_X1_runInLowestTerms (T3.2.2 a1.toNatClampNeg)).bind (fun (r5 : Int32) => none)))))
set_option maxRecDepth 100000 in
set_option maxHeartbeats 4000000 in
theorem t_X7_slopeDenominator (E : Ev) (ad : CA) {a1 : Int32} {T : TS} {Ex : String} {T2 : TS} (h : x_X7_slopeDenominator a1 T = some (Ex, T2)) : CtT E yX7_slopeDenominator cX7_slopeDenominator 2 (some .int) 8 127 (cW E ad T) [.ref (ad.1 0), .int a1] Ex (cW E ad T2) := by
  refine CtT_of (by decide +kernel) (Nat.le_of_ble_eq_true rfl) (fun x X XX IT => ?_)
  show J E x 0 0 (cW E ad T) 0 [(0, .ref (ad.1 0)), (1, .int a1)] []
  unfold x_X7_slopeDenominator at h
  refine J_aload_n X (pc := 0) dX7_slopeDenominator_0 0 rfl ?_
  refine J_iload_n X (pc := 1) dX7_slopeDenominator_1 1 rfl ?_
  rcases xc_e h with h | h
  · exact J_callTV (y := yX7_slopeOf) (na := 1) (As := [.int a1]) (rest := []) X XX (t_X7_slopeOf E ad h) IT 0 cW_c0 rfl q_387 q_388 q_389 q_14 q_386 rfl (by decide +kernel) (by decide +kernel) rfl (Nat.le_of_ble_eq_true rfl) ⟨by decide +kernel, by decide +kernel⟩ dX7_slopeDenominator_2 (Nat.le_of_ble_eq_true rfl) (Nat.le_of_ble_eq_true rfl)
  replace h := ck_e h
  obtain ⟨b2, h⟩ := h
  replace h := bk h
  obtain ⟨T3, g1, h⟩ := h
  replace h := ck_e h
  obtain ⟨b4, h⟩ := h
  refine J_app0 ?_
  refine J_callF0R X (pc := 2) (w1 := cW E ad T) (rw := []) (y := yX7_slopeOf) (na := 1) (As := [.int a1]) (rest := []) (c_X7_slopeOf E ad g1) 0 cW_c0 rfl q_387 q_388 q_389 q_14 q_386 rfl (by decide +kernel) (by decide +kernel) rfl (Nat.le_of_ble_eq_true rfl) ⟨Nat.zero_le _, Nat.zero_le _⟩ dX7_slopeDenominator_2 (fun _ _ => ?_)
  refine J_app1 ?_
  replace h := bk h
  obtain ⟨r5, g6, h⟩ := h
  refine J_stI X (pc := 5) b4 (y := yX1_runInLowestTerms) (na := 0) (As := []) (rest := []) (T2 := T3) (c_X1_runInLowestTerms E (ad.2 a1.toNatClampNeg) g6) setT_self.symm 5 sW_c5 rfl q_394 q_395 q_396 q_42 q_43 rfl (by decide +kernel) (by decide +kernel) rfl (Nat.le_of_ble_eq_true rfl) ⟨Nat.zero_le _, Nat.zero_le _⟩ dX7_slopeDenominator_5 ?_
  cases h
def f_X7_usual (a1 : Int32) (T : TS) : Option (Int32) := ck (inS T a1) ((f_X0_usualSize (T.2.2 a1.toNatClampNeg)).bind (fun (r3 : Int32) => some r3))
set_option maxRecDepth 100000 in
set_option maxHeartbeats 4000000 in
theorem c_X7_usual (E : Ev) (ad : CA) {a1 : Int32} {T : TS} {r : Int32} (h : f_X7_usual a1 T = some r) : CtI E yX7_usual cX7_usual 2 .int 4 85 (cW E ad T) [.ref (ad.1 0), .int a1] r (cW E ad T) := by
  refine CtI_of (by decide +kernel) (Nat.le_of_ble_eq_true rfl) (fun x X hE => ?_)
  show J E x 0 0 (cW E ad T) 0 [(0, .ref (ad.1 0)), (1, .int a1)] []
  unfold f_X7_usual at h
  refine J_aload_n X (pc := 0) dX7_usual_0 0 rfl ?_
  refine J_iload_n X (pc := 1) dX7_usual_1 1 rfl ?_
  replace h := ck_e h
  obtain ⟨b2, h⟩ := h
  refine J_app0 ?_
  refine J_callF0R X (pc := 2) (w1 := cW E ad T) (rw := []) (y := yX7_storeAt) (na := 1) (As := [.int a1]) (rest := []) (c_X7_storeAt E ad b2) 0 cW_c0 rfl q_357 q_358 q_359 q_14 q_356 rfl (by decide +kernel) (by decide +kernel) rfl (Nat.le_of_ble_eq_true rfl) ⟨Nat.zero_le _, Nat.zero_le _⟩ dX7_usual_2 (fun _ _ => ?_)
  refine J_app1 ?_
  refine J_stgetN X (pc := 5) (inS_lt b2) 0 sW_c0 rfl in_X5 2 (by decide) nq_13 rfl dX7_usual_5 ?_
  replace h := bk h
  obtain ⟨r3, g4, h⟩ := h
  refine J_stI X (pc := 8) (inS_lt b2) (y := yX0_usualSize) (na := 0) (As := []) (rest := []) (T2 := T) (c_X0_usualSize E (ad.2 a1.toNatClampNeg) g4) setT_self.symm 3 sW_c3 rfl q_398 q_204 q_205 q_140 q_12 rfl (by decide +kernel) (by decide +kernel) rfl (Nat.le_of_ble_eq_true rfl) ⟨Nat.zero_le _, Nat.zero_le _⟩ dX7_usual_8 ?_
  cases h
  exact hE _ _ dX7_usual_11 rfl
def x_X7_usual (a1 : Int32) (T : TS) : Option (String × TS) := xc (x_X7_storeAt a1 T) (ck (inS T a1) ((f_X0_usualSize (T.2.2 a1.toNatClampNeg)).bind (fun (r3 : Int32) => none)))
set_option maxRecDepth 100000 in
set_option maxHeartbeats 4000000 in
theorem t_X7_usual (E : Ev) (ad : CA) {a1 : Int32} {T : TS} {Ex : String} {T2 : TS} (h : x_X7_usual a1 T = some (Ex, T2)) : CtT E yX7_usual cX7_usual 2 (some .int) 7 105 (cW E ad T) [.ref (ad.1 0), .int a1] Ex (cW E ad T2) := by
  refine CtT_of (by decide +kernel) (Nat.le_of_ble_eq_true rfl) (fun x X XX IT => ?_)
  show J E x 0 0 (cW E ad T) 0 [(0, .ref (ad.1 0)), (1, .int a1)] []
  unfold x_X7_usual at h
  refine J_aload_n X (pc := 0) dX7_usual_0 0 rfl ?_
  refine J_iload_n X (pc := 1) dX7_usual_1 1 rfl ?_
  rcases xc_e h with h | h
  · exact J_callTV (y := yX7_storeAt) (na := 1) (As := [.int a1]) (rest := []) X XX (t_X7_storeAt E ad h) IT 0 cW_c0 rfl q_357 q_358 q_359 q_14 q_356 rfl (by decide +kernel) (by decide +kernel) rfl (Nat.le_of_ble_eq_true rfl) ⟨by decide +kernel, by decide +kernel⟩ dX7_usual_2 (Nat.le_of_ble_eq_true rfl) (Nat.le_of_ble_eq_true rfl)
  replace h := ck_e h
  obtain ⟨b2, h⟩ := h
  refine J_app0 ?_
  refine J_callF0R X (pc := 2) (w1 := cW E ad T) (rw := []) (y := yX7_storeAt) (na := 1) (As := [.int a1]) (rest := []) (c_X7_storeAt E ad b2) 0 cW_c0 rfl q_357 q_358 q_359 q_14 q_356 rfl (by decide +kernel) (by decide +kernel) rfl (Nat.le_of_ble_eq_true rfl) ⟨Nat.zero_le _, Nat.zero_le _⟩ dX7_usual_2 (fun _ _ => ?_)
  refine J_app1 ?_
  refine J_stgetN X (pc := 5) (inS_lt b2) 0 sW_c0 rfl in_X5 2 (by decide) nq_13 rfl dX7_usual_5 ?_
  replace h := bk h
  obtain ⟨r3, g4, h⟩ := h
  refine J_stI X (pc := 8) (inS_lt b2) (y := yX0_usualSize) (na := 0) (As := []) (rest := []) (T2 := T) (c_X0_usualSize E (ad.2 a1.toNatClampNeg) g4) setT_self.symm 3 sW_c3 rfl q_398 q_204 q_205 q_140 q_12 rfl (by decide +kernel) (by decide +kernel) rfl (Nat.le_of_ble_eq_true rfl) ⟨Nat.zero_le _, Nat.zero_le _⟩ dX7_usual_8 ?_
  cases h
def f_X7_forecast (a1 : Int32) (a2 : Int32) (T : TS) : Option (Int32 × TS) := ck (inS T a1) (ck (inS T a1) ((f_X7_slopeOf a1 T).bind (fun (T5 : TS) => ck (a1.toNatClampNeg < T5.2.1) (ck ((((T5.2.2 a1.toNatClampNeg).1 8) + ((1 : Int32))) ≤ a2 ∧ a2 ≤ (((T5.2.2 a1.toNatClampNeg).1 8) + ((1000 : Int32)))) ((f_X5_roomOn a2 (T5.2.2 a1.toNatClampNeg)).bind (fun (r8 : Int32) => some (r8, T5)))))))
set_option maxRecDepth 100000 in
set_option maxHeartbeats 4000000 in
theorem c_X7_forecast (E : Ev) (ad : CA) {a1 : Int32} {a2 : Int32} {T : TS} {r : Int32} {T2 : TS} (h : f_X7_forecast a1 a2 T = some (r, T2)) : CtI E yX7_forecast cX7_forecast 5 .int 5 107 (cW E ad T) [.ref (ad.1 0), .int a1, .int a2] r (cW E ad T2) := by
  refine CtI_of (by decide +kernel) (Nat.le_of_ble_eq_true rfl) (fun x X hE => ?_)
  show J E x 0 0 (cW E ad T) 0 [(0, .ref (ad.1 0)), (1, .int a1), (2, .int a2)] []
  unfold f_X7_forecast at h
  refine J_aload_n X (pc := 0) dX7_forecast_0 0 rfl ?_
  refine J_iload_n X (pc := 1) dX7_forecast_1 1 rfl ?_
  replace h := ck_e h
  obtain ⟨b2, h⟩ := h
  refine J_app0 ?_
  refine J_callF0R X (pc := 2) (w1 := cW E ad T) (rw := []) (y := yX7_storeAt) (na := 1) (As := [.int a1]) (rest := []) (c_X7_storeAt E ad b2) 0 cW_c0 rfl q_357 q_358 q_359 q_14 q_356 rfl (by decide +kernel) (by decide +kernel) rfl (Nat.le_of_ble_eq_true rfl) ⟨Nat.zero_le _, Nat.zero_le _⟩ dX7_forecast_2 (fun _ _ => ?_)
  refine J_app1 ?_
  refine J_astore_n X (pc := 5) dX7_forecast_5 (by decide) rfl ?_
  refine J_aload_n X (pc := 6) dX7_forecast_6 1 rfl ?_
  refine J_iload_n X (pc := 7) dX7_forecast_7 2 rfl ?_
  replace h := ck_e h
  obtain ⟨b4, h⟩ := h
  replace h := bk h
  obtain ⟨T5, g3, h⟩ := h
  replace h := ck_e h
  obtain ⟨b6, h⟩ := h
  refine J_app0 ?_
  refine J_callF0R X (pc := 8) (w1 := cW E ad T) (rw := []) (y := yX7_slopeOf) (na := 1) (As := [.int a1]) (rest := []) (c_X7_slopeOf E ad g3) 0 cW_c0 rfl q_387 q_388 q_389 q_14 q_386 rfl (by decide +kernel) (by decide +kernel) rfl (Nat.le_of_ble_eq_true rfl) ⟨Nat.zero_le _, Nat.zero_le _⟩ dX7_forecast_8 (fun _ _ => ?_)
  refine J_app1 ?_
  refine J_astore X (pc := 11) dX7_forecast_11 (by decide) rfl ?_
  refine J_iload_n X (pc := 13) dX7_forecast_13 4 rfl ?_
  refine J_aload X (pc := 14) dX7_forecast_14 0 rfl ?_
  refine J_stgetN X (pc := 16) b6 5 sW_c5 rfl in_X1 0 (by decide) nq_9 rfl dX7_forecast_16 ?_
  refine J_iconst X (pc := 19) (v := 1) dX7_forecast_19 (by decide +kernel) ?_
  refine J_iadd X (pc := 20) dX7_forecast_20 ?_
  refine J_aload X (pc := 21) dX7_forecast_21 0 rfl ?_
  refine J_stgetN X (pc := 23) b6 5 sW_c5 rfl in_X1 0 (by decide) nq_9 rfl dX7_forecast_23 ?_
  refine J_sipush X (pc := 26) (v := 1000) dX7_forecast_26 (by decide +kernel) ?_
  refine J_iadd X (pc := 29) dX7_forecast_29 ?_
  replace h := ck_e h
  obtain ⟨b7, h⟩ := h
  refine J_callSV X (pc := 30) (y := yX7_demandRange) (na := 3) (As := [.int a2, .int (((T5.2.2 a1.toNatClampNeg).1 8) + ((1 : Int32))), .int (((T5.2.2 a1.toNatClampNeg).1 8) + ((1000 : Int32)))]) (rest := []) (c_X7_demandRange E (cW E ad T5) b7) q_326 q_327 q_14 q_272 rfl (by decide +kernel) (by decide +kernel) rfl (Nat.le_of_ble_eq_true rfl) ⟨Nat.zero_le _, Nat.zero_le _⟩ dX7_forecast_30 ?_
  refine J_aload_n X (pc := 33) dX7_forecast_33 1 rfl ?_
  refine J_iload_n X (pc := 34) dX7_forecast_34 4 rfl ?_
  replace h := bk h
  obtain ⟨r8, g9, h⟩ := h
  refine J_stI X (pc := 35) b6 (y := yX5_roomOn) (na := 1) (As := [.int a2]) (rest := []) (T2 := T5) (c_X5_roomOn E (ad.2 a1.toNatClampNeg) g9) setT_self.symm 0 sW_c0 rfl q_400 q_222 q_223 q_220 q_212 rfl (by decide +kernel) (by decide +kernel) rfl (Nat.le_of_ble_eq_true rfl) ⟨Nat.zero_le _, Nat.zero_le _⟩ dX7_forecast_35 ?_
  cases h
  exact hE _ _ dX7_forecast_38 rfl
def x_X7_forecast (a1 : Int32) (a2 : Int32) (T : TS) : Option (String × TS) := xc (x_X7_storeAt a1 T) (ck (inS T a1) (xc (x_X7_slopeOf a1 T) (ck (inS T a1) ((f_X7_slopeOf a1 T).bind (fun (T5 : TS) => ck (a1.toNatClampNeg < T5.2.1) (xc ((x_X7_demandRange a2 (((T5.2.2 a1.toNatClampNeg).1 8) + ((1 : Int32))) (((T5.2.2 a1.toNatClampNeg).1 8) + ((1000 : Int32)))).map (fun z => (z, T5))) (ck ((((T5.2.2 a1.toNatClampNeg).1 8) + ((1 : Int32))) ≤ a2 ∧ a2 ≤ (((T5.2.2 a1.toNatClampNeg).1 8) + ((1000 : Int32)))) ((f_X5_roomOn a2 (T5.2.2 a1.toNatClampNeg)).bind (fun (r8 : Int32) => none)))))))))
set_option maxRecDepth 100000 in
set_option maxHeartbeats 4000000 in
theorem t_X7_forecast (E : Ev) (ad : CA) {a1 : Int32} {a2 : Int32} {T : TS} {Ex : String} {T2 : TS} (h : x_X7_forecast a1 a2 T = some (Ex, T2)) : CtT E yX7_forecast cX7_forecast 5 (some .int) 8 127 (cW E ad T) [.ref (ad.1 0), .int a1, .int a2] Ex (cW E ad T2) := by
  refine CtT_of (by decide +kernel) (Nat.le_of_ble_eq_true rfl) (fun x X XX IT => ?_)
  show J E x 0 0 (cW E ad T) 0 [(0, .ref (ad.1 0)), (1, .int a1), (2, .int a2)] []
  unfold x_X7_forecast at h
  refine J_aload_n X (pc := 0) dX7_forecast_0 0 rfl ?_
  refine J_iload_n X (pc := 1) dX7_forecast_1 1 rfl ?_
  rcases xc_e h with h | h
  · exact J_callTV (y := yX7_storeAt) (na := 1) (As := [.int a1]) (rest := []) X XX (t_X7_storeAt E ad h) IT 0 cW_c0 rfl q_357 q_358 q_359 q_14 q_356 rfl (by decide +kernel) (by decide +kernel) rfl (Nat.le_of_ble_eq_true rfl) ⟨by decide +kernel, by decide +kernel⟩ dX7_forecast_2 (Nat.le_of_ble_eq_true rfl) (Nat.le_of_ble_eq_true rfl)
  replace h := ck_e h
  obtain ⟨b2, h⟩ := h
  refine J_app0 ?_
  refine J_callF0R X (pc := 2) (w1 := cW E ad T) (rw := []) (y := yX7_storeAt) (na := 1) (As := [.int a1]) (rest := []) (c_X7_storeAt E ad b2) 0 cW_c0 rfl q_357 q_358 q_359 q_14 q_356 rfl (by decide +kernel) (by decide +kernel) rfl (Nat.le_of_ble_eq_true rfl) ⟨Nat.zero_le _, Nat.zero_le _⟩ dX7_forecast_2 (fun _ _ => ?_)
  refine J_app1 ?_
  refine J_astore_n X (pc := 5) dX7_forecast_5 (by decide) rfl ?_
  refine J_aload_n X (pc := 6) dX7_forecast_6 1 rfl ?_
  refine J_iload_n X (pc := 7) dX7_forecast_7 2 rfl ?_
  rcases xc_e h with h | h
  · exact J_callTV (y := yX7_slopeOf) (na := 1) (As := [.int a1]) (rest := []) X XX (t_X7_slopeOf E ad h) IT 0 cW_c0 rfl q_387 q_388 q_389 q_14 q_386 rfl (by decide +kernel) (by decide +kernel) rfl (Nat.le_of_ble_eq_true rfl) ⟨by decide +kernel, by decide +kernel⟩ dX7_forecast_8 (Nat.le_of_ble_eq_true rfl) (Nat.le_of_ble_eq_true rfl)
  replace h := ck_e h
  obtain ⟨b4, h⟩ := h
  replace h := bk h
  obtain ⟨T5, g3, h⟩ := h
  replace h := ck_e h
  obtain ⟨b6, h⟩ := h
  refine J_app0 ?_
  refine J_callF0R X (pc := 8) (w1 := cW E ad T) (rw := []) (y := yX7_slopeOf) (na := 1) (As := [.int a1]) (rest := []) (c_X7_slopeOf E ad g3) 0 cW_c0 rfl q_387 q_388 q_389 q_14 q_386 rfl (by decide +kernel) (by decide +kernel) rfl (Nat.le_of_ble_eq_true rfl) ⟨Nat.zero_le _, Nat.zero_le _⟩ dX7_forecast_8 (fun _ _ => ?_)
  refine J_app1 ?_
  refine J_astore X (pc := 11) dX7_forecast_11 (by decide) rfl ?_
  refine J_iload_n X (pc := 13) dX7_forecast_13 4 rfl ?_
  refine J_aload X (pc := 14) dX7_forecast_14 0 rfl ?_
  refine J_stgetN X (pc := 16) b6 5 sW_c5 rfl in_X1 0 (by decide) nq_9 rfl dX7_forecast_16 ?_
  refine J_iconst X (pc := 19) (v := 1) dX7_forecast_19 (by decide +kernel) ?_
  refine J_iadd X (pc := 20) dX7_forecast_20 ?_
  refine J_aload X (pc := 21) dX7_forecast_21 0 rfl ?_
  refine J_stgetN X (pc := 23) b6 5 sW_c5 rfl in_X1 0 (by decide) nq_9 rfl dX7_forecast_23 ?_
  refine J_sipush X (pc := 26) (v := 1000) dX7_forecast_26 (by decide +kernel) ?_
  refine J_iadd X (pc := 29) dX7_forecast_29 ?_
  rcases xc_e h with h | h
  · obtain ⟨z, hz, hz2⟩ := Option.map_eq_some_iff.mp h
    have hz3 := Prod.mk.inj hz2
    rw [← hz3.1, ← hz3.2] at IT
    exact J_callTS (y := yX7_demandRange) (na := 3) (As := [.int a2, .int (((T5.2.2 a1.toNatClampNeg).1 8) + ((1 : Int32))), .int (((T5.2.2 a1.toNatClampNeg).1 8) + ((1000 : Int32)))]) (rest := []) X XX (t_X7_demandRange E (cW E ad T5) hz) IT q_326 q_327 q_14 q_272 rfl (by decide +kernel) (by decide +kernel) rfl (Nat.le_of_ble_eq_true rfl) ⟨by decide +kernel, by decide +kernel⟩ dX7_forecast_30 (Nat.le_of_ble_eq_true rfl) (Nat.le_of_ble_eq_true rfl)
  replace h := ck_e h
  obtain ⟨b7, h⟩ := h
  refine J_callSV X (pc := 30) (y := yX7_demandRange) (na := 3) (As := [.int a2, .int (((T5.2.2 a1.toNatClampNeg).1 8) + ((1 : Int32))), .int (((T5.2.2 a1.toNatClampNeg).1 8) + ((1000 : Int32)))]) (rest := []) (c_X7_demandRange E (cW E ad T5) b7) q_326 q_327 q_14 q_272 rfl (by decide +kernel) (by decide +kernel) rfl (Nat.le_of_ble_eq_true rfl) ⟨Nat.zero_le _, Nat.zero_le _⟩ dX7_forecast_30 ?_
  refine J_aload_n X (pc := 33) dX7_forecast_33 1 rfl ?_
  refine J_iload_n X (pc := 34) dX7_forecast_34 4 rfl ?_
  replace h := bk h
  obtain ⟨r8, g9, h⟩ := h
  refine J_stI X (pc := 35) b6 (y := yX5_roomOn) (na := 1) (As := [.int a2]) (rest := []) (T2 := T5) (c_X5_roomOn E (ad.2 a1.toNatClampNeg) g9) setT_self.symm 0 sW_c0 rfl q_400 q_222 q_223 q_220 q_212 rfl (by decide +kernel) (by decide +kernel) rfl (Nat.le_of_ble_eq_true rfl) ⟨Nat.zero_le _, Nat.zero_le _⟩ dX7_forecast_35 ?_
  cases h
def f_X7_full (a1 : Int32) (T : TS) : Option (Int32 × TS) := ck (inS T a1) ((f_X5_fullDay (T.2.2 a1.toNatClampNeg)).bind (fun ((r3, S4) : Int32 × St) => nmv (setT T a1.toNatClampNeg S4) (fun (T6 : TS) => (f_X7_dayOrNone r3).bind (fun (r8 : Int32) => some (r8, T6)))))
set_option maxRecDepth 100000 in
set_option maxHeartbeats 4000000 in
theorem c_X7_full (E : Ev) (ad : CA) {a1 : Int32} {T : TS} {r : Int32} {T2 : TS} (h : f_X7_full a1 T = some (r, T2)) : CtI E yX7_full cX7_full 2 .int 5 117 (cW E ad T) [.ref (ad.1 0), .int a1] r (cW E ad T2) := by
  refine CtI_of (by decide +kernel) (Nat.le_of_ble_eq_true rfl) (fun x X hE => ?_)
  show J E x 0 0 (cW E ad T) 0 [(0, .ref (ad.1 0)), (1, .int a1)] []
  unfold f_X7_full at h
  refine J_aload_n X (pc := 0) dX7_full_0 0 rfl ?_
  refine J_iload_n X (pc := 1) dX7_full_1 1 rfl ?_
  replace h := ck_e h
  obtain ⟨b2, h⟩ := h
  refine J_app0 ?_
  refine J_callF0R X (pc := 2) (w1 := cW E ad T) (rw := []) (y := yX7_storeAt) (na := 1) (As := [.int a1]) (rest := []) (c_X7_storeAt E ad b2) 0 cW_c0 rfl q_357 q_358 q_359 q_14 q_356 rfl (by decide +kernel) (by decide +kernel) rfl (Nat.le_of_ble_eq_true rfl) ⟨Nat.zero_le _, Nat.zero_le _⟩ dX7_full_2 (fun _ _ => ?_)
  refine J_app1 ?_
  replace h := bk h
  obtain ⟨⟨r3, S4⟩, g5, h⟩ := h
  dsimp only at h
  replace h := nmv_e h
  obtain ⟨T6, eT6, h⟩ := h
  have hk7 : a1.toNatClampNeg < T6.2.1 := by rw [eT6]; exact (inS_lt b2)
  refine J_stI X (pc := 5) (inS_lt b2) (y := yX5_fullDay) (na := 0) (As := []) (rest := []) (T2 := T6) (c_X5_fullDay E (ad.2 a1.toNatClampNeg) g5) eT6 0 sW_c0 rfl q_403 q_404 q_405 q_220 q_234 rfl (by decide +kernel) (by decide +kernel) rfl (Nat.le_of_ble_eq_true rfl) ⟨Nat.zero_le _, Nat.zero_le _⟩ dX7_full_5 ?_
  replace h := bk h
  obtain ⟨r8, g9, h⟩ := h
  refine J_callSI X (pc := 8) (y := yX7_dayOrNone) (na := 1) (As := [.int r3]) (rest := []) (c_X7_dayOrNone E (cW E ad T6) g9) q_406 q_407 q_14 q_402 rfl (by decide +kernel) (by decide +kernel) rfl (Nat.le_of_ble_eq_true rfl) ⟨Nat.zero_le _, Nat.zero_le _⟩ dX7_full_8 ?_
  cases h
  exact hE _ _ dX7_full_11 rfl
def x_X7_full (a1 : Int32) (T : TS) : Option (String × TS) := xc (x_X7_storeAt a1 T) (ck (inS T a1) ((f_X5_fullDay (T.2.2 a1.toNatClampNeg)).bind (fun ((r3, S4) : Int32 × St) => nmv (setT T a1.toNatClampNeg S4) (fun (T6 : TS) => (f_X7_dayOrNone r3).bind (fun (r8 : Int32) => none)))))
set_option maxRecDepth 100000 in
set_option maxHeartbeats 4000000 in
theorem t_X7_full (E : Ev) (ad : CA) {a1 : Int32} {T : TS} {Ex : String} {T2 : TS} (h : x_X7_full a1 T = some (Ex, T2)) : CtT E yX7_full cX7_full 2 (some .int) 7 117 (cW E ad T) [.ref (ad.1 0), .int a1] Ex (cW E ad T2) := by
  refine CtT_of (by decide +kernel) (Nat.le_of_ble_eq_true rfl) (fun x X XX IT => ?_)
  show J E x 0 0 (cW E ad T) 0 [(0, .ref (ad.1 0)), (1, .int a1)] []
  unfold x_X7_full at h
  refine J_aload_n X (pc := 0) dX7_full_0 0 rfl ?_
  refine J_iload_n X (pc := 1) dX7_full_1 1 rfl ?_
  rcases xc_e h with h | h
  · exact J_callTV (y := yX7_storeAt) (na := 1) (As := [.int a1]) (rest := []) X XX (t_X7_storeAt E ad h) IT 0 cW_c0 rfl q_357 q_358 q_359 q_14 q_356 rfl (by decide +kernel) (by decide +kernel) rfl (Nat.le_of_ble_eq_true rfl) ⟨by decide +kernel, by decide +kernel⟩ dX7_full_2 (Nat.le_of_ble_eq_true rfl) (Nat.le_of_ble_eq_true rfl)
  replace h := ck_e h
  obtain ⟨b2, h⟩ := h
  refine J_app0 ?_
  refine J_callF0R X (pc := 2) (w1 := cW E ad T) (rw := []) (y := yX7_storeAt) (na := 1) (As := [.int a1]) (rest := []) (c_X7_storeAt E ad b2) 0 cW_c0 rfl q_357 q_358 q_359 q_14 q_356 rfl (by decide +kernel) (by decide +kernel) rfl (Nat.le_of_ble_eq_true rfl) ⟨Nat.zero_le _, Nat.zero_le _⟩ dX7_full_2 (fun _ _ => ?_)
  refine J_app1 ?_
  replace h := bk h
  obtain ⟨⟨r3, S4⟩, g5, h⟩ := h
  dsimp only at h
  replace h := nmv_e h
  obtain ⟨T6, eT6, h⟩ := h
  have hk7 : a1.toNatClampNeg < T6.2.1 := by rw [eT6]; exact (inS_lt b2)
  refine J_stI X (pc := 5) (inS_lt b2) (y := yX5_fullDay) (na := 0) (As := []) (rest := []) (T2 := T6) (c_X5_fullDay E (ad.2 a1.toNatClampNeg) g5) eT6 0 sW_c0 rfl q_403 q_404 q_405 q_220 q_234 rfl (by decide +kernel) (by decide +kernel) rfl (Nat.le_of_ble_eq_true rfl) ⟨Nat.zero_le _, Nat.zero_le _⟩ dX7_full_5 ?_
  replace h := bk h
  obtain ⟨r8, g9, h⟩ := h
  refine J_callSI X (pc := 8) (y := yX7_dayOrNone) (na := 1) (As := [.int r3]) (rest := []) (c_X7_dayOrNone E (cW E ad T6) g9) q_406 q_407 q_14 q_402 rfl (by decide +kernel) (by decide +kernel) rfl (Nat.le_of_ble_eq_true rfl) ⟨Nat.zero_le _, Nat.zero_le _⟩ dX7_full_8 ?_
  cases h
def f_X7_early (a1 : Int32) (T : TS) : Option (Int32 × TS) := ck (inS T a1) ((f_X5_earlyBound (T.2.2 a1.toNatClampNeg)).bind (fun ((r3, S4) : Int32 × St) => nmv (setT T a1.toNatClampNeg S4) (fun (T6 : TS) => (f_X7_dayOrNone r3).bind (fun (r8 : Int32) => some (r8, T6)))))
set_option maxRecDepth 100000 in
set_option maxHeartbeats 4000000 in
theorem c_X7_early (E : Ev) (ad : CA) {a1 : Int32} {T : TS} {r : Int32} {T2 : TS} (h : f_X7_early a1 T = some (r, T2)) : CtI E yX7_early cX7_early 2 .int 5 119 (cW E ad T) [.ref (ad.1 0), .int a1] r (cW E ad T2) := by
  refine CtI_of (by decide +kernel) (Nat.le_of_ble_eq_true rfl) (fun x X hE => ?_)
  show J E x 0 0 (cW E ad T) 0 [(0, .ref (ad.1 0)), (1, .int a1)] []
  unfold f_X7_early at h
  refine J_aload_n X (pc := 0) dX7_early_0 0 rfl ?_
  refine J_iload_n X (pc := 1) dX7_early_1 1 rfl ?_
  replace h := ck_e h
  obtain ⟨b2, h⟩ := h
  refine J_app0 ?_
  refine J_callF0R X (pc := 2) (w1 := cW E ad T) (rw := []) (y := yX7_storeAt) (na := 1) (As := [.int a1]) (rest := []) (c_X7_storeAt E ad b2) 0 cW_c0 rfl q_357 q_358 q_359 q_14 q_356 rfl (by decide +kernel) (by decide +kernel) rfl (Nat.le_of_ble_eq_true rfl) ⟨Nat.zero_le _, Nat.zero_le _⟩ dX7_early_2 (fun _ _ => ?_)
  refine J_app1 ?_
  replace h := bk h
  obtain ⟨⟨r3, S4⟩, g5, h⟩ := h
  dsimp only at h
  replace h := nmv_e h
  obtain ⟨T6, eT6, h⟩ := h
  have hk7 : a1.toNatClampNeg < T6.2.1 := by rw [eT6]; exact (inS_lt b2)
  refine J_stI X (pc := 5) (inS_lt b2) (y := yX5_earlyBound) (na := 0) (As := []) (rest := []) (T2 := T6) (c_X5_earlyBound E (ad.2 a1.toNatClampNeg) g5) eT6 0 sW_c0 rfl q_409 q_244 q_245 q_220 q_238 rfl (by decide +kernel) (by decide +kernel) rfl (Nat.le_of_ble_eq_true rfl) ⟨Nat.zero_le _, Nat.zero_le _⟩ dX7_early_5 ?_
  replace h := bk h
  obtain ⟨r8, g9, h⟩ := h
  refine J_callSI X (pc := 8) (y := yX7_dayOrNone) (na := 1) (As := [.int r3]) (rest := []) (c_X7_dayOrNone E (cW E ad T6) g9) q_406 q_407 q_14 q_402 rfl (by decide +kernel) (by decide +kernel) rfl (Nat.le_of_ble_eq_true rfl) ⟨Nat.zero_le _, Nat.zero_le _⟩ dX7_early_8 ?_
  cases h
  exact hE _ _ dX7_early_11 rfl
def x_X7_early (a1 : Int32) (T : TS) : Option (String × TS) := xc (x_X7_storeAt a1 T) (ck (inS T a1) ((f_X5_earlyBound (T.2.2 a1.toNatClampNeg)).bind (fun ((r3, S4) : Int32 × St) => nmv (setT T a1.toNatClampNeg S4) (fun (T6 : TS) => (f_X7_dayOrNone r3).bind (fun (r8 : Int32) => none)))))
set_option maxRecDepth 100000 in
set_option maxHeartbeats 4000000 in
theorem t_X7_early (E : Ev) (ad : CA) {a1 : Int32} {T : TS} {Ex : String} {T2 : TS} (h : x_X7_early a1 T = some (Ex, T2)) : CtT E yX7_early cX7_early 2 (some .int) 7 119 (cW E ad T) [.ref (ad.1 0), .int a1] Ex (cW E ad T2) := by
  refine CtT_of (by decide +kernel) (Nat.le_of_ble_eq_true rfl) (fun x X XX IT => ?_)
  show J E x 0 0 (cW E ad T) 0 [(0, .ref (ad.1 0)), (1, .int a1)] []
  unfold x_X7_early at h
  refine J_aload_n X (pc := 0) dX7_early_0 0 rfl ?_
  refine J_iload_n X (pc := 1) dX7_early_1 1 rfl ?_
  rcases xc_e h with h | h
  · exact J_callTV (y := yX7_storeAt) (na := 1) (As := [.int a1]) (rest := []) X XX (t_X7_storeAt E ad h) IT 0 cW_c0 rfl q_357 q_358 q_359 q_14 q_356 rfl (by decide +kernel) (by decide +kernel) rfl (Nat.le_of_ble_eq_true rfl) ⟨by decide +kernel, by decide +kernel⟩ dX7_early_2 (Nat.le_of_ble_eq_true rfl) (Nat.le_of_ble_eq_true rfl)
  replace h := ck_e h
  obtain ⟨b2, h⟩ := h
  refine J_app0 ?_
  refine J_callF0R X (pc := 2) (w1 := cW E ad T) (rw := []) (y := yX7_storeAt) (na := 1) (As := [.int a1]) (rest := []) (c_X7_storeAt E ad b2) 0 cW_c0 rfl q_357 q_358 q_359 q_14 q_356 rfl (by decide +kernel) (by decide +kernel) rfl (Nat.le_of_ble_eq_true rfl) ⟨Nat.zero_le _, Nat.zero_le _⟩ dX7_early_2 (fun _ _ => ?_)
  refine J_app1 ?_
  replace h := bk h
  obtain ⟨⟨r3, S4⟩, g5, h⟩ := h
  dsimp only at h
  replace h := nmv_e h
  obtain ⟨T6, eT6, h⟩ := h
  have hk7 : a1.toNatClampNeg < T6.2.1 := by rw [eT6]; exact (inS_lt b2)
  refine J_stI X (pc := 5) (inS_lt b2) (y := yX5_earlyBound) (na := 0) (As := []) (rest := []) (T2 := T6) (c_X5_earlyBound E (ad.2 a1.toNatClampNeg) g5) eT6 0 sW_c0 rfl q_409 q_244 q_245 q_220 q_238 rfl (by decide +kernel) (by decide +kernel) rfl (Nat.le_of_ble_eq_true rfl) ⟨Nat.zero_le _, Nat.zero_le _⟩ dX7_early_5 ?_
  replace h := bk h
  obtain ⟨r8, g9, h⟩ := h
  refine J_callSI X (pc := 8) (y := yX7_dayOrNone) (na := 1) (As := [.int r3]) (rest := []) (c_X7_dayOrNone E (cW E ad T6) g9) q_406 q_407 q_14 q_402 rfl (by decide +kernel) (by decide +kernel) rfl (Nat.le_of_ble_eq_true rfl) ⟨Nat.zero_le _, Nat.zero_le _⟩ dX7_early_8 ?_
  cases h
def f_X7_late (a1 : Int32) (T : TS) : Option (Int32 × TS) := ck (inS T a1) ((f_X5_lateBound (T.2.2 a1.toNatClampNeg)).bind (fun ((r3, S4) : Int32 × St) => nmv (setT T a1.toNatClampNeg S4) (fun (T6 : TS) => (f_X7_dayOrNone r3).bind (fun (r8 : Int32) => some (r8, T6)))))
set_option maxRecDepth 100000 in
set_option maxHeartbeats 4000000 in
theorem c_X7_late (E : Ev) (ad : CA) {a1 : Int32} {T : TS} {r : Int32} {T2 : TS} (h : f_X7_late a1 T = some (r, T2)) : CtI E yX7_late cX7_late 2 .int 5 119 (cW E ad T) [.ref (ad.1 0), .int a1] r (cW E ad T2) := by
  refine CtI_of (by decide +kernel) (Nat.le_of_ble_eq_true rfl) (fun x X hE => ?_)
  show J E x 0 0 (cW E ad T) 0 [(0, .ref (ad.1 0)), (1, .int a1)] []
  unfold f_X7_late at h
  refine J_aload_n X (pc := 0) dX7_late_0 0 rfl ?_
  refine J_iload_n X (pc := 1) dX7_late_1 1 rfl ?_
  replace h := ck_e h
  obtain ⟨b2, h⟩ := h
  refine J_app0 ?_
  refine J_callF0R X (pc := 2) (w1 := cW E ad T) (rw := []) (y := yX7_storeAt) (na := 1) (As := [.int a1]) (rest := []) (c_X7_storeAt E ad b2) 0 cW_c0 rfl q_357 q_358 q_359 q_14 q_356 rfl (by decide +kernel) (by decide +kernel) rfl (Nat.le_of_ble_eq_true rfl) ⟨Nat.zero_le _, Nat.zero_le _⟩ dX7_late_2 (fun _ _ => ?_)
  refine J_app1 ?_
  replace h := bk h
  obtain ⟨⟨r3, S4⟩, g5, h⟩ := h
  dsimp only at h
  replace h := nmv_e h
  obtain ⟨T6, eT6, h⟩ := h
  have hk7 : a1.toNatClampNeg < T6.2.1 := by rw [eT6]; exact (inS_lt b2)
  refine J_stI X (pc := 5) (inS_lt b2) (y := yX5_lateBound) (na := 0) (As := []) (rest := []) (T2 := T6) (c_X5_lateBound E (ad.2 a1.toNatClampNeg) g5) eT6 0 sW_c0 rfl q_411 q_412 q_413 q_220 q_239 rfl (by decide +kernel) (by decide +kernel) rfl (Nat.le_of_ble_eq_true rfl) ⟨Nat.zero_le _, Nat.zero_le _⟩ dX7_late_5 ?_
  replace h := bk h
  obtain ⟨r8, g9, h⟩ := h
  refine J_callSI X (pc := 8) (y := yX7_dayOrNone) (na := 1) (As := [.int r3]) (rest := []) (c_X7_dayOrNone E (cW E ad T6) g9) q_406 q_407 q_14 q_402 rfl (by decide +kernel) (by decide +kernel) rfl (Nat.le_of_ble_eq_true rfl) ⟨Nat.zero_le _, Nat.zero_le _⟩ dX7_late_8 ?_
  cases h
  exact hE _ _ dX7_late_11 rfl
def x_X7_late (a1 : Int32) (T : TS) : Option (String × TS) := xc (x_X7_storeAt a1 T) (ck (inS T a1) ((f_X5_lateBound (T.2.2 a1.toNatClampNeg)).bind (fun ((r3, S4) : Int32 × St) => nmv (setT T a1.toNatClampNeg S4) (fun (T6 : TS) => (f_X7_dayOrNone r3).bind (fun (r8 : Int32) => none)))))
set_option maxRecDepth 100000 in
set_option maxHeartbeats 4000000 in
theorem t_X7_late (E : Ev) (ad : CA) {a1 : Int32} {T : TS} {Ex : String} {T2 : TS} (h : x_X7_late a1 T = some (Ex, T2)) : CtT E yX7_late cX7_late 2 (some .int) 7 119 (cW E ad T) [.ref (ad.1 0), .int a1] Ex (cW E ad T2) := by
  refine CtT_of (by decide +kernel) (Nat.le_of_ble_eq_true rfl) (fun x X XX IT => ?_)
  show J E x 0 0 (cW E ad T) 0 [(0, .ref (ad.1 0)), (1, .int a1)] []
  unfold x_X7_late at h
  refine J_aload_n X (pc := 0) dX7_late_0 0 rfl ?_
  refine J_iload_n X (pc := 1) dX7_late_1 1 rfl ?_
  rcases xc_e h with h | h
  · exact J_callTV (y := yX7_storeAt) (na := 1) (As := [.int a1]) (rest := []) X XX (t_X7_storeAt E ad h) IT 0 cW_c0 rfl q_357 q_358 q_359 q_14 q_356 rfl (by decide +kernel) (by decide +kernel) rfl (Nat.le_of_ble_eq_true rfl) ⟨by decide +kernel, by decide +kernel⟩ dX7_late_2 (Nat.le_of_ble_eq_true rfl) (Nat.le_of_ble_eq_true rfl)
  replace h := ck_e h
  obtain ⟨b2, h⟩ := h
  refine J_app0 ?_
  refine J_callF0R X (pc := 2) (w1 := cW E ad T) (rw := []) (y := yX7_storeAt) (na := 1) (As := [.int a1]) (rest := []) (c_X7_storeAt E ad b2) 0 cW_c0 rfl q_357 q_358 q_359 q_14 q_356 rfl (by decide +kernel) (by decide +kernel) rfl (Nat.le_of_ble_eq_true rfl) ⟨Nat.zero_le _, Nat.zero_le _⟩ dX7_late_2 (fun _ _ => ?_)
  refine J_app1 ?_
  replace h := bk h
  obtain ⟨⟨r3, S4⟩, g5, h⟩ := h
  dsimp only at h
  replace h := nmv_e h
  obtain ⟨T6, eT6, h⟩ := h
  have hk7 : a1.toNatClampNeg < T6.2.1 := by rw [eT6]; exact (inS_lt b2)
  refine J_stI X (pc := 5) (inS_lt b2) (y := yX5_lateBound) (na := 0) (As := []) (rest := []) (T2 := T6) (c_X5_lateBound E (ad.2 a1.toNatClampNeg) g5) eT6 0 sW_c0 rfl q_411 q_412 q_413 q_220 q_239 rfl (by decide +kernel) (by decide +kernel) rfl (Nat.le_of_ble_eq_true rfl) ⟨Nat.zero_le _, Nat.zero_le _⟩ dX7_late_5 ?_
  replace h := bk h
  obtain ⟨r8, g9, h⟩ := h
  refine J_callSI X (pc := 8) (y := yX7_dayOrNone) (na := 1) (As := [.int r3]) (rest := []) (c_X7_dayOrNone E (cW E ad T6) g9) q_406 q_407 q_14 q_402 rfl (by decide +kernel) (by decide +kernel) rfl (Nat.le_of_ble_eq_true rfl) ⟨Nat.zero_le _, Nat.zero_le _⟩ dX7_late_8 ?_
  cases h
def f_X7_warns (a1 : Int32) (T : TS) : Option (Int32) := ck (inS T a1) (ck (isZ ((T.2.2 a1.toNatClampNeg).1 12)) (some ((T.2.2 a1.toNatClampNeg).1 12)))
set_option maxRecDepth 100000 in
set_option maxHeartbeats 4000000 in
theorem c_X7_warns (E : Ev) (ad : CA) {a1 : Int32} {T : TS} {r : Int32} (h : f_X7_warns a1 T = some r) : CtI E yX7_warns cX7_warns 2 .boolean 4 85 (cW E ad T) [.ref (ad.1 0), .int a1] r (cW E ad T) := by
  refine CtI_of (by decide +kernel) (Nat.le_of_ble_eq_true rfl) (fun x X hE => ?_)
  show J E x 0 0 (cW E ad T) 0 [(0, .ref (ad.1 0)), (1, .int a1)] []
  unfold f_X7_warns at h
  refine J_aload_n X (pc := 0) dX7_warns_0 0 rfl ?_
  refine J_iload_n X (pc := 1) dX7_warns_1 1 rfl ?_
  replace h := ck_e h
  obtain ⟨b2, h⟩ := h
  refine J_app0 ?_
  refine J_callF0R X (pc := 2) (w1 := cW E ad T) (rw := []) (y := yX7_storeAt) (na := 1) (As := [.int a1]) (rest := []) (c_X7_storeAt E ad b2) 0 cW_c0 rfl q_357 q_358 q_359 q_14 q_356 rfl (by decide +kernel) (by decide +kernel) rfl (Nat.le_of_ble_eq_true rfl) ⟨Nat.zero_le _, Nat.zero_le _⟩ dX7_warns_2 (fun _ _ => ?_)
  refine J_app1 ?_
  refine J_stgetN X (pc := 5) (inS_lt b2) 0 sW_c0 rfl in_X5 5 (by decide) nq_16 rfl dX7_warns_5 ?_
  refine J_stgetN X (pc := 8) (inS_lt b2) 6 sW_c6 rfl in_X6 0 (by decide) nq_11 rfl dX7_warns_8 ?_
  replace h := ck_e h
  obtain ⟨b3, h⟩ := h
  cases h
  exact hE _ _ dX7_warns_11 (isZ_nar b3)
def x_X7_warns (a1 : Int32) (T : TS) : Option (String × TS) := xc (x_X7_storeAt a1 T) (ck (inS T a1) (none))
set_option maxRecDepth 100000 in
set_option maxHeartbeats 4000000 in
theorem t_X7_warns (E : Ev) (ad : CA) {a1 : Int32} {T : TS} {Ex : String} {T2 : TS} (h : x_X7_warns a1 T = some (Ex, T2)) : CtT E yX7_warns cX7_warns 2 (some .boolean) 7 105 (cW E ad T) [.ref (ad.1 0), .int a1] Ex (cW E ad T2) := by
  refine CtT_of (by decide +kernel) (Nat.le_of_ble_eq_true rfl) (fun x X XX IT => ?_)
  show J E x 0 0 (cW E ad T) 0 [(0, .ref (ad.1 0)), (1, .int a1)] []
  unfold x_X7_warns at h
  refine J_aload_n X (pc := 0) dX7_warns_0 0 rfl ?_
  refine J_iload_n X (pc := 1) dX7_warns_1 1 rfl ?_
  rcases xc_e h with h | h
  · exact J_callTV (y := yX7_storeAt) (na := 1) (As := [.int a1]) (rest := []) X XX (t_X7_storeAt E ad h) IT 0 cW_c0 rfl q_357 q_358 q_359 q_14 q_356 rfl (by decide +kernel) (by decide +kernel) rfl (Nat.le_of_ble_eq_true rfl) ⟨by decide +kernel, by decide +kernel⟩ dX7_warns_2 (Nat.le_of_ble_eq_true rfl) (Nat.le_of_ble_eq_true rfl)
  replace h := ck_e h
  obtain ⟨b2, h⟩ := h
  refine J_app0 ?_
  refine J_callF0R X (pc := 2) (w1 := cW E ad T) (rw := []) (y := yX7_storeAt) (na := 1) (As := [.int a1]) (rest := []) (c_X7_storeAt E ad b2) 0 cW_c0 rfl q_357 q_358 q_359 q_14 q_356 rfl (by decide +kernel) (by decide +kernel) rfl (Nat.le_of_ble_eq_true rfl) ⟨Nat.zero_le _, Nat.zero_le _⟩ dX7_warns_2 (fun _ _ => ?_)
  refine J_app1 ?_
  refine J_stgetN X (pc := 5) (inS_lt b2) 0 sW_c0 rfl in_X5 5 (by decide) nq_16 rfl dX7_warns_5 ?_
  refine J_stgetN X (pc := 8) (inS_lt b2) 6 sW_c6 rfl in_X6 0 (by decide) nq_11 rfl dX7_warns_8 ?_
  cases h
def f_X7_drawPool_4 (a1 : Int32) : Nat → Int32 → Int32 → TS → Option (Int32 × TS)
  | 0, _, _, _ => none
  | n4+1, x1, x2, S3 => if (nI S3.2.1) ≤ x2 then some (x1, S3) else (f_X7_isInPool a1 x2).bind (fun (r11 : Int32) => (if r11 = 0 then some (x1, S3) else (if x1 = 0 then some ((0 : Int32)) else ck (inS S3 x2) ((f_X5_hasSlope (S3.2.2 x2.toNatClampNeg)).bind (fun (r23 : Int32) => if r23 = 0 then some ((0 : Int32)) else some ((1 : Int32))))).bind (fun (r19 : Int32) => ck (inS S3 x2) ((f_X5_drawLineWithout ((-1 : Int32)) (S3.2.2 x2.toNatClampNeg)).bind (fun (S27 : St) => nmv (setT S3 x2.toNatClampNeg S27) (fun (T29 : TS) => some (r19, T29)))))).bind (fun ((r14, S15) : Int32 × TS) => nmv (x2 + (1 : Int32)) (fun (v31 : Int32) => f_X7_drawPool_4 a1 n4 r14 v31 S15)))
def f_X7_drawPool (a1 : Int32) (T : TS) : Option (Int32 × TS) := (f_X7_drawPool_4 a1 3000 ((1 : Int32)) ((0 : Int32)) T).bind (fun ((r6, S7) : Int32 × TS) => ck (isZ r6) (some (r6, S7)))
set_option maxRecDepth 100000 in
set_option maxHeartbeats 4000000 in
theorem c_X7_drawPool (E : Ev) (ad : CA) {a1 : Int32} {T : TS} {r : Int32} {T2 : TS} (h : f_X7_drawPool a1 T = some (r, T2)) : CtI E yX7_drawPool cX7_drawPool 4 .boolean 3 69 (cW E ad T) [.ref (ad.1 0), .int a1] r (cW E ad T2) := by
  refine CtI_of (by decide +kernel) (Nat.le_of_ble_eq_true rfl) (fun x X hE => ?_)
  show J E x 0 0 (cW E ad T) 0 [(0, .ref (ad.1 0)), (1, .int a1)] []
  unfold f_X7_drawPool at h
  refine J_iconst X (pc := 0) (v := 1) dX7_drawPool_0 (by decide +kernel) ?_
  refine J_istore_n X (pc := 1) dX7_drawPool_1 (by decide) rfl ?_
  refine J_iconst X (pc := 2) (v := 0) dX7_drawPool_2 (by decide +kernel) ?_
  refine J_istore_n X (pc := 3) dX7_drawPool_3 (by decide) rfl ?_
  replace h := bk h
  obtain ⟨⟨r6, S7⟩, g9, h⟩ := h
  dsimp only at h
  have k8 : J E x 0 0 (cW E ad S7) 71 [(2, .int r6)] [] := by
    refine J_iload_n X (pc := 71) dX7_drawPool_71 0 rfl ?_
    replace h := ck_e h
    obtain ⟨b33, h⟩ := h
    cases h
    exact hE _ _ dX7_drawPool_72 (isZ_nar b33)
  clear h
  have l32 : ∀ (n4 : Nat) (x1 : Int32) (x2 : Int32) (S3 : TS), f_X7_drawPool_4 a1 n4 x1 x2 S3 = some (r6, S7) → J E x 0 0 (cW E ad S3) 4 [(0, .ref (ad.1 0)), (1, .int a1), (2, .int x1), (3, .int x2)] [] := by
    intro n4
    induction n4 with
    | zero => intro x1 x2 S3 h; rw [f_X7_drawPool_4] at h; cases h
    | succ n4 ih5 =>
      intro x1 x2 S3 h
      rw [f_X7_drawPool_4] at h
      refine J_iload_n X (pc := 4) dX7_drawPool_4 3 rfl ?_
      refine J_aload_n X (pc := 5) dX7_drawPool_5 0 rfl ?_
      refine J_getf X (pc := 6) 0 cW_c0 rfl in_X7 0 (by decide) q_268 rfl dX7_drawPool_6 ?_
      refine J_size X (pc := 9) q_328 ⟨Nat.le_of_ble_eq_true rfl, Nat.le_of_ble_eq_true rfl⟩ (Nat.le_of_ble_eq_true rfl) ⟨Nat.zero_le _, Nat.zero_le _⟩ dX7_drawPool_9 ?_
      refine J_icmp_ge X (pc := 12) 71 dX7_drawPool_12 (by decide) (fun c10 => ?_) (fun c10 => ?_)
      · rw [if_pos c10] at h
        cases h
        exact J_sub [2] rfl k8
      · rw [if_neg c10] at h
        refine J_iload_n X (pc := 15) dX7_drawPool_15 1 rfl ?_
        refine J_iload_n X (pc := 16) dX7_drawPool_16 3 rfl ?_
        replace h := bk h
        obtain ⟨r11, g12, h⟩ := h
        refine J_callSI X (pc := 17) (y := yX7_isInPool) (na := 2) (As := [.int a1, .int x2]) (rest := []) (c_X7_isInPool E (cW E ad S3) g12) q_417 q_418 q_14 q_416 rfl (by decide +kernel) (by decide +kernel) rfl (Nat.le_of_ble_eq_true rfl) ⟨Nat.zero_le _, Nat.zero_le _⟩ dX7_drawPool_17 ?_
        replace h := bk h
        obtain ⟨⟨r14, S15⟩, g17, h⟩ := h
        dsimp only at h
        have j16 : J E x 0 0 (cW E ad S15) 65 [(0, .ref (ad.1 0)), (1, .int a1), (2, .int r14), (3, .int x2)] [] := by
          replace h := nmv_e h
          obtain ⟨v31, ev31, h⟩ := h
          refine J_iinc X (pc := 65) (v := v31) dX7_drawPool_65 3 rfl (by rw [ev31]; rfl) (by decide) rfl ?_
          refine J_goto X (pc := 68) 4 dX7_drawPool_68 (by decide) ?_
          exact J_sub [1, 2, 3, 0] rfl (ih5 _ _ _ h)
        refine J_if_eq X (pc := 20) 65 dX7_drawPool_20 (by decide) (fun c13 => ?_) (fun c13 => ?_)
        · rw [if_pos c13] at g17
          cases g17
          exact J_sub [0, 1, 2, 3] rfl j16
        · rw [if_neg c13] at g17
          refine J_iload_n X (pc := 23) dX7_drawPool_23 2 rfl ?_
          replace g17 := bk g17
          obtain ⟨r19, g21, g17⟩ := g17
          have j20 : J E x 0 0 (cW E ad S3) 49 [(0, .ref (ad.1 0)), (1, .int a1), (3, .int x2)] [.int r19] := by
            refine J_istore_n X (pc := 49) dX7_drawPool_49 (by decide) rfl ?_
            refine J_aload_n X (pc := 50) dX7_drawPool_50 1 rfl ?_
            refine J_getf X (pc := 51) 0 cW_c0 rfl in_X7 0 (by decide) q_268 rfl dX7_drawPool_51 ?_
            refine J_iload_n X (pc := 54) dX7_drawPool_54 3 rfl ?_
            replace g17 := ck_e g17
            obtain ⟨b26, g17⟩ := g17
            refine J_get X (pc := 55) b26 q_353 ⟨Nat.le_of_ble_eq_true rfl, Nat.le_of_ble_eq_true rfl⟩ (Nat.le_of_ble_eq_true rfl) ⟨Nat.zero_le _, Nat.zero_le _⟩ dX7_drawPool_55 ?_
            refine J_cast X (pc := 58) (cast_mem (inS_lt b26)) rfl q_352 dX7_drawPool_58 ?_
            refine J_iconst X (pc := 61) (v := -1) dX7_drawPool_61 (by decide +kernel) ?_
            replace g17 := bk g17
            obtain ⟨S27, g28, g17⟩ := g17
            replace g17 := nmv_e g17
            obtain ⟨T29, eT29, g17⟩ := g17
            have hk30 : x2.toNatClampNeg < T29.2.1 := by rw [eT29]; exact (inS_lt b26)
            refine J_stV X (pc := 62) (inS_lt b26) (y := yX5_drawLineWithout) (na := 1) (As := [.int ((-1 : Int32))]) (rest := []) (T2 := T29) (c_X5_drawLineWithout E (ad.2 x2.toNatClampNeg) g28) eT29 0 sW_c0 rfl q_385 q_218 q_219 q_220 q_197 rfl (by decide +kernel) (by decide +kernel) rfl (Nat.le_of_ble_eq_true rfl) ⟨Nat.zero_le _, Nat.zero_le _⟩ dX7_drawPool_62 ?_
            cases g17
            exact J_sub [1, 2, 0, 3] rfl j16
          refine J_if_eq X (pc := 24) 48 dX7_drawPool_24 (by decide) (fun c18 => ?_) (fun c18 => ?_)
          · rw [if_pos c18] at g21
            refine J_iconst X (pc := 48) (v := 0) dX7_drawPool_48 (by decide +kernel) ?_
            cases g21
            exact J_sub [0, 1, 3] rfl j20
          · rw [if_neg c18] at g21
            refine J_aload_n X (pc := 27) dX7_drawPool_27 0 rfl ?_
            refine J_getf X (pc := 28) 0 cW_c0 rfl in_X7 0 (by decide) q_268 rfl dX7_drawPool_28 ?_
            refine J_iload_n X (pc := 31) dX7_drawPool_31 3 rfl ?_
            replace g21 := ck_e g21
            obtain ⟨b22, g21⟩ := g21
            refine J_get X (pc := 32) b22 q_353 ⟨Nat.le_of_ble_eq_true rfl, Nat.le_of_ble_eq_true rfl⟩ (Nat.le_of_ble_eq_true rfl) ⟨Nat.zero_le _, Nat.zero_le _⟩ dX7_drawPool_32 ?_
            refine J_cast X (pc := 35) (cast_mem (inS_lt b22)) rfl q_352 dX7_drawPool_35 ?_
            replace g21 := bk g21
            obtain ⟨r23, g24, g21⟩ := g21
            refine J_stI X (pc := 38) (inS_lt b22) (y := yX5_hasSlope) (na := 0) (As := []) (rest := []) (T2 := S3) (c_X5_hasSlope E (ad.2 x2.toNatClampNeg) g24) setT_self.symm 0 sW_c0 rfl q_384 q_229 q_230 q_220 q_177 rfl (by decide +kernel) (by decide +kernel) rfl (Nat.le_of_ble_eq_true rfl) ⟨Nat.zero_le _, Nat.zero_le _⟩ dX7_drawPool_38 ?_
            refine J_if_eq X (pc := 41) 48 dX7_drawPool_41 (by decide) (fun c25 => ?_) (fun c25 => ?_)
            · rw [if_pos c25] at g21
              refine J_iconst X (pc := 48) (v := 0) dX7_drawPool_48 (by decide +kernel) ?_
              cases g21
              exact J_sub [0, 1, 3] rfl j20
            · rw [if_neg c25] at g21
              refine J_iconst X (pc := 44) (v := 1) dX7_drawPool_44 (by decide +kernel) ?_
              refine J_goto X (pc := 45) 49 dX7_drawPool_45 (by decide) ?_
              cases g21
              exact J_sub [0, 1, 3] rfl j20
  exact J_sub [2, 3, 1, 0] rfl (l32 3000 _ _ _ g9)
def f_X7_poolSize_5 (a1 : Int32) (T : TS) : Nat → Int64 → Int32 → Option (Int64)
  | 0, _, _ => none
  | n3+1, x1, x2 => if (nI T.2.1) ≤ x2 then some x1 else (f_X7_isInPool a1 x2).bind (fun (r9 : Int32) => (if r9 = 0 then some x1 else ck (inS T x2) (nmv (x1 + (((T.2.2 x2.toNatClampNeg).1 0).toInt64)) (fun (v16 : Int64) => some v16))).bind (fun (r12 : Int64) => nmv (x2 + (1 : Int32)) (fun (v17 : Int32) => f_X7_poolSize_5 a1 T n3 r12 v17)))
def f_X7_poolSize (a1 : Int32) (T : TS) : Option (Int64) := (f_X7_poolSize_5 a1 T 3000 ((0 : Int64)) ((0 : Int32))).bind (fun (r5 : Int64) => some r5)
set_option maxRecDepth 100000 in
set_option maxHeartbeats 4000000 in
theorem c_X7_poolSize (E : Ev) (ad : CA) {a1 : Int32} {T : TS} {r : Int64} (h : f_X7_poolSize a1 T = some r) : CtL E yX7_poolSize cX7_poolSize 5 3 64 (cW E ad T) [.ref (ad.1 0), .int a1] r (cW E ad T) := by
  refine CtL_of (by decide +kernel) (Nat.le_of_ble_eq_true rfl) (fun x X hE => ?_)
  show J E x 0 0 (cW E ad T) 0 [(0, .ref (ad.1 0)), (1, .int a1)] []
  unfold f_X7_poolSize at h
  refine J_lconst X (pc := 0) (v := 0) dX7_poolSize_0 (by decide +kernel) ?_
  refine J_lstore_n X (pc := 1) dX7_poolSize_1 (by decide) rfl ?_
  refine J_iconst X (pc := 2) (v := 0) dX7_poolSize_2 (by decide +kernel) ?_
  refine J_istore X (pc := 3) dX7_poolSize_3 (by decide) rfl ?_
  replace h := bk h
  obtain ⟨r5, g7, h⟩ := h
  have k6 : J E x 0 0 (cW E ad T) 51 [(2, .long r5)] [] := by
    refine J_lload_n X (pc := 51) dX7_poolSize_51 0 rfl ?_
    cases h
    exact hE _ _ dX7_poolSize_52
  clear h
  have l18 : ∀ (n3 : Nat) (x1 : Int64) (x2 : Int32), f_X7_poolSize_5 a1 T n3 x1 x2 = some r5 → J E x 0 0 (cW E ad T) 5 [(0, .ref (ad.1 0)), (1, .int a1), (2, .long x1), (4, .int x2)] [] := by
    intro n3
    induction n3 with
    | zero => intro x1 x2 h; rw [f_X7_poolSize_5] at h; cases h
    | succ n3 ih4 =>
      intro x1 x2 h
      rw [f_X7_poolSize_5] at h
      refine J_iload X (pc := 5) dX7_poolSize_5 3 rfl ?_
      refine J_aload_n X (pc := 7) dX7_poolSize_7 0 rfl ?_
      refine J_getf X (pc := 8) 0 cW_c0 rfl in_X7 0 (by decide) q_268 rfl dX7_poolSize_8 ?_
      refine J_size X (pc := 11) q_328 ⟨Nat.le_of_ble_eq_true rfl, Nat.le_of_ble_eq_true rfl⟩ (Nat.le_of_ble_eq_true rfl) ⟨Nat.zero_le _, Nat.zero_le _⟩ dX7_poolSize_11 ?_
      refine J_icmp_ge X (pc := 14) 51 dX7_poolSize_14 (by decide) (fun c8 => ?_) (fun c8 => ?_)
      · rw [if_pos c8] at h
        cases h
        exact J_sub [2] rfl k6
      · rw [if_neg c8] at h
        refine J_iload_n X (pc := 17) dX7_poolSize_17 1 rfl ?_
        refine J_iload X (pc := 18) dX7_poolSize_18 3 rfl ?_
        replace h := bk h
        obtain ⟨r9, g10, h⟩ := h
        refine J_callSI X (pc := 20) (y := yX7_isInPool) (na := 2) (As := [.int a1, .int x2]) (rest := []) (c_X7_isInPool E (cW E ad T) g10) q_417 q_418 q_14 q_416 rfl (by decide +kernel) (by decide +kernel) rfl (Nat.le_of_ble_eq_true rfl) ⟨Nat.zero_le _, Nat.zero_le _⟩ dX7_poolSize_20 ?_
        replace h := bk h
        obtain ⟨r12, g14, h⟩ := h
        have j13 : J E x 0 0 (cW E ad T) 45 [(0, .ref (ad.1 0)), (1, .int a1), (2, .long r12), (4, .int x2)] [] := by
          replace h := nmv_e h
          obtain ⟨v17, ev17, h⟩ := h
          refine J_iinc X (pc := 45) (v := v17) dX7_poolSize_45 3 rfl (by rw [ev17]; rfl) (by decide) rfl ?_
          refine J_goto X (pc := 48) 5 dX7_poolSize_48 (by decide) ?_
          exact J_sub [1, 2, 3, 0] rfl (ih4 _ _ h)
        refine J_if_eq X (pc := 23) 45 dX7_poolSize_23 (by decide) (fun c11 => ?_) (fun c11 => ?_)
        · rw [if_pos c11] at g14
          cases g14
          exact J_sub [0, 1, 2, 3] rfl j13
        · rw [if_neg c11] at g14
          refine J_lload_n X (pc := 26) dX7_poolSize_26 2 rfl ?_
          refine J_aload_n X (pc := 27) dX7_poolSize_27 0 rfl ?_
          refine J_getf X (pc := 28) 0 cW_c0 rfl in_X7 0 (by decide) q_268 rfl dX7_poolSize_28 ?_
          refine J_iload X (pc := 31) dX7_poolSize_31 3 rfl ?_
          replace g14 := ck_e g14
          obtain ⟨b15, g14⟩ := g14
          refine J_get X (pc := 33) b15 q_353 ⟨Nat.le_of_ble_eq_true rfl, Nat.le_of_ble_eq_true rfl⟩ (Nat.le_of_ble_eq_true rfl) ⟨Nat.zero_le _, Nat.zero_le _⟩ dX7_poolSize_33 ?_
          refine J_cast X (pc := 36) (cast_mem (inS_lt b15)) rfl q_352 dX7_poolSize_36 ?_
          refine J_stgetN X (pc := 39) (inS_lt b15) 0 sW_c0 rfl in_X5 6 (by decide) nq_17 rfl dX7_poolSize_39 ?_
          refine J_i2l X (pc := 42) dX7_poolSize_42 ?_
          refine J_ladd X (pc := 43) dX7_poolSize_43 ?_
          replace g14 := nmv_e g14
          obtain ⟨v16, ev16, g14⟩ := g14
          refine J_nml ev16 ?_
          refine J_lstore_n X (pc := 44) dX7_poolSize_44 (by decide) rfl ?_
          cases g14
          exact J_sub [1, 2, 0, 3] rfl j13
  exact J_sub [2, 3, 1, 0] rfl (l18 3000 _ _ g7)
def f_X7_poolRoomOn_5 (a1 : Int32) (a2 : Int32) (T : TS) : Nat → Int64 → Int32 → Option (Int64)
  | 0, _, _ => none
  | n3+1, x1, x2 => if (nI T.2.1) ≤ x2 then some x1 else (f_X7_isInPool a1 x2).bind (fun (r9 : Int32) => (if r9 = 0 then some x1 else ck (inS T x2) ((f_X5_roomOn a2 (T.2.2 x2.toNatClampNeg)).bind (fun (r16 : Int32) => nmv (x1 + r16.toInt64) (fun (v18 : Int64) => some v18)))).bind (fun (r12 : Int64) => nmv (x2 + (1 : Int32)) (fun (v19 : Int32) => f_X7_poolRoomOn_5 a1 a2 T n3 r12 v19)))
def f_X7_poolRoomOn (a1 : Int32) (a2 : Int32) (T : TS) : Option (Int64) := (f_X7_poolRoomOn_5 a1 a2 T 3000 ((0 : Int64)) ((0 : Int32))).bind (fun (r5 : Int64) => some r5)
set_option maxRecDepth 100000 in
set_option maxHeartbeats 4000000 in
theorem c_X7_poolRoomOn (E : Ev) (ad : CA) {a1 : Int32} {a2 : Int32} {T : TS} {r : Int64} (h : f_X7_poolRoomOn a1 a2 T = some r) : CtL E yX7_poolRoomOn cX7_poolRoomOn 6 3 73 (cW E ad T) [.ref (ad.1 0), .int a1, .int a2] r (cW E ad T) := by
  refine CtL_of (by decide +kernel) (Nat.le_of_ble_eq_true rfl) (fun x X hE => ?_)
  show J E x 0 0 (cW E ad T) 0 [(0, .ref (ad.1 0)), (1, .int a1), (2, .int a2)] []
  unfold f_X7_poolRoomOn at h
  refine J_lconst X (pc := 0) (v := 0) dX7_poolRoomOn_0 (by decide +kernel) ?_
  refine J_lstore_n X (pc := 1) dX7_poolRoomOn_1 (by decide) rfl ?_
  refine J_iconst X (pc := 2) (v := 0) dX7_poolRoomOn_2 (by decide +kernel) ?_
  refine J_istore X (pc := 3) dX7_poolRoomOn_3 (by decide) rfl ?_
  replace h := bk h
  obtain ⟨r5, g7, h⟩ := h
  have k6 : J E x 0 0 (cW E ad T) 52 [(3, .long r5)] [] := by
    refine J_lload_n X (pc := 52) dX7_poolRoomOn_52 0 rfl ?_
    cases h
    exact hE _ _ dX7_poolRoomOn_53
  clear h
  have l20 : ∀ (n3 : Nat) (x1 : Int64) (x2 : Int32), f_X7_poolRoomOn_5 a1 a2 T n3 x1 x2 = some r5 → J E x 0 0 (cW E ad T) 5 [(0, .ref (ad.1 0)), (1, .int a1), (2, .int a2), (3, .long x1), (5, .int x2)] [] := by
    intro n3
    induction n3 with
    | zero => intro x1 x2 h; rw [f_X7_poolRoomOn_5] at h; cases h
    | succ n3 ih4 =>
      intro x1 x2 h
      rw [f_X7_poolRoomOn_5] at h
      refine J_iload X (pc := 5) dX7_poolRoomOn_5 4 rfl ?_
      refine J_aload_n X (pc := 7) dX7_poolRoomOn_7 0 rfl ?_
      refine J_getf X (pc := 8) 0 cW_c0 rfl in_X7 0 (by decide) q_268 rfl dX7_poolRoomOn_8 ?_
      refine J_size X (pc := 11) q_328 ⟨Nat.le_of_ble_eq_true rfl, Nat.le_of_ble_eq_true rfl⟩ (Nat.le_of_ble_eq_true rfl) ⟨Nat.zero_le _, Nat.zero_le _⟩ dX7_poolRoomOn_11 ?_
      refine J_icmp_ge X (pc := 14) 52 dX7_poolRoomOn_14 (by decide) (fun c8 => ?_) (fun c8 => ?_)
      · rw [if_pos c8] at h
        cases h
        exact J_sub [3] rfl k6
      · rw [if_neg c8] at h
        refine J_iload_n X (pc := 17) dX7_poolRoomOn_17 1 rfl ?_
        refine J_iload X (pc := 18) dX7_poolRoomOn_18 4 rfl ?_
        replace h := bk h
        obtain ⟨r9, g10, h⟩ := h
        refine J_callSI X (pc := 20) (y := yX7_isInPool) (na := 2) (As := [.int a1, .int x2]) (rest := []) (c_X7_isInPool E (cW E ad T) g10) q_417 q_418 q_14 q_416 rfl (by decide +kernel) (by decide +kernel) rfl (Nat.le_of_ble_eq_true rfl) ⟨Nat.zero_le _, Nat.zero_le _⟩ dX7_poolRoomOn_20 ?_
        replace h := bk h
        obtain ⟨r12, g14, h⟩ := h
        have j13 : J E x 0 0 (cW E ad T) 46 [(0, .ref (ad.1 0)), (1, .int a1), (2, .int a2), (3, .long r12), (5, .int x2)] [] := by
          replace h := nmv_e h
          obtain ⟨v19, ev19, h⟩ := h
          refine J_iinc X (pc := 46) (v := v19) dX7_poolRoomOn_46 4 rfl (by rw [ev19]; rfl) (by decide) rfl ?_
          refine J_goto X (pc := 49) 5 dX7_poolRoomOn_49 (by decide) ?_
          exact J_sub [1, 2, 3, 4, 0] rfl (ih4 _ _ h)
        refine J_if_eq X (pc := 23) 46 dX7_poolRoomOn_23 (by decide) (fun c11 => ?_) (fun c11 => ?_)
        · rw [if_pos c11] at g14
          cases g14
          exact J_sub [0, 1, 2, 3, 4] rfl j13
        · rw [if_neg c11] at g14
          refine J_lload_n X (pc := 26) dX7_poolRoomOn_26 3 rfl ?_
          refine J_aload_n X (pc := 27) dX7_poolRoomOn_27 0 rfl ?_
          refine J_getf X (pc := 28) 0 cW_c0 rfl in_X7 0 (by decide) q_268 rfl dX7_poolRoomOn_28 ?_
          refine J_iload X (pc := 31) dX7_poolRoomOn_31 4 rfl ?_
          replace g14 := ck_e g14
          obtain ⟨b15, g14⟩ := g14
          refine J_get X (pc := 33) b15 q_353 ⟨Nat.le_of_ble_eq_true rfl, Nat.le_of_ble_eq_true rfl⟩ (Nat.le_of_ble_eq_true rfl) ⟨Nat.zero_le _, Nat.zero_le _⟩ dX7_poolRoomOn_33 ?_
          refine J_cast X (pc := 36) (cast_mem (inS_lt b15)) rfl q_352 dX7_poolRoomOn_36 ?_
          refine J_iload_n X (pc := 39) dX7_poolRoomOn_39 2 rfl ?_
          replace g14 := bk g14
          obtain ⟨r16, g17, g14⟩ := g14
          refine J_stI X (pc := 40) (inS_lt b15) (y := yX5_roomOn) (na := 1) (As := [.int a2]) (rest := [.long x1]) (T2 := T) (c_X5_roomOn E (ad.2 x2.toNatClampNeg) g17) setT_self.symm 0 sW_c0 rfl q_400 q_222 q_223 q_220 q_212 rfl (by decide +kernel) (by decide +kernel) rfl (Nat.le_of_ble_eq_true rfl) ⟨Nat.zero_le _, Nat.zero_le _⟩ dX7_poolRoomOn_40 ?_
          refine J_i2l X (pc := 43) dX7_poolRoomOn_43 ?_
          refine J_ladd X (pc := 44) dX7_poolRoomOn_44 ?_
          replace g14 := nmv_e g14
          obtain ⟨v18, ev18, g14⟩ := g14
          refine J_nml ev18 ?_
          refine J_lstore_n X (pc := 45) dX7_poolRoomOn_45 (by decide) rfl ?_
          cases g14
          exact J_sub [1, 2, 3, 0, 4] rfl j13
  exact J_sub [2, 3, 4, 1, 0] rfl (l20 3000 _ _ g7)
def f_X7_poolFull_45 (a1 : Int32) (T5 : TS) (r8 : Int64) : Nat → Int32 → Option (Int32 × TS)
  | 0, _ => none
  | n10+1, x9 => if ((1000 : Int32)) < x9 then some ((-1 : Int32), T5) else (f_X7_poolRoomOn a1 (T5.1.1 + x9) T5).bind (fun (r14 : Int64) => if (lg_cmp r14 r8) < 0 then nmv (x9 + (1 : Int32)) (fun (v16 : Int32) => f_X7_poolFull_45 a1 T5 r8 n10 v16) else some (T5.1.1 + x9, T5))
def f_X7_poolFull (a1 : Int32) (T : TS) : Option (Int32 × TS) := if a1 = 0 then none else if ((a1.toUInt32 >>> ((nI T.2.1).toUInt32 &&& Int32.toUInt32 31)).toInt32) = 0 then (f_X7_drawPool a1 T).bind (fun ((r4, T5) : Int32 × TS) => if r4 = 0 then some ((-1 : Int32), T5) else (f_X7_poolSize a1 T5).bind (fun (r8 : Int64) => f_X7_poolFull_45 a1 T5 r8 3000 ((1 : Int32)))) else none
set_option maxRecDepth 100000 in
set_option maxHeartbeats 4000000 in
theorem c_X7_poolFull (E : Ev) (ad : CA) {a1 : Int32} {T : TS} {r : Int32} {T2 : TS} (h : f_X7_poolFull a1 T = some (r, T2)) : CtI E yX7_poolFull cX7_poolFull 5 .int 4 98 (cW E ad T) [.ref (ad.1 0), .int a1] r (cW E ad T2) := by
  refine CtI_of (by decide +kernel) (Nat.le_of_ble_eq_true rfl) (fun x X hE => ?_)
  show J E x 0 0 (cW E ad T) 0 [(0, .ref (ad.1 0)), (1, .int a1)] []
  unfold f_X7_poolFull at h
  refine J_iload_n X (pc := 0) dX7_poolFull_0 1 rfl ?_
  refine J_if_eq X (pc := 1) 16 dX7_poolFull_1 (by decide) (fun c1 => ?_) (fun c1 => ?_)
  · rw [if_pos c1] at h
    cases h
  · rw [if_neg c1] at h
    refine J_iload_n X (pc := 4) dX7_poolFull_4 1 rfl ?_
    refine J_aload_n X (pc := 5) dX7_poolFull_5 0 rfl ?_
    refine J_getf X (pc := 6) 0 cW_c0 rfl in_X7 0 (by decide) q_268 rfl dX7_poolFull_6 ?_
    refine J_size X (pc := 9) q_328 ⟨Nat.le_of_ble_eq_true rfl, Nat.le_of_ble_eq_true rfl⟩ (Nat.le_of_ble_eq_true rfl) ⟨Nat.zero_le _, Nat.zero_le _⟩ dX7_poolFull_9 ?_
    refine J_iushr X (pc := 12) dX7_poolFull_12 ?_
    refine J_if_eq X (pc := 13) 26 dX7_poolFull_13 (by decide) (fun c2 => ?_) (fun c2 => ?_)
    · rw [if_pos c2] at h
      refine J_aload_n X (pc := 26) dX7_poolFull_26 0 rfl ?_
      refine J_iload_n X (pc := 27) dX7_poolFull_27 1 rfl ?_
      replace h := bk h
      obtain ⟨⟨r4, T5⟩, g3, h⟩ := h
      dsimp only at h
      refine J_callVI X (pc := 28) (y := yX7_drawPool) (na := 1) (As := [.int a1]) (rest := []) (c_X7_drawPool E ad g3) 0 cW_c0 rfl q_422 q_423 q_424 q_14 q_419 rfl (by decide +kernel) (by decide +kernel) rfl (Nat.le_of_ble_eq_true rfl) ⟨Nat.zero_le _, Nat.zero_le _⟩ dX7_poolFull_28 ?_
      refine J_if_ne X (pc := 31) 36 dX7_poolFull_31 (by decide) (fun c6 => ?_) (fun c6 => ?_)
      · rw [if_neg c6] at h
        refine J_aload_n X (pc := 36) dX7_poolFull_36 0 rfl ?_
        refine J_iload_n X (pc := 37) dX7_poolFull_37 1 rfl ?_
        replace h := bk h
        obtain ⟨r8, g7, h⟩ := h
        refine J_callVL X (pc := 38) (y := yX7_poolSize) (na := 1) (As := [.int a1]) (rest := []) (c_X7_poolSize E ad g7) 0 cW_c0 rfl q_425 q_426 q_427 q_14 q_420 rfl (by decide +kernel) (by decide +kernel) rfl (Nat.le_of_ble_eq_true rfl) ⟨Nat.zero_le _, Nat.zero_le _⟩ dX7_poolFull_38 ?_
        refine J_lstore_n X (pc := 41) dX7_poolFull_41 (by decide) rfl ?_
        refine J_iconst X (pc := 42) (v := 1) dX7_poolFull_42 (by decide +kernel) ?_
        refine J_istore X (pc := 43) dX7_poolFull_43 (by decide) rfl ?_
        have l17 : ∀ (n10 : Nat) (x9 : Int32), f_X7_poolFull_45 a1 T5 r8 n10 x9 = some (r, T2) → J E x 0 0 (cW E ad T5) 45 [(0, .ref (ad.1 0)), (1, .int a1), (2, .long r8), (4, .int x9)] [] := by
          intro n10
          induction n10 with
          | zero => intro x9 h; rw [f_X7_poolFull_45] at h; cases h
          | succ n10 ih11 =>
            intro x9 h
            rw [f_X7_poolFull_45] at h
            refine J_iload X (pc := 45) dX7_poolFull_45 3 rfl ?_
            refine J_sipush X (pc := 47) (v := 1000) dX7_poolFull_47 (by decide +kernel) ?_
            refine J_icmp_gt X (pc := 50) 84 dX7_poolFull_50 (by decide) (fun c12 => ?_) (fun c12 => ?_)
            · rw [if_pos c12] at h
              refine J_iconst X (pc := 84) (v := -1) dX7_poolFull_84 (by decide +kernel) ?_
              cases h
              exact hE _ _ dX7_poolFull_85 rfl
            · rw [if_neg c12] at h
              refine J_aload_n X (pc := 53) dX7_poolFull_53 0 rfl ?_
              refine J_iload_n X (pc := 54) dX7_poolFull_54 1 rfl ?_
              refine J_aload_n X (pc := 55) dX7_poolFull_55 0 rfl ?_
              refine J_getf X (pc := 56) 0 cW_c0 rfl in_X7 1 (by decide) q_269 rfl dX7_poolFull_56 ?_
              refine J_iload X (pc := 59) dX7_poolFull_59 3 rfl ?_
              refine J_iadd X (pc := 61) dX7_poolFull_61 ?_
              replace h := bk h
              obtain ⟨r14, g13, h⟩ := h
              refine J_callVL X (pc := 62) (y := yX7_poolRoomOn) (na := 2) (As := [.int a1, .int (T5.1.1 + x9)]) (rest := []) (c_X7_poolRoomOn E ad g13) 0 cW_c0 rfl q_428 q_429 q_430 q_14 q_421 rfl (by decide +kernel) (by decide +kernel) rfl (Nat.le_of_ble_eq_true rfl) ⟨Nat.zero_le _, Nat.zero_le _⟩ dX7_poolFull_62 ?_
              refine J_lload_n X (pc := 65) dX7_poolFull_65 2 rfl ?_
              refine J_lcmp X (pc := 66) dX7_poolFull_66 ?_
              refine J_if_lt X (pc := 67) 78 dX7_poolFull_67 (by decide) (fun c15 => ?_) (fun c15 => ?_)
              · rw [if_pos c15] at h
                replace h := nmv_e h
                obtain ⟨v16, ev16, h⟩ := h
                refine J_iinc X (pc := 78) (v := v16) dX7_poolFull_78 3 rfl (by rw [ev16]; rfl) (by decide) rfl ?_
                refine J_goto X (pc := 81) 45 dX7_poolFull_81 (by decide) ?_
                exact J_sub [1, 2, 3, 0] rfl (ih11 _ h)
              · rw [if_neg c15] at h
                refine J_aload_n X (pc := 70) dX7_poolFull_70 0 rfl ?_
                refine J_getf X (pc := 71) 0 cW_c0 rfl in_X7 1 (by decide) q_269 rfl dX7_poolFull_71 ?_
                refine J_iload X (pc := 74) dX7_poolFull_74 3 rfl ?_
                refine J_iadd X (pc := 76) dX7_poolFull_76 ?_
                cases h
                exact hE _ _ dX7_poolFull_77 rfl
        exact J_sub [2, 3, 1, 0] rfl (l17 3000 _ h)
      · rw [if_pos c6] at h
        refine J_iconst X (pc := 34) (v := -1) dX7_poolFull_34 (by decide +kernel) ?_
        cases h
        exact hE _ _ dX7_poolFull_35 rfl
    · rw [if_neg c2] at h
      cases h
def x_X7_poolFull_45 (a1 : Int32) (T5 : TS) (r8 : Int64) : Nat → Int32 → Option (String × TS)
  | 0, _ => none
  | n10+1, x9 => if ((1000 : Int32)) < x9 then none else (f_X7_poolRoomOn a1 (T5.1.1 + x9) T5).bind (fun (r14 : Int64) => if (lg_cmp r14 r8) < 0 then nmv (x9 + (1 : Int32)) (fun (v16 : Int32) => x_X7_poolFull_45 a1 T5 r8 n10 v16) else none)
def x_X7_poolFull (a1 : Int32) (T : TS) : Option (String × TS) := if a1 = 0 then some ("java/lang/IllegalArgumentException", T) else if ((a1.toUInt32 >>> ((nI T.2.1).toUInt32 &&& Int32.toUInt32 31)).toInt32) = 0 then (f_X7_drawPool a1 T).bind (fun ((r4, T5) : Int32 × TS) => if r4 = 0 then none else (f_X7_poolSize a1 T5).bind (fun (r8 : Int64) => x_X7_poolFull_45 a1 T5 r8 3000 ((1 : Int32)))) else some ("java/lang/IllegalArgumentException", T)
set_option maxRecDepth 100000 in
set_option maxHeartbeats 4000000 in
theorem t_X7_poolFull (E : Ev) (ad : CA) {a1 : Int32} {T : TS} {Ex : String} {T2 : TS} (h : x_X7_poolFull a1 T = some (Ex, T2)) : CtT E yX7_poolFull cX7_poolFull 5 (some .int) 6 98 (cW E ad T) [.ref (ad.1 0), .int a1] Ex (cW E ad T2) := by
  refine CtT_of (by decide +kernel) (Nat.le_of_ble_eq_true rfl) (fun x X XX IT => ?_)
  show J E x 0 0 (cW E ad T) 0 [(0, .ref (ad.1 0)), (1, .int a1)] []
  unfold x_X7_poolFull at h
  refine J_iload_n X (pc := 0) dX7_poolFull_0 1 rfl ?_
  refine J_if_eq X (pc := 1) 16 dX7_poolFull_1 (by decide) (fun c1 => ?_) (fun c1 => ?_)
  · rw [if_pos c1] at h
    cases h
    exact J_throwS (text := "not a pool of stores") X XX IT (by decide +kernel) q_273 q_274 xs_142 (by decide +kernel) inv_144 (by decide +kernel) dX7_poolFull_16 dX7_poolFull_19 dX7_poolFull_20 dX7_poolFull_22 dX7_poolFull_25 (Nat.le_of_ble_eq_true rfl) (Nat.le_of_ble_eq_true rfl) (Nat.le_of_ble_eq_true rfl) (Nat.le_of_ble_eq_true rfl) (Nat.le_of_ble_eq_true rfl) (Nat.le_of_ble_eq_true rfl)
  · rw [if_neg c1] at h
    refine J_iload_n X (pc := 4) dX7_poolFull_4 1 rfl ?_
    refine J_aload_n X (pc := 5) dX7_poolFull_5 0 rfl ?_
    refine J_getf X (pc := 6) 0 cW_c0 rfl in_X7 0 (by decide) q_268 rfl dX7_poolFull_6 ?_
    refine J_size X (pc := 9) q_328 ⟨Nat.le_of_ble_eq_true rfl, Nat.le_of_ble_eq_true rfl⟩ (Nat.le_of_ble_eq_true rfl) ⟨Nat.zero_le _, Nat.zero_le _⟩ dX7_poolFull_9 ?_
    refine J_iushr X (pc := 12) dX7_poolFull_12 ?_
    refine J_if_eq X (pc := 13) 26 dX7_poolFull_13 (by decide) (fun c2 => ?_) (fun c2 => ?_)
    · rw [if_pos c2] at h
      refine J_aload_n X (pc := 26) dX7_poolFull_26 0 rfl ?_
      refine J_iload_n X (pc := 27) dX7_poolFull_27 1 rfl ?_
      replace h := bk h
      obtain ⟨⟨r4, T5⟩, g3, h⟩ := h
      dsimp only at h
      refine J_callVI X (pc := 28) (y := yX7_drawPool) (na := 1) (As := [.int a1]) (rest := []) (c_X7_drawPool E ad g3) 0 cW_c0 rfl q_422 q_423 q_424 q_14 q_419 rfl (by decide +kernel) (by decide +kernel) rfl (Nat.le_of_ble_eq_true rfl) ⟨Nat.zero_le _, Nat.zero_le _⟩ dX7_poolFull_28 ?_
      refine J_if_ne X (pc := 31) 36 dX7_poolFull_31 (by decide) (fun c6 => ?_) (fun c6 => ?_)
      · rw [if_neg c6] at h
        refine J_aload_n X (pc := 36) dX7_poolFull_36 0 rfl ?_
        refine J_iload_n X (pc := 37) dX7_poolFull_37 1 rfl ?_
        replace h := bk h
        obtain ⟨r8, g7, h⟩ := h
        refine J_callVL X (pc := 38) (y := yX7_poolSize) (na := 1) (As := [.int a1]) (rest := []) (c_X7_poolSize E ad g7) 0 cW_c0 rfl q_425 q_426 q_427 q_14 q_420 rfl (by decide +kernel) (by decide +kernel) rfl (Nat.le_of_ble_eq_true rfl) ⟨Nat.zero_le _, Nat.zero_le _⟩ dX7_poolFull_38 ?_
        refine J_lstore_n X (pc := 41) dX7_poolFull_41 (by decide) rfl ?_
        refine J_iconst X (pc := 42) (v := 1) dX7_poolFull_42 (by decide +kernel) ?_
        refine J_istore X (pc := 43) dX7_poolFull_43 (by decide) rfl ?_
        have l17 : ∀ (n10 : Nat) (x9 : Int32), x_X7_poolFull_45 a1 T5 r8 n10 x9 = some (Ex, T2) → J E x 0 0 (cW E ad T5) 45 [(0, .ref (ad.1 0)), (1, .int a1), (2, .long r8), (4, .int x9)] [] := by
          intro n10
          induction n10 with
          | zero => intro x9 h; rw [x_X7_poolFull_45] at h; cases h
          | succ n10 ih11 =>
            intro x9 h
            rw [x_X7_poolFull_45] at h
            refine J_iload X (pc := 45) dX7_poolFull_45 3 rfl ?_
            refine J_sipush X (pc := 47) (v := 1000) dX7_poolFull_47 (by decide +kernel) ?_
            refine J_icmp_gt X (pc := 50) 84 dX7_poolFull_50 (by decide) (fun c12 => ?_) (fun c12 => ?_)
            · rw [if_pos c12] at h
              refine J_iconst X (pc := 84) (v := -1) dX7_poolFull_84 (by decide +kernel) ?_
              cases h
            · rw [if_neg c12] at h
              refine J_aload_n X (pc := 53) dX7_poolFull_53 0 rfl ?_
              refine J_iload_n X (pc := 54) dX7_poolFull_54 1 rfl ?_
              refine J_aload_n X (pc := 55) dX7_poolFull_55 0 rfl ?_
              refine J_getf X (pc := 56) 0 cW_c0 rfl in_X7 1 (by decide) q_269 rfl dX7_poolFull_56 ?_
              refine J_iload X (pc := 59) dX7_poolFull_59 3 rfl ?_
              refine J_iadd X (pc := 61) dX7_poolFull_61 ?_
              replace h := bk h
              obtain ⟨r14, g13, h⟩ := h
              refine J_callVL X (pc := 62) (y := yX7_poolRoomOn) (na := 2) (As := [.int a1, .int (T5.1.1 + x9)]) (rest := []) (c_X7_poolRoomOn E ad g13) 0 cW_c0 rfl q_428 q_429 q_430 q_14 q_421 rfl (by decide +kernel) (by decide +kernel) rfl (Nat.le_of_ble_eq_true rfl) ⟨Nat.zero_le _, Nat.zero_le _⟩ dX7_poolFull_62 ?_
              refine J_lload_n X (pc := 65) dX7_poolFull_65 2 rfl ?_
              refine J_lcmp X (pc := 66) dX7_poolFull_66 ?_
              refine J_if_lt X (pc := 67) 78 dX7_poolFull_67 (by decide) (fun c15 => ?_) (fun c15 => ?_)
              · rw [if_pos c15] at h
                replace h := nmv_e h
                obtain ⟨v16, ev16, h⟩ := h
                refine J_iinc X (pc := 78) (v := v16) dX7_poolFull_78 3 rfl (by rw [ev16]; rfl) (by decide) rfl ?_
                refine J_goto X (pc := 81) 45 dX7_poolFull_81 (by decide) ?_
                exact J_sub [1, 2, 3, 0] rfl (ih11 _ h)
              · rw [if_neg c15] at h
                refine J_aload_n X (pc := 70) dX7_poolFull_70 0 rfl ?_
                refine J_getf X (pc := 71) 0 cW_c0 rfl in_X7 1 (by decide) q_269 rfl dX7_poolFull_71 ?_
                refine J_iload X (pc := 74) dX7_poolFull_74 3 rfl ?_
                refine J_iadd X (pc := 76) dX7_poolFull_76 ?_
                cases h
        exact J_sub [2, 3, 1, 0] rfl (l17 3000 _ h)
      · rw [if_pos c6] at h
        refine J_iconst X (pc := 34) (v := -1) dX7_poolFull_34 (by decide +kernel) ?_
        cases h
    · rw [if_neg c2] at h
      cases h
      exact J_throwS (text := "not a pool of stores") X XX IT (by decide +kernel) q_273 q_274 xs_142 (by decide +kernel) inv_144 (by decide +kernel) dX7_poolFull_16 dX7_poolFull_19 dX7_poolFull_20 dX7_poolFull_22 dX7_poolFull_25 (Nat.le_of_ble_eq_true rfl) (Nat.le_of_ble_eq_true rfl) (Nat.le_of_ble_eq_true rfl) (Nat.le_of_ble_eq_true rfl) (Nat.le_of_ble_eq_true rfl) (Nat.le_of_ble_eq_true rfl)
