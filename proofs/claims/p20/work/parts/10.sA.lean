def f_X3_daysUntil (a1 : Int32) (S : St) : Option (Int32) := if (S.1 7) ≤ 0 then some ((0 : Int32)) else if a1 < (S.1 6) then some ((0 : Int32)) else ck (¬ (S.1 7) = 0) (some (((a1 - (S.1 6)) / (S.1 7)) + ((1 : Int32))))
set_option maxRecDepth 100000 in
set_option maxHeartbeats 4000000 in
theorem c_X3_daysUntil (E : Ev) (ad : Nat → Nat) {a1 : Int32} {S : St} {r : Int32} (h : f_X3_daysUntil a1 S = some r) : CtI E yX3_daysUntil cX3_daysUntil 2 .int 0 0 (sW E ad S) [.ref (ad 4), .int a1] r (sW E ad S) := by
  refine CtI_of (by decide +kernel) (Nat.le_of_ble_eq_true rfl) (fun x X hE => ?_)
  show J E x 0 0 (sW E ad S) 0 [(0, .ref (ad 4)), (1, .int a1)] []
  unfold f_X3_daysUntil at h
  refine J_aload_n X (pc := 0) dX3_daysUntil_0 0 rfl ?_
  refine J_getf X (pc := 1) 4 sW_c4 rfl in_X3 1 (by decide) q_107 rfl dX3_daysUntil_1 ?_
  refine J_if_le X (pc := 4) 31 dX3_daysUntil_4 (by decide) (fun c1 => ?_) (fun c1 => ?_)
  · rw [if_pos c1] at h
    refine J_iconst X (pc := 31) (v := 0) dX3_daysUntil_31 (by decide +kernel) ?_
    cases h
    exact hE _ _ dX3_daysUntil_32 rfl
  · rw [if_neg c1] at h
    refine J_iload_n X (pc := 7) dX3_daysUntil_7 1 rfl ?_
    refine J_aload_n X (pc := 8) dX3_daysUntil_8 0 rfl ?_
    refine J_getf X (pc := 9) 4 sW_c4 rfl in_X3 0 (by decide) q_106 rfl dX3_daysUntil_9 ?_
    refine J_icmp_lt X (pc := 12) 31 dX3_daysUntil_12 (by decide) (fun c2 => ?_) (fun c2 => ?_)
    · rw [if_pos c2] at h
      refine J_iconst X (pc := 31) (v := 0) dX3_daysUntil_31 (by decide +kernel) ?_
      cases h
      exact hE _ _ dX3_daysUntil_32 rfl
    · rw [if_neg c2] at h
      refine J_iload_n X (pc := 15) dX3_daysUntil_15 1 rfl ?_
      refine J_aload_n X (pc := 16) dX3_daysUntil_16 0 rfl ?_
      refine J_getf X (pc := 17) 4 sW_c4 rfl in_X3 0 (by decide) q_106 rfl dX3_daysUntil_17 ?_
      refine J_isub X (pc := 20) dX3_daysUntil_20 ?_
      refine J_aload_n X (pc := 21) dX3_daysUntil_21 0 rfl ?_
      refine J_getf X (pc := 22) 4 sW_c4 rfl in_X3 1 (by decide) q_107 rfl dX3_daysUntil_22 ?_
      replace h := ck_e h
      obtain ⟨b3, h⟩ := h
      refine J_idiv X (pc := 25) dX3_daysUntil_25 b3 ?_
      refine J_iconst X (pc := 26) (v := 1) dX3_daysUntil_26 (by decide +kernel) ?_
      refine J_iadd X (pc := 27) dX3_daysUntil_27 ?_
      refine J_goto X (pc := 28) 32 dX3_daysUntil_28 (by decide) ?_
      cases h
      exact hE _ _ dX3_daysUntil_32 rfl
def f_X3_daysWithin (a1 : Int32) (a2 : Int32) (S : St) : Option (Int32) := (f_X3_daysUntil a2 S).bind (fun (r1 : Int32) => (f_X3_daysUntil a1 S).bind (fun (r3 : Int32) => some (r1 - r3)))
set_option maxRecDepth 100000 in
set_option maxHeartbeats 4000000 in
theorem c_X3_daysWithin (E : Ev) (ad : Nat → Nat) {a1 : Int32} {a2 : Int32} {S : St} {r : Int32} (h : f_X3_daysWithin a1 a2 S = some r) : CtI E yX3_daysWithin cX3_daysWithin 3 .int 1 21 (sW E ad S) [.ref (ad 4), .int a1, .int a2] r (sW E ad S) := by
  refine CtI_of (by decide +kernel) (Nat.le_of_ble_eq_true rfl) (fun x X hE => ?_)
  show J E x 0 0 (sW E ad S) 0 [(0, .ref (ad 4)), (1, .int a1), (2, .int a2)] []
  unfold f_X3_daysWithin at h
  refine J_aload_n X (pc := 0) dX3_daysWithin_0 0 rfl ?_
  refine J_iload_n X (pc := 1) dX3_daysWithin_1 2 rfl ?_
  replace h := bk h
  obtain ⟨r1, g2, h⟩ := h
  refine J_callVI X (pc := 2) (y := yX3_daysUntil) (na := 1) (As := [.int a2]) (rest := []) (c_X3_daysUntil E ad g2) 4 sW_c4 rfl q_110 q_111 q_112 q_113 q_108 rfl (by decide +kernel) (by decide +kernel) rfl (Nat.le_of_ble_eq_true rfl) ⟨Nat.le_refl _, Nat.le_refl _⟩ dX3_daysWithin_2 ?_
  refine J_aload_n X (pc := 5) dX3_daysWithin_5 0 rfl ?_
  refine J_iload_n X (pc := 6) dX3_daysWithin_6 1 rfl ?_
  replace h := bk h
  obtain ⟨r3, g4, h⟩ := h
  refine J_callVI X (pc := 7) (y := yX3_daysUntil) (na := 1) (As := [.int a1]) (rest := [.int r1]) (c_X3_daysUntil E ad g4) 4 sW_c4 rfl q_110 q_111 q_112 q_113 q_108 rfl (by decide +kernel) (by decide +kernel) rfl (Nat.le_of_ble_eq_true rfl) ⟨Nat.le_refl _, Nat.le_refl _⟩ dX3_daysWithin_7 ?_
  refine J_isub X (pc := 10) dX3_daysWithin_10 ?_
  cases h
  exact hE _ _ dX3_daysWithin_11 rfl
def f_X3_change (a1 : Int32) (a2 : Int32) (S : St) : Option (St) := nmv (sF S 6 a1) (fun (S1 : St) => nmv (sF S1 7 a2) (fun (S2 : St) => some S2))
set_option maxRecDepth 100000 in
set_option maxHeartbeats 4000000 in
theorem c_X3_change (E : Ev) (ad : Nat → Nat) {a1 : Int32} {a2 : Int32} {S : St} {S2 : St} (h : f_X3_change a1 a2 S = some S2) : CtV E yX3_change cX3_change 3 0 0 (sW E ad S) [.ref (ad 4), .int a1, .int a2] (sW E ad S2) := by
  refine CtV_of (by decide +kernel) (Nat.le_of_ble_eq_true rfl) (fun x X hE => ?_)
  show J E x 0 0 (sW E ad S) 0 [(0, .ref (ad 4)), (1, .int a1), (2, .int a2)] []
  unfold f_X3_change at h
  refine J_aload_n X (pc := 0) dX3_change_0 0 rfl ?_
  refine J_iload_n X (pc := 1) dX3_change_1 1 rfl ?_
  replace h := nmv_e h
  obtain ⟨S1, eS1, h⟩ := h
  refine J_putf X (pc := 2) (ty := .int) (w1 := (sW E ad S1)) 4 sW_c4 rfl in_X3 tyX3_ok nmX3 0 (by decide) q_106 rfl (by decide +kernel) rfl rfl (Nat.le_of_ble_eq_true rfl) dX3_change_2 (sW_p6 eS1) ?_
  refine J_aload_n X (pc := 5) dX3_change_5 0 rfl ?_
  refine J_iload_n X (pc := 6) dX3_change_6 2 rfl ?_
  replace h := nmv_e h
  obtain ⟨S2, eS2, h⟩ := h
  refine J_putf X (pc := 7) (ty := .int) (w1 := (sW E ad S2)) 4 sW_c4 rfl in_X3 tyX3_ok nmX3 1 (by decide) q_107 rfl (by decide +kernel) rfl rfl (Nat.le_of_ble_eq_true rfl) dX3_change_7 (sW_p7 eS2) ?_
  cases h
  exact hE _ _ dX3_change_10
def f_X1_start (a1 : Int32) (a2 : Int32) (S : St) : Option (St) := nmv (sF S 8 a1) (fun (S1 : St) => nmv (sF S1 9 a2) (fun (S2 : St) => some S2))
set_option maxRecDepth 100000 in
set_option maxHeartbeats 4000000 in
theorem c_X1_start (E : Ev) (ad : Nat → Nat) {a1 : Int32} {a2 : Int32} {S : St} {S2 : St} (h : f_X1_start a1 a2 S = some S2) : CtV E yX1_start cX1_start 3 0 0 (sW E ad S) [.ref (ad 5), .int a1, .int a2] (sW E ad S2) := by
  refine CtV_of (by decide +kernel) (Nat.le_of_ble_eq_true rfl) (fun x X hE => ?_)
  show J E x 0 0 (sW E ad S) 0 [(0, .ref (ad 5)), (1, .int a1), (2, .int a2)] []
  unfold f_X1_start at h
  refine J_aload_n X (pc := 0) dX1_start_0 0 rfl ?_
  refine J_iload_n X (pc := 1) dX1_start_1 1 rfl ?_
  replace h := nmv_e h
  obtain ⟨S1, eS1, h⟩ := h
  refine J_putf X (pc := 2) (ty := .int) (w1 := (sW E ad S1)) 5 sW_c5 rfl in_X1 tyX1_ok nmX1 0 (by decide) q_19 rfl (by decide +kernel) rfl rfl (Nat.le_of_ble_eq_true rfl) dX1_start_2 (sW_p8 eS1) ?_
  refine J_aload_n X (pc := 5) dX1_start_5 0 rfl ?_
  refine J_iload_n X (pc := 6) dX1_start_6 2 rfl ?_
  replace h := nmv_e h
  obtain ⟨S2, eS2, h⟩ := h
  refine J_putf X (pc := 7) (ty := .int) (w1 := (sW E ad S2)) 5 sW_c5 rfl in_X1 tyX1_ok nmX1 1 (by decide) q_20 rfl (by decide +kernel) rfl rfl (Nat.le_of_ble_eq_true rfl) dX1_start_7 (sW_p9 eS2) ?_
  cases h
  exact hE _ _ dX1_start_10
def f_X1_climb (a1 : Int32) (a2 : Int32) (S : St) : Option (St) := nmv (sF S 10 a1) (fun (S1 : St) => nmv (sF S1 11 a2) (fun (S2 : St) => some S2))
set_option maxRecDepth 100000 in
set_option maxHeartbeats 4000000 in
theorem c_X1_climb (E : Ev) (ad : Nat → Nat) {a1 : Int32} {a2 : Int32} {S : St} {S2 : St} (h : f_X1_climb a1 a2 S = some S2) : CtV E yX1_climb cX1_climb 3 0 0 (sW E ad S) [.ref (ad 5), .int a1, .int a2] (sW E ad S2) := by
  refine CtV_of (by decide +kernel) (Nat.le_of_ble_eq_true rfl) (fun x X hE => ?_)
  show J E x 0 0 (sW E ad S) 0 [(0, .ref (ad 5)), (1, .int a1), (2, .int a2)] []
  unfold f_X1_climb at h
  refine J_aload_n X (pc := 0) dX1_climb_0 0 rfl ?_
  refine J_iload_n X (pc := 1) dX1_climb_1 1 rfl ?_
  replace h := nmv_e h
  obtain ⟨S1, eS1, h⟩ := h
  refine J_putf X (pc := 2) (ty := .int) (w1 := (sW E ad S1)) 5 sW_c5 rfl in_X1 tyX1_ok nmX1 2 (by decide) q_22 rfl (by decide +kernel) rfl rfl (Nat.le_of_ble_eq_true rfl) dX1_climb_2 (sW_p10 eS1) ?_
  refine J_aload_n X (pc := 5) dX1_climb_5 0 rfl ?_
  refine J_iload_n X (pc := 6) dX1_climb_6 2 rfl ?_
  replace h := nmv_e h
  obtain ⟨S2, eS2, h⟩ := h
  refine J_putf X (pc := 7) (ty := .int) (w1 := (sW E ad S2)) 5 sW_c5 rfl in_X1 tyX1_ok nmX1 3 (by decide) q_17 rfl (by decide +kernel) rfl rfl (Nat.le_of_ble_eq_true rfl) dX1_climb_7 (sW_p11 eS2) ?_
  cases h
  exact hE _ _ dX1_climb_10
def f_J9_floorDiv_f86c9 (a1 : Int64) (a2 : Int64) : Option (Int64) := ck (¬ a2 = 0) (nmv (a1 / a2) (fun (v2 : Int64) => if 0 ≤ (lg_cmp (a1 ^^^ a2) ((0 : Int64))) then some v2 else if (lg_cmp (v2 * a2) a1) = 0 then some v2 else some (v2 - ((1 : Int64)))))
set_option maxRecDepth 100000 in
set_option maxHeartbeats 4000000 in
theorem c_J9_floorDiv_f86c9 (E : Ev) (w : va_W) {a1 : Int64} {a2 : Int64} {r : Int64} (h : f_J9_floorDiv_f86c9 a1 a2 = some r) : CtL E yJ9_floorDiv_f86c9 cJ9_floorDiv_f86c9 6 0 0 w [.long a1, .long a2] r w := by
  refine CtL_of (by decide +kernel) (Nat.le_of_ble_eq_true rfl) (fun x X hE => ?_)
  show J E x 0 0 w 0 [(0, .long a1), (2, .long a2)] []
  unfold f_J9_floorDiv_f86c9 at h
  refine J_lload_n X (pc := 0) dJ9_floorDiv_f86c9_0 0 rfl ?_
  refine J_lload_n X (pc := 1) dJ9_floorDiv_f86c9_1 1 rfl ?_
  replace h := ck_e h
  obtain ⟨b1, h⟩ := h
  refine J_ldiv X (pc := 2) dJ9_floorDiv_f86c9_2 b1 ?_
  replace h := nmv_e h
  obtain ⟨v2, ev2, h⟩ := h
  refine J_nml ev2 ?_
  refine J_lstore X (pc := 3) dJ9_floorDiv_f86c9_3 (by decide) rfl ?_
  refine J_lload_n X (pc := 5) dJ9_floorDiv_f86c9_5 1 rfl ?_
  refine J_lload_n X (pc := 6) dJ9_floorDiv_f86c9_6 2 rfl ?_
  refine J_lxor X (pc := 7) dJ9_floorDiv_f86c9_7 ?_
  refine J_lconst X (pc := 8) (v := 0) dJ9_floorDiv_f86c9_8 (by decide +kernel) ?_
  refine J_lcmp X (pc := 9) dJ9_floorDiv_f86c9_9 ?_
  refine J_if_ge X (pc := 10) 27 dJ9_floorDiv_f86c9_10 (by decide) (fun c3 => ?_) (fun c3 => ?_)
  · rw [if_pos c3] at h
    refine J_lload X (pc := 27) dJ9_floorDiv_f86c9_27 0 rfl ?_
    cases h
    exact hE _ _ dJ9_floorDiv_f86c9_29
  · rw [if_neg c3] at h
    refine J_lload X (pc := 13) dJ9_floorDiv_f86c9_13 0 rfl ?_
    refine J_lload_n X (pc := 15) dJ9_floorDiv_f86c9_15 2 rfl ?_
    refine J_lmul X (pc := 16) dJ9_floorDiv_f86c9_16 ?_
    refine J_lload_n X (pc := 17) dJ9_floorDiv_f86c9_17 1 rfl ?_
    refine J_lcmp X (pc := 18) dJ9_floorDiv_f86c9_18 ?_
    refine J_if_eq X (pc := 19) 27 dJ9_floorDiv_f86c9_19 (by decide) (fun c4 => ?_) (fun c4 => ?_)
    · rw [if_pos c4] at h
      refine J_lload X (pc := 27) dJ9_floorDiv_f86c9_27 0 rfl ?_
      cases h
      exact hE _ _ dJ9_floorDiv_f86c9_29
    · rw [if_neg c4] at h
      refine J_lload X (pc := 22) dJ9_floorDiv_f86c9_22 0 rfl ?_
      refine J_lconst X (pc := 24) (v := 1) dJ9_floorDiv_f86c9_24 (by decide +kernel) ?_
      refine J_lsub X (pc := 25) dJ9_floorDiv_f86c9_25 ?_
      cases h
      exact hE _ _ dJ9_floorDiv_f86c9_26
def f_X1_heightOn (a1 : Int32) (S : St) : Option (Int64) := nmv (((S.1 10).toInt64) * ((a1 - (S.1 8)).toInt64)) (fun (v1 : Int64) => (if (S.1 11) ≤ 0 then some ((0 : Int64)) else (f_J9_floorDiv_f86c9 v1 ((S.1 11).toInt64)).bind (fun (r6 : Int64) => some r6)).bind (fun (r3 : Int64) => some (((S.1 9).toInt64) + r3)))
set_option maxRecDepth 100000 in
set_option maxHeartbeats 4000000 in
theorem c_X1_heightOn (E : Ev) (ad : Nat → Nat) {a1 : Int32} {S : St} {r : Int64} (h : f_X1_heightOn a1 S = some r) : CtL E yX1_heightOn cX1_heightOn 4 1 25 (sW E ad S) [.ref (ad 5), .int a1] r (sW E ad S) := by
  refine CtL_of (by decide +kernel) (Nat.le_of_ble_eq_true rfl) (fun x X hE => ?_)
  show J E x 0 0 (sW E ad S) 0 [(0, .ref (ad 5)), (1, .int a1)] []
  unfold f_X1_heightOn at h
  refine J_aload_n X (pc := 0) dX1_heightOn_0 0 rfl ?_
  refine J_getf X (pc := 1) 5 sW_c5 rfl in_X1 2 (by decide) q_22 rfl dX1_heightOn_1 ?_
  refine J_i2l X (pc := 4) dX1_heightOn_4 ?_
  refine J_iload_n X (pc := 5) dX1_heightOn_5 1 rfl ?_
  refine J_aload_n X (pc := 6) dX1_heightOn_6 0 rfl ?_
  refine J_getf X (pc := 7) 5 sW_c5 rfl in_X1 0 (by decide) q_19 rfl dX1_heightOn_7 ?_
  refine J_isub X (pc := 10) dX1_heightOn_10 ?_
  refine J_i2l X (pc := 11) dX1_heightOn_11 ?_
  refine J_lmul X (pc := 12) dX1_heightOn_12 ?_
  replace h := nmv_e h
  obtain ⟨v1, ev1, h⟩ := h
  refine J_nml ev1 ?_
  refine J_lstore_n X (pc := 13) dX1_heightOn_13 (by decide) rfl ?_
  refine J_aload_n X (pc := 14) dX1_heightOn_14 1 rfl ?_
  refine J_getf X (pc := 15) 5 sW_c5 rfl in_X1 1 (by decide) q_20 rfl dX1_heightOn_15 ?_
  refine J_i2l X (pc := 18) dX1_heightOn_18 ?_
  refine J_aload_n X (pc := 19) dX1_heightOn_19 1 rfl ?_
  refine J_getf X (pc := 20) 5 sW_c5 rfl in_X1 3 (by decide) q_17 rfl dX1_heightOn_20 ?_
  replace h := bk h
  obtain ⟨r3, g5, h⟩ := h
  have j4 : J E x 0 0 (sW E ad S) 39 [] [.long r3, .long ((S.1 9).toInt64)] := by
    refine J_ladd X (pc := 39) dX1_heightOn_39 ?_
    cases h
    exact hE _ _ dX1_heightOn_40
  refine J_if_le X (pc := 23) 38 dX1_heightOn_23 (by decide) (fun c2 => ?_) (fun c2 => ?_)
  · rw [if_pos c2] at g5
    refine J_lconst X (pc := 38) (v := 0) dX1_heightOn_38 (by decide +kernel) ?_
    cases g5
    exact J_sub [] rfl j4
  · rw [if_neg c2] at g5
    refine J_lload_n X (pc := 26) dX1_heightOn_26 0 rfl ?_
    refine J_aload_n X (pc := 27) dX1_heightOn_27 1 rfl ?_
    refine J_getf X (pc := 28) 5 sW_c5 rfl in_X1 3 (by decide) q_17 rfl dX1_heightOn_28 ?_
    refine J_i2l X (pc := 31) dX1_heightOn_31 ?_
    replace g5 := bk g5
    obtain ⟨r6, g7, g5⟩ := g5
    refine J_callSL X (pc := 32) (y := yJ9_floorDiv_f86c9) (na := 2) (As := [.long v1, .long ((S.1 11).toInt64)]) (rest := [.long ((S.1 9).toInt64)]) (c_J9_floorDiv_f86c9 E (sW E ad S) g7) q_25 q_26 q_27 q_23 rfl (by decide +kernel) (by decide +kernel) rfl (Nat.le_of_ble_eq_true rfl) ⟨Nat.le_refl _, Nat.le_refl _⟩ dX1_heightOn_32 ?_
    refine J_goto X (pc := 35) 39 dX1_heightOn_35 (by decide) ?_
    cases g5
    exact J_sub [] rfl j4
def f_X1_leastDaysToClimb (a1 : Int32) (S : St) : Option (Int32) := if 0 < (S.1 10) then ck (¬ ((S.1 10).toInt64) = 0) (some ((if ((1000 : Int64)) < ((((a1.toInt64 - ((1 : Int64))) * ((S.1 11).toInt64)) / ((S.1 10).toInt64)) + ((1 : Int64))) then ((1000 : Int64)) else ((((a1.toInt64 - ((1 : Int64))) * ((S.1 11).toInt64)) / ((S.1 10).toInt64)) + ((1 : Int64)))).toInt32)) else some ((1000 : Int32))
set_option maxRecDepth 100000 in
set_option maxHeartbeats 4000000 in
theorem c_X1_leastDaysToClimb (E : Ev) (ad : Nat → Nat) {a1 : Int32} {S : St} {r : Int32} (h : f_X1_leastDaysToClimb a1 S = some r) : CtI E yX1_leastDaysToClimb cX1_leastDaysToClimb 2 .int 1 23 (sW E ad S) [.ref (ad 5), .int a1] r (sW E ad S) := by
  refine CtI_of (by decide +kernel) (Nat.le_of_ble_eq_true rfl) (fun x X hE => ?_)
  show J E x 0 0 (sW E ad S) 0 [(0, .ref (ad 5)), (1, .int a1)] []
  unfold f_X1_leastDaysToClimb at h
  refine J_aload_n X (pc := 0) dX1_leastDaysToClimb_0 0 rfl ?_
  refine J_getf X (pc := 1) 5 sW_c5 rfl in_X1 2 (by decide) q_22 rfl dX1_leastDaysToClimb_1 ?_
  refine J_if_gt X (pc := 4) 11 dX1_leastDaysToClimb_4 (by decide) (fun c1 => ?_) (fun c1 => ?_)
  · rw [if_pos c1] at h
    refine J_iload_n X (pc := 11) dX1_leastDaysToClimb_11 1 rfl ?_
    refine J_i2l X (pc := 12) dX1_leastDaysToClimb_12 ?_
    refine J_lconst X (pc := 13) (v := 1) dX1_leastDaysToClimb_13 (by decide +kernel) ?_
    refine J_lsub X (pc := 14) dX1_leastDaysToClimb_14 ?_
    refine J_aload_n X (pc := 15) dX1_leastDaysToClimb_15 0 rfl ?_
    refine J_getf X (pc := 16) 5 sW_c5 rfl in_X1 3 (by decide) q_17 rfl dX1_leastDaysToClimb_16 ?_
    refine J_i2l X (pc := 19) dX1_leastDaysToClimb_19 ?_
    refine J_lmul X (pc := 20) dX1_leastDaysToClimb_20 ?_
    refine J_aload_n X (pc := 21) dX1_leastDaysToClimb_21 0 rfl ?_
    refine J_getf X (pc := 22) 5 sW_c5 rfl in_X1 2 (by decide) q_22 rfl dX1_leastDaysToClimb_22 ?_
    refine J_i2l X (pc := 25) dX1_leastDaysToClimb_25 ?_
    replace h := ck_e h
    obtain ⟨b2, h⟩ := h
    refine J_ldiv X (pc := 26) dX1_leastDaysToClimb_26 b2 ?_
    refine J_lconst X (pc := 27) (v := 1) dX1_leastDaysToClimb_27 (by decide +kernel) ?_
    refine J_ladd X (pc := 28) dX1_leastDaysToClimb_28 ?_
    refine J_ldc2 X (pc := 29) dX1_leastDaysToClimb_29 q_29 ?_
    refine J_mminl X (pc := 32) q_30 q_31 q_32 q_33 (by decide +kernel) (by decide +kernel) (Nat.zero_le _) (Nat.zero_le _) dX1_leastDaysToClimb_32 ?_
    refine J_l2i X (pc := 35) dX1_leastDaysToClimb_35 ?_
    cases h
    exact hE _ _ dX1_leastDaysToClimb_36 rfl
  · rw [if_neg c1] at h
    refine J_sipush X (pc := 7) (v := 1000) dX1_leastDaysToClimb_7 (by decide +kernel) ?_
    cases h
    exact hE _ _ dX1_leastDaysToClimb_10 rfl
def f_X1_commonDivisor_15 : Nat → Int32 → Int32 → Int32 → Option (Int32)
  | 0, _, _, _ => none
  | n6+1, x3, x4, x5 => if ((64 : Int32)) ≤ x5 then some x3 else if x4 ≤ 0 then some x3 else ck (¬ x4 = 0) (nmv (x3 - x3 / x4 * x4) (fun (v14 : Int32) => nmv (x5 + (1 : Int32)) (fun (v15 : Int32) => f_X1_commonDivisor_15 n6 x4 v14 v15)))
def f_X1_commonDivisor (S : St) : Option (Int32) := nmv (if 0 ≤ (S.1 10) then (S.1 10) else 0 - (S.1 10)) (fun (v1 : Int32) => nmv (S.1 11) (fun (v2 : Int32) => (f_X1_commonDivisor_15 3000 v1 v2 ((0 : Int32))).bind (fun (r8 : Int32) => some r8)))
set_option maxRecDepth 100000 in
set_option maxHeartbeats 4000000 in
theorem c_X1_commonDivisor (E : Ev) (ad : Nat → Nat) {S : St} {r : Int32} (h : f_X1_commonDivisor S = some r) : CtI E yX1_commonDivisor cX1_commonDivisor 5 .int 1 23 (sW E ad S) [.ref (ad 5)] r (sW E ad S) := by
  refine CtI_of (by decide +kernel) (Nat.le_of_ble_eq_true rfl) (fun x X hE => ?_)
  show J E x 0 0 (sW E ad S) 0 [(0, .ref (ad 5))] []
  unfold f_X1_commonDivisor at h
  refine J_aload_n X (pc := 0) dX1_commonDivisor_0 0 rfl ?_
  refine J_getf X (pc := 1) 5 sW_c5 rfl in_X1 2 (by decide) q_22 rfl dX1_commonDivisor_1 ?_
  refine J_mabs X (pc := 4) q_35 q_36 q_32 q_37 (by decide +kernel) (by decide +kernel) (Nat.zero_le _) (Nat.zero_le _) dX1_commonDivisor_4 ?_
  replace h := nmv_e h
  obtain ⟨v1, ev1, h⟩ := h
  refine J_nmi ev1 ?_
  refine J_istore_n X (pc := 7) dX1_commonDivisor_7 (by decide) rfl ?_
  refine J_aload_n X (pc := 8) dX1_commonDivisor_8 1 rfl ?_
  refine J_getf X (pc := 9) 5 sW_c5 rfl in_X1 3 (by decide) q_17 rfl dX1_commonDivisor_9 ?_
  replace h := nmv_e h
  obtain ⟨v2, ev2, h⟩ := h
  refine J_nmi ev2 ?_
  refine J_istore_n X (pc := 12) dX1_commonDivisor_12 (by decide) rfl ?_
  refine J_iconst X (pc := 13) (v := 0) dX1_commonDivisor_13 (by decide +kernel) ?_
  refine J_istore_n X (pc := 14) dX1_commonDivisor_14 (by decide) rfl ?_
  replace h := bk h
  obtain ⟨r8, g10, h⟩ := h
  have k9 : J E x 0 0 (sW E ad S) 41 [(1, .int r8)] [] := by
    refine J_iload_n X (pc := 41) dX1_commonDivisor_41 0 rfl ?_
    cases h
    exact hE _ _ dX1_commonDivisor_42 rfl
  clear h
  have l16 : ∀ (n6 : Nat) (x3 : Int32) (x4 : Int32) (x5 : Int32), f_X1_commonDivisor_15 n6 x3 x4 x5 = some r8 → J E x 0 0 (sW E ad S) 15 [(1, .int x3), (2, .int x4), (3, .int x5)] [] := by
    intro n6
    induction n6 with
    | zero => intro x3 x4 x5 h; rw [f_X1_commonDivisor_15] at h; cases h
    | succ n6 ih7 =>
      intro x3 x4 x5 h
      rw [f_X1_commonDivisor_15] at h
      refine J_iload_n X (pc := 15) dX1_commonDivisor_15 2 rfl ?_
      refine J_bipush X (pc := 16) (v := 64) dX1_commonDivisor_16 (by decide +kernel) ?_
      refine J_icmp_ge X (pc := 18) 41 dX1_commonDivisor_18 (by decide) (fun c11 => ?_) (fun c11 => ?_)
      · rw [if_pos c11] at h
        cases h
        exact J_sub [0] rfl k9
      · rw [if_neg c11] at h
        refine J_iload_n X (pc := 21) dX1_commonDivisor_21 1 rfl ?_
        refine J_if_le X (pc := 22) 41 dX1_commonDivisor_22 (by decide) (fun c12 => ?_) (fun c12 => ?_)
        · rw [if_pos c12] at h
          cases h
          exact J_sub [0] rfl k9
        · rw [if_neg c12] at h
          refine J_iload_n X (pc := 25) dX1_commonDivisor_25 0 rfl ?_
          refine J_iload_n X (pc := 26) dX1_commonDivisor_26 1 rfl ?_
          replace h := ck_e h
          obtain ⟨b13, h⟩ := h
          refine J_irem X (pc := 27) dX1_commonDivisor_27 b13 ?_
          replace h := nmv_e h
          obtain ⟨v14, ev14, h⟩ := h
          refine J_nmi ev14 ?_
          refine J_istore X (pc := 28) dX1_commonDivisor_28 (by decide) rfl ?_
          refine J_iload_n X (pc := 30) dX1_commonDivisor_30 2 rfl ?_
          refine J_istore_n X (pc := 31) dX1_commonDivisor_31 (by decide) rfl ?_
          refine J_iload X (pc := 32) dX1_commonDivisor_32 1 rfl ?_
          refine J_istore_n X (pc := 34) dX1_commonDivisor_34 (by decide) rfl ?_
          replace h := nmv_e h
          obtain ⟨v15, ev15, h⟩ := h
          refine J_iinc X (pc := 35) (v := v15) dX1_commonDivisor_35 3 rfl (by rw [ev15]; rfl) (by decide) rfl ?_
          refine J_goto X (pc := 38) 15 dX1_commonDivisor_38 (by decide) ?_
          exact J_sub [2, 1, 0] rfl (ih7 _ _ _ h)
  exact J_sub [2, 1, 0] rfl (l16 3000 _ _ _ g10)
def f_X1_riseInLowestTerms (S : St) : Option (Int32) := (f_X1_commonDivisor S).bind (fun (r1 : Int32) => if r1 ≤ 0 then some (S.1 10) else ck (¬ r1 = 0) (some ((S.1 10) / r1)))
set_option maxRecDepth 100000 in
set_option maxHeartbeats 4000000 in
theorem c_X1_riseInLowestTerms (E : Ev) (ad : Nat → Nat) {S : St} {r : Int32} (h : f_X1_riseInLowestTerms S = some r) : CtI E yX1_riseInLowestTerms cX1_riseInLowestTerms 2 .int 2 47 (sW E ad S) [.ref (ad 5)] r (sW E ad S) := by
  refine CtI_of (by decide +kernel) (Nat.le_of_ble_eq_true rfl) (fun x X hE => ?_)
  show J E x 0 0 (sW E ad S) 0 [(0, .ref (ad 5))] []
  unfold f_X1_riseInLowestTerms at h
  refine J_aload_n X (pc := 0) dX1_riseInLowestTerms_0 0 rfl ?_
  replace h := bk h
  obtain ⟨r1, g2, h⟩ := h
  refine J_callVI X (pc := 1) (y := yX1_commonDivisor) (na := 0) (As := []) (rest := []) (c_X1_commonDivisor E ad g2) 5 sW_c5 rfl q_39 q_40 q_41 q_42 q_34 rfl (by decide +kernel) (by decide +kernel) rfl (Nat.le_of_ble_eq_true rfl) ⟨Nat.le_refl _, Nat.le_refl _⟩ dX1_riseInLowestTerms_1 ?_
  refine J_istore_n X (pc := 4) dX1_riseInLowestTerms_4 (by decide) rfl ?_
  refine J_iload_n X (pc := 5) dX1_riseInLowestTerms_5 0 rfl ?_
  refine J_if_le X (pc := 6) 18 dX1_riseInLowestTerms_6 (by decide) (fun c3 => ?_) (fun c3 => ?_)
  · rw [if_pos c3] at h
    refine J_aload_n X (pc := 18) dX1_riseInLowestTerms_18 1 rfl ?_
    refine J_getf X (pc := 19) 5 sW_c5 rfl in_X1 2 (by decide) q_22 rfl dX1_riseInLowestTerms_19 ?_
    cases h
    exact hE _ _ dX1_riseInLowestTerms_22 rfl
  · rw [if_neg c3] at h
    refine J_aload_n X (pc := 9) dX1_riseInLowestTerms_9 1 rfl ?_
    refine J_getf X (pc := 10) 5 sW_c5 rfl in_X1 2 (by decide) q_22 rfl dX1_riseInLowestTerms_10 ?_
    refine J_iload_n X (pc := 13) dX1_riseInLowestTerms_13 0 rfl ?_
    replace h := ck_e h
    obtain ⟨b4, h⟩ := h
    refine J_idiv X (pc := 14) dX1_riseInLowestTerms_14 b4 ?_
    refine J_goto X (pc := 15) 22 dX1_riseInLowestTerms_15 (by decide) ?_
    cases h
    exact hE _ _ dX1_riseInLowestTerms_22 rfl
def f_X1_runInLowestTerms (S : St) : Option (Int32) := (f_X1_commonDivisor S).bind (fun (r1 : Int32) => if r1 ≤ 0 then some (S.1 11) else ck (¬ r1 = 0) (some ((S.1 11) / r1)))
set_option maxRecDepth 100000 in
set_option maxHeartbeats 4000000 in
theorem c_X1_runInLowestTerms (E : Ev) (ad : Nat → Nat) {S : St} {r : Int32} (h : f_X1_runInLowestTerms S = some r) : CtI E yX1_runInLowestTerms cX1_runInLowestTerms 2 .int 2 47 (sW E ad S) [.ref (ad 5)] r (sW E ad S) := by
  refine CtI_of (by decide +kernel) (Nat.le_of_ble_eq_true rfl) (fun x X hE => ?_)
  show J E x 0 0 (sW E ad S) 0 [(0, .ref (ad 5))] []
  unfold f_X1_runInLowestTerms at h
  refine J_aload_n X (pc := 0) dX1_runInLowestTerms_0 0 rfl ?_
  replace h := bk h
  obtain ⟨r1, g2, h⟩ := h
  refine J_callVI X (pc := 1) (y := yX1_commonDivisor) (na := 0) (As := []) (rest := []) (c_X1_commonDivisor E ad g2) 5 sW_c5 rfl q_39 q_40 q_41 q_42 q_34 rfl (by decide +kernel) (by decide +kernel) rfl (Nat.le_of_ble_eq_true rfl) ⟨Nat.le_refl _, Nat.le_refl _⟩ dX1_runInLowestTerms_1 ?_
  refine J_istore_n X (pc := 4) dX1_runInLowestTerms_4 (by decide) rfl ?_
  refine J_iload_n X (pc := 5) dX1_runInLowestTerms_5 0 rfl ?_
  refine J_if_le X (pc := 6) 18 dX1_runInLowestTerms_6 (by decide) (fun c3 => ?_) (fun c3 => ?_)
  · rw [if_pos c3] at h
    refine J_aload_n X (pc := 18) dX1_runInLowestTerms_18 1 rfl ?_
    refine J_getf X (pc := 19) 5 sW_c5 rfl in_X1 3 (by decide) q_17 rfl dX1_runInLowestTerms_19 ?_
    cases h
    exact hE _ _ dX1_runInLowestTerms_22 rfl
  · rw [if_neg c3] at h
    refine J_aload_n X (pc := 9) dX1_runInLowestTerms_9 1 rfl ?_
    refine J_getf X (pc := 10) 5 sW_c5 rfl in_X1 3 (by decide) q_17 rfl dX1_runInLowestTerms_10 ?_
    refine J_iload_n X (pc := 13) dX1_runInLowestTerms_13 0 rfl ?_
    replace h := ck_e h
    obtain ⟨b4, h⟩ := h
    refine J_idiv X (pc := 14) dX1_runInLowestTerms_14 b4 ?_
    refine J_goto X (pc := 15) 22 dX1_runInLowestTerms_15 (by decide) ?_
    cases h
    exact hE _ _ dX1_runInLowestTerms_22 rfl
def f_X6_lookChanges (a1 : Int32) (a2 : Int32) (S : St) : Option (Int32 × St) := nmv (S.1 12) (fun (v1 : Int32) => nmv (a1 - a2) (fun (v2 : Int32) => (if ((14 : Int32)) < v2 then some ((0 : Int32)) else some ((1 : Int32))).bind (fun (r4 : Int32) => (if r4 = 0 then if v2 ≤ ((21 : Int32)) then some S else ck (isZ ((0 : Int32))) (nmv (sF S 12 ((0 : Int32))) (fun (S16 : St) => some S16)) else if (S.1 13) = 0 then if v2 ≤ ((21 : Int32)) then some S else ck (isZ ((0 : Int32))) (nmv (sF S 12 ((0 : Int32))) (fun (S20 : St) => some S20)) else ck (isZ ((1 : Int32))) (nmv (sF S 12 ((1 : Int32))) (fun (S22 : St) => some S22))).bind (fun (S11 : St) => ck (isZ r4) (nmv (sF S11 13 r4) (fun (S24 : St) => if (S24.1 12) = v1 then some ((0 : Int32), S24) else some ((1 : Int32), S24)))))))
set_option maxRecDepth 100000 in
set_option maxHeartbeats 4000000 in
theorem c_X6_lookChanges (E : Ev) (ad : Nat → Nat) {a1 : Int32} {a2 : Int32} {S : St} {r : Int32} {S2 : St} (h : f_X6_lookChanges a1 a2 S = some (r, S2)) : CtI E yX6_lookChanges cX6_lookChanges 6 .boolean 0 0 (sW E ad S) [.ref (ad 6), .int a1, .int a2] r (sW E ad S2) := by
  refine CtI_of (by decide +kernel) (Nat.le_of_ble_eq_true rfl) (fun x X hE => ?_)
  show J E x 0 0 (sW E ad S) 0 [(0, .ref (ad 6)), (1, .int a1), (2, .int a2)] []
  unfold f_X6_lookChanges at h
  refine J_aload_n X (pc := 0) dX6_lookChanges_0 0 rfl ?_
  refine J_getf X (pc := 1) 6 sW_c6 rfl in_X6 0 (by decide) q_241 rfl dX6_lookChanges_1 ?_
  replace h := nmv_e h
  obtain ⟨v1, ev1, h⟩ := h
  refine J_nmi ev1 ?_
  refine J_istore_n X (pc := 4) dX6_lookChanges_4 (by decide) rfl ?_
  refine J_iload_n X (pc := 5) dX6_lookChanges_5 2 rfl ?_
  refine J_iload_n X (pc := 6) dX6_lookChanges_6 3 rfl ?_
  refine J_isub X (pc := 7) dX6_lookChanges_7 ?_
  replace h := nmv_e h
  obtain ⟨v2, ev2, h⟩ := h
  refine J_nmi ev2 ?_
  refine J_istore X (pc := 8) dX6_lookChanges_8 (by decide) rfl ?_
  refine J_iload X (pc := 10) dX6_lookChanges_10 0 rfl ?_
  refine J_bipush X (pc := 12) (v := 14) dX6_lookChanges_12 (by decide +kernel) ?_
  replace h := bk h
  obtain ⟨r4, g6, h⟩ := h
  have j5 : J E x 0 0 (sW E ad S) 22 [(0, .ref (ad 6)), (3, .int v1), (4, .int v2)] [.int r4] := by
    refine J_istore X (pc := 22) dX6_lookChanges_22 (by decide) rfl ?_
    refine J_iload X (pc := 24) dX6_lookChanges_24 0 rfl ?_
    replace h := bk h
    obtain ⟨S11, g13, h⟩ := h
    have j12 : J E x 0 0 (sW E ad S11) 56 [(0, .ref (ad 6)), (3, .int v1), (5, .int r4)] [] := by
      refine J_aload_n X (pc := 56) dX6_lookChanges_56 0 rfl ?_
      refine J_iload X (pc := 57) dX6_lookChanges_57 2 rfl ?_
      replace h := ck_e h
      obtain ⟨b23, h⟩ := h
      replace h := nmv_e h
      obtain ⟨S24, eS24, h⟩ := h
      refine J_putf X (pc := 59) (ty := .boolean) (w1 := (sW E ad S24)) 6 sW_c6 rfl in_X6 tyX6_ok nmX6 1 (by decide) q_242 rfl (by decide +kernel) (isZ_nar b23) (isZ_fits b23) (Nat.le_of_ble_eq_true rfl) dX6_lookChanges_59 (sW_p13 eS24) ?_
      refine J_aload_n X (pc := 62) dX6_lookChanges_62 0 rfl ?_
      refine J_getf X (pc := 63) 6 sW_c6 rfl in_X6 0 (by decide) q_241 rfl dX6_lookChanges_63 ?_
      refine J_iload_n X (pc := 66) dX6_lookChanges_66 1 rfl ?_
      refine J_icmp_eq X (pc := 67) 74 dX6_lookChanges_67 (by decide) (fun c25 => ?_) (fun c25 => ?_)
      · rw [if_pos c25] at h
        refine J_iconst X (pc := 74) (v := 0) dX6_lookChanges_74 (by decide +kernel) ?_
        cases h
        exact hE _ _ dX6_lookChanges_75 (by decide +kernel)
      · rw [if_neg c25] at h
        refine J_iconst X (pc := 70) (v := 1) dX6_lookChanges_70 (by decide +kernel) ?_
        refine J_goto X (pc := 71) 75 dX6_lookChanges_71 (by decide) ?_
        cases h
        exact hE _ _ dX6_lookChanges_75 (by decide +kernel)
    refine J_if_eq X (pc := 26) 44 dX6_lookChanges_26 (by decide) (fun c7 => ?_) (fun c7 => ?_)
    · rw [if_pos c7] at g13
      refine J_iload X (pc := 44) dX6_lookChanges_44 3 rfl ?_
      refine J_bipush X (pc := 46) (v := 21) dX6_lookChanges_46 (by decide +kernel) ?_
      refine J_icmp_le X (pc := 48) 56 dX6_lookChanges_48 (by decide) (fun c14 => ?_) (fun c14 => ?_)
      · rw [if_pos c14] at g13
        cases g13
        exact J_sub [1, 2, 0] rfl j12
      · rw [if_neg c14] at g13
        refine J_aload_n X (pc := 51) dX6_lookChanges_51 1 rfl ?_
        refine J_iconst X (pc := 52) (v := 0) dX6_lookChanges_52 (by decide +kernel) ?_
        replace g13 := ck_e g13
        obtain ⟨b15, g13⟩ := g13
        replace g13 := nmv_e g13
        obtain ⟨S16, eS16, g13⟩ := g13
        refine J_putf X (pc := 53) (ty := .boolean) (w1 := (sW E ad S16)) 6 sW_c6 rfl in_X6 tyX6_ok nmX6 0 (by decide) q_241 rfl (by decide +kernel) (isZ_nar b15) (isZ_fits b15) (Nat.le_of_ble_eq_true rfl) dX6_lookChanges_53 (sW_p12 eS16) ?_
        cases g13
        exact J_sub [1, 2, 0] rfl j12
    · rw [if_neg c7] at g13
      refine J_aload_n X (pc := 29) dX6_lookChanges_29 1 rfl ?_
      refine J_getf X (pc := 30) 6 sW_c6 rfl in_X6 1 (by decide) q_242 rfl dX6_lookChanges_30 ?_
      refine J_if_eq X (pc := 33) 44 dX6_lookChanges_33 (by decide) (fun c17 => ?_) (fun c17 => ?_)
      · rw [if_pos c17] at g13
        refine J_iload X (pc := 44) dX6_lookChanges_44 3 rfl ?_
        refine J_bipush X (pc := 46) (v := 21) dX6_lookChanges_46 (by decide +kernel) ?_
        refine J_icmp_le X (pc := 48) 56 dX6_lookChanges_48 (by decide) (fun c18 => ?_) (fun c18 => ?_)
        · rw [if_pos c18] at g13
          cases g13
          exact J_sub [1, 2, 0] rfl j12
        · rw [if_neg c18] at g13
          refine J_aload_n X (pc := 51) dX6_lookChanges_51 1 rfl ?_
          refine J_iconst X (pc := 52) (v := 0) dX6_lookChanges_52 (by decide +kernel) ?_
          replace g13 := ck_e g13
          obtain ⟨b19, g13⟩ := g13
          replace g13 := nmv_e g13
          obtain ⟨S20, eS20, g13⟩ := g13
          refine J_putf X (pc := 53) (ty := .boolean) (w1 := (sW E ad S20)) 6 sW_c6 rfl in_X6 tyX6_ok nmX6 0 (by decide) q_241 rfl (by decide +kernel) (isZ_nar b19) (isZ_fits b19) (Nat.le_of_ble_eq_true rfl) dX6_lookChanges_53 (sW_p12 eS20) ?_
          cases g13
          exact J_sub [1, 2, 0] rfl j12
      · rw [if_neg c17] at g13
        refine J_aload_n X (pc := 36) dX6_lookChanges_36 1 rfl ?_
        refine J_iconst X (pc := 37) (v := 1) dX6_lookChanges_37 (by decide +kernel) ?_
        replace g13 := ck_e g13
        obtain ⟨b21, g13⟩ := g13
        replace g13 := nmv_e g13
        obtain ⟨S22, eS22, g13⟩ := g13
        refine J_putf X (pc := 38) (ty := .boolean) (w1 := (sW E ad S22)) 6 sW_c6 rfl in_X6 tyX6_ok nmX6 0 (by decide) q_241 rfl (by decide +kernel) (isZ_nar b21) (isZ_fits b21) (Nat.le_of_ble_eq_true rfl) dX6_lookChanges_38 (sW_p12 eS22) ?_
        refine J_goto X (pc := 41) 56 dX6_lookChanges_41 (by decide) ?_
        cases g13
        exact J_sub [1, 2, 0] rfl j12
  refine J_icmp_gt X (pc := 14) 21 dX6_lookChanges_14 (by decide) (fun c3 => ?_) (fun c3 => ?_)
  · rw [if_pos c3] at g6
    refine J_iconst X (pc := 21) (v := 0) dX6_lookChanges_21 (by decide +kernel) ?_
    cases g6
    exact J_sub [2, 1, 0] rfl j5
  · rw [if_neg c3] at g6
    refine J_iconst X (pc := 17) (v := 1) dX6_lookChanges_17 (by decide +kernel) ?_
    refine J_goto X (pc := 18) 22 dX6_lookChanges_18 (by decide) ?_
    cases g6
    exact J_sub [2, 1, 0] rfl j5
def f_X0_number (S : St) : Option (Int32) := some (S.1 4)
set_option maxRecDepth 100000 in
set_option maxHeartbeats 4000000 in
theorem c_X0_number (E : Ev) (ad : Nat → Nat) {S : St} {r : Int32} (h : f_X0_number S = some r) : CtI E yX0_number cX0_number 1 .int 0 0 (sW E ad S) [.ref (ad 3)] r (sW E ad S) := by
  refine CtI_of (by decide +kernel) (Nat.le_of_ble_eq_true rfl) (fun x X hE => ?_)
  show J E x 0 0 (sW E ad S) 0 [(0, .ref (ad 3))] []
  unfold f_X0_number at h
  refine J_aload_n X (pc := 0) dX0_number_0 0 rfl ?_
  refine J_getf X (pc := 1) 3 sW_c3 rfl in_X0 1 (by decide) q_7 rfl dX0_number_1 ?_
  cases h
  exact hE _ _ dX0_number_4 rfl
def f_X0_freedInAll (S : St) : Option (Int32) := some (S.1 5)
set_option maxRecDepth 100000 in
set_option maxHeartbeats 4000000 in
theorem c_X0_freedInAll (E : Ev) (ad : Nat → Nat) {S : St} {r : Int32} (h : f_X0_freedInAll S = some r) : CtI E yX0_freedInAll cX0_freedInAll 1 .int 0 0 (sW E ad S) [.ref (ad 3)] r (sW E ad S) := by
  refine CtI_of (by decide +kernel) (Nat.le_of_ble_eq_true rfl) (fun x X hE => ?_)
  show J E x 0 0 (sW E ad S) 0 [(0, .ref (ad 3))] []
  unfold f_X0_freedInAll at h
  refine J_aload_n X (pc := 0) dX0_freedInAll_0 0 rfl ?_
  refine J_getf X (pc := 1) 3 sW_c3 rfl in_X0 2 (by decide) q_9 rfl dX0_freedInAll_1 ?_
  cases h
  exact hE _ _ dX0_freedInAll_4 rfl
def f_X0_put_15 (a1 : Int32) : Nat → Int32 → St → Option (Int32 × St)
  | 0, _, _ => none
  | n5+1, x3, S4 => if x3 ≤ 0 then some (x3, S4) else ck (inb (x3 - ((1 : Int32))) 60) (if (S4.2 7 (x3 - ((1 : Int32))).toNatClampNeg) ≤ a1 then some (x3, S4) else ck (inb (x3 - ((1 : Int32))) 60) (ck (inb x3 60) (nmv (sA S4 7 x3.toNatClampNeg (S4.2 7 (x3 - ((1 : Int32))).toNatClampNeg)) (fun (S16 : St) => nmv (x3 + (-1 : Int32)) (fun (v17 : Int32) => f_X0_put_15 a1 n5 v17 S16)))))
def f_X0_put (a1 : Int32) (S : St) : Option (St) := if (S.1 4) < ((60 : Int32)) then nmv (S.1 4) (fun (v2 : Int32) => (f_X0_put_15 a1 3000 v2 S).bind (fun ((r7, S8) : Int32 × St) => ck (inb r7 60) (nmv (sA S8 7 r7.toNatClampNeg a1) (fun (S20 : St) => nmv (sF S20 4 ((S20.1 4) + ((1 : Int32)))) (fun (S21 : St) => nmv (sF S21 5 ((S21.1 5) + a1)) (fun (S22 : St) => some S22)))))) else some S
set_option maxRecDepth 100000 in
set_option maxHeartbeats 4000000 in
theorem c_X0_put (E : Ev) (ad : Nat → Nat) {a1 : Int32} {S : St} {S2 : St} (h : f_X0_put a1 S = some S2) : CtV E yX0_put cX0_put 3 0 0 (sW E ad S) [.ref (ad 3), .int a1] (sW E ad S2) := by
  refine CtV_of (by decide +kernel) (Nat.le_of_ble_eq_true rfl) (fun x X hE => ?_)
  show J E x 0 0 (sW E ad S) 0 [(0, .ref (ad 3)), (1, .int a1)] []
  unfold f_X0_put at h
  refine J_aload_n X (pc := 0) dX0_put_0 0 rfl ?_
  refine J_getf X (pc := 1) 3 sW_c3 rfl in_X0 1 (by decide) q_7 rfl dX0_put_1 ?_
  refine J_bipush X (pc := 4) (v := 60) dX0_put_4 (by decide +kernel) ?_
  refine J_icmp_lt X (pc := 6) 10 dX0_put_6 (by decide) (fun c1 => ?_) (fun c1 => ?_)
  · rw [if_pos c1] at h
    refine J_aload_n X (pc := 10) dX0_put_10 0 rfl ?_
    refine J_getf X (pc := 11) 3 sW_c3 rfl in_X0 1 (by decide) q_7 rfl dX0_put_11 ?_
    replace h := nmv_e h
    obtain ⟨v2, ev2, h⟩ := h
    refine J_nmi ev2 ?_
    refine J_istore_n X (pc := 14) dX0_put_14 (by decide) rfl ?_
    replace h := bk h
    obtain ⟨⟨r7, S8⟩, g10, h⟩ := h
    dsimp only at h
    have k9 : J E x 0 0 (sW E ad S8) 51 [(0, .ref (ad 3)), (1, .int a1), (2, .int r7)] [] := by
      refine J_aload_n X (pc := 51) dX0_put_51 0 rfl ?_
      refine J_getf X (pc := 52) 3 sW_c3 rfl in_X0 0 (by decide) q_5 rfl dX0_put_52 ?_
      refine J_iload_n X (pc := 55) dX0_put_55 2 rfl ?_
      refine J_iload_n X (pc := 56) dX0_put_56 1 rfl ?_
      replace h := ck_e h
      obtain ⟨b19, h⟩ := h
      replace h := nmv_e h
      obtain ⟨S20, eS20, h⟩ := h
      refine J_iast X (pc := 57) (w1 := (sW E ad S20)) 14 sW_c14 b19 dX0_put_57 (sW_a7 eS20) ?_
      refine J_aload_n X (pc := 58) dX0_put_58 0 rfl ?_
      refine J_dup X (pc := 59) dX0_put_59 rfl ?_
      refine J_getf X (pc := 60) 3 sW_c3 rfl in_X0 1 (by decide) q_7 rfl dX0_put_60 ?_
      refine J_iconst X (pc := 63) (v := 1) dX0_put_63 (by decide +kernel) ?_
      refine J_iadd X (pc := 64) dX0_put_64 ?_
      replace h := nmv_e h
      obtain ⟨S21, eS21, h⟩ := h
      refine J_putf X (pc := 65) (ty := .int) (w1 := (sW E ad S21)) 3 sW_c3 rfl in_X0 tyX0_ok nmX0 1 (by decide) q_7 rfl (by decide +kernel) rfl rfl (Nat.le_of_ble_eq_true rfl) dX0_put_65 (sW_p4 eS21) ?_
      refine J_aload_n X (pc := 68) dX0_put_68 0 rfl ?_
      refine J_dup X (pc := 69) dX0_put_69 rfl ?_
      refine J_getf X (pc := 70) 3 sW_c3 rfl in_X0 2 (by decide) q_9 rfl dX0_put_70 ?_
      refine J_iload_n X (pc := 73) dX0_put_73 1 rfl ?_
      refine J_iadd X (pc := 74) dX0_put_74 ?_
      replace h := nmv_e h
      obtain ⟨S22, eS22, h⟩ := h
      refine J_putf X (pc := 75) (ty := .int) (w1 := (sW E ad S22)) 3 sW_c3 rfl in_X0 tyX0_ok nmX0 2 (by decide) q_9 rfl (by decide +kernel) rfl rfl (Nat.le_of_ble_eq_true rfl) dX0_put_75 (sW_p5 eS22) ?_
      cases h
      exact hE _ _ dX0_put_78
    clear h
    have l18 : ∀ (n5 : Nat) (x3 : Int32) (S4 : St), f_X0_put_15 a1 n5 x3 S4 = some (r7, S8) → J E x 0 0 (sW E ad S4) 15 [(0, .ref (ad 3)), (1, .int a1), (2, .int x3)] [] := by
      intro n5
      induction n5 with
      | zero => intro x3 S4 h; rw [f_X0_put_15] at h; cases h
      | succ n5 ih6 =>
        intro x3 S4 h
        rw [f_X0_put_15] at h
        refine J_iload_n X (pc := 15) dX0_put_15 2 rfl ?_
        refine J_if_le X (pc := 16) 51 dX0_put_16 (by decide) (fun c11 => ?_) (fun c11 => ?_)
        · rw [if_pos c11] at h
          cases h
          exact J_sub [0, 1, 2] rfl k9
        · rw [if_neg c11] at h
          refine J_aload_n X (pc := 19) dX0_put_19 0 rfl ?_
          refine J_getf X (pc := 20) 3 sW_c3 rfl in_X0 0 (by decide) q_5 rfl dX0_put_20 ?_
          refine J_iload_n X (pc := 23) dX0_put_23 2 rfl ?_
          refine J_iconst X (pc := 24) (v := 1) dX0_put_24 (by decide +kernel) ?_
          refine J_isub X (pc := 25) dX0_put_25 ?_
          replace h := ck_e h
          obtain ⟨b12, h⟩ := h
          refine J_iald X (pc := 26) 14 sW_c14 b12 dX0_put_26 ?_
          refine J_iload_n X (pc := 27) dX0_put_27 1 rfl ?_
          refine J_icmp_le X (pc := 28) 51 dX0_put_28 (by decide) (fun c13 => ?_) (fun c13 => ?_)
          · rw [if_pos c13] at h
            cases h
            exact J_sub [0, 1, 2] rfl k9
          · rw [if_neg c13] at h
            refine J_aload_n X (pc := 31) dX0_put_31 0 rfl ?_
            refine J_getf X (pc := 32) 3 sW_c3 rfl in_X0 0 (by decide) q_5 rfl dX0_put_32 ?_
            refine J_iload_n X (pc := 35) dX0_put_35 2 rfl ?_
            refine J_aload_n X (pc := 36) dX0_put_36 0 rfl ?_
            refine J_getf X (pc := 37) 3 sW_c3 rfl in_X0 0 (by decide) q_5 rfl dX0_put_37 ?_
            refine J_iload_n X (pc := 40) dX0_put_40 2 rfl ?_
            refine J_iconst X (pc := 41) (v := 1) dX0_put_41 (by decide +kernel) ?_
            refine J_isub X (pc := 42) dX0_put_42 ?_
            replace h := ck_e h
            obtain ⟨b14, h⟩ := h
            refine J_iald X (pc := 43) 14 sW_c14 b14 dX0_put_43 ?_
            replace h := ck_e h
            obtain ⟨b15, h⟩ := h
            replace h := nmv_e h
            obtain ⟨S16, eS16, h⟩ := h
            refine J_iast X (pc := 44) (w1 := (sW E ad S16)) 14 sW_c14 b15 dX0_put_44 (sW_a7 eS16) ?_
            replace h := nmv_e h
            obtain ⟨v17, ev17, h⟩ := h
            refine J_iinc X (pc := 45) (v := v17) dX0_put_45 2 rfl (by rw [ev17]; rfl) (by decide) rfl ?_
            refine J_goto X (pc := 48) 15 dX0_put_48 (by decide) ?_
            exact J_sub [1, 2, 0] rfl (ih6 _ _ h)
    exact J_sub [1, 2, 0] rfl (l18 3000 _ _ g10)
  · rw [if_neg c1] at h
    cases h
    exact hE _ _ dX0_put_9
def f_X7_middlePlace (a1 : Int32) : Option (Int32) := some ((a1 - ((1 : Int32))) / ((2 : Int32)))
set_option maxRecDepth 100000 in
set_option maxHeartbeats 4000000 in
theorem c_X7_middlePlace (E : Ev) (w : va_W) {a1 : Int32} {r : Int32} (h : f_X7_middlePlace a1 = some r) : CtI E yX7_middlePlace cX7_middlePlace 1 .int 0 0 w [.int a1] r w := by
  refine CtI_of (by decide +kernel) (Nat.le_of_ble_eq_true rfl) (fun x X hE => ?_)
  show J E x 0 0 w 0 [(0, .int a1)] []
  unfold f_X7_middlePlace at h
  refine J_iload_n X (pc := 0) dX7_middlePlace_0 0 rfl ?_
  refine J_iconst X (pc := 1) (v := 1) dX7_middlePlace_1 (by decide +kernel) ?_
  refine J_isub X (pc := 2) dX7_middlePlace_2 ?_
  refine J_iconst X (pc := 3) (v := 2) dX7_middlePlace_3 (by decide +kernel) ?_
  refine J_idiv X (pc := 4) dX7_middlePlace_4 (by decide +kernel) ?_
  cases h
  exact hE _ _ dX7_middlePlace_5 rfl
def f_X0_usualSize (S : St) : Option (Int32) := if (S.1 4) ≤ 0 then some ((0 : Int32)) else (f_X7_middlePlace (S.1 4)).bind (fun (r2 : Int32) => ck (inb r2 60) (some (S.2 7 r2.toNatClampNeg)))
set_option maxRecDepth 100000 in
set_option maxHeartbeats 4000000 in
theorem c_X0_usualSize (E : Ev) (ad : Nat → Nat) {S : St} {r : Int32} (h : f_X0_usualSize S = some r) : CtI E yX0_usualSize cX0_usualSize 1 .int 1 20 (sW E ad S) [.ref (ad 3)] r (sW E ad S) := by
  refine CtI_of (by decide +kernel) (Nat.le_of_ble_eq_true rfl) (fun x X hE => ?_)
  show J E x 0 0 (sW E ad S) 0 [(0, .ref (ad 3))] []
  unfold f_X0_usualSize at h
  refine J_aload_n X (pc := 0) dX0_usualSize_0 0 rfl ?_
  refine J_getf X (pc := 1) 3 sW_c3 rfl in_X0 1 (by decide) q_7 rfl dX0_usualSize_1 ?_
  refine J_if_le X (pc := 4) 22 dX0_usualSize_4 (by decide) (fun c1 => ?_) (fun c1 => ?_)
  · rw [if_pos c1] at h
    refine J_iconst X (pc := 22) (v := 0) dX0_usualSize_22 (by decide +kernel) ?_
    cases h
    exact hE _ _ dX0_usualSize_23 rfl
  · rw [if_neg c1] at h
    refine J_aload_n X (pc := 7) dX0_usualSize_7 0 rfl ?_
    refine J_getf X (pc := 8) 3 sW_c3 rfl in_X0 0 (by decide) q_5 rfl dX0_usualSize_8 ?_
    refine J_aload_n X (pc := 11) dX0_usualSize_11 0 rfl ?_
    refine J_getf X (pc := 12) 3 sW_c3 rfl in_X0 1 (by decide) q_7 rfl dX0_usualSize_12 ?_
    replace h := bk h
    obtain ⟨r2, g3, h⟩ := h
    refine J_callSNI X (pc := 15) (y := yX7_middlePlace) (na := 1) (As := [.int (S.1 4)]) (rest := [.ref (ad 14)]) (c_X7_middlePlace E (sW E ad S) g3) nq_19 q_13 q_14 q_11 rfl (by decide +kernel) (by decide +kernel) rfl (Nat.le_of_ble_eq_true rfl) ⟨Nat.le_refl _, Nat.le_refl _⟩ dX0_usualSize_15 ?_
    replace h := ck_e h
    obtain ⟨b4, h⟩ := h
    refine J_iald X (pc := 18) 14 sW_c14 b4 dX0_usualSize_18 ?_
    refine J_goto X (pc := 19) 23 dX0_usualSize_19 (by decide) ?_
    cases h
    exact hE _ _ dX0_usualSize_23 rfl
