def f_X5_tellUsed (a1 : Int32) (a2 : Int32) (S : St) : Option (St) := (f_X0_freedInAll S).bind (fun (r1 : Int32) => (f_X4_put a1 a2 r1 S).bind (fun (S3 : St) => (f_X2_orderAll S3).bind (fun (S5 : St) => some S5)))
set_option maxRecDepth 100000 in
set_option maxHeartbeats 4000000 in
theorem c_X5_tellUsed (E : Ev) (ad : Nat → Nat) {a1 : Int32} {a2 : Int32} {S : St} {S2 : St} (h : f_X5_tellUsed a1 a2 S = some S2) : CtV E yX5_tellUsed cX5_tellUsed 3 5 114 (sW E ad S) [.ref (ad 0), .int a1, .int a2] (sW E ad S2) := by
  refine CtV_of (by decide +kernel) (Nat.le_of_ble_eq_true rfl) (fun x X hE => ?_)
  show J E x 0 0 (sW E ad S) 0 [(0, .ref (ad 0)), (1, .int a1), (2, .int a2)] []
  unfold f_X5_tellUsed at h
  refine J_aload_n X (pc := 0) dX5_tellUsed_0 0 rfl ?_
  refine J_getf X (pc := 1) 0 sW_c0 rfl in_X5 0 (by decide) q_134 rfl dX5_tellUsed_1 ?_
  refine J_iload_n X (pc := 4) dX5_tellUsed_4 1 rfl ?_
  refine J_iload_n X (pc := 5) dX5_tellUsed_5 2 rfl ?_
  refine J_aload_n X (pc := 6) dX5_tellUsed_6 0 rfl ?_
  refine J_getf X (pc := 7) 0 sW_c0 rfl in_X5 2 (by decide) q_141 rfl dX5_tellUsed_7 ?_
  replace h := bk h
  obtain ⟨r1, g2, h⟩ := h
  refine J_callVI X (pc := 10) (y := yX0_freedInAll) (na := 0) (As := []) (rest := [.int a2, .int a1, .ref (ad 1)]) (c_X0_freedInAll E ad g2) 3 sW_c3 rfl q_160 q_161 q_162 q_140 q_8 rfl (by decide +kernel) (by decide +kernel) rfl (Nat.le_of_ble_eq_true rfl) ⟨Nat.le_refl _, Nat.le_refl _⟩ dX5_tellUsed_10 ?_
  replace h := bk h
  obtain ⟨S3, g4, h⟩ := h
  refine J_callVV X (pc := 13) (y := yX4_put) (na := 3) (As := [.int a1, .int a2, .int r1]) (rest := []) (c_X4_put E ad g4) 1 sW_c1 rfl q_163 q_164 q_165 q_58 q_119 rfl (by decide +kernel) (by decide +kernel) rfl (Nat.le_of_ble_eq_true rfl) ⟨Nat.le_refl _, Nat.le_refl _⟩ dX5_tellUsed_13 ?_
  refine J_aload_n X (pc := 16) dX5_tellUsed_16 0 rfl ?_
  refine J_getf X (pc := 17) 0 sW_c0 rfl in_X5 1 (by decide) q_137 rfl dX5_tellUsed_17 ?_
  refine J_aload_n X (pc := 20) dX5_tellUsed_20 0 rfl ?_
  refine J_getf X (pc := 21) 0 sW_c0 rfl in_X5 0 (by decide) q_134 rfl dX5_tellUsed_21 ?_
  replace h := bk h
  obtain ⟨S5, g6, h⟩ := h
  refine J_callVV X (pc := 24) (y := yX2_orderAll) (na := 1) (As := [.ref (ad 1)]) (rest := []) (c_X2_orderAll E ad g6) 2 sW_c2 rfl q_166 q_167 q_168 q_67 q_93 rfl (by decide +kernel) (by decide +kernel) rfl (Nat.le_of_ble_eq_true rfl) ⟨Nat.le_refl _, Nat.le_refl _⟩ dX5_tellUsed_24 ?_
  cases h
  exact hE _ _ dX5_tellUsed_27
def f_X5_tellFreed (a1 : Int32) (a2 : Int32) (S : St) : Option (St) := (f_X0_put a2 S).bind (fun (S1 : St) => (f_X4_addFreedOn a1 a2 S1).bind (fun (S3 : St) => (f_X2_orderAll S3).bind (fun (S5 : St) => some S5)))
set_option maxRecDepth 100000 in
set_option maxHeartbeats 4000000 in
theorem c_X5_tellFreed (E : Ev) (ad : Nat → Nat) {a1 : Int32} {a2 : Int32} {S : St} {S2 : St} (h : f_X5_tellFreed a1 a2 S = some S2) : CtV E yX5_tellFreed cX5_tellFreed 3 5 114 (sW E ad S) [.ref (ad 0), .int a1, .int a2] (sW E ad S2) := by
  refine CtV_of (by decide +kernel) (Nat.le_of_ble_eq_true rfl) (fun x X hE => ?_)
  show J E x 0 0 (sW E ad S) 0 [(0, .ref (ad 0)), (1, .int a1), (2, .int a2)] []
  unfold f_X5_tellFreed at h
  refine J_aload_n X (pc := 0) dX5_tellFreed_0 0 rfl ?_
  refine J_getf X (pc := 1) 0 sW_c0 rfl in_X5 2 (by decide) q_141 rfl dX5_tellFreed_1 ?_
  refine J_iload_n X (pc := 4) dX5_tellFreed_4 2 rfl ?_
  replace h := bk h
  obtain ⟨S1, g2, h⟩ := h
  refine J_callVV X (pc := 5) (y := yX0_put) (na := 1) (As := [.int a2]) (rest := []) (c_X0_put E ad g2) 3 sW_c3 rfl q_170 q_171 q_172 q_140 q_10 rfl (by decide +kernel) (by decide +kernel) rfl (Nat.le_of_ble_eq_true rfl) ⟨Nat.le_refl _, Nat.le_refl _⟩ dX5_tellFreed_5 ?_
  refine J_aload_n X (pc := 8) dX5_tellFreed_8 0 rfl ?_
  refine J_getf X (pc := 9) 0 sW_c0 rfl in_X5 0 (by decide) q_134 rfl dX5_tellFreed_9 ?_
  refine J_iload_n X (pc := 12) dX5_tellFreed_12 1 rfl ?_
  refine J_iload_n X (pc := 13) dX5_tellFreed_13 2 rfl ?_
  replace h := bk h
  obtain ⟨S3, g4, h⟩ := h
  refine J_callVV X (pc := 14) (y := yX4_addFreedOn) (na := 2) (As := [.int a1, .int a2]) (rest := []) (c_X4_addFreedOn E ad g4) 1 sW_c1 rfl q_173 q_174 q_175 q_58 q_126 rfl (by decide +kernel) (by decide +kernel) rfl (Nat.le_of_ble_eq_true rfl) ⟨Nat.le_refl _, Nat.le_refl _⟩ dX5_tellFreed_14 ?_
  refine J_aload_n X (pc := 17) dX5_tellFreed_17 0 rfl ?_
  refine J_getf X (pc := 18) 0 sW_c0 rfl in_X5 1 (by decide) q_137 rfl dX5_tellFreed_18 ?_
  refine J_aload_n X (pc := 21) dX5_tellFreed_21 0 rfl ?_
  refine J_getf X (pc := 22) 0 sW_c0 rfl in_X5 0 (by decide) q_134 rfl dX5_tellFreed_22 ?_
  replace h := bk h
  obtain ⟨S5, g6, h⟩ := h
  refine J_callVV X (pc := 25) (y := yX2_orderAll) (na := 1) (As := [.ref (ad 1)]) (rest := []) (c_X2_orderAll E ad g6) 2 sW_c2 rfl q_166 q_167 q_168 q_67 q_93 rfl (by decide +kernel) (by decide +kernel) rfl (Nat.le_of_ble_eq_true rfl) ⟨Nat.le_refl _, Nat.le_refl _⟩ dX5_tellFreed_25 ?_
  cases h
  exact hE _ _ dX5_tellFreed_28
def f_X5_hasSlope (S : St) : Option (Int32) := (f_X4_number S).bind (fun (r1 : Int32) => if r1 < ((2 : Int32)) then some ((0 : Int32)) else some ((1 : Int32)))
set_option maxRecDepth 100000 in
set_option maxHeartbeats 4000000 in
theorem c_X5_hasSlope (E : Ev) (ad : Nat → Nat) {S : St} {r : Int32} (h : f_X5_hasSlope S = some r) : CtI E yX5_hasSlope cX5_hasSlope 1 .boolean 1 20 (sW E ad S) [.ref (ad 0)] r (sW E ad S) := by
  refine CtI_of (by decide +kernel) (Nat.le_of_ble_eq_true rfl) (fun x X hE => ?_)
  show J E x 0 0 (sW E ad S) 0 [(0, .ref (ad 0))] []
  unfold f_X5_hasSlope at h
  refine J_aload_n X (pc := 0) dX5_hasSlope_0 0 rfl ?_
  refine J_getf X (pc := 1) 0 sW_c0 rfl in_X5 0 (by decide) q_134 rfl dX5_hasSlope_1 ?_
  replace h := bk h
  obtain ⟨r1, g2, h⟩ := h
  refine J_callVI X (pc := 4) (y := yX4_number) (na := 0) (As := []) (rest := []) (c_X4_number E ad g2) 1 sW_c1 rfl q_178 q_88 q_89 q_58 q_50 rfl (by decide +kernel) (by decide +kernel) rfl (Nat.le_of_ble_eq_true rfl) ⟨Nat.le_refl _, Nat.le_refl _⟩ dX5_hasSlope_4 ?_
  refine J_iconst X (pc := 7) (v := 2) dX5_hasSlope_7 (by decide +kernel) ?_
  refine J_icmp_lt X (pc := 8) 15 dX5_hasSlope_8 (by decide) (fun c3 => ?_) (fun c3 => ?_)
  · rw [if_pos c3] at h
    refine J_iconst X (pc := 15) (v := 0) dX5_hasSlope_15 (by decide +kernel) ?_
    cases h
    exact hE _ _ dX5_hasSlope_16 (by decide +kernel)
  · rw [if_neg c3] at h
    refine J_iconst X (pc := 11) (v := 1) dX5_hasSlope_11 (by decide +kernel) ?_
    refine J_goto X (pc := 12) 16 dX5_hasSlope_12 (by decide) ?_
    cases h
    exact hE _ _ dX5_hasSlope_16 (by decide +kernel)
def f_X5_drawLineWithout (a1 : Int32) (S : St) : Option (St) := (f_X4_lastPlaceWithout a1 S).bind (fun (r1 : Int32) => (f_X2_middlePlaceWithout a1 S).bind (fun (r3 : Int32) => (f_X4_dayAt r1 S).bind (fun (r5 : Int32) => (f_X4_usedAt r1 S).bind (fun (r7 : Int32) => (f_X1_start r5 r7 S).bind (fun (S9 : St) => (f_X2_riseAt r3 S9).bind (fun (r11 : Int32) => (f_X2_runAt r3 S9).bind (fun (r13 : Int32) => (f_X1_climb r11 r13 S9).bind (fun (S15 : St) => some S15))))))))
set_option maxRecDepth 100000 in
set_option maxHeartbeats 4000000 in
theorem c_X5_drawLineWithout (E : Ev) (ad : Nat → Nat) {a1 : Int32} {S : St} {S2 : St} (h : f_X5_drawLineWithout a1 S = some S2) : CtV E yX5_drawLineWithout cX5_drawLineWithout 4 2 46 (sW E ad S) [.ref (ad 0), .int a1] (sW E ad S2) := by
  refine CtV_of (by decide +kernel) (Nat.le_of_ble_eq_true rfl) (fun x X hE => ?_)
  show J E x 0 0 (sW E ad S) 0 [(0, .ref (ad 0)), (1, .int a1)] []
  unfold f_X5_drawLineWithout at h
  refine J_aload_n X (pc := 0) dX5_drawLineWithout_0 0 rfl ?_
  refine J_getf X (pc := 1) 0 sW_c0 rfl in_X5 0 (by decide) q_134 rfl dX5_drawLineWithout_1 ?_
  refine J_iload_n X (pc := 4) dX5_drawLineWithout_4 1 rfl ?_
  replace h := bk h
  obtain ⟨r1, g2, h⟩ := h
  refine J_callVI X (pc := 5) (y := yX4_lastPlaceWithout) (na := 1) (As := [.int a1]) (rest := []) (c_X4_lastPlaceWithout E ad g2) 1 sW_c1 rfl q_179 q_180 q_181 q_58 q_128 rfl (by decide +kernel) (by decide +kernel) rfl (Nat.le_of_ble_eq_true rfl) ⟨Nat.le_refl _, Nat.le_refl _⟩ dX5_drawLineWithout_5 ?_
  refine J_istore_n X (pc := 8) dX5_drawLineWithout_8 (by decide) rfl ?_
  refine J_aload_n X (pc := 9) dX5_drawLineWithout_9 1 rfl ?_
  refine J_getf X (pc := 10) 0 sW_c0 rfl in_X5 1 (by decide) q_137 rfl dX5_drawLineWithout_10 ?_
  refine J_iload_n X (pc := 13) dX5_drawLineWithout_13 2 rfl ?_
  replace h := bk h
  obtain ⟨r3, g4, h⟩ := h
  refine J_callVI X (pc := 14) (y := yX2_middlePlaceWithout) (na := 1) (As := [.int a1]) (rest := []) (c_X2_middlePlaceWithout E ad g4) 2 sW_c2 rfl q_182 q_183 q_184 q_67 q_96 rfl (by decide +kernel) (by decide +kernel) rfl (Nat.le_of_ble_eq_true rfl) ⟨Nat.le_refl _, Nat.le_refl _⟩ dX5_drawLineWithout_14 ?_
  refine J_istore_n X (pc := 17) dX5_drawLineWithout_17 (by decide) rfl ?_
  refine J_aload_n X (pc := 18) dX5_drawLineWithout_18 2 rfl ?_
  refine J_getf X (pc := 19) 0 sW_c0 rfl in_X5 4 (by decide) q_147 rfl dX5_drawLineWithout_19 ?_
  refine J_aload_n X (pc := 22) dX5_drawLineWithout_22 2 rfl ?_
  refine J_getf X (pc := 23) 0 sW_c0 rfl in_X5 0 (by decide) q_134 rfl dX5_drawLineWithout_23 ?_
  refine J_iload_n X (pc := 26) dX5_drawLineWithout_26 1 rfl ?_
  replace h := bk h
  obtain ⟨r5, g6, h⟩ := h
  refine J_callVI X (pc := 27) (y := yX4_dayAt) (na := 1) (As := [.int r1]) (rest := [.ref (ad 5)]) (c_X4_dayAt E ad g6) 1 sW_c1 rfl q_185 q_80 q_81 q_58 q_59 rfl (by decide +kernel) (by decide +kernel) rfl (Nat.le_of_ble_eq_true rfl) ⟨Nat.le_refl _, Nat.le_refl _⟩ dX5_drawLineWithout_27 ?_
  refine J_aload_n X (pc := 30) dX5_drawLineWithout_30 2 rfl ?_
  refine J_getf X (pc := 31) 0 sW_c0 rfl in_X5 0 (by decide) q_134 rfl dX5_drawLineWithout_31 ?_
  refine J_iload_n X (pc := 34) dX5_drawLineWithout_34 1 rfl ?_
  replace h := bk h
  obtain ⟨r7, g8, h⟩ := h
  refine J_callVI X (pc := 35) (y := yX4_usedAt) (na := 1) (As := [.int r1]) (rest := [.int r5, .ref (ad 5)]) (c_X4_usedAt E ad g8) 1 sW_c1 rfl q_186 q_187 q_188 q_58 q_127 rfl (by decide +kernel) (by decide +kernel) rfl (Nat.le_of_ble_eq_true rfl) ⟨Nat.le_refl _, Nat.le_refl _⟩ dX5_drawLineWithout_35 ?_
  replace h := bk h
  obtain ⟨S9, g10, h⟩ := h
  refine J_callVV X (pc := 38) (y := yX1_start) (na := 2) (As := [.int r5, .int r7]) (rest := []) (c_X1_start E ad g10) 5 sW_c5 rfl q_189 q_190 q_191 q_42 q_18 rfl (by decide +kernel) (by decide +kernel) rfl (Nat.le_of_ble_eq_true rfl) ⟨Nat.le_refl _, Nat.le_refl _⟩ dX5_drawLineWithout_38 ?_
  refine J_aload_n X (pc := 41) dX5_drawLineWithout_41 2 rfl ?_
  refine J_getf X (pc := 42) 0 sW_c0 rfl in_X5 4 (by decide) q_147 rfl dX5_drawLineWithout_42 ?_
  refine J_aload_n X (pc := 45) dX5_drawLineWithout_45 2 rfl ?_
  refine J_getf X (pc := 46) 0 sW_c0 rfl in_X5 1 (by decide) q_137 rfl dX5_drawLineWithout_46 ?_
  refine J_iload_n X (pc := 49) dX5_drawLineWithout_49 0 rfl ?_
  replace h := bk h
  obtain ⟨r11, g12, h⟩ := h
  refine J_callVI X (pc := 50) (y := yX2_riseAt) (na := 1) (As := [.int r3]) (rest := [.ref (ad 5)]) (c_X2_riseAt E ad g12) 2 sW_c2 rfl q_192 q_71 q_72 q_67 q_63 rfl (by decide +kernel) (by decide +kernel) rfl (Nat.le_of_ble_eq_true rfl) ⟨Nat.le_refl _, Nat.le_refl _⟩ dX5_drawLineWithout_50 ?_
  refine J_aload_n X (pc := 53) dX5_drawLineWithout_53 2 rfl ?_
  refine J_getf X (pc := 54) 0 sW_c0 rfl in_X5 1 (by decide) q_137 rfl dX5_drawLineWithout_54 ?_
  refine J_iload_n X (pc := 57) dX5_drawLineWithout_57 0 rfl ?_
  replace h := bk h
  obtain ⟨r13, g14, h⟩ := h
  refine J_callVI X (pc := 58) (y := yX2_runAt) (na := 1) (As := [.int r3]) (rest := [.int r11, .ref (ad 5)]) (c_X2_runAt E ad g14) 2 sW_c2 rfl q_193 q_74 q_75 q_67 q_68 rfl (by decide +kernel) (by decide +kernel) rfl (Nat.le_of_ble_eq_true rfl) ⟨Nat.le_refl _, Nat.le_refl _⟩ dX5_drawLineWithout_58 ?_
  replace h := bk h
  obtain ⟨S15, g16, h⟩ := h
  refine J_callVV X (pc := 61) (y := yX1_climb) (na := 2) (As := [.int r11, .int r13]) (rest := []) (c_X1_climb E ad g16) 5 sW_c5 rfl q_194 q_195 q_196 q_42 q_21 rfl (by decide +kernel) (by decide +kernel) rfl (Nat.le_of_ble_eq_true rfl) ⟨Nat.le_refl _, Nat.le_refl _⟩ dX5_drawLineWithout_61 ?_
  cases h
  exact hE _ _ dX5_drawLineWithout_64
def f_X5_roomOn (a1 : Int32) (S : St) : Option (Int32) := (f_X0_usualSize S).bind (fun (r1 : Int32) => (f_X3_daysWithin (S.1 8) a1 S).bind (fun (r3 : Int32) => nmv (r1.toInt64 * r3.toInt64) (fun (v5 : Int64) => (f_X1_heightOn a1 S).bind (fun (r6 : Int64) => nmv (r6 - v5) (fun (v8 : Int64) => some ((if ((2000000000 : Int64)) < (if ((0 : Int64)) < v8 then v8 else ((0 : Int64))) then ((2000000000 : Int64)) else (if ((0 : Int64)) < v8 then v8 else ((0 : Int64)))).toInt32))))))
set_option maxRecDepth 100000 in
set_option maxHeartbeats 4000000 in
theorem c_X5_roomOn (E : Ev) (ad : Nat → Nat) {a1 : Int32} {S : St} {r : Int32} (h : f_X5_roomOn a1 S = some r) : CtI E yX5_roomOn cX5_roomOn 6 .int 2 48 (sW E ad S) [.ref (ad 0), .int a1] r (sW E ad S) := by
  refine CtI_of (by decide +kernel) (Nat.le_of_ble_eq_true rfl) (fun x X hE => ?_)
  show J E x 0 0 (sW E ad S) 0 [(0, .ref (ad 0)), (1, .int a1)] []
  unfold f_X5_roomOn at h
  refine J_aload_n X (pc := 0) dX5_roomOn_0 0 rfl ?_
  refine J_getf X (pc := 1) 0 sW_c0 rfl in_X5 2 (by decide) q_141 rfl dX5_roomOn_1 ?_
  replace h := bk h
  obtain ⟨r1, g2, h⟩ := h
  refine J_callVI X (pc := 4) (y := yX0_usualSize) (na := 0) (As := []) (rest := []) (c_X0_usualSize E ad g2) 3 sW_c3 rfl q_203 q_204 q_205 q_140 q_12 rfl (by decide +kernel) (by decide +kernel) rfl (Nat.le_of_ble_eq_true rfl) ⟨Nat.le_refl _, Nat.le_refl _⟩ dX5_roomOn_4 ?_
  refine J_i2l X (pc := 7) dX5_roomOn_7 ?_
  refine J_aload_n X (pc := 8) dX5_roomOn_8 0 rfl ?_
  refine J_getf X (pc := 9) 0 sW_c0 rfl in_X5 3 (by decide) q_144 rfl dX5_roomOn_9 ?_
  refine J_aload_n X (pc := 12) dX5_roomOn_12 0 rfl ?_
  refine J_getf X (pc := 13) 0 sW_c0 rfl in_X5 4 (by decide) q_147 rfl dX5_roomOn_13 ?_
  refine J_getfN X (pc := 16) 5 sW_c5 rfl in_X1 0 (by decide) nq_8 rfl dX5_roomOn_16 ?_
  refine J_iload_n X (pc := 19) dX5_roomOn_19 1 rfl ?_
  replace h := bk h
  obtain ⟨r3, g4, h⟩ := h
  refine J_callVI X (pc := 20) (y := yX3_daysWithin) (na := 2) (As := [.int (S.1 8), .int a1]) (rest := [.long r1.toInt64]) (c_X3_daysWithin E ad g4) 4 sW_c4 rfl q_206 q_207 q_208 q_113 q_109 rfl (by decide +kernel) (by decide +kernel) rfl (Nat.le_of_ble_eq_true rfl) ⟨Nat.le_refl _, Nat.le_refl _⟩ dX5_roomOn_20 ?_
  refine J_i2l X (pc := 23) dX5_roomOn_23 ?_
  refine J_lmul X (pc := 24) dX5_roomOn_24 ?_
  replace h := nmv_e h
  obtain ⟨v5, ev5, h⟩ := h
  refine J_nml ev5 ?_
  refine J_lstore_n X (pc := 25) dX5_roomOn_25 (by decide) rfl ?_
  refine J_aload_n X (pc := 26) dX5_roomOn_26 1 rfl ?_
  refine J_getf X (pc := 27) 0 sW_c0 rfl in_X5 4 (by decide) q_147 rfl dX5_roomOn_27 ?_
  refine J_iload_n X (pc := 30) dX5_roomOn_30 2 rfl ?_
  replace h := bk h
  obtain ⟨r6, g7, h⟩ := h
  refine J_callVL X (pc := 31) (y := yX1_heightOn) (na := 1) (As := [.int a1]) (rest := []) (c_X1_heightOn E ad g7) 5 sW_c5 rfl q_209 q_210 q_211 q_42 q_24 rfl (by decide +kernel) (by decide +kernel) rfl (Nat.le_of_ble_eq_true rfl) ⟨Nat.le_refl _, Nat.le_refl _⟩ dX5_roomOn_31 ?_
  refine J_lload_n X (pc := 34) dX5_roomOn_34 0 rfl ?_
  refine J_lsub X (pc := 35) dX5_roomOn_35 ?_
  replace h := nmv_e h
  obtain ⟨v8, ev8, h⟩ := h
  refine J_nml ev8 ?_
  refine J_lstore X (pc := 36) dX5_roomOn_36 (by decide) rfl ?_
  refine J_lload X (pc := 38) dX5_roomOn_38 0 rfl ?_
  refine J_lconst X (pc := 40) (v := 0) dX5_roomOn_40 (by decide +kernel) ?_
  refine J_mmaxl X (pc := 41) q_198 q_199 q_32 q_200 (by decide +kernel) (by decide +kernel) (Nat.zero_le _) (Nat.zero_le _) dX5_roomOn_41 ?_
  refine J_ldc2 X (pc := 44) dX5_roomOn_44 q_201 ?_
  refine J_mminl X (pc := 47) q_202 q_31 q_32 q_33 (by decide +kernel) (by decide +kernel) (Nat.zero_le _) (Nat.zero_le _) dX5_roomOn_47 ?_
  refine J_l2i X (pc := 50) dX5_roomOn_50 ?_
  cases h
  exact hE _ _ dX5_roomOn_51 rfl
def f_X5_fullDayWithout_9 (S1 : St) : Nat → Int32 → Option (Int32 × St)
  | 0, _ => none
  | n4+1, x3 => if ((1000 : Int32)) < x3 then some ((1000000 : Int32), S1) else (f_X5_roomOn ((S1.1 8) + x3) S1).bind (fun (r7 : Int32) => nmv ((S1.1 0) - r7) (fun (v9 : Int32) => if 0 < v9 then (f_X1_leastDaysToClimb v9 S1).bind (fun (r11 : Int32) => nmv (if ((1 : Int32)) < r11 then r11 else ((1 : Int32))) (fun (v13 : Int32) => nmv (x3 + v13) (fun (v14 : Int32) => f_X5_fullDayWithout_9 S1 n4 v14))) else some ((S1.1 8) + x3, S1)))
def f_X5_fullDayWithout (a1 : Int32) (S : St) : Option (Int32 × St) := (f_X5_drawLineWithout a1 S).bind (fun (S1 : St) => f_X5_fullDayWithout_9 S1 3000 ((1 : Int32)))
set_option maxRecDepth 100000 in
set_option maxHeartbeats 4000000 in
theorem c_X5_fullDayWithout (E : Ev) (ad : Nat → Nat) {a1 : Int32} {S : St} {r : Int32} {S2 : St} (h : f_X5_fullDayWithout a1 S = some (r, S2)) : CtI E yX5_fullDayWithout cX5_fullDayWithout 5 .int 3 73 (sW E ad S) [.ref (ad 0), .int a1] r (sW E ad S2) := by
  refine CtI_of (by decide +kernel) (Nat.le_of_ble_eq_true rfl) (fun x X hE => ?_)
  show J E x 0 0 (sW E ad S) 0 [(0, .ref (ad 0)), (1, .int a1)] []
  unfold f_X5_fullDayWithout at h
  refine J_aload_n X (pc := 0) dX5_fullDayWithout_0 0 rfl ?_
  refine J_iload_n X (pc := 1) dX5_fullDayWithout_1 1 rfl ?_
  replace h := bk h
  obtain ⟨S1, g2, h⟩ := h
  refine J_callVV X (pc := 2) (y := yX5_drawLineWithout) (na := 1) (As := [.int a1]) (rest := []) (c_X5_drawLineWithout E ad g2) 0 sW_c0 rfl q_217 q_218 q_219 q_220 q_197 rfl (by decide +kernel) (by decide +kernel) rfl (Nat.le_of_ble_eq_true rfl) ⟨Nat.le_refl _, Nat.le_refl _⟩ dX5_fullDayWithout_2 ?_
  refine J_iconst X (pc := 5) (v := 1) dX5_fullDayWithout_5 (by decide +kernel) ?_
  refine J_istore_n X (pc := 6) dX5_fullDayWithout_6 (by decide) rfl ?_
  refine J_iconst X (pc := 7) (v := 1) dX5_fullDayWithout_7 (by decide +kernel) ?_
  refine J_istore_n X (pc := 8) dX5_fullDayWithout_8 (by decide) rfl ?_
  have l15 : ∀ (n4 : Nat) (x3 : Int32), f_X5_fullDayWithout_9 S1 n4 x3 = some (r, S2) → J E x 0 0 (sW E ad S1) 9 [(0, .ref (ad 0)), (3, .int x3)] [] := by
    intro n4
    induction n4 with
    | zero => intro x3 h; rw [f_X5_fullDayWithout_9] at h; cases h
    | succ n4 ih5 =>
      intro x3 h
      rw [f_X5_fullDayWithout_9] at h
      refine J_iload_n X (pc := 9) dX5_fullDayWithout_9 1 rfl ?_
      refine J_sipush X (pc := 10) (v := 1000) dX5_fullDayWithout_10 (by decide +kernel) ?_
      refine J_icmp_gt X (pc := 13) 72 dX5_fullDayWithout_13 (by decide) (fun c6 => ?_) (fun c6 => ?_)
      · rw [if_pos c6] at h
        refine J_ldc X (pc := 72) dX5_fullDayWithout_72 q_216 ?_
        cases h
        exact hE _ _ dX5_fullDayWithout_74 rfl
      · rw [if_neg c6] at h
        refine J_aload_n X (pc := 16) dX5_fullDayWithout_16 0 rfl ?_
        refine J_getf X (pc := 17) 0 sW_c0 rfl in_X5 6 (by decide) q_152 rfl dX5_fullDayWithout_17 ?_
        refine J_aload_n X (pc := 20) dX5_fullDayWithout_20 0 rfl ?_
        refine J_aload_n X (pc := 21) dX5_fullDayWithout_21 0 rfl ?_
        refine J_getf X (pc := 22) 0 sW_c0 rfl in_X5 4 (by decide) q_147 rfl dX5_fullDayWithout_22 ?_
        refine J_getfN X (pc := 25) 5 sW_c5 rfl in_X1 0 (by decide) nq_8 rfl dX5_fullDayWithout_25 ?_
        refine J_iload_n X (pc := 28) dX5_fullDayWithout_28 1 rfl ?_
        refine J_iadd X (pc := 29) dX5_fullDayWithout_29 ?_
        replace h := bk h
        obtain ⟨r7, g8, h⟩ := h
        refine J_callVI X (pc := 30) (y := yX5_roomOn) (na := 1) (As := [.int ((S1.1 8) + x3)]) (rest := [.int (S1.1 0)]) (c_X5_roomOn E ad g8) 0 sW_c0 rfl q_221 q_222 q_223 q_220 q_212 rfl (by decide +kernel) (by decide +kernel) rfl (Nat.le_of_ble_eq_true rfl) ⟨Nat.le_refl _, Nat.le_refl _⟩ dX5_fullDayWithout_30 ?_
        refine J_isub X (pc := 33) dX5_fullDayWithout_33 ?_
        replace h := nmv_e h
        obtain ⟨v9, ev9, h⟩ := h
        refine J_nmi ev9 ?_
        refine J_istore X (pc := 34) dX5_fullDayWithout_34 (by decide) rfl ?_
        refine J_iload X (pc := 36) dX5_fullDayWithout_36 0 rfl ?_
        refine J_if_gt X (pc := 38) 51 dX5_fullDayWithout_38 (by decide) (fun c10 => ?_) (fun c10 => ?_)
        · rw [if_pos c10] at h
          refine J_iconst X (pc := 51) (v := 1) dX5_fullDayWithout_51 (by decide +kernel) ?_
          refine J_aload_n X (pc := 52) dX5_fullDayWithout_52 1 rfl ?_
          refine J_getf X (pc := 53) 0 sW_c0 rfl in_X5 4 (by decide) q_147 rfl dX5_fullDayWithout_53 ?_
          refine J_iload X (pc := 56) dX5_fullDayWithout_56 0 rfl ?_
          replace h := bk h
          obtain ⟨r11, g12, h⟩ := h
          refine J_callVI X (pc := 58) (y := yX1_leastDaysToClimb) (na := 1) (As := [.int v9]) (rest := [.int ((1 : Int32))]) (c_X1_leastDaysToClimb E ad g12) 5 sW_c5 rfl q_224 q_225 q_226 q_42 q_28 rfl (by decide +kernel) (by decide +kernel) rfl (Nat.le_of_ble_eq_true rfl) ⟨Nat.le_refl _, Nat.le_refl _⟩ dX5_fullDayWithout_58 ?_
          refine J_mmax X (pc := 61) q_213 q_214 q_32 q_215 (by decide +kernel) (by decide +kernel) (Nat.zero_le _) (Nat.zero_le _) dX5_fullDayWithout_61 ?_
          replace h := nmv_e h
          obtain ⟨v13, ev13, h⟩ := h
          refine J_nmi ev13 ?_
          refine J_istore_n X (pc := 64) dX5_fullDayWithout_64 (by decide) rfl ?_
          refine J_iload_n X (pc := 65) dX5_fullDayWithout_65 3 rfl ?_
          refine J_iload_n X (pc := 66) dX5_fullDayWithout_66 0 rfl ?_
          refine J_iadd X (pc := 67) dX5_fullDayWithout_67 ?_
          replace h := nmv_e h
          obtain ⟨v14, ev14, h⟩ := h
          refine J_nmi ev14 ?_
          refine J_istore_n X (pc := 68) dX5_fullDayWithout_68 (by decide) rfl ?_
          refine J_goto X (pc := 69) 9 dX5_fullDayWithout_69 (by decide) ?_
          exact J_sub [3, 0] rfl (ih5 _ h)
        · rw [if_neg c10] at h
          refine J_aload_n X (pc := 41) dX5_fullDayWithout_41 1 rfl ?_
          refine J_getf X (pc := 42) 0 sW_c0 rfl in_X5 4 (by decide) q_147 rfl dX5_fullDayWithout_42 ?_
          refine J_getfN X (pc := 45) 5 sW_c5 rfl in_X1 0 (by decide) nq_8 rfl dX5_fullDayWithout_45 ?_
          refine J_iload_n X (pc := 48) dX5_fullDayWithout_48 2 rfl ?_
          refine J_iadd X (pc := 49) dX5_fullDayWithout_49 ?_
          cases h
          exact hE _ _ dX5_fullDayWithout_50 rfl
  exact J_sub [2, 0] rfl (l15 3000 _ h)
def f_X5_fullDay (S : St) : Option (Int32 × St) := (f_X5_hasSlope S).bind (fun (r1 : Int32) => if r1 = 0 then some ((1000000 : Int32), S) else (f_X5_fullDayWithout ((-1 : Int32)) S).bind (fun ((r4, S5) : Int32 × St) => some (r4, S5)))
set_option maxRecDepth 100000 in
set_option maxHeartbeats 4000000 in
theorem c_X5_fullDay (E : Ev) (ad : Nat → Nat) {S : St} {r : Int32} {S2 : St} (h : f_X5_fullDay S = some (r, S2)) : CtI E yX5_fullDay cX5_fullDay 1 .int 4 97 (sW E ad S) [.ref (ad 0)] r (sW E ad S2) := by
  refine CtI_of (by decide +kernel) (Nat.le_of_ble_eq_true rfl) (fun x X hE => ?_)
  show J E x 0 0 (sW E ad S) 0 [(0, .ref (ad 0))] []
  unfold f_X5_fullDay at h
  refine J_aload_n X (pc := 0) dX5_fullDay_0 0 rfl ?_
  replace h := bk h
  obtain ⟨r1, g2, h⟩ := h
  refine J_callVI X (pc := 1) (y := yX5_hasSlope) (na := 0) (As := []) (rest := []) (c_X5_hasSlope E ad g2) 0 sW_c0 rfl q_228 q_229 q_230 q_220 q_177 rfl (by decide +kernel) (by decide +kernel) rfl (Nat.le_of_ble_eq_true rfl) ⟨Nat.le_refl _, Nat.le_refl _⟩ dX5_fullDay_1 ?_
  refine J_if_eq X (pc := 4) 15 dX5_fullDay_4 (by decide) (fun c3 => ?_) (fun c3 => ?_)
  · rw [if_pos c3] at h
    refine J_ldc X (pc := 15) dX5_fullDay_15 q_216 ?_
    cases h
    exact hE _ _ dX5_fullDay_17 rfl
  · rw [if_neg c3] at h
    refine J_aload_n X (pc := 7) dX5_fullDay_7 0 rfl ?_
    refine J_iconst X (pc := 8) (v := -1) dX5_fullDay_8 (by decide +kernel) ?_
    replace h := bk h
    obtain ⟨⟨r4, S5⟩, g6, h⟩ := h
    dsimp only at h
    refine J_callVI X (pc := 9) (y := yX5_fullDayWithout) (na := 1) (As := [.int ((-1 : Int32))]) (rest := []) (c_X5_fullDayWithout E ad g6) 0 sW_c0 rfl q_231 q_232 q_233 q_220 q_227 rfl (by decide +kernel) (by decide +kernel) rfl (Nat.le_of_ble_eq_true rfl) ⟨Nat.le_refl _, Nat.le_refl _⟩ dX5_fullDay_9 ?_
    refine J_goto X (pc := 12) 17 dX5_fullDay_12 (by decide) ?_
    cases h
    exact hE _ _ dX5_fullDay_17 rfl
def f_X5_earlyBound_22 : Nat → Int32 → Int32 → St → Option (Int32 × St)
  | 0, _, _, _ => none
  | n10+1, x7, x8, S9 => (f_X4_number S9).bind (fun (r16 : Int32) => if r16 ≤ x8 then some (x7, S9) else (f_X5_fullDayWithout x8 S9).bind (fun ((r19, S20) : Int32 × St) => nmv (if r19 < x7 then r19 else x7) (fun (v22 : Int32) => nmv (x8 + (1 : Int32)) (fun (v23 : Int32) => f_X5_earlyBound_22 n10 v22 v23 S20))))
def f_X5_earlyBound (S : St) : Option (Int32 × St) := (f_X4_number S).bind (fun (r1 : Int32) => if ((3 : Int32)) ≤ r1 then (f_X5_fullDayWithout ((-1 : Int32)) S).bind (fun ((r4, S5) : Int32 × St) => (f_X5_earlyBound_22 3000 r4 ((0 : Int32)) S5).bind (fun ((r12, S13) : Int32 × St) => some (r12, S13))) else some ((1000000 : Int32), S))
set_option maxRecDepth 100000 in
set_option maxHeartbeats 4000000 in
theorem c_X5_earlyBound (E : Ev) (ad : Nat → Nat) {S : St} {r : Int32} {S2 : St} (h : f_X5_earlyBound S = some (r, S2)) : CtI E yX5_earlyBound cX5_earlyBound 3 .int 4 97 (sW E ad S) [.ref (ad 0)] r (sW E ad S2) := by
  refine CtI_of (by decide +kernel) (Nat.le_of_ble_eq_true rfl) (fun x X hE => ?_)
  show J E x 0 0 (sW E ad S) 0 [(0, .ref (ad 0))] []
  unfold f_X5_earlyBound at h
  refine J_aload_n X (pc := 0) dX5_earlyBound_0 0 rfl ?_
  refine J_getf X (pc := 1) 0 sW_c0 rfl in_X5 0 (by decide) q_134 rfl dX5_earlyBound_1 ?_
  replace h := bk h
  obtain ⟨r1, g2, h⟩ := h
  refine J_callVI X (pc := 4) (y := yX4_number) (na := 0) (As := []) (rest := []) (c_X4_number E ad g2) 1 sW_c1 rfl q_178 q_88 q_89 q_58 q_50 rfl (by decide +kernel) (by decide +kernel) rfl (Nat.le_of_ble_eq_true rfl) ⟨Nat.le_refl _, Nat.le_refl _⟩ dX5_earlyBound_4 ?_
  refine J_iconst X (pc := 7) (v := 3) dX5_earlyBound_7 (by decide +kernel) ?_
  refine J_icmp_ge X (pc := 8) 14 dX5_earlyBound_8 (by decide) (fun c3 => ?_) (fun c3 => ?_)
  · rw [if_pos c3] at h
    refine J_aload_n X (pc := 14) dX5_earlyBound_14 0 rfl ?_
    refine J_iconst X (pc := 15) (v := -1) dX5_earlyBound_15 (by decide +kernel) ?_
    replace h := bk h
    obtain ⟨⟨r4, S5⟩, g6, h⟩ := h
    dsimp only at h
    refine J_callVI X (pc := 16) (y := yX5_fullDayWithout) (na := 1) (As := [.int ((-1 : Int32))]) (rest := []) (c_X5_fullDayWithout E ad g6) 0 sW_c0 rfl q_231 q_232 q_233 q_220 q_227 rfl (by decide +kernel) (by decide +kernel) rfl (Nat.le_of_ble_eq_true rfl) ⟨Nat.le_refl _, Nat.le_refl _⟩ dX5_earlyBound_16 ?_
    refine J_istore_n X (pc := 19) dX5_earlyBound_19 (by decide) rfl ?_
    refine J_iconst X (pc := 20) (v := 0) dX5_earlyBound_20 (by decide +kernel) ?_
    refine J_istore_n X (pc := 21) dX5_earlyBound_21 (by decide) rfl ?_
    replace h := bk h
    obtain ⟨⟨r12, S13⟩, g15, h⟩ := h
    dsimp only at h
    have k14 : J E x 0 0 (sW E ad S13) 49 [(1, .int r12)] [] := by
      refine J_iload_n X (pc := 49) dX5_earlyBound_49 0 rfl ?_
      cases h
      exact hE _ _ dX5_earlyBound_50 rfl
    clear h
    have l24 : ∀ (n10 : Nat) (x7 : Int32) (x8 : Int32) (S9 : St), f_X5_earlyBound_22 n10 x7 x8 S9 = some (r12, S13) → J E x 0 0 (sW E ad S9) 22 [(0, .ref (ad 0)), (1, .int x7), (2, .int x8)] [] := by
      intro n10
      induction n10 with
      | zero => intro x7 x8 S9 h; rw [f_X5_earlyBound_22] at h; cases h
      | succ n10 ih11 =>
        intro x7 x8 S9 h
        rw [f_X5_earlyBound_22] at h
        refine J_iload_n X (pc := 22) dX5_earlyBound_22 2 rfl ?_
        refine J_aload_n X (pc := 23) dX5_earlyBound_23 0 rfl ?_
        refine J_getf X (pc := 24) 0 sW_c0 rfl in_X5 0 (by decide) q_134 rfl dX5_earlyBound_24 ?_
        replace h := bk h
        obtain ⟨r16, g17, h⟩ := h
        refine J_callVI X (pc := 27) (y := yX4_number) (na := 0) (As := []) (rest := [.int x8]) (c_X4_number E ad g17) 1 sW_c1 rfl q_178 q_88 q_89 q_58 q_50 rfl (by decide +kernel) (by decide +kernel) rfl (Nat.le_of_ble_eq_true rfl) ⟨Nat.le_refl _, Nat.le_refl _⟩ dX5_earlyBound_27 ?_
        refine J_icmp_ge X (pc := 30) 49 dX5_earlyBound_30 (by decide) (fun c18 => ?_) (fun c18 => ?_)
        · rw [if_pos c18] at h
          cases h
          exact J_sub [1] rfl k14
        · rw [if_neg c18] at h
          refine J_iload_n X (pc := 33) dX5_earlyBound_33 1 rfl ?_
          refine J_aload_n X (pc := 34) dX5_earlyBound_34 0 rfl ?_
          refine J_iload_n X (pc := 35) dX5_earlyBound_35 2 rfl ?_
          replace h := bk h
          obtain ⟨⟨r19, S20⟩, g21, h⟩ := h
          dsimp only at h
          refine J_callVI X (pc := 36) (y := yX5_fullDayWithout) (na := 1) (As := [.int x8]) (rest := [.int x7]) (c_X5_fullDayWithout E ad g21) 0 sW_c0 rfl q_231 q_232 q_233 q_220 q_227 rfl (by decide +kernel) (by decide +kernel) rfl (Nat.le_of_ble_eq_true rfl) ⟨Nat.le_refl _, Nat.le_refl _⟩ dX5_earlyBound_36 ?_
          refine J_mmin X (pc := 39) q_235 q_236 q_32 q_237 (by decide +kernel) (by decide +kernel) (Nat.zero_le _) (Nat.zero_le _) dX5_earlyBound_39 ?_
          replace h := nmv_e h
          obtain ⟨v22, ev22, h⟩ := h
          refine J_nmi ev22 ?_
          refine J_istore_n X (pc := 42) dX5_earlyBound_42 (by decide) rfl ?_
          replace h := nmv_e h
          obtain ⟨v23, ev23, h⟩ := h
          refine J_iinc X (pc := 43) (v := v23) dX5_earlyBound_43 2 rfl (by rw [ev23]; rfl) (by decide) rfl ?_
          refine J_goto X (pc := 46) 22 dX5_earlyBound_46 (by decide) ?_
          exact J_sub [2, 1, 0] rfl (ih11 _ _ _ h)
    exact J_sub [2, 1, 0] rfl (l24 3000 _ _ _ g15)
  · rw [if_neg c3] at h
    refine J_ldc X (pc := 11) dX5_earlyBound_11 q_216 ?_
    cases h
    exact hE _ _ dX5_earlyBound_13 rfl
def f_X5_lateBound_22 : Nat → Int32 → Int32 → St → Option (Int32 × St)
  | 0, _, _, _ => none
  | n10+1, x7, x8, S9 => (f_X4_number S9).bind (fun (r16 : Int32) => if r16 ≤ x8 then some (x7, S9) else (f_X5_fullDayWithout x8 S9).bind (fun ((r19, S20) : Int32 × St) => nmv (if x7 < r19 then r19 else x7) (fun (v22 : Int32) => nmv (x8 + (1 : Int32)) (fun (v23 : Int32) => f_X5_lateBound_22 n10 v22 v23 S20))))
def f_X5_lateBound (S : St) : Option (Int32 × St) := (f_X4_number S).bind (fun (r1 : Int32) => if ((3 : Int32)) ≤ r1 then (f_X5_fullDayWithout ((-1 : Int32)) S).bind (fun ((r4, S5) : Int32 × St) => (f_X5_lateBound_22 3000 r4 ((0 : Int32)) S5).bind (fun ((r12, S13) : Int32 × St) => some (r12, S13))) else some ((1000000 : Int32), S))
set_option maxRecDepth 100000 in
set_option maxHeartbeats 4000000 in
theorem c_X5_lateBound (E : Ev) (ad : Nat → Nat) {S : St} {r : Int32} {S2 : St} (h : f_X5_lateBound S = some (r, S2)) : CtI E yX5_lateBound cX5_lateBound 3 .int 4 97 (sW E ad S) [.ref (ad 0)] r (sW E ad S2) := by
  refine CtI_of (by decide +kernel) (Nat.le_of_ble_eq_true rfl) (fun x X hE => ?_)
  show J E x 0 0 (sW E ad S) 0 [(0, .ref (ad 0))] []
  unfold f_X5_lateBound at h
  refine J_aload_n X (pc := 0) dX5_lateBound_0 0 rfl ?_
  refine J_getf X (pc := 1) 0 sW_c0 rfl in_X5 0 (by decide) q_134 rfl dX5_lateBound_1 ?_
  replace h := bk h
  obtain ⟨r1, g2, h⟩ := h
  refine J_callVI X (pc := 4) (y := yX4_number) (na := 0) (As := []) (rest := []) (c_X4_number E ad g2) 1 sW_c1 rfl q_178 q_88 q_89 q_58 q_50 rfl (by decide +kernel) (by decide +kernel) rfl (Nat.le_of_ble_eq_true rfl) ⟨Nat.le_refl _, Nat.le_refl _⟩ dX5_lateBound_4 ?_
  refine J_iconst X (pc := 7) (v := 3) dX5_lateBound_7 (by decide +kernel) ?_
  refine J_icmp_ge X (pc := 8) 14 dX5_lateBound_8 (by decide) (fun c3 => ?_) (fun c3 => ?_)
  · rw [if_pos c3] at h
    refine J_aload_n X (pc := 14) dX5_lateBound_14 0 rfl ?_
    refine J_iconst X (pc := 15) (v := -1) dX5_lateBound_15 (by decide +kernel) ?_
    replace h := bk h
    obtain ⟨⟨r4, S5⟩, g6, h⟩ := h
    dsimp only at h
    refine J_callVI X (pc := 16) (y := yX5_fullDayWithout) (na := 1) (As := [.int ((-1 : Int32))]) (rest := []) (c_X5_fullDayWithout E ad g6) 0 sW_c0 rfl q_231 q_232 q_233 q_220 q_227 rfl (by decide +kernel) (by decide +kernel) rfl (Nat.le_of_ble_eq_true rfl) ⟨Nat.le_refl _, Nat.le_refl _⟩ dX5_lateBound_16 ?_
    refine J_istore_n X (pc := 19) dX5_lateBound_19 (by decide) rfl ?_
    refine J_iconst X (pc := 20) (v := 0) dX5_lateBound_20 (by decide +kernel) ?_
    refine J_istore_n X (pc := 21) dX5_lateBound_21 (by decide) rfl ?_
    replace h := bk h
    obtain ⟨⟨r12, S13⟩, g15, h⟩ := h
    dsimp only at h
    have k14 : J E x 0 0 (sW E ad S13) 49 [(1, .int r12)] [] := by
      refine J_iload_n X (pc := 49) dX5_lateBound_49 0 rfl ?_
      cases h
      exact hE _ _ dX5_lateBound_50 rfl
    clear h
    have l24 : ∀ (n10 : Nat) (x7 : Int32) (x8 : Int32) (S9 : St), f_X5_lateBound_22 n10 x7 x8 S9 = some (r12, S13) → J E x 0 0 (sW E ad S9) 22 [(0, .ref (ad 0)), (1, .int x7), (2, .int x8)] [] := by
      intro n10
      induction n10 with
      | zero => intro x7 x8 S9 h; rw [f_X5_lateBound_22] at h; cases h
      | succ n10 ih11 =>
        intro x7 x8 S9 h
        rw [f_X5_lateBound_22] at h
        refine J_iload_n X (pc := 22) dX5_lateBound_22 2 rfl ?_
        refine J_aload_n X (pc := 23) dX5_lateBound_23 0 rfl ?_
        refine J_getf X (pc := 24) 0 sW_c0 rfl in_X5 0 (by decide) q_134 rfl dX5_lateBound_24 ?_
        replace h := bk h
        obtain ⟨r16, g17, h⟩ := h
        refine J_callVI X (pc := 27) (y := yX4_number) (na := 0) (As := []) (rest := [.int x8]) (c_X4_number E ad g17) 1 sW_c1 rfl q_178 q_88 q_89 q_58 q_50 rfl (by decide +kernel) (by decide +kernel) rfl (Nat.le_of_ble_eq_true rfl) ⟨Nat.le_refl _, Nat.le_refl _⟩ dX5_lateBound_27 ?_
        refine J_icmp_ge X (pc := 30) 49 dX5_lateBound_30 (by decide) (fun c18 => ?_) (fun c18 => ?_)
        · rw [if_pos c18] at h
          cases h
          exact J_sub [1] rfl k14
        · rw [if_neg c18] at h
          refine J_iload_n X (pc := 33) dX5_lateBound_33 1 rfl ?_
          refine J_aload_n X (pc := 34) dX5_lateBound_34 0 rfl ?_
          refine J_iload_n X (pc := 35) dX5_lateBound_35 2 rfl ?_
          replace h := bk h
          obtain ⟨⟨r19, S20⟩, g21, h⟩ := h
          dsimp only at h
          refine J_callVI X (pc := 36) (y := yX5_fullDayWithout) (na := 1) (As := [.int x8]) (rest := [.int x7]) (c_X5_fullDayWithout E ad g21) 0 sW_c0 rfl q_231 q_232 q_233 q_220 q_227 rfl (by decide +kernel) (by decide +kernel) rfl (Nat.le_of_ble_eq_true rfl) ⟨Nat.le_refl _, Nat.le_refl _⟩ dX5_lateBound_36 ?_
          refine J_mmax X (pc := 39) q_213 q_214 q_32 q_215 (by decide +kernel) (by decide +kernel) (Nat.zero_le _) (Nat.zero_le _) dX5_lateBound_39 ?_
          replace h := nmv_e h
          obtain ⟨v22, ev22, h⟩ := h
          refine J_nmi ev22 ?_
          refine J_istore_n X (pc := 42) dX5_lateBound_42 (by decide) rfl ?_
          replace h := nmv_e h
          obtain ⟨v23, ev23, h⟩ := h
          refine J_iinc X (pc := 43) (v := v23) dX5_lateBound_43 2 rfl (by rw [ev23]; rfl) (by decide) rfl ?_
          refine J_goto X (pc := 46) 22 dX5_lateBound_46 (by decide) ?_
          exact J_sub [2, 1, 0] rfl (ih11 _ _ _ h)
    exact J_sub [2, 1, 0] rfl (l24 3000 _ _ _ g15)
  · rw [if_neg c3] at h
    refine J_ldc X (pc := 11) dX5_lateBound_11 q_216 ?_
    cases h
    exact hE _ _ dX5_lateBound_13 rfl
def f_X5_lookOnDaysAfter_11 (a1 : Int32) (a2 : Int32) (r1 : Int32) : Nat → Int32 → Int32 → St → Option (Int32 × St)
  | 0, _, _, _ => none
  | n7+1, x4, x5, S6 => if a2 < x5 then some (x4, S6) else (f_X6_lookChanges r1 (a1 + x5) S6).bind (fun ((r14, S15) : Int32 × St) => (if r14 = 0 then some x4 else nmv (x4 + (1 : Int32)) (fun (v21 : Int32) => some v21)).bind (fun (r18 : Int32) => nmv (x5 + (1 : Int32)) (fun (v22 : Int32) => f_X5_lookOnDaysAfter_11 a1 a2 r1 n7 r18 v22 S15)))
def f_X5_lookOnDaysAfter (a1 : Int32) (a2 : Int32) (S : St) : Option (Int32 × St) := (f_X5_earlyBound S).bind (fun ((r1, S2) : Int32 × St) => (f_X5_lookOnDaysAfter_11 a1 a2 r1 3000 ((0 : Int32)) ((1 : Int32)) S2).bind (fun ((r9, S10) : Int32 × St) => some (r9, S10)))
set_option maxRecDepth 100000 in
set_option maxHeartbeats 4000000 in
theorem c_X5_lookOnDaysAfter (E : Ev) (ad : Nat → Nat) {a1 : Int32} {a2 : Int32} {S : St} {r : Int32} {S2 : St} (h : f_X5_lookOnDaysAfter a1 a2 S = some (r, S2)) : CtI E yX5_lookOnDaysAfter cX5_lookOnDaysAfter 6 .int 5 119 (sW E ad S) [.ref (ad 0), .int a1, .int a2] r (sW E ad S2) := by
  refine CtI_of (by decide +kernel) (Nat.le_of_ble_eq_true rfl) (fun x X hE => ?_)
  show J E x 0 0 (sW E ad S) 0 [(0, .ref (ad 0)), (1, .int a1), (2, .int a2)] []
  unfold f_X5_lookOnDaysAfter at h
  refine J_aload_n X (pc := 0) dX5_lookOnDaysAfter_0 0 rfl ?_
  replace h := bk h
  obtain ⟨⟨r1, S2⟩, g3, h⟩ := h
  dsimp only at h
  refine J_callVI X (pc := 1) (y := yX5_earlyBound) (na := 0) (As := []) (rest := []) (c_X5_earlyBound E ad g3) 0 sW_c0 rfl q_243 q_244 q_245 q_220 q_238 rfl (by decide +kernel) (by decide +kernel) rfl (Nat.le_of_ble_eq_true rfl) ⟨Nat.le_refl _, Nat.le_refl _⟩ dX5_lookOnDaysAfter_1 ?_
  refine J_istore_n X (pc := 4) dX5_lookOnDaysAfter_4 (by decide) rfl ?_
  refine J_iconst X (pc := 5) (v := 0) dX5_lookOnDaysAfter_5 (by decide +kernel) ?_
  refine J_istore X (pc := 6) dX5_lookOnDaysAfter_6 (by decide) rfl ?_
  refine J_iconst X (pc := 8) (v := 1) dX5_lookOnDaysAfter_8 (by decide +kernel) ?_
  refine J_istore X (pc := 9) dX5_lookOnDaysAfter_9 (by decide) rfl ?_
  replace h := bk h
  obtain ⟨⟨r9, S10⟩, g12, h⟩ := h
  dsimp only at h
  have k11 : J E x 0 0 (sW E ad S10) 41 [(4, .int r9)] [] := by
    refine J_iload X (pc := 41) dX5_lookOnDaysAfter_41 0 rfl ?_
    cases h
    exact hE _ _ dX5_lookOnDaysAfter_43 rfl
  clear h
  have l23 : ∀ (n7 : Nat) (x4 : Int32) (x5 : Int32) (S6 : St), f_X5_lookOnDaysAfter_11 a1 a2 r1 n7 x4 x5 S6 = some (r9, S10) → J E x 0 0 (sW E ad S6) 11 [(0, .ref (ad 0)), (1, .int a1), (2, .int a2), (3, .int r1), (4, .int x4), (5, .int x5)] [] := by
    intro n7
    induction n7 with
    | zero => intro x4 x5 S6 h; rw [f_X5_lookOnDaysAfter_11] at h; cases h
    | succ n7 ih8 =>
      intro x4 x5 S6 h
      rw [f_X5_lookOnDaysAfter_11] at h
      refine J_iload X (pc := 11) dX5_lookOnDaysAfter_11 5 rfl ?_
      refine J_iload_n X (pc := 13) dX5_lookOnDaysAfter_13 2 rfl ?_
      refine J_icmp_gt X (pc := 14) 41 dX5_lookOnDaysAfter_14 (by decide) (fun c13 => ?_) (fun c13 => ?_)
      · rw [if_pos c13] at h
        cases h
        exact J_sub [4] rfl k11
      · rw [if_neg c13] at h
        refine J_aload_n X (pc := 17) dX5_lookOnDaysAfter_17 0 rfl ?_
        refine J_getf X (pc := 18) 0 sW_c0 rfl in_X5 5 (by decide) q_151 rfl dX5_lookOnDaysAfter_18 ?_
        refine J_iload_n X (pc := 21) dX5_lookOnDaysAfter_21 3 rfl ?_
        refine J_iload_n X (pc := 22) dX5_lookOnDaysAfter_22 1 rfl ?_
        refine J_iload X (pc := 23) dX5_lookOnDaysAfter_23 5 rfl ?_
        refine J_iadd X (pc := 25) dX5_lookOnDaysAfter_25 ?_
        replace h := bk h
        obtain ⟨⟨r14, S15⟩, g16, h⟩ := h
        dsimp only at h
        refine J_callVI X (pc := 26) (y := yX6_lookChanges) (na := 2) (As := [.int r1, .int (a1 + x5)]) (rest := []) (c_X6_lookChanges E ad g16) 6 sW_c6 rfl q_246 q_247 q_248 q_150 q_240 rfl (by decide +kernel) (by decide +kernel) rfl (Nat.le_of_ble_eq_true rfl) ⟨Nat.le_refl _, Nat.le_refl _⟩ dX5_lookOnDaysAfter_26 ?_
        replace h := bk h
        obtain ⟨r18, g20, h⟩ := h
        have j19 : J E x 0 0 (sW E ad S15) 35 [(0, .ref (ad 0)), (1, .int a1), (2, .int a2), (3, .int r1), (4, .int r18), (5, .int x5)] [] := by
          replace h := nmv_e h
          obtain ⟨v22, ev22, h⟩ := h
          refine J_iinc X (pc := 35) (v := v22) dX5_lookOnDaysAfter_35 5 rfl (by rw [ev22]; rfl) (by decide) rfl ?_
          refine J_goto X (pc := 38) 11 dX5_lookOnDaysAfter_38 (by decide) ?_
          exact J_sub [1, 2, 3, 4, 5, 0] rfl (ih8 _ _ _ h)
        refine J_if_eq X (pc := 29) 35 dX5_lookOnDaysAfter_29 (by decide) (fun c17 => ?_) (fun c17 => ?_)
        · rw [if_pos c17] at g20
          cases g20
          exact J_sub [0, 1, 2, 3, 4, 5] rfl j19
        · rw [if_neg c17] at g20
          replace g20 := nmv_e g20
          obtain ⟨v21, ev21, g20⟩ := g20
          refine J_iinc X (pc := 32) (v := v21) dX5_lookOnDaysAfter_32 4 rfl (by rw [ev21]; rfl) (by decide) rfl ?_
          cases g20
          exact J_sub [1, 2, 3, 4, 0, 5] rfl j19
  exact J_sub [3, 4, 5, 2, 1, 0] rfl (l23 3000 _ _ _ g12)
