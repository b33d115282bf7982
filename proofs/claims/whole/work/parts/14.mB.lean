def f_X8_ruled (a1 : Int32) (a2 : Int32) (S : St) : Option (Int32) := ck (inb a1 8) (if (S.2 8 a1.toNatClampNeg) = 0 then some ((0 : Int32)) else ck (inb a1 8) (if (S.2 7 a1.toNatClampNeg) ≤ a2 then ck (inb a1 8) (ck (inb a1 8) (ck (¬ (S.2 8 a1.toNatClampNeg) = 0) (some (((a2 - (S.2 7 a1.toNatClampNeg)) / (S.2 8 a1.toNatClampNeg)) + ((1 : Int32)))))) else some ((0 : Int32))))
set_option maxRecDepth 100000 in
set_option maxHeartbeats 4000000 in
theorem c_X8_ruled (E : Ev) (ad : Nat → Nat) {a1 : Int32} {a2 : Int32} {S : St} {r : Int32} (h : f_X8_ruled a1 a2 S = some r) : CtI E yX8_ruled cX8_ruled 3 .int 0 0 (mW E ad S) [.ref (ad 0), .int a1, .int a2] r (mW E ad S) := by
  refine CtI_of (by decide +kernel) (Nat.le_of_ble_eq_true rfl) (fun x X hE => ?_)
  show J E x 0 0 (mW E ad S) 0 [(0, .ref (ad 0)), (1, .int a1), (2, .int a2)] []
  unfold f_X8_ruled at h
  refine J_aload_n X (pc := 0) dX8_ruled_0 0 rfl ?_
  refine J_getf X (pc := 1) 0 mW_c0 rfl in_X8 10 (by decide) q_441 rfl dX8_ruled_1 ?_
  refine J_iload_n X (pc := 4) dX8_ruled_4 1 rfl ?_
  replace h := ck_e h
  obtain ⟨b1, h⟩ := h
  refine J_iald X (pc := 5) 9 mW_c9 b1 dX8_ruled_5 ?_
  refine J_if_eq X (pc := 6) 19 dX8_ruled_6 (by decide) (fun c2 => ?_) (fun c2 => ?_)
  · rw [if_pos c2] at h
    refine J_iconst X (pc := 19) (v := 0) dX8_ruled_19 (by decide +kernel) ?_
    refine J_goto X (pc := 20) 40 dX8_ruled_20 (by decide) ?_
    cases h
    exact hE _ _ dX8_ruled_40 rfl
  · rw [if_neg c2] at h
    refine J_iload_n X (pc := 9) dX8_ruled_9 2 rfl ?_
    refine J_aload_n X (pc := 10) dX8_ruled_10 0 rfl ?_
    refine J_getf X (pc := 11) 0 mW_c0 rfl in_X8 9 (by decide) q_440 rfl dX8_ruled_11 ?_
    refine J_iload_n X (pc := 14) dX8_ruled_14 1 rfl ?_
    replace h := ck_e h
    obtain ⟨b3, h⟩ := h
    refine J_iald X (pc := 15) 8 mW_c8 b3 dX8_ruled_15 ?_
    refine J_icmp_ge X (pc := 16) 23 dX8_ruled_16 (by decide) (fun c4 => ?_) (fun c4 => ?_)
    · rw [if_pos c4] at h
      refine J_iload_n X (pc := 23) dX8_ruled_23 2 rfl ?_
      refine J_aload_n X (pc := 24) dX8_ruled_24 0 rfl ?_
      refine J_getf X (pc := 25) 0 mW_c0 rfl in_X8 9 (by decide) q_440 rfl dX8_ruled_25 ?_
      refine J_iload_n X (pc := 28) dX8_ruled_28 1 rfl ?_
      replace h := ck_e h
      obtain ⟨b5, h⟩ := h
      refine J_iald X (pc := 29) 8 mW_c8 b5 dX8_ruled_29 ?_
      refine J_isub X (pc := 30) dX8_ruled_30 ?_
      refine J_aload_n X (pc := 31) dX8_ruled_31 0 rfl ?_
      refine J_getf X (pc := 32) 0 mW_c0 rfl in_X8 10 (by decide) q_441 rfl dX8_ruled_32 ?_
      refine J_iload_n X (pc := 35) dX8_ruled_35 1 rfl ?_
      replace h := ck_e h
      obtain ⟨b6, h⟩ := h
      refine J_iald X (pc := 36) 9 mW_c9 b6 dX8_ruled_36 ?_
      replace h := ck_e h
      obtain ⟨b7, h⟩ := h
      refine J_idiv X (pc := 37) dX8_ruled_37 b7 ?_
      refine J_iconst X (pc := 38) (v := 1) dX8_ruled_38 (by decide +kernel) ?_
      refine J_iadd X (pc := 39) dX8_ruled_39 ?_
      cases h
      exact hE _ _ dX8_ruled_40 rfl
    · rw [if_neg c4] at h
      refine J_iconst X (pc := 19) (v := 0) dX8_ruled_19 (by decide +kernel) ?_
      refine J_goto X (pc := 20) 40 dX8_ruled_20 (by decide) ?_
      cases h
      exact hE _ _ dX8_ruled_40 rfl
def f_X8_forecastFor (a1 : Int32) (a2 : Int32) (a3 : Int32) (S : St) : Option (Int64) := nmv (((S.1 3).toInt64) * ((a2 - (S.1 5)).toInt64)) (fun (v1 : Int64) => ck (¬ ((S.1 4).toInt64) = 0) (nmv (v1 / ((S.1 4).toInt64)) (fun (v3 : Int64) => (if 0 ≤ (lg_cmp v1 ((0 : Int64))) then some ((0 : Int64)) else ck (¬ ((S.1 4).toInt64) = 0) (if (lg_cmp (v1 - v1 / ((S.1 4).toInt64) * ((S.1 4).toInt64)) ((0 : Int64))) = 0 then some ((0 : Int64)) else some ((1 : Int64)))).bind (fun (r5 : Int64) => nmv (v3 - r5) (fun (v10 : Int64) => (f_X8_ruled a1 a2 S).bind (fun (r11 : Int32) => (f_X8_ruled a1 (S.1 5) S).bind (fun (r13 : Int32) => nmv ((((S.1 6).toInt64) + v10) - (a3.toInt64 * ((r11 - r13).toInt64))) (fun (v15 : Int64) => if 0 ≤ (lg_cmp v15 ((0 : Int64))) then if (lg_cmp v15 ((2000000000 : Int64))) ≤ 0 then some v15 else some ((2000000000 : Int64)) else some ((0 : Int64))))))))))
set_option maxRecDepth 100000 in
set_option maxHeartbeats 4000000 in
theorem c_X8_forecastFor (E : Ev) (ad : Nat → Nat) {a1 : Int32} {a2 : Int32} {a3 : Int32} {S : St} {r : Int64} (h : f_X8_forecastFor a1 a2 a3 S = some r) : CtL E yX8_forecastFor cX8_forecastFor 10 1 22 (mW E ad S) [.ref (ad 0), .int a1, .int a2, .int a3] r (mW E ad S) := by
  refine CtL_of (by decide +kernel) (Nat.le_of_ble_eq_true rfl) (fun x X hE => ?_)
  show J E x 0 0 (mW E ad S) 0 [(0, .ref (ad 0)), (1, .int a1), (2, .int a2), (3, .int a3)] []
  unfold f_X8_forecastFor at h
  refine J_aload_n X (pc := 0) dX8_forecastFor_0 0 rfl ?_
  refine J_getf X (pc := 1) 0 mW_c0 rfl in_X8 25 (by decide) q_491 rfl dX8_forecastFor_1 ?_
  refine J_i2l X (pc := 4) dX8_forecastFor_4 ?_
  refine J_iload_n X (pc := 5) dX8_forecastFor_5 2 rfl ?_
  refine J_aload_n X (pc := 6) dX8_forecastFor_6 0 rfl ?_
  refine J_getf X (pc := 7) 0 mW_c0 rfl in_X8 27 (by decide) q_486 rfl dX8_forecastFor_7 ?_
  refine J_isub X (pc := 10) dX8_forecastFor_10 ?_
  refine J_i2l X (pc := 11) dX8_forecastFor_11 ?_
  refine J_lmul X (pc := 12) dX8_forecastFor_12 ?_
  replace h := nmv_e h
  obtain ⟨v1, ev1, h⟩ := h
  refine J_nml ev1 ?_
  refine J_lstore X (pc := 13) dX8_forecastFor_13 (by decide) rfl ?_
  refine J_lload X (pc := 15) dX8_forecastFor_15 0 rfl ?_
  refine J_aload_n X (pc := 17) dX8_forecastFor_17 1 rfl ?_
  refine J_getf X (pc := 18) 0 mW_c0 rfl in_X8 26 (by decide) q_492 rfl dX8_forecastFor_18 ?_
  refine J_i2l X (pc := 21) dX8_forecastFor_21 ?_
  replace h := ck_e h
  obtain ⟨b2, h⟩ := h
  refine J_ldiv X (pc := 22) dX8_forecastFor_22 b2 ?_
  replace h := nmv_e h
  obtain ⟨v3, ev3, h⟩ := h
  refine J_nml ev3 ?_
  refine J_lstore X (pc := 23) dX8_forecastFor_23 (by decide) rfl ?_
  refine J_lload X (pc := 25) dX8_forecastFor_25 0 rfl ?_
  refine J_lload X (pc := 27) dX8_forecastFor_27 1 rfl ?_
  refine J_lconst X (pc := 29) (v := 0) dX8_forecastFor_29 (by decide +kernel) ?_
  refine J_lcmp X (pc := 30) dX8_forecastFor_30 ?_
  replace h := bk h
  obtain ⟨r5, g7, h⟩ := h
  have j6 : J E x 0 0 (mW E ad S) 52 [(0, .ref (ad 0)), (1, .int a1), (2, .int a2), (3, .int a3)] [.long r5, .long v3] := by
    refine J_lsub X (pc := 52) dX8_forecastFor_52 ?_
    replace h := nmv_e h
    obtain ⟨v10, ev10, h⟩ := h
    refine J_nml ev10 ?_
    refine J_lstore X (pc := 53) dX8_forecastFor_53 (by decide) rfl ?_
    refine J_aload_n X (pc := 55) dX8_forecastFor_55 1 rfl ?_
    refine J_getf X (pc := 56) 0 mW_c0 rfl in_X8 28 (by decide) q_487 rfl dX8_forecastFor_56 ?_
    refine J_i2l X (pc := 59) dX8_forecastFor_59 ?_
    refine J_lload X (pc := 60) dX8_forecastFor_60 0 rfl ?_
    refine J_ladd X (pc := 62) dX8_forecastFor_62 ?_
    refine J_iload_n X (pc := 63) dX8_forecastFor_63 4 rfl ?_
    refine J_i2l X (pc := 64) dX8_forecastFor_64 ?_
    refine J_aload_n X (pc := 65) dX8_forecastFor_65 1 rfl ?_
    refine J_iload_n X (pc := 66) dX8_forecastFor_66 2 rfl ?_
    refine J_iload_n X (pc := 67) dX8_forecastFor_67 3 rfl ?_
    replace h := bk h
    obtain ⟨r11, g12, h⟩ := h
    refine J_callVI X (pc := 68) (y := yX8_ruled) (na := 2) (As := [.int a1, .int a2]) (rest := [.long a3.toInt64, .long (((S.1 6).toInt64) + v10)]) (c_X8_ruled E ad g12) 0 mW_c0 rfl q_508 q_509 q_510 q_465 q_505 rfl (by decide +kernel) (by decide +kernel) rfl (Nat.le_of_ble_eq_true rfl) ⟨Nat.le_refl _, Nat.le_refl _⟩ dX8_forecastFor_68 ?_
    refine J_aload_n X (pc := 71) dX8_forecastFor_71 1 rfl ?_
    refine J_iload_n X (pc := 72) dX8_forecastFor_72 2 rfl ?_
    refine J_aload_n X (pc := 73) dX8_forecastFor_73 1 rfl ?_
    refine J_getf X (pc := 74) 0 mW_c0 rfl in_X8 27 (by decide) q_486 rfl dX8_forecastFor_74 ?_
    replace h := bk h
    obtain ⟨r13, g14, h⟩ := h
    refine J_callVI X (pc := 77) (y := yX8_ruled) (na := 2) (As := [.int a1, .int (S.1 5)]) (rest := [.int r11, .long a3.toInt64, .long (((S.1 6).toInt64) + v10)]) (c_X8_ruled E ad g14) 0 mW_c0 rfl q_508 q_509 q_510 q_465 q_505 rfl (by decide +kernel) (by decide +kernel) rfl (Nat.le_of_ble_eq_true rfl) ⟨Nat.le_refl _, Nat.le_refl _⟩ dX8_forecastFor_77 ?_
    refine J_isub X (pc := 80) dX8_forecastFor_80 ?_
    refine J_i2l X (pc := 81) dX8_forecastFor_81 ?_
    refine J_lmul X (pc := 82) dX8_forecastFor_82 ?_
    refine J_lsub X (pc := 83) dX8_forecastFor_83 ?_
    replace h := nmv_e h
    obtain ⟨v15, ev15, h⟩ := h
    refine J_nml ev15 ?_
    refine J_lstore X (pc := 84) dX8_forecastFor_84 (by decide) rfl ?_
    refine J_lload X (pc := 86) dX8_forecastFor_86 0 rfl ?_
    refine J_lconst X (pc := 88) (v := 0) dX8_forecastFor_88 (by decide +kernel) ?_
    refine J_lcmp X (pc := 89) dX8_forecastFor_89 ?_
    refine J_if_ge X (pc := 90) 97 dX8_forecastFor_90 (by decide) (fun c16 => ?_) (fun c16 => ?_)
    · rw [if_pos c16] at h
      refine J_lload X (pc := 97) dX8_forecastFor_97 0 rfl ?_
      refine J_ldc2 X (pc := 99) dX8_forecastFor_99 q_507 ?_
      refine J_lcmp X (pc := 102) dX8_forecastFor_102 ?_
      refine J_if_le X (pc := 103) 112 dX8_forecastFor_103 (by decide) (fun c17 => ?_) (fun c17 => ?_)
      · rw [if_pos c17] at h
        refine J_lload X (pc := 112) dX8_forecastFor_112 0 rfl ?_
        cases h
        exact hE _ _ dX8_forecastFor_114
      · rw [if_neg c17] at h
        refine J_ldc2 X (pc := 106) dX8_forecastFor_106 q_507 ?_
        refine J_goto X (pc := 109) 114 dX8_forecastFor_109 (by decide) ?_
        cases h
        exact hE _ _ dX8_forecastFor_114
    · rw [if_neg c16] at h
      refine J_lconst X (pc := 93) (v := 0) dX8_forecastFor_93 (by decide +kernel) ?_
      refine J_goto X (pc := 94) 114 dX8_forecastFor_94 (by decide) ?_
      cases h
      exact hE _ _ dX8_forecastFor_114
  refine J_if_ge X (pc := 31) 51 dX8_forecastFor_31 (by decide) (fun c4 => ?_) (fun c4 => ?_)
  · rw [if_pos c4] at g7
    refine J_lconst X (pc := 51) (v := 0) dX8_forecastFor_51 (by decide +kernel) ?_
    cases g7
    exact J_sub [2, 3, 4, 5] rfl j6
  · rw [if_neg c4] at g7
    refine J_lload X (pc := 34) dX8_forecastFor_34 1 rfl ?_
    refine J_aload_n X (pc := 36) dX8_forecastFor_36 2 rfl ?_
    refine J_getf X (pc := 37) 0 mW_c0 rfl in_X8 26 (by decide) q_492 rfl dX8_forecastFor_37 ?_
    refine J_i2l X (pc := 40) dX8_forecastFor_40 ?_
    replace g7 := ck_e g7
    obtain ⟨b8, g7⟩ := g7
    refine J_lrem X (pc := 41) dX8_forecastFor_41 b8 ?_
    refine J_lconst X (pc := 42) (v := 0) dX8_forecastFor_42 (by decide +kernel) ?_
    refine J_lcmp X (pc := 43) dX8_forecastFor_43 ?_
    refine J_if_eq X (pc := 44) 51 dX8_forecastFor_44 (by decide) (fun c9 => ?_) (fun c9 => ?_)
    · rw [if_pos c9] at g7
      refine J_lconst X (pc := 51) (v := 0) dX8_forecastFor_51 (by decide +kernel) ?_
      cases g7
      exact J_sub [2, 3, 4, 5] rfl j6
    · rw [if_neg c9] at g7
      refine J_lconst X (pc := 47) (v := 1) dX8_forecastFor_47 (by decide +kernel) ?_
      refine J_goto X (pc := 48) 52 dX8_forecastFor_48 (by decide) ?_
      cases g7
      exact J_sub [2, 3, 4, 5] rfl j6
def f_X8_fullDay_30 (a1 : Int32) (S2 : St) (r5 : Int32) : Nat → Int32 → Int32 → Option (Int32)
  | 0, _, _ => none
  | n10+1, x8, x9 => if ((S2.1 5) + ((1000 : Int32))) < x9 then some x8 else if x8 = ((1000000 : Int32)) then (f_X8_forecastFor a1 x9 r5 S2).bind (fun (r17 : Int64) => ck (inb a1 8) ((if (lg_cmp r17 ((S2.2 0 a1.toNatClampNeg).toInt64)) < 0 then some x8 else some x9).bind (fun (r21 : Int32) => nmv (x9 + (1 : Int32)) (fun (v24 : Int32) => f_X8_fullDay_30 a1 S2 r5 n10 r21 v24)))) else some x8
def f_X8_fullDay (a1 : Int32) (a2 : Int32) (S : St) : Option (Int32 × St) := (f_X8_findsSlope a1 a2 S).bind (fun ((r1, S2) : Int32 × St) => if r1 = 0 then some ((1000000 : Int32), S2) else (f_X8_usualOf a1 S2).bind (fun (r5 : Int32) => nmv ((S2.1 5) + ((1 : Int32))) (fun (v7 : Int32) => (f_X8_fullDay_30 a1 S2 r5 3000 ((1000000 : Int32)) v7).bind (fun (r12 : Int32) => some (r12, S2)))))
set_option maxRecDepth 100000 in
set_option maxHeartbeats 4000000 in
theorem c_X8_fullDay (E : Ev) (ad : Nat → Nat) {a1 : Int32} {a2 : Int32} {S : St} {r : Int32} {S2 : St} (h : f_X8_fullDay a1 a2 S = some (r, S2)) : CtI E yX8_fullDay cX8_fullDay 6 .int 3 74 (mW E ad S) [.ref (ad 0), .int a1, .int a2] r (mW E ad S2) := by
  refine CtI_of (by decide +kernel) (Nat.le_of_ble_eq_true rfl) (fun x X hE => ?_)
  show J E x 0 0 (mW E ad S) 0 [(0, .ref (ad 0)), (1, .int a1), (2, .int a2)] []
  unfold f_X8_fullDay at h
  refine J_aload_n X (pc := 0) dX8_fullDay_0 0 rfl ?_
  refine J_iload_n X (pc := 1) dX8_fullDay_1 1 rfl ?_
  refine J_iload_n X (pc := 2) dX8_fullDay_2 2 rfl ?_
  replace h := bk h
  obtain ⟨⟨r1, S2⟩, g3, h⟩ := h
  dsimp only at h
  refine J_callVI X (pc := 3) (y := yX8_findsSlope) (na := 2) (As := [.int a1, .int a2]) (rest := []) (c_X8_findsSlope E ad g3) 0 mW_c0 rfl q_511 q_512 q_513 q_465 q_503 rfl (by decide +kernel) (by decide +kernel) rfl (Nat.le_of_ble_eq_true rfl) ⟨Nat.le_refl _, Nat.le_refl _⟩ dX8_fullDay_3 ?_
  refine J_if_ne X (pc := 6) 12 dX8_fullDay_6 (by decide) (fun c4 => ?_) (fun c4 => ?_)
  · rw [if_neg c4] at h
    refine J_aload_n X (pc := 12) dX8_fullDay_12 0 rfl ?_
    refine J_iload_n X (pc := 13) dX8_fullDay_13 1 rfl ?_
    replace h := bk h
    obtain ⟨r5, g6, h⟩ := h
    refine J_callVI X (pc := 14) (y := yX8_usualOf) (na := 1) (As := [.int a1]) (rest := []) (c_X8_usualOf E ad g6) 0 mW_c0 rfl q_514 q_515 q_516 q_465 q_504 rfl (by decide +kernel) (by decide +kernel) rfl (Nat.le_of_ble_eq_true rfl) ⟨Nat.le_refl _, Nat.le_refl _⟩ dX8_fullDay_14 ?_
    refine J_istore_n X (pc := 17) dX8_fullDay_17 (by decide) rfl ?_
    refine J_ldc X (pc := 18) dX8_fullDay_18 q_467 ?_
    refine J_istore X (pc := 20) dX8_fullDay_20 (by decide) rfl ?_
    refine J_aload_n X (pc := 22) dX8_fullDay_22 2 rfl ?_
    refine J_getf X (pc := 23) 0 mW_c0 rfl in_X8 27 (by decide) q_486 rfl dX8_fullDay_23 ?_
    refine J_iconst X (pc := 26) (v := 1) dX8_fullDay_26 (by decide +kernel) ?_
    refine J_iadd X (pc := 27) dX8_fullDay_27 ?_
    replace h := nmv_e h
    obtain ⟨v7, ev7, h⟩ := h
    refine J_nmi ev7 ?_
    refine J_istore X (pc := 28) dX8_fullDay_28 (by decide) rfl ?_
    replace h := bk h
    obtain ⟨r12, g14, h⟩ := h
    have k13 : J E x 0 0 (mW E ad S2) 84 [(4, .int r12)] [] := by
      refine J_iload X (pc := 84) dX8_fullDay_84 0 rfl ?_
      cases h
      exact hE _ _ dX8_fullDay_86 rfl
    clear h
    have l25 : ∀ (n10 : Nat) (x8 : Int32) (x9 : Int32), f_X8_fullDay_30 a1 S2 r5 n10 x8 x9 = some r12 → J E x 0 0 (mW E ad S2) 30 [(0, .ref (ad 0)), (1, .int a1), (3, .int r5), (4, .int x8), (5, .int x9)] [] := by
      intro n10
      induction n10 with
      | zero => intro x8 x9 h; rw [f_X8_fullDay_30] at h; cases h
      | succ n10 ih11 =>
        intro x8 x9 h
        rw [f_X8_fullDay_30] at h
        refine J_iload X (pc := 30) dX8_fullDay_30 4 rfl ?_
        refine J_aload_n X (pc := 32) dX8_fullDay_32 0 rfl ?_
        refine J_getf X (pc := 33) 0 mW_c0 rfl in_X8 27 (by decide) q_486 rfl dX8_fullDay_33 ?_
        refine J_sipush X (pc := 36) (v := 1000) dX8_fullDay_36 (by decide +kernel) ?_
        refine J_iadd X (pc := 39) dX8_fullDay_39 ?_
        refine J_icmp_gt X (pc := 40) 84 dX8_fullDay_40 (by decide) (fun c15 => ?_) (fun c15 => ?_)
        · rw [if_pos c15] at h
          cases h
          exact J_sub [3] rfl k13
        · rw [if_neg c15] at h
          refine J_iload X (pc := 43) dX8_fullDay_43 3 rfl ?_
          refine J_ldc X (pc := 45) dX8_fullDay_45 q_467 ?_
          refine J_icmp_ne X (pc := 47) 84 dX8_fullDay_47 (by decide) (fun c16 => ?_) (fun c16 => ?_)
          · rw [if_neg c16] at h
            cases h
            exact J_sub [3] rfl k13
          · rw [if_pos c16] at h
            refine J_aload_n X (pc := 50) dX8_fullDay_50 0 rfl ?_
            refine J_iload_n X (pc := 51) dX8_fullDay_51 1 rfl ?_
            refine J_iload X (pc := 52) dX8_fullDay_52 4 rfl ?_
            refine J_iload_n X (pc := 54) dX8_fullDay_54 2 rfl ?_
            replace h := bk h
            obtain ⟨r17, g18, h⟩ := h
            refine J_callVL X (pc := 55) (y := yX8_forecastFor) (na := 3) (As := [.int a1, .int x9, .int r5]) (rest := []) (c_X8_forecastFor E ad g18) 0 mW_c0 rfl q_517 q_518 q_519 q_465 q_506 rfl (by decide +kernel) (by decide +kernel) rfl (Nat.le_of_ble_eq_true rfl) ⟨Nat.le_refl _, Nat.le_refl _⟩ dX8_fullDay_55 ?_
            refine J_aload_n X (pc := 58) dX8_fullDay_58 0 rfl ?_
            refine J_getf X (pc := 59) 0 mW_c0 rfl in_X8 2 (by decide) q_433 rfl dX8_fullDay_59 ?_
            refine J_iload_n X (pc := 62) dX8_fullDay_62 1 rfl ?_
            replace h := ck_e h
            obtain ⟨b19, h⟩ := h
            refine J_iald X (pc := 63) 1 mW_c1 b19 dX8_fullDay_63 ?_
            refine J_i2l X (pc := 64) dX8_fullDay_64 ?_
            refine J_lcmp X (pc := 65) dX8_fullDay_65 ?_
            replace h := bk h
            obtain ⟨r21, g23, h⟩ := h
            have j22 : J E x 0 0 (mW E ad S2) 76 [(0, .ref (ad 0)), (1, .int a1), (3, .int r5), (5, .int x9)] [.int r21] := by
              refine J_istore X (pc := 76) dX8_fullDay_76 (by decide) rfl ?_
              replace h := nmv_e h
              obtain ⟨v24, ev24, h⟩ := h
              refine J_iinc X (pc := 78) (v := v24) dX8_fullDay_78 4 rfl (by rw [ev24]; rfl) (by decide) rfl ?_
              refine J_goto X (pc := 81) 30 dX8_fullDay_81 (by decide) ?_
              exact J_sub [2, 3, 4, 1, 0] rfl (ih11 _ _ h)
            refine J_if_lt X (pc := 66) 74 dX8_fullDay_66 (by decide) (fun c20 => ?_) (fun c20 => ?_)
            · rw [if_pos c20] at g23
              refine J_iload X (pc := 74) dX8_fullDay_74 3 rfl ?_
              cases g23
              exact J_sub [0, 1, 2, 4] rfl j22
            · rw [if_neg c20] at g23
              refine J_iload X (pc := 69) dX8_fullDay_69 4 rfl ?_
              refine J_goto X (pc := 71) 76 dX8_fullDay_71 (by decide) ?_
              cases g23
              exact J_sub [0, 1, 2, 4] rfl j22
    exact J_sub [3, 4, 2, 1, 0] rfl (l25 3000 _ _ g14)
  · rw [if_pos c4] at h
    refine J_ldc X (pc := 9) dX8_fullDay_9 q_467 ?_
    cases h
    exact hE _ _ dX8_fullDay_11 rfl
def f_X8_findsBounds_49 (a1 : Int32) : Nat → Int32 → St → Option (St)
  | 0, _, _ => none
  | n17+1, x15, S16 => ck (inb a1 8) (if (S16.2 1 a1.toNatClampNeg) ≤ x15 then some S16 else ck (inb a1 8) (if (S16.2 1 a1.toNatClampNeg) ≤ ((2 : Int32)) then some S16 else (f_X8_fullDay a1 x15 S16).bind (fun ((r26, S27) : Int32 × St) => ck (inb a1 8) ((if (S27.2 12 a1.toNatClampNeg) ≤ r26 then ck (inb a1 8) (some (S27.2 12 a1.toNatClampNeg)) else some r26).bind (fun (r32 : Int32) => ck (inb a1 8) (nmv (sA S27 12 a1.toNatClampNeg r32) (fun (S37 : St) => ck (inb a1 8) ((if r26 ≤ (S37.2 13 a1.toNatClampNeg) then ck (inb a1 8) (some (S37.2 13 a1.toNatClampNeg)) else some r26).bind (fun (r41 : Int32) => ck (inb a1 8) (nmv (sA S37 13 a1.toNatClampNeg r41) (fun (S46 : St) => nmv (x15 + (1 : Int32)) (fun (v47 : Int32) => f_X8_findsBounds_49 a1 n17 v47 S46))))))))))))
def f_X8_findsBounds (a1 : Int32) (S : St) : Option (St) := ck (inb a1 8) (if (S.2 11 a1.toNatClampNeg) = 0 then ck (inb a1 8) (ck (isZ ((1 : Int32))) (nmv (sA S 11 a1.toNatClampNeg ((1 : Int32))) (fun (S5 : St) => ck (inb a1 8) (nmv (sA S5 12 a1.toNatClampNeg ((1000000 : Int32))) (fun (S7 : St) => ck (inb a1 8) ((if ((3 : Int32)) ≤ (S7.2 1 a1.toNatClampNeg) then some ((0 : Int32)) else some ((1000000 : Int32))).bind (fun (r10 : Int32) => ck (inb a1 8) (nmv (sA S7 13 a1.toNatClampNeg r10) (fun (S14 : St) => (f_X8_findsBounds_49 a1 3000 ((-1 : Int32)) S14).bind (fun (S19 : St) => some S19)))))))))) else some S)
set_option maxRecDepth 100000 in
set_option maxHeartbeats 4000000 in
theorem c_X8_findsBounds (E : Ev) (ad : Nat → Nat) {a1 : Int32} {S : St} {S2 : St} (h : f_X8_findsBounds a1 S = some S2) : CtV E yX8_findsBounds cX8_findsBounds 4 4 99 (mW E ad S) [.ref (ad 0), .int a1] (mW E ad S2) := by
  refine CtV_of (by decide +kernel) (Nat.le_of_ble_eq_true rfl) (fun x X hE => ?_)
  show J E x 0 0 (mW E ad S) 0 [(0, .ref (ad 0)), (1, .int a1)] []
  unfold f_X8_findsBounds at h
  refine J_aload_n X (pc := 0) dX8_findsBounds_0 0 rfl ?_
  refine J_getf X (pc := 1) 0 mW_c0 rfl in_X8 13 (by decide) q_445 rfl dX8_findsBounds_1 ?_
  refine J_iload_n X (pc := 4) dX8_findsBounds_4 1 rfl ?_
  replace h := ck_e h
  obtain ⟨b1, h⟩ := h
  refine J_zald X (pc := 5) 12 mW_c12 b1 dX8_findsBounds_5 ?_
  refine J_if_eq X (pc := 6) 10 dX8_findsBounds_6 (by decide) (fun c2 => ?_) (fun c2 => ?_)
  · rw [if_pos c2] at h
    refine J_aload_n X (pc := 10) dX8_findsBounds_10 0 rfl ?_
    refine J_getf X (pc := 11) 0 mW_c0 rfl in_X8 13 (by decide) q_445 rfl dX8_findsBounds_11 ?_
    refine J_iload_n X (pc := 14) dX8_findsBounds_14 1 rfl ?_
    refine J_iconst X (pc := 15) (v := 1) dX8_findsBounds_15 (by decide +kernel) ?_
    replace h := ck_e h
    obtain ⟨b3, h⟩ := h
    replace h := ck_e h
    obtain ⟨b4, h⟩ := h
    replace h := nmv_e h
    obtain ⟨S5, eS5, h⟩ := h
    refine J_zast X (pc := 16) (w1 := (mW E ad S5)) 12 mW_c12 b3 b4 dX8_findsBounds_16 (mW_a11 eS5) ?_
    refine J_aload_n X (pc := 17) dX8_findsBounds_17 0 rfl ?_
    refine J_getf X (pc := 18) 0 mW_c0 rfl in_X8 14 (by decide) q_446 rfl dX8_findsBounds_18 ?_
    refine J_iload_n X (pc := 21) dX8_findsBounds_21 1 rfl ?_
    refine J_ldc X (pc := 22) dX8_findsBounds_22 q_467 ?_
    replace h := ck_e h
    obtain ⟨b6, h⟩ := h
    replace h := nmv_e h
    obtain ⟨S7, eS7, h⟩ := h
    refine J_iast X (pc := 24) (w1 := (mW E ad S7)) 13 mW_c13 b6 dX8_findsBounds_24 (mW_a12 eS7) ?_
    refine J_aload_n X (pc := 25) dX8_findsBounds_25 0 rfl ?_
    refine J_getf X (pc := 26) 0 mW_c0 rfl in_X8 15 (by decide) q_447 rfl dX8_findsBounds_26 ?_
    refine J_iload_n X (pc := 29) dX8_findsBounds_29 1 rfl ?_
    refine J_aload_n X (pc := 30) dX8_findsBounds_30 0 rfl ?_
    refine J_getf X (pc := 31) 0 mW_c0 rfl in_X8 3 (by decide) q_434 rfl dX8_findsBounds_31 ?_
    refine J_iload_n X (pc := 34) dX8_findsBounds_34 1 rfl ?_
    replace h := ck_e h
    obtain ⟨b8, h⟩ := h
    refine J_iald X (pc := 35) 2 mW_c2 b8 dX8_findsBounds_35 ?_
    refine J_iconst X (pc := 36) (v := 3) dX8_findsBounds_36 (by decide +kernel) ?_
    replace h := bk h
    obtain ⟨r10, g12, h⟩ := h
    have j11 : J E x 0 0 (mW E ad S7) 46 [(0, .ref (ad 0)), (1, .int a1)] [.int r10, .int a1, .ref (ad 14)] := by
      replace h := ck_e h
      obtain ⟨b13, h⟩ := h
      replace h := nmv_e h
      obtain ⟨S14, eS14, h⟩ := h
      refine J_iast X (pc := 46) (w1 := (mW E ad S14)) 14 mW_c14 b13 dX8_findsBounds_46 (mW_a13 eS14) ?_
      refine J_iconst X (pc := 47) (v := -1) dX8_findsBounds_47 (by decide +kernel) ?_
      refine J_istore_n X (pc := 48) dX8_findsBounds_48 (by decide) rfl ?_
      replace h := bk h
      obtain ⟨S19, g21, h⟩ := h
      have k20 : J E x 0 0 (mW E ad S19) 134 [] [] := by
        cases h
        exact hE _ _ dX8_findsBounds_134
      clear h
      have l48 : ∀ (n17 : Nat) (x15 : Int32) (S16 : St), f_X8_findsBounds_49 a1 n17 x15 S16 = some S19 → J E x 0 0 (mW E ad S16) 49 [(0, .ref (ad 0)), (1, .int a1), (2, .int x15)] [] := by
        intro n17
        induction n17 with
        | zero => intro x15 S16 h; rw [f_X8_findsBounds_49] at h; cases h
        | succ n17 ih18 =>
          intro x15 S16 h
          rw [f_X8_findsBounds_49] at h
          refine J_iload_n X (pc := 49) dX8_findsBounds_49 2 rfl ?_
          refine J_aload_n X (pc := 50) dX8_findsBounds_50 0 rfl ?_
          refine J_getf X (pc := 51) 0 mW_c0 rfl in_X8 3 (by decide) q_434 rfl dX8_findsBounds_51 ?_
          refine J_iload_n X (pc := 54) dX8_findsBounds_54 1 rfl ?_
          replace h := ck_e h
          obtain ⟨b22, h⟩ := h
          refine J_iald X (pc := 55) 2 mW_c2 b22 dX8_findsBounds_55 ?_
          refine J_icmp_ge X (pc := 56) 134 dX8_findsBounds_56 (by decide) (fun c23 => ?_) (fun c23 => ?_)
          · rw [if_pos c23] at h
            cases h
            exact J_sub [] rfl k20
          · rw [if_neg c23] at h
            refine J_aload_n X (pc := 59) dX8_findsBounds_59 0 rfl ?_
            refine J_getf X (pc := 60) 0 mW_c0 rfl in_X8 3 (by decide) q_434 rfl dX8_findsBounds_60 ?_
            refine J_iload_n X (pc := 63) dX8_findsBounds_63 1 rfl ?_
            replace h := ck_e h
            obtain ⟨b24, h⟩ := h
            refine J_iald X (pc := 64) 2 mW_c2 b24 dX8_findsBounds_64 ?_
            refine J_iconst X (pc := 65) (v := 2) dX8_findsBounds_65 (by decide +kernel) ?_
            refine J_icmp_le X (pc := 66) 134 dX8_findsBounds_66 (by decide) (fun c25 => ?_) (fun c25 => ?_)
            · rw [if_pos c25] at h
              cases h
              exact J_sub [] rfl k20
            · rw [if_neg c25] at h
              refine J_aload_n X (pc := 69) dX8_findsBounds_69 0 rfl ?_
              refine J_iload_n X (pc := 70) dX8_findsBounds_70 1 rfl ?_
              refine J_iload_n X (pc := 71) dX8_findsBounds_71 2 rfl ?_
              replace h := bk h
              obtain ⟨⟨r26, S27⟩, g28, h⟩ := h
              dsimp only at h
              refine J_callVI X (pc := 72) (y := yX8_fullDay) (na := 2) (As := [.int a1, .int x15]) (rest := []) (c_X8_fullDay E ad g28) 0 mW_c0 rfl q_521 q_522 q_523 q_465 q_520 rfl (by decide +kernel) (by decide +kernel) rfl (Nat.le_of_ble_eq_true rfl) ⟨Nat.le_refl _, Nat.le_refl _⟩ dX8_findsBounds_72 ?_
              refine J_istore_n X (pc := 75) dX8_findsBounds_75 (by decide) rfl ?_
              refine J_aload_n X (pc := 76) dX8_findsBounds_76 1 rfl ?_
              refine J_getf X (pc := 77) 0 mW_c0 rfl in_X8 14 (by decide) q_446 rfl dX8_findsBounds_77 ?_
              refine J_iload_n X (pc := 80) dX8_findsBounds_80 2 rfl ?_
              refine J_iload_n X (pc := 81) dX8_findsBounds_81 0 rfl ?_
              refine J_aload_n X (pc := 82) dX8_findsBounds_82 1 rfl ?_
              refine J_getf X (pc := 83) 0 mW_c0 rfl in_X8 14 (by decide) q_446 rfl dX8_findsBounds_83 ?_
              refine J_iload_n X (pc := 86) dX8_findsBounds_86 2 rfl ?_
              replace h := ck_e h
              obtain ⟨b29, h⟩ := h
              refine J_iald X (pc := 87) 13 mW_c13 b29 dX8_findsBounds_87 ?_
              replace h := bk h
              obtain ⟨r32, g34, h⟩ := h
              have j33 : J E x 0 0 (mW E ad S27) 101 [(0, .ref (ad 0)), (1, .int a1), (2, .int x15), (3, .int r26)] [.int r32, .int a1, .ref (ad 13)] := by
                replace h := ck_e h
                obtain ⟨b36, h⟩ := h
                replace h := nmv_e h
                obtain ⟨S37, eS37, h⟩ := h
                refine J_iast X (pc := 101) (w1 := (mW E ad S37)) 13 mW_c13 b36 dX8_findsBounds_101 (mW_a12 eS37) ?_
                refine J_aload_n X (pc := 102) dX8_findsBounds_102 0 rfl ?_
                refine J_getf X (pc := 103) 0 mW_c0 rfl in_X8 15 (by decide) q_447 rfl dX8_findsBounds_103 ?_
                refine J_iload_n X (pc := 106) dX8_findsBounds_106 1 rfl ?_
                refine J_iload_n X (pc := 107) dX8_findsBounds_107 3 rfl ?_
                refine J_aload_n X (pc := 108) dX8_findsBounds_108 0 rfl ?_
                refine J_getf X (pc := 109) 0 mW_c0 rfl in_X8 15 (by decide) q_447 rfl dX8_findsBounds_109 ?_
                refine J_iload_n X (pc := 112) dX8_findsBounds_112 1 rfl ?_
                replace h := ck_e h
                obtain ⟨b38, h⟩ := h
                refine J_iald X (pc := 113) 14 mW_c14 b38 dX8_findsBounds_113 ?_
                replace h := bk h
                obtain ⟨r41, g43, h⟩ := h
                have j42 : J E x 0 0 (mW E ad S37) 127 [(0, .ref (ad 0)), (1, .int a1), (2, .int x15)] [.int r41, .int a1, .ref (ad 14)] := by
                  replace h := ck_e h
                  obtain ⟨b45, h⟩ := h
                  replace h := nmv_e h
                  obtain ⟨S46, eS46, h⟩ := h
                  refine J_iast X (pc := 127) (w1 := (mW E ad S46)) 14 mW_c14 b45 dX8_findsBounds_127 (mW_a13 eS46) ?_
                  replace h := nmv_e h
                  obtain ⟨v47, ev47, h⟩ := h
                  refine J_iinc X (pc := 128) (v := v47) dX8_findsBounds_128 2 rfl (by rw [ev47]; rfl) (by decide) rfl ?_
                  refine J_goto X (pc := 131) 49 dX8_findsBounds_131 (by decide) ?_
                  exact J_sub [1, 2, 0] rfl (ih18 _ _ h)
                refine J_icmp_le X (pc := 114) 121 dX8_findsBounds_114 (by decide) (fun c39 => ?_) (fun c39 => ?_)
                · rw [if_pos c39] at g43
                  refine J_aload_n X (pc := 121) dX8_findsBounds_121 0 rfl ?_
                  refine J_getf X (pc := 122) 0 mW_c0 rfl in_X8 15 (by decide) q_447 rfl dX8_findsBounds_122 ?_
                  refine J_iload_n X (pc := 125) dX8_findsBounds_125 1 rfl ?_
                  replace g43 := ck_e g43
                  obtain ⟨b44, g43⟩ := g43
                  refine J_iald X (pc := 126) 14 mW_c14 b44 dX8_findsBounds_126 ?_
                  cases g43
                  exact J_sub [0, 1, 2] rfl j42
                · rw [if_neg c39] at g43
                  refine J_iload_n X (pc := 117) dX8_findsBounds_117 3 rfl ?_
                  refine J_goto X (pc := 118) 127 dX8_findsBounds_118 (by decide) ?_
                  cases g43
                  exact J_sub [0, 1, 2] rfl j42
              refine J_icmp_ge X (pc := 88) 95 dX8_findsBounds_88 (by decide) (fun c30 => ?_) (fun c30 => ?_)
              · rw [if_pos c30] at g34
                refine J_aload_n X (pc := 95) dX8_findsBounds_95 1 rfl ?_
                refine J_getf X (pc := 96) 0 mW_c0 rfl in_X8 14 (by decide) q_446 rfl dX8_findsBounds_96 ?_
                refine J_iload_n X (pc := 99) dX8_findsBounds_99 2 rfl ?_
                replace g34 := ck_e g34
                obtain ⟨b35, g34⟩ := g34
                refine J_iald X (pc := 100) 13 mW_c13 b35 dX8_findsBounds_100 ?_
                cases g34
                exact J_sub [1, 2, 3, 0] rfl j33
              · rw [if_neg c30] at g34
                refine J_iload_n X (pc := 91) dX8_findsBounds_91 0 rfl ?_
                refine J_goto X (pc := 92) 101 dX8_findsBounds_92 (by decide) ?_
                cases g34
                exact J_sub [1, 2, 3, 0] rfl j33
      exact J_sub [1, 2, 0] rfl (l48 3000 _ _ g21)
    refine J_icmp_ge X (pc := 37) 45 dX8_findsBounds_37 (by decide) (fun c9 => ?_) (fun c9 => ?_)
    · rw [if_pos c9] at g12
      refine J_iconst X (pc := 45) (v := 0) dX8_findsBounds_45 (by decide +kernel) ?_
      cases g12
      exact J_sub [0, 1] rfl j11
    · rw [if_neg c9] at g12
      refine J_ldc X (pc := 40) dX8_findsBounds_40 q_467 ?_
      refine J_goto X (pc := 42) 46 dX8_findsBounds_42 (by decide) ?_
      cases g12
      exact J_sub [0, 1] rfl j11
  · rw [if_neg c2] at h
    cases h
    exact hE _ _ dX8_findsBounds_9
def f_X8_looks (a1 : Int32) (S : St) : Option (Int32 × St) := (f_X8_findsBounds a1 S).bind (fun (S1 : St) => ck (inb a1 8) ((if ((S1.1 0) + ((14 : Int32))) < (S1.2 12 a1.toNatClampNeg) then some ((0 : Int32)) else some ((1 : Int32))).bind (fun (r5 : Int32) => ck (inb a1 8) (nmv (S1.2 9 a1.toNatClampNeg) (fun (v9 : Int32) => (if v9 = 0 then if r5 = 0 then some ((0 : Int32)) else ck (inb a1 8) (if (S1.2 10 a1.toNatClampNeg) = 0 then some ((0 : Int32)) else some ((1 : Int32))) else ck (inb a1 8) (if ((S1.1 0) + ((21 : Int32))) < (S1.2 12 a1.toNatClampNeg) then some ((0 : Int32)) else some ((1 : Int32)))).bind (fun (r14 : Int32) => ck (inb a1 8) (ck (isZ r14) (nmv (sA S1 9 a1.toNatClampNeg r14) (fun (S24 : St) => ck (inb a1 8) (ck (isZ r5) (nmv (sA S24 10 a1.toNatClampNeg r5) (fun (S27 : St) => ck (inb a1 8) (if (S27.2 9 a1.toNatClampNeg) = v9 then some ((0 : Int32), S27) else some ((1 : Int32), S27))))))))))))))
set_option maxRecDepth 100000 in
set_option maxHeartbeats 4000000 in
theorem c_X8_looks (E : Ev) (ad : Nat → Nat) {a1 : Int32} {S : St} {r : Int32} {S2 : St} (h : f_X8_looks a1 S = some (r, S2)) : CtI E yX8_looks cX8_looks 4 .boolean 5 122 (mW E ad S) [.ref (ad 0), .int a1] r (mW E ad S2) := by
  refine CtI_of (by decide +kernel) (Nat.le_of_ble_eq_true rfl) (fun x X hE => ?_)
  show J E x 0 0 (mW E ad S) 0 [(0, .ref (ad 0)), (1, .int a1)] []
  unfold f_X8_looks at h
  refine J_aload_n X (pc := 0) dX8_looks_0 0 rfl ?_
  refine J_iload_n X (pc := 1) dX8_looks_1 1 rfl ?_
  replace h := bk h
  obtain ⟨S1, g2, h⟩ := h
  refine J_callVV X (pc := 2) (y := yX8_findsBounds) (na := 1) (As := [.int a1]) (rest := []) (c_X8_findsBounds E ad g2) 0 mW_c0 rfl q_525 q_526 q_527 q_465 q_524 rfl (by decide +kernel) (by decide +kernel) rfl (Nat.le_of_ble_eq_true rfl) ⟨Nat.le_refl _, Nat.le_refl _⟩ dX8_looks_2 ?_
  refine J_aload_n X (pc := 5) dX8_looks_5 0 rfl ?_
  refine J_getf X (pc := 6) 0 mW_c0 rfl in_X8 14 (by decide) q_446 rfl dX8_looks_6 ?_
  refine J_iload_n X (pc := 9) dX8_looks_9 1 rfl ?_
  replace h := ck_e h
  obtain ⟨b3, h⟩ := h
  refine J_iald X (pc := 10) 13 mW_c13 b3 dX8_looks_10 ?_
  refine J_aload_n X (pc := 11) dX8_looks_11 0 rfl ?_
  refine J_getf X (pc := 12) 0 mW_c0 rfl in_X8 0 (by decide) q_476 rfl dX8_looks_12 ?_
  refine J_bipush X (pc := 15) (v := 14) dX8_looks_15 (by decide +kernel) ?_
  refine J_iadd X (pc := 17) dX8_looks_17 ?_
  replace h := bk h
  obtain ⟨r5, g7, h⟩ := h
  have j6 : J E x 0 0 (mW E ad S1) 26 [(0, .ref (ad 0)), (1, .int a1)] [.int r5] := by
    refine J_istore_n X (pc := 26) dX8_looks_26 (by decide) rfl ?_
    refine J_aload_n X (pc := 27) dX8_looks_27 1 rfl ?_
    refine J_getf X (pc := 28) 0 mW_c0 rfl in_X8 11 (by decide) q_443 rfl dX8_looks_28 ?_
    refine J_iload_n X (pc := 31) dX8_looks_31 2 rfl ?_
    replace h := ck_e h
    obtain ⟨b8, h⟩ := h
    refine J_zald X (pc := 32) 10 mW_c10 b8 dX8_looks_32 ?_
    replace h := nmv_e h
    obtain ⟨v9, ev9, h⟩ := h
    refine J_nmi ev9 ?_
    refine J_istore_n X (pc := 33) dX8_looks_33 (by decide) rfl ?_
    refine J_aload_n X (pc := 34) dX8_looks_34 2 rfl ?_
    refine J_getf X (pc := 35) 0 mW_c0 rfl in_X8 11 (by decide) q_443 rfl dX8_looks_35 ?_
    refine J_iload_n X (pc := 38) dX8_looks_38 3 rfl ?_
    refine J_iload_n X (pc := 39) dX8_looks_39 0 rfl ?_
    replace h := bk h
    obtain ⟨r14, g16, h⟩ := h
    have j15 : J E x 0 0 (mW E ad S1) 85 [(0, .ref (ad 0)), (1, .int a1), (2, .int r5), (3, .int v9)] [.int r14, .int a1, .ref (ad 10)] := by
      replace h := ck_e h
      obtain ⟨b22, h⟩ := h
      replace h := ck_e h
      obtain ⟨b23, h⟩ := h
      replace h := nmv_e h
      obtain ⟨S24, eS24, h⟩ := h
      refine J_zast X (pc := 85) (w1 := (mW E ad S24)) 10 mW_c10 b22 b23 dX8_looks_85 (mW_a9 eS24) ?_
      refine J_aload_n X (pc := 86) dX8_looks_86 0 rfl ?_
      refine J_getf X (pc := 87) 0 mW_c0 rfl in_X8 12 (by decide) q_444 rfl dX8_looks_87 ?_
      refine J_iload_n X (pc := 90) dX8_looks_90 1 rfl ?_
      refine J_iload_n X (pc := 91) dX8_looks_91 2 rfl ?_
      replace h := ck_e h
      obtain ⟨b25, h⟩ := h
      replace h := ck_e h
      obtain ⟨b26, h⟩ := h
      replace h := nmv_e h
      obtain ⟨S27, eS27, h⟩ := h
      refine J_zast X (pc := 92) (w1 := (mW E ad S27)) 11 mW_c11 b25 b26 dX8_looks_92 (mW_a10 eS27) ?_
      refine J_aload_n X (pc := 93) dX8_looks_93 0 rfl ?_
      refine J_getf X (pc := 94) 0 mW_c0 rfl in_X8 11 (by decide) q_443 rfl dX8_looks_94 ?_
      refine J_iload_n X (pc := 97) dX8_looks_97 1 rfl ?_
      replace h := ck_e h
      obtain ⟨b28, h⟩ := h
      refine J_zald X (pc := 98) 10 mW_c10 b28 dX8_looks_98 ?_
      refine J_iload_n X (pc := 99) dX8_looks_99 3 rfl ?_
      refine J_icmp_eq X (pc := 100) 107 dX8_looks_100 (by decide) (fun c29 => ?_) (fun c29 => ?_)
      · rw [if_pos c29] at h
        refine J_iconst X (pc := 107) (v := 0) dX8_looks_107 (by decide +kernel) ?_
        cases h
        exact hE _ _ dX8_looks_108 (by decide +kernel)
      · rw [if_neg c29] at h
        refine J_iconst X (pc := 103) (v := 1) dX8_looks_103 (by decide +kernel) ?_
        refine J_goto X (pc := 104) 108 dX8_looks_104 (by decide) ?_
        cases h
        exact hE _ _ dX8_looks_108 (by decide +kernel)
    refine J_if_eq X (pc := 40) 67 dX8_looks_40 (by decide) (fun c10 => ?_) (fun c10 => ?_)
    · rw [if_pos c10] at g16
      refine J_iload_n X (pc := 67) dX8_looks_67 1 rfl ?_
      refine J_if_eq X (pc := 68) 84 dX8_looks_68 (by decide) (fun c17 => ?_) (fun c17 => ?_)
      · rw [if_pos c17] at g16
        refine J_iconst X (pc := 84) (v := 0) dX8_looks_84 (by decide +kernel) ?_
        cases g16
        exact J_sub [2, 3, 1, 0] rfl j15
      · rw [if_neg c17] at g16
        refine J_aload_n X (pc := 71) dX8_looks_71 2 rfl ?_
        refine J_getf X (pc := 72) 0 mW_c0 rfl in_X8 12 (by decide) q_444 rfl dX8_looks_72 ?_
        refine J_iload_n X (pc := 75) dX8_looks_75 3 rfl ?_
        replace g16 := ck_e g16
        obtain ⟨b18, g16⟩ := g16
        refine J_zald X (pc := 76) 11 mW_c11 b18 dX8_looks_76 ?_
        refine J_if_eq X (pc := 77) 84 dX8_looks_77 (by decide) (fun c19 => ?_) (fun c19 => ?_)
        · rw [if_pos c19] at g16
          refine J_iconst X (pc := 84) (v := 0) dX8_looks_84 (by decide +kernel) ?_
          cases g16
          exact J_sub [2, 3, 1, 0] rfl j15
        · rw [if_neg c19] at g16
          refine J_iconst X (pc := 80) (v := 1) dX8_looks_80 (by decide +kernel) ?_
          refine J_goto X (pc := 81) 85 dX8_looks_81 (by decide) ?_
          cases g16
          exact J_sub [2, 3, 1, 0] rfl j15
    · rw [if_neg c10] at g16
      refine J_aload_n X (pc := 43) dX8_looks_43 2 rfl ?_
      refine J_getf X (pc := 44) 0 mW_c0 rfl in_X8 14 (by decide) q_446 rfl dX8_looks_44 ?_
      refine J_iload_n X (pc := 47) dX8_looks_47 3 rfl ?_
      replace g16 := ck_e g16
      obtain ⟨b20, g16⟩ := g16
      refine J_iald X (pc := 48) 13 mW_c13 b20 dX8_looks_48 ?_
      refine J_aload_n X (pc := 49) dX8_looks_49 2 rfl ?_
      refine J_getf X (pc := 50) 0 mW_c0 rfl in_X8 0 (by decide) q_476 rfl dX8_looks_50 ?_
      refine J_bipush X (pc := 53) (v := 21) dX8_looks_53 (by decide +kernel) ?_
      refine J_iadd X (pc := 55) dX8_looks_55 ?_
      refine J_icmp_gt X (pc := 56) 63 dX8_looks_56 (by decide) (fun c21 => ?_) (fun c21 => ?_)
      · rw [if_pos c21] at g16
        refine J_iconst X (pc := 63) (v := 0) dX8_looks_63 (by decide +kernel) ?_
        refine J_goto X (pc := 64) 85 dX8_looks_64 (by decide) ?_
        cases g16
        exact J_sub [2, 3, 1, 0] rfl j15
      · rw [if_neg c21] at g16
        refine J_iconst X (pc := 59) (v := 1) dX8_looks_59 (by decide +kernel) ?_
        refine J_goto X (pc := 60) 85 dX8_looks_60 (by decide) ?_
        cases g16
        exact J_sub [2, 3, 1, 0] rfl j15
  refine J_icmp_gt X (pc := 18) 25 dX8_looks_18 (by decide) (fun c4 => ?_) (fun c4 => ?_)
  · rw [if_pos c4] at g7
    refine J_iconst X (pc := 25) (v := 0) dX8_looks_25 (by decide +kernel) ?_
    cases g7
    exact J_sub [0, 1] rfl j6
  · rw [if_neg c4] at g7
    refine J_iconst X (pc := 21) (v := 1) dX8_looks_21 (by decide +kernel) ?_
    refine J_goto X (pc := 22) 26 dX8_looks_22 (by decide) ?_
    cases g7
    exact J_sub [0, 1] rfl j6
def f_X8_pass_62 : Nat → Int32 → Int32 → St → Option (Int32 × St)
  | 0, _, _, _ => none
  | n27+1, x24, x25, S26 => if (S26.1 1) ≤ x25 then some (x24, S26) else (f_X8_looks x25 S26).bind (fun ((r34, S35) : Int32 × St) => (if r34 = 0 then some ((0 : Int32)) else some ((1 : Int32))).bind (fun (r38 : Int32) => nmv (x24 + r38) (fun (v41 : Int32) => nmv (x25 + (1 : Int32)) (fun (v42 : Int32) => f_X8_pass_62 n27 v41 v42 S35))))
def f_X8_pass_44 (a1 : Int32) : Nat → Int32 → Int32 → St → Option (Int32 × St)
  | 0, _, _, _ => none
  | n16+1, x13, x14, S15 => if a1 ≤ x14 then some (x13, S15) else nmv (sF S15 0 ((S15.1 0) + ((1 : Int32)))) (fun (S23 : St) => (f_X8_pass_62 3000 x13 ((0 : Int32)) S23).bind (fun ((r29, S30) : Int32 × St) => nmv (x14 + (1 : Int32)) (fun (v44 : Int32) => f_X8_pass_44 a1 n16 r29 v44 S30)))
def f_X8_pass (a1 : Int32) (S : St) : Option (Int32 × St) := (f_X8_isIn a1 ((1 : Int32)) ((100 : Int32))).bind (fun (r1 : Int32) => (if r1 = 0 then some ((1 : Int32)) else if ((S.1 0) + a1) ≤ ((2000 : Int32)) then some ((0 : Int32)) else some ((2 : Int32))).bind (fun (r5 : Int32) => (f_X8_goes r5 S).bind (fun ((r9, S10) : Int32 × St) => if r9 = 0 then some ((0 : Int32), S10) else (f_X8_pass_44 a1 3000 ((0 : Int32)) ((0 : Int32)) S10).bind (fun ((r18, S19) : Int32 × St) => some (r18, S19)))))
set_option maxRecDepth 100000 in
set_option maxHeartbeats 4000000 in
theorem c_X8_pass (E : Ev) (ad : Nat → Nat) {a1 : Int32} {S : St} {r : Int32} {S2 : St} (h : f_X8_pass a1 S = some (r, S2)) : CtI E yX8_pass cX8_pass 5 .int 6 145 (mW E ad S) [.ref (ad 0), .int a1] r (mW E ad S2) := by
  refine CtI_of (by decide +kernel) (Nat.le_of_ble_eq_true rfl) (fun x X hE => ?_)
  show J E x 0 0 (mW E ad S) 0 [(0, .ref (ad 0)), (1, .int a1)] []
  unfold f_X8_pass at h
  refine J_aload_n X (pc := 0) dX8_pass_0 0 rfl ?_
  refine J_iload_n X (pc := 1) dX8_pass_1 1 rfl ?_
  refine J_iconst X (pc := 2) (v := 1) dX8_pass_2 (by decide +kernel) ?_
  refine J_bipush X (pc := 3) (v := 100) dX8_pass_3 (by decide +kernel) ?_
  replace h := bk h
  obtain ⟨r1, g2, h⟩ := h
  refine J_callSI X (pc := 5) (y := yX8_isIn) (na := 3) (As := [.int a1, .int ((1 : Int32)), .int ((100 : Int32))]) (rest := [.ref (ad 0)]) (c_X8_isIn E (mW E ad S) g2) q_463 q_464 q_465 q_460 rfl (by decide +kernel) (by decide +kernel) rfl (Nat.le_of_ble_eq_true rfl) ⟨Nat.le_refl _, Nat.le_refl _⟩ dX8_pass_5 ?_
  replace h := bk h
  obtain ⟨r5, g7, h⟩ := h
  have j6 : J E x 0 0 (mW E ad S) 32 [(0, .ref (ad 0)), (1, .int a1)] [.int r5, .ref (ad 0)] := by
    replace h := bk h
    obtain ⟨⟨r9, S10⟩, g11, h⟩ := h
    dsimp only at h
    refine J_callVI X (pc := 32) (y := yX8_goes) (na := 1) (As := [.int r5]) (rest := []) (c_X8_goes E ad g11) 0 mW_c0 rfl q_468 q_469 q_470 q_465 q_459 rfl (by decide +kernel) (by decide +kernel) rfl (Nat.le_of_ble_eq_true rfl) ⟨Nat.le_refl _, Nat.le_refl _⟩ dX8_pass_32 ?_
    refine J_if_ne X (pc := 35) 40 dX8_pass_35 (by decide) (fun c12 => ?_) (fun c12 => ?_)
    · rw [if_neg c12] at h
      refine J_iconst X (pc := 40) (v := 0) dX8_pass_40 (by decide +kernel) ?_
      refine J_istore_n X (pc := 41) dX8_pass_41 (by decide) rfl ?_
      refine J_iconst X (pc := 42) (v := 0) dX8_pass_42 (by decide +kernel) ?_
      refine J_istore_n X (pc := 43) dX8_pass_43 (by decide) rfl ?_
      replace h := bk h
      obtain ⟨⟨r18, S19⟩, g21, h⟩ := h
      dsimp only at h
      have k20 : J E x 0 0 (mW E ad S19) 100 [(2, .int r18)] [] := by
        refine J_iload_n X (pc := 100) dX8_pass_100 0 rfl ?_
        cases h
        exact hE _ _ dX8_pass_101 rfl
      clear h
      have l45 : ∀ (n16 : Nat) (x13 : Int32) (x14 : Int32) (S15 : St), f_X8_pass_44 a1 n16 x13 x14 S15 = some (r18, S19) → J E x 0 0 (mW E ad S15) 44 [(0, .ref (ad 0)), (1, .int a1), (2, .int x13), (3, .int x14)] [] := by
        intro n16
        induction n16 with
        | zero => intro x13 x14 S15 h; rw [f_X8_pass_44] at h; cases h
        | succ n16 ih17 =>
          intro x13 x14 S15 h
          rw [f_X8_pass_44] at h
          refine J_iload_n X (pc := 44) dX8_pass_44 3 rfl ?_
          refine J_iload_n X (pc := 45) dX8_pass_45 1 rfl ?_
          refine J_icmp_ge X (pc := 46) 100 dX8_pass_46 (by decide) (fun c22 => ?_) (fun c22 => ?_)
          · rw [if_pos c22] at h
            cases h
            exact J_sub [2] rfl k20
          · rw [if_neg c22] at h
            refine J_aload_n X (pc := 49) dX8_pass_49 0 rfl ?_
            refine J_dup X (pc := 50) dX8_pass_50 rfl ?_
            refine J_getf X (pc := 51) 0 mW_c0 rfl in_X8 0 (by decide) q_476 rfl dX8_pass_51 ?_
            refine J_iconst X (pc := 54) (v := 1) dX8_pass_54 (by decide +kernel) ?_
            refine J_iadd X (pc := 55) dX8_pass_55 ?_
            replace h := nmv_e h
            obtain ⟨S23, eS23, h⟩ := h
            refine J_putf X (pc := 56) (ty := .int) (w1 := (mW E ad S23)) 0 mW_c0 rfl in_X8 tyX8_ok nmX8 0 (by decide) q_476 rfl (by decide +kernel) rfl rfl (Nat.le_of_ble_eq_true rfl) dX8_pass_56 (mW_p0 eS23) ?_
            refine J_iconst X (pc := 59) (v := 0) dX8_pass_59 (by decide +kernel) ?_
            refine J_istore X (pc := 60) dX8_pass_60 (by decide) rfl ?_
            replace h := bk h
            obtain ⟨⟨r29, S30⟩, g32, h⟩ := h
            dsimp only at h
            have k31 : J E x 0 0 (mW E ad S30) 94 [(0, .ref (ad 0)), (1, .int a1), (2, .int r29), (3, .int x14)] [] := by
              replace h := nmv_e h
              obtain ⟨v44, ev44, h⟩ := h
              refine J_iinc X (pc := 94) (v := v44) dX8_pass_94 3 rfl (by rw [ev44]; rfl) (by decide) rfl ?_
              refine J_goto X (pc := 97) 44 dX8_pass_97 (by decide) ?_
              exact J_sub [1, 2, 3, 0] rfl (ih17 _ _ _ h)
            clear h
            have l43 : ∀ (n27 : Nat) (x24 : Int32) (x25 : Int32) (S26 : St), f_X8_pass_62 n27 x24 x25 S26 = some (r29, S30) → J E x 0 0 (mW E ad S26) 62 [(0, .ref (ad 0)), (1, .int a1), (2, .int x24), (3, .int x14), (4, .int x25)] [] := by
              intro n27
              induction n27 with
              | zero => intro x24 x25 S26 h; rw [f_X8_pass_62] at h; cases h
              | succ n27 ih28 =>
                intro x24 x25 S26 h
                rw [f_X8_pass_62] at h
                refine J_iload X (pc := 62) dX8_pass_62 4 rfl ?_
                refine J_aload_n X (pc := 64) dX8_pass_64 0 rfl ?_
                refine J_getf X (pc := 65) 0 mW_c0 rfl in_X8 1 (by decide) q_462 rfl dX8_pass_65 ?_
                refine J_icmp_ge X (pc := 68) 94 dX8_pass_68 (by decide) (fun c33 => ?_) (fun c33 => ?_)
                · rw [if_pos c33] at h
                  cases h
                  exact J_sub [0, 1, 2, 3] rfl k31
                · rw [if_neg c33] at h
                  refine J_iload_n X (pc := 71) dX8_pass_71 2 rfl ?_
                  refine J_aload_n X (pc := 72) dX8_pass_72 0 rfl ?_
                  refine J_iload X (pc := 73) dX8_pass_73 4 rfl ?_
                  replace h := bk h
                  obtain ⟨⟨r34, S35⟩, g36, h⟩ := h
                  dsimp only at h
                  refine J_callVI X (pc := 75) (y := yX8_looks) (na := 1) (As := [.int x25]) (rest := [.int x24]) (c_X8_looks E ad g36) 0 mW_c0 rfl q_529 q_530 q_531 q_465 q_528 rfl (by decide +kernel) (by decide +kernel) rfl (Nat.le_of_ble_eq_true rfl) ⟨Nat.le_refl _, Nat.le_refl _⟩ dX8_pass_75 ?_
                  replace h := bk h
                  obtain ⟨r38, g40, h⟩ := h
                  have j39 : J E x 0 0 (mW E ad S35) 86 [(0, .ref (ad 0)), (1, .int a1), (3, .int x14), (4, .int x25)] [.int r38, .int x24] := by
                    refine J_iadd X (pc := 86) dX8_pass_86 ?_
                    replace h := nmv_e h
                    obtain ⟨v41, ev41, h⟩ := h
                    refine J_nmi ev41 ?_
                    refine J_istore_n X (pc := 87) dX8_pass_87 (by decide) rfl ?_
                    replace h := nmv_e h
                    obtain ⟨v42, ev42, h⟩ := h
                    refine J_iinc X (pc := 88) (v := v42) dX8_pass_88 4 rfl (by rw [ev42]; rfl) (by decide) rfl ?_
                    refine J_goto X (pc := 91) 62 dX8_pass_91 (by decide) ?_
                    exact J_sub [2, 3, 1, 4, 0] rfl (ih28 _ _ _ h)
                  refine J_if_eq X (pc := 78) 85 dX8_pass_78 (by decide) (fun c37 => ?_) (fun c37 => ?_)
                  · rw [if_pos c37] at g40
                    refine J_iconst X (pc := 85) (v := 0) dX8_pass_85 (by decide +kernel) ?_
                    cases g40
                    exact J_sub [0, 1, 3, 4] rfl j39
                  · rw [if_neg c37] at g40
                    refine J_iconst X (pc := 81) (v := 1) dX8_pass_81 (by decide +kernel) ?_
                    refine J_goto X (pc := 82) 86 dX8_pass_82 (by decide) ?_
                    cases g40
                    exact J_sub [0, 1, 3, 4] rfl j39
            exact J_sub [1, 2, 3, 4, 0] rfl (l43 3000 _ _ _ g32)
      exact J_sub [2, 3, 1, 0] rfl (l45 3000 _ _ _ g21)
    · rw [if_pos c12] at h
      refine J_iconst X (pc := 38) (v := 0) dX8_pass_38 (by decide +kernel) ?_
      cases h
      exact hE _ _ dX8_pass_39 rfl
  refine J_if_ne X (pc := 8) 15 dX8_pass_8 (by decide) (fun c3 => ?_) (fun c3 => ?_)
  · rw [if_neg c3] at g7
    refine J_aload_n X (pc := 15) dX8_pass_15 0 rfl ?_
    refine J_getf X (pc := 16) 0 mW_c0 rfl in_X8 0 (by decide) q_476 rfl dX8_pass_16 ?_
    refine J_iload_n X (pc := 19) dX8_pass_19 1 rfl ?_
    refine J_iadd X (pc := 20) dX8_pass_20 ?_
    refine J_sipush X (pc := 21) (v := 2000) dX8_pass_21 (by decide +kernel) ?_
    refine J_icmp_le X (pc := 24) 31 dX8_pass_24 (by decide) (fun c8 => ?_) (fun c8 => ?_)
    · rw [if_pos c8] at g7
      refine J_iconst X (pc := 31) (v := 0) dX8_pass_31 (by decide +kernel) ?_
      cases g7
      exact J_sub [0, 1] rfl j6
    · rw [if_neg c8] at g7
      refine J_iconst X (pc := 27) (v := 2) dX8_pass_27 (by decide +kernel) ?_
      refine J_goto X (pc := 28) 32 dX8_pass_28 (by decide) ?_
      cases g7
      exact J_sub [0, 1] rfl j6
  · rw [if_pos c3] at g7
    refine J_iconst X (pc := 11) (v := 1) dX8_pass_11 (by decide +kernel) ?_
    refine J_goto X (pc := 12) 32 dX8_pass_12 (by decide) ?_
    cases g7
    exact J_sub [0, 1] rfl j6
def f_X8_today (S : St) : Option (Int32 × St) := nmv (sF S 7 ((0 : Int32))) (fun (S1 : St) => some (S1.1 0, S1))
set_option maxRecDepth 100000 in
set_option maxHeartbeats 4000000 in
theorem c_X8_today (E : Ev) (ad : Nat → Nat) {S : St} {r : Int32} {S2 : St} (h : f_X8_today S = some (r, S2)) : CtI E yX8_today cX8_today 1 .int 0 0 (mW E ad S) [.ref (ad 0)] r (mW E ad S2) := by
  refine CtI_of (by decide +kernel) (Nat.le_of_ble_eq_true rfl) (fun x X hE => ?_)
  show J E x 0 0 (mW E ad S) 0 [(0, .ref (ad 0))] []
  unfold f_X8_today at h
  refine J_aload_n X (pc := 0) dX8_today_0 0 rfl ?_
  refine J_iconst X (pc := 1) (v := 0) dX8_today_1 (by decide +kernel) ?_
  replace h := nmv_e h
  obtain ⟨S1, eS1, h⟩ := h
  refine J_putf X (pc := 2) (ty := .int) (w1 := (mW E ad S1)) 0 mW_c0 rfl in_X8 tyX8_ok nmX8 29 (by decide) q_458 rfl (by decide +kernel) rfl rfl (Nat.le_of_ble_eq_true rfl) dX8_today_2 (mW_p7 eS1) ?_
  refine J_aload_n X (pc := 5) dX8_today_5 0 rfl ?_
  refine J_getf X (pc := 6) 0 mW_c0 rfl in_X8 0 (by decide) q_476 rfl dX8_today_6 ?_
  cases h
  exact hE _ _ dX8_today_9 rfl
def f_X8_asks (a1 : Int32) (S : St) : Option (Int32 × St) := (f_X8_isStore a1 S).bind (fun (r1 : Int32) => (if r1 = 0 then some ((1 : Int32)) else some ((0 : Int32))).bind (fun (r4 : Int32) => (f_X8_goes r4 S).bind (fun ((r7, S8) : Int32 × St) => ck (isZ r7) (some (r7, S8)))))
set_option maxRecDepth 100000 in
set_option maxHeartbeats 4000000 in
theorem c_X8_asks (E : Ev) (ad : Nat → Nat) {a1 : Int32} {S : St} {r : Int32} {S2 : St} (h : f_X8_asks a1 S = some (r, S2)) : CtI E yX8_asks cX8_asks 2 .boolean 2 43 (mW E ad S) [.ref (ad 0), .int a1] r (mW E ad S2) := by
  refine CtI_of (by decide +kernel) (Nat.le_of_ble_eq_true rfl) (fun x X hE => ?_)
  show J E x 0 0 (mW E ad S) 0 [(0, .ref (ad 0)), (1, .int a1)] []
  unfold f_X8_asks at h
  refine J_aload_n X (pc := 0) dX8_asks_0 0 rfl ?_
  refine J_aload_n X (pc := 1) dX8_asks_1 0 rfl ?_
  refine J_iload_n X (pc := 2) dX8_asks_2 1 rfl ?_
  replace h := bk h
  obtain ⟨r1, g2, h⟩ := h
  refine J_callVI X (pc := 3) (y := yX8_isStore) (na := 1) (As := [.int a1]) (rest := [.ref (ad 0)]) (c_X8_isStore E ad g2) 0 mW_c0 rfl q_472 q_473 q_474 q_465 q_461 rfl (by decide +kernel) (by decide +kernel) rfl (Nat.le_of_ble_eq_true rfl) ⟨Nat.le_refl _, Nat.le_refl _⟩ dX8_asks_3 ?_
  replace h := bk h
  obtain ⟨r4, g6, h⟩ := h
  have j5 : J E x 0 0 (mW E ad S) 14 [] [.int r4, .ref (ad 0)] := by
    replace h := bk h
    obtain ⟨⟨r7, S8⟩, g9, h⟩ := h
    dsimp only at h
    refine J_callVI X (pc := 14) (y := yX8_goes) (na := 1) (As := [.int r4]) (rest := []) (c_X8_goes E ad g9) 0 mW_c0 rfl q_468 q_469 q_470 q_465 q_459 rfl (by decide +kernel) (by decide +kernel) rfl (Nat.le_of_ble_eq_true rfl) ⟨Nat.le_refl _, Nat.le_refl _⟩ dX8_asks_14 ?_
    replace h := ck_e h
    obtain ⟨b10, h⟩ := h
    cases h
    exact hE _ _ dX8_asks_17 (isZ_nar b10)
  refine J_if_eq X (pc := 6) 13 dX8_asks_6 (by decide) (fun c3 => ?_) (fun c3 => ?_)
  · rw [if_pos c3] at g6
    refine J_iconst X (pc := 13) (v := 1) dX8_asks_13 (by decide +kernel) ?_
    cases g6
    exact J_sub [] rfl j5
  · rw [if_neg c3] at g6
    refine J_iconst X (pc := 9) (v := 0) dX8_asks_9 (by decide +kernel) ?_
    refine J_goto X (pc := 10) 14 dX8_asks_10 (by decide) ?_
    cases g6
    exact J_sub [] rfl j5
def f_X8_samples (a1 : Int32) (S : St) : Option (Int32 × St) := (f_X8_asks a1 S).bind (fun ((r1, S2) : Int32 × St) => if r1 = 0 then some ((0 : Int32), S2) else ck (inb a1 8) (some (S2.2 1 a1.toNatClampNeg, S2)))
set_option maxRecDepth 100000 in
set_option maxHeartbeats 4000000 in
theorem c_X8_samples (E : Ev) (ad : Nat → Nat) {a1 : Int32} {S : St} {r : Int32} {S2 : St} (h : f_X8_samples a1 S = some (r, S2)) : CtI E yX8_samples cX8_samples 2 .int 3 64 (mW E ad S) [.ref (ad 0), .int a1] r (mW E ad S2) := by
  refine CtI_of (by decide +kernel) (Nat.le_of_ble_eq_true rfl) (fun x X hE => ?_)
  show J E x 0 0 (mW E ad S) 0 [(0, .ref (ad 0)), (1, .int a1)] []
  unfold f_X8_samples at h
  refine J_aload_n X (pc := 0) dX8_samples_0 0 rfl ?_
  refine J_iload_n X (pc := 1) dX8_samples_1 1 rfl ?_
  replace h := bk h
  obtain ⟨⟨r1, S2⟩, g3, h⟩ := h
  dsimp only at h
  refine J_callVI X (pc := 2) (y := yX8_asks) (na := 1) (As := [.int a1]) (rest := []) (c_X8_asks E ad g3) 0 mW_c0 rfl q_536 q_537 q_538 q_465 q_534 rfl (by decide +kernel) (by decide +kernel) rfl (Nat.le_of_ble_eq_true rfl) ⟨Nat.le_refl _, Nat.le_refl _⟩ dX8_samples_2 ?_
  refine J_if_eq X (pc := 5) 17 dX8_samples_5 (by decide) (fun c4 => ?_) (fun c4 => ?_)
  · rw [if_pos c4] at h
    refine J_iconst X (pc := 17) (v := 0) dX8_samples_17 (by decide +kernel) ?_
    cases h
    exact hE _ _ dX8_samples_18 rfl
  · rw [if_neg c4] at h
    refine J_aload_n X (pc := 8) dX8_samples_8 0 rfl ?_
    refine J_getf X (pc := 9) 0 mW_c0 rfl in_X8 3 (by decide) q_434 rfl dX8_samples_9 ?_
    refine J_iload_n X (pc := 12) dX8_samples_12 1 rfl ?_
    replace h := ck_e h
    obtain ⟨b5, h⟩ := h
    refine J_iald X (pc := 13) 2 mW_c2 b5 dX8_samples_13 ?_
    refine J_goto X (pc := 14) 18 dX8_samples_14 (by decide) ?_
    cases h
    exact hE _ _ dX8_samples_18 rfl
def f_X8_asksSlope (a1 : Int32) (S : St) : Option (Int32 × St) := (f_X8_isStore a1 S).bind (fun (r1 : Int32) => (if r1 = 0 then some ((1 : Int32)) else ck (inb a1 8) (if ((2 : Int32)) ≤ (S.2 1 a1.toNatClampNeg) then some ((0 : Int32)) else some ((2 : Int32)))).bind (fun (r6 : Int32) => (f_X8_goes r6 S).bind (fun ((r11, S12) : Int32 × St) => if r11 = 0 then some ((0 : Int32), S12) else (f_X8_findsSlope a1 ((-1 : Int32)) S12).bind (fun ((r15, S16) : Int32 × St) => if r15 = 0 then some ((0 : Int32), S16) else some ((1 : Int32), S16)))))
set_option maxRecDepth 100000 in
set_option maxHeartbeats 4000000 in
theorem c_X8_asksSlope (E : Ev) (ad : Nat → Nat) {a1 : Int32} {S : St} {r : Int32} {S2 : St} (h : f_X8_asksSlope a1 S = some (r, S2)) : CtI E yX8_asksSlope cX8_asksSlope 2 .boolean 3 74 (mW E ad S) [.ref (ad 0), .int a1] r (mW E ad S2) := by
  refine CtI_of (by decide +kernel) (Nat.le_of_ble_eq_true rfl) (fun x X hE => ?_)
  show J E x 0 0 (mW E ad S) 0 [(0, .ref (ad 0)), (1, .int a1)] []
  unfold f_X8_asksSlope at h
  refine J_aload_n X (pc := 0) dX8_asksSlope_0 0 rfl ?_
  refine J_aload_n X (pc := 1) dX8_asksSlope_1 0 rfl ?_
  refine J_iload_n X (pc := 2) dX8_asksSlope_2 1 rfl ?_
  replace h := bk h
  obtain ⟨r1, g2, h⟩ := h
  refine J_callVI X (pc := 3) (y := yX8_isStore) (na := 1) (As := [.int a1]) (rest := [.ref (ad 0)]) (c_X8_isStore E ad g2) 0 mW_c0 rfl q_472 q_473 q_474 q_465 q_461 rfl (by decide +kernel) (by decide +kernel) rfl (Nat.le_of_ble_eq_true rfl) ⟨Nat.le_refl _, Nat.le_refl _⟩ dX8_asksSlope_3 ?_
  replace h := bk h
  obtain ⟨r6, g8, h⟩ := h
  have j7 : J E x 0 0 (mW E ad S) 28 [(0, .ref (ad 0)), (1, .int a1)] [.int r6, .ref (ad 0)] := by
    replace h := bk h
    obtain ⟨⟨r11, S12⟩, g13, h⟩ := h
    dsimp only at h
    refine J_callVI X (pc := 28) (y := yX8_goes) (na := 1) (As := [.int r6]) (rest := []) (c_X8_goes E ad g13) 0 mW_c0 rfl q_468 q_469 q_470 q_465 q_459 rfl (by decide +kernel) (by decide +kernel) rfl (Nat.le_of_ble_eq_true rfl) ⟨Nat.le_refl _, Nat.le_refl _⟩ dX8_asksSlope_28 ?_
    refine J_if_eq X (pc := 31) 47 dX8_asksSlope_31 (by decide) (fun c14 => ?_) (fun c14 => ?_)
    · rw [if_pos c14] at h
      refine J_iconst X (pc := 47) (v := 0) dX8_asksSlope_47 (by decide +kernel) ?_
      cases h
      exact hE _ _ dX8_asksSlope_48 (by decide +kernel)
    · rw [if_neg c14] at h
      refine J_aload_n X (pc := 34) dX8_asksSlope_34 0 rfl ?_
      refine J_iload_n X (pc := 35) dX8_asksSlope_35 1 rfl ?_
      refine J_iconst X (pc := 36) (v := -1) dX8_asksSlope_36 (by decide +kernel) ?_
      replace h := bk h
      obtain ⟨⟨r15, S16⟩, g17, h⟩ := h
      dsimp only at h
      refine J_callVI X (pc := 37) (y := yX8_findsSlope) (na := 2) (As := [.int a1, .int ((-1 : Int32))]) (rest := []) (c_X8_findsSlope E ad g17) 0 mW_c0 rfl q_511 q_512 q_513 q_465 q_503 rfl (by decide +kernel) (by decide +kernel) rfl (Nat.le_of_ble_eq_true rfl) ⟨Nat.le_refl _, Nat.le_refl _⟩ dX8_asksSlope_37 ?_
      refine J_if_eq X (pc := 40) 47 dX8_asksSlope_40 (by decide) (fun c18 => ?_) (fun c18 => ?_)
      · rw [if_pos c18] at h
        refine J_iconst X (pc := 47) (v := 0) dX8_asksSlope_47 (by decide +kernel) ?_
        cases h
        exact hE _ _ dX8_asksSlope_48 (by decide +kernel)
      · rw [if_neg c18] at h
        refine J_iconst X (pc := 43) (v := 1) dX8_asksSlope_43 (by decide +kernel) ?_
        refine J_goto X (pc := 44) 48 dX8_asksSlope_44 (by decide) ?_
        cases h
        exact hE _ _ dX8_asksSlope_48 (by decide +kernel)
  refine J_if_ne X (pc := 6) 13 dX8_asksSlope_6 (by decide) (fun c3 => ?_) (fun c3 => ?_)
  · rw [if_neg c3] at g8
    refine J_aload_n X (pc := 13) dX8_asksSlope_13 0 rfl ?_
    refine J_getf X (pc := 14) 0 mW_c0 rfl in_X8 3 (by decide) q_434 rfl dX8_asksSlope_14 ?_
    refine J_iload_n X (pc := 17) dX8_asksSlope_17 1 rfl ?_
    replace g8 := ck_e g8
    obtain ⟨b9, g8⟩ := g8
    refine J_iald X (pc := 18) 2 mW_c2 b9 dX8_asksSlope_18 ?_
    refine J_iconst X (pc := 19) (v := 2) dX8_asksSlope_19 (by decide +kernel) ?_
    refine J_icmp_ge X (pc := 20) 27 dX8_asksSlope_20 (by decide) (fun c10 => ?_) (fun c10 => ?_)
    · rw [if_pos c10] at g8
      refine J_iconst X (pc := 27) (v := 0) dX8_asksSlope_27 (by decide +kernel) ?_
      cases g8
      exact J_sub [0, 1] rfl j7
    · rw [if_neg c10] at g8
      refine J_iconst X (pc := 23) (v := 2) dX8_asksSlope_23 (by decide +kernel) ?_
      refine J_goto X (pc := 24) 28 dX8_asksSlope_24 (by decide) ?_
      cases g8
      exact J_sub [0, 1] rfl j7
  · rw [if_pos c3] at g8
    refine J_iconst X (pc := 9) (v := 1) dX8_asksSlope_9 (by decide +kernel) ?_
    refine J_goto X (pc := 10) 28 dX8_asksSlope_10 (by decide) ?_
    cases g8
    exact J_sub [0, 1] rfl j7
def f_X8_slopeNumerator (a1 : Int32) (S : St) : Option (Int32 × St) := (f_X8_asksSlope a1 S).bind (fun ((r1, S2) : Int32 × St) => if r1 = 0 then some ((0 : Int32), S2) else some (S2.1 3, S2))
set_option maxRecDepth 100000 in
set_option maxHeartbeats 4000000 in
theorem c_X8_slopeNumerator (E : Ev) (ad : Nat → Nat) {a1 : Int32} {S : St} {r : Int32} {S2 : St} (h : f_X8_slopeNumerator a1 S = some (r, S2)) : CtI E yX8_slopeNumerator cX8_slopeNumerator 2 .int 4 95 (mW E ad S) [.ref (ad 0), .int a1] r (mW E ad S2) := by
  refine CtI_of (by decide +kernel) (Nat.le_of_ble_eq_true rfl) (fun x X hE => ?_)
  show J E x 0 0 (mW E ad S) 0 [(0, .ref (ad 0)), (1, .int a1)] []
  unfold f_X8_slopeNumerator at h
  refine J_aload_n X (pc := 0) dX8_slopeNumerator_0 0 rfl ?_
  refine J_iload_n X (pc := 1) dX8_slopeNumerator_1 1 rfl ?_
  replace h := bk h
  obtain ⟨⟨r1, S2⟩, g3, h⟩ := h
  dsimp only at h
  refine J_callVI X (pc := 2) (y := yX8_asksSlope) (na := 1) (As := [.int a1]) (rest := []) (c_X8_asksSlope E ad g3) 0 mW_c0 rfl q_540 q_541 q_542 q_465 q_539 rfl (by decide +kernel) (by decide +kernel) rfl (Nat.le_of_ble_eq_true rfl) ⟨Nat.le_refl _, Nat.le_refl _⟩ dX8_slopeNumerator_2 ?_
  refine J_if_eq X (pc := 5) 15 dX8_slopeNumerator_5 (by decide) (fun c4 => ?_) (fun c4 => ?_)
  · rw [if_pos c4] at h
    refine J_iconst X (pc := 15) (v := 0) dX8_slopeNumerator_15 (by decide +kernel) ?_
    cases h
    exact hE _ _ dX8_slopeNumerator_16 rfl
  · rw [if_neg c4] at h
    refine J_aload_n X (pc := 8) dX8_slopeNumerator_8 0 rfl ?_
    refine J_getf X (pc := 9) 0 mW_c0 rfl in_X8 25 (by decide) q_491 rfl dX8_slopeNumerator_9 ?_
    refine J_goto X (pc := 12) 16 dX8_slopeNumerator_12 (by decide) ?_
    cases h
    exact hE _ _ dX8_slopeNumerator_16 rfl
def f_X8_slopeDenominator (a1 : Int32) (S : St) : Option (Int32 × St) := (f_X8_asksSlope a1 S).bind (fun ((r1, S2) : Int32 × St) => if r1 = 0 then some ((0 : Int32), S2) else some (S2.1 4, S2))
set_option maxRecDepth 100000 in
set_option maxHeartbeats 4000000 in
theorem c_X8_slopeDenominator (E : Ev) (ad : Nat → Nat) {a1 : Int32} {S : St} {r : Int32} {S2 : St} (h : f_X8_slopeDenominator a1 S = some (r, S2)) : CtI E yX8_slopeDenominator cX8_slopeDenominator 2 .int 4 95 (mW E ad S) [.ref (ad 0), .int a1] r (mW E ad S2) := by
  refine CtI_of (by decide +kernel) (Nat.le_of_ble_eq_true rfl) (fun x X hE => ?_)
  show J E x 0 0 (mW E ad S) 0 [(0, .ref (ad 0)), (1, .int a1)] []
  unfold f_X8_slopeDenominator at h
  refine J_aload_n X (pc := 0) dX8_slopeDenominator_0 0 rfl ?_
  refine J_iload_n X (pc := 1) dX8_slopeDenominator_1 1 rfl ?_
  replace h := bk h
  obtain ⟨⟨r1, S2⟩, g3, h⟩ := h
  dsimp only at h
  refine J_callVI X (pc := 2) (y := yX8_asksSlope) (na := 1) (As := [.int a1]) (rest := []) (c_X8_asksSlope E ad g3) 0 mW_c0 rfl q_540 q_541 q_542 q_465 q_539 rfl (by decide +kernel) (by decide +kernel) rfl (Nat.le_of_ble_eq_true rfl) ⟨Nat.le_refl _, Nat.le_refl _⟩ dX8_slopeDenominator_2 ?_
  refine J_if_eq X (pc := 5) 15 dX8_slopeDenominator_5 (by decide) (fun c4 => ?_) (fun c4 => ?_)
  · rw [if_pos c4] at h
    refine J_iconst X (pc := 15) (v := 0) dX8_slopeDenominator_15 (by decide +kernel) ?_
    cases h
    exact hE _ _ dX8_slopeDenominator_16 rfl
  · rw [if_neg c4] at h
    refine J_aload_n X (pc := 8) dX8_slopeDenominator_8 0 rfl ?_
    refine J_getf X (pc := 9) 0 mW_c0 rfl in_X8 26 (by decide) q_492 rfl dX8_slopeDenominator_9 ?_
    refine J_goto X (pc := 12) 16 dX8_slopeDenominator_12 (by decide) ?_
    cases h
    exact hE _ _ dX8_slopeDenominator_16 rfl
def f_X8_usual (a1 : Int32) (S : St) : Option (Int32 × St) := (f_X8_asks a1 S).bind (fun ((r1, S2) : Int32 × St) => if r1 = 0 then some ((0 : Int32), S2) else (f_X8_usualOf a1 S2).bind (fun (r5 : Int32) => some (r5, S2)))
set_option maxRecDepth 100000 in
set_option maxHeartbeats 4000000 in
theorem c_X8_usual (E : Ev) (ad : Nat → Nat) {a1 : Int32} {S : St} {r : Int32} {S2 : St} (h : f_X8_usual a1 S = some (r, S2)) : CtI E yX8_usual cX8_usual 2 .int 3 64 (mW E ad S) [.ref (ad 0), .int a1] r (mW E ad S2) := by
  refine CtI_of (by decide +kernel) (Nat.le_of_ble_eq_true rfl) (fun x X hE => ?_)
  show J E x 0 0 (mW E ad S) 0 [(0, .ref (ad 0)), (1, .int a1)] []
  unfold f_X8_usual at h
  refine J_aload_n X (pc := 0) dX8_usual_0 0 rfl ?_
  refine J_iload_n X (pc := 1) dX8_usual_1 1 rfl ?_
  replace h := bk h
  obtain ⟨⟨r1, S2⟩, g3, h⟩ := h
  dsimp only at h
  refine J_callVI X (pc := 2) (y := yX8_asks) (na := 1) (As := [.int a1]) (rest := []) (c_X8_asks E ad g3) 0 mW_c0 rfl q_536 q_537 q_538 q_465 q_534 rfl (by decide +kernel) (by decide +kernel) rfl (Nat.le_of_ble_eq_true rfl) ⟨Nat.le_refl _, Nat.le_refl _⟩ dX8_usual_2 ?_
  refine J_if_eq X (pc := 5) 16 dX8_usual_5 (by decide) (fun c4 => ?_) (fun c4 => ?_)
  · rw [if_pos c4] at h
    refine J_iconst X (pc := 16) (v := 0) dX8_usual_16 (by decide +kernel) ?_
    cases h
    exact hE _ _ dX8_usual_17 rfl
  · rw [if_neg c4] at h
    refine J_aload_n X (pc := 8) dX8_usual_8 0 rfl ?_
    refine J_iload_n X (pc := 9) dX8_usual_9 1 rfl ?_
    replace h := bk h
    obtain ⟨r5, g6, h⟩ := h
    refine J_callVI X (pc := 10) (y := yX8_usualOf) (na := 1) (As := [.int a1]) (rest := []) (c_X8_usualOf E ad g6) 0 mW_c0 rfl q_514 q_515 q_516 q_465 q_504 rfl (by decide +kernel) (by decide +kernel) rfl (Nat.le_of_ble_eq_true rfl) ⟨Nat.le_refl _, Nat.le_refl _⟩ dX8_usual_10 ?_
    refine J_goto X (pc := 13) 17 dX8_usual_13 (by decide) ?_
    cases h
    exact hE _ _ dX8_usual_17 rfl
def f_X8_forecast (a1 : Int32) (a2 : Int32) (S : St) : Option (Int32 × St) := (f_X8_asksSlope a1 S).bind (fun ((r1, S2) : Int32 × St) => if r1 = 0 then some ((0 : Int32), S2) else (f_X8_isIn a2 ((S2.1 5) + ((1 : Int32))) ((S2.1 5) + ((1000 : Int32)))).bind (fun (r5 : Int32) => (if r5 = 0 then some ((3 : Int32)) else some ((0 : Int32))).bind (fun (r8 : Int32) => (f_X8_goes r8 S2).bind (fun ((r11, S12) : Int32 × St) => if r11 = 0 then some ((0 : Int32), S12) else (f_X8_usualOf a1 S12).bind (fun (r15 : Int32) => (f_X8_forecastFor a1 a2 r15 S12).bind (fun (r17 : Int64) => some (r17.toInt32, S12)))))))
set_option maxRecDepth 100000 in
set_option maxHeartbeats 4000000 in
theorem c_X8_forecast (E : Ev) (ad : Nat → Nat) {a1 : Int32} {a2 : Int32} {S : St} {r : Int32} {S2 : St} (h : f_X8_forecast a1 a2 S = some (r, S2)) : CtI E yX8_forecast cX8_forecast 3 .int 4 95 (mW E ad S) [.ref (ad 0), .int a1, .int a2] r (mW E ad S2) := by
  refine CtI_of (by decide +kernel) (Nat.le_of_ble_eq_true rfl) (fun x X hE => ?_)
  show J E x 0 0 (mW E ad S) 0 [(0, .ref (ad 0)), (1, .int a1), (2, .int a2)] []
  unfold f_X8_forecast at h
  refine J_aload_n X (pc := 0) dX8_forecast_0 0 rfl ?_
  refine J_iload_n X (pc := 1) dX8_forecast_1 1 rfl ?_
  replace h := bk h
  obtain ⟨⟨r1, S2⟩, g3, h⟩ := h
  dsimp only at h
  refine J_callVI X (pc := 2) (y := yX8_asksSlope) (na := 1) (As := [.int a1]) (rest := []) (c_X8_asksSlope E ad g3) 0 mW_c0 rfl q_540 q_541 q_542 q_465 q_539 rfl (by decide +kernel) (by decide +kernel) rfl (Nat.le_of_ble_eq_true rfl) ⟨Nat.le_refl _, Nat.le_refl _⟩ dX8_forecast_2 ?_
  refine J_if_ne X (pc := 5) 10 dX8_forecast_5 (by decide) (fun c4 => ?_) (fun c4 => ?_)
  · rw [if_neg c4] at h
    refine J_aload_n X (pc := 10) dX8_forecast_10 0 rfl ?_
    refine J_iload_n X (pc := 11) dX8_forecast_11 2 rfl ?_
    refine J_aload_n X (pc := 12) dX8_forecast_12 0 rfl ?_
    refine J_getf X (pc := 13) 0 mW_c0 rfl in_X8 27 (by decide) q_486 rfl dX8_forecast_13 ?_
    refine J_iconst X (pc := 16) (v := 1) dX8_forecast_16 (by decide +kernel) ?_
    refine J_iadd X (pc := 17) dX8_forecast_17 ?_
    refine J_aload_n X (pc := 18) dX8_forecast_18 0 rfl ?_
    refine J_getf X (pc := 19) 0 mW_c0 rfl in_X8 27 (by decide) q_486 rfl dX8_forecast_19 ?_
    refine J_sipush X (pc := 22) (v := 1000) dX8_forecast_22 (by decide +kernel) ?_
    refine J_iadd X (pc := 25) dX8_forecast_25 ?_
    replace h := bk h
    obtain ⟨r5, g6, h⟩ := h
    refine J_callSI X (pc := 26) (y := yX8_isIn) (na := 3) (As := [.int a2, .int ((S2.1 5) + ((1 : Int32))), .int ((S2.1 5) + ((1000 : Int32)))]) (rest := [.ref (ad 0)]) (c_X8_isIn E (mW E ad S2) g6) q_463 q_464 q_465 q_460 rfl (by decide +kernel) (by decide +kernel) rfl (Nat.le_of_ble_eq_true rfl) ⟨Nat.le_refl _, Nat.le_refl _⟩ dX8_forecast_26 ?_
    replace h := bk h
    obtain ⟨r8, g10, h⟩ := h
    have j9 : J E x 0 0 (mW E ad S2) 37 [(0, .ref (ad 0)), (1, .int a1), (2, .int a2)] [.int r8, .ref (ad 0)] := by
      replace h := bk h
      obtain ⟨⟨r11, S12⟩, g13, h⟩ := h
      dsimp only at h
      refine J_callVI X (pc := 37) (y := yX8_goes) (na := 1) (As := [.int r8]) (rest := []) (c_X8_goes E ad g13) 0 mW_c0 rfl q_468 q_469 q_470 q_465 q_459 rfl (by decide +kernel) (by decide +kernel) rfl (Nat.le_of_ble_eq_true rfl) ⟨Nat.le_refl _, Nat.le_refl _⟩ dX8_forecast_37 ?_
      refine J_if_eq X (pc := 40) 58 dX8_forecast_40 (by decide) (fun c14 => ?_) (fun c14 => ?_)
      · rw [if_pos c14] at h
        refine J_iconst X (pc := 58) (v := 0) dX8_forecast_58 (by decide +kernel) ?_
        cases h
        exact hE _ _ dX8_forecast_59 rfl
      · rw [if_neg c14] at h
        refine J_aload_n X (pc := 43) dX8_forecast_43 0 rfl ?_
        refine J_iload_n X (pc := 44) dX8_forecast_44 1 rfl ?_
        refine J_iload_n X (pc := 45) dX8_forecast_45 2 rfl ?_
        refine J_aload_n X (pc := 46) dX8_forecast_46 0 rfl ?_
        refine J_iload_n X (pc := 47) dX8_forecast_47 1 rfl ?_
        replace h := bk h
        obtain ⟨r15, g16, h⟩ := h
        refine J_callVI X (pc := 48) (y := yX8_usualOf) (na := 1) (As := [.int a1]) (rest := [.int a2, .int a1, .ref (ad 0)]) (c_X8_usualOf E ad g16) 0 mW_c0 rfl q_514 q_515 q_516 q_465 q_504 rfl (by decide +kernel) (by decide +kernel) rfl (Nat.le_of_ble_eq_true rfl) ⟨Nat.le_refl _, Nat.le_refl _⟩ dX8_forecast_48 ?_
        replace h := bk h
        obtain ⟨r17, g18, h⟩ := h
        refine J_callVL X (pc := 51) (y := yX8_forecastFor) (na := 3) (As := [.int a1, .int a2, .int r15]) (rest := []) (c_X8_forecastFor E ad g18) 0 mW_c0 rfl q_517 q_518 q_519 q_465 q_506 rfl (by decide +kernel) (by decide +kernel) rfl (Nat.le_of_ble_eq_true rfl) ⟨Nat.le_refl _, Nat.le_refl _⟩ dX8_forecast_51 ?_
        refine J_l2i X (pc := 54) dX8_forecast_54 ?_
        refine J_goto X (pc := 55) 59 dX8_forecast_55 (by decide) ?_
        cases h
        exact hE _ _ dX8_forecast_59 rfl
    refine J_if_eq X (pc := 29) 36 dX8_forecast_29 (by decide) (fun c7 => ?_) (fun c7 => ?_)
    · rw [if_pos c7] at g10
      refine J_iconst X (pc := 36) (v := 3) dX8_forecast_36 (by decide +kernel) ?_
      cases g10
      exact J_sub [0, 1, 2] rfl j9
    · rw [if_neg c7] at g10
      refine J_iconst X (pc := 32) (v := 0) dX8_forecast_32 (by decide +kernel) ?_
      refine J_goto X (pc := 33) 37 dX8_forecast_33 (by decide) ?_
      cases g10
      exact J_sub [0, 1, 2] rfl j9
  · rw [if_pos c4] at h
    refine J_iconst X (pc := 8) (v := 0) dX8_forecast_8 (by decide +kernel) ?_
    cases h
    exact hE _ _ dX8_forecast_9 rfl
def f_X8_told (a1 : Int32) : Option (Int32) := if a1 = ((1000000 : Int32)) then some ((-1 : Int32)) else some a1
set_option maxRecDepth 100000 in
set_option maxHeartbeats 4000000 in
theorem c_X8_told (E : Ev) (w : va_W) {a1 : Int32} {r : Int32} (h : f_X8_told a1 = some r) : CtI E yX8_told cX8_told 1 .int 0 0 w [.int a1] r w := by
  refine CtI_of (by decide +kernel) (Nat.le_of_ble_eq_true rfl) (fun x X hE => ?_)
  show J E x 0 0 w 0 [(0, .int a1)] []
  unfold f_X8_told at h
  refine J_iload_n X (pc := 0) dX8_told_0 0 rfl ?_
  refine J_ldc X (pc := 1) dX8_told_1 q_467 ?_
  refine J_icmp_ne X (pc := 3) 10 dX8_told_3 (by decide) (fun c1 => ?_) (fun c1 => ?_)
  · rw [if_neg c1] at h
    refine J_iload_n X (pc := 10) dX8_told_10 0 rfl ?_
    cases h
    exact hE _ _ dX8_told_11 rfl
  · rw [if_pos c1] at h
    refine J_iconst X (pc := 6) (v := -1) dX8_told_6 (by decide +kernel) ?_
    refine J_goto X (pc := 7) 11 dX8_told_7 (by decide) ?_
    cases h
    exact hE _ _ dX8_told_11 rfl
def f_X8_full (a1 : Int32) (S : St) : Option (Int32 × St) := (f_X8_asks a1 S).bind (fun ((r1, S2) : Int32 × St) => if r1 = 0 then some ((0 : Int32), S2) else (f_X8_fullDay a1 ((-1 : Int32)) S2).bind (fun ((r5, S6) : Int32 × St) => (f_X8_told r5).bind (fun (r8 : Int32) => some (r8, S6))))
set_option maxRecDepth 100000 in
set_option maxHeartbeats 4000000 in
theorem c_X8_full (E : Ev) (ad : Nat → Nat) {a1 : Int32} {S : St} {r : Int32} {S2 : St} (h : f_X8_full a1 S = some (r, S2)) : CtI E yX8_full cX8_full 2 .int 4 99 (mW E ad S) [.ref (ad 0), .int a1] r (mW E ad S2) := by
  refine CtI_of (by decide +kernel) (Nat.le_of_ble_eq_true rfl) (fun x X hE => ?_)
  show J E x 0 0 (mW E ad S) 0 [(0, .ref (ad 0)), (1, .int a1)] []
  unfold f_X8_full at h
  refine J_aload_n X (pc := 0) dX8_full_0 0 rfl ?_
  refine J_iload_n X (pc := 1) dX8_full_1 1 rfl ?_
  replace h := bk h
  obtain ⟨⟨r1, S2⟩, g3, h⟩ := h
  dsimp only at h
  refine J_callVI X (pc := 2) (y := yX8_asks) (na := 1) (As := [.int a1]) (rest := []) (c_X8_asks E ad g3) 0 mW_c0 rfl q_536 q_537 q_538 q_465 q_534 rfl (by decide +kernel) (by decide +kernel) rfl (Nat.le_of_ble_eq_true rfl) ⟨Nat.le_refl _, Nat.le_refl _⟩ dX8_full_2 ?_
  refine J_if_eq X (pc := 5) 20 dX8_full_5 (by decide) (fun c4 => ?_) (fun c4 => ?_)
  · rw [if_pos c4] at h
    refine J_iconst X (pc := 20) (v := 0) dX8_full_20 (by decide +kernel) ?_
    cases h
    exact hE _ _ dX8_full_21 rfl
  · rw [if_neg c4] at h
    refine J_aload_n X (pc := 8) dX8_full_8 0 rfl ?_
    refine J_iload_n X (pc := 9) dX8_full_9 1 rfl ?_
    refine J_iconst X (pc := 10) (v := -1) dX8_full_10 (by decide +kernel) ?_
    replace h := bk h
    obtain ⟨⟨r5, S6⟩, g7, h⟩ := h
    dsimp only at h
    refine J_callVI X (pc := 11) (y := yX8_fullDay) (na := 2) (As := [.int a1, .int ((-1 : Int32))]) (rest := []) (c_X8_fullDay E ad g7) 0 mW_c0 rfl q_521 q_522 q_523 q_465 q_520 rfl (by decide +kernel) (by decide +kernel) rfl (Nat.le_of_ble_eq_true rfl) ⟨Nat.le_refl _, Nat.le_refl _⟩ dX8_full_11 ?_
    replace h := bk h
    obtain ⟨r8, g9, h⟩ := h
    refine J_callSI X (pc := 14) (y := yX8_told) (na := 1) (As := [.int r5]) (rest := []) (c_X8_told E (mW E ad S6) g9) q_548 q_549 q_465 q_547 rfl (by decide +kernel) (by decide +kernel) rfl (Nat.le_of_ble_eq_true rfl) ⟨Nat.le_refl _, Nat.le_refl _⟩ dX8_full_14 ?_
    refine J_goto X (pc := 17) 21 dX8_full_17 (by decide) ?_
    cases h
    exact hE _ _ dX8_full_21 rfl
def f_X8_early (a1 : Int32) (S : St) : Option (Int32 × St) := (f_X8_asks a1 S).bind (fun ((r1, S2) : Int32 × St) => if r1 = 0 then some ((0 : Int32), S2) else (f_X8_findsBounds a1 S2).bind (fun (S5 : St) => ck (inb a1 8) ((f_X8_told (S5.2 12 a1.toNatClampNeg)).bind (fun (r8 : Int32) => some (r8, S5)))))
set_option maxRecDepth 100000 in
set_option maxHeartbeats 4000000 in
theorem c_X8_early (E : Ev) (ad : Nat → Nat) {a1 : Int32} {S : St} {r : Int32} {S2 : St} (h : f_X8_early a1 S = some (r, S2)) : CtI E yX8_early cX8_early 2 .int 5 122 (mW E ad S) [.ref (ad 0), .int a1] r (mW E ad S2) := by
  refine CtI_of (by decide +kernel) (Nat.le_of_ble_eq_true rfl) (fun x X hE => ?_)
  show J E x 0 0 (mW E ad S) 0 [(0, .ref (ad 0)), (1, .int a1)] []
  unfold f_X8_early at h
  refine J_aload_n X (pc := 0) dX8_early_0 0 rfl ?_
  refine J_iload_n X (pc := 1) dX8_early_1 1 rfl ?_
  replace h := bk h
  obtain ⟨⟨r1, S2⟩, g3, h⟩ := h
  dsimp only at h
  refine J_callVI X (pc := 2) (y := yX8_asks) (na := 1) (As := [.int a1]) (rest := []) (c_X8_asks E ad g3) 0 mW_c0 rfl q_536 q_537 q_538 q_465 q_534 rfl (by decide +kernel) (by decide +kernel) rfl (Nat.le_of_ble_eq_true rfl) ⟨Nat.le_refl _, Nat.le_refl _⟩ dX8_early_2 ?_
  refine J_if_ne X (pc := 5) 10 dX8_early_5 (by decide) (fun c4 => ?_) (fun c4 => ?_)
  · rw [if_neg c4] at h
    refine J_aload_n X (pc := 10) dX8_early_10 0 rfl ?_
    refine J_iload_n X (pc := 11) dX8_early_11 1 rfl ?_
    replace h := bk h
    obtain ⟨S5, g6, h⟩ := h
    refine J_callVV X (pc := 12) (y := yX8_findsBounds) (na := 1) (As := [.int a1]) (rest := []) (c_X8_findsBounds E ad g6) 0 mW_c0 rfl q_525 q_526 q_527 q_465 q_524 rfl (by decide +kernel) (by decide +kernel) rfl (Nat.le_of_ble_eq_true rfl) ⟨Nat.le_refl _, Nat.le_refl _⟩ dX8_early_12 ?_
    refine J_aload_n X (pc := 15) dX8_early_15 0 rfl ?_
    refine J_getf X (pc := 16) 0 mW_c0 rfl in_X8 14 (by decide) q_446 rfl dX8_early_16 ?_
    refine J_iload_n X (pc := 19) dX8_early_19 1 rfl ?_
    replace h := ck_e h
    obtain ⟨b7, h⟩ := h
    refine J_iald X (pc := 20) 13 mW_c13 b7 dX8_early_20 ?_
    replace h := bk h
    obtain ⟨r8, g9, h⟩ := h
    refine J_callSI X (pc := 21) (y := yX8_told) (na := 1) (As := [.int (S5.2 12 a1.toNatClampNeg)]) (rest := []) (c_X8_told E (mW E ad S5) g9) q_548 q_549 q_465 q_547 rfl (by decide +kernel) (by decide +kernel) rfl (Nat.le_of_ble_eq_true rfl) ⟨Nat.le_refl _, Nat.le_refl _⟩ dX8_early_21 ?_
    cases h
    exact hE _ _ dX8_early_24 rfl
  · rw [if_pos c4] at h
    refine J_iconst X (pc := 8) (v := 0) dX8_early_8 (by decide +kernel) ?_
    cases h
    exact hE _ _ dX8_early_9 rfl
def f_X8_late (a1 : Int32) (S : St) : Option (Int32 × St) := (f_X8_asks a1 S).bind (fun ((r1, S2) : Int32 × St) => if r1 = 0 then some ((0 : Int32), S2) else (f_X8_findsBounds a1 S2).bind (fun (S5 : St) => ck (inb a1 8) ((f_X8_told (S5.2 13 a1.toNatClampNeg)).bind (fun (r8 : Int32) => some (r8, S5)))))
set_option maxRecDepth 100000 in
set_option maxHeartbeats 4000000 in
theorem c_X8_late (E : Ev) (ad : Nat → Nat) {a1 : Int32} {S : St} {r : Int32} {S2 : St} (h : f_X8_late a1 S = some (r, S2)) : CtI E yX8_late cX8_late 2 .int 5 122 (mW E ad S) [.ref (ad 0), .int a1] r (mW E ad S2) := by
  refine CtI_of (by decide +kernel) (Nat.le_of_ble_eq_true rfl) (fun x X hE => ?_)
  show J E x 0 0 (mW E ad S) 0 [(0, .ref (ad 0)), (1, .int a1)] []
  unfold f_X8_late at h
  refine J_aload_n X (pc := 0) dX8_late_0 0 rfl ?_
  refine J_iload_n X (pc := 1) dX8_late_1 1 rfl ?_
  replace h := bk h
  obtain ⟨⟨r1, S2⟩, g3, h⟩ := h
  dsimp only at h
  refine J_callVI X (pc := 2) (y := yX8_asks) (na := 1) (As := [.int a1]) (rest := []) (c_X8_asks E ad g3) 0 mW_c0 rfl q_536 q_537 q_538 q_465 q_534 rfl (by decide +kernel) (by decide +kernel) rfl (Nat.le_of_ble_eq_true rfl) ⟨Nat.le_refl _, Nat.le_refl _⟩ dX8_late_2 ?_
  refine J_if_ne X (pc := 5) 10 dX8_late_5 (by decide) (fun c4 => ?_) (fun c4 => ?_)
  · rw [if_neg c4] at h
    refine J_aload_n X (pc := 10) dX8_late_10 0 rfl ?_
    refine J_iload_n X (pc := 11) dX8_late_11 1 rfl ?_
    replace h := bk h
    obtain ⟨S5, g6, h⟩ := h
    refine J_callVV X (pc := 12) (y := yX8_findsBounds) (na := 1) (As := [.int a1]) (rest := []) (c_X8_findsBounds E ad g6) 0 mW_c0 rfl q_525 q_526 q_527 q_465 q_524 rfl (by decide +kernel) (by decide +kernel) rfl (Nat.le_of_ble_eq_true rfl) ⟨Nat.le_refl _, Nat.le_refl _⟩ dX8_late_12 ?_
    refine J_aload_n X (pc := 15) dX8_late_15 0 rfl ?_
    refine J_getf X (pc := 16) 0 mW_c0 rfl in_X8 15 (by decide) q_447 rfl dX8_late_16 ?_
    refine J_iload_n X (pc := 19) dX8_late_19 1 rfl ?_
    replace h := ck_e h
    obtain ⟨b7, h⟩ := h
    refine J_iald X (pc := 20) 14 mW_c14 b7 dX8_late_20 ?_
    replace h := bk h
    obtain ⟨r8, g9, h⟩ := h
    refine J_callSI X (pc := 21) (y := yX8_told) (na := 1) (As := [.int (S5.2 13 a1.toNatClampNeg)]) (rest := []) (c_X8_told E (mW E ad S5) g9) q_548 q_549 q_465 q_547 rfl (by decide +kernel) (by decide +kernel) rfl (Nat.le_of_ble_eq_true rfl) ⟨Nat.le_refl _, Nat.le_refl _⟩ dX8_late_21 ?_
    cases h
    exact hE _ _ dX8_late_24 rfl
  · rw [if_pos c4] at h
    refine J_iconst X (pc := 8) (v := 0) dX8_late_8 (by decide +kernel) ?_
    cases h
    exact hE _ _ dX8_late_9 rfl
def f_X8_warns (a1 : Int32) (S : St) : Option (Int32 × St) := (f_X8_asks a1 S).bind (fun ((r1, S2) : Int32 × St) => if r1 = 0 then some ((0 : Int32), S2) else ck (inb a1 8) (if (S2.2 9 a1.toNatClampNeg) = 0 then some ((0 : Int32), S2) else some ((1 : Int32), S2)))
set_option maxRecDepth 100000 in
set_option maxHeartbeats 4000000 in
theorem c_X8_warns (E : Ev) (ad : Nat → Nat) {a1 : Int32} {S : St} {r : Int32} {S2 : St} (h : f_X8_warns a1 S = some (r, S2)) : CtI E yX8_warns cX8_warns 2 .boolean 3 64 (mW E ad S) [.ref (ad 0), .int a1] r (mW E ad S2) := by
  refine CtI_of (by decide +kernel) (Nat.le_of_ble_eq_true rfl) (fun x X hE => ?_)
  show J E x 0 0 (mW E ad S) 0 [(0, .ref (ad 0)), (1, .int a1)] []
  unfold f_X8_warns at h
  refine J_aload_n X (pc := 0) dX8_warns_0 0 rfl ?_
  refine J_iload_n X (pc := 1) dX8_warns_1 1 rfl ?_
  replace h := bk h
  obtain ⟨⟨r1, S2⟩, g3, h⟩ := h
  dsimp only at h
  refine J_callVI X (pc := 2) (y := yX8_asks) (na := 1) (As := [.int a1]) (rest := []) (c_X8_asks E ad g3) 0 mW_c0 rfl q_536 q_537 q_538 q_465 q_534 rfl (by decide +kernel) (by decide +kernel) rfl (Nat.le_of_ble_eq_true rfl) ⟨Nat.le_refl _, Nat.le_refl _⟩ dX8_warns_2 ?_
  refine J_if_eq X (pc := 5) 21 dX8_warns_5 (by decide) (fun c4 => ?_) (fun c4 => ?_)
  · rw [if_pos c4] at h
    refine J_iconst X (pc := 21) (v := 0) dX8_warns_21 (by decide +kernel) ?_
    cases h
    exact hE _ _ dX8_warns_22 (by decide +kernel)
  · rw [if_neg c4] at h
    refine J_aload_n X (pc := 8) dX8_warns_8 0 rfl ?_
    refine J_getf X (pc := 9) 0 mW_c0 rfl in_X8 11 (by decide) q_443 rfl dX8_warns_9 ?_
    refine J_iload_n X (pc := 12) dX8_warns_12 1 rfl ?_
    replace h := ck_e h
    obtain ⟨b5, h⟩ := h
    refine J_zald X (pc := 13) 10 mW_c10 b5 dX8_warns_13 ?_
    refine J_if_eq X (pc := 14) 21 dX8_warns_14 (by decide) (fun c6 => ?_) (fun c6 => ?_)
    · rw [if_pos c6] at h
      refine J_iconst X (pc := 21) (v := 0) dX8_warns_21 (by decide +kernel) ?_
      cases h
      exact hE _ _ dX8_warns_22 (by decide +kernel)
    · rw [if_neg c6] at h
      refine J_iconst X (pc := 17) (v := 1) dX8_warns_17 (by decide +kernel) ?_
      refine J_goto X (pc := 18) 22 dX8_warns_18 (by decide) ?_
      cases h
      exact hE _ _ dX8_warns_22 (by decide +kernel)
def f_X8_keeps (a1 : Int32) (S : St) : Option (St) := (f_X8_findsSlope a1 ((-1 : Int32)) S).bind (fun ((r1, S2) : Int32 × St) => ck (inb a1 8) (nmv (sA S2 17 a1.toNatClampNeg (S2.1 3)) (fun (S5 : St) => ck (inb a1 8) (nmv (sA S5 18 a1.toNatClampNeg (S5.1 4)) (fun (S7 : St) => ck (inb a1 8) (nmv (sA S7 19 a1.toNatClampNeg (S7.1 5)) (fun (S9 : St) => ck (inb a1 8) (nmv (sA S9 20 a1.toNatClampNeg (S9.1 6)) (fun (S11 : St) => (f_X8_usualOf a1 S11).bind (fun (r12 : Int32) => ck (inb a1 8) (nmv (sA S11 21 a1.toNatClampNeg r12) (fun (S15 : St) => some S15))))))))))))
set_option maxRecDepth 100000 in
set_option maxHeartbeats 4000000 in
theorem c_X8_keeps (E : Ev) (ad : Nat → Nat) {a1 : Int32} {S : St} {S2 : St} (h : f_X8_keeps a1 S = some S2) : CtV E yX8_keeps cX8_keeps 2 3 74 (mW E ad S) [.ref (ad 0), .int a1] (mW E ad S2) := by
  refine CtV_of (by decide +kernel) (Nat.le_of_ble_eq_true rfl) (fun x X hE => ?_)
  show J E x 0 0 (mW E ad S) 0 [(0, .ref (ad 0)), (1, .int a1)] []
  unfold f_X8_keeps at h
  refine J_aload_n X (pc := 0) dX8_keeps_0 0 rfl ?_
  refine J_iload_n X (pc := 1) dX8_keeps_1 1 rfl ?_
  refine J_iconst X (pc := 2) (v := -1) dX8_keeps_2 (by decide +kernel) ?_
  replace h := bk h
  obtain ⟨⟨r1, S2⟩, g3, h⟩ := h
  dsimp only at h
  refine J_callVI X (pc := 3) (y := yX8_findsSlope) (na := 2) (As := [.int a1, .int ((-1 : Int32))]) (rest := []) (c_X8_findsSlope E ad g3) 0 mW_c0 rfl q_511 q_512 q_513 q_465 q_503 rfl (by decide +kernel) (by decide +kernel) rfl (Nat.le_of_ble_eq_true rfl) ⟨Nat.le_refl _, Nat.le_refl _⟩ dX8_keeps_3 ?_
  refine J_pop X (pc := 6) dX8_keeps_6 rfl ?_
  refine J_aload_n X (pc := 7) dX8_keeps_7 0 rfl ?_
  refine J_getf X (pc := 8) 0 mW_c0 rfl in_X8 20 (by decide) q_451 rfl dX8_keeps_8 ?_
  refine J_iload_n X (pc := 11) dX8_keeps_11 1 rfl ?_
  refine J_aload_n X (pc := 12) dX8_keeps_12 0 rfl ?_
  refine J_getf X (pc := 13) 0 mW_c0 rfl in_X8 25 (by decide) q_491 rfl dX8_keeps_13 ?_
  replace h := ck_e h
  obtain ⟨b4, h⟩ := h
  replace h := nmv_e h
  obtain ⟨S5, eS5, h⟩ := h
  refine J_iast X (pc := 16) (w1 := (mW E ad S5)) 18 mW_c18 b4 dX8_keeps_16 (mW_a17 eS5) ?_
  refine J_aload_n X (pc := 17) dX8_keeps_17 0 rfl ?_
  refine J_getf X (pc := 18) 0 mW_c0 rfl in_X8 21 (by decide) q_452 rfl dX8_keeps_18 ?_
  refine J_iload_n X (pc := 21) dX8_keeps_21 1 rfl ?_
  refine J_aload_n X (pc := 22) dX8_keeps_22 0 rfl ?_
  refine J_getf X (pc := 23) 0 mW_c0 rfl in_X8 26 (by decide) q_492 rfl dX8_keeps_23 ?_
  replace h := ck_e h
  obtain ⟨b6, h⟩ := h
  replace h := nmv_e h
  obtain ⟨S7, eS7, h⟩ := h
  refine J_iast X (pc := 26) (w1 := (mW E ad S7)) 19 mW_c19 b6 dX8_keeps_26 (mW_a18 eS7) ?_
  refine J_aload_n X (pc := 27) dX8_keeps_27 0 rfl ?_
  refine J_getf X (pc := 28) 0 mW_c0 rfl in_X8 22 (by decide) q_453 rfl dX8_keeps_28 ?_
  refine J_iload_n X (pc := 31) dX8_keeps_31 1 rfl ?_
  refine J_aload_n X (pc := 32) dX8_keeps_32 0 rfl ?_
  refine J_getf X (pc := 33) 0 mW_c0 rfl in_X8 27 (by decide) q_486 rfl dX8_keeps_33 ?_
  replace h := ck_e h
  obtain ⟨b8, h⟩ := h
  replace h := nmv_e h
  obtain ⟨S9, eS9, h⟩ := h
  refine J_iast X (pc := 36) (w1 := (mW E ad S9)) 20 mW_c20 b8 dX8_keeps_36 (mW_a19 eS9) ?_
  refine J_aload_n X (pc := 37) dX8_keeps_37 0 rfl ?_
  refine J_getf X (pc := 38) 0 mW_c0 rfl in_X8 23 (by decide) q_454 rfl dX8_keeps_38 ?_
  refine J_iload_n X (pc := 41) dX8_keeps_41 1 rfl ?_
  refine J_aload_n X (pc := 42) dX8_keeps_42 0 rfl ?_
  refine J_getf X (pc := 43) 0 mW_c0 rfl in_X8 28 (by decide) q_487 rfl dX8_keeps_43 ?_
  replace h := ck_e h
  obtain ⟨b10, h⟩ := h
  replace h := nmv_e h
  obtain ⟨S11, eS11, h⟩ := h
  refine J_iast X (pc := 46) (w1 := (mW E ad S11)) 21 mW_c21 b10 dX8_keeps_46 (mW_a20 eS11) ?_
  refine J_aload_n X (pc := 47) dX8_keeps_47 0 rfl ?_
  refine J_getf X (pc := 48) 0 mW_c0 rfl in_X8 24 (by decide) q_455 rfl dX8_keeps_48 ?_
  refine J_iload_n X (pc := 51) dX8_keeps_51 1 rfl ?_
  refine J_aload_n X (pc := 52) dX8_keeps_52 0 rfl ?_
  refine J_iload_n X (pc := 53) dX8_keeps_53 1 rfl ?_
  replace h := bk h
  obtain ⟨r12, g13, h⟩ := h
  refine J_callVI X (pc := 54) (y := yX8_usualOf) (na := 1) (As := [.int a1]) (rest := [.int a1, .ref (ad 22)]) (c_X8_usualOf E ad g13) 0 mW_c0 rfl q_514 q_515 q_516 q_465 q_504 rfl (by decide +kernel) (by decide +kernel) rfl (Nat.le_of_ble_eq_true rfl) ⟨Nat.le_refl _, Nat.le_refl _⟩ dX8_keeps_54 ?_
  replace h := ck_e h
  obtain ⟨b14, h⟩ := h
  replace h := nmv_e h
  obtain ⟨S15, eS15, h⟩ := h
  refine J_iast X (pc := 57) (w1 := (mW E ad S15)) 22 mW_c22 b14 dX8_keeps_57 (mW_a21 eS15) ?_
  cases h
  exact hE _ _ dX8_keeps_58
def f_X8_together_5 (a1 : Int32) (a2 : Int32) : Nat → Int64 → Int32 → St → Option (Int64 × St)
  | 0, _, _, _ => none
  | n4+1, x1, x2, S3 => if (S3.1 1) ≤ x2 then some (x1, S3) else (if ((a1 >>> (x2 &&& 31)) &&& ((1 : Int32))) = ((1 : Int32)) then ck (inb x2 8) (nmv (sF S3 3 (S3.2 17 x2.toNatClampNeg)) (fun (S17 : St) => ck (inb x2 8) (nmv (sF S17 4 (S17.2 18 x2.toNatClampNeg)) (fun (S19 : St) => ck (inb x2 8) (nmv (sF S19 5 (S19.2 19 x2.toNatClampNeg)) (fun (S21 : St) => ck (inb x2 8) (nmv (sF S21 6 (S21.2 20 x2.toNatClampNeg)) (fun (S23 : St) => ck (inb x2 8) ((f_X8_forecastFor x2 a2 (S23.2 21 x2.toNatClampNeg) S23).bind (fun (r25 : Int64) => nmv (x1 + r25) (fun (v27 : Int64) => some (v27, S23)))))))))))) else some (x1, S3)).bind (fun ((r12, S13) : Int64 × St) => nmv (x2 + (1 : Int32)) (fun (v28 : Int32) => f_X8_together_5 a1 a2 n4 r12 v28 S13))
def f_X8_together (a1 : Int32) (a2 : Int32) (S : St) : Option (Int64 × St) := (f_X8_together_5 a1 a2 3000 ((0 : Int64)) ((0 : Int32)) S).bind (fun ((r6, S7) : Int64 × St) => some (r6, S7))
set_option maxRecDepth 100000 in
set_option maxHeartbeats 4000000 in
theorem c_X8_together (E : Ev) (ad : Nat → Nat) {a1 : Int32} {a2 : Int32} {S : St} {r : Int64} {S2 : St} (h : f_X8_together a1 a2 S = some (r, S2)) : CtL E yX8_together cX8_together 6 2 51 (mW E ad S) [.ref (ad 0), .int a1, .int a2] r (mW E ad S2) := by
  refine CtL_of (by decide +kernel) (Nat.le_of_ble_eq_true rfl) (fun x X hE => ?_)
  show J E x 0 0 (mW E ad S) 0 [(0, .ref (ad 0)), (1, .int a1), (2, .int a2)] []
  unfold f_X8_together at h
  refine J_lconst X (pc := 0) (v := 0) dX8_together_0 (by decide +kernel) ?_
  refine J_lstore_n X (pc := 1) dX8_together_1 (by decide) rfl ?_
  refine J_iconst X (pc := 2) (v := 0) dX8_together_2 (by decide +kernel) ?_
  refine J_istore X (pc := 3) dX8_together_3 (by decide) rfl ?_
  replace h := bk h
  obtain ⟨⟨r6, S7⟩, g9, h⟩ := h
  dsimp only at h
  have k8 : J E x 0 0 (mW E ad S7) 91 [(3, .long r6)] [] := by
    refine J_lload_n X (pc := 91) dX8_together_91 0 rfl ?_
    cases h
    exact hE _ _ dX8_together_92
  clear h
  have l29 : ∀ (n4 : Nat) (x1 : Int64) (x2 : Int32) (S3 : St), f_X8_together_5 a1 a2 n4 x1 x2 S3 = some (r6, S7) → J E x 0 0 (mW E ad S3) 5 [(0, .ref (ad 0)), (1, .int a1), (2, .int a2), (3, .long x1), (5, .int x2)] [] := by
    intro n4
    induction n4 with
    | zero => intro x1 x2 S3 h; rw [f_X8_together_5] at h; cases h
    | succ n4 ih5 =>
      intro x1 x2 S3 h
      rw [f_X8_together_5] at h
      refine J_iload X (pc := 5) dX8_together_5 4 rfl ?_
      refine J_aload_n X (pc := 7) dX8_together_7 0 rfl ?_
      refine J_getf X (pc := 8) 0 mW_c0 rfl in_X8 1 (by decide) q_462 rfl dX8_together_8 ?_
      refine J_icmp_ge X (pc := 11) 91 dX8_together_11 (by decide) (fun c10 => ?_) (fun c10 => ?_)
      · rw [if_pos c10] at h
        cases h
        exact J_sub [3] rfl k8
      · rw [if_neg c10] at h
        refine J_iload_n X (pc := 14) dX8_together_14 1 rfl ?_
        refine J_iload X (pc := 15) dX8_together_15 4 rfl ?_
        refine J_ishr X (pc := 17) dX8_together_17 ?_
        refine J_iconst X (pc := 18) (v := 1) dX8_together_18 (by decide +kernel) ?_
        refine J_iand X (pc := 19) dX8_together_19 ?_
        refine J_iconst X (pc := 20) (v := 1) dX8_together_20 (by decide +kernel) ?_
        replace h := bk h
        obtain ⟨⟨r12, S13⟩, g15, h⟩ := h
        dsimp only at h
        have j14 : J E x 0 0 (mW E ad S13) 85 [(0, .ref (ad 0)), (1, .int a1), (2, .int a2), (3, .long r12), (5, .int x2)] [] := by
          replace h := nmv_e h
          obtain ⟨v28, ev28, h⟩ := h
          refine J_iinc X (pc := 85) (v := v28) dX8_together_85 4 rfl (by rw [ev28]; rfl) (by decide) rfl ?_
          refine J_goto X (pc := 88) 5 dX8_together_88 (by decide) ?_
          exact J_sub [1, 2, 3, 4, 0] rfl (ih5 _ _ _ h)
        refine J_icmp_ne X (pc := 21) 85 dX8_together_21 (by decide) (fun c11 => ?_) (fun c11 => ?_)
        · rw [if_neg c11] at g15
          cases g15
          exact J_sub [0, 1, 2, 3, 4] rfl j14
        · rw [if_pos c11] at g15
          refine J_aload_n X (pc := 24) dX8_together_24 0 rfl ?_
          refine J_aload_n X (pc := 25) dX8_together_25 0 rfl ?_
          refine J_getf X (pc := 26) 0 mW_c0 rfl in_X8 20 (by decide) q_451 rfl dX8_together_26 ?_
          refine J_iload X (pc := 29) dX8_together_29 4 rfl ?_
          replace g15 := ck_e g15
          obtain ⟨b16, g15⟩ := g15
          refine J_iald X (pc := 31) 18 mW_c18 b16 dX8_together_31 ?_
          replace g15 := nmv_e g15
          obtain ⟨S17, eS17, g15⟩ := g15
          refine J_putf X (pc := 32) (ty := .int) (w1 := (mW E ad S17)) 0 mW_c0 rfl in_X8 tyX8_ok nmX8 25 (by decide) q_491 rfl (by decide +kernel) rfl rfl (Nat.le_of_ble_eq_true rfl) dX8_together_32 (mW_p3 eS17) ?_
          refine J_aload_n X (pc := 35) dX8_together_35 0 rfl ?_
          refine J_aload_n X (pc := 36) dX8_together_36 0 rfl ?_
          refine J_getf X (pc := 37) 0 mW_c0 rfl in_X8 21 (by decide) q_452 rfl dX8_together_37 ?_
          refine J_iload X (pc := 40) dX8_together_40 4 rfl ?_
          replace g15 := ck_e g15
          obtain ⟨b18, g15⟩ := g15
          refine J_iald X (pc := 42) 19 mW_c19 b18 dX8_together_42 ?_
          replace g15 := nmv_e g15
          obtain ⟨S19, eS19, g15⟩ := g15
          refine J_putf X (pc := 43) (ty := .int) (w1 := (mW E ad S19)) 0 mW_c0 rfl in_X8 tyX8_ok nmX8 26 (by decide) q_492 rfl (by decide +kernel) rfl rfl (Nat.le_of_ble_eq_true rfl) dX8_together_43 (mW_p4 eS19) ?_
          refine J_aload_n X (pc := 46) dX8_together_46 0 rfl ?_
          refine J_aload_n X (pc := 47) dX8_together_47 0 rfl ?_
          refine J_getf X (pc := 48) 0 mW_c0 rfl in_X8 22 (by decide) q_453 rfl dX8_together_48 ?_
          refine J_iload X (pc := 51) dX8_together_51 4 rfl ?_
          replace g15 := ck_e g15
          obtain ⟨b20, g15⟩ := g15
          refine J_iald X (pc := 53) 20 mW_c20 b20 dX8_together_53 ?_
          replace g15 := nmv_e g15
          obtain ⟨S21, eS21, g15⟩ := g15
          refine J_putf X (pc := 54) (ty := .int) (w1 := (mW E ad S21)) 0 mW_c0 rfl in_X8 tyX8_ok nmX8 27 (by decide) q_486 rfl (by decide +kernel) rfl rfl (Nat.le_of_ble_eq_true rfl) dX8_together_54 (mW_p5 eS21) ?_
          refine J_aload_n X (pc := 57) dX8_together_57 0 rfl ?_
          refine J_aload_n X (pc := 58) dX8_together_58 0 rfl ?_
          refine J_getf X (pc := 59) 0 mW_c0 rfl in_X8 23 (by decide) q_454 rfl dX8_together_59 ?_
          refine J_iload X (pc := 62) dX8_together_62 4 rfl ?_
          replace g15 := ck_e g15
          obtain ⟨b22, g15⟩ := g15
          refine J_iald X (pc := 64) 21 mW_c21 b22 dX8_together_64 ?_
          replace g15 := nmv_e g15
          obtain ⟨S23, eS23, g15⟩ := g15
          refine J_putf X (pc := 65) (ty := .int) (w1 := (mW E ad S23)) 0 mW_c0 rfl in_X8 tyX8_ok nmX8 28 (by decide) q_487 rfl (by decide +kernel) rfl rfl (Nat.le_of_ble_eq_true rfl) dX8_together_65 (mW_p6 eS23) ?_
          refine J_lload_n X (pc := 68) dX8_together_68 3 rfl ?_
          refine J_aload_n X (pc := 69) dX8_together_69 0 rfl ?_
          refine J_iload X (pc := 70) dX8_together_70 4 rfl ?_
          refine J_iload_n X (pc := 72) dX8_together_72 2 rfl ?_
          refine J_aload_n X (pc := 73) dX8_together_73 0 rfl ?_
          refine J_getf X (pc := 74) 0 mW_c0 rfl in_X8 24 (by decide) q_455 rfl dX8_together_74 ?_
          refine J_iload X (pc := 77) dX8_together_77 4 rfl ?_
          replace g15 := ck_e g15
          obtain ⟨b24, g15⟩ := g15
          refine J_iald X (pc := 79) 22 mW_c22 b24 dX8_together_79 ?_
          replace g15 := bk g15
          obtain ⟨r25, g26, g15⟩ := g15
          refine J_callVL X (pc := 80) (y := yX8_forecastFor) (na := 3) (As := [.int x2, .int a2, .int (S23.2 21 x2.toNatClampNeg)]) (rest := [.long x1]) (c_X8_forecastFor E ad g26) 0 mW_c0 rfl q_517 q_518 q_519 q_465 q_506 rfl (by decide +kernel) (by decide +kernel) rfl (Nat.le_of_ble_eq_true rfl) ⟨Nat.le_refl _, Nat.le_refl _⟩ dX8_together_80 ?_
          refine J_ladd X (pc := 83) dX8_together_83 ?_
          replace g15 := nmv_e g15
          obtain ⟨v27, ev27, g15⟩ := g15
          refine J_nml ev27 ?_
          refine J_lstore_n X (pc := 84) dX8_together_84 (by decide) rfl ?_
          cases g15
          exact J_sub [1, 2, 3, 0, 4] rfl j14
  exact J_sub [2, 3, 4, 1, 0] rfl (l29 3000 _ _ _ g9)
def f_X8_poolFull_35 (a1 : Int32) : Nat → Int64 → Int32 → Int32 → St → Option (Int64 × Int32 × St)
  | 0, _, _, _, _ => none
  | n14+1, x10, x11, x12, S13 => if (S13.1 1) ≤ x12 then some (x10, x11, S13) else (if ((a1 >>> (x12 &&& 31)) &&& ((1 : Int32))) = ((1 : Int32)) then some ((1 : Int32)) else some ((0 : Int32))).bind (fun (r23 : Int32) => (if x11 = 0 then some ((0 : Int32)) else if r23 = 0 then some ((1 : Int32)) else ck (inb x12 8) (if (S13.2 1 x12.toNatClampNeg) ≤ ((1 : Int32)) then some ((0 : Int32)) else some ((1 : Int32)))).bind (fun (r27 : Int32) => (if r23 = 0 then some ((0 : Int64)) else ck (inb x12 8) (some ((S13.2 0 x12.toNatClampNeg).toInt64))).bind (fun (r34 : Int64) => nmv (x10 + r34) (fun (v38 : Int64) => (f_X8_keeps x12 S13).bind (fun (S39 : St) => nmv (x12 + (1 : Int32)) (fun (v41 : Int32) => f_X8_poolFull_35 a1 n14 v38 r27 v41 S39))))))
def f_X8_poolFull_132 (a1 : Int32) (r16 : Int64) (r17 : Int32) : Nat → Int32 → Int32 → St → Option (Int32 × St)
  | 0, _, _, _ => none
  | n47+1, x44, x45, S46 => if ((S46.1 0) + ((1000 : Int32))) < x45 then some (x44, S46) else if r17 = 0 then some (x44, S46) else if x44 = ((-1 : Int32)) then (f_X8_together a1 x45 S46).bind (fun ((r56, S57) : Int64 × St) => (if (lg_cmp r56 r16) < 0 then some ((-1 : Int32)) else some x45).bind (fun (r60 : Int32) => nmv (x45 + (1 : Int32)) (fun (v63 : Int32) => f_X8_poolFull_132 a1 r16 r17 n47 r60 v63 S57))) else some (x44, S46)
def f_X8_poolFull (a1 : Int32) (S : St) : Option (Int32 × St) := (if a1 ≤ 0 then some ((1 : Int32)) else if (a1 >>> ((S.1 1) &&& 31)) = 0 then some ((0 : Int32)) else some ((1 : Int32))).bind (fun (r2 : Int32) => (f_X8_goes r2 S).bind (fun ((r6, S7) : Int32 × St) => if r6 = 0 then some ((0 : Int32), S7) else (f_X8_poolFull_35 a1 3000 ((0 : Int64)) ((1 : Int32)) ((0 : Int32)) S7).bind (fun ((r16, r17, S18) : Int64 × Int32 × St) => nmv ((S18.1 0) + ((1 : Int32))) (fun (v43 : Int32) => (f_X8_poolFull_132 a1 r16 r17 3000 ((-1 : Int32)) v43 S18).bind (fun ((r49, S50) : Int32 × St) => some (r49, S50))))))
set_option maxRecDepth 100000 in
set_option maxHeartbeats 4000000 in
theorem c_X8_poolFull (E : Ev) (ad : Nat → Nat) {a1 : Int32} {S : St} {r : Int32} {S2 : St} (h : f_X8_poolFull a1 S = some (r, S2)) : CtI E yX8_poolFull cX8_poolFull 7 .int 4 95 (mW E ad S) [.ref (ad 0), .int a1] r (mW E ad S2) := by
  refine CtI_of (by decide +kernel) (Nat.le_of_ble_eq_true rfl) (fun x X hE => ?_)
  show J E x 0 0 (mW E ad S) 0 [(0, .ref (ad 0)), (1, .int a1)] []
  unfold f_X8_poolFull at h
  refine J_aload_n X (pc := 0) dX8_poolFull_0 0 rfl ?_
  refine J_iload_n X (pc := 1) dX8_poolFull_1 1 rfl ?_
  replace h := bk h
  obtain ⟨r2, g4, h⟩ := h
  have j3 : J E x 0 0 (mW E ad S) 19 [(0, .ref (ad 0)), (1, .int a1)] [.int r2, .ref (ad 0)] := by
    replace h := bk h
    obtain ⟨⟨r6, S7⟩, g8, h⟩ := h
    dsimp only at h
    refine J_callVI X (pc := 19) (y := yX8_goes) (na := 1) (As := [.int r2]) (rest := []) (c_X8_goes E ad g8) 0 mW_c0 rfl q_468 q_469 q_470 q_465 q_459 rfl (by decide +kernel) (by decide +kernel) rfl (Nat.le_of_ble_eq_true rfl) ⟨Nat.le_refl _, Nat.le_refl _⟩ dX8_poolFull_19 ?_
    refine J_if_ne X (pc := 22) 27 dX8_poolFull_22 (by decide) (fun c9 => ?_) (fun c9 => ?_)
    · rw [if_neg c9] at h
      refine J_lconst X (pc := 27) (v := 0) dX8_poolFull_27 (by decide +kernel) ?_
      refine J_lstore_n X (pc := 28) dX8_poolFull_28 (by decide) rfl ?_
      refine J_iconst X (pc := 29) (v := 1) dX8_poolFull_29 (by decide +kernel) ?_
      refine J_istore X (pc := 30) dX8_poolFull_30 (by decide) rfl ?_
      refine J_iconst X (pc := 32) (v := 0) dX8_poolFull_32 (by decide +kernel) ?_
      refine J_istore X (pc := 33) dX8_poolFull_33 (by decide) rfl ?_
      replace h := bk h
      obtain ⟨⟨r16, r17, S18⟩, g20, h⟩ := h
      dsimp only at h
      have k19 : J E x 0 0 (mW E ad S18) 121 [(0, .ref (ad 0)), (1, .int a1), (2, .long r16), (4, .int r17)] [] := by
        refine J_iconst X (pc := 121) (v := -1) dX8_poolFull_121 (by decide +kernel) ?_
        refine J_istore X (pc := 122) dX8_poolFull_122 (by decide) rfl ?_
        refine J_aload_n X (pc := 124) dX8_poolFull_124 1 rfl ?_
        refine J_getf X (pc := 125) 0 mW_c0 rfl in_X8 0 (by decide) q_476 rfl dX8_poolFull_125 ?_
        refine J_iconst X (pc := 128) (v := 1) dX8_poolFull_128 (by decide +kernel) ?_
        refine J_iadd X (pc := 129) dX8_poolFull_129 ?_
        replace h := nmv_e h
        obtain ⟨v43, ev43, h⟩ := h
        refine J_nmi ev43 ?_
        refine J_istore X (pc := 130) dX8_poolFull_130 (by decide) rfl ?_
        replace h := bk h
        obtain ⟨⟨r49, S50⟩, g52, h⟩ := h
        dsimp only at h
        have k51 : J E x 0 0 (mW E ad S50) 182 [(5, .int r49)] [] := by
          refine J_iload X (pc := 182) dX8_poolFull_182 0 rfl ?_
          cases h
          exact hE _ _ dX8_poolFull_184 rfl
        clear h
        have l64 : ∀ (n47 : Nat) (x44 : Int32) (x45 : Int32) (S46 : St), f_X8_poolFull_132 a1 r16 r17 n47 x44 x45 S46 = some (r49, S50) → J E x 0 0 (mW E ad S46) 132 [(0, .ref (ad 0)), (1, .int a1), (2, .long r16), (4, .int r17), (5, .int x44), (6, .int x45)] [] := by
          intro n47
          induction n47 with
          | zero => intro x44 x45 S46 h; rw [f_X8_poolFull_132] at h; cases h
          | succ n47 ih48 =>
            intro x44 x45 S46 h
            rw [f_X8_poolFull_132] at h
            refine J_iload X (pc := 132) dX8_poolFull_132 5 rfl ?_
            refine J_aload_n X (pc := 134) dX8_poolFull_134 0 rfl ?_
            refine J_getf X (pc := 135) 0 mW_c0 rfl in_X8 0 (by decide) q_476 rfl dX8_poolFull_135 ?_
            refine J_sipush X (pc := 138) (v := 1000) dX8_poolFull_138 (by decide +kernel) ?_
            refine J_iadd X (pc := 141) dX8_poolFull_141 ?_
            refine J_icmp_gt X (pc := 142) 182 dX8_poolFull_142 (by decide) (fun c53 => ?_) (fun c53 => ?_)
            · rw [if_pos c53] at h
              cases h
              exact J_sub [4] rfl k51
            · rw [if_neg c53] at h
              refine J_iload X (pc := 145) dX8_poolFull_145 3 rfl ?_
              refine J_if_eq X (pc := 147) 182 dX8_poolFull_147 (by decide) (fun c54 => ?_) (fun c54 => ?_)
              · rw [if_pos c54] at h
                cases h
                exact J_sub [4] rfl k51
              · rw [if_neg c54] at h
                refine J_iload X (pc := 150) dX8_poolFull_150 4 rfl ?_
                refine J_iconst X (pc := 152) (v := -1) dX8_poolFull_152 (by decide +kernel) ?_
                refine J_icmp_ne X (pc := 153) 182 dX8_poolFull_153 (by decide) (fun c55 => ?_) (fun c55 => ?_)
                · rw [if_neg c55] at h
                  cases h
                  exact J_sub [4] rfl k51
                · rw [if_pos c55] at h
                  refine J_aload_n X (pc := 156) dX8_poolFull_156 0 rfl ?_
                  refine J_iload_n X (pc := 157) dX8_poolFull_157 1 rfl ?_
                  refine J_iload X (pc := 158) dX8_poolFull_158 5 rfl ?_
                  replace h := bk h
                  obtain ⟨⟨r56, S57⟩, g58, h⟩ := h
                  dsimp only at h
                  refine J_callVL X (pc := 160) (y := yX8_together) (na := 2) (As := [.int a1, .int x45]) (rest := []) (c_X8_together E ad g58) 0 mW_c0 rfl q_559 q_560 q_561 q_465 q_555 rfl (by decide +kernel) (by decide +kernel) rfl (Nat.le_of_ble_eq_true rfl) ⟨Nat.le_refl _, Nat.le_refl _⟩ dX8_poolFull_160 ?_
                  refine J_lload_n X (pc := 163) dX8_poolFull_163 2 rfl ?_
                  refine J_lcmp X (pc := 164) dX8_poolFull_164 ?_
                  replace h := bk h
                  obtain ⟨r60, g62, h⟩ := h
                  have j61 : J E x 0 0 (mW E ad S57) 174 [(0, .ref (ad 0)), (1, .int a1), (2, .long r16), (4, .int r17), (6, .int x45)] [.int r60] := by
                    refine J_istore X (pc := 174) dX8_poolFull_174 (by decide) rfl ?_
                    replace h := nmv_e h
                    obtain ⟨v63, ev63, h⟩ := h
                    refine J_iinc X (pc := 176) (v := v63) dX8_poolFull_176 5 rfl (by rw [ev63]; rfl) (by decide) rfl ?_
                    refine J_goto X (pc := 179) 132 dX8_poolFull_179 (by decide) ?_
                    exact J_sub [2, 3, 4, 5, 1, 0] rfl (ih48 _ _ _ h)
                  refine J_if_lt X (pc := 165) 173 dX8_poolFull_165 (by decide) (fun c59 => ?_) (fun c59 => ?_)
                  · rw [if_pos c59] at g62
                    refine J_iconst X (pc := 173) (v := -1) dX8_poolFull_173 (by decide +kernel) ?_
                    cases g62
                    exact J_sub [0, 1, 2, 3, 5] rfl j61
                  · rw [if_neg c59] at g62
                    refine J_iload X (pc := 168) dX8_poolFull_168 5 rfl ?_
                    refine J_goto X (pc := 170) 174 dX8_poolFull_170 (by decide) ?_
                    cases g62
                    exact J_sub [0, 1, 2, 3, 5] rfl j61
        exact J_sub [2, 3, 4, 5, 1, 0] rfl (l64 3000 _ _ _ g52)
      clear h
      have l42 : ∀ (n14 : Nat) (x10 : Int64) (x11 : Int32) (x12 : Int32) (S13 : St), f_X8_poolFull_35 a1 n14 x10 x11 x12 S13 = some (r16, r17, S18) → J E x 0 0 (mW E ad S13) 35 [(0, .ref (ad 0)), (1, .int a1), (2, .long x10), (4, .int x11), (5, .int x12)] [] := by
        intro n14
        induction n14 with
        | zero => intro x10 x11 x12 S13 h; rw [f_X8_poolFull_35] at h; cases h
        | succ n14 ih15 =>
          intro x10 x11 x12 S13 h
          rw [f_X8_poolFull_35] at h
          refine J_iload X (pc := 35) dX8_poolFull_35 4 rfl ?_
          refine J_aload_n X (pc := 37) dX8_poolFull_37 0 rfl ?_
          refine J_getf X (pc := 38) 0 mW_c0 rfl in_X8 1 (by decide) q_462 rfl dX8_poolFull_38 ?_
          refine J_icmp_ge X (pc := 41) 121 dX8_poolFull_41 (by decide) (fun c21 => ?_) (fun c21 => ?_)
          · rw [if_pos c21] at h
            cases h
            exact J_sub [0, 1, 2, 3] rfl k19
          · rw [if_neg c21] at h
            refine J_iload_n X (pc := 44) dX8_poolFull_44 1 rfl ?_
            refine J_iload X (pc := 45) dX8_poolFull_45 4 rfl ?_
            refine J_ishr X (pc := 47) dX8_poolFull_47 ?_
            refine J_iconst X (pc := 48) (v := 1) dX8_poolFull_48 (by decide +kernel) ?_
            refine J_iand X (pc := 49) dX8_poolFull_49 ?_
            refine J_iconst X (pc := 50) (v := 1) dX8_poolFull_50 (by decide +kernel) ?_
            replace h := bk h
            obtain ⟨r23, g25, h⟩ := h
            have j24 : J E x 0 0 (mW E ad S13) 59 [(0, .ref (ad 0)), (1, .int a1), (2, .long x10), (4, .int x11), (5, .int x12)] [.int r23] := by
              refine J_istore X (pc := 59) dX8_poolFull_59 (by decide) rfl ?_
              refine J_iload X (pc := 61) dX8_poolFull_61 4 rfl ?_
              replace h := bk h
              obtain ⟨r27, g29, h⟩ := h
              have j28 : J E x 0 0 (mW E ad S13) 87 [(0, .ref (ad 0)), (1, .int a1), (2, .long x10), (5, .int x12), (6, .int r23)] [.int r27] := by
                refine J_istore X (pc := 87) dX8_poolFull_87 (by decide) rfl ?_
                refine J_lload_n X (pc := 89) dX8_poolFull_89 3 rfl ?_
                refine J_iload X (pc := 90) dX8_poolFull_90 5 rfl ?_
                replace h := bk h
                obtain ⟨r34, g36, h⟩ := h
                have j35 : J E x 0 0 (mW E ad S13) 107 [(0, .ref (ad 0)), (1, .int a1), (4, .int r27), (5, .int x12)] [.long r34, .long x10] := by
                  refine J_ladd X (pc := 107) dX8_poolFull_107 ?_
                  replace h := nmv_e h
                  obtain ⟨v38, ev38, h⟩ := h
                  refine J_nml ev38 ?_
                  refine J_lstore_n X (pc := 108) dX8_poolFull_108 (by decide) rfl ?_
                  refine J_aload_n X (pc := 109) dX8_poolFull_109 1 rfl ?_
                  refine J_iload X (pc := 110) dX8_poolFull_110 4 rfl ?_
                  replace h := bk h
                  obtain ⟨S39, g40, h⟩ := h
                  refine J_callVV X (pc := 112) (y := yX8_keeps) (na := 1) (As := [.int x12]) (rest := []) (c_X8_keeps E ad g40) 0 mW_c0 rfl q_556 q_557 q_558 q_465 q_554 rfl (by decide +kernel) (by decide +kernel) rfl (Nat.le_of_ble_eq_true rfl) ⟨Nat.le_refl _, Nat.le_refl _⟩ dX8_poolFull_112 ?_
                  replace h := nmv_e h
                  obtain ⟨v41, ev41, h⟩ := h
                  refine J_iinc X (pc := 115) (v := v41) dX8_poolFull_115 4 rfl (by rw [ev41]; rfl) (by decide) rfl ?_
                  refine J_goto X (pc := 118) 35 dX8_poolFull_118 (by decide) ?_
                  exact J_sub [2, 3, 1, 4, 0] rfl (ih15 _ _ _ _ h)
                refine J_if_eq X (pc := 92) 106 dX8_poolFull_92 (by decide) (fun c33 => ?_) (fun c33 => ?_)
                · rw [if_pos c33] at g36
                  refine J_lconst X (pc := 106) (v := 0) dX8_poolFull_106 (by decide +kernel) ?_
                  cases g36
                  exact J_sub [1, 2, 0, 4] rfl j35
                · rw [if_neg c33] at g36
                  refine J_aload_n X (pc := 95) dX8_poolFull_95 1 rfl ?_
                  refine J_getf X (pc := 96) 0 mW_c0 rfl in_X8 2 (by decide) q_433 rfl dX8_poolFull_96 ?_
                  refine J_iload X (pc := 99) dX8_poolFull_99 4 rfl ?_
                  replace g36 := ck_e g36
                  obtain ⟨b37, g36⟩ := g36
                  refine J_iald X (pc := 101) 1 mW_c1 b37 dX8_poolFull_101 ?_
                  refine J_i2l X (pc := 102) dX8_poolFull_102 ?_
                  refine J_goto X (pc := 103) 107 dX8_poolFull_103 (by decide) ?_
                  cases g36
                  exact J_sub [1, 2, 0, 4] rfl j35
              refine J_if_eq X (pc := 63) 86 dX8_poolFull_63 (by decide) (fun c26 => ?_) (fun c26 => ?_)
              · rw [if_pos c26] at g29
                refine J_iconst X (pc := 86) (v := 0) dX8_poolFull_86 (by decide +kernel) ?_
                cases g29
                exact J_sub [1, 2, 3, 5, 0] rfl j28
              · rw [if_neg c26] at g29
                refine J_iload X (pc := 66) dX8_poolFull_66 0 rfl ?_
                refine J_if_eq X (pc := 68) 82 dX8_poolFull_68 (by decide) (fun c30 => ?_) (fun c30 => ?_)
                · rw [if_pos c30] at g29
                  refine J_iconst X (pc := 82) (v := 1) dX8_poolFull_82 (by decide +kernel) ?_
                  refine J_goto X (pc := 83) 87 dX8_poolFull_83 (by decide) ?_
                  cases g29
                  exact J_sub [1, 2, 3, 5, 0] rfl j28
                · rw [if_neg c30] at g29
                  refine J_aload_n X (pc := 71) dX8_poolFull_71 1 rfl ?_
                  refine J_getf X (pc := 72) 0 mW_c0 rfl in_X8 3 (by decide) q_434 rfl dX8_poolFull_72 ?_
                  refine J_iload X (pc := 75) dX8_poolFull_75 5 rfl ?_
                  replace g29 := ck_e g29
                  obtain ⟨b31, g29⟩ := g29
                  refine J_iald X (pc := 77) 2 mW_c2 b31 dX8_poolFull_77 ?_
                  refine J_iconst X (pc := 78) (v := 1) dX8_poolFull_78 (by decide +kernel) ?_
                  refine J_icmp_le X (pc := 79) 86 dX8_poolFull_79 (by decide) (fun c32 => ?_) (fun c32 => ?_)
                  · rw [if_pos c32] at g29
                    refine J_iconst X (pc := 86) (v := 0) dX8_poolFull_86 (by decide +kernel) ?_
                    cases g29
                    exact J_sub [1, 2, 3, 5, 0] rfl j28
                  · rw [if_neg c32] at g29
                    refine J_iconst X (pc := 82) (v := 1) dX8_poolFull_82 (by decide +kernel) ?_
                    refine J_goto X (pc := 83) 87 dX8_poolFull_83 (by decide) ?_
                    cases g29
                    exact J_sub [1, 2, 3, 5, 0] rfl j28
            refine J_icmp_ne X (pc := 51) 58 dX8_poolFull_51 (by decide) (fun c22 => ?_) (fun c22 => ?_)
            · rw [if_neg c22] at g25
              refine J_iconst X (pc := 58) (v := 0) dX8_poolFull_58 (by decide +kernel) ?_
              cases g25
              exact J_sub [0, 1, 2, 3, 4] rfl j24
            · rw [if_pos c22] at g25
              refine J_iconst X (pc := 54) (v := 1) dX8_poolFull_54 (by decide +kernel) ?_
              refine J_goto X (pc := 55) 59 dX8_poolFull_55 (by decide) ?_
              cases g25
              exact J_sub [0, 1, 2, 3, 4] rfl j24
      exact J_sub [3, 4, 2, 1, 0] rfl (l42 3000 _ _ _ _ g20)
    · rw [if_pos c9] at h
      refine J_iconst X (pc := 25) (v := 0) dX8_poolFull_25 (by decide +kernel) ?_
      cases h
      exact hE _ _ dX8_poolFull_26 rfl
  refine J_if_le X (pc := 2) 18 dX8_poolFull_2 (by decide) (fun c1 => ?_) (fun c1 => ?_)
  · rw [if_pos c1] at g4
    refine J_iconst X (pc := 18) (v := 1) dX8_poolFull_18 (by decide +kernel) ?_
    cases g4
    exact J_sub [0, 1] rfl j3
  · rw [if_neg c1] at g4
    refine J_iload_n X (pc := 5) dX8_poolFull_5 1 rfl ?_
    refine J_aload_n X (pc := 6) dX8_poolFull_6 0 rfl ?_
    refine J_getf X (pc := 7) 0 mW_c0 rfl in_X8 1 (by decide) q_462 rfl dX8_poolFull_7 ?_
    refine J_ishr X (pc := 10) dX8_poolFull_10 ?_
    refine J_if_ne X (pc := 11) 18 dX8_poolFull_11 (by decide) (fun c5 => ?_) (fun c5 => ?_)
    · rw [if_neg c5] at g4
      refine J_iconst X (pc := 18) (v := 1) dX8_poolFull_18 (by decide +kernel) ?_
      cases g4
      exact J_sub [0, 1] rfl j3
    · rw [if_pos c5] at g4
      refine J_iconst X (pc := 14) (v := 0) dX8_poolFull_14 (by decide +kernel) ?_
      refine J_goto X (pc := 15) 19 dX8_poolFull_15 (by decide) ?_
      cases g4
      exact J_sub [0, 1] rfl j3
