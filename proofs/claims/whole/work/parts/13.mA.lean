def f_X8_thrown (S : St) : Option (Int32) := some (S.1 7)
set_option maxRecDepth 100000 in
set_option maxHeartbeats 4000000 in
theorem c_X8_thrown (E : Ev) (ad : Nat → Nat) {S : St} {r : Int32} (h : f_X8_thrown S = some r) : CtI E yX8_thrown cX8_thrown 1 .int 0 0 (mW E ad S) [.ref (ad 0)] r (mW E ad S) := by
  refine CtI_of (by decide +kernel) (Nat.le_of_ble_eq_true rfl) (fun x X hE => ?_)
  show J E x 0 0 (mW E ad S) 0 [(0, .ref (ad 0))] []
  unfold f_X8_thrown at h
  refine J_aload_n X (pc := 0) dX8_thrown_0 0 rfl ?_
  refine J_getf X (pc := 1) 0 mW_c0 rfl in_X8 29 (by decide) q_458 rfl dX8_thrown_1 ?_
  cases h
  exact hE _ _ dX8_thrown_4 rfl
def f_X8_goes (a1 : Int32) (S : St) : Option (Int32 × St) := nmv (sF S 7 a1) (fun (S1 : St) => if a1 = 0 then some ((1 : Int32), S1) else some ((0 : Int32), S1))
set_option maxRecDepth 100000 in
set_option maxHeartbeats 4000000 in
theorem c_X8_goes (E : Ev) (ad : Nat → Nat) {a1 : Int32} {S : St} {r : Int32} {S2 : St} (h : f_X8_goes a1 S = some (r, S2)) : CtI E yX8_goes cX8_goes 2 .boolean 0 0 (mW E ad S) [.ref (ad 0), .int a1] r (mW E ad S2) := by
  refine CtI_of (by decide +kernel) (Nat.le_of_ble_eq_true rfl) (fun x X hE => ?_)
  show J E x 0 0 (mW E ad S) 0 [(0, .ref (ad 0)), (1, .int a1)] []
  unfold f_X8_goes at h
  refine J_aload_n X (pc := 0) dX8_goes_0 0 rfl ?_
  refine J_iload_n X (pc := 1) dX8_goes_1 1 rfl ?_
  replace h := nmv_e h
  obtain ⟨S1, eS1, h⟩ := h
  refine J_putf X (pc := 2) (ty := .int) (w1 := (mW E ad S1)) 0 mW_c0 rfl in_X8 tyX8_ok nmX8 29 (by decide) q_458 rfl (by decide +kernel) rfl rfl (Nat.le_of_ble_eq_true rfl) dX8_goes_2 (mW_p7 eS1) ?_
  refine J_iload_n X (pc := 5) dX8_goes_5 1 rfl ?_
  refine J_if_ne X (pc := 6) 13 dX8_goes_6 (by decide) (fun c2 => ?_) (fun c2 => ?_)
  · rw [if_neg c2] at h
    refine J_iconst X (pc := 13) (v := 0) dX8_goes_13 (by decide +kernel) ?_
    cases h
    exact hE _ _ dX8_goes_14 (by decide +kernel)
  · rw [if_pos c2] at h
    refine J_iconst X (pc := 9) (v := 1) dX8_goes_9 (by decide +kernel) ?_
    refine J_goto X (pc := 10) 14 dX8_goes_10 (by decide) ?_
    cases h
    exact hE _ _ dX8_goes_14 (by decide +kernel)
def f_X8_isIn (a1 : Int32) (a2 : Int32) (a3 : Int32) : Option (Int32) := if a1 < a2 then some ((0 : Int32)) else if a3 < a1 then some ((0 : Int32)) else some ((1 : Int32))
set_option maxRecDepth 100000 in
set_option maxHeartbeats 4000000 in
theorem c_X8_isIn (E : Ev) (w : va_W) {a1 : Int32} {a2 : Int32} {a3 : Int32} {r : Int32} (h : f_X8_isIn a1 a2 a3 = some r) : CtI E yX8_isIn cX8_isIn 3 .boolean 0 0 w [.int a1, .int a2, .int a3] r w := by
  refine CtI_of (by decide +kernel) (Nat.le_of_ble_eq_true rfl) (fun x X hE => ?_)
  show J E x 0 0 w 0 [(0, .int a1), (1, .int a2), (2, .int a3)] []
  unfold f_X8_isIn at h
  refine J_iload_n X (pc := 0) dX8_isIn_0 0 rfl ?_
  refine J_iload_n X (pc := 1) dX8_isIn_1 1 rfl ?_
  refine J_icmp_lt X (pc := 2) 14 dX8_isIn_2 (by decide) (fun c1 => ?_) (fun c1 => ?_)
  · rw [if_pos c1] at h
    refine J_iconst X (pc := 14) (v := 0) dX8_isIn_14 (by decide +kernel) ?_
    cases h
    exact hE _ _ dX8_isIn_15 (by decide +kernel)
  · rw [if_neg c1] at h
    refine J_iload_n X (pc := 5) dX8_isIn_5 0 rfl ?_
    refine J_iload_n X (pc := 6) dX8_isIn_6 2 rfl ?_
    refine J_icmp_gt X (pc := 7) 14 dX8_isIn_7 (by decide) (fun c2 => ?_) (fun c2 => ?_)
    · rw [if_pos c2] at h
      refine J_iconst X (pc := 14) (v := 0) dX8_isIn_14 (by decide +kernel) ?_
      cases h
      exact hE _ _ dX8_isIn_15 (by decide +kernel)
    · rw [if_neg c2] at h
      refine J_iconst X (pc := 10) (v := 1) dX8_isIn_10 (by decide +kernel) ?_
      refine J_goto X (pc := 11) 15 dX8_isIn_11 (by decide) ?_
      cases h
      exact hE _ _ dX8_isIn_15 (by decide +kernel)
def f_X8_addStore (a1 : Int32) (S : St) : Option (Int32 × St) := (f_X8_isIn a1 ((1 : Int32)) ((1000000 : Int32))).bind (fun (r1 : Int32) => (if r1 = 0 then some ((1 : Int32)) else if (S.1 1) = ((8 : Int32)) then some ((2 : Int32)) else some ((0 : Int32))).bind (fun (r5 : Int32) => (f_X8_goes r5 S).bind (fun ((r9, S10) : Int32 × St) => if r9 = 0 then some ((0 : Int32), S10) else ck (inb (S10.1 1) 8) (nmv (sA S10 0 (S10.1 1).toNatClampNeg a1) (fun (S14 : St) => nmv (sF S14 1 ((S14.1 1) + ((1 : Int32)))) (fun (S15 : St) => some ((S15.1 1) - ((1 : Int32)), S15)))))))
set_option maxRecDepth 100000 in
set_option maxHeartbeats 4000000 in
theorem c_X8_addStore (E : Ev) (ad : Nat → Nat) {a1 : Int32} {S : St} {r : Int32} {S2 : St} (h : f_X8_addStore a1 S = some (r, S2)) : CtI E yX8_addStore cX8_addStore 2 .int 1 22 (mW E ad S) [.ref (ad 0), .int a1] r (mW E ad S2) := by
  refine CtI_of (by decide +kernel) (Nat.le_of_ble_eq_true rfl) (fun x X hE => ?_)
  show J E x 0 0 (mW E ad S) 0 [(0, .ref (ad 0)), (1, .int a1)] []
  unfold f_X8_addStore at h
  refine J_aload_n X (pc := 0) dX8_addStore_0 0 rfl ?_
  refine J_iload_n X (pc := 1) dX8_addStore_1 1 rfl ?_
  refine J_iconst X (pc := 2) (v := 1) dX8_addStore_2 (by decide +kernel) ?_
  refine J_ldc X (pc := 3) dX8_addStore_3 q_467 ?_
  replace h := bk h
  obtain ⟨r1, g2, h⟩ := h
  refine J_callSI X (pc := 5) (y := yX8_isIn) (na := 3) (As := [.int a1, .int ((1 : Int32)), .int ((1000000 : Int32))]) (rest := [.ref (ad 0)]) (c_X8_isIn E (mW E ad S) g2) q_463 q_464 q_465 q_460 rfl (by decide +kernel) (by decide +kernel) rfl (Nat.le_of_ble_eq_true rfl) ⟨Nat.le_refl _, Nat.le_refl _⟩ dX8_addStore_5 ?_
  replace h := bk h
  obtain ⟨r5, g7, h⟩ := h
  have j6 : J E x 0 0 (mW E ad S) 29 [(0, .ref (ad 0)), (1, .int a1)] [.int r5, .ref (ad 0)] := by
    replace h := bk h
    obtain ⟨⟨r9, S10⟩, g11, h⟩ := h
    dsimp only at h
    refine J_callVI X (pc := 29) (y := yX8_goes) (na := 1) (As := [.int r5]) (rest := []) (c_X8_goes E ad g11) 0 mW_c0 rfl q_468 q_469 q_470 q_465 q_459 rfl (by decide +kernel) (by decide +kernel) rfl (Nat.le_of_ble_eq_true rfl) ⟨Nat.le_refl _, Nat.le_refl _⟩ dX8_addStore_29 ?_
    refine J_if_ne X (pc := 32) 37 dX8_addStore_32 (by decide) (fun c12 => ?_) (fun c12 => ?_)
    · rw [if_neg c12] at h
      refine J_aload_n X (pc := 37) dX8_addStore_37 0 rfl ?_
      refine J_getf X (pc := 38) 0 mW_c0 rfl in_X8 2 (by decide) q_433 rfl dX8_addStore_38 ?_
      refine J_aload_n X (pc := 41) dX8_addStore_41 0 rfl ?_
      refine J_getf X (pc := 42) 0 mW_c0 rfl in_X8 1 (by decide) q_462 rfl dX8_addStore_42 ?_
      refine J_iload_n X (pc := 45) dX8_addStore_45 1 rfl ?_
      replace h := ck_e h
      obtain ⟨b13, h⟩ := h
      replace h := nmv_e h
      obtain ⟨S14, eS14, h⟩ := h
      refine J_iast X (pc := 46) (w1 := (mW E ad S14)) 1 mW_c1 b13 dX8_addStore_46 (mW_a0 eS14) ?_
      refine J_aload_n X (pc := 47) dX8_addStore_47 0 rfl ?_
      refine J_dup X (pc := 48) dX8_addStore_48 rfl ?_
      refine J_getf X (pc := 49) 0 mW_c0 rfl in_X8 1 (by decide) q_462 rfl dX8_addStore_49 ?_
      refine J_iconst X (pc := 52) (v := 1) dX8_addStore_52 (by decide +kernel) ?_
      refine J_iadd X (pc := 53) dX8_addStore_53 ?_
      replace h := nmv_e h
      obtain ⟨S15, eS15, h⟩ := h
      refine J_putf X (pc := 54) (ty := .int) (w1 := (mW E ad S15)) 0 mW_c0 rfl in_X8 tyX8_ok nmX8 1 (by decide) q_462 rfl (by decide +kernel) rfl rfl (Nat.le_of_ble_eq_true rfl) dX8_addStore_54 (mW_p1 eS15) ?_
      refine J_aload_n X (pc := 57) dX8_addStore_57 0 rfl ?_
      refine J_getf X (pc := 58) 0 mW_c0 rfl in_X8 1 (by decide) q_462 rfl dX8_addStore_58 ?_
      refine J_iconst X (pc := 61) (v := 1) dX8_addStore_61 (by decide +kernel) ?_
      refine J_isub X (pc := 62) dX8_addStore_62 ?_
      cases h
      exact hE _ _ dX8_addStore_63 rfl
    · rw [if_pos c12] at h
      refine J_iconst X (pc := 35) (v := 0) dX8_addStore_35 (by decide +kernel) ?_
      cases h
      exact hE _ _ dX8_addStore_36 rfl
  refine J_if_ne X (pc := 8) 15 dX8_addStore_8 (by decide) (fun c3 => ?_) (fun c3 => ?_)
  · rw [if_neg c3] at g7
    refine J_aload_n X (pc := 15) dX8_addStore_15 0 rfl ?_
    refine J_getf X (pc := 16) 0 mW_c0 rfl in_X8 1 (by decide) q_462 rfl dX8_addStore_16 ?_
    refine J_bipush X (pc := 19) (v := 8) dX8_addStore_19 (by decide +kernel) ?_
    refine J_icmp_ne X (pc := 21) 28 dX8_addStore_21 (by decide) (fun c8 => ?_) (fun c8 => ?_)
    · rw [if_neg c8] at g7
      refine J_iconst X (pc := 28) (v := 0) dX8_addStore_28 (by decide +kernel) ?_
      cases g7
      exact J_sub [0, 1] rfl j6
    · rw [if_pos c8] at g7
      refine J_iconst X (pc := 24) (v := 2) dX8_addStore_24 (by decide +kernel) ?_
      refine J_goto X (pc := 25) 29 dX8_addStore_25 (by decide) ?_
      cases g7
      exact J_sub [0, 1] rfl j6
  · rw [if_pos c3] at g7
    refine J_iconst X (pc := 11) (v := 1) dX8_addStore_11 (by decide +kernel) ?_
    refine J_goto X (pc := 12) 29 dX8_addStore_12 (by decide) ?_
    cases g7
    exact J_sub [0, 1] rfl j6
def f_X8_isStore (a1 : Int32) (S : St) : Option (Int32) := (f_X8_isIn a1 ((0 : Int32)) ((S.1 1) - ((1 : Int32)))).bind (fun (r1 : Int32) => ck (isZ r1) (some r1))
set_option maxRecDepth 100000 in
set_option maxHeartbeats 4000000 in
theorem c_X8_isStore (E : Ev) (ad : Nat → Nat) {a1 : Int32} {S : St} {r : Int32} (h : f_X8_isStore a1 S = some r) : CtI E yX8_isStore cX8_isStore 2 .boolean 1 22 (mW E ad S) [.ref (ad 0), .int a1] r (mW E ad S) := by
  refine CtI_of (by decide +kernel) (Nat.le_of_ble_eq_true rfl) (fun x X hE => ?_)
  show J E x 0 0 (mW E ad S) 0 [(0, .ref (ad 0)), (1, .int a1)] []
  unfold f_X8_isStore at h
  refine J_iload_n X (pc := 0) dX8_isStore_0 1 rfl ?_
  refine J_iconst X (pc := 1) (v := 0) dX8_isStore_1 (by decide +kernel) ?_
  refine J_aload_n X (pc := 2) dX8_isStore_2 0 rfl ?_
  refine J_getf X (pc := 3) 0 mW_c0 rfl in_X8 1 (by decide) q_462 rfl dX8_isStore_3 ?_
  refine J_iconst X (pc := 6) (v := 1) dX8_isStore_6 (by decide +kernel) ?_
  refine J_isub X (pc := 7) dX8_isStore_7 ?_
  replace h := bk h
  obtain ⟨r1, g2, h⟩ := h
  refine J_callSI X (pc := 8) (y := yX8_isIn) (na := 3) (As := [.int a1, .int ((0 : Int32)), .int ((S.1 1) - ((1 : Int32)))]) (rest := []) (c_X8_isIn E (mW E ad S) g2) q_463 q_464 q_465 q_460 rfl (by decide +kernel) (by decide +kernel) rfl (Nat.le_of_ble_eq_true rfl) ⟨Nat.le_refl _, Nat.le_refl _⟩ dX8_isStore_8 ?_
  replace h := ck_e h
  obtain ⟨b3, h⟩ := h
  cases h
  exact hE _ _ dX8_isStore_11 (isZ_nar b3)
def f_X8_setSize (a1 : Int32) (a2 : Int32) (S : St) : Option (Int32 × St) := (f_X8_isStore a1 S).bind (fun (r1 : Int32) => (if r1 = 0 then some ((1 : Int32)) else (f_X8_isIn a2 ((1 : Int32)) ((1000000 : Int32))).bind (fun (r10 : Int32) => if r10 = 0 then some ((2 : Int32)) else some ((0 : Int32)))).bind (fun (r7 : Int32) => (f_X8_goes r7 S).bind (fun ((r13, S14) : Int32 × St) => if r13 = 0 then some ((0 : Int32), S14) else ck (inb a1 8) (nmv (S14.2 0 a1.toNatClampNeg) (fun (v18 : Int32) => ck (inb a1 8) (nmv (sA S14 0 a1.toNatClampNeg a2) (fun (S20 : St) => ck (inb a1 8) (ck (isZ ((0 : Int32))) (nmv (sA S20 11 a1.toNatClampNeg ((0 : Int32))) (fun (S23 : St) => some (v18, S23)))))))))))
set_option maxRecDepth 100000 in
set_option maxHeartbeats 4000000 in
theorem c_X8_setSize (E : Ev) (ad : Nat → Nat) {a1 : Int32} {a2 : Int32} {S : St} {r : Int32} {S2 : St} (h : f_X8_setSize a1 a2 S = some (r, S2)) : CtI E yX8_setSize cX8_setSize 4 .int 2 43 (mW E ad S) [.ref (ad 0), .int a1, .int a2] r (mW E ad S2) := by
  refine CtI_of (by decide +kernel) (Nat.le_of_ble_eq_true rfl) (fun x X hE => ?_)
  show J E x 0 0 (mW E ad S) 0 [(0, .ref (ad 0)), (1, .int a1), (2, .int a2)] []
  unfold f_X8_setSize at h
  refine J_aload_n X (pc := 0) dX8_setSize_0 0 rfl ?_
  refine J_aload_n X (pc := 1) dX8_setSize_1 0 rfl ?_
  refine J_iload_n X (pc := 2) dX8_setSize_2 1 rfl ?_
  replace h := bk h
  obtain ⟨r1, g2, h⟩ := h
  refine J_callVI X (pc := 3) (y := yX8_isStore) (na := 1) (As := [.int a1]) (rest := [.ref (ad 0)]) (c_X8_isStore E ad g2) 0 mW_c0 rfl q_472 q_473 q_474 q_465 q_461 rfl (by decide +kernel) (by decide +kernel) rfl (Nat.le_of_ble_eq_true rfl) ⟨Nat.le_refl _, Nat.le_refl _⟩ dX8_setSize_3 ?_
  replace h := bk h
  obtain ⟨r7, g9, h⟩ := h
  have j8 : J E x 0 0 (mW E ad S) 28 [(0, .ref (ad 0)), (1, .int a1), (2, .int a2)] [.int r7, .ref (ad 0)] := by
    replace h := bk h
    obtain ⟨⟨r13, S14⟩, g15, h⟩ := h
    dsimp only at h
    refine J_callVI X (pc := 28) (y := yX8_goes) (na := 1) (As := [.int r7]) (rest := []) (c_X8_goes E ad g15) 0 mW_c0 rfl q_468 q_469 q_470 q_465 q_459 rfl (by decide +kernel) (by decide +kernel) rfl (Nat.le_of_ble_eq_true rfl) ⟨Nat.le_refl _, Nat.le_refl _⟩ dX8_setSize_28 ?_
    refine J_if_ne X (pc := 31) 36 dX8_setSize_31 (by decide) (fun c16 => ?_) (fun c16 => ?_)
    · rw [if_neg c16] at h
      refine J_aload_n X (pc := 36) dX8_setSize_36 0 rfl ?_
      refine J_getf X (pc := 37) 0 mW_c0 rfl in_X8 2 (by decide) q_433 rfl dX8_setSize_37 ?_
      refine J_iload_n X (pc := 40) dX8_setSize_40 1 rfl ?_
      replace h := ck_e h
      obtain ⟨b17, h⟩ := h
      refine J_iald X (pc := 41) 1 mW_c1 b17 dX8_setSize_41 ?_
      replace h := nmv_e h
      obtain ⟨v18, ev18, h⟩ := h
      refine J_nmi ev18 ?_
      refine J_istore_n X (pc := 42) dX8_setSize_42 (by decide) rfl ?_
      refine J_aload_n X (pc := 43) dX8_setSize_43 1 rfl ?_
      refine J_getf X (pc := 44) 0 mW_c0 rfl in_X8 2 (by decide) q_433 rfl dX8_setSize_44 ?_
      refine J_iload_n X (pc := 47) dX8_setSize_47 2 rfl ?_
      refine J_iload_n X (pc := 48) dX8_setSize_48 3 rfl ?_
      replace h := ck_e h
      obtain ⟨b19, h⟩ := h
      replace h := nmv_e h
      obtain ⟨S20, eS20, h⟩ := h
      refine J_iast X (pc := 49) (w1 := (mW E ad S20)) 1 mW_c1 b19 dX8_setSize_49 (mW_a0 eS20) ?_
      refine J_aload_n X (pc := 50) dX8_setSize_50 1 rfl ?_
      refine J_getf X (pc := 51) 0 mW_c0 rfl in_X8 13 (by decide) q_445 rfl dX8_setSize_51 ?_
      refine J_iload_n X (pc := 54) dX8_setSize_54 2 rfl ?_
      refine J_iconst X (pc := 55) (v := 0) dX8_setSize_55 (by decide +kernel) ?_
      replace h := ck_e h
      obtain ⟨b21, h⟩ := h
      replace h := ck_e h
      obtain ⟨b22, h⟩ := h
      replace h := nmv_e h
      obtain ⟨S23, eS23, h⟩ := h
      refine J_zast X (pc := 56) (w1 := (mW E ad S23)) 12 mW_c12 b21 b22 dX8_setSize_56 (mW_a11 eS23) ?_
      refine J_iload_n X (pc := 57) dX8_setSize_57 0 rfl ?_
      cases h
      exact hE _ _ dX8_setSize_58 rfl
    · rw [if_pos c16] at h
      refine J_iconst X (pc := 34) (v := 0) dX8_setSize_34 (by decide +kernel) ?_
      cases h
      exact hE _ _ dX8_setSize_35 rfl
  refine J_if_ne X (pc := 6) 13 dX8_setSize_6 (by decide) (fun c3 => ?_) (fun c3 => ?_)
  · rw [if_neg c3] at g9
    refine J_iload_n X (pc := 13) dX8_setSize_13 2 rfl ?_
    refine J_iconst X (pc := 14) (v := 1) dX8_setSize_14 (by decide +kernel) ?_
    refine J_ldc X (pc := 15) dX8_setSize_15 q_467 ?_
    replace g9 := bk g9
    obtain ⟨r10, g11, g9⟩ := g9
    refine J_callSI X (pc := 17) (y := yX8_isIn) (na := 3) (As := [.int a2, .int ((1 : Int32)), .int ((1000000 : Int32))]) (rest := [.ref (ad 0)]) (c_X8_isIn E (mW E ad S) g11) q_463 q_464 q_465 q_460 rfl (by decide +kernel) (by decide +kernel) rfl (Nat.le_of_ble_eq_true rfl) ⟨Nat.le_refl _, Nat.le_refl _⟩ dX8_setSize_17 ?_
    refine J_if_eq X (pc := 20) 27 dX8_setSize_20 (by decide) (fun c12 => ?_) (fun c12 => ?_)
    · rw [if_pos c12] at g9
      refine J_iconst X (pc := 27) (v := 2) dX8_setSize_27 (by decide +kernel) ?_
      cases g9
      exact J_sub [0, 1, 2] rfl j8
    · rw [if_neg c12] at g9
      refine J_iconst X (pc := 23) (v := 0) dX8_setSize_23 (by decide +kernel) ?_
      refine J_goto X (pc := 24) 28 dX8_setSize_24 (by decide) ?_
      cases g9
      exact J_sub [0, 1, 2] rfl j8
  · rw [if_pos c3] at g9
    refine J_iconst X (pc := 9) (v := 1) dX8_setSize_9 (by decide +kernel) ?_
    refine J_goto X (pc := 10) 28 dX8_setSize_10 (by decide) ?_
    cases g9
    exact J_sub [0, 1, 2] rfl j8
def f_X8_sample_97 (v17 : Int32) (v32 : Int32) : Nat → Int32 → St → Option (St)
  | 0, _, _ => none
  | n35+1, x33, S34 => if v32 ≤ x33 then some S34 else ck (inb ((v17 + x33) + ((1 : Int32))) 96) (ck (inb (v17 + x33) 96) (nmv (sA S34 2 (v17 + x33).toNatClampNeg (S34.2 2 ((v17 + x33) + ((1 : Int32))).toNatClampNeg)) (fun (S43 : St) => ck (inb ((v17 + x33) + ((1 : Int32))) 96) (ck (inb (v17 + x33) 96) (nmv (sA S43 3 (v17 + x33).toNatClampNeg (S43.2 3 ((v17 + x33) + ((1 : Int32))).toNatClampNeg)) (fun (S46 : St) => nmv (x33 + (1 : Int32)) (fun (v47 : Int32) => f_X8_sample_97 v17 v32 n35 v47 S46)))))))
def f_X8_sample (a1 : Int32) (a2 : Int32) (S : St) : Option (Int32 × St) := (f_X8_isStore a1 S).bind (fun (r1 : Int32) => (if r1 = 0 then some ((1 : Int32)) else (f_X8_isIn a2 ((0 : Int32)) ((1000000 : Int32))).bind (fun (r10 : Int32) => if r10 = 0 then some ((2 : Int32)) else some ((0 : Int32)))).bind (fun (r7 : Int32) => (f_X8_goes r7 S).bind (fun ((r13, S14) : Int32 × St) => if r13 = 0 then some ((0 : Int32), S14) else nmv (((12 : Int32)) * a1) (fun (v17 : Int32) => ck (inb a1 8) (nmv (S14.2 1 a1.toNatClampNeg) (fun (v19 : Int32) => (if v19 ≤ 0 then some ((0 : Int32)) else ck (inb ((v17 + v19) - ((1 : Int32))) 96) (if (S14.2 2 ((v17 + v19) - ((1 : Int32))).toNatClampNeg) = (S14.1 0) then some ((1 : Int32)) else some ((0 : Int32)))).bind (fun (r21 : Int32) => (if r21 = 0 then if v19 = ((12 : Int32)) then nmv (v19 + (-1 : Int32)) (fun (v32 : Int32) => (f_X8_sample_97 v17 v32 3000 ((0 : Int32)) S14).bind (fun (S37 : St) => some (v32, S37))) else some (v19, S14) else some (v19, S14)).bind (fun ((r27, S28) : Int32 × St) => (if r21 = 0 then some ((1 : Int32)) else some ((0 : Int32))).bind (fun (r50 : Int32) => nmv (r27 + r50) (fun (v53 : Int32) => ck (inb ((v17 + v53) - ((1 : Int32))) 96) (nmv (sA S28 2 ((v17 + v53) - ((1 : Int32))).toNatClampNeg (S28.1 0)) (fun (S55 : St) => ck (inb ((v17 + v53) - ((1 : Int32))) 96) (nmv (sA S55 3 ((v17 + v53) - ((1 : Int32))).toNatClampNeg a2) (fun (S57 : St) => ck (inb a1 8) (nmv (sA S57 1 a1.toNatClampNeg v53) (fun (S59 : St) => ck (inb a1 8) (ck (isZ ((0 : Int32))) (nmv (sA S59 11 a1.toNatClampNeg ((0 : Int32))) (fun (S62 : St) => some (v53, S62))))))))))))))))))))
set_option maxRecDepth 100000 in
set_option maxHeartbeats 4000000 in
theorem c_X8_sample (E : Ev) (ad : Nat → Nat) {a1 : Int32} {a2 : Int32} {S : St} {r : Int32} {S2 : St} (h : f_X8_sample a1 a2 S = some (r, S2)) : CtI E yX8_sample cX8_sample 7 .int 2 43 (mW E ad S) [.ref (ad 0), .int a1, .int a2] r (mW E ad S2) := by
  refine CtI_of (by decide +kernel) (Nat.le_of_ble_eq_true rfl) (fun x X hE => ?_)
  show J E x 0 0 (mW E ad S) 0 [(0, .ref (ad 0)), (1, .int a1), (2, .int a2)] []
  unfold f_X8_sample at h
  refine J_aload_n X (pc := 0) dX8_sample_0 0 rfl ?_
  refine J_aload_n X (pc := 1) dX8_sample_1 0 rfl ?_
  refine J_iload_n X (pc := 2) dX8_sample_2 1 rfl ?_
  replace h := bk h
  obtain ⟨r1, g2, h⟩ := h
  refine J_callVI X (pc := 3) (y := yX8_isStore) (na := 1) (As := [.int a1]) (rest := [.ref (ad 0)]) (c_X8_isStore E ad g2) 0 mW_c0 rfl q_472 q_473 q_474 q_465 q_461 rfl (by decide +kernel) (by decide +kernel) rfl (Nat.le_of_ble_eq_true rfl) ⟨Nat.le_refl _, Nat.le_refl _⟩ dX8_sample_3 ?_
  replace h := bk h
  obtain ⟨r7, g9, h⟩ := h
  have j8 : J E x 0 0 (mW E ad S) 28 [(0, .ref (ad 0)), (1, .int a1), (2, .int a2)] [.int r7, .ref (ad 0)] := by
    replace h := bk h
    obtain ⟨⟨r13, S14⟩, g15, h⟩ := h
    dsimp only at h
    refine J_callVI X (pc := 28) (y := yX8_goes) (na := 1) (As := [.int r7]) (rest := []) (c_X8_goes E ad g15) 0 mW_c0 rfl q_468 q_469 q_470 q_465 q_459 rfl (by decide +kernel) (by decide +kernel) rfl (Nat.le_of_ble_eq_true rfl) ⟨Nat.le_refl _, Nat.le_refl _⟩ dX8_sample_28 ?_
    refine J_if_ne X (pc := 31) 36 dX8_sample_31 (by decide) (fun c16 => ?_) (fun c16 => ?_)
    · rw [if_neg c16] at h
      refine J_bipush X (pc := 36) (v := 12) dX8_sample_36 (by decide +kernel) ?_
      refine J_iload_n X (pc := 38) dX8_sample_38 1 rfl ?_
      refine J_imul X (pc := 39) dX8_sample_39 ?_
      replace h := nmv_e h
      obtain ⟨v17, ev17, h⟩ := h
      refine J_nmi ev17 ?_
      refine J_istore_n X (pc := 40) dX8_sample_40 (by decide) rfl ?_
      refine J_aload_n X (pc := 41) dX8_sample_41 1 rfl ?_
      refine J_getf X (pc := 42) 0 mW_c0 rfl in_X8 3 (by decide) q_434 rfl dX8_sample_42 ?_
      refine J_iload_n X (pc := 45) dX8_sample_45 2 rfl ?_
      replace h := ck_e h
      obtain ⟨b18, h⟩ := h
      refine J_iald X (pc := 46) 2 mW_c2 b18 dX8_sample_46 ?_
      replace h := nmv_e h
      obtain ⟨v19, ev19, h⟩ := h
      refine J_nmi ev19 ?_
      refine J_istore X (pc := 47) dX8_sample_47 (by decide) rfl ?_
      refine J_iload X (pc := 49) dX8_sample_49 0 rfl ?_
      replace h := bk h
      obtain ⟨r21, g23, h⟩ := h
      have j22 : J E x 0 0 (mW E ad S14) 77 [(0, .ref (ad 0)), (1, .int a1), (2, .int a2), (3, .int v17), (4, .int v19)] [.int r21] := by
        refine J_istore X (pc := 77) dX8_sample_77 (by decide) rfl ?_
        refine J_iload X (pc := 79) dX8_sample_79 0 rfl ?_
        replace h := bk h
        obtain ⟨⟨r27, S28⟩, g30, h⟩ := h
        dsimp only at h
        have j29 : J E x 0 0 (mW E ad S28) 150 [(0, .ref (ad 0)), (1, .int a1), (2, .int a2), (3, .int v17), (4, .int r27), (5, .int r21)] [] := by
          refine J_iload X (pc := 150) dX8_sample_150 4 rfl ?_
          refine J_iload X (pc := 152) dX8_sample_152 5 rfl ?_
          replace h := bk h
          obtain ⟨r50, g52, h⟩ := h
          have j51 : J E x 0 0 (mW E ad S28) 162 [(0, .ref (ad 0)), (1, .int a1), (2, .int a2), (3, .int v17)] [.int r50, .int r27] := by
            refine J_iadd X (pc := 162) dX8_sample_162 ?_
            replace h := nmv_e h
            obtain ⟨v53, ev53, h⟩ := h
            refine J_nmi ev53 ?_
            refine J_istore X (pc := 163) dX8_sample_163 (by decide) rfl ?_
            refine J_aload_n X (pc := 165) dX8_sample_165 1 rfl ?_
            refine J_getf X (pc := 166) 0 mW_c0 rfl in_X8 4 (by decide) q_435 rfl dX8_sample_166 ?_
            refine J_iload_n X (pc := 169) dX8_sample_169 4 rfl ?_
            refine J_iload X (pc := 170) dX8_sample_170 0 rfl ?_
            refine J_iadd X (pc := 172) dX8_sample_172 ?_
            refine J_iconst X (pc := 173) (v := 1) dX8_sample_173 (by decide +kernel) ?_
            refine J_isub X (pc := 174) dX8_sample_174 ?_
            refine J_aload_n X (pc := 175) dX8_sample_175 1 rfl ?_
            refine J_getf X (pc := 176) 0 mW_c0 rfl in_X8 0 (by decide) q_476 rfl dX8_sample_176 ?_
            replace h := ck_e h
            obtain ⟨b54, h⟩ := h
            replace h := nmv_e h
            obtain ⟨S55, eS55, h⟩ := h
            refine J_iast X (pc := 179) (w1 := (mW E ad S55)) 3 mW_c3 b54 dX8_sample_179 (mW_a2 eS55) ?_
            refine J_aload_n X (pc := 180) dX8_sample_180 1 rfl ?_
            refine J_getf X (pc := 181) 0 mW_c0 rfl in_X8 5 (by decide) q_436 rfl dX8_sample_181 ?_
            refine J_iload_n X (pc := 184) dX8_sample_184 4 rfl ?_
            refine J_iload X (pc := 185) dX8_sample_185 0 rfl ?_
            refine J_iadd X (pc := 187) dX8_sample_187 ?_
            refine J_iconst X (pc := 188) (v := 1) dX8_sample_188 (by decide +kernel) ?_
            refine J_isub X (pc := 189) dX8_sample_189 ?_
            refine J_iload_n X (pc := 190) dX8_sample_190 3 rfl ?_
            replace h := ck_e h
            obtain ⟨b56, h⟩ := h
            replace h := nmv_e h
            obtain ⟨S57, eS57, h⟩ := h
            refine J_iast X (pc := 191) (w1 := (mW E ad S57)) 4 mW_c4 b56 dX8_sample_191 (mW_a3 eS57) ?_
            refine J_aload_n X (pc := 192) dX8_sample_192 1 rfl ?_
            refine J_getf X (pc := 193) 0 mW_c0 rfl in_X8 3 (by decide) q_434 rfl dX8_sample_193 ?_
            refine J_iload_n X (pc := 196) dX8_sample_196 2 rfl ?_
            refine J_iload X (pc := 197) dX8_sample_197 0 rfl ?_
            replace h := ck_e h
            obtain ⟨b58, h⟩ := h
            replace h := nmv_e h
            obtain ⟨S59, eS59, h⟩ := h
            refine J_iast X (pc := 199) (w1 := (mW E ad S59)) 2 mW_c2 b58 dX8_sample_199 (mW_a1 eS59) ?_
            refine J_aload_n X (pc := 200) dX8_sample_200 1 rfl ?_
            refine J_getf X (pc := 201) 0 mW_c0 rfl in_X8 13 (by decide) q_445 rfl dX8_sample_201 ?_
            refine J_iload_n X (pc := 204) dX8_sample_204 2 rfl ?_
            refine J_iconst X (pc := 205) (v := 0) dX8_sample_205 (by decide +kernel) ?_
            replace h := ck_e h
            obtain ⟨b60, h⟩ := h
            replace h := ck_e h
            obtain ⟨b61, h⟩ := h
            replace h := nmv_e h
            obtain ⟨S62, eS62, h⟩ := h
            refine J_zast X (pc := 206) (w1 := (mW E ad S62)) 12 mW_c12 b60 b61 dX8_sample_206 (mW_a11 eS62) ?_
            refine J_iload X (pc := 207) dX8_sample_207 0 rfl ?_
            cases h
            exact hE _ _ dX8_sample_209 rfl
          refine J_if_eq X (pc := 154) 161 dX8_sample_154 (by decide) (fun c49 => ?_) (fun c49 => ?_)
          · rw [if_pos c49] at g52
            refine J_iconst X (pc := 161) (v := 1) dX8_sample_161 (by decide +kernel) ?_
            cases g52
            exact J_sub [0, 1, 2, 3] rfl j51
          · rw [if_neg c49] at g52
            refine J_iconst X (pc := 157) (v := 0) dX8_sample_157 (by decide +kernel) ?_
            refine J_goto X (pc := 158) 162 dX8_sample_158 (by decide) ?_
            cases g52
            exact J_sub [0, 1, 2, 3] rfl j51
        refine J_if_ne X (pc := 81) 150 dX8_sample_81 (by decide) (fun c26 => ?_) (fun c26 => ?_)
        · rw [if_neg c26] at g30
          cases g30
          exact J_sub [1, 2, 3, 4, 5, 0] rfl j29
        · rw [if_pos c26] at g30
          refine J_iload X (pc := 84) dX8_sample_84 5 rfl ?_
          refine J_bipush X (pc := 86) (v := 12) dX8_sample_86 (by decide +kernel) ?_
          refine J_icmp_ne X (pc := 88) 150 dX8_sample_88 (by decide) (fun c31 => ?_) (fun c31 => ?_)
          · rw [if_neg c31] at g30
            cases g30
            exact J_sub [1, 2, 3, 4, 5, 0] rfl j29
          · rw [if_pos c31] at g30
            replace g30 := nmv_e g30
            obtain ⟨v32, ev32, g30⟩ := g30
            refine J_iinc X (pc := 91) (v := v32) dX8_sample_91 5 rfl (by rw [ev32]; rfl) (by decide) rfl ?_
            refine J_iconst X (pc := 94) (v := 0) dX8_sample_94 (by decide +kernel) ?_
            refine J_istore X (pc := 95) dX8_sample_95 (by decide) rfl ?_
            replace g30 := bk g30
            obtain ⟨S37, g39, g30⟩ := g30
            have k38 : J E x 0 0 (mW E ad S37) 150 [(0, .ref (ad 0)), (1, .int a1), (2, .int a2), (3, .int v17), (4, .int v32), (5, .int r21)] [] := by
              cases g30
              exact J_sub [0, 1, 2, 3, 4, 5] rfl j29
            clear g30
            have l48 : ∀ (n35 : Nat) (x33 : Int32) (S34 : St), f_X8_sample_97 v17 v32 n35 x33 S34 = some S37 → J E x 0 0 (mW E ad S34) 97 [(0, .ref (ad 0)), (1, .int a1), (2, .int a2), (3, .int v17), (4, .int v32), (5, .int r21), (6, .int x33)] [] := by
              intro n35
              induction n35 with
              | zero => intro x33 S34 h; rw [f_X8_sample_97] at h; cases h
              | succ n35 ih36 =>
                intro x33 S34 h
                rw [f_X8_sample_97] at h
                refine J_iload X (pc := 97) dX8_sample_97 6 rfl ?_
                refine J_iload X (pc := 99) dX8_sample_99 4 rfl ?_
                refine J_icmp_ge X (pc := 101) 150 dX8_sample_101 (by decide) (fun c40 => ?_) (fun c40 => ?_)
                · rw [if_pos c40] at h
                  cases h
                  exact J_sub [0, 1, 2, 3, 4, 5] rfl k38
                · rw [if_neg c40] at h
                  refine J_aload_n X (pc := 104) dX8_sample_104 0 rfl ?_
                  refine J_getf X (pc := 105) 0 mW_c0 rfl in_X8 4 (by decide) q_435 rfl dX8_sample_105 ?_
                  refine J_iload_n X (pc := 108) dX8_sample_108 3 rfl ?_
                  refine J_iload X (pc := 109) dX8_sample_109 6 rfl ?_
                  refine J_iadd X (pc := 111) dX8_sample_111 ?_
                  refine J_aload_n X (pc := 112) dX8_sample_112 0 rfl ?_
                  refine J_getf X (pc := 113) 0 mW_c0 rfl in_X8 4 (by decide) q_435 rfl dX8_sample_113 ?_
                  refine J_iload_n X (pc := 116) dX8_sample_116 3 rfl ?_
                  refine J_iload X (pc := 117) dX8_sample_117 6 rfl ?_
                  refine J_iadd X (pc := 119) dX8_sample_119 ?_
                  refine J_iconst X (pc := 120) (v := 1) dX8_sample_120 (by decide +kernel) ?_
                  refine J_iadd X (pc := 121) dX8_sample_121 ?_
                  replace h := ck_e h
                  obtain ⟨b41, h⟩ := h
                  refine J_iald X (pc := 122) 3 mW_c3 b41 dX8_sample_122 ?_
                  replace h := ck_e h
                  obtain ⟨b42, h⟩ := h
                  replace h := nmv_e h
                  obtain ⟨S43, eS43, h⟩ := h
                  refine J_iast X (pc := 123) (w1 := (mW E ad S43)) 3 mW_c3 b42 dX8_sample_123 (mW_a2 eS43) ?_
                  refine J_aload_n X (pc := 124) dX8_sample_124 0 rfl ?_
                  refine J_getf X (pc := 125) 0 mW_c0 rfl in_X8 5 (by decide) q_436 rfl dX8_sample_125 ?_
                  refine J_iload_n X (pc := 128) dX8_sample_128 3 rfl ?_
                  refine J_iload X (pc := 129) dX8_sample_129 6 rfl ?_
                  refine J_iadd X (pc := 131) dX8_sample_131 ?_
                  refine J_aload_n X (pc := 132) dX8_sample_132 0 rfl ?_
                  refine J_getf X (pc := 133) 0 mW_c0 rfl in_X8 5 (by decide) q_436 rfl dX8_sample_133 ?_
                  refine J_iload_n X (pc := 136) dX8_sample_136 3 rfl ?_
                  refine J_iload X (pc := 137) dX8_sample_137 6 rfl ?_
                  refine J_iadd X (pc := 139) dX8_sample_139 ?_
                  refine J_iconst X (pc := 140) (v := 1) dX8_sample_140 (by decide +kernel) ?_
                  refine J_iadd X (pc := 141) dX8_sample_141 ?_
                  replace h := ck_e h
                  obtain ⟨b44, h⟩ := h
                  refine J_iald X (pc := 142) 4 mW_c4 b44 dX8_sample_142 ?_
                  replace h := ck_e h
                  obtain ⟨b45, h⟩ := h
                  replace h := nmv_e h
                  obtain ⟨S46, eS46, h⟩ := h
                  refine J_iast X (pc := 143) (w1 := (mW E ad S46)) 4 mW_c4 b45 dX8_sample_143 (mW_a3 eS46) ?_
                  replace h := nmv_e h
                  obtain ⟨v47, ev47, h⟩ := h
                  refine J_iinc X (pc := 144) (v := v47) dX8_sample_144 6 rfl (by rw [ev47]; rfl) (by decide) rfl ?_
                  refine J_goto X (pc := 147) 97 dX8_sample_147 (by decide) ?_
                  exact J_sub [1, 2, 3, 4, 5, 6, 0] rfl (ih36 _ _ h)
            exact J_sub [3, 4, 5, 6, 1, 2, 0] rfl (l48 3000 _ _ g39)
      refine J_if_le X (pc := 51) 76 dX8_sample_51 (by decide) (fun c20 => ?_) (fun c20 => ?_)
      · rw [if_pos c20] at g23
        refine J_iconst X (pc := 76) (v := 0) dX8_sample_76 (by decide +kernel) ?_
        cases g23
        exact J_sub [2, 3, 4, 1, 0] rfl j22
      · rw [if_neg c20] at g23
        refine J_aload_n X (pc := 54) dX8_sample_54 2 rfl ?_
        refine J_getf X (pc := 55) 0 mW_c0 rfl in_X8 4 (by decide) q_435 rfl dX8_sample_55 ?_
        refine J_iload_n X (pc := 58) dX8_sample_58 1 rfl ?_
        refine J_iload X (pc := 59) dX8_sample_59 0 rfl ?_
        refine J_iadd X (pc := 61) dX8_sample_61 ?_
        refine J_iconst X (pc := 62) (v := 1) dX8_sample_62 (by decide +kernel) ?_
        refine J_isub X (pc := 63) dX8_sample_63 ?_
        replace g23 := ck_e g23
        obtain ⟨b24, g23⟩ := g23
        refine J_iald X (pc := 64) 3 mW_c3 b24 dX8_sample_64 ?_
        refine J_aload_n X (pc := 65) dX8_sample_65 2 rfl ?_
        refine J_getf X (pc := 66) 0 mW_c0 rfl in_X8 0 (by decide) q_476 rfl dX8_sample_66 ?_
        refine J_icmp_ne X (pc := 69) 76 dX8_sample_69 (by decide) (fun c25 => ?_) (fun c25 => ?_)
        · rw [if_neg c25] at g23
          refine J_iconst X (pc := 76) (v := 0) dX8_sample_76 (by decide +kernel) ?_
          cases g23
          exact J_sub [2, 3, 4, 1, 0] rfl j22
        · rw [if_pos c25] at g23
          refine J_iconst X (pc := 72) (v := 1) dX8_sample_72 (by decide +kernel) ?_
          refine J_goto X (pc := 73) 77 dX8_sample_73 (by decide) ?_
          cases g23
          exact J_sub [2, 3, 4, 1, 0] rfl j22
    · rw [if_pos c16] at h
      refine J_iconst X (pc := 34) (v := 0) dX8_sample_34 (by decide +kernel) ?_
      cases h
      exact hE _ _ dX8_sample_35 rfl
  refine J_if_ne X (pc := 6) 13 dX8_sample_6 (by decide) (fun c3 => ?_) (fun c3 => ?_)
  · rw [if_neg c3] at g9
    refine J_iload_n X (pc := 13) dX8_sample_13 2 rfl ?_
    refine J_iconst X (pc := 14) (v := 0) dX8_sample_14 (by decide +kernel) ?_
    refine J_ldc X (pc := 15) dX8_sample_15 q_467 ?_
    replace g9 := bk g9
    obtain ⟨r10, g11, g9⟩ := g9
    refine J_callSI X (pc := 17) (y := yX8_isIn) (na := 3) (As := [.int a2, .int ((0 : Int32)), .int ((1000000 : Int32))]) (rest := [.ref (ad 0)]) (c_X8_isIn E (mW E ad S) g11) q_463 q_464 q_465 q_460 rfl (by decide +kernel) (by decide +kernel) rfl (Nat.le_of_ble_eq_true rfl) ⟨Nat.le_refl _, Nat.le_refl _⟩ dX8_sample_17 ?_
    refine J_if_eq X (pc := 20) 27 dX8_sample_20 (by decide) (fun c12 => ?_) (fun c12 => ?_)
    · rw [if_pos c12] at g9
      refine J_iconst X (pc := 27) (v := 2) dX8_sample_27 (by decide +kernel) ?_
      cases g9
      exact J_sub [0, 1, 2] rfl j8
    · rw [if_neg c12] at g9
      refine J_iconst X (pc := 23) (v := 0) dX8_sample_23 (by decide +kernel) ?_
      refine J_goto X (pc := 24) 28 dX8_sample_24 (by decide) ?_
      cases g9
      exact J_sub [0, 1, 2] rfl j8
  · rw [if_pos c3] at g9
    refine J_iconst X (pc := 9) (v := 1) dX8_sample_9 (by decide +kernel) ?_
    refine J_goto X (pc := 10) 28 dX8_sample_10 (by decide) ?_
    cases g9
    exact J_sub [0, 1, 2] rfl j8
def f_X8_clean (a1 : Int32) (a2 : Int32) (S : St) : Option (Int32 × St) := (f_X8_isStore a1 S).bind (fun (r1 : Int32) => (if r1 = 0 then some ((1 : Int32)) else (f_X8_isIn a2 ((1 : Int32)) ((100000 : Int32))).bind (fun (r12 : Int32) => if r12 = 0 then some ((2 : Int32)) else ck (inb a1 8) (if (S.2 4 a1.toNatClampNeg) = ((60 : Int32)) then some ((3 : Int32)) else some ((0 : Int32))))).bind (fun (r9 : Int32) => (f_X8_goes r9 S).bind (fun ((r17, S18) : Int32 × St) => if r17 = 0 then some ((0 : Int32), S18) else ck (inb a1 8) (nmv ((((60 : Int32)) * a1) + (S18.2 4 a1.toNatClampNeg)) (fun (v22 : Int32) => ck (inb v22 480) (nmv (sA S18 5 v22.toNatClampNeg (S18.1 0)) (fun (S24 : St) => ck (inb v22 480) (nmv (sA S24 6 v22.toNatClampNeg a2) (fun (S26 : St) => ck (inb a1 8) (ck (inb a1 8) (nmv (sA S26 4 a1.toNatClampNeg ((S26.2 4 a1.toNatClampNeg) + ((1 : Int32)))) (fun (S29 : St) => ck (inb a1 8) (ck (isZ ((0 : Int32))) (nmv (sA S29 11 a1.toNatClampNeg ((0 : Int32))) (fun (S32 : St) => ck (inb a1 8) (some (S32.2 4 a1.toNatClampNeg, S32)))))))))))))))))
set_option maxRecDepth 100000 in
set_option maxHeartbeats 4000000 in
theorem c_X8_clean (E : Ev) (ad : Nat → Nat) {a1 : Int32} {a2 : Int32} {S : St} {r : Int32} {S2 : St} (h : f_X8_clean a1 a2 S = some (r, S2)) : CtI E yX8_clean cX8_clean 4 .int 2 43 (mW E ad S) [.ref (ad 0), .int a1, .int a2] r (mW E ad S2) := by
  refine CtI_of (by decide +kernel) (Nat.le_of_ble_eq_true rfl) (fun x X hE => ?_)
  show J E x 0 0 (mW E ad S) 0 [(0, .ref (ad 0)), (1, .int a1), (2, .int a2)] []
  unfold f_X8_clean at h
  refine J_aload_n X (pc := 0) dX8_clean_0 0 rfl ?_
  refine J_aload_n X (pc := 1) dX8_clean_1 0 rfl ?_
  refine J_iload_n X (pc := 2) dX8_clean_2 1 rfl ?_
  replace h := bk h
  obtain ⟨r1, g2, h⟩ := h
  refine J_callVI X (pc := 3) (y := yX8_isStore) (na := 1) (As := [.int a1]) (rest := [.ref (ad 0)]) (c_X8_isStore E ad g2) 0 mW_c0 rfl q_472 q_473 q_474 q_465 q_461 rfl (by decide +kernel) (by decide +kernel) rfl (Nat.le_of_ble_eq_true rfl) ⟨Nat.le_refl _, Nat.le_refl _⟩ dX8_clean_3 ?_
  replace h := bk h
  obtain ⟨r9, g11, h⟩ := h
  have j10 : J E x 0 0 (mW E ad S) 43 [(0, .ref (ad 0)), (1, .int a1), (2, .int a2)] [.int r9, .ref (ad 0)] := by
    replace h := bk h
    obtain ⟨⟨r17, S18⟩, g19, h⟩ := h
    dsimp only at h
    refine J_callVI X (pc := 43) (y := yX8_goes) (na := 1) (As := [.int r9]) (rest := []) (c_X8_goes E ad g19) 0 mW_c0 rfl q_468 q_469 q_470 q_465 q_459 rfl (by decide +kernel) (by decide +kernel) rfl (Nat.le_of_ble_eq_true rfl) ⟨Nat.le_refl _, Nat.le_refl _⟩ dX8_clean_43 ?_
    refine J_if_ne X (pc := 46) 51 dX8_clean_46 (by decide) (fun c20 => ?_) (fun c20 => ?_)
    · rw [if_neg c20] at h
      refine J_bipush X (pc := 51) (v := 60) dX8_clean_51 (by decide +kernel) ?_
      refine J_iload_n X (pc := 53) dX8_clean_53 1 rfl ?_
      refine J_imul X (pc := 54) dX8_clean_54 ?_
      refine J_aload_n X (pc := 55) dX8_clean_55 0 rfl ?_
      refine J_getf X (pc := 56) 0 mW_c0 rfl in_X8 6 (by decide) q_437 rfl dX8_clean_56 ?_
      refine J_iload_n X (pc := 59) dX8_clean_59 1 rfl ?_
      replace h := ck_e h
      obtain ⟨b21, h⟩ := h
      refine J_iald X (pc := 60) 5 mW_c5 b21 dX8_clean_60 ?_
      refine J_iadd X (pc := 61) dX8_clean_61 ?_
      replace h := nmv_e h
      obtain ⟨v22, ev22, h⟩ := h
      refine J_nmi ev22 ?_
      refine J_istore_n X (pc := 62) dX8_clean_62 (by decide) rfl ?_
      refine J_aload_n X (pc := 63) dX8_clean_63 1 rfl ?_
      refine J_getf X (pc := 64) 0 mW_c0 rfl in_X8 7 (by decide) q_438 rfl dX8_clean_64 ?_
      refine J_iload_n X (pc := 67) dX8_clean_67 0 rfl ?_
      refine J_aload_n X (pc := 68) dX8_clean_68 1 rfl ?_
      refine J_getf X (pc := 69) 0 mW_c0 rfl in_X8 0 (by decide) q_476 rfl dX8_clean_69 ?_
      replace h := ck_e h
      obtain ⟨b23, h⟩ := h
      replace h := nmv_e h
      obtain ⟨S24, eS24, h⟩ := h
      refine J_iast X (pc := 72) (w1 := (mW E ad S24)) 6 mW_c6 b23 dX8_clean_72 (mW_a5 eS24) ?_
      refine J_aload_n X (pc := 73) dX8_clean_73 1 rfl ?_
      refine J_getf X (pc := 74) 0 mW_c0 rfl in_X8 8 (by decide) q_439 rfl dX8_clean_74 ?_
      refine J_iload_n X (pc := 77) dX8_clean_77 0 rfl ?_
      refine J_iload_n X (pc := 78) dX8_clean_78 3 rfl ?_
      replace h := ck_e h
      obtain ⟨b25, h⟩ := h
      replace h := nmv_e h
      obtain ⟨S26, eS26, h⟩ := h
      refine J_iast X (pc := 79) (w1 := (mW E ad S26)) 7 mW_c7 b25 dX8_clean_79 (mW_a6 eS26) ?_
      refine J_aload_n X (pc := 80) dX8_clean_80 1 rfl ?_
      refine J_getf X (pc := 81) 0 mW_c0 rfl in_X8 6 (by decide) q_437 rfl dX8_clean_81 ?_
      refine J_iload_n X (pc := 84) dX8_clean_84 2 rfl ?_
      refine J_dup2 X (pc := 85) dX8_clean_85 rfl rfl ?_
      replace h := ck_e h
      obtain ⟨b27, h⟩ := h
      refine J_iald X (pc := 86) 5 mW_c5 b27 dX8_clean_86 ?_
      refine J_iconst X (pc := 87) (v := 1) dX8_clean_87 (by decide +kernel) ?_
      refine J_iadd X (pc := 88) dX8_clean_88 ?_
      replace h := ck_e h
      obtain ⟨b28, h⟩ := h
      replace h := nmv_e h
      obtain ⟨S29, eS29, h⟩ := h
      refine J_iast X (pc := 89) (w1 := (mW E ad S29)) 5 mW_c5 b28 dX8_clean_89 (mW_a4 eS29) ?_
      refine J_aload_n X (pc := 90) dX8_clean_90 1 rfl ?_
      refine J_getf X (pc := 91) 0 mW_c0 rfl in_X8 13 (by decide) q_445 rfl dX8_clean_91 ?_
      refine J_iload_n X (pc := 94) dX8_clean_94 2 rfl ?_
      refine J_iconst X (pc := 95) (v := 0) dX8_clean_95 (by decide +kernel) ?_
      replace h := ck_e h
      obtain ⟨b30, h⟩ := h
      replace h := ck_e h
      obtain ⟨b31, h⟩ := h
      replace h := nmv_e h
      obtain ⟨S32, eS32, h⟩ := h
      refine J_zast X (pc := 96) (w1 := (mW E ad S32)) 12 mW_c12 b30 b31 dX8_clean_96 (mW_a11 eS32) ?_
      refine J_aload_n X (pc := 97) dX8_clean_97 1 rfl ?_
      refine J_getf X (pc := 98) 0 mW_c0 rfl in_X8 6 (by decide) q_437 rfl dX8_clean_98 ?_
      refine J_iload_n X (pc := 101) dX8_clean_101 2 rfl ?_
      replace h := ck_e h
      obtain ⟨b33, h⟩ := h
      refine J_iald X (pc := 102) 5 mW_c5 b33 dX8_clean_102 ?_
      cases h
      exact hE _ _ dX8_clean_103 rfl
    · rw [if_pos c20] at h
      refine J_iconst X (pc := 49) (v := 0) dX8_clean_49 (by decide +kernel) ?_
      cases h
      exact hE _ _ dX8_clean_50 rfl
  refine J_if_ne X (pc := 6) 13 dX8_clean_6 (by decide) (fun c3 => ?_) (fun c3 => ?_)
  · rw [if_neg c3] at g11
    refine J_iload_n X (pc := 13) dX8_clean_13 2 rfl ?_
    refine J_iconst X (pc := 14) (v := 1) dX8_clean_14 (by decide +kernel) ?_
    refine J_ldc X (pc := 15) dX8_clean_15 q_478 ?_
    replace g11 := bk g11
    obtain ⟨r12, g13, g11⟩ := g11
    refine J_callSI X (pc := 17) (y := yX8_isIn) (na := 3) (As := [.int a2, .int ((1 : Int32)), .int ((100000 : Int32))]) (rest := [.ref (ad 0)]) (c_X8_isIn E (mW E ad S) g13) q_463 q_464 q_465 q_460 rfl (by decide +kernel) (by decide +kernel) rfl (Nat.le_of_ble_eq_true rfl) ⟨Nat.le_refl _, Nat.le_refl _⟩ dX8_clean_17 ?_
    refine J_if_ne X (pc := 20) 27 dX8_clean_20 (by decide) (fun c14 => ?_) (fun c14 => ?_)
    · rw [if_neg c14] at g11
      refine J_aload_n X (pc := 27) dX8_clean_27 0 rfl ?_
      refine J_getf X (pc := 28) 0 mW_c0 rfl in_X8 6 (by decide) q_437 rfl dX8_clean_28 ?_
      refine J_iload_n X (pc := 31) dX8_clean_31 1 rfl ?_
      replace g11 := ck_e g11
      obtain ⟨b15, g11⟩ := g11
      refine J_iald X (pc := 32) 5 mW_c5 b15 dX8_clean_32 ?_
      refine J_bipush X (pc := 33) (v := 60) dX8_clean_33 (by decide +kernel) ?_
      refine J_icmp_ne X (pc := 35) 42 dX8_clean_35 (by decide) (fun c16 => ?_) (fun c16 => ?_)
      · rw [if_neg c16] at g11
        refine J_iconst X (pc := 42) (v := 0) dX8_clean_42 (by decide +kernel) ?_
        cases g11
        exact J_sub [0, 1, 2] rfl j10
      · rw [if_pos c16] at g11
        refine J_iconst X (pc := 38) (v := 3) dX8_clean_38 (by decide +kernel) ?_
        refine J_goto X (pc := 39) 43 dX8_clean_39 (by decide) ?_
        cases g11
        exact J_sub [0, 1, 2] rfl j10
    · rw [if_pos c14] at g11
      refine J_iconst X (pc := 23) (v := 2) dX8_clean_23 (by decide +kernel) ?_
      refine J_goto X (pc := 24) 43 dX8_clean_24 (by decide) ?_
      cases g11
      exact J_sub [0, 1, 2] rfl j10
  · rw [if_pos c3] at g11
    refine J_iconst X (pc := 9) (v := 1) dX8_clean_9 (by decide +kernel) ?_
    refine J_goto X (pc := 10) 43 dX8_clean_10 (by decide) ?_
    cases g11
    exact J_sub [0, 1, 2] rfl j10
def f_X8_setRule (a1 : Int32) (a2 : Int32) (a3 : Int32) (S : St) : Option (St) := (f_X8_isIn a2 ((0 : Int32)) ((3000 : Int32))).bind (fun (r1 : Int32) => (if r1 = 0 then some ((0 : Int32)) else (f_X8_isIn a3 ((0 : Int32)) ((100 : Int32))).bind (fun (r7 : Int32) => if r7 = 0 then some ((0 : Int32)) else some ((1 : Int32)))).bind (fun (r4 : Int32) => (f_X8_isStore a1 S).bind (fun (r10 : Int32) => (if r10 = 0 then some ((1 : Int32)) else if r4 = 0 then some ((2 : Int32)) else some ((0 : Int32))).bind (fun (r14 : Int32) => (f_X8_goes r14 S).bind (fun ((r18, S19) : Int32 × St) => if r18 = 0 then some S19 else ck (inb a1 8) (nmv (sA S19 7 a1.toNatClampNeg a2) (fun (S23 : St) => ck (inb a1 8) (nmv (sA S23 8 a1.toNatClampNeg a3) (fun (S25 : St) => ck (inb a1 8) (ck (isZ ((0 : Int32))) (nmv (sA S25 11 a1.toNatClampNeg ((0 : Int32))) (fun (S28 : St) => some S28))))))))))))
set_option maxRecDepth 100000 in
set_option maxHeartbeats 4000000 in
theorem c_X8_setRule (E : Ev) (ad : Nat → Nat) {a1 : Int32} {a2 : Int32} {a3 : Int32} {S : St} {S2 : St} (h : f_X8_setRule a1 a2 a3 S = some S2) : CtV E yX8_setRule cX8_setRule 5 2 43 (mW E ad S) [.ref (ad 0), .int a1, .int a2, .int a3] (mW E ad S2) := by
  refine CtV_of (by decide +kernel) (Nat.le_of_ble_eq_true rfl) (fun x X hE => ?_)
  show J E x 0 0 (mW E ad S) 0 [(0, .ref (ad 0)), (1, .int a1), (2, .int a2), (3, .int a3)] []
  unfold f_X8_setRule at h
  refine J_iload_n X (pc := 0) dX8_setRule_0 2 rfl ?_
  refine J_iconst X (pc := 1) (v := 0) dX8_setRule_1 (by decide +kernel) ?_
  refine J_sipush X (pc := 2) (v := 3000) dX8_setRule_2 (by decide +kernel) ?_
  replace h := bk h
  obtain ⟨r1, g2, h⟩ := h
  refine J_callSI X (pc := 5) (y := yX8_isIn) (na := 3) (As := [.int a2, .int ((0 : Int32)), .int ((3000 : Int32))]) (rest := []) (c_X8_isIn E (mW E ad S) g2) q_463 q_464 q_465 q_460 rfl (by decide +kernel) (by decide +kernel) rfl (Nat.le_of_ble_eq_true rfl) ⟨Nat.le_refl _, Nat.le_refl _⟩ dX8_setRule_5 ?_
  replace h := bk h
  obtain ⟨r4, g6, h⟩ := h
  have j5 : J E x 0 0 (mW E ad S) 26 [(0, .ref (ad 0)), (1, .int a1), (2, .int a2), (3, .int a3)] [.int r4] := by
    refine J_istore X (pc := 26) dX8_setRule_26 (by decide) rfl ?_
    refine J_aload_n X (pc := 28) dX8_setRule_28 1 rfl ?_
    refine J_aload_n X (pc := 29) dX8_setRule_29 1 rfl ?_
    refine J_iload_n X (pc := 30) dX8_setRule_30 2 rfl ?_
    replace h := bk h
    obtain ⟨r10, g11, h⟩ := h
    refine J_callVI X (pc := 31) (y := yX8_isStore) (na := 1) (As := [.int a1]) (rest := [.ref (ad 0)]) (c_X8_isStore E ad g11) 0 mW_c0 rfl q_472 q_473 q_474 q_465 q_461 rfl (by decide +kernel) (by decide +kernel) rfl (Nat.le_of_ble_eq_true rfl) ⟨Nat.le_refl _, Nat.le_refl _⟩ dX8_setRule_31 ?_
    replace h := bk h
    obtain ⟨r14, g16, h⟩ := h
    have j15 : J E x 0 0 (mW E ad S) 51 [(0, .ref (ad 0)), (1, .int a1), (2, .int a2), (3, .int a3)] [.int r14, .ref (ad 0)] := by
      replace h := bk h
      obtain ⟨⟨r18, S19⟩, g20, h⟩ := h
      dsimp only at h
      refine J_callVI X (pc := 51) (y := yX8_goes) (na := 1) (As := [.int r14]) (rest := []) (c_X8_goes E ad g20) 0 mW_c0 rfl q_468 q_469 q_470 q_465 q_459 rfl (by decide +kernel) (by decide +kernel) rfl (Nat.le_of_ble_eq_true rfl) ⟨Nat.le_refl _, Nat.le_refl _⟩ dX8_setRule_51 ?_
      refine J_if_eq X (pc := 54) 78 dX8_setRule_54 (by decide) (fun c21 => ?_) (fun c21 => ?_)
      · rw [if_pos c21] at h
        cases h
        exact hE _ _ dX8_setRule_78
      · rw [if_neg c21] at h
        refine J_aload_n X (pc := 57) dX8_setRule_57 0 rfl ?_
        refine J_getf X (pc := 58) 0 mW_c0 rfl in_X8 9 (by decide) q_440 rfl dX8_setRule_58 ?_
        refine J_iload_n X (pc := 61) dX8_setRule_61 1 rfl ?_
        refine J_iload_n X (pc := 62) dX8_setRule_62 2 rfl ?_
        replace h := ck_e h
        obtain ⟨b22, h⟩ := h
        replace h := nmv_e h
        obtain ⟨S23, eS23, h⟩ := h
        refine J_iast X (pc := 63) (w1 := (mW E ad S23)) 8 mW_c8 b22 dX8_setRule_63 (mW_a7 eS23) ?_
        refine J_aload_n X (pc := 64) dX8_setRule_64 0 rfl ?_
        refine J_getf X (pc := 65) 0 mW_c0 rfl in_X8 10 (by decide) q_441 rfl dX8_setRule_65 ?_
        refine J_iload_n X (pc := 68) dX8_setRule_68 1 rfl ?_
        refine J_iload_n X (pc := 69) dX8_setRule_69 3 rfl ?_
        replace h := ck_e h
        obtain ⟨b24, h⟩ := h
        replace h := nmv_e h
        obtain ⟨S25, eS25, h⟩ := h
        refine J_iast X (pc := 70) (w1 := (mW E ad S25)) 9 mW_c9 b24 dX8_setRule_70 (mW_a8 eS25) ?_
        refine J_aload_n X (pc := 71) dX8_setRule_71 0 rfl ?_
        refine J_getf X (pc := 72) 0 mW_c0 rfl in_X8 13 (by decide) q_445 rfl dX8_setRule_72 ?_
        refine J_iload_n X (pc := 75) dX8_setRule_75 1 rfl ?_
        refine J_iconst X (pc := 76) (v := 0) dX8_setRule_76 (by decide +kernel) ?_
        replace h := ck_e h
        obtain ⟨b26, h⟩ := h
        replace h := ck_e h
        obtain ⟨b27, h⟩ := h
        replace h := nmv_e h
        obtain ⟨S28, eS28, h⟩ := h
        refine J_zast X (pc := 77) (w1 := (mW E ad S28)) 12 mW_c12 b26 b27 dX8_setRule_77 (mW_a11 eS28) ?_
        cases h
        exact hE _ _ dX8_setRule_78
    refine J_if_ne X (pc := 34) 41 dX8_setRule_34 (by decide) (fun c12 => ?_) (fun c12 => ?_)
    · rw [if_neg c12] at g16
      refine J_iload X (pc := 41) dX8_setRule_41 0 rfl ?_
      refine J_if_eq X (pc := 43) 50 dX8_setRule_43 (by decide) (fun c17 => ?_) (fun c17 => ?_)
      · rw [if_pos c17] at g16
        refine J_iconst X (pc := 50) (v := 2) dX8_setRule_50 (by decide +kernel) ?_
        cases g16
        exact J_sub [1, 2, 3, 4] rfl j15
      · rw [if_neg c17] at g16
        refine J_iconst X (pc := 46) (v := 0) dX8_setRule_46 (by decide +kernel) ?_
        refine J_goto X (pc := 47) 51 dX8_setRule_47 (by decide) ?_
        cases g16
        exact J_sub [1, 2, 3, 4] rfl j15
    · rw [if_pos c12] at g16
      refine J_iconst X (pc := 37) (v := 1) dX8_setRule_37 (by decide +kernel) ?_
      refine J_goto X (pc := 38) 51 dX8_setRule_38 (by decide) ?_
      cases g16
      exact J_sub [1, 2, 3, 4] rfl j15
  refine J_if_eq X (pc := 8) 25 dX8_setRule_8 (by decide) (fun c3 => ?_) (fun c3 => ?_)
  · rw [if_pos c3] at g6
    refine J_iconst X (pc := 25) (v := 0) dX8_setRule_25 (by decide +kernel) ?_
    cases g6
    exact J_sub [0, 1, 2, 3] rfl j5
  · rw [if_neg c3] at g6
    refine J_iload_n X (pc := 11) dX8_setRule_11 3 rfl ?_
    refine J_iconst X (pc := 12) (v := 0) dX8_setRule_12 (by decide +kernel) ?_
    refine J_bipush X (pc := 13) (v := 100) dX8_setRule_13 (by decide +kernel) ?_
    replace g6 := bk g6
    obtain ⟨r7, g8, g6⟩ := g6
    refine J_callSI X (pc := 15) (y := yX8_isIn) (na := 3) (As := [.int a3, .int ((0 : Int32)), .int ((100 : Int32))]) (rest := []) (c_X8_isIn E (mW E ad S) g8) q_463 q_464 q_465 q_460 rfl (by decide +kernel) (by decide +kernel) rfl (Nat.le_of_ble_eq_true rfl) ⟨Nat.le_refl _, Nat.le_refl _⟩ dX8_setRule_15 ?_
    refine J_if_eq X (pc := 18) 25 dX8_setRule_18 (by decide) (fun c9 => ?_) (fun c9 => ?_)
    · rw [if_pos c9] at g6
      refine J_iconst X (pc := 25) (v := 0) dX8_setRule_25 (by decide +kernel) ?_
      cases g6
      exact J_sub [0, 1, 2, 3] rfl j5
    · rw [if_neg c9] at g6
      refine J_iconst X (pc := 21) (v := 1) dX8_setRule_21 (by decide +kernel) ?_
      refine J_goto X (pc := 22) 26 dX8_setRule_22 (by decide) ?_
      cases g6
      exact J_sub [0, 1, 2, 3] rfl j5
def f_X8_compare (a1 : Int32) (a2 : Int32) (S : St) : Option (Int32) := ck (inb a1 66) (ck (inb a2 66) (ck (inb a2 66) (ck (inb a1 66) (nmv ((((S.2 15 a1.toNatClampNeg).toInt64) * ((S.2 16 a2.toNatClampNeg).toInt64)) - (((S.2 15 a2.toNatClampNeg).toInt64) * ((S.2 16 a1.toNatClampNeg).toInt64))) (fun (v5 : Int64) => if 0 ≤ (lg_cmp v5 ((0 : Int64))) then if (lg_cmp v5 ((0 : Int64))) ≤ 0 then some ((0 : Int32)) else some ((1 : Int32)) else some ((-1 : Int32)))))))
set_option maxRecDepth 100000 in
set_option maxHeartbeats 4000000 in
theorem c_X8_compare (E : Ev) (ad : Nat → Nat) {a1 : Int32} {a2 : Int32} {S : St} {r : Int32} (h : f_X8_compare a1 a2 S = some r) : CtI E yX8_compare cX8_compare 5 .int 0 0 (mW E ad S) [.ref (ad 0), .int a1, .int a2] r (mW E ad S) := by
  refine CtI_of (by decide +kernel) (Nat.le_of_ble_eq_true rfl) (fun x X hE => ?_)
  show J E x 0 0 (mW E ad S) 0 [(0, .ref (ad 0)), (1, .int a1), (2, .int a2)] []
  unfold f_X8_compare at h
  refine J_aload_n X (pc := 0) dX8_compare_0 0 rfl ?_
  refine J_getf X (pc := 1) 0 mW_c0 rfl in_X8 17 (by decide) q_449 rfl dX8_compare_1 ?_
  refine J_iload_n X (pc := 4) dX8_compare_4 1 rfl ?_
  replace h := ck_e h
  obtain ⟨b1, h⟩ := h
  refine J_iald X (pc := 5) 16 mW_c16 b1 dX8_compare_5 ?_
  refine J_i2l X (pc := 6) dX8_compare_6 ?_
  refine J_aload_n X (pc := 7) dX8_compare_7 0 rfl ?_
  refine J_getf X (pc := 8) 0 mW_c0 rfl in_X8 18 (by decide) q_450 rfl dX8_compare_8 ?_
  refine J_iload_n X (pc := 11) dX8_compare_11 2 rfl ?_
  replace h := ck_e h
  obtain ⟨b2, h⟩ := h
  refine J_iald X (pc := 12) 17 mW_c17 b2 dX8_compare_12 ?_
  refine J_i2l X (pc := 13) dX8_compare_13 ?_
  refine J_lmul X (pc := 14) dX8_compare_14 ?_
  refine J_aload_n X (pc := 15) dX8_compare_15 0 rfl ?_
  refine J_getf X (pc := 16) 0 mW_c0 rfl in_X8 17 (by decide) q_449 rfl dX8_compare_16 ?_
  refine J_iload_n X (pc := 19) dX8_compare_19 2 rfl ?_
  replace h := ck_e h
  obtain ⟨b3, h⟩ := h
  refine J_iald X (pc := 20) 16 mW_c16 b3 dX8_compare_20 ?_
  refine J_i2l X (pc := 21) dX8_compare_21 ?_
  refine J_aload_n X (pc := 22) dX8_compare_22 0 rfl ?_
  refine J_getf X (pc := 23) 0 mW_c0 rfl in_X8 18 (by decide) q_450 rfl dX8_compare_23 ?_
  refine J_iload_n X (pc := 26) dX8_compare_26 1 rfl ?_
  replace h := ck_e h
  obtain ⟨b4, h⟩ := h
  refine J_iald X (pc := 27) 17 mW_c17 b4 dX8_compare_27 ?_
  refine J_i2l X (pc := 28) dX8_compare_28 ?_
  refine J_lmul X (pc := 29) dX8_compare_29 ?_
  refine J_lsub X (pc := 30) dX8_compare_30 ?_
  replace h := nmv_e h
  obtain ⟨v5, ev5, h⟩ := h
  refine J_nml ev5 ?_
  refine J_lstore_n X (pc := 31) dX8_compare_31 (by decide) rfl ?_
  refine J_lload_n X (pc := 32) dX8_compare_32 0 rfl ?_
  refine J_lconst X (pc := 33) (v := 0) dX8_compare_33 (by decide +kernel) ?_
  refine J_lcmp X (pc := 34) dX8_compare_34 ?_
  refine J_if_ge X (pc := 35) 42 dX8_compare_35 (by decide) (fun c6 => ?_) (fun c6 => ?_)
  · rw [if_pos c6] at h
    refine J_lload_n X (pc := 42) dX8_compare_42 0 rfl ?_
    refine J_lconst X (pc := 43) (v := 0) dX8_compare_43 (by decide +kernel) ?_
    refine J_lcmp X (pc := 44) dX8_compare_44 ?_
    refine J_if_le X (pc := 45) 52 dX8_compare_45 (by decide) (fun c7 => ?_) (fun c7 => ?_)
    · rw [if_pos c7] at h
      refine J_iconst X (pc := 52) (v := 0) dX8_compare_52 (by decide +kernel) ?_
      cases h
      exact hE _ _ dX8_compare_53 rfl
    · rw [if_neg c7] at h
      refine J_iconst X (pc := 48) (v := 1) dX8_compare_48 (by decide +kernel) ?_
      refine J_goto X (pc := 49) 53 dX8_compare_49 (by decide) ?_
      cases h
      exact hE _ _ dX8_compare_53 rfl
  · rw [if_neg c6] at h
    refine J_iconst X (pc := 38) (v := -1) dX8_compare_38 (by decide +kernel) ?_
    refine J_goto X (pc := 39) 53 dX8_compare_39 (by decide) ?_
    cases h
    exact hE _ _ dX8_compare_53 rfl
def f_X8_divisor_13 : Nat → Int32 → Int32 → Option (Int32)
  | 0, _, _ => none
  | n7+1, x5, x6 => if x6 ≤ 0 then some x5 else ck (¬ x6 = 0) (nmv (x5 - x5 / x6 * x6) (fun (v14 : Int32) => f_X8_divisor_13 n7 x6 v14))
def f_X8_divisor (a1 : Int32) (a2 : Int32) : Option (Int32) := (if 0 ≤ a1 then some a1 else some (-a1)).bind (fun (r2 : Int32) => (f_X8_divisor_13 3000 r2 a2).bind (fun (r9 : Int32) => some r9))
set_option maxRecDepth 100000 in
set_option maxHeartbeats 4000000 in
theorem c_X8_divisor (E : Ev) (w : va_W) {a1 : Int32} {a2 : Int32} {r : Int32} (h : f_X8_divisor a1 a2 = some r) : CtI E yX8_divisor cX8_divisor 5 .int 0 0 w [.int a1, .int a2] r w := by
  refine CtI_of (by decide +kernel) (Nat.le_of_ble_eq_true rfl) (fun x X hE => ?_)
  show J E x 0 0 w 0 [(0, .int a1), (1, .int a2)] []
  unfold f_X8_divisor at h
  refine J_iload_n X (pc := 0) dX8_divisor_0 0 rfl ?_
  replace h := bk h
  obtain ⟨r2, g4, h⟩ := h
  have j3 : J E x 0 0 w 10 [(1, .int a2)] [.int r2] := by
    refine J_istore_n X (pc := 10) dX8_divisor_10 (by decide) rfl ?_
    refine J_iload_n X (pc := 11) dX8_divisor_11 1 rfl ?_
    refine J_istore_n X (pc := 12) dX8_divisor_12 (by decide) rfl ?_
    replace h := bk h
    obtain ⟨r9, g11, h⟩ := h
    have k10 : J E x 0 0 w 30 [(2, .int r9)] [] := by
      refine J_iload_n X (pc := 30) dX8_divisor_30 0 rfl ?_
      cases h
      exact hE _ _ dX8_divisor_31 rfl
    clear h
    have l15 : ∀ (n7 : Nat) (x5 : Int32) (x6 : Int32), f_X8_divisor_13 n7 x5 x6 = some r9 → J E x 0 0 w 13 [(2, .int x5), (3, .int x6)] [] := by
      intro n7
      induction n7 with
      | zero => intro x5 x6 h; rw [f_X8_divisor_13] at h; cases h
      | succ n7 ih8 =>
        intro x5 x6 h
        rw [f_X8_divisor_13] at h
        refine J_iload_n X (pc := 13) dX8_divisor_13 1 rfl ?_
        refine J_if_le X (pc := 14) 30 dX8_divisor_14 (by decide) (fun c12 => ?_) (fun c12 => ?_)
        · rw [if_pos c12] at h
          cases h
          exact J_sub [0] rfl k10
        · rw [if_neg c12] at h
          refine J_iload_n X (pc := 17) dX8_divisor_17 0 rfl ?_
          refine J_iload_n X (pc := 18) dX8_divisor_18 1 rfl ?_
          replace h := ck_e h
          obtain ⟨b13, h⟩ := h
          refine J_irem X (pc := 19) dX8_divisor_19 b13 ?_
          replace h := nmv_e h
          obtain ⟨v14, ev14, h⟩ := h
          refine J_nmi ev14 ?_
          refine J_istore X (pc := 20) dX8_divisor_20 (by decide) rfl ?_
          refine J_iload_n X (pc := 22) dX8_divisor_22 2 rfl ?_
          refine J_istore_n X (pc := 23) dX8_divisor_23 (by decide) rfl ?_
          refine J_iload X (pc := 24) dX8_divisor_24 1 rfl ?_
          refine J_istore_n X (pc := 26) dX8_divisor_26 (by decide) rfl ?_
          refine J_goto X (pc := 27) 13 dX8_divisor_27 (by decide) ?_
          exact J_sub [1, 0] rfl (ih8 _ _ h)
    exact J_sub [1, 0] rfl (l15 3000 _ _ g11)
  refine J_if_ge X (pc := 1) 9 dX8_divisor_1 (by decide) (fun c1 => ?_) (fun c1 => ?_)
  · rw [if_pos c1] at g4
    refine J_iload_n X (pc := 9) dX8_divisor_9 0 rfl ?_
    cases g4
    exact J_sub [1] rfl j3
  · rw [if_neg c1] at g4
    refine J_iload_n X (pc := 4) dX8_divisor_4 0 rfl ?_
    refine J_ineg X (pc := 5) dX8_divisor_5 ?_
    refine J_goto X (pc := 6) 10 dX8_divisor_6 (by decide) ?_
    cases g4
    exact J_sub [1] rfl j3
def f_X8_fill_18 (a1 : Int32) (a2 : Int32) (S : St) : Nat → Int32 → Int32 → Option (Int32)
  | 0, _, _ => none
  | n6+1, x4, x5 => ck (inb a1 8) (if ((((60 : Int32)) * a1) + (S.2 4 a1.toNatClampNeg)) ≤ x5 then some x4 else ck (inb x5 480) (ck (inb ((((12 : Int32)) * a1) + a2) 96) ((if (S.2 2 ((((12 : Int32)) * a1) + a2).toNatClampNeg) < (S.2 5 x5.toNatClampNeg) then some ((0 : Int32)) else ck (inb x5 480) (some (S.2 6 x5.toNatClampNeg))).bind (fun (r16 : Int32) => nmv (x4 + r16) (fun (v20 : Int32) => nmv (x5 + (1 : Int32)) (fun (v21 : Int32) => f_X8_fill_18 a1 a2 S n6 v20 v21))))))
def f_X8_fill (a1 : Int32) (a2 : Int32) (S : St) : Option (Int32) := ck (inb ((((12 : Int32)) * a1) + a2) 96) (nmv (S.2 3 ((((12 : Int32)) * a1) + a2).toNatClampNeg) (fun (v2 : Int32) => nmv (((60 : Int32)) * a1) (fun (v3 : Int32) => (f_X8_fill_18 a1 a2 S 3000 v2 v3).bind (fun (r8 : Int32) => some r8))))
set_option maxRecDepth 100000 in
set_option maxHeartbeats 4000000 in
theorem c_X8_fill (E : Ev) (ad : Nat → Nat) {a1 : Int32} {a2 : Int32} {S : St} {r : Int32} (h : f_X8_fill a1 a2 S = some r) : CtI E yX8_fill cX8_fill 5 .int 0 0 (mW E ad S) [.ref (ad 0), .int a1, .int a2] r (mW E ad S) := by
  refine CtI_of (by decide +kernel) (Nat.le_of_ble_eq_true rfl) (fun x X hE => ?_)
  show J E x 0 0 (mW E ad S) 0 [(0, .ref (ad 0)), (1, .int a1), (2, .int a2)] []
  unfold f_X8_fill at h
  refine J_aload_n X (pc := 0) dX8_fill_0 0 rfl ?_
  refine J_getf X (pc := 1) 0 mW_c0 rfl in_X8 5 (by decide) q_436 rfl dX8_fill_1 ?_
  refine J_bipush X (pc := 4) (v := 12) dX8_fill_4 (by decide +kernel) ?_
  refine J_iload_n X (pc := 6) dX8_fill_6 1 rfl ?_
  refine J_imul X (pc := 7) dX8_fill_7 ?_
  refine J_iload_n X (pc := 8) dX8_fill_8 2 rfl ?_
  refine J_iadd X (pc := 9) dX8_fill_9 ?_
  replace h := ck_e h
  obtain ⟨b1, h⟩ := h
  refine J_iald X (pc := 10) 4 mW_c4 b1 dX8_fill_10 ?_
  replace h := nmv_e h
  obtain ⟨v2, ev2, h⟩ := h
  refine J_nmi ev2 ?_
  refine J_istore_n X (pc := 11) dX8_fill_11 (by decide) rfl ?_
  refine J_bipush X (pc := 12) (v := 60) dX8_fill_12 (by decide +kernel) ?_
  refine J_iload_n X (pc := 14) dX8_fill_14 2 rfl ?_
  refine J_imul X (pc := 15) dX8_fill_15 ?_
  replace h := nmv_e h
  obtain ⟨v3, ev3, h⟩ := h
  refine J_nmi ev3 ?_
  refine J_istore X (pc := 16) dX8_fill_16 (by decide) rfl ?_
  replace h := bk h
  obtain ⟨r8, g10, h⟩ := h
  have k9 : J E x 0 0 (mW E ad S) 75 [(3, .int r8)] [] := by
    refine J_iload_n X (pc := 75) dX8_fill_75 0 rfl ?_
    cases h
    exact hE _ _ dX8_fill_76 rfl
  clear h
  have l22 : ∀ (n6 : Nat) (x4 : Int32) (x5 : Int32), f_X8_fill_18 a1 a2 S n6 x4 x5 = some r8 → J E x 0 0 (mW E ad S) 18 [(0, .ref (ad 0)), (1, .int a1), (2, .int a2), (3, .int x4), (4, .int x5)] [] := by
    intro n6
    induction n6 with
    | zero => intro x4 x5 h; rw [f_X8_fill_18] at h; cases h
    | succ n6 ih7 =>
      intro x4 x5 h
      rw [f_X8_fill_18] at h
      refine J_iload X (pc := 18) dX8_fill_18 4 rfl ?_
      refine J_bipush X (pc := 20) (v := 60) dX8_fill_20 (by decide +kernel) ?_
      refine J_iload_n X (pc := 22) dX8_fill_22 1 rfl ?_
      refine J_imul X (pc := 23) dX8_fill_23 ?_
      refine J_aload_n X (pc := 24) dX8_fill_24 0 rfl ?_
      refine J_getf X (pc := 25) 0 mW_c0 rfl in_X8 6 (by decide) q_437 rfl dX8_fill_25 ?_
      refine J_iload_n X (pc := 28) dX8_fill_28 1 rfl ?_
      replace h := ck_e h
      obtain ⟨b11, h⟩ := h
      refine J_iald X (pc := 29) 5 mW_c5 b11 dX8_fill_29 ?_
      refine J_iadd X (pc := 30) dX8_fill_30 ?_
      refine J_icmp_ge X (pc := 31) 75 dX8_fill_31 (by decide) (fun c12 => ?_) (fun c12 => ?_)
      · rw [if_pos c12] at h
        cases h
        exact J_sub [3] rfl k9
      · rw [if_neg c12] at h
        refine J_iload_n X (pc := 34) dX8_fill_34 3 rfl ?_
        refine J_aload_n X (pc := 35) dX8_fill_35 0 rfl ?_
        refine J_getf X (pc := 36) 0 mW_c0 rfl in_X8 7 (by decide) q_438 rfl dX8_fill_36 ?_
        refine J_iload X (pc := 39) dX8_fill_39 4 rfl ?_
        replace h := ck_e h
        obtain ⟨b13, h⟩ := h
        refine J_iald X (pc := 41) 6 mW_c6 b13 dX8_fill_41 ?_
        refine J_aload_n X (pc := 42) dX8_fill_42 0 rfl ?_
        refine J_getf X (pc := 43) 0 mW_c0 rfl in_X8 4 (by decide) q_435 rfl dX8_fill_43 ?_
        refine J_bipush X (pc := 46) (v := 12) dX8_fill_46 (by decide +kernel) ?_
        refine J_iload_n X (pc := 48) dX8_fill_48 1 rfl ?_
        refine J_imul X (pc := 49) dX8_fill_49 ?_
        refine J_iload_n X (pc := 50) dX8_fill_50 2 rfl ?_
        refine J_iadd X (pc := 51) dX8_fill_51 ?_
        replace h := ck_e h
        obtain ⟨b14, h⟩ := h
        refine J_iald X (pc := 52) 3 mW_c3 b14 dX8_fill_52 ?_
        replace h := bk h
        obtain ⟨r16, g18, h⟩ := h
        have j17 : J E x 0 0 (mW E ad S) 67 [(0, .ref (ad 0)), (1, .int a1), (2, .int a2), (4, .int x5)] [.int r16, .int x4] := by
          refine J_iadd X (pc := 67) dX8_fill_67 ?_
          replace h := nmv_e h
          obtain ⟨v20, ev20, h⟩ := h
          refine J_nmi ev20 ?_
          refine J_istore_n X (pc := 68) dX8_fill_68 (by decide) rfl ?_
          replace h := nmv_e h
          obtain ⟨v21, ev21, h⟩ := h
          refine J_iinc X (pc := 69) (v := v21) dX8_fill_69 4 rfl (by rw [ev21]; rfl) (by decide) rfl ?_
          refine J_goto X (pc := 72) 18 dX8_fill_72 (by decide) ?_
          exact J_sub [2, 3, 4, 1, 0] rfl (ih7 _ _ h)
        refine J_icmp_gt X (pc := 53) 66 dX8_fill_53 (by decide) (fun c15 => ?_) (fun c15 => ?_)
        · rw [if_pos c15] at g18
          refine J_iconst X (pc := 66) (v := 0) dX8_fill_66 (by decide +kernel) ?_
          cases g18
          exact J_sub [0, 1, 2, 4] rfl j17
        · rw [if_neg c15] at g18
          refine J_aload_n X (pc := 56) dX8_fill_56 0 rfl ?_
          refine J_getf X (pc := 57) 0 mW_c0 rfl in_X8 8 (by decide) q_439 rfl dX8_fill_57 ?_
          refine J_iload X (pc := 60) dX8_fill_60 4 rfl ?_
          replace g18 := ck_e g18
          obtain ⟨b19, g18⟩ := g18
          refine J_iald X (pc := 62) 7 mW_c7 b19 dX8_fill_62 ?_
          refine J_goto X (pc := 63) 67 dX8_fill_63 (by decide) ?_
          cases g18
          exact J_sub [0, 1, 2, 4] rfl j17
  exact J_sub [2, 3, 4, 1, 0] rfl (l22 3000 _ _ g10)
def f_X8_laysSlopes_86 (a1 : Int32) (a2 : Int32) (x2 : Int32) : Nat → Int32 → St → Option (St)
  | 0, _, _ => none
  | n31+1, x29, S30 => if x2 ≤ x29 then some S30 else (if x2 = a2 then some S30 else if x29 = a2 then some S30 else ck (inb x2 12) (ck (inb x29 12) (ck (inb (S30.1 2) 66) (nmv (sA S30 15 (S30.1 2).toNatClampNeg ((S30.2 14 x2.toNatClampNeg) - (S30.2 14 x29.toNatClampNeg))) (fun (S45 : St) => ck (inb ((((12 : Int32)) * a1) + x2) 96) (ck (inb ((((12 : Int32)) * a1) + x29) 96) (ck (inb (S45.1 2) 66) (nmv (sA S45 16 (S45.1 2).toNatClampNeg ((S45.2 2 ((((12 : Int32)) * a1) + x2).toNatClampNeg) - (S45.2 2 ((((12 : Int32)) * a1) + x29).toNatClampNeg))) (fun (S49 : St) => nmv (sF S49 2 ((S49.1 2) + ((1 : Int32)))) (fun (S50 : St) => some S50)))))))))).bind (fun (S38 : St) => nmv (x29 + (1 : Int32)) (fun (v51 : Int32) => f_X8_laysSlopes_86 a1 a2 x2 n31 v51 S38))
def f_X8_laysSlopes_7 (a1 : Int32) (a2 : Int32) : Nat → Int32 → St → Option (St)
  | 0, _, _ => none
  | n4+1, x2, S3 => ck (inb a1 8) (if (S3.2 1 a1.toNatClampNeg) ≤ x2 then some S3 else (f_X8_fill a1 x2 S3).bind (fun (r11 : Int32) => ck (inb x2 12) (nmv (sA S3 14 x2.toNatClampNeg r11) (fun (S14 : St) => (if x2 = a2 then some (S14.1 5) else ck (inb ((((12 : Int32)) * a1) + x2) 96) (some (S14.2 2 ((((12 : Int32)) * a1) + x2).toNatClampNeg))).bind (fun (r17 : Int32) => nmv (sF S14 5 r17) (fun (S21 : St) => (if x2 = a2 then some (S21.1 6) else ck (inb ((((12 : Int32)) * a1) + x2) 96) (some (S21.2 3 ((((12 : Int32)) * a1) + x2).toNatClampNeg))).bind (fun (r24 : Int32) => nmv (sF S21 6 r24) (fun (S28 : St) => (f_X8_laysSlopes_86 a1 a2 x2 3000 ((0 : Int32)) S28).bind (fun (S33 : St) => nmv (x2 + (1 : Int32)) (fun (v53 : Int32) => f_X8_laysSlopes_7 a1 a2 n4 v53 S33))))))))))
def f_X8_laysSlopes (a1 : Int32) (a2 : Int32) (S : St) : Option (Int32 × St) := nmv (sF S 2 ((0 : Int32))) (fun (S1 : St) => (f_X8_laysSlopes_7 a1 a2 3000 ((0 : Int32)) S1).bind (fun (S6 : St) => if (S6.1 2) ≤ 0 then some ((0 : Int32), S6) else some ((1 : Int32), S6)))
set_option maxRecDepth 100000 in
set_option maxHeartbeats 4000000 in
theorem c_X8_laysSlopes (E : Ev) (ad : Nat → Nat) {a1 : Int32} {a2 : Int32} {S : St} {r : Int32} {S2 : St} (h : f_X8_laysSlopes a1 a2 S = some (r, S2)) : CtI E yX8_laysSlopes cX8_laysSlopes 5 .boolean 1 24 (mW E ad S) [.ref (ad 0), .int a1, .int a2] r (mW E ad S2) := by
  refine CtI_of (by decide +kernel) (Nat.le_of_ble_eq_true rfl) (fun x X hE => ?_)
  show J E x 0 0 (mW E ad S) 0 [(0, .ref (ad 0)), (1, .int a1), (2, .int a2)] []
  unfold f_X8_laysSlopes at h
  refine J_aload_n X (pc := 0) dX8_laysSlopes_0 0 rfl ?_
  refine J_iconst X (pc := 1) (v := 0) dX8_laysSlopes_1 (by decide +kernel) ?_
  replace h := nmv_e h
  obtain ⟨S1, eS1, h⟩ := h
  refine J_putf X (pc := 2) (ty := .int) (w1 := (mW E ad S1)) 0 mW_c0 rfl in_X8 tyX8_ok nmX8 19 (by decide) q_485 rfl (by decide +kernel) rfl rfl (Nat.le_of_ble_eq_true rfl) dX8_laysSlopes_2 (mW_p2 eS1) ?_
  refine J_iconst X (pc := 5) (v := 0) dX8_laysSlopes_5 (by decide +kernel) ?_
  refine J_istore_n X (pc := 6) dX8_laysSlopes_6 (by decide) rfl ?_
  replace h := bk h
  obtain ⟨S6, g8, h⟩ := h
  have k7 : J E x 0 0 (mW E ad S6) 181 [(0, .ref (ad 0))] [] := by
    refine J_aload_n X (pc := 181) dX8_laysSlopes_181 0 rfl ?_
    refine J_getf X (pc := 182) 0 mW_c0 rfl in_X8 19 (by decide) q_485 rfl dX8_laysSlopes_182 ?_
    refine J_if_le X (pc := 185) 192 dX8_laysSlopes_185 (by decide) (fun c55 => ?_) (fun c55 => ?_)
    · rw [if_pos c55] at h
      refine J_iconst X (pc := 192) (v := 0) dX8_laysSlopes_192 (by decide +kernel) ?_
      cases h
      exact hE _ _ dX8_laysSlopes_193 (by decide +kernel)
    · rw [if_neg c55] at h
      refine J_iconst X (pc := 188) (v := 1) dX8_laysSlopes_188 (by decide +kernel) ?_
      refine J_goto X (pc := 189) 193 dX8_laysSlopes_189 (by decide) ?_
      cases h
      exact hE _ _ dX8_laysSlopes_193 (by decide +kernel)
  clear h
  have l54 : ∀ (n4 : Nat) (x2 : Int32) (S3 : St), f_X8_laysSlopes_7 a1 a2 n4 x2 S3 = some S6 → J E x 0 0 (mW E ad S3) 7 [(0, .ref (ad 0)), (1, .int a1), (2, .int a2), (3, .int x2)] [] := by
    intro n4
    induction n4 with
    | zero => intro x2 S3 h; rw [f_X8_laysSlopes_7] at h; cases h
    | succ n4 ih5 =>
      intro x2 S3 h
      rw [f_X8_laysSlopes_7] at h
      refine J_iload_n X (pc := 7) dX8_laysSlopes_7 3 rfl ?_
      refine J_aload_n X (pc := 8) dX8_laysSlopes_8 0 rfl ?_
      refine J_getf X (pc := 9) 0 mW_c0 rfl in_X8 3 (by decide) q_434 rfl dX8_laysSlopes_9 ?_
      refine J_iload_n X (pc := 12) dX8_laysSlopes_12 1 rfl ?_
      replace h := ck_e h
      obtain ⟨b9, h⟩ := h
      refine J_iald X (pc := 13) 2 mW_c2 b9 dX8_laysSlopes_13 ?_
      refine J_icmp_ge X (pc := 14) 181 dX8_laysSlopes_14 (by decide) (fun c10 => ?_) (fun c10 => ?_)
      · rw [if_pos c10] at h
        cases h
        exact J_sub [0] rfl k7
      · rw [if_neg c10] at h
        refine J_aload_n X (pc := 17) dX8_laysSlopes_17 0 rfl ?_
        refine J_getf X (pc := 18) 0 mW_c0 rfl in_X8 16 (by decide) q_448 rfl dX8_laysSlopes_18 ?_
        refine J_iload_n X (pc := 21) dX8_laysSlopes_21 3 rfl ?_
        refine J_aload_n X (pc := 22) dX8_laysSlopes_22 0 rfl ?_
        refine J_iload_n X (pc := 23) dX8_laysSlopes_23 1 rfl ?_
        refine J_iload_n X (pc := 24) dX8_laysSlopes_24 3 rfl ?_
        replace h := bk h
        obtain ⟨r11, g12, h⟩ := h
        refine J_callVI X (pc := 25) (y := yX8_fill) (na := 2) (As := [.int a1, .int x2]) (rest := [.int x2, .ref (ad 15)]) (c_X8_fill E ad g12) 0 mW_c0 rfl q_488 q_489 q_490 q_465 q_481 rfl (by decide +kernel) (by decide +kernel) rfl (Nat.le_of_ble_eq_true rfl) ⟨Nat.le_refl _, Nat.le_refl _⟩ dX8_laysSlopes_25 ?_
        replace h := ck_e h
        obtain ⟨b13, h⟩ := h
        replace h := nmv_e h
        obtain ⟨S14, eS14, h⟩ := h
        refine J_iast X (pc := 28) (w1 := (mW E ad S14)) 15 mW_c15 b13 dX8_laysSlopes_28 (mW_a14 eS14) ?_
        refine J_aload_n X (pc := 29) dX8_laysSlopes_29 0 rfl ?_
        refine J_iload_n X (pc := 30) dX8_laysSlopes_30 3 rfl ?_
        refine J_iload_n X (pc := 31) dX8_laysSlopes_31 2 rfl ?_
        replace h := bk h
        obtain ⟨r17, g19, h⟩ := h
        have j18 : J E x 0 0 (mW E ad S14) 53 [(0, .ref (ad 0)), (1, .int a1), (2, .int a2), (3, .int x2)] [.int r17, .ref (ad 0)] := by
          replace h := nmv_e h
          obtain ⟨S21, eS21, h⟩ := h
          refine J_putf X (pc := 53) (ty := .int) (w1 := (mW E ad S21)) 0 mW_c0 rfl in_X8 tyX8_ok nmX8 27 (by decide) q_486 rfl (by decide +kernel) rfl rfl (Nat.le_of_ble_eq_true rfl) dX8_laysSlopes_53 (mW_p5 eS21) ?_
          refine J_aload_n X (pc := 56) dX8_laysSlopes_56 0 rfl ?_
          refine J_iload_n X (pc := 57) dX8_laysSlopes_57 3 rfl ?_
          refine J_iload_n X (pc := 58) dX8_laysSlopes_58 2 rfl ?_
          replace h := bk h
          obtain ⟨r24, g26, h⟩ := h
          have j25 : J E x 0 0 (mW E ad S21) 80 [(0, .ref (ad 0)), (1, .int a1), (2, .int a2), (3, .int x2)] [.int r24, .ref (ad 0)] := by
            replace h := nmv_e h
            obtain ⟨S28, eS28, h⟩ := h
            refine J_putf X (pc := 80) (ty := .int) (w1 := (mW E ad S28)) 0 mW_c0 rfl in_X8 tyX8_ok nmX8 28 (by decide) q_487 rfl (by decide +kernel) rfl rfl (Nat.le_of_ble_eq_true rfl) dX8_laysSlopes_80 (mW_p6 eS28) ?_
            refine J_iconst X (pc := 83) (v := 0) dX8_laysSlopes_83 (by decide +kernel) ?_
            refine J_istore X (pc := 84) dX8_laysSlopes_84 (by decide) rfl ?_
            replace h := bk h
            obtain ⟨S33, g35, h⟩ := h
            have k34 : J E x 0 0 (mW E ad S33) 175 [(0, .ref (ad 0)), (1, .int a1), (2, .int a2), (3, .int x2)] [] := by
              replace h := nmv_e h
              obtain ⟨v53, ev53, h⟩ := h
              refine J_iinc X (pc := 175) (v := v53) dX8_laysSlopes_175 3 rfl (by rw [ev53]; rfl) (by decide) rfl ?_
              refine J_goto X (pc := 178) 7 dX8_laysSlopes_178 (by decide) ?_
              exact J_sub [1, 2, 3, 0] rfl (ih5 _ _ h)
            clear h
            have l52 : ∀ (n31 : Nat) (x29 : Int32) (S30 : St), f_X8_laysSlopes_86 a1 a2 x2 n31 x29 S30 = some S33 → J E x 0 0 (mW E ad S30) 86 [(0, .ref (ad 0)), (1, .int a1), (2, .int a2), (3, .int x2), (4, .int x29)] [] := by
              intro n31
              induction n31 with
              | zero => intro x29 S30 h; rw [f_X8_laysSlopes_86] at h; cases h
              | succ n31 ih32 =>
                intro x29 S30 h
                rw [f_X8_laysSlopes_86] at h
                refine J_iload X (pc := 86) dX8_laysSlopes_86 4 rfl ?_
                refine J_iload_n X (pc := 88) dX8_laysSlopes_88 3 rfl ?_
                refine J_icmp_ge X (pc := 89) 175 dX8_laysSlopes_89 (by decide) (fun c36 => ?_) (fun c36 => ?_)
                · rw [if_pos c36] at h
                  cases h
                  exact J_sub [0, 1, 2, 3] rfl k34
                · rw [if_neg c36] at h
                  refine J_iload_n X (pc := 92) dX8_laysSlopes_92 3 rfl ?_
                  refine J_iload_n X (pc := 93) dX8_laysSlopes_93 2 rfl ?_
                  replace h := bk h
                  obtain ⟨S38, g40, h⟩ := h
                  have j39 : J E x 0 0 (mW E ad S38) 169 [(0, .ref (ad 0)), (1, .int a1), (2, .int a2), (3, .int x2), (4, .int x29)] [] := by
                    replace h := nmv_e h
                    obtain ⟨v51, ev51, h⟩ := h
                    refine J_iinc X (pc := 169) (v := v51) dX8_laysSlopes_169 4 rfl (by rw [ev51]; rfl) (by decide) rfl ?_
                    refine J_goto X (pc := 172) 86 dX8_laysSlopes_172 (by decide) ?_
                    exact J_sub [1, 2, 3, 4, 0] rfl (ih32 _ _ h)
                  refine J_icmp_eq X (pc := 94) 169 dX8_laysSlopes_94 (by decide) (fun c37 => ?_) (fun c37 => ?_)
                  · rw [if_pos c37] at g40
                    cases g40
                    exact J_sub [0, 1, 2, 3, 4] rfl j39
                  · rw [if_neg c37] at g40
                    refine J_iload X (pc := 97) dX8_laysSlopes_97 4 rfl ?_
                    refine J_iload_n X (pc := 99) dX8_laysSlopes_99 2 rfl ?_
                    refine J_icmp_eq X (pc := 100) 169 dX8_laysSlopes_100 (by decide) (fun c41 => ?_) (fun c41 => ?_)
                    · rw [if_pos c41] at g40
                      cases g40
                      exact J_sub [0, 1, 2, 3, 4] rfl j39
                    · rw [if_neg c41] at g40
                      refine J_aload_n X (pc := 103) dX8_laysSlopes_103 0 rfl ?_
                      refine J_getf X (pc := 104) 0 mW_c0 rfl in_X8 17 (by decide) q_449 rfl dX8_laysSlopes_104 ?_
                      refine J_aload_n X (pc := 107) dX8_laysSlopes_107 0 rfl ?_
                      refine J_getf X (pc := 108) 0 mW_c0 rfl in_X8 19 (by decide) q_485 rfl dX8_laysSlopes_108 ?_
                      refine J_aload_n X (pc := 111) dX8_laysSlopes_111 0 rfl ?_
                      refine J_getf X (pc := 112) 0 mW_c0 rfl in_X8 16 (by decide) q_448 rfl dX8_laysSlopes_112 ?_
                      refine J_iload_n X (pc := 115) dX8_laysSlopes_115 3 rfl ?_
                      replace g40 := ck_e g40
                      obtain ⟨b42, g40⟩ := g40
                      refine J_iald X (pc := 116) 15 mW_c15 b42 dX8_laysSlopes_116 ?_
                      refine J_aload_n X (pc := 117) dX8_laysSlopes_117 0 rfl ?_
                      refine J_getf X (pc := 118) 0 mW_c0 rfl in_X8 16 (by decide) q_448 rfl dX8_laysSlopes_118 ?_
                      refine J_iload X (pc := 121) dX8_laysSlopes_121 4 rfl ?_
                      replace g40 := ck_e g40
                      obtain ⟨b43, g40⟩ := g40
                      refine J_iald X (pc := 123) 15 mW_c15 b43 dX8_laysSlopes_123 ?_
                      refine J_isub X (pc := 124) dX8_laysSlopes_124 ?_
                      replace g40 := ck_e g40
                      obtain ⟨b44, g40⟩ := g40
                      replace g40 := nmv_e g40
                      obtain ⟨S45, eS45, g40⟩ := g40
                      refine J_iast X (pc := 125) (w1 := (mW E ad S45)) 16 mW_c16 b44 dX8_laysSlopes_125 (mW_a15 eS45) ?_
                      refine J_aload_n X (pc := 126) dX8_laysSlopes_126 0 rfl ?_
                      refine J_getf X (pc := 127) 0 mW_c0 rfl in_X8 18 (by decide) q_450 rfl dX8_laysSlopes_127 ?_
                      refine J_aload_n X (pc := 130) dX8_laysSlopes_130 0 rfl ?_
                      refine J_getf X (pc := 131) 0 mW_c0 rfl in_X8 19 (by decide) q_485 rfl dX8_laysSlopes_131 ?_
                      refine J_aload_n X (pc := 134) dX8_laysSlopes_134 0 rfl ?_
                      refine J_getf X (pc := 135) 0 mW_c0 rfl in_X8 4 (by decide) q_435 rfl dX8_laysSlopes_135 ?_
                      refine J_bipush X (pc := 138) (v := 12) dX8_laysSlopes_138 (by decide +kernel) ?_
                      refine J_iload_n X (pc := 140) dX8_laysSlopes_140 1 rfl ?_
                      refine J_imul X (pc := 141) dX8_laysSlopes_141 ?_
                      refine J_iload_n X (pc := 142) dX8_laysSlopes_142 3 rfl ?_
                      refine J_iadd X (pc := 143) dX8_laysSlopes_143 ?_
                      replace g40 := ck_e g40
                      obtain ⟨b46, g40⟩ := g40
                      refine J_iald X (pc := 144) 3 mW_c3 b46 dX8_laysSlopes_144 ?_
                      refine J_aload_n X (pc := 145) dX8_laysSlopes_145 0 rfl ?_
                      refine J_getf X (pc := 146) 0 mW_c0 rfl in_X8 4 (by decide) q_435 rfl dX8_laysSlopes_146 ?_
                      refine J_bipush X (pc := 149) (v := 12) dX8_laysSlopes_149 (by decide +kernel) ?_
                      refine J_iload_n X (pc := 151) dX8_laysSlopes_151 1 rfl ?_
                      refine J_imul X (pc := 152) dX8_laysSlopes_152 ?_
                      refine J_iload X (pc := 153) dX8_laysSlopes_153 4 rfl ?_
                      refine J_iadd X (pc := 155) dX8_laysSlopes_155 ?_
                      replace g40 := ck_e g40
                      obtain ⟨b47, g40⟩ := g40
                      refine J_iald X (pc := 156) 3 mW_c3 b47 dX8_laysSlopes_156 ?_
                      refine J_isub X (pc := 157) dX8_laysSlopes_157 ?_
                      replace g40 := ck_e g40
                      obtain ⟨b48, g40⟩ := g40
                      replace g40 := nmv_e g40
                      obtain ⟨S49, eS49, g40⟩ := g40
                      refine J_iast X (pc := 158) (w1 := (mW E ad S49)) 17 mW_c17 b48 dX8_laysSlopes_158 (mW_a16 eS49) ?_
                      refine J_aload_n X (pc := 159) dX8_laysSlopes_159 0 rfl ?_
                      refine J_dup X (pc := 160) dX8_laysSlopes_160 rfl ?_
                      refine J_getf X (pc := 161) 0 mW_c0 rfl in_X8 19 (by decide) q_485 rfl dX8_laysSlopes_161 ?_
                      refine J_iconst X (pc := 164) (v := 1) dX8_laysSlopes_164 (by decide +kernel) ?_
                      refine J_iadd X (pc := 165) dX8_laysSlopes_165 ?_
                      replace g40 := nmv_e g40
                      obtain ⟨S50, eS50, g40⟩ := g40
                      refine J_putf X (pc := 166) (ty := .int) (w1 := (mW E ad S50)) 0 mW_c0 rfl in_X8 tyX8_ok nmX8 19 (by decide) q_485 rfl (by decide +kernel) rfl rfl (Nat.le_of_ble_eq_true rfl) dX8_laysSlopes_166 (mW_p2 eS50) ?_
                      cases g40
                      exact J_sub [0, 1, 2, 3, 4] rfl j39
            exact J_sub [1, 2, 3, 4, 0] rfl (l52 3000 _ _ g35)
          refine J_icmp_ne X (pc := 59) 69 dX8_laysSlopes_59 (by decide) (fun c22 => ?_) (fun c22 => ?_)
          · rw [if_neg c22] at g26
            refine J_aload_n X (pc := 69) dX8_laysSlopes_69 0 rfl ?_
            refine J_getf X (pc := 70) 0 mW_c0 rfl in_X8 5 (by decide) q_436 rfl dX8_laysSlopes_70 ?_
            refine J_bipush X (pc := 73) (v := 12) dX8_laysSlopes_73 (by decide +kernel) ?_
            refine J_iload_n X (pc := 75) dX8_laysSlopes_75 1 rfl ?_
            refine J_imul X (pc := 76) dX8_laysSlopes_76 ?_
            refine J_iload_n X (pc := 77) dX8_laysSlopes_77 3 rfl ?_
            refine J_iadd X (pc := 78) dX8_laysSlopes_78 ?_
            replace g26 := ck_e g26
            obtain ⟨b27, g26⟩ := g26
            refine J_iald X (pc := 79) 4 mW_c4 b27 dX8_laysSlopes_79 ?_
            cases g26
            exact J_sub [0, 1, 2, 3] rfl j25
          · rw [if_pos c22] at g26
            refine J_aload_n X (pc := 62) dX8_laysSlopes_62 0 rfl ?_
            refine J_getf X (pc := 63) 0 mW_c0 rfl in_X8 28 (by decide) q_487 rfl dX8_laysSlopes_63 ?_
            refine J_goto X (pc := 66) 80 dX8_laysSlopes_66 (by decide) ?_
            cases g26
            exact J_sub [0, 1, 2, 3] rfl j25
        refine J_icmp_ne X (pc := 32) 42 dX8_laysSlopes_32 (by decide) (fun c15 => ?_) (fun c15 => ?_)
        · rw [if_neg c15] at g19
          refine J_aload_n X (pc := 42) dX8_laysSlopes_42 0 rfl ?_
          refine J_getf X (pc := 43) 0 mW_c0 rfl in_X8 4 (by decide) q_435 rfl dX8_laysSlopes_43 ?_
          refine J_bipush X (pc := 46) (v := 12) dX8_laysSlopes_46 (by decide +kernel) ?_
          refine J_iload_n X (pc := 48) dX8_laysSlopes_48 1 rfl ?_
          refine J_imul X (pc := 49) dX8_laysSlopes_49 ?_
          refine J_iload_n X (pc := 50) dX8_laysSlopes_50 3 rfl ?_
          refine J_iadd X (pc := 51) dX8_laysSlopes_51 ?_
          replace g19 := ck_e g19
          obtain ⟨b20, g19⟩ := g19
          refine J_iald X (pc := 52) 3 mW_c3 b20 dX8_laysSlopes_52 ?_
          cases g19
          exact J_sub [0, 1, 2, 3] rfl j18
        · rw [if_pos c15] at g19
          refine J_aload_n X (pc := 35) dX8_laysSlopes_35 0 rfl ?_
          refine J_getf X (pc := 36) 0 mW_c0 rfl in_X8 27 (by decide) q_486 rfl dX8_laysSlopes_36 ?_
          refine J_goto X (pc := 39) 53 dX8_laysSlopes_39 (by decide) ?_
          cases g19
          exact J_sub [0, 1, 2, 3] rfl j18
  exact J_sub [1, 2, 3, 0] rfl (l54 3000 _ _ g8)
def f_X8_middle (a1 : Int32) : Option (Int32) := if (a1 - a1 / ((2 : Int32)) * ((2 : Int32))) = ((1 : Int32)) then some (a1 / ((2 : Int32))) else some ((a1 / ((2 : Int32))) - ((1 : Int32)))
set_option maxRecDepth 100000 in
set_option maxHeartbeats 4000000 in
theorem c_X8_middle (E : Ev) (w : va_W) {a1 : Int32} {r : Int32} (h : f_X8_middle a1 = some r) : CtI E yX8_middle cX8_middle 1 .int 0 0 w [.int a1] r w := by
  refine CtI_of (by decide +kernel) (Nat.le_of_ble_eq_true rfl) (fun x X hE => ?_)
  show J E x 0 0 w 0 [(0, .int a1)] []
  unfold f_X8_middle at h
  refine J_iload_n X (pc := 0) dX8_middle_0 0 rfl ?_
  refine J_iconst X (pc := 1) (v := 2) dX8_middle_1 (by decide +kernel) ?_
  refine J_irem X (pc := 2) dX8_middle_2 (by decide +kernel) ?_
  refine J_iconst X (pc := 3) (v := 1) dX8_middle_3 (by decide +kernel) ?_
  refine J_icmp_ne X (pc := 4) 13 dX8_middle_4 (by decide) (fun c1 => ?_) (fun c1 => ?_)
  · rw [if_neg c1] at h
    refine J_iload_n X (pc := 13) dX8_middle_13 0 rfl ?_
    refine J_iconst X (pc := 14) (v := 2) dX8_middle_14 (by decide +kernel) ?_
    refine J_idiv X (pc := 15) dX8_middle_15 (by decide +kernel) ?_
    refine J_iconst X (pc := 16) (v := 1) dX8_middle_16 (by decide +kernel) ?_
    refine J_isub X (pc := 17) dX8_middle_17 ?_
    cases h
    exact hE _ _ dX8_middle_18 rfl
  · rw [if_pos c1] at h
    refine J_iload_n X (pc := 7) dX8_middle_7 0 rfl ?_
    refine J_iconst X (pc := 8) (v := 2) dX8_middle_8 (by decide +kernel) ?_
    refine J_idiv X (pc := 9) dX8_middle_9 (by decide +kernel) ?_
    refine J_goto X (pc := 10) 18 dX8_middle_10 (by decide) ?_
    cases h
    exact hE _ _ dX8_middle_18 rfl
def f_X8_findsSlope_30 (x5 : Int32) (S6 : St) : Nat → Int32 → Int32 → Int32 → Option (Int32 × Int32)
  | 0, _, _, _ => none
  | n16+1, x13, x14, x15 => if (S6.1 2) ≤ x15 then some (x13, x14) else (f_X8_compare x15 x5 S6).bind (fun (r23 : Int32) => (if 0 ≤ r23 then some ((0 : Int32)) else some ((1 : Int32))).bind (fun (r26 : Int32) => nmv (x13 + r26) (fun (v29 : Int32) => (f_X8_compare x15 x5 S6).bind (fun (r30 : Int32) => (if r30 = 0 then some ((1 : Int32)) else some ((0 : Int32))).bind (fun (r33 : Int32) => nmv (x14 + r33) (fun (v36 : Int32) => nmv (x15 + (1 : Int32)) (fun (v37 : Int32) => f_X8_findsSlope_30 x5 S6 n16 v29 v36 v37)))))))
def f_X8_findsSlope_13 : Nat → Int32 → St → Option (St)
  | 0, _, _ => none
  | n7+1, x5, S6 => if (S6.1 2) ≤ x5 then some S6 else (f_X8_findsSlope_30 x5 S6 3000 ((0 : Int32)) ((0 : Int32)) ((0 : Int32))).bind (fun ((r18, r19) : Int32 × Int32) => (f_X8_middle (S6.1 2)).bind (fun (r39 : Int32) => (if r39 < r18 then some S6 else (f_X8_middle (S6.1 2)).bind (fun (r45 : Int32) => if (r18 + r19) ≤ r45 then some S6 else ck (inb x5 66) (ck (inb x5 66) ((f_X8_divisor (S6.2 15 x5.toNatClampNeg) (S6.2 16 x5.toNatClampNeg)).bind (fun (r50 : Int32) => ck (inb x5 66) (ck (¬ r50 = 0) (nmv (sF S6 3 ((S6.2 15 x5.toNatClampNeg) / r50)) (fun (S54 : St) => ck (inb x5 66) (ck (¬ r50 = 0) (nmv (sF S54 4 ((S54.2 16 x5.toNatClampNeg) / r50)) (fun (S57 : St) => some S57))))))))))).bind (fun (S42 : St) => nmv (x5 + (1 : Int32)) (fun (v58 : Int32) => f_X8_findsSlope_13 n7 v58 S42))))
def f_X8_findsSlope (a1 : Int32) (a2 : Int32) (S : St) : Option (Int32 × St) := (f_X8_laysSlopes a1 a2 S).bind (fun ((r1, S2) : Int32 × St) => if r1 = 0 then some ((0 : Int32), S2) else (f_X8_findsSlope_13 3000 ((0 : Int32)) S2).bind (fun (S9 : St) => some ((1 : Int32), S9)))
set_option maxRecDepth 100000 in
set_option maxHeartbeats 4000000 in
theorem c_X8_findsSlope (E : Ev) (ad : Nat → Nat) {a1 : Int32} {a2 : Int32} {S : St} {r : Int32} {S2 : St} (h : f_X8_findsSlope a1 a2 S = some (r, S2)) : CtI E yX8_findsSlope cX8_findsSlope 7 .boolean 2 48 (mW E ad S) [.ref (ad 0), .int a1, .int a2] r (mW E ad S2) := by
  refine CtI_of (by decide +kernel) (Nat.le_of_ble_eq_true rfl) (fun x X hE => ?_)
  show J E x 0 0 (mW E ad S) 0 [(0, .ref (ad 0)), (1, .int a1), (2, .int a2)] []
  unfold f_X8_findsSlope at h
  refine J_aload_n X (pc := 0) dX8_findsSlope_0 0 rfl ?_
  refine J_iload_n X (pc := 1) dX8_findsSlope_1 1 rfl ?_
  refine J_iload_n X (pc := 2) dX8_findsSlope_2 2 rfl ?_
  replace h := bk h
  obtain ⟨⟨r1, S2⟩, g3, h⟩ := h
  dsimp only at h
  refine J_callVI X (pc := 3) (y := yX8_laysSlopes) (na := 2) (As := [.int a1, .int a2]) (rest := []) (c_X8_laysSlopes E ad g3) 0 mW_c0 rfl q_493 q_494 q_495 q_465 q_484 rfl (by decide +kernel) (by decide +kernel) rfl (Nat.le_of_ble_eq_true rfl) ⟨Nat.le_refl _, Nat.le_refl _⟩ dX8_findsSlope_3 ?_
  refine J_if_ne X (pc := 6) 11 dX8_findsSlope_6 (by decide) (fun c4 => ?_) (fun c4 => ?_)
  · rw [if_neg c4] at h
    refine J_iconst X (pc := 11) (v := 0) dX8_findsSlope_11 (by decide +kernel) ?_
    refine J_istore_n X (pc := 12) dX8_findsSlope_12 (by decide) rfl ?_
    replace h := bk h
    obtain ⟨S9, g11, h⟩ := h
    have k10 : J E x 0 0 (mW E ad S9) 161 [] [] := by
      refine J_iconst X (pc := 161) (v := 1) dX8_findsSlope_161 (by decide +kernel) ?_
      cases h
      exact hE _ _ dX8_findsSlope_162 (by decide +kernel)
    clear h
    have l59 : ∀ (n7 : Nat) (x5 : Int32) (S6 : St), f_X8_findsSlope_13 n7 x5 S6 = some S9 → J E x 0 0 (mW E ad S6) 13 [(0, .ref (ad 0)), (3, .int x5)] [] := by
      intro n7
      induction n7 with
      | zero => intro x5 S6 h; rw [f_X8_findsSlope_13] at h; cases h
      | succ n7 ih8 =>
        intro x5 S6 h
        rw [f_X8_findsSlope_13] at h
        refine J_iload_n X (pc := 13) dX8_findsSlope_13 1 rfl ?_
        refine J_aload_n X (pc := 14) dX8_findsSlope_14 0 rfl ?_
        refine J_getf X (pc := 15) 0 mW_c0 rfl in_X8 19 (by decide) q_485 rfl dX8_findsSlope_15 ?_
        refine J_icmp_ge X (pc := 18) 161 dX8_findsSlope_18 (by decide) (fun c12 => ?_) (fun c12 => ?_)
        · rw [if_pos c12] at h
          cases h
          exact J_sub [] rfl k10
        · rw [if_neg c12] at h
          refine J_iconst X (pc := 21) (v := 0) dX8_findsSlope_21 (by decide +kernel) ?_
          refine J_istore X (pc := 22) dX8_findsSlope_22 (by decide) rfl ?_
          refine J_iconst X (pc := 24) (v := 0) dX8_findsSlope_24 (by decide +kernel) ?_
          refine J_istore X (pc := 25) dX8_findsSlope_25 (by decide) rfl ?_
          refine J_iconst X (pc := 27) (v := 0) dX8_findsSlope_27 (by decide +kernel) ?_
          refine J_istore X (pc := 28) dX8_findsSlope_28 (by decide) rfl ?_
          replace h := bk h
          obtain ⟨⟨r18, r19⟩, g21, h⟩ := h
          dsimp only at h
          have k20 : J E x 0 0 (mW E ad S6) 85 [(0, .ref (ad 0)), (3, .int x5), (4, .int r18), (5, .int r19)] [] := by
            refine J_aload_n X (pc := 85) dX8_findsSlope_85 0 rfl ?_
            refine J_getf X (pc := 86) 0 mW_c0 rfl in_X8 19 (by decide) q_485 rfl dX8_findsSlope_86 ?_
            replace h := bk h
            obtain ⟨r39, g40, h⟩ := h
            refine J_callSI X (pc := 89) (y := yX8_middle) (na := 1) (As := [.int (S6.1 2)]) (rest := []) (c_X8_middle E (mW E ad S6) g40) q_499 q_500 q_465 q_480 rfl (by decide +kernel) (by decide +kernel) rfl (Nat.le_of_ble_eq_true rfl) ⟨Nat.le_refl _, Nat.le_refl _⟩ dX8_findsSlope_89 ?_
            refine J_iload X (pc := 92) dX8_findsSlope_92 2 rfl ?_
            replace h := bk h
            obtain ⟨S42, g44, h⟩ := h
            have j43 : J E x 0 0 (mW E ad S42) 155 [(0, .ref (ad 0)), (3, .int x5)] [] := by
              replace h := nmv_e h
              obtain ⟨v58, ev58, h⟩ := h
              refine J_iinc X (pc := 155) (v := v58) dX8_findsSlope_155 1 rfl (by rw [ev58]; rfl) (by decide) rfl ?_
              refine J_goto X (pc := 158) 13 dX8_findsSlope_158 (by decide) ?_
              exact J_sub [1, 0] rfl (ih8 _ _ h)
            refine J_icmp_lt X (pc := 94) 155 dX8_findsSlope_94 (by decide) (fun c41 => ?_) (fun c41 => ?_)
            · rw [if_pos c41] at g44
              cases g44
              exact J_sub [0, 1] rfl j43
            · rw [if_neg c41] at g44
              refine J_aload_n X (pc := 97) dX8_findsSlope_97 0 rfl ?_
              refine J_getf X (pc := 98) 0 mW_c0 rfl in_X8 19 (by decide) q_485 rfl dX8_findsSlope_98 ?_
              replace g44 := bk g44
              obtain ⟨r45, g46, g44⟩ := g44
              refine J_callSI X (pc := 101) (y := yX8_middle) (na := 1) (As := [.int (S6.1 2)]) (rest := []) (c_X8_middle E (mW E ad S6) g46) q_499 q_500 q_465 q_480 rfl (by decide +kernel) (by decide +kernel) rfl (Nat.le_of_ble_eq_true rfl) ⟨Nat.le_refl _, Nat.le_refl _⟩ dX8_findsSlope_101 ?_
              refine J_iload X (pc := 104) dX8_findsSlope_104 2 rfl ?_
              refine J_iload X (pc := 106) dX8_findsSlope_106 3 rfl ?_
              refine J_iadd X (pc := 108) dX8_findsSlope_108 ?_
              refine J_icmp_ge X (pc := 109) 155 dX8_findsSlope_109 (by decide) (fun c47 => ?_) (fun c47 => ?_)
              · rw [if_pos c47] at g44
                cases g44
                exact J_sub [0, 1] rfl j43
              · rw [if_neg c47] at g44
                refine J_aload_n X (pc := 112) dX8_findsSlope_112 0 rfl ?_
                refine J_getf X (pc := 113) 0 mW_c0 rfl in_X8 17 (by decide) q_449 rfl dX8_findsSlope_113 ?_
                refine J_iload_n X (pc := 116) dX8_findsSlope_116 1 rfl ?_
                replace g44 := ck_e g44
                obtain ⟨b48, g44⟩ := g44
                refine J_iald X (pc := 117) 16 mW_c16 b48 dX8_findsSlope_117 ?_
                refine J_aload_n X (pc := 118) dX8_findsSlope_118 0 rfl ?_
                refine J_getf X (pc := 119) 0 mW_c0 rfl in_X8 18 (by decide) q_450 rfl dX8_findsSlope_119 ?_
                refine J_iload_n X (pc := 122) dX8_findsSlope_122 1 rfl ?_
                replace g44 := ck_e g44
                obtain ⟨b49, g44⟩ := g44
                refine J_iald X (pc := 123) 17 mW_c17 b49 dX8_findsSlope_123 ?_
                replace g44 := bk g44
                obtain ⟨r50, g51, g44⟩ := g44
                refine J_callSI X (pc := 124) (y := yX8_divisor) (na := 2) (As := [.int (S6.2 15 x5.toNatClampNeg), .int (S6.2 16 x5.toNatClampNeg)]) (rest := []) (c_X8_divisor E (mW E ad S6) g51) q_501 q_502 q_465 q_483 rfl (by decide +kernel) (by decide +kernel) rfl (Nat.le_of_ble_eq_true rfl) ⟨Nat.le_refl _, Nat.le_refl _⟩ dX8_findsSlope_124 ?_
                refine J_istore X (pc := 127) dX8_findsSlope_127 (by decide) rfl ?_
                refine J_aload_n X (pc := 129) dX8_findsSlope_129 1 rfl ?_
                refine J_aload_n X (pc := 130) dX8_findsSlope_130 1 rfl ?_
                refine J_getf X (pc := 131) 0 mW_c0 rfl in_X8 17 (by decide) q_449 rfl dX8_findsSlope_131 ?_
                refine J_iload_n X (pc := 134) dX8_findsSlope_134 2 rfl ?_
                replace g44 := ck_e g44
                obtain ⟨b52, g44⟩ := g44
                refine J_iald X (pc := 135) 16 mW_c16 b52 dX8_findsSlope_135 ?_
                refine J_iload X (pc := 136) dX8_findsSlope_136 0 rfl ?_
                replace g44 := ck_e g44
                obtain ⟨b53, g44⟩ := g44
                refine J_idiv X (pc := 138) dX8_findsSlope_138 b53 ?_
                replace g44 := nmv_e g44
                obtain ⟨S54, eS54, g44⟩ := g44
                refine J_putf X (pc := 139) (ty := .int) (w1 := (mW E ad S54)) 0 mW_c0 rfl in_X8 tyX8_ok nmX8 25 (by decide) q_491 rfl (by decide +kernel) rfl rfl (Nat.le_of_ble_eq_true rfl) dX8_findsSlope_139 (mW_p3 eS54) ?_
                refine J_aload_n X (pc := 142) dX8_findsSlope_142 1 rfl ?_
                refine J_aload_n X (pc := 143) dX8_findsSlope_143 1 rfl ?_
                refine J_getf X (pc := 144) 0 mW_c0 rfl in_X8 18 (by decide) q_450 rfl dX8_findsSlope_144 ?_
                refine J_iload_n X (pc := 147) dX8_findsSlope_147 2 rfl ?_
                replace g44 := ck_e g44
                obtain ⟨b55, g44⟩ := g44
                refine J_iald X (pc := 148) 17 mW_c17 b55 dX8_findsSlope_148 ?_
                refine J_iload X (pc := 149) dX8_findsSlope_149 0 rfl ?_
                replace g44 := ck_e g44
                obtain ⟨b56, g44⟩ := g44
                refine J_idiv X (pc := 151) dX8_findsSlope_151 b56 ?_
                replace g44 := nmv_e g44
                obtain ⟨S57, eS57, g44⟩ := g44
                refine J_putf X (pc := 152) (ty := .int) (w1 := (mW E ad S57)) 0 mW_c0 rfl in_X8 tyX8_ok nmX8 26 (by decide) q_492 rfl (by decide +kernel) rfl rfl (Nat.le_of_ble_eq_true rfl) dX8_findsSlope_152 (mW_p4 eS57) ?_
                cases g44
                exact J_sub [1, 2] rfl j43
          clear h
          have l38 : ∀ (n16 : Nat) (x13 : Int32) (x14 : Int32) (x15 : Int32), f_X8_findsSlope_30 x5 S6 n16 x13 x14 x15 = some (r18, r19) → J E x 0 0 (mW E ad S6) 30 [(0, .ref (ad 0)), (3, .int x5), (4, .int x13), (5, .int x14), (6, .int x15)] [] := by
            intro n16
            induction n16 with
            | zero => intro x13 x14 x15 h; rw [f_X8_findsSlope_30] at h; cases h
            | succ n16 ih17 =>
              intro x13 x14 x15 h
              rw [f_X8_findsSlope_30] at h
              refine J_iload X (pc := 30) dX8_findsSlope_30 4 rfl ?_
              refine J_aload_n X (pc := 32) dX8_findsSlope_32 0 rfl ?_
              refine J_getf X (pc := 33) 0 mW_c0 rfl in_X8 19 (by decide) q_485 rfl dX8_findsSlope_33 ?_
              refine J_icmp_ge X (pc := 36) 85 dX8_findsSlope_36 (by decide) (fun c22 => ?_) (fun c22 => ?_)
              · rw [if_pos c22] at h
                cases h
                exact J_sub [0, 1, 2, 3] rfl k20
              · rw [if_neg c22] at h
                refine J_iload X (pc := 39) dX8_findsSlope_39 2 rfl ?_
                refine J_aload_n X (pc := 41) dX8_findsSlope_41 0 rfl ?_
                refine J_iload X (pc := 42) dX8_findsSlope_42 4 rfl ?_
                refine J_iload_n X (pc := 44) dX8_findsSlope_44 1 rfl ?_
                replace h := bk h
                obtain ⟨r23, g24, h⟩ := h
                refine J_callVI X (pc := 45) (y := yX8_compare) (na := 2) (As := [.int x15, .int x5]) (rest := [.int x13]) (c_X8_compare E ad g24) 0 mW_c0 rfl q_496 q_497 q_498 q_465 q_482 rfl (by decide +kernel) (by decide +kernel) rfl (Nat.le_of_ble_eq_true rfl) ⟨Nat.le_refl _, Nat.le_refl _⟩ dX8_findsSlope_45 ?_
                replace h := bk h
                obtain ⟨r26, g28, h⟩ := h
                have j27 : J E x 0 0 (mW E ad S6) 56 [(0, .ref (ad 0)), (3, .int x5), (5, .int x14), (6, .int x15)] [.int r26, .int x13] := by
                  refine J_iadd X (pc := 56) dX8_findsSlope_56 ?_
                  replace h := nmv_e h
                  obtain ⟨v29, ev29, h⟩ := h
                  refine J_nmi ev29 ?_
                  refine J_istore X (pc := 57) dX8_findsSlope_57 (by decide) rfl ?_
                  refine J_iload X (pc := 59) dX8_findsSlope_59 3 rfl ?_
                  refine J_aload_n X (pc := 61) dX8_findsSlope_61 1 rfl ?_
                  refine J_iload X (pc := 62) dX8_findsSlope_62 4 rfl ?_
                  refine J_iload_n X (pc := 64) dX8_findsSlope_64 2 rfl ?_
                  replace h := bk h
                  obtain ⟨r30, g31, h⟩ := h
                  refine J_callVI X (pc := 65) (y := yX8_compare) (na := 2) (As := [.int x15, .int x5]) (rest := [.int x14]) (c_X8_compare E ad g31) 0 mW_c0 rfl q_496 q_497 q_498 q_465 q_482 rfl (by decide +kernel) (by decide +kernel) rfl (Nat.le_of_ble_eq_true rfl) ⟨Nat.le_refl _, Nat.le_refl _⟩ dX8_findsSlope_65 ?_
                  replace h := bk h
                  obtain ⟨r33, g35, h⟩ := h
                  have j34 : J E x 0 0 (mW E ad S6) 76 [(0, .ref (ad 0)), (3, .int x5), (4, .int v29), (6, .int x15)] [.int r33, .int x14] := by
                    refine J_iadd X (pc := 76) dX8_findsSlope_76 ?_
                    replace h := nmv_e h
                    obtain ⟨v36, ev36, h⟩ := h
                    refine J_nmi ev36 ?_
                    refine J_istore X (pc := 77) dX8_findsSlope_77 (by decide) rfl ?_
                    replace h := nmv_e h
                    obtain ⟨v37, ev37, h⟩ := h
                    refine J_iinc X (pc := 79) (v := v37) dX8_findsSlope_79 4 rfl (by rw [ev37]; rfl) (by decide) rfl ?_
                    refine J_goto X (pc := 82) 30 dX8_findsSlope_82 (by decide) ?_
                    exact J_sub [2, 3, 4, 1, 0] rfl (ih17 _ _ _ h)
                  refine J_if_ne X (pc := 68) 75 dX8_findsSlope_68 (by decide) (fun c32 => ?_) (fun c32 => ?_)
                  · rw [if_neg c32] at g35
                    refine J_iconst X (pc := 75) (v := 0) dX8_findsSlope_75 (by decide +kernel) ?_
                    cases g35
                    exact J_sub [1, 2, 0, 4] rfl j34
                  · rw [if_pos c32] at g35
                    refine J_iconst X (pc := 71) (v := 1) dX8_findsSlope_71 (by decide +kernel) ?_
                    refine J_goto X (pc := 72) 76 dX8_findsSlope_72 (by decide) ?_
                    cases g35
                    exact J_sub [1, 2, 0, 4] rfl j34
                refine J_if_ge X (pc := 48) 55 dX8_findsSlope_48 (by decide) (fun c25 => ?_) (fun c25 => ?_)
                · rw [if_pos c25] at g28
                  refine J_iconst X (pc := 55) (v := 0) dX8_findsSlope_55 (by decide +kernel) ?_
                  cases g28
                  exact J_sub [0, 1, 3, 4] rfl j27
                · rw [if_neg c25] at g28
                  refine J_iconst X (pc := 51) (v := 1) dX8_findsSlope_51 (by decide +kernel) ?_
                  refine J_goto X (pc := 52) 56 dX8_findsSlope_52 (by decide) ?_
                  cases g28
                  exact J_sub [0, 1, 3, 4] rfl j27
          exact J_sub [3, 4, 2, 1, 0] rfl (l38 3000 _ _ _ g21)
    exact J_sub [1, 0] rfl (l59 3000 _ _ g11)
  · rw [if_pos c4] at h
    refine J_iconst X (pc := 9) (v := 0) dX8_findsSlope_9 (by decide +kernel) ?_
    cases h
    exact hE _ _ dX8_findsSlope_10 (by decide +kernel)
def f_X8_usualOf_32 (a1 : Int32) (S : St) (v1 : Int32) (x3 : Int32) : Nat → Int32 → Int32 → Int32 → Option (Int32 × Int32)
  | 0, _, _, _ => none
  | n14+1, x11, x12, x13 => ck (inb a1 8) (if (v1 + (S.2 4 a1.toNatClampNeg)) ≤ x13 then some (x11, x12) else ck (inb x13 480) (ck (inb x3 480) ((if (S.2 6 x3.toNatClampNeg) ≤ (S.2 6 x13.toNatClampNeg) then some ((0 : Int32)) else some ((1 : Int32))).bind (fun (r25 : Int32) => nmv (x11 + r25) (fun (v28 : Int32) => ck (inb x13 480) (ck (inb x3 480) ((if (S.2 6 x13.toNatClampNeg) = (S.2 6 x3.toNatClampNeg) then some ((1 : Int32)) else some ((0 : Int32))).bind (fun (r32 : Int32) => nmv (x12 + r32) (fun (v35 : Int32) => nmv (x13 + (1 : Int32)) (fun (v36 : Int32) => f_X8_usualOf_32 a1 S v1 x3 n14 v28 v35 v36))))))))))
def f_X8_usualOf_10 (a1 : Int32) (S : St) (v1 : Int32) : Nat → Int32 → Int32 → Option (Int32)
  | 0, _, _ => none
  | n4+1, x2, x3 => ck (inb a1 8) (if (v1 + (S.2 4 a1.toNatClampNeg)) ≤ x3 then some x2 else (f_X8_usualOf_32 a1 S v1 x3 3000 ((0 : Int32)) ((0 : Int32)) v1).bind (fun ((r16, r17) : Int32 × Int32) => ck (inb a1 8) ((f_X8_middle (S.2 4 a1.toNatClampNeg)).bind (fun (r39 : Int32) => (if r39 < r16 then some x2 else if (r16 + r17) ≤ r39 then some x2 else ck (inb x3 480) (some (S.2 6 x3.toNatClampNeg))).bind (fun (r42 : Int32) => nmv (x3 + (1 : Int32)) (fun (v47 : Int32) => f_X8_usualOf_10 a1 S v1 n4 r42 v47))))))
def f_X8_usualOf (a1 : Int32) (S : St) : Option (Int32) := nmv (((60 : Int32)) * a1) (fun (v1 : Int32) => (f_X8_usualOf_10 a1 S v1 3000 ((0 : Int32)) v1).bind (fun (r6 : Int32) => some r6))
set_option maxRecDepth 100000 in
set_option maxHeartbeats 4000000 in
theorem c_X8_usualOf (E : Ev) (ad : Nat → Nat) {a1 : Int32} {S : St} {r : Int32} (h : f_X8_usualOf a1 S = some r) : CtI E yX8_usualOf cX8_usualOf 8 .int 1 20 (mW E ad S) [.ref (ad 0), .int a1] r (mW E ad S) := by
  refine CtI_of (by decide +kernel) (Nat.le_of_ble_eq_true rfl) (fun x X hE => ?_)
  show J E x 0 0 (mW E ad S) 0 [(0, .ref (ad 0)), (1, .int a1)] []
  unfold f_X8_usualOf at h
  refine J_iconst X (pc := 0) (v := 0) dX8_usualOf_0 (by decide +kernel) ?_
  refine J_istore_n X (pc := 1) dX8_usualOf_1 (by decide) rfl ?_
  refine J_bipush X (pc := 2) (v := 60) dX8_usualOf_2 (by decide +kernel) ?_
  refine J_iload_n X (pc := 4) dX8_usualOf_4 2 rfl ?_
  refine J_imul X (pc := 5) dX8_usualOf_5 ?_
  replace h := nmv_e h
  obtain ⟨v1, ev1, h⟩ := h
  refine J_nmi ev1 ?_
  refine J_istore_n X (pc := 6) dX8_usualOf_6 (by decide) rfl ?_
  refine J_iload_n X (pc := 7) dX8_usualOf_7 0 rfl ?_
  refine J_istore X (pc := 8) dX8_usualOf_8 (by decide) rfl ?_
  replace h := bk h
  obtain ⟨r6, g8, h⟩ := h
  have k7 : J E x 0 0 (mW E ad S) 151 [(2, .int r6)] [] := by
    refine J_iload_n X (pc := 151) dX8_usualOf_151 0 rfl ?_
    cases h
    exact hE _ _ dX8_usualOf_152 rfl
  clear h
  have l48 : ∀ (n4 : Nat) (x2 : Int32) (x3 : Int32), f_X8_usualOf_10 a1 S v1 n4 x2 x3 = some r6 → J E x 0 0 (mW E ad S) 10 [(0, .ref (ad 0)), (1, .int a1), (2, .int x2), (3, .int v1), (4, .int x3)] [] := by
    intro n4
    induction n4 with
    | zero => intro x2 x3 h; rw [f_X8_usualOf_10] at h; cases h
    | succ n4 ih5 =>
      intro x2 x3 h
      rw [f_X8_usualOf_10] at h
      refine J_iload X (pc := 10) dX8_usualOf_10 4 rfl ?_
      refine J_iload_n X (pc := 12) dX8_usualOf_12 3 rfl ?_
      refine J_aload_n X (pc := 13) dX8_usualOf_13 0 rfl ?_
      refine J_getf X (pc := 14) 0 mW_c0 rfl in_X8 6 (by decide) q_437 rfl dX8_usualOf_14 ?_
      refine J_iload_n X (pc := 17) dX8_usualOf_17 1 rfl ?_
      replace h := ck_e h
      obtain ⟨b9, h⟩ := h
      refine J_iald X (pc := 18) 5 mW_c5 b9 dX8_usualOf_18 ?_
      refine J_iadd X (pc := 19) dX8_usualOf_19 ?_
      refine J_icmp_ge X (pc := 20) 151 dX8_usualOf_20 (by decide) (fun c10 => ?_) (fun c10 => ?_)
      · rw [if_pos c10] at h
        cases h
        exact J_sub [2] rfl k7
      · rw [if_neg c10] at h
        refine J_iconst X (pc := 23) (v := 0) dX8_usualOf_23 (by decide +kernel) ?_
        refine J_istore X (pc := 24) dX8_usualOf_24 (by decide) rfl ?_
        refine J_iconst X (pc := 26) (v := 0) dX8_usualOf_26 (by decide +kernel) ?_
        refine J_istore X (pc := 27) dX8_usualOf_27 (by decide) rfl ?_
        refine J_iload_n X (pc := 29) dX8_usualOf_29 5 rfl ?_
        refine J_istore X (pc := 30) dX8_usualOf_30 (by decide) rfl ?_
        replace h := bk h
        obtain ⟨⟨r16, r17⟩, g19, h⟩ := h
        dsimp only at h
        have k18 : J E x 0 0 (mW E ad S) 105 [(0, .ref (ad 0)), (1, .int a1), (2, .int x2), (3, .int v1), (4, .int x3), (5, .int r16), (6, .int r17)] [] := by
          refine J_aload_n X (pc := 105) dX8_usualOf_105 0 rfl ?_
          refine J_getf X (pc := 106) 0 mW_c0 rfl in_X8 6 (by decide) q_437 rfl dX8_usualOf_106 ?_
          refine J_iload_n X (pc := 109) dX8_usualOf_109 1 rfl ?_
          replace h := ck_e h
          obtain ⟨b38, h⟩ := h
          refine J_iald X (pc := 110) 5 mW_c5 b38 dX8_usualOf_110 ?_
          replace h := bk h
          obtain ⟨r39, g40, h⟩ := h
          refine J_callSI X (pc := 111) (y := yX8_middle) (na := 1) (As := [.int (S.2 4 a1.toNatClampNeg)]) (rest := []) (c_X8_middle E (mW E ad S) g40) q_499 q_500 q_465 q_480 rfl (by decide +kernel) (by decide +kernel) rfl (Nat.le_of_ble_eq_true rfl) ⟨Nat.le_refl _, Nat.le_refl _⟩ dX8_usualOf_111 ?_
          refine J_istore X (pc := 114) dX8_usualOf_114 (by decide) rfl ?_
          refine J_iload X (pc := 116) dX8_usualOf_116 0 rfl ?_
          refine J_iload X (pc := 118) dX8_usualOf_118 6 rfl ?_
          replace h := bk h
          obtain ⟨r42, g44, h⟩ := h
          have j43 : J E x 0 0 (mW E ad S) 144 [(0, .ref (ad 0)), (1, .int a1), (3, .int v1), (4, .int x3)] [.int r42] := by
            refine J_istore_n X (pc := 144) dX8_usualOf_144 (by decide) rfl ?_
            replace h := nmv_e h
            obtain ⟨v47, ev47, h⟩ := h
            refine J_iinc X (pc := 145) (v := v47) dX8_usualOf_145 4 rfl (by rw [ev47]; rfl) (by decide) rfl ?_
            refine J_goto X (pc := 148) 10 dX8_usualOf_148 (by decide) ?_
            exact J_sub [2, 3, 1, 4, 0] rfl (ih5 _ _ h)
          refine J_icmp_lt X (pc := 120) 143 dX8_usualOf_120 (by decide) (fun c41 => ?_) (fun c41 => ?_)
          · rw [if_pos c41] at g44
            refine J_iload_n X (pc := 143) dX8_usualOf_143 3 rfl ?_
            cases g44
            exact J_sub [1, 2, 4, 5] rfl j43
          · rw [if_neg c41] at g44
            refine J_iload X (pc := 123) dX8_usualOf_123 0 rfl ?_
            refine J_iload X (pc := 125) dX8_usualOf_125 6 rfl ?_
            refine J_iload X (pc := 127) dX8_usualOf_127 7 rfl ?_
            refine J_iadd X (pc := 129) dX8_usualOf_129 ?_
            refine J_icmp_ge X (pc := 130) 143 dX8_usualOf_130 (by decide) (fun c45 => ?_) (fun c45 => ?_)
            · rw [if_pos c45] at g44
              refine J_iload_n X (pc := 143) dX8_usualOf_143 3 rfl ?_
              cases g44
              exact J_sub [1, 2, 4, 5] rfl j43
            · rw [if_neg c45] at g44
              refine J_aload_n X (pc := 133) dX8_usualOf_133 1 rfl ?_
              refine J_getf X (pc := 134) 0 mW_c0 rfl in_X8 8 (by decide) q_439 rfl dX8_usualOf_134 ?_
              refine J_iload X (pc := 137) dX8_usualOf_137 5 rfl ?_
              replace g44 := ck_e g44
              obtain ⟨b46, g44⟩ := g44
              refine J_iald X (pc := 139) 7 mW_c7 b46 dX8_usualOf_139 ?_
              refine J_goto X (pc := 140) 144 dX8_usualOf_140 (by decide) ?_
              cases g44
              exact J_sub [1, 2, 4, 5] rfl j43
        clear h
        have l37 : ∀ (n14 : Nat) (x11 : Int32) (x12 : Int32) (x13 : Int32), f_X8_usualOf_32 a1 S v1 x3 n14 x11 x12 x13 = some (r16, r17) → J E x 0 0 (mW E ad S) 32 [(0, .ref (ad 0)), (1, .int a1), (2, .int x2), (3, .int v1), (4, .int x3), (5, .int x11), (6, .int x12), (7, .int x13)] [] := by
          intro n14
          induction n14 with
          | zero => intro x11 x12 x13 h; rw [f_X8_usualOf_32] at h; cases h
          | succ n14 ih15 =>
            intro x11 x12 x13 h
            rw [f_X8_usualOf_32] at h
            refine J_iload X (pc := 32) dX8_usualOf_32 7 rfl ?_
            refine J_iload_n X (pc := 34) dX8_usualOf_34 3 rfl ?_
            refine J_aload_n X (pc := 35) dX8_usualOf_35 0 rfl ?_
            refine J_getf X (pc := 36) 0 mW_c0 rfl in_X8 6 (by decide) q_437 rfl dX8_usualOf_36 ?_
            refine J_iload_n X (pc := 39) dX8_usualOf_39 1 rfl ?_
            replace h := ck_e h
            obtain ⟨b20, h⟩ := h
            refine J_iald X (pc := 40) 5 mW_c5 b20 dX8_usualOf_40 ?_
            refine J_iadd X (pc := 41) dX8_usualOf_41 ?_
            refine J_icmp_ge X (pc := 42) 105 dX8_usualOf_42 (by decide) (fun c21 => ?_) (fun c21 => ?_)
            · rw [if_pos c21] at h
              cases h
              exact J_sub [0, 1, 2, 3, 4, 5, 6] rfl k18
            · rw [if_neg c21] at h
              refine J_iload X (pc := 45) dX8_usualOf_45 5 rfl ?_
              refine J_aload_n X (pc := 47) dX8_usualOf_47 0 rfl ?_
              refine J_getf X (pc := 48) 0 mW_c0 rfl in_X8 8 (by decide) q_439 rfl dX8_usualOf_48 ?_
              refine J_iload X (pc := 51) dX8_usualOf_51 7 rfl ?_
              replace h := ck_e h
              obtain ⟨b22, h⟩ := h
              refine J_iald X (pc := 53) 7 mW_c7 b22 dX8_usualOf_53 ?_
              refine J_aload_n X (pc := 54) dX8_usualOf_54 0 rfl ?_
              refine J_getf X (pc := 55) 0 mW_c0 rfl in_X8 8 (by decide) q_439 rfl dX8_usualOf_55 ?_
              refine J_iload X (pc := 58) dX8_usualOf_58 4 rfl ?_
              replace h := ck_e h
              obtain ⟨b23, h⟩ := h
              refine J_iald X (pc := 60) 7 mW_c7 b23 dX8_usualOf_60 ?_
              replace h := bk h
              obtain ⟨r25, g27, h⟩ := h
              have j26 : J E x 0 0 (mW E ad S) 69 [(0, .ref (ad 0)), (1, .int a1), (2, .int x2), (3, .int v1), (4, .int x3), (6, .int x12), (7, .int x13)] [.int r25, .int x11] := by
                refine J_iadd X (pc := 69) dX8_usualOf_69 ?_
                replace h := nmv_e h
                obtain ⟨v28, ev28, h⟩ := h
                refine J_nmi ev28 ?_
                refine J_istore X (pc := 70) dX8_usualOf_70 (by decide) rfl ?_
                refine J_iload X (pc := 72) dX8_usualOf_72 6 rfl ?_
                refine J_aload_n X (pc := 74) dX8_usualOf_74 1 rfl ?_
                refine J_getf X (pc := 75) 0 mW_c0 rfl in_X8 8 (by decide) q_439 rfl dX8_usualOf_75 ?_
                refine J_iload X (pc := 78) dX8_usualOf_78 7 rfl ?_
                replace h := ck_e h
                obtain ⟨b29, h⟩ := h
                refine J_iald X (pc := 80) 7 mW_c7 b29 dX8_usualOf_80 ?_
                refine J_aload_n X (pc := 81) dX8_usualOf_81 1 rfl ?_
                refine J_getf X (pc := 82) 0 mW_c0 rfl in_X8 8 (by decide) q_439 rfl dX8_usualOf_82 ?_
                refine J_iload X (pc := 85) dX8_usualOf_85 5 rfl ?_
                replace h := ck_e h
                obtain ⟨b30, h⟩ := h
                refine J_iald X (pc := 87) 7 mW_c7 b30 dX8_usualOf_87 ?_
                replace h := bk h
                obtain ⟨r32, g34, h⟩ := h
                have j33 : J E x 0 0 (mW E ad S) 96 [(0, .ref (ad 0)), (1, .int a1), (2, .int x2), (3, .int v1), (4, .int x3), (5, .int v28), (7, .int x13)] [.int r32, .int x12] := by
                  refine J_iadd X (pc := 96) dX8_usualOf_96 ?_
                  replace h := nmv_e h
                  obtain ⟨v35, ev35, h⟩ := h
                  refine J_nmi ev35 ?_
                  refine J_istore X (pc := 97) dX8_usualOf_97 (by decide) rfl ?_
                  replace h := nmv_e h
                  obtain ⟨v36, ev36, h⟩ := h
                  refine J_iinc X (pc := 99) (v := v36) dX8_usualOf_99 7 rfl (by rw [ev36]; rfl) (by decide) rfl ?_
                  refine J_goto X (pc := 102) 32 dX8_usualOf_102 (by decide) ?_
                  exact J_sub [2, 3, 4, 5, 6, 7, 1, 0] rfl (ih15 _ _ _ h)
                refine J_icmp_ne X (pc := 88) 95 dX8_usualOf_88 (by decide) (fun c31 => ?_) (fun c31 => ?_)
                · rw [if_neg c31] at g34
                  refine J_iconst X (pc := 95) (v := 0) dX8_usualOf_95 (by decide +kernel) ?_
                  cases g34
                  exact J_sub [1, 2, 3, 4, 5, 0, 7] rfl j33
                · rw [if_pos c31] at g34
                  refine J_iconst X (pc := 91) (v := 1) dX8_usualOf_91 (by decide +kernel) ?_
                  refine J_goto X (pc := 92) 96 dX8_usualOf_92 (by decide) ?_
                  cases g34
                  exact J_sub [1, 2, 3, 4, 5, 0, 7] rfl j33
              refine J_icmp_ge X (pc := 61) 68 dX8_usualOf_61 (by decide) (fun c24 => ?_) (fun c24 => ?_)
              · rw [if_pos c24] at g27
                refine J_iconst X (pc := 68) (v := 0) dX8_usualOf_68 (by decide +kernel) ?_
                cases g27
                exact J_sub [0, 1, 2, 3, 4, 6, 7] rfl j26
              · rw [if_neg c24] at g27
                refine J_iconst X (pc := 64) (v := 1) dX8_usualOf_64 (by decide +kernel) ?_
                refine J_goto X (pc := 65) 69 dX8_usualOf_65 (by decide) ?_
                cases g27
                exact J_sub [0, 1, 2, 3, 4, 6, 7] rfl j26
        exact J_sub [3, 4, 5, 6, 7, 2, 1, 0] rfl (l37 3000 _ _ _ g19)
  exact J_sub [3, 4, 2, 1, 0] rfl (l48 3000 _ _ g8)
