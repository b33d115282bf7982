def f_X4_number (S : St) : Option (Int32) := some (S.1 1)
set_option maxRecDepth 100000 in
set_option maxHeartbeats 4000000 in
theorem c_X4_number (E : Ev) (ad : Nat → Nat) {S : St} {r : Int32} (h : f_X4_number S = some r) : CtI E yX4_number cX4_number 1 .int 0 0 (sW E ad S) [.ref (ad 1)] r (sW E ad S) := by
  refine CtI_of (by decide +kernel) (Nat.le_of_ble_eq_true rfl) (fun x X hE => ?_)
  show J E x 0 0 (sW E ad S) 0 [(0, .ref (ad 1))] []
  unfold f_X4_number at h
  refine J_aload_n X (pc := 0) dX4_number_0 0 rfl ?_
  refine J_getf X (pc := 1) 1 sW_c1 rfl in_X4 3 (by decide) q_51 rfl dX4_number_1 ?_
  cases h
  exact hE _ _ dX4_number_4 rfl
def f_X4_lastIsOf (a1 : Int32) (S : St) : Option (Int32) := if (S.1 1) ≤ 0 then some ((0 : Int32)) else ck (inb ((S.1 1) - ((1 : Int32))) 12) (if (S.2 0 ((S.1 1) - ((1 : Int32))).toNatClampNeg) = a1 then some ((1 : Int32)) else some ((0 : Int32)))
set_option maxRecDepth 100000 in
set_option maxHeartbeats 4000000 in
theorem c_X4_lastIsOf (E : Ev) (ad : Nat → Nat) {a1 : Int32} {S : St} {r : Int32} (h : f_X4_lastIsOf a1 S = some r) : CtI E yX4_lastIsOf cX4_lastIsOf 2 .boolean 0 0 (sW E ad S) [.ref (ad 1), .int a1] r (sW E ad S) := by
  refine CtI_of (by decide +kernel) (Nat.le_of_ble_eq_true rfl) (fun x X hE => ?_)
  show J E x 0 0 (sW E ad S) 0 [(0, .ref (ad 1)), (1, .int a1)] []
  unfold f_X4_lastIsOf at h
  refine J_aload_n X (pc := 0) dX4_lastIsOf_0 0 rfl ?_
  refine J_getf X (pc := 1) 1 sW_c1 rfl in_X4 3 (by decide) q_51 rfl dX4_lastIsOf_1 ?_
  refine J_if_le X (pc := 4) 26 dX4_lastIsOf_4 (by decide) (fun c1 => ?_) (fun c1 => ?_)
  · rw [if_pos c1] at h
    refine J_iconst X (pc := 26) (v := 0) dX4_lastIsOf_26 (by decide +kernel) ?_
    cases h
    exact hE _ _ dX4_lastIsOf_27 (by decide +kernel)
  · rw [if_neg c1] at h
    refine J_aload_n X (pc := 7) dX4_lastIsOf_7 0 rfl ?_
    refine J_getf X (pc := 8) 1 sW_c1 rfl in_X4 0 (by decide) q_60 rfl dX4_lastIsOf_8 ?_
    refine J_aload_n X (pc := 11) dX4_lastIsOf_11 0 rfl ?_
    refine J_getf X (pc := 12) 1 sW_c1 rfl in_X4 3 (by decide) q_51 rfl dX4_lastIsOf_12 ?_
    refine J_iconst X (pc := 15) (v := 1) dX4_lastIsOf_15 (by decide +kernel) ?_
    refine J_isub X (pc := 16) dX4_lastIsOf_16 ?_
    replace h := ck_e h
    obtain ⟨b2, h⟩ := h
    refine J_iald X (pc := 17) 7 sW_c7 b2 dX4_lastIsOf_17 ?_
    refine J_iload_n X (pc := 18) dX4_lastIsOf_18 1 rfl ?_
    refine J_icmp_ne X (pc := 19) 26 dX4_lastIsOf_19 (by decide) (fun c3 => ?_) (fun c3 => ?_)
    · rw [if_neg c3] at h
      refine J_iconst X (pc := 26) (v := 0) dX4_lastIsOf_26 (by decide +kernel) ?_
      cases h
      exact hE _ _ dX4_lastIsOf_27 (by decide +kernel)
    · rw [if_pos c3] at h
      refine J_iconst X (pc := 22) (v := 1) dX4_lastIsOf_22 (by decide +kernel) ?_
      refine J_goto X (pc := 23) 27 dX4_lastIsOf_23 (by decide) ?_
      cases h
      exact hE _ _ dX4_lastIsOf_27 (by decide +kernel)
def f_X4_openLastPlace_22 : Nat → Int32 → St → Option (St)
  | 0, _, _ => none
  | n4+1, x2, S3 => if ((12 : Int32)) ≤ x2 then some S3 else ck (inb x2 12) (ck (inb (x2 - ((1 : Int32))) 12) (nmv (sA S3 0 (x2 - ((1 : Int32))).toNatClampNeg (S3.2 0 x2.toNatClampNeg)) (fun (S12 : St) => ck (inb x2 12) (ck (inb (x2 - ((1 : Int32))) 12) (nmv (sA S12 1 (x2 - ((1 : Int32))).toNatClampNeg (S12.2 1 x2.toNatClampNeg)) (fun (S15 : St) => ck (inb x2 12) (ck (inb (x2 - ((1 : Int32))) 12) (nmv (sA S15 2 (x2 - ((1 : Int32))).toNatClampNeg (S15.2 2 x2.toNatClampNeg)) (fun (S18 : St) => nmv (x2 + (1 : Int32)) (fun (v19 : Int32) => f_X4_openLastPlace_22 n4 v19 S18))))))))))
def f_X4_openLastPlace (S : St) : Option (St) := if ((12 : Int32)) ≤ (S.1 1) then (f_X4_openLastPlace_22 3000 ((1 : Int32)) S).bind (fun (S6 : St) => some S6) else nmv (sF S 1 ((S.1 1) + ((1 : Int32)))) (fun (S21 : St) => some S21)
set_option maxRecDepth 100000 in
set_option maxHeartbeats 4000000 in
theorem c_X4_openLastPlace (E : Ev) (ad : Nat → Nat) {S : St} {S2 : St} (h : f_X4_openLastPlace S = some S2) : CtV E yX4_openLastPlace cX4_openLastPlace 2 0 0 (sW E ad S) [.ref (ad 1)] (sW E ad S2) := by
  refine CtV_of (by decide +kernel) (Nat.le_of_ble_eq_true rfl) (fun x X hE => ?_)
  show J E x 0 0 (sW E ad S) 0 [(0, .ref (ad 1))] []
  unfold f_X4_openLastPlace at h
  refine J_aload_n X (pc := 0) dX4_openLastPlace_0 0 rfl ?_
  refine J_getf X (pc := 1) 1 sW_c1 rfl in_X4 3 (by decide) q_51 rfl dX4_openLastPlace_1 ?_
  refine J_bipush X (pc := 4) (v := 12) dX4_openLastPlace_4 (by decide +kernel) ?_
  refine J_icmp_ge X (pc := 6) 20 dX4_openLastPlace_6 (by decide) (fun c1 => ?_) (fun c1 => ?_)
  · rw [if_pos c1] at h
    refine J_iconst X (pc := 20) (v := 1) dX4_openLastPlace_20 (by decide +kernel) ?_
    refine J_istore_n X (pc := 21) dX4_openLastPlace_21 (by decide) rfl ?_
    replace h := bk h
    obtain ⟨S6, g8, h⟩ := h
    have k7 : J E x 0 0 (sW E ad S6) 76 [] [] := by
      cases h
      exact hE _ _ dX4_openLastPlace_76
    clear h
    have l20 : ∀ (n4 : Nat) (x2 : Int32) (S3 : St), f_X4_openLastPlace_22 n4 x2 S3 = some S6 → J E x 0 0 (sW E ad S3) 22 [(0, .ref (ad 1)), (1, .int x2)] [] := by
      intro n4
      induction n4 with
      | zero => intro x2 S3 h; rw [f_X4_openLastPlace_22] at h; cases h
      | succ n4 ih5 =>
        intro x2 S3 h
        rw [f_X4_openLastPlace_22] at h
        refine J_iload_n X (pc := 22) dX4_openLastPlace_22 1 rfl ?_
        refine J_bipush X (pc := 23) (v := 12) dX4_openLastPlace_23 (by decide +kernel) ?_
        refine J_icmp_ge X (pc := 25) 76 dX4_openLastPlace_25 (by decide) (fun c9 => ?_) (fun c9 => ?_)
        · rw [if_pos c9] at h
          cases h
          exact J_sub [] rfl k7
        · rw [if_neg c9] at h
          refine J_aload_n X (pc := 28) dX4_openLastPlace_28 0 rfl ?_
          refine J_getf X (pc := 29) 1 sW_c1 rfl in_X4 0 (by decide) q_60 rfl dX4_openLastPlace_29 ?_
          refine J_iload_n X (pc := 32) dX4_openLastPlace_32 1 rfl ?_
          refine J_iconst X (pc := 33) (v := 1) dX4_openLastPlace_33 (by decide +kernel) ?_
          refine J_isub X (pc := 34) dX4_openLastPlace_34 ?_
          refine J_aload_n X (pc := 35) dX4_openLastPlace_35 0 rfl ?_
          refine J_getf X (pc := 36) 1 sW_c1 rfl in_X4 0 (by decide) q_60 rfl dX4_openLastPlace_36 ?_
          refine J_iload_n X (pc := 39) dX4_openLastPlace_39 1 rfl ?_
          replace h := ck_e h
          obtain ⟨b10, h⟩ := h
          refine J_iald X (pc := 40) 7 sW_c7 b10 dX4_openLastPlace_40 ?_
          replace h := ck_e h
          obtain ⟨b11, h⟩ := h
          replace h := nmv_e h
          obtain ⟨S12, eS12, h⟩ := h
          refine J_iast X (pc := 41) (w1 := (sW E ad S12)) 7 sW_c7 b11 dX4_openLastPlace_41 (sW_a0 eS12) ?_
          refine J_aload_n X (pc := 42) dX4_openLastPlace_42 0 rfl ?_
          refine J_getf X (pc := 43) 1 sW_c1 rfl in_X4 1 (by decide) q_116 rfl dX4_openLastPlace_43 ?_
          refine J_iload_n X (pc := 46) dX4_openLastPlace_46 1 rfl ?_
          refine J_iconst X (pc := 47) (v := 1) dX4_openLastPlace_47 (by decide +kernel) ?_
          refine J_isub X (pc := 48) dX4_openLastPlace_48 ?_
          refine J_aload_n X (pc := 49) dX4_openLastPlace_49 0 rfl ?_
          refine J_getf X (pc := 50) 1 sW_c1 rfl in_X4 1 (by decide) q_116 rfl dX4_openLastPlace_50 ?_
          refine J_iload_n X (pc := 53) dX4_openLastPlace_53 1 rfl ?_
          replace h := ck_e h
          obtain ⟨b13, h⟩ := h
          refine J_iald X (pc := 54) 8 sW_c8 b13 dX4_openLastPlace_54 ?_
          replace h := ck_e h
          obtain ⟨b14, h⟩ := h
          replace h := nmv_e h
          obtain ⟨S15, eS15, h⟩ := h
          refine J_iast X (pc := 55) (w1 := (sW E ad S15)) 8 sW_c8 b14 dX4_openLastPlace_55 (sW_a1 eS15) ?_
          refine J_aload_n X (pc := 56) dX4_openLastPlace_56 0 rfl ?_
          refine J_getf X (pc := 57) 1 sW_c1 rfl in_X4 2 (by decide) q_54 rfl dX4_openLastPlace_57 ?_
          refine J_iload_n X (pc := 60) dX4_openLastPlace_60 1 rfl ?_
          refine J_iconst X (pc := 61) (v := 1) dX4_openLastPlace_61 (by decide +kernel) ?_
          refine J_isub X (pc := 62) dX4_openLastPlace_62 ?_
          refine J_aload_n X (pc := 63) dX4_openLastPlace_63 0 rfl ?_
          refine J_getf X (pc := 64) 1 sW_c1 rfl in_X4 2 (by decide) q_54 rfl dX4_openLastPlace_64 ?_
          refine J_iload_n X (pc := 67) dX4_openLastPlace_67 1 rfl ?_
          replace h := ck_e h
          obtain ⟨b16, h⟩ := h
          refine J_iald X (pc := 68) 9 sW_c9 b16 dX4_openLastPlace_68 ?_
          replace h := ck_e h
          obtain ⟨b17, h⟩ := h
          replace h := nmv_e h
          obtain ⟨S18, eS18, h⟩ := h
          refine J_iast X (pc := 69) (w1 := (sW E ad S18)) 9 sW_c9 b17 dX4_openLastPlace_69 (sW_a2 eS18) ?_
          replace h := nmv_e h
          obtain ⟨v19, ev19, h⟩ := h
          refine J_iinc X (pc := 70) (v := v19) dX4_openLastPlace_70 1 rfl (by rw [ev19]; rfl) (by decide) rfl ?_
          refine J_goto X (pc := 73) 22 dX4_openLastPlace_73 (by decide) ?_
          exact J_sub [1, 0] rfl (ih5 _ _ h)
    exact J_sub [1, 0] rfl (l20 3000 _ _ g8)
  · rw [if_neg c1] at h
    refine J_aload_n X (pc := 9) dX4_openLastPlace_9 0 rfl ?_
    refine J_dup X (pc := 10) dX4_openLastPlace_10 rfl ?_
    refine J_getf X (pc := 11) 1 sW_c1 rfl in_X4 3 (by decide) q_51 rfl dX4_openLastPlace_11 ?_
    refine J_iconst X (pc := 14) (v := 1) dX4_openLastPlace_14 (by decide +kernel) ?_
    refine J_iadd X (pc := 15) dX4_openLastPlace_15 ?_
    replace h := nmv_e h
    obtain ⟨S21, eS21, h⟩ := h
    refine J_putf X (pc := 16) (ty := .int) (w1 := (sW E ad S21)) 1 sW_c1 rfl in_X4 tyX4_ok nmX4 3 (by decide) q_51 rfl (by decide +kernel) rfl rfl (Nat.le_of_ble_eq_true rfl) dX4_openLastPlace_16 (sW_p1 eS21) ?_
    cases h
    exact hE _ _ dX4_openLastPlace_19
def f_X4_has (a1 : Int32) (S : St) : Option (Int32) := if a1 < 0 then some ((0 : Int32)) else if (S.1 1) ≤ a1 then some ((0 : Int32)) else some ((1 : Int32))
set_option maxRecDepth 100000 in
set_option maxHeartbeats 4000000 in
theorem c_X4_has (E : Ev) (ad : Nat → Nat) {a1 : Int32} {S : St} {r : Int32} (h : f_X4_has a1 S = some r) : CtI E yX4_has cX4_has 2 .boolean 0 0 (sW E ad S) [.ref (ad 1), .int a1] r (sW E ad S) := by
  refine CtI_of (by decide +kernel) (Nat.le_of_ble_eq_true rfl) (fun x X hE => ?_)
  show J E x 0 0 (sW E ad S) 0 [(0, .ref (ad 1)), (1, .int a1)] []
  unfold f_X4_has at h
  refine J_iload_n X (pc := 0) dX4_has_0 1 rfl ?_
  refine J_if_lt X (pc := 1) 16 dX4_has_1 (by decide) (fun c1 => ?_) (fun c1 => ?_)
  · rw [if_pos c1] at h
    refine J_iconst X (pc := 16) (v := 0) dX4_has_16 (by decide +kernel) ?_
    cases h
    exact hE _ _ dX4_has_17 (by decide +kernel)
  · rw [if_neg c1] at h
    refine J_iload_n X (pc := 4) dX4_has_4 1 rfl ?_
    refine J_aload_n X (pc := 5) dX4_has_5 0 rfl ?_
    refine J_getf X (pc := 6) 1 sW_c1 rfl in_X4 3 (by decide) q_51 rfl dX4_has_6 ?_
    refine J_icmp_ge X (pc := 9) 16 dX4_has_9 (by decide) (fun c2 => ?_) (fun c2 => ?_)
    · rw [if_pos c2] at h
      refine J_iconst X (pc := 16) (v := 0) dX4_has_16 (by decide +kernel) ?_
      cases h
      exact hE _ _ dX4_has_17 (by decide +kernel)
    · rw [if_neg c2] at h
      refine J_iconst X (pc := 12) (v := 1) dX4_has_12 (by decide +kernel) ?_
      refine J_goto X (pc := 13) 17 dX4_has_13 (by decide) ?_
      cases h
      exact hE _ _ dX4_has_17 (by decide +kernel)
def f_X4_put (a1 : Int32) (a2 : Int32) (a3 : Int32) (S : St) : Option (St) := (f_X4_lastIsOf a1 S).bind (fun (r1 : Int32) => (if r1 = 0 then (f_X4_openLastPlace S).bind (fun (S7 : St) => some S7) else some S).bind (fun (S4 : St) => nmv ((S4.1 1) - ((1 : Int32))) (fun (v9 : Int32) => (f_X4_has v9 S4).bind (fun (r10 : Int32) => if r10 = 0 then some S4 else ck (inb v9 12) (nmv (sA S4 0 v9.toNatClampNeg a1) (fun (S14 : St) => ck (inb v9 12) (nmv (sA S14 1 v9.toNatClampNeg a2) (fun (S16 : St) => ck (inb v9 12) (nmv (sA S16 2 v9.toNatClampNeg (a2 + a3)) (fun (S18 : St) => some S18))))))))))
set_option maxRecDepth 100000 in
set_option maxHeartbeats 4000000 in
theorem c_X4_put (E : Ev) (ad : Nat → Nat) {a1 : Int32} {a2 : Int32} {a3 : Int32} {S : St} {S2 : St} (h : f_X4_put a1 a2 a3 S = some S2) : CtV E yX4_put cX4_put 5 1 21 (sW E ad S) [.ref (ad 1), .int a1, .int a2, .int a3] (sW E ad S2) := by
  refine CtV_of (by decide +kernel) (Nat.le_of_ble_eq_true rfl) (fun x X hE => ?_)
  show J E x 0 0 (sW E ad S) 0 [(0, .ref (ad 1)), (1, .int a1), (2, .int a2), (3, .int a3)] []
  unfold f_X4_put at h
  refine J_aload_n X (pc := 0) dX4_put_0 0 rfl ?_
  refine J_iload_n X (pc := 1) dX4_put_1 1 rfl ?_
  replace h := bk h
  obtain ⟨r1, g2, h⟩ := h
  refine J_callVI X (pc := 2) (y := yX4_lastIsOf) (na := 1) (As := [.int a1]) (rest := []) (c_X4_lastIsOf E ad g2) 1 sW_c1 rfl q_120 q_121 q_122 q_58 q_117 rfl (by decide +kernel) (by decide +kernel) rfl (Nat.le_of_ble_eq_true rfl) ⟨Nat.le_refl _, Nat.le_refl _⟩ dX4_put_2 ?_
  replace h := bk h
  obtain ⟨S4, g6, h⟩ := h
  have j5 : J E x 0 0 (sW E ad S4) 12 [(0, .ref (ad 1)), (1, .int a1), (2, .int a2), (3, .int a3)] [] := by
    refine J_aload_n X (pc := 12) dX4_put_12 0 rfl ?_
    refine J_getf X (pc := 13) 1 sW_c1 rfl in_X4 3 (by decide) q_51 rfl dX4_put_13 ?_
    refine J_iconst X (pc := 16) (v := 1) dX4_put_16 (by decide +kernel) ?_
    refine J_isub X (pc := 17) dX4_put_17 ?_
    replace h := nmv_e h
    obtain ⟨v9, ev9, h⟩ := h
    refine J_nmi ev9 ?_
    refine J_istore X (pc := 18) dX4_put_18 (by decide) rfl ?_
    refine J_aload_n X (pc := 20) dX4_put_20 1 rfl ?_
    refine J_iload X (pc := 21) dX4_put_21 0 rfl ?_
    replace h := bk h
    obtain ⟨r10, g11, h⟩ := h
    refine J_callVI X (pc := 23) (y := yX4_has) (na := 1) (As := [.int v9]) (rest := []) (c_X4_has E ad g11) 1 sW_c1 rfl q_55 q_56 q_57 q_58 q_52 rfl (by decide +kernel) (by decide +kernel) rfl (Nat.le_of_ble_eq_true rfl) ⟨Nat.le_refl _, Nat.le_refl _⟩ dX4_put_23 ?_
    refine J_if_eq X (pc := 26) 55 dX4_put_26 (by decide) (fun c12 => ?_) (fun c12 => ?_)
    · rw [if_pos c12] at h
      cases h
      exact hE _ _ dX4_put_55
    · rw [if_neg c12] at h
      refine J_aload_n X (pc := 29) dX4_put_29 1 rfl ?_
      refine J_getf X (pc := 30) 1 sW_c1 rfl in_X4 0 (by decide) q_60 rfl dX4_put_30 ?_
      refine J_iload X (pc := 33) dX4_put_33 0 rfl ?_
      refine J_iload_n X (pc := 35) dX4_put_35 2 rfl ?_
      replace h := ck_e h
      obtain ⟨b13, h⟩ := h
      replace h := nmv_e h
      obtain ⟨S14, eS14, h⟩ := h
      refine J_iast X (pc := 36) (w1 := (sW E ad S14)) 7 sW_c7 b13 dX4_put_36 (sW_a0 eS14) ?_
      refine J_aload_n X (pc := 37) dX4_put_37 1 rfl ?_
      refine J_getf X (pc := 38) 1 sW_c1 rfl in_X4 1 (by decide) q_116 rfl dX4_put_38 ?_
      refine J_iload X (pc := 41) dX4_put_41 0 rfl ?_
      refine J_iload_n X (pc := 43) dX4_put_43 3 rfl ?_
      replace h := ck_e h
      obtain ⟨b15, h⟩ := h
      replace h := nmv_e h
      obtain ⟨S16, eS16, h⟩ := h
      refine J_iast X (pc := 44) (w1 := (sW E ad S16)) 8 sW_c8 b15 dX4_put_44 (sW_a1 eS16) ?_
      refine J_aload_n X (pc := 45) dX4_put_45 1 rfl ?_
      refine J_getf X (pc := 46) 1 sW_c1 rfl in_X4 2 (by decide) q_54 rfl dX4_put_46 ?_
      refine J_iload X (pc := 49) dX4_put_49 0 rfl ?_
      refine J_iload_n X (pc := 51) dX4_put_51 3 rfl ?_
      refine J_iload_n X (pc := 52) dX4_put_52 4 rfl ?_
      refine J_iadd X (pc := 53) dX4_put_53 ?_
      replace h := ck_e h
      obtain ⟨b17, h⟩ := h
      replace h := nmv_e h
      obtain ⟨S18, eS18, h⟩ := h
      refine J_iast X (pc := 54) (w1 := (sW E ad S18)) 9 sW_c9 b17 dX4_put_54 (sW_a2 eS18) ?_
      cases h
      exact hE _ _ dX4_put_55
  refine J_if_ne X (pc := 5) 12 dX4_put_5 (by decide) (fun c3 => ?_) (fun c3 => ?_)
  · rw [if_neg c3] at g6
    cases g6
    exact J_sub [0, 1, 2, 3] rfl j5
  · rw [if_pos c3] at g6
    refine J_aload_n X (pc := 8) dX4_put_8 0 rfl ?_
    replace g6 := bk g6
    obtain ⟨S7, g8, g6⟩ := g6
    refine J_callVV X (pc := 9) (y := yX4_openLastPlace) (na := 0) (As := []) (rest := []) (c_X4_openLastPlace E ad g8) 1 sW_c1 rfl q_123 q_124 q_125 q_58 q_118 rfl (by decide +kernel) (by decide +kernel) rfl (Nat.le_of_ble_eq_true rfl) ⟨Nat.le_refl _, Nat.le_refl _⟩ dX4_put_9 ?_
    cases g6
    exact J_sub [0, 1, 2, 3] rfl j5
def f_X4_addFreedOn (a1 : Int32) (a2 : Int32) (S : St) : Option (St) := (f_X4_lastIsOf a1 S).bind (fun (r1 : Int32) => if r1 = 0 then some S else ck (inb ((S.1 1) - ((1 : Int32))) 12) (ck (inb ((S.1 1) - ((1 : Int32))) 12) (nmv (sA S 2 ((S.1 1) - ((1 : Int32))).toNatClampNeg ((S.2 2 ((S.1 1) - ((1 : Int32))).toNatClampNeg) + a2)) (fun (S6 : St) => some S6))))
set_option maxRecDepth 100000 in
set_option maxHeartbeats 4000000 in
theorem c_X4_addFreedOn (E : Ev) (ad : Nat → Nat) {a1 : Int32} {a2 : Int32} {S : St} {S2 : St} (h : f_X4_addFreedOn a1 a2 S = some S2) : CtV E yX4_addFreedOn cX4_addFreedOn 3 1 21 (sW E ad S) [.ref (ad 1), .int a1, .int a2] (sW E ad S2) := by
  refine CtV_of (by decide +kernel) (Nat.le_of_ble_eq_true rfl) (fun x X hE => ?_)
  show J E x 0 0 (sW E ad S) 0 [(0, .ref (ad 1)), (1, .int a1), (2, .int a2)] []
  unfold f_X4_addFreedOn at h
  refine J_aload_n X (pc := 0) dX4_addFreedOn_0 0 rfl ?_
  refine J_iload_n X (pc := 1) dX4_addFreedOn_1 1 rfl ?_
  replace h := bk h
  obtain ⟨r1, g2, h⟩ := h
  refine J_callVI X (pc := 2) (y := yX4_lastIsOf) (na := 1) (As := [.int a1]) (rest := []) (c_X4_lastIsOf E ad g2) 1 sW_c1 rfl q_120 q_121 q_122 q_58 q_117 rfl (by decide +kernel) (by decide +kernel) rfl (Nat.le_of_ble_eq_true rfl) ⟨Nat.le_refl _, Nat.le_refl _⟩ dX4_addFreedOn_2 ?_
  refine J_if_eq X (pc := 5) 23 dX4_addFreedOn_5 (by decide) (fun c3 => ?_) (fun c3 => ?_)
  · rw [if_pos c3] at h
    cases h
    exact hE _ _ dX4_addFreedOn_23
  · rw [if_neg c3] at h
    refine J_aload_n X (pc := 8) dX4_addFreedOn_8 0 rfl ?_
    refine J_getf X (pc := 9) 1 sW_c1 rfl in_X4 2 (by decide) q_54 rfl dX4_addFreedOn_9 ?_
    refine J_aload_n X (pc := 12) dX4_addFreedOn_12 0 rfl ?_
    refine J_getf X (pc := 13) 1 sW_c1 rfl in_X4 3 (by decide) q_51 rfl dX4_addFreedOn_13 ?_
    refine J_iconst X (pc := 16) (v := 1) dX4_addFreedOn_16 (by decide +kernel) ?_
    refine J_isub X (pc := 17) dX4_addFreedOn_17 ?_
    refine J_dup2 X (pc := 18) dX4_addFreedOn_18 rfl rfl ?_
    replace h := ck_e h
    obtain ⟨b4, h⟩ := h
    refine J_iald X (pc := 19) 9 sW_c9 b4 dX4_addFreedOn_19 ?_
    refine J_iload_n X (pc := 20) dX4_addFreedOn_20 2 rfl ?_
    refine J_iadd X (pc := 21) dX4_addFreedOn_21 ?_
    replace h := ck_e h
    obtain ⟨b5, h⟩ := h
    replace h := nmv_e h
    obtain ⟨S6, eS6, h⟩ := h
    refine J_iast X (pc := 22) (w1 := (sW E ad S6)) 9 sW_c9 b5 dX4_addFreedOn_22 (sW_a2 eS6) ?_
    cases h
    exact hE _ _ dX4_addFreedOn_23
def f_X4_dayAt (a1 : Int32) (S : St) : Option (Int32) := (f_X4_has a1 S).bind (fun (r1 : Int32) => if r1 = 0 then some ((0 : Int32)) else ck (inb a1 12) (some (S.2 0 a1.toNatClampNeg)))
set_option maxRecDepth 100000 in
set_option maxHeartbeats 4000000 in
theorem c_X4_dayAt (E : Ev) (ad : Nat → Nat) {a1 : Int32} {S : St} {r : Int32} (h : f_X4_dayAt a1 S = some r) : CtI E yX4_dayAt cX4_dayAt 2 .int 1 21 (sW E ad S) [.ref (ad 1), .int a1] r (sW E ad S) := by
  refine CtI_of (by decide +kernel) (Nat.le_of_ble_eq_true rfl) (fun x X hE => ?_)
  show J E x 0 0 (sW E ad S) 0 [(0, .ref (ad 1)), (1, .int a1)] []
  unfold f_X4_dayAt at h
  refine J_aload_n X (pc := 0) dX4_dayAt_0 0 rfl ?_
  refine J_iload_n X (pc := 1) dX4_dayAt_1 1 rfl ?_
  replace h := bk h
  obtain ⟨r1, g2, h⟩ := h
  refine J_callVI X (pc := 2) (y := yX4_has) (na := 1) (As := [.int a1]) (rest := []) (c_X4_has E ad g2) 1 sW_c1 rfl q_55 q_56 q_57 q_58 q_52 rfl (by decide +kernel) (by decide +kernel) rfl (Nat.le_of_ble_eq_true rfl) ⟨Nat.le_refl _, Nat.le_refl _⟩ dX4_dayAt_2 ?_
  refine J_if_eq X (pc := 5) 17 dX4_dayAt_5 (by decide) (fun c3 => ?_) (fun c3 => ?_)
  · rw [if_pos c3] at h
    refine J_iconst X (pc := 17) (v := 0) dX4_dayAt_17 (by decide +kernel) ?_
    cases h
    exact hE _ _ dX4_dayAt_18 rfl
  · rw [if_neg c3] at h
    refine J_aload_n X (pc := 8) dX4_dayAt_8 0 rfl ?_
    refine J_getf X (pc := 9) 1 sW_c1 rfl in_X4 0 (by decide) q_60 rfl dX4_dayAt_9 ?_
    refine J_iload_n X (pc := 12) dX4_dayAt_12 1 rfl ?_
    replace h := ck_e h
    obtain ⟨b4, h⟩ := h
    refine J_iald X (pc := 13) 7 sW_c7 b4 dX4_dayAt_13 ?_
    refine J_goto X (pc := 14) 18 dX4_dayAt_14 (by decide) ?_
    cases h
    exact hE _ _ dX4_dayAt_18 rfl
def f_X4_usedAt (a1 : Int32) (S : St) : Option (Int32) := (f_X4_has a1 S).bind (fun (r1 : Int32) => if r1 = 0 then some ((0 : Int32)) else ck (inb a1 12) (some (S.2 1 a1.toNatClampNeg)))
set_option maxRecDepth 100000 in
set_option maxHeartbeats 4000000 in
theorem c_X4_usedAt (E : Ev) (ad : Nat → Nat) {a1 : Int32} {S : St} {r : Int32} (h : f_X4_usedAt a1 S = some r) : CtI E yX4_usedAt cX4_usedAt 2 .int 1 21 (sW E ad S) [.ref (ad 1), .int a1] r (sW E ad S) := by
  refine CtI_of (by decide +kernel) (Nat.le_of_ble_eq_true rfl) (fun x X hE => ?_)
  show J E x 0 0 (sW E ad S) 0 [(0, .ref (ad 1)), (1, .int a1)] []
  unfold f_X4_usedAt at h
  refine J_aload_n X (pc := 0) dX4_usedAt_0 0 rfl ?_
  refine J_iload_n X (pc := 1) dX4_usedAt_1 1 rfl ?_
  replace h := bk h
  obtain ⟨r1, g2, h⟩ := h
  refine J_callVI X (pc := 2) (y := yX4_has) (na := 1) (As := [.int a1]) (rest := []) (c_X4_has E ad g2) 1 sW_c1 rfl q_55 q_56 q_57 q_58 q_52 rfl (by decide +kernel) (by decide +kernel) rfl (Nat.le_of_ble_eq_true rfl) ⟨Nat.le_refl _, Nat.le_refl _⟩ dX4_usedAt_2 ?_
  refine J_if_eq X (pc := 5) 17 dX4_usedAt_5 (by decide) (fun c3 => ?_) (fun c3 => ?_)
  · rw [if_pos c3] at h
    refine J_iconst X (pc := 17) (v := 0) dX4_usedAt_17 (by decide +kernel) ?_
    cases h
    exact hE _ _ dX4_usedAt_18 rfl
  · rw [if_neg c3] at h
    refine J_aload_n X (pc := 8) dX4_usedAt_8 0 rfl ?_
    refine J_getf X (pc := 9) 1 sW_c1 rfl in_X4 1 (by decide) q_116 rfl dX4_usedAt_9 ?_
    refine J_iload_n X (pc := 12) dX4_usedAt_12 1 rfl ?_
    replace h := ck_e h
    obtain ⟨b4, h⟩ := h
    refine J_iald X (pc := 13) 8 sW_c8 b4 dX4_usedAt_13 ?_
    refine J_goto X (pc := 14) 18 dX4_usedAt_14 (by decide) ?_
    cases h
    exact hE _ _ dX4_usedAt_18 rfl
def f_X4_filledAt (a1 : Int32) (S : St) : Option (Int32) := (f_X4_has a1 S).bind (fun (r1 : Int32) => if r1 = 0 then some ((0 : Int32)) else ck (inb a1 12) (some (S.2 2 a1.toNatClampNeg)))
set_option maxRecDepth 100000 in
set_option maxHeartbeats 4000000 in
theorem c_X4_filledAt (E : Ev) (ad : Nat → Nat) {a1 : Int32} {S : St} {r : Int32} (h : f_X4_filledAt a1 S = some r) : CtI E yX4_filledAt cX4_filledAt 2 .int 1 21 (sW E ad S) [.ref (ad 1), .int a1] r (sW E ad S) := by
  refine CtI_of (by decide +kernel) (Nat.le_of_ble_eq_true rfl) (fun x X hE => ?_)
  show J E x 0 0 (sW E ad S) 0 [(0, .ref (ad 1)), (1, .int a1)] []
  unfold f_X4_filledAt at h
  refine J_aload_n X (pc := 0) dX4_filledAt_0 0 rfl ?_
  refine J_iload_n X (pc := 1) dX4_filledAt_1 1 rfl ?_
  replace h := bk h
  obtain ⟨r1, g2, h⟩ := h
  refine J_callVI X (pc := 2) (y := yX4_has) (na := 1) (As := [.int a1]) (rest := []) (c_X4_has E ad g2) 1 sW_c1 rfl q_55 q_56 q_57 q_58 q_52 rfl (by decide +kernel) (by decide +kernel) rfl (Nat.le_of_ble_eq_true rfl) ⟨Nat.le_refl _, Nat.le_refl _⟩ dX4_filledAt_2 ?_
  refine J_if_eq X (pc := 5) 17 dX4_filledAt_5 (by decide) (fun c3 => ?_) (fun c3 => ?_)
  · rw [if_pos c3] at h
    refine J_iconst X (pc := 17) (v := 0) dX4_filledAt_17 (by decide +kernel) ?_
    cases h
    exact hE _ _ dX4_filledAt_18 rfl
  · rw [if_neg c3] at h
    refine J_aload_n X (pc := 8) dX4_filledAt_8 0 rfl ?_
    refine J_getf X (pc := 9) 1 sW_c1 rfl in_X4 2 (by decide) q_54 rfl dX4_filledAt_9 ?_
    refine J_iload_n X (pc := 12) dX4_filledAt_12 1 rfl ?_
    replace h := ck_e h
    obtain ⟨b4, h⟩ := h
    refine J_iald X (pc := 13) 9 sW_c9 b4 dX4_filledAt_13 ?_
    refine J_goto X (pc := 14) 18 dX4_filledAt_14 (by decide) ?_
    cases h
    exact hE _ _ dX4_filledAt_18 rfl
def f_X4_lastPlaceWithout (a1 : Int32) (S : St) : Option (Int32) := if a1 = ((S.1 1) - ((1 : Int32))) then some ((S.1 1) - ((2 : Int32))) else some ((S.1 1) - ((1 : Int32)))
set_option maxRecDepth 100000 in
set_option maxHeartbeats 4000000 in
theorem c_X4_lastPlaceWithout (E : Ev) (ad : Nat → Nat) {a1 : Int32} {S : St} {r : Int32} (h : f_X4_lastPlaceWithout a1 S = some r) : CtI E yX4_lastPlaceWithout cX4_lastPlaceWithout 2 .int 0 0 (sW E ad S) [.ref (ad 1), .int a1] r (sW E ad S) := by
  refine CtI_of (by decide +kernel) (Nat.le_of_ble_eq_true rfl) (fun x X hE => ?_)
  show J E x 0 0 (sW E ad S) 0 [(0, .ref (ad 1)), (1, .int a1)] []
  unfold f_X4_lastPlaceWithout at h
  refine J_iload_n X (pc := 0) dX4_lastPlaceWithout_0 1 rfl ?_
  refine J_aload_n X (pc := 1) dX4_lastPlaceWithout_1 0 rfl ?_
  refine J_getf X (pc := 2) 1 sW_c1 rfl in_X4 3 (by decide) q_51 rfl dX4_lastPlaceWithout_2 ?_
  refine J_iconst X (pc := 5) (v := 1) dX4_lastPlaceWithout_5 (by decide +kernel) ?_
  refine J_isub X (pc := 6) dX4_lastPlaceWithout_6 ?_
  refine J_icmp_ne X (pc := 7) 19 dX4_lastPlaceWithout_7 (by decide) (fun c1 => ?_) (fun c1 => ?_)
  · rw [if_neg c1] at h
    refine J_aload_n X (pc := 19) dX4_lastPlaceWithout_19 0 rfl ?_
    refine J_getf X (pc := 20) 1 sW_c1 rfl in_X4 3 (by decide) q_51 rfl dX4_lastPlaceWithout_20 ?_
    refine J_iconst X (pc := 23) (v := 1) dX4_lastPlaceWithout_23 (by decide +kernel) ?_
    refine J_isub X (pc := 24) dX4_lastPlaceWithout_24 ?_
    cases h
    exact hE _ _ dX4_lastPlaceWithout_25 rfl
  · rw [if_pos c1] at h
    refine J_aload_n X (pc := 10) dX4_lastPlaceWithout_10 0 rfl ?_
    refine J_getf X (pc := 11) 1 sW_c1 rfl in_X4 3 (by decide) q_51 rfl dX4_lastPlaceWithout_11 ?_
    refine J_iconst X (pc := 14) (v := 2) dX4_lastPlaceWithout_14 (by decide +kernel) ?_
    refine J_isub X (pc := 15) dX4_lastPlaceWithout_15 ?_
    refine J_goto X (pc := 16) 25 dX4_lastPlaceWithout_16 (by decide) ?_
    cases h
    exact hE _ _ dX4_lastPlaceWithout_25 rfl
def f_X2_has (a1 : Int32) (S : St) : Option (Int32) := if a1 < 0 then some ((0 : Int32)) else if (S.1 2) ≤ a1 then some ((0 : Int32)) else some ((1 : Int32))
set_option maxRecDepth 100000 in
set_option maxHeartbeats 4000000 in
theorem c_X2_has (E : Ev) (ad : Nat → Nat) {a1 : Int32} {S : St} {r : Int32} (h : f_X2_has a1 S = some r) : CtI E yX2_has cX2_has 2 .boolean 0 0 (sW E ad S) [.ref (ad 2), .int a1] r (sW E ad S) := by
  refine CtI_of (by decide +kernel) (Nat.le_of_ble_eq_true rfl) (fun x X hE => ?_)
  show J E x 0 0 (sW E ad S) 0 [(0, .ref (ad 2)), (1, .int a1)] []
  unfold f_X2_has at h
  refine J_iload_n X (pc := 0) dX2_has_0 1 rfl ?_
  refine J_if_lt X (pc := 1) 16 dX2_has_1 (by decide) (fun c1 => ?_) (fun c1 => ?_)
  · rw [if_pos c1] at h
    refine J_iconst X (pc := 16) (v := 0) dX2_has_16 (by decide +kernel) ?_
    cases h
    exact hE _ _ dX2_has_17 (by decide +kernel)
  · rw [if_neg c1] at h
    refine J_iload_n X (pc := 4) dX2_has_4 1 rfl ?_
    refine J_aload_n X (pc := 5) dX2_has_5 0 rfl ?_
    refine J_getf X (pc := 6) 2 sW_c2 rfl in_X2 4 (by decide) q_62 rfl dX2_has_6 ?_
    refine J_icmp_ge X (pc := 9) 16 dX2_has_9 (by decide) (fun c2 => ?_) (fun c2 => ?_)
    · rw [if_pos c2] at h
      refine J_iconst X (pc := 16) (v := 0) dX2_has_16 (by decide +kernel) ?_
      cases h
      exact hE _ _ dX2_has_17 (by decide +kernel)
    · rw [if_neg c2] at h
      refine J_iconst X (pc := 12) (v := 1) dX2_has_12 (by decide +kernel) ?_
      refine J_goto X (pc := 13) 17 dX2_has_13 (by decide) ?_
      cases h
      exact hE _ _ dX2_has_17 (by decide +kernel)
def f_X2_riseAt (a1 : Int32) (S : St) : Option (Int32) := (f_X2_has a1 S).bind (fun (r1 : Int32) => if r1 = 0 then some ((0 : Int32)) else ck (inb a1 66) (some (S.2 3 a1.toNatClampNeg)))
set_option maxRecDepth 100000 in
set_option maxHeartbeats 4000000 in
theorem c_X2_riseAt (E : Ev) (ad : Nat → Nat) {a1 : Int32} {S : St} {r : Int32} (h : f_X2_riseAt a1 S = some r) : CtI E yX2_riseAt cX2_riseAt 2 .int 1 21 (sW E ad S) [.ref (ad 2), .int a1] r (sW E ad S) := by
  refine CtI_of (by decide +kernel) (Nat.le_of_ble_eq_true rfl) (fun x X hE => ?_)
  show J E x 0 0 (sW E ad S) 0 [(0, .ref (ad 2)), (1, .int a1)] []
  unfold f_X2_riseAt at h
  refine J_aload_n X (pc := 0) dX2_riseAt_0 0 rfl ?_
  refine J_iload_n X (pc := 1) dX2_riseAt_1 1 rfl ?_
  replace h := bk h
  obtain ⟨r1, g2, h⟩ := h
  refine J_callVI X (pc := 2) (y := yX2_has) (na := 1) (As := [.int a1]) (rest := []) (c_X2_has E ad g2) 2 sW_c2 rfl q_64 q_65 q_66 q_67 q_61 rfl (by decide +kernel) (by decide +kernel) rfl (Nat.le_of_ble_eq_true rfl) ⟨Nat.le_refl _, Nat.le_refl _⟩ dX2_riseAt_2 ?_
  refine J_if_eq X (pc := 5) 17 dX2_riseAt_5 (by decide) (fun c3 => ?_) (fun c3 => ?_)
  · rw [if_pos c3] at h
    refine J_iconst X (pc := 17) (v := 0) dX2_riseAt_17 (by decide +kernel) ?_
    cases h
    exact hE _ _ dX2_riseAt_18 rfl
  · rw [if_neg c3] at h
    refine J_aload_n X (pc := 8) dX2_riseAt_8 0 rfl ?_
    refine J_getf X (pc := 9) 2 sW_c2 rfl in_X2 0 (by decide) q_46 rfl dX2_riseAt_9 ?_
    refine J_iload_n X (pc := 12) dX2_riseAt_12 1 rfl ?_
    replace h := ck_e h
    obtain ⟨b4, h⟩ := h
    refine J_iald X (pc := 13) 10 sW_c10 b4 dX2_riseAt_13 ?_
    refine J_goto X (pc := 14) 18 dX2_riseAt_14 (by decide) ?_
    cases h
    exact hE _ _ dX2_riseAt_18 rfl
def f_X2_runAt (a1 : Int32) (S : St) : Option (Int32) := (f_X2_has a1 S).bind (fun (r1 : Int32) => if r1 = 0 then some ((1 : Int32)) else ck (inb a1 66) (some (S.2 4 a1.toNatClampNeg)))
set_option maxRecDepth 100000 in
set_option maxHeartbeats 4000000 in
theorem c_X2_runAt (E : Ev) (ad : Nat → Nat) {a1 : Int32} {S : St} {r : Int32} (h : f_X2_runAt a1 S = some r) : CtI E yX2_runAt cX2_runAt 2 .int 1 21 (sW E ad S) [.ref (ad 2), .int a1] r (sW E ad S) := by
  refine CtI_of (by decide +kernel) (Nat.le_of_ble_eq_true rfl) (fun x X hE => ?_)
  show J E x 0 0 (sW E ad S) 0 [(0, .ref (ad 2)), (1, .int a1)] []
  unfold f_X2_runAt at h
  refine J_aload_n X (pc := 0) dX2_runAt_0 0 rfl ?_
  refine J_iload_n X (pc := 1) dX2_runAt_1 1 rfl ?_
  replace h := bk h
  obtain ⟨r1, g2, h⟩ := h
  refine J_callVI X (pc := 2) (y := yX2_has) (na := 1) (As := [.int a1]) (rest := []) (c_X2_has E ad g2) 2 sW_c2 rfl q_64 q_65 q_66 q_67 q_61 rfl (by decide +kernel) (by decide +kernel) rfl (Nat.le_of_ble_eq_true rfl) ⟨Nat.le_refl _, Nat.le_refl _⟩ dX2_runAt_2 ?_
  refine J_if_eq X (pc := 5) 17 dX2_runAt_5 (by decide) (fun c3 => ?_) (fun c3 => ?_)
  · rw [if_pos c3] at h
    refine J_iconst X (pc := 17) (v := 1) dX2_runAt_17 (by decide +kernel) ?_
    cases h
    exact hE _ _ dX2_runAt_18 rfl
  · rw [if_neg c3] at h
    refine J_aload_n X (pc := 8) dX2_runAt_8 0 rfl ?_
    refine J_getf X (pc := 9) 2 sW_c2 rfl in_X2 1 (by decide) q_47 rfl dX2_runAt_9 ?_
    refine J_iload_n X (pc := 12) dX2_runAt_12 1 rfl ?_
    replace h := ck_e h
    obtain ⟨b4, h⟩ := h
    refine J_iald X (pc := 13) 11 sW_c11 b4 dX2_runAt_13 ?_
    refine J_goto X (pc := 14) 18 dX2_runAt_14 (by decide) ?_
    cases h
    exact hE _ _ dX2_runAt_18 rfl
def f_X2_isGreater (a1 : Int32) (a2 : Int32) (a3 : Int32) (S : St) : Option (Int32) := (f_X2_riseAt a1 S).bind (fun (r1 : Int32) => (f_X2_runAt a1 S).bind (fun (r3 : Int32) => if (lg_cmp (r1.toInt64 * a3.toInt64) (a2.toInt64 * r3.toInt64)) ≤ 0 then some ((0 : Int32)) else some ((1 : Int32))))
set_option maxRecDepth 100000 in
set_option maxHeartbeats 4000000 in
theorem c_X2_isGreater (E : Ev) (ad : Nat → Nat) {a1 : Int32} {a2 : Int32} {a3 : Int32} {S : St} {r : Int32} (h : f_X2_isGreater a1 a2 a3 S = some r) : CtI E yX2_isGreater cX2_isGreater 4 .boolean 2 42 (sW E ad S) [.ref (ad 2), .int a1, .int a2, .int a3] r (sW E ad S) := by
  refine CtI_of (by decide +kernel) (Nat.le_of_ble_eq_true rfl) (fun x X hE => ?_)
  show J E x 0 0 (sW E ad S) 0 [(0, .ref (ad 2)), (1, .int a1), (2, .int a2), (3, .int a3)] []
  unfold f_X2_isGreater at h
  refine J_aload_n X (pc := 0) dX2_isGreater_0 0 rfl ?_
  refine J_iload_n X (pc := 1) dX2_isGreater_1 1 rfl ?_
  replace h := bk h
  obtain ⟨r1, g2, h⟩ := h
  refine J_callVI X (pc := 2) (y := yX2_riseAt) (na := 1) (As := [.int a1]) (rest := []) (c_X2_riseAt E ad g2) 2 sW_c2 rfl q_70 q_71 q_72 q_67 q_63 rfl (by decide +kernel) (by decide +kernel) rfl (Nat.le_of_ble_eq_true rfl) ⟨Nat.le_refl _, Nat.le_refl _⟩ dX2_isGreater_2 ?_
  refine J_i2l X (pc := 5) dX2_isGreater_5 ?_
  refine J_iload_n X (pc := 6) dX2_isGreater_6 3 rfl ?_
  refine J_i2l X (pc := 7) dX2_isGreater_7 ?_
  refine J_lmul X (pc := 8) dX2_isGreater_8 ?_
  refine J_iload_n X (pc := 9) dX2_isGreater_9 2 rfl ?_
  refine J_i2l X (pc := 10) dX2_isGreater_10 ?_
  refine J_aload_n X (pc := 11) dX2_isGreater_11 0 rfl ?_
  refine J_iload_n X (pc := 12) dX2_isGreater_12 1 rfl ?_
  replace h := bk h
  obtain ⟨r3, g4, h⟩ := h
  refine J_callVI X (pc := 13) (y := yX2_runAt) (na := 1) (As := [.int a1]) (rest := [.long a2.toInt64, .long (r1.toInt64 * a3.toInt64)]) (c_X2_runAt E ad g4) 2 sW_c2 rfl q_73 q_74 q_75 q_67 q_68 rfl (by decide +kernel) (by decide +kernel) rfl (Nat.le_of_ble_eq_true rfl) ⟨Nat.le_refl _, Nat.le_refl _⟩ dX2_isGreater_13 ?_
  refine J_i2l X (pc := 16) dX2_isGreater_16 ?_
  refine J_lmul X (pc := 17) dX2_isGreater_17 ?_
  refine J_lcmp X (pc := 18) dX2_isGreater_18 ?_
  refine J_if_le X (pc := 19) 26 dX2_isGreater_19 (by decide) (fun c5 => ?_) (fun c5 => ?_)
  · rw [if_pos c5] at h
    refine J_iconst X (pc := 26) (v := 0) dX2_isGreater_26 (by decide +kernel) ?_
    cases h
    exact hE _ _ dX2_isGreater_27 (by decide +kernel)
  · rw [if_neg c5] at h
    refine J_iconst X (pc := 22) (v := 1) dX2_isGreater_22 (by decide +kernel) ?_
    refine J_goto X (pc := 23) 27 dX2_isGreater_23 (by decide) ?_
    cases h
    exact hE _ _ dX2_isGreater_27 (by decide +kernel)
def f_X2_putInOrder_42 (v6 : Int32) (v11 : Int32) : Nat → Int32 → St → Option (Int32 × St)
  | 0, _, _ => none
  | n15+1, x13, S14 => if x13 ≤ 0 then some (x13, S14) else (f_X2_isGreater (x13 - ((1 : Int32))) v6 v11 S14).bind (fun (r22 : Int32) => if r22 = 0 then some (x13, S14) else ck (inb (x13 - ((1 : Int32))) 66) (ck (inb x13 66) (nmv (sA S14 3 x13.toNatClampNeg (S14.2 3 (x13 - ((1 : Int32))).toNatClampNeg)) (fun (S27 : St) => ck (inb (x13 - ((1 : Int32))) 66) (ck (inb x13 66) (nmv (sA S27 4 x13.toNatClampNeg (S27.2 4 (x13 - ((1 : Int32))).toNatClampNeg)) (fun (S30 : St) => ck (inb (x13 - ((1 : Int32))) 66) (ck (inb x13 66) (nmv (sA S30 5 x13.toNatClampNeg (S30.2 5 (x13 - ((1 : Int32))).toNatClampNeg)) (fun (S33 : St) => ck (inb (x13 - ((1 : Int32))) 66) (ck (inb x13 66) (nmv (sA S33 6 x13.toNatClampNeg (S33.2 6 (x13 - ((1 : Int32))).toNatClampNeg)) (fun (S36 : St) => nmv (x13 + (-1 : Int32)) (fun (v37 : Int32) => f_X2_putInOrder_42 v6 v11 n15 v37 S36))))))))))))))
def f_X2_putInOrder (a2 : Int32) (a3 : Int32) (S : St) : Option (St) := if (S.1 2) < ((66 : Int32)) then (f_X4_filledAt a3 S).bind (fun (r2 : Int32) => (f_X4_filledAt a2 S).bind (fun (r4 : Int32) => nmv (r2 - r4) (fun (v6 : Int32) => (f_X4_dayAt a3 S).bind (fun (r7 : Int32) => (f_X4_dayAt a2 S).bind (fun (r9 : Int32) => nmv (r7 - r9) (fun (v11 : Int32) => nmv (S.1 2) (fun (v12 : Int32) => (f_X2_putInOrder_42 v6 v11 3000 v12 S).bind (fun ((r17, S18) : Int32 × St) => ck (inb r17 66) (nmv (sA S18 3 r17.toNatClampNeg v6) (fun (S40 : St) => ck (inb r17 66) (nmv (sA S40 4 r17.toNatClampNeg v11) (fun (S42 : St) => ck (inb r17 66) (nmv (sA S42 5 r17.toNatClampNeg a2) (fun (S44 : St) => ck (inb r17 66) (nmv (sA S44 6 r17.toNatClampNeg a3) (fun (S46 : St) => nmv (sF S46 2 ((S46.1 2) + ((1 : Int32)))) (fun (S47 : St) => some S47))))))))))))))))) else some S
set_option maxRecDepth 100000 in
set_option maxHeartbeats 4000000 in
theorem c_X2_putInOrder (E : Ev) (ad : Nat → Nat) {a2 : Int32} {a3 : Int32} {S : St} {S2 : St} (h : f_X2_putInOrder a2 a3 S = some S2) : CtV E yX2_putInOrder cX2_putInOrder 7 3 65 (sW E ad S) [.ref (ad 2), .ref (ad 1), .int a2, .int a3] (sW E ad S2) := by
  refine CtV_of (by decide +kernel) (Nat.le_of_ble_eq_true rfl) (fun x X hE => ?_)
  show J E x 0 0 (sW E ad S) 0 [(0, .ref (ad 2)), (1, .ref (ad 1)), (2, .int a2), (3, .int a3)] []
  unfold f_X2_putInOrder at h
  refine J_aload_n X (pc := 0) dX2_putInOrder_0 0 rfl ?_
  refine J_getf X (pc := 1) 2 sW_c2 rfl in_X2 4 (by decide) q_62 rfl dX2_putInOrder_1 ?_
  refine J_bipush X (pc := 4) (v := 66) dX2_putInOrder_4 (by decide +kernel) ?_
  refine J_icmp_lt X (pc := 6) 10 dX2_putInOrder_6 (by decide) (fun c1 => ?_) (fun c1 => ?_)
  · rw [if_pos c1] at h
    refine J_aload_n X (pc := 10) dX2_putInOrder_10 1 rfl ?_
    refine J_iload_n X (pc := 11) dX2_putInOrder_11 3 rfl ?_
    replace h := bk h
    obtain ⟨r2, g3, h⟩ := h
    refine J_callVI X (pc := 12) (y := yX4_filledAt) (na := 1) (As := [.int a3]) (rest := []) (c_X4_filledAt E ad g3) 1 sW_c1 rfl q_76 q_77 q_78 q_58 q_53 rfl (by decide +kernel) (by decide +kernel) rfl (Nat.le_of_ble_eq_true rfl) ⟨Nat.le_refl _, Nat.le_refl _⟩ dX2_putInOrder_12 ?_
    refine J_aload_n X (pc := 15) dX2_putInOrder_15 1 rfl ?_
    refine J_iload_n X (pc := 16) dX2_putInOrder_16 2 rfl ?_
    replace h := bk h
    obtain ⟨r4, g5, h⟩ := h
    refine J_callVI X (pc := 17) (y := yX4_filledAt) (na := 1) (As := [.int a2]) (rest := [.int r2]) (c_X4_filledAt E ad g5) 1 sW_c1 rfl q_76 q_77 q_78 q_58 q_53 rfl (by decide +kernel) (by decide +kernel) rfl (Nat.le_of_ble_eq_true rfl) ⟨Nat.le_refl _, Nat.le_refl _⟩ dX2_putInOrder_17 ?_
    refine J_isub X (pc := 20) dX2_putInOrder_20 ?_
    replace h := nmv_e h
    obtain ⟨v6, ev6, h⟩ := h
    refine J_nmi ev6 ?_
    refine J_istore X (pc := 21) dX2_putInOrder_21 (by decide) rfl ?_
    refine J_aload_n X (pc := 23) dX2_putInOrder_23 2 rfl ?_
    refine J_iload_n X (pc := 24) dX2_putInOrder_24 4 rfl ?_
    replace h := bk h
    obtain ⟨r7, g8, h⟩ := h
    refine J_callVI X (pc := 25) (y := yX4_dayAt) (na := 1) (As := [.int a3]) (rest := []) (c_X4_dayAt E ad g8) 1 sW_c1 rfl q_79 q_80 q_81 q_58 q_59 rfl (by decide +kernel) (by decide +kernel) rfl (Nat.le_of_ble_eq_true rfl) ⟨Nat.le_refl _, Nat.le_refl _⟩ dX2_putInOrder_25 ?_
    refine J_aload_n X (pc := 28) dX2_putInOrder_28 2 rfl ?_
    refine J_iload_n X (pc := 29) dX2_putInOrder_29 3 rfl ?_
    replace h := bk h
    obtain ⟨r9, g10, h⟩ := h
    refine J_callVI X (pc := 30) (y := yX4_dayAt) (na := 1) (As := [.int a2]) (rest := [.int r7]) (c_X4_dayAt E ad g10) 1 sW_c1 rfl q_79 q_80 q_81 q_58 q_59 rfl (by decide +kernel) (by decide +kernel) rfl (Nat.le_of_ble_eq_true rfl) ⟨Nat.le_refl _, Nat.le_refl _⟩ dX2_putInOrder_30 ?_
    refine J_isub X (pc := 33) dX2_putInOrder_33 ?_
    replace h := nmv_e h
    obtain ⟨v11, ev11, h⟩ := h
    refine J_nmi ev11 ?_
    refine J_istore X (pc := 34) dX2_putInOrder_34 (by decide) rfl ?_
    refine J_aload_n X (pc := 36) dX2_putInOrder_36 2 rfl ?_
    refine J_getf X (pc := 37) 2 sW_c2 rfl in_X2 4 (by decide) q_62 rfl dX2_putInOrder_37 ?_
    replace h := nmv_e h
    obtain ⟨v12, ev12, h⟩ := h
    refine J_nmi ev12 ?_
    refine J_istore X (pc := 40) dX2_putInOrder_40 (by decide) rfl ?_
    replace h := bk h
    obtain ⟨⟨r17, S18⟩, g20, h⟩ := h
    dsimp only at h
    have k19 : J E x 0 0 (sW E ad S18) 132 [(0, .ref (ad 2)), (2, .int a2), (3, .int a3), (4, .int v6), (5, .int v11), (6, .int r17)] [] := by
      refine J_aload_n X (pc := 132) dX2_putInOrder_132 0 rfl ?_
      refine J_getf X (pc := 133) 2 sW_c2 rfl in_X2 0 (by decide) q_46 rfl dX2_putInOrder_133 ?_
      refine J_iload X (pc := 136) dX2_putInOrder_136 5 rfl ?_
      refine J_iload X (pc := 138) dX2_putInOrder_138 3 rfl ?_
      replace h := ck_e h
      obtain ⟨b39, h⟩ := h
      replace h := nmv_e h
      obtain ⟨S40, eS40, h⟩ := h
      refine J_iast X (pc := 140) (w1 := (sW E ad S40)) 10 sW_c10 b39 dX2_putInOrder_140 (sW_a3 eS40) ?_
      refine J_aload_n X (pc := 141) dX2_putInOrder_141 0 rfl ?_
      refine J_getf X (pc := 142) 2 sW_c2 rfl in_X2 1 (by decide) q_47 rfl dX2_putInOrder_142 ?_
      refine J_iload X (pc := 145) dX2_putInOrder_145 5 rfl ?_
      refine J_iload X (pc := 147) dX2_putInOrder_147 4 rfl ?_
      replace h := ck_e h
      obtain ⟨b41, h⟩ := h
      replace h := nmv_e h
      obtain ⟨S42, eS42, h⟩ := h
      refine J_iast X (pc := 149) (w1 := (sW E ad S42)) 11 sW_c11 b41 dX2_putInOrder_149 (sW_a4 eS42) ?_
      refine J_aload_n X (pc := 150) dX2_putInOrder_150 0 rfl ?_
      refine J_getf X (pc := 151) 2 sW_c2 rfl in_X2 2 (by decide) q_48 rfl dX2_putInOrder_151 ?_
      refine J_iload X (pc := 154) dX2_putInOrder_154 5 rfl ?_
      refine J_iload_n X (pc := 156) dX2_putInOrder_156 1 rfl ?_
      replace h := ck_e h
      obtain ⟨b43, h⟩ := h
      replace h := nmv_e h
      obtain ⟨S44, eS44, h⟩ := h
      refine J_iast X (pc := 157) (w1 := (sW E ad S44)) 12 sW_c12 b43 dX2_putInOrder_157 (sW_a5 eS44) ?_
      refine J_aload_n X (pc := 158) dX2_putInOrder_158 0 rfl ?_
      refine J_getf X (pc := 159) 2 sW_c2 rfl in_X2 3 (by decide) q_49 rfl dX2_putInOrder_159 ?_
      refine J_iload X (pc := 162) dX2_putInOrder_162 5 rfl ?_
      refine J_iload_n X (pc := 164) dX2_putInOrder_164 2 rfl ?_
      replace h := ck_e h
      obtain ⟨b45, h⟩ := h
      replace h := nmv_e h
      obtain ⟨S46, eS46, h⟩ := h
      refine J_iast X (pc := 165) (w1 := (sW E ad S46)) 13 sW_c13 b45 dX2_putInOrder_165 (sW_a6 eS46) ?_
      refine J_aload_n X (pc := 166) dX2_putInOrder_166 0 rfl ?_
      refine J_dup X (pc := 167) dX2_putInOrder_167 rfl ?_
      refine J_getf X (pc := 168) 2 sW_c2 rfl in_X2 4 (by decide) q_62 rfl dX2_putInOrder_168 ?_
      refine J_iconst X (pc := 171) (v := 1) dX2_putInOrder_171 (by decide +kernel) ?_
      refine J_iadd X (pc := 172) dX2_putInOrder_172 ?_
      replace h := nmv_e h
      obtain ⟨S47, eS47, h⟩ := h
      refine J_putf X (pc := 173) (ty := .int) (w1 := (sW E ad S47)) 2 sW_c2 rfl in_X2 tyX2_ok nmX2 4 (by decide) q_62 rfl (by decide +kernel) rfl rfl (Nat.le_of_ble_eq_true rfl) dX2_putInOrder_173 (sW_p2 eS47) ?_
      cases h
      exact hE _ _ dX2_putInOrder_176
    clear h
    have l38 : ∀ (n15 : Nat) (x13 : Int32) (S14 : St), f_X2_putInOrder_42 v6 v11 n15 x13 S14 = some (r17, S18) → J E x 0 0 (sW E ad S14) 42 [(0, .ref (ad 2)), (2, .int a2), (3, .int a3), (4, .int v6), (5, .int v11), (6, .int x13)] [] := by
      intro n15
      induction n15 with
      | zero => intro x13 S14 h; rw [f_X2_putInOrder_42] at h; cases h
      | succ n15 ih16 =>
        intro x13 S14 h
        rw [f_X2_putInOrder_42] at h
        refine J_iload X (pc := 42) dX2_putInOrder_42 5 rfl ?_
        refine J_if_le X (pc := 44) 132 dX2_putInOrder_44 (by decide) (fun c21 => ?_) (fun c21 => ?_)
        · rw [if_pos c21] at h
          cases h
          exact J_sub [0, 1, 2, 3, 4, 5] rfl k19
        · rw [if_neg c21] at h
          refine J_aload_n X (pc := 47) dX2_putInOrder_47 0 rfl ?_
          refine J_iload X (pc := 48) dX2_putInOrder_48 5 rfl ?_
          refine J_iconst X (pc := 50) (v := 1) dX2_putInOrder_50 (by decide +kernel) ?_
          refine J_isub X (pc := 51) dX2_putInOrder_51 ?_
          refine J_iload X (pc := 52) dX2_putInOrder_52 3 rfl ?_
          refine J_iload X (pc := 54) dX2_putInOrder_54 4 rfl ?_
          replace h := bk h
          obtain ⟨r22, g23, h⟩ := h
          refine J_callVI X (pc := 56) (y := yX2_isGreater) (na := 3) (As := [.int (x13 - ((1 : Int32))), .int v6, .int v11]) (rest := []) (c_X2_isGreater E ad g23) 2 sW_c2 rfl q_82 q_83 q_84 q_67 q_69 rfl (by decide +kernel) (by decide +kernel) rfl (Nat.le_of_ble_eq_true rfl) ⟨Nat.le_refl _, Nat.le_refl _⟩ dX2_putInOrder_56 ?_
          refine J_if_eq X (pc := 59) 132 dX2_putInOrder_59 (by decide) (fun c24 => ?_) (fun c24 => ?_)
          · rw [if_pos c24] at h
            cases h
            exact J_sub [0, 1, 2, 3, 4, 5] rfl k19
          · rw [if_neg c24] at h
            refine J_aload_n X (pc := 62) dX2_putInOrder_62 0 rfl ?_
            refine J_getf X (pc := 63) 2 sW_c2 rfl in_X2 0 (by decide) q_46 rfl dX2_putInOrder_63 ?_
            refine J_iload X (pc := 66) dX2_putInOrder_66 5 rfl ?_
            refine J_aload_n X (pc := 68) dX2_putInOrder_68 0 rfl ?_
            refine J_getf X (pc := 69) 2 sW_c2 rfl in_X2 0 (by decide) q_46 rfl dX2_putInOrder_69 ?_
            refine J_iload X (pc := 72) dX2_putInOrder_72 5 rfl ?_
            refine J_iconst X (pc := 74) (v := 1) dX2_putInOrder_74 (by decide +kernel) ?_
            refine J_isub X (pc := 75) dX2_putInOrder_75 ?_
            replace h := ck_e h
            obtain ⟨b25, h⟩ := h
            refine J_iald X (pc := 76) 10 sW_c10 b25 dX2_putInOrder_76 ?_
            replace h := ck_e h
            obtain ⟨b26, h⟩ := h
            replace h := nmv_e h
            obtain ⟨S27, eS27, h⟩ := h
            refine J_iast X (pc := 77) (w1 := (sW E ad S27)) 10 sW_c10 b26 dX2_putInOrder_77 (sW_a3 eS27) ?_
            refine J_aload_n X (pc := 78) dX2_putInOrder_78 0 rfl ?_
            refine J_getf X (pc := 79) 2 sW_c2 rfl in_X2 1 (by decide) q_47 rfl dX2_putInOrder_79 ?_
            refine J_iload X (pc := 82) dX2_putInOrder_82 5 rfl ?_
            refine J_aload_n X (pc := 84) dX2_putInOrder_84 0 rfl ?_
            refine J_getf X (pc := 85) 2 sW_c2 rfl in_X2 1 (by decide) q_47 rfl dX2_putInOrder_85 ?_
            refine J_iload X (pc := 88) dX2_putInOrder_88 5 rfl ?_
            refine J_iconst X (pc := 90) (v := 1) dX2_putInOrder_90 (by decide +kernel) ?_
            refine J_isub X (pc := 91) dX2_putInOrder_91 ?_
            replace h := ck_e h
            obtain ⟨b28, h⟩ := h
            refine J_iald X (pc := 92) 11 sW_c11 b28 dX2_putInOrder_92 ?_
            replace h := ck_e h
            obtain ⟨b29, h⟩ := h
            replace h := nmv_e h
            obtain ⟨S30, eS30, h⟩ := h
            refine J_iast X (pc := 93) (w1 := (sW E ad S30)) 11 sW_c11 b29 dX2_putInOrder_93 (sW_a4 eS30) ?_
            refine J_aload_n X (pc := 94) dX2_putInOrder_94 0 rfl ?_
            refine J_getf X (pc := 95) 2 sW_c2 rfl in_X2 2 (by decide) q_48 rfl dX2_putInOrder_95 ?_
            refine J_iload X (pc := 98) dX2_putInOrder_98 5 rfl ?_
            refine J_aload_n X (pc := 100) dX2_putInOrder_100 0 rfl ?_
            refine J_getf X (pc := 101) 2 sW_c2 rfl in_X2 2 (by decide) q_48 rfl dX2_putInOrder_101 ?_
            refine J_iload X (pc := 104) dX2_putInOrder_104 5 rfl ?_
            refine J_iconst X (pc := 106) (v := 1) dX2_putInOrder_106 (by decide +kernel) ?_
            refine J_isub X (pc := 107) dX2_putInOrder_107 ?_
            replace h := ck_e h
            obtain ⟨b31, h⟩ := h
            refine J_iald X (pc := 108) 12 sW_c12 b31 dX2_putInOrder_108 ?_
            replace h := ck_e h
            obtain ⟨b32, h⟩ := h
            replace h := nmv_e h
            obtain ⟨S33, eS33, h⟩ := h
            refine J_iast X (pc := 109) (w1 := (sW E ad S33)) 12 sW_c12 b32 dX2_putInOrder_109 (sW_a5 eS33) ?_
            refine J_aload_n X (pc := 110) dX2_putInOrder_110 0 rfl ?_
            refine J_getf X (pc := 111) 2 sW_c2 rfl in_X2 3 (by decide) q_49 rfl dX2_putInOrder_111 ?_
            refine J_iload X (pc := 114) dX2_putInOrder_114 5 rfl ?_
            refine J_aload_n X (pc := 116) dX2_putInOrder_116 0 rfl ?_
            refine J_getf X (pc := 117) 2 sW_c2 rfl in_X2 3 (by decide) q_49 rfl dX2_putInOrder_117 ?_
            refine J_iload X (pc := 120) dX2_putInOrder_120 5 rfl ?_
            refine J_iconst X (pc := 122) (v := 1) dX2_putInOrder_122 (by decide +kernel) ?_
            refine J_isub X (pc := 123) dX2_putInOrder_123 ?_
            replace h := ck_e h
            obtain ⟨b34, h⟩ := h
            refine J_iald X (pc := 124) 13 sW_c13 b34 dX2_putInOrder_124 ?_
            replace h := ck_e h
            obtain ⟨b35, h⟩ := h
            replace h := nmv_e h
            obtain ⟨S36, eS36, h⟩ := h
            refine J_iast X (pc := 125) (w1 := (sW E ad S36)) 13 sW_c13 b35 dX2_putInOrder_125 (sW_a6 eS36) ?_
            replace h := nmv_e h
            obtain ⟨v37, ev37, h⟩ := h
            refine J_iinc X (pc := 126) (v := v37) dX2_putInOrder_126 5 rfl (by rw [ev37]; rfl) (by decide) rfl ?_
            refine J_goto X (pc := 129) 42 dX2_putInOrder_129 (by decide) ?_
            exact J_sub [1, 2, 3, 4, 5, 0] rfl (ih16 _ _ h)
    exact J_sub [3, 5, 6, 2, 1, 0] rfl (l38 3000 _ _ g20)
  · rw [if_neg c1] at h
    cases h
    exact hE _ _ dX2_putInOrder_9
def f_X2_orderAll_25 (x5 : Int32) : Nat → Int32 → St → Option (St)
  | 0, _, _ => none
  | n17+1, x15, S16 => if x5 ≤ x15 then some S16 else (f_X2_putInOrder x15 x5 S16).bind (fun (S23 : St) => nmv (x15 + (1 : Int32)) (fun (v25 : Int32) => f_X2_orderAll_25 x5 n17 v25 S23))
def f_X2_orderAll_15 : Nat → Int32 → St → Option (St)
  | 0, _, _ => none
  | n7+1, x5, S6 => (f_X4_number S6).bind (fun (r12 : Int32) => if r12 ≤ x5 then some S6 else (f_X2_orderAll_25 x5 3000 ((0 : Int32)) S6).bind (fun (S19 : St) => nmv (x5 + (1 : Int32)) (fun (v27 : Int32) => f_X2_orderAll_15 n7 v27 S19)))
def f_X2_orderAll (S : St) : Option (St) := nmv (sF S 2 ((0 : Int32))) (fun (S1 : St) => (f_X4_number S1).bind (fun (r2 : Int32) => nmv (sF S1 3 r2) (fun (S4 : St) => (f_X2_orderAll_15 3000 ((1 : Int32)) S4).bind (fun (S9 : St) => some S9))))
set_option maxRecDepth 100000 in
set_option maxHeartbeats 4000000 in
theorem c_X2_orderAll (E : Ev) (ad : Nat → Nat) {S : St} {S2 : St} (h : f_X2_orderAll S = some S2) : CtV E yX2_orderAll cX2_orderAll 4 4 91 (sW E ad S) [.ref (ad 2), .ref (ad 1)] (sW E ad S2) := by
  refine CtV_of (by decide +kernel) (Nat.le_of_ble_eq_true rfl) (fun x X hE => ?_)
  show J E x 0 0 (sW E ad S) 0 [(0, .ref (ad 2)), (1, .ref (ad 1))] []
  unfold f_X2_orderAll at h
  refine J_aload_n X (pc := 0) dX2_orderAll_0 0 rfl ?_
  refine J_iconst X (pc := 1) (v := 0) dX2_orderAll_1 (by decide +kernel) ?_
  replace h := nmv_e h
  obtain ⟨S1, eS1, h⟩ := h
  refine J_putf X (pc := 2) (ty := .int) (w1 := (sW E ad S1)) 2 sW_c2 rfl in_X2 tyX2_ok nmX2 4 (by decide) q_62 rfl (by decide +kernel) rfl rfl (Nat.le_of_ble_eq_true rfl) dX2_orderAll_2 (sW_p2 eS1) ?_
  refine J_aload_n X (pc := 5) dX2_orderAll_5 0 rfl ?_
  refine J_aload_n X (pc := 6) dX2_orderAll_6 1 rfl ?_
  replace h := bk h
  obtain ⟨r2, g3, h⟩ := h
  refine J_callVI X (pc := 7) (y := yX4_number) (na := 0) (As := []) (rest := [.ref (ad 2)]) (c_X4_number E ad g3) 1 sW_c1 rfl q_87 q_88 q_89 q_58 q_50 rfl (by decide +kernel) (by decide +kernel) rfl (Nat.le_of_ble_eq_true rfl) ⟨Nat.le_refl _, Nat.le_refl _⟩ dX2_orderAll_7 ?_
  replace h := nmv_e h
  obtain ⟨S4, eS4, h⟩ := h
  refine J_putf X (pc := 10) (ty := .int) (w1 := (sW E ad S4)) 2 sW_c2 rfl in_X2 tyX2_ok nmX2 5 (by decide) q_86 rfl (by decide +kernel) rfl rfl (Nat.le_of_ble_eq_true rfl) dX2_orderAll_10 (sW_p3 eS4) ?_
  refine J_iconst X (pc := 13) (v := 1) dX2_orderAll_13 (by decide +kernel) ?_
  refine J_istore_n X (pc := 14) dX2_orderAll_14 (by decide) rfl ?_
  replace h := bk h
  obtain ⟨S9, g11, h⟩ := h
  have k10 : J E x 0 0 (sW E ad S9) 49 [] [] := by
    cases h
    exact hE _ _ dX2_orderAll_49
  clear h
  have l28 : ∀ (n7 : Nat) (x5 : Int32) (S6 : St), f_X2_orderAll_15 n7 x5 S6 = some S9 → J E x 0 0 (sW E ad S6) 15 [(0, .ref (ad 2)), (1, .ref (ad 1)), (2, .int x5)] [] := by
    intro n7
    induction n7 with
    | zero => intro x5 S6 h; rw [f_X2_orderAll_15] at h; cases h
    | succ n7 ih8 =>
      intro x5 S6 h
      rw [f_X2_orderAll_15] at h
      refine J_iload_n X (pc := 15) dX2_orderAll_15 2 rfl ?_
      refine J_aload_n X (pc := 16) dX2_orderAll_16 1 rfl ?_
      replace h := bk h
      obtain ⟨r12, g13, h⟩ := h
      refine J_callVI X (pc := 17) (y := yX4_number) (na := 0) (As := []) (rest := [.int x5]) (c_X4_number E ad g13) 1 sW_c1 rfl q_87 q_88 q_89 q_58 q_50 rfl (by decide +kernel) (by decide +kernel) rfl (Nat.le_of_ble_eq_true rfl) ⟨Nat.le_refl _, Nat.le_refl _⟩ dX2_orderAll_17 ?_
      refine J_icmp_ge X (pc := 20) 49 dX2_orderAll_20 (by decide) (fun c14 => ?_) (fun c14 => ?_)
      · rw [if_pos c14] at h
        cases h
        exact J_sub [] rfl k10
      · rw [if_neg c14] at h
        refine J_iconst X (pc := 23) (v := 0) dX2_orderAll_23 (by decide +kernel) ?_
        refine J_istore_n X (pc := 24) dX2_orderAll_24 (by decide) rfl ?_
        replace h := bk h
        obtain ⟨S19, g21, h⟩ := h
        have k20 : J E x 0 0 (sW E ad S19) 43 [(0, .ref (ad 2)), (1, .ref (ad 1)), (2, .int x5)] [] := by
          replace h := nmv_e h
          obtain ⟨v27, ev27, h⟩ := h
          refine J_iinc X (pc := 43) (v := v27) dX2_orderAll_43 2 rfl (by rw [ev27]; rfl) (by decide) rfl ?_
          refine J_goto X (pc := 46) 15 dX2_orderAll_46 (by decide) ?_
          exact J_sub [1, 2, 0] rfl (ih8 _ _ h)
        clear h
        have l26 : ∀ (n17 : Nat) (x15 : Int32) (S16 : St), f_X2_orderAll_25 x5 n17 x15 S16 = some S19 → J E x 0 0 (sW E ad S16) 25 [(0, .ref (ad 2)), (1, .ref (ad 1)), (2, .int x5), (3, .int x15)] [] := by
          intro n17
          induction n17 with
          | zero => intro x15 S16 h; rw [f_X2_orderAll_25] at h; cases h
          | succ n17 ih18 =>
            intro x15 S16 h
            rw [f_X2_orderAll_25] at h
            refine J_iload_n X (pc := 25) dX2_orderAll_25 3 rfl ?_
            refine J_iload_n X (pc := 26) dX2_orderAll_26 2 rfl ?_
            refine J_icmp_ge X (pc := 27) 43 dX2_orderAll_27 (by decide) (fun c22 => ?_) (fun c22 => ?_)
            · rw [if_pos c22] at h
              cases h
              exact J_sub [0, 1, 2] rfl k20
            · rw [if_neg c22] at h
              refine J_aload_n X (pc := 30) dX2_orderAll_30 0 rfl ?_
              refine J_aload_n X (pc := 31) dX2_orderAll_31 1 rfl ?_
              refine J_iload_n X (pc := 32) dX2_orderAll_32 3 rfl ?_
              refine J_iload_n X (pc := 33) dX2_orderAll_33 2 rfl ?_
              replace h := bk h
              obtain ⟨S23, g24, h⟩ := h
              refine J_callVV X (pc := 34) (y := yX2_putInOrder) (na := 3) (As := [.ref (ad 1), .int x15, .int x5]) (rest := []) (c_X2_putInOrder E ad g24) 2 sW_c2 rfl q_90 q_91 q_92 q_67 q_85 rfl (by decide +kernel) (by decide +kernel) rfl (Nat.le_of_ble_eq_true rfl) ⟨Nat.le_refl _, Nat.le_refl _⟩ dX2_orderAll_34 ?_
              replace h := nmv_e h
              obtain ⟨v25, ev25, h⟩ := h
              refine J_iinc X (pc := 37) (v := v25) dX2_orderAll_37 3 rfl (by rw [ev25]; rfl) (by decide) rfl ?_
              refine J_goto X (pc := 40) 25 dX2_orderAll_40 (by decide) ?_
              exact J_sub [1, 2, 3, 0] rfl (ih18 _ _ h)
        exact J_sub [1, 2, 3, 0] rfl (l26 3000 _ _ g21)
  exact J_sub [1, 2, 0] rfl (l28 3000 _ _ g11)
def f_X2_numberWithout (a1 : Int32) (S : St) : Option (Int32) := (if a1 = ((-1 : Int32)) then some (S.1 3) else some ((S.1 3) - ((1 : Int32)))).bind (fun (r2 : Int32) => some ((r2 * (r2 - ((1 : Int32)))) / ((2 : Int32))))
set_option maxRecDepth 100000 in
set_option maxHeartbeats 4000000 in
theorem c_X2_numberWithout (E : Ev) (ad : Nat → Nat) {a1 : Int32} {S : St} {r : Int32} (h : f_X2_numberWithout a1 S = some r) : CtI E yX2_numberWithout cX2_numberWithout 3 .int 0 0 (sW E ad S) [.ref (ad 2), .int a1] r (sW E ad S) := by
  refine CtI_of (by decide +kernel) (Nat.le_of_ble_eq_true rfl) (fun x X hE => ?_)
  show J E x 0 0 (sW E ad S) 0 [(0, .ref (ad 2)), (1, .int a1)] []
  unfold f_X2_numberWithout at h
  refine J_iload_n X (pc := 0) dX2_numberWithout_0 1 rfl ?_
  refine J_iconst X (pc := 1) (v := -1) dX2_numberWithout_1 (by decide +kernel) ?_
  replace h := bk h
  obtain ⟨r2, g4, h⟩ := h
  have j3 : J E x 0 0 (sW E ad S) 18 [] [.int r2] := by
    refine J_istore_n X (pc := 18) dX2_numberWithout_18 (by decide) rfl ?_
    refine J_iload_n X (pc := 19) dX2_numberWithout_19 0 rfl ?_
    refine J_iload_n X (pc := 20) dX2_numberWithout_20 0 rfl ?_
    refine J_iconst X (pc := 21) (v := 1) dX2_numberWithout_21 (by decide +kernel) ?_
    refine J_isub X (pc := 22) dX2_numberWithout_22 ?_
    refine J_imul X (pc := 23) dX2_numberWithout_23 ?_
    refine J_iconst X (pc := 24) (v := 2) dX2_numberWithout_24 (by decide +kernel) ?_
    refine J_idiv X (pc := 25) dX2_numberWithout_25 (by decide +kernel) ?_
    cases h
    exact hE _ _ dX2_numberWithout_26 rfl
  refine J_icmp_ne X (pc := 2) 12 dX2_numberWithout_2 (by decide) (fun c1 => ?_) (fun c1 => ?_)
  · rw [if_neg c1] at g4
    refine J_aload_n X (pc := 12) dX2_numberWithout_12 0 rfl ?_
    refine J_getf X (pc := 13) 2 sW_c2 rfl in_X2 5 (by decide) q_86 rfl dX2_numberWithout_13 ?_
    refine J_iconst X (pc := 16) (v := 1) dX2_numberWithout_16 (by decide +kernel) ?_
    refine J_isub X (pc := 17) dX2_numberWithout_17 ?_
    cases g4
    exact J_sub [] rfl j3
  · rw [if_pos c1] at g4
    refine J_aload_n X (pc := 5) dX2_numberWithout_5 0 rfl ?_
    refine J_getf X (pc := 6) 2 sW_c2 rfl in_X2 5 (by decide) q_86 rfl dX2_numberWithout_6 ?_
    refine J_goto X (pc := 9) 18 dX2_numberWithout_9 (by decide) ?_
    cases g4
    exact J_sub [] rfl j3
def f_X2_isWithout (a1 : Int32) (a2 : Int32) (S : St) : Option (Int32) := if a1 < 0 then some ((0 : Int32)) else if (S.1 2) ≤ a1 then some ((0 : Int32)) else ck (inb a1 66) (if (S.2 5 a1.toNatClampNeg) = a2 then some ((0 : Int32)) else ck (inb a1 66) (if (S.2 6 a1.toNatClampNeg) = a2 then some ((0 : Int32)) else some ((1 : Int32))))
set_option maxRecDepth 100000 in
set_option maxHeartbeats 4000000 in
theorem c_X2_isWithout (E : Ev) (ad : Nat → Nat) {a1 : Int32} {a2 : Int32} {S : St} {r : Int32} (h : f_X2_isWithout a1 a2 S = some r) : CtI E yX2_isWithout cX2_isWithout 3 .boolean 0 0 (sW E ad S) [.ref (ad 2), .int a1, .int a2] r (sW E ad S) := by
  refine CtI_of (by decide +kernel) (Nat.le_of_ble_eq_true rfl) (fun x X hE => ?_)
  show J E x 0 0 (sW E ad S) 0 [(0, .ref (ad 2)), (1, .int a1), (2, .int a2)] []
  unfold f_X2_isWithout at h
  refine J_iload_n X (pc := 0) dX2_isWithout_0 1 rfl ?_
  refine J_if_lt X (pc := 1) 36 dX2_isWithout_1 (by decide) (fun c1 => ?_) (fun c1 => ?_)
  · rw [if_pos c1] at h
    refine J_iconst X (pc := 36) (v := 0) dX2_isWithout_36 (by decide +kernel) ?_
    cases h
    exact hE _ _ dX2_isWithout_37 (by decide +kernel)
  · rw [if_neg c1] at h
    refine J_iload_n X (pc := 4) dX2_isWithout_4 1 rfl ?_
    refine J_aload_n X (pc := 5) dX2_isWithout_5 0 rfl ?_
    refine J_getf X (pc := 6) 2 sW_c2 rfl in_X2 4 (by decide) q_62 rfl dX2_isWithout_6 ?_
    refine J_icmp_ge X (pc := 9) 36 dX2_isWithout_9 (by decide) (fun c2 => ?_) (fun c2 => ?_)
    · rw [if_pos c2] at h
      refine J_iconst X (pc := 36) (v := 0) dX2_isWithout_36 (by decide +kernel) ?_
      cases h
      exact hE _ _ dX2_isWithout_37 (by decide +kernel)
    · rw [if_neg c2] at h
      refine J_aload_n X (pc := 12) dX2_isWithout_12 0 rfl ?_
      refine J_getf X (pc := 13) 2 sW_c2 rfl in_X2 2 (by decide) q_48 rfl dX2_isWithout_13 ?_
      refine J_iload_n X (pc := 16) dX2_isWithout_16 1 rfl ?_
      replace h := ck_e h
      obtain ⟨b3, h⟩ := h
      refine J_iald X (pc := 17) 12 sW_c12 b3 dX2_isWithout_17 ?_
      refine J_iload_n X (pc := 18) dX2_isWithout_18 2 rfl ?_
      refine J_icmp_eq X (pc := 19) 36 dX2_isWithout_19 (by decide) (fun c4 => ?_) (fun c4 => ?_)
      · rw [if_pos c4] at h
        refine J_iconst X (pc := 36) (v := 0) dX2_isWithout_36 (by decide +kernel) ?_
        cases h
        exact hE _ _ dX2_isWithout_37 (by decide +kernel)
      · rw [if_neg c4] at h
        refine J_aload_n X (pc := 22) dX2_isWithout_22 0 rfl ?_
        refine J_getf X (pc := 23) 2 sW_c2 rfl in_X2 3 (by decide) q_49 rfl dX2_isWithout_23 ?_
        refine J_iload_n X (pc := 26) dX2_isWithout_26 1 rfl ?_
        replace h := ck_e h
        obtain ⟨b5, h⟩ := h
        refine J_iald X (pc := 27) 13 sW_c13 b5 dX2_isWithout_27 ?_
        refine J_iload_n X (pc := 28) dX2_isWithout_28 2 rfl ?_
        refine J_icmp_eq X (pc := 29) 36 dX2_isWithout_29 (by decide) (fun c6 => ?_) (fun c6 => ?_)
        · rw [if_pos c6] at h
          refine J_iconst X (pc := 36) (v := 0) dX2_isWithout_36 (by decide +kernel) ?_
          cases h
          exact hE _ _ dX2_isWithout_37 (by decide +kernel)
        · rw [if_neg c6] at h
          refine J_iconst X (pc := 32) (v := 1) dX2_isWithout_32 (by decide +kernel) ?_
          refine J_goto X (pc := 33) 37 dX2_isWithout_33 (by decide) ?_
          cases h
          exact hE _ _ dX2_isWithout_37 (by decide +kernel)
def f_X2_middlePlaceWithout_14 (a1 : Int32) (S : St) (r3 : Int32) : Nat → Int32 → Int32 → Option (Int32)
  | 0, _, _ => none
  | n7+1, x5, x6 => if (S.1 2) ≤ x6 then some ((-1 : Int32)) else (f_X2_isWithout x6 a1 S).bind (fun (r10 : Int32) => if r10 = 0 then nmv (x6 + (1 : Int32)) (fun (v13 : Int32) => f_X2_middlePlaceWithout_14 a1 S r3 n7 x5 v13) else if x5 = r3 then some x6 else nmv (x5 + (1 : Int32)) (fun (v15 : Int32) => nmv (x6 + (1 : Int32)) (fun (v16 : Int32) => f_X2_middlePlaceWithout_14 a1 S r3 n7 v15 v16)))
def f_X2_middlePlaceWithout (a1 : Int32) (S : St) : Option (Int32) := (f_X2_numberWithout a1 S).bind (fun (r1 : Int32) => (f_X7_middlePlace r1).bind (fun (r3 : Int32) => f_X2_middlePlaceWithout_14 a1 S r3 3000 ((0 : Int32)) ((0 : Int32))))
set_option maxRecDepth 100000 in
set_option maxHeartbeats 4000000 in
theorem c_X2_middlePlaceWithout (E : Ev) (ad : Nat → Nat) {a1 : Int32} {S : St} {r : Int32} (h : f_X2_middlePlaceWithout a1 S = some r) : CtI E yX2_middlePlaceWithout cX2_middlePlaceWithout 5 .int 1 22 (sW E ad S) [.ref (ad 2), .int a1] r (sW E ad S) := by
  refine CtI_of (by decide +kernel) (Nat.le_of_ble_eq_true rfl) (fun x X hE => ?_)
  show J E x 0 0 (sW E ad S) 0 [(0, .ref (ad 2)), (1, .int a1)] []
  unfold f_X2_middlePlaceWithout at h
  refine J_aload_n X (pc := 0) dX2_middlePlaceWithout_0 0 rfl ?_
  refine J_iload_n X (pc := 1) dX2_middlePlaceWithout_1 1 rfl ?_
  replace h := bk h
  obtain ⟨r1, g2, h⟩ := h
  refine J_callVI X (pc := 2) (y := yX2_numberWithout) (na := 1) (As := [.int a1]) (rest := []) (c_X2_numberWithout E ad g2) 2 sW_c2 rfl q_97 q_98 q_99 q_67 q_94 rfl (by decide +kernel) (by decide +kernel) rfl (Nat.le_of_ble_eq_true rfl) ⟨Nat.le_refl _, Nat.le_refl _⟩ dX2_middlePlaceWithout_2 ?_
  replace h := bk h
  obtain ⟨r3, g4, h⟩ := h
  refine J_callSNI X (pc := 5) (y := yX7_middlePlace) (na := 1) (As := [.int r1]) (rest := []) (c_X7_middlePlace E (sW E ad S) g4) nq_18 q_13 q_14 q_11 rfl (by decide +kernel) (by decide +kernel) rfl (Nat.le_of_ble_eq_true rfl) ⟨Nat.le_refl _, Nat.le_refl _⟩ dX2_middlePlaceWithout_5 ?_
  refine J_istore_n X (pc := 8) dX2_middlePlaceWithout_8 (by decide) rfl ?_
  refine J_iconst X (pc := 9) (v := 0) dX2_middlePlaceWithout_9 (by decide +kernel) ?_
  refine J_istore_n X (pc := 10) dX2_middlePlaceWithout_10 (by decide) rfl ?_
  refine J_iconst X (pc := 11) (v := 0) dX2_middlePlaceWithout_11 (by decide +kernel) ?_
  refine J_istore X (pc := 12) dX2_middlePlaceWithout_12 (by decide) rfl ?_
  have l17 : ∀ (n7 : Nat) (x5 : Int32) (x6 : Int32), f_X2_middlePlaceWithout_14 a1 S r3 n7 x5 x6 = some r → J E x 0 0 (sW E ad S) 14 [(0, .ref (ad 2)), (1, .int a1), (2, .int r3), (3, .int x5), (4, .int x6)] [] := by
    intro n7
    induction n7 with
    | zero => intro x5 x6 h; rw [f_X2_middlePlaceWithout_14] at h; cases h
    | succ n7 ih8 =>
      intro x5 x6 h
      rw [f_X2_middlePlaceWithout_14] at h
      refine J_iload X (pc := 14) dX2_middlePlaceWithout_14 4 rfl ?_
      refine J_aload_n X (pc := 16) dX2_middlePlaceWithout_16 0 rfl ?_
      refine J_getf X (pc := 17) 2 sW_c2 rfl in_X2 4 (by decide) q_62 rfl dX2_middlePlaceWithout_17 ?_
      refine J_icmp_ge X (pc := 20) 50 dX2_middlePlaceWithout_20 (by decide) (fun c9 => ?_) (fun c9 => ?_)
      · rw [if_pos c9] at h
        refine J_iconst X (pc := 50) (v := -1) dX2_middlePlaceWithout_50 (by decide +kernel) ?_
        cases h
        exact hE _ _ dX2_middlePlaceWithout_51 rfl
      · rw [if_neg c9] at h
        refine J_aload_n X (pc := 23) dX2_middlePlaceWithout_23 0 rfl ?_
        refine J_iload X (pc := 24) dX2_middlePlaceWithout_24 4 rfl ?_
        refine J_iload_n X (pc := 26) dX2_middlePlaceWithout_26 1 rfl ?_
        replace h := bk h
        obtain ⟨r10, g11, h⟩ := h
        refine J_callVI X (pc := 27) (y := yX2_isWithout) (na := 2) (As := [.int x6, .int a1]) (rest := []) (c_X2_isWithout E ad g11) 2 sW_c2 rfl q_100 q_101 q_102 q_67 q_95 rfl (by decide +kernel) (by decide +kernel) rfl (Nat.le_of_ble_eq_true rfl) ⟨Nat.le_refl _, Nat.le_refl _⟩ dX2_middlePlaceWithout_27 ?_
        refine J_if_eq X (pc := 30) 44 dX2_middlePlaceWithout_30 (by decide) (fun c12 => ?_) (fun c12 => ?_)
        · rw [if_pos c12] at h
          replace h := nmv_e h
          obtain ⟨v13, ev13, h⟩ := h
          refine J_iinc X (pc := 44) (v := v13) dX2_middlePlaceWithout_44 4 rfl (by rw [ev13]; rfl) (by decide) rfl ?_
          refine J_goto X (pc := 47) 14 dX2_middlePlaceWithout_47 (by decide) ?_
          exact J_sub [1, 2, 3, 4, 0] rfl (ih8 _ _ h)
        · rw [if_neg c12] at h
          refine J_iload_n X (pc := 33) dX2_middlePlaceWithout_33 3 rfl ?_
          refine J_iload_n X (pc := 34) dX2_middlePlaceWithout_34 2 rfl ?_
          refine J_icmp_ne X (pc := 35) 41 dX2_middlePlaceWithout_35 (by decide) (fun c14 => ?_) (fun c14 => ?_)
          · rw [if_neg c14] at h
            replace h := nmv_e h
            obtain ⟨v15, ev15, h⟩ := h
            refine J_iinc X (pc := 41) (v := v15) dX2_middlePlaceWithout_41 3 rfl (by rw [ev15]; rfl) (by decide) rfl ?_
            replace h := nmv_e h
            obtain ⟨v16, ev16, h⟩ := h
            refine J_iinc X (pc := 44) (v := v16) dX2_middlePlaceWithout_44 4 rfl (by rw [ev16]; rfl) (by decide) rfl ?_
            refine J_goto X (pc := 47) 14 dX2_middlePlaceWithout_47 (by decide) ?_
            exact J_sub [2, 3, 4, 1, 0] rfl (ih8 _ _ h)
          · rw [if_pos c14] at h
            refine J_iload X (pc := 38) dX2_middlePlaceWithout_38 4 rfl ?_
            cases h
            exact hE _ _ dX2_middlePlaceWithout_40 rfl
  exact J_sub [3, 4, 2, 1, 0] rfl (l17 3000 _ _ h)
