noncomputable def f_L_day (a2 : Int32) (a3 : Int32) (O : Ob) (L : LW) : Option (Int32) := ck (inb ((((12 : Int32)) * a2) + a3) 36) (some (((L.1 ((((12 : Int32)) * a2) + a3).toNatClampNeg) &&& ((2047 : Int64))).toInt32))
set_option maxRecDepth 100000 in
set_option maxHeartbeats 8000000 in
theorem c_L_day (E : Ev) (al : Nat → Nat) (ad : CA) {a2 : Int32} {a3 : Int32} {O : Ob} {L : LW} {T : TS} {r : Int32} (h : f_L_day a2 a3 O L = some r) (hT : RlT T O) : CtN E yL_day cL_day 3 .int 0 0 0 0 (pw E al ad L T) [.ref (al 0), .int a2, .int a3] r (fun u : TS => RlT u O) (fun u => pw E al ad L u) := by
  refine CtN_of (by decide +kernel) (Nat.le_of_ble_eq_true rfl) (fun x X XX XN hE => ?_)
  show J E x 0 0 (pw E al ad L T) 0 [(0, .ref (al 0)), (1, .int a2), (2, .int a3)] []
  unfold f_L_day at h
  refine J_aload_n X (pc := 0) dL_day_0 0 rfl ?_
  refine J_bipush X (pc := 1) (v := 12) dL_day_1 (by decide +kernel) ?_
  refine J_iload_n X (pc := 3) dL_day_3 1 rfl ?_
  refine J_imul X (pc := 4) dL_day_4 ?_
  refine J_iload_n X (pc := 5) dL_day_5 2 rfl ?_
  refine J_iadd X (pc := 6) dL_day_6 ?_
  replace h := ck_e h
  obtain ⟨b1, h⟩ := h
  refine J_lald X (pc := 7) 0 pw_c0 b1 dL_day_7 ?_
  refine J_ldc2 X (pc := 8) dL_day_8 q_510 ?_
  refine J_land X (pc := 11) dL_day_11 ?_
  refine J_l2i X (pc := 12) dL_day_12 ?_
  cases h
  exact J_widen (k2 := 0) (n2 := 0) (by omega) (by omega) (hE T hT _ _ dL_day_13 rfl)
noncomputable def f_L_filled_20 (a4 : Int32) (a5 : Int32) (O : Ob) (L : LW) : Nat → Int64 → Int32 → Option (Int64)
  | 0, _, _ => none
  | n8+1, x4, x5 => ck (inb ((((8 : Int32)) * a4) + ((2 : Int32))) 24) (if ((((20 : Int32)) * a4) + (L.2.2.1 ((((8 : Int32)) * a4) + ((2 : Int32))).toNatClampNeg)) ≤ x5 then some x4 else ck (inb x5 60) ((f_L_day a4 a5 O L).bind (fun (r21 : Int32) => (if 0 < (lg_cmp ((L.2.1 x5.toNatClampNeg) &&& ((2047 : Int64))) r21.toInt64) then some ((0 : Int64)) else ck (inb x5 60) (some ((L.2.1 x5.toNatClampNeg) >>> (((11 : Int32)).toInt64 &&& 63)))).bind (fun (r23 : Int64) => nmv (x4 + r23) (fun (v29 : Int64) => nmv (x5 + (1 : Int32)) (fun (v30 : Int32) => f_L_filled_20 a4 a5 O L n8 v29 v30))))))
noncomputable def f_L_filled (a4 : Int32) (a5 : Int32) (O : Ob) (L : LW) : Option (Int64) := ck (inb ((((12 : Int32)) * a4) + a5) 36) (nmv ((L.1 ((((12 : Int32)) * a4) + a5).toNatClampNeg) >>> (((11 : Int32)).toInt64 &&& 63)) (fun (v2 : Int64) => nmv (((20 : Int32)) * a4) (fun (v3 : Int32) => (f_L_filled_20 a4 a5 O L 3000 v2 v3).bind (fun (r10 : Int64) => some r10))))
set_option maxRecDepth 100000 in
set_option maxHeartbeats 8000000 in
theorem c_L_filled (E : Ev) (al : Nat → Nat) (ad : CA) {a4 : Int32} {a5 : Int32} {O : Ob} {L : LW} {T : TS} {r : Int64} (h : f_L_filled a4 a5 O L = some r) (hT : RlT T O) : CtNL E yL_filled cL_filled 8 1 22 0 0 (pw E al ad L T) [.ref (al 0), .ref (al 1), .ref (al 2), .int a4, .int a5] r (fun u : TS => RlT u O) (fun u => pw E al ad L u) := by
  refine CtNL_of (by decide +kernel) (Nat.le_of_ble_eq_true rfl) (fun x X XX XN hE => ?_)
  show J E x 0 0 (pw E al ad L T) 0 [(0, .ref (al 0)), (1, .ref (al 1)), (2, .ref (al 2)), (3, .int a4), (4, .int a5)] []
  unfold f_L_filled at h
  refine J_aload_n X (pc := 0) dL_filled_0 0 rfl ?_
  refine J_bipush X (pc := 1) (v := 12) dL_filled_1 (by decide +kernel) ?_
  refine J_iload_n X (pc := 3) dL_filled_3 3 rfl ?_
  refine J_imul X (pc := 4) dL_filled_4 ?_
  refine J_iload X (pc := 5) dL_filled_5 4 rfl ?_
  refine J_iadd X (pc := 7) dL_filled_7 ?_
  replace h := ck_e h
  obtain ⟨b1, h⟩ := h
  refine J_lald X (pc := 8) 0 pw_c0 b1 dL_filled_8 ?_
  refine J_bipush X (pc := 9) (v := 11) dL_filled_9 (by decide +kernel) ?_
  refine J_lshr X (pc := 11) dL_filled_11 ?_
  replace h := nmv_e h
  obtain ⟨v2, ev2, h⟩ := h
  refine J_nml ev2 ?_
  refine J_lstore X (pc := 12) dL_filled_12 (by decide) rfl ?_
  refine J_bipush X (pc := 14) (v := 20) dL_filled_14 (by decide +kernel) ?_
  refine J_iload_n X (pc := 16) dL_filled_16 4 rfl ?_
  refine J_imul X (pc := 17) dL_filled_17 ?_
  replace h := nmv_e h
  obtain ⟨v3, ev3, h⟩ := h
  refine J_nmi ev3 ?_
  refine J_istore X (pc := 18) dL_filled_18 (by decide) rfl ?_
  replace h := bk h
  obtain ⟨r10, g14, h⟩ := h
  have k13 : ∀ T0, RlT T0 O → J E x (0) (0) (pw E al ad L T0) 80 [(5, .long r10)] [] := by
    intro T11 hT12
    refine J_lload X (pc := 80) dL_filled_80 0 rfl ?_
    cases h
    exact J_widen (k2 := 0) (n2 := 0) (by omega) (by omega) (hE T11 hT12 _ _ dL_filled_82)
  clear h
  have l31 : ∀ (n8 : Nat) (x4 : Int64) (x5 : Int32) (T6 : TS), RlT T6 O → f_L_filled_20 a4 a5 O L n8 x4 x5 = some r10 → J E x (0) (0) (pw E al ad L T6) 20 [(0, .ref (al 0)), (1, .ref (al 1)), (2, .ref (al 2)), (3, .int a4), (4, .int a5), (5, .long x4), (7, .int x5)] [] := by
    intro n8
    induction n8 with
    | zero => intro x4 x5 T6 hT7 h; rw [f_L_filled_20] at h; cases h
    | succ n8 ih9 =>
      intro x4 x5 T6 hT7 h
      rw [f_L_filled_20] at h
      refine J_iload X (pc := 20) dL_filled_20 6 rfl ?_
      refine J_bipush X (pc := 22) (v := 20) dL_filled_22 (by decide +kernel) ?_
      refine J_iload_n X (pc := 24) dL_filled_24 3 rfl ?_
      refine J_imul X (pc := 25) dL_filled_25 ?_
      refine J_aload_n X (pc := 26) dL_filled_26 2 rfl ?_
      refine J_bipush X (pc := 27) (v := 8) dL_filled_27 (by decide +kernel) ?_
      refine J_iload_n X (pc := 29) dL_filled_29 3 rfl ?_
      refine J_imul X (pc := 30) dL_filled_30 ?_
      refine J_iconst X (pc := 31) (v := 2) dL_filled_31 (by decide +kernel) ?_
      refine J_iadd X (pc := 32) dL_filled_32 ?_
      replace h := ck_e h
      obtain ⟨b15, h⟩ := h
      refine J_iald X (pc := 33) 2 pw_c2 b15 dL_filled_33 ?_
      refine J_iadd X (pc := 34) dL_filled_34 ?_
      refine J_icmp_ge X (pc := 35) 80 dL_filled_35 (by decide) (fun c16 => ?_) (fun c16 => ?_)
      · rw [if_pos c16] at h
        cases h
        exact J_sub [5] rfl (k13 _ hT7)
      · rw [if_neg c16] at h
        refine J_lload X (pc := 38) dL_filled_38 5 rfl ?_
        refine J_aload_n X (pc := 40) dL_filled_40 1 rfl ?_
        refine J_iload X (pc := 41) dL_filled_41 6 rfl ?_
        replace h := ck_e h
        obtain ⟨b17, h⟩ := h
        refine J_lald X (pc := 43) 1 pw_c1 b17 dL_filled_43 ?_
        refine J_ldc2 X (pc := 44) dL_filled_44 q_510 ?_
        refine J_land X (pc := 47) dL_filled_47 ?_
        refine J_aload_n X (pc := 48) dL_filled_48 0 rfl ?_
        refine J_iload_n X (pc := 49) dL_filled_49 3 rfl ?_
        refine J_iload X (pc := 50) dL_filled_50 4 rfl ?_
        replace h := bk h
        obtain ⟨r21, g18, h⟩ := h
        refine J_callN X XX XN (pc := 52) (y := yL_day) (na := 3) (As := [.ref (al 0), .int a4, .int a5]) (rest := [.long ((L.2.1 x5.toNatClampNeg) &&& ((2047 : Int64))), .long x4]) (c_L_day E al ad g18 hT7) q_512 q_513 q_507 q_509 rfl (by decide +kernel) ⟨Nat.le_of_ble_eq_true rfl, Nat.le_of_ble_eq_true rfl⟩ rfl (Nat.le_of_ble_eq_true rfl) ⟨(show 0 ≤ 0 from by omega), (show 0 ≤ 0 from by omega)⟩ dL_filled_52 (fun T19 hT20 => ?_)
        refine J_i2l X (pc := 55) dL_filled_55 ?_
        refine J_lcmp X (pc := 56) dL_filled_56 ?_
        replace h := bk h
        obtain ⟨r23, g27, h⟩ := h
        have j26 : ∀ T0, RlT T0 O → J E x (0) (0) (pw E al ad L T0) 71 [(0, .ref (al 0)), (1, .ref (al 1)), (2, .ref (al 2)), (3, .int a4), (4, .int a5), (7, .int x5)] [.long r23, .long x4] := by
          intro T24 hT25
          refine J_ladd X (pc := 71) dL_filled_71 ?_
          replace h := nmv_e h
          obtain ⟨v29, ev29, h⟩ := h
          refine J_nml ev29 ?_
          refine J_lstore X (pc := 72) dL_filled_72 (by decide) rfl ?_
          replace h := nmv_e h
          obtain ⟨v30, ev30, h⟩ := h
          refine J_iinc X (pc := 74) (v := v30) dL_filled_74 6 rfl (by rw [ev30]; rfl) (by decide) rfl ?_
          refine J_goto X (pc := 77) 20 dL_filled_77 (by decide) ?_
          exact J_sub [2, 3, 4, 5, 6, 1, 0] rfl (ih9 _ _ _ hT25 h)
        refine J_if_gt X (pc := 57) 70 dL_filled_57 (by decide) (fun c22 => ?_) (fun c22 => ?_)
        · rw [if_pos c22] at g27
          refine J_lconst X (pc := 70) (v := 0) dL_filled_70 (by decide +kernel) ?_
          replace g27 := Option.some.inj g27
          subst g27
          exact J_sub [0, 1, 2, 3, 4, 6] rfl (j26 _ hT20)
        · rw [if_neg c22] at g27
          refine J_aload_n X (pc := 60) dL_filled_60 1 rfl ?_
          refine J_iload X (pc := 61) dL_filled_61 6 rfl ?_
          replace g27 := ck_e g27
          obtain ⟨b28, g27⟩ := g27
          refine J_lald X (pc := 63) 1 pw_c1 b28 dL_filled_63 ?_
          refine J_bipush X (pc := 64) (v := 11) dL_filled_64 (by decide +kernel) ?_
          refine J_lshr X (pc := 66) dL_filled_66 ?_
          refine J_goto X (pc := 67) 71 dL_filled_67 (by decide) ?_
          replace g27 := Option.some.inj g27
          subst g27
          exact J_sub [0, 1, 2, 3, 4, 6] rfl (j26 _ hT20)
  exact J_sub [2, 3, 4, 5, 6, 1, 0] rfl (l31 3000 _ _ _ hT g14)
noncomputable def f_L_ruled_23 (a3 : Int32) (a4 : Int32) (v2 : Int32) : Nat → Int32 → Int32 → Option (Int32)
  | 0, _, _ => none
  | n9+1, x5, x6 => if a4 < x6 then some x5 else if v2 ≤ 0 then some x5 else (if x6 ≤ a3 then some ((0 : Int32)) else some ((1 : Int32))).bind (fun (r19 : Int32) => nmv (x5 + r19) (fun (v24 : Int32) => nmv (x6 + v2) (fun (v25 : Int32) => f_L_ruled_23 a3 a4 v2 n9 v24 v25)))
noncomputable def f_L_ruled (a2 : Int32) (a3 : Int32) (a4 : Int32) (O : Ob) (L : LW) : Option (Int32) := ck (inb ((((8 : Int32)) * a2) + ((4 : Int32))) 24) (nmv (L.2.2.1 ((((8 : Int32)) * a2) + ((4 : Int32))).toNatClampNeg) (fun (v2 : Int32) => ck (inb ((((8 : Int32)) * a2) + ((3 : Int32))) 24) (nmv (L.2.2.1 ((((8 : Int32)) * a2) + ((3 : Int32))).toNatClampNeg) (fun (v4 : Int32) => (f_L_ruled_23 a3 a4 v2 3000 ((0 : Int32)) v4).bind (fun (r11 : Int32) => some r11)))))
set_option maxRecDepth 100000 in
set_option maxHeartbeats 8000000 in
theorem c_L_ruled (E : Ev) (al : Nat → Nat) (ad : CA) {a2 : Int32} {a3 : Int32} {a4 : Int32} {O : Ob} {L : LW} {T : TS} {r : Int32} (h : f_L_ruled a2 a3 a4 O L = some r) (hT : RlT T O) : CtN E yL_ruled cL_ruled 7 .int 0 0 0 0 (pw E al ad L T) [.ref (al 2), .int a2, .int a3, .int a4] r (fun u : TS => RlT u O) (fun u => pw E al ad L u) := by
  refine CtN_of (by decide +kernel) (Nat.le_of_ble_eq_true rfl) (fun x X XX XN hE => ?_)
  show J E x 0 0 (pw E al ad L T) 0 [(0, .ref (al 2)), (1, .int a2), (2, .int a3), (3, .int a4)] []
  unfold f_L_ruled at h
  refine J_iconst X (pc := 0) (v := 0) dL_ruled_0 (by decide +kernel) ?_
  refine J_istore X (pc := 1) dL_ruled_1 (by decide) rfl ?_
  refine J_aload_n X (pc := 3) dL_ruled_3 1 rfl ?_
  refine J_bipush X (pc := 4) (v := 8) dL_ruled_4 (by decide +kernel) ?_
  refine J_iload_n X (pc := 6) dL_ruled_6 2 rfl ?_
  refine J_imul X (pc := 7) dL_ruled_7 ?_
  refine J_iconst X (pc := 8) (v := 4) dL_ruled_8 (by decide +kernel) ?_
  refine J_iadd X (pc := 9) dL_ruled_9 ?_
  replace h := ck_e h
  obtain ⟨b1, h⟩ := h
  refine J_iald X (pc := 10) 2 pw_c2 b1 dL_ruled_10 ?_
  replace h := nmv_e h
  obtain ⟨v2, ev2, h⟩ := h
  refine J_nmi ev2 ?_
  refine J_istore X (pc := 11) dL_ruled_11 (by decide) rfl ?_
  refine J_aload_n X (pc := 13) dL_ruled_13 2 rfl ?_
  refine J_bipush X (pc := 14) (v := 8) dL_ruled_14 (by decide +kernel) ?_
  refine J_iload_n X (pc := 16) dL_ruled_16 3 rfl ?_
  refine J_imul X (pc := 17) dL_ruled_17 ?_
  refine J_iconst X (pc := 18) (v := 3) dL_ruled_18 (by decide +kernel) ?_
  refine J_iadd X (pc := 19) dL_ruled_19 ?_
  replace h := ck_e h
  obtain ⟨b3, h⟩ := h
  refine J_iald X (pc := 20) 2 pw_c2 b3 dL_ruled_20 ?_
  replace h := nmv_e h
  obtain ⟨v4, ev4, h⟩ := h
  refine J_nmi ev4 ?_
  refine J_istore X (pc := 21) dL_ruled_21 (by decide) rfl ?_
  replace h := bk h
  obtain ⟨r11, g15, h⟩ := h
  have k14 : ∀ T0, RlT T0 O → J E x (0) (0) (pw E al ad L T0) 60 [(4, .int r11)] [] := by
    intro T12 hT13
    refine J_iload X (pc := 60) dL_ruled_60 0 rfl ?_
    cases h
    exact J_widen (k2 := 0) (n2 := 0) (by omega) (by omega) (hE T12 hT13 _ _ dL_ruled_62 rfl)
  clear h
  have l26 : ∀ (n9 : Nat) (x5 : Int32) (x6 : Int32) (T7 : TS), RlT T7 O → f_L_ruled_23 a3 a4 v2 n9 x5 x6 = some r11 → J E x (0) (0) (pw E al ad L T7) 23 [(2, .int a3), (3, .int a4), (4, .int x5), (5, .int v2), (6, .int x6)] [] := by
    intro n9
    induction n9 with
    | zero => intro x5 x6 T7 hT8 h; rw [f_L_ruled_23] at h; cases h
    | succ n9 ih10 =>
      intro x5 x6 T7 hT8 h
      rw [f_L_ruled_23] at h
      refine J_iload X (pc := 23) dL_ruled_23 4 rfl ?_
      refine J_iload_n X (pc := 25) dL_ruled_25 1 rfl ?_
      refine J_icmp_gt X (pc := 26) 60 dL_ruled_26 (by decide) (fun c16 => ?_) (fun c16 => ?_)
      · rw [if_pos c16] at h
        cases h
        exact J_sub [2] rfl (k14 _ hT8)
      · rw [if_neg c16] at h
        refine J_iload X (pc := 29) dL_ruled_29 3 rfl ?_
        refine J_if_le X (pc := 31) 60 dL_ruled_31 (by decide) (fun c17 => ?_) (fun c17 => ?_)
        · rw [if_pos c17] at h
          cases h
          exact J_sub [2] rfl (k14 _ hT8)
        · rw [if_neg c17] at h
          refine J_iload X (pc := 34) dL_ruled_34 2 rfl ?_
          refine J_iload X (pc := 36) dL_ruled_36 4 rfl ?_
          refine J_iload_n X (pc := 38) dL_ruled_38 0 rfl ?_
          replace h := bk h
          obtain ⟨r19, g23, h⟩ := h
          have j22 : ∀ T0, RlT T0 O → J E x (0) (0) (pw E al ad L T0) 47 [(2, .int a3), (3, .int a4), (5, .int v2), (6, .int x6)] [.int r19, .int x5] := by
            intro T20 hT21
            refine J_iadd X (pc := 47) dL_ruled_47 ?_
            replace h := nmv_e h
            obtain ⟨v24, ev24, h⟩ := h
            refine J_nmi ev24 ?_
            refine J_istore X (pc := 48) dL_ruled_48 (by decide) rfl ?_
            refine J_iload X (pc := 50) dL_ruled_50 4 rfl ?_
            refine J_iload X (pc := 52) dL_ruled_52 3 rfl ?_
            refine J_iadd X (pc := 54) dL_ruled_54 ?_
            replace h := nmv_e h
            obtain ⟨v25, ev25, h⟩ := h
            refine J_nmi ev25 ?_
            refine J_istore X (pc := 55) dL_ruled_55 (by decide) rfl ?_
            refine J_goto X (pc := 57) 23 dL_ruled_57 (by decide) ?_
            exact J_sub [2, 3, 1, 4, 0] rfl (ih10 _ _ _ hT21 h)
          refine J_icmp_le X (pc := 39) 46 dL_ruled_39 (by decide) (fun c18 => ?_) (fun c18 => ?_)
          · rw [if_pos c18] at g23
            refine J_iconst X (pc := 46) (v := 0) dL_ruled_46 (by decide +kernel) ?_
            replace g23 := Option.some.inj g23
            subst g23
            exact J_sub [0, 1, 3, 4] rfl (j22 _ hT8)
          · rw [if_neg c18] at g23
            refine J_iconst X (pc := 42) (v := 1) dL_ruled_42 (by decide +kernel) ?_
            refine J_goto X (pc := 43) 47 dL_ruled_43 (by decide) ?_
            replace g23 := Option.some.inj g23
            subst g23
            exact J_sub [0, 1, 3, 4] rfl (j22 _ hT8)
  exact J_sub [5, 6, 2, 1, 0] rfl (l26 3000 _ _ _ hT g15)
noncomputable def f_L_due (a4 : Int32) (a5 : Int32) (O : Ob) (L : LW) : Option (Int64) := ck (inb ((((8 : Int32)) * a4) + ((1 : Int32))) 24) ((f_L_day a4 ((L.2.2.1 ((((8 : Int32)) * a4) + ((1 : Int32))).toNatClampNeg) - ((1 : Int32))) O L).bind (fun (r5 : Int32) => (q_slopeDenominator a4 O).bind (fun (r6 : Int32) => nmv (r6.toInt64) (fun (v10 : Int64) => (q_slopeNumerator a4 O).bind (fun (r11 : Int32) => nmv (r11.toInt64 * ((a5 - r5).toInt64)) (fun (v15 : Int64) => (if (lg_cmp v15 ((0 : Int64))) < 0 then ck (¬ v10 = 0) (some (-(((v10 - ((1 : Int64))) - v15) / v10))) else ck (¬ v10 = 0) (some (v15 / v10))).bind (fun (r17 : Int64) => ck (inb ((((8 : Int32)) * a4) + ((1 : Int32))) 24) (ck (inb (((((12 : Int32)) * a4) + (L.2.2.1 ((((8 : Int32)) * a4) + ((1 : Int32))).toNatClampNeg)) - ((1 : Int32))) 36) ((q_usual a4 O).bind (fun (r26 : Int32) => (f_L_ruled a4 r5 a5 O L).bind (fun (r33 : Int32) => nmv ((((L.1 (((((12 : Int32)) * a4) + (L.2.2.1 ((((8 : Int32)) * a4) + ((1 : Int32))).toNatClampNeg)) - ((1 : Int32))).toNatClampNeg) >>> (((11 : Int32)).toInt64 &&& 63)) + r17) - (r26.toInt64 * r33.toInt64)) (fun (v34 : Int64) => if 0 ≤ (lg_cmp v34 ((0 : Int64))) then if (lg_cmp v34 ((2000000000 : Int64))) ≤ 0 then some v34 else some ((2000000000 : Int64)) else some ((0 : Int64))))))))))))))
set_option maxRecDepth 100000 in
set_option maxHeartbeats 8000000 in
theorem c_L_due (E : Ev) (al : Nat → Nat) (ad : CA) {a4 : Int32} {a5 : Int32} {O : Ob} {L : LW} {T : TS} {r : Int64} (h : f_L_due a4 a5 O L = some r) (hT : RlT T O) : CtNL E yL_due cL_due 14 6 128 0 0 (pw E al ad L T) [.ref (ad.1 0), .ref (al 0), .ref (al 2), .int a4, .int a5] r (fun u : TS => RlT u O) (fun u => pw E al ad L u) := by
  refine CtNL_of (by decide +kernel) (Nat.le_of_ble_eq_true rfl) (fun x X XX XN hE => ?_)
  show J E x 0 0 (pw E al ad L T) 0 [(0, .ref (ad.1 0)), (1, .ref (al 0)), (2, .ref (al 2)), (3, .int a4), (4, .int a5)] []
  unfold f_L_due at h
  refine J_aload_n X (pc := 0) dL_due_0 1 rfl ?_
  refine J_iload_n X (pc := 1) dL_due_1 3 rfl ?_
  refine J_aload_n X (pc := 2) dL_due_2 2 rfl ?_
  refine J_bipush X (pc := 3) (v := 8) dL_due_3 (by decide +kernel) ?_
  refine J_iload_n X (pc := 5) dL_due_5 3 rfl ?_
  refine J_imul X (pc := 6) dL_due_6 ?_
  refine J_iconst X (pc := 7) (v := 1) dL_due_7 (by decide +kernel) ?_
  refine J_iadd X (pc := 8) dL_due_8 ?_
  replace h := ck_e h
  obtain ⟨b1, h⟩ := h
  refine J_iald X (pc := 9) 2 pw_c2 b1 dL_due_9 ?_
  refine J_iconst X (pc := 10) (v := 1) dL_due_10 (by decide +kernel) ?_
  refine J_isub X (pc := 11) dL_due_11 ?_
  replace h := bk h
  obtain ⟨r5, g2, h⟩ := h
  refine J_callN X XX XN (pc := 12) (y := yL_day) (na := 3) (As := [.ref (al 0), .int a4, .int ((L.2.2.1 ((((8 : Int32)) * a4) + ((1 : Int32))).toNatClampNeg) - ((1 : Int32)))]) (rest := []) (c_L_day E al ad g2 hT) q_512 q_513 q_507 q_509 rfl (by decide +kernel) ⟨Nat.le_of_ble_eq_true rfl, Nat.le_of_ble_eq_true rfl⟩ rfl (Nat.le_of_ble_eq_true rfl) ⟨(show 0 ≤ 0 from by omega), (show 0 ≤ 0 from by omega)⟩ dL_due_12 (fun T3 hT4 => ?_)
  refine J_istore X (pc := 15) dL_due_15 (by decide) rfl ?_
  refine J_aload_n X (pc := 17) dL_due_17 1 rfl ?_
  refine J_iload_n X (pc := 18) dL_due_18 4 rfl ?_
  replace h := bk h
  obtain ⟨r6, g7, h⟩ := h
  refine P_slopeDenominator X (pc := 19) g7 hT4 ⟨Nat.le_of_ble_eq_true rfl, Nat.le_of_ble_eq_true rfl⟩ (Nat.le_of_ble_eq_true rfl) ⟨(show 0 ≤ 0 from by omega), (show 0 ≤ 0 from by omega)⟩ dL_due_19 (fun T8 hT9 => ?_)
  refine J_i2l X (pc := 22) dL_due_22 ?_
  replace h := nmv_e h
  obtain ⟨v10, ev10, h⟩ := h
  refine J_nml ev10 ?_
  refine J_lstore X (pc := 23) dL_due_23 (by decide) rfl ?_
  refine J_aload_n X (pc := 25) dL_due_25 2 rfl ?_
  refine J_iload_n X (pc := 26) dL_due_26 5 rfl ?_
  replace h := bk h
  obtain ⟨r11, g12, h⟩ := h
  refine P_slopeNumerator X (pc := 27) g12 hT9 ⟨Nat.le_of_ble_eq_true rfl, Nat.le_of_ble_eq_true rfl⟩ (Nat.le_of_ble_eq_true rfl) ⟨(show 0 ≤ 0 from by omega), (show 0 ≤ 0 from by omega)⟩ dL_due_27 (fun T13 hT14 => ?_)
  refine J_i2l X (pc := 30) dL_due_30 ?_
  refine J_iload X (pc := 31) dL_due_31 6 rfl ?_
  refine J_iload X (pc := 33) dL_due_33 1 rfl ?_
  refine J_isub X (pc := 35) dL_due_35 ?_
  refine J_i2l X (pc := 36) dL_due_36 ?_
  refine J_lmul X (pc := 37) dL_due_37 ?_
  replace h := nmv_e h
  obtain ⟨v15, ev15, h⟩ := h
  refine J_nml ev15 ?_
  refine J_lstore X (pc := 38) dL_due_38 (by decide) rfl ?_
  refine J_lload X (pc := 40) dL_due_40 0 rfl ?_
  refine J_lconst X (pc := 42) (v := 0) dL_due_42 (by decide +kernel) ?_
  refine J_lcmp X (pc := 43) dL_due_43 ?_
  replace h := bk h
  obtain ⟨r17, g21, h⟩ := h
  have j20 : ∀ T0, RlT T0 O → J E x (0) (0) (pw E al ad L T0) 66 [(0, .ref (ad.1 0)), (1, .ref (al 0)), (2, .ref (al 2)), (3, .int a4), (4, .int a5), (5, .int r5)] [.long r17] := by
    intro T18 hT19
    refine J_lstore X (pc := 66) dL_due_66 (by decide) rfl ?_
    refine J_aload_n X (pc := 68) dL_due_68 2 rfl ?_
    refine J_bipush X (pc := 69) (v := 12) dL_due_69 (by decide +kernel) ?_
    refine J_iload_n X (pc := 71) dL_due_71 4 rfl ?_
    refine J_imul X (pc := 72) dL_due_72 ?_
    refine J_aload_n X (pc := 73) dL_due_73 3 rfl ?_
    refine J_bipush X (pc := 74) (v := 8) dL_due_74 (by decide +kernel) ?_
    refine J_iload_n X (pc := 76) dL_due_76 4 rfl ?_
    refine J_imul X (pc := 77) dL_due_77 ?_
    refine J_iconst X (pc := 78) (v := 1) dL_due_78 (by decide +kernel) ?_
    refine J_iadd X (pc := 79) dL_due_79 ?_
    replace h := ck_e h
    obtain ⟨b24, h⟩ := h
    refine J_iald X (pc := 80) 2 pw_c2 b24 dL_due_80 ?_
    refine J_iadd X (pc := 81) dL_due_81 ?_
    refine J_iconst X (pc := 82) (v := 1) dL_due_82 (by decide +kernel) ?_
    refine J_isub X (pc := 83) dL_due_83 ?_
    replace h := ck_e h
    obtain ⟨b25, h⟩ := h
    refine J_lald X (pc := 84) 0 pw_c0 b25 dL_due_84 ?_
    refine J_bipush X (pc := 85) (v := 11) dL_due_85 (by decide +kernel) ?_
    refine J_lshr X (pc := 87) dL_due_87 ?_
    refine J_lload X (pc := 88) dL_due_88 0 rfl ?_
    refine J_ladd X (pc := 90) dL_due_90 ?_
    refine J_aload_n X (pc := 91) dL_due_91 1 rfl ?_
    refine J_iload_n X (pc := 92) dL_due_92 4 rfl ?_
    replace h := bk h
    obtain ⟨r26, g27, h⟩ := h
    refine P_usual X (pc := 93) g27 hT19 ⟨Nat.le_of_ble_eq_true rfl, Nat.le_of_ble_eq_true rfl⟩ (Nat.le_of_ble_eq_true rfl) ⟨(show 0 ≤ 0 from by omega), (show 0 ≤ 0 from by omega)⟩ dL_due_93 (fun T28 hT29 => ?_)
    refine J_i2l X (pc := 96) dL_due_96 ?_
    refine J_aload_n X (pc := 97) dL_due_97 3 rfl ?_
    refine J_iload_n X (pc := 98) dL_due_98 4 rfl ?_
    refine J_iload X (pc := 99) dL_due_99 6 rfl ?_
    refine J_iload X (pc := 101) dL_due_101 5 rfl ?_
    replace h := bk h
    obtain ⟨r33, g30, h⟩ := h
    refine J_callN X XX XN (pc := 103) (y := yL_ruled) (na := 4) (As := [.ref (al 2), .int a4, .int r5, .int a5]) (rest := [.long r26.toInt64, .long (((L.1 (((((12 : Int32)) * a4) + (L.2.2.1 ((((8 : Int32)) * a4) + ((1 : Int32))).toNatClampNeg)) - ((1 : Int32))).toNatClampNeg) >>> (((11 : Int32)).toInt64 &&& 63)) + r17)]) (c_L_ruled E al ad g30 hT29) q_522 q_523 q_507 q_520 rfl (by decide +kernel) ⟨Nat.le_of_ble_eq_true rfl, Nat.le_of_ble_eq_true rfl⟩ rfl (Nat.le_of_ble_eq_true rfl) ⟨(show 0 ≤ 0 from by omega), (show 0 ≤ 0 from by omega)⟩ dL_due_103 (fun T31 hT32 => ?_)
    refine J_i2l X (pc := 106) dL_due_106 ?_
    refine J_lmul X (pc := 107) dL_due_107 ?_
    refine J_lsub X (pc := 108) dL_due_108 ?_
    replace h := nmv_e h
    obtain ⟨v34, ev34, h⟩ := h
    refine J_nml ev34 ?_
    refine J_lstore X (pc := 109) dL_due_109 (by decide) rfl ?_
    refine J_lload X (pc := 111) dL_due_111 0 rfl ?_
    refine J_lconst X (pc := 113) (v := 0) dL_due_113 (by decide +kernel) ?_
    refine J_lcmp X (pc := 114) dL_due_114 ?_
    refine J_if_ge X (pc := 115) 122 dL_due_115 (by decide) (fun c35 => ?_) (fun c35 => ?_)
    · rw [if_pos c35] at h
      refine J_lload X (pc := 122) dL_due_122 0 rfl ?_
      refine J_ldc2 X (pc := 124) dL_due_124 q_521 ?_
      refine J_lcmp X (pc := 127) dL_due_127 ?_
      refine J_if_le X (pc := 128) 137 dL_due_128 (by decide) (fun c36 => ?_) (fun c36 => ?_)
      · rw [if_pos c36] at h
        refine J_lload X (pc := 137) dL_due_137 0 rfl ?_
        cases h
        exact J_widen (k2 := 0) (n2 := 0) (by omega) (by omega) (hE T31 hT32 _ _ dL_due_139)
      · rw [if_neg c36] at h
        refine J_ldc2 X (pc := 131) dL_due_131 q_521 ?_
        refine J_goto X (pc := 134) 139 dL_due_134 (by decide) ?_
        cases h
        exact J_widen (k2 := 0) (n2 := 0) (by omega) (by omega) (hE T31 hT32 _ _ dL_due_139)
    · rw [if_neg c35] at h
      refine J_lconst X (pc := 118) (v := 0) dL_due_118 (by decide +kernel) ?_
      refine J_goto X (pc := 119) 139 dL_due_119 (by decide) ?_
      cases h
      exact J_widen (k2 := 0) (n2 := 0) (by omega) (by omega) (hE T31 hT32 _ _ dL_due_139)
  refine J_if_lt X (pc := 44) 55 dL_due_44 (by decide) (fun c16 => ?_) (fun c16 => ?_)
  · rw [if_pos c16] at g21
    refine J_lload X (pc := 55) dL_due_55 1 rfl ?_
    refine J_lconst X (pc := 57) (v := 1) dL_due_57 (by decide +kernel) ?_
    refine J_lsub X (pc := 58) dL_due_58 ?_
    refine J_lload X (pc := 59) dL_due_59 0 rfl ?_
    refine J_lsub X (pc := 61) dL_due_61 ?_
    refine J_lload X (pc := 62) dL_due_62 1 rfl ?_
    replace g21 := ck_e g21
    obtain ⟨b22, g21⟩ := g21
    refine J_ldiv X (pc := 64) dL_due_64 b22 ?_
    refine J_lneg X (pc := 65) dL_due_65 ?_
    replace g21 := Option.some.inj g21
    subst g21
    exact J_sub [3, 4, 5, 6, 7, 2] rfl (j20 _ hT14)
  · rw [if_neg c16] at g21
    refine J_lload X (pc := 47) dL_due_47 0 rfl ?_
    refine J_lload X (pc := 49) dL_due_49 1 rfl ?_
    replace g21 := ck_e g21
    obtain ⟨b23, g21⟩ := g21
    refine J_ldiv X (pc := 51) dL_due_51 b23 ?_
    refine J_goto X (pc := 52) 66 dL_due_52 (by decide) ?_
    replace g21 := Option.some.inj g21
    subst g21
    exact J_sub [3, 4, 5, 6, 7, 2] rfl (j20 _ hT14)
noncomputable def f_L_isUsual_29 (a4 : Int32) (L : LW) (r1 : Int32) (v6 : Int32) : Nat → Int32 → Int32 → Int32 → Option (Int32 × Int32)
  | 0, _, _, _ => none
  | n13+1, x8, x9, x10 => if ((((20 : Int32)) * a4) + v6) ≤ x10 then some (x8, x9) else ck (inb x10 60) ((if 0 ≤ (lg_cmp ((L.2.1 x10.toNatClampNeg) >>> (((11 : Int32)).toInt64 &&& 63)) r1.toInt64) then some ((0 : Int32)) else some ((1 : Int32))).bind (fun (r24 : Int32) => nmv (x8 + r24) (fun (v29 : Int32) => ck (inb x10 60) ((if (lg_cmp ((L.2.1 x10.toNatClampNeg) >>> (((11 : Int32)).toInt64 &&& 63)) r1.toInt64) = 0 then some ((1 : Int32)) else some ((0 : Int32))).bind (fun (r32 : Int32) => nmv (x9 + r32) (fun (v37 : Int32) => nmv (x10 + (1 : Int32)) (fun (v38 : Int32) => f_L_isUsual_29 a4 L r1 v6 n13 v29 v37 v38)))))))
noncomputable def f_L_isUsual (a4 : Int32) (O : Ob) (L : LW) : Option (Int32) := (q_usual a4 O).bind (fun (r1 : Int32) => ck (inb ((((8 : Int32)) * a4) + ((2 : Int32))) 24) (nmv (L.2.2.1 ((((8 : Int32)) * a4) + ((2 : Int32))).toNatClampNeg) (fun (v6 : Int32) => nmv (((20 : Int32)) * a4) (fun (v7 : Int32) => (f_L_isUsual_29 a4 L r1 v6 3000 ((0 : Int32)) ((0 : Int32)) v7).bind (fun ((r15, r16) : Int32 × Int32) => nmv ((v6 - ((1 : Int32))) / ((2 : Int32))) (fun (v40 : Int32) => if v6 = 0 then if r1 = 0 then some ((1 : Int32)) else some ((0 : Int32)) else if v40 < r15 then some ((0 : Int32)) else if (r15 + r16) ≤ v40 then some ((0 : Int32)) else some ((1 : Int32))))))))
set_option maxRecDepth 100000 in
set_option maxHeartbeats 8000000 in
theorem c_L_isUsual (E : Ev) (al : Nat → Nat) (ad : CA) {a4 : Int32} {O : Ob} {L : LW} {T : TS} {r : Int32} (h : f_L_isUsual a4 O L = some r) (hT : RlT T O) : CtN E yL_isUsual cL_isUsual 9 .boolean 5 106 0 0 (pw E al ad L T) [.ref (ad.1 0), .ref (al 1), .ref (al 2), .int a4] r (fun u : TS => RlT u O) (fun u => pw E al ad L u) := by
  refine CtN_of (by decide +kernel) (Nat.le_of_ble_eq_true rfl) (fun x X XX XN hE => ?_)
  show J E x 0 0 (pw E al ad L T) 0 [(0, .ref (ad.1 0)), (1, .ref (al 1)), (2, .ref (al 2)), (3, .int a4)] []
  unfold f_L_isUsual at h
  refine J_aload_n X (pc := 0) dL_isUsual_0 0 rfl ?_
  refine J_iload_n X (pc := 1) dL_isUsual_1 3 rfl ?_
  replace h := bk h
  obtain ⟨r1, g2, h⟩ := h
  refine P_usual X (pc := 2) g2 hT ⟨Nat.le_of_ble_eq_true rfl, Nat.le_of_ble_eq_true rfl⟩ (Nat.le_of_ble_eq_true rfl) ⟨(show 0 ≤ 0 from by omega), (show 0 ≤ 0 from by omega)⟩ dL_isUsual_2 (fun T3 hT4 => ?_)
  refine J_istore X (pc := 5) dL_isUsual_5 (by decide) rfl ?_
  refine J_aload_n X (pc := 7) dL_isUsual_7 3 rfl ?_
  refine J_bipush X (pc := 8) (v := 8) dL_isUsual_8 (by decide +kernel) ?_
  refine J_iload_n X (pc := 10) dL_isUsual_10 4 rfl ?_
  refine J_imul X (pc := 11) dL_isUsual_11 ?_
  refine J_iconst X (pc := 12) (v := 2) dL_isUsual_12 (by decide +kernel) ?_
  refine J_iadd X (pc := 13) dL_isUsual_13 ?_
  replace h := ck_e h
  obtain ⟨b5, h⟩ := h
  refine J_iald X (pc := 14) 2 pw_c2 b5 dL_isUsual_14 ?_
  replace h := nmv_e h
  obtain ⟨v6, ev6, h⟩ := h
  refine J_nmi ev6 ?_
  refine J_istore X (pc := 15) dL_isUsual_15 (by decide) rfl ?_
  refine J_iconst X (pc := 17) (v := 0) dL_isUsual_17 (by decide +kernel) ?_
  refine J_istore X (pc := 18) dL_isUsual_18 (by decide) rfl ?_
  refine J_iconst X (pc := 20) (v := 0) dL_isUsual_20 (by decide +kernel) ?_
  refine J_istore X (pc := 21) dL_isUsual_21 (by decide) rfl ?_
  refine J_bipush X (pc := 23) (v := 20) dL_isUsual_23 (by decide +kernel) ?_
  refine J_iload_n X (pc := 25) dL_isUsual_25 7 rfl ?_
  refine J_imul X (pc := 26) dL_isUsual_26 ?_
  replace h := nmv_e h
  obtain ⟨v7, ev7, h⟩ := h
  refine J_nmi ev7 ?_
  refine J_istore X (pc := 27) dL_isUsual_27 (by decide) rfl ?_
  replace h := bk h
  obtain ⟨⟨r15, r16⟩, g20, h⟩ := h
  dsimp only at h
  have k19 : ∀ T0, RlT T0 O → J E x (0) (0) (pw E al ad L T0) 95 [(4, .int r1), (5, .int v6), (6, .int r15), (7, .int r16)] [] := by
    intro T17 hT18
    refine J_iload X (pc := 95) dL_isUsual_95 1 rfl ?_
    refine J_iconst X (pc := 97) (v := 1) dL_isUsual_97 (by decide +kernel) ?_
    refine J_isub X (pc := 98) dL_isUsual_98 ?_
    refine J_iconst X (pc := 99) (v := 2) dL_isUsual_99 (by decide +kernel) ?_
    refine J_idiv X (pc := 100) dL_isUsual_100 (by decide +kernel) ?_
    replace h := nmv_e h
    obtain ⟨v40, ev40, h⟩ := h
    refine J_nmi ev40 ?_
    refine J_istore X (pc := 101) dL_isUsual_101 (by decide) rfl ?_
    refine J_iload X (pc := 103) dL_isUsual_103 2 rfl ?_
    refine J_if_ne X (pc := 105) 121 dL_isUsual_105 (by decide) (fun c41 => ?_) (fun c41 => ?_)
    · rw [if_neg c41] at h
      refine J_iload X (pc := 121) dL_isUsual_121 3 rfl ?_
      refine J_iload X (pc := 123) dL_isUsual_123 0 rfl ?_
      refine J_icmp_gt X (pc := 125) 142 dL_isUsual_125 (by decide) (fun c42 => ?_) (fun c42 => ?_)
      · rw [if_pos c42] at h
        refine J_iconst X (pc := 142) (v := 0) dL_isUsual_142 (by decide +kernel) ?_
        cases h
        exact J_widen (k2 := 0) (n2 := 0) (by omega) (by omega) (hE T17 hT18 _ _ dL_isUsual_143 (by decide +kernel))
      · rw [if_neg c42] at h
        refine J_iload X (pc := 128) dL_isUsual_128 0 rfl ?_
        refine J_iload X (pc := 130) dL_isUsual_130 3 rfl ?_
        refine J_iload X (pc := 132) dL_isUsual_132 4 rfl ?_
        refine J_iadd X (pc := 134) dL_isUsual_134 ?_
        refine J_icmp_ge X (pc := 135) 142 dL_isUsual_135 (by decide) (fun c43 => ?_) (fun c43 => ?_)
        · rw [if_pos c43] at h
          refine J_iconst X (pc := 142) (v := 0) dL_isUsual_142 (by decide +kernel) ?_
          cases h
          exact J_widen (k2 := 0) (n2 := 0) (by omega) (by omega) (hE T17 hT18 _ _ dL_isUsual_143 (by decide +kernel))
        · rw [if_neg c43] at h
          refine J_iconst X (pc := 138) (v := 1) dL_isUsual_138 (by decide +kernel) ?_
          refine J_goto X (pc := 139) 143 dL_isUsual_139 (by decide) ?_
          cases h
          exact J_widen (k2 := 0) (n2 := 0) (by omega) (by omega) (hE T17 hT18 _ _ dL_isUsual_143 (by decide +kernel))
    · rw [if_pos c41] at h
      refine J_iload X (pc := 108) dL_isUsual_108 1 rfl ?_
      refine J_if_ne X (pc := 110) 117 dL_isUsual_110 (by decide) (fun c44 => ?_) (fun c44 => ?_)
      · rw [if_neg c44] at h
        refine J_iconst X (pc := 117) (v := 0) dL_isUsual_117 (by decide +kernel) ?_
        refine J_goto X (pc := 118) 143 dL_isUsual_118 (by decide) ?_
        cases h
        exact J_widen (k2 := 0) (n2 := 0) (by omega) (by omega) (hE T17 hT18 _ _ dL_isUsual_143 (by decide +kernel))
      · rw [if_pos c44] at h
        refine J_iconst X (pc := 113) (v := 1) dL_isUsual_113 (by decide +kernel) ?_
        refine J_goto X (pc := 114) 143 dL_isUsual_114 (by decide) ?_
        cases h
        exact J_widen (k2 := 0) (n2 := 0) (by omega) (by omega) (hE T17 hT18 _ _ dL_isUsual_143 (by decide +kernel))
  clear h
  have l39 : ∀ (n13 : Nat) (x8 : Int32) (x9 : Int32) (x10 : Int32) (T11 : TS), RlT T11 O → f_L_isUsual_29 a4 L r1 v6 n13 x8 x9 x10 = some (r15, r16) → J E x (0) (0) (pw E al ad L T11) 29 [(1, .ref (al 1)), (3, .int a4), (4, .int r1), (5, .int v6), (6, .int x8), (7, .int x9), (8, .int x10)] [] := by
    intro n13
    induction n13 with
    | zero => intro x8 x9 x10 T11 hT12 h; rw [f_L_isUsual_29] at h; cases h
    | succ n13 ih14 =>
      intro x8 x9 x10 T11 hT12 h
      rw [f_L_isUsual_29] at h
      refine J_iload X (pc := 29) dL_isUsual_29 6 rfl ?_
      refine J_bipush X (pc := 31) (v := 20) dL_isUsual_31 (by decide +kernel) ?_
      refine J_iload_n X (pc := 33) dL_isUsual_33 1 rfl ?_
      refine J_imul X (pc := 34) dL_isUsual_34 ?_
      refine J_iload X (pc := 35) dL_isUsual_35 3 rfl ?_
      refine J_iadd X (pc := 37) dL_isUsual_37 ?_
      refine J_icmp_ge X (pc := 38) 95 dL_isUsual_38 (by decide) (fun c21 => ?_) (fun c21 => ?_)
      · rw [if_pos c21] at h
        cases h
        exact J_sub [2, 3, 4, 5] rfl (k19 _ hT12)
      · rw [if_neg c21] at h
        refine J_iload X (pc := 41) dL_isUsual_41 4 rfl ?_
        refine J_aload_n X (pc := 43) dL_isUsual_43 0 rfl ?_
        refine J_iload X (pc := 44) dL_isUsual_44 6 rfl ?_
        replace h := ck_e h
        obtain ⟨b22, h⟩ := h
        refine J_lald X (pc := 46) 1 pw_c1 b22 dL_isUsual_46 ?_
        refine J_bipush X (pc := 47) (v := 11) dL_isUsual_47 (by decide +kernel) ?_
        refine J_lshr X (pc := 49) dL_isUsual_49 ?_
        refine J_iload X (pc := 50) dL_isUsual_50 2 rfl ?_
        refine J_i2l X (pc := 52) dL_isUsual_52 ?_
        refine J_lcmp X (pc := 53) dL_isUsual_53 ?_
        replace h := bk h
        obtain ⟨r24, g28, h⟩ := h
        have j27 : ∀ T0, RlT T0 O → J E x (0) (0) (pw E al ad L T0) 62 [(1, .ref (al 1)), (3, .int a4), (4, .int r1), (5, .int v6), (7, .int x9), (8, .int x10)] [.int r24, .int x8] := by
          intro T25 hT26
          refine J_iadd X (pc := 62) dL_isUsual_62 ?_
          replace h := nmv_e h
          obtain ⟨v29, ev29, h⟩ := h
          refine J_nmi ev29 ?_
          refine J_istore X (pc := 63) dL_isUsual_63 (by decide) rfl ?_
          refine J_iload X (pc := 65) dL_isUsual_65 5 rfl ?_
          refine J_aload_n X (pc := 67) dL_isUsual_67 1 rfl ?_
          refine J_iload X (pc := 68) dL_isUsual_68 6 rfl ?_
          replace h := ck_e h
          obtain ⟨b30, h⟩ := h
          refine J_lald X (pc := 70) 1 pw_c1 b30 dL_isUsual_70 ?_
          refine J_bipush X (pc := 71) (v := 11) dL_isUsual_71 (by decide +kernel) ?_
          refine J_lshr X (pc := 73) dL_isUsual_73 ?_
          refine J_iload X (pc := 74) dL_isUsual_74 3 rfl ?_
          refine J_i2l X (pc := 76) dL_isUsual_76 ?_
          refine J_lcmp X (pc := 77) dL_isUsual_77 ?_
          replace h := bk h
          obtain ⟨r32, g36, h⟩ := h
          have j35 : ∀ T0, RlT T0 O → J E x (0) (0) (pw E al ad L T0) 86 [(1, .ref (al 1)), (3, .int a4), (4, .int r1), (5, .int v6), (6, .int v29), (8, .int x10)] [.int r32, .int x9] := by
            intro T33 hT34
            refine J_iadd X (pc := 86) dL_isUsual_86 ?_
            replace h := nmv_e h
            obtain ⟨v37, ev37, h⟩ := h
            refine J_nmi ev37 ?_
            refine J_istore X (pc := 87) dL_isUsual_87 (by decide) rfl ?_
            replace h := nmv_e h
            obtain ⟨v38, ev38, h⟩ := h
            refine J_iinc X (pc := 89) (v := v38) dL_isUsual_89 6 rfl (by rw [ev38]; rfl) (by decide) rfl ?_
            refine J_goto X (pc := 92) 29 dL_isUsual_92 (by decide) ?_
            exact J_sub [2, 3, 4, 5, 6, 1, 0] rfl (ih14 _ _ _ _ hT34 h)
          refine J_if_ne X (pc := 78) 85 dL_isUsual_78 (by decide) (fun c31 => ?_) (fun c31 => ?_)
          · rw [if_neg c31] at g36
            refine J_iconst X (pc := 85) (v := 0) dL_isUsual_85 (by decide +kernel) ?_
            replace g36 := Option.some.inj g36
            subst g36
            exact J_sub [1, 2, 3, 4, 0, 6] rfl (j35 _ hT26)
          · rw [if_pos c31] at g36
            refine J_iconst X (pc := 81) (v := 1) dL_isUsual_81 (by decide +kernel) ?_
            refine J_goto X (pc := 82) 86 dL_isUsual_82 (by decide) ?_
            replace g36 := Option.some.inj g36
            subst g36
            exact J_sub [1, 2, 3, 4, 0, 6] rfl (j35 _ hT26)
        refine J_if_ge X (pc := 54) 61 dL_isUsual_54 (by decide) (fun c23 => ?_) (fun c23 => ?_)
        · rw [if_pos c23] at g28
          refine J_iconst X (pc := 61) (v := 0) dL_isUsual_61 (by decide +kernel) ?_
          replace g28 := Option.some.inj g28
          subst g28
          exact J_sub [0, 1, 2, 3, 5, 6] rfl (j27 _ hT12)
        · rw [if_neg c23] at g28
          refine J_iconst X (pc := 57) (v := 1) dL_isUsual_57 (by decide +kernel) ?_
          refine J_goto X (pc := 58) 62 dL_isUsual_58 (by decide) ?_
          replace g28 := Option.some.inj g28
          subst g28
          exact J_sub [0, 1, 2, 3, 5, 6] rfl (j27 _ hT12)
  exact J_sub [6, 8, 4, 3, 2, 1, 0] rfl (l39 3000 _ _ _ _ hT4 g20)
noncomputable def f_L_all_9 (O : Ob) (L : LW) : Nat → Int64 → Int32 → Option (Int64)
  | 0, _, _ => none
  | n10+1, x2, x3 => ck (inb ((0 : Int32)) 1) (if (L.2.2.2 ((0 : Int32)).toNatClampNeg) ≤ x3 then some x2 else (q_samples x3 O).bind (fun (r19 : Int32) => (q_usual x3 O).bind (fun (r23 : Int32) => (q_full x3 O).bind (fun (r27 : Int32) => (q_warns x3 O).bind (fun (r31 : Int32) => (if r31 = 0 then some ((0 : Int64)) else some ((3 : Int64))).bind (fun (r36 : Int64) => (q_slope ((1 : Int32)) x3 O).bind (fun (r44 : Int32) => (q_slope ((0 : Int32)) x3 O).bind (fun (r48 : Int32) => nmv (((((((((1000003 : Int64)) * x2) + r19.toInt64) + (((17 : Int64)) * r23.toInt64)) + (((257 : Int64)) * ((r27 + ((1 : Int32))).toInt64))) + r36) + (((65537 : Int64)) * r44.toInt64)) + r48.toInt64) (fun (v49 : Int64) => nmv (x3 + (1 : Int32)) (fun (v50 : Int32) => f_L_all_9 O L n10 v49 v50))))))))))
noncomputable def f_L_all (O : Ob) (L : LW) : Option (Int64) := nmv ((q_today O).toInt64) (fun (v1 : Int64) => (f_L_all_9 O L 4 v1 ((0 : Int32))).bind (fun (r12 : Int64) => some r12))
set_option maxRecDepth 100000 in
set_option maxHeartbeats 8000000 in
theorem c_L_all (E : Ev) (al : Nat → Nat) (ad : CA) {O : Ob} {L : LW} {T : TS} {r : Int64} (h : f_L_all O L = some r) (hT : RlT T O) : CtNL E yL_all cL_all 5 10 193 8 48 (pw E al ad L T) [.ref (ad.1 0), .ref (al 3)] r (fun u : TS => RlT u O) (fun u => pw E al ad L u) := by
  refine CtNL_of (by decide +kernel) (Nat.le_of_ble_eq_true rfl) (fun x X XX XN hE => ?_)
  show J E x 0 0 (pw E al ad L T) 0 [(0, .ref (ad.1 0)), (1, .ref (al 3))] []
  unfold f_L_all at h
  refine J_aload_n X (pc := 0) dL_all_0 0 rfl ?_
  refine P_today X (pc := 1) hT ⟨Nat.le_of_ble_eq_true rfl, Nat.le_of_ble_eq_true rfl⟩ (Nat.le_of_ble_eq_true rfl) ⟨(show 0 ≤ 8 from by omega), (show 0 ≤ 48 from by omega)⟩ dL_all_1 ?_
  refine J_i2l X (pc := 4) dL_all_4 ?_
  replace h := nmv_e h
  obtain ⟨v1, ev1, h⟩ := h
  refine J_nml ev1 ?_
  refine J_lstore_n X (pc := 5) dL_all_5 (by decide) rfl ?_
  refine J_iconst X (pc := 6) (v := 0) dL_all_6 (by decide +kernel) ?_
  refine J_istore X (pc := 7) dL_all_7 (by decide) rfl ?_
  replace h := bk h
  obtain ⟨r12, g16, h⟩ := h
  have k15 : ∀ T0, RlT T0 O → J E x (8) (48) (pw E al ad L T0) 102 [(2, .long r12)] [] := by
    intro T13 hT14
    refine J_lload_n X (pc := 102) dL_all_102 0 rfl ?_
    cases h
    exact J_widen (k2 := 8) (n2 := 48) (by omega) (by omega) (hE T13 hT14 _ _ dL_all_103)
  clear h
  have l51 : ∀ (n10 : Nat) (x2 : Int64) (x3 : Int32) (k6 n7 : Nat) (T4 : TS), k6 + 2 * n10 ≤ 8 → n7 + 12 * n10 ≤ 48 → RlT T4 O → f_L_all_9 O L n10 x2 x3 = some r12 → J E x (k6) (n7) (pw E al ad L T4) 9 [(0, .ref (ad.1 0)), (1, .ref (al 3)), (2, .long x2), (4, .int x3)] [] := by
    intro n10
    induction n10 with
    | zero => intro x2 x3 k6 n7 T4 hk8 hn9 hT5 h; rw [f_L_all_9] at h; cases h
    | succ n10 ih11 =>
      intro x2 x3 k6 n7 T4 hk8 hn9 hT5 h
      rw [f_L_all_9] at h
      refine J_iload X (pc := 9) dL_all_9 3 rfl ?_
      refine J_aload_n X (pc := 11) dL_all_11 1 rfl ?_
      refine J_iconst X (pc := 12) (v := 0) dL_all_12 (by decide +kernel) ?_
      replace h := ck_e h
      obtain ⟨b17, h⟩ := h
      refine J_iald X (pc := 13) 3 pw_c3 b17 dL_all_13 ?_
      refine J_icmp_ge X (pc := 14) 102 dL_all_14 (by decide) (fun c18 => ?_) (fun c18 => ?_)
      · rw [if_pos c18] at h
        cases h
        refine J_widen (k2 := 8) (n2 := 48) (by omega) (by omega) ?_
        exact J_sub [2] rfl (k15 _ hT5)
      · rw [if_neg c18] at h
        refine J_ldc2 X (pc := 17) dL_all_17 q_497 ?_
        refine J_lload_n X (pc := 20) dL_all_20 2 rfl ?_
        refine J_lmul X (pc := 21) dL_all_21 ?_
        refine J_aload_n X (pc := 22) dL_all_22 0 rfl ?_
        refine J_iload X (pc := 23) dL_all_23 3 rfl ?_
        replace h := bk h
        obtain ⟨r19, g20, h⟩ := h
        refine P_samples X (pc := 25) g20 hT5 ⟨Nat.le_of_ble_eq_true rfl, Nat.le_of_ble_eq_true rfl⟩ (Nat.le_of_ble_eq_true rfl) ⟨(show k6 ≤ 8 from by omega), (show n7 ≤ 48 from by omega)⟩ dL_all_25 (fun T21 hT22 => ?_)
        refine J_i2l X (pc := 28) dL_all_28 ?_
        refine J_ladd X (pc := 29) dL_all_29 ?_
        refine J_ldc2 X (pc := 30) dL_all_30 q_498 ?_
        refine J_aload_n X (pc := 33) dL_all_33 0 rfl ?_
        refine J_iload X (pc := 34) dL_all_34 3 rfl ?_
        replace h := bk h
        obtain ⟨r23, g24, h⟩ := h
        refine P_usual X (pc := 36) g24 hT22 ⟨Nat.le_of_ble_eq_true rfl, Nat.le_of_ble_eq_true rfl⟩ (Nat.le_of_ble_eq_true rfl) ⟨(show k6 ≤ 8 from by omega), (show n7 ≤ 48 from by omega)⟩ dL_all_36 (fun T25 hT26 => ?_)
        refine J_i2l X (pc := 39) dL_all_39 ?_
        refine J_lmul X (pc := 40) dL_all_40 ?_
        refine J_ladd X (pc := 41) dL_all_41 ?_
        refine J_ldc2 X (pc := 42) dL_all_42 q_499 ?_
        refine J_aload_n X (pc := 45) dL_all_45 0 rfl ?_
        refine J_iload X (pc := 46) dL_all_46 3 rfl ?_
        replace h := bk h
        obtain ⟨r27, g28, h⟩ := h
        refine P_full X (pc := 48) g28 hT26 ⟨Nat.le_of_ble_eq_true rfl, Nat.le_of_ble_eq_true rfl⟩ (Nat.le_of_ble_eq_true rfl) ⟨(show k6 ≤ 8 from by omega), (show n7 ≤ 48 from by omega)⟩ dL_all_48 (fun T29 hT30 => ?_)
        refine J_iconst X (pc := 51) (v := 1) dL_all_51 (by decide +kernel) ?_
        refine J_iadd X (pc := 52) dL_all_52 ?_
        refine J_i2l X (pc := 53) dL_all_53 ?_
        refine J_lmul X (pc := 54) dL_all_54 ?_
        refine J_ladd X (pc := 55) dL_all_55 ?_
        refine J_aload_n X (pc := 56) dL_all_56 0 rfl ?_
        refine J_iload X (pc := 57) dL_all_57 3 rfl ?_
        replace h := bk h
        obtain ⟨r31, g32, h⟩ := h
        refine P_warns X (pc := 59) g32 hT30 ⟨Nat.le_of_ble_eq_true rfl, Nat.le_of_ble_eq_true rfl⟩ (Nat.le_of_ble_eq_true rfl) ⟨(show k6 ≤ 8 from by omega), (show n7 ≤ 48 from by omega)⟩ dL_all_59 (fun T33 hT34 => ?_)
        replace h := bk h
        obtain ⟨r36, g40, h⟩ := h
        have j39 : ∀ T0, RlT T0 O → J E x (k6) (n7) (pw E al ad L T0) 72 [(0, .ref (ad.1 0)), (1, .ref (al 3)), (4, .int x3)] [.long r36, .long ((((((1000003 : Int64)) * x2) + r19.toInt64) + (((17 : Int64)) * r23.toInt64)) + (((257 : Int64)) * ((r27 + ((1 : Int32))).toInt64)))] := by
          intro T37 hT38
          refine J_ladd X (pc := 72) dL_all_72 ?_
          refine J_ldc2 X (pc := 73) dL_all_73 q_501 ?_
          refine J_aload_n X (pc := 76) dL_all_76 0 rfl ?_
          refine J_iconst X (pc := 77) (v := 1) dL_all_77 (by decide +kernel) ?_
          refine J_iload X (pc := 78) dL_all_78 2 rfl ?_
          replace h := bk h
          obtain ⟨r44, g41, h⟩ := h
          refine P_slope X XX XN (pc := 80) g41 hT38 ⟨Nat.le_of_ble_eq_true rfl, Nat.le_of_ble_eq_true rfl⟩ (Nat.le_of_ble_eq_true rfl) ⟨(show k6 + 1 ≤ 8 from by omega), (show n7 + 6 ≤ 48 from by omega)⟩ dL_all_80 (fun T42 hT43 => ?_)
          refine J_i2l X (pc := 83) dL_all_83 ?_
          refine J_lmul X (pc := 84) dL_all_84 ?_
          refine J_ladd X (pc := 85) dL_all_85 ?_
          refine J_aload_n X (pc := 86) dL_all_86 0 rfl ?_
          refine J_iconst X (pc := 87) (v := 0) dL_all_87 (by decide +kernel) ?_
          refine J_iload X (pc := 88) dL_all_88 2 rfl ?_
          replace h := bk h
          obtain ⟨r48, g45, h⟩ := h
          refine P_slope X XX XN (pc := 90) g45 hT43 ⟨Nat.le_of_ble_eq_true rfl, Nat.le_of_ble_eq_true rfl⟩ (Nat.le_of_ble_eq_true rfl) ⟨(show k6 + 2 ≤ 8 from by omega), (show n7 + 12 ≤ 48 from by omega)⟩ dL_all_90 (fun T46 hT47 => ?_)
          refine J_i2l X (pc := 93) dL_all_93 ?_
          refine J_ladd X (pc := 94) dL_all_94 ?_
          replace h := nmv_e h
          obtain ⟨v49, ev49, h⟩ := h
          refine J_nml ev49 ?_
          refine J_lstore_n X (pc := 95) dL_all_95 (by decide) rfl ?_
          replace h := nmv_e h
          obtain ⟨v50, ev50, h⟩ := h
          refine J_iinc X (pc := 96) (v := v50) dL_all_96 3 rfl (by rw [ev50]; rfl) (by decide) rfl ?_
          refine J_goto X (pc := 99) 9 dL_all_99 (by decide) ?_
          exact J_sub [2, 3, 1, 0] rfl (ih11 _ _ (k6 + 2) (n7 + 12) _ (by omega) (by omega) hT47 h)
        refine J_if_eq X (pc := 62) 71 dL_all_62 (by decide) (fun c35 => ?_) (fun c35 => ?_)
        · rw [if_pos c35] at g40
          refine J_lconst X (pc := 71) (v := 0) dL_all_71 (by decide +kernel) ?_
          replace g40 := Option.some.inj g40
          subst g40
          exact J_sub [0, 1, 3] rfl (j39 _ hT34)
        · rw [if_neg c35] at g40
          refine J_ldc2 X (pc := 65) dL_all_65 q_500 ?_
          refine J_goto X (pc := 68) 72 dL_all_68 (by decide) ?_
          replace g40 := Option.some.inj g40
          subst g40
          exact J_sub [0, 1, 3] rfl (j39 _ hT34)
  exact J_sub [2, 3, 1, 0] rfl (l51 4 _ _ (0) (0) _ (by omega) (by omega) hT g16)
