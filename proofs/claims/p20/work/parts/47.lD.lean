noncomputable def f_L_isSampled_59 (a4 : Int32) : Nat → Int32 → LW → Option (LW)
  | 0, _, _ => none
  | n28+1, x24, L25 => if ((((12 : Int32)) * a4) + ((11 : Int32))) ≤ x24 then some L25 else ck (inb (x24 + ((1 : Int32))) 36) (ck (inb x24 36) (nmv (sY L25 x24.toNatClampNeg (L25.1 (x24 + ((1 : Int32))).toNatClampNeg)) (fun (L38 : LW) => nmv (x24 + (1 : Int32)) (fun (v39 : Int32) => f_L_isSampled_59 a4 n28 v39 L38))))
noncomputable def f_L_isSampled (a4 : Int32) (a5 : Int32) (O : Ob) (L : LW) : Option (Int32 × Ob × LW) := ck (inb ((((8 : Int32)) * a4) + ((1 : Int32))) 24) (nmv (L.2.2.1 ((((8 : Int32)) * a4) + ((1 : Int32))).toNatClampNeg) (fun (v2 : Int32) => (if v2 ≤ 0 then some ((0 : Int32)) else (f_L_day a4 (v2 - ((1 : Int32))) O L).bind (fun (r12 : Int32) => if r12 = (q_today O) then some ((1 : Int32)) else some ((0 : Int32)))).bind (fun (r4 : Int32) => (if r4 = 0 then if v2 = ((12 : Int32)) then nmv (v2 + (-1 : Int32)) (fun (v22 : Int32) => nmv (((12 : Int32)) * a4) (fun (v23 : Int32) => (f_L_isSampled_59 a4 3000 v23 L).bind (fun (L30 : LW) => some (v22, L30)))) else some (v2, L) else some (v2, L)).bind (fun ((r15, L16) : Int32 × LW) => (if r4 = 0 then some ((1 : Int32)) else some ((0 : Int32))).bind (fun (r42 : Int32) => nmv (r15 + r42) (fun (v47 : Int32) => ck (inb (((((12 : Int32)) * a4) + v47) - ((1 : Int32))) 36) (nmv (sY L16 (((((12 : Int32)) * a4) + v47) - ((1 : Int32))).toNatClampNeg (((q_today O).toInt64) ||| (a5.toInt64 <<< (((11 : Int32)).toInt64 &&& 63)))) (fun (L49 : LW) => ck (inb ((((8 : Int32)) * a4) + ((1 : Int32))) 24) (nmv (sG L49 ((((8 : Int32)) * a4) + ((1 : Int32))).toNatClampNeg v47) (fun (L51 : LW) => (qa_sample a4 a5 O).bind (fun ((r55, O56) : Int32 × Ob) => if r55 = v47 then (q_samples a4 O56).bind (fun (r58 : Int32) => if r58 = v47 then some ((1 : Int32), O56, L51) else some ((0 : Int32), O56, L51)) else some ((0 : Int32), O56, L51))))))))))))
set_option maxRecDepth 100000 in
set_option maxHeartbeats 8000000 in
theorem c_L_isSampled (E : Ev) (al : Nat → Nat) (ad : CA) {a4 : Int32} {a5 : Int32} {O : Ob} {L : LW} {T : TS} {r : Int32} {O2 : Ob} {L2 : LW} (h : f_L_isSampled a4 a5 O L = some (r, O2, L2)) (hT : RlT T O) : CtN E yL_isSampled cL_isSampled 8 .boolean 10 194 1 6 (pw E al ad L T) [.ref (ad.1 0), .ref (al 0), .ref (al 2), .int a4, .int a5] r (fun u : TS => RlT u O2) (fun u => pw E al ad L2 u) := by
  refine CtN_of (by decide +kernel) (Nat.le_of_ble_eq_true rfl) (fun x X XX XN hE => ?_)
  show J E x 0 0 (pw E al ad L T) 0 [(0, .ref (ad.1 0)), (1, .ref (al 0)), (2, .ref (al 2)), (3, .int a4), (4, .int a5)] []
  unfold f_L_isSampled at h
  refine J_aload_n X (pc := 0) dL_isSampled_0 2 rfl ?_
  refine J_bipush X (pc := 1) (v := 8) dL_isSampled_1 (by decide +kernel) ?_
  refine J_iload_n X (pc := 3) dL_isSampled_3 3 rfl ?_
  refine J_imul X (pc := 4) dL_isSampled_4 ?_
  refine J_iconst X (pc := 5) (v := 1) dL_isSampled_5 (by decide +kernel) ?_
  refine J_iadd X (pc := 6) dL_isSampled_6 ?_
  replace h := ck_e h
  obtain ⟨b1, h⟩ := h
  refine J_iald X (pc := 7) 2 pw_c2 b1 dL_isSampled_7 ?_
  replace h := nmv_e h
  obtain ⟨v2, ev2, h⟩ := h
  refine J_nmi ev2 ?_
  refine J_istore X (pc := 8) dL_isSampled_8 (by decide) rfl ?_
  refine J_iload X (pc := 10) dL_isSampled_10 0 rfl ?_
  replace h := bk h
  obtain ⟨r4, g8, h⟩ := h
  have j7 : ∀ T0, RlT T0 O → J E x (0) (0) (pw E al ad L T0) 36 [(0, .ref (ad.1 0)), (1, .ref (al 0)), (2, .ref (al 2)), (3, .int a4), (4, .int a5), (5, .int v2)] [.int r4] := by
    intro T5 hT6
    refine J_istore X (pc := 36) dL_isSampled_36 (by decide) rfl ?_
    refine J_iload X (pc := 38) dL_isSampled_38 0 rfl ?_
    replace h := bk h
    obtain ⟨⟨r15, L16⟩, g20, h⟩ := h
    dsimp only at h
    have j19 : ∀ T0, RlT T0 O → J E x (0) (0) (pw E al ad L16 T0) 87 [(0, .ref (ad.1 0)), (1, .ref (al 0)), (2, .ref (al 2)), (3, .int a4), (4, .int a5), (5, .int r15), (6, .int r4)] [] := by
      intro T17 hT18
      refine J_iload X (pc := 87) dL_isSampled_87 5 rfl ?_
      refine J_iload X (pc := 89) dL_isSampled_89 6 rfl ?_
      replace h := bk h
      obtain ⟨r42, g46, h⟩ := h
      have j45 : ∀ T0, RlT T0 O → J E x (0) (0) (pw E al ad L16 T0) 99 [(0, .ref (ad.1 0)), (1, .ref (al 0)), (2, .ref (al 2)), (3, .int a4), (4, .int a5)] [.int r42, .int r15] := by
        intro T43 hT44
        refine J_iadd X (pc := 99) dL_isSampled_99 ?_
        replace h := nmv_e h
        obtain ⟨v47, ev47, h⟩ := h
        refine J_nmi ev47 ?_
        refine J_istore X (pc := 100) dL_isSampled_100 (by decide) rfl ?_
        refine J_aload_n X (pc := 102) dL_isSampled_102 2 rfl ?_
        refine J_bipush X (pc := 103) (v := 12) dL_isSampled_103 (by decide +kernel) ?_
        refine J_iload_n X (pc := 105) dL_isSampled_105 4 rfl ?_
        refine J_imul X (pc := 106) dL_isSampled_106 ?_
        refine J_iload X (pc := 107) dL_isSampled_107 0 rfl ?_
        refine J_iadd X (pc := 109) dL_isSampled_109 ?_
        refine J_iconst X (pc := 110) (v := 1) dL_isSampled_110 (by decide +kernel) ?_
        refine J_isub X (pc := 111) dL_isSampled_111 ?_
        refine J_aload_n X (pc := 112) dL_isSampled_112 1 rfl ?_
        refine P_today X (pc := 113) hT44 ⟨Nat.le_of_ble_eq_true rfl, Nat.le_of_ble_eq_true rfl⟩ (Nat.le_of_ble_eq_true rfl) ⟨(show 0 ≤ 1 from by omega), (show 0 ≤ 6 from by omega)⟩ dL_isSampled_113 ?_
        refine J_i2l X (pc := 116) dL_isSampled_116 ?_
        refine J_iload X (pc := 117) dL_isSampled_117 5 rfl ?_
        refine J_i2l X (pc := 119) dL_isSampled_119 ?_
        refine J_bipush X (pc := 120) (v := 11) dL_isSampled_120 (by decide +kernel) ?_
        refine J_lshl X (pc := 122) dL_isSampled_122 ?_
        refine J_lor X (pc := 123) dL_isSampled_123 ?_
        replace h := ck_e h
        obtain ⟨b48, h⟩ := h
        replace h := nmv_e h
        obtain ⟨L49, eL49, h⟩ := h
        refine J_last X (pc := 124) (w1 := pw E al ad L49 T43) 0 pw_c0 b48 dL_isSampled_124 (pw_s0 eL49) ?_
        refine J_aload_n X (pc := 125) dL_isSampled_125 3 rfl ?_
        refine J_bipush X (pc := 126) (v := 8) dL_isSampled_126 (by decide +kernel) ?_
        refine J_iload_n X (pc := 128) dL_isSampled_128 4 rfl ?_
        refine J_imul X (pc := 129) dL_isSampled_129 ?_
        refine J_iconst X (pc := 130) (v := 1) dL_isSampled_130 (by decide +kernel) ?_
        refine J_iadd X (pc := 131) dL_isSampled_131 ?_
        refine J_iload X (pc := 132) dL_isSampled_132 0 rfl ?_
        replace h := ck_e h
        obtain ⟨b50, h⟩ := h
        replace h := nmv_e h
        obtain ⟨L51, eL51, h⟩ := h
        refine J_iast X (pc := 134) (w1 := pw E al ad L51 T43) 2 pw_c2 b50 dL_isSampled_134 (pw_s2 eL51) ?_
        refine J_aload_n X (pc := 135) dL_isSampled_135 1 rfl ?_
        refine J_iconst X (pc := 136) (v := 2) dL_isSampled_136 (by decide +kernel) ?_
        refine J_iload_n X (pc := 137) dL_isSampled_137 4 rfl ?_
        refine J_iload X (pc := 138) dL_isSampled_138 5 rfl ?_
        replace h := bk h
        obtain ⟨⟨r55, O56⟩, g52, h⟩ := h
        dsimp only at h
        refine P_a_sample X XX XN (pc := 140) g52 hT44 ⟨Nat.le_of_ble_eq_true rfl, Nat.le_of_ble_eq_true rfl⟩ (Nat.le_of_ble_eq_true rfl) ⟨(show 1 ≤ 1 from by omega), (show 6 ≤ 6 from by omega)⟩ dL_isSampled_140 (fun T53 hT54 => ?_)
        refine J_iload X (pc := 143) dL_isSampled_143 0 rfl ?_
        refine J_icmp_ne X (pc := 145) 162 dL_isSampled_145 (by decide) (fun c57 => ?_) (fun c57 => ?_)
        · rw [if_neg c57] at h
          refine J_iconst X (pc := 162) (v := 0) dL_isSampled_162 (by decide +kernel) ?_
          cases h
          exact J_widen (k2 := 1) (n2 := 6) (by omega) (by omega) (hE T53 hT54 _ _ dL_isSampled_163 (by decide +kernel))
        · rw [if_pos c57] at h
          refine J_aload_n X (pc := 148) dL_isSampled_148 1 rfl ?_
          refine J_iload_n X (pc := 149) dL_isSampled_149 4 rfl ?_
          replace h := bk h
          obtain ⟨r58, g59, h⟩ := h
          refine P_samples X (pc := 150) g59 hT54 ⟨Nat.le_of_ble_eq_true rfl, Nat.le_of_ble_eq_true rfl⟩ (Nat.le_of_ble_eq_true rfl) ⟨(show 1 ≤ 1 from by omega), (show 6 ≤ 6 from by omega)⟩ dL_isSampled_150 (fun T60 hT61 => ?_)
          refine J_iload X (pc := 153) dL_isSampled_153 0 rfl ?_
          refine J_icmp_ne X (pc := 155) 162 dL_isSampled_155 (by decide) (fun c62 => ?_) (fun c62 => ?_)
          · rw [if_neg c62] at h
            refine J_iconst X (pc := 162) (v := 0) dL_isSampled_162 (by decide +kernel) ?_
            cases h
            exact J_widen (k2 := 1) (n2 := 6) (by omega) (by omega) (hE T60 hT61 _ _ dL_isSampled_163 (by decide +kernel))
          · rw [if_pos c62] at h
            refine J_iconst X (pc := 158) (v := 1) dL_isSampled_158 (by decide +kernel) ?_
            refine J_goto X (pc := 159) 163 dL_isSampled_159 (by decide) ?_
            cases h
            exact J_widen (k2 := 1) (n2 := 6) (by omega) (by omega) (hE T60 hT61 _ _ dL_isSampled_163 (by decide +kernel))
      refine J_if_eq X (pc := 91) 98 dL_isSampled_91 (by decide) (fun c41 => ?_) (fun c41 => ?_)
      · rw [if_pos c41] at g46
        refine J_iconst X (pc := 98) (v := 1) dL_isSampled_98 (by decide +kernel) ?_
        replace g46 := Option.some.inj g46
        subst g46
        exact J_sub [0, 1, 2, 3, 4] rfl (j45 _ hT18)
      · rw [if_neg c41] at g46
        refine J_iconst X (pc := 94) (v := 0) dL_isSampled_94 (by decide +kernel) ?_
        refine J_goto X (pc := 95) 99 dL_isSampled_95 (by decide) ?_
        replace g46 := Option.some.inj g46
        subst g46
        exact J_sub [0, 1, 2, 3, 4] rfl (j45 _ hT18)
    refine J_if_ne X (pc := 40) 87 dL_isSampled_40 (by decide) (fun c14 => ?_) (fun c14 => ?_)
    · rw [if_neg c14] at g20
      cases g20
      exact J_sub [1, 2, 3, 4, 5, 6, 0] rfl (j19 _ hT6)
    · rw [if_pos c14] at g20
      refine J_iload X (pc := 43) dL_isSampled_43 6 rfl ?_
      refine J_bipush X (pc := 45) (v := 12) dL_isSampled_45 (by decide +kernel) ?_
      refine J_icmp_ne X (pc := 47) 87 dL_isSampled_47 (by decide) (fun c21 => ?_) (fun c21 => ?_)
      · rw [if_neg c21] at g20
        cases g20
        exact J_sub [1, 2, 3, 4, 5, 6, 0] rfl (j19 _ hT6)
      · rw [if_pos c21] at g20
        replace g20 := nmv_e g20
        obtain ⟨v22, ev22, g20⟩ := g20
        refine J_iinc X (pc := 50) (v := v22) dL_isSampled_50 6 rfl (by rw [ev22]; rfl) (by decide) rfl ?_
        refine J_bipush X (pc := 53) (v := 12) dL_isSampled_53 (by decide +kernel) ?_
        refine J_iload_n X (pc := 55) dL_isSampled_55 5 rfl ?_
        refine J_imul X (pc := 56) dL_isSampled_56 ?_
        replace g20 := nmv_e g20
        obtain ⟨v23, ev23, g20⟩ := g20
        refine J_nmi ev23 ?_
        refine J_istore X (pc := 57) dL_isSampled_57 (by decide) rfl ?_
        replace g20 := bk g20
        obtain ⟨L30, g34, g20⟩ := g20
        have k33 : ∀ T0, RlT T0 O → J E x (0) (0) (pw E al ad L30 T0) 87 [(0, .ref (ad.1 0)), (1, .ref (al 0)), (2, .ref (al 2)), (3, .int a4), (4, .int a5), (5, .int v22), (6, .int r4)] [] := by
          intro T31 hT32
          cases g20
          exact J_sub [0, 1, 2, 3, 4, 5, 6] rfl (j19 _ hT32)
        clear g20
        have l40 : ∀ (n28 : Nat) (x24 : Int32) (L25 : LW) (T26 : TS), RlT T26 O → f_L_isSampled_59 a4 n28 x24 L25 = some L30 → J E x (0) (0) (pw E al ad L25 T26) 59 [(0, .ref (ad.1 0)), (1, .ref (al 0)), (2, .ref (al 2)), (3, .int a4), (4, .int a5), (5, .int v22), (6, .int r4), (7, .int x24)] [] := by
          intro n28
          induction n28 with
          | zero => intro x24 L25 T26 hT27 h; rw [f_L_isSampled_59] at h; cases h
          | succ n28 ih29 =>
            intro x24 L25 T26 hT27 h
            rw [f_L_isSampled_59] at h
            refine J_iload X (pc := 59) dL_isSampled_59 7 rfl ?_
            refine J_bipush X (pc := 61) (v := 12) dL_isSampled_61 (by decide +kernel) ?_
            refine J_iload_n X (pc := 63) dL_isSampled_63 3 rfl ?_
            refine J_imul X (pc := 64) dL_isSampled_64 ?_
            refine J_bipush X (pc := 65) (v := 11) dL_isSampled_65 (by decide +kernel) ?_
            refine J_iadd X (pc := 67) dL_isSampled_67 ?_
            refine J_icmp_ge X (pc := 68) 87 dL_isSampled_68 (by decide) (fun c35 => ?_) (fun c35 => ?_)
            · rw [if_pos c35] at h
              cases h
              exact J_sub [0, 1, 2, 3, 4, 5, 6] rfl (k33 _ hT27)
            · rw [if_neg c35] at h
              refine J_aload_n X (pc := 71) dL_isSampled_71 1 rfl ?_
              refine J_iload X (pc := 72) dL_isSampled_72 7 rfl ?_
              refine J_aload_n X (pc := 74) dL_isSampled_74 1 rfl ?_
              refine J_iload X (pc := 75) dL_isSampled_75 7 rfl ?_
              refine J_iconst X (pc := 77) (v := 1) dL_isSampled_77 (by decide +kernel) ?_
              refine J_iadd X (pc := 78) dL_isSampled_78 ?_
              replace h := ck_e h
              obtain ⟨b36, h⟩ := h
              refine J_lald X (pc := 79) 0 pw_c0 b36 dL_isSampled_79 ?_
              replace h := ck_e h
              obtain ⟨b37, h⟩ := h
              replace h := nmv_e h
              obtain ⟨L38, eL38, h⟩ := h
              refine J_last X (pc := 80) (w1 := pw E al ad L38 T26) 0 pw_c0 b37 dL_isSampled_80 (pw_s0 eL38) ?_
              replace h := nmv_e h
              obtain ⟨v39, ev39, h⟩ := h
              refine J_iinc X (pc := 81) (v := v39) dL_isSampled_81 7 rfl (by rw [ev39]; rfl) (by decide) rfl ?_
              refine J_goto X (pc := 84) 59 dL_isSampled_84 (by decide) ?_
              exact J_sub [1, 2, 3, 4, 5, 6, 7, 0] rfl (ih29 _ _ _ hT27 h)
        exact J_sub [3, 4, 5, 6, 7, 1, 2, 0] rfl (l40 3000 _ _ _ hT6 g34)
  refine J_if_le X (pc := 12) 35 dL_isSampled_12 (by decide) (fun c3 => ?_) (fun c3 => ?_)
  · rw [if_pos c3] at g8
    refine J_iconst X (pc := 35) (v := 0) dL_isSampled_35 (by decide +kernel) ?_
    replace g8 := Option.some.inj g8
    subst g8
    exact J_sub [1, 2, 3, 4, 5, 0] rfl (j7 _ hT)
  · rw [if_neg c3] at g8
    refine J_aload_n X (pc := 15) dL_isSampled_15 2 rfl ?_
    refine J_iload_n X (pc := 16) dL_isSampled_16 4 rfl ?_
    refine J_iload X (pc := 17) dL_isSampled_17 0 rfl ?_
    refine J_iconst X (pc := 19) (v := 1) dL_isSampled_19 (by decide +kernel) ?_
    refine J_isub X (pc := 20) dL_isSampled_20 ?_
    replace g8 := bk g8
    obtain ⟨r12, g9, g8⟩ := g8
    refine J_callN X XX XN (pc := 21) (y := yL_day) (na := 3) (As := [.ref (al 0), .int a4, .int (v2 - ((1 : Int32)))]) (rest := []) (c_L_day E al ad g9 hT) q_512 q_513 q_507 q_509 rfl (by decide +kernel) ⟨Nat.le_of_ble_eq_true rfl, Nat.le_of_ble_eq_true rfl⟩ rfl (Nat.le_of_ble_eq_true rfl) ⟨(show 0 ≤ 1 from by omega), (show 0 ≤ 6 from by omega)⟩ dL_isSampled_21 (fun T10 hT11 => ?_)
    refine J_aload_n X (pc := 24) dL_isSampled_24 1 rfl ?_
    refine P_today X (pc := 25) hT11 ⟨Nat.le_of_ble_eq_true rfl, Nat.le_of_ble_eq_true rfl⟩ (Nat.le_of_ble_eq_true rfl) ⟨(show 0 ≤ 1 from by omega), (show 0 ≤ 6 from by omega)⟩ dL_isSampled_25 ?_
    refine J_icmp_ne X (pc := 28) 35 dL_isSampled_28 (by decide) (fun c13 => ?_) (fun c13 => ?_)
    · rw [if_neg c13] at g8
      refine J_iconst X (pc := 35) (v := 0) dL_isSampled_35 (by decide +kernel) ?_
      replace g8 := Option.some.inj g8
      subst g8
      exact J_sub [1, 2, 3, 4, 5, 0] rfl (j7 _ hT11)
    · rw [if_pos c13] at g8
      refine J_iconst X (pc := 31) (v := 1) dL_isSampled_31 (by decide +kernel) ?_
      refine J_goto X (pc := 32) 36 dL_isSampled_32 (by decide) ?_
      replace g8 := Option.some.inj g8
      subst g8
      exact J_sub [1, 2, 3, 4, 5, 0] rfl (j7 _ hT11)
noncomputable def f_L_isPassed_34 (O3 : Ob) (v22 : Int32) : Nat → Int32 → Int32 → Int32 → LW → Option (Int32 × Int32 × LW)
  | 0, _, _, _, _ => none
  | n29+1, x23, x24, x25, L26 => ck (inb ((0 : Int32)) 1) (if (L26.2.2.2 ((0 : Int32)).toNatClampNeg) ≤ x25 then some (x23, x24, L26) else (q_early x25 O3).bind (fun (r40 : Int32) => (if 0 ≤ r40 then (q_early x25 O3).bind (fun (r50 : Int32) => some r50) else some ((1000000 : Int32))).bind (fun (r45 : Int32) => (if (v22 + ((14 : Int32))) < r45 then some ((0 : Int32)) else some ((1 : Int32))).bind (fun (r55 : Int32) => (q_warns x25 O3).bind (fun (r60 : Int32) => (if r60 = 0 then if r55 = 0 then some ((0 : Int32)) else ck (inb ((((8 : Int32)) * x25) + ((5 : Int32))) 24) (if (L26.2.2.1 ((((8 : Int32)) * x25) + ((5 : Int32))).toNatClampNeg) = ((1 : Int32)) then some ((1 : Int32)) else some ((0 : Int32))) else if (v22 + ((21 : Int32))) < r45 then some ((0 : Int32)) else some ((1 : Int32))).bind (fun (r65 : Int32) => (if r65 = r60 then some ((0 : Int32)) else some ((1 : Int32))).bind (fun (r75 : Int32) => nmv (x23 + r75) (fun (v80 : Int32) => (if r65 = 0 then some ((0 : Int32)) else some (((1 : Int32)) <<< (x25 &&& 31))).bind (fun (r82 : Int32) => nmv (x24 ||| r82) (fun (v87 : Int32) => (if r55 = 0 then some ((0 : Int32)) else some ((1 : Int32))).bind (fun (r89 : Int32) => ck (inb ((((8 : Int32)) * x25) + ((5 : Int32))) 24) (nmv (sG L26 ((((8 : Int32)) * x25) + ((5 : Int32))).toNatClampNeg r89) (fun (L95 : LW) => nmv (x25 + (1 : Int32)) (fun (v96 : Int32) => f_L_isPassed_34 O3 v22 n29 v80 v87 v96 L95))))))))))))))
noncomputable def f_L_isPassed_228 (r32 : Int32) (L33 : LW) (O102 : Ob) : Nat → Int32 → Int32 → Option (Int32)
  | 0, _, _ => none
  | n114+1, x110, x111 => ck (inb ((0 : Int32)) 1) (if (L33.2.2.2 ((0 : Int32)).toNatClampNeg) ≤ x111 then some x110 else if x110 = 0 then some x110 else (q_warns x111 O102).bind (fun (r124 : Int32) => (if ((r32 >>> (x111 &&& 31)) &&& ((1 : Int32))) = ((1 : Int32)) then some ((1 : Int32)) else some ((0 : Int32))).bind (fun (r129 : Int32) => (if r124 = r129 then some ((1 : Int32)) else some ((0 : Int32))).bind (fun (r135 : Int32) => nmv (x111 + (1 : Int32)) (fun (v140 : Int32) => f_L_isPassed_228 r32 L33 O102 n114 r135 v140)))))
noncomputable def f_L_isPassed_6 (a4 : Int32) : Nat → Int32 → Int32 → Ob → LW → Option (Int32 × Ob × LW)
  | 0, _, _, _, _ => none
  | n11+1, x1, x2, O3, L4 => if a4 ≤ x2 then some (x1, O3, L4) else if x1 = 0 then some (x1, O3, L4) else nmv ((q_today O3) + ((1 : Int32))) (fun (v22 : Int32) => (f_L_isPassed_34 O3 v22 3000 ((0 : Int32)) ((0 : Int32)) ((0 : Int32)) L4).bind (fun ((r31, r32, L33) : Int32 × Int32 × LW) => (qa_pass ((1 : Int32)) O3).bind (fun ((r101, O102) : Int32 × Ob) => (if r101 = r31 then if (q_today O102) = v22 then some ((1 : Int32)) else some ((0 : Int32)) else some ((0 : Int32))).bind (fun (r104 : Int32) => (f_L_isPassed_228 r32 L33 O102 3000 r104 ((0 : Int32))).bind (fun (r116 : Int32) => nmv (x2 + (1 : Int32)) (fun (v142 : Int32) => f_L_isPassed_6 a4 n11 r116 v142 O102 L33))))))
noncomputable def f_L_isPassed (a4 : Int32) (O : Ob) (L : LW) : Option (Int32 × Ob × LW) := (f_L_isPassed_6 a4 9 ((1 : Int32)) ((0 : Int32)) O L).bind (fun ((r13, O14, L15) : Int32 × Ob × LW) => ck (isZ r13) (some (r13, O14, L15)))
set_option maxRecDepth 100000 in
set_option maxHeartbeats 8000000 in
theorem c_L_isPassed (E : Ev) (al : Nat → Nat) (ad : CA) {a4 : Int32} {O : Ob} {L : LW} {T : TS} {r : Int32} {O2 : Ob} {L2 : LW} (h : f_L_isPassed a4 O L = some (r, O2, L2)) (hT : RlT T O) : CtN E yL_isPassed cL_isPassed 14 .boolean 10 194 9 54 (pw E al ad L T) [.ref (ad.1 0), .ref (al 2), .ref (al 3), .int a4] r (fun u : TS => RlT u O2) (fun u => pw E al ad L2 u) := by
  refine CtN_of (by decide +kernel) (Nat.le_of_ble_eq_true rfl) (fun x X XX XN hE => ?_)
  show J E x 0 0 (pw E al ad L T) 0 [(0, .ref (ad.1 0)), (1, .ref (al 2)), (2, .ref (al 3)), (3, .int a4)] []
  unfold f_L_isPassed at h
  refine J_iconst X (pc := 0) (v := 1) dL_isPassed_0 (by decide +kernel) ?_
  refine J_istore X (pc := 1) dL_isPassed_1 (by decide) rfl ?_
  refine J_iconst X (pc := 3) (v := 0) dL_isPassed_3 (by decide +kernel) ?_
  refine J_istore X (pc := 4) dL_isPassed_4 (by decide) rfl ?_
  replace h := bk h
  obtain ⟨⟨r13, O14, L15⟩, g19, h⟩ := h
  dsimp only at h
  have k18 : ∀ T0, RlT T0 O14 → J E x (9) (54) (pw E al ad L15 T0) 285 [(4, .int r13)] [] := by
    intro T16 hT17
    refine J_iload X (pc := 285) dL_isPassed_285 0 rfl ?_
    replace h := ck_e h
    obtain ⟨b144, h⟩ := h
    cases h
    exact J_widen (k2 := 9) (n2 := 54) (by omega) (by omega) (hE T16 hT17 _ _ dL_isPassed_287 (isZ_nar b144))
  clear h
  have l143 : ∀ (n11 : Nat) (x1 : Int32) (x2 : Int32) (O3 : Ob) (L4 : LW) (k7 n8 : Nat) (T5 : TS), k7 + 1 * n11 ≤ 9 → n8 + 6 * n11 ≤ 54 → RlT T5 O3 → f_L_isPassed_6 a4 n11 x1 x2 O3 L4 = some (r13, O14, L15) → J E x (k7) (n8) (pw E al ad L4 T5) 6 [(0, .ref (ad.1 0)), (1, .ref (al 2)), (2, .ref (al 3)), (3, .int a4), (4, .int x1), (5, .int x2)] [] := by
    intro n11
    induction n11 with
    | zero => intro x1 x2 O3 L4 k7 n8 T5 hk9 hn10 hT6 h; rw [f_L_isPassed_6] at h; cases h
    | succ n11 ih12 =>
      intro x1 x2 O3 L4 k7 n8 T5 hk9 hn10 hT6 h
      rw [f_L_isPassed_6] at h
      refine J_iload X (pc := 6) dL_isPassed_6 5 rfl ?_
      refine J_iload_n X (pc := 8) dL_isPassed_8 3 rfl ?_
      refine J_icmp_ge X (pc := 9) 285 dL_isPassed_9 (by decide) (fun c20 => ?_) (fun c20 => ?_)
      · rw [if_pos c20] at h
        cases h
        refine J_widen (k2 := 9) (n2 := 54) (by omega) (by omega) ?_
        exact J_sub [4] rfl (k18 _ hT6)
      · rw [if_neg c20] at h
        refine J_iload X (pc := 12) dL_isPassed_12 4 rfl ?_
        refine J_if_eq X (pc := 14) 285 dL_isPassed_14 (by decide) (fun c21 => ?_) (fun c21 => ?_)
        · rw [if_pos c21] at h
          cases h
          refine J_widen (k2 := 9) (n2 := 54) (by omega) (by omega) ?_
          exact J_sub [4] rfl (k18 _ hT6)
        · rw [if_neg c21] at h
          refine J_iconst X (pc := 17) (v := 0) dL_isPassed_17 (by decide +kernel) ?_
          refine J_istore X (pc := 18) dL_isPassed_18 (by decide) rfl ?_
          refine J_iconst X (pc := 20) (v := 0) dL_isPassed_20 (by decide +kernel) ?_
          refine J_istore X (pc := 21) dL_isPassed_21 (by decide) rfl ?_
          refine J_aload_n X (pc := 23) dL_isPassed_23 2 rfl ?_
          refine P_today X (pc := 24) hT6 ⟨Nat.le_of_ble_eq_true rfl, Nat.le_of_ble_eq_true rfl⟩ (Nat.le_of_ble_eq_true rfl) ⟨(show k7 ≤ 9 from by omega), (show n8 ≤ 54 from by omega)⟩ dL_isPassed_24 ?_
          refine J_iconst X (pc := 27) (v := 1) dL_isPassed_27 (by decide +kernel) ?_
          refine J_iadd X (pc := 28) dL_isPassed_28 ?_
          replace h := nmv_e h
          obtain ⟨v22, ev22, h⟩ := h
          refine J_nmi ev22 ?_
          refine J_istore X (pc := 29) dL_isPassed_29 (by decide) rfl ?_
          refine J_iconst X (pc := 31) (v := 0) dL_isPassed_31 (by decide +kernel) ?_
          refine J_istore X (pc := 32) dL_isPassed_32 (by decide) rfl ?_
          replace h := bk h
          obtain ⟨⟨r31, r32, L33⟩, g37, h⟩ := h
          dsimp only at h
          have k36 : ∀ T0, RlT T0 O3 → J E x (k7) (n8) (pw E al ad L33 T0) 197 [(0, .ref (ad.1 0)), (1, .ref (al 2)), (2, .ref (al 3)), (3, .int a4), (5, .int x2), (6, .int r31), (7, .int r32), (8, .int v22)] [] := by
            intro T34 hT35
            refine J_aload_n X (pc := 197) dL_isPassed_197 0 rfl ?_
            refine J_iconst X (pc := 198) (v := 4) dL_isPassed_198 (by decide +kernel) ?_
            refine J_iconst X (pc := 199) (v := 1) dL_isPassed_199 (by decide +kernel) ?_
            refine J_iconst X (pc := 200) (v := 0) dL_isPassed_200 (by decide +kernel) ?_
            replace h := bk h
            obtain ⟨⟨r101, O102⟩, g98, h⟩ := h
            dsimp only at h
            refine P_a_pass X XX XN (pc := 201) g98 hT35 ⟨Nat.le_of_ble_eq_true rfl, Nat.le_of_ble_eq_true rfl⟩ (Nat.le_of_ble_eq_true rfl) ⟨(show k7 + 1 ≤ 9 from by omega), (show n8 + 6 ≤ 54 from by omega)⟩ dL_isPassed_201 (fun T99 hT100 => ?_)
            refine J_iload X (pc := 204) dL_isPassed_204 5 rfl ?_
            replace h := bk h
            obtain ⟨r104, g108, h⟩ := h
            have j107 : ∀ T0, RlT T0 O102 → J E x (k7 + 1) (n8 + 6) (pw E al ad L33 T0) 223 [(0, .ref (ad.1 0)), (1, .ref (al 2)), (2, .ref (al 3)), (3, .int a4), (5, .int x2), (7, .int r32)] [.int r104] := by
              intro T105 hT106
              refine J_istore X (pc := 223) dL_isPassed_223 (by decide) rfl ?_
              refine J_iconst X (pc := 225) (v := 0) dL_isPassed_225 (by decide +kernel) ?_
              refine J_istore X (pc := 226) dL_isPassed_226 (by decide) rfl ?_
              replace h := bk h
              obtain ⟨r116, g120, h⟩ := h
              have k119 : ∀ T0, RlT T0 O102 → J E x (k7 + 1) (n8 + 6) (pw E al ad L33 T0) 279 [(0, .ref (ad.1 0)), (1, .ref (al 2)), (2, .ref (al 3)), (3, .int a4), (4, .int r116), (5, .int x2)] [] := by
                intro T117 hT118
                replace h := nmv_e h
                obtain ⟨v142, ev142, h⟩ := h
                refine J_iinc X (pc := 279) (v := v142) dL_isPassed_279 5 rfl (by rw [ev142]; rfl) (by decide) rfl ?_
                refine J_goto X (pc := 282) 6 dL_isPassed_282 (by decide) ?_
                exact J_sub [1, 2, 3, 4, 5, 0] rfl (ih12 _ _ _ _ (k7 + 1) (n8 + 6) _ (by omega) (by omega) hT118 h)
              clear h
              have l141 : ∀ (n114 : Nat) (x110 : Int32) (x111 : Int32) (T112 : TS), RlT T112 O102 → f_L_isPassed_228 r32 L33 O102 n114 x110 x111 = some r116 → J E x (k7 + 1) (n8 + 6) (pw E al ad L33 T112) 228 [(0, .ref (ad.1 0)), (1, .ref (al 2)), (2, .ref (al 3)), (3, .int a4), (4, .int x110), (5, .int x2), (7, .int r32), (9, .int x111)] [] := by
                intro n114
                induction n114 with
                | zero => intro x110 x111 T112 hT113 h; rw [f_L_isPassed_228] at h; cases h
                | succ n114 ih115 =>
                  intro x110 x111 T112 hT113 h
                  rw [f_L_isPassed_228] at h
                  refine J_iload X (pc := 228) dL_isPassed_228 7 rfl ?_
                  refine J_aload_n X (pc := 230) dL_isPassed_230 2 rfl ?_
                  refine J_iconst X (pc := 231) (v := 0) dL_isPassed_231 (by decide +kernel) ?_
                  replace h := ck_e h
                  obtain ⟨b121, h⟩ := h
                  refine J_iald X (pc := 232) 3 pw_c3 b121 dL_isPassed_232 ?_
                  refine J_icmp_ge X (pc := 233) 279 dL_isPassed_233 (by decide) (fun c122 => ?_) (fun c122 => ?_)
                  · rw [if_pos c122] at h
                    cases h
                    exact J_sub [0, 1, 2, 3, 4, 5] rfl (k119 _ hT113)
                  · rw [if_neg c122] at h
                    refine J_iload X (pc := 236) dL_isPassed_236 4 rfl ?_
                    refine J_if_eq X (pc := 238) 279 dL_isPassed_238 (by decide) (fun c123 => ?_) (fun c123 => ?_)
                    · rw [if_pos c123] at h
                      cases h
                      exact J_sub [0, 1, 2, 3, 4, 5] rfl (k119 _ hT113)
                    · rw [if_neg c123] at h
                      refine J_aload_n X (pc := 241) dL_isPassed_241 0 rfl ?_
                      refine J_iload X (pc := 242) dL_isPassed_242 7 rfl ?_
                      replace h := bk h
                      obtain ⟨r124, g125, h⟩ := h
                      refine P_warns X (pc := 244) g125 hT113 ⟨Nat.le_of_ble_eq_true rfl, Nat.le_of_ble_eq_true rfl⟩ (Nat.le_of_ble_eq_true rfl) ⟨(show k7 + 1 ≤ 9 from by omega), (show n8 + 6 ≤ 54 from by omega)⟩ dL_isPassed_244 (fun T126 hT127 => ?_)
                      refine J_iload X (pc := 247) dL_isPassed_247 6 rfl ?_
                      refine J_iload X (pc := 249) dL_isPassed_249 7 rfl ?_
                      refine J_ishr X (pc := 251) dL_isPassed_251 ?_
                      refine J_iconst X (pc := 252) (v := 1) dL_isPassed_252 (by decide +kernel) ?_
                      refine J_iand X (pc := 253) dL_isPassed_253 ?_
                      refine J_iconst X (pc := 254) (v := 1) dL_isPassed_254 (by decide +kernel) ?_
                      replace h := bk h
                      obtain ⟨r129, g133, h⟩ := h
                      have j132 : ∀ T0, RlT T0 O102 → J E x (k7 + 1) (n8 + 6) (pw E al ad L33 T0) 263 [(0, .ref (ad.1 0)), (1, .ref (al 2)), (2, .ref (al 3)), (3, .int a4), (5, .int x2), (7, .int r32), (9, .int x111)] [.int r129, .int r124] := by
                        intro T130 hT131
                        replace h := bk h
                        obtain ⟨r135, g139, h⟩ := h
                        have j138 : ∀ T0, RlT T0 O102 → J E x (k7 + 1) (n8 + 6) (pw E al ad L33 T0) 271 [(0, .ref (ad.1 0)), (1, .ref (al 2)), (2, .ref (al 3)), (3, .int a4), (5, .int x2), (7, .int r32), (9, .int x111)] [.int r135] := by
                          intro T136 hT137
                          refine J_istore X (pc := 271) dL_isPassed_271 (by decide) rfl ?_
                          replace h := nmv_e h
                          obtain ⟨v140, ev140, h⟩ := h
                          refine J_iinc X (pc := 273) (v := v140) dL_isPassed_273 7 rfl (by rw [ev140]; rfl) (by decide) rfl ?_
                          refine J_goto X (pc := 276) 228 dL_isPassed_276 (by decide) ?_
                          exact J_sub [2, 3, 4, 5, 1, 6, 7, 0] rfl (ih115 _ _ _ hT137 h)
                        refine J_icmp_ne X (pc := 263) 270 dL_isPassed_263 (by decide) (fun c134 => ?_) (fun c134 => ?_)
                        · rw [if_neg c134] at g139
                          refine J_iconst X (pc := 270) (v := 0) dL_isPassed_270 (by decide +kernel) ?_
                          replace g139 := Option.some.inj g139
                          subst g139
                          exact J_sub [0, 1, 2, 3, 4, 5, 6] rfl (j138 _ hT131)
                        · rw [if_pos c134] at g139
                          refine J_iconst X (pc := 266) (v := 1) dL_isPassed_266 (by decide +kernel) ?_
                          refine J_goto X (pc := 267) 271 dL_isPassed_267 (by decide) ?_
                          replace g139 := Option.some.inj g139
                          subst g139
                          exact J_sub [0, 1, 2, 3, 4, 5, 6] rfl (j138 _ hT131)
                      refine J_icmp_ne X (pc := 255) 262 dL_isPassed_255 (by decide) (fun c128 => ?_) (fun c128 => ?_)
                      · rw [if_neg c128] at g133
                        refine J_iconst X (pc := 262) (v := 0) dL_isPassed_262 (by decide +kernel) ?_
                        replace g133 := Option.some.inj g133
                        subst g133
                        exact J_sub [0, 1, 2, 3, 5, 6, 7] rfl (j132 _ hT127)
                      · rw [if_pos c128] at g133
                        refine J_iconst X (pc := 258) (v := 1) dL_isPassed_258 (by decide +kernel) ?_
                        refine J_goto X (pc := 259) 263 dL_isPassed_259 (by decide) ?_
                        replace g133 := Option.some.inj g133
                        subst g133
                        exact J_sub [0, 1, 2, 3, 5, 6, 7] rfl (j132 _ hT127)
              exact J_sub [2, 3, 4, 5, 1, 6, 7, 0] rfl (l141 3000 _ _ _ hT106 g120)
            refine J_icmp_ne X (pc := 206) 222 dL_isPassed_206 (by decide) (fun c103 => ?_) (fun c103 => ?_)
            · rw [if_neg c103] at g108
              refine J_iconst X (pc := 222) (v := 0) dL_isPassed_222 (by decide +kernel) ?_
              replace g108 := Option.some.inj g108
              subst g108
              exact J_sub [0, 1, 2, 3, 4, 6] rfl (j107 _ hT100)
            · rw [if_pos c103] at g108
              refine J_aload_n X (pc := 209) dL_isPassed_209 0 rfl ?_
              refine P_today X (pc := 210) hT100 ⟨Nat.le_of_ble_eq_true rfl, Nat.le_of_ble_eq_true rfl⟩ (Nat.le_of_ble_eq_true rfl) ⟨(show k7 + 1 ≤ 9 from by omega), (show n8 + 6 ≤ 54 from by omega)⟩ dL_isPassed_210 ?_
              refine J_iload X (pc := 213) dL_isPassed_213 7 rfl ?_
              refine J_icmp_ne X (pc := 215) 222 dL_isPassed_215 (by decide) (fun c109 => ?_) (fun c109 => ?_)
              · rw [if_neg c109] at g108
                refine J_iconst X (pc := 222) (v := 0) dL_isPassed_222 (by decide +kernel) ?_
                replace g108 := Option.some.inj g108
                subst g108
                exact J_sub [0, 1, 2, 3, 4, 6] rfl (j107 _ hT100)
              · rw [if_pos c109] at g108
                refine J_iconst X (pc := 218) (v := 1) dL_isPassed_218 (by decide +kernel) ?_
                refine J_goto X (pc := 219) 223 dL_isPassed_219 (by decide) ?_
                replace g108 := Option.some.inj g108
                subst g108
                exact J_sub [0, 1, 2, 3, 4, 6] rfl (j107 _ hT100)
          clear h
          have l97 : ∀ (n29 : Nat) (x23 : Int32) (x24 : Int32) (x25 : Int32) (L26 : LW) (T27 : TS), RlT T27 O3 → f_L_isPassed_34 O3 v22 n29 x23 x24 x25 L26 = some (r31, r32, L33) → J E x (k7) (n8) (pw E al ad L26 T27) 34 [(0, .ref (ad.1 0)), (1, .ref (al 2)), (2, .ref (al 3)), (3, .int a4), (5, .int x2), (6, .int x23), (7, .int x24), (8, .int v22), (9, .int x25)] [] := by
            intro n29
            induction n29 with
            | zero => intro x23 x24 x25 L26 T27 hT28 h; rw [f_L_isPassed_34] at h; cases h
            | succ n29 ih30 =>
              intro x23 x24 x25 L26 T27 hT28 h
              rw [f_L_isPassed_34] at h
              refine J_iload X (pc := 34) dL_isPassed_34 8 rfl ?_
              refine J_aload_n X (pc := 36) dL_isPassed_36 2 rfl ?_
              refine J_iconst X (pc := 37) (v := 0) dL_isPassed_37 (by decide +kernel) ?_
              replace h := ck_e h
              obtain ⟨b38, h⟩ := h
              refine J_iald X (pc := 38) 3 pw_c3 b38 dL_isPassed_38 ?_
              refine J_icmp_ge X (pc := 39) 197 dL_isPassed_39 (by decide) (fun c39 => ?_) (fun c39 => ?_)
              · rw [if_pos c39] at h
                cases h
                exact J_sub [0, 1, 2, 3, 4, 5, 6, 7] rfl (k36 _ hT28)
              · rw [if_neg c39] at h
                refine J_aload_n X (pc := 42) dL_isPassed_42 0 rfl ?_
                refine J_iload X (pc := 43) dL_isPassed_43 8 rfl ?_
                replace h := bk h
                obtain ⟨r40, g41, h⟩ := h
                refine P_early X (pc := 45) g41 hT28 ⟨Nat.le_of_ble_eq_true rfl, Nat.le_of_ble_eq_true rfl⟩ (Nat.le_of_ble_eq_true rfl) ⟨(show k7 ≤ 9 from by omega), (show n8 ≤ 54 from by omega)⟩ dL_isPassed_45 (fun T42 hT43 => ?_)
                replace h := bk h
                obtain ⟨r45, g49, h⟩ := h
                have j48 : ∀ T0, RlT T0 O3 → J E x (k7) (n8) (pw E al ad L26 T0) 62 [(0, .ref (ad.1 0)), (1, .ref (al 2)), (2, .ref (al 3)), (3, .int a4), (5, .int x2), (6, .int x23), (7, .int x24), (8, .int v22), (9, .int x25)] [.int r45] := by
                  intro T46 hT47
                  refine J_istore X (pc := 62) dL_isPassed_62 (by decide) rfl ?_
                  refine J_iload X (pc := 64) dL_isPassed_64 0 rfl ?_
                  refine J_iload X (pc := 66) dL_isPassed_66 8 rfl ?_
                  refine J_bipush X (pc := 68) (v := 14) dL_isPassed_68 (by decide +kernel) ?_
                  refine J_iadd X (pc := 70) dL_isPassed_70 ?_
                  replace h := bk h
                  obtain ⟨r55, g59, h⟩ := h
                  have j58 : ∀ T0, RlT T0 O3 → J E x (k7) (n8) (pw E al ad L26 T0) 79 [(0, .ref (ad.1 0)), (1, .ref (al 2)), (2, .ref (al 3)), (3, .int a4), (5, .int x2), (6, .int x23), (7, .int x24), (8, .int v22), (9, .int x25), (10, .int r45)] [.int r55] := by
                    intro T56 hT57
                    refine J_istore X (pc := 79) dL_isPassed_79 (by decide) rfl ?_
                    refine J_aload_n X (pc := 81) dL_isPassed_81 1 rfl ?_
                    refine J_iload X (pc := 82) dL_isPassed_82 9 rfl ?_
                    replace h := bk h
                    obtain ⟨r60, g61, h⟩ := h
                    refine P_warns X (pc := 84) g61 hT57 ⟨Nat.le_of_ble_eq_true rfl, Nat.le_of_ble_eq_true rfl⟩ (Nat.le_of_ble_eq_true rfl) ⟨(show k7 ≤ 9 from by omega), (show n8 ≤ 54 from by omega)⟩ dL_isPassed_84 (fun T62 hT63 => ?_)
                    refine J_istore X (pc := 87) dL_isPassed_87 (by decide) rfl ?_
                    refine J_iload X (pc := 89) dL_isPassed_89 0 rfl ?_
                    replace h := bk h
                    obtain ⟨r65, g69, h⟩ := h
                    have j68 : ∀ T0, RlT T0 O3 → J E x (k7) (n8) (pw E al ad L26 T0) 135 [(0, .ref (ad.1 0)), (1, .ref (al 2)), (2, .ref (al 3)), (3, .int a4), (5, .int x2), (6, .int x23), (7, .int x24), (8, .int v22), (9, .int x25), (11, .int r55), (12, .int r60)] [.int r65] := by
                      intro T66 hT67
                      refine J_istore X (pc := 135) dL_isPassed_135 (by decide) rfl ?_
                      refine J_iload X (pc := 137) dL_isPassed_137 6 rfl ?_
                      refine J_iload X (pc := 139) dL_isPassed_139 0 rfl ?_
                      refine J_iload X (pc := 141) dL_isPassed_141 11 rfl ?_
                      replace h := bk h
                      obtain ⟨r75, g79, h⟩ := h
                      have j78 : ∀ T0, RlT T0 O3 → J E x (k7) (n8) (pw E al ad L26 T0) 151 [(0, .ref (ad.1 0)), (1, .ref (al 2)), (2, .ref (al 3)), (3, .int a4), (5, .int x2), (7, .int x24), (8, .int v22), (9, .int x25), (11, .int r55), (13, .int r65)] [.int r75, .int x23] := by
                        intro T76 hT77
                        refine J_iadd X (pc := 151) dL_isPassed_151 ?_
                        replace h := nmv_e h
                        obtain ⟨v80, ev80, h⟩ := h
                        refine J_nmi ev80 ?_
                        refine J_istore X (pc := 152) dL_isPassed_152 (by decide) rfl ?_
                        refine J_iload X (pc := 154) dL_isPassed_154 6 rfl ?_
                        refine J_iload X (pc := 156) dL_isPassed_156 10 rfl ?_
                        replace h := bk h
                        obtain ⟨r82, g86, h⟩ := h
                        have j85 : ∀ T0, RlT T0 O3 → J E x (k7) (n8) (pw E al ad L26 T0) 169 [(0, .ref (ad.1 0)), (1, .ref (al 2)), (2, .ref (al 3)), (3, .int a4), (5, .int x2), (6, .int v80), (8, .int v22), (9, .int x25), (11, .int r55)] [.int r82, .int x24] := by
                          intro T83 hT84
                          refine J_ior X (pc := 169) dL_isPassed_169 ?_
                          replace h := nmv_e h
                          obtain ⟨v87, ev87, h⟩ := h
                          refine J_nmi ev87 ?_
                          refine J_istore X (pc := 170) dL_isPassed_170 (by decide) rfl ?_
                          refine J_aload_n X (pc := 172) dL_isPassed_172 2 rfl ?_
                          refine J_bipush X (pc := 173) (v := 8) dL_isPassed_173 (by decide +kernel) ?_
                          refine J_iload X (pc := 175) dL_isPassed_175 8 rfl ?_
                          refine J_imul X (pc := 177) dL_isPassed_177 ?_
                          refine J_iconst X (pc := 178) (v := 5) dL_isPassed_178 (by decide +kernel) ?_
                          refine J_iadd X (pc := 179) dL_isPassed_179 ?_
                          refine J_iload X (pc := 180) dL_isPassed_180 9 rfl ?_
                          replace h := bk h
                          obtain ⟨r89, g93, h⟩ := h
                          have j92 : ∀ T0, RlT T0 O3 → J E x (k7) (n8) (pw E al ad L26 T0) 190 [(0, .ref (ad.1 0)), (1, .ref (al 2)), (2, .ref (al 3)), (3, .int a4), (5, .int x2), (6, .int v80), (7, .int v87), (8, .int v22), (9, .int x25)] [.int r89, .int ((((8 : Int32)) * x25) + ((5 : Int32))), .ref (al 2)] := by
                            intro T90 hT91
                            replace h := ck_e h
                            obtain ⟨b94, h⟩ := h
                            replace h := nmv_e h
                            obtain ⟨L95, eL95, h⟩ := h
                            refine J_iast X (pc := 190) (w1 := pw E al ad L95 T90) 2 pw_c2 b94 dL_isPassed_190 (pw_s2 eL95) ?_
                            replace h := nmv_e h
                            obtain ⟨v96, ev96, h⟩ := h
                            refine J_iinc X (pc := 191) (v := v96) dL_isPassed_191 8 rfl (by rw [ev96]; rfl) (by decide) rfl ?_
                            refine J_goto X (pc := 194) 34 dL_isPassed_194 (by decide) ?_
                            exact J_sub [1, 2, 3, 4, 5, 6, 7, 8, 0] rfl (ih30 _ _ _ _ _ hT91 h)
                          refine J_if_eq X (pc := 182) 189 dL_isPassed_182 (by decide) (fun c88 => ?_) (fun c88 => ?_)
                          · rw [if_pos c88] at g93
                            refine J_iconst X (pc := 189) (v := 0) dL_isPassed_189 (by decide +kernel) ?_
                            replace g93 := Option.some.inj g93
                            subst g93
                            exact J_sub [1, 2, 3, 4, 5, 6, 0, 7, 8] rfl (j92 _ hT84)
                          · rw [if_neg c88] at g93
                            refine J_iconst X (pc := 185) (v := 1) dL_isPassed_185 (by decide +kernel) ?_
                            refine J_goto X (pc := 186) 190 dL_isPassed_186 (by decide) ?_
                            replace g93 := Option.some.inj g93
                            subst g93
                            exact J_sub [1, 2, 3, 4, 5, 6, 0, 7, 8] rfl (j92 _ hT84)
                        refine J_if_eq X (pc := 158) 168 dL_isPassed_158 (by decide) (fun c81 => ?_) (fun c81 => ?_)
                        · rw [if_pos c81] at g86
                          refine J_iconst X (pc := 168) (v := 0) dL_isPassed_168 (by decide +kernel) ?_
                          replace g86 := Option.some.inj g86
                          subst g86
                          exact J_sub [1, 2, 3, 4, 5, 0, 7, 8, 9] rfl (j85 _ hT77)
                        · rw [if_neg c81] at g86
                          refine J_iconst X (pc := 161) (v := 1) dL_isPassed_161 (by decide +kernel) ?_
                          refine J_iload X (pc := 162) dL_isPassed_162 8 rfl ?_
                          refine J_ishl X (pc := 164) dL_isPassed_164 ?_
                          refine J_goto X (pc := 165) 169 dL_isPassed_165 (by decide) ?_
                          replace g86 := Option.some.inj g86
                          subst g86
                          exact J_sub [1, 2, 3, 4, 5, 0, 7, 8, 9] rfl (j85 _ hT77)
                      refine J_icmp_ne X (pc := 143) 150 dL_isPassed_143 (by decide) (fun c74 => ?_) (fun c74 => ?_)
                      · rw [if_neg c74] at g79
                        refine J_iconst X (pc := 150) (v := 1) dL_isPassed_150 (by decide +kernel) ?_
                        replace g79 := Option.some.inj g79
                        subst g79
                        exact J_sub [1, 2, 3, 4, 5, 7, 8, 9, 10, 0] rfl (j78 _ hT67)
                      · rw [if_pos c74] at g79
                        refine J_iconst X (pc := 146) (v := 0) dL_isPassed_146 (by decide +kernel) ?_
                        refine J_goto X (pc := 147) 151 dL_isPassed_147 (by decide) ?_
                        replace g79 := Option.some.inj g79
                        subst g79
                        exact J_sub [1, 2, 3, 4, 5, 7, 8, 9, 10, 0] rfl (j78 _ hT67)
                    refine J_if_eq X (pc := 91) 112 dL_isPassed_91 (by decide) (fun c64 => ?_) (fun c64 => ?_)
                    · rw [if_pos c64] at g69
                      refine J_iload X (pc := 112) dL_isPassed_112 1 rfl ?_
                      refine J_if_eq X (pc := 114) 134 dL_isPassed_114 (by decide) (fun c70 => ?_) (fun c70 => ?_)
                      · rw [if_pos c70] at g69
                        refine J_iconst X (pc := 134) (v := 0) dL_isPassed_134 (by decide +kernel) ?_
                        replace g69 := Option.some.inj g69
                        subst g69
                        exact J_sub [2, 3, 4, 5, 6, 7, 8, 9, 10, 1, 0] rfl (j68 _ hT63)
                      · rw [if_neg c70] at g69
                        refine J_aload_n X (pc := 117) dL_isPassed_117 3 rfl ?_
                        refine J_bipush X (pc := 118) (v := 8) dL_isPassed_118 (by decide +kernel) ?_
                        refine J_iload X (pc := 120) dL_isPassed_120 10 rfl ?_
                        refine J_imul X (pc := 122) dL_isPassed_122 ?_
                        refine J_iconst X (pc := 123) (v := 5) dL_isPassed_123 (by decide +kernel) ?_
                        refine J_iadd X (pc := 124) dL_isPassed_124 ?_
                        replace g69 := ck_e g69
                        obtain ⟨b71, g69⟩ := g69
                        refine J_iald X (pc := 125) 2 pw_c2 b71 dL_isPassed_125 ?_
                        refine J_iconst X (pc := 126) (v := 1) dL_isPassed_126 (by decide +kernel) ?_
                        refine J_icmp_ne X (pc := 127) 134 dL_isPassed_127 (by decide) (fun c72 => ?_) (fun c72 => ?_)
                        · rw [if_neg c72] at g69
                          refine J_iconst X (pc := 134) (v := 0) dL_isPassed_134 (by decide +kernel) ?_
                          replace g69 := Option.some.inj g69
                          subst g69
                          exact J_sub [2, 3, 4, 5, 6, 7, 8, 9, 10, 1, 0] rfl (j68 _ hT63)
                        · rw [if_pos c72] at g69
                          refine J_iconst X (pc := 130) (v := 1) dL_isPassed_130 (by decide +kernel) ?_
                          refine J_goto X (pc := 131) 135 dL_isPassed_131 (by decide) ?_
                          replace g69 := Option.some.inj g69
                          subst g69
                          exact J_sub [2, 3, 4, 5, 6, 7, 8, 9, 10, 1, 0] rfl (j68 _ hT63)
                    · rw [if_neg c64] at g69
                      refine J_iload X (pc := 94) dL_isPassed_94 11 rfl ?_
                      refine J_iload X (pc := 96) dL_isPassed_96 9 rfl ?_
                      refine J_bipush X (pc := 98) (v := 21) dL_isPassed_98 (by decide +kernel) ?_
                      refine J_iadd X (pc := 100) dL_isPassed_100 ?_
                      refine J_icmp_gt X (pc := 101) 108 dL_isPassed_101 (by decide) (fun c73 => ?_) (fun c73 => ?_)
                      · rw [if_pos c73] at g69
                        refine J_iconst X (pc := 108) (v := 0) dL_isPassed_108 (by decide +kernel) ?_
                        refine J_goto X (pc := 109) 135 dL_isPassed_109 (by decide) ?_
                        replace g69 := Option.some.inj g69
                        subst g69
                        exact J_sub [2, 3, 4, 5, 6, 7, 8, 9, 10, 1, 0] rfl (j68 _ hT63)
                      · rw [if_neg c73] at g69
                        refine J_iconst X (pc := 104) (v := 1) dL_isPassed_104 (by decide +kernel) ?_
                        refine J_goto X (pc := 105) 135 dL_isPassed_105 (by decide) ?_
                        replace g69 := Option.some.inj g69
                        subst g69
                        exact J_sub [2, 3, 4, 5, 6, 7, 8, 9, 10, 1, 0] rfl (j68 _ hT63)
                  refine J_icmp_gt X (pc := 71) 78 dL_isPassed_71 (by decide) (fun c54 => ?_) (fun c54 => ?_)
                  · rw [if_pos c54] at g59
                    refine J_iconst X (pc := 78) (v := 0) dL_isPassed_78 (by decide +kernel) ?_
                    replace g59 := Option.some.inj g59
                    subst g59
                    exact J_sub [1, 2, 3, 4, 5, 6, 7, 8, 9, 0] rfl (j58 _ hT47)
                  · rw [if_neg c54] at g59
                    refine J_iconst X (pc := 74) (v := 1) dL_isPassed_74 (by decide +kernel) ?_
                    refine J_goto X (pc := 75) 79 dL_isPassed_75 (by decide) ?_
                    replace g59 := Option.some.inj g59
                    subst g59
                    exact J_sub [1, 2, 3, 4, 5, 6, 7, 8, 9, 0] rfl (j58 _ hT47)
                refine J_if_ge X (pc := 48) 56 dL_isPassed_48 (by decide) (fun c44 => ?_) (fun c44 => ?_)
                · rw [if_pos c44] at g49
                  refine J_aload_n X (pc := 56) dL_isPassed_56 0 rfl ?_
                  refine J_iload X (pc := 57) dL_isPassed_57 8 rfl ?_
                  replace g49 := bk g49
                  obtain ⟨r50, g51, g49⟩ := g49
                  refine P_early X (pc := 59) g51 hT43 ⟨Nat.le_of_ble_eq_true rfl, Nat.le_of_ble_eq_true rfl⟩ (Nat.le_of_ble_eq_true rfl) ⟨(show k7 ≤ 9 from by omega), (show n8 ≤ 54 from by omega)⟩ dL_isPassed_59 (fun T52 hT53 => ?_)
                  replace g49 := Option.some.inj g49
                  subst g49
                  exact J_sub [0, 1, 2, 3, 4, 5, 6, 7, 8] rfl (j48 _ hT53)
                · rw [if_neg c44] at g49
                  refine J_ldc X (pc := 51) dL_isPassed_51 q_540 ?_
                  refine J_goto X (pc := 53) 62 dL_isPassed_53 (by decide) ?_
                  replace g49 := Option.some.inj g49
                  subst g49
                  exact J_sub [0, 1, 2, 3, 4, 5, 6, 7, 8] rfl (j48 _ hT43)
          exact J_sub [4, 5, 6, 7, 9, 3, 2, 1, 0] rfl (l97 3000 _ _ _ _ _ hT6 g37)
  exact J_sub [2, 3, 4, 5, 1, 0] rfl (l143 9 _ _ _ _ (0) (0) _ (by omega) (by omega) hT g19)
