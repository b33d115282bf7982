noncomputable def f_L_isMiddle_120 (a5 : Int32) (O : Ob) (L : LW) (v2 : Int32) (v7 : Int64) (v12 : Int64) (x16 : Int32) (r31 : Int64) : Nat → Int32 → Int32 → Int32 → Option (Int32 × Int32)
  | 0, _, _, _ => none
  | n38+1, x33, x34, x35 => if v2 ≤ x35 then some (x33, x34) else (f_L_filled a5 x35 O L).bind (fun (r50 : Int64) => (f_L_day a5 x35 O L).bind (fun (r54 : Int32) => (f_L_day a5 x16 O L).bind (fun (r58 : Int32) => nmv (((r50 - r31) * v12) - (v7 * ((r54 - r58).toInt64))) (fun (v59 : Int64) => (if 0 ≤ (lg_cmp v59 ((0 : Int64))) then some ((0 : Int32)) else some ((1 : Int32))).bind (fun (r61 : Int32) => nmv (x33 + r61) (fun (v66 : Int32) => (if (lg_cmp v59 ((0 : Int64))) = 0 then some ((1 : Int32)) else some ((0 : Int32))).bind (fun (r68 : Int32) => nmv (x34 + r68) (fun (v73 : Int32) => nmv (x35 + (1 : Int32)) (fun (v74 : Int32) => f_L_isMiddle_120 a5 O L v2 v7 v12 x16 r31 n38 v66 v73 v74)))))))))
noncomputable def f_L_isMiddle_95 (a5 : Int32) (O : Ob) (L : LW) (v2 : Int32) (v7 : Int64) (v12 : Int64) : Nat → Int32 → Int32 → Int32 → Option (Int32 × Int32)
  | 0, _, _, _ => none
  | n19+1, x14, x15, x16 => if v2 ≤ x16 then some (x14, x15) else (f_L_filled a5 x16 O L).bind (fun (r31 : Int64) => nmv (x16 + ((1 : Int32))) (fun (v32 : Int32) => (f_L_isMiddle_120 a5 O L v2 v7 v12 x16 r31 3000 x14 x15 v32).bind (fun ((r40, r41) : Int32 × Int32) => nmv (x16 + (1 : Int32)) (fun (v76 : Int32) => f_L_isMiddle_95 a5 O L v2 v7 v12 n19 r40 r41 v76))))
noncomputable def f_L_isMiddle_249 : Nat → Int64 → Int64 → Option (Int64)
  | 0, _, _ => none
  | n89+1, x85, x86 => if (lg_cmp x86 ((0 : Int64))) ≤ 0 then some x85 else ck (¬ x86 = 0) (nmv (x85 - x85 / x86 * x86) (fun (v98 : Int64) => f_L_isMiddle_249 n89 x86 v98))
noncomputable def f_L_isMiddle (a5 : Int32) (O : Ob) (L : LW) : Option (Int32) := ck (inb ((((8 : Int32)) * a5) + ((1 : Int32))) 24) (nmv (L.2.2.1 ((((8 : Int32)) * a5) + ((1 : Int32))).toNatClampNeg) (fun (v2 : Int32) => (q_slope ((1 : Int32)) a5 O).bind (fun (r6 : Int32) => nmv (r6.toInt64) (fun (v7 : Int64) => (q_slope ((0 : Int32)) a5 O).bind (fun (r11 : Int32) => nmv (r11.toInt64) (fun (v12 : Int64) => if ((2 : Int32)) ≤ v2 then (f_L_isMiddle_95 a5 O L v2 v7 v12 3000 ((0 : Int32)) ((0 : Int32)) ((0 : Int32))).bind (fun ((r21, r22) : Int32 × Int32) => nmv ((((v2 * (v2 - ((1 : Int32)))) / ((2 : Int32))) - ((1 : Int32))) / ((2 : Int32))) (fun (v78 : Int32) => (if 0 ≤ (lg_cmp v7 ((0 : Int64))) then some v7 else some (-v7)).bind (fun (r80 : Int64) => (f_L_isMiddle_249 3000 r80 v12).bind (fun (r91 : Int64) => if (lg_cmp v12 ((0 : Int64))) ≤ 0 then some ((0 : Int32)) else if (lg_cmp r91 ((1 : Int64))) = 0 then if v78 < r21 then some ((0 : Int32)) else if (r21 + r22) ≤ v78 then some ((0 : Int32)) else some ((1 : Int32)) else some ((0 : Int32)))))) else if (lg_cmp v7 ((-2000000973 : Int64))) = 0 then if (lg_cmp v12 ((-2000000973 : Int64))) = 0 then (qx_forecast a5 ((-7 : Int32)) O).bind (fun (r109 : Int32) => if r109 = ((-973 : Int32)) then (q_full a5 O).bind (fun (r111 : Int32) => if r111 = ((-1 : Int32)) then some ((1 : Int32)) else some ((0 : Int32))) else some ((0 : Int32))) else some ((0 : Int32)) else some ((0 : Int32))))))))
set_option maxRecDepth 100000 in
set_option maxHeartbeats 8000000 in
theorem c_L_isMiddle (E : Ev) (al : Nat → Nat) (ad : CA) {a5 : Int32} {O : Ob} {L : LW} {T : TS} {r : Int32} (h : f_L_isMiddle a5 O L = some r) (hT : RlT T O) : CtN E yL_isMiddle cL_isMiddle 19 .boolean 10 194 3 18 (pw E al ad L T) [.ref (ad.1 0), .ref (al 0), .ref (al 1), .ref (al 2), .int a5] r (fun u : TS => RlT u O) (fun u => pw E al ad L u) := by
  refine CtN_of (by decide +kernel) (Nat.le_of_ble_eq_true rfl) (fun x X XX XN hE => ?_)
  show J E x 0 0 (pw E al ad L T) 0 [(0, .ref (ad.1 0)), (1, .ref (al 0)), (2, .ref (al 1)), (3, .ref (al 2)), (4, .int a5)] []
  unfold f_L_isMiddle at h
  refine J_aload_n X (pc := 0) dL_isMiddle_0 3 rfl ?_
  refine J_bipush X (pc := 1) (v := 8) dL_isMiddle_1 (by decide +kernel) ?_
  refine J_iload X (pc := 3) dL_isMiddle_3 4 rfl ?_
  refine J_imul X (pc := 5) dL_isMiddle_5 ?_
  refine J_iconst X (pc := 6) (v := 1) dL_isMiddle_6 (by decide +kernel) ?_
  refine J_iadd X (pc := 7) dL_isMiddle_7 ?_
  replace h := ck_e h
  obtain ⟨b1, h⟩ := h
  refine J_iald X (pc := 8) 2 pw_c2 b1 dL_isMiddle_8 ?_
  replace h := nmv_e h
  obtain ⟨v2, ev2, h⟩ := h
  refine J_nmi ev2 ?_
  refine J_istore X (pc := 9) dL_isMiddle_9 (by decide) rfl ?_
  refine J_aload_n X (pc := 11) dL_isMiddle_11 1 rfl ?_
  refine J_iconst X (pc := 12) (v := 1) dL_isMiddle_12 (by decide +kernel) ?_
  refine J_iload X (pc := 13) dL_isMiddle_13 5 rfl ?_
  replace h := bk h
  obtain ⟨r6, g3, h⟩ := h
  refine P_slope X XX XN (pc := 15) g3 hT ⟨Nat.le_of_ble_eq_true rfl, Nat.le_of_ble_eq_true rfl⟩ (Nat.le_of_ble_eq_true rfl) ⟨(show 1 ≤ 3 from by omega), (show 6 ≤ 18 from by omega)⟩ dL_isMiddle_15 (fun T4 hT5 => ?_)
  refine J_i2l X (pc := 18) dL_isMiddle_18 ?_
  replace h := nmv_e h
  obtain ⟨v7, ev7, h⟩ := h
  refine J_nml ev7 ?_
  refine J_lstore X (pc := 19) dL_isMiddle_19 (by decide) rfl ?_
  refine J_aload_n X (pc := 21) dL_isMiddle_21 2 rfl ?_
  refine J_iconst X (pc := 22) (v := 0) dL_isMiddle_22 (by decide +kernel) ?_
  refine J_iload X (pc := 23) dL_isMiddle_23 6 rfl ?_
  replace h := bk h
  obtain ⟨r11, g8, h⟩ := h
  refine P_slope X XX XN (pc := 25) g8 hT5 ⟨Nat.le_of_ble_eq_true rfl, Nat.le_of_ble_eq_true rfl⟩ (Nat.le_of_ble_eq_true rfl) ⟨(show 2 ≤ 3 from by omega), (show 12 ≤ 18 from by omega)⟩ dL_isMiddle_25 (fun T9 hT10 => ?_)
  refine J_i2l X (pc := 28) dL_isMiddle_28 ?_
  replace h := nmv_e h
  obtain ⟨v12, ev12, h⟩ := h
  refine J_nml ev12 ?_
  refine J_lstore X (pc := 29) dL_isMiddle_29 (by decide) rfl ?_
  refine J_iload X (pc := 31) dL_isMiddle_31 2 rfl ?_
  refine J_iconst X (pc := 33) (v := 2) dL_isMiddle_33 (by decide +kernel) ?_
  refine J_icmp_ge X (pc := 34) 86 dL_isMiddle_34 (by decide) (fun c13 => ?_) (fun c13 => ?_)
  · rw [if_pos c13] at h
    refine J_iconst X (pc := 86) (v := 0) dL_isMiddle_86 (by decide +kernel) ?_
    refine J_istore X (pc := 87) dL_isMiddle_87 (by decide) rfl ?_
    refine J_iconst X (pc := 89) (v := 0) dL_isMiddle_89 (by decide +kernel) ?_
    refine J_istore X (pc := 90) dL_isMiddle_90 (by decide) rfl ?_
    refine J_iconst X (pc := 92) (v := 0) dL_isMiddle_92 (by decide +kernel) ?_
    refine J_istore X (pc := 93) dL_isMiddle_93 (by decide) rfl ?_
    replace h := bk h
    obtain ⟨⟨r21, r22⟩, g26, h⟩ := h
    dsimp only at h
    have k25 : ∀ T0, RlT T0 O → J E x (2) (12) (pw E al ad L T0) 213 [(5, .int v2), (6, .long v7), (8, .long v12), (10, .int r21), (11, .int r22)] [] := by
      intro T23 hT24
      refine J_iload X (pc := 213) dL_isMiddle_213 0 rfl ?_
      refine J_iload X (pc := 215) dL_isMiddle_215 0 rfl ?_
      refine J_iconst X (pc := 217) (v := 1) dL_isMiddle_217 (by decide +kernel) ?_
      refine J_isub X (pc := 218) dL_isMiddle_218 ?_
      refine J_imul X (pc := 219) dL_isMiddle_219 ?_
      refine J_iconst X (pc := 220) (v := 2) dL_isMiddle_220 (by decide +kernel) ?_
      refine J_idiv X (pc := 221) dL_isMiddle_221 (by decide +kernel) ?_
      refine J_iconst X (pc := 222) (v := 1) dL_isMiddle_222 (by decide +kernel) ?_
      refine J_isub X (pc := 223) dL_isMiddle_223 ?_
      refine J_iconst X (pc := 224) (v := 2) dL_isMiddle_224 (by decide +kernel) ?_
      refine J_idiv X (pc := 225) dL_isMiddle_225 (by decide +kernel) ?_
      replace h := nmv_e h
      obtain ⟨v78, ev78, h⟩ := h
      refine J_nmi ev78 ?_
      refine J_istore X (pc := 226) dL_isMiddle_226 (by decide) rfl ?_
      refine J_lload X (pc := 228) dL_isMiddle_228 2 rfl ?_
      refine J_lconst X (pc := 230) (v := 0) dL_isMiddle_230 (by decide +kernel) ?_
      refine J_lcmp X (pc := 231) dL_isMiddle_231 ?_
      replace h := bk h
      obtain ⟨r80, g84, h⟩ := h
      have j83 : ∀ T0, RlT T0 O → J E x (2) (12) (pw E al ad L T0) 243 [(8, .long v12), (10, .int r21), (11, .int r22), (12, .int v78)] [.long r80] := by
        intro T81 hT82
        refine J_lstore X (pc := 243) dL_isMiddle_243 (by decide) rfl ?_
        refine J_lload X (pc := 245) dL_isMiddle_245 1 rfl ?_
        refine J_lstore X (pc := 247) dL_isMiddle_247 (by decide) rfl ?_
        replace h := bk h
        obtain ⟨r91, g95, h⟩ := h
        have k94 : ∀ T0, RlT T0 O → J E x (2) (12) (pw E al ad L T0) 274 [(8, .long v12), (10, .int r21), (11, .int r22), (12, .int v78), (13, .long r91)] [] := by
          intro T92 hT93
          refine J_lload X (pc := 274) dL_isMiddle_274 0 rfl ?_
          refine J_lconst X (pc := 276) (v := 0) dL_isMiddle_276 (by decide +kernel) ?_
          refine J_lcmp X (pc := 277) dL_isMiddle_277 ?_
          refine J_if_le X (pc := 278) 309 dL_isMiddle_278 (by decide) (fun c100 => ?_) (fun c100 => ?_)
          · rw [if_pos c100] at h
            refine J_iconst X (pc := 309) (v := 0) dL_isMiddle_309 (by decide +kernel) ?_
            cases h
            exact J_widen (k2 := 3) (n2 := 18) (by omega) (by omega) (hE T92 hT93 _ _ dL_isMiddle_310 (by decide +kernel))
          · rw [if_neg c100] at h
            refine J_lload X (pc := 281) dL_isMiddle_281 4 rfl ?_
            refine J_lconst X (pc := 283) (v := 1) dL_isMiddle_283 (by decide +kernel) ?_
            refine J_lcmp X (pc := 284) dL_isMiddle_284 ?_
            refine J_if_ne X (pc := 285) 309 dL_isMiddle_285 (by decide) (fun c101 => ?_) (fun c101 => ?_)
            · rw [if_neg c101] at h
              refine J_iconst X (pc := 309) (v := 0) dL_isMiddle_309 (by decide +kernel) ?_
              cases h
              exact J_widen (k2 := 3) (n2 := 18) (by omega) (by omega) (hE T92 hT93 _ _ dL_isMiddle_310 (by decide +kernel))
            · rw [if_pos c101] at h
              refine J_iload X (pc := 288) dL_isMiddle_288 1 rfl ?_
              refine J_iload X (pc := 290) dL_isMiddle_290 3 rfl ?_
              refine J_icmp_gt X (pc := 292) 309 dL_isMiddle_292 (by decide) (fun c102 => ?_) (fun c102 => ?_)
              · rw [if_pos c102] at h
                refine J_iconst X (pc := 309) (v := 0) dL_isMiddle_309 (by decide +kernel) ?_
                cases h
                exact J_widen (k2 := 3) (n2 := 18) (by omega) (by omega) (hE T92 hT93 _ _ dL_isMiddle_310 (by decide +kernel))
              · rw [if_neg c102] at h
                refine J_iload X (pc := 295) dL_isMiddle_295 3 rfl ?_
                refine J_iload X (pc := 297) dL_isMiddle_297 1 rfl ?_
                refine J_iload X (pc := 299) dL_isMiddle_299 2 rfl ?_
                refine J_iadd X (pc := 301) dL_isMiddle_301 ?_
                refine J_icmp_ge X (pc := 302) 309 dL_isMiddle_302 (by decide) (fun c103 => ?_) (fun c103 => ?_)
                · rw [if_pos c103] at h
                  refine J_iconst X (pc := 309) (v := 0) dL_isMiddle_309 (by decide +kernel) ?_
                  cases h
                  exact J_widen (k2 := 3) (n2 := 18) (by omega) (by omega) (hE T92 hT93 _ _ dL_isMiddle_310 (by decide +kernel))
                · rw [if_neg c103] at h
                  refine J_iconst X (pc := 305) (v := 1) dL_isMiddle_305 (by decide +kernel) ?_
                  refine J_goto X (pc := 306) 310 dL_isMiddle_306 (by decide) ?_
                  cases h
                  exact J_widen (k2 := 3) (n2 := 18) (by omega) (by omega) (hE T92 hT93 _ _ dL_isMiddle_310 (by decide +kernel))
        clear h
        have l99 : ∀ (n89 : Nat) (x85 : Int64) (x86 : Int64) (T87 : TS), RlT T87 O → f_L_isMiddle_249 n89 x85 x86 = some r91 → J E x (2) (12) (pw E al ad L T87) 249 [(8, .long v12), (10, .int r21), (11, .int r22), (12, .int v78), (13, .long x85), (15, .long x86)] [] := by
          intro n89
          induction n89 with
          | zero => intro x85 x86 T87 hT88 h; rw [f_L_isMiddle_249] at h; cases h
          | succ n89 ih90 =>
            intro x85 x86 T87 hT88 h
            rw [f_L_isMiddle_249] at h
            refine J_lload X (pc := 249) dL_isMiddle_249 5 rfl ?_
            refine J_lconst X (pc := 251) (v := 0) dL_isMiddle_251 (by decide +kernel) ?_
            refine J_lcmp X (pc := 252) dL_isMiddle_252 ?_
            refine J_if_le X (pc := 253) 274 dL_isMiddle_253 (by decide) (fun c96 => ?_) (fun c96 => ?_)
            · rw [if_pos c96] at h
              cases h
              exact J_sub [0, 1, 2, 3, 4] rfl (k94 _ hT88)
            · rw [if_neg c96] at h
              refine J_lload X (pc := 256) dL_isMiddle_256 4 rfl ?_
              refine J_lload X (pc := 258) dL_isMiddle_258 5 rfl ?_
              replace h := ck_e h
              obtain ⟨b97, h⟩ := h
              refine J_lrem X (pc := 260) dL_isMiddle_260 b97 ?_
              replace h := nmv_e h
              obtain ⟨v98, ev98, h⟩ := h
              refine J_nml ev98 ?_
              refine J_lstore X (pc := 261) dL_isMiddle_261 (by decide) rfl ?_
              refine J_lload X (pc := 263) dL_isMiddle_263 6 rfl ?_
              refine J_lstore X (pc := 265) dL_isMiddle_265 (by decide) rfl ?_
              refine J_lload X (pc := 267) dL_isMiddle_267 1 rfl ?_
              refine J_lstore X (pc := 269) dL_isMiddle_269 (by decide) rfl ?_
              refine J_goto X (pc := 271) 249 dL_isMiddle_271 (by decide) ?_
              exact J_sub [3, 4, 5, 6, 1, 0] rfl (ih90 _ _ _ hT88 h)
        exact J_sub [2, 3, 4, 5, 1, 0] rfl (l99 3000 _ _ _ hT82 g95)
      refine J_if_ge X (pc := 232) 241 dL_isMiddle_232 (by decide) (fun c79 => ?_) (fun c79 => ?_)
      · rw [if_pos c79] at g84
        refine J_lload X (pc := 241) dL_isMiddle_241 2 rfl ?_
        replace g84 := Option.some.inj g84
        subst g84
        exact J_sub [3, 4, 5, 0] rfl (j83 _ hT24)
      · rw [if_neg c79] at g84
        refine J_lload X (pc := 235) dL_isMiddle_235 2 rfl ?_
        refine J_lneg X (pc := 237) dL_isMiddle_237 ?_
        refine J_goto X (pc := 238) 243 dL_isMiddle_238 (by decide) ?_
        replace g84 := Option.some.inj g84
        subst g84
        exact J_sub [3, 4, 5, 0] rfl (j83 _ hT24)
    clear h
    have l77 : ∀ (n19 : Nat) (x14 : Int32) (x15 : Int32) (x16 : Int32) (T17 : TS), RlT T17 O → f_L_isMiddle_95 a5 O L v2 v7 v12 n19 x14 x15 x16 = some (r21, r22) → J E x (2) (12) (pw E al ad L T17) 95 [(1, .ref (al 0)), (2, .ref (al 1)), (3, .ref (al 2)), (4, .int a5), (5, .int v2), (6, .long v7), (8, .long v12), (10, .int x14), (11, .int x15), (12, .int x16)] [] := by
      intro n19
      induction n19 with
      | zero => intro x14 x15 x16 T17 hT18 h; rw [f_L_isMiddle_95] at h; cases h
      | succ n19 ih20 =>
        intro x14 x15 x16 T17 hT18 h
        rw [f_L_isMiddle_95] at h
        refine J_iload X (pc := 95) dL_isMiddle_95 9 rfl ?_
        refine J_iload X (pc := 97) dL_isMiddle_97 4 rfl ?_
        refine J_icmp_ge X (pc := 99) 213 dL_isMiddle_99 (by decide) (fun c27 => ?_) (fun c27 => ?_)
        · rw [if_pos c27] at h
          cases h
          exact J_sub [4, 5, 6, 7, 8] rfl (k25 _ hT18)
        · rw [if_neg c27] at h
          refine J_aload_n X (pc := 102) dL_isMiddle_102 0 rfl ?_
          refine J_aload_n X (pc := 103) dL_isMiddle_103 1 rfl ?_
          refine J_aload_n X (pc := 104) dL_isMiddle_104 2 rfl ?_
          refine J_iload X (pc := 105) dL_isMiddle_105 3 rfl ?_
          refine J_iload X (pc := 107) dL_isMiddle_107 9 rfl ?_
          replace h := bk h
          obtain ⟨r31, g28, h⟩ := h
          refine J_callNL X XX XN (pc := 109) (y := yL_filled) (na := 5) (As := [.ref (al 0), .ref (al 1), .ref (al 2), .int a5, .int x16]) (rest := []) (c_L_filled E al ad g28 hT18) q_517 q_518 q_507 q_511 rfl (by decide +kernel) ⟨Nat.le_of_ble_eq_true rfl, Nat.le_of_ble_eq_true rfl⟩ rfl (Nat.le_of_ble_eq_true rfl) ⟨(show 2 ≤ 3 from by omega), (show 12 ≤ 18 from by omega)⟩ dL_isMiddle_109 (fun T29 hT30 => ?_)
          refine J_lstore X (pc := 112) dL_isMiddle_112 (by decide) rfl ?_
          refine J_iload X (pc := 114) dL_isMiddle_114 10 rfl ?_
          refine J_iconst X (pc := 116) (v := 1) dL_isMiddle_116 (by decide +kernel) ?_
          refine J_iadd X (pc := 117) dL_isMiddle_117 ?_
          replace h := nmv_e h
          obtain ⟨v32, ev32, h⟩ := h
          refine J_nmi ev32 ?_
          refine J_istore X (pc := 118) dL_isMiddle_118 (by decide) rfl ?_
          replace h := bk h
          obtain ⟨⟨r40, r41⟩, g45, h⟩ := h
          dsimp only at h
          have k44 : ∀ T0, RlT T0 O → J E x (2) (12) (pw E al ad L T0) 207 [(1, .ref (al 0)), (2, .ref (al 1)), (3, .ref (al 2)), (4, .int a5), (5, .int v2), (6, .long v7), (8, .long v12), (10, .int r40), (11, .int r41), (12, .int x16)] [] := by
            intro T42 hT43
            replace h := nmv_e h
            obtain ⟨v76, ev76, h⟩ := h
            refine J_iinc X (pc := 207) (v := v76) dL_isMiddle_207 9 rfl (by rw [ev76]; rfl) (by decide) rfl ?_
            refine J_goto X (pc := 210) 95 dL_isMiddle_210 (by decide) ?_
            exact J_sub [1, 2, 3, 4, 5, 6, 7, 8, 9, 0] rfl (ih20 _ _ _ _ hT43 h)
          clear h
          have l75 : ∀ (n38 : Nat) (x33 : Int32) (x34 : Int32) (x35 : Int32) (T36 : TS), RlT T36 O → f_L_isMiddle_120 a5 O L v2 v7 v12 x16 r31 n38 x33 x34 x35 = some (r40, r41) → J E x (2) (12) (pw E al ad L T36) 120 [(1, .ref (al 0)), (2, .ref (al 1)), (3, .ref (al 2)), (4, .int a5), (5, .int v2), (6, .long v7), (8, .long v12), (10, .int x33), (11, .int x34), (12, .int x16), (13, .long r31), (15, .int x35)] [] := by
            intro n38
            induction n38 with
            | zero => intro x33 x34 x35 T36 hT37 h; rw [f_L_isMiddle_120] at h; cases h
            | succ n38 ih39 =>
              intro x33 x34 x35 T36 hT37 h
              rw [f_L_isMiddle_120] at h
              refine J_iload X (pc := 120) dL_isMiddle_120 11 rfl ?_
              refine J_iload X (pc := 122) dL_isMiddle_122 4 rfl ?_
              refine J_icmp_ge X (pc := 124) 207 dL_isMiddle_124 (by decide) (fun c46 => ?_) (fun c46 => ?_)
              · rw [if_pos c46] at h
                cases h
                exact J_sub [0, 1, 2, 3, 4, 5, 6, 7, 8, 9] rfl (k44 _ hT37)
              · rw [if_neg c46] at h
                refine J_aload_n X (pc := 127) dL_isMiddle_127 0 rfl ?_
                refine J_aload_n X (pc := 128) dL_isMiddle_128 1 rfl ?_
                refine J_aload_n X (pc := 129) dL_isMiddle_129 2 rfl ?_
                refine J_iload X (pc := 130) dL_isMiddle_130 3 rfl ?_
                refine J_iload X (pc := 132) dL_isMiddle_132 11 rfl ?_
                replace h := bk h
                obtain ⟨r50, g47, h⟩ := h
                refine J_callNL X XX XN (pc := 134) (y := yL_filled) (na := 5) (As := [.ref (al 0), .ref (al 1), .ref (al 2), .int a5, .int x35]) (rest := []) (c_L_filled E al ad g47 hT37) q_517 q_518 q_507 q_511 rfl (by decide +kernel) ⟨Nat.le_of_ble_eq_true rfl, Nat.le_of_ble_eq_true rfl⟩ rfl (Nat.le_of_ble_eq_true rfl) ⟨(show 2 ≤ 3 from by omega), (show 12 ≤ 18 from by omega)⟩ dL_isMiddle_134 (fun T48 hT49 => ?_)
                refine J_lload X (pc := 137) dL_isMiddle_137 10 rfl ?_
                refine J_lsub X (pc := 139) dL_isMiddle_139 ?_
                refine J_lload X (pc := 140) dL_isMiddle_140 6 rfl ?_
                refine J_lmul X (pc := 142) dL_isMiddle_142 ?_
                refine J_lload X (pc := 143) dL_isMiddle_143 5 rfl ?_
                refine J_aload_n X (pc := 145) dL_isMiddle_145 0 rfl ?_
                refine J_iload X (pc := 146) dL_isMiddle_146 3 rfl ?_
                refine J_iload X (pc := 148) dL_isMiddle_148 11 rfl ?_
                replace h := bk h
                obtain ⟨r54, g51, h⟩ := h
                refine J_callN X XX XN (pc := 150) (y := yL_day) (na := 3) (As := [.ref (al 0), .int a5, .int x35]) (rest := [.long v7, .long ((r50 - r31) * v12)]) (c_L_day E al ad g51 hT49) q_512 q_513 q_507 q_509 rfl (by decide +kernel) ⟨Nat.le_of_ble_eq_true rfl, Nat.le_of_ble_eq_true rfl⟩ rfl (Nat.le_of_ble_eq_true rfl) ⟨(show 2 ≤ 3 from by omega), (show 12 ≤ 18 from by omega)⟩ dL_isMiddle_150 (fun T52 hT53 => ?_)
                refine J_aload_n X (pc := 153) dL_isMiddle_153 0 rfl ?_
                refine J_iload X (pc := 154) dL_isMiddle_154 3 rfl ?_
                refine J_iload X (pc := 156) dL_isMiddle_156 9 rfl ?_
                replace h := bk h
                obtain ⟨r58, g55, h⟩ := h
                refine J_callN X XX XN (pc := 158) (y := yL_day) (na := 3) (As := [.ref (al 0), .int a5, .int x16]) (rest := [.int r54, .long v7, .long ((r50 - r31) * v12)]) (c_L_day E al ad g55 hT53) q_512 q_513 q_507 q_509 rfl (by decide +kernel) ⟨Nat.le_of_ble_eq_true rfl, Nat.le_of_ble_eq_true rfl⟩ rfl (Nat.le_of_ble_eq_true rfl) ⟨(show 2 ≤ 3 from by omega), (show 12 ≤ 18 from by omega)⟩ dL_isMiddle_158 (fun T56 hT57 => ?_)
                refine J_isub X (pc := 161) dL_isMiddle_161 ?_
                refine J_i2l X (pc := 162) dL_isMiddle_162 ?_
                refine J_lmul X (pc := 163) dL_isMiddle_163 ?_
                refine J_lsub X (pc := 164) dL_isMiddle_164 ?_
                replace h := nmv_e h
                obtain ⟨v59, ev59, h⟩ := h
                refine J_nml ev59 ?_
                refine J_lstore X (pc := 165) dL_isMiddle_165 (by decide) rfl ?_
                refine J_iload X (pc := 167) dL_isMiddle_167 8 rfl ?_
                refine J_lload X (pc := 169) dL_isMiddle_169 0 rfl ?_
                refine J_lconst X (pc := 171) (v := 0) dL_isMiddle_171 (by decide +kernel) ?_
                refine J_lcmp X (pc := 172) dL_isMiddle_172 ?_
                replace h := bk h
                obtain ⟨r61, g65, h⟩ := h
                have j64 : ∀ T0, RlT T0 O → J E x (2) (12) (pw E al ad L T0) 181 [(1, .ref (al 0)), (2, .ref (al 1)), (3, .ref (al 2)), (4, .int a5), (5, .int v2), (6, .long v7), (8, .long v12), (11, .int x34), (12, .int x16), (13, .long r31), (15, .int x35), (16, .long v59)] [.int r61, .int x33] := by
                  intro T62 hT63
                  refine J_iadd X (pc := 181) dL_isMiddle_181 ?_
                  replace h := nmv_e h
                  obtain ⟨v66, ev66, h⟩ := h
                  refine J_nmi ev66 ?_
                  refine J_istore X (pc := 182) dL_isMiddle_182 (by decide) rfl ?_
                  refine J_iload X (pc := 184) dL_isMiddle_184 8 rfl ?_
                  refine J_lload X (pc := 186) dL_isMiddle_186 12 rfl ?_
                  refine J_lconst X (pc := 188) (v := 0) dL_isMiddle_188 (by decide +kernel) ?_
                  refine J_lcmp X (pc := 189) dL_isMiddle_189 ?_
                  replace h := bk h
                  obtain ⟨r68, g72, h⟩ := h
                  have j71 : ∀ T0, RlT T0 O → J E x (2) (12) (pw E al ad L T0) 198 [(1, .ref (al 0)), (2, .ref (al 1)), (3, .ref (al 2)), (4, .int a5), (5, .int v2), (6, .long v7), (8, .long v12), (10, .int v66), (12, .int x16), (13, .long r31), (15, .int x35)] [.int r68, .int x34] := by
                    intro T69 hT70
                    refine J_iadd X (pc := 198) dL_isMiddle_198 ?_
                    replace h := nmv_e h
                    obtain ⟨v73, ev73, h⟩ := h
                    refine J_nmi ev73 ?_
                    refine J_istore X (pc := 199) dL_isMiddle_199 (by decide) rfl ?_
                    replace h := nmv_e h
                    obtain ⟨v74, ev74, h⟩ := h
                    refine J_iinc X (pc := 201) (v := v74) dL_isMiddle_201 11 rfl (by rw [ev74]; rfl) (by decide) rfl ?_
                    refine J_goto X (pc := 204) 120 dL_isMiddle_204 (by decide) ?_
                    exact J_sub [2, 3, 4, 5, 6, 7, 8, 9, 1, 10, 11, 0] rfl (ih39 _ _ _ _ hT70 h)
                  refine J_if_ne X (pc := 190) 197 dL_isMiddle_190 (by decide) (fun c67 => ?_) (fun c67 => ?_)
                  · rw [if_neg c67] at g72
                    refine J_iconst X (pc := 197) (v := 0) dL_isMiddle_197 (by decide +kernel) ?_
                    replace g72 := Option.some.inj g72
                    subst g72
                    exact J_sub [1, 2, 3, 4, 5, 6, 7, 0, 9, 10, 11] rfl (j71 _ hT63)
                  · rw [if_pos c67] at g72
                    refine J_iconst X (pc := 193) (v := 1) dL_isMiddle_193 (by decide +kernel) ?_
                    refine J_goto X (pc := 194) 198 dL_isMiddle_194 (by decide) ?_
                    replace g72 := Option.some.inj g72
                    subst g72
                    exact J_sub [1, 2, 3, 4, 5, 6, 7, 0, 9, 10, 11] rfl (j71 _ hT63)
                refine J_if_ge X (pc := 173) 180 dL_isMiddle_173 (by decide) (fun c60 => ?_) (fun c60 => ?_)
                · rw [if_pos c60] at g65
                  refine J_iconst X (pc := 180) (v := 0) dL_isMiddle_180 (by decide +kernel) ?_
                  replace g65 := Option.some.inj g65
                  subst g65
                  exact J_sub [1, 2, 3, 4, 5, 6, 7, 9, 10, 11, 12, 0] rfl (j64 _ hT57)
                · rw [if_neg c60] at g65
                  refine J_iconst X (pc := 176) (v := 1) dL_isMiddle_176 (by decide +kernel) ?_
                  refine J_goto X (pc := 177) 181 dL_isMiddle_177 (by decide) ?_
                  replace g65 := Option.some.inj g65
                  subst g65
                  exact J_sub [1, 2, 3, 4, 5, 6, 7, 9, 10, 11, 12, 0] rfl (j64 _ hT57)
          exact J_sub [2, 3, 4, 5, 6, 7, 8, 9, 10, 11, 1, 0] rfl (l75 3000 _ _ _ _ hT30 g45)
    exact J_sub [7, 8, 9, 10, 5, 4, 3, 2, 1, 0] rfl (l77 3000 _ _ _ _ hT10 g26)
  · rw [if_neg c13] at h
    refine J_lload X (pc := 37) dL_isMiddle_37 1 rfl ?_
    refine J_ldc2 X (pc := 39) dL_isMiddle_39 q_514 ?_
    refine J_lcmp X (pc := 42) dL_isMiddle_42 ?_
    refine J_if_ne X (pc := 43) 84 dL_isMiddle_43 (by decide) (fun c104 => ?_) (fun c104 => ?_)
    · rw [if_neg c104] at h
      refine J_iconst X (pc := 84) (v := 0) dL_isMiddle_84 (by decide +kernel) ?_
      cases h
      exact J_widen (k2 := 3) (n2 := 18) (by omega) (by omega) (hE T9 hT10 _ _ dL_isMiddle_85 (by decide +kernel))
    · rw [if_pos c104] at h
      refine J_lload X (pc := 46) dL_isMiddle_46 0 rfl ?_
      refine J_ldc2 X (pc := 48) dL_isMiddle_48 q_514 ?_
      refine J_lcmp X (pc := 51) dL_isMiddle_51 ?_
      refine J_if_ne X (pc := 52) 84 dL_isMiddle_52 (by decide) (fun c105 => ?_) (fun c105 => ?_)
      · rw [if_neg c105] at h
        refine J_iconst X (pc := 84) (v := 0) dL_isMiddle_84 (by decide +kernel) ?_
        cases h
        exact J_widen (k2 := 3) (n2 := 18) (by omega) (by omega) (hE T9 hT10 _ _ dL_isMiddle_85 (by decide +kernel))
      · rw [if_pos c105] at h
        refine J_aload_n X (pc := 55) dL_isMiddle_55 3 rfl ?_
        refine J_iconst X (pc := 56) (v := 5) dL_isMiddle_56 (by decide +kernel) ?_
        refine J_iload X (pc := 57) dL_isMiddle_57 7 rfl ?_
        refine J_bipush X (pc := 59) (v := -7) dL_isMiddle_59 (by decide +kernel) ?_
        replace h := bk h
        obtain ⟨r109, g106, h⟩ := h
        refine P_x_forecast X XX XN (pc := 61) g106 hT10 ⟨Nat.le_of_ble_eq_true rfl, Nat.le_of_ble_eq_true rfl⟩ (Nat.le_of_ble_eq_true rfl) ⟨(show 3 ≤ 3 from by omega), (show 18 ≤ 18 from by omega)⟩ dL_isMiddle_61 (fun T107 hT108 => ?_)
        refine J_sipush X (pc := 64) (v := -973) dL_isMiddle_64 (by decide +kernel) ?_
        refine J_icmp_ne X (pc := 67) 84 dL_isMiddle_67 (by decide) (fun c110 => ?_) (fun c110 => ?_)
        · rw [if_neg c110] at h
          refine J_iconst X (pc := 84) (v := 0) dL_isMiddle_84 (by decide +kernel) ?_
          cases h
          exact J_widen (k2 := 3) (n2 := 18) (by omega) (by omega) (hE T107 hT108 _ _ dL_isMiddle_85 (by decide +kernel))
        · rw [if_pos c110] at h
          refine J_aload_n X (pc := 70) dL_isMiddle_70 3 rfl ?_
          refine J_iload X (pc := 71) dL_isMiddle_71 7 rfl ?_
          replace h := bk h
          obtain ⟨r111, g112, h⟩ := h
          refine P_full X (pc := 73) g112 hT108 ⟨Nat.le_of_ble_eq_true rfl, Nat.le_of_ble_eq_true rfl⟩ (Nat.le_of_ble_eq_true rfl) ⟨(show 3 ≤ 3 from by omega), (show 18 ≤ 18 from by omega)⟩ dL_isMiddle_73 (fun T113 hT114 => ?_)
          refine J_iconst X (pc := 76) (v := -1) dL_isMiddle_76 (by decide +kernel) ?_
          refine J_icmp_ne X (pc := 77) 84 dL_isMiddle_77 (by decide) (fun c115 => ?_) (fun c115 => ?_)
          · rw [if_neg c115] at h
            refine J_iconst X (pc := 84) (v := 0) dL_isMiddle_84 (by decide +kernel) ?_
            cases h
            exact J_widen (k2 := 3) (n2 := 18) (by omega) (by omega) (hE T113 hT114 _ _ dL_isMiddle_85 (by decide +kernel))
          · rw [if_pos c115] at h
            refine J_iconst X (pc := 80) (v := 1) dL_isMiddle_80 (by decide +kernel) ?_
            refine J_goto X (pc := 81) 85 dL_isMiddle_81 (by decide) ?_
            cases h
            exact J_widen (k2 := 3) (n2 := 18) (by omega) (by omega) (hE T113 hT114 _ _ dL_isMiddle_85 (by decide +kernel))
noncomputable def f_L_areForecasts_159 (a4 : Int32) (a5 : Int32) (O : Ob) (L : LW) (r7 : Int32) (r8 : Int32) (r13 : Int32) : Nat → Int32 → Int32 → Option (Int32)
  | 0, _, _ => none
  | n46+1, x42, x43 => if ((6 : Int32)) ≤ x43 then some x42 else if x42 = 0 then some x42 else ck (¬ (r13 - r7) = 0) (nmv ((r7 + ((1 : Int32))) + ((a5 + (((173 : Int32)) * x43)) - (a5 + (((173 : Int32)) * x43)) / (r13 - r7) * (r13 - r7))) (fun (v56 : Int32) => (f_L_due a4 v56 O L).bind (fun (r60 : Int64) => (q_forecast a4 v56 O).bind (fun (r61 : Int32) => (if (lg_cmp r61.toInt64 r60) = 0 then if v56 = r8 then some ((1 : Int32)) else ck (inb (((8 : Int32)) * a4) 24) (if 0 ≤ (lg_cmp r60 ((L.2.2.1 (((8 : Int32)) * a4).toNatClampNeg).toInt64)) then some ((0 : Int32)) else some ((1 : Int32))) else some ((0 : Int32))).bind (fun (r66 : Int32) => nmv (x43 + (1 : Int32)) (fun (v74 : Int32) => f_L_areForecasts_159 a4 a5 O L r7 r8 r13 n46 r66 v74))))))
noncomputable def f_L_areForecasts (a4 : Int32) (a5 : Int32) (O : Ob) (L : LW) : Option (Int32) := ck (inb ((((8 : Int32)) * a4) + ((1 : Int32))) 24) (if ((2 : Int32)) ≤ (L.2.2.1 ((((8 : Int32)) * a4) + ((1 : Int32))).toNatClampNeg) then ck (inb ((((8 : Int32)) * a4) + ((1 : Int32))) 24) ((f_L_day a4 ((L.2.2.1 ((((8 : Int32)) * a4) + ((1 : Int32))).toNatClampNeg) - ((1 : Int32))) O L).bind (fun (r7 : Int32) => (q_full a4 O).bind (fun (r8 : Int32) => (if 0 ≤ r8 then some r8 else some (r7 + ((1000 : Int32)))).bind (fun (r13 : Int32) => (qx_forecast a4 r7 O).bind (fun (r21 : Int32) => (if r21 = ((-972 : Int32)) then (qx_forecast a4 (r7 + ((1001 : Int32))) O).bind (fun (r31 : Int32) => if r31 = ((-972 : Int32)) then if r8 < 0 then some ((1 : Int32)) else if r8 ≤ r7 then some ((0 : Int32)) else if (r7 + ((1000 : Int32))) < r8 then some ((0 : Int32)) else (q_forecast a4 r8 O).bind (fun (r36 : Int32) => ck (inb (((8 : Int32)) * a4) 24) (if r36 < (L.2.2.1 (((8 : Int32)) * a4).toNatClampNeg) then some ((0 : Int32)) else some ((1 : Int32)))) else some ((0 : Int32))) else some ((0 : Int32))).bind (fun (r23 : Int32) => (f_L_areForecasts_159 a4 a5 O L r7 r8 r13 3000 r23 ((0 : Int32))).bind (fun (r48 : Int32) => (if r48 = 0 then some ((0 : Int32)) else if r13 = (r7 + ((1 : Int32))) then some ((1 : Int32)) else (q_forecast a4 (r13 - ((1 : Int32))) O).bind (fun (r83 : Int32) => ck (inb (((8 : Int32)) * a4) 24) (if (L.2.2.1 (((8 : Int32)) * a4).toNatClampNeg) ≤ r83 then some ((0 : Int32)) else some ((1 : Int32))))).bind (fun (r77 : Int32) => (q_early a4 O).bind (fun (r89 : Int32) => (q_late a4 O).bind (fun (r93 : Int32) => if r77 = 0 then some ((0 : Int32)) else ck (inb ((((8 : Int32)) * a4) + ((1 : Int32))) 24) (if (L.2.2.1 ((((8 : Int32)) * a4) + ((1 : Int32))).toNatClampNeg) ≤ ((2 : Int32)) then if 0 ≤ r89 then some ((0 : Int32)) else if 0 ≤ r93 then some ((0 : Int32)) else some ((1 : Int32)) else if 0 ≤ r89 then if r8 < 0 then if r93 < 0 then some ((1 : Int32)) else if r8 < 0 then some ((0 : Int32)) else if r93 < r8 then some ((0 : Int32)) else if r89 < 0 then some ((0 : Int32)) else if r93 < r89 then some ((0 : Int32)) else some ((1 : Int32)) else if r8 < r89 then some ((0 : Int32)) else if r93 < 0 then some ((1 : Int32)) else if r8 < 0 then some ((0 : Int32)) else if r93 < r8 then some ((0 : Int32)) else if r89 < 0 then some ((0 : Int32)) else if r93 < r89 then some ((0 : Int32)) else some ((1 : Int32)) else if 0 ≤ r8 then some ((0 : Int32)) else if 0 ≤ r93 then some ((0 : Int32)) else if r93 < 0 then some ((1 : Int32)) else if r8 < 0 then some ((0 : Int32)) else if r93 < r8 then some ((0 : Int32)) else if r89 < 0 then some ((0 : Int32)) else if r93 < r89 then some ((0 : Int32)) else some ((1 : Int32))))))))))))) else (q_early a4 O).bind (fun (r122 : Int32) => if r122 = ((-1 : Int32)) then (q_late a4 O).bind (fun (r127 : Int32) => if r127 = ((-1 : Int32)) then some ((1 : Int32)) else some ((0 : Int32))) else some ((0 : Int32))))
set_option maxRecDepth 100000 in
set_option maxHeartbeats 8000000 in
theorem c_L_areForecasts (E : Ev) (al : Nat → Nat) (ad : CA) {a4 : Int32} {a5 : Int32} {O : Ob} {L : LW} {T : TS} {r : Int32} (h : f_L_areForecasts a4 a5 O L = some r) (hT : RlT T O) : CtN E yL_areForecasts cL_areForecasts 13 .boolean 10 194 2 12 (pw E al ad L T) [.ref (ad.1 0), .ref (al 0), .ref (al 2), .int a4, .int a5] r (fun u : TS => RlT u O) (fun u => pw E al ad L u) := by
  refine CtN_of (by decide +kernel) (Nat.le_of_ble_eq_true rfl) (fun x X XX XN hE => ?_)
  show J E x 0 0 (pw E al ad L T) 0 [(0, .ref (ad.1 0)), (1, .ref (al 0)), (2, .ref (al 2)), (3, .int a4), (4, .int a5)] []
  unfold f_L_areForecasts at h
  refine J_aload_n X (pc := 0) dL_areForecasts_0 2 rfl ?_
  refine J_bipush X (pc := 1) (v := 8) dL_areForecasts_1 (by decide +kernel) ?_
  refine J_iload_n X (pc := 3) dL_areForecasts_3 3 rfl ?_
  refine J_imul X (pc := 4) dL_areForecasts_4 ?_
  refine J_iconst X (pc := 5) (v := 1) dL_areForecasts_5 (by decide +kernel) ?_
  refine J_iadd X (pc := 6) dL_areForecasts_6 ?_
  replace h := ck_e h
  obtain ⟨b1, h⟩ := h
  refine J_iald X (pc := 7) 2 pw_c2 b1 dL_areForecasts_7 ?_
  refine J_iconst X (pc := 8) (v := 2) dL_areForecasts_8 (by decide +kernel) ?_
  refine J_icmp_ge X (pc := 9) 36 dL_areForecasts_9 (by decide) (fun c2 => ?_) (fun c2 => ?_)
  · rw [if_pos c2] at h
    refine J_aload_n X (pc := 36) dL_areForecasts_36 1 rfl ?_
    refine J_iload_n X (pc := 37) dL_areForecasts_37 3 rfl ?_
    refine J_aload_n X (pc := 38) dL_areForecasts_38 2 rfl ?_
    refine J_bipush X (pc := 39) (v := 8) dL_areForecasts_39 (by decide +kernel) ?_
    refine J_iload_n X (pc := 41) dL_areForecasts_41 3 rfl ?_
    refine J_imul X (pc := 42) dL_areForecasts_42 ?_
    refine J_iconst X (pc := 43) (v := 1) dL_areForecasts_43 (by decide +kernel) ?_
    refine J_iadd X (pc := 44) dL_areForecasts_44 ?_
    replace h := ck_e h
    obtain ⟨b3, h⟩ := h
    refine J_iald X (pc := 45) 2 pw_c2 b3 dL_areForecasts_45 ?_
    refine J_iconst X (pc := 46) (v := 1) dL_areForecasts_46 (by decide +kernel) ?_
    refine J_isub X (pc := 47) dL_areForecasts_47 ?_
    replace h := bk h
    obtain ⟨r7, g4, h⟩ := h
    refine J_callN X XX XN (pc := 48) (y := yL_day) (na := 3) (As := [.ref (al 0), .int a4, .int ((L.2.2.1 ((((8 : Int32)) * a4) + ((1 : Int32))).toNatClampNeg) - ((1 : Int32)))]) (rest := []) (c_L_day E al ad g4 hT) q_512 q_513 q_507 q_509 rfl (by decide +kernel) ⟨Nat.le_of_ble_eq_true rfl, Nat.le_of_ble_eq_true rfl⟩ rfl (Nat.le_of_ble_eq_true rfl) ⟨(show 0 ≤ 2 from by omega), (show 0 ≤ 12 from by omega)⟩ dL_areForecasts_48 (fun T5 hT6 => ?_)
    refine J_istore X (pc := 51) dL_areForecasts_51 (by decide) rfl ?_
    refine J_aload_n X (pc := 53) dL_areForecasts_53 1 rfl ?_
    refine J_iload_n X (pc := 54) dL_areForecasts_54 4 rfl ?_
    replace h := bk h
    obtain ⟨r8, g9, h⟩ := h
    refine P_full X (pc := 55) g9 hT6 ⟨Nat.le_of_ble_eq_true rfl, Nat.le_of_ble_eq_true rfl⟩ (Nat.le_of_ble_eq_true rfl) ⟨(show 0 ≤ 2 from by omega), (show 0 ≤ 12 from by omega)⟩ dL_areForecasts_55 (fun T10 hT11 => ?_)
    refine J_istore X (pc := 58) dL_areForecasts_58 (by decide) rfl ?_
    refine J_iload X (pc := 60) dL_areForecasts_60 0 rfl ?_
    replace h := bk h
    obtain ⟨r13, g17, h⟩ := h
    have j16 : ∀ T0, RlT T0 O → J E x (0) (0) (pw E al ad L T0) 76 [(0, .ref (ad.1 0)), (1, .ref (al 0)), (2, .ref (al 2)), (3, .int a4), (4, .int a5), (5, .int r7), (6, .int r8)] [.int r13] := by
      intro T14 hT15
      refine J_istore X (pc := 76) dL_areForecasts_76 (by decide) rfl ?_
      refine J_aload_n X (pc := 78) dL_areForecasts_78 1 rfl ?_
      refine J_iconst X (pc := 79) (v := 5) dL_areForecasts_79 (by decide +kernel) ?_
      refine J_iload_n X (pc := 80) dL_areForecasts_80 4 rfl ?_
      refine J_iload X (pc := 81) dL_areForecasts_81 6 rfl ?_
      replace h := bk h
      obtain ⟨r21, g18, h⟩ := h
      refine P_x_forecast X XX XN (pc := 83) g18 hT15 ⟨Nat.le_of_ble_eq_true rfl, Nat.le_of_ble_eq_true rfl⟩ (Nat.le_of_ble_eq_true rfl) ⟨(show 1 ≤ 2 from by omega), (show 6 ≤ 12 from by omega)⟩ dL_areForecasts_83 (fun T19 hT20 => ?_)
      refine J_sipush X (pc := 86) (v := -972) dL_areForecasts_86 (by decide +kernel) ?_
      replace h := bk h
      obtain ⟨r23, g27, h⟩ := h
      have j26 : ∀ T0, RlT T0 O → J E x (2) (12) (pw E al ad L T0) 154 [(0, .ref (ad.1 0)), (1, .ref (al 0)), (2, .ref (al 2)), (3, .int a4), (4, .int a5), (5, .int r7), (6, .int r8), (7, .int r13)] [.int r23] := by
        intro T24 hT25
        refine J_istore X (pc := 154) dL_areForecasts_154 (by decide) rfl ?_
        refine J_iconst X (pc := 156) (v := 0) dL_areForecasts_156 (by decide +kernel) ?_
        refine J_istore X (pc := 157) dL_areForecasts_157 (by decide) rfl ?_
        replace h := bk h
        obtain ⟨r48, g52, h⟩ := h
        have k51 : ∀ T0, RlT T0 O → J E x (2) (12) (pw E al ad L T0) 251 [(0, .ref (ad.1 0)), (2, .ref (al 2)), (3, .int a4), (5, .int r7), (6, .int r8), (7, .int r13), (8, .int r48)] [] := by
          intro T49 hT50
          refine J_iload X (pc := 251) dL_areForecasts_251 6 rfl ?_
          replace h := bk h
          obtain ⟨r77, g81, h⟩ := h
          have j80 : ∀ T0, RlT T0 O → J E x (2) (12) (pw E al ad L T0) 288 [(0, .ref (ad.1 0)), (2, .ref (al 2)), (3, .int a4), (6, .int r8)] [.int r77] := by
            intro T78 hT79
            refine J_istore X (pc := 288) dL_areForecasts_288 (by decide) rfl ?_
            refine J_aload_n X (pc := 290) dL_areForecasts_290 1 rfl ?_
            refine J_iload_n X (pc := 291) dL_areForecasts_291 3 rfl ?_
            replace h := bk h
            obtain ⟨r89, g90, h⟩ := h
            refine P_early X (pc := 292) g90 hT79 ⟨Nat.le_of_ble_eq_true rfl, Nat.le_of_ble_eq_true rfl⟩ (Nat.le_of_ble_eq_true rfl) ⟨(show 2 ≤ 2 from by omega), (show 12 ≤ 12 from by omega)⟩ dL_areForecasts_292 (fun T91 hT92 => ?_)
            refine J_istore X (pc := 295) dL_areForecasts_295 (by decide) rfl ?_
            refine J_aload_n X (pc := 297) dL_areForecasts_297 2 rfl ?_
            refine J_iload_n X (pc := 298) dL_areForecasts_298 4 rfl ?_
            replace h := bk h
            obtain ⟨r93, g94, h⟩ := h
            refine P_late X (pc := 299) g94 hT92 ⟨Nat.le_of_ble_eq_true rfl, Nat.le_of_ble_eq_true rfl⟩ (Nat.le_of_ble_eq_true rfl) ⟨(show 2 ≤ 2 from by omega), (show 12 ≤ 12 from by omega)⟩ dL_areForecasts_299 (fun T95 hT96 => ?_)
            refine J_istore X (pc := 302) dL_areForecasts_302 (by decide) rfl ?_
            refine J_iload X (pc := 304) dL_areForecasts_304 2 rfl ?_
            refine J_if_eq X (pc := 306) 397 dL_areForecasts_306 (by decide) (fun c97 => ?_) (fun c97 => ?_)
            · rw [if_pos c97] at h
              refine J_iconst X (pc := 397) (v := 0) dL_areForecasts_397 (by decide +kernel) ?_
              cases h
              exact J_widen (k2 := 2) (n2 := 12) (by omega) (by omega) (hE T95 hT96 _ _ dL_areForecasts_398 (by decide +kernel))
            · rw [if_neg c97] at h
              refine J_aload_n X (pc := 309) dL_areForecasts_309 4 rfl ?_
              refine J_bipush X (pc := 310) (v := 8) dL_areForecasts_310 (by decide +kernel) ?_
              refine J_iload_n X (pc := 312) dL_areForecasts_312 5 rfl ?_
              refine J_imul X (pc := 313) dL_areForecasts_313 ?_
              refine J_iconst X (pc := 314) (v := 1) dL_areForecasts_314 (by decide +kernel) ?_
              refine J_iadd X (pc := 315) dL_areForecasts_315 ?_
              replace h := ck_e h
              obtain ⟨b98, h⟩ := h
              refine J_iald X (pc := 316) 2 pw_c2 b98 dL_areForecasts_316 ?_
              refine J_iconst X (pc := 317) (v := 2) dL_areForecasts_317 (by decide +kernel) ?_
              refine J_icmp_le X (pc := 318) 383 dL_areForecasts_318 (by decide) (fun c99 => ?_) (fun c99 => ?_)
              · rw [if_pos c99] at h
                refine J_iload X (pc := 383) dL_areForecasts_383 1 rfl ?_
                refine J_if_ge X (pc := 385) 397 dL_areForecasts_385 (by decide) (fun c100 => ?_) (fun c100 => ?_)
                · rw [if_pos c100] at h
                  refine J_iconst X (pc := 397) (v := 0) dL_areForecasts_397 (by decide +kernel) ?_
                  cases h
                  exact J_widen (k2 := 2) (n2 := 12) (by omega) (by omega) (hE T95 hT96 _ _ dL_areForecasts_398 (by decide +kernel))
                · rw [if_neg c100] at h
                  refine J_iload X (pc := 388) dL_areForecasts_388 0 rfl ?_
                  refine J_if_ge X (pc := 390) 397 dL_areForecasts_390 (by decide) (fun c101 => ?_) (fun c101 => ?_)
                  · rw [if_pos c101] at h
                    refine J_iconst X (pc := 397) (v := 0) dL_areForecasts_397 (by decide +kernel) ?_
                    cases h
                    exact J_widen (k2 := 2) (n2 := 12) (by omega) (by omega) (hE T95 hT96 _ _ dL_areForecasts_398 (by decide +kernel))
                  · rw [if_neg c101] at h
                    refine J_iconst X (pc := 393) (v := 1) dL_areForecasts_393 (by decide +kernel) ?_
                    refine J_goto X (pc := 394) 398 dL_areForecasts_394 (by decide) ?_
                    cases h
                    exact J_widen (k2 := 2) (n2 := 12) (by omega) (by omega) (hE T95 hT96 _ _ dL_areForecasts_398 (by decide +kernel))
              · rw [if_neg c99] at h
                refine J_iload X (pc := 321) dL_areForecasts_321 1 rfl ?_
                refine J_if_ge X (pc := 323) 339 dL_areForecasts_323 (by decide) (fun c102 => ?_) (fun c102 => ?_)
                · rw [if_pos c102] at h
                  refine J_iload X (pc := 339) dL_areForecasts_339 6 rfl ?_
                  refine J_if_lt X (pc := 341) 351 dL_areForecasts_341 (by decide) (fun c103 => ?_) (fun c103 => ?_)
                  · rw [if_pos c103] at h
                    refine J_iload X (pc := 351) dL_areForecasts_351 0 rfl ?_
                    refine J_if_lt X (pc := 353) 393 dL_areForecasts_353 (by decide) (fun c104 => ?_) (fun c104 => ?_)
                    · rw [if_pos c104] at h
                      refine J_iconst X (pc := 393) (v := 1) dL_areForecasts_393 (by decide +kernel) ?_
                      refine J_goto X (pc := 394) 398 dL_areForecasts_394 (by decide) ?_
                      cases h
                      exact J_widen (k2 := 2) (n2 := 12) (by omega) (by omega) (hE T95 hT96 _ _ dL_areForecasts_398 (by decide +kernel))
                    · rw [if_neg c104] at h
                      refine J_iload X (pc := 356) dL_areForecasts_356 6 rfl ?_
                      refine J_if_lt X (pc := 358) 397 dL_areForecasts_358 (by decide) (fun c105 => ?_) (fun c105 => ?_)
                      · rw [if_pos c105] at h
                        refine J_iconst X (pc := 397) (v := 0) dL_areForecasts_397 (by decide +kernel) ?_
                        cases h
                        exact J_widen (k2 := 2) (n2 := 12) (by omega) (by omega) (hE T95 hT96 _ _ dL_areForecasts_398 (by decide +kernel))
                      · rw [if_neg c105] at h
                        refine J_iload X (pc := 361) dL_areForecasts_361 0 rfl ?_
                        refine J_iload X (pc := 363) dL_areForecasts_363 6 rfl ?_
                        refine J_icmp_lt X (pc := 365) 397 dL_areForecasts_365 (by decide) (fun c106 => ?_) (fun c106 => ?_)
                        · rw [if_pos c106] at h
                          refine J_iconst X (pc := 397) (v := 0) dL_areForecasts_397 (by decide +kernel) ?_
                          cases h
                          exact J_widen (k2 := 2) (n2 := 12) (by omega) (by omega) (hE T95 hT96 _ _ dL_areForecasts_398 (by decide +kernel))
                        · rw [if_neg c106] at h
                          refine J_iload X (pc := 368) dL_areForecasts_368 1 rfl ?_
                          refine J_if_lt X (pc := 370) 397 dL_areForecasts_370 (by decide) (fun c107 => ?_) (fun c107 => ?_)
                          · rw [if_pos c107] at h
                            refine J_iconst X (pc := 397) (v := 0) dL_areForecasts_397 (by decide +kernel) ?_
                            cases h
                            exact J_widen (k2 := 2) (n2 := 12) (by omega) (by omega) (hE T95 hT96 _ _ dL_areForecasts_398 (by decide +kernel))
                          · rw [if_neg c107] at h
                            refine J_iload X (pc := 373) dL_areForecasts_373 1 rfl ?_
                            refine J_iload X (pc := 375) dL_areForecasts_375 0 rfl ?_
                            refine J_icmp_gt X (pc := 377) 397 dL_areForecasts_377 (by decide) (fun c108 => ?_) (fun c108 => ?_)
                            · rw [if_pos c108] at h
                              refine J_iconst X (pc := 397) (v := 0) dL_areForecasts_397 (by decide +kernel) ?_
                              cases h
                              exact J_widen (k2 := 2) (n2 := 12) (by omega) (by omega) (hE T95 hT96 _ _ dL_areForecasts_398 (by decide +kernel))
                            · rw [if_neg c108] at h
                              refine J_goto X (pc := 380) 393 dL_areForecasts_380 (by decide) ?_
                              refine J_iconst X (pc := 393) (v := 1) dL_areForecasts_393 (by decide +kernel) ?_
                              refine J_goto X (pc := 394) 398 dL_areForecasts_394 (by decide) ?_
                              cases h
                              exact J_widen (k2 := 2) (n2 := 12) (by omega) (by omega) (hE T95 hT96 _ _ dL_areForecasts_398 (by decide +kernel))
                  · rw [if_neg c103] at h
                    refine J_iload X (pc := 344) dL_areForecasts_344 1 rfl ?_
                    refine J_iload X (pc := 346) dL_areForecasts_346 6 rfl ?_
                    refine J_icmp_gt X (pc := 348) 397 dL_areForecasts_348 (by decide) (fun c109 => ?_) (fun c109 => ?_)
                    · rw [if_pos c109] at h
                      refine J_iconst X (pc := 397) (v := 0) dL_areForecasts_397 (by decide +kernel) ?_
                      cases h
                      exact J_widen (k2 := 2) (n2 := 12) (by omega) (by omega) (hE T95 hT96 _ _ dL_areForecasts_398 (by decide +kernel))
                    · rw [if_neg c109] at h
                      refine J_iload X (pc := 351) dL_areForecasts_351 0 rfl ?_
                      refine J_if_lt X (pc := 353) 393 dL_areForecasts_353 (by decide) (fun c110 => ?_) (fun c110 => ?_)
                      · rw [if_pos c110] at h
                        refine J_iconst X (pc := 393) (v := 1) dL_areForecasts_393 (by decide +kernel) ?_
                        refine J_goto X (pc := 394) 398 dL_areForecasts_394 (by decide) ?_
                        cases h
                        exact J_widen (k2 := 2) (n2 := 12) (by omega) (by omega) (hE T95 hT96 _ _ dL_areForecasts_398 (by decide +kernel))
                      · rw [if_neg c110] at h
                        refine J_iload X (pc := 356) dL_areForecasts_356 6 rfl ?_
                        refine J_if_lt X (pc := 358) 397 dL_areForecasts_358 (by decide) (fun c111 => ?_) (fun c111 => ?_)
                        · rw [if_pos c111] at h
                          refine J_iconst X (pc := 397) (v := 0) dL_areForecasts_397 (by decide +kernel) ?_
                          cases h
                          exact J_widen (k2 := 2) (n2 := 12) (by omega) (by omega) (hE T95 hT96 _ _ dL_areForecasts_398 (by decide +kernel))
                        · rw [if_neg c111] at h
                          refine J_iload X (pc := 361) dL_areForecasts_361 0 rfl ?_
                          refine J_iload X (pc := 363) dL_areForecasts_363 6 rfl ?_
                          refine J_icmp_lt X (pc := 365) 397 dL_areForecasts_365 (by decide) (fun c112 => ?_) (fun c112 => ?_)
                          · rw [if_pos c112] at h
                            refine J_iconst X (pc := 397) (v := 0) dL_areForecasts_397 (by decide +kernel) ?_
                            cases h
                            exact J_widen (k2 := 2) (n2 := 12) (by omega) (by omega) (hE T95 hT96 _ _ dL_areForecasts_398 (by decide +kernel))
                          · rw [if_neg c112] at h
                            refine J_iload X (pc := 368) dL_areForecasts_368 1 rfl ?_
                            refine J_if_lt X (pc := 370) 397 dL_areForecasts_370 (by decide) (fun c113 => ?_) (fun c113 => ?_)
                            · rw [if_pos c113] at h
                              refine J_iconst X (pc := 397) (v := 0) dL_areForecasts_397 (by decide +kernel) ?_
                              cases h
                              exact J_widen (k2 := 2) (n2 := 12) (by omega) (by omega) (hE T95 hT96 _ _ dL_areForecasts_398 (by decide +kernel))
                            · rw [if_neg c113] at h
                              refine J_iload X (pc := 373) dL_areForecasts_373 1 rfl ?_
                              refine J_iload X (pc := 375) dL_areForecasts_375 0 rfl ?_
                              refine J_icmp_gt X (pc := 377) 397 dL_areForecasts_377 (by decide) (fun c114 => ?_) (fun c114 => ?_)
                              · rw [if_pos c114] at h
                                refine J_iconst X (pc := 397) (v := 0) dL_areForecasts_397 (by decide +kernel) ?_
                                cases h
                                exact J_widen (k2 := 2) (n2 := 12) (by omega) (by omega) (hE T95 hT96 _ _ dL_areForecasts_398 (by decide +kernel))
                              · rw [if_neg c114] at h
                                refine J_goto X (pc := 380) 393 dL_areForecasts_380 (by decide) ?_
                                refine J_iconst X (pc := 393) (v := 1) dL_areForecasts_393 (by decide +kernel) ?_
                                refine J_goto X (pc := 394) 398 dL_areForecasts_394 (by decide) ?_
                                cases h
                                exact J_widen (k2 := 2) (n2 := 12) (by omega) (by omega) (hE T95 hT96 _ _ dL_areForecasts_398 (by decide +kernel))
                · rw [if_neg c102] at h
                  refine J_iload X (pc := 326) dL_areForecasts_326 6 rfl ?_
                  refine J_if_ge X (pc := 328) 397 dL_areForecasts_328 (by decide) (fun c115 => ?_) (fun c115 => ?_)
                  · rw [if_pos c115] at h
                    refine J_iconst X (pc := 397) (v := 0) dL_areForecasts_397 (by decide +kernel) ?_
                    cases h
                    exact J_widen (k2 := 2) (n2 := 12) (by omega) (by omega) (hE T95 hT96 _ _ dL_areForecasts_398 (by decide +kernel))
                  · rw [if_neg c115] at h
                    refine J_iload X (pc := 331) dL_areForecasts_331 0 rfl ?_
                    refine J_if_ge X (pc := 333) 397 dL_areForecasts_333 (by decide) (fun c116 => ?_) (fun c116 => ?_)
                    · rw [if_pos c116] at h
                      refine J_iconst X (pc := 397) (v := 0) dL_areForecasts_397 (by decide +kernel) ?_
                      cases h
                      exact J_widen (k2 := 2) (n2 := 12) (by omega) (by omega) (hE T95 hT96 _ _ dL_areForecasts_398 (by decide +kernel))
                    · rw [if_neg c116] at h
                      refine J_goto X (pc := 336) 351 dL_areForecasts_336 (by decide) ?_
                      refine J_iload X (pc := 351) dL_areForecasts_351 0 rfl ?_
                      refine J_if_lt X (pc := 353) 393 dL_areForecasts_353 (by decide) (fun c117 => ?_) (fun c117 => ?_)
                      · rw [if_pos c117] at h
                        refine J_iconst X (pc := 393) (v := 1) dL_areForecasts_393 (by decide +kernel) ?_
                        refine J_goto X (pc := 394) 398 dL_areForecasts_394 (by decide) ?_
                        cases h
                        exact J_widen (k2 := 2) (n2 := 12) (by omega) (by omega) (hE T95 hT96 _ _ dL_areForecasts_398 (by decide +kernel))
                      · rw [if_neg c117] at h
                        refine J_iload X (pc := 356) dL_areForecasts_356 6 rfl ?_
                        refine J_if_lt X (pc := 358) 397 dL_areForecasts_358 (by decide) (fun c118 => ?_) (fun c118 => ?_)
                        · rw [if_pos c118] at h
                          refine J_iconst X (pc := 397) (v := 0) dL_areForecasts_397 (by decide +kernel) ?_
                          cases h
                          exact J_widen (k2 := 2) (n2 := 12) (by omega) (by omega) (hE T95 hT96 _ _ dL_areForecasts_398 (by decide +kernel))
                        · rw [if_neg c118] at h
                          refine J_iload X (pc := 361) dL_areForecasts_361 0 rfl ?_
                          refine J_iload X (pc := 363) dL_areForecasts_363 6 rfl ?_
                          refine J_icmp_lt X (pc := 365) 397 dL_areForecasts_365 (by decide) (fun c119 => ?_) (fun c119 => ?_)
                          · rw [if_pos c119] at h
                            refine J_iconst X (pc := 397) (v := 0) dL_areForecasts_397 (by decide +kernel) ?_
                            cases h
                            exact J_widen (k2 := 2) (n2 := 12) (by omega) (by omega) (hE T95 hT96 _ _ dL_areForecasts_398 (by decide +kernel))
                          · rw [if_neg c119] at h
                            refine J_iload X (pc := 368) dL_areForecasts_368 1 rfl ?_
                            refine J_if_lt X (pc := 370) 397 dL_areForecasts_370 (by decide) (fun c120 => ?_) (fun c120 => ?_)
                            · rw [if_pos c120] at h
                              refine J_iconst X (pc := 397) (v := 0) dL_areForecasts_397 (by decide +kernel) ?_
                              cases h
                              exact J_widen (k2 := 2) (n2 := 12) (by omega) (by omega) (hE T95 hT96 _ _ dL_areForecasts_398 (by decide +kernel))
                            · rw [if_neg c120] at h
                              refine J_iload X (pc := 373) dL_areForecasts_373 1 rfl ?_
                              refine J_iload X (pc := 375) dL_areForecasts_375 0 rfl ?_
                              refine J_icmp_gt X (pc := 377) 397 dL_areForecasts_377 (by decide) (fun c121 => ?_) (fun c121 => ?_)
                              · rw [if_pos c121] at h
                                refine J_iconst X (pc := 397) (v := 0) dL_areForecasts_397 (by decide +kernel) ?_
                                cases h
                                exact J_widen (k2 := 2) (n2 := 12) (by omega) (by omega) (hE T95 hT96 _ _ dL_areForecasts_398 (by decide +kernel))
                              · rw [if_neg c121] at h
                                refine J_goto X (pc := 380) 393 dL_areForecasts_380 (by decide) ?_
                                refine J_iconst X (pc := 393) (v := 1) dL_areForecasts_393 (by decide +kernel) ?_
                                refine J_goto X (pc := 394) 398 dL_areForecasts_394 (by decide) ?_
                                cases h
                                exact J_widen (k2 := 2) (n2 := 12) (by omega) (by omega) (hE T95 hT96 _ _ dL_areForecasts_398 (by decide +kernel))
          refine J_if_eq X (pc := 253) 287 dL_areForecasts_253 (by decide) (fun c76 => ?_) (fun c76 => ?_)
          · rw [if_pos c76] at g81
            refine J_iconst X (pc := 287) (v := 0) dL_areForecasts_287 (by decide +kernel) ?_
            replace g81 := Option.some.inj g81
            subst g81
            exact J_sub [0, 1, 2, 4] rfl (j80 _ hT50)
          · rw [if_neg c76] at g81
            refine J_iload X (pc := 256) dL_areForecasts_256 5 rfl ?_
            refine J_iload X (pc := 258) dL_areForecasts_258 3 rfl ?_
            refine J_iconst X (pc := 260) (v := 1) dL_areForecasts_260 (by decide +kernel) ?_
            refine J_iadd X (pc := 261) dL_areForecasts_261 ?_
            refine J_icmp_eq X (pc := 262) 283 dL_areForecasts_262 (by decide) (fun c82 => ?_) (fun c82 => ?_)
            · rw [if_pos c82] at g81
              refine J_iconst X (pc := 283) (v := 1) dL_areForecasts_283 (by decide +kernel) ?_
              refine J_goto X (pc := 284) 288 dL_areForecasts_284 (by decide) ?_
              replace g81 := Option.some.inj g81
              subst g81
              exact J_sub [0, 1, 2, 4] rfl (j80 _ hT50)
            · rw [if_neg c82] at g81
              refine J_aload_n X (pc := 265) dL_areForecasts_265 0 rfl ?_
              refine J_iload_n X (pc := 266) dL_areForecasts_266 2 rfl ?_
              refine J_iload X (pc := 267) dL_areForecasts_267 5 rfl ?_
              refine J_iconst X (pc := 269) (v := 1) dL_areForecasts_269 (by decide +kernel) ?_
              refine J_isub X (pc := 270) dL_areForecasts_270 ?_
              replace g81 := bk g81
              obtain ⟨r83, g84, g81⟩ := g81
              refine P_forecast X (pc := 271) g84 hT50 ⟨Nat.le_of_ble_eq_true rfl, Nat.le_of_ble_eq_true rfl⟩ (Nat.le_of_ble_eq_true rfl) ⟨(show 2 ≤ 2 from by omega), (show 12 ≤ 12 from by omega)⟩ dL_areForecasts_271 (fun T85 hT86 => ?_)
              refine J_aload_n X (pc := 274) dL_areForecasts_274 1 rfl ?_
              refine J_bipush X (pc := 275) (v := 8) dL_areForecasts_275 (by decide +kernel) ?_
              refine J_iload_n X (pc := 277) dL_areForecasts_277 2 rfl ?_
              refine J_imul X (pc := 278) dL_areForecasts_278 ?_
              replace g81 := ck_e g81
              obtain ⟨b87, g81⟩ := g81
              refine J_iald X (pc := 279) 2 pw_c2 b87 dL_areForecasts_279 ?_
              refine J_icmp_ge X (pc := 280) 287 dL_areForecasts_280 (by decide) (fun c88 => ?_) (fun c88 => ?_)
              · rw [if_pos c88] at g81
                refine J_iconst X (pc := 287) (v := 0) dL_areForecasts_287 (by decide +kernel) ?_
                replace g81 := Option.some.inj g81
                subst g81
                exact J_sub [0, 1, 2, 4] rfl (j80 _ hT86)
              · rw [if_neg c88] at g81
                refine J_iconst X (pc := 283) (v := 1) dL_areForecasts_283 (by decide +kernel) ?_
                refine J_goto X (pc := 284) 288 dL_areForecasts_284 (by decide) ?_
                replace g81 := Option.some.inj g81
                subst g81
                exact J_sub [0, 1, 2, 4] rfl (j80 _ hT86)
        clear h
        have l75 : ∀ (n46 : Nat) (x42 : Int32) (x43 : Int32) (T44 : TS), RlT T44 O → f_L_areForecasts_159 a4 a5 O L r7 r8 r13 n46 x42 x43 = some r48 → J E x (2) (12) (pw E al ad L T44) 159 [(0, .ref (ad.1 0)), (1, .ref (al 0)), (2, .ref (al 2)), (3, .int a4), (4, .int a5), (5, .int r7), (6, .int r8), (7, .int r13), (8, .int x42), (9, .int x43)] [] := by
          intro n46
          induction n46 with
          | zero => intro x42 x43 T44 hT45 h; rw [f_L_areForecasts_159] at h; cases h
          | succ n46 ih47 =>
            intro x42 x43 T44 hT45 h
            rw [f_L_areForecasts_159] at h
            refine J_iload X (pc := 159) dL_areForecasts_159 9 rfl ?_
            refine J_bipush X (pc := 161) (v := 6) dL_areForecasts_161 (by decide +kernel) ?_
            refine J_icmp_ge X (pc := 163) 251 dL_areForecasts_163 (by decide) (fun c53 => ?_) (fun c53 => ?_)
            · rw [if_pos c53] at h
              cases h
              exact J_sub [0, 2, 3, 5, 6, 7, 8] rfl (k51 _ hT45)
            · rw [if_neg c53] at h
              refine J_iload X (pc := 166) dL_areForecasts_166 8 rfl ?_
              refine J_if_eq X (pc := 168) 251 dL_areForecasts_168 (by decide) (fun c54 => ?_) (fun c54 => ?_)
              · rw [if_pos c54] at h
                cases h
                exact J_sub [0, 2, 3, 5, 6, 7, 8] rfl (k51 _ hT45)
              · rw [if_neg c54] at h
                refine J_iload X (pc := 171) dL_areForecasts_171 5 rfl ?_
                refine J_iconst X (pc := 173) (v := 1) dL_areForecasts_173 (by decide +kernel) ?_
                refine J_iadd X (pc := 174) dL_areForecasts_174 ?_
                refine J_iload X (pc := 175) dL_areForecasts_175 4 rfl ?_
                refine J_sipush X (pc := 177) (v := 173) dL_areForecasts_177 (by decide +kernel) ?_
                refine J_iload X (pc := 180) dL_areForecasts_180 9 rfl ?_
                refine J_imul X (pc := 182) dL_areForecasts_182 ?_
                refine J_iadd X (pc := 183) dL_areForecasts_183 ?_
                refine J_iload X (pc := 184) dL_areForecasts_184 7 rfl ?_
                refine J_iload X (pc := 186) dL_areForecasts_186 5 rfl ?_
                refine J_isub X (pc := 188) dL_areForecasts_188 ?_
                replace h := ck_e h
                obtain ⟨b55, h⟩ := h
                refine J_irem X (pc := 189) dL_areForecasts_189 b55 ?_
                refine J_iadd X (pc := 190) dL_areForecasts_190 ?_
                replace h := nmv_e h
                obtain ⟨v56, ev56, h⟩ := h
                refine J_nmi ev56 ?_
                refine J_istore X (pc := 191) dL_areForecasts_191 (by decide) rfl ?_
                refine J_aload_n X (pc := 193) dL_areForecasts_193 1 rfl ?_
                refine J_aload_n X (pc := 194) dL_areForecasts_194 2 rfl ?_
                refine J_aload_n X (pc := 195) dL_areForecasts_195 3 rfl ?_
                refine J_iload_n X (pc := 196) dL_areForecasts_196 4 rfl ?_
                refine J_iload X (pc := 197) dL_areForecasts_197 0 rfl ?_
                replace h := bk h
                obtain ⟨r60, g57, h⟩ := h
                refine J_callNL X XX XN (pc := 199) (y := yL_due) (na := 5) (As := [.ref (ad.1 0), .ref (al 0), .ref (al 2), .int a4, .int v56]) (rest := []) (c_L_due E al ad g57 hT45) q_525 q_526 q_507 q_524 rfl (by decide +kernel) ⟨Nat.le_of_ble_eq_true rfl, Nat.le_of_ble_eq_true rfl⟩ rfl (Nat.le_of_ble_eq_true rfl) ⟨(show 2 ≤ 2 from by omega), (show 12 ≤ 12 from by omega)⟩ dL_areForecasts_199 (fun T58 hT59 => ?_)
                refine J_lstore X (pc := 202) dL_areForecasts_202 (by decide) rfl ?_
                refine J_aload_n X (pc := 204) dL_areForecasts_204 2 rfl ?_
                refine J_iload_n X (pc := 205) dL_areForecasts_205 5 rfl ?_
                refine J_iload X (pc := 206) dL_areForecasts_206 1 rfl ?_
                replace h := bk h
                obtain ⟨r61, g62, h⟩ := h
                refine P_forecast X (pc := 208) g62 hT59 ⟨Nat.le_of_ble_eq_true rfl, Nat.le_of_ble_eq_true rfl⟩ (Nat.le_of_ble_eq_true rfl) ⟨(show 2 ≤ 2 from by omega), (show 12 ≤ 12 from by omega)⟩ dL_areForecasts_208 (fun T63 hT64 => ?_)
                refine J_i2l X (pc := 211) dL_areForecasts_211 ?_
                refine J_lload X (pc := 212) dL_areForecasts_212 0 rfl ?_
                refine J_lcmp X (pc := 214) dL_areForecasts_214 ?_
                replace h := bk h
                obtain ⟨r66, g70, h⟩ := h
                have j69 : ∀ T0, RlT T0 O → J E x (2) (12) (pw E al ad L T0) 243 [(0, .ref (ad.1 0)), (1, .ref (al 0)), (2, .ref (al 2)), (3, .int a4), (4, .int a5), (5, .int r7), (6, .int r8), (7, .int r13), (9, .int x43)] [.int r66] := by
                  intro T67 hT68
                  refine J_istore X (pc := 243) dL_areForecasts_243 (by decide) rfl ?_
                  replace h := nmv_e h
                  obtain ⟨v74, ev74, h⟩ := h
                  refine J_iinc X (pc := 245) (v := v74) dL_areForecasts_245 9 rfl (by rw [ev74]; rfl) (by decide) rfl ?_
                  refine J_goto X (pc := 248) 159 dL_areForecasts_248 (by decide) ?_
                  exact J_sub [2, 3, 4, 5, 6, 7, 8, 9, 1, 0] rfl (ih47 _ _ _ hT68 h)
                refine J_if_ne X (pc := 215) 242 dL_areForecasts_215 (by decide) (fun c65 => ?_) (fun c65 => ?_)
                · rw [if_neg c65] at g70
                  refine J_iconst X (pc := 242) (v := 0) dL_areForecasts_242 (by decide +kernel) ?_
                  replace g70 := Option.some.inj g70
                  subst g70
                  exact J_sub [2, 3, 4, 5, 6, 7, 8, 9, 11] rfl (j69 _ hT64)
                · rw [if_pos c65] at g70
                  refine J_iload X (pc := 218) dL_areForecasts_218 1 rfl ?_
                  refine J_iload X (pc := 220) dL_areForecasts_220 8 rfl ?_
                  refine J_icmp_eq X (pc := 222) 238 dL_areForecasts_222 (by decide) (fun c71 => ?_) (fun c71 => ?_)
                  · rw [if_pos c71] at g70
                    refine J_iconst X (pc := 238) (v := 1) dL_areForecasts_238 (by decide +kernel) ?_
                    refine J_goto X (pc := 239) 243 dL_areForecasts_239 (by decide) ?_
                    replace g70 := Option.some.inj g70
                    subst g70
                    exact J_sub [2, 3, 4, 5, 6, 7, 8, 9, 11] rfl (j69 _ hT64)
                  · rw [if_neg c71] at g70
                    refine J_lload X (pc := 225) dL_areForecasts_225 0 rfl ?_
                    refine J_aload_n X (pc := 227) dL_areForecasts_227 4 rfl ?_
                    refine J_bipush X (pc := 228) (v := 8) dL_areForecasts_228 (by decide +kernel) ?_
                    refine J_iload_n X (pc := 230) dL_areForecasts_230 5 rfl ?_
                    refine J_imul X (pc := 231) dL_areForecasts_231 ?_
                    replace g70 := ck_e g70
                    obtain ⟨b72, g70⟩ := g70
                    refine J_iald X (pc := 232) 2 pw_c2 b72 dL_areForecasts_232 ?_
                    refine J_i2l X (pc := 233) dL_areForecasts_233 ?_
                    refine J_lcmp X (pc := 234) dL_areForecasts_234 ?_
                    refine J_if_ge X (pc := 235) 242 dL_areForecasts_235 (by decide) (fun c73 => ?_) (fun c73 => ?_)
                    · rw [if_pos c73] at g70
                      refine J_iconst X (pc := 242) (v := 0) dL_areForecasts_242 (by decide +kernel) ?_
                      replace g70 := Option.some.inj g70
                      subst g70
                      exact J_sub [2, 3, 4, 5, 6, 7, 8, 9, 11] rfl (j69 _ hT64)
                    · rw [if_neg c73] at g70
                      refine J_iconst X (pc := 238) (v := 1) dL_areForecasts_238 (by decide +kernel) ?_
                      refine J_goto X (pc := 239) 243 dL_areForecasts_239 (by decide) ?_
                      replace g70 := Option.some.inj g70
                      subst g70
                      exact J_sub [2, 3, 4, 5, 6, 7, 8, 9, 11] rfl (j69 _ hT64)
        exact J_sub [2, 3, 4, 5, 6, 7, 8, 9, 1, 0] rfl (l75 3000 _ _ _ hT25 g52)
      refine J_icmp_ne X (pc := 89) 153 dL_areForecasts_89 (by decide) (fun c22 => ?_) (fun c22 => ?_)
      · rw [if_neg c22] at g27
        refine J_iconst X (pc := 153) (v := 0) dL_areForecasts_153 (by decide +kernel) ?_
        replace g27 := Option.some.inj g27
        subst g27
        refine J_widen (k2 := 2) (n2 := 12) (by omega) (by omega) ?_
        exact J_sub [1, 2, 3, 4, 5, 6, 7, 0] rfl (j26 _ hT20)
      · rw [if_pos c22] at g27
        refine J_aload_n X (pc := 92) dL_areForecasts_92 1 rfl ?_
        refine J_iconst X (pc := 93) (v := 5) dL_areForecasts_93 (by decide +kernel) ?_
        refine J_iload_n X (pc := 94) dL_areForecasts_94 4 rfl ?_
        refine J_iload X (pc := 95) dL_areForecasts_95 6 rfl ?_
        refine J_sipush X (pc := 97) (v := 1001) dL_areForecasts_97 (by decide +kernel) ?_
        refine J_iadd X (pc := 100) dL_areForecasts_100 ?_
        replace g27 := bk g27
        obtain ⟨r31, g28, g27⟩ := g27
        refine P_x_forecast X XX XN (pc := 101) g28 hT20 ⟨Nat.le_of_ble_eq_true rfl, Nat.le_of_ble_eq_true rfl⟩ (Nat.le_of_ble_eq_true rfl) ⟨(show 2 ≤ 2 from by omega), (show 12 ≤ 12 from by omega)⟩ dL_areForecasts_101 (fun T29 hT30 => ?_)
        refine J_sipush X (pc := 104) (v := -972) dL_areForecasts_104 (by decide +kernel) ?_
        refine J_icmp_ne X (pc := 107) 153 dL_areForecasts_107 (by decide) (fun c32 => ?_) (fun c32 => ?_)
        · rw [if_neg c32] at g27
          refine J_iconst X (pc := 153) (v := 0) dL_areForecasts_153 (by decide +kernel) ?_
          replace g27 := Option.some.inj g27
          subst g27
          refine J_widen (k2 := 2) (n2 := 12) (by omega) (by omega) ?_
          exact J_sub [1, 2, 3, 4, 5, 6, 7, 0] rfl (j26 _ hT30)
        · rw [if_pos c32] at g27
          refine J_iload X (pc := 110) dL_areForecasts_110 7 rfl ?_
          refine J_if_lt X (pc := 112) 149 dL_areForecasts_112 (by decide) (fun c33 => ?_) (fun c33 => ?_)
          · rw [if_pos c33] at g27
            refine J_iconst X (pc := 149) (v := 1) dL_areForecasts_149 (by decide +kernel) ?_
            refine J_goto X (pc := 150) 154 dL_areForecasts_150 (by decide) ?_
            replace g27 := Option.some.inj g27
            subst g27
            refine J_widen (k2 := 2) (n2 := 12) (by omega) (by omega) ?_
            exact J_sub [1, 2, 3, 4, 5, 6, 7, 0] rfl (j26 _ hT30)
          · rw [if_neg c33] at g27
            refine J_iload X (pc := 115) dL_areForecasts_115 7 rfl ?_
            refine J_iload X (pc := 117) dL_areForecasts_117 6 rfl ?_
            refine J_icmp_le X (pc := 119) 153 dL_areForecasts_119 (by decide) (fun c34 => ?_) (fun c34 => ?_)
            · rw [if_pos c34] at g27
              refine J_iconst X (pc := 153) (v := 0) dL_areForecasts_153 (by decide +kernel) ?_
              replace g27 := Option.some.inj g27
              subst g27
              refine J_widen (k2 := 2) (n2 := 12) (by omega) (by omega) ?_
              exact J_sub [1, 2, 3, 4, 5, 6, 7, 0] rfl (j26 _ hT30)
            · rw [if_neg c34] at g27
              refine J_iload X (pc := 122) dL_areForecasts_122 7 rfl ?_
              refine J_iload X (pc := 124) dL_areForecasts_124 6 rfl ?_
              refine J_sipush X (pc := 126) (v := 1000) dL_areForecasts_126 (by decide +kernel) ?_
              refine J_iadd X (pc := 129) dL_areForecasts_129 ?_
              refine J_icmp_gt X (pc := 130) 153 dL_areForecasts_130 (by decide) (fun c35 => ?_) (fun c35 => ?_)
              · rw [if_pos c35] at g27
                refine J_iconst X (pc := 153) (v := 0) dL_areForecasts_153 (by decide +kernel) ?_
                replace g27 := Option.some.inj g27
                subst g27
                refine J_widen (k2 := 2) (n2 := 12) (by omega) (by omega) ?_
                exact J_sub [1, 2, 3, 4, 5, 6, 7, 0] rfl (j26 _ hT30)
              · rw [if_neg c35] at g27
                refine J_aload_n X (pc := 133) dL_areForecasts_133 1 rfl ?_
                refine J_iload_n X (pc := 134) dL_areForecasts_134 4 rfl ?_
                refine J_iload X (pc := 135) dL_areForecasts_135 7 rfl ?_
                replace g27 := bk g27
                obtain ⟨r36, g37, g27⟩ := g27
                refine P_forecast X (pc := 137) g37 hT30 ⟨Nat.le_of_ble_eq_true rfl, Nat.le_of_ble_eq_true rfl⟩ (Nat.le_of_ble_eq_true rfl) ⟨(show 2 ≤ 2 from by omega), (show 12 ≤ 12 from by omega)⟩ dL_areForecasts_137 (fun T38 hT39 => ?_)
                refine J_aload_n X (pc := 140) dL_areForecasts_140 3 rfl ?_
                refine J_bipush X (pc := 141) (v := 8) dL_areForecasts_141 (by decide +kernel) ?_
                refine J_iload_n X (pc := 143) dL_areForecasts_143 4 rfl ?_
                refine J_imul X (pc := 144) dL_areForecasts_144 ?_
                replace g27 := ck_e g27
                obtain ⟨b40, g27⟩ := g27
                refine J_iald X (pc := 145) 2 pw_c2 b40 dL_areForecasts_145 ?_
                refine J_icmp_lt X (pc := 146) 153 dL_areForecasts_146 (by decide) (fun c41 => ?_) (fun c41 => ?_)
                · rw [if_pos c41] at g27
                  refine J_iconst X (pc := 153) (v := 0) dL_areForecasts_153 (by decide +kernel) ?_
                  replace g27 := Option.some.inj g27
                  subst g27
                  refine J_widen (k2 := 2) (n2 := 12) (by omega) (by omega) ?_
                  exact J_sub [1, 2, 3, 4, 5, 6, 7, 0] rfl (j26 _ hT39)
                · rw [if_neg c41] at g27
                  refine J_iconst X (pc := 149) (v := 1) dL_areForecasts_149 (by decide +kernel) ?_
                  refine J_goto X (pc := 150) 154 dL_areForecasts_150 (by decide) ?_
                  replace g27 := Option.some.inj g27
                  subst g27
                  refine J_widen (k2 := 2) (n2 := 12) (by omega) (by omega) ?_
                  exact J_sub [1, 2, 3, 4, 5, 6, 7, 0] rfl (j26 _ hT39)
    refine J_if_ge X (pc := 62) 74 dL_areForecasts_62 (by decide) (fun c12 => ?_) (fun c12 => ?_)
    · rw [if_pos c12] at g17
      refine J_iload X (pc := 74) dL_areForecasts_74 0 rfl ?_
      replace g17 := Option.some.inj g17
      subst g17
      exact J_sub [2, 3, 4, 5, 6, 1, 0] rfl (j16 _ hT11)
    · rw [if_neg c12] at g17
      refine J_iload X (pc := 65) dL_areForecasts_65 1 rfl ?_
      refine J_sipush X (pc := 67) (v := 1000) dL_areForecasts_67 (by decide +kernel) ?_
      refine J_iadd X (pc := 70) dL_areForecasts_70 ?_
      refine J_goto X (pc := 71) 76 dL_areForecasts_71 (by decide) ?_
      replace g17 := Option.some.inj g17
      subst g17
      exact J_sub [2, 3, 4, 5, 6, 1, 0] rfl (j16 _ hT11)
  · rw [if_neg c2] at h
    refine J_aload_n X (pc := 12) dL_areForecasts_12 0 rfl ?_
    refine J_iload_n X (pc := 13) dL_areForecasts_13 3 rfl ?_
    replace h := bk h
    obtain ⟨r122, g123, h⟩ := h
    refine P_early X (pc := 14) g123 hT ⟨Nat.le_of_ble_eq_true rfl, Nat.le_of_ble_eq_true rfl⟩ (Nat.le_of_ble_eq_true rfl) ⟨(show 0 ≤ 2 from by omega), (show 0 ≤ 12 from by omega)⟩ dL_areForecasts_14 (fun T124 hT125 => ?_)
    refine J_iconst X (pc := 17) (v := -1) dL_areForecasts_17 (by decide +kernel) ?_
    refine J_icmp_ne X (pc := 18) 34 dL_areForecasts_18 (by decide) (fun c126 => ?_) (fun c126 => ?_)
    · rw [if_neg c126] at h
      refine J_iconst X (pc := 34) (v := 0) dL_areForecasts_34 (by decide +kernel) ?_
      cases h
      exact J_widen (k2 := 2) (n2 := 12) (by omega) (by omega) (hE T124 hT125 _ _ dL_areForecasts_35 (by decide +kernel))
    · rw [if_pos c126] at h
      refine J_aload_n X (pc := 21) dL_areForecasts_21 0 rfl ?_
      refine J_iload_n X (pc := 22) dL_areForecasts_22 3 rfl ?_
      replace h := bk h
      obtain ⟨r127, g128, h⟩ := h
      refine P_late X (pc := 23) g128 hT125 ⟨Nat.le_of_ble_eq_true rfl, Nat.le_of_ble_eq_true rfl⟩ (Nat.le_of_ble_eq_true rfl) ⟨(show 0 ≤ 2 from by omega), (show 0 ≤ 12 from by omega)⟩ dL_areForecasts_23 (fun T129 hT130 => ?_)
      refine J_iconst X (pc := 26) (v := -1) dL_areForecasts_26 (by decide +kernel) ?_
      refine J_icmp_ne X (pc := 27) 34 dL_areForecasts_27 (by decide) (fun c131 => ?_) (fun c131 => ?_)
      · rw [if_neg c131] at h
        refine J_iconst X (pc := 34) (v := 0) dL_areForecasts_34 (by decide +kernel) ?_
        cases h
        exact J_widen (k2 := 2) (n2 := 12) (by omega) (by omega) (hE T129 hT130 _ _ dL_areForecasts_35 (by decide +kernel))
      · rw [if_pos c131] at h
        refine J_iconst X (pc := 30) (v := 1) dL_areForecasts_30 (by decide +kernel) ?_
        refine J_goto X (pc := 31) 35 dL_areForecasts_31 (by decide) ?_
        cases h
        exact J_widen (k2 := 2) (n2 := 12) (by omega) (by omega) (hE T129 hT130 _ _ dL_areForecasts_35 (by decide +kernel))
