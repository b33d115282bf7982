noncomputable def f_L_isPool_23 (a5 : Int32) (O : Ob) (L : LW) (r1 : Int32) : Nat → Int32 → Int64 → Int64 → Int64 → Int32 → Option (Int32 × Int64 × Int64 × Int64)
  | 0, _, _, _, _, _ => none
  | n12+1, x5, x6, x7, x8, x9 => ck (inb ((0 : Int32)) 1) (if (L.2.2.2 ((0 : Int32)).toNatClampNeg) ≤ x9 then some (x5, x6, x7, x8) else (if ((a5 >>> (x9 &&& 31)) &&& ((1 : Int32))) = ((1 : Int32)) then (if x5 = 0 then some ((0 : Int32)) else ck (inb ((((8 : Int32)) * x9) + ((1 : Int32))) 24) (if (L.2.2.1 ((((8 : Int32)) * x9) + ((1 : Int32))).toNatClampNeg) ≤ ((1 : Int32)) then some ((0 : Int32)) else some ((1 : Int32)))).bind (fun (r34 : Int32) => ck (inb (((8 : Int32)) * x9) 24) (nmv (x6 + ((L.2.2.1 (((8 : Int32)) * x9).toNatClampNeg).toInt64)) (fun (v42 : Int64) => (if r34 = 0 then some ((0 : Int64)) else if r1 ≤ 0 then some ((0 : Int64)) else (f_L_due x9 r1 O L).bind (fun (r53 : Int64) => some r53)).bind (fun (r44 : Int64) => nmv (x7 + r44) (fun (v54 : Int64) => (if r34 = 0 then some ((0 : Int64)) else if r1 ≤ ((q_today O) + ((1 : Int32))) then some ((0 : Int64)) else (f_L_due x9 (r1 - ((1 : Int32))) O L).bind (fun (r65 : Int64) => some r65)).bind (fun (r56 : Int64) => nmv (x8 + r56) (fun (v66 : Int64) => some (r34, v42, v54, v66)))))))) else some (x5, x6, x7, x8)).bind (fun ((r25, r26, r27, r28) : Int32 × Int64 × Int64 × Int64) => nmv (x9 + (1 : Int32)) (fun (v67 : Int32) => f_L_isPool_23 a5 O L r1 n12 r25 r26 r27 r28 v67)))
noncomputable def f_L_isPool_155 (a5 : Int32) : Nat → Int32 → Option (Int32)
  | 0, _ => none
  | n72+1, x69 => if ((a5 >>> (x69 &&& 31)) &&& ((1 : Int32))) = 0 then nmv (x69 + (1 : Int32)) (fun (v80 : Int32) => f_L_isPool_155 a5 n72 v80) else some x69
noncomputable def f_L_isPool (a5 : Int32) (O : Ob) (L : LW) : Option (Int32) := (q_poolFull a5 O).bind (fun (r1 : Int32) => (f_L_isPool_23 a5 O L r1 3000 ((1 : Int32)) ((0 : Int64)) ((0 : Int64)) ((0 : Int64)) ((0 : Int32))).bind (fun ((r14, r15, r16, r17) : Int32 × Int64 × Int64 × Int64) => (f_L_isPool_155 a5 3000 ((0 : Int32))).bind (fun (r74 : Int32) => (if a5 = (((1 : Int32)) <<< (r74 &&& 31)) then (q_full r74 O).bind (fun (r88 : Int32) => if r88 ≤ (q_today O) then some ((0 : Int32)) else some ((1 : Int32))) else some ((0 : Int32))).bind (fun (r83 : Int32) => if r14 = 0 then if r1 = ((-1 : Int32)) then some ((1 : Int32)) else some ((0 : Int32)) else if r1 < 0 then if r83 = 0 then some ((1 : Int32)) else (q_full r74 O).bind (fun (r97 : Int32) => if r1 = r97 then some ((1 : Int32)) else some ((0 : Int32))) else if r1 ≤ (q_today O) then some ((0 : Int32)) else if ((q_today O) + ((1000 : Int32))) < r1 then some ((0 : Int32)) else if (lg_cmp r16 r15) < 0 then some ((0 : Int32)) else if 0 ≤ (lg_cmp r17 r15) then some ((0 : Int32)) else if r83 = 0 then some ((1 : Int32)) else (q_full r74 O).bind (fun (r107 : Int32) => if r1 = r107 then some ((1 : Int32)) else some ((0 : Int32)))))))
set_option maxRecDepth 100000 in
set_option maxHeartbeats 8000000 in
theorem c_L_isPool (E : Ev) (al : Nat → Nat) (ad : CA) {a5 : Int32} {O : Ob} {L : LW} {T : TS} {r : Int32} (h : f_L_isPool a5 O L = some r) (hT : RlT T O) : CtN E yL_isPool cL_isPool 15 .boolean 7 161 0 0 (pw E al ad L T) [.ref (ad.1 0), .ref (al 2), .ref (al 3), .ref (al 0), .int a5] r (fun u : TS => RlT u O) (fun u => pw E al ad L u) := by
  refine CtN_of (by decide +kernel) (Nat.le_of_ble_eq_true rfl) (fun x X XX XN hE => ?_)
  show J E x 0 0 (pw E al ad L T) 0 [(0, .ref (ad.1 0)), (1, .ref (al 2)), (2, .ref (al 3)), (3, .ref (al 0)), (4, .int a5)] []
  unfold f_L_isPool at h
  refine J_aload_n X (pc := 0) dL_isPool_0 0 rfl ?_
  refine J_iload X (pc := 1) dL_isPool_1 4 rfl ?_
  replace h := bk h
  obtain ⟨r1, g2, h⟩ := h
  refine P_poolFull X (pc := 3) g2 hT ⟨Nat.le_of_ble_eq_true rfl, Nat.le_of_ble_eq_true rfl⟩ (Nat.le_of_ble_eq_true rfl) ⟨(show 0 ≤ 0 from by omega), (show 0 ≤ 0 from by omega)⟩ dL_isPool_3 (fun T3 hT4 => ?_)
  refine J_istore X (pc := 6) dL_isPool_6 (by decide) rfl ?_
  refine J_iconst X (pc := 8) (v := 1) dL_isPool_8 (by decide +kernel) ?_
  refine J_istore X (pc := 9) dL_isPool_9 (by decide) rfl ?_
  refine J_lconst X (pc := 11) (v := 0) dL_isPool_11 (by decide +kernel) ?_
  refine J_lstore X (pc := 12) dL_isPool_12 (by decide) rfl ?_
  refine J_lconst X (pc := 14) (v := 0) dL_isPool_14 (by decide +kernel) ?_
  refine J_lstore X (pc := 15) dL_isPool_15 (by decide) rfl ?_
  refine J_lconst X (pc := 17) (v := 0) dL_isPool_17 (by decide +kernel) ?_
  refine J_lstore X (pc := 18) dL_isPool_18 (by decide) rfl ?_
  refine J_iconst X (pc := 20) (v := 0) dL_isPool_20 (by decide +kernel) ?_
  refine J_istore X (pc := 21) dL_isPool_21 (by decide) rfl ?_
  replace h := bk h
  obtain ⟨⟨r14, r15, r16, r17⟩, g21, h⟩ := h
  dsimp only at h
  have k20 : ∀ T0, RlT T0 O → J E x (0) (0) (pw E al ad L T0) 152 [(0, .ref (ad.1 0)), (4, .int a5), (5, .int r1), (6, .int r14), (7, .long r15), (9, .long r16), (11, .long r17)] [] := by
    intro T18 hT19
    refine J_iconst X (pc := 152) (v := 0) dL_isPool_152 (by decide +kernel) ?_
    refine J_istore X (pc := 153) dL_isPool_153 (by decide) rfl ?_
    replace h := bk h
    obtain ⟨r74, g78, h⟩ := h
    have k77 : ∀ T0, RlT T0 O → J E x (0) (0) (pw E al ad L T0) 171 [(0, .ref (ad.1 0)), (4, .int a5), (5, .int r1), (6, .int r14), (7, .long r15), (9, .long r16), (11, .long r17), (13, .int r74)] [] := by
      intro T75 hT76
      refine J_iload X (pc := 171) dL_isPool_171 1 rfl ?_
      refine J_iconst X (pc := 173) (v := 1) dL_isPool_173 (by decide +kernel) ?_
      refine J_iload X (pc := 174) dL_isPool_174 7 rfl ?_
      refine J_ishl X (pc := 176) dL_isPool_176 ?_
      replace h := bk h
      obtain ⟨r83, g87, h⟩ := h
      have j86 : ∀ T0, RlT T0 O → J E x (0) (0) (pw E al ad L T0) 198 [(0, .ref (ad.1 0)), (5, .int r1), (6, .int r14), (7, .long r15), (9, .long r16), (11, .long r17), (13, .int r74)] [.int r83] := by
        intro T84 hT85
        refine J_istore X (pc := 198) dL_isPool_198 (by decide) rfl ?_
        refine J_iload X (pc := 200) dL_isPool_200 3 rfl ?_
        refine J_if_eq X (pc := 202) 272 dL_isPool_202 (by decide) (fun c93 => ?_) (fun c93 => ?_)
        · rw [if_pos c93] at h
          refine J_iload X (pc := 272) dL_isPool_272 2 rfl ?_
          refine J_iconst X (pc := 274) (v := -1) dL_isPool_274 (by decide +kernel) ?_
          refine J_icmp_ne X (pc := 275) 282 dL_isPool_275 (by decide) (fun c94 => ?_) (fun c94 => ?_)
          · rw [if_neg c94] at h
            refine J_iconst X (pc := 282) (v := 0) dL_isPool_282 (by decide +kernel) ?_
            cases h
            exact J_widen (k2 := 0) (n2 := 0) (by omega) (by omega) (hE T84 hT85 _ _ dL_isPool_283 (by decide +kernel))
          · rw [if_pos c94] at h
            refine J_iconst X (pc := 278) (v := 1) dL_isPool_278 (by decide +kernel) ?_
            refine J_goto X (pc := 279) 283 dL_isPool_279 (by decide) ?_
            cases h
            exact J_widen (k2 := 0) (n2 := 0) (by omega) (by omega) (hE T84 hT85 _ _ dL_isPool_283 (by decide +kernel))
        · rw [if_neg c93] at h
          refine J_iload X (pc := 205) dL_isPool_205 2 rfl ?_
          refine J_if_lt X (pc := 207) 248 dL_isPool_207 (by decide) (fun c95 => ?_) (fun c95 => ?_)
          · rw [if_pos c95] at h
            refine J_iload X (pc := 248) dL_isPool_248 0 rfl ?_
            refine J_if_eq X (pc := 250) 264 dL_isPool_250 (by decide) (fun c96 => ?_) (fun c96 => ?_)
            · rw [if_pos c96] at h
              refine J_iconst X (pc := 264) (v := 1) dL_isPool_264 (by decide +kernel) ?_
              refine J_goto X (pc := 265) 283 dL_isPool_265 (by decide) ?_
              cases h
              exact J_widen (k2 := 0) (n2 := 0) (by omega) (by omega) (hE T84 hT85 _ _ dL_isPool_283 (by decide +kernel))
            · rw [if_neg c96] at h
              refine J_iload X (pc := 253) dL_isPool_253 2 rfl ?_
              refine J_aload_n X (pc := 255) dL_isPool_255 1 rfl ?_
              refine J_iload X (pc := 256) dL_isPool_256 7 rfl ?_
              replace h := bk h
              obtain ⟨r97, g98, h⟩ := h
              refine P_full X (pc := 258) g98 hT85 ⟨Nat.le_of_ble_eq_true rfl, Nat.le_of_ble_eq_true rfl⟩ (Nat.le_of_ble_eq_true rfl) ⟨(show 0 ≤ 0 from by omega), (show 0 ≤ 0 from by omega)⟩ dL_isPool_258 (fun T99 hT100 => ?_)
              refine J_icmp_ne X (pc := 261) 268 dL_isPool_261 (by decide) (fun c101 => ?_) (fun c101 => ?_)
              · rw [if_neg c101] at h
                refine J_iconst X (pc := 268) (v := 0) dL_isPool_268 (by decide +kernel) ?_
                refine J_goto X (pc := 269) 283 dL_isPool_269 (by decide) ?_
                cases h
                exact J_widen (k2 := 0) (n2 := 0) (by omega) (by omega) (hE T99 hT100 _ _ dL_isPool_283 (by decide +kernel))
              · rw [if_pos c101] at h
                refine J_iconst X (pc := 264) (v := 1) dL_isPool_264 (by decide +kernel) ?_
                refine J_goto X (pc := 265) 283 dL_isPool_265 (by decide) ?_
                cases h
                exact J_widen (k2 := 0) (n2 := 0) (by omega) (by omega) (hE T99 hT100 _ _ dL_isPool_283 (by decide +kernel))
          · rw [if_neg c95] at h
            refine J_iload X (pc := 210) dL_isPool_210 2 rfl ?_
            refine J_aload_n X (pc := 212) dL_isPool_212 1 rfl ?_
            refine P_today X (pc := 213) hT85 ⟨Nat.le_of_ble_eq_true rfl, Nat.le_of_ble_eq_true rfl⟩ (Nat.le_of_ble_eq_true rfl) ⟨(show 0 ≤ 0 from by omega), (show 0 ≤ 0 from by omega)⟩ dL_isPool_213 ?_
            refine J_icmp_le X (pc := 216) 268 dL_isPool_216 (by decide) (fun c102 => ?_) (fun c102 => ?_)
            · rw [if_pos c102] at h
              refine J_iconst X (pc := 268) (v := 0) dL_isPool_268 (by decide +kernel) ?_
              refine J_goto X (pc := 269) 283 dL_isPool_269 (by decide) ?_
              cases h
              exact J_widen (k2 := 0) (n2 := 0) (by omega) (by omega) (hE T84 hT85 _ _ dL_isPool_283 (by decide +kernel))
            · rw [if_neg c102] at h
              refine J_iload X (pc := 219) dL_isPool_219 2 rfl ?_
              refine J_aload_n X (pc := 221) dL_isPool_221 1 rfl ?_
              refine P_today X (pc := 222) hT85 ⟨Nat.le_of_ble_eq_true rfl, Nat.le_of_ble_eq_true rfl⟩ (Nat.le_of_ble_eq_true rfl) ⟨(show 0 ≤ 0 from by omega), (show 0 ≤ 0 from by omega)⟩ dL_isPool_222 ?_
              refine J_sipush X (pc := 225) (v := 1000) dL_isPool_225 (by decide +kernel) ?_
              refine J_iadd X (pc := 228) dL_isPool_228 ?_
              refine J_icmp_gt X (pc := 229) 268 dL_isPool_229 (by decide) (fun c103 => ?_) (fun c103 => ?_)
              · rw [if_pos c103] at h
                refine J_iconst X (pc := 268) (v := 0) dL_isPool_268 (by decide +kernel) ?_
                refine J_goto X (pc := 269) 283 dL_isPool_269 (by decide) ?_
                cases h
                exact J_widen (k2 := 0) (n2 := 0) (by omega) (by omega) (hE T84 hT85 _ _ dL_isPool_283 (by decide +kernel))
              · rw [if_neg c103] at h
                refine J_lload X (pc := 232) dL_isPool_232 5 rfl ?_
                refine J_lload X (pc := 234) dL_isPool_234 4 rfl ?_
                refine J_lcmp X (pc := 236) dL_isPool_236 ?_
                refine J_if_lt X (pc := 237) 268 dL_isPool_237 (by decide) (fun c104 => ?_) (fun c104 => ?_)
                · rw [if_pos c104] at h
                  refine J_iconst X (pc := 268) (v := 0) dL_isPool_268 (by decide +kernel) ?_
                  refine J_goto X (pc := 269) 283 dL_isPool_269 (by decide) ?_
                  cases h
                  exact J_widen (k2 := 0) (n2 := 0) (by omega) (by omega) (hE T84 hT85 _ _ dL_isPool_283 (by decide +kernel))
                · rw [if_neg c104] at h
                  refine J_lload X (pc := 240) dL_isPool_240 6 rfl ?_
                  refine J_lload X (pc := 242) dL_isPool_242 4 rfl ?_
                  refine J_lcmp X (pc := 244) dL_isPool_244 ?_
                  refine J_if_ge X (pc := 245) 268 dL_isPool_245 (by decide) (fun c105 => ?_) (fun c105 => ?_)
                  · rw [if_pos c105] at h
                    refine J_iconst X (pc := 268) (v := 0) dL_isPool_268 (by decide +kernel) ?_
                    refine J_goto X (pc := 269) 283 dL_isPool_269 (by decide) ?_
                    cases h
                    exact J_widen (k2 := 0) (n2 := 0) (by omega) (by omega) (hE T84 hT85 _ _ dL_isPool_283 (by decide +kernel))
                  · rw [if_neg c105] at h
                    refine J_iload X (pc := 248) dL_isPool_248 0 rfl ?_
                    refine J_if_eq X (pc := 250) 264 dL_isPool_250 (by decide) (fun c106 => ?_) (fun c106 => ?_)
                    · rw [if_pos c106] at h
                      refine J_iconst X (pc := 264) (v := 1) dL_isPool_264 (by decide +kernel) ?_
                      refine J_goto X (pc := 265) 283 dL_isPool_265 (by decide) ?_
                      cases h
                      exact J_widen (k2 := 0) (n2 := 0) (by omega) (by omega) (hE T84 hT85 _ _ dL_isPool_283 (by decide +kernel))
                    · rw [if_neg c106] at h
                      refine J_iload X (pc := 253) dL_isPool_253 2 rfl ?_
                      refine J_aload_n X (pc := 255) dL_isPool_255 1 rfl ?_
                      refine J_iload X (pc := 256) dL_isPool_256 7 rfl ?_
                      replace h := bk h
                      obtain ⟨r107, g108, h⟩ := h
                      refine P_full X (pc := 258) g108 hT85 ⟨Nat.le_of_ble_eq_true rfl, Nat.le_of_ble_eq_true rfl⟩ (Nat.le_of_ble_eq_true rfl) ⟨(show 0 ≤ 0 from by omega), (show 0 ≤ 0 from by omega)⟩ dL_isPool_258 (fun T109 hT110 => ?_)
                      refine J_icmp_ne X (pc := 261) 268 dL_isPool_261 (by decide) (fun c111 => ?_) (fun c111 => ?_)
                      · rw [if_neg c111] at h
                        refine J_iconst X (pc := 268) (v := 0) dL_isPool_268 (by decide +kernel) ?_
                        refine J_goto X (pc := 269) 283 dL_isPool_269 (by decide) ?_
                        cases h
                        exact J_widen (k2 := 0) (n2 := 0) (by omega) (by omega) (hE T109 hT110 _ _ dL_isPool_283 (by decide +kernel))
                      · rw [if_pos c111] at h
                        refine J_iconst X (pc := 264) (v := 1) dL_isPool_264 (by decide +kernel) ?_
                        refine J_goto X (pc := 265) 283 dL_isPool_265 (by decide) ?_
                        cases h
                        exact J_widen (k2 := 0) (n2 := 0) (by omega) (by omega) (hE T109 hT110 _ _ dL_isPool_283 (by decide +kernel))
      refine J_icmp_ne X (pc := 177) 197 dL_isPool_177 (by decide) (fun c82 => ?_) (fun c82 => ?_)
      · rw [if_neg c82] at g87
        refine J_iconst X (pc := 197) (v := 0) dL_isPool_197 (by decide +kernel) ?_
        replace g87 := Option.some.inj g87
        subst g87
        exact J_sub [0, 2, 3, 4, 5, 6, 7] rfl (j86 _ hT76)
      · rw [if_pos c82] at g87
        refine J_aload_n X (pc := 180) dL_isPool_180 0 rfl ?_
        refine J_iload X (pc := 181) dL_isPool_181 7 rfl ?_
        replace g87 := bk g87
        obtain ⟨r88, g89, g87⟩ := g87
        refine P_full X (pc := 183) g89 hT76 ⟨Nat.le_of_ble_eq_true rfl, Nat.le_of_ble_eq_true rfl⟩ (Nat.le_of_ble_eq_true rfl) ⟨(show 0 ≤ 0 from by omega), (show 0 ≤ 0 from by omega)⟩ dL_isPool_183 (fun T90 hT91 => ?_)
        refine J_aload_n X (pc := 186) dL_isPool_186 0 rfl ?_
        refine P_today X (pc := 187) hT91 ⟨Nat.le_of_ble_eq_true rfl, Nat.le_of_ble_eq_true rfl⟩ (Nat.le_of_ble_eq_true rfl) ⟨(show 0 ≤ 0 from by omega), (show 0 ≤ 0 from by omega)⟩ dL_isPool_187 ?_
        refine J_icmp_le X (pc := 190) 197 dL_isPool_190 (by decide) (fun c92 => ?_) (fun c92 => ?_)
        · rw [if_pos c92] at g87
          refine J_iconst X (pc := 197) (v := 0) dL_isPool_197 (by decide +kernel) ?_
          replace g87 := Option.some.inj g87
          subst g87
          exact J_sub [0, 2, 3, 4, 5, 6, 7] rfl (j86 _ hT91)
        · rw [if_neg c92] at g87
          refine J_iconst X (pc := 193) (v := 1) dL_isPool_193 (by decide +kernel) ?_
          refine J_goto X (pc := 194) 198 dL_isPool_194 (by decide) ?_
          replace g87 := Option.some.inj g87
          subst g87
          exact J_sub [0, 2, 3, 4, 5, 6, 7] rfl (j86 _ hT91)
    clear h
    have l81 : ∀ (n72 : Nat) (x69 : Int32) (T70 : TS), RlT T70 O → f_L_isPool_155 a5 n72 x69 = some r74 → J E x (0) (0) (pw E al ad L T70) 155 [(0, .ref (ad.1 0)), (4, .int a5), (5, .int r1), (6, .int r14), (7, .long r15), (9, .long r16), (11, .long r17), (13, .int x69)] [] := by
      intro n72
      induction n72 with
      | zero => intro x69 T70 hT71 h; rw [f_L_isPool_155] at h; cases h
      | succ n72 ih73 =>
        intro x69 T70 hT71 h
        rw [f_L_isPool_155] at h
        refine J_iload X (pc := 155) dL_isPool_155 1 rfl ?_
        refine J_iload X (pc := 157) dL_isPool_157 7 rfl ?_
        refine J_ishr X (pc := 159) dL_isPool_159 ?_
        refine J_iconst X (pc := 160) (v := 1) dL_isPool_160 (by decide +kernel) ?_
        refine J_iand X (pc := 161) dL_isPool_161 ?_
        refine J_if_ne X (pc := 162) 171 dL_isPool_162 (by decide) (fun c79 => ?_) (fun c79 => ?_)
        · rw [if_neg c79] at h
          cases h
          exact J_sub [0, 1, 2, 3, 4, 5, 6, 7] rfl (k77 _ hT71)
        · rw [if_pos c79] at h
          replace h := nmv_e h
          obtain ⟨v80, ev80, h⟩ := h
          refine J_iinc X (pc := 165) (v := v80) dL_isPool_165 7 rfl (by rw [ev80]; rfl) (by decide) rfl ?_
          refine J_goto X (pc := 168) 155 dL_isPool_168 (by decide) ?_
          exact J_sub [1, 2, 3, 4, 5, 6, 7, 0] rfl (ih73 _ _ hT71 h)
    exact J_sub [1, 2, 3, 4, 5, 6, 7, 0] rfl (l81 3000 _ _ hT19 g78)
  clear h
  have l68 : ∀ (n12 : Nat) (x5 : Int32) (x6 : Int64) (x7 : Int64) (x8 : Int64) (x9 : Int32) (T10 : TS), RlT T10 O → f_L_isPool_23 a5 O L r1 n12 x5 x6 x7 x8 x9 = some (r14, r15, r16, r17) → J E x (0) (0) (pw E al ad L T10) 23 [(0, .ref (ad.1 0)), (1, .ref (al 2)), (2, .ref (al 3)), (3, .ref (al 0)), (4, .int a5), (5, .int r1), (6, .int x5), (7, .long x6), (9, .long x7), (11, .long x8), (13, .int x9)] [] := by
    intro n12
    induction n12 with
    | zero => intro x5 x6 x7 x8 x9 T10 hT11 h; rw [f_L_isPool_23] at h; cases h
    | succ n12 ih13 =>
      intro x5 x6 x7 x8 x9 T10 hT11 h
      rw [f_L_isPool_23] at h
      refine J_iload X (pc := 23) dL_isPool_23 10 rfl ?_
      refine J_aload_n X (pc := 25) dL_isPool_25 2 rfl ?_
      refine J_iconst X (pc := 26) (v := 0) dL_isPool_26 (by decide +kernel) ?_
      replace h := ck_e h
      obtain ⟨b22, h⟩ := h
      refine J_iald X (pc := 27) 3 pw_c3 b22 dL_isPool_27 ?_
      refine J_icmp_ge X (pc := 28) 152 dL_isPool_28 (by decide) (fun c23 => ?_) (fun c23 => ?_)
      · rw [if_pos c23] at h
        cases h
        exact J_sub [0, 4, 5, 6, 7, 8, 9] rfl (k20 _ hT11)
      · rw [if_neg c23] at h
        refine J_iload X (pc := 31) dL_isPool_31 4 rfl ?_
        refine J_iload X (pc := 33) dL_isPool_33 10 rfl ?_
        refine J_ishr X (pc := 35) dL_isPool_35 ?_
        refine J_iconst X (pc := 36) (v := 1) dL_isPool_36 (by decide +kernel) ?_
        refine J_iand X (pc := 37) dL_isPool_37 ?_
        refine J_iconst X (pc := 38) (v := 1) dL_isPool_38 (by decide +kernel) ?_
        replace h := bk h
        obtain ⟨⟨r25, r26, r27, r28⟩, g32, h⟩ := h
        dsimp only at h
        have j31 : ∀ T0, RlT T0 O → J E x (0) (0) (pw E al ad L T0) 146 [(0, .ref (ad.1 0)), (1, .ref (al 2)), (2, .ref (al 3)), (3, .ref (al 0)), (4, .int a5), (5, .int r1), (6, .int r25), (7, .long r26), (9, .long r27), (11, .long r28), (13, .int x9)] [] := by
          intro T29 hT30
          replace h := nmv_e h
          obtain ⟨v67, ev67, h⟩ := h
          refine J_iinc X (pc := 146) (v := v67) dL_isPool_146 10 rfl (by rw [ev67]; rfl) (by decide) rfl ?_
          refine J_goto X (pc := 149) 23 dL_isPool_149 (by decide) ?_
          exact J_sub [1, 2, 3, 4, 5, 6, 7, 8, 9, 10, 0] rfl (ih13 _ _ _ _ _ _ hT30 h)
        refine J_icmp_ne X (pc := 39) 146 dL_isPool_39 (by decide) (fun c24 => ?_) (fun c24 => ?_)
        · rw [if_neg c24] at g32
          cases g32
          exact J_sub [0, 1, 2, 3, 4, 5, 6, 7, 8, 9, 10] rfl (j31 _ hT11)
        · rw [if_pos c24] at g32
          refine J_iload X (pc := 42) dL_isPool_42 6 rfl ?_
          replace g32 := bk g32
          obtain ⟨r34, g38, g32⟩ := g32
          have j37 : ∀ T0, RlT T0 O → J E x (0) (0) (pw E al ad L T0) 65 [(0, .ref (ad.1 0)), (1, .ref (al 2)), (2, .ref (al 3)), (3, .ref (al 0)), (4, .int a5), (5, .int r1), (7, .long x6), (9, .long x7), (11, .long x8), (13, .int x9)] [.int r34] := by
            intro T35 hT36
            refine J_istore X (pc := 65) dL_isPool_65 (by decide) rfl ?_
            refine J_lload X (pc := 67) dL_isPool_67 7 rfl ?_
            refine J_aload_n X (pc := 69) dL_isPool_69 2 rfl ?_
            refine J_bipush X (pc := 70) (v := 8) dL_isPool_70 (by decide +kernel) ?_
            refine J_iload X (pc := 72) dL_isPool_72 10 rfl ?_
            refine J_imul X (pc := 74) dL_isPool_74 ?_
            replace g32 := ck_e g32
            obtain ⟨b41, g32⟩ := g32
            refine J_iald X (pc := 75) 2 pw_c2 b41 dL_isPool_75 ?_
            refine J_i2l X (pc := 76) dL_isPool_76 ?_
            refine J_ladd X (pc := 77) dL_isPool_77 ?_
            replace g32 := nmv_e g32
            obtain ⟨v42, ev42, g32⟩ := g32
            refine J_nml ev42 ?_
            refine J_lstore X (pc := 78) dL_isPool_78 (by decide) rfl ?_
            refine J_lload X (pc := 80) dL_isPool_80 8 rfl ?_
            refine J_iload X (pc := 82) dL_isPool_82 1 rfl ?_
            replace g32 := bk g32
            obtain ⟨r44, g48, g32⟩ := g32
            have j47 : ∀ T0, RlT T0 O → J E x (0) (0) (pw E al ad L T0) 106 [(0, .ref (ad.1 0)), (1, .ref (al 2)), (2, .ref (al 3)), (3, .ref (al 0)), (4, .int a5), (5, .int r1), (6, .int r34), (7, .long v42), (11, .long x8), (13, .int x9)] [.long r44, .long x7] := by
              intro T45 hT46
              refine J_ladd X (pc := 106) dL_isPool_106 ?_
              replace g32 := nmv_e g32
              obtain ⟨v54, ev54, g32⟩ := g32
              refine J_nml ev54 ?_
              refine J_lstore X (pc := 107) dL_isPool_107 (by decide) rfl ?_
              refine J_lload X (pc := 109) dL_isPool_109 9 rfl ?_
              refine J_iload X (pc := 111) dL_isPool_111 7 rfl ?_
              replace g32 := bk g32
              obtain ⟨r56, g60, g32⟩ := g32
              have j59 : ∀ T0, RlT T0 O → J E x (0) (0) (pw E al ad L T0) 143 [(0, .ref (ad.1 0)), (1, .ref (al 2)), (2, .ref (al 3)), (3, .ref (al 0)), (4, .int a5), (5, .int r1), (6, .int r34), (7, .long v42), (9, .long v54), (13, .int x9)] [.long r56, .long x8] := by
                intro T57 hT58
                refine J_ladd X (pc := 143) dL_isPool_143 ?_
                replace g32 := nmv_e g32
                obtain ⟨v66, ev66, g32⟩ := g32
                refine J_nml ev66 ?_
                refine J_lstore X (pc := 144) dL_isPool_144 (by decide) rfl ?_
                cases g32
                exact J_sub [1, 2, 3, 4, 5, 6, 7, 8, 9, 0, 10] rfl (j31 _ hT58)
              refine J_if_eq X (pc := 113) 142 dL_isPool_113 (by decide) (fun c55 => ?_) (fun c55 => ?_)
              · rw [if_pos c55] at g60
                refine J_lconst X (pc := 142) (v := 0) dL_isPool_142 (by decide +kernel) ?_
                replace g60 := Option.some.inj g60
                subst g60
                exact J_sub [1, 2, 3, 4, 5, 6, 7, 8, 0, 10] rfl (j59 _ hT46)
              · rw [if_neg c55] at g60
                refine J_iload X (pc := 116) dL_isPool_116 6 rfl ?_
                refine J_aload_n X (pc := 118) dL_isPool_118 1 rfl ?_
                refine P_today X (pc := 119) hT46 ⟨Nat.le_of_ble_eq_true rfl, Nat.le_of_ble_eq_true rfl⟩ (Nat.le_of_ble_eq_true rfl) ⟨(show 0 ≤ 0 from by omega), (show 0 ≤ 0 from by omega)⟩ dL_isPool_119 ?_
                refine J_iconst X (pc := 122) (v := 1) dL_isPool_122 (by decide +kernel) ?_
                refine J_iadd X (pc := 123) dL_isPool_123 ?_
                refine J_icmp_le X (pc := 124) 142 dL_isPool_124 (by decide) (fun c61 => ?_) (fun c61 => ?_)
                · rw [if_pos c61] at g60
                  refine J_lconst X (pc := 142) (v := 0) dL_isPool_142 (by decide +kernel) ?_
                  replace g60 := Option.some.inj g60
                  subst g60
                  exact J_sub [1, 2, 3, 4, 5, 6, 7, 8, 0, 10] rfl (j59 _ hT46)
                · rw [if_neg c61] at g60
                  refine J_aload_n X (pc := 127) dL_isPool_127 1 rfl ?_
                  refine J_aload_n X (pc := 128) dL_isPool_128 4 rfl ?_
                  refine J_aload_n X (pc := 129) dL_isPool_129 2 rfl ?_
                  refine J_iload X (pc := 130) dL_isPool_130 10 rfl ?_
                  refine J_iload X (pc := 132) dL_isPool_132 6 rfl ?_
                  refine J_iconst X (pc := 134) (v := 1) dL_isPool_134 (by decide +kernel) ?_
                  refine J_isub X (pc := 135) dL_isPool_135 ?_
                  replace g60 := bk g60
                  obtain ⟨r65, g62, g60⟩ := g60
                  refine J_callNL X XX XN (pc := 136) (y := yL_due) (na := 5) (As := [.ref (ad.1 0), .ref (al 0), .ref (al 2), .int x9, .int (r1 - ((1 : Int32)))]) (rest := [.long x8]) (c_L_due E al ad g62 hT46) q_525 q_526 q_507 q_524 rfl (by decide +kernel) ⟨Nat.le_of_ble_eq_true rfl, Nat.le_of_ble_eq_true rfl⟩ rfl (Nat.le_of_ble_eq_true rfl) ⟨(show 0 ≤ 0 from by omega), (show 0 ≤ 0 from by omega)⟩ dL_isPool_136 (fun T63 hT64 => ?_)
                  refine J_goto X (pc := 139) 143 dL_isPool_139 (by decide) ?_
                  replace g60 := Option.some.inj g60
                  subst g60
                  exact J_sub [1, 2, 3, 4, 5, 6, 7, 8, 0, 10] rfl (j59 _ hT64)
            refine J_if_eq X (pc := 84) 105 dL_isPool_84 (by decide) (fun c43 => ?_) (fun c43 => ?_)
            · rw [if_pos c43] at g48
              refine J_lconst X (pc := 105) (v := 0) dL_isPool_105 (by decide +kernel) ?_
              replace g48 := Option.some.inj g48
              subst g48
              exact J_sub [2, 3, 4, 5, 6, 7, 1, 0, 9, 10] rfl (j47 _ hT36)
            · rw [if_neg c43] at g48
              refine J_iload X (pc := 87) dL_isPool_87 7 rfl ?_
              refine J_if_le X (pc := 89) 105 dL_isPool_89 (by decide) (fun c49 => ?_) (fun c49 => ?_)
              · rw [if_pos c49] at g48
                refine J_lconst X (pc := 105) (v := 0) dL_isPool_105 (by decide +kernel) ?_
                replace g48 := Option.some.inj g48
                subst g48
                exact J_sub [2, 3, 4, 5, 6, 7, 1, 0, 9, 10] rfl (j47 _ hT36)
              · rw [if_neg c49] at g48
                refine J_aload_n X (pc := 92) dL_isPool_92 2 rfl ?_
                refine J_aload_n X (pc := 93) dL_isPool_93 5 rfl ?_
                refine J_aload_n X (pc := 94) dL_isPool_94 3 rfl ?_
                refine J_iload X (pc := 95) dL_isPool_95 10 rfl ?_
                refine J_iload X (pc := 97) dL_isPool_97 7 rfl ?_
                replace g48 := bk g48
                obtain ⟨r53, g50, g48⟩ := g48
                refine J_callNL X XX XN (pc := 99) (y := yL_due) (na := 5) (As := [.ref (ad.1 0), .ref (al 0), .ref (al 2), .int x9, .int r1]) (rest := [.long x7]) (c_L_due E al ad g50 hT36) q_525 q_526 q_507 q_524 rfl (by decide +kernel) ⟨Nat.le_of_ble_eq_true rfl, Nat.le_of_ble_eq_true rfl⟩ rfl (Nat.le_of_ble_eq_true rfl) ⟨(show 0 ≤ 0 from by omega), (show 0 ≤ 0 from by omega)⟩ dL_isPool_99 (fun T51 hT52 => ?_)
                refine J_goto X (pc := 102) 106 dL_isPool_102 (by decide) ?_
                replace g48 := Option.some.inj g48
                subst g48
                exact J_sub [2, 3, 4, 5, 6, 7, 1, 0, 9, 10] rfl (j47 _ hT52)
          refine J_if_eq X (pc := 44) 64 dL_isPool_44 (by decide) (fun c33 => ?_) (fun c33 => ?_)
          · rw [if_pos c33] at g38
            refine J_iconst X (pc := 64) (v := 0) dL_isPool_64 (by decide +kernel) ?_
            replace g38 := Option.some.inj g38
            subst g38
            exact J_sub [0, 1, 2, 3, 4, 5, 7, 8, 9, 10] rfl (j37 _ hT11)
          · rw [if_neg c33] at g38
            refine J_aload_n X (pc := 47) dL_isPool_47 1 rfl ?_
            refine J_bipush X (pc := 48) (v := 8) dL_isPool_48 (by decide +kernel) ?_
            refine J_iload X (pc := 50) dL_isPool_50 10 rfl ?_
            refine J_imul X (pc := 52) dL_isPool_52 ?_
            refine J_iconst X (pc := 53) (v := 1) dL_isPool_53 (by decide +kernel) ?_
            refine J_iadd X (pc := 54) dL_isPool_54 ?_
            replace g38 := ck_e g38
            obtain ⟨b39, g38⟩ := g38
            refine J_iald X (pc := 55) 2 pw_c2 b39 dL_isPool_55 ?_
            refine J_iconst X (pc := 56) (v := 1) dL_isPool_56 (by decide +kernel) ?_
            refine J_icmp_le X (pc := 57) 64 dL_isPool_57 (by decide) (fun c40 => ?_) (fun c40 => ?_)
            · rw [if_pos c40] at g38
              refine J_iconst X (pc := 64) (v := 0) dL_isPool_64 (by decide +kernel) ?_
              replace g38 := Option.some.inj g38
              subst g38
              exact J_sub [0, 1, 2, 3, 4, 5, 7, 8, 9, 10] rfl (j37 _ hT11)
            · rw [if_neg c40] at g38
              refine J_iconst X (pc := 60) (v := 1) dL_isPool_60 (by decide +kernel) ?_
              refine J_goto X (pc := 61) 65 dL_isPool_61 (by decide) ?_
              replace g38 := Option.some.inj g38
              subst g38
              exact J_sub [0, 1, 2, 3, 4, 5, 7, 8, 9, 10] rfl (j37 _ hT11)
  exact J_sub [6, 7, 8, 9, 10, 5, 4, 3, 2, 1, 0] rfl (l68 3000 _ _ _ _ _ _ hT4 g21)
noncomputable def f_L_isRefused_267 (O : Ob) (r8 : Int32) : Nat → Int32 → Int32 → Option (Int32)
  | 0, _, _ => none
  | n106+1, x98, x99 => if ((6 : Int32)) ≤ x99 then some x98 else if x98 = 0 then some x98 else ck (¬ inO O r8) ((if ((-971 : Int32)) = ((-971 : Int32)) then some ((1 : Int32)) else some ((0 : Int32))).bind (fun (r119 : Int32) => nmv (x99 + (1 : Int32)) (fun (v124 : Int32) => f_L_isRefused_267 O r8 n106 r119 v124)))
noncomputable def f_L_isRefused_309 (O : Ob) (L : LW) (r2 : Int32) : Nat → Int32 → Int32 → Option (Int32)
  | 0, _, _ => none
  | n134+1, x126, x127 => ck (inb ((0 : Int32)) 1) (if (L.2.2.2 ((0 : Int32)).toNatClampNeg) ≤ x127 then some x126 else if x126 = 0 then some x126 else (if r2 = 0 then some ((1000001 : Int32)) else some ((0 : Int32))).bind (fun (r145 : Int32) => (qx_setSize x127 r145 O).bind (fun (r153 : Int32) => (if r153 = ((-972 : Int32)) then (if r2 = 0 then some ((1000001 : Int32)) else some ((-1 : Int32))).bind (fun (r161 : Int32) => (qx_sample x127 r161 O).bind (fun (r169 : Int32) => if r169 = ((-972 : Int32)) then (if r2 = 0 then some ((100001 : Int32)) else some ((0 : Int32))).bind (fun (r172 : Int32) => (qx_clean x127 r172 O).bind (fun (r180 : Int32) => if r180 = ((-972 : Int32)) then (if r2 = 0 then some ((3001 : Int32)) else some ((-1 : Int32))).bind (fun (r183 : Int32) => (qx_setRule x127 r183 ((5 : Int32)) O).bind (fun (r191 : Int32) => if r191 = ((-972 : Int32)) then (if r2 = 0 then some ((101 : Int32)) else some ((-1 : Int32))).bind (fun (r194 : Int32) => (qx_setRule x127 ((5 : Int32)) r194 O).bind (fun (r202 : Int32) => if r202 = ((-972 : Int32)) then some ((1 : Int32)) else some ((0 : Int32)))) else some ((0 : Int32)))) else some ((0 : Int32)))) else some ((0 : Int32)))) else some ((0 : Int32))).bind (fun (r155 : Int32) => nmv (x127 + (1 : Int32)) (fun (v204 : Int32) => f_L_isRefused_309 O L r2 n134 r155 v204)))))
noncomputable def f_L_isRefused (a3 : Int32) (O : Ob) (L : LW) : Option (Int32) := (if (a3 - a3 / ((2 : Int32)) * ((2 : Int32))) = 0 then some ((1 : Int32)) else some ((0 : Int32))).bind (fun (r2 : Int32) => (if r2 = 0 then ck (inb ((0 : Int32)) 1) (some ((L.2.2.2 ((0 : Int32)).toNatClampNeg) + (a3 - a3 / ((30 : Int32)) * ((30 : Int32))))) else some (((-1 : Int32)) - (a3 - a3 / ((30 : Int32)) * ((30 : Int32))))).bind (fun (r8 : Int32) => (f_L_all O L).bind (fun (r17 : Int64) => (if r2 = 0 then some ((1000001 : Int32)) else some (((0 : Int32)) - (a3 - a3 / ((30 : Int32)) * ((30 : Int32))))).bind (fun (r19 : Int32) => (qx_addStore r19 O).bind (fun (r27 : Int32) => (if r27 = ((-972 : Int32)) then (qx_setSize r8 ((0 : Int32)) O).bind (fun (r37 : Int32) => if r37 = ((-971 : Int32)) then (qx_sample r8 ((-1 : Int32)) O).bind (fun (r42 : Int32) => if r42 = ((-971 : Int32)) then (qx_clean r8 ((0 : Int32)) O).bind (fun (r47 : Int32) => if r47 = ((-971 : Int32)) then (qx_forecast r8 ((0 : Int32)) O).bind (fun (r52 : Int32) => if r52 = ((-971 : Int32)) then (qx_setRule r8 ((-1 : Int32)) ((-1 : Int32)) O).bind (fun (r57 : Int32) => if r57 = ((-971 : Int32)) then (q_slope r2 r8 O).bind (fun (r62 : Int32) => if r62 = ((-2000000971 : Int32)) then (if r2 = 0 then some (((101 : Int32)) + (a3 - a3 / ((30 : Int32)) * ((30 : Int32)))) else some (((0 : Int32)) - (a3 - a3 / ((30 : Int32)) * ((30 : Int32))))).bind (fun (r65 : Int32) => (qx_pass r65 O).bind (fun (r73 : Int32) => if r73 = ((-972 : Int32)) then (if r2 = 0 then ck (inb ((0 : Int32)) 1) (some (((1 : Int32)) <<< (((L.2.2.2 ((0 : Int32)).toNatClampNeg) + (a3 - a3 / ((9 : Int32)) * ((9 : Int32)))) &&& 31))) else some ((0 : Int32))).bind (fun (r76 : Int32) => (qx_poolFull r76 O).bind (fun (r85 : Int32) => if r85 = ((-972 : Int32)) then (qx_poolFull (((-1 : Int32)) - (a3 - a3 / ((30 : Int32)) * ((30 : Int32)))) O).bind (fun (r90 : Int32) => if r90 = ((-972 : Int32)) then if (q_today O) < ((1901 : Int32)) then some ((1 : Int32)) else (qx_pass ((100 : Int32)) O).bind (fun (r96 : Int32) => if r96 = ((-973 : Int32)) then some ((1 : Int32)) else some ((0 : Int32))) else some ((0 : Int32))) else some ((0 : Int32)))) else some ((0 : Int32)))) else some ((0 : Int32))) else some ((0 : Int32))) else some ((0 : Int32))) else some ((0 : Int32))) else some ((0 : Int32))) else some ((0 : Int32))) else some ((0 : Int32))).bind (fun (r29 : Int32) => (f_L_isRefused_267 O r8 7 r29 ((0 : Int32))).bind (fun (r108 : Int32) => (f_L_isRefused_309 O L r2 4 r108 ((0 : Int32))).bind (fun (r136 : Int32) => if r136 = 0 then some ((0 : Int32)) else (f_L_all O L).bind (fun (r210 : Int64) => if (lg_cmp r210 r17) = 0 then some ((1 : Int32)) else some ((0 : Int32)))))))))))
set_option maxRecDepth 100000 in
set_option maxHeartbeats 8000000 in
theorem c_L_isRefused (E : Ev) (al : Nat → Nat) (ad : CA) {a3 : Int32} {O : Ob} {L : LW} {T : TS} {r : Int32} (h : f_L_isRefused a3 O L = some r) (hT : RlT T O) : CtN E yL_isRefused cL_isRefused 9 .boolean 11 217 54 324 (pw E al ad L T) [.ref (ad.1 0), .ref (al 3), .int a3] r (fun u : TS => RlT u O) (fun u => pw E al ad L u) := by
  refine CtN_of (by decide +kernel) (Nat.le_of_ble_eq_true rfl) (fun x X XX XN hE => ?_)
  show J E x 0 0 (pw E al ad L T) 0 [(0, .ref (ad.1 0)), (1, .ref (al 3)), (2, .int a3)] []
  unfold f_L_isRefused at h
  refine J_iload_n X (pc := 0) dL_isRefused_0 2 rfl ?_
  refine J_iconst X (pc := 1) (v := 2) dL_isRefused_1 (by decide +kernel) ?_
  refine J_irem X (pc := 2) dL_isRefused_2 (by decide +kernel) ?_
  replace h := bk h
  obtain ⟨r2, g6, h⟩ := h
  have j5 : ∀ T0, RlT T0 O → J E x (0) (0) (pw E al ad L T0) 11 [(0, .ref (ad.1 0)), (1, .ref (al 3)), (2, .int a3)] [.int r2] := by
    intro T3 hT4
    refine J_istore_n X (pc := 11) dL_isRefused_11 (by decide) rfl ?_
    refine J_iload_n X (pc := 12) dL_isRefused_12 0 rfl ?_
    replace h := bk h
    obtain ⟨r8, g12, h⟩ := h
    have j11 : ∀ T0, RlT T0 O → J E x (0) (0) (pw E al ad L T0) 33 [(0, .ref (ad.1 0)), (1, .ref (al 3)), (2, .int a3), (3, .int r2)] [.int r8] := by
      intro T9 hT10
      refine J_istore X (pc := 33) dL_isRefused_33 (by decide) rfl ?_
      refine J_aload_n X (pc := 35) dL_isRefused_35 1 rfl ?_
      refine J_aload_n X (pc := 36) dL_isRefused_36 2 rfl ?_
      replace h := bk h
      obtain ⟨r17, g14, h⟩ := h
      refine J_callNL X XX XN (pc := 37) (y := yL_all) (na := 2) (As := [.ref (ad.1 0), .ref (al 3)]) (rest := []) (c_L_all E al ad g14 hT10) q_532 q_533 q_507 q_508 rfl (by decide +kernel) ⟨Nat.le_of_ble_eq_true rfl, Nat.le_of_ble_eq_true rfl⟩ rfl (Nat.le_of_ble_eq_true rfl) ⟨(show 8 ≤ 54 from by omega), (show 48 ≤ 324 from by omega)⟩ dL_isRefused_37 (fun T15 hT16 => ?_)
      refine J_lstore X (pc := 40) dL_isRefused_40 (by decide) rfl ?_
      refine J_aload_n X (pc := 42) dL_isRefused_42 2 rfl ?_
      refine J_iconst X (pc := 43) (v := 0) dL_isRefused_43 (by decide +kernel) ?_
      refine J_iload_n X (pc := 44) dL_isRefused_44 5 rfl ?_
      replace h := bk h
      obtain ⟨r19, g23, h⟩ := h
      have j22 : ∀ T0, RlT T0 O → J E x (8) (48) (pw E al ad L T0) 59 [(0, .ref (ad.1 0)), (1, .ref (al 3)), (2, .int a3), (3, .int r2), (4, .int r8), (5, .long r17)] [.int r19, .int ((0 : Int32)), .ref (ad.1 0)] := by
        intro T20 hT21
        refine J_iconst X (pc := 59) (v := 0) dL_isRefused_59 (by decide +kernel) ?_
        replace h := bk h
        obtain ⟨r27, g24, h⟩ := h
        refine P_x_addStore X XX XN (pc := 60) g24 hT21 ⟨Nat.le_of_ble_eq_true rfl, Nat.le_of_ble_eq_true rfl⟩ (Nat.le_of_ble_eq_true rfl) ⟨(show 9 ≤ 54 from by omega), (show 54 ≤ 324 from by omega)⟩ dL_isRefused_60 (fun T25 hT26 => ?_)
        refine J_sipush X (pc := 63) (v := -972) dL_isRefused_63 (by decide +kernel) ?_
        replace h := bk h
        obtain ⟨r29, g33, h⟩ := h
        have j32 : ∀ T0, RlT T0 O → J E x (19) (114) (pw E al ad L T0) 262 [(0, .ref (ad.1 0)), (1, .ref (al 3)), (3, .int r2), (4, .int r8), (5, .long r17)] [.int r29] := by
          intro T30 hT31
          refine J_istore X (pc := 262) dL_isRefused_262 (by decide) rfl ?_
          refine J_iconst X (pc := 264) (v := 0) dL_isRefused_264 (by decide +kernel) ?_
          refine J_istore X (pc := 265) dL_isRefused_265 (by decide) rfl ?_
          replace h := bk h
          obtain ⟨r108, g112, h⟩ := h
          have k111 : ∀ T0, RlT T0 O → J E x (26) (156) (pw E al ad L T0) 306 [(0, .ref (ad.1 0)), (1, .ref (al 3)), (3, .int r2), (5, .long r17), (7, .int r108)] [] := by
            intro T109 hT110
            refine J_iconst X (pc := 306) (v := 0) dL_isRefused_306 (by decide +kernel) ?_
            refine J_istore X (pc := 307) dL_isRefused_307 (by decide) rfl ?_
            replace h := bk h
            obtain ⟨r136, g140, h⟩ := h
            have k139 : ∀ T0, RlT T0 O → J E x (46) (276) (pw E al ad L T0) 451 [(0, .ref (ad.1 0)), (1, .ref (al 3)), (5, .long r17), (7, .int r136)] [] := by
              intro T137 hT138
              refine J_iload X (pc := 451) dL_isRefused_451 3 rfl ?_
              refine J_if_eq X (pc := 453) 471 dL_isRefused_453 (by decide) (fun c206 => ?_) (fun c206 => ?_)
              · rw [if_pos c206] at h
                refine J_iconst X (pc := 471) (v := 0) dL_isRefused_471 (by decide +kernel) ?_
                cases h
                exact J_widen (k2 := 54) (n2 := 324) (by omega) (by omega) (hE T137 hT138 _ _ dL_isRefused_472 (by decide +kernel))
              · rw [if_neg c206] at h
                refine J_aload_n X (pc := 456) dL_isRefused_456 0 rfl ?_
                refine J_aload_n X (pc := 457) dL_isRefused_457 1 rfl ?_
                replace h := bk h
                obtain ⟨r210, g207, h⟩ := h
                refine J_callNL X XX XN (pc := 458) (y := yL_all) (na := 2) (As := [.ref (ad.1 0), .ref (al 3)]) (rest := []) (c_L_all E al ad g207 hT138) q_532 q_533 q_507 q_508 rfl (by decide +kernel) ⟨Nat.le_of_ble_eq_true rfl, Nat.le_of_ble_eq_true rfl⟩ rfl (Nat.le_of_ble_eq_true rfl) ⟨(show 54 ≤ 54 from by omega), (show 324 ≤ 324 from by omega)⟩ dL_isRefused_458 (fun T208 hT209 => ?_)
                refine J_lload X (pc := 461) dL_isRefused_461 2 rfl ?_
                refine J_lcmp X (pc := 463) dL_isRefused_463 ?_
                refine J_if_ne X (pc := 464) 471 dL_isRefused_464 (by decide) (fun c211 => ?_) (fun c211 => ?_)
                · rw [if_neg c211] at h
                  refine J_iconst X (pc := 471) (v := 0) dL_isRefused_471 (by decide +kernel) ?_
                  cases h
                  exact J_widen (k2 := 54) (n2 := 324) (by omega) (by omega) (hE T208 hT209 _ _ dL_isRefused_472 (by decide +kernel))
                · rw [if_pos c211] at h
                  refine J_iconst X (pc := 467) (v := 1) dL_isRefused_467 (by decide +kernel) ?_
                  refine J_goto X (pc := 468) 472 dL_isRefused_468 (by decide) ?_
                  cases h
                  exact J_widen (k2 := 54) (n2 := 324) (by omega) (by omega) (hE T208 hT209 _ _ dL_isRefused_472 (by decide +kernel))
            clear h
            have l205 : ∀ (n134 : Nat) (x126 : Int32) (x127 : Int32) (k130 n131 : Nat) (T128 : TS), k130 + 5 * n134 ≤ 46 → n131 + 30 * n134 ≤ 276 → RlT T128 O → f_L_isRefused_309 O L r2 n134 x126 x127 = some r136 → J E x (k130) (n131) (pw E al ad L T128) 309 [(0, .ref (ad.1 0)), (1, .ref (al 3)), (3, .int r2), (5, .long r17), (7, .int x126), (8, .int x127)] [] := by
              intro n134
              induction n134 with
              | zero => intro x126 x127 k130 n131 T128 hk132 hn133 hT129 h; rw [f_L_isRefused_309] at h; cases h
              | succ n134 ih135 =>
                intro x126 x127 k130 n131 T128 hk132 hn133 hT129 h
                rw [f_L_isRefused_309] at h
                refine J_iload X (pc := 309) dL_isRefused_309 5 rfl ?_
                refine J_aload_n X (pc := 311) dL_isRefused_311 1 rfl ?_
                refine J_iconst X (pc := 312) (v := 0) dL_isRefused_312 (by decide +kernel) ?_
                replace h := ck_e h
                obtain ⟨b141, h⟩ := h
                refine J_iald X (pc := 313) 3 pw_c3 b141 dL_isRefused_313 ?_
                refine J_icmp_ge X (pc := 314) 451 dL_isRefused_314 (by decide) (fun c142 => ?_) (fun c142 => ?_)
                · rw [if_pos c142] at h
                  cases h
                  refine J_widen (k2 := 46) (n2 := 276) (by omega) (by omega) ?_
                  exact J_sub [0, 1, 3, 4] rfl (k139 _ hT129)
                · rw [if_neg c142] at h
                  refine J_iload X (pc := 317) dL_isRefused_317 4 rfl ?_
                  refine J_if_eq X (pc := 319) 451 dL_isRefused_319 (by decide) (fun c143 => ?_) (fun c143 => ?_)
                  · rw [if_pos c143] at h
                    cases h
                    refine J_widen (k2 := 46) (n2 := 276) (by omega) (by omega) ?_
                    exact J_sub [0, 1, 3, 4] rfl (k139 _ hT129)
                  · rw [if_neg c143] at h
                    refine J_aload_n X (pc := 322) dL_isRefused_322 0 rfl ?_
                    refine J_iconst X (pc := 323) (v := 1) dL_isRefused_323 (by decide +kernel) ?_
                    refine J_iload X (pc := 324) dL_isRefused_324 5 rfl ?_
                    refine J_iload_n X (pc := 326) dL_isRefused_326 2 rfl ?_
                    replace h := bk h
                    obtain ⟨r145, g149, h⟩ := h
                    have j148 : ∀ T0, RlT T0 O → J E x (k130) (n131) (pw E al ad L T0) 336 [(0, .ref (ad.1 0)), (1, .ref (al 3)), (3, .int r2), (5, .long r17), (8, .int x127)] [.int r145, .int x127, .int ((1 : Int32)), .ref (ad.1 0)] := by
                      intro T146 hT147
                      replace h := bk h
                      obtain ⟨r153, g150, h⟩ := h
                      refine P_x_setSize X XX XN (pc := 336) g150 hT147 ⟨Nat.le_of_ble_eq_true rfl, Nat.le_of_ble_eq_true rfl⟩ (Nat.le_of_ble_eq_true rfl) ⟨(show k130 + 1 ≤ 54 from by omega), (show n131 + 6 ≤ 324 from by omega)⟩ dL_isRefused_336 (fun T151 hT152 => ?_)
                      refine J_sipush X (pc := 339) (v := -972) dL_isRefused_339 (by decide +kernel) ?_
                      replace h := bk h
                      obtain ⟨r155, g159, h⟩ := h
                      have j158 : ∀ T0, RlT T0 O → J E x (k130 + 5) (n131 + 30) (pw E al ad L T0) 443 [(0, .ref (ad.1 0)), (1, .ref (al 3)), (3, .int r2), (5, .long r17), (8, .int x127)] [.int r155] := by
                        intro T156 hT157
                        refine J_istore X (pc := 443) dL_isRefused_443 (by decide) rfl ?_
                        replace h := nmv_e h
                        obtain ⟨v204, ev204, h⟩ := h
                        refine J_iinc X (pc := 445) (v := v204) dL_isRefused_445 5 rfl (by rw [ev204]; rfl) (by decide) rfl ?_
                        refine J_goto X (pc := 448) 309 dL_isRefused_448 (by decide) ?_
                        exact J_sub [2, 3, 4, 5, 1, 0] rfl (ih135 _ _ (k130 + 5) (n131 + 30) _ (by omega) (by omega) hT157 h)
                      refine J_icmp_ne X (pc := 342) 442 dL_isRefused_342 (by decide) (fun c154 => ?_) (fun c154 => ?_)
                      · rw [if_neg c154] at g159
                        refine J_iconst X (pc := 442) (v := 0) dL_isRefused_442 (by decide +kernel) ?_
                        replace g159 := Option.some.inj g159
                        subst g159
                        refine J_widen (k2 := k130 + 5) (n2 := n131 + 30) (by omega) (by omega) ?_
                        exact J_sub [0, 1, 2, 3, 4] rfl (j158 _ hT152)
                      · rw [if_pos c154] at g159
                        refine J_aload_n X (pc := 345) dL_isRefused_345 0 rfl ?_
                        refine J_iconst X (pc := 346) (v := 2) dL_isRefused_346 (by decide +kernel) ?_
                        refine J_iload X (pc := 347) dL_isRefused_347 4 rfl ?_
                        refine J_iload_n X (pc := 349) dL_isRefused_349 2 rfl ?_
                        replace g159 := bk g159
                        obtain ⟨r161, g165, g159⟩ := g159
                        have j164 : ∀ T0, RlT T0 O → J E x (k130 + 1) (n131 + 6) (pw E al ad L T0) 359 [(0, .ref (ad.1 0)), (1, .ref (al 3)), (3, .int r2), (5, .long r17), (8, .int x127)] [.int r161, .int x127, .int ((2 : Int32)), .ref (ad.1 0)] := by
                          intro T162 hT163
                          replace g159 := bk g159
                          obtain ⟨r169, g166, g159⟩ := g159
                          refine P_x_sample X XX XN (pc := 359) g166 hT163 ⟨Nat.le_of_ble_eq_true rfl, Nat.le_of_ble_eq_true rfl⟩ (Nat.le_of_ble_eq_true rfl) ⟨(show k130 + 2 ≤ 54 from by omega), (show n131 + 12 ≤ 324 from by omega)⟩ dL_isRefused_359 (fun T167 hT168 => ?_)
                          refine J_sipush X (pc := 362) (v := -972) dL_isRefused_362 (by decide +kernel) ?_
                          refine J_icmp_ne X (pc := 365) 442 dL_isRefused_365 (by decide) (fun c170 => ?_) (fun c170 => ?_)
                          · rw [if_neg c170] at g159
                            refine J_iconst X (pc := 442) (v := 0) dL_isRefused_442 (by decide +kernel) ?_
                            replace g159 := Option.some.inj g159
                            subst g159
                            refine J_widen (k2 := k130 + 5) (n2 := n131 + 30) (by omega) (by omega) ?_
                            exact J_sub [0, 1, 2, 3, 4] rfl (j158 _ hT168)
                          · rw [if_pos c170] at g159
                            refine J_aload_n X (pc := 368) dL_isRefused_368 0 rfl ?_
                            refine J_iconst X (pc := 369) (v := 3) dL_isRefused_369 (by decide +kernel) ?_
                            refine J_iload X (pc := 370) dL_isRefused_370 4 rfl ?_
                            refine J_iload_n X (pc := 372) dL_isRefused_372 2 rfl ?_
                            replace g159 := bk g159
                            obtain ⟨r172, g176, g159⟩ := g159
                            have j175 : ∀ T0, RlT T0 O → J E x (k130 + 2) (n131 + 12) (pw E al ad L T0) 382 [(0, .ref (ad.1 0)), (1, .ref (al 3)), (3, .int r2), (5, .long r17), (8, .int x127)] [.int r172, .int x127, .int ((3 : Int32)), .ref (ad.1 0)] := by
                              intro T173 hT174
                              replace g159 := bk g159
                              obtain ⟨r180, g177, g159⟩ := g159
                              refine P_x_clean X XX XN (pc := 382) g177 hT174 ⟨Nat.le_of_ble_eq_true rfl, Nat.le_of_ble_eq_true rfl⟩ (Nat.le_of_ble_eq_true rfl) ⟨(show k130 + 3 ≤ 54 from by omega), (show n131 + 18 ≤ 324 from by omega)⟩ dL_isRefused_382 (fun T178 hT179 => ?_)
                              refine J_sipush X (pc := 385) (v := -972) dL_isRefused_385 (by decide +kernel) ?_
                              refine J_icmp_ne X (pc := 388) 442 dL_isRefused_388 (by decide) (fun c181 => ?_) (fun c181 => ?_)
                              · rw [if_neg c181] at g159
                                refine J_iconst X (pc := 442) (v := 0) dL_isRefused_442 (by decide +kernel) ?_
                                replace g159 := Option.some.inj g159
                                subst g159
                                refine J_widen (k2 := k130 + 5) (n2 := n131 + 30) (by omega) (by omega) ?_
                                exact J_sub [0, 1, 2, 3, 4] rfl (j158 _ hT179)
                              · rw [if_pos c181] at g159
                                refine J_aload_n X (pc := 391) dL_isRefused_391 0 rfl ?_
                                refine J_iload X (pc := 392) dL_isRefused_392 4 rfl ?_
                                refine J_iload_n X (pc := 394) dL_isRefused_394 2 rfl ?_
                                replace g159 := bk g159
                                obtain ⟨r183, g187, g159⟩ := g159
                                have j186 : ∀ T0, RlT T0 O → J E x (k130 + 3) (n131 + 18) (pw E al ad L T0) 405 [(0, .ref (ad.1 0)), (1, .ref (al 3)), (3, .int r2), (5, .long r17), (8, .int x127)] [.int r183, .int x127, .ref (ad.1 0)] := by
                                  intro T184 hT185
                                  refine J_iconst X (pc := 405) (v := 5) dL_isRefused_405 (by decide +kernel) ?_
                                  replace g159 := bk g159
                                  obtain ⟨r191, g188, g159⟩ := g159
                                  refine P_x_setRule X XX XN (pc := 406) g188 hT185 ⟨Nat.le_of_ble_eq_true rfl, Nat.le_of_ble_eq_true rfl⟩ (Nat.le_of_ble_eq_true rfl) ⟨(show k130 + 4 ≤ 54 from by omega), (show n131 + 24 ≤ 324 from by omega)⟩ dL_isRefused_406 (fun T189 hT190 => ?_)
                                  refine J_sipush X (pc := 409) (v := -972) dL_isRefused_409 (by decide +kernel) ?_
                                  refine J_icmp_ne X (pc := 412) 442 dL_isRefused_412 (by decide) (fun c192 => ?_) (fun c192 => ?_)
                                  · rw [if_neg c192] at g159
                                    refine J_iconst X (pc := 442) (v := 0) dL_isRefused_442 (by decide +kernel) ?_
                                    replace g159 := Option.some.inj g159
                                    subst g159
                                    refine J_widen (k2 := k130 + 5) (n2 := n131 + 30) (by omega) (by omega) ?_
                                    exact J_sub [0, 1, 2, 3, 4] rfl (j158 _ hT190)
                                  · rw [if_pos c192] at g159
                                    refine J_aload_n X (pc := 415) dL_isRefused_415 0 rfl ?_
                                    refine J_iload X (pc := 416) dL_isRefused_416 4 rfl ?_
                                    refine J_iconst X (pc := 418) (v := 5) dL_isRefused_418 (by decide +kernel) ?_
                                    refine J_iload_n X (pc := 419) dL_isRefused_419 2 rfl ?_
                                    replace g159 := bk g159
                                    obtain ⟨r194, g198, g159⟩ := g159
                                    have j197 : ∀ T0, RlT T0 O → J E x (k130 + 4) (n131 + 24) (pw E al ad L T0) 429 [(0, .ref (ad.1 0)), (1, .ref (al 3)), (3, .int r2), (5, .long r17), (8, .int x127)] [.int r194, .int ((5 : Int32)), .int x127, .ref (ad.1 0)] := by
                                      intro T195 hT196
                                      replace g159 := bk g159
                                      obtain ⟨r202, g199, g159⟩ := g159
                                      refine P_x_setRule X XX XN (pc := 429) g199 hT196 ⟨Nat.le_of_ble_eq_true rfl, Nat.le_of_ble_eq_true rfl⟩ (Nat.le_of_ble_eq_true rfl) ⟨(show k130 + 5 ≤ 54 from by omega), (show n131 + 30 ≤ 324 from by omega)⟩ dL_isRefused_429 (fun T200 hT201 => ?_)
                                      refine J_sipush X (pc := 432) (v := -972) dL_isRefused_432 (by decide +kernel) ?_
                                      refine J_icmp_ne X (pc := 435) 442 dL_isRefused_435 (by decide) (fun c203 => ?_) (fun c203 => ?_)
                                      · rw [if_neg c203] at g159
                                        refine J_iconst X (pc := 442) (v := 0) dL_isRefused_442 (by decide +kernel) ?_
                                        replace g159 := Option.some.inj g159
                                        subst g159
                                        refine J_widen (k2 := k130 + 5) (n2 := n131 + 30) (by omega) (by omega) ?_
                                        exact J_sub [0, 1, 2, 3, 4] rfl (j158 _ hT201)
                                      · rw [if_pos c203] at g159
                                        refine J_iconst X (pc := 438) (v := 1) dL_isRefused_438 (by decide +kernel) ?_
                                        refine J_goto X (pc := 439) 443 dL_isRefused_439 (by decide) ?_
                                        replace g159 := Option.some.inj g159
                                        subst g159
                                        refine J_widen (k2 := k130 + 5) (n2 := n131 + 30) (by omega) (by omega) ?_
                                        exact J_sub [0, 1, 2, 3, 4] rfl (j158 _ hT201)
                                    refine J_if_eq X (pc := 420) 427 dL_isRefused_420 (by decide) (fun c193 => ?_) (fun c193 => ?_)
                                    · rw [if_pos c193] at g198
                                      refine J_bipush X (pc := 427) (v := 101) dL_isRefused_427 (by decide +kernel) ?_
                                      replace g198 := Option.some.inj g198
                                      subst g198
                                      exact J_sub [0, 1, 2, 3, 4] rfl (j197 _ hT190)
                                    · rw [if_neg c193] at g198
                                      refine J_iconst X (pc := 423) (v := -1) dL_isRefused_423 (by decide +kernel) ?_
                                      refine J_goto X (pc := 424) 429 dL_isRefused_424 (by decide) ?_
                                      replace g198 := Option.some.inj g198
                                      subst g198
                                      exact J_sub [0, 1, 2, 3, 4] rfl (j197 _ hT190)
                                refine J_if_eq X (pc := 395) 402 dL_isRefused_395 (by decide) (fun c182 => ?_) (fun c182 => ?_)
                                · rw [if_pos c182] at g187
                                  refine J_sipush X (pc := 402) (v := 3001) dL_isRefused_402 (by decide +kernel) ?_
                                  replace g187 := Option.some.inj g187
                                  subst g187
                                  exact J_sub [0, 1, 2, 3, 4] rfl (j186 _ hT179)
                                · rw [if_neg c182] at g187
                                  refine J_iconst X (pc := 398) (v := -1) dL_isRefused_398 (by decide +kernel) ?_
                                  refine J_goto X (pc := 399) 405 dL_isRefused_399 (by decide) ?_
                                  replace g187 := Option.some.inj g187
                                  subst g187
                                  exact J_sub [0, 1, 2, 3, 4] rfl (j186 _ hT179)
                            refine J_if_eq X (pc := 373) 380 dL_isRefused_373 (by decide) (fun c171 => ?_) (fun c171 => ?_)
                            · rw [if_pos c171] at g176
                              refine J_ldc X (pc := 380) dL_isRefused_380 q_531 ?_
                              replace g176 := Option.some.inj g176
                              subst g176
                              exact J_sub [0, 1, 2, 3, 4] rfl (j175 _ hT168)
                            · rw [if_neg c171] at g176
                              refine J_iconst X (pc := 376) (v := 0) dL_isRefused_376 (by decide +kernel) ?_
                              refine J_goto X (pc := 377) 382 dL_isRefused_377 (by decide) ?_
                              replace g176 := Option.some.inj g176
                              subst g176
                              exact J_sub [0, 1, 2, 3, 4] rfl (j175 _ hT168)
                        refine J_if_eq X (pc := 350) 357 dL_isRefused_350 (by decide) (fun c160 => ?_) (fun c160 => ?_)
                        · rw [if_pos c160] at g165
                          refine J_ldc X (pc := 357) dL_isRefused_357 q_530 ?_
                          replace g165 := Option.some.inj g165
                          subst g165
                          exact J_sub [0, 1, 2, 3, 4] rfl (j164 _ hT152)
                        · rw [if_neg c160] at g165
                          refine J_iconst X (pc := 353) (v := -1) dL_isRefused_353 (by decide +kernel) ?_
                          refine J_goto X (pc := 354) 359 dL_isRefused_354 (by decide) ?_
                          replace g165 := Option.some.inj g165
                          subst g165
                          exact J_sub [0, 1, 2, 3, 4] rfl (j164 _ hT152)
                    refine J_if_eq X (pc := 327) 334 dL_isRefused_327 (by decide) (fun c144 => ?_) (fun c144 => ?_)
                    · rw [if_pos c144] at g149
                      refine J_ldc X (pc := 334) dL_isRefused_334 q_530 ?_
                      replace g149 := Option.some.inj g149
                      subst g149
                      exact J_sub [0, 1, 2, 3, 5] rfl (j148 _ hT129)
                    · rw [if_neg c144] at g149
                      refine J_iconst X (pc := 330) (v := 0) dL_isRefused_330 (by decide +kernel) ?_
                      refine J_goto X (pc := 331) 336 dL_isRefused_331 (by decide) ?_
                      replace g149 := Option.some.inj g149
                      subst g149
                      exact J_sub [0, 1, 2, 3, 5] rfl (j148 _ hT129)
            exact J_sub [1, 2, 3, 4, 5, 0] rfl (l205 4 _ _ (26) (156) _ (by omega) (by omega) hT110 g140)
          clear h
          have l125 : ∀ (n106 : Nat) (x98 : Int32) (x99 : Int32) (k102 n103 : Nat) (T100 : TS), k102 + 1 * n106 ≤ 26 → n103 + 6 * n106 ≤ 156 → RlT T100 O → f_L_isRefused_267 O r8 n106 x98 x99 = some r108 → J E x (k102) (n103) (pw E al ad L T100) 267 [(0, .ref (ad.1 0)), (1, .ref (al 3)), (3, .int r2), (4, .int r8), (5, .long r17), (7, .int x98), (8, .int x99)] [] := by
            intro n106
            induction n106 with
            | zero => intro x98 x99 k102 n103 T100 hk104 hn105 hT101 h; rw [f_L_isRefused_267] at h; cases h
            | succ n106 ih107 =>
              intro x98 x99 k102 n103 T100 hk104 hn105 hT101 h
              rw [f_L_isRefused_267] at h
              refine J_iload X (pc := 267) dL_isRefused_267 6 rfl ?_
              refine J_bipush X (pc := 269) (v := 6) dL_isRefused_269 (by decide +kernel) ?_
              refine J_icmp_ge X (pc := 271) 306 dL_isRefused_271 (by decide) (fun c113 => ?_) (fun c113 => ?_)
              · rw [if_pos c113] at h
                cases h
                refine J_widen (k2 := 26) (n2 := 156) (by omega) (by omega) ?_
                exact J_sub [0, 1, 2, 4, 5] rfl (k111 _ hT101)
              · rw [if_neg c113] at h
                refine J_iload X (pc := 274) dL_isRefused_274 5 rfl ?_
                refine J_if_eq X (pc := 276) 306 dL_isRefused_276 (by decide) (fun c114 => ?_) (fun c114 => ?_)
                · rw [if_pos c114] at h
                  cases h
                  refine J_widen (k2 := 26) (n2 := 156) (by omega) (by omega) ?_
                  exact J_sub [0, 1, 2, 4, 5] rfl (k111 _ hT101)
                · rw [if_neg c114] at h
                  refine J_aload_n X (pc := 279) dL_isRefused_279 0 rfl ?_
                  refine J_iload X (pc := 280) dL_isRefused_280 6 rfl ?_
                  refine J_iload X (pc := 282) dL_isRefused_282 3 rfl ?_
                  replace h := ck_e h
                  obtain ⟨g115, h⟩ := h
                  refine P_x_of X XX XN (pc := 284) g115 hT101 ⟨Nat.le_of_ble_eq_true rfl, Nat.le_of_ble_eq_true rfl⟩ (Nat.le_of_ble_eq_true rfl) ⟨(show k102 + 1 ≤ 54 from by omega), (show n103 + 6 ≤ 324 from by omega)⟩ dL_isRefused_284 (fun T116 hT117 => ?_)
                  refine J_sipush X (pc := 287) (v := -971) dL_isRefused_287 (by decide +kernel) ?_
                  replace h := bk h
                  obtain ⟨r119, g123, h⟩ := h
                  have j122 : ∀ T0, RlT T0 O → J E x (k102 + 1) (n103 + 6) (pw E al ad L T0) 298 [(0, .ref (ad.1 0)), (1, .ref (al 3)), (3, .int r2), (4, .int r8), (5, .long r17), (8, .int x99)] [.int r119] := by
                    intro T120 hT121
                    refine J_istore X (pc := 298) dL_isRefused_298 (by decide) rfl ?_
                    replace h := nmv_e h
                    obtain ⟨v124, ev124, h⟩ := h
                    refine J_iinc X (pc := 300) (v := v124) dL_isRefused_300 6 rfl (by rw [ev124]; rfl) (by decide) rfl ?_
                    refine J_goto X (pc := 303) 267 dL_isRefused_303 (by decide) ?_
                    exact J_sub [2, 3, 4, 5, 6, 1, 0] rfl (ih107 _ _ (k102 + 1) (n103 + 6) _ (by omega) (by omega) hT121 h)
                  refine J_icmp_ne X (pc := 290) 297 dL_isRefused_290 (by decide) (fun c118 => ?_) (fun c118 => ?_)
                  · rw [if_neg c118] at g123
                    refine J_iconst X (pc := 297) (v := 0) dL_isRefused_297 (by decide +kernel) ?_
                    replace g123 := Option.some.inj g123
                    subst g123
                    exact J_sub [0, 1, 2, 3, 4, 6] rfl (j122 _ hT117)
                  · rw [if_pos c118] at g123
                    refine J_iconst X (pc := 293) (v := 1) dL_isRefused_293 (by decide +kernel) ?_
                    refine J_goto X (pc := 294) 298 dL_isRefused_294 (by decide) ?_
                    replace g123 := Option.some.inj g123
                    subst g123
                    exact J_sub [0, 1, 2, 3, 4, 6] rfl (j122 _ hT117)
          exact J_sub [2, 3, 4, 5, 6, 1, 0] rfl (l125 7 _ _ (19) (114) _ (by omega) (by omega) hT31 g112)
        refine J_icmp_ne X (pc := 66) 261 dL_isRefused_66 (by decide) (fun c28 => ?_) (fun c28 => ?_)
        · rw [if_neg c28] at g33
          refine J_iconst X (pc := 261) (v := 0) dL_isRefused_261 (by decide +kernel) ?_
          replace g33 := Option.some.inj g33
          subst g33
          refine J_widen (k2 := 19) (n2 := 114) (by omega) (by omega) ?_
          exact J_sub [0, 1, 3, 4, 5] rfl (j32 _ hT26)
        · rw [if_pos c28] at g33
          refine J_aload_n X (pc := 69) dL_isRefused_69 0 rfl ?_
          refine J_iconst X (pc := 70) (v := 1) dL_isRefused_70 (by decide +kernel) ?_
          refine J_iload X (pc := 71) dL_isRefused_71 4 rfl ?_
          refine J_iconst X (pc := 73) (v := 0) dL_isRefused_73 (by decide +kernel) ?_
          replace g33 := bk g33
          obtain ⟨r37, g34, g33⟩ := g33
          refine P_x_setSize X XX XN (pc := 74) g34 hT26 ⟨Nat.le_of_ble_eq_true rfl, Nat.le_of_ble_eq_true rfl⟩ (Nat.le_of_ble_eq_true rfl) ⟨(show 10 ≤ 54 from by omega), (show 60 ≤ 324 from by omega)⟩ dL_isRefused_74 (fun T35 hT36 => ?_)
          refine J_sipush X (pc := 77) (v := -971) dL_isRefused_77 (by decide +kernel) ?_
          refine J_icmp_ne X (pc := 80) 261 dL_isRefused_80 (by decide) (fun c38 => ?_) (fun c38 => ?_)
          · rw [if_neg c38] at g33
            refine J_iconst X (pc := 261) (v := 0) dL_isRefused_261 (by decide +kernel) ?_
            replace g33 := Option.some.inj g33
            subst g33
            refine J_widen (k2 := 19) (n2 := 114) (by omega) (by omega) ?_
            exact J_sub [0, 1, 3, 4, 5] rfl (j32 _ hT36)
          · rw [if_pos c38] at g33
            refine J_aload_n X (pc := 83) dL_isRefused_83 0 rfl ?_
            refine J_iconst X (pc := 84) (v := 2) dL_isRefused_84 (by decide +kernel) ?_
            refine J_iload X (pc := 85) dL_isRefused_85 4 rfl ?_
            refine J_iconst X (pc := 87) (v := -1) dL_isRefused_87 (by decide +kernel) ?_
            replace g33 := bk g33
            obtain ⟨r42, g39, g33⟩ := g33
            refine P_x_sample X XX XN (pc := 88) g39 hT36 ⟨Nat.le_of_ble_eq_true rfl, Nat.le_of_ble_eq_true rfl⟩ (Nat.le_of_ble_eq_true rfl) ⟨(show 11 ≤ 54 from by omega), (show 66 ≤ 324 from by omega)⟩ dL_isRefused_88 (fun T40 hT41 => ?_)
            refine J_sipush X (pc := 91) (v := -971) dL_isRefused_91 (by decide +kernel) ?_
            refine J_icmp_ne X (pc := 94) 261 dL_isRefused_94 (by decide) (fun c43 => ?_) (fun c43 => ?_)
            · rw [if_neg c43] at g33
              refine J_iconst X (pc := 261) (v := 0) dL_isRefused_261 (by decide +kernel) ?_
              replace g33 := Option.some.inj g33
              subst g33
              refine J_widen (k2 := 19) (n2 := 114) (by omega) (by omega) ?_
              exact J_sub [0, 1, 3, 4, 5] rfl (j32 _ hT41)
            · rw [if_pos c43] at g33
              refine J_aload_n X (pc := 97) dL_isRefused_97 0 rfl ?_
              refine J_iconst X (pc := 98) (v := 3) dL_isRefused_98 (by decide +kernel) ?_
              refine J_iload X (pc := 99) dL_isRefused_99 4 rfl ?_
              refine J_iconst X (pc := 101) (v := 0) dL_isRefused_101 (by decide +kernel) ?_
              replace g33 := bk g33
              obtain ⟨r47, g44, g33⟩ := g33
              refine P_x_clean X XX XN (pc := 102) g44 hT41 ⟨Nat.le_of_ble_eq_true rfl, Nat.le_of_ble_eq_true rfl⟩ (Nat.le_of_ble_eq_true rfl) ⟨(show 12 ≤ 54 from by omega), (show 72 ≤ 324 from by omega)⟩ dL_isRefused_102 (fun T45 hT46 => ?_)
              refine J_sipush X (pc := 105) (v := -971) dL_isRefused_105 (by decide +kernel) ?_
              refine J_icmp_ne X (pc := 108) 261 dL_isRefused_108 (by decide) (fun c48 => ?_) (fun c48 => ?_)
              · rw [if_neg c48] at g33
                refine J_iconst X (pc := 261) (v := 0) dL_isRefused_261 (by decide +kernel) ?_
                replace g33 := Option.some.inj g33
                subst g33
                refine J_widen (k2 := 19) (n2 := 114) (by omega) (by omega) ?_
                exact J_sub [0, 1, 3, 4, 5] rfl (j32 _ hT46)
              · rw [if_pos c48] at g33
                refine J_aload_n X (pc := 111) dL_isRefused_111 0 rfl ?_
                refine J_iconst X (pc := 112) (v := 5) dL_isRefused_112 (by decide +kernel) ?_
                refine J_iload X (pc := 113) dL_isRefused_113 4 rfl ?_
                refine J_iconst X (pc := 115) (v := 0) dL_isRefused_115 (by decide +kernel) ?_
                replace g33 := bk g33
                obtain ⟨r52, g49, g33⟩ := g33
                refine P_x_forecast X XX XN (pc := 116) g49 hT46 ⟨Nat.le_of_ble_eq_true rfl, Nat.le_of_ble_eq_true rfl⟩ (Nat.le_of_ble_eq_true rfl) ⟨(show 13 ≤ 54 from by omega), (show 78 ≤ 324 from by omega)⟩ dL_isRefused_116 (fun T50 hT51 => ?_)
                refine J_sipush X (pc := 119) (v := -971) dL_isRefused_119 (by decide +kernel) ?_
                refine J_icmp_ne X (pc := 122) 261 dL_isRefused_122 (by decide) (fun c53 => ?_) (fun c53 => ?_)
                · rw [if_neg c53] at g33
                  refine J_iconst X (pc := 261) (v := 0) dL_isRefused_261 (by decide +kernel) ?_
                  replace g33 := Option.some.inj g33
                  subst g33
                  refine J_widen (k2 := 19) (n2 := 114) (by omega) (by omega) ?_
                  exact J_sub [0, 1, 3, 4, 5] rfl (j32 _ hT51)
                · rw [if_pos c53] at g33
                  refine J_aload_n X (pc := 125) dL_isRefused_125 0 rfl ?_
                  refine J_iload X (pc := 126) dL_isRefused_126 4 rfl ?_
                  refine J_iconst X (pc := 128) (v := -1) dL_isRefused_128 (by decide +kernel) ?_
                  refine J_iconst X (pc := 129) (v := -1) dL_isRefused_129 (by decide +kernel) ?_
                  replace g33 := bk g33
                  obtain ⟨r57, g54, g33⟩ := g33
                  refine P_x_setRule X XX XN (pc := 130) g54 hT51 ⟨Nat.le_of_ble_eq_true rfl, Nat.le_of_ble_eq_true rfl⟩ (Nat.le_of_ble_eq_true rfl) ⟨(show 14 ≤ 54 from by omega), (show 84 ≤ 324 from by omega)⟩ dL_isRefused_130 (fun T55 hT56 => ?_)
                  refine J_sipush X (pc := 133) (v := -971) dL_isRefused_133 (by decide +kernel) ?_
                  refine J_icmp_ne X (pc := 136) 261 dL_isRefused_136 (by decide) (fun c58 => ?_) (fun c58 => ?_)
                  · rw [if_neg c58] at g33
                    refine J_iconst X (pc := 261) (v := 0) dL_isRefused_261 (by decide +kernel) ?_
                    replace g33 := Option.some.inj g33
                    subst g33
                    refine J_widen (k2 := 19) (n2 := 114) (by omega) (by omega) ?_
                    exact J_sub [0, 1, 3, 4, 5] rfl (j32 _ hT56)
                  · rw [if_pos c58] at g33
                    refine J_aload_n X (pc := 139) dL_isRefused_139 0 rfl ?_
                    refine J_iload_n X (pc := 140) dL_isRefused_140 3 rfl ?_
                    refine J_iload X (pc := 141) dL_isRefused_141 4 rfl ?_
                    replace g33 := bk g33
                    obtain ⟨r62, g59, g33⟩ := g33
                    refine P_slope X XX XN (pc := 143) g59 hT56 ⟨Nat.le_of_ble_eq_true rfl, Nat.le_of_ble_eq_true rfl⟩ (Nat.le_of_ble_eq_true rfl) ⟨(show 15 ≤ 54 from by omega), (show 90 ≤ 324 from by omega)⟩ dL_isRefused_143 (fun T60 hT61 => ?_)
                    refine J_ldc X (pc := 146) dL_isRefused_146 q_488 ?_
                    refine J_icmp_ne X (pc := 148) 261 dL_isRefused_148 (by decide) (fun c63 => ?_) (fun c63 => ?_)
                    · rw [if_neg c63] at g33
                      refine J_iconst X (pc := 261) (v := 0) dL_isRefused_261 (by decide +kernel) ?_
                      replace g33 := Option.some.inj g33
                      subst g33
                      refine J_widen (k2 := 19) (n2 := 114) (by omega) (by omega) ?_
                      exact J_sub [0, 1, 3, 4, 5] rfl (j32 _ hT61)
                    · rw [if_pos c63] at g33
                      refine J_aload_n X (pc := 151) dL_isRefused_151 0 rfl ?_
                      refine J_iconst X (pc := 152) (v := 4) dL_isRefused_152 (by decide +kernel) ?_
                      refine J_iload_n X (pc := 153) dL_isRefused_153 3 rfl ?_
                      replace g33 := bk g33
                      obtain ⟨r65, g69, g33⟩ := g33
                      have j68 : ∀ T0, RlT T0 O → J E x (15) (90) (pw E al ad L T0) 173 [(0, .ref (ad.1 0)), (1, .ref (al 3)), (2, .int a3), (3, .int r2), (4, .int r8), (5, .long r17)] [.int r65, .int ((4 : Int32)), .ref (ad.1 0)] := by
                        intro T66 hT67
                        refine J_iconst X (pc := 173) (v := 0) dL_isRefused_173 (by decide +kernel) ?_
                        replace g33 := bk g33
                        obtain ⟨r73, g70, g33⟩ := g33
                        refine P_x_pass X XX XN (pc := 174) g70 hT67 ⟨Nat.le_of_ble_eq_true rfl, Nat.le_of_ble_eq_true rfl⟩ (Nat.le_of_ble_eq_true rfl) ⟨(show 16 ≤ 54 from by omega), (show 96 ≤ 324 from by omega)⟩ dL_isRefused_174 (fun T71 hT72 => ?_)
                        refine J_sipush X (pc := 177) (v := -972) dL_isRefused_177 (by decide +kernel) ?_
                        refine J_icmp_ne X (pc := 180) 261 dL_isRefused_180 (by decide) (fun c74 => ?_) (fun c74 => ?_)
                        · rw [if_neg c74] at g33
                          refine J_iconst X (pc := 261) (v := 0) dL_isRefused_261 (by decide +kernel) ?_
                          replace g33 := Option.some.inj g33
                          subst g33
                          refine J_widen (k2 := 19) (n2 := 114) (by omega) (by omega) ?_
                          exact J_sub [0, 1, 3, 4, 5] rfl (j32 _ hT72)
                        · rw [if_pos c74] at g33
                          refine J_aload_n X (pc := 183) dL_isRefused_183 0 rfl ?_
                          refine J_bipush X (pc := 184) (v := 6) dL_isRefused_184 (by decide +kernel) ?_
                          refine J_iload_n X (pc := 186) dL_isRefused_186 3 rfl ?_
                          replace g33 := bk g33
                          obtain ⟨r76, g80, g33⟩ := g33
                          have j79 : ∀ T0, RlT T0 O → J E x (16) (96) (pw E al ad L T0) 204 [(0, .ref (ad.1 0)), (1, .ref (al 3)), (2, .int a3), (3, .int r2), (4, .int r8), (5, .long r17)] [.int r76, .int ((6 : Int32)), .ref (ad.1 0)] := by
                            intro T77 hT78
                            refine J_iconst X (pc := 204) (v := 0) dL_isRefused_204 (by decide +kernel) ?_
                            replace g33 := bk g33
                            obtain ⟨r85, g82, g33⟩ := g33
                            refine P_x_poolFull X XX XN (pc := 205) g82 hT78 ⟨Nat.le_of_ble_eq_true rfl, Nat.le_of_ble_eq_true rfl⟩ (Nat.le_of_ble_eq_true rfl) ⟨(show 17 ≤ 54 from by omega), (show 102 ≤ 324 from by omega)⟩ dL_isRefused_205 (fun T83 hT84 => ?_)
                            refine J_sipush X (pc := 208) (v := -972) dL_isRefused_208 (by decide +kernel) ?_
                            refine J_icmp_ne X (pc := 211) 261 dL_isRefused_211 (by decide) (fun c86 => ?_) (fun c86 => ?_)
                            · rw [if_neg c86] at g33
                              refine J_iconst X (pc := 261) (v := 0) dL_isRefused_261 (by decide +kernel) ?_
                              replace g33 := Option.some.inj g33
                              subst g33
                              refine J_widen (k2 := 19) (n2 := 114) (by omega) (by omega) ?_
                              exact J_sub [0, 1, 3, 4, 5] rfl (j32 _ hT84)
                            · rw [if_pos c86] at g33
                              refine J_aload_n X (pc := 214) dL_isRefused_214 0 rfl ?_
                              refine J_bipush X (pc := 215) (v := 6) dL_isRefused_215 (by decide +kernel) ?_
                              refine J_iconst X (pc := 217) (v := -1) dL_isRefused_217 (by decide +kernel) ?_
                              refine J_iload_n X (pc := 218) dL_isRefused_218 2 rfl ?_
                              refine J_bipush X (pc := 219) (v := 30) dL_isRefused_219 (by decide +kernel) ?_
                              refine J_irem X (pc := 221) dL_isRefused_221 (by decide +kernel) ?_
                              refine J_isub X (pc := 222) dL_isRefused_222 ?_
                              refine J_iconst X (pc := 223) (v := 0) dL_isRefused_223 (by decide +kernel) ?_
                              replace g33 := bk g33
                              obtain ⟨r90, g87, g33⟩ := g33
                              refine P_x_poolFull X XX XN (pc := 224) g87 hT84 ⟨Nat.le_of_ble_eq_true rfl, Nat.le_of_ble_eq_true rfl⟩ (Nat.le_of_ble_eq_true rfl) ⟨(show 18 ≤ 54 from by omega), (show 108 ≤ 324 from by omega)⟩ dL_isRefused_224 (fun T88 hT89 => ?_)
                              refine J_sipush X (pc := 227) (v := -972) dL_isRefused_227 (by decide +kernel) ?_
                              refine J_icmp_ne X (pc := 230) 261 dL_isRefused_230 (by decide) (fun c91 => ?_) (fun c91 => ?_)
                              · rw [if_neg c91] at g33
                                refine J_iconst X (pc := 261) (v := 0) dL_isRefused_261 (by decide +kernel) ?_
                                replace g33 := Option.some.inj g33
                                subst g33
                                refine J_widen (k2 := 19) (n2 := 114) (by omega) (by omega) ?_
                                exact J_sub [0, 1, 3, 4, 5] rfl (j32 _ hT89)
                              · rw [if_pos c91] at g33
                                refine J_aload_n X (pc := 233) dL_isRefused_233 0 rfl ?_
                                refine P_today X (pc := 234) hT89 ⟨Nat.le_of_ble_eq_true rfl, Nat.le_of_ble_eq_true rfl⟩ (Nat.le_of_ble_eq_true rfl) ⟨(show 18 ≤ 54 from by omega), (show 108 ≤ 324 from by omega)⟩ dL_isRefused_234 ?_
                                refine J_sipush X (pc := 237) (v := 1901) dL_isRefused_237 (by decide +kernel) ?_
                                refine J_icmp_lt X (pc := 240) 257 dL_isRefused_240 (by decide) (fun c92 => ?_) (fun c92 => ?_)
                                · rw [if_pos c92] at g33
                                  refine J_iconst X (pc := 257) (v := 1) dL_isRefused_257 (by decide +kernel) ?_
                                  refine J_goto X (pc := 258) 262 dL_isRefused_258 (by decide) ?_
                                  replace g33 := Option.some.inj g33
                                  subst g33
                                  refine J_widen (k2 := 19) (n2 := 114) (by omega) (by omega) ?_
                                  exact J_sub [0, 1, 3, 4, 5] rfl (j32 _ hT89)
                                · rw [if_neg c92] at g33
                                  refine J_aload_n X (pc := 243) dL_isRefused_243 0 rfl ?_
                                  refine J_iconst X (pc := 244) (v := 4) dL_isRefused_244 (by decide +kernel) ?_
                                  refine J_bipush X (pc := 245) (v := 100) dL_isRefused_245 (by decide +kernel) ?_
                                  refine J_iconst X (pc := 247) (v := 0) dL_isRefused_247 (by decide +kernel) ?_
                                  replace g33 := bk g33
                                  obtain ⟨r96, g93, g33⟩ := g33
                                  refine P_x_pass X XX XN (pc := 248) g93 hT89 ⟨Nat.le_of_ble_eq_true rfl, Nat.le_of_ble_eq_true rfl⟩ (Nat.le_of_ble_eq_true rfl) ⟨(show 19 ≤ 54 from by omega), (show 114 ≤ 324 from by omega)⟩ dL_isRefused_248 (fun T94 hT95 => ?_)
                                  refine J_sipush X (pc := 251) (v := -973) dL_isRefused_251 (by decide +kernel) ?_
                                  refine J_icmp_ne X (pc := 254) 261 dL_isRefused_254 (by decide) (fun c97 => ?_) (fun c97 => ?_)
                                  · rw [if_neg c97] at g33
                                    refine J_iconst X (pc := 261) (v := 0) dL_isRefused_261 (by decide +kernel) ?_
                                    replace g33 := Option.some.inj g33
                                    subst g33
                                    refine J_widen (k2 := 19) (n2 := 114) (by omega) (by omega) ?_
                                    exact J_sub [0, 1, 3, 4, 5] rfl (j32 _ hT95)
                                  · rw [if_pos c97] at g33
                                    refine J_iconst X (pc := 257) (v := 1) dL_isRefused_257 (by decide +kernel) ?_
                                    refine J_goto X (pc := 258) 262 dL_isRefused_258 (by decide) ?_
                                    replace g33 := Option.some.inj g33
                                    subst g33
                                    refine J_widen (k2 := 19) (n2 := 114) (by omega) (by omega) ?_
                                    exact J_sub [0, 1, 3, 4, 5] rfl (j32 _ hT95)
                          refine J_if_eq X (pc := 187) 194 dL_isRefused_187 (by decide) (fun c75 => ?_) (fun c75 => ?_)
                          · rw [if_pos c75] at g80
                            refine J_iconst X (pc := 194) (v := 1) dL_isRefused_194 (by decide +kernel) ?_
                            refine J_aload_n X (pc := 195) dL_isRefused_195 1 rfl ?_
                            refine J_iconst X (pc := 196) (v := 0) dL_isRefused_196 (by decide +kernel) ?_
                            replace g80 := ck_e g80
                            obtain ⟨b81, g80⟩ := g80
                            refine J_iald X (pc := 197) 3 pw_c3 b81 dL_isRefused_197 ?_
                            refine J_iload_n X (pc := 198) dL_isRefused_198 2 rfl ?_
                            refine J_bipush X (pc := 199) (v := 9) dL_isRefused_199 (by decide +kernel) ?_
                            refine J_irem X (pc := 201) dL_isRefused_201 (by decide +kernel) ?_
                            refine J_iadd X (pc := 202) dL_isRefused_202 ?_
                            refine J_ishl X (pc := 203) dL_isRefused_203 ?_
                            replace g80 := Option.some.inj g80
                            subst g80
                            exact J_sub [0, 1, 2, 3, 4, 5] rfl (j79 _ hT72)
                          · rw [if_neg c75] at g80
                            refine J_iconst X (pc := 190) (v := 0) dL_isRefused_190 (by decide +kernel) ?_
                            refine J_goto X (pc := 191) 204 dL_isRefused_191 (by decide) ?_
                            replace g80 := Option.some.inj g80
                            subst g80
                            exact J_sub [0, 1, 2, 3, 4, 5] rfl (j79 _ hT72)
                      refine J_if_eq X (pc := 154) 166 dL_isRefused_154 (by decide) (fun c64 => ?_) (fun c64 => ?_)
                      · rw [if_pos c64] at g69
                        refine J_bipush X (pc := 166) (v := 101) dL_isRefused_166 (by decide +kernel) ?_
                        refine J_iload_n X (pc := 168) dL_isRefused_168 2 rfl ?_
                        refine J_bipush X (pc := 169) (v := 30) dL_isRefused_169 (by decide +kernel) ?_
                        refine J_irem X (pc := 171) dL_isRefused_171 (by decide +kernel) ?_
                        refine J_iadd X (pc := 172) dL_isRefused_172 ?_
                        replace g69 := Option.some.inj g69
                        subst g69
                        exact J_sub [0, 1, 2, 3, 4, 5] rfl (j68 _ hT61)
                      · rw [if_neg c64] at g69
                        refine J_iconst X (pc := 157) (v := 0) dL_isRefused_157 (by decide +kernel) ?_
                        refine J_iload_n X (pc := 158) dL_isRefused_158 2 rfl ?_
                        refine J_bipush X (pc := 159) (v := 30) dL_isRefused_159 (by decide +kernel) ?_
                        refine J_irem X (pc := 161) dL_isRefused_161 (by decide +kernel) ?_
                        refine J_isub X (pc := 162) dL_isRefused_162 ?_
                        refine J_goto X (pc := 163) 173 dL_isRefused_163 (by decide) ?_
                        replace g69 := Option.some.inj g69
                        subst g69
                        exact J_sub [0, 1, 2, 3, 4, 5] rfl (j68 _ hT61)
      refine J_if_eq X (pc := 45) 57 dL_isRefused_45 (by decide) (fun c18 => ?_) (fun c18 => ?_)
      · rw [if_pos c18] at g23
        refine J_ldc X (pc := 57) dL_isRefused_57 q_530 ?_
        replace g23 := Option.some.inj g23
        subst g23
        exact J_sub [2, 3, 4, 5, 1, 0] rfl (j22 _ hT16)
      · rw [if_neg c18] at g23
        refine J_iconst X (pc := 48) (v := 0) dL_isRefused_48 (by decide +kernel) ?_
        refine J_iload_n X (pc := 49) dL_isRefused_49 4 rfl ?_
        refine J_bipush X (pc := 50) (v := 30) dL_isRefused_50 (by decide +kernel) ?_
        refine J_irem X (pc := 52) dL_isRefused_52 (by decide +kernel) ?_
        refine J_isub X (pc := 53) dL_isRefused_53 ?_
        refine J_goto X (pc := 54) 59 dL_isRefused_54 (by decide) ?_
        replace g23 := Option.some.inj g23
        subst g23
        exact J_sub [2, 3, 4, 5, 1, 0] rfl (j22 _ hT16)
    refine J_if_eq X (pc := 13) 25 dL_isRefused_13 (by decide) (fun c7 => ?_) (fun c7 => ?_)
    · rw [if_pos c7] at g12
      refine J_aload_n X (pc := 25) dL_isRefused_25 2 rfl ?_
      refine J_iconst X (pc := 26) (v := 0) dL_isRefused_26 (by decide +kernel) ?_
      replace g12 := ck_e g12
      obtain ⟨b13, g12⟩ := g12
      refine J_iald X (pc := 27) 3 pw_c3 b13 dL_isRefused_27 ?_
      refine J_iload_n X (pc := 28) dL_isRefused_28 3 rfl ?_
      refine J_bipush X (pc := 29) (v := 30) dL_isRefused_29 (by decide +kernel) ?_
      refine J_irem X (pc := 31) dL_isRefused_31 (by decide +kernel) ?_
      refine J_iadd X (pc := 32) dL_isRefused_32 ?_
      replace g12 := Option.some.inj g12
      subst g12
      exact J_sub [1, 2, 3, 0] rfl (j11 _ hT4)
    · rw [if_neg c7] at g12
      refine J_iconst X (pc := 16) (v := -1) dL_isRefused_16 (by decide +kernel) ?_
      refine J_iload_n X (pc := 17) dL_isRefused_17 3 rfl ?_
      refine J_bipush X (pc := 18) (v := 30) dL_isRefused_18 (by decide +kernel) ?_
      refine J_irem X (pc := 20) dL_isRefused_20 (by decide +kernel) ?_
      refine J_isub X (pc := 21) dL_isRefused_21 ?_
      refine J_goto X (pc := 22) 33 dL_isRefused_22 (by decide) ?_
      replace g12 := Option.some.inj g12
      subst g12
      exact J_sub [1, 2, 3, 0] rfl (j11 _ hT4)
  refine J_if_ne X (pc := 3) 10 dL_isRefused_3 (by decide) (fun c1 => ?_) (fun c1 => ?_)
  · rw [if_neg c1] at g6
    refine J_iconst X (pc := 10) (v := 0) dL_isRefused_10 (by decide +kernel) ?_
    replace g6 := Option.some.inj g6
    subst g6
    exact J_sub [0, 1, 2] rfl (j5 _ hT)
  · rw [if_pos c1] at g6
    refine J_iconst X (pc := 6) (v := 1) dL_isRefused_6 (by decide +kernel) ?_
    refine J_goto X (pc := 7) 11 dL_isRefused_7 (by decide) ?_
    replace g6 := Option.some.inj g6
    subst g6
    exact J_sub [0, 1, 2] rfl (j5 _ hT)
