set_option maxRecDepth 100000 in
set_option maxHeartbeats 4000000 in
theorem c_size (E : Ev) (li e : Nat) (m c : Int32) : CtI E yJx4a65c_size_8abf5 cJx4a65c_size_8abf5 1 .int 0 0 [(li, .inr (0, [.int m, .ref e, .int c]))] [.ref li] c [(li, .inr (0, [.int m, .ref e, .int c]))] := by
  refine CtI_of (by decide +kernel) (Nat.le_of_ble_eq_true rfl) (fun x X hE => ?_)
  show J E x 0 0 _ 0 [(0, .ref li)] []
  refine J_aload_n X (pc := 0) dJx4a65c_size_8abf5_0 0 rfl ?_
  refine J_getf X (pc := 1) 0 rfl rfl in_Jx4a65c 2 (by decide) q_276 rfl dJx4a65c_size_8abf5_1 ?_
  exact hE _ _ dJx4a65c_size_8abf5_4 rfl
set_option maxRecDepth 100000 in
set_option maxHeartbeats 4000000 in
theorem c_chk3 (E : Ev) (w : va_W) (i c : Int32) (h0 : ¬ i < 0) (h1 : i < c) : CtI E yJ3_checkIndex_8e157 cJ3_checkIndex_8e157 3 .int 0 0 w [.int i, .int c, .null] i w := by
  refine CtI_of (by decide +kernel) (Nat.le_of_ble_eq_true rfl) (fun x X hE => ?_)
  show J E x 0 0 _ 0 [(0, .int i), (1, .int c), (2, .null)] []
  refine J_iload_n X (pc := 0) dJ3_checkIndex_8e157_0 0 rfl ?_
  refine J_if_lt X (pc := 1) 9 dJ3_checkIndex_8e157_1 (by decide) (fun c1 => absurd c1 h0) (fun c1 => ?_)
  refine J_iload_n X (pc := 4) dJ3_checkIndex_8e157_4 0 rfl ?_
  refine J_iload_n X (pc := 5) dJ3_checkIndex_8e157_5 1 rfl ?_
  refine J_icmp_lt X (pc := 6) 16 dJ3_checkIndex_8e157_6 (by decide) (fun c1 => ?_) (fun c1 => absurd h1 c1)
  refine J_iload_n X (pc := 16) dJ3_checkIndex_8e157_16 0 rfl ?_
  exact hE _ _ dJ3_checkIndex_8e157_17 rfl
set_option maxRecDepth 100000 in
set_option maxHeartbeats 4000000 in
theorem c_chk (E : Ev) (w : va_W) (i c : Int32) (h0 : ¬ i < 0) (h1 : i < c) : CtI E yJ15_checkIndex_7cf53 cJ15_checkIndex_7cf53 2 .int 1 22 w [.int i, .int c] i w := by
  refine CtI_of (by decide +kernel) (Nat.le_of_ble_eq_true rfl) (fun x X hE => ?_)
  show J E x 0 0 _ 0 [(0, .int i), (1, .int c)] []
  refine J_iload_n X (pc := 0) dJ15_checkIndex_7cf53_0 0 rfl ?_
  refine J_iload_n X (pc := 1) dJ15_checkIndex_7cf53_1 1 rfl ?_
  refine J_null X (pc := 2) dJ15_checkIndex_7cf53_2 ?_
  refine J_callSI X (pc := 3) (y := yJ3_checkIndex_8e157) (na := 3) (As := [.int i, .int c, .null]) (rest := []) (c_chk3 E w i c h0 h1) q_339 q_340 q_341 q_337 rfl (by decide +kernel) (by decide +kernel) rfl (Nat.le_of_ble_eq_true rfl) ⟨Nat.le_refl _, Nat.le_refl _⟩ dJ15_checkIndex_7cf53_3 ?_
  exact hE _ _ dJ15_checkIndex_7cf53_6 rfl
set_option maxRecDepth 100000 in
set_option maxHeartbeats 4000000 in
theorem c_eld (E : Ev) (li ar N b : Nat) (m c i : Int32) (f : Nat → Option Nat) (hi : inb i N) (hf : f i.toNatClampNeg = some b) : CtR E yJx4a65c_elementData_915e3 cJx4a65c_elementData_915e3 2 (.object "java/lang/Object") 0 0 0 0 [(li, .inr (0, [.int m, .ref ar, .int c])), (ar, .inl (E.2.2 2, N, .inr (.inr (.inr (.inr f)))))] [.ref li, .int i] (fun (_ : Unit) => b) (fun _ => True) (fun _ => [(li, .inr (0, [.int m, .ref ar, .int c])), (ar, .inl (E.2.2 2, N, .inr (.inr (.inr (.inr f)))))]) := by
  refine CtR_of (by decide +kernel) (Nat.le_of_ble_eq_true rfl) (fun x X _ hE => ?_)
  show J E x 0 0 _ 0 [(0, .ref li), (1, .int i)] []
  refine J_aload_n X (pc := 0) dJx4a65c_elementData_915e3_0 0 rfl ?_
  refine J_getf X (pc := 1) 0 rfl rfl in_Jx4a65c 1 (by decide) q_259 rfl dJx4a65c_elementData_915e3_1 ?_
  refine J_iload_n X (pc := 4) dJx4a65c_elementData_915e3_4 1 rfl ?_
  refine J_aald X (pc := 5) 1 rfl hi hf dJx4a65c_elementData_915e3_5 ?_
  exact hE () trivial _ _ dJx4a65c_elementData_915e3_6 (Or.inl ⟨_, rfl⟩)
set_option maxRecDepth 100000 in
set_option maxHeartbeats 4000000 in
theorem c_get (E : Ev) (li ar N b : Nat) (m c i : Int32) (f : Nat → Option Nat) (h0 : ¬ i < 0) (h1 : i < c) (hi : inb i N) (hf : f i.toNatClampNeg = some b) : CtR E yJx4a65c_get_915e3 cJx4a65c_get_915e3 2 (.object "java/lang/Object") 2 43 0 0 [(li, .inr (0, [.int m, .ref ar, .int c])), (ar, .inl (E.2.2 2, N, .inr (.inr (.inr (.inr f)))))] [.ref li, .int i] (fun (_ : Unit) => b) (fun _ => True) (fun _ => [(li, .inr (0, [.int m, .ref ar, .int c])), (ar, .inl (E.2.2 2, N, .inr (.inr (.inr (.inr f)))))]) := by
  refine CtR_of (by decide +kernel) (Nat.le_of_ble_eq_true rfl) (fun x X _ hE => ?_)
  show J E x 0 0 _ 0 [(0, .ref li), (1, .int i)] []
  refine J_iload_n X (pc := 0) dJx4a65c_get_915e3_0 1 rfl ?_
  refine J_aload_n X (pc := 1) dJx4a65c_get_915e3_1 0 rfl ?_
  refine J_getf X (pc := 2) 0 rfl rfl in_Jx4a65c 2 (by decide) q_276 rfl dJx4a65c_get_915e3_2 ?_
  refine J_callSI X (pc := 5) (y := yJ15_checkIndex_7cf53) (na := 2) (As := [.int i, .int c]) (rest := []) (c_chk E _ i c h0 h1) q_344 q_345 q_346 q_338 rfl (by decide +kernel) (by decide +kernel) rfl (Nat.le_of_ble_eq_true rfl) ⟨Nat.le_refl _, Nat.le_refl _⟩ dJx4a65c_get_915e3_5 ?_
  refine J_pop X (pc := 8) dJx4a65c_get_915e3_8 rfl ?_
  refine J_aload_n X (pc := 9) dJx4a65c_get_915e3_9 0 rfl ?_
  refine J_iload_n X (pc := 10) dJx4a65c_get_915e3_10 1 rfl ?_
  refine J_callF0R (w1 := [(li, .inr (0, [.int m, .ref ar, .int c])), (ar, .inl (E.2.2 2, N, .inr (.inr (.inr (.inr f)))))]) (rw := []) X (pc := 11) (y := yJx4a65c_elementData_915e3) (na := 1) (As := [.int i]) (rest := []) (c_eld E li ar N b m c i f hi hf) 0 rfl rfl q_347 q_348 q_349 q_267 q_342 rfl (by decide +kernel) (by decide +kernel) rfl (Nat.le_of_ble_eq_true rfl) ⟨Nat.le_refl _, Nat.le_refl _⟩ dJx4a65c_get_915e3_11 (fun _ _ => ?_)
  exact hE () trivial _ _ dJx4a65c_get_915e3_14 (Or.inl ⟨_, rfl⟩)
set_option maxRecDepth 100000 in
set_option maxHeartbeats 4000000 in
theorem c_growI (E : Ev) (li : Nat) (m : Int32) : CtXR E yJx4a65c_grow_92f84 cJx4a65c_grow_92f84 4 (.array (.object "java/lang/Object")) 1 14 1 10 [(li, .inr (0, [.int m, .ref (E.2.2 9), .int 0]))] [.ref li, .int 1] (fun u => u) (fun _ => True) (fun (u : Nat) => [(li, .inr (0, [.int m, .ref u, .int 0])), (u, .inl (E.2.2 2, 10, .inr (.inr (.inr (.inr (fun _ => none))))))]) := by
  refine CtXR_of (by decide +kernel) (Nat.le_of_ble_eq_true rfl) (fun x X XX _ hE => ?_)
  show J E x 0 0 [(li, .inr (0, [.int m, .ref (E.2.2 9), .int 0]))] 0 [(0, .ref li), (1, .int 1)] []
  refine J_aload_n X (pc := 0) dJx4a65c_grow_92f84_0 0 rfl ?_
  refine J_getf X (pc := 1) 0 rfl rfl in_Jx4a65c 1 (by decide) q_259 rfl dJx4a65c_grow_92f84_1 ?_
  refine J_tlen X XX (pc := 4) dJx4a65c_grow_92f84_4 ?_
  refine J_istore_n X (pc := 5) dJx4a65c_grow_92f84_5 (by decide) rfl ?_
  refine J_iload_n X (pc := 6) dJx4a65c_grow_92f84_6 0 rfl ?_
  refine J_if_gt X (pc := 7) 20 dJx4a65c_grow_92f84_7 (by decide) (fun c1 => absurd c1 (by decide)) (fun c1 => ?_)
  refine J_aload_n X (pc := 10) dJx4a65c_grow_92f84_10 1 rfl ?_
  refine J_getf X (pc := 11) 0 rfl rfl in_Jx4a65c 1 (by decide) q_259 rfl dJx4a65c_grow_92f84_11 ?_
  refine J_gets X XX (pc := 14) q_258 dJx4a65c_grow_92f84_14 ?_
  refine J_acmp_eqT X (pc := 17) 45 dJx4a65c_grow_92f84_17 (by decide) ?_
  refine J_aload_n X (pc := 45) dJx4a65c_grow_92f84_45 1 rfl ?_
  refine J_bipush X (pc := 46) (v := 10) dJx4a65c_grow_92f84_46 (by decide +kernel) ?_
  refine J_iload_n X (pc := 48) dJx4a65c_grow_92f84_48 2 rfl ?_
  refine J_mmax X (pc := 49) q_300 q_214 q_32 q_215 (Nat.le_of_ble_eq_true rfl) (Nat.le_of_ble_eq_true rfl) (Nat.zero_le _) (Nat.zero_le _) dJx4a65c_grow_92f84_49 ?_
  refine J_newq X XX (pc := 52) (N := 10) q_301 (by decide) (by decide) (Nat.le_of_ble_eq_true rfl) (Nat.le_of_ble_eq_true rfl) (Nat.le_of_ble_eq_true rfl) dJx4a65c_grow_92f84_52 (fun u => ?_)
  refine J_dup_x1 X (pc := 55) dJx4a65c_grow_92f84_55 rfl rfl ?_
  refine J_putf X (pc := 56) (ty := .array (.object "java/lang/Object")) (w1 := [(li, .inr (0, [.int m, .ref u, .int 0])), (u, .inl (E.2.2 2, 10, .inr (.inr (.inr (.inr (fun _ => none))))))]) 0 rfl rfl in_Jx4a65c tyJx4a65c_ok nmJx4a65c 1 (by decide) q_259 rfl (by decide +kernel) rfl rfl (Nat.le_of_ble_eq_true rfl) dJx4a65c_grow_92f84_56 rfl ?_
  exact hE u trivial _ _ dJx4a65c_grow_92f84_59 (Or.inr ⟨_, rfl⟩)
set_option maxRecDepth 100000 in
set_option maxHeartbeats 4000000 in
theorem c_grow (E : Ev) (li : Nat) (m : Int32) : CtXR E yJx4a65c_grow_d5877 cJx4a65c_grow_d5877 1 (.array (.object "java/lang/Object")) 2 37 1 10 [(li, .inr (0, [.int m, .ref (E.2.2 9), .int 0]))] [.ref li] (fun u => u) (fun _ => True) (fun (u : Nat) => [(li, .inr (0, [.int m, .ref u, .int 0])), (u, .inl (E.2.2 2, 10, .inr (.inr (.inr (.inr (fun _ => none))))))]) := by
  refine CtXR_of (by decide +kernel) (Nat.le_of_ble_eq_true rfl) (fun x X XX _ hE => ?_)
  show J E x 0 0 [(li, .inr (0, [.int m, .ref (E.2.2 9), .int 0]))] 0 [(0, .ref li)] []
  refine J_aload_n X (pc := 0) dJx4a65c_grow_d5877_0 0 rfl ?_
  refine J_aload_n X (pc := 1) dJx4a65c_grow_d5877_1 0 rfl ?_
  refine J_getf X (pc := 2) 0 rfl rfl in_Jx4a65c 2 (by decide) q_276 rfl dJx4a65c_grow_d5877_2 ?_
  refine J_iconst X (pc := 5) (v := 1) dJx4a65c_grow_d5877_5 (by decide +kernel) ?_
  refine J_iadd X (pc := 6) dJx4a65c_grow_d5877_6 ?_
  refine J_nmi (v := 1) (by decide) ?_
  refine J_callFXR (w1 := [(li, .inr (0, [.int m, .ref (E.2.2 9), .int 0]))]) (rw := []) X XX (pc := 7) (y := yJx4a65c_grow_92f84) (na := 1) (As := [.int 1]) (rest := []) (c_growI E li m) 0 rfl rfl q_307 q_308 q_309 q_267 q_306 rfl (by decide +kernel) (by decide +kernel) rfl (Nat.le_of_ble_eq_true rfl) ⟨Nat.le_of_ble_eq_true rfl, Nat.le_of_ble_eq_true rfl⟩ dJx4a65c_grow_d5877_7 (fun u _ => ?_)
  exact hE u trivial _ _ dJx4a65c_grow_d5877_10 (Or.inr ⟨_, rfl⟩)
set_option maxRecDepth 100000 in
set_option maxHeartbeats 4000000 in
theorem c_addA (E : Ev) (li st : Nat) (m : Int32) (fs : List Value) : CtXV E yJx4a65c_add_72be8 cJx4a65c_add_72be8 4 3 57 1 10 [(li, .inr (0, [.int m, .ref (E.2.2 9), .int 0])), (st, .inr (6, fs))] [.ref li, .ref st, .ref (E.2.2 9), .int 0] (fun _ => True) (fun (u : Nat) => [(li, .inr (0, [.int m, .ref u, .int 1])), (u, .inl (E.2.2 2, 10, .inr (.inr (.inr (.inr (va_up (fun _ => none) 0 (some st))))))), (st, .inr (6, fs))]) := by
  refine CtXV_of (by decide +kernel) (Nat.le_of_ble_eq_true rfl) (fun x X XX _ hE => ?_)
  show J E x 0 0 [(li, .inr (0, [.int m, .ref (E.2.2 9), .int 0])), (st, .inr (6, fs))] 0 [(0, .ref li), (1, .ref st), (2, .ref (E.2.2 9)), (3, .int 0)] []
  refine J_iload_n X (pc := 0) dJx4a65c_add_72be8_0 3 rfl ?_
  refine J_aload_n X (pc := 1) dJx4a65c_add_72be8_1 2 rfl ?_
  refine J_tlen X XX (pc := 2) dJx4a65c_add_72be8_2 ?_
  refine J_icmp_ne X (pc := 3) 11 dJx4a65c_add_72be8_3 (by decide) (fun c1 => absurd rfl c1) (fun c1 => ?_)
  refine J_aload_n X (pc := 6) dJx4a65c_add_72be8_6 0 rfl ?_
  refine J_callFXR (w1 := [(li, .inr (0, [.int m, .ref (E.2.2 9), .int 0]))]) (rw := [(st, .inr (6, fs))]) X XX (pc := 7) (y := yJx4a65c_grow_d5877) (na := 0) (As := []) (rest := []) (c_grow E li m) 0 rfl rfl q_311 q_312 q_313 q_267 q_310 rfl (by decide +kernel) (by decide +kernel) rfl (Nat.le_of_ble_eq_true rfl) ⟨Nat.le_of_ble_eq_true rfl, Nat.le_of_ble_eq_true rfl⟩ dJx4a65c_add_72be8_7 (fun u _ => ?_)
  show J E x 1 10 [(li, .inr (0, [.int m, .ref u, .int 0])), (u, .inl (E.2.2 2, 10, .inr (.inr (.inr (.inr (fun _ => none)))))), (st, .inr (6, fs))] 10 _ [.ref u]
  refine J_astore_n X (pc := 10) dJx4a65c_add_72be8_10 (by decide) rfl ?_
  refine J_aload_n X (pc := 11) dJx4a65c_add_72be8_11 0 rfl ?_
  refine J_iload_n X (pc := 12) dJx4a65c_add_72be8_12 3 rfl ?_
  refine J_aload_n X (pc := 13) dJx4a65c_add_72be8_13 2 rfl ?_
  refine J_aast X (pc := 14) (ci := 6) (w1 := [(li, .inr (0, [.int m, .ref u, .int 0])), (u, .inl (E.2.2 2, 10, .inr (.inr (.inr (.inr (va_up (fun _ => none) 0 (some st))))))), (st, .inr (6, fs))]) 1 2 rfl nq_25 rfl rfl (by decide) dJx4a65c_add_72be8_14 rfl ?_
  refine J_aload_n X (pc := 15) dJx4a65c_add_72be8_15 1 rfl ?_
  refine J_iload_n X (pc := 16) dJx4a65c_add_72be8_16 3 rfl ?_
  refine J_iconst X (pc := 17) (v := 1) dJx4a65c_add_72be8_17 (by decide +kernel) ?_
  refine J_iadd X (pc := 18) dJx4a65c_add_72be8_18 ?_
  refine J_nmi (v := 1) (by decide) ?_
  refine J_putf X (pc := 19) (ty := .int) (w1 := [(li, .inr (0, [.int m, .ref u, .int 1])), (u, .inl (E.2.2 2, 10, .inr (.inr (.inr (.inr (va_up (fun _ => none) 0 (some st))))))), (st, .inr (6, fs))]) 0 rfl rfl in_Jx4a65c tyJx4a65c_ok nmJx4a65c 2 (by decide) q_276 rfl (by decide +kernel) rfl rfl (Nat.le_of_ble_eq_true rfl) dJx4a65c_add_72be8_19 rfl ?_
  exact hE u trivial _ _ dJx4a65c_add_72be8_22
set_option maxRecDepth 100000 in
set_option maxHeartbeats 4000000 in
theorem c_addB (E : Ev) (li ar st : Nat) (m c : Int32) (f : Nat → Option Nat) (fs : List Value) (hc : inb c 10) (hne : ¬ c = 10) : CtXV E yJx4a65c_add_72be8 cJx4a65c_add_72be8 4 3 57 0 0 [(li, .inr (0, [.int m, .ref ar, .int c])), (ar, .inl (E.2.2 2, 10, .inr (.inr (.inr (.inr f))))), (st, .inr (6, fs))] [.ref li, .ref st, .ref ar, .int c] (fun (_ : Unit) => True) (fun _ => [(li, .inr (0, [.int m, .ref ar, .int (c + 1)])), (ar, .inl (E.2.2 2, 10, .inr (.inr (.inr (.inr (va_up f c.toNatClampNeg (some st))))))), (st, .inr (6, fs))]) := by
  refine CtXV_of (by decide +kernel) (Nat.le_of_ble_eq_true rfl) (fun x X XX _ hE => ?_)
  show J E x 0 0 [(li, .inr (0, [.int m, .ref ar, .int c])), (ar, .inl (E.2.2 2, 10, .inr (.inr (.inr (.inr f))))), (st, .inr (6, fs))] 0 [(0, .ref li), (1, .ref st), (2, .ref ar), (3, .int c)] []
  refine J_iload_n X (pc := 0) dJx4a65c_add_72be8_0 3 rfl ?_
  refine J_aload_n X (pc := 1) dJx4a65c_add_72be8_1 2 rfl ?_
  refine J_alen X (pc := 2) (t0 := 2) (v := 10) 1 rfl rfl rfl dJx4a65c_add_72be8_2 ?_
  refine J_icmp_ne X (pc := 3) 11 dJx4a65c_add_72be8_3 (by decide) (fun c1 => ?_) (fun c1 => absurd c1 hne)
  refine J_aload_n X (pc := 11) dJx4a65c_add_72be8_11 2 rfl ?_
  refine J_iload_n X (pc := 12) dJx4a65c_add_72be8_12 3 rfl ?_
  refine J_aload_n X (pc := 13) dJx4a65c_add_72be8_13 1 rfl ?_
  refine J_aast X (pc := 14) (ci := 6) (w1 := [(li, .inr (0, [.int m, .ref ar, .int c])), (ar, .inl (E.2.2 2, 10, .inr (.inr (.inr (.inr (va_up f c.toNatClampNeg (some st))))))), (st, .inr (6, fs))]) 1 2 rfl nq_25 rfl rfl hc dJx4a65c_add_72be8_14 rfl ?_
  refine J_aload_n X (pc := 15) dJx4a65c_add_72be8_15 0 rfl ?_
  refine J_iload_n X (pc := 16) dJx4a65c_add_72be8_16 3 rfl ?_
  refine J_iconst X (pc := 17) (v := 1) dJx4a65c_add_72be8_17 (by decide +kernel) ?_
  refine J_iadd X (pc := 18) dJx4a65c_add_72be8_18 ?_
  refine J_putf X (pc := 19) (ty := .int) (w1 := [(li, .inr (0, [.int m, .ref ar, .int (c + 1)])), (ar, .inl (E.2.2 2, 10, .inr (.inr (.inr (.inr (va_up f c.toNatClampNeg (some st))))))), (st, .inr (6, fs))]) 0 rfl rfl in_Jx4a65c tyJx4a65c_ok nmJx4a65c 2 (by decide) q_276 rfl (by decide +kernel) rfl rfl (Nat.le_of_ble_eq_true rfl) dJx4a65c_add_72be8_19 rfl ?_
  exact hE () trivial _ _ dJx4a65c_add_72be8_22
set_option maxRecDepth 100000 in
set_option maxHeartbeats 4000000 in
theorem c_add_A (E : Ev) (li st : Nat) (m : Int32) (fs : List Value) : CtXI E yJx4a65c_add_9ea2d cJx4a65c_add_9ea2d 2 .boolean 4 80 1 10 [(li, .inr (0, [.int m, .ref (E.2.2 9), .int 0])), (st, .inr (6, fs))] [.ref li, .ref st] 1 (fun _ => True) (fun (u : Nat) => [(li, .inr (0, [.int (m + 1), .ref u, .int 1])), (u, .inl (E.2.2 2, 10, .inr (.inr (.inr (.inr (va_up (fun _ => none) 0 (some st))))))), (st, .inr (6, fs))]) := by
  refine CtXI_of (by decide +kernel) (Nat.le_of_ble_eq_true rfl) (fun x X XX _ hE => ?_)
  show J E x 0 0 [(li, .inr (0, [.int m, .ref (E.2.2 9), .int 0])), (st, .inr (6, fs))] 0 [(0, .ref li), (1, .ref st)] []
  refine J_aload_n X (pc := 0) dJx4a65c_add_9ea2d_0 0 rfl ?_
  refine J_dup X (pc := 1) dJx4a65c_add_9ea2d_1 rfl ?_
  refine J_getfS X (pc := 2) 0 rfl rfl in_Jx4a65c 0 (by decide) q_315 q_316 rfl dJx4a65c_add_9ea2d_2 ?_
  refine J_iconst X (pc := 5) (v := 1) dJx4a65c_add_9ea2d_5 (by decide +kernel) ?_
  refine J_iadd X (pc := 6) dJx4a65c_add_9ea2d_6 ?_
  refine J_putfS X (pc := 7) (ty := .int) (w1 := [(li, .inr (0, [.int (m + 1), .ref (E.2.2 9), .int 0])), (st, .inr (6, fs))]) 0 rfl rfl in_Jx4a65c tyJx4a65c_ok nmJx4a65c 0 (by decide) q_315 q_316 rfl (by decide +kernel) rfl rfl (Nat.le_of_ble_eq_true rfl) dJx4a65c_add_9ea2d_7 rfl ?_
  refine J_aload_n X (pc := 10) dJx4a65c_add_9ea2d_10 0 rfl ?_
  refine J_aload_n X (pc := 11) dJx4a65c_add_9ea2d_11 1 rfl ?_
  refine J_aload_n X (pc := 12) dJx4a65c_add_9ea2d_12 0 rfl ?_
  refine J_getf X (pc := 13) 0 rfl rfl in_Jx4a65c 1 (by decide) q_259 rfl dJx4a65c_add_9ea2d_13 ?_
  refine J_aload_n X (pc := 16) dJx4a65c_add_9ea2d_16 0 rfl ?_
  refine J_getf X (pc := 17) 0 rfl rfl in_Jx4a65c 2 (by decide) q_276 rfl dJx4a65c_add_9ea2d_17 ?_
  refine J_callFXV (w1 := [(li, .inr (0, [.int (m + 1), .ref (E.2.2 9), .int 0])), (st, .inr (6, fs))]) (rw := []) X XX (pc := 20) (y := yJx4a65c_add_72be8) (na := 3) (As := [.ref st, .ref (E.2.2 9), .int 0]) (rest := []) (c_addA E li st (m + 1) fs) 0 rfl rfl q_317 q_318 q_319 q_267 q_314 rfl (by decide +kernel) (by decide +kernel) rfl (Nat.le_of_ble_eq_true rfl) ⟨Nat.le_of_ble_eq_true rfl, Nat.le_of_ble_eq_true rfl⟩ dJx4a65c_add_9ea2d_20 (fun u _ => ?_)
  refine J_iconst X (pc := 23) (v := 1) dJx4a65c_add_9ea2d_23 (by decide +kernel) ?_
  exact hE u trivial _ _ dJx4a65c_add_9ea2d_24 (by decide +kernel)
set_option maxRecDepth 100000 in
set_option maxHeartbeats 4000000 in
theorem c_add_B (E : Ev) (li ar st : Nat) (m c : Int32) (f : Nat → Option Nat) (fs : List Value) (hc : inb c 10) (hne : ¬ c = 10) : CtXI E yJx4a65c_add_9ea2d cJx4a65c_add_9ea2d 2 .boolean 4 80 0 0 [(li, .inr (0, [.int m, .ref ar, .int c])), (ar, .inl (E.2.2 2, 10, .inr (.inr (.inr (.inr f))))), (st, .inr (6, fs))] [.ref li, .ref st] 1 (fun (_ : Unit) => True) (fun _ => [(li, .inr (0, [.int (m + 1), .ref ar, .int (c + 1)])), (ar, .inl (E.2.2 2, 10, .inr (.inr (.inr (.inr (va_up f c.toNatClampNeg (some st))))))), (st, .inr (6, fs))]) := by
  refine CtXI_of (by decide +kernel) (Nat.le_of_ble_eq_true rfl) (fun x X XX _ hE => ?_)
  show J E x 0 0 [(li, .inr (0, [.int m, .ref ar, .int c])), (ar, .inl (E.2.2 2, 10, .inr (.inr (.inr (.inr f))))), (st, .inr (6, fs))] 0 [(0, .ref li), (1, .ref st)] []
  refine J_aload_n X (pc := 0) dJx4a65c_add_9ea2d_0 0 rfl ?_
  refine J_dup X (pc := 1) dJx4a65c_add_9ea2d_1 rfl ?_
  refine J_getfS X (pc := 2) 0 rfl rfl in_Jx4a65c 0 (by decide) q_315 q_316 rfl dJx4a65c_add_9ea2d_2 ?_
  refine J_iconst X (pc := 5) (v := 1) dJx4a65c_add_9ea2d_5 (by decide +kernel) ?_
  refine J_iadd X (pc := 6) dJx4a65c_add_9ea2d_6 ?_
  refine J_putfS X (pc := 7) (ty := .int) (w1 := [(li, .inr (0, [.int (m + 1), .ref ar, .int c])), (ar, .inl (E.2.2 2, 10, .inr (.inr (.inr (.inr f))))), (st, .inr (6, fs))]) 0 rfl rfl in_Jx4a65c tyJx4a65c_ok nmJx4a65c 0 (by decide) q_315 q_316 rfl (by decide +kernel) rfl rfl (Nat.le_of_ble_eq_true rfl) dJx4a65c_add_9ea2d_7 rfl ?_
  refine J_aload_n X (pc := 10) dJx4a65c_add_9ea2d_10 0 rfl ?_
  refine J_aload_n X (pc := 11) dJx4a65c_add_9ea2d_11 1 rfl ?_
  refine J_aload_n X (pc := 12) dJx4a65c_add_9ea2d_12 0 rfl ?_
  refine J_getf X (pc := 13) 0 rfl rfl in_Jx4a65c 1 (by decide) q_259 rfl dJx4a65c_add_9ea2d_13 ?_
  refine J_aload_n X (pc := 16) dJx4a65c_add_9ea2d_16 0 rfl ?_
  refine J_getf X (pc := 17) 0 rfl rfl in_Jx4a65c 2 (by decide) q_276 rfl dJx4a65c_add_9ea2d_17 ?_
  refine J_callFXV (w1 := [(li, .inr (0, [.int (m + 1), .ref ar, .int c])), (ar, .inl (E.2.2 2, 10, .inr (.inr (.inr (.inr f))))), (st, .inr (6, fs))]) (rw := []) X XX (pc := 20) (y := yJx4a65c_add_72be8) (na := 3) (As := [.ref st, .ref ar, .int c]) (rest := []) (c_addB E li ar st (m + 1) c f fs hc hne) 0 rfl rfl q_317 q_318 q_319 q_267 q_314 rfl (by decide +kernel) (by decide +kernel) rfl (Nat.le_of_ble_eq_true rfl) ⟨Nat.le_of_ble_eq_true rfl, Nat.le_of_ble_eq_true rfl⟩ dJx4a65c_add_9ea2d_20 (fun u _ => ?_)
  refine J_iconst X (pc := 23) (v := 1) dJx4a65c_add_9ea2d_23 (by decide +kernel) ?_
  exact hE () trivial _ _ dJx4a65c_add_9ea2d_24 (by decide +kernel)
set_option maxRecDepth 100000 in
set_option maxHeartbeats 4000000 in
theorem c_ac_init (E : Ev) (li : Nat) : CtC E yJxa1e45_init_da8c8 cJxa1e45_init_da8c8 1 1 12 0 0 [(li, .inr (0, [.int 0, .null, .int 0]))] [.ref li] (fun (_ : Unit) => True) (fun _ => [(li, .inr (0, [.int 0, .null, .int 0]))]) := by
  refine CtC_of (by decide +kernel) (Nat.le_of_ble_eq_true rfl) rfl (fun x X hin hE => ?_)
  show J E x 0 0 [(li, .inr (0, [.int 0, .null, .int 0]))] 0 [(0, .ref li)] []
  refine J_aload_n X (pc := 0) dJxa1e45_init_da8c8_0 0 rfl ?_
  refine J_objInit X (pc := 1) q_251 q_2 q_3 (by decide +kernel) (by decide +kernel) dJxa1e45_init_da8c8_1 ?_
  exact hE () trivial _ _ dJxa1e45_init_da8c8_4
set_option maxRecDepth 100000 in
set_option maxHeartbeats 4000000 in
theorem c_al_init (E : Ev) (li : Nat) : CtC E yJxc12de_init_da8c8 cJxc12de_init_da8c8 1 2 32 0 0 [(li, .inr (0, [.int 0, .null, .int 0]))] [.ref li] (fun (_ : Unit) => True) (fun _ => [(li, .inr (0, [.int 0, .null, .int 0]))]) := by
  refine CtC_of (by decide +kernel) (Nat.le_of_ble_eq_true rfl) rfl (fun x X hin hE => ?_)
  show J E x 0 0 [(li, .inr (0, [.int 0, .null, .int 0]))] 0 [(0, .ref li)] []
  refine J_aload_n X (pc := 0) dJxc12de_init_da8c8_0 0 rfl ?_
  refine J_callCI (w1 := [(li, .inr (0, [.int 0, .null, .int 0]))]) (rw := []) X (pc := 1) (y := yJxa1e45_init_da8c8) (na := 0) (As := []) (rest := []) (c_ac_init E li) q_254 q_255 q_256 q_250 rfl rfl (by decide +kernel) (by decide +kernel) rfl (Nat.le_of_ble_eq_true rfl) ⟨Nat.le_refl _, Nat.le_refl _⟩ dJxc12de_init_da8c8_1 (fun _ _ => ?_)
  show J E x 0 0 [(li, .inr (0, [.int 0, .null, .int 0]))] 4 _ []
  refine J_aload_n X (pc := 4) dJxc12de_init_da8c8_4 0 rfl ?_
  refine J_iconst X (pc := 5) (v := 0) dJxc12de_init_da8c8_5 (by decide +kernel) ?_
  refine J_putf X (pc := 6) (ty := .int) (w1 := [(li, .inr (0, [.int 0, .null, .int 0]))]) 0 rfl rfl in_Jx4a65c tyJx4a65c_ok nmJx4a65c 0 (by decide) q_253 rfl (by decide +kernel) rfl rfl (Nat.le_of_ble_eq_true rfl) dJxc12de_init_da8c8_6 rfl ?_
  exact hE () trivial _ _ dJxc12de_init_da8c8_9
set_option maxRecDepth 100000 in
set_option maxHeartbeats 4000000 in
theorem c_li_init (E : Ev) (li : Nat) : CtXV E yJx4a65c_init_da8c8 cJx4a65c_init_da8c8 1 3 52 0 0 [(li, .inr (0, [.int 0, .null, .int 0]))] [.ref li] (fun (_ : Unit) => True) (fun _ => [(li, .inr (0, [.int 0, .ref (E.2.2 9), .int 0]))]) := by
  refine CtXV_of (by decide +kernel) (Nat.le_of_ble_eq_true rfl) (fun x X XX _ hE => ?_)
  show J E x 0 0 [(li, .inr (0, [.int 0, .null, .int 0]))] 0 [(0, .ref li)] []
  refine J_aload_n X (pc := 0) dJx4a65c_init_da8c8_0 0 rfl ?_
  refine J_callCI (w1 := [(li, .inr (0, [.int 0, .null, .int 0]))]) (rw := []) X (pc := 1) (y := yJxc12de_init_da8c8) (na := 0) (As := []) (rest := []) (c_al_init E li) q_260 q_261 q_262 q_252 rfl rfl (by decide +kernel) (by decide +kernel) rfl (Nat.le_of_ble_eq_true rfl) ⟨Nat.le_refl _, Nat.le_refl _⟩ dJx4a65c_init_da8c8_1 (fun _ _ => ?_)
  show J E x 0 0 [(li, .inr (0, [.int 0, .null, .int 0]))] 4 _ []
  refine J_aload_n X (pc := 4) dJx4a65c_init_da8c8_4 0 rfl ?_
  refine J_gets X XX (pc := 5) q_258 dJx4a65c_init_da8c8_5 ?_
  refine J_putf X (pc := 8) (ty := .array (.object "java/lang/Object")) (w1 := [(li, .inr (0, [.int 0, .ref (E.2.2 9), .int 0]))]) 0 rfl rfl in_Jx4a65c tyJx4a65c_ok nmJx4a65c 1 (by decide) q_259 rfl (by decide +kernel) rfl rfl (Nat.le_of_ble_eq_true rfl) dJx4a65c_init_da8c8_8 rfl ?_
  exact hE () trivial _ _ dJx4a65c_init_da8c8_11
