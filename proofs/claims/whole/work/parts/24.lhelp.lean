/-! The law's helpers: each by two kinds of contract, where the class returns and where it throws -/
set_option maxRecDepth 100000 in
set_option maxHeartbeats 4000000 in
theorem h_addStore (E : Ev) (ad : CA) (ao : Nat) (g : Nat → Int64) {a1 : Int32} {T : TS} (h0 : 1 ≤ a1 ∧ a1 ≤ 1000000) (hn8 : T.2.1 < 8) : CtH E yL_addStore cL_addStore 4 [(0, 9, 12, 13), (0, 9, 15, 15)] 9 170 16 398 (outC E ao g :: cW E ad T) [.ref (ad.1 0), .int a1, .ref ao]  0 (fun ad2 : CA => ad2.1 0 = ad.1 0) (fun ad2 => outC E ao (vp_updL g 0 (nI T.2.1).toInt64) :: cW E ad2 (addT T a1)) := by
  refine CtH_of (by decide +kernel) (Nat.le_of_ble_eq_true rfl) (fun x X XX XN htab hE => ?_)
  show J E x 0 0 (outC E ao g :: cW E ad T) 0 [(0, .ref (ad.1 0)), (1, .int a1), (2, .ref ao)] []
  refine J_aload_n X (pc := 0) dL_addStore_0 2 rfl ?_
  refine J_iconst X (pc := 1) (v := 0) dL_addStore_1 (by decide +kernel) ?_
  refine J_aload_n X (pc := 2) dL_addStore_2 0 rfl ?_
  refine J_iload_n X (pc := 3) dL_addStore_3 1 rfl ?_
  refine J_perm (w1 := cW E ad T ++ [outC E ao g]) (List.perm_append_comm (l₁ := [outC E ao g])) ?_
  refine J_callFXI X XX (pc := 4) (y := yX7_addStore) (na := 1) (As := [.int a1]) (rest := [.int 0, .ref ao]) (c_X7_addStore E ad h0 hn8) 0 cW_c0 rfl q_570 q_571 q_572 q_14 q_336 rfl (by decide +kernel) (by decide +kernel) rfl (Nat.le_of_ble_eq_true rfl) ⟨by decide +kernel, by decide +kernel⟩ dL_addStore_4 (fun ad2 had2 => ?_)
  refine J_perm (w1 := outC E ao g :: cW E ad2 (addT T a1)) (List.perm_append_comm (l₂ := [outC E ao g])) ?_
  refine J_i2l X (pc := 7) dL_addStore_7 ?_
  refine J_last X (pc := 8) (w1 := outC E ao (vp_updL g 0 (nI T.2.1).toInt64) :: cW E ad2 (addT T a1)) 0 rfl ⟨by decide, by decide⟩ dL_addStore_8 rfl ?_
  refine J_goto X (pc := 9) 18 dL_addStore_9 (by decide) ?_
  refine J_iconst X (pc := 18) (v := 0) dL_addStore_18 (by decide +kernel) ?_
  refine J_widen (k2 := 16) (n2 := 398) (by decide +kernel) (by decide +kernel) ?_
  exact hE ad2 had2 _ _ dL_addStore_19
set_option maxRecDepth 100000 in
set_option maxHeartbeats 4000000 in
theorem hx_addStore_1 (E : Ev) (ad : CA) (ao : Nat) (g : Nat → Int64) {a1 : Int32} {T T2 : TS} (h : x_X7_addStore a1 T = some ("java/lang/IllegalArgumentException", T2)) : CtH E yL_addStore cL_addStore 4 [(0, 9, 12, 13), (0, 9, 15, 15)] 9 170 16 398 (outC E ao g :: cW E ad T) [.ref (ad.1 0), .int a1, .ref ao]  1 (fun ad2 : CA => ad2.1 0 = ad.1 0) (fun ad2 => outC E ao g :: cW E ad2 T2) := by
  refine CtH_of (by decide +kernel) (Nat.le_of_ble_eq_true rfl) (fun x X XX XN htab hE => ?_)
  show J E x 0 0 (outC E ao g :: cW E ad T) 0 [(0, .ref (ad.1 0)), (1, .int a1), (2, .ref ao)] []
  refine J_aload_n X (pc := 0) dL_addStore_0 2 rfl ?_
  refine J_iconst X (pc := 1) (v := 0) dL_addStore_1 (by decide +kernel) ?_
  refine J_aload_n X (pc := 2) dL_addStore_2 0 rfl ?_
  refine J_iload_n X (pc := 3) dL_addStore_3 1 rfl ?_
  refine J_perm (w1 := cW E ad T ++ [outC E ao g]) (List.perm_append_comm (l₁ := [outC E ao g])) ?_
  refine J_callCVF X XX (pc := 4) (y := yX7_addStore) (na := 1) (As := [.int a1]) (rest := [.int 0, .ref ao]) (t_X7_addStore E ad h) 0 cW_c0 rfl q_570 q_571 q_572 q_14 q_336 rfl (by decide +kernel) (by decide +kernel) rfl (Nat.le_of_ble_eq_true rfl) ⟨by decide +kernel, by decide +kernel⟩ dL_addStore_4 [] [⟨0, 9, 15, 15⟩] ⟨0, 9, 12, 13⟩  htab (fun z hz => absurd hz List.not_mem_nil) (by decide) (by decide) q_568 nq_0 (fun q9 => ?_)
  refine J_perm (w1 := outC E ao g :: cW E ad T2) (List.perm_append_comm (l₂ := [outC E ao g])) ?_
  refine J_astore_n X (pc := 12) dL_addStore_12 (by decide) rfl ?_
  refine J_iconst X (pc := 13) (v := 1) dL_addStore_13 (by decide +kernel) ?_
  refine J_widen (k2 := 16) (n2 := 398) (by decide +kernel) (by decide +kernel) ?_
  exact hE ad rfl _ _ dL_addStore_14
set_option maxRecDepth 100000 in
set_option maxHeartbeats 4000000 in
theorem hx_addStore_2 (E : Ev) (ad : CA) (ao : Nat) (g : Nat → Int64) {a1 : Int32} {T T2 : TS} (h : x_X7_addStore a1 T = some ("java/lang/IllegalStateException", T2)) : CtH E yL_addStore cL_addStore 4 [(0, 9, 12, 13), (0, 9, 15, 15)] 9 170 16 398 (outC E ao g :: cW E ad T) [.ref (ad.1 0), .int a1, .ref ao]  2 (fun ad2 : CA => ad2.1 0 = ad.1 0) (fun ad2 => outC E ao g :: cW E ad2 T2) := by
  refine CtH_of (by decide +kernel) (Nat.le_of_ble_eq_true rfl) (fun x X XX XN htab hE => ?_)
  show J E x 0 0 (outC E ao g :: cW E ad T) 0 [(0, .ref (ad.1 0)), (1, .int a1), (2, .ref ao)] []
  refine J_aload_n X (pc := 0) dL_addStore_0 2 rfl ?_
  refine J_iconst X (pc := 1) (v := 0) dL_addStore_1 (by decide +kernel) ?_
  refine J_aload_n X (pc := 2) dL_addStore_2 0 rfl ?_
  refine J_iload_n X (pc := 3) dL_addStore_3 1 rfl ?_
  refine J_perm (w1 := cW E ad T ++ [outC E ao g]) (List.perm_append_comm (l₁ := [outC E ao g])) ?_
  refine J_callCVF X XX (pc := 4) (y := yX7_addStore) (na := 1) (As := [.int a1]) (rest := [.int 0, .ref ao]) (t_X7_addStore E ad h) 0 cW_c0 rfl q_570 q_571 q_572 q_14 q_336 rfl (by decide +kernel) (by decide +kernel) rfl (Nat.le_of_ble_eq_true rfl) ⟨by decide +kernel, by decide +kernel⟩ dL_addStore_4 [⟨0, 9, 12, 13⟩] [] ⟨0, 9, 15, 15⟩  htab (fun z hz => by cases List.mem_singleton.mp hz; exact Or.inr ⟨by decide, "java/lang/IllegalArgumentException", q_568, XN _ nc_0⟩) (by decide) (by decide) q_569 nq_1 (fun q9 => ?_)
  refine J_perm (w1 := outC E ao g :: cW E ad T2) (List.perm_append_comm (l₂ := [outC E ao g])) ?_
  refine J_astore_n X (pc := 15) dL_addStore_15 (by decide) rfl ?_
  refine J_iconst X (pc := 16) (v := 2) dL_addStore_16 (by decide +kernel) ?_
  refine J_widen (k2 := 16) (n2 := 398) (by decide +kernel) (by decide +kernel) ?_
  exact hE ad rfl _ _ dL_addStore_17
set_option maxRecDepth 100000 in
set_option maxHeartbeats 4000000 in
theorem h_setSize (E : Ev) (ad : CA) (ao : Nat) (g : Nat → Int64) {a1 : Int32} {a2 : Int32} {T : TS} {r : Int32} {T2 : TS} (h : f_X7_setSize a1 a2 T = some (r, T2)) : CtH E yL_setSize cL_setSize 5 [(0, 10, 13, 21), (0, 10, 17, 13)] 9 170 16 398 (outC E ao g :: cW E ad T) [.ref (ad.1 0), .int a1, .int a2, .ref ao]  0 (fun ad2 : CA => ad2.1 0 = ad.1 0) (fun ad2 => outC E ao (vp_updL g 0 r.toInt64) :: cW E ad2 T2) := by
  refine CtH_of (by decide +kernel) (Nat.le_of_ble_eq_true rfl) (fun x X XX XN htab hE => ?_)
  show J E x 0 0 (outC E ao g :: cW E ad T) 0 [(0, .ref (ad.1 0)), (1, .int a1), (2, .int a2), (3, .ref ao)] []
  refine J_aload_n X (pc := 0) dL_setSize_0 3 rfl ?_
  refine J_iconst X (pc := 1) (v := 0) dL_setSize_1 (by decide +kernel) ?_
  refine J_aload_n X (pc := 2) dL_setSize_2 0 rfl ?_
  refine J_iload_n X (pc := 3) dL_setSize_3 1 rfl ?_
  refine J_iload_n X (pc := 4) dL_setSize_4 2 rfl ?_
  refine J_perm (w1 := cW E ad T ++ [outC E ao g]) (List.perm_append_comm (l₁ := [outC E ao g])) ?_
  refine J_callF0I X (pc := 5) (y := yX7_setSize) (na := 2) (As := [.int a1, .int a2]) (rest := [.int 0, .ref ao]) (c_X7_setSize E ad h) 0 cW_c0 rfl q_575 q_576 q_577 q_14 q_360 rfl (by decide +kernel) (by decide +kernel) rfl (Nat.le_of_ble_eq_true rfl) ⟨by decide +kernel, by decide +kernel⟩ dL_setSize_5 ?_
  refine J_perm (w1 := outC E ao g :: cW E ad T2) (List.perm_append_comm (l₂ := [outC E ao g])) ?_
  refine J_i2l X (pc := 8) dL_setSize_8 ?_
  refine J_last X (pc := 9) (w1 := outC E ao (vp_updL g 0 r.toInt64) :: cW E ad T2) 0 rfl ⟨by decide, by decide⟩ dL_setSize_9 rfl ?_
  refine J_goto X (pc := 10) 21 dL_setSize_10 (by decide) ?_
  refine J_iconst X (pc := 21) (v := 0) dL_setSize_21 (by decide +kernel) ?_
  refine J_widen (k2 := 16) (n2 := 398) (by decide +kernel) (by decide +kernel) ?_
  exact hE ad rfl _ _ dL_setSize_22
set_option maxRecDepth 100000 in
set_option maxHeartbeats 4000000 in
theorem hx_setSize_1 (E : Ev) (ad : CA) (ao : Nat) (g : Nat → Int64) {a1 : Int32} {a2 : Int32} {T T2 : TS} (h : x_X7_setSize a1 a2 T = some ("java/lang/IndexOutOfBoundsException", T2)) : CtH E yL_setSize cL_setSize 5 [(0, 10, 13, 21), (0, 10, 17, 13)] 9 170 16 398 (outC E ao g :: cW E ad T) [.ref (ad.1 0), .int a1, .int a2, .ref ao]  1 (fun ad2 : CA => ad2.1 0 = ad.1 0) (fun ad2 => outC E ao g :: cW E ad2 T2) := by
  refine CtH_of (by decide +kernel) (Nat.le_of_ble_eq_true rfl) (fun x X XX XN htab hE => ?_)
  show J E x 0 0 (outC E ao g :: cW E ad T) 0 [(0, .ref (ad.1 0)), (1, .int a1), (2, .int a2), (3, .ref ao)] []
  refine J_aload_n X (pc := 0) dL_setSize_0 3 rfl ?_
  refine J_iconst X (pc := 1) (v := 0) dL_setSize_1 (by decide +kernel) ?_
  refine J_aload_n X (pc := 2) dL_setSize_2 0 rfl ?_
  refine J_iload_n X (pc := 3) dL_setSize_3 1 rfl ?_
  refine J_iload_n X (pc := 4) dL_setSize_4 2 rfl ?_
  refine J_perm (w1 := cW E ad T ++ [outC E ao g]) (List.perm_append_comm (l₁ := [outC E ao g])) ?_
  refine J_callCVF X XX (pc := 5) (y := yX7_setSize) (na := 2) (As := [.int a1, .int a2]) (rest := [.int 0, .ref ao]) (t_X7_setSize E ad h) 0 cW_c0 rfl q_575 q_576 q_577 q_14 q_360 rfl (by decide +kernel) (by decide +kernel) rfl (Nat.le_of_ble_eq_true rfl) ⟨by decide +kernel, by decide +kernel⟩ dL_setSize_5 [] [⟨0, 10, 17, 13⟩] ⟨0, 10, 13, 21⟩  htab (fun z hz => absurd hz List.not_mem_nil) (by decide) (by decide) q_574 nq_17 (fun q9 => ?_)
  refine J_perm (w1 := outC E ao g :: cW E ad T2) (List.perm_append_comm (l₂ := [outC E ao g])) ?_
  refine J_astore X (pc := 13) dL_setSize_13 (by decide) rfl ?_
  refine J_iconst X (pc := 15) (v := 1) dL_setSize_15 (by decide +kernel) ?_
  refine J_widen (k2 := 16) (n2 := 398) (by decide +kernel) (by decide +kernel) ?_
  exact hE ad rfl _ _ dL_setSize_16
set_option maxRecDepth 100000 in
set_option maxHeartbeats 4000000 in
theorem hx_setSize_2 (E : Ev) (ad : CA) (ao : Nat) (g : Nat → Int64) {a1 : Int32} {a2 : Int32} {T T2 : TS} (h : x_X7_setSize a1 a2 T = some ("java/lang/IllegalArgumentException", T2)) : CtH E yL_setSize cL_setSize 5 [(0, 10, 13, 21), (0, 10, 17, 13)] 9 170 16 398 (outC E ao g :: cW E ad T) [.ref (ad.1 0), .int a1, .int a2, .ref ao]  2 (fun ad2 : CA => ad2.1 0 = ad.1 0) (fun ad2 => outC E ao g :: cW E ad2 T2) := by
  refine CtH_of (by decide +kernel) (Nat.le_of_ble_eq_true rfl) (fun x X XX XN htab hE => ?_)
  show J E x 0 0 (outC E ao g :: cW E ad T) 0 [(0, .ref (ad.1 0)), (1, .int a1), (2, .int a2), (3, .ref ao)] []
  refine J_aload_n X (pc := 0) dL_setSize_0 3 rfl ?_
  refine J_iconst X (pc := 1) (v := 0) dL_setSize_1 (by decide +kernel) ?_
  refine J_aload_n X (pc := 2) dL_setSize_2 0 rfl ?_
  refine J_iload_n X (pc := 3) dL_setSize_3 1 rfl ?_
  refine J_iload_n X (pc := 4) dL_setSize_4 2 rfl ?_
  refine J_perm (w1 := cW E ad T ++ [outC E ao g]) (List.perm_append_comm (l₁ := [outC E ao g])) ?_
  refine J_callCVF X XX (pc := 5) (y := yX7_setSize) (na := 2) (As := [.int a1, .int a2]) (rest := [.int 0, .ref ao]) (t_X7_setSize E ad h) 0 cW_c0 rfl q_575 q_576 q_577 q_14 q_360 rfl (by decide +kernel) (by decide +kernel) rfl (Nat.le_of_ble_eq_true rfl) ⟨by decide +kernel, by decide +kernel⟩ dL_setSize_5 [⟨0, 10, 13, 21⟩] [] ⟨0, 10, 17, 13⟩  htab (fun z hz => by cases List.mem_singleton.mp hz; exact Or.inr ⟨by decide, "java/lang/IndexOutOfBoundsException", q_574, XN _ nc_1⟩) (by decide) (by decide) q_568 nq_0 (fun q9 => ?_)
  refine J_perm (w1 := outC E ao g :: cW E ad T2) (List.perm_append_comm (l₂ := [outC E ao g])) ?_
  refine J_astore X (pc := 17) dL_setSize_17 (by decide) rfl ?_
  refine J_iconst X (pc := 19) (v := 2) dL_setSize_19 (by decide +kernel) ?_
  refine J_widen (k2 := 16) (n2 := 398) (by decide +kernel) (by decide +kernel) ?_
  exact hE ad rfl _ _ dL_setSize_20
set_option maxRecDepth 100000 in
set_option maxHeartbeats 4000000 in
theorem h_sample (E : Ev) (ad : CA) (ao : Nat) (g : Nat → Int64) {a1 : Int32} {a2 : Int32} {T : TS} {r : Int32} {T2 : TS} (h : f_X7_sample a1 a2 T = some (r, T2)) : CtH E yL_sample cL_sample 5 [(0, 10, 13, 21), (0, 10, 17, 13)] 9 170 16 398 (outC E ao g :: cW E ad T) [.ref (ad.1 0), .int a1, .int a2, .ref ao]  0 (fun ad2 : CA => ad2.1 0 = ad.1 0) (fun ad2 => outC E ao (vp_updL g 0 r.toInt64) :: cW E ad2 T2) := by
  refine CtH_of (by decide +kernel) (Nat.le_of_ble_eq_true rfl) (fun x X XX XN htab hE => ?_)
  show J E x 0 0 (outC E ao g :: cW E ad T) 0 [(0, .ref (ad.1 0)), (1, .int a1), (2, .int a2), (3, .ref ao)] []
  refine J_aload_n X (pc := 0) dL_sample_0 3 rfl ?_
  refine J_iconst X (pc := 1) (v := 0) dL_sample_1 (by decide +kernel) ?_
  refine J_aload_n X (pc := 2) dL_sample_2 0 rfl ?_
  refine J_iload_n X (pc := 3) dL_sample_3 1 rfl ?_
  refine J_iload_n X (pc := 4) dL_sample_4 2 rfl ?_
  refine J_perm (w1 := cW E ad T ++ [outC E ao g]) (List.perm_append_comm (l₁ := [outC E ao g])) ?_
  refine J_callF0I X (pc := 5) (y := yX7_sample) (na := 2) (As := [.int a1, .int a2]) (rest := [.int 0, .ref ao]) (c_X7_sample E ad h) 0 cW_c0 rfl q_579 q_580 q_581 q_14 q_365 rfl (by decide +kernel) (by decide +kernel) rfl (Nat.le_of_ble_eq_true rfl) ⟨by decide +kernel, by decide +kernel⟩ dL_sample_5 ?_
  refine J_perm (w1 := outC E ao g :: cW E ad T2) (List.perm_append_comm (l₂ := [outC E ao g])) ?_
  refine J_i2l X (pc := 8) dL_sample_8 ?_
  refine J_last X (pc := 9) (w1 := outC E ao (vp_updL g 0 r.toInt64) :: cW E ad T2) 0 rfl ⟨by decide, by decide⟩ dL_sample_9 rfl ?_
  refine J_goto X (pc := 10) 21 dL_sample_10 (by decide) ?_
  refine J_iconst X (pc := 21) (v := 0) dL_sample_21 (by decide +kernel) ?_
  refine J_widen (k2 := 16) (n2 := 398) (by decide +kernel) (by decide +kernel) ?_
  exact hE ad rfl _ _ dL_sample_22
set_option maxRecDepth 100000 in
set_option maxHeartbeats 4000000 in
theorem hx_sample_1 (E : Ev) (ad : CA) (ao : Nat) (g : Nat → Int64) {a1 : Int32} {a2 : Int32} {T T2 : TS} (h : x_X7_sample a1 a2 T = some ("java/lang/IndexOutOfBoundsException", T2)) : CtH E yL_sample cL_sample 5 [(0, 10, 13, 21), (0, 10, 17, 13)] 9 170 16 398 (outC E ao g :: cW E ad T) [.ref (ad.1 0), .int a1, .int a2, .ref ao]  1 (fun ad2 : CA => ad2.1 0 = ad.1 0) (fun ad2 => outC E ao g :: cW E ad2 T2) := by
  refine CtH_of (by decide +kernel) (Nat.le_of_ble_eq_true rfl) (fun x X XX XN htab hE => ?_)
  show J E x 0 0 (outC E ao g :: cW E ad T) 0 [(0, .ref (ad.1 0)), (1, .int a1), (2, .int a2), (3, .ref ao)] []
  refine J_aload_n X (pc := 0) dL_sample_0 3 rfl ?_
  refine J_iconst X (pc := 1) (v := 0) dL_sample_1 (by decide +kernel) ?_
  refine J_aload_n X (pc := 2) dL_sample_2 0 rfl ?_
  refine J_iload_n X (pc := 3) dL_sample_3 1 rfl ?_
  refine J_iload_n X (pc := 4) dL_sample_4 2 rfl ?_
  refine J_perm (w1 := cW E ad T ++ [outC E ao g]) (List.perm_append_comm (l₁ := [outC E ao g])) ?_
  refine J_callCVF X XX (pc := 5) (y := yX7_sample) (na := 2) (As := [.int a1, .int a2]) (rest := [.int 0, .ref ao]) (t_X7_sample E ad h) 0 cW_c0 rfl q_579 q_580 q_581 q_14 q_365 rfl (by decide +kernel) (by decide +kernel) rfl (Nat.le_of_ble_eq_true rfl) ⟨by decide +kernel, by decide +kernel⟩ dL_sample_5 [] [⟨0, 10, 17, 13⟩] ⟨0, 10, 13, 21⟩  htab (fun z hz => absurd hz List.not_mem_nil) (by decide) (by decide) q_574 nq_17 (fun q9 => ?_)
  refine J_perm (w1 := outC E ao g :: cW E ad T2) (List.perm_append_comm (l₂ := [outC E ao g])) ?_
  refine J_astore X (pc := 13) dL_sample_13 (by decide) rfl ?_
  refine J_iconst X (pc := 15) (v := 1) dL_sample_15 (by decide +kernel) ?_
  refine J_widen (k2 := 16) (n2 := 398) (by decide +kernel) (by decide +kernel) ?_
  exact hE ad rfl _ _ dL_sample_16
set_option maxRecDepth 100000 in
set_option maxHeartbeats 4000000 in
theorem hx_sample_2 (E : Ev) (ad : CA) (ao : Nat) (g : Nat → Int64) {a1 : Int32} {a2 : Int32} {T T2 : TS} (h : x_X7_sample a1 a2 T = some ("java/lang/IllegalArgumentException", T2)) : CtH E yL_sample cL_sample 5 [(0, 10, 13, 21), (0, 10, 17, 13)] 9 170 16 398 (outC E ao g :: cW E ad T) [.ref (ad.1 0), .int a1, .int a2, .ref ao]  2 (fun ad2 : CA => ad2.1 0 = ad.1 0) (fun ad2 => outC E ao g :: cW E ad2 T2) := by
  refine CtH_of (by decide +kernel) (Nat.le_of_ble_eq_true rfl) (fun x X XX XN htab hE => ?_)
  show J E x 0 0 (outC E ao g :: cW E ad T) 0 [(0, .ref (ad.1 0)), (1, .int a1), (2, .int a2), (3, .ref ao)] []
  refine J_aload_n X (pc := 0) dL_sample_0 3 rfl ?_
  refine J_iconst X (pc := 1) (v := 0) dL_sample_1 (by decide +kernel) ?_
  refine J_aload_n X (pc := 2) dL_sample_2 0 rfl ?_
  refine J_iload_n X (pc := 3) dL_sample_3 1 rfl ?_
  refine J_iload_n X (pc := 4) dL_sample_4 2 rfl ?_
  refine J_perm (w1 := cW E ad T ++ [outC E ao g]) (List.perm_append_comm (l₁ := [outC E ao g])) ?_
  refine J_callCVF X XX (pc := 5) (y := yX7_sample) (na := 2) (As := [.int a1, .int a2]) (rest := [.int 0, .ref ao]) (t_X7_sample E ad h) 0 cW_c0 rfl q_579 q_580 q_581 q_14 q_365 rfl (by decide +kernel) (by decide +kernel) rfl (Nat.le_of_ble_eq_true rfl) ⟨by decide +kernel, by decide +kernel⟩ dL_sample_5 [⟨0, 10, 13, 21⟩] [] ⟨0, 10, 17, 13⟩  htab (fun z hz => by cases List.mem_singleton.mp hz; exact Or.inr ⟨by decide, "java/lang/IndexOutOfBoundsException", q_574, XN _ nc_1⟩) (by decide) (by decide) q_568 nq_0 (fun q9 => ?_)
  refine J_perm (w1 := outC E ao g :: cW E ad T2) (List.perm_append_comm (l₂ := [outC E ao g])) ?_
  refine J_astore X (pc := 17) dL_sample_17 (by decide) rfl ?_
  refine J_iconst X (pc := 19) (v := 2) dL_sample_19 (by decide +kernel) ?_
  refine J_widen (k2 := 16) (n2 := 398) (by decide +kernel) (by decide +kernel) ?_
  exact hE ad rfl _ _ dL_sample_20
set_option maxRecDepth 100000 in
set_option maxHeartbeats 4000000 in
theorem h_clean (E : Ev) (ad : CA) (ao : Nat) (g : Nat → Int64) {a1 : Int32} {a2 : Int32} {T : TS} {r : Int32} {T2 : TS} (h : f_X7_clean a1 a2 T = some (r, T2)) : CtH E yL_clean cL_clean 5 [(0, 10, 13, 21), (0, 10, 17, 13), (0, 10, 21, 15)] 9 170 16 398 (outC E ao g :: cW E ad T) [.ref (ad.1 0), .int a1, .int a2, .ref ao]  0 (fun ad2 : CA => ad2.1 0 = ad.1 0) (fun ad2 => outC E ao (vp_updL g 0 r.toInt64) :: cW E ad2 T2) := by
  refine CtH_of (by decide +kernel) (Nat.le_of_ble_eq_true rfl) (fun x X XX XN htab hE => ?_)
  show J E x 0 0 (outC E ao g :: cW E ad T) 0 [(0, .ref (ad.1 0)), (1, .int a1), (2, .int a2), (3, .ref ao)] []
  refine J_aload_n X (pc := 0) dL_clean_0 3 rfl ?_
  refine J_iconst X (pc := 1) (v := 0) dL_clean_1 (by decide +kernel) ?_
  refine J_aload_n X (pc := 2) dL_clean_2 0 rfl ?_
  refine J_iload_n X (pc := 3) dL_clean_3 1 rfl ?_
  refine J_iload_n X (pc := 4) dL_clean_4 2 rfl ?_
  refine J_perm (w1 := cW E ad T ++ [outC E ao g]) (List.perm_append_comm (l₁ := [outC E ao g])) ?_
  refine J_callF0I X (pc := 5) (y := yX7_clean) (na := 2) (As := [.int a1, .int a2]) (rest := [.int 0, .ref ao]) (c_X7_clean E ad h) 0 cW_c0 rfl q_583 q_584 q_585 q_14 q_373 rfl (by decide +kernel) (by decide +kernel) rfl (Nat.le_of_ble_eq_true rfl) ⟨by decide +kernel, by decide +kernel⟩ dL_clean_5 ?_
  refine J_perm (w1 := outC E ao g :: cW E ad T2) (List.perm_append_comm (l₂ := [outC E ao g])) ?_
  refine J_i2l X (pc := 8) dL_clean_8 ?_
  refine J_last X (pc := 9) (w1 := outC E ao (vp_updL g 0 r.toInt64) :: cW E ad T2) 0 rfl ⟨by decide, by decide⟩ dL_clean_9 rfl ?_
  refine J_goto X (pc := 10) 25 dL_clean_10 (by decide) ?_
  refine J_iconst X (pc := 25) (v := 0) dL_clean_25 (by decide +kernel) ?_
  refine J_widen (k2 := 16) (n2 := 398) (by decide +kernel) (by decide +kernel) ?_
  exact hE ad rfl _ _ dL_clean_26
set_option maxRecDepth 100000 in
set_option maxHeartbeats 4000000 in
theorem hx_clean_1 (E : Ev) (ad : CA) (ao : Nat) (g : Nat → Int64) {a1 : Int32} {a2 : Int32} {T T2 : TS} (h : x_X7_clean a1 a2 T = some ("java/lang/IndexOutOfBoundsException", T2)) : CtH E yL_clean cL_clean 5 [(0, 10, 13, 21), (0, 10, 17, 13), (0, 10, 21, 15)] 9 170 16 398 (outC E ao g :: cW E ad T) [.ref (ad.1 0), .int a1, .int a2, .ref ao]  1 (fun ad2 : CA => ad2.1 0 = ad.1 0) (fun ad2 => outC E ao g :: cW E ad2 T2) := by
  refine CtH_of (by decide +kernel) (Nat.le_of_ble_eq_true rfl) (fun x X XX XN htab hE => ?_)
  show J E x 0 0 (outC E ao g :: cW E ad T) 0 [(0, .ref (ad.1 0)), (1, .int a1), (2, .int a2), (3, .ref ao)] []
  refine J_aload_n X (pc := 0) dL_clean_0 3 rfl ?_
  refine J_iconst X (pc := 1) (v := 0) dL_clean_1 (by decide +kernel) ?_
  refine J_aload_n X (pc := 2) dL_clean_2 0 rfl ?_
  refine J_iload_n X (pc := 3) dL_clean_3 1 rfl ?_
  refine J_iload_n X (pc := 4) dL_clean_4 2 rfl ?_
  refine J_perm (w1 := cW E ad T ++ [outC E ao g]) (List.perm_append_comm (l₁ := [outC E ao g])) ?_
  refine J_callCVF X XX (pc := 5) (y := yX7_clean) (na := 2) (As := [.int a1, .int a2]) (rest := [.int 0, .ref ao]) (t_X7_clean E ad h) 0 cW_c0 rfl q_583 q_584 q_585 q_14 q_373 rfl (by decide +kernel) (by decide +kernel) rfl (Nat.le_of_ble_eq_true rfl) ⟨by decide +kernel, by decide +kernel⟩ dL_clean_5 [] [⟨0, 10, 17, 13⟩, ⟨0, 10, 21, 15⟩] ⟨0, 10, 13, 21⟩  htab (fun z hz => absurd hz List.not_mem_nil) (by decide) (by decide) q_574 nq_17 (fun q9 => ?_)
  refine J_perm (w1 := outC E ao g :: cW E ad T2) (List.perm_append_comm (l₂ := [outC E ao g])) ?_
  refine J_astore X (pc := 13) dL_clean_13 (by decide) rfl ?_
  refine J_iconst X (pc := 15) (v := 1) dL_clean_15 (by decide +kernel) ?_
  refine J_widen (k2 := 16) (n2 := 398) (by decide +kernel) (by decide +kernel) ?_
  exact hE ad rfl _ _ dL_clean_16
set_option maxRecDepth 100000 in
set_option maxHeartbeats 4000000 in
theorem hx_clean_2 (E : Ev) (ad : CA) (ao : Nat) (g : Nat → Int64) {a1 : Int32} {a2 : Int32} {T T2 : TS} (h : x_X7_clean a1 a2 T = some ("java/lang/IllegalArgumentException", T2)) : CtH E yL_clean cL_clean 5 [(0, 10, 13, 21), (0, 10, 17, 13), (0, 10, 21, 15)] 9 170 16 398 (outC E ao g :: cW E ad T) [.ref (ad.1 0), .int a1, .int a2, .ref ao]  2 (fun ad2 : CA => ad2.1 0 = ad.1 0) (fun ad2 => outC E ao g :: cW E ad2 T2) := by
  refine CtH_of (by decide +kernel) (Nat.le_of_ble_eq_true rfl) (fun x X XX XN htab hE => ?_)
  show J E x 0 0 (outC E ao g :: cW E ad T) 0 [(0, .ref (ad.1 0)), (1, .int a1), (2, .int a2), (3, .ref ao)] []
  refine J_aload_n X (pc := 0) dL_clean_0 3 rfl ?_
  refine J_iconst X (pc := 1) (v := 0) dL_clean_1 (by decide +kernel) ?_
  refine J_aload_n X (pc := 2) dL_clean_2 0 rfl ?_
  refine J_iload_n X (pc := 3) dL_clean_3 1 rfl ?_
  refine J_iload_n X (pc := 4) dL_clean_4 2 rfl ?_
  refine J_perm (w1 := cW E ad T ++ [outC E ao g]) (List.perm_append_comm (l₁ := [outC E ao g])) ?_
  refine J_callCVF X XX (pc := 5) (y := yX7_clean) (na := 2) (As := [.int a1, .int a2]) (rest := [.int 0, .ref ao]) (t_X7_clean E ad h) 0 cW_c0 rfl q_583 q_584 q_585 q_14 q_373 rfl (by decide +kernel) (by decide +kernel) rfl (Nat.le_of_ble_eq_true rfl) ⟨by decide +kernel, by decide +kernel⟩ dL_clean_5 [⟨0, 10, 13, 21⟩] [⟨0, 10, 21, 15⟩] ⟨0, 10, 17, 13⟩  htab (fun z hz => by cases List.mem_singleton.mp hz; exact Or.inr ⟨by decide, "java/lang/IndexOutOfBoundsException", q_574, XN _ nc_1⟩) (by decide) (by decide) q_568 nq_0 (fun q9 => ?_)
  refine J_perm (w1 := outC E ao g :: cW E ad T2) (List.perm_append_comm (l₂ := [outC E ao g])) ?_
  refine J_astore X (pc := 17) dL_clean_17 (by decide) rfl ?_
  refine J_iconst X (pc := 19) (v := 2) dL_clean_19 (by decide +kernel) ?_
  refine J_widen (k2 := 16) (n2 := 398) (by decide +kernel) (by decide +kernel) ?_
  exact hE ad rfl _ _ dL_clean_20
set_option maxRecDepth 100000 in
set_option maxHeartbeats 4000000 in
theorem hx_clean_3 (E : Ev) (ad : CA) (ao : Nat) (g : Nat → Int64) {a1 : Int32} {a2 : Int32} {T T2 : TS} (h : x_X7_clean a1 a2 T = some ("java/lang/IllegalStateException", T2)) : CtH E yL_clean cL_clean 5 [(0, 10, 13, 21), (0, 10, 17, 13), (0, 10, 21, 15)] 9 170 16 398 (outC E ao g :: cW E ad T) [.ref (ad.1 0), .int a1, .int a2, .ref ao]  3 (fun ad2 : CA => ad2.1 0 = ad.1 0) (fun ad2 => outC E ao g :: cW E ad2 T2) := by
  refine CtH_of (by decide +kernel) (Nat.le_of_ble_eq_true rfl) (fun x X XX XN htab hE => ?_)
  show J E x 0 0 (outC E ao g :: cW E ad T) 0 [(0, .ref (ad.1 0)), (1, .int a1), (2, .int a2), (3, .ref ao)] []
  refine J_aload_n X (pc := 0) dL_clean_0 3 rfl ?_
  refine J_iconst X (pc := 1) (v := 0) dL_clean_1 (by decide +kernel) ?_
  refine J_aload_n X (pc := 2) dL_clean_2 0 rfl ?_
  refine J_iload_n X (pc := 3) dL_clean_3 1 rfl ?_
  refine J_iload_n X (pc := 4) dL_clean_4 2 rfl ?_
  refine J_perm (w1 := cW E ad T ++ [outC E ao g]) (List.perm_append_comm (l₁ := [outC E ao g])) ?_
  refine J_callCVF X XX (pc := 5) (y := yX7_clean) (na := 2) (As := [.int a1, .int a2]) (rest := [.int 0, .ref ao]) (t_X7_clean E ad h) 0 cW_c0 rfl q_583 q_584 q_585 q_14 q_373 rfl (by decide +kernel) (by decide +kernel) rfl (Nat.le_of_ble_eq_true rfl) ⟨by decide +kernel, by decide +kernel⟩ dL_clean_5 [⟨0, 10, 13, 21⟩, ⟨0, 10, 17, 13⟩] [] ⟨0, 10, 21, 15⟩  htab (fun z hz => by
    rcases List.mem_cons.mp hz with hz | hz
    · subst hz; exact Or.inr ⟨by decide, "java/lang/IndexOutOfBoundsException", q_574, XN _ nc_2⟩
    · cases List.mem_singleton.mp hz; exact Or.inr ⟨by decide, "java/lang/IllegalArgumentException", q_568, XN _ nc_0⟩) (by decide) (by decide) q_569 nq_1 (fun q9 => ?_)
  refine J_perm (w1 := outC E ao g :: cW E ad T2) (List.perm_append_comm (l₂ := [outC E ao g])) ?_
  refine J_astore X (pc := 21) dL_clean_21 (by decide) rfl ?_
  refine J_iconst X (pc := 23) (v := 3) dL_clean_23 (by decide +kernel) ?_
  refine J_widen (k2 := 16) (n2 := 398) (by decide +kernel) (by decide +kernel) ?_
  exact hE ad rfl _ _ dL_clean_24
set_option maxRecDepth 100000 in
set_option maxHeartbeats 4000000 in
theorem h_setRule (E : Ev) (ad : CA) (ao : Nat) (g : Nat → Int64) {a1 : Int32} {a2 : Int32} {a3 : Int32} {T : TS} {T2 : TS} (h : f_X7_setRule a1 a2 a3 T = some T2) : CtH E yL_setRule cL_setRule 5 [(0, 7, 10, 21), (0, 7, 14, 13)] 9 170 16 398 (outC E ao g :: cW E ad T) [.ref (ad.1 0), .int a1, .int a2, .int a3]  0 (fun ad2 : CA => ad2.1 0 = ad.1 0) (fun ad2 => outC E ao g :: cW E ad2 T2) := by
  refine CtH_of (by decide +kernel) (Nat.le_of_ble_eq_true rfl) (fun x X XX XN htab hE => ?_)
  show J E x 0 0 (outC E ao g :: cW E ad T) 0 [(0, .ref (ad.1 0)), (1, .int a1), (2, .int a2), (3, .int a3)] []
  refine J_aload_n X (pc := 0) dL_setRule_0 0 rfl ?_
  refine J_iload_n X (pc := 1) dL_setRule_1 1 rfl ?_
  refine J_iload_n X (pc := 2) dL_setRule_2 2 rfl ?_
  refine J_iload_n X (pc := 3) dL_setRule_3 3 rfl ?_
  refine J_perm (w1 := cW E ad T ++ [outC E ao g]) (List.perm_append_comm (l₁ := [outC E ao g])) ?_
  refine J_callF0V X (pc := 4) (y := yX7_setRule) (na := 3) (As := [.int a1, .int a2, .int a3]) (rest := []) (c_X7_setRule E ad h) 0 cW_c0 rfl q_587 q_588 q_589 q_14 q_377 rfl (by decide +kernel) (by decide +kernel) rfl (Nat.le_of_ble_eq_true rfl) ⟨by decide +kernel, by decide +kernel⟩ dL_setRule_4 ?_
  refine J_perm (w1 := outC E ao g :: cW E ad T2) (List.perm_append_comm (l₂ := [outC E ao g])) ?_
  refine J_goto X (pc := 7) 18 dL_setRule_7 (by decide) ?_
  refine J_iconst X (pc := 18) (v := 0) dL_setRule_18 (by decide +kernel) ?_
  refine J_widen (k2 := 16) (n2 := 398) (by decide +kernel) (by decide +kernel) ?_
  exact hE ad rfl _ _ dL_setRule_19
set_option maxRecDepth 100000 in
set_option maxHeartbeats 4000000 in
theorem hx_setRule_1 (E : Ev) (ad : CA) (ao : Nat) (g : Nat → Int64) {a1 : Int32} {a2 : Int32} {a3 : Int32} {T T2 : TS} (h : x_X7_setRule a1 a2 a3 T = some ("java/lang/IndexOutOfBoundsException", T2)) : CtH E yL_setRule cL_setRule 5 [(0, 7, 10, 21), (0, 7, 14, 13)] 9 170 16 398 (outC E ao g :: cW E ad T) [.ref (ad.1 0), .int a1, .int a2, .int a3]  1 (fun ad2 : CA => ad2.1 0 = ad.1 0) (fun ad2 => outC E ao g :: cW E ad2 T2) := by
  refine CtH_of (by decide +kernel) (Nat.le_of_ble_eq_true rfl) (fun x X XX XN htab hE => ?_)
  show J E x 0 0 (outC E ao g :: cW E ad T) 0 [(0, .ref (ad.1 0)), (1, .int a1), (2, .int a2), (3, .int a3)] []
  refine J_aload_n X (pc := 0) dL_setRule_0 0 rfl ?_
  refine J_iload_n X (pc := 1) dL_setRule_1 1 rfl ?_
  refine J_iload_n X (pc := 2) dL_setRule_2 2 rfl ?_
  refine J_iload_n X (pc := 3) dL_setRule_3 3 rfl ?_
  refine J_perm (w1 := cW E ad T ++ [outC E ao g]) (List.perm_append_comm (l₁ := [outC E ao g])) ?_
  refine J_callCVF X XX (pc := 4) (y := yX7_setRule) (na := 3) (As := [.int a1, .int a2, .int a3]) (rest := []) (t_X7_setRule E ad h) 0 cW_c0 rfl q_587 q_588 q_589 q_14 q_377 rfl (by decide +kernel) (by decide +kernel) rfl (Nat.le_of_ble_eq_true rfl) ⟨by decide +kernel, by decide +kernel⟩ dL_setRule_4 [] [⟨0, 7, 14, 13⟩] ⟨0, 7, 10, 21⟩  htab (fun z hz => absurd hz List.not_mem_nil) (by decide) (by decide) q_574 nq_17 (fun q9 => ?_)
  refine J_perm (w1 := outC E ao g :: cW E ad T2) (List.perm_append_comm (l₂ := [outC E ao g])) ?_
  refine J_astore X (pc := 10) dL_setRule_10 (by decide) rfl ?_
  refine J_iconst X (pc := 12) (v := 1) dL_setRule_12 (by decide +kernel) ?_
  refine J_widen (k2 := 16) (n2 := 398) (by decide +kernel) (by decide +kernel) ?_
  exact hE ad rfl _ _ dL_setRule_13
set_option maxRecDepth 100000 in
set_option maxHeartbeats 4000000 in
theorem hx_setRule_2 (E : Ev) (ad : CA) (ao : Nat) (g : Nat → Int64) {a1 : Int32} {a2 : Int32} {a3 : Int32} {T T2 : TS} (h : x_X7_setRule a1 a2 a3 T = some ("java/lang/IllegalArgumentException", T2)) : CtH E yL_setRule cL_setRule 5 [(0, 7, 10, 21), (0, 7, 14, 13)] 9 170 16 398 (outC E ao g :: cW E ad T) [.ref (ad.1 0), .int a1, .int a2, .int a3]  2 (fun ad2 : CA => ad2.1 0 = ad.1 0) (fun ad2 => outC E ao g :: cW E ad2 T2) := by
  refine CtH_of (by decide +kernel) (Nat.le_of_ble_eq_true rfl) (fun x X XX XN htab hE => ?_)
  show J E x 0 0 (outC E ao g :: cW E ad T) 0 [(0, .ref (ad.1 0)), (1, .int a1), (2, .int a2), (3, .int a3)] []
  refine J_aload_n X (pc := 0) dL_setRule_0 0 rfl ?_
  refine J_iload_n X (pc := 1) dL_setRule_1 1 rfl ?_
  refine J_iload_n X (pc := 2) dL_setRule_2 2 rfl ?_
  refine J_iload_n X (pc := 3) dL_setRule_3 3 rfl ?_
  refine J_perm (w1 := cW E ad T ++ [outC E ao g]) (List.perm_append_comm (l₁ := [outC E ao g])) ?_
  refine J_callCVF X XX (pc := 4) (y := yX7_setRule) (na := 3) (As := [.int a1, .int a2, .int a3]) (rest := []) (t_X7_setRule E ad h) 0 cW_c0 rfl q_587 q_588 q_589 q_14 q_377 rfl (by decide +kernel) (by decide +kernel) rfl (Nat.le_of_ble_eq_true rfl) ⟨by decide +kernel, by decide +kernel⟩ dL_setRule_4 [⟨0, 7, 10, 21⟩] [] ⟨0, 7, 14, 13⟩  htab (fun z hz => by cases List.mem_singleton.mp hz; exact Or.inr ⟨by decide, "java/lang/IndexOutOfBoundsException", q_574, XN _ nc_1⟩) (by decide) (by decide) q_568 nq_0 (fun q9 => ?_)
  refine J_perm (w1 := outC E ao g :: cW E ad T2) (List.perm_append_comm (l₂ := [outC E ao g])) ?_
  refine J_astore X (pc := 14) dL_setRule_14 (by decide) rfl ?_
  refine J_iconst X (pc := 16) (v := 2) dL_setRule_16 (by decide +kernel) ?_
  refine J_widen (k2 := 16) (n2 := 398) (by decide +kernel) (by decide +kernel) ?_
  exact hE ad rfl _ _ dL_setRule_17
set_option maxRecDepth 100000 in
set_option maxHeartbeats 4000000 in
theorem h_pass (E : Ev) (ad : CA) (ao : Nat) (g : Nat → Int64) {a1 : Int32} {T : TS} {r : Int32} {T2 : TS} (h : f_X7_pass a1 T = some (r, T2)) : CtH E yL_pass cL_pass 4 [(0, 9, 12, 13), (0, 9, 15, 15)] 9 170 16 398 (outC E ao g :: cW E ad T) [.ref (ad.1 0), .int a1, .ref ao]  0 (fun ad2 : CA => ad2.1 0 = ad.1 0) (fun ad2 => outC E ao (vp_updL g 0 r.toInt64) :: cW E ad2 T2) := by
  refine CtH_of (by decide +kernel) (Nat.le_of_ble_eq_true rfl) (fun x X XX XN htab hE => ?_)
  show J E x 0 0 (outC E ao g :: cW E ad T) 0 [(0, .ref (ad.1 0)), (1, .int a1), (2, .ref ao)] []
  refine J_aload_n X (pc := 0) dL_pass_0 2 rfl ?_
  refine J_iconst X (pc := 1) (v := 0) dL_pass_1 (by decide +kernel) ?_
  refine J_aload_n X (pc := 2) dL_pass_2 0 rfl ?_
  refine J_iload_n X (pc := 3) dL_pass_3 1 rfl ?_
  refine J_perm (w1 := cW E ad T ++ [outC E ao g]) (List.perm_append_comm (l₁ := [outC E ao g])) ?_
  refine J_callF0I X (pc := 4) (y := yX7_pass) (na := 1) (As := [.int a1]) (rest := [.int 0, .ref ao]) (c_X7_pass E ad h) 0 cW_c0 rfl q_591 q_592 q_593 q_14 q_381 rfl (by decide +kernel) (by decide +kernel) rfl (Nat.le_of_ble_eq_true rfl) ⟨by decide +kernel, by decide +kernel⟩ dL_pass_4 ?_
  refine J_perm (w1 := outC E ao g :: cW E ad T2) (List.perm_append_comm (l₂ := [outC E ao g])) ?_
  refine J_i2l X (pc := 7) dL_pass_7 ?_
  refine J_last X (pc := 8) (w1 := outC E ao (vp_updL g 0 r.toInt64) :: cW E ad T2) 0 rfl ⟨by decide, by decide⟩ dL_pass_8 rfl ?_
  refine J_goto X (pc := 9) 18 dL_pass_9 (by decide) ?_
  refine J_iconst X (pc := 18) (v := 0) dL_pass_18 (by decide +kernel) ?_
  refine J_widen (k2 := 16) (n2 := 398) (by decide +kernel) (by decide +kernel) ?_
  exact hE ad rfl _ _ dL_pass_19
set_option maxRecDepth 100000 in
set_option maxHeartbeats 4000000 in
theorem hx_pass_1 (E : Ev) (ad : CA) (ao : Nat) (g : Nat → Int64) {a1 : Int32} {T T2 : TS} (h : x_X7_pass a1 T = some ("java/lang/IllegalArgumentException", T2)) : CtH E yL_pass cL_pass 4 [(0, 9, 12, 13), (0, 9, 15, 15)] 9 170 16 398 (outC E ao g :: cW E ad T) [.ref (ad.1 0), .int a1, .ref ao]  1 (fun ad2 : CA => ad2.1 0 = ad.1 0) (fun ad2 => outC E ao g :: cW E ad2 T2) := by
  refine CtH_of (by decide +kernel) (Nat.le_of_ble_eq_true rfl) (fun x X XX XN htab hE => ?_)
  show J E x 0 0 (outC E ao g :: cW E ad T) 0 [(0, .ref (ad.1 0)), (1, .int a1), (2, .ref ao)] []
  refine J_aload_n X (pc := 0) dL_pass_0 2 rfl ?_
  refine J_iconst X (pc := 1) (v := 0) dL_pass_1 (by decide +kernel) ?_
  refine J_aload_n X (pc := 2) dL_pass_2 0 rfl ?_
  refine J_iload_n X (pc := 3) dL_pass_3 1 rfl ?_
  refine J_perm (w1 := cW E ad T ++ [outC E ao g]) (List.perm_append_comm (l₁ := [outC E ao g])) ?_
  refine J_callCVF X XX (pc := 4) (y := yX7_pass) (na := 1) (As := [.int a1]) (rest := [.int 0, .ref ao]) (t_X7_pass E ad h) 0 cW_c0 rfl q_591 q_592 q_593 q_14 q_381 rfl (by decide +kernel) (by decide +kernel) rfl (Nat.le_of_ble_eq_true rfl) ⟨by decide +kernel, by decide +kernel⟩ dL_pass_4 [] [⟨0, 9, 15, 15⟩] ⟨0, 9, 12, 13⟩  htab (fun z hz => absurd hz List.not_mem_nil) (by decide) (by decide) q_568 nq_0 (fun q9 => ?_)
  refine J_perm (w1 := outC E ao g :: cW E ad T2) (List.perm_append_comm (l₂ := [outC E ao g])) ?_
  refine J_astore_n X (pc := 12) dL_pass_12 (by decide) rfl ?_
  refine J_iconst X (pc := 13) (v := 1) dL_pass_13 (by decide +kernel) ?_
  refine J_widen (k2 := 16) (n2 := 398) (by decide +kernel) (by decide +kernel) ?_
  exact hE ad rfl _ _ dL_pass_14
set_option maxRecDepth 100000 in
set_option maxHeartbeats 4000000 in
theorem hx_pass_2 (E : Ev) (ad : CA) (ao : Nat) (g : Nat → Int64) {a1 : Int32} {T T2 : TS} (h : x_X7_pass a1 T = some ("java/lang/IllegalStateException", T2)) : CtH E yL_pass cL_pass 4 [(0, 9, 12, 13), (0, 9, 15, 15)] 9 170 16 398 (outC E ao g :: cW E ad T) [.ref (ad.1 0), .int a1, .ref ao]  2 (fun ad2 : CA => ad2.1 0 = ad.1 0) (fun ad2 => outC E ao g :: cW E ad2 T2) := by
  refine CtH_of (by decide +kernel) (Nat.le_of_ble_eq_true rfl) (fun x X XX XN htab hE => ?_)
  show J E x 0 0 (outC E ao g :: cW E ad T) 0 [(0, .ref (ad.1 0)), (1, .int a1), (2, .ref ao)] []
  refine J_aload_n X (pc := 0) dL_pass_0 2 rfl ?_
  refine J_iconst X (pc := 1) (v := 0) dL_pass_1 (by decide +kernel) ?_
  refine J_aload_n X (pc := 2) dL_pass_2 0 rfl ?_
  refine J_iload_n X (pc := 3) dL_pass_3 1 rfl ?_
  refine J_perm (w1 := cW E ad T ++ [outC E ao g]) (List.perm_append_comm (l₁ := [outC E ao g])) ?_
  refine J_callCVF X XX (pc := 4) (y := yX7_pass) (na := 1) (As := [.int a1]) (rest := [.int 0, .ref ao]) (t_X7_pass E ad h) 0 cW_c0 rfl q_591 q_592 q_593 q_14 q_381 rfl (by decide +kernel) (by decide +kernel) rfl (Nat.le_of_ble_eq_true rfl) ⟨by decide +kernel, by decide +kernel⟩ dL_pass_4 [⟨0, 9, 12, 13⟩] [] ⟨0, 9, 15, 15⟩  htab (fun z hz => by cases List.mem_singleton.mp hz; exact Or.inr ⟨by decide, "java/lang/IllegalArgumentException", q_568, XN _ nc_0⟩) (by decide) (by decide) q_569 nq_1 (fun q9 => ?_)
  refine J_perm (w1 := outC E ao g :: cW E ad T2) (List.perm_append_comm (l₂ := [outC E ao g])) ?_
  refine J_astore_n X (pc := 15) dL_pass_15 (by decide) rfl ?_
  refine J_iconst X (pc := 16) (v := 2) dL_pass_16 (by decide +kernel) ?_
  refine J_widen (k2 := 16) (n2 := 398) (by decide +kernel) (by decide +kernel) ?_
  exact hE ad rfl _ _ dL_pass_17
set_option maxRecDepth 100000 in
set_option maxHeartbeats 4000000 in
theorem h_samples (E : Ev) (ad : CA) (ao : Nat) (g : Nat → Int64) {a1 : Int32} {T : TS} {r : Int32} (h : f_X7_samples a1 T = some r) : CtH E yL_samples cL_samples 4 [(0, 9, 12, 21)] 9 170 16 398 (outC E ao g :: cW E ad T) [.ref (ad.1 0), .int a1, .ref ao]  0 (fun ad2 : CA => ad2.1 0 = ad.1 0) (fun ad2 => outC E ao (vp_updL g 0 r.toInt64) :: cW E ad2 T) := by
  refine CtH_of (by decide +kernel) (Nat.le_of_ble_eq_true rfl) (fun x X XX XN htab hE => ?_)
  show J E x 0 0 (outC E ao g :: cW E ad T) 0 [(0, .ref (ad.1 0)), (1, .int a1), (2, .ref ao)] []
  refine J_aload_n X (pc := 0) dL_samples_0 2 rfl ?_
  refine J_iconst X (pc := 1) (v := 0) dL_samples_1 (by decide +kernel) ?_
  refine J_aload_n X (pc := 2) dL_samples_2 0 rfl ?_
  refine J_iload_n X (pc := 3) dL_samples_3 1 rfl ?_
  refine J_perm (w1 := cW E ad T ++ [outC E ao g]) (List.perm_append_comm (l₁ := [outC E ao g])) ?_
  refine J_callF0I X (pc := 4) (y := yX7_samples) (na := 1) (As := [.int a1]) (rest := [.int 0, .ref ao]) (c_X7_samples E ad h) 0 cW_c0 rfl q_595 q_596 q_597 q_14 q_383 rfl (by decide +kernel) (by decide +kernel) rfl (Nat.le_of_ble_eq_true rfl) ⟨by decide +kernel, by decide +kernel⟩ dL_samples_4 ?_
  refine J_perm (w1 := outC E ao g :: cW E ad T) (List.perm_append_comm (l₂ := [outC E ao g])) ?_
  refine J_i2l X (pc := 7) dL_samples_7 ?_
  refine J_last X (pc := 8) (w1 := outC E ao (vp_updL g 0 r.toInt64) :: cW E ad T) 0 rfl ⟨by decide, by decide⟩ dL_samples_8 rfl ?_
  refine J_goto X (pc := 9) 15 dL_samples_9 (by decide) ?_
  refine J_iconst X (pc := 15) (v := 0) dL_samples_15 (by decide +kernel) ?_
  refine J_widen (k2 := 16) (n2 := 398) (by decide +kernel) (by decide +kernel) ?_
  exact hE ad rfl _ _ dL_samples_16
set_option maxRecDepth 100000 in
set_option maxHeartbeats 4000000 in
theorem hx_samples_1 (E : Ev) (ad : CA) (ao : Nat) (g : Nat → Int64) {a1 : Int32} {T T2 : TS} (h : x_X7_samples a1 T = some ("java/lang/IndexOutOfBoundsException", T2)) : CtH E yL_samples cL_samples 4 [(0, 9, 12, 21)] 9 170 16 398 (outC E ao g :: cW E ad T) [.ref (ad.1 0), .int a1, .ref ao]  1 (fun ad2 : CA => ad2.1 0 = ad.1 0) (fun ad2 => outC E ao g :: cW E ad2 T2) := by
  refine CtH_of (by decide +kernel) (Nat.le_of_ble_eq_true rfl) (fun x X XX XN htab hE => ?_)
  show J E x 0 0 (outC E ao g :: cW E ad T) 0 [(0, .ref (ad.1 0)), (1, .int a1), (2, .ref ao)] []
  refine J_aload_n X (pc := 0) dL_samples_0 2 rfl ?_
  refine J_iconst X (pc := 1) (v := 0) dL_samples_1 (by decide +kernel) ?_
  refine J_aload_n X (pc := 2) dL_samples_2 0 rfl ?_
  refine J_iload_n X (pc := 3) dL_samples_3 1 rfl ?_
  refine J_perm (w1 := cW E ad T ++ [outC E ao g]) (List.perm_append_comm (l₁ := [outC E ao g])) ?_
  refine J_callCVF X XX (pc := 4) (y := yX7_samples) (na := 1) (As := [.int a1]) (rest := [.int 0, .ref ao]) (t_X7_samples E ad h) 0 cW_c0 rfl q_595 q_596 q_597 q_14 q_383 rfl (by decide +kernel) (by decide +kernel) rfl (Nat.le_of_ble_eq_true rfl) ⟨by decide +kernel, by decide +kernel⟩ dL_samples_4 [] [] ⟨0, 9, 12, 21⟩  htab (fun z hz => absurd hz List.not_mem_nil) (by decide) (by decide) q_574 nq_17 (fun q9 => ?_)
  refine J_perm (w1 := outC E ao g :: cW E ad T2) (List.perm_append_comm (l₂ := [outC E ao g])) ?_
  refine J_astore_n X (pc := 12) dL_samples_12 (by decide) rfl ?_
  refine J_iconst X (pc := 13) (v := 1) dL_samples_13 (by decide +kernel) ?_
  refine J_widen (k2 := 16) (n2 := 398) (by decide +kernel) (by decide +kernel) ?_
  exact hE ad rfl _ _ dL_samples_14
set_option maxRecDepth 100000 in
set_option maxHeartbeats 4000000 in
theorem h_slopeNumerator (E : Ev) (ad : CA) (ao : Nat) (g : Nat → Int64) {a1 : Int32} {T : TS} {r : Int32} {T2 : TS} (h : f_X7_slopeNumerator a1 T = some (r, T2)) : CtH E yL_slopeNumerator cL_slopeNumerator 4 [(0, 9, 12, 21), (0, 9, 15, 15)] 9 170 16 398 (outC E ao g :: cW E ad T) [.ref (ad.1 0), .int a1, .ref ao]  0 (fun ad2 : CA => ad2.1 0 = ad.1 0) (fun ad2 => outC E ao (vp_updL g 0 r.toInt64) :: cW E ad2 T2) := by
  refine CtH_of (by decide +kernel) (Nat.le_of_ble_eq_true rfl) (fun x X XX XN htab hE => ?_)
  show J E x 0 0 (outC E ao g :: cW E ad T) 0 [(0, .ref (ad.1 0)), (1, .int a1), (2, .ref ao)] []
  refine J_aload_n X (pc := 0) dL_slopeNumerator_0 2 rfl ?_
  refine J_iconst X (pc := 1) (v := 0) dL_slopeNumerator_1 (by decide +kernel) ?_
  refine J_aload_n X (pc := 2) dL_slopeNumerator_2 0 rfl ?_
  refine J_iload_n X (pc := 3) dL_slopeNumerator_3 1 rfl ?_
  refine J_perm (w1 := cW E ad T ++ [outC E ao g]) (List.perm_append_comm (l₁ := [outC E ao g])) ?_
  refine J_callF0I X (pc := 4) (y := yX7_slopeNumerator) (na := 1) (As := [.int a1]) (rest := [.int 0, .ref ao]) (c_X7_slopeNumerator E ad h) 0 cW_c0 rfl q_599 q_600 q_601 q_14 q_393 rfl (by decide +kernel) (by decide +kernel) rfl (Nat.le_of_ble_eq_true rfl) ⟨by decide +kernel, by decide +kernel⟩ dL_slopeNumerator_4 ?_
  refine J_perm (w1 := outC E ao g :: cW E ad T2) (List.perm_append_comm (l₂ := [outC E ao g])) ?_
  refine J_i2l X (pc := 7) dL_slopeNumerator_7 ?_
  refine J_last X (pc := 8) (w1 := outC E ao (vp_updL g 0 r.toInt64) :: cW E ad T2) 0 rfl ⟨by decide, by decide⟩ dL_slopeNumerator_8 rfl ?_
  refine J_goto X (pc := 9) 18 dL_slopeNumerator_9 (by decide) ?_
  refine J_iconst X (pc := 18) (v := 0) dL_slopeNumerator_18 (by decide +kernel) ?_
  refine J_widen (k2 := 16) (n2 := 398) (by decide +kernel) (by decide +kernel) ?_
  exact hE ad rfl _ _ dL_slopeNumerator_19
set_option maxRecDepth 100000 in
set_option maxHeartbeats 4000000 in
theorem hx_slopeNumerator_1 (E : Ev) (ad : CA) (ao : Nat) (g : Nat → Int64) {a1 : Int32} {T T2 : TS} (h : x_X7_slopeNumerator a1 T = some ("java/lang/IndexOutOfBoundsException", T2)) : CtH E yL_slopeNumerator cL_slopeNumerator 4 [(0, 9, 12, 21), (0, 9, 15, 15)] 9 170 16 398 (outC E ao g :: cW E ad T) [.ref (ad.1 0), .int a1, .ref ao]  1 (fun ad2 : CA => ad2.1 0 = ad.1 0) (fun ad2 => outC E ao g :: cW E ad2 T2) := by
  refine CtH_of (by decide +kernel) (Nat.le_of_ble_eq_true rfl) (fun x X XX XN htab hE => ?_)
  show J E x 0 0 (outC E ao g :: cW E ad T) 0 [(0, .ref (ad.1 0)), (1, .int a1), (2, .ref ao)] []
  refine J_aload_n X (pc := 0) dL_slopeNumerator_0 2 rfl ?_
  refine J_iconst X (pc := 1) (v := 0) dL_slopeNumerator_1 (by decide +kernel) ?_
  refine J_aload_n X (pc := 2) dL_slopeNumerator_2 0 rfl ?_
  refine J_iload_n X (pc := 3) dL_slopeNumerator_3 1 rfl ?_
  refine J_perm (w1 := cW E ad T ++ [outC E ao g]) (List.perm_append_comm (l₁ := [outC E ao g])) ?_
  refine J_callCVF X XX (pc := 4) (y := yX7_slopeNumerator) (na := 1) (As := [.int a1]) (rest := [.int 0, .ref ao]) (t_X7_slopeNumerator E ad h) 0 cW_c0 rfl q_599 q_600 q_601 q_14 q_393 rfl (by decide +kernel) (by decide +kernel) rfl (Nat.le_of_ble_eq_true rfl) ⟨by decide +kernel, by decide +kernel⟩ dL_slopeNumerator_4 [] [⟨0, 9, 15, 15⟩] ⟨0, 9, 12, 21⟩  htab (fun z hz => absurd hz List.not_mem_nil) (by decide) (by decide) q_574 nq_17 (fun q9 => ?_)
  refine J_perm (w1 := outC E ao g :: cW E ad T2) (List.perm_append_comm (l₂ := [outC E ao g])) ?_
  refine J_astore_n X (pc := 12) dL_slopeNumerator_12 (by decide) rfl ?_
  refine J_iconst X (pc := 13) (v := 1) dL_slopeNumerator_13 (by decide +kernel) ?_
  refine J_widen (k2 := 16) (n2 := 398) (by decide +kernel) (by decide +kernel) ?_
  exact hE ad rfl _ _ dL_slopeNumerator_14
set_option maxRecDepth 100000 in
set_option maxHeartbeats 4000000 in
theorem hx_slopeNumerator_2 (E : Ev) (ad : CA) (ao : Nat) (g : Nat → Int64) {a1 : Int32} {T T2 : TS} (h : x_X7_slopeNumerator a1 T = some ("java/lang/IllegalStateException", T2)) : CtH E yL_slopeNumerator cL_slopeNumerator 4 [(0, 9, 12, 21), (0, 9, 15, 15)] 9 170 16 398 (outC E ao g :: cW E ad T) [.ref (ad.1 0), .int a1, .ref ao]  2 (fun ad2 : CA => ad2.1 0 = ad.1 0) (fun ad2 => outC E ao g :: cW E ad2 T2) := by
  refine CtH_of (by decide +kernel) (Nat.le_of_ble_eq_true rfl) (fun x X XX XN htab hE => ?_)
  show J E x 0 0 (outC E ao g :: cW E ad T) 0 [(0, .ref (ad.1 0)), (1, .int a1), (2, .ref ao)] []
  refine J_aload_n X (pc := 0) dL_slopeNumerator_0 2 rfl ?_
  refine J_iconst X (pc := 1) (v := 0) dL_slopeNumerator_1 (by decide +kernel) ?_
  refine J_aload_n X (pc := 2) dL_slopeNumerator_2 0 rfl ?_
  refine J_iload_n X (pc := 3) dL_slopeNumerator_3 1 rfl ?_
  refine J_perm (w1 := cW E ad T ++ [outC E ao g]) (List.perm_append_comm (l₁ := [outC E ao g])) ?_
  refine J_callCVF X XX (pc := 4) (y := yX7_slopeNumerator) (na := 1) (As := [.int a1]) (rest := [.int 0, .ref ao]) (t_X7_slopeNumerator E ad h) 0 cW_c0 rfl q_599 q_600 q_601 q_14 q_393 rfl (by decide +kernel) (by decide +kernel) rfl (Nat.le_of_ble_eq_true rfl) ⟨by decide +kernel, by decide +kernel⟩ dL_slopeNumerator_4 [⟨0, 9, 12, 21⟩] [] ⟨0, 9, 15, 15⟩  htab (fun z hz => by cases List.mem_singleton.mp hz; exact Or.inr ⟨by decide, "java/lang/IndexOutOfBoundsException", q_574, XN _ nc_2⟩) (by decide) (by decide) q_569 nq_1 (fun q9 => ?_)
  refine J_perm (w1 := outC E ao g :: cW E ad T2) (List.perm_append_comm (l₂ := [outC E ao g])) ?_
  refine J_astore_n X (pc := 15) dL_slopeNumerator_15 (by decide) rfl ?_
  refine J_iconst X (pc := 16) (v := 2) dL_slopeNumerator_16 (by decide +kernel) ?_
  refine J_widen (k2 := 16) (n2 := 398) (by decide +kernel) (by decide +kernel) ?_
  exact hE ad rfl _ _ dL_slopeNumerator_17
set_option maxRecDepth 100000 in
set_option maxHeartbeats 4000000 in
theorem h_slopeDenominator (E : Ev) (ad : CA) (ao : Nat) (g : Nat → Int64) {a1 : Int32} {T : TS} {r : Int32} {T2 : TS} (h : f_X7_slopeDenominator a1 T = some (r, T2)) : CtH E yL_slopeDenominator cL_slopeDenominator 4 [(0, 9, 12, 21), (0, 9, 15, 15)] 9 170 16 398 (outC E ao g :: cW E ad T) [.ref (ad.1 0), .int a1, .ref ao]  0 (fun ad2 : CA => ad2.1 0 = ad.1 0) (fun ad2 => outC E ao (vp_updL g 0 r.toInt64) :: cW E ad2 T2) := by
  refine CtH_of (by decide +kernel) (Nat.le_of_ble_eq_true rfl) (fun x X XX XN htab hE => ?_)
  show J E x 0 0 (outC E ao g :: cW E ad T) 0 [(0, .ref (ad.1 0)), (1, .int a1), (2, .ref ao)] []
  refine J_aload_n X (pc := 0) dL_slopeDenominator_0 2 rfl ?_
  refine J_iconst X (pc := 1) (v := 0) dL_slopeDenominator_1 (by decide +kernel) ?_
  refine J_aload_n X (pc := 2) dL_slopeDenominator_2 0 rfl ?_
  refine J_iload_n X (pc := 3) dL_slopeDenominator_3 1 rfl ?_
  refine J_perm (w1 := cW E ad T ++ [outC E ao g]) (List.perm_append_comm (l₁ := [outC E ao g])) ?_
  refine J_callF0I X (pc := 4) (y := yX7_slopeDenominator) (na := 1) (As := [.int a1]) (rest := [.int 0, .ref ao]) (c_X7_slopeDenominator E ad h) 0 cW_c0 rfl q_603 q_604 q_605 q_14 q_397 rfl (by decide +kernel) (by decide +kernel) rfl (Nat.le_of_ble_eq_true rfl) ⟨by decide +kernel, by decide +kernel⟩ dL_slopeDenominator_4 ?_
  refine J_perm (w1 := outC E ao g :: cW E ad T2) (List.perm_append_comm (l₂ := [outC E ao g])) ?_
  refine J_i2l X (pc := 7) dL_slopeDenominator_7 ?_
  refine J_last X (pc := 8) (w1 := outC E ao (vp_updL g 0 r.toInt64) :: cW E ad T2) 0 rfl ⟨by decide, by decide⟩ dL_slopeDenominator_8 rfl ?_
  refine J_goto X (pc := 9) 18 dL_slopeDenominator_9 (by decide) ?_
  refine J_iconst X (pc := 18) (v := 0) dL_slopeDenominator_18 (by decide +kernel) ?_
  refine J_widen (k2 := 16) (n2 := 398) (by decide +kernel) (by decide +kernel) ?_
  exact hE ad rfl _ _ dL_slopeDenominator_19
set_option maxRecDepth 100000 in
set_option maxHeartbeats 4000000 in
theorem hx_slopeDenominator_1 (E : Ev) (ad : CA) (ao : Nat) (g : Nat → Int64) {a1 : Int32} {T T2 : TS} (h : x_X7_slopeDenominator a1 T = some ("java/lang/IndexOutOfBoundsException", T2)) : CtH E yL_slopeDenominator cL_slopeDenominator 4 [(0, 9, 12, 21), (0, 9, 15, 15)] 9 170 16 398 (outC E ao g :: cW E ad T) [.ref (ad.1 0), .int a1, .ref ao]  1 (fun ad2 : CA => ad2.1 0 = ad.1 0) (fun ad2 => outC E ao g :: cW E ad2 T2) := by
  refine CtH_of (by decide +kernel) (Nat.le_of_ble_eq_true rfl) (fun x X XX XN htab hE => ?_)
  show J E x 0 0 (outC E ao g :: cW E ad T) 0 [(0, .ref (ad.1 0)), (1, .int a1), (2, .ref ao)] []
  refine J_aload_n X (pc := 0) dL_slopeDenominator_0 2 rfl ?_
  refine J_iconst X (pc := 1) (v := 0) dL_slopeDenominator_1 (by decide +kernel) ?_
  refine J_aload_n X (pc := 2) dL_slopeDenominator_2 0 rfl ?_
  refine J_iload_n X (pc := 3) dL_slopeDenominator_3 1 rfl ?_
  refine J_perm (w1 := cW E ad T ++ [outC E ao g]) (List.perm_append_comm (l₁ := [outC E ao g])) ?_
  refine J_callCVF X XX (pc := 4) (y := yX7_slopeDenominator) (na := 1) (As := [.int a1]) (rest := [.int 0, .ref ao]) (t_X7_slopeDenominator E ad h) 0 cW_c0 rfl q_603 q_604 q_605 q_14 q_397 rfl (by decide +kernel) (by decide +kernel) rfl (Nat.le_of_ble_eq_true rfl) ⟨by decide +kernel, by decide +kernel⟩ dL_slopeDenominator_4 [] [⟨0, 9, 15, 15⟩] ⟨0, 9, 12, 21⟩  htab (fun z hz => absurd hz List.not_mem_nil) (by decide) (by decide) q_574 nq_17 (fun q9 => ?_)
  refine J_perm (w1 := outC E ao g :: cW E ad T2) (List.perm_append_comm (l₂ := [outC E ao g])) ?_
  refine J_astore_n X (pc := 12) dL_slopeDenominator_12 (by decide) rfl ?_
  refine J_iconst X (pc := 13) (v := 1) dL_slopeDenominator_13 (by decide +kernel) ?_
  refine J_widen (k2 := 16) (n2 := 398) (by decide +kernel) (by decide +kernel) ?_
  exact hE ad rfl _ _ dL_slopeDenominator_14
set_option maxRecDepth 100000 in
set_option maxHeartbeats 4000000 in
theorem hx_slopeDenominator_2 (E : Ev) (ad : CA) (ao : Nat) (g : Nat → Int64) {a1 : Int32} {T T2 : TS} (h : x_X7_slopeDenominator a1 T = some ("java/lang/IllegalStateException", T2)) : CtH E yL_slopeDenominator cL_slopeDenominator 4 [(0, 9, 12, 21), (0, 9, 15, 15)] 9 170 16 398 (outC E ao g :: cW E ad T) [.ref (ad.1 0), .int a1, .ref ao]  2 (fun ad2 : CA => ad2.1 0 = ad.1 0) (fun ad2 => outC E ao g :: cW E ad2 T2) := by
  refine CtH_of (by decide +kernel) (Nat.le_of_ble_eq_true rfl) (fun x X XX XN htab hE => ?_)
  show J E x 0 0 (outC E ao g :: cW E ad T) 0 [(0, .ref (ad.1 0)), (1, .int a1), (2, .ref ao)] []
  refine J_aload_n X (pc := 0) dL_slopeDenominator_0 2 rfl ?_
  refine J_iconst X (pc := 1) (v := 0) dL_slopeDenominator_1 (by decide +kernel) ?_
  refine J_aload_n X (pc := 2) dL_slopeDenominator_2 0 rfl ?_
  refine J_iload_n X (pc := 3) dL_slopeDenominator_3 1 rfl ?_
  refine J_perm (w1 := cW E ad T ++ [outC E ao g]) (List.perm_append_comm (l₁ := [outC E ao g])) ?_
  refine J_callCVF X XX (pc := 4) (y := yX7_slopeDenominator) (na := 1) (As := [.int a1]) (rest := [.int 0, .ref ao]) (t_X7_slopeDenominator E ad h) 0 cW_c0 rfl q_603 q_604 q_605 q_14 q_397 rfl (by decide +kernel) (by decide +kernel) rfl (Nat.le_of_ble_eq_true rfl) ⟨by decide +kernel, by decide +kernel⟩ dL_slopeDenominator_4 [⟨0, 9, 12, 21⟩] [] ⟨0, 9, 15, 15⟩  htab (fun z hz => by cases List.mem_singleton.mp hz; exact Or.inr ⟨by decide, "java/lang/IndexOutOfBoundsException", q_574, XN _ nc_2⟩) (by decide) (by decide) q_569 nq_1 (fun q9 => ?_)
  refine J_perm (w1 := outC E ao g :: cW E ad T2) (List.perm_append_comm (l₂ := [outC E ao g])) ?_
  refine J_astore_n X (pc := 15) dL_slopeDenominator_15 (by decide) rfl ?_
  refine J_iconst X (pc := 16) (v := 2) dL_slopeDenominator_16 (by decide +kernel) ?_
  refine J_widen (k2 := 16) (n2 := 398) (by decide +kernel) (by decide +kernel) ?_
  exact hE ad rfl _ _ dL_slopeDenominator_17
set_option maxRecDepth 100000 in
set_option maxHeartbeats 4000000 in
theorem h_usual (E : Ev) (ad : CA) (ao : Nat) (g : Nat → Int64) {a1 : Int32} {T : TS} {r : Int32} (h : f_X7_usual a1 T = some r) : CtH E yL_usual cL_usual 4 [(0, 9, 12, 21)] 9 170 16 398 (outC E ao g :: cW E ad T) [.ref (ad.1 0), .int a1, .ref ao]  0 (fun ad2 : CA => ad2.1 0 = ad.1 0) (fun ad2 => outC E ao (vp_updL g 0 r.toInt64) :: cW E ad2 T) := by
  refine CtH_of (by decide +kernel) (Nat.le_of_ble_eq_true rfl) (fun x X XX XN htab hE => ?_)
  show J E x 0 0 (outC E ao g :: cW E ad T) 0 [(0, .ref (ad.1 0)), (1, .int a1), (2, .ref ao)] []
  refine J_aload_n X (pc := 0) dL_usual_0 2 rfl ?_
  refine J_iconst X (pc := 1) (v := 0) dL_usual_1 (by decide +kernel) ?_
  refine J_aload_n X (pc := 2) dL_usual_2 0 rfl ?_
  refine J_iload_n X (pc := 3) dL_usual_3 1 rfl ?_
  refine J_perm (w1 := cW E ad T ++ [outC E ao g]) (List.perm_append_comm (l₁ := [outC E ao g])) ?_
  refine J_callF0I X (pc := 4) (y := yX7_usual) (na := 1) (As := [.int a1]) (rest := [.int 0, .ref ao]) (c_X7_usual E ad h) 0 cW_c0 rfl q_607 q_608 q_609 q_14 q_399 rfl (by decide +kernel) (by decide +kernel) rfl (Nat.le_of_ble_eq_true rfl) ⟨by decide +kernel, by decide +kernel⟩ dL_usual_4 ?_
  refine J_perm (w1 := outC E ao g :: cW E ad T) (List.perm_append_comm (l₂ := [outC E ao g])) ?_
  refine J_i2l X (pc := 7) dL_usual_7 ?_
  refine J_last X (pc := 8) (w1 := outC E ao (vp_updL g 0 r.toInt64) :: cW E ad T) 0 rfl ⟨by decide, by decide⟩ dL_usual_8 rfl ?_
  refine J_goto X (pc := 9) 15 dL_usual_9 (by decide) ?_
  refine J_iconst X (pc := 15) (v := 0) dL_usual_15 (by decide +kernel) ?_
  refine J_widen (k2 := 16) (n2 := 398) (by decide +kernel) (by decide +kernel) ?_
  exact hE ad rfl _ _ dL_usual_16
set_option maxRecDepth 100000 in
set_option maxHeartbeats 4000000 in
theorem hx_usual_1 (E : Ev) (ad : CA) (ao : Nat) (g : Nat → Int64) {a1 : Int32} {T T2 : TS} (h : x_X7_usual a1 T = some ("java/lang/IndexOutOfBoundsException", T2)) : CtH E yL_usual cL_usual 4 [(0, 9, 12, 21)] 9 170 16 398 (outC E ao g :: cW E ad T) [.ref (ad.1 0), .int a1, .ref ao]  1 (fun ad2 : CA => ad2.1 0 = ad.1 0) (fun ad2 => outC E ao g :: cW E ad2 T2) := by
  refine CtH_of (by decide +kernel) (Nat.le_of_ble_eq_true rfl) (fun x X XX XN htab hE => ?_)
  show J E x 0 0 (outC E ao g :: cW E ad T) 0 [(0, .ref (ad.1 0)), (1, .int a1), (2, .ref ao)] []
  refine J_aload_n X (pc := 0) dL_usual_0 2 rfl ?_
  refine J_iconst X (pc := 1) (v := 0) dL_usual_1 (by decide +kernel) ?_
  refine J_aload_n X (pc := 2) dL_usual_2 0 rfl ?_
  refine J_iload_n X (pc := 3) dL_usual_3 1 rfl ?_
  refine J_perm (w1 := cW E ad T ++ [outC E ao g]) (List.perm_append_comm (l₁ := [outC E ao g])) ?_
  refine J_callCVF X XX (pc := 4) (y := yX7_usual) (na := 1) (As := [.int a1]) (rest := [.int 0, .ref ao]) (t_X7_usual E ad h) 0 cW_c0 rfl q_607 q_608 q_609 q_14 q_399 rfl (by decide +kernel) (by decide +kernel) rfl (Nat.le_of_ble_eq_true rfl) ⟨by decide +kernel, by decide +kernel⟩ dL_usual_4 [] [] ⟨0, 9, 12, 21⟩  htab (fun z hz => absurd hz List.not_mem_nil) (by decide) (by decide) q_574 nq_17 (fun q9 => ?_)
  refine J_perm (w1 := outC E ao g :: cW E ad T2) (List.perm_append_comm (l₂ := [outC E ao g])) ?_
  refine J_astore_n X (pc := 12) dL_usual_12 (by decide) rfl ?_
  refine J_iconst X (pc := 13) (v := 1) dL_usual_13 (by decide +kernel) ?_
  refine J_widen (k2 := 16) (n2 := 398) (by decide +kernel) (by decide +kernel) ?_
  exact hE ad rfl _ _ dL_usual_14
set_option maxRecDepth 100000 in
set_option maxHeartbeats 4000000 in
theorem h_forecast (E : Ev) (ad : CA) (ao : Nat) (g : Nat → Int64) {a1 : Int32} {a2 : Int32} {T : TS} {r : Int32} {T2 : TS} (h : f_X7_forecast a1 a2 T = some (r, T2)) : CtH E yL_forecast cL_forecast 5 [(0, 10, 13, 21), (0, 10, 17, 15), (0, 10, 21, 13)] 9 170 16 398 (outC E ao g :: cW E ad T) [.ref (ad.1 0), .int a1, .int a2, .ref ao]  0 (fun ad2 : CA => ad2.1 0 = ad.1 0) (fun ad2 => outC E ao (vp_updL g 0 r.toInt64) :: cW E ad2 T2) := by
  refine CtH_of (by decide +kernel) (Nat.le_of_ble_eq_true rfl) (fun x X XX XN htab hE => ?_)
  show J E x 0 0 (outC E ao g :: cW E ad T) 0 [(0, .ref (ad.1 0)), (1, .int a1), (2, .int a2), (3, .ref ao)] []
  refine J_aload_n X (pc := 0) dL_forecast_0 3 rfl ?_
  refine J_iconst X (pc := 1) (v := 0) dL_forecast_1 (by decide +kernel) ?_
  refine J_aload_n X (pc := 2) dL_forecast_2 0 rfl ?_
  refine J_iload_n X (pc := 3) dL_forecast_3 1 rfl ?_
  refine J_iload_n X (pc := 4) dL_forecast_4 2 rfl ?_
  refine J_perm (w1 := cW E ad T ++ [outC E ao g]) (List.perm_append_comm (l₁ := [outC E ao g])) ?_
  refine J_callF0I X (pc := 5) (y := yX7_forecast) (na := 2) (As := [.int a1, .int a2]) (rest := [.int 0, .ref ao]) (c_X7_forecast E ad h) 0 cW_c0 rfl q_611 q_612 q_613 q_14 q_401 rfl (by decide +kernel) (by decide +kernel) rfl (Nat.le_of_ble_eq_true rfl) ⟨by decide +kernel, by decide +kernel⟩ dL_forecast_5 ?_
  refine J_perm (w1 := outC E ao g :: cW E ad T2) (List.perm_append_comm (l₂ := [outC E ao g])) ?_
  refine J_i2l X (pc := 8) dL_forecast_8 ?_
  refine J_last X (pc := 9) (w1 := outC E ao (vp_updL g 0 r.toInt64) :: cW E ad T2) 0 rfl ⟨by decide, by decide⟩ dL_forecast_9 rfl ?_
  refine J_goto X (pc := 10) 25 dL_forecast_10 (by decide) ?_
  refine J_iconst X (pc := 25) (v := 0) dL_forecast_25 (by decide +kernel) ?_
  refine J_widen (k2 := 16) (n2 := 398) (by decide +kernel) (by decide +kernel) ?_
  exact hE ad rfl _ _ dL_forecast_26
set_option maxRecDepth 100000 in
set_option maxHeartbeats 4000000 in
theorem hx_forecast_1 (E : Ev) (ad : CA) (ao : Nat) (g : Nat → Int64) {a1 : Int32} {a2 : Int32} {T T2 : TS} (h : x_X7_forecast a1 a2 T = some ("java/lang/IndexOutOfBoundsException", T2)) : CtH E yL_forecast cL_forecast 5 [(0, 10, 13, 21), (0, 10, 17, 15), (0, 10, 21, 13)] 9 170 16 398 (outC E ao g :: cW E ad T) [.ref (ad.1 0), .int a1, .int a2, .ref ao]  1 (fun ad2 : CA => ad2.1 0 = ad.1 0) (fun ad2 => outC E ao g :: cW E ad2 T2) := by
  refine CtH_of (by decide +kernel) (Nat.le_of_ble_eq_true rfl) (fun x X XX XN htab hE => ?_)
  show J E x 0 0 (outC E ao g :: cW E ad T) 0 [(0, .ref (ad.1 0)), (1, .int a1), (2, .int a2), (3, .ref ao)] []
  refine J_aload_n X (pc := 0) dL_forecast_0 3 rfl ?_
  refine J_iconst X (pc := 1) (v := 0) dL_forecast_1 (by decide +kernel) ?_
  refine J_aload_n X (pc := 2) dL_forecast_2 0 rfl ?_
  refine J_iload_n X (pc := 3) dL_forecast_3 1 rfl ?_
  refine J_iload_n X (pc := 4) dL_forecast_4 2 rfl ?_
  refine J_perm (w1 := cW E ad T ++ [outC E ao g]) (List.perm_append_comm (l₁ := [outC E ao g])) ?_
  refine J_callCVF X XX (pc := 5) (y := yX7_forecast) (na := 2) (As := [.int a1, .int a2]) (rest := [.int 0, .ref ao]) (t_X7_forecast E ad h) 0 cW_c0 rfl q_611 q_612 q_613 q_14 q_401 rfl (by decide +kernel) (by decide +kernel) rfl (Nat.le_of_ble_eq_true rfl) ⟨by decide +kernel, by decide +kernel⟩ dL_forecast_5 [] [⟨0, 10, 17, 15⟩, ⟨0, 10, 21, 13⟩] ⟨0, 10, 13, 21⟩  htab (fun z hz => absurd hz List.not_mem_nil) (by decide) (by decide) q_574 nq_17 (fun q9 => ?_)
  refine J_perm (w1 := outC E ao g :: cW E ad T2) (List.perm_append_comm (l₂ := [outC E ao g])) ?_
  refine J_astore X (pc := 13) dL_forecast_13 (by decide) rfl ?_
  refine J_iconst X (pc := 15) (v := 1) dL_forecast_15 (by decide +kernel) ?_
  refine J_widen (k2 := 16) (n2 := 398) (by decide +kernel) (by decide +kernel) ?_
  exact hE ad rfl _ _ dL_forecast_16
set_option maxRecDepth 100000 in
set_option maxHeartbeats 4000000 in
theorem hx_forecast_2 (E : Ev) (ad : CA) (ao : Nat) (g : Nat → Int64) {a1 : Int32} {a2 : Int32} {T T2 : TS} (h : x_X7_forecast a1 a2 T = some ("java/lang/IllegalStateException", T2)) : CtH E yL_forecast cL_forecast 5 [(0, 10, 13, 21), (0, 10, 17, 15), (0, 10, 21, 13)] 9 170 16 398 (outC E ao g :: cW E ad T) [.ref (ad.1 0), .int a1, .int a2, .ref ao]  2 (fun ad2 : CA => ad2.1 0 = ad.1 0) (fun ad2 => outC E ao g :: cW E ad2 T2) := by
  refine CtH_of (by decide +kernel) (Nat.le_of_ble_eq_true rfl) (fun x X XX XN htab hE => ?_)
  show J E x 0 0 (outC E ao g :: cW E ad T) 0 [(0, .ref (ad.1 0)), (1, .int a1), (2, .int a2), (3, .ref ao)] []
  refine J_aload_n X (pc := 0) dL_forecast_0 3 rfl ?_
  refine J_iconst X (pc := 1) (v := 0) dL_forecast_1 (by decide +kernel) ?_
  refine J_aload_n X (pc := 2) dL_forecast_2 0 rfl ?_
  refine J_iload_n X (pc := 3) dL_forecast_3 1 rfl ?_
  refine J_iload_n X (pc := 4) dL_forecast_4 2 rfl ?_
  refine J_perm (w1 := cW E ad T ++ [outC E ao g]) (List.perm_append_comm (l₁ := [outC E ao g])) ?_
  refine J_callCVF X XX (pc := 5) (y := yX7_forecast) (na := 2) (As := [.int a1, .int a2]) (rest := [.int 0, .ref ao]) (t_X7_forecast E ad h) 0 cW_c0 rfl q_611 q_612 q_613 q_14 q_401 rfl (by decide +kernel) (by decide +kernel) rfl (Nat.le_of_ble_eq_true rfl) ⟨by decide +kernel, by decide +kernel⟩ dL_forecast_5 [⟨0, 10, 13, 21⟩] [⟨0, 10, 21, 13⟩] ⟨0, 10, 17, 15⟩  htab (fun z hz => by cases List.mem_singleton.mp hz; exact Or.inr ⟨by decide, "java/lang/IndexOutOfBoundsException", q_574, XN _ nc_2⟩) (by decide) (by decide) q_569 nq_1 (fun q9 => ?_)
  refine J_perm (w1 := outC E ao g :: cW E ad T2) (List.perm_append_comm (l₂ := [outC E ao g])) ?_
  refine J_astore X (pc := 17) dL_forecast_17 (by decide) rfl ?_
  refine J_iconst X (pc := 19) (v := 2) dL_forecast_19 (by decide +kernel) ?_
  refine J_widen (k2 := 16) (n2 := 398) (by decide +kernel) (by decide +kernel) ?_
  exact hE ad rfl _ _ dL_forecast_20
set_option maxRecDepth 100000 in
set_option maxHeartbeats 4000000 in
theorem hx_forecast_3 (E : Ev) (ad : CA) (ao : Nat) (g : Nat → Int64) {a1 : Int32} {a2 : Int32} {T T2 : TS} (h : x_X7_forecast a1 a2 T = some ("java/lang/IllegalArgumentException", T2)) : CtH E yL_forecast cL_forecast 5 [(0, 10, 13, 21), (0, 10, 17, 15), (0, 10, 21, 13)] 9 170 16 398 (outC E ao g :: cW E ad T) [.ref (ad.1 0), .int a1, .int a2, .ref ao]  3 (fun ad2 : CA => ad2.1 0 = ad.1 0) (fun ad2 => outC E ao g :: cW E ad2 T2) := by
  refine CtH_of (by decide +kernel) (Nat.le_of_ble_eq_true rfl) (fun x X XX XN htab hE => ?_)
  show J E x 0 0 (outC E ao g :: cW E ad T) 0 [(0, .ref (ad.1 0)), (1, .int a1), (2, .int a2), (3, .ref ao)] []
  refine J_aload_n X (pc := 0) dL_forecast_0 3 rfl ?_
  refine J_iconst X (pc := 1) (v := 0) dL_forecast_1 (by decide +kernel) ?_
  refine J_aload_n X (pc := 2) dL_forecast_2 0 rfl ?_
  refine J_iload_n X (pc := 3) dL_forecast_3 1 rfl ?_
  refine J_iload_n X (pc := 4) dL_forecast_4 2 rfl ?_
  refine J_perm (w1 := cW E ad T ++ [outC E ao g]) (List.perm_append_comm (l₁ := [outC E ao g])) ?_
  refine J_callCVF X XX (pc := 5) (y := yX7_forecast) (na := 2) (As := [.int a1, .int a2]) (rest := [.int 0, .ref ao]) (t_X7_forecast E ad h) 0 cW_c0 rfl q_611 q_612 q_613 q_14 q_401 rfl (by decide +kernel) (by decide +kernel) rfl (Nat.le_of_ble_eq_true rfl) ⟨by decide +kernel, by decide +kernel⟩ dL_forecast_5 [⟨0, 10, 13, 21⟩, ⟨0, 10, 17, 15⟩] [] ⟨0, 10, 21, 13⟩  htab (fun z hz => by
    rcases List.mem_cons.mp hz with hz | hz
    · subst hz; exact Or.inr ⟨by decide, "java/lang/IndexOutOfBoundsException", q_574, XN _ nc_1⟩
    · cases List.mem_singleton.mp hz; exact Or.inr ⟨by decide, "java/lang/IllegalStateException", q_569, XN _ nc_3⟩) (by decide) (by decide) q_568 nq_0 (fun q9 => ?_)
  refine J_perm (w1 := outC E ao g :: cW E ad T2) (List.perm_append_comm (l₂ := [outC E ao g])) ?_
  refine J_astore X (pc := 21) dL_forecast_21 (by decide) rfl ?_
  refine J_iconst X (pc := 23) (v := 3) dL_forecast_23 (by decide +kernel) ?_
  refine J_widen (k2 := 16) (n2 := 398) (by decide +kernel) (by decide +kernel) ?_
  exact hE ad rfl _ _ dL_forecast_24
set_option maxRecDepth 100000 in
set_option maxHeartbeats 4000000 in
theorem h_full (E : Ev) (ad : CA) (ao : Nat) (g : Nat → Int64) {a1 : Int32} {T : TS} {r : Int32} {T2 : TS} (h : f_X7_full a1 T = some (r, T2)) : CtH E yL_full cL_full 4 [(0, 9, 12, 21)] 9 170 16 398 (outC E ao g :: cW E ad T) [.ref (ad.1 0), .int a1, .ref ao]  0 (fun ad2 : CA => ad2.1 0 = ad.1 0) (fun ad2 => outC E ao (vp_updL g 0 r.toInt64) :: cW E ad2 T2) := by
  refine CtH_of (by decide +kernel) (Nat.le_of_ble_eq_true rfl) (fun x X XX XN htab hE => ?_)
  show J E x 0 0 (outC E ao g :: cW E ad T) 0 [(0, .ref (ad.1 0)), (1, .int a1), (2, .ref ao)] []
  refine J_aload_n X (pc := 0) dL_full_0 2 rfl ?_
  refine J_iconst X (pc := 1) (v := 0) dL_full_1 (by decide +kernel) ?_
  refine J_aload_n X (pc := 2) dL_full_2 0 rfl ?_
  refine J_iload_n X (pc := 3) dL_full_3 1 rfl ?_
  refine J_perm (w1 := cW E ad T ++ [outC E ao g]) (List.perm_append_comm (l₁ := [outC E ao g])) ?_
  refine J_callF0I X (pc := 4) (y := yX7_full) (na := 1) (As := [.int a1]) (rest := [.int 0, .ref ao]) (c_X7_full E ad h) 0 cW_c0 rfl q_615 q_616 q_617 q_14 q_408 rfl (by decide +kernel) (by decide +kernel) rfl (Nat.le_of_ble_eq_true rfl) ⟨by decide +kernel, by decide +kernel⟩ dL_full_4 ?_
  refine J_perm (w1 := outC E ao g :: cW E ad T2) (List.perm_append_comm (l₂ := [outC E ao g])) ?_
  refine J_i2l X (pc := 7) dL_full_7 ?_
  refine J_last X (pc := 8) (w1 := outC E ao (vp_updL g 0 r.toInt64) :: cW E ad T2) 0 rfl ⟨by decide, by decide⟩ dL_full_8 rfl ?_
  refine J_goto X (pc := 9) 15 dL_full_9 (by decide) ?_
  refine J_iconst X (pc := 15) (v := 0) dL_full_15 (by decide +kernel) ?_
  refine J_widen (k2 := 16) (n2 := 398) (by decide +kernel) (by decide +kernel) ?_
  exact hE ad rfl _ _ dL_full_16
set_option maxRecDepth 100000 in
set_option maxHeartbeats 4000000 in
theorem hx_full_1 (E : Ev) (ad : CA) (ao : Nat) (g : Nat → Int64) {a1 : Int32} {T T2 : TS} (h : x_X7_full a1 T = some ("java/lang/IndexOutOfBoundsException", T2)) : CtH E yL_full cL_full 4 [(0, 9, 12, 21)] 9 170 16 398 (outC E ao g :: cW E ad T) [.ref (ad.1 0), .int a1, .ref ao]  1 (fun ad2 : CA => ad2.1 0 = ad.1 0) (fun ad2 => outC E ao g :: cW E ad2 T2) := by
  refine CtH_of (by decide +kernel) (Nat.le_of_ble_eq_true rfl) (fun x X XX XN htab hE => ?_)
  show J E x 0 0 (outC E ao g :: cW E ad T) 0 [(0, .ref (ad.1 0)), (1, .int a1), (2, .ref ao)] []
  refine J_aload_n X (pc := 0) dL_full_0 2 rfl ?_
  refine J_iconst X (pc := 1) (v := 0) dL_full_1 (by decide +kernel) ?_
  refine J_aload_n X (pc := 2) dL_full_2 0 rfl ?_
  refine J_iload_n X (pc := 3) dL_full_3 1 rfl ?_
  refine J_perm (w1 := cW E ad T ++ [outC E ao g]) (List.perm_append_comm (l₁ := [outC E ao g])) ?_
  refine J_callCVF X XX (pc := 4) (y := yX7_full) (na := 1) (As := [.int a1]) (rest := [.int 0, .ref ao]) (t_X7_full E ad h) 0 cW_c0 rfl q_615 q_616 q_617 q_14 q_408 rfl (by decide +kernel) (by decide +kernel) rfl (Nat.le_of_ble_eq_true rfl) ⟨by decide +kernel, by decide +kernel⟩ dL_full_4 [] [] ⟨0, 9, 12, 21⟩  htab (fun z hz => absurd hz List.not_mem_nil) (by decide) (by decide) q_574 nq_17 (fun q9 => ?_)
  refine J_perm (w1 := outC E ao g :: cW E ad T2) (List.perm_append_comm (l₂ := [outC E ao g])) ?_
  refine J_astore_n X (pc := 12) dL_full_12 (by decide) rfl ?_
  refine J_iconst X (pc := 13) (v := 1) dL_full_13 (by decide +kernel) ?_
  refine J_widen (k2 := 16) (n2 := 398) (by decide +kernel) (by decide +kernel) ?_
  exact hE ad rfl _ _ dL_full_14
set_option maxRecDepth 100000 in
set_option maxHeartbeats 4000000 in
theorem h_early (E : Ev) (ad : CA) (ao : Nat) (g : Nat → Int64) {a1 : Int32} {T : TS} {r : Int32} {T2 : TS} (h : f_X7_early a1 T = some (r, T2)) : CtH E yL_early cL_early 4 [(0, 9, 12, 21)] 9 170 16 398 (outC E ao g :: cW E ad T) [.ref (ad.1 0), .int a1, .ref ao]  0 (fun ad2 : CA => ad2.1 0 = ad.1 0) (fun ad2 => outC E ao (vp_updL g 0 r.toInt64) :: cW E ad2 T2) := by
  refine CtH_of (by decide +kernel) (Nat.le_of_ble_eq_true rfl) (fun x X XX XN htab hE => ?_)
  show J E x 0 0 (outC E ao g :: cW E ad T) 0 [(0, .ref (ad.1 0)), (1, .int a1), (2, .ref ao)] []
  refine J_aload_n X (pc := 0) dL_early_0 2 rfl ?_
  refine J_iconst X (pc := 1) (v := 0) dL_early_1 (by decide +kernel) ?_
  refine J_aload_n X (pc := 2) dL_early_2 0 rfl ?_
  refine J_iload_n X (pc := 3) dL_early_3 1 rfl ?_
  refine J_perm (w1 := cW E ad T ++ [outC E ao g]) (List.perm_append_comm (l₁ := [outC E ao g])) ?_
  refine J_callF0I X (pc := 4) (y := yX7_early) (na := 1) (As := [.int a1]) (rest := [.int 0, .ref ao]) (c_X7_early E ad h) 0 cW_c0 rfl q_619 q_620 q_621 q_14 q_410 rfl (by decide +kernel) (by decide +kernel) rfl (Nat.le_of_ble_eq_true rfl) ⟨by decide +kernel, by decide +kernel⟩ dL_early_4 ?_
  refine J_perm (w1 := outC E ao g :: cW E ad T2) (List.perm_append_comm (l₂ := [outC E ao g])) ?_
  refine J_i2l X (pc := 7) dL_early_7 ?_
  refine J_last X (pc := 8) (w1 := outC E ao (vp_updL g 0 r.toInt64) :: cW E ad T2) 0 rfl ⟨by decide, by decide⟩ dL_early_8 rfl ?_
  refine J_goto X (pc := 9) 15 dL_early_9 (by decide) ?_
  refine J_iconst X (pc := 15) (v := 0) dL_early_15 (by decide +kernel) ?_
  refine J_widen (k2 := 16) (n2 := 398) (by decide +kernel) (by decide +kernel) ?_
  exact hE ad rfl _ _ dL_early_16
set_option maxRecDepth 100000 in
set_option maxHeartbeats 4000000 in
theorem hx_early_1 (E : Ev) (ad : CA) (ao : Nat) (g : Nat → Int64) {a1 : Int32} {T T2 : TS} (h : x_X7_early a1 T = some ("java/lang/IndexOutOfBoundsException", T2)) : CtH E yL_early cL_early 4 [(0, 9, 12, 21)] 9 170 16 398 (outC E ao g :: cW E ad T) [.ref (ad.1 0), .int a1, .ref ao]  1 (fun ad2 : CA => ad2.1 0 = ad.1 0) (fun ad2 => outC E ao g :: cW E ad2 T2) := by
  refine CtH_of (by decide +kernel) (Nat.le_of_ble_eq_true rfl) (fun x X XX XN htab hE => ?_)
  show J E x 0 0 (outC E ao g :: cW E ad T) 0 [(0, .ref (ad.1 0)), (1, .int a1), (2, .ref ao)] []
  refine J_aload_n X (pc := 0) dL_early_0 2 rfl ?_
  refine J_iconst X (pc := 1) (v := 0) dL_early_1 (by decide +kernel) ?_
  refine J_aload_n X (pc := 2) dL_early_2 0 rfl ?_
  refine J_iload_n X (pc := 3) dL_early_3 1 rfl ?_
  refine J_perm (w1 := cW E ad T ++ [outC E ao g]) (List.perm_append_comm (l₁ := [outC E ao g])) ?_
  refine J_callCVF X XX (pc := 4) (y := yX7_early) (na := 1) (As := [.int a1]) (rest := [.int 0, .ref ao]) (t_X7_early E ad h) 0 cW_c0 rfl q_619 q_620 q_621 q_14 q_410 rfl (by decide +kernel) (by decide +kernel) rfl (Nat.le_of_ble_eq_true rfl) ⟨by decide +kernel, by decide +kernel⟩ dL_early_4 [] [] ⟨0, 9, 12, 21⟩  htab (fun z hz => absurd hz List.not_mem_nil) (by decide) (by decide) q_574 nq_17 (fun q9 => ?_)
  refine J_perm (w1 := outC E ao g :: cW E ad T2) (List.perm_append_comm (l₂ := [outC E ao g])) ?_
  refine J_astore_n X (pc := 12) dL_early_12 (by decide) rfl ?_
  refine J_iconst X (pc := 13) (v := 1) dL_early_13 (by decide +kernel) ?_
  refine J_widen (k2 := 16) (n2 := 398) (by decide +kernel) (by decide +kernel) ?_
  exact hE ad rfl _ _ dL_early_14
set_option maxRecDepth 100000 in
set_option maxHeartbeats 4000000 in
theorem h_late (E : Ev) (ad : CA) (ao : Nat) (g : Nat → Int64) {a1 : Int32} {T : TS} {r : Int32} {T2 : TS} (h : f_X7_late a1 T = some (r, T2)) : CtH E yL_late cL_late 4 [(0, 9, 12, 21)] 9 170 16 398 (outC E ao g :: cW E ad T) [.ref (ad.1 0), .int a1, .ref ao]  0 (fun ad2 : CA => ad2.1 0 = ad.1 0) (fun ad2 => outC E ao (vp_updL g 0 r.toInt64) :: cW E ad2 T2) := by
  refine CtH_of (by decide +kernel) (Nat.le_of_ble_eq_true rfl) (fun x X XX XN htab hE => ?_)
  show J E x 0 0 (outC E ao g :: cW E ad T) 0 [(0, .ref (ad.1 0)), (1, .int a1), (2, .ref ao)] []
  refine J_aload_n X (pc := 0) dL_late_0 2 rfl ?_
  refine J_iconst X (pc := 1) (v := 0) dL_late_1 (by decide +kernel) ?_
  refine J_aload_n X (pc := 2) dL_late_2 0 rfl ?_
  refine J_iload_n X (pc := 3) dL_late_3 1 rfl ?_
  refine J_perm (w1 := cW E ad T ++ [outC E ao g]) (List.perm_append_comm (l₁ := [outC E ao g])) ?_
  refine J_callF0I X (pc := 4) (y := yX7_late) (na := 1) (As := [.int a1]) (rest := [.int 0, .ref ao]) (c_X7_late E ad h) 0 cW_c0 rfl q_623 q_624 q_625 q_14 q_414 rfl (by decide +kernel) (by decide +kernel) rfl (Nat.le_of_ble_eq_true rfl) ⟨by decide +kernel, by decide +kernel⟩ dL_late_4 ?_
  refine J_perm (w1 := outC E ao g :: cW E ad T2) (List.perm_append_comm (l₂ := [outC E ao g])) ?_
  refine J_i2l X (pc := 7) dL_late_7 ?_
  refine J_last X (pc := 8) (w1 := outC E ao (vp_updL g 0 r.toInt64) :: cW E ad T2) 0 rfl ⟨by decide, by decide⟩ dL_late_8 rfl ?_
  refine J_goto X (pc := 9) 15 dL_late_9 (by decide) ?_
  refine J_iconst X (pc := 15) (v := 0) dL_late_15 (by decide +kernel) ?_
  refine J_widen (k2 := 16) (n2 := 398) (by decide +kernel) (by decide +kernel) ?_
  exact hE ad rfl _ _ dL_late_16
set_option maxRecDepth 100000 in
set_option maxHeartbeats 4000000 in
theorem hx_late_1 (E : Ev) (ad : CA) (ao : Nat) (g : Nat → Int64) {a1 : Int32} {T T2 : TS} (h : x_X7_late a1 T = some ("java/lang/IndexOutOfBoundsException", T2)) : CtH E yL_late cL_late 4 [(0, 9, 12, 21)] 9 170 16 398 (outC E ao g :: cW E ad T) [.ref (ad.1 0), .int a1, .ref ao]  1 (fun ad2 : CA => ad2.1 0 = ad.1 0) (fun ad2 => outC E ao g :: cW E ad2 T2) := by
  refine CtH_of (by decide +kernel) (Nat.le_of_ble_eq_true rfl) (fun x X XX XN htab hE => ?_)
  show J E x 0 0 (outC E ao g :: cW E ad T) 0 [(0, .ref (ad.1 0)), (1, .int a1), (2, .ref ao)] []
  refine J_aload_n X (pc := 0) dL_late_0 2 rfl ?_
  refine J_iconst X (pc := 1) (v := 0) dL_late_1 (by decide +kernel) ?_
  refine J_aload_n X (pc := 2) dL_late_2 0 rfl ?_
  refine J_iload_n X (pc := 3) dL_late_3 1 rfl ?_
  refine J_perm (w1 := cW E ad T ++ [outC E ao g]) (List.perm_append_comm (l₁ := [outC E ao g])) ?_
  refine J_callCVF X XX (pc := 4) (y := yX7_late) (na := 1) (As := [.int a1]) (rest := [.int 0, .ref ao]) (t_X7_late E ad h) 0 cW_c0 rfl q_623 q_624 q_625 q_14 q_414 rfl (by decide +kernel) (by decide +kernel) rfl (Nat.le_of_ble_eq_true rfl) ⟨by decide +kernel, by decide +kernel⟩ dL_late_4 [] [] ⟨0, 9, 12, 21⟩  htab (fun z hz => absurd hz List.not_mem_nil) (by decide) (by decide) q_574 nq_17 (fun q9 => ?_)
  refine J_perm (w1 := outC E ao g :: cW E ad T2) (List.perm_append_comm (l₂ := [outC E ao g])) ?_
  refine J_astore_n X (pc := 12) dL_late_12 (by decide) rfl ?_
  refine J_iconst X (pc := 13) (v := 1) dL_late_13 (by decide +kernel) ?_
  refine J_widen (k2 := 16) (n2 := 398) (by decide +kernel) (by decide +kernel) ?_
  exact hE ad rfl _ _ dL_late_14
set_option maxRecDepth 100000 in
set_option maxHeartbeats 4000000 in
theorem h_warns (E : Ev) (ad : CA) (ao : Nat) (g : Nat → Int64) {a1 : Int32} {T : TS} {r : Int32} (h : f_X7_warns a1 T = some r) : CtH E yL_warns cL_warns 4 [(0, 16, 19, 21)] 9 170 16 398 (outC E ao g :: cW E ad T) [.ref (ad.1 0), .int a1, .ref ao]  0 (fun ad2 : CA => ad2.1 0 = ad.1 0) (fun ad2 => outC E ao (vp_updL g 0 (if r = 0 then 0 else 1)) :: cW E ad2 T) := by
  refine CtH_of (by decide +kernel) (Nat.le_of_ble_eq_true rfl) (fun x X XX XN htab hE => ?_)
  show J E x 0 0 (outC E ao g :: cW E ad T) 0 [(0, .ref (ad.1 0)), (1, .int a1), (2, .ref ao)] []
  refine J_aload_n X (pc := 0) dL_warns_0 2 rfl ?_
  refine J_iconst X (pc := 1) (v := 0) dL_warns_1 (by decide +kernel) ?_
  refine J_aload_n X (pc := 2) dL_warns_2 0 rfl ?_
  refine J_iload_n X (pc := 3) dL_warns_3 1 rfl ?_
  refine J_perm (w1 := cW E ad T ++ [outC E ao g]) (List.perm_append_comm (l₁ := [outC E ao g])) ?_
  refine J_callF0I X (pc := 4) (y := yX7_warns) (na := 1) (As := [.int a1]) (rest := [.int 0, .ref ao]) (c_X7_warns E ad h) 0 cW_c0 rfl q_627 q_628 q_629 q_14 q_415 rfl (by decide +kernel) (by decide +kernel) rfl (Nat.le_of_ble_eq_true rfl) ⟨by decide +kernel, by decide +kernel⟩ dL_warns_4 ?_
  refine J_perm (w1 := outC E ao g :: cW E ad T) (List.perm_append_comm (l₂ := [outC E ao g])) ?_
  refine J_if_eq X (pc := 7) 14 dL_warns_7 (by decide) (fun c1 => ?_) (fun c1 => ?_)
  · rw [if_pos c1] at hE
    refine J_lconst X (pc := 14) (v := 0) dL_warns_14 (by decide +kernel) ?_
    refine J_last X (pc := 15) (w1 := outC E ao (vp_updL g 0 0) :: cW E ad T) 0 rfl ⟨by decide, by decide⟩ dL_warns_15 rfl ?_
    refine J_goto X (pc := 16) 22 dL_warns_16 (by decide) ?_
    refine J_iconst X (pc := 22) (v := 0) dL_warns_22 (by decide +kernel) ?_
    refine J_widen (k2 := 16) (n2 := 398) (by decide +kernel) (by decide +kernel) ?_
    exact hE ad rfl _ _ dL_warns_23
  · rw [if_neg c1] at hE
    refine J_lconst X (pc := 10) (v := 1) dL_warns_10 (by decide +kernel) ?_
    refine J_goto X (pc := 11) 15 dL_warns_11 (by decide) ?_
    refine J_last X (pc := 15) (w1 := outC E ao (vp_updL g 0 1) :: cW E ad T) 0 rfl ⟨by decide, by decide⟩ dL_warns_15 rfl ?_
    refine J_goto X (pc := 16) 22 dL_warns_16 (by decide) ?_
    refine J_iconst X (pc := 22) (v := 0) dL_warns_22 (by decide +kernel) ?_
    refine J_widen (k2 := 16) (n2 := 398) (by decide +kernel) (by decide +kernel) ?_
    exact hE ad rfl _ _ dL_warns_23
set_option maxRecDepth 100000 in
set_option maxHeartbeats 4000000 in
theorem hx_warns_1 (E : Ev) (ad : CA) (ao : Nat) (g : Nat → Int64) {a1 : Int32} {T T2 : TS} (h : x_X7_warns a1 T = some ("java/lang/IndexOutOfBoundsException", T2)) : CtH E yL_warns cL_warns 4 [(0, 16, 19, 21)] 9 170 16 398 (outC E ao g :: cW E ad T) [.ref (ad.1 0), .int a1, .ref ao]  1 (fun ad2 : CA => ad2.1 0 = ad.1 0) (fun ad2 => outC E ao g :: cW E ad2 T2) := by
  refine CtH_of (by decide +kernel) (Nat.le_of_ble_eq_true rfl) (fun x X XX XN htab hE => ?_)
  show J E x 0 0 (outC E ao g :: cW E ad T) 0 [(0, .ref (ad.1 0)), (1, .int a1), (2, .ref ao)] []
  refine J_aload_n X (pc := 0) dL_warns_0 2 rfl ?_
  refine J_iconst X (pc := 1) (v := 0) dL_warns_1 (by decide +kernel) ?_
  refine J_aload_n X (pc := 2) dL_warns_2 0 rfl ?_
  refine J_iload_n X (pc := 3) dL_warns_3 1 rfl ?_
  refine J_perm (w1 := cW E ad T ++ [outC E ao g]) (List.perm_append_comm (l₁ := [outC E ao g])) ?_
  refine J_callCVF X XX (pc := 4) (y := yX7_warns) (na := 1) (As := [.int a1]) (rest := [.int 0, .ref ao]) (t_X7_warns E ad h) 0 cW_c0 rfl q_627 q_628 q_629 q_14 q_415 rfl (by decide +kernel) (by decide +kernel) rfl (Nat.le_of_ble_eq_true rfl) ⟨by decide +kernel, by decide +kernel⟩ dL_warns_4 [] [] ⟨0, 16, 19, 21⟩  htab (fun z hz => absurd hz List.not_mem_nil) (by decide) (by decide) q_574 nq_17 (fun q9 => ?_)
  refine J_perm (w1 := outC E ao g :: cW E ad T2) (List.perm_append_comm (l₂ := [outC E ao g])) ?_
  refine J_astore_n X (pc := 19) dL_warns_19 (by decide) rfl ?_
  refine J_iconst X (pc := 20) (v := 1) dL_warns_20 (by decide +kernel) ?_
  refine J_widen (k2 := 16) (n2 := 398) (by decide +kernel) (by decide +kernel) ?_
  exact hE ad rfl _ _ dL_warns_21
set_option maxRecDepth 100000 in
set_option maxHeartbeats 4000000 in
theorem h_poolFull (E : Ev) (ad : CA) (ao : Nat) (g : Nat → Int64) {a1 : Int32} {T : TS} {r : Int32} {T2 : TS} (h : f_X7_poolFull a1 T = some (r, T2)) : CtH E yL_poolFull cL_poolFull 4 [(0, 9, 12, 13)] 9 170 16 398 (outC E ao g :: cW E ad T) [.ref (ad.1 0), .int a1, .ref ao]  0 (fun ad2 : CA => ad2.1 0 = ad.1 0) (fun ad2 => outC E ao (vp_updL g 0 r.toInt64) :: cW E ad2 T2) := by
  refine CtH_of (by decide +kernel) (Nat.le_of_ble_eq_true rfl) (fun x X XX XN htab hE => ?_)
  show J E x 0 0 (outC E ao g :: cW E ad T) 0 [(0, .ref (ad.1 0)), (1, .int a1), (2, .ref ao)] []
  refine J_aload_n X (pc := 0) dL_poolFull_0 2 rfl ?_
  refine J_iconst X (pc := 1) (v := 0) dL_poolFull_1 (by decide +kernel) ?_
  refine J_aload_n X (pc := 2) dL_poolFull_2 0 rfl ?_
  refine J_iload_n X (pc := 3) dL_poolFull_3 1 rfl ?_
  refine J_perm (w1 := cW E ad T ++ [outC E ao g]) (List.perm_append_comm (l₁ := [outC E ao g])) ?_
  refine J_callF0I X (pc := 4) (y := yX7_poolFull) (na := 1) (As := [.int a1]) (rest := [.int 0, .ref ao]) (c_X7_poolFull E ad h) 0 cW_c0 rfl q_631 q_632 q_633 q_14 q_431 rfl (by decide +kernel) (by decide +kernel) rfl (Nat.le_of_ble_eq_true rfl) ⟨by decide +kernel, by decide +kernel⟩ dL_poolFull_4 ?_
  refine J_perm (w1 := outC E ao g :: cW E ad T2) (List.perm_append_comm (l₂ := [outC E ao g])) ?_
  refine J_i2l X (pc := 7) dL_poolFull_7 ?_
  refine J_last X (pc := 8) (w1 := outC E ao (vp_updL g 0 r.toInt64) :: cW E ad T2) 0 rfl ⟨by decide, by decide⟩ dL_poolFull_8 rfl ?_
  refine J_goto X (pc := 9) 15 dL_poolFull_9 (by decide) ?_
  refine J_iconst X (pc := 15) (v := 0) dL_poolFull_15 (by decide +kernel) ?_
  refine J_widen (k2 := 16) (n2 := 398) (by decide +kernel) (by decide +kernel) ?_
  exact hE ad rfl _ _ dL_poolFull_16
set_option maxRecDepth 100000 in
set_option maxHeartbeats 4000000 in
theorem hx_poolFull_1 (E : Ev) (ad : CA) (ao : Nat) (g : Nat → Int64) {a1 : Int32} {T T2 : TS} (h : x_X7_poolFull a1 T = some ("java/lang/IllegalArgumentException", T2)) : CtH E yL_poolFull cL_poolFull 4 [(0, 9, 12, 13)] 9 170 16 398 (outC E ao g :: cW E ad T) [.ref (ad.1 0), .int a1, .ref ao]  1 (fun ad2 : CA => ad2.1 0 = ad.1 0) (fun ad2 => outC E ao g :: cW E ad2 T2) := by
  refine CtH_of (by decide +kernel) (Nat.le_of_ble_eq_true rfl) (fun x X XX XN htab hE => ?_)
  show J E x 0 0 (outC E ao g :: cW E ad T) 0 [(0, .ref (ad.1 0)), (1, .int a1), (2, .ref ao)] []
  refine J_aload_n X (pc := 0) dL_poolFull_0 2 rfl ?_
  refine J_iconst X (pc := 1) (v := 0) dL_poolFull_1 (by decide +kernel) ?_
  refine J_aload_n X (pc := 2) dL_poolFull_2 0 rfl ?_
  refine J_iload_n X (pc := 3) dL_poolFull_3 1 rfl ?_
  refine J_perm (w1 := cW E ad T ++ [outC E ao g]) (List.perm_append_comm (l₁ := [outC E ao g])) ?_
  refine J_callCVF X XX (pc := 4) (y := yX7_poolFull) (na := 1) (As := [.int a1]) (rest := [.int 0, .ref ao]) (t_X7_poolFull E ad h) 0 cW_c0 rfl q_631 q_632 q_633 q_14 q_431 rfl (by decide +kernel) (by decide +kernel) rfl (Nat.le_of_ble_eq_true rfl) ⟨by decide +kernel, by decide +kernel⟩ dL_poolFull_4 [] [] ⟨0, 9, 12, 13⟩  htab (fun z hz => absurd hz List.not_mem_nil) (by decide) (by decide) q_568 nq_0 (fun q9 => ?_)
  refine J_perm (w1 := outC E ao g :: cW E ad T2) (List.perm_append_comm (l₂ := [outC E ao g])) ?_
  refine J_astore_n X (pc := 12) dL_poolFull_12 (by decide) rfl ?_
  refine J_iconst X (pc := 13) (v := 1) dL_poolFull_13 (by decide +kernel) ?_
  refine J_widen (k2 := 16) (n2 := 398) (by decide +kernel) (by decide +kernel) ?_
  exact hE ad rfl _ _ dL_poolFull_14
