/-! The law's way to the class: each call by what it answers of the object; where the class throws, by what the law's helper returns -/
section PCALLS
variable {E : Ev} {x : Cx} {cc : ByteArray} {rm0 : Room} {nL0 k n : Nat} {al : Nat → Nat} {ad : CA} {L : LW} {T : TS} {O : Ob} {pc : Nat} {lv : List (Nat × Value)} {rest : List Value}
theorem P_samples (X : Ok E x cc RL rm0 nL0) {a1 : Int32} {r : Int32} (h : q_samples a1 O = some r) (hT : RlT T O) (hf : 5 ≤ rm0.frames ∧ 106 ≤ rm0.locals) (hW : (rest.map fun v => v.category).sum ≤ 8) (hkn : k ≤ rm0.cells ∧ n ≤ rm0.slots) (hdg : decode cc pc = .ok (.invokevirtual 44, 3)) (k1 : ∀ T2, RlT T2 O → J E x k n (pw E al ad L T2) (pc + 3) lv (.int r :: rest)) : J E x k n (pw E al ad L T) pc lv (.int a1 :: .ref (ad.1 0) :: rest) := by
  have e := k_samples h hT
  refine J_perm pw_pm ?_
  refine J_callF0I X (y := yX7_samples) (na := 1) (As := [.int a1]) (rest := rest) (c_X7_samples E ad e) 0 cW_c0 rfl q_469 q_470 q_471 q_14 q_383 rfl (by decide +kernel) ⟨hf.1, hf.2⟩ rfl hW ⟨hkn.1, hkn.2⟩ hdg ?_
  exact J_perm pw_pm2 (k1 T hT)
theorem P_usual (X : Ok E x cc RL rm0 nL0) {a1 : Int32} {r : Int32} (h : q_usual a1 O = some r) (hT : RlT T O) (hf : 5 ≤ rm0.frames ∧ 106 ≤ rm0.locals) (hW : (rest.map fun v => v.category).sum ≤ 8) (hkn : k ≤ rm0.cells ∧ n ≤ rm0.slots) (hdg : decode cc pc = .ok (.invokevirtual 47, 3)) (k1 : ∀ T2, RlT T2 O → J E x k n (pw E al ad L T2) (pc + 3) lv (.int r :: rest)) : J E x k n (pw E al ad L T) pc lv (.int a1 :: .ref (ad.1 0) :: rest) := by
  have e := k_usual h hT
  refine J_perm pw_pm ?_
  refine J_callF0I X (y := yX7_usual) (na := 1) (As := [.int a1]) (rest := rest) (c_X7_usual E ad e) 0 cW_c0 rfl q_472 q_473 q_474 q_14 q_399 rfl (by decide +kernel) ⟨hf.1, hf.2⟩ rfl hW ⟨hkn.1, hkn.2⟩ hdg ?_
  exact J_perm pw_pm2 (k1 T hT)
theorem P_warns (X : Ok E x cc RL rm0 nL0) {a1 : Int32} {r : Int32} (h : q_warns a1 O = some r) (hT : RlT T O) (hf : 5 ≤ rm0.frames ∧ 106 ≤ rm0.locals) (hW : (rest.map fun v => v.category).sum ≤ 8) (hkn : k ≤ rm0.cells ∧ n ≤ rm0.slots) (hdg : decode cc pc = .ok (.invokevirtual 59, 3)) (k1 : ∀ T2, RlT T2 O → J E x k n (pw E al ad L T2) (pc + 3) lv (.int r :: rest)) : J E x k n (pw E al ad L T) pc lv (.int a1 :: .ref (ad.1 0) :: rest) := by
  have e := k_warns h hT
  refine J_perm pw_pm ?_
  refine J_callF0I X (y := yX7_warns) (na := 1) (As := [.int a1]) (rest := rest) (c_X7_warns E ad e) 0 cW_c0 rfl q_484 q_485 q_486 q_14 q_415 rfl (by decide +kernel) ⟨hf.1, hf.2⟩ rfl hW ⟨hkn.1, hkn.2⟩ hdg ?_
  exact J_perm pw_pm2 (k1 T hT)
theorem P_full (X : Ok E x cc RL rm0 nL0) {a1 : Int32} {r : Int32} (h : q_full a1 O = some r) (hT : RlT T O) (hf : 6 ≤ rm0.frames ∧ 138 ≤ rm0.locals) (hW : (rest.map fun v => v.category).sum ≤ 8) (hkn : k ≤ rm0.cells ∧ n ≤ rm0.slots) (hdg : decode cc pc = .ok (.invokevirtual 50, 3)) (k1 : ∀ T2, RlT T2 O → J E x k n (pw E al ad L T2) (pc + 3) lv (.int r :: rest)) : J E x k n (pw E al ad L T) pc lv (.int a1 :: .ref (ad.1 0) :: rest) := by
  obtain ⟨T2, e, hT2⟩ := k_full h hT
  refine J_perm pw_pm ?_
  refine J_callF0I X (y := yX7_full) (na := 1) (As := [.int a1]) (rest := rest) (c_X7_full E ad e) 0 cW_c0 rfl q_475 q_476 q_477 q_14 q_408 rfl (by decide +kernel) ⟨hf.1, hf.2⟩ rfl hW ⟨hkn.1, hkn.2⟩ hdg ?_
  exact J_perm pw_pm2 (k1 T2 hT2)
theorem P_early (X : Ok E x cc RL rm0 nL0) {a1 : Int32} {r : Int32} (h : q_early a1 O = some r) (hT : RlT T O) (hf : 6 ≤ rm0.frames ∧ 140 ≤ rm0.locals) (hW : (rest.map fun v => v.category).sum ≤ 8) (hkn : k ≤ rm0.cells ∧ n ≤ rm0.slots) (hdg : decode cc pc = .ok (.invokevirtual 53, 3)) (k1 : ∀ T2, RlT T2 O → J E x k n (pw E al ad L T2) (pc + 3) lv (.int r :: rest)) : J E x k n (pw E al ad L T) pc lv (.int a1 :: .ref (ad.1 0) :: rest) := by
  obtain ⟨T2, e, hT2⟩ := k_early h hT
  refine J_perm pw_pm ?_
  refine J_callF0I X (y := yX7_early) (na := 1) (As := [.int a1]) (rest := rest) (c_X7_early E ad e) 0 cW_c0 rfl q_478 q_479 q_480 q_14 q_410 rfl (by decide +kernel) ⟨hf.1, hf.2⟩ rfl hW ⟨hkn.1, hkn.2⟩ hdg ?_
  exact J_perm pw_pm2 (k1 T2 hT2)
theorem P_late (X : Ok E x cc RL rm0 nL0) {a1 : Int32} {r : Int32} (h : q_late a1 O = some r) (hT : RlT T O) (hf : 6 ≤ rm0.frames ∧ 140 ≤ rm0.locals) (hW : (rest.map fun v => v.category).sum ≤ 8) (hkn : k ≤ rm0.cells ∧ n ≤ rm0.slots) (hdg : decode cc pc = .ok (.invokevirtual 56, 3)) (k1 : ∀ T2, RlT T2 O → J E x k n (pw E al ad L T2) (pc + 3) lv (.int r :: rest)) : J E x k n (pw E al ad L T) pc lv (.int a1 :: .ref (ad.1 0) :: rest) := by
  obtain ⟨T2, e, hT2⟩ := k_late h hT
  refine J_perm pw_pm ?_
  refine J_callF0I X (y := yX7_late) (na := 1) (As := [.int a1]) (rest := rest) (c_X7_late E ad e) 0 cW_c0 rfl q_481 q_482 q_483 q_14 q_414 rfl (by decide +kernel) ⟨hf.1, hf.2⟩ rfl hW ⟨hkn.1, hkn.2⟩ hdg ?_
  exact J_perm pw_pm2 (k1 T2 hT2)
theorem P_slopeNumerator (X : Ok E x cc RL rm0 nL0) {a1 : Int32} {r : Int32} (h : q_slopeNumerator a1 O = some r) (hT : RlT T O) (hf : 6 ≤ rm0.frames ∧ 128 ≤ rm0.locals) (hW : (rest.map fun v => v.category).sum ≤ 8) (hkn : k ≤ rm0.cells ∧ n ≤ rm0.slots) (hdg : decode cc pc = .ok (.invokevirtual 63, 3)) (k1 : ∀ T2, RlT T2 O → J E x k n (pw E al ad L T2) (pc + 3) lv (.int r :: rest)) : J E x k n (pw E al ad L T) pc lv (.int a1 :: .ref (ad.1 0) :: rest) := by
  obtain ⟨T2, e, hT2⟩ := k_slopeNumerator h hT
  refine J_perm pw_pm ?_
  refine J_callF0I X (y := yX7_slopeNumerator) (na := 1) (As := [.int a1]) (rest := rest) (c_X7_slopeNumerator E ad e) 0 cW_c0 rfl q_490 q_491 q_492 q_14 q_393 rfl (by decide +kernel) ⟨hf.1, hf.2⟩ rfl hW ⟨hkn.1, hkn.2⟩ hdg ?_
  exact J_perm pw_pm2 (k1 T2 hT2)
theorem P_slopeDenominator (X : Ok E x cc RL rm0 nL0) {a1 : Int32} {r : Int32} (h : q_slopeDenominator a1 O = some r) (hT : RlT T O) (hf : 6 ≤ rm0.frames ∧ 128 ≤ rm0.locals) (hW : (rest.map fun v => v.category).sum ≤ 8) (hkn : k ≤ rm0.cells ∧ n ≤ rm0.slots) (hdg : decode cc pc = .ok (.invokevirtual 66, 3)) (k1 : ∀ T2, RlT T2 O → J E x k n (pw E al ad L T2) (pc + 3) lv (.int r :: rest)) : J E x k n (pw E al ad L T) pc lv (.int a1 :: .ref (ad.1 0) :: rest) := by
  obtain ⟨T2, e, hT2⟩ := k_slopeDenominator h hT
  refine J_perm pw_pm ?_
  refine J_callF0I X (y := yX7_slopeDenominator) (na := 1) (As := [.int a1]) (rest := rest) (c_X7_slopeDenominator E ad e) 0 cW_c0 rfl q_493 q_494 q_495 q_14 q_397 rfl (by decide +kernel) ⟨hf.1, hf.2⟩ rfl hW ⟨hkn.1, hkn.2⟩ hdg ?_
  exact J_perm pw_pm2 (k1 T2 hT2)
theorem P_forecast (X : Ok E x cc RL rm0 nL0) {a1 : Int32} {a2 : Int32} {r : Int32} (h : q_forecast a1 a2 O = some r) (hT : RlT T O) (hf : 6 ≤ rm0.frames ∧ 131 ≤ rm0.locals) (hW : (rest.map fun v => v.category).sum ≤ 8) (hkn : k ≤ rm0.cells ∧ n ≤ rm0.slots) (hdg : decode cc pc = .ok (.invokevirtual 28, 3)) (k1 : ∀ T2, RlT T2 O → J E x k n (pw E al ad L T2) (pc + 3) lv (.int r :: rest)) : J E x k n (pw E al ad L T) pc lv (.int a2 :: .int a1 :: .ref (ad.1 0) :: rest) := by
  obtain ⟨T2, e, hT2⟩ := k_forecast h hT
  refine J_perm pw_pm ?_
  refine J_callF0I X (y := yX7_forecast) (na := 2) (As := [.int a1, .int a2]) (rest := rest) (c_X7_forecast E ad e) 0 cW_c0 rfl q_458 q_459 q_460 q_14 q_401 rfl (by decide +kernel) ⟨hf.1, hf.2⟩ rfl hW ⟨hkn.1, hkn.2⟩ hdg ?_
  exact J_perm pw_pm2 (k1 T2 hT2)
theorem P_poolFull (X : Ok E x cc RL rm0 nL0) {a1 : Int32} {r : Int32} (h : q_poolFull a1 O = some r) (hT : RlT T O) (hf : 5 ≤ rm0.frames ∧ 122 ≤ rm0.locals) (hW : (rest.map fun v => v.category).sum ≤ 8) (hkn : k ≤ rm0.cells ∧ n ≤ rm0.slots) (hdg : decode cc pc = .ok (.invokevirtual 31, 3)) (k1 : ∀ T2, RlT T2 O → J E x k n (pw E al ad L T2) (pc + 3) lv (.int r :: rest)) : J E x k n (pw E al ad L T) pc lv (.int a1 :: .ref (ad.1 0) :: rest) := by
  obtain ⟨T2, e, hT2⟩ := k_poolFull h hT
  refine J_perm pw_pm ?_
  refine J_callF0I X (y := yX7_poolFull) (na := 1) (As := [.int a1]) (rest := rest) (c_X7_poolFull E ad e) 0 cW_c0 rfl q_461 q_462 q_463 q_14 q_431 rfl (by decide +kernel) ⟨hf.1, hf.2⟩ rfl hW ⟨hkn.1, hkn.2⟩ hdg ?_
  exact J_perm pw_pm2 (k1 T2 hT2)
theorem P_today (X : Ok E x cc RL rm0 nL0) (hT : RlT T O) (hf : 1 ≤ rm0.frames ∧ 20 ≤ rm0.locals) (hW : (rest.map fun v => v.category).sum ≤ 8) (hkn : k ≤ rm0.cells ∧ n ≤ rm0.slots) (hdg : decode cc pc = .ok (.invokevirtual 71, 3)) (k1 : J E x k n (pw E al ad L T) (pc + 3) lv (.int (q_today O) :: rest)) : J E x k n (pw E al ad L T) pc lv (.ref (ad.1 0) :: rest) := by
  have e : f_X7_today T = some (q_today O) := by unfold f_X7_today q_today; rw [hT.2.2.2.1]
  refine J_perm pw_pm ?_
  refine J_callF0I X (y := yX7_today) (na := 0) (As := []) (rest := rest) (c_X7_today E ad e) 0 cW_c0 rfl q_502 q_503 q_504 q_14 q_382 rfl (by decide +kernel) ⟨hf.1, hf.2⟩ rfl hW ⟨hkn.1, hkn.2⟩ hdg ?_
  exact J_perm pw_pm2 k1
end PCALLS
theorem J_app1r {E : Ev} {x : Cx} {k n : Nat} {w : va_W} {pc : Nat} {lv : List (Nat × Value)} {st : List Value} (h : J E x k n w pc lv st) : J E x k n (w ++ []) pc lv st := by
  rw [List.append_nil]; exact h
set_option maxRecDepth 100000 in
set_option maxHeartbeats 4000000 in
theorem hx_addStore (E : Ev) (ad : CA) {a b : Int32} {r : Int32} {T : TS} {O : Ob} (h : qx_addStore a O = some r) (hT : RlT T O) : CtH E yL_act cL_act 5 [(0, 86, 87, 34), (0, 86, 93, 36), (0, 86, 99, 38)] 9 170 1 6 (cW E ad T) [.ref (ad.1 0), .int (0 : Int32), .int a, .int b] r (fun u : TS => RlT u O) (fun u => cW E ad u) := by
  obtain ⟨Ex, hx, hr⟩ := kx_addStore h hT
  obtain ⟨rfl, rfl⟩ := hr
  refine CtH_of (by decide +kernel) (Nat.le_of_ble_eq_true rfl) (fun x X XX XN htab hE => ?_)
  show J E x 0 0 (cW E ad T) 0 [(0, .ref (ad.1 0)), (1, .int (0 : Int32)), (2, .int a), (3, .int b)] []
  refine J_iload_n X (pc := 0) dL_act_0 1 rfl ?_
  refine J_if_ne X (pc := 1) 12 dL_act_1 (by decide) (fun c => absurd rfl c) (fun _ => ?_)
  refine J_aload_n X (pc := 4) dL_act_4 0 rfl ?_
  refine J_iload_n X (pc := 5) dL_act_5 2 rfl ?_
  refine J_app0 ?_
  refine J_callCVF X XX (pc := 6) (y := yX7_addStore) (na := 1) (As := [.int a]) (rest := []) (t_X7_addStore E ad hx) 0 cW_c0 rfl q_443 q_444 q_445 q_14 q_336 rfl (by decide +kernel) (by decide +kernel) rfl (Nat.le_of_ble_eq_true rfl) ⟨by decide +kernel, by decide +kernel⟩ dL_act_6 [⟨0, 86, 87, 34⟩] [⟨0, 86, 99, 38⟩] ⟨0, 86, 93, 36⟩ htab (fun z hz => by cases List.mem_singleton.mp hz; exact Or.inr ⟨by decide, "java/lang/IndexOutOfBoundsException", q_440, XN _ nc_1⟩) (by decide) (by decide) q_441 nq_1 (fun q9 => ?_)
  refine J_app1r ?_
  refine J_astore X (pc := 93) dL_act_93 (by decide) rfl ?_
  refine J_sipush X (pc := 95) (v := -972) dL_act_95 (by decide +kernel) ?_
  exact hE T hT _ _ dL_act_98
set_option maxRecDepth 100000 in
set_option maxHeartbeats 4000000 in
theorem ha_addStore (E : Ev) (ad : CA) {a b : Int32} {r : Int32} {O2 : Ob} {T : TS} {O : Ob} (h : qa_addStore a O = some (r, O2)) (hT : RlT T O) : CtH E yL_act cL_act 5 [(0, 86, 87, 34), (0, 86, 93, 36), (0, 86, 99, 38)] 9 170 16 398 (cW E ad T) [.ref (ad.1 0), .int (0 : Int32), .int a, .int b] r (fun u : CA × TS => u.1.1 0 = ad.1 0 ∧ RlT u.2 O2) (fun u => cW E u.1 u.2) := by
  obtain ⟨h1, h2, rfl, hT2⟩ := ka_addStore h hT
  refine CtH_of (by decide +kernel) (Nat.le_of_ble_eq_true rfl) (fun x X XX XN htab hE => ?_)
  show J E x 0 0 (cW E ad T) 0 [(0, .ref (ad.1 0)), (1, .int (0 : Int32)), (2, .int a), (3, .int b)] []
  refine J_iload_n X (pc := 0) dL_act_0 1 rfl ?_
  refine J_if_ne X (pc := 1) 12 dL_act_1 (by decide) (fun c => absurd rfl c) (fun _ => ?_)
  refine J_aload_n X (pc := 4) dL_act_4 0 rfl ?_
  refine J_iload_n X (pc := 5) dL_act_5 2 rfl ?_
  refine J_app0 ?_
  refine J_callFXI X XX (pc := 6) (y := yX7_addStore) (na := 1) (As := [.int a]) (rest := []) (c_X7_addStore E ad h1 h2) 0 cW_c0 rfl q_443 q_444 q_445 q_14 q_336 rfl (by decide +kernel) (by decide +kernel) rfl (Nat.le_of_ble_eq_true rfl) ⟨by decide +kernel, by decide +kernel⟩ dL_act_6 (fun ad2 had2 => ?_)
  refine J_app1r ?_
  refine J_goto X (pc := 9) 86 dL_act_9 (by decide) ?_
  exact hE (ad2, addT T a) ⟨had2, hT2⟩ _ _ dL_act_86
set_option maxRecDepth 100000 in
set_option maxHeartbeats 4000000 in
theorem hx_setSize (E : Ev) (ad : CA) {a b : Int32} {r : Int32} {T : TS} {O : Ob} (h : qx_setSize a b O = some r) (hT : RlT T O) : CtH E yL_act cL_act 5 [(0, 86, 87, 34), (0, 86, 93, 36), (0, 86, 99, 38)] 9 170 1 6 (cW E ad T) [.ref (ad.1 0), .int (1 : Int32), .int a, .int b] r (fun u : TS => RlT u O) (fun u => cW E ad u) := by
  obtain ⟨Ex, hx, hr⟩ := kx_setSize h hT
  rcases hr with ⟨rfl, rfl⟩ | ⟨rfl, rfl⟩
  · refine CtH_of (by decide +kernel) (Nat.le_of_ble_eq_true rfl) (fun x X XX XN htab hE => ?_)
    show J E x 0 0 (cW E ad T) 0 [(0, .ref (ad.1 0)), (1, .int (1 : Int32)), (2, .int a), (3, .int b)] []
    refine J_iload_n X (pc := 0) dL_act_0 1 rfl ?_
    refine J_if_ne X (pc := 1) 12 dL_act_1 (by decide) (fun _ => ?_) (fun c => absurd c (by decide))
    refine J_iload_n X (pc := 12) dL_act_12 1 rfl ?_
    refine J_iconst X (pc := 13) (v := 1) dL_act_13 (by decide +kernel) ?_
    refine J_icmp_ne X (pc := 14) 26 dL_act_14 (by decide) (fun c => absurd rfl c) (fun _ => ?_)
    refine J_aload_n X (pc := 17) dL_act_17 0 rfl ?_
    refine J_iload_n X (pc := 18) dL_act_18 2 rfl ?_
    refine J_iload_n X (pc := 19) dL_act_19 3 rfl ?_
    refine J_app0 ?_
    refine J_callCVF X XX (pc := 20) (y := yX7_setSize) (na := 2) (As := [.int a, .int b]) (rest := []) (t_X7_setSize E ad hx) 0 cW_c0 rfl q_446 q_447 q_448 q_14 q_360 rfl (by decide +kernel) (by decide +kernel) rfl (Nat.le_of_ble_eq_true rfl) ⟨by decide +kernel, by decide +kernel⟩ dL_act_20 [] [⟨0, 86, 93, 36⟩, ⟨0, 86, 99, 38⟩] ⟨0, 86, 87, 34⟩ htab (fun z hz => absurd hz List.not_mem_nil) (by decide) (by decide) q_440 nq_0 (fun q9 => ?_)
    refine J_app1r ?_
    refine J_astore X (pc := 87) dL_act_87 (by decide) rfl ?_
    refine J_sipush X (pc := 89) (v := -971) dL_act_89 (by decide +kernel) ?_
    exact hE T hT _ _ dL_act_92
  · refine CtH_of (by decide +kernel) (Nat.le_of_ble_eq_true rfl) (fun x X XX XN htab hE => ?_)
    show J E x 0 0 (cW E ad T) 0 [(0, .ref (ad.1 0)), (1, .int (1 : Int32)), (2, .int a), (3, .int b)] []
    refine J_iload_n X (pc := 0) dL_act_0 1 rfl ?_
    refine J_if_ne X (pc := 1) 12 dL_act_1 (by decide) (fun _ => ?_) (fun c => absurd c (by decide))
    refine J_iload_n X (pc := 12) dL_act_12 1 rfl ?_
    refine J_iconst X (pc := 13) (v := 1) dL_act_13 (by decide +kernel) ?_
    refine J_icmp_ne X (pc := 14) 26 dL_act_14 (by decide) (fun c => absurd rfl c) (fun _ => ?_)
    refine J_aload_n X (pc := 17) dL_act_17 0 rfl ?_
    refine J_iload_n X (pc := 18) dL_act_18 2 rfl ?_
    refine J_iload_n X (pc := 19) dL_act_19 3 rfl ?_
    refine J_app0 ?_
    refine J_callCVF X XX (pc := 20) (y := yX7_setSize) (na := 2) (As := [.int a, .int b]) (rest := []) (t_X7_setSize E ad hx) 0 cW_c0 rfl q_446 q_447 q_448 q_14 q_360 rfl (by decide +kernel) (by decide +kernel) rfl (Nat.le_of_ble_eq_true rfl) ⟨by decide +kernel, by decide +kernel⟩ dL_act_20 [⟨0, 86, 87, 34⟩] [⟨0, 86, 99, 38⟩] ⟨0, 86, 93, 36⟩ htab (fun z hz => by cases List.mem_singleton.mp hz; exact Or.inr ⟨by decide, "java/lang/IndexOutOfBoundsException", q_440, XN _ nc_1⟩) (by decide) (by decide) q_441 nq_1 (fun q9 => ?_)
    refine J_app1r ?_
    refine J_astore X (pc := 93) dL_act_93 (by decide) rfl ?_
    refine J_sipush X (pc := 95) (v := -972) dL_act_95 (by decide +kernel) ?_
    exact hE T hT _ _ dL_act_98
set_option maxRecDepth 100000 in
set_option maxHeartbeats 4000000 in
theorem ha_setSize (E : Ev) (ad : CA) {a b : Int32} {r : Int32} {O2 : Ob} {T : TS} {O : Ob} (h : qa_setSize a b O = some (r, O2)) (hT : RlT T O) : CtH E yL_act cL_act 5 [(0, 86, 87, 34), (0, 86, 93, 36), (0, 86, 99, 38)] 9 170 1 6 (cW E ad T) [.ref (ad.1 0), .int (1 : Int32), .int a, .int b] r (fun u : TS => RlT u O2) (fun u => cW E ad u) := by
  obtain ⟨T2, e, hT2⟩ := ka_setSize h hT
  refine CtH_of (by decide +kernel) (Nat.le_of_ble_eq_true rfl) (fun x X XX XN htab hE => ?_)
  show J E x 0 0 (cW E ad T) 0 [(0, .ref (ad.1 0)), (1, .int (1 : Int32)), (2, .int a), (3, .int b)] []
  refine J_iload_n X (pc := 0) dL_act_0 1 rfl ?_
  refine J_if_ne X (pc := 1) 12 dL_act_1 (by decide) (fun _ => ?_) (fun c => absurd c (by decide))
  refine J_iload_n X (pc := 12) dL_act_12 1 rfl ?_
  refine J_iconst X (pc := 13) (v := 1) dL_act_13 (by decide +kernel) ?_
  refine J_icmp_ne X (pc := 14) 26 dL_act_14 (by decide) (fun c => absurd rfl c) (fun _ => ?_)
  refine J_aload_n X (pc := 17) dL_act_17 0 rfl ?_
  refine J_iload_n X (pc := 18) dL_act_18 2 rfl ?_
  refine J_iload_n X (pc := 19) dL_act_19 3 rfl ?_
  refine J_app0 ?_
  refine J_callF0I X (pc := 20) (y := yX7_setSize) (na := 2) (As := [.int a, .int b]) (rest := []) (c_X7_setSize E ad e) 0 cW_c0 rfl q_446 q_447 q_448 q_14 q_360 rfl (by decide +kernel) (by decide +kernel) rfl (Nat.le_of_ble_eq_true rfl) ⟨by decide +kernel, by decide +kernel⟩ dL_act_20 ?_
  refine J_app1r ?_
  refine J_goto X (pc := 23) 86 dL_act_23 (by decide) ?_
  exact J_widen (k2 := 1) (n2 := 6) (by decide +kernel) (by decide +kernel) (hE T2 hT2 _ _ dL_act_86)
set_option maxRecDepth 100000 in
set_option maxHeartbeats 4000000 in
theorem hx_sample (E : Ev) (ad : CA) {a b : Int32} {r : Int32} {T : TS} {O : Ob} (h : qx_sample a b O = some r) (hT : RlT T O) : CtH E yL_act cL_act 5 [(0, 86, 87, 34), (0, 86, 93, 36), (0, 86, 99, 38)] 9 170 1 6 (cW E ad T) [.ref (ad.1 0), .int (2 : Int32), .int a, .int b] r (fun u : TS => RlT u O) (fun u => cW E ad u) := by
  obtain ⟨Ex, hx, hr⟩ := kx_sample h hT
  rcases hr with ⟨rfl, rfl⟩ | ⟨rfl, rfl⟩
  · refine CtH_of (by decide +kernel) (Nat.le_of_ble_eq_true rfl) (fun x X XX XN htab hE => ?_)
    show J E x 0 0 (cW E ad T) 0 [(0, .ref (ad.1 0)), (1, .int (2 : Int32)), (2, .int a), (3, .int b)] []
    refine J_iload_n X (pc := 0) dL_act_0 1 rfl ?_
    refine J_if_ne X (pc := 1) 12 dL_act_1 (by decide) (fun _ => ?_) (fun c => absurd c (by decide))
    refine J_iload_n X (pc := 12) dL_act_12 1 rfl ?_
    refine J_iconst X (pc := 13) (v := 1) dL_act_13 (by decide +kernel) ?_
    refine J_icmp_ne X (pc := 14) 26 dL_act_14 (by decide) (fun _ => ?_) (fun c => absurd c (by decide))
    refine J_iload_n X (pc := 26) dL_act_26 1 rfl ?_
    refine J_iconst X (pc := 27) (v := 2) dL_act_27 (by decide +kernel) ?_
    refine J_icmp_ne X (pc := 28) 40 dL_act_28 (by decide) (fun c => absurd rfl c) (fun _ => ?_)
    refine J_aload_n X (pc := 31) dL_act_31 0 rfl ?_
    refine J_iload_n X (pc := 32) dL_act_32 2 rfl ?_
    refine J_iload_n X (pc := 33) dL_act_33 3 rfl ?_
    refine J_app0 ?_
    refine J_callCVF X XX (pc := 34) (y := yX7_sample) (na := 2) (As := [.int a, .int b]) (rest := []) (t_X7_sample E ad hx) 0 cW_c0 rfl q_449 q_450 q_451 q_14 q_365 rfl (by decide +kernel) (by decide +kernel) rfl (Nat.le_of_ble_eq_true rfl) ⟨by decide +kernel, by decide +kernel⟩ dL_act_34 [] [⟨0, 86, 93, 36⟩, ⟨0, 86, 99, 38⟩] ⟨0, 86, 87, 34⟩ htab (fun z hz => absurd hz List.not_mem_nil) (by decide) (by decide) q_440 nq_0 (fun q9 => ?_)
    refine J_app1r ?_
    refine J_astore X (pc := 87) dL_act_87 (by decide) rfl ?_
    refine J_sipush X (pc := 89) (v := -971) dL_act_89 (by decide +kernel) ?_
    exact hE T hT _ _ dL_act_92
  · refine CtH_of (by decide +kernel) (Nat.le_of_ble_eq_true rfl) (fun x X XX XN htab hE => ?_)
    show J E x 0 0 (cW E ad T) 0 [(0, .ref (ad.1 0)), (1, .int (2 : Int32)), (2, .int a), (3, .int b)] []
    refine J_iload_n X (pc := 0) dL_act_0 1 rfl ?_
    refine J_if_ne X (pc := 1) 12 dL_act_1 (by decide) (fun _ => ?_) (fun c => absurd c (by decide))
    refine J_iload_n X (pc := 12) dL_act_12 1 rfl ?_
    refine J_iconst X (pc := 13) (v := 1) dL_act_13 (by decide +kernel) ?_
    refine J_icmp_ne X (pc := 14) 26 dL_act_14 (by decide) (fun _ => ?_) (fun c => absurd c (by decide))
    refine J_iload_n X (pc := 26) dL_act_26 1 rfl ?_
    refine J_iconst X (pc := 27) (v := 2) dL_act_27 (by decide +kernel) ?_
    refine J_icmp_ne X (pc := 28) 40 dL_act_28 (by decide) (fun c => absurd rfl c) (fun _ => ?_)
    refine J_aload_n X (pc := 31) dL_act_31 0 rfl ?_
    refine J_iload_n X (pc := 32) dL_act_32 2 rfl ?_
    refine J_iload_n X (pc := 33) dL_act_33 3 rfl ?_
    refine J_app0 ?_
    refine J_callCVF X XX (pc := 34) (y := yX7_sample) (na := 2) (As := [.int a, .int b]) (rest := []) (t_X7_sample E ad hx) 0 cW_c0 rfl q_449 q_450 q_451 q_14 q_365 rfl (by decide +kernel) (by decide +kernel) rfl (Nat.le_of_ble_eq_true rfl) ⟨by decide +kernel, by decide +kernel⟩ dL_act_34 [⟨0, 86, 87, 34⟩] [⟨0, 86, 99, 38⟩] ⟨0, 86, 93, 36⟩ htab (fun z hz => by cases List.mem_singleton.mp hz; exact Or.inr ⟨by decide, "java/lang/IndexOutOfBoundsException", q_440, XN _ nc_1⟩) (by decide) (by decide) q_441 nq_1 (fun q9 => ?_)
    refine J_app1r ?_
    refine J_astore X (pc := 93) dL_act_93 (by decide) rfl ?_
    refine J_sipush X (pc := 95) (v := -972) dL_act_95 (by decide +kernel) ?_
    exact hE T hT _ _ dL_act_98
set_option maxRecDepth 100000 in
set_option maxHeartbeats 4000000 in
theorem ha_sample (E : Ev) (ad : CA) {a b : Int32} {r : Int32} {O2 : Ob} {T : TS} {O : Ob} (h : qa_sample a b O = some (r, O2)) (hT : RlT T O) : CtH E yL_act cL_act 5 [(0, 86, 87, 34), (0, 86, 93, 36), (0, 86, 99, 38)] 9 170 1 6 (cW E ad T) [.ref (ad.1 0), .int (2 : Int32), .int a, .int b] r (fun u : TS => RlT u O2) (fun u => cW E ad u) := by
  obtain ⟨T2, e, hT2⟩ := ka_sample h hT
  refine CtH_of (by decide +kernel) (Nat.le_of_ble_eq_true rfl) (fun x X XX XN htab hE => ?_)
  show J E x 0 0 (cW E ad T) 0 [(0, .ref (ad.1 0)), (1, .int (2 : Int32)), (2, .int a), (3, .int b)] []
  refine J_iload_n X (pc := 0) dL_act_0 1 rfl ?_
  refine J_if_ne X (pc := 1) 12 dL_act_1 (by decide) (fun _ => ?_) (fun c => absurd c (by decide))
  refine J_iload_n X (pc := 12) dL_act_12 1 rfl ?_
  refine J_iconst X (pc := 13) (v := 1) dL_act_13 (by decide +kernel) ?_
  refine J_icmp_ne X (pc := 14) 26 dL_act_14 (by decide) (fun _ => ?_) (fun c => absurd c (by decide))
  refine J_iload_n X (pc := 26) dL_act_26 1 rfl ?_
  refine J_iconst X (pc := 27) (v := 2) dL_act_27 (by decide +kernel) ?_
  refine J_icmp_ne X (pc := 28) 40 dL_act_28 (by decide) (fun c => absurd rfl c) (fun _ => ?_)
  refine J_aload_n X (pc := 31) dL_act_31 0 rfl ?_
  refine J_iload_n X (pc := 32) dL_act_32 2 rfl ?_
  refine J_iload_n X (pc := 33) dL_act_33 3 rfl ?_
  refine J_app0 ?_
  refine J_callF0I X (pc := 34) (y := yX7_sample) (na := 2) (As := [.int a, .int b]) (rest := []) (c_X7_sample E ad e) 0 cW_c0 rfl q_449 q_450 q_451 q_14 q_365 rfl (by decide +kernel) (by decide +kernel) rfl (Nat.le_of_ble_eq_true rfl) ⟨by decide +kernel, by decide +kernel⟩ dL_act_34 ?_
  refine J_app1r ?_
  refine J_goto X (pc := 37) 86 dL_act_37 (by decide) ?_
  exact J_widen (k2 := 1) (n2 := 6) (by decide +kernel) (by decide +kernel) (hE T2 hT2 _ _ dL_act_86)
set_option maxRecDepth 100000 in
set_option maxHeartbeats 4000000 in
theorem hx_clean (E : Ev) (ad : CA) {a b : Int32} {r : Int32} {T : TS} {O : Ob} (h : qx_clean a b O = some r) (hT : RlT T O) : CtH E yL_act cL_act 5 [(0, 86, 87, 34), (0, 86, 93, 36), (0, 86, 99, 38)] 9 170 1 6 (cW E ad T) [.ref (ad.1 0), .int (3 : Int32), .int a, .int b] r (fun u : TS => RlT u O) (fun u => cW E ad u) := by
  obtain ⟨Ex, hx, hr⟩ := kx_clean h hT
  rcases hr with ⟨rfl, rfl⟩ | ⟨rfl, rfl⟩
  · refine CtH_of (by decide +kernel) (Nat.le_of_ble_eq_true rfl) (fun x X XX XN htab hE => ?_)
    show J E x 0 0 (cW E ad T) 0 [(0, .ref (ad.1 0)), (1, .int (3 : Int32)), (2, .int a), (3, .int b)] []
    refine J_iload_n X (pc := 0) dL_act_0 1 rfl ?_
    refine J_if_ne X (pc := 1) 12 dL_act_1 (by decide) (fun _ => ?_) (fun c => absurd c (by decide))
    refine J_iload_n X (pc := 12) dL_act_12 1 rfl ?_
    refine J_iconst X (pc := 13) (v := 1) dL_act_13 (by decide +kernel) ?_
    refine J_icmp_ne X (pc := 14) 26 dL_act_14 (by decide) (fun _ => ?_) (fun c => absurd c (by decide))
    refine J_iload_n X (pc := 26) dL_act_26 1 rfl ?_
    refine J_iconst X (pc := 27) (v := 2) dL_act_27 (by decide +kernel) ?_
    refine J_icmp_ne X (pc := 28) 40 dL_act_28 (by decide) (fun _ => ?_) (fun c => absurd c (by decide))
    refine J_iload_n X (pc := 40) dL_act_40 1 rfl ?_
    refine J_iconst X (pc := 41) (v := 3) dL_act_41 (by decide +kernel) ?_
    refine J_icmp_ne X (pc := 42) 54 dL_act_42 (by decide) (fun c => absurd rfl c) (fun _ => ?_)
    refine J_aload_n X (pc := 45) dL_act_45 0 rfl ?_
    refine J_iload_n X (pc := 46) dL_act_46 2 rfl ?_
    refine J_iload_n X (pc := 47) dL_act_47 3 rfl ?_
    refine J_app0 ?_
    refine J_callCVF X XX (pc := 48) (y := yX7_clean) (na := 2) (As := [.int a, .int b]) (rest := []) (t_X7_clean E ad hx) 0 cW_c0 rfl q_452 q_453 q_454 q_14 q_373 rfl (by decide +kernel) (by decide +kernel) rfl (Nat.le_of_ble_eq_true rfl) ⟨by decide +kernel, by decide +kernel⟩ dL_act_48 [] [⟨0, 86, 93, 36⟩, ⟨0, 86, 99, 38⟩] ⟨0, 86, 87, 34⟩ htab (fun z hz => absurd hz List.not_mem_nil) (by decide) (by decide) q_440 nq_0 (fun q9 => ?_)
    refine J_app1r ?_
    refine J_astore X (pc := 87) dL_act_87 (by decide) rfl ?_
    refine J_sipush X (pc := 89) (v := -971) dL_act_89 (by decide +kernel) ?_
    exact hE T hT _ _ dL_act_92
  · refine CtH_of (by decide +kernel) (Nat.le_of_ble_eq_true rfl) (fun x X XX XN htab hE => ?_)
    show J E x 0 0 (cW E ad T) 0 [(0, .ref (ad.1 0)), (1, .int (3 : Int32)), (2, .int a), (3, .int b)] []
    refine J_iload_n X (pc := 0) dL_act_0 1 rfl ?_
    refine J_if_ne X (pc := 1) 12 dL_act_1 (by decide) (fun _ => ?_) (fun c => absurd c (by decide))
    refine J_iload_n X (pc := 12) dL_act_12 1 rfl ?_
    refine J_iconst X (pc := 13) (v := 1) dL_act_13 (by decide +kernel) ?_
    refine J_icmp_ne X (pc := 14) 26 dL_act_14 (by decide) (fun _ => ?_) (fun c => absurd c (by decide))
    refine J_iload_n X (pc := 26) dL_act_26 1 rfl ?_
    refine J_iconst X (pc := 27) (v := 2) dL_act_27 (by decide +kernel) ?_
    refine J_icmp_ne X (pc := 28) 40 dL_act_28 (by decide) (fun _ => ?_) (fun c => absurd c (by decide))
    refine J_iload_n X (pc := 40) dL_act_40 1 rfl ?_
    refine J_iconst X (pc := 41) (v := 3) dL_act_41 (by decide +kernel) ?_
    refine J_icmp_ne X (pc := 42) 54 dL_act_42 (by decide) (fun c => absurd rfl c) (fun _ => ?_)
    refine J_aload_n X (pc := 45) dL_act_45 0 rfl ?_
    refine J_iload_n X (pc := 46) dL_act_46 2 rfl ?_
    refine J_iload_n X (pc := 47) dL_act_47 3 rfl ?_
    refine J_app0 ?_
    refine J_callCVF X XX (pc := 48) (y := yX7_clean) (na := 2) (As := [.int a, .int b]) (rest := []) (t_X7_clean E ad hx) 0 cW_c0 rfl q_452 q_453 q_454 q_14 q_373 rfl (by decide +kernel) (by decide +kernel) rfl (Nat.le_of_ble_eq_true rfl) ⟨by decide +kernel, by decide +kernel⟩ dL_act_48 [⟨0, 86, 87, 34⟩] [⟨0, 86, 99, 38⟩] ⟨0, 86, 93, 36⟩ htab (fun z hz => by cases List.mem_singleton.mp hz; exact Or.inr ⟨by decide, "java/lang/IndexOutOfBoundsException", q_440, XN _ nc_1⟩) (by decide) (by decide) q_441 nq_1 (fun q9 => ?_)
    refine J_app1r ?_
    refine J_astore X (pc := 93) dL_act_93 (by decide) rfl ?_
    refine J_sipush X (pc := 95) (v := -972) dL_act_95 (by decide +kernel) ?_
    exact hE T hT _ _ dL_act_98
set_option maxRecDepth 100000 in
set_option maxHeartbeats 4000000 in
theorem ha_clean (E : Ev) (ad : CA) {a b : Int32} {r : Int32} {O2 : Ob} {T : TS} {O : Ob} (h : qa_clean a b O = some (r, O2)) (hT : RlT T O) : CtH E yL_act cL_act 5 [(0, 86, 87, 34), (0, 86, 93, 36), (0, 86, 99, 38)] 9 170 1 6 (cW E ad T) [.ref (ad.1 0), .int (3 : Int32), .int a, .int b] r (fun u : TS => RlT u O2) (fun u => cW E ad u) := by
  obtain ⟨T2, e, hT2⟩ := ka_clean h hT
  refine CtH_of (by decide +kernel) (Nat.le_of_ble_eq_true rfl) (fun x X XX XN htab hE => ?_)
  show J E x 0 0 (cW E ad T) 0 [(0, .ref (ad.1 0)), (1, .int (3 : Int32)), (2, .int a), (3, .int b)] []
  refine J_iload_n X (pc := 0) dL_act_0 1 rfl ?_
  refine J_if_ne X (pc := 1) 12 dL_act_1 (by decide) (fun _ => ?_) (fun c => absurd c (by decide))
  refine J_iload_n X (pc := 12) dL_act_12 1 rfl ?_
  refine J_iconst X (pc := 13) (v := 1) dL_act_13 (by decide +kernel) ?_
  refine J_icmp_ne X (pc := 14) 26 dL_act_14 (by decide) (fun _ => ?_) (fun c => absurd c (by decide))
  refine J_iload_n X (pc := 26) dL_act_26 1 rfl ?_
  refine J_iconst X (pc := 27) (v := 2) dL_act_27 (by decide +kernel) ?_
  refine J_icmp_ne X (pc := 28) 40 dL_act_28 (by decide) (fun _ => ?_) (fun c => absurd c (by decide))
  refine J_iload_n X (pc := 40) dL_act_40 1 rfl ?_
  refine J_iconst X (pc := 41) (v := 3) dL_act_41 (by decide +kernel) ?_
  refine J_icmp_ne X (pc := 42) 54 dL_act_42 (by decide) (fun c => absurd rfl c) (fun _ => ?_)
  refine J_aload_n X (pc := 45) dL_act_45 0 rfl ?_
  refine J_iload_n X (pc := 46) dL_act_46 2 rfl ?_
  refine J_iload_n X (pc := 47) dL_act_47 3 rfl ?_
  refine J_app0 ?_
  refine J_callF0I X (pc := 48) (y := yX7_clean) (na := 2) (As := [.int a, .int b]) (rest := []) (c_X7_clean E ad e) 0 cW_c0 rfl q_452 q_453 q_454 q_14 q_373 rfl (by decide +kernel) (by decide +kernel) rfl (Nat.le_of_ble_eq_true rfl) ⟨by decide +kernel, by decide +kernel⟩ dL_act_48 ?_
  refine J_app1r ?_
  refine J_goto X (pc := 51) 86 dL_act_51 (by decide) ?_
  exact J_widen (k2 := 1) (n2 := 6) (by decide +kernel) (by decide +kernel) (hE T2 hT2 _ _ dL_act_86)
set_option maxRecDepth 100000 in
set_option maxHeartbeats 4000000 in
theorem hx_pass (E : Ev) (ad : CA) {a b : Int32} {r : Int32} {T : TS} {O : Ob} (h : qx_pass a O = some r) (hT : RlT T O) : CtH E yL_act cL_act 5 [(0, 86, 87, 34), (0, 86, 93, 36), (0, 86, 99, 38)] 9 170 1 6 (cW E ad T) [.ref (ad.1 0), .int (4 : Int32), .int a, .int b] r (fun u : TS => RlT u O) (fun u => cW E ad u) := by
  obtain ⟨Ex, hx, hr⟩ := kx_pass h hT
  obtain ⟨rfl, rfl⟩ := hr
  refine CtH_of (by decide +kernel) (Nat.le_of_ble_eq_true rfl) (fun x X XX XN htab hE => ?_)
  show J E x 0 0 (cW E ad T) 0 [(0, .ref (ad.1 0)), (1, .int (4 : Int32)), (2, .int a), (3, .int b)] []
  refine J_iload_n X (pc := 0) dL_act_0 1 rfl ?_
  refine J_if_ne X (pc := 1) 12 dL_act_1 (by decide) (fun _ => ?_) (fun c => absurd c (by decide))
  refine J_iload_n X (pc := 12) dL_act_12 1 rfl ?_
  refine J_iconst X (pc := 13) (v := 1) dL_act_13 (by decide +kernel) ?_
  refine J_icmp_ne X (pc := 14) 26 dL_act_14 (by decide) (fun _ => ?_) (fun c => absurd c (by decide))
  refine J_iload_n X (pc := 26) dL_act_26 1 rfl ?_
  refine J_iconst X (pc := 27) (v := 2) dL_act_27 (by decide +kernel) ?_
  refine J_icmp_ne X (pc := 28) 40 dL_act_28 (by decide) (fun _ => ?_) (fun c => absurd c (by decide))
  refine J_iload_n X (pc := 40) dL_act_40 1 rfl ?_
  refine J_iconst X (pc := 41) (v := 3) dL_act_41 (by decide +kernel) ?_
  refine J_icmp_ne X (pc := 42) 54 dL_act_42 (by decide) (fun _ => ?_) (fun c => absurd c (by decide))
  refine J_iload_n X (pc := 54) dL_act_54 1 rfl ?_
  refine J_iconst X (pc := 55) (v := 4) dL_act_55 (by decide +kernel) ?_
  refine J_icmp_ne X (pc := 56) 67 dL_act_56 (by decide) (fun c => absurd rfl c) (fun _ => ?_)
  refine J_aload_n X (pc := 59) dL_act_59 0 rfl ?_
  refine J_iload_n X (pc := 60) dL_act_60 2 rfl ?_
  refine J_app0 ?_
  refine J_callCVF X XX (pc := 61) (y := yX7_pass) (na := 1) (As := [.int a]) (rest := []) (t_X7_pass E ad hx) 0 cW_c0 rfl q_455 q_456 q_457 q_14 q_381 rfl (by decide +kernel) (by decide +kernel) rfl (Nat.le_of_ble_eq_true rfl) ⟨by decide +kernel, by decide +kernel⟩ dL_act_61 [⟨0, 86, 87, 34⟩] [⟨0, 86, 99, 38⟩] ⟨0, 86, 93, 36⟩ htab (fun z hz => by cases List.mem_singleton.mp hz; exact Or.inr ⟨by decide, "java/lang/IndexOutOfBoundsException", q_440, XN _ nc_1⟩) (by decide) (by decide) q_441 nq_1 (fun q9 => ?_)
  refine J_app1r ?_
  refine J_astore X (pc := 93) dL_act_93 (by decide) rfl ?_
  refine J_sipush X (pc := 95) (v := -972) dL_act_95 (by decide +kernel) ?_
  exact hE T hT _ _ dL_act_98
set_option maxRecDepth 100000 in
set_option maxHeartbeats 4000000 in
theorem ha_pass (E : Ev) (ad : CA) {a b : Int32} {r : Int32} {O2 : Ob} {T : TS} {O : Ob} (h : qa_pass a O = some (r, O2)) (hT : RlT T O) : CtH E yL_act cL_act 5 [(0, 86, 87, 34), (0, 86, 93, 36), (0, 86, 99, 38)] 9 170 1 6 (cW E ad T) [.ref (ad.1 0), .int (4 : Int32), .int a, .int b] r (fun u : TS => RlT u O2) (fun u => cW E ad u) := by
  obtain ⟨T2, e, hT2⟩ := ka_pass h hT
  refine CtH_of (by decide +kernel) (Nat.le_of_ble_eq_true rfl) (fun x X XX XN htab hE => ?_)
  show J E x 0 0 (cW E ad T) 0 [(0, .ref (ad.1 0)), (1, .int (4 : Int32)), (2, .int a), (3, .int b)] []
  refine J_iload_n X (pc := 0) dL_act_0 1 rfl ?_
  refine J_if_ne X (pc := 1) 12 dL_act_1 (by decide) (fun _ => ?_) (fun c => absurd c (by decide))
  refine J_iload_n X (pc := 12) dL_act_12 1 rfl ?_
  refine J_iconst X (pc := 13) (v := 1) dL_act_13 (by decide +kernel) ?_
  refine J_icmp_ne X (pc := 14) 26 dL_act_14 (by decide) (fun _ => ?_) (fun c => absurd c (by decide))
  refine J_iload_n X (pc := 26) dL_act_26 1 rfl ?_
  refine J_iconst X (pc := 27) (v := 2) dL_act_27 (by decide +kernel) ?_
  refine J_icmp_ne X (pc := 28) 40 dL_act_28 (by decide) (fun _ => ?_) (fun c => absurd c (by decide))
  refine J_iload_n X (pc := 40) dL_act_40 1 rfl ?_
  refine J_iconst X (pc := 41) (v := 3) dL_act_41 (by decide +kernel) ?_
  refine J_icmp_ne X (pc := 42) 54 dL_act_42 (by decide) (fun _ => ?_) (fun c => absurd c (by decide))
  refine J_iload_n X (pc := 54) dL_act_54 1 rfl ?_
  refine J_iconst X (pc := 55) (v := 4) dL_act_55 (by decide +kernel) ?_
  refine J_icmp_ne X (pc := 56) 67 dL_act_56 (by decide) (fun c => absurd rfl c) (fun _ => ?_)
  refine J_aload_n X (pc := 59) dL_act_59 0 rfl ?_
  refine J_iload_n X (pc := 60) dL_act_60 2 rfl ?_
  refine J_app0 ?_
  refine J_callF0I X (pc := 61) (y := yX7_pass) (na := 1) (As := [.int a]) (rest := []) (c_X7_pass E ad e) 0 cW_c0 rfl q_455 q_456 q_457 q_14 q_381 rfl (by decide +kernel) (by decide +kernel) rfl (Nat.le_of_ble_eq_true rfl) ⟨by decide +kernel, by decide +kernel⟩ dL_act_61 ?_
  refine J_app1r ?_
  refine J_goto X (pc := 64) 86 dL_act_64 (by decide) ?_
  exact J_widen (k2 := 1) (n2 := 6) (by decide +kernel) (by decide +kernel) (hE T2 hT2 _ _ dL_act_86)
set_option maxRecDepth 100000 in
set_option maxHeartbeats 4000000 in
theorem hx_forecast (E : Ev) (ad : CA) {a b : Int32} {r : Int32} {T : TS} {O : Ob} (h : qx_forecast a b O = some r) (hT : RlT T O) : CtH E yL_act cL_act 5 [(0, 86, 87, 34), (0, 86, 93, 36), (0, 86, 99, 38)] 9 170 1 6 (cW E ad T) [.ref (ad.1 0), .int (5 : Int32), .int a, .int b] r (fun u : TS => RlT u O) (fun u => cW E ad u) := by
  obtain ⟨Ex, T2, hx, hT2, hr⟩ := kx_forecast h hT
  rcases hr with ⟨rfl, rfl⟩ | ⟨rfl, rfl⟩ | ⟨rfl, rfl⟩
  · refine CtH_of (by decide +kernel) (Nat.le_of_ble_eq_true rfl) (fun x X XX XN htab hE => ?_)
    show J E x 0 0 (cW E ad T) 0 [(0, .ref (ad.1 0)), (1, .int (5 : Int32)), (2, .int a), (3, .int b)] []
    refine J_iload_n X (pc := 0) dL_act_0 1 rfl ?_
    refine J_if_ne X (pc := 1) 12 dL_act_1 (by decide) (fun _ => ?_) (fun c => absurd c (by decide))
    refine J_iload_n X (pc := 12) dL_act_12 1 rfl ?_
    refine J_iconst X (pc := 13) (v := 1) dL_act_13 (by decide +kernel) ?_
    refine J_icmp_ne X (pc := 14) 26 dL_act_14 (by decide) (fun _ => ?_) (fun c => absurd c (by decide))
    refine J_iload_n X (pc := 26) dL_act_26 1 rfl ?_
    refine J_iconst X (pc := 27) (v := 2) dL_act_27 (by decide +kernel) ?_
    refine J_icmp_ne X (pc := 28) 40 dL_act_28 (by decide) (fun _ => ?_) (fun c => absurd c (by decide))
    refine J_iload_n X (pc := 40) dL_act_40 1 rfl ?_
    refine J_iconst X (pc := 41) (v := 3) dL_act_41 (by decide +kernel) ?_
    refine J_icmp_ne X (pc := 42) 54 dL_act_42 (by decide) (fun _ => ?_) (fun c => absurd c (by decide))
    refine J_iload_n X (pc := 54) dL_act_54 1 rfl ?_
    refine J_iconst X (pc := 55) (v := 4) dL_act_55 (by decide +kernel) ?_
    refine J_icmp_ne X (pc := 56) 67 dL_act_56 (by decide) (fun _ => ?_) (fun c => absurd c (by decide))
    refine J_iload_n X (pc := 67) dL_act_67 1 rfl ?_
    refine J_iconst X (pc := 68) (v := 5) dL_act_68 (by decide +kernel) ?_
    refine J_icmp_ne X (pc := 69) 81 dL_act_69 (by decide) (fun c => absurd rfl c) (fun _ => ?_)
    refine J_aload_n X (pc := 72) dL_act_72 0 rfl ?_
    refine J_iload_n X (pc := 73) dL_act_73 2 rfl ?_
    refine J_iload_n X (pc := 74) dL_act_74 3 rfl ?_
    refine J_app0 ?_
    refine J_callCVF X XX (pc := 75) (y := yX7_forecast) (na := 2) (As := [.int a, .int b]) (rest := []) (t_X7_forecast E ad hx) 0 cW_c0 rfl q_458 q_459 q_460 q_14 q_401 rfl (by decide +kernel) (by decide +kernel) rfl (Nat.le_of_ble_eq_true rfl) ⟨by decide +kernel, by decide +kernel⟩ dL_act_75 [] [⟨0, 86, 93, 36⟩, ⟨0, 86, 99, 38⟩] ⟨0, 86, 87, 34⟩ htab (fun z hz => absurd hz List.not_mem_nil) (by decide) (by decide) q_440 nq_0 (fun q9 => ?_)
    refine J_app1r ?_
    refine J_astore X (pc := 87) dL_act_87 (by decide) rfl ?_
    refine J_sipush X (pc := 89) (v := -971) dL_act_89 (by decide +kernel) ?_
    exact hE T2 hT2 _ _ dL_act_92
  · refine CtH_of (by decide +kernel) (Nat.le_of_ble_eq_true rfl) (fun x X XX XN htab hE => ?_)
    show J E x 0 0 (cW E ad T) 0 [(0, .ref (ad.1 0)), (1, .int (5 : Int32)), (2, .int a), (3, .int b)] []
    refine J_iload_n X (pc := 0) dL_act_0 1 rfl ?_
    refine J_if_ne X (pc := 1) 12 dL_act_1 (by decide) (fun _ => ?_) (fun c => absurd c (by decide))
    refine J_iload_n X (pc := 12) dL_act_12 1 rfl ?_
    refine J_iconst X (pc := 13) (v := 1) dL_act_13 (by decide +kernel) ?_
    refine J_icmp_ne X (pc := 14) 26 dL_act_14 (by decide) (fun _ => ?_) (fun c => absurd c (by decide))
    refine J_iload_n X (pc := 26) dL_act_26 1 rfl ?_
    refine J_iconst X (pc := 27) (v := 2) dL_act_27 (by decide +kernel) ?_
    refine J_icmp_ne X (pc := 28) 40 dL_act_28 (by decide) (fun _ => ?_) (fun c => absurd c (by decide))
    refine J_iload_n X (pc := 40) dL_act_40 1 rfl ?_
    refine J_iconst X (pc := 41) (v := 3) dL_act_41 (by decide +kernel) ?_
    refine J_icmp_ne X (pc := 42) 54 dL_act_42 (by decide) (fun _ => ?_) (fun c => absurd c (by decide))
    refine J_iload_n X (pc := 54) dL_act_54 1 rfl ?_
    refine J_iconst X (pc := 55) (v := 4) dL_act_55 (by decide +kernel) ?_
    refine J_icmp_ne X (pc := 56) 67 dL_act_56 (by decide) (fun _ => ?_) (fun c => absurd c (by decide))
    refine J_iload_n X (pc := 67) dL_act_67 1 rfl ?_
    refine J_iconst X (pc := 68) (v := 5) dL_act_68 (by decide +kernel) ?_
    refine J_icmp_ne X (pc := 69) 81 dL_act_69 (by decide) (fun c => absurd rfl c) (fun _ => ?_)
    refine J_aload_n X (pc := 72) dL_act_72 0 rfl ?_
    refine J_iload_n X (pc := 73) dL_act_73 2 rfl ?_
    refine J_iload_n X (pc := 74) dL_act_74 3 rfl ?_
    refine J_app0 ?_
    refine J_callCVF X XX (pc := 75) (y := yX7_forecast) (na := 2) (As := [.int a, .int b]) (rest := []) (t_X7_forecast E ad hx) 0 cW_c0 rfl q_458 q_459 q_460 q_14 q_401 rfl (by decide +kernel) (by decide +kernel) rfl (Nat.le_of_ble_eq_true rfl) ⟨by decide +kernel, by decide +kernel⟩ dL_act_75 [⟨0, 86, 87, 34⟩, ⟨0, 86, 93, 36⟩] [] ⟨0, 86, 99, 38⟩ htab (fun z hz => (List.mem_cons.mp hz).elim (fun hz => by subst hz; exact Or.inr ⟨by decide, "java/lang/IndexOutOfBoundsException", q_440, XN _ nc_2⟩) (fun hz => by cases List.mem_singleton.mp hz; exact Or.inr ⟨by decide, "java/lang/IllegalArgumentException", q_441, XN _ nc_0⟩)) (by decide) (by decide) q_442 nq_2 (fun q9 => ?_)
    refine J_app1r ?_
    refine J_astore X (pc := 99) dL_act_99 (by decide) rfl ?_
    refine J_sipush X (pc := 101) (v := -973) dL_act_101 (by decide +kernel) ?_
    exact hE T2 hT2 _ _ dL_act_104
  · refine CtH_of (by decide +kernel) (Nat.le_of_ble_eq_true rfl) (fun x X XX XN htab hE => ?_)
    show J E x 0 0 (cW E ad T) 0 [(0, .ref (ad.1 0)), (1, .int (5 : Int32)), (2, .int a), (3, .int b)] []
    refine J_iload_n X (pc := 0) dL_act_0 1 rfl ?_
    refine J_if_ne X (pc := 1) 12 dL_act_1 (by decide) (fun _ => ?_) (fun c => absurd c (by decide))
    refine J_iload_n X (pc := 12) dL_act_12 1 rfl ?_
    refine J_iconst X (pc := 13) (v := 1) dL_act_13 (by decide +kernel) ?_
    refine J_icmp_ne X (pc := 14) 26 dL_act_14 (by decide) (fun _ => ?_) (fun c => absurd c (by decide))
    refine J_iload_n X (pc := 26) dL_act_26 1 rfl ?_
    refine J_iconst X (pc := 27) (v := 2) dL_act_27 (by decide +kernel) ?_
    refine J_icmp_ne X (pc := 28) 40 dL_act_28 (by decide) (fun _ => ?_) (fun c => absurd c (by decide))
    refine J_iload_n X (pc := 40) dL_act_40 1 rfl ?_
    refine J_iconst X (pc := 41) (v := 3) dL_act_41 (by decide +kernel) ?_
    refine J_icmp_ne X (pc := 42) 54 dL_act_42 (by decide) (fun _ => ?_) (fun c => absurd c (by decide))
    refine J_iload_n X (pc := 54) dL_act_54 1 rfl ?_
    refine J_iconst X (pc := 55) (v := 4) dL_act_55 (by decide +kernel) ?_
    refine J_icmp_ne X (pc := 56) 67 dL_act_56 (by decide) (fun _ => ?_) (fun c => absurd c (by decide))
    refine J_iload_n X (pc := 67) dL_act_67 1 rfl ?_
    refine J_iconst X (pc := 68) (v := 5) dL_act_68 (by decide +kernel) ?_
    refine J_icmp_ne X (pc := 69) 81 dL_act_69 (by decide) (fun c => absurd rfl c) (fun _ => ?_)
    refine J_aload_n X (pc := 72) dL_act_72 0 rfl ?_
    refine J_iload_n X (pc := 73) dL_act_73 2 rfl ?_
    refine J_iload_n X (pc := 74) dL_act_74 3 rfl ?_
    refine J_app0 ?_
    refine J_callCVF X XX (pc := 75) (y := yX7_forecast) (na := 2) (As := [.int a, .int b]) (rest := []) (t_X7_forecast E ad hx) 0 cW_c0 rfl q_458 q_459 q_460 q_14 q_401 rfl (by decide +kernel) (by decide +kernel) rfl (Nat.le_of_ble_eq_true rfl) ⟨by decide +kernel, by decide +kernel⟩ dL_act_75 [⟨0, 86, 87, 34⟩] [⟨0, 86, 99, 38⟩] ⟨0, 86, 93, 36⟩ htab (fun z hz => by cases List.mem_singleton.mp hz; exact Or.inr ⟨by decide, "java/lang/IndexOutOfBoundsException", q_440, XN _ nc_1⟩) (by decide) (by decide) q_441 nq_1 (fun q9 => ?_)
    refine J_app1r ?_
    refine J_astore X (pc := 93) dL_act_93 (by decide) rfl ?_
    refine J_sipush X (pc := 95) (v := -972) dL_act_95 (by decide +kernel) ?_
    exact hE T2 hT2 _ _ dL_act_98
set_option maxRecDepth 100000 in
set_option maxHeartbeats 4000000 in
theorem hx_poolFull (E : Ev) (ad : CA) {a b : Int32} {r : Int32} {T : TS} {O : Ob} (h : qx_poolFull a O = some r) (hT : RlT T O) : CtH E yL_act cL_act 5 [(0, 86, 87, 34), (0, 86, 93, 36), (0, 86, 99, 38)] 9 170 1 6 (cW E ad T) [.ref (ad.1 0), .int (6 : Int32), .int a, .int b] r (fun u : TS => RlT u O) (fun u => cW E ad u) := by
  obtain ⟨Ex, hx, hr⟩ := kx_poolFull h hT
  obtain ⟨rfl, rfl⟩ := hr
  refine CtH_of (by decide +kernel) (Nat.le_of_ble_eq_true rfl) (fun x X XX XN htab hE => ?_)
  show J E x 0 0 (cW E ad T) 0 [(0, .ref (ad.1 0)), (1, .int (6 : Int32)), (2, .int a), (3, .int b)] []
  refine J_iload_n X (pc := 0) dL_act_0 1 rfl ?_
  refine J_if_ne X (pc := 1) 12 dL_act_1 (by decide) (fun _ => ?_) (fun c => absurd c (by decide))
  refine J_iload_n X (pc := 12) dL_act_12 1 rfl ?_
  refine J_iconst X (pc := 13) (v := 1) dL_act_13 (by decide +kernel) ?_
  refine J_icmp_ne X (pc := 14) 26 dL_act_14 (by decide) (fun _ => ?_) (fun c => absurd c (by decide))
  refine J_iload_n X (pc := 26) dL_act_26 1 rfl ?_
  refine J_iconst X (pc := 27) (v := 2) dL_act_27 (by decide +kernel) ?_
  refine J_icmp_ne X (pc := 28) 40 dL_act_28 (by decide) (fun _ => ?_) (fun c => absurd c (by decide))
  refine J_iload_n X (pc := 40) dL_act_40 1 rfl ?_
  refine J_iconst X (pc := 41) (v := 3) dL_act_41 (by decide +kernel) ?_
  refine J_icmp_ne X (pc := 42) 54 dL_act_42 (by decide) (fun _ => ?_) (fun c => absurd c (by decide))
  refine J_iload_n X (pc := 54) dL_act_54 1 rfl ?_
  refine J_iconst X (pc := 55) (v := 4) dL_act_55 (by decide +kernel) ?_
  refine J_icmp_ne X (pc := 56) 67 dL_act_56 (by decide) (fun _ => ?_) (fun c => absurd c (by decide))
  refine J_iload_n X (pc := 67) dL_act_67 1 rfl ?_
  refine J_iconst X (pc := 68) (v := 5) dL_act_68 (by decide +kernel) ?_
  refine J_icmp_ne X (pc := 69) 81 dL_act_69 (by decide) (fun _ => ?_) (fun c => absurd c (by decide))
  refine J_aload_n X (pc := 81) dL_act_81 0 rfl ?_
  refine J_iload_n X (pc := 82) dL_act_82 2 rfl ?_
  refine J_app0 ?_
  refine J_callCVF X XX (pc := 83) (y := yX7_poolFull) (na := 1) (As := [.int a]) (rest := []) (t_X7_poolFull E ad hx) 0 cW_c0 rfl q_461 q_462 q_463 q_14 q_431 rfl (by decide +kernel) (by decide +kernel) rfl (Nat.le_of_ble_eq_true rfl) ⟨by decide +kernel, by decide +kernel⟩ dL_act_83 [⟨0, 86, 87, 34⟩] [⟨0, 86, 99, 38⟩] ⟨0, 86, 93, 36⟩ htab (fun z hz => by cases List.mem_singleton.mp hz; exact Or.inr ⟨by decide, "java/lang/IndexOutOfBoundsException", q_440, XN _ nc_1⟩) (by decide) (by decide) q_441 nq_1 (fun q9 => ?_)
  refine J_app1r ?_
  refine J_astore X (pc := 93) dL_act_93 (by decide) rfl ?_
  refine J_sipush X (pc := 95) (v := -972) dL_act_95 (by decide +kernel) ?_
  exact hE T hT _ _ dL_act_98
set_option maxRecDepth 100000 in
set_option maxHeartbeats 4000000 in
theorem hx_setRule (E : Ev) (ad : CA) {a b c : Int32} {r : Int32} {T : TS} {O : Ob} (h : qx_setRule a b c O = some r) (hT : RlT T O) : CtH E yL_setRule cL_setRule 5 [(0, 8, 9, 34), (0, 8, 15, 36)] 9 170 1 6 (cW E ad T) [.ref (ad.1 0), .int a, .int b, .int c] r (fun u : TS => RlT u O) (fun u => cW E ad u) := by
  obtain ⟨Ex, hx, hr⟩ := kx_setRule h hT
  rcases hr with ⟨rfl, rfl⟩ | ⟨rfl, rfl⟩
  · refine CtH_of (by decide +kernel) (Nat.le_of_ble_eq_true rfl) (fun x X XX XN htab hE => ?_)
    show J E x 0 0 (cW E ad T) 0 [(0, .ref (ad.1 0)), (1, .int a), (2, .int b), (3, .int c)] []
    refine J_aload_n X (pc := 0) dL_setRule_0 0 rfl ?_
    refine J_iload_n X (pc := 1) dL_setRule_1 1 rfl ?_
    refine J_iload_n X (pc := 2) dL_setRule_2 2 rfl ?_
    refine J_iload_n X (pc := 3) dL_setRule_3 3 rfl ?_
    refine J_app0 ?_
    refine J_callCVF X XX (pc := 4) (y := yX7_setRule) (na := 3) (As := [.int a, .int b, .int c]) (rest := []) (t_X7_setRule E ad hx) 0 cW_c0 rfl q_465 q_466 q_467 q_14 q_377 rfl (by decide +kernel) (by decide +kernel) rfl (Nat.le_of_ble_eq_true rfl) ⟨by decide +kernel, by decide +kernel⟩ dL_setRule_4 [] [⟨0, 8, 15, 36⟩] ⟨0, 8, 9, 34⟩ htab (fun z hz => absurd hz List.not_mem_nil) (by decide) (by decide) q_440 nq_0 (fun q9 => ?_)
    refine J_app1r ?_
    refine J_astore X (pc := 9) dL_setRule_9 (by decide) rfl ?_
    refine J_sipush X (pc := 11) (v := -971) dL_setRule_11 (by decide +kernel) ?_
    exact hE T hT _ _ dL_setRule_14
  · refine CtH_of (by decide +kernel) (Nat.le_of_ble_eq_true rfl) (fun x X XX XN htab hE => ?_)
    show J E x 0 0 (cW E ad T) 0 [(0, .ref (ad.1 0)), (1, .int a), (2, .int b), (3, .int c)] []
    refine J_aload_n X (pc := 0) dL_setRule_0 0 rfl ?_
    refine J_iload_n X (pc := 1) dL_setRule_1 1 rfl ?_
    refine J_iload_n X (pc := 2) dL_setRule_2 2 rfl ?_
    refine J_iload_n X (pc := 3) dL_setRule_3 3 rfl ?_
    refine J_app0 ?_
    refine J_callCVF X XX (pc := 4) (y := yX7_setRule) (na := 3) (As := [.int a, .int b, .int c]) (rest := []) (t_X7_setRule E ad hx) 0 cW_c0 rfl q_465 q_466 q_467 q_14 q_377 rfl (by decide +kernel) (by decide +kernel) rfl (Nat.le_of_ble_eq_true rfl) ⟨by decide +kernel, by decide +kernel⟩ dL_setRule_4 [⟨0, 8, 9, 34⟩] [] ⟨0, 8, 15, 36⟩ htab (fun z hz => by cases List.mem_singleton.mp hz; exact Or.inr ⟨by decide, "java/lang/IndexOutOfBoundsException", q_440, XN _ nc_1⟩) (by decide) (by decide) q_441 nq_1 (fun q9 => ?_)
    refine J_app1r ?_
    refine J_astore X (pc := 15) dL_setRule_15 (by decide) rfl ?_
    refine J_sipush X (pc := 17) (v := -972) dL_setRule_17 (by decide +kernel) ?_
    exact hE T hT _ _ dL_setRule_20
set_option maxRecDepth 100000 in
set_option maxHeartbeats 4000000 in
theorem ha_setRule (E : Ev) (ad : CA) {a b c : Int32} {O2 : Ob} {T : TS} {O : Ob} (h : qa_setRule a b c O = some O2) (hT : RlT T O) : CtH E yL_setRule cL_setRule 5 [(0, 8, 9, 34), (0, 8, 15, 36)] 9 170 1 6 (cW E ad T) [.ref (ad.1 0), .int a, .int b, .int c] 0 (fun u : TS => RlT u O2) (fun u => cW E ad u) := by
  obtain ⟨T2, e, hT2⟩ := ka_setRule h hT
  refine CtH_of (by decide +kernel) (Nat.le_of_ble_eq_true rfl) (fun x X XX XN htab hE => ?_)
  show J E x 0 0 (cW E ad T) 0 [(0, .ref (ad.1 0)), (1, .int a), (2, .int b), (3, .int c)] []
  refine J_aload_n X (pc := 0) dL_setRule_0 0 rfl ?_
  refine J_iload_n X (pc := 1) dL_setRule_1 1 rfl ?_
  refine J_iload_n X (pc := 2) dL_setRule_2 2 rfl ?_
  refine J_iload_n X (pc := 3) dL_setRule_3 3 rfl ?_
  refine J_app0 ?_
  refine J_callF0V X (pc := 4) (y := yX7_setRule) (na := 3) (As := [.int a, .int b, .int c]) (rest := []) (c_X7_setRule E ad e) 0 cW_c0 rfl q_465 q_466 q_467 q_14 q_377 rfl (by decide +kernel) (by decide +kernel) rfl (Nat.le_of_ble_eq_true rfl) ⟨by decide +kernel, by decide +kernel⟩ dL_setRule_4 ?_
  refine J_app1r ?_
  refine J_iconst X (pc := 7) (v := 0) dL_setRule_7 (by decide +kernel) ?_
  exact J_widen (k2 := 1) (n2 := 6) (by decide +kernel) (by decide +kernel) (hE T2 hT2 _ _ dL_setRule_8)
set_option maxRecDepth 100000 in
set_option maxHeartbeats 4000000 in
theorem hx_of (E : Ev) (ad : CA) {a b : Int32} {T : TS} {O : Ob} (hs : ¬ inO O b) (hT : RlT T O) : CtH E yL_of cL_of 4 [(0, 77, 78, 34)] 9 170 1 6 (cW E ad T) [.ref (ad.1 0), .int a, .int b] (-971) (fun u : TS => RlT u O) (fun u => cW E ad u) := by
  obtain ⟨h1, h2, h3, h4, h5, h6⟩ := kx_of hT hs
  refine CtH_of (by decide +kernel) (Nat.le_of_ble_eq_true rfl) (fun x X XX XN htab hE => ?_)
  show J E x 0 0 (cW E ad T) 0 [(0, .ref (ad.1 0)), (1, .int a), (2, .int b)] []
  refine J_iload_n X (pc := 0) dL_of_0 1 rfl ?_
  refine J_if_ne X (pc := 1) 12 dL_of_1 (by decide) (fun c0 => ?_) (fun c0 => ?_)
  · refine J_iload_n X (pc := 12) dL_of_12 1 rfl ?_
    refine J_iconst X (pc := 13) (v := 1) dL_of_13 (by decide +kernel) ?_
    refine J_icmp_ne X (pc := 14) 25 dL_of_14 (by decide) (fun c1 => ?_) (fun c1 => ?_)
    · refine J_iload_n X (pc := 25) dL_of_25 1 rfl ?_
      refine J_iconst X (pc := 26) (v := 2) dL_of_26 (by decide +kernel) ?_
      refine J_icmp_ne X (pc := 27) 38 dL_of_27 (by decide) (fun c2 => ?_) (fun c2 => ?_)
      · refine J_iload_n X (pc := 38) dL_of_38 1 rfl ?_
        refine J_iconst X (pc := 39) (v := 3) dL_of_39 (by decide +kernel) ?_
        refine J_icmp_ne X (pc := 40) 51 dL_of_40 (by decide) (fun c3 => ?_) (fun c3 => ?_)
        · refine J_iload_n X (pc := 51) dL_of_51 1 rfl ?_
          refine J_iconst X (pc := 52) (v := 4) dL_of_52 (by decide +kernel) ?_
          refine J_icmp_ne X (pc := 53) 64 dL_of_53 (by decide) (fun c4 => ?_) (fun c4 => ?_)
          · refine J_aload_n X (pc := 64) dL_of_64 0 rfl ?_
            refine J_iload_n X (pc := 65) dL_of_65 2 rfl ?_
            refine J_app0 ?_
            refine J_callCVF X XX (pc := 66) (y := yX7_warns) (na := 1) (As := [.int b]) (rest := []) (t_X7_warns E ad h6) 0 cW_c0 rfl q_484 q_485 q_486 q_14 q_415 rfl (by decide +kernel) (by decide +kernel) rfl (Nat.le_of_ble_eq_true rfl) ⟨by decide +kernel, by decide +kernel⟩ dL_of_66 [] [] ⟨0, 77, 78, 34⟩ htab (fun z hz => absurd hz List.not_mem_nil) (by decide) (by decide) q_440 nq_0 (fun q9 => ?_)
            refine J_app1r ?_
            refine J_astore_n X (pc := 78) dL_of_78 (by decide) rfl ?_
            refine J_sipush X (pc := 79) (v := -971) dL_of_79 (by decide +kernel) ?_
            exact hE T hT _ _ dL_of_82
          · refine J_aload_n X (pc := 56) dL_of_56 0 rfl ?_
            refine J_iload_n X (pc := 57) dL_of_57 2 rfl ?_
            refine J_app0 ?_
            refine J_callCVF X XX (pc := 58) (y := yX7_late) (na := 1) (As := [.int b]) (rest := []) (t_X7_late E ad h5) 0 cW_c0 rfl q_481 q_482 q_483 q_14 q_414 rfl (by decide +kernel) (by decide +kernel) rfl (Nat.le_of_ble_eq_true rfl) ⟨by decide +kernel, by decide +kernel⟩ dL_of_58 [] [] ⟨0, 77, 78, 34⟩ htab (fun z hz => absurd hz List.not_mem_nil) (by decide) (by decide) q_440 nq_0 (fun q9 => ?_)
            refine J_app1r ?_
            refine J_astore_n X (pc := 78) dL_of_78 (by decide) rfl ?_
            refine J_sipush X (pc := 79) (v := -971) dL_of_79 (by decide +kernel) ?_
            exact hE T hT _ _ dL_of_82
        · refine J_aload_n X (pc := 43) dL_of_43 0 rfl ?_
          refine J_iload_n X (pc := 44) dL_of_44 2 rfl ?_
          refine J_app0 ?_
          refine J_callCVF X XX (pc := 45) (y := yX7_early) (na := 1) (As := [.int b]) (rest := []) (t_X7_early E ad h4) 0 cW_c0 rfl q_478 q_479 q_480 q_14 q_410 rfl (by decide +kernel) (by decide +kernel) rfl (Nat.le_of_ble_eq_true rfl) ⟨by decide +kernel, by decide +kernel⟩ dL_of_45 [] [] ⟨0, 77, 78, 34⟩ htab (fun z hz => absurd hz List.not_mem_nil) (by decide) (by decide) q_440 nq_0 (fun q9 => ?_)
          refine J_app1r ?_
          refine J_astore_n X (pc := 78) dL_of_78 (by decide) rfl ?_
          refine J_sipush X (pc := 79) (v := -971) dL_of_79 (by decide +kernel) ?_
          exact hE T hT _ _ dL_of_82
      · refine J_aload_n X (pc := 30) dL_of_30 0 rfl ?_
        refine J_iload_n X (pc := 31) dL_of_31 2 rfl ?_
        refine J_app0 ?_
        refine J_callCVF X XX (pc := 32) (y := yX7_full) (na := 1) (As := [.int b]) (rest := []) (t_X7_full E ad h3) 0 cW_c0 rfl q_475 q_476 q_477 q_14 q_408 rfl (by decide +kernel) (by decide +kernel) rfl (Nat.le_of_ble_eq_true rfl) ⟨by decide +kernel, by decide +kernel⟩ dL_of_32 [] [] ⟨0, 77, 78, 34⟩ htab (fun z hz => absurd hz List.not_mem_nil) (by decide) (by decide) q_440 nq_0 (fun q9 => ?_)
        refine J_app1r ?_
        refine J_astore_n X (pc := 78) dL_of_78 (by decide) rfl ?_
        refine J_sipush X (pc := 79) (v := -971) dL_of_79 (by decide +kernel) ?_
        exact hE T hT _ _ dL_of_82
    · refine J_aload_n X (pc := 17) dL_of_17 0 rfl ?_
      refine J_iload_n X (pc := 18) dL_of_18 2 rfl ?_
      refine J_app0 ?_
      refine J_callCVF X XX (pc := 19) (y := yX7_usual) (na := 1) (As := [.int b]) (rest := []) (t_X7_usual E ad h2) 0 cW_c0 rfl q_472 q_473 q_474 q_14 q_399 rfl (by decide +kernel) (by decide +kernel) rfl (Nat.le_of_ble_eq_true rfl) ⟨by decide +kernel, by decide +kernel⟩ dL_of_19 [] [] ⟨0, 77, 78, 34⟩ htab (fun z hz => absurd hz List.not_mem_nil) (by decide) (by decide) q_440 nq_0 (fun q9 => ?_)
      refine J_app1r ?_
      refine J_astore_n X (pc := 78) dL_of_78 (by decide) rfl ?_
      refine J_sipush X (pc := 79) (v := -971) dL_of_79 (by decide +kernel) ?_
      exact hE T hT _ _ dL_of_82
  · refine J_aload_n X (pc := 4) dL_of_4 0 rfl ?_
    refine J_iload_n X (pc := 5) dL_of_5 2 rfl ?_
    refine J_app0 ?_
    refine J_callCVF X XX (pc := 6) (y := yX7_samples) (na := 1) (As := [.int b]) (rest := []) (t_X7_samples E ad h1) 0 cW_c0 rfl q_469 q_470 q_471 q_14 q_383 rfl (by decide +kernel) (by decide +kernel) rfl (Nat.le_of_ble_eq_true rfl) ⟨by decide +kernel, by decide +kernel⟩ dL_of_6 [] [] ⟨0, 77, 78, 34⟩ htab (fun z hz => absurd hz List.not_mem_nil) (by decide) (by decide) q_440 nq_0 (fun q9 => ?_)
    refine J_app1r ?_
    refine J_astore_n X (pc := 78) dL_of_78 (by decide) rfl ?_
    refine J_sipush X (pc := 79) (v := -971) dL_of_79 (by decide +kernel) ?_
    exact hE T hT _ _ dL_of_82
noncomputable def q_slope (a s : Int32) (O : Ob) : Option Int32 := if inO O s then (if aN (stA O s) < 2 then some (-2000000973) else if a = 0 then some (i3 (vD (stA O s))) else some (i3 (vN (stA O s)))) else some (-2000000971)
set_option maxRecDepth 100000 in
set_option maxHeartbeats 4000000 in
theorem hs_slope (E : Ev) (ad : CA) {a b r : Int32} {T : TS} {O : Ob} (h : q_slope a b O = some r) (hT : RlT T O) : CtH E yL_slope cL_slope 4 [(0, 17, 18, 34), (0, 17, 22, 38)] 9 170 1 6 (cW E ad T) [.ref (ad.1 0), .int a, .int b] r (fun u : TS => RlT u O) (fun u => cW E ad u) := by
  unfold q_slope at h
  by_cases hs : inO O b
  · rw [if_pos hs] at h
    by_cases n2 : aN (stA O b) < 2
    · rw [if_pos n2] at h
      obtain ⟨h1, h2⟩ := (kx_slope hT).2 hs n2
      cases h
      refine CtH_of (by decide +kernel) (Nat.le_of_ble_eq_true rfl) (fun x X XX XN htab hE => ?_)
      show J E x 0 0 (cW E ad T) 0 [(0, .ref (ad.1 0)), (1, .int a), (2, .int b)] []
      refine J_iload_n X (pc := 0) dL_slope_0 1 rfl ?_
      refine J_if_eq X (pc := 1) 12 dL_slope_1 (by decide) (fun c => ?_) (fun c => ?_)
      · refine J_aload_n X (pc := 12) dL_slope_12 0 rfl ?_
        refine J_iload_n X (pc := 13) dL_slope_13 2 rfl ?_
        refine J_app0 ?_
        refine J_callCVF X XX (pc := 14) (y := yX7_slopeDenominator) (na := 1) (As := [.int b]) (rest := []) (t_X7_slopeDenominator E ad h2) 0 cW_c0 rfl q_493 q_494 q_495 q_14 q_397 rfl (by decide +kernel) (by decide +kernel) rfl (Nat.le_of_ble_eq_true rfl) ⟨by decide +kernel, by decide +kernel⟩ dL_slope_14 [⟨0, 17, 18, 34⟩] [] ⟨0, 17, 22, 38⟩ htab (fun z hz => by cases List.mem_singleton.mp hz; exact Or.inr ⟨by decide, "java/lang/IndexOutOfBoundsException", q_440, XN _ nc_2⟩) (by decide) (by decide) q_442 nq_2 (fun q9 => ?_)
        refine J_app1r ?_
        refine J_astore_n X (pc := 22) dL_slope_22 (by decide) rfl ?_
        refine J_ldc X (pc := 23) dL_slope_23 q_489 ?_
        exact hE T hT _ _ dL_slope_25
      · refine J_aload_n X (pc := 4) dL_slope_4 0 rfl ?_
        refine J_iload_n X (pc := 5) dL_slope_5 2 rfl ?_
        refine J_app0 ?_
        refine J_callCVF X XX (pc := 6) (y := yX7_slopeNumerator) (na := 1) (As := [.int b]) (rest := []) (t_X7_slopeNumerator E ad h1) 0 cW_c0 rfl q_490 q_491 q_492 q_14 q_393 rfl (by decide +kernel) (by decide +kernel) rfl (Nat.le_of_ble_eq_true rfl) ⟨by decide +kernel, by decide +kernel⟩ dL_slope_6 [⟨0, 17, 18, 34⟩] [] ⟨0, 17, 22, 38⟩ htab (fun z hz => by cases List.mem_singleton.mp hz; exact Or.inr ⟨by decide, "java/lang/IndexOutOfBoundsException", q_440, XN _ nc_2⟩) (by decide) (by decide) q_442 nq_2 (fun q9 => ?_)
        refine J_app1r ?_
        refine J_astore_n X (pc := 22) dL_slope_22 (by decide) rfl ?_
        refine J_ldc X (pc := 23) dL_slope_23 q_489 ?_
        exact hE T hT _ _ dL_slope_25
    · rw [if_neg n2] at h
      refine CtH_of (by decide +kernel) (Nat.le_of_ble_eq_true rfl) (fun x X XX XN htab hE => ?_)
      show J E x 0 0 (cW E ad T) 0 [(0, .ref (ad.1 0)), (1, .int a), (2, .int b)] []
      refine J_iload_n X (pc := 0) dL_slope_0 1 rfl ?_
      refine J_if_eq X (pc := 1) 12 dL_slope_1 (by decide) (fun c => ?_) (fun c => ?_)
      · rw [if_pos c] at h
        cases h
        have hq : q_slopeDenominator b O = some (i3 (vD (stA O b))) := by unfold q_slopeDenominator; rw [ck_pos hs, ck_pos (by omega)]
        obtain ⟨T2, e, hT2⟩ := k_slopeDenominator hq hT
        refine J_aload_n X (pc := 12) dL_slope_12 0 rfl ?_
        refine J_iload_n X (pc := 13) dL_slope_13 2 rfl ?_
        refine J_app0 ?_
        refine J_callF0I X (pc := 14) (y := yX7_slopeDenominator) (na := 1) (As := [.int b]) (rest := []) (c_X7_slopeDenominator E ad e) 0 cW_c0 rfl q_493 q_494 q_495 q_14 q_397 rfl (by decide +kernel) (by decide +kernel) rfl (Nat.le_of_ble_eq_true rfl) ⟨by decide +kernel, by decide +kernel⟩ dL_slope_14 ?_
        refine J_app1r ?_
        exact J_widen (k2 := 1) (n2 := 6) (by decide +kernel) (by decide +kernel) (hE T2 hT2 _ _ dL_slope_17)
      · rw [if_neg c] at h
        cases h
        have hq : q_slopeNumerator b O = some (i3 (vN (stA O b))) := by unfold q_slopeNumerator; rw [ck_pos hs, ck_pos (by omega)]
        obtain ⟨T2, e, hT2⟩ := k_slopeNumerator hq hT
        refine J_aload_n X (pc := 4) dL_slope_4 0 rfl ?_
        refine J_iload_n X (pc := 5) dL_slope_5 2 rfl ?_
        refine J_app0 ?_
        refine J_callF0I X (pc := 6) (y := yX7_slopeNumerator) (na := 1) (As := [.int b]) (rest := []) (c_X7_slopeNumerator E ad e) 0 cW_c0 rfl q_490 q_491 q_492 q_14 q_393 rfl (by decide +kernel) (by decide +kernel) rfl (Nat.le_of_ble_eq_true rfl) ⟨by decide +kernel, by decide +kernel⟩ dL_slope_6 ?_
        refine J_app1r ?_
        refine J_goto X (pc := 9) 17 dL_slope_9 (by decide) ?_
        exact J_widen (k2 := 1) (n2 := 6) (by decide +kernel) (by decide +kernel) (hE T2 hT2 _ _ dL_slope_17)
  · rw [if_neg hs] at h
    obtain ⟨h1, h2⟩ := (kx_slope hT).1 hs
    cases h
    refine CtH_of (by decide +kernel) (Nat.le_of_ble_eq_true rfl) (fun x X XX XN htab hE => ?_)
    show J E x 0 0 (cW E ad T) 0 [(0, .ref (ad.1 0)), (1, .int a), (2, .int b)] []
    refine J_iload_n X (pc := 0) dL_slope_0 1 rfl ?_
    refine J_if_eq X (pc := 1) 12 dL_slope_1 (by decide) (fun c => ?_) (fun c => ?_)
    · refine J_aload_n X (pc := 12) dL_slope_12 0 rfl ?_
      refine J_iload_n X (pc := 13) dL_slope_13 2 rfl ?_
      refine J_app0 ?_
      refine J_callCVF X XX (pc := 14) (y := yX7_slopeDenominator) (na := 1) (As := [.int b]) (rest := []) (t_X7_slopeDenominator E ad h2) 0 cW_c0 rfl q_493 q_494 q_495 q_14 q_397 rfl (by decide +kernel) (by decide +kernel) rfl (Nat.le_of_ble_eq_true rfl) ⟨by decide +kernel, by decide +kernel⟩ dL_slope_14 [] [⟨0, 17, 22, 38⟩] ⟨0, 17, 18, 34⟩ htab (fun z hz => absurd hz List.not_mem_nil) (by decide) (by decide) q_440 nq_0 (fun q9 => ?_)
      refine J_app1r ?_
      refine J_astore_n X (pc := 18) dL_slope_18 (by decide) rfl ?_
      refine J_ldc X (pc := 19) dL_slope_19 q_488 ?_
      exact hE T hT _ _ dL_slope_21
    · refine J_aload_n X (pc := 4) dL_slope_4 0 rfl ?_
      refine J_iload_n X (pc := 5) dL_slope_5 2 rfl ?_
      refine J_app0 ?_
      refine J_callCVF X XX (pc := 6) (y := yX7_slopeNumerator) (na := 1) (As := [.int b]) (rest := []) (t_X7_slopeNumerator E ad h1) 0 cW_c0 rfl q_490 q_491 q_492 q_14 q_393 rfl (by decide +kernel) (by decide +kernel) rfl (Nat.le_of_ble_eq_true rfl) ⟨by decide +kernel, by decide +kernel⟩ dL_slope_6 [] [⟨0, 17, 22, 38⟩] ⟨0, 17, 18, 34⟩ htab (fun z hz => absurd hz List.not_mem_nil) (by decide) (by decide) q_440 nq_0 (fun q9 => ?_)
      refine J_app1r ?_
      refine J_astore_n X (pc := 18) dL_slope_18 (by decide) rfl ?_
      refine J_ldc X (pc := 19) dL_slope_19 q_488 ?_
      exact hE T hT _ _ dL_slope_21
section PACT
variable {E : Ev} {x : Cx} {cc : ByteArray} {rm0 : Room} {nL0 k n : Nat} {al : Nat → Nat} {ad : CA} {L : LW} {T : TS} {O : Ob} {pc : Nat} {lv : List (Nat × Value)} {rest : List Value}
theorem P_x_addStore (X : Ok E x cc RL rm0 nL0) (XX : OkX E x) (XN : OkN x) {a b r : Int32} (h : qx_addStore a O = some r) (hT : RlT T O) (hf : 10 ≤ rm0.frames ∧ 194 ≤ rm0.locals) (hW : (rest.map fun v => v.category).sum ≤ 8) (hkn : k + 1 ≤ rm0.cells ∧ n + 6 ≤ rm0.slots) (hdg : decode cc pc = .ok (.invokestatic 99, 3)) (k1 : ∀ T2, RlT T2 O → J E x (k + 1) (n + 6) (pw E al ad L T2) (pc + 3) lv (.int r :: rest)) : J E x k n (pw E al ad L T) pc lv (.int b :: .int a :: .int (0 : Int32) :: .ref (ad.1 0) :: rest) := by
  refine J_perm pw_pm ?_
  exact J_callH (As := [.ref (ad.1 0), .int (0 : Int32), .int a, .int b]) (rest := rest) X XX XN (hx_addStore E ad h hT) q_515 q_516 q_507 q_464 rfl (na := 4) (by decide +kernel) ⟨hf.1, hf.2⟩ rfl hW hkn hdg (fun u hu => J_perm pw_pm2 (k1 u hu))
theorem P_a_addStore (X : Ok E x cc RL rm0 nL0) (XX : OkX E x) (XN : OkN x) {a b r : Int32} {O2 : Ob} (h : qa_addStore a O = some (r, O2)) (hT : RlT T O) (hf : 10 ≤ rm0.frames ∧ 194 ≤ rm0.locals) (hW : (rest.map fun v => v.category).sum ≤ 8) (hkn : k + 16 ≤ rm0.cells ∧ n + 398 ≤ rm0.slots) (hdg : decode cc pc = .ok (.invokestatic 99, 3)) (k1 : ∀ ad2 T2, ad2.1 0 = ad.1 0 → RlT T2 O2 → J E x (k + 16) (n + 398) (pw E al ad2 L T2) (pc + 3) lv (.int r :: rest)) : J E x k n (pw E al ad L T) pc lv (.int b :: .int a :: .int (0 : Int32) :: .ref (ad.1 0) :: rest) := by
  refine J_perm pw_pm ?_
  exact J_callH (As := [.ref (ad.1 0), .int (0 : Int32), .int a, .int b]) (rest := rest) X XX XN (ha_addStore E ad h hT) q_515 q_516 q_507 q_464 rfl (na := 4) (by decide +kernel) ⟨hf.1, hf.2⟩ rfl hW hkn hdg (fun u hu => J_perm pw_pm2 (k1 u.1 u.2 hu.1 hu.2))
theorem P_x_setSize (X : Ok E x cc RL rm0 nL0) (XX : OkX E x) (XN : OkN x) {a b r : Int32} (h : qx_setSize a b O = some r) (hT : RlT T O) (hf : 10 ≤ rm0.frames ∧ 194 ≤ rm0.locals) (hW : (rest.map fun v => v.category).sum ≤ 8) (hkn : k + 1 ≤ rm0.cells ∧ n + 6 ≤ rm0.slots) (hdg : decode cc pc = .ok (.invokestatic 99, 3)) (k1 : ∀ T2, RlT T2 O → J E x (k + 1) (n + 6) (pw E al ad L T2) (pc + 3) lv (.int r :: rest)) : J E x k n (pw E al ad L T) pc lv (.int b :: .int a :: .int (1 : Int32) :: .ref (ad.1 0) :: rest) := by
  refine J_perm pw_pm ?_
  exact J_callH (As := [.ref (ad.1 0), .int (1 : Int32), .int a, .int b]) (rest := rest) X XX XN (hx_setSize E ad h hT) q_515 q_516 q_507 q_464 rfl (na := 4) (by decide +kernel) ⟨hf.1, hf.2⟩ rfl hW hkn hdg (fun u hu => J_perm pw_pm2 (k1 u hu))
theorem P_a_setSize (X : Ok E x cc RL rm0 nL0) (XX : OkX E x) (XN : OkN x) {a b r : Int32} {O2 : Ob} (h : qa_setSize a b O = some (r, O2)) (hT : RlT T O) (hf : 10 ≤ rm0.frames ∧ 194 ≤ rm0.locals) (hW : (rest.map fun v => v.category).sum ≤ 8) (hkn : k + 1 ≤ rm0.cells ∧ n + 6 ≤ rm0.slots) (hdg : decode cc pc = .ok (.invokestatic 99, 3)) (k1 : ∀ T2, RlT T2 O2 → J E x (k + 1) (n + 6) (pw E al ad L T2) (pc + 3) lv (.int r :: rest)) : J E x k n (pw E al ad L T) pc lv (.int b :: .int a :: .int (1 : Int32) :: .ref (ad.1 0) :: rest) := by
  refine J_perm pw_pm ?_
  exact J_callH (As := [.ref (ad.1 0), .int (1 : Int32), .int a, .int b]) (rest := rest) X XX XN (ha_setSize E ad h hT) q_515 q_516 q_507 q_464 rfl (na := 4) (by decide +kernel) ⟨hf.1, hf.2⟩ rfl hW hkn hdg (fun u hu => J_perm pw_pm2 (k1 u hu))
theorem P_x_sample (X : Ok E x cc RL rm0 nL0) (XX : OkX E x) (XN : OkN x) {a b r : Int32} (h : qx_sample a b O = some r) (hT : RlT T O) (hf : 10 ≤ rm0.frames ∧ 194 ≤ rm0.locals) (hW : (rest.map fun v => v.category).sum ≤ 8) (hkn : k + 1 ≤ rm0.cells ∧ n + 6 ≤ rm0.slots) (hdg : decode cc pc = .ok (.invokestatic 99, 3)) (k1 : ∀ T2, RlT T2 O → J E x (k + 1) (n + 6) (pw E al ad L T2) (pc + 3) lv (.int r :: rest)) : J E x k n (pw E al ad L T) pc lv (.int b :: .int a :: .int (2 : Int32) :: .ref (ad.1 0) :: rest) := by
  refine J_perm pw_pm ?_
  exact J_callH (As := [.ref (ad.1 0), .int (2 : Int32), .int a, .int b]) (rest := rest) X XX XN (hx_sample E ad h hT) q_515 q_516 q_507 q_464 rfl (na := 4) (by decide +kernel) ⟨hf.1, hf.2⟩ rfl hW hkn hdg (fun u hu => J_perm pw_pm2 (k1 u hu))
theorem P_a_sample (X : Ok E x cc RL rm0 nL0) (XX : OkX E x) (XN : OkN x) {a b r : Int32} {O2 : Ob} (h : qa_sample a b O = some (r, O2)) (hT : RlT T O) (hf : 10 ≤ rm0.frames ∧ 194 ≤ rm0.locals) (hW : (rest.map fun v => v.category).sum ≤ 8) (hkn : k + 1 ≤ rm0.cells ∧ n + 6 ≤ rm0.slots) (hdg : decode cc pc = .ok (.invokestatic 99, 3)) (k1 : ∀ T2, RlT T2 O2 → J E x (k + 1) (n + 6) (pw E al ad L T2) (pc + 3) lv (.int r :: rest)) : J E x k n (pw E al ad L T) pc lv (.int b :: .int a :: .int (2 : Int32) :: .ref (ad.1 0) :: rest) := by
  refine J_perm pw_pm ?_
  exact J_callH (As := [.ref (ad.1 0), .int (2 : Int32), .int a, .int b]) (rest := rest) X XX XN (ha_sample E ad h hT) q_515 q_516 q_507 q_464 rfl (na := 4) (by decide +kernel) ⟨hf.1, hf.2⟩ rfl hW hkn hdg (fun u hu => J_perm pw_pm2 (k1 u hu))
theorem P_x_clean (X : Ok E x cc RL rm0 nL0) (XX : OkX E x) (XN : OkN x) {a b r : Int32} (h : qx_clean a b O = some r) (hT : RlT T O) (hf : 10 ≤ rm0.frames ∧ 194 ≤ rm0.locals) (hW : (rest.map fun v => v.category).sum ≤ 8) (hkn : k + 1 ≤ rm0.cells ∧ n + 6 ≤ rm0.slots) (hdg : decode cc pc = .ok (.invokestatic 99, 3)) (k1 : ∀ T2, RlT T2 O → J E x (k + 1) (n + 6) (pw E al ad L T2) (pc + 3) lv (.int r :: rest)) : J E x k n (pw E al ad L T) pc lv (.int b :: .int a :: .int (3 : Int32) :: .ref (ad.1 0) :: rest) := by
  refine J_perm pw_pm ?_
  exact J_callH (As := [.ref (ad.1 0), .int (3 : Int32), .int a, .int b]) (rest := rest) X XX XN (hx_clean E ad h hT) q_515 q_516 q_507 q_464 rfl (na := 4) (by decide +kernel) ⟨hf.1, hf.2⟩ rfl hW hkn hdg (fun u hu => J_perm pw_pm2 (k1 u hu))
theorem P_a_clean (X : Ok E x cc RL rm0 nL0) (XX : OkX E x) (XN : OkN x) {a b r : Int32} {O2 : Ob} (h : qa_clean a b O = some (r, O2)) (hT : RlT T O) (hf : 10 ≤ rm0.frames ∧ 194 ≤ rm0.locals) (hW : (rest.map fun v => v.category).sum ≤ 8) (hkn : k + 1 ≤ rm0.cells ∧ n + 6 ≤ rm0.slots) (hdg : decode cc pc = .ok (.invokestatic 99, 3)) (k1 : ∀ T2, RlT T2 O2 → J E x (k + 1) (n + 6) (pw E al ad L T2) (pc + 3) lv (.int r :: rest)) : J E x k n (pw E al ad L T) pc lv (.int b :: .int a :: .int (3 : Int32) :: .ref (ad.1 0) :: rest) := by
  refine J_perm pw_pm ?_
  exact J_callH (As := [.ref (ad.1 0), .int (3 : Int32), .int a, .int b]) (rest := rest) X XX XN (ha_clean E ad h hT) q_515 q_516 q_507 q_464 rfl (na := 4) (by decide +kernel) ⟨hf.1, hf.2⟩ rfl hW hkn hdg (fun u hu => J_perm pw_pm2 (k1 u hu))
theorem P_x_pass (X : Ok E x cc RL rm0 nL0) (XX : OkX E x) (XN : OkN x) {a b r : Int32} (h : qx_pass a O = some r) (hT : RlT T O) (hf : 10 ≤ rm0.frames ∧ 194 ≤ rm0.locals) (hW : (rest.map fun v => v.category).sum ≤ 8) (hkn : k + 1 ≤ rm0.cells ∧ n + 6 ≤ rm0.slots) (hdg : decode cc pc = .ok (.invokestatic 99, 3)) (k1 : ∀ T2, RlT T2 O → J E x (k + 1) (n + 6) (pw E al ad L T2) (pc + 3) lv (.int r :: rest)) : J E x k n (pw E al ad L T) pc lv (.int b :: .int a :: .int (4 : Int32) :: .ref (ad.1 0) :: rest) := by
  refine J_perm pw_pm ?_
  exact J_callH (As := [.ref (ad.1 0), .int (4 : Int32), .int a, .int b]) (rest := rest) X XX XN (hx_pass E ad h hT) q_515 q_516 q_507 q_464 rfl (na := 4) (by decide +kernel) ⟨hf.1, hf.2⟩ rfl hW hkn hdg (fun u hu => J_perm pw_pm2 (k1 u hu))
theorem P_a_pass (X : Ok E x cc RL rm0 nL0) (XX : OkX E x) (XN : OkN x) {a b r : Int32} {O2 : Ob} (h : qa_pass a O = some (r, O2)) (hT : RlT T O) (hf : 10 ≤ rm0.frames ∧ 194 ≤ rm0.locals) (hW : (rest.map fun v => v.category).sum ≤ 8) (hkn : k + 1 ≤ rm0.cells ∧ n + 6 ≤ rm0.slots) (hdg : decode cc pc = .ok (.invokestatic 99, 3)) (k1 : ∀ T2, RlT T2 O2 → J E x (k + 1) (n + 6) (pw E al ad L T2) (pc + 3) lv (.int r :: rest)) : J E x k n (pw E al ad L T) pc lv (.int b :: .int a :: .int (4 : Int32) :: .ref (ad.1 0) :: rest) := by
  refine J_perm pw_pm ?_
  exact J_callH (As := [.ref (ad.1 0), .int (4 : Int32), .int a, .int b]) (rest := rest) X XX XN (ha_pass E ad h hT) q_515 q_516 q_507 q_464 rfl (na := 4) (by decide +kernel) ⟨hf.1, hf.2⟩ rfl hW hkn hdg (fun u hu => J_perm pw_pm2 (k1 u hu))
theorem P_x_forecast (X : Ok E x cc RL rm0 nL0) (XX : OkX E x) (XN : OkN x) {a b r : Int32} (h : qx_forecast a b O = some r) (hT : RlT T O) (hf : 10 ≤ rm0.frames ∧ 194 ≤ rm0.locals) (hW : (rest.map fun v => v.category).sum ≤ 8) (hkn : k + 1 ≤ rm0.cells ∧ n + 6 ≤ rm0.slots) (hdg : decode cc pc = .ok (.invokestatic 99, 3)) (k1 : ∀ T2, RlT T2 O → J E x (k + 1) (n + 6) (pw E al ad L T2) (pc + 3) lv (.int r :: rest)) : J E x k n (pw E al ad L T) pc lv (.int b :: .int a :: .int (5 : Int32) :: .ref (ad.1 0) :: rest) := by
  refine J_perm pw_pm ?_
  exact J_callH (As := [.ref (ad.1 0), .int (5 : Int32), .int a, .int b]) (rest := rest) X XX XN (hx_forecast E ad h hT) q_515 q_516 q_507 q_464 rfl (na := 4) (by decide +kernel) ⟨hf.1, hf.2⟩ rfl hW hkn hdg (fun u hu => J_perm pw_pm2 (k1 u hu))
theorem P_x_poolFull (X : Ok E x cc RL rm0 nL0) (XX : OkX E x) (XN : OkN x) {a b r : Int32} (h : qx_poolFull a O = some r) (hT : RlT T O) (hf : 10 ≤ rm0.frames ∧ 194 ≤ rm0.locals) (hW : (rest.map fun v => v.category).sum ≤ 8) (hkn : k + 1 ≤ rm0.cells ∧ n + 6 ≤ rm0.slots) (hdg : decode cc pc = .ok (.invokestatic 99, 3)) (k1 : ∀ T2, RlT T2 O → J E x (k + 1) (n + 6) (pw E al ad L T2) (pc + 3) lv (.int r :: rest)) : J E x k n (pw E al ad L T) pc lv (.int b :: .int a :: .int (6 : Int32) :: .ref (ad.1 0) :: rest) := by
  refine J_perm pw_pm ?_
  exact J_callH (As := [.ref (ad.1 0), .int (6 : Int32), .int a, .int b]) (rest := rest) X XX XN (hx_poolFull E ad h hT) q_515 q_516 q_507 q_464 rfl (na := 4) (by decide +kernel) ⟨hf.1, hf.2⟩ rfl hW hkn hdg (fun u hu => J_perm pw_pm2 (k1 u hu))
theorem P_x_setRule (X : Ok E x cc RL rm0 nL0) (XX : OkX E x) (XN : OkN x) {a b c r : Int32} (h : qx_setRule a b c O = some r) (hT : RlT T O) (hf : 10 ≤ rm0.frames ∧ 194 ≤ rm0.locals) (hW : (rest.map fun v => v.category).sum ≤ 8) (hkn : k + 1 ≤ rm0.cells ∧ n + 6 ≤ rm0.slots) (hdg : decode cc pc = .ok (.invokestatic 122, 3)) (k1 : ∀ T2, RlT T2 O → J E x (k + 1) (n + 6) (pw E al ad L T2) (pc + 3) lv (.int r :: rest)) : J E x k n (pw E al ad L T) pc lv (.int c :: .int b :: .int a :: .ref (ad.1 0) :: rest) := by
  refine J_perm pw_pm ?_
  exact J_callH (As := [.ref (ad.1 0), .int a, .int b, .int c]) (rest := rest) X XX XN (hx_setRule E ad h hT) q_534 q_535 q_507 q_468 rfl (na := 4) (by decide +kernel) ⟨hf.1, hf.2⟩ rfl hW hkn hdg (fun u hu => J_perm pw_pm2 (k1 u hu))
theorem P_a_setRule (X : Ok E x cc RL rm0 nL0) (XX : OkX E x) (XN : OkN x) {a b c : Int32} {O2 : Ob} (h : qa_setRule a b c O = some O2) (hT : RlT T O) (hf : 10 ≤ rm0.frames ∧ 194 ≤ rm0.locals) (hW : (rest.map fun v => v.category).sum ≤ 8) (hkn : k + 1 ≤ rm0.cells ∧ n + 6 ≤ rm0.slots) (hdg : decode cc pc = .ok (.invokestatic 122, 3)) (k1 : ∀ T2, RlT T2 O2 → J E x (k + 1) (n + 6) (pw E al ad L T2) (pc + 3) lv (.int (0 : Int32) :: rest)) : J E x k n (pw E al ad L T) pc lv (.int c :: .int b :: .int a :: .ref (ad.1 0) :: rest) := by
  refine J_perm pw_pm ?_
  exact J_callH (As := [.ref (ad.1 0), .int a, .int b, .int c]) (rest := rest) X XX XN (ha_setRule E ad h hT) q_534 q_535 q_507 q_468 rfl (na := 4) (by decide +kernel) ⟨hf.1, hf.2⟩ rfl hW hkn hdg (fun u hu => J_perm pw_pm2 (k1 u hu))
theorem P_x_of (X : Ok E x cc RL rm0 nL0) (XX : OkX E x) (XN : OkN x) {a b : Int32} (h : ¬ inO O b) (hT : RlT T O) (hf : 10 ≤ rm0.frames ∧ 193 ≤ rm0.locals) (hW : (rest.map fun v => v.category).sum ≤ 8) (hkn : k + 1 ≤ rm0.cells ∧ n + 6 ≤ rm0.slots) (hdg : decode cc pc = .ok (.invokestatic 124, 3)) (k1 : ∀ T2, RlT T2 O → J E x (k + 1) (n + 6) (pw E al ad L T2) (pc + 3) lv (.int (-971) :: rest)) : J E x k n (pw E al ad L T) pc lv (.int b :: .int a :: .ref (ad.1 0) :: rest) := by
  refine J_perm pw_pm ?_
  exact J_callH (As := [.ref (ad.1 0), .int a, .int b]) (rest := rest) X XX XN (hx_of E ad h hT) q_536 q_537 q_507 q_487 rfl (na := 3) (by decide +kernel) ⟨hf.1, hf.2⟩ rfl hW hkn hdg (fun u hu => J_perm pw_pm2 (k1 u hu))
theorem P_slope (X : Ok E x cc RL rm0 nL0) (XX : OkX E x) (XN : OkN x) {a b r : Int32} (h : q_slope a b O = some r) (hT : RlT T O) (hf : 10 ≤ rm0.frames ∧ 193 ≤ rm0.locals) (hW : (rest.map fun v => v.category).sum ≤ 8) (hkn : k + 1 ≤ rm0.cells ∧ n + 6 ≤ rm0.slots) (hdg : decode cc pc = .ok (.invokestatic 85, 3)) (k1 : ∀ T2, RlT T2 O → J E x (k + 1) (n + 6) (pw E al ad L T2) (pc + 3) lv (.int r :: rest)) : J E x k n (pw E al ad L T) pc lv (.int b :: .int a :: .ref (ad.1 0) :: rest) := by
  refine J_perm pw_pm ?_
  exact J_callH (As := [.ref (ad.1 0), .int a, .int b]) (rest := rest) X XX XN (hs_slope E ad h hT) q_505 q_506 q_507 q_496 rfl (na := 3) (by decide +kernel) ⟨hf.1, hf.2⟩ rfl hW hkn hdg (fun u hu => J_perm pw_pm2 (k1 u hu))
end PACT
