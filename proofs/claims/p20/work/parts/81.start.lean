/-! From the law's entry to its end, with 1 -/
set_option maxRecDepth 100000 in
set_option maxHeartbeats 8000000 in
theorem entry_str {s : State} {b : Nat} (hts : ∀ w ∈ lw_tbl, w.before #[Value.ref b] s = true) (hs : ∀ c ∈ flatC (Jvm.Cond.and given_1 narrow_1), c.before #[Value.ref b] s = true) : ∀ q ∈ XSl, ∃ a, vk_R RX7 q.1 q.2 a s := by
  intro q hq
  simp only [XSl, List.mem_cons, List.not_mem_nil, or_false] at hq
  rcases hq with rfl | rfl | rfl | rfl | rfl | rfl | rfl
  · obtain ⟨a, c, cA, kA, q1, -⟩ := Cond.exactly_spec (args := #[Value.ref b]) (first := s) (o := none) (s := s) (idx := []) (t := Term.string "RoomForecast" 31) (cls := "java/lang/String") (hs (Cond.exactly (Term.string "RoomForecast" 31) "java/lang/String") (by decide +kernel))
    exact ⟨a, vk_R.of (A := #[Value.ref b]) (hts (Cond.stringRef "RoomForecast" 31 "no more stores") (by decide +kernel)) q1⟩
  · obtain ⟨a, c, cA, kA, q1, -⟩ := Cond.exactly_spec (args := #[Value.ref b]) (first := s) (o := none) (s := s) (idx := []) (t := Term.string "RoomForecast" 72) (cls := "java/lang/String") (hs (Cond.exactly (Term.string "RoomForecast" 72) "java/lang/String") (by decide +kernel))
    exact ⟨a, vk_R.of (A := #[Value.ref b]) (hts (Cond.stringRef "RoomForecast" 72 "no more cleanings") (by decide +kernel)) q1⟩
  · obtain ⟨a, c, cA, kA, q1, -⟩ := Cond.exactly_spec (args := #[Value.ref b]) (first := s) (o := none) (s := s) (idx := []) (t := Term.string "RoomForecast" 86) (cls := "java/lang/String") (hs (Cond.exactly (Term.string "RoomForecast" 86) "java/lang/String") (by decide +kernel))
    exact ⟨a, vk_R.of (A := #[Value.ref b]) (hts (Cond.stringRef "RoomForecast" 86 "beyond the last day") (by decide +kernel)) q1⟩
  · obtain ⟨a, c, cA, kA, q1, -⟩ := Cond.exactly_spec (args := #[Value.ref b]) (first := s) (o := none) (s := s) (idx := []) (t := Term.string "RoomForecast" 142) (cls := "java/lang/String") (hs (Cond.exactly (Term.string "RoomForecast" 142) "java/lang/String") (by decide +kernel))
    exact ⟨a, vk_R.of (A := #[Value.ref b]) (hts (Cond.stringRef "RoomForecast" 142 "not a pool of stores") (by decide +kernel)) q1⟩
  · obtain ⟨a, c, cA, kA, q1, -⟩ := Cond.exactly_spec (args := #[Value.ref b]) (first := s) (o := none) (s := s) (idx := []) (t := Term.string "RoomForecast" 157) (cls := "java/lang/String") (hs (Cond.exactly (Term.string "RoomForecast" 157) "java/lang/String") (by decide +kernel))
    exact ⟨a, vk_R.of (A := #[Value.ref b]) (hts (Cond.stringRef "RoomForecast" 157 "out of range") (by decide +kernel)) q1⟩
  · obtain ⟨a, c, cA, kA, q1, -⟩ := Cond.exactly_spec (args := #[Value.ref b]) (first := s) (o := none) (s := s) (idx := []) (t := Term.string "RoomForecast" 161) (cls := "java/lang/String") (hs (Cond.exactly (Term.string "RoomForecast" 161) "java/lang/String") (by decide +kernel))
    exact ⟨a, vk_R.of (A := #[Value.ref b]) (hts (Cond.stringRef "RoomForecast" 161 "no such store") (by decide +kernel)) q1⟩
  · obtain ⟨a, c, cA, kA, q1, -⟩ := Cond.exactly_spec (args := #[Value.ref b]) (first := s) (o := none) (s := s) (idx := []) (t := Term.string "RoomForecast" 168) (cls := "java/lang/String") (hs (Cond.exactly (Term.string "RoomForecast" 168) "java/lang/String") (by decide +kernel))
    exact ⟨a, vk_R.of (A := #[Value.ref b]) (hts (Cond.stringRef "RoomForecast" 168 "no slope") (by decide +kernel)) q1⟩
set_option maxRecDepth 100000 in
set_option maxHeartbeats 8000000 in
theorem entry_nc {s : State} {b : Nat} (hs : ∀ c ∈ flatC (Jvm.Cond.and given_1 narrow_1), c.before #[Value.ref b] s = true) : NcS s := by
  intro q hq
  simp only [NCl, List.mem_cons, List.not_mem_nil, or_false] at hq
  rcases hq with rfl | rfl | rfl | rfl
  · exact va_Nc.of (hs (Cond.not (Cond.castable "java/lang/IllegalStateException" "java/lang/IllegalArgumentException")) (by decide +kernel))
  · exact va_Nc.of (hs (Cond.not (Cond.castable "java/lang/IllegalArgumentException" "java/lang/IndexOutOfBoundsException")) (by decide +kernel))
  · exact va_Nc.of (hs (Cond.not (Cond.castable "java/lang/IllegalStateException" "java/lang/IndexOutOfBoundsException")) (by decide +kernel))
  · exact va_Nc.of (hs (Cond.not (Cond.castable "java/lang/IllegalArgumentException" "java/lang/IllegalStateException")) (by decide +kernel))
set_option maxRecDepth 100000 in
set_option maxHeartbeats 8000000 in
theorem entry_K {s : State} {b : Nat} (hG : ∀ z ∈ GW, z.before #[Value.ref b] s = true) (hts : ∀ w ∈ lw_tbl, w.before #[Value.ref b] s = true) (tA : Nat) : ∃ (D : va_G) (cy : Nat → ClassId), va_K D vwCl (tyL cy) s ∧ cy 9 = tA := by
  obtain ⟨c0, i0, k0⟩ := u_known (C := RJx4a65c) (T := TJx4a65c) (N := 3) (n := 3) hG in_Jx4a65c (hG _ q_266)
  obtain ⟨c1, i1, k1⟩ := u_known (C := RX0) (T := TX0) (N := 3) (n := 3) hG in_X0 (hG _ q_139)
  obtain ⟨c2, i2, k2⟩ := u_known (C := RX1) (T := TX1) (N := 4) (n := 4) hG in_X1 (hG _ q_146)
  obtain ⟨c3, i3, k3⟩ := u_known (C := RX2) (T := TX2) (N := 6) (n := 6) hG in_X2 (hG _ q_136)
  obtain ⟨c4, i4, k4⟩ := u_known (C := RX3) (T := TX3) (N := 2) (n := 2) hG in_X3 (hG _ q_143)
  obtain ⟨c5, i5, k5⟩ := u_known (C := RX4) (T := TX4) (N := 4) (n := 4) hG in_X4 (hG _ q_133)
  obtain ⟨c6, i6, k6⟩ := u_known (C := RX5) (T := TX5) (N := 7) (n := 7) hG in_X5 (hG _ q_325)
  obtain ⟨c7, i7, k7⟩ := u_known (C := RX6) (T := TX6) (N := 2) (n := 2) hG in_X6 (hG _ q_149)
  obtain ⟨c8, i8, k8⟩ := u_known (C := RX7) (T := TX7) (N := 2) (n := 2) hG in_X7 (hG _ q_543)
  obtain ⟨cI, kI, mI, fI1, fI2, fI3⟩ := Cond.arrayClass_spec (args := #[Value.ref b]) (first := s) (o := none) (s := s) (idx := []) (type := .int) (hG _ q_4)
  obtain ⟨cJ, kJ, mJ, fJ1, fJ2, fJ3⟩ := Cond.arrayClass_spec (args := #[Value.ref b]) (first := s) (o := none) (s := s) (idx := []) (type := .long) (hG _ q_544)
  obtain ⟨mO, cO, kO, fO0, fO1, fO2, fO3, fO4⟩ := Cond.arrayOver_spec (args := #[Value.ref b]) (first := s) (o := none) (s := s) (idx := []) (n := "java/lang/Object") (hts (Cond.arrayOver (.object "java/lang/Object")) (by decide +kernel))
  refine ⟨(fun k => match k with | 0 => c0 | 1 => c1 | 2 => c2 | 3 => c3 | 4 => c4 | 5 => c5 | 6 => c6 | 7 => c7 | _ => c8, fun k => match k with | 0 => i0 | 1 => i1 | 2 => i2 | 3 => i3 | 4 => i4 | 5 => i5 | 6 => i6 | 7 => i7 | _ => i8), fun k => match k with | 0 => cI | 1 => cJ | 2 => cO | 3 => cJ | _ => tA, ⟨?_, ?_⟩, rfl⟩
  · intro k q hq
    match k, hq with
    | 0, hq => cases hq; exact k0
    | 1, hq => cases hq; exact k1
    | 2, hq => cases hq; exact k2
    | 3, hq => cases hq; exact k3
    | 4, hq => cases hq; exact k4
    | 5, hq => cases hq; exact k5
    | 6, hq => cases hq; exact k6
    | 7, hq => cases hq; exact k7
    | 8, hq => cases hq; exact k8
    | k + 9, hq => simp [vwCl] at hq
  · intro k q hq
    match k, hq with
    | 0, hq => cases hq; exact ⟨fun N z => ⟨(fun k h => by cases h), kI, fI2, mI, fI3⟩, fI1⟩
    | 1, hq => cases hq; exact ⟨fun N z => ⟨(fun k h => by cases h), kJ, fJ2, mJ, fJ3⟩, fJ1⟩
    | 2, hq => cases hq; exact ⟨fun N z => ⟨(fun k h => by cases h), kO, fO2, mO, fO3⟩, kO, mO, fO2, fO3, fO0, fO4⟩
    | 3, hq => cases hq; exact ⟨fun N z => ⟨(fun k h => by cases h), kJ, fJ2, mJ, fJ3⟩, fJ1⟩
    | k + 4, hq => simp [tyL] at hq
set_option maxRecDepth 100000 in
set_option maxHeartbeats 8000000 in
theorem whole_start {p : Program} {e : Env} {s : State} {m : MethodId} {below : List Frame} {meth : Method} {c : Code} (l : Launch) (hflags : l.flags = flags0) {b L : Nat} {xs : Nat → Int32} (hL : L ≤ 260) (C0 : lw_At p s m meth c b L xs) : W p l e room_1 s m #[Value.ref b] below meth c s.heap [] 0 0 (lw_Z below #[Value.ref b] s) (entryFrame m ([Value.ref b] : List Value).toArray 13) := by
  obtain ⟨hx, hb, hrt, hml, hown, hts, hX, hbl, hlocks, hgv⟩ := C0
  have hs := flat_of_before (Jvm.Cond.and given_1 narrow_1) hgv
  have hG : ∀ z ∈ GW, z.before #[Value.ref b] s = true := fun z hz => hts z (GW_tbl z hz)
  have hA9 : ∀ a : Nat, a < s.heap.size → ¬ (fun q : Nat => s.heap.size ≤ q) a := fun a h => Nat.not_le.mpr h
  obtain ⟨tA, htA, hTA⟩ := va_Tof (args := #[Value.ref b]) (s := s) (tm := Term.static "java/util/ArrayList" "DEFAULTCAPACITY_EMPTY_ELEMENTDATA" "[Ljava/lang/Object;") (ty := .object "java/lang/Object") (N := 0) (f := fun _ => .null) (A := fun q : Nat => s.heap.size ≤ q) (by decide) (hs (Cond.arrayOf (Term.static "java/util/ArrayList" "DEFAULTCAPACITY_EMPTY_ELEMENTDATA" "[Ljava/lang/Object;") (.object "java/lang/Object")) (by decide +kernel)) (va_eqt (hs (Cond.eq (Term.length (Term.static "java/util/ArrayList" "DEFAULTCAPACITY_EMPTY_ELEMENTDATA" "[Ljava/lang/Object;")) (Term.int 0)) (by decide +kernel))) (fun j h => absurd h (Nat.not_lt_zero _)) hA9
  obtain ⟨D, cy, hK, hcy⟩ := entry_K hG hts tA
  have hN : ∀ z ∈ NW, va_Nw z s := fun z hz => va_Nw.of (List.all_eq_true.mp NW_on z hz) (hts z (NW_tbl z hz))
  have hXK : XK (l, D, cy) (fun q : Nat => s.heap.size ≤ q) s s.heap := by
    refine ⟨?_, ?_, ?_, entry_str hts hs, ?_, ?_, ?_⟩
    · show (!l.flags.contains noTraceFlag) = false
      rw [hflags]; decide +kernel
    · exact vx_Zqof (args := #[Value.ref b]) (hts (Cond.laysStatic "java/lang/Throwable" "UNASSIGNED_STACK" "[Ljava/lang/StackTraceElement;") (by decide +kernel)) (hts (Cond.initialized "java/lang/Throwable") (by decide +kernel)) (hs (Cond.isRef (Term.static "java/lang/Throwable" "UNASSIGNED_STACK" "[Ljava/lang/StackTraceElement;")) (by decide +kernel)) hA9
    · exact vx_Zqof (args := #[Value.ref b]) (hts (Cond.laysStatic "java/lang/Throwable" "SUPPRESSED_SENTINEL" "Ljava/util/List;") (by decide +kernel)) (hts (Cond.initialized "java/lang/Throwable") (by decide +kernel)) (hs (Cond.isRef (Term.static "java/lang/Throwable" "SUPPRESSED_SENTINEL" "Ljava/util/List;")) (by decide +kernel)) hA9
    · show va_Z "java/util/ArrayList" "DEFAULTCAPACITY_EMPTY_ELEMENTDATA" "[Ljava/lang/Object;" (.ref (cy 9)) _ s s.heap
      rw [hcy]
      exact va_Zof (args := #[Value.ref b]) (hts (Cond.laysStatic "java/util/ArrayList" "DEFAULTCAPACITY_EMPTY_ELEMENTDATA" "[Ljava/lang/Object;") (by decide +kernel)) (hts (Cond.initialized "java/util/ArrayList") (by decide +kernel)) htA hA9
    · show va_T _ (cy 9) 0 _ _ s s.heap
      rw [hcy]
      exact hTA
    · exact va_AO.of (A := #[Value.ref b]) (hts (Cond.arrayOver (.object "java/lang/Object")) (by decide +kernel))
  obtain ⟨x, ex⟩ : ∃ x : Cx, x = (p, e, room_1, s, m, #[Value.ref b], below, meth, c, (fun q : Nat => s.heap.size ≤ q), 13, lw_Z below #[Value.ref b] s) := ⟨_, rfl⟩
  have X : Ok (l, D, cy) x cL_law RL room_1 13 := by
    rw [ex]
    exact ⟨hx, hb, hml, hown, hG, hK, hN, fun q h => h, rfl, rfl⟩
  have XX : OkX (l, D, cy) x := by
    rw [ex]
    exact hXK
  have XN : OkN x := by
    rw [ex]
    exact entry_nc hs
  have S : OkS x b L xs := by
    rw [ex]
    exact ⟨hX, hbl, Nat.not_le.mpr hbl⟩
  have hend : ∀ k n w lv, k ≤ 893193 → n ≤ 6421890 → J (l, D, cy) x k n w 800 lv [.int 1] := by
    rw [ex]
    intro k n w lv hk hn H locs ls hP hD hS hv
    refine va_forget (fun q hq => hS.2.2 q hq) ?_
    refine W.widen hk hn ?_
    exact lw_ret hx hb hrt hlocks dL_law_800
  obtain ⟨n0, n1, n2⟩ := law_num (xs := xs) hL
  have main : J (l, D, cy) x 0 0 [] 0 [(0, .ref b)] [] := by
    refine J_new X (pc := 0) (ci := 8) (fs := [.null, .int 0]) in_X7 tyX7 tyX7_ok q_542 q_543 q_14 rfl (fun j hj => by rcases (show j = 0 ∨ j = 1 by omega) with rfl | rfl <;> rfl) (Nat.le_of_ble_eq_true rfl) (Nat.le_of_ble_eq_true rfl) dL_law_0 (fun h0 => ?_)
    refine J_dup X (pc := 3) dL_law_3 rfl ?_
    refine J_app0 ?_
    refine J_callCX (w1 := [(h0, .inr (8, [.null, .int 0]))]) (rw := []) X XX (pc := 4) (y := yX7_init) (na := 0) (As := []) (rest := [.ref h0]) (c_X7_init (l, D, cy) h0) q_546 q_547 q_14 q_263 rfl rfl (by decide +kernel) (by decide +kernel) rfl (Nat.le_of_ble_eq_true rfl) ⟨by decide +kernel, by decide +kernel⟩ dL_law_4 (fun ad had => ?_)
    subst had
    refine J_astore_n X (pc := 7) (lv1 := [(1, .ref (ad.1 0)), (0, .ref b)]) dL_law_7 (by decide) rfl ?_
    refine J_bipush X (pc := 8) (v := 36) dL_law_8 (by decide +kernel) ?_
    refine J_newa X (pc := 10) (atype := .long) (ty := .long) (N := 36) (t0 := 3) (a0 := (36, .inr (.inl (fun _ => 0)))) (cA0 := cy 3) q_544 rfl rfl (fun U cA h0 h1 => Option.some.inj (h1.symm.trans h0)) (fun _ => rfl) (by decide) (by decide) (Nat.le_of_ble_eq_true rfl) (by decide +kernel) (by decide +kernel) dL_law_10 (fun qy => ?_)
    refine J_astore_n X (pc := 12) (lv1 := [(2, .ref qy), (1, .ref (ad.1 0)), (0, .ref b)]) dL_law_12 (by decide) rfl ?_
    refine J_bipush X (pc := 13) (v := 60) dL_law_13 (by decide +kernel) ?_
    refine J_newa X (pc := 15) (atype := .long) (ty := .long) (N := 60) (t0 := 3) (a0 := (60, .inr (.inl (fun _ => 0)))) (cA0 := cy 3) q_544 rfl rfl (fun U cA h0 h1 => Option.some.inj (h1.symm.trans h0)) (fun _ => rfl) (by decide) (by decide) (Nat.le_of_ble_eq_true rfl) (by decide +kernel) (by decide +kernel) dL_law_15 (fun qc => ?_)
    refine J_astore_n X (pc := 17) (lv1 := [(3, .ref qc), (2, .ref qy), (1, .ref (ad.1 0)), (0, .ref b)]) dL_law_17 (by decide) rfl ?_
    refine J_bipush X (pc := 18) (v := 24) dL_law_18 (by decide +kernel) ?_
    refine J_newa X (pc := 20) (atype := .int) (ty := .int) (N := 24) (t0 := 0) (a0 := (24, .inl (fun _ => 0))) (cA0 := cy 0) q_4 rfl rfl (fun U cA h0 h1 => Option.some.inj (h1.symm.trans h0)) (fun _ => rfl) (by decide) (by decide) (Nat.le_of_ble_eq_true rfl) (by decide +kernel) (by decide +kernel) dL_law_20 (fun qg => ?_)
    refine J_astore X (pc := 22) (lv1 := [(4, .ref qg), (3, .ref qc), (2, .ref qy), (1, .ref (ad.1 0)), (0, .ref b)]) dL_law_22 (by decide) rfl ?_
    refine J_iconst X (pc := 24) (v := 1) dL_law_24 (by decide +kernel) ?_
    refine J_newa X (pc := 25) (atype := .int) (ty := .int) (N := 1) (t0 := 0) (a0 := (1, .inl (fun _ => 0))) (cA0 := cy 0) q_4 rfl rfl (fun U cA h0 h1 => Option.some.inj (h1.symm.trans h0)) (fun _ => rfl) (by decide) (by decide) (Nat.le_of_ble_eq_true rfl) (by decide +kernel) (by decide +kernel) dL_law_25 (fun qm => ?_)
    refine J_astore X (pc := 27) (lv1 := [(5, .ref qm), (4, .ref qg), (3, .ref qc), (2, .ref qy), (1, .ref (ad.1 0)), (0, .ref b)]) dL_law_27 (by decide) rfl ?_
    obtain ⟨al, eal⟩ : ∃ al : Nat → Nat, al = fun k => match k with | 0 => qy | 1 => qc | 2 => qg | _ => qm := ⟨_, rfl⟩
    have e0 : qy = al 0 := (congrFun eal 0).symm
    have e1 : qc = al 1 := (congrFun eal 1).symm
    have e2 : qg = al 2 := (congrFun eal 2).symm
    have e3 : qm = al 3 := (congrFun eal 3).symm
    rw [e0, e1, e2, e3]
    refine J_perm (w1 := pw (l, D, cy) al ad L00 T00) ?_ ?_
    · rw [List.append_nil, List.append_assoc, List.append_assoc, List.append_assoc]
      exact List.perm_append_comm
    refine J_aload_n X (pc := 29) dL_law_29 4 rfl ?_
    refine J_aload X (pc := 30) dL_law_30 0 rfl ?_
    refine J_iconst X (pc := 32) (v := 0) dL_law_32 (by decide +kernel) ?_
    refine J_callN X XX XN (pc := 33) (y := yL_isRefused) (na := 3) (As := [.ref (ad.1 0), .ref (al 3), .int 0]) (rest := []) (c_L_isRefused (l, D, cy) al ad n0 Rl00) q_548 q_549 q_507 q_538 rfl (by decide +kernel) ⟨Nat.le_of_ble_eq_true rfl, Nat.le_of_ble_eq_true rfl⟩ rfl (Nat.le_of_ble_eq_true rfl) ⟨by decide +kernel, by decide +kernel⟩ dL_law_33 (fun T1 hT1 => ?_)
    refine J_if_eq X (pc := 36) 53 dL_law_36 (by decide) (fun c => absurd c (by decide)) (fun _ => ?_)
    refine J_aload_n X (pc := 39) dL_law_39 4 rfl ?_
    refine J_aload X (pc := 40) dL_law_40 0 rfl ?_
    refine J_iconst X (pc := 42) (v := 1) dL_law_42 (by decide +kernel) ?_
    refine J_callN X XX XN (pc := 43) (y := yL_isRefused) (na := 3) (As := [.ref (ad.1 0), .ref (al 3), .int 1]) (rest := []) (c_L_isRefused (l, D, cy) al ad n1 hT1) q_548 q_549 q_507 q_538 rfl (by decide +kernel) ⟨Nat.le_of_ble_eq_true rfl, Nat.le_of_ble_eq_true rfl⟩ rfl (Nat.le_of_ble_eq_true rfl) ⟨by decide +kernel, by decide +kernel⟩ dL_law_43 (fun T2 hT2 => ?_)
    refine J_if_eq X (pc := 46) 53 dL_law_46 (by decide) (fun c => absurd c (by decide)) (fun _ => ?_)
    refine J_iconst X (pc := 49) (v := 1) dL_law_49 (by decide +kernel) ?_
    refine J_goto X (pc := 50) 54 dL_law_50 (by decide) ?_
    refine J_istore X (pc := 54) (lv1 := [(6, .int 1), (5, .ref (al 3)), (4, .ref (al 2)), (3, .ref (al 1)), (2, .ref (al 0)), (1, .ref (ad.1 0)), (0, .ref b)]) dL_law_54 (by decide) rfl ?_
    refine J_iconst X (pc := 56) (v := 0) dL_law_56 (by decide +kernel) ?_
    refine J_istore X (pc := 57) (lv1 := [(7, .int 0), (6, .int 1), (5, .ref (al 3)), (4, .ref (al 2)), (3, .ref (al 1)), (2, .ref (al 0)), (1, .ref (ad.1 0)), (0, .ref b)]) dL_law_57 (by decide) rfl ?_
    refine J_sub (lv1 := [(0, .ref b), (1, .ref (ad.1 0)), (2, .ref (al 0)), (3, .ref (al 1)), (4, .ref (al 2)), (5, .ref (al 3)), (6, .int 1), (7, .int 0)]) [7, 6, 5, 4, 3, 2, 1, 0] rfl ?_
    refine J_widen (k2 := 400) (n2 := 2400) (by decide +kernel) (by decide +kernel) ?_
    exact c_law_rest X XX XN S hend n2 hT2
  rw [ex] at main
  have hl := lv_entry ([.ref b]) (n := 13) (Nat.le_of_ble_eq_true rfl)
  rw [lg_entry_eq]
  exact main s.heap [] _ (fun k q h => by simp at h) ⟨fun i j p q h => by simp at h, fun k q h => by simp at h⟩ va_S.rf hl
