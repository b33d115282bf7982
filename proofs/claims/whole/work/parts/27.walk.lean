/-! The law's loop, and the whole walk, over any relation that every call keeps -/
def RAll (Rel : TS → St → Prop) : Prop := R_addStore Rel ∧ R_setSize Rel ∧ R_sample Rel ∧ R_clean Rel ∧ R_setRule Rel ∧ R_pass Rel ∧ R_today Rel ∧ R_samples Rel ∧ R_slopeNumerator Rel ∧ R_slopeDenominator Rel ∧ R_usual Rel ∧ R_forecast Rel ∧ R_full Rel ∧ R_early Rel ∧ R_late Rel ∧ R_warns Rel ∧ R_poolFull Rel
theorem len4 {N : Nat} (h : N ≤ 2048) : (Int32.ofNat N - 4).toInt = (N : Int) - 4 := by
  have h1 : (Int32.ofNat N).toInt = (N : Int) := nI_toInt (by omega)
  rw [Int32.toInt_sub, h1, show (4 : Int32).toInt = 4 from rfl]
  exact Int.bmod_eq_of_le (by omega) (by omega)
set_option maxRecDepth 100000 in
set_option maxHeartbeats 8000000 in
theorem law_loop {E : Ev} {x : Cx} {Rel : TS → St → Prop} {b NN ao : Nat} {xs : Nat → Int32} {am : Nat → Nat} {xr : Nat} (X : Ok E x cL_law RL room_1 7) (XX : OkX E x) (XN : OkN x) (S : OkS x b NN xs) (hL : NN ≤ 2048) (RR : RAll Rel) (hend : ∀ k n w lv, k ≤ 601024 → n ≤ 7293034 → J E x k n w 1095 lv [.int 1]) : ∀ f t, t + f = 513 → 4 * t ≤ NN + 3 → ∀ (ad : CA) (g : Nat → Int64) (T : TS) (M : St), Rel T M → ad.1 0 = xr → J E x (100 + 16 * t) (2000 + 398 * t) (outC E ao g :: (cW E ad T ++ mW E am M)) 23 [(4, .int (nI (4 * t))), (0, .ref b), (1, .ref xr), (2, .ref (am 0)), (3, .ref ao)] [] := by
  obtain ⟨r_addStore, r_setSize, r_sample, r_clean, r_setRule, r_pass, r_today, r_samples, r_slopeNumerator, r_slopeDenominator, r_usual, r_forecast, r_full, r_early, r_late, r_warns, r_poolFull⟩ := RR
  intro f
  induction f with
  | zero => intro t h1 h2; omega
  | succ f ih =>
    intro t h1 h2 ad g T M hr had
    refine J_iload X (pc := 23) dL_law_23 0 rfl ?_
    refine J_aload_n X (pc := 25) dL_law_25 1 rfl ?_
    refine J_slen X (pc := 26) S dL_law_26 ?_
    refine J_iconst X (pc := 27) (v := 4) dL_law_27 (by decide +kernel) ?_
    refine J_isub X (pc := 28) dL_law_28 ?_
    refine J_icmp_gt X (pc := 29) 1094 dL_law_29 (by decide) (fun c => ?_) (fun c => ?_)
    · refine J_iconst X (pc := 1094) (v := 1) dL_law_1094 (by decide +kernel) ?_
      exact hend _ _ _ _ (by omega) (by omega)
    · have h4 : 4 * t + 4 ≤ NN := by
        rcases Nat.lt_or_ge NN (4 * t + 4) with q | q
        · refine absurd (Int32.lt_iff_toInt_lt.mpr ?_) c
          rw [len4 hL, nI_toInt (by omega)]
          omega
        · exact q
      have hi0 : inb (nI (4 * t)) NN := ⟨nI_pos' (by omega), by rw [nI_clamp (by omega)]; omega⟩
      have hi1 : inb (nI (4 * t) + 1) NN := by
        show inb (nI (4 * t) + nI 1) NN
        rw [nI_add]
        exact ⟨nI_pos' (by omega), by rw [nI_clamp (by omega)]; omega⟩
      have hi2 : inb (nI (4 * t) + 2) NN := by
        show inb (nI (4 * t) + nI 2) NN
        rw [nI_add]
        exact ⟨nI_pos' (by omega), by rw [nI_clamp (by omega)]; omega⟩
      have hi3 : inb (nI (4 * t) + 3) NN := by
        show inb (nI (4 * t) + nI 3) NN
        rw [nI_add]
        exact ⟨nI_pos' (by omega), by rw [nI_clamp (by omega)]; omega⟩
      have hk : 100 + 16 * t + 40 ≤ 601024 ∧ 2000 + 398 * t + 1000 ≤ 7293034 := ⟨by omega, by omega⟩
      have tail : ∀ (k2 n2 : Nat) (ad2 : CA) (g2 : Nat → Int64) (T2 : TS) (M2 : St), k2 ≤ 100 + 16 * (t + 1) → n2 ≤ 2000 + 398 * (t + 1) → Rel T2 M2 → ad2.1 0 = xr → J E x k2 n2 (outC E ao g2 :: (cW E ad2 T2 ++ mW E am M2)) 1088 [(4, .int (nI (4 * t))), (0, .ref b), (1, .ref xr), (2, .ref (am 0)), (3, .ref ao)] [] := by
        intro k2 n2 ad2 g2 T2 M2 hk2 hn2 hr2 had2
        refine J_iinc X (pc := 1088) (v := nI (4 * (t + 1))) (lv1 := [(4, .int (nI (4 * (t + 1)))), (0, .ref b), (1, .ref xr), (2, .ref (am 0)), (3, .ref ao)]) dL_law_1088 0 rfl (show nI (4 * t) + nI 4 = nI (4 * (t + 1)) from nI_add _ _) (by decide) rfl ?_
        refine J_goto X (pc := 1091) 23 dL_law_1091 (by decide) ?_
        refine J_widen hk2 hn2 ?_
        exact ih (t + 1) (by omega) (by omega) ad2 g2 T2 M2 hr2 had2
      refine J_aload_n X (pc := 32) dL_law_32 1 rfl ?_
      refine J_iload X (pc := 33) dL_law_33 0 rfl ?_
      refine J_sld X (pc := 35) S hi0 dL_law_35 ?_
      refine J_bipush X (pc := 36) (v := 31) dL_law_36 (by decide +kernel) ?_
      refine J_iand X (pc := 38) dL_law_38 ?_
      obtain ⟨u, eu⟩ : ∃ u : Int32, u = xs (nI (4 * t)).toNatClampNeg &&& 31 := ⟨_, rfl⟩
      refine J_nmi eu ?_
      have hu : (u.toInt < 0 ∨ 16 < u.toInt) ∨ u.toInt = 0 ∨ u.toInt = 1 ∨ u.toInt = 2 ∨ u.toInt = 3 ∨ u.toInt = 4 ∨ u.toInt = 5 ∨ u.toInt = 6 ∨ u.toInt = 7 ∨ u.toInt = 8 ∨ u.toInt = 9 ∨ u.toInt = 10 ∨ u.toInt = 11 ∨ u.toInt = 12 ∨ u.toInt = 13 ∨ u.toInt = 14 ∨ u.toInt = 15 ∨ u.toInt = 16 := by omega
      rcases hu with hu | hu | hu | hu | hu | hu | hu | hu | hu | hu | hu | hu | hu | hu | hu | hu | hu | hu
      · refine J_tabOut X (pc := 39) 1088 dL_law_39 hu (by decide) ?_
        exact tail _ _ ad g T M (by omega) (by omega) hr had
      · have hv : (0 : Int32) = u := (Int32.toInt_inj.mp (hu.trans (show (0 : Int) = (0 : Int32).toInt from rfl))).symm
        refine J_nmi hv ?_
        refine J_tabIn X (pc := 39) 120 dL_law_39 (by decide) (by decide) rfl (by decide) ?_
        exact law_addStore X XX XN S had hk hr hi1 rfl r_addStore (fun ad2 g2 T2 M2 hr2 had2 => tail _ _ ad2 g2 T2 M2 (by omega) (by omega) hr2 had2)
      · have hv : (1 : Int32) = u := (Int32.toInt_inj.mp (hu.trans (show (1 : Int) = (1 : Int32).toInt from rfl))).symm
        refine J_nmi hv ?_
        refine J_tabIn X (pc := 39) 176 dL_law_39 (by decide) (by decide) rfl (by decide) ?_
        exact law_setSize X XX XN S had hk hr hi1 hi2 rfl rfl r_setSize (fun ad2 g2 T2 M2 hr2 had2 => tail _ _ ad2 g2 T2 M2 (by omega) (by omega) hr2 had2)
      · have hv : (2 : Int32) = u := (Int32.toInt_inj.mp (hu.trans (show (2 : Int) = (2 : Int32).toInt from rfl))).symm
        refine J_nmi hv ?_
        refine J_tabIn X (pc := 39) 244 dL_law_39 (by decide) (by decide) rfl (by decide) ?_
        exact law_sample X XX XN S had hk hr hi1 hi2 rfl rfl r_sample (fun ad2 g2 T2 M2 hr2 had2 => tail _ _ ad2 g2 T2 M2 (by omega) (by omega) hr2 had2)
      · have hv : (3 : Int32) = u := (Int32.toInt_inj.mp (hu.trans (show (3 : Int) = (3 : Int32).toInt from rfl))).symm
        refine J_nmi hv ?_
        refine J_tabIn X (pc := 39) 312 dL_law_39 (by decide) (by decide) rfl (by decide) ?_
        exact law_clean X XX XN S had hk hr hi1 hi2 rfl rfl r_clean (fun ad2 g2 T2 M2 hr2 had2 => tail _ _ ad2 g2 T2 M2 (by omega) (by omega) hr2 had2)
      · have hv : (4 : Int32) = u := (Int32.toInt_inj.mp (hu.trans (show (4 : Int) = (4 : Int32).toInt from rfl))).symm
        refine J_nmi hv ?_
        refine J_tabIn X (pc := 39) 380 dL_law_39 (by decide) (by decide) rfl (by decide) ?_
        exact law_setRule X XX XN S had hk hr hi1 hi2 hi3 rfl rfl rfl r_setRule (fun ad2 g2 T2 M2 hr2 had2 => tail _ _ ad2 g2 T2 M2 (by omega) (by omega) hr2 had2)
      · have hv : (5 : Int32) = u := (Int32.toInt_inj.mp (hu.trans (show (5 : Int) = (5 : Int32).toInt from rfl))).symm
        refine J_nmi hv ?_
        refine J_tabIn X (pc := 39) 440 dL_law_39 (by decide) (by decide) rfl (by decide) ?_
        exact law_pass X XX XN S had hk hr hi1 rfl r_pass (fun ad2 g2 T2 M2 hr2 had2 => tail _ _ ad2 g2 T2 M2 (by omega) (by omega) hr2 had2)
      · have hv : (6 : Int32) = u := (Int32.toInt_inj.mp (hu.trans (show (6 : Int) = (6 : Int32).toInt from rfl))).symm
        refine J_nmi hv ?_
        refine J_tabIn X (pc := 39) 496 dL_law_39 (by decide) (by decide) rfl (by decide) ?_
        exact law_today X XX XN S had hk hr r_today (fun ad2 g2 T2 M2 hr2 had2 => tail _ _ ad2 g2 T2 M2 (by omega) (by omega) hr2 had2)
      · have hv : (7 : Int32) = u := (Int32.toInt_inj.mp (hu.trans (show (7 : Int) = (7 : Int32).toInt from rfl))).symm
        refine J_nmi hv ?_
        refine J_tabIn X (pc := 39) 509 dL_law_39 (by decide) (by decide) rfl (by decide) ?_
        exact law_samples X XX XN S had hk hr hi1 rfl r_samples (fun ad2 g2 T2 M2 hr2 had2 => tail _ _ ad2 g2 T2 M2 (by omega) (by omega) hr2 had2)
      · have hv : (8 : Int32) = u := (Int32.toInt_inj.mp (hu.trans (show (8 : Int) = (8 : Int32).toInt from rfl))).symm
        refine J_nmi hv ?_
        refine J_tabIn X (pc := 39) 565 dL_law_39 (by decide) (by decide) rfl (by decide) ?_
        exact law_slopeNumerator X XX XN S had hk hr hi1 rfl r_slopeNumerator (fun ad2 g2 T2 M2 hr2 had2 => tail _ _ ad2 g2 T2 M2 (by omega) (by omega) hr2 had2)
      · have hv : (9 : Int32) = u := (Int32.toInt_inj.mp (hu.trans (show (9 : Int) = (9 : Int32).toInt from rfl))).symm
        refine J_nmi hv ?_
        refine J_tabIn X (pc := 39) 621 dL_law_39 (by decide) (by decide) rfl (by decide) ?_
        exact law_slopeDenominator X XX XN S had hk hr hi1 rfl r_slopeDenominator (fun ad2 g2 T2 M2 hr2 had2 => tail _ _ ad2 g2 T2 M2 (by omega) (by omega) hr2 had2)
      · have hv : (10 : Int32) = u := (Int32.toInt_inj.mp (hu.trans (show (10 : Int) = (10 : Int32).toInt from rfl))).symm
        refine J_nmi hv ?_
        refine J_tabIn X (pc := 39) 677 dL_law_39 (by decide) (by decide) rfl (by decide) ?_
        exact law_usual X XX XN S had hk hr hi1 rfl r_usual (fun ad2 g2 T2 M2 hr2 had2 => tail _ _ ad2 g2 T2 M2 (by omega) (by omega) hr2 had2)
      · have hv : (11 : Int32) = u := (Int32.toInt_inj.mp (hu.trans (show (11 : Int) = (11 : Int32).toInt from rfl))).symm
        refine J_nmi hv ?_
        refine J_tabIn X (pc := 39) 733 dL_law_39 (by decide) (by decide) rfl (by decide) ?_
        exact law_forecast X XX XN S had hk hr hi1 hi2 rfl rfl r_forecast (fun ad2 g2 T2 M2 hr2 had2 => tail _ _ ad2 g2 T2 M2 (by omega) (by omega) hr2 had2)
      · have hv : (12 : Int32) = u := (Int32.toInt_inj.mp (hu.trans (show (12 : Int) = (12 : Int32).toInt from rfl))).symm
        refine J_nmi hv ?_
        refine J_tabIn X (pc := 39) 801 dL_law_39 (by decide) (by decide) rfl (by decide) ?_
        exact law_full X XX XN S had hk hr hi1 rfl r_full (fun ad2 g2 T2 M2 hr2 had2 => tail _ _ ad2 g2 T2 M2 (by omega) (by omega) hr2 had2)
      · have hv : (13 : Int32) = u := (Int32.toInt_inj.mp (hu.trans (show (13 : Int) = (13 : Int32).toInt from rfl))).symm
        refine J_nmi hv ?_
        refine J_tabIn X (pc := 39) 857 dL_law_39 (by decide) (by decide) rfl (by decide) ?_
        exact law_early X XX XN S had hk hr hi1 rfl r_early (fun ad2 g2 T2 M2 hr2 had2 => tail _ _ ad2 g2 T2 M2 (by omega) (by omega) hr2 had2)
      · have hv : (14 : Int32) = u := (Int32.toInt_inj.mp (hu.trans (show (14 : Int) = (14 : Int32).toInt from rfl))).symm
        refine J_nmi hv ?_
        refine J_tabIn X (pc := 39) 913 dL_law_39 (by decide) (by decide) rfl (by decide) ?_
        exact law_late X XX XN S had hk hr hi1 rfl r_late (fun ad2 g2 T2 M2 hr2 had2 => tail _ _ ad2 g2 T2 M2 (by omega) (by omega) hr2 had2)
      · have hv : (15 : Int32) = u := (Int32.toInt_inj.mp (hu.trans (show (15 : Int) = (15 : Int32).toInt from rfl))).symm
        refine J_nmi hv ?_
        refine J_tabIn X (pc := 39) 969 dL_law_39 (by decide) (by decide) rfl (by decide) ?_
        exact law_warns X XX XN S had hk hr hi1 rfl r_warns (fun ad2 g2 T2 M2 hr2 had2 => tail _ _ ad2 g2 T2 M2 (by omega) (by omega) hr2 had2)
      · have hv : (16 : Int32) = u := (Int32.toInt_inj.mp (hu.trans (show (16 : Int) = (16 : Int32).toInt from rfl))).symm
        refine J_nmi hv ?_
        refine J_tabIn X (pc := 39) 1032 dL_law_39 (by decide) (by decide) rfl (by decide) ?_
        exact law_poolFull X XX XN S had hk hr hi1 rfl r_poolFull (fun ad2 g2 T2 M2 hr2 had2 => tail _ _ ad2 g2 T2 M2 (by omega) (by omega) hr2 had2)
set_option maxRecDepth 100000 in
set_option maxHeartbeats 8000000 in
theorem entry_str {s : State} {b : Nat} (hts : ∀ w ∈ lw_tbl, w.before #[Value.ref b] s = true) (hs : ∀ c ∈ flatC (Jvm.Cond.and given_1 narrow_1), c.before #[Value.ref b] s = true) : ∀ q ∈ XSl, ∃ a, vk_R RX7 q.1 q.2 a s := by
  intro q hq
  simp only [XSl, List.mem_cons, List.not_mem_nil, or_false] at hq
  rcases hq with rfl | rfl | rfl | rfl | rfl | rfl | rfl
  · obtain ⟨a, c, cA, kA, q1, -⟩ := Cond.exactly_spec (args := #[Value.ref b]) (first := s) (o := none) (s := s) (idx := []) (t := Term.string "RoomForecast" 31) (cls := "java/lang/String") (hs (Cond.exactly (Term.string "RoomForecast" 31) "java/lang/String") (by decide +kernel))
    exact ⟨a, vk_R.of (A := #[Value.ref b]) (hts (Cond.stringRef "RoomForecast" 31 "no more stores") (by decide +kernel)) q1⟩
  · obtain ⟨a, c, cA, kA, q1, -⟩ := Cond.exactly_spec (args := #[Value.ref b]) (first := s) (o := none) (s := s) (idx := []) (t := Term.string "RoomForecast" 72) (cls := "java/lang/String") (hs (Cond.exactly (Term.string "RoomForecast" 72) "java/lang/String") (by decide +kernel))
    exact ⟨a, vk_R.of (A := #[Value.ref b]) (hts (Cond.stringRef "RoomForecast" 72 "no more cleanings") (by decide +kernel)) q1⟩
  · obtain ⟨a, c, cA, kA, q1, -⟩ := Cond.exactly_spec (args := #[Value.ref b]) (first := s) (o := none) (s := s) (idx := []) (t := Term.string "RoomForecast" 86) (cls := "java/lang/String") (hs (Cond.exactly (Term.string "RoomForecast" 86) "java/lang/String") (by decide +kernel))
    exact ⟨a, vk_R.of (A := #[Value.ref b]) (hts (Cond.stringRef "RoomForecast" 86 "beyond the last day") (by decide +kernel)) q1⟩
  · obtain ⟨a, c, cA, kA, q1, -⟩ := Cond.exactly_spec (args := #[Value.ref b]) (first := s) (o := none) (s := s) (idx := []) (t := Term.string "RoomForecast" 142) (cls := "java/lang/String") (hs (Cond.exactly (Term.string "RoomForecast" 142) "java/lang/String") (by decide +kernel))
    exact ⟨a, vk_R.of (A := #[Value.ref b]) (hts (Cond.stringRef "RoomForecast" 142 "not a pool of stores") (by decide +kernel)) q1⟩
  · obtain ⟨a, c, cA, kA, q1, -⟩ := Cond.exactly_spec (args := #[Value.ref b]) (first := s) (o := none) (s := s) (idx := []) (t := Term.string "RoomForecast" 157) (cls := "java/lang/String") (hs (Cond.exactly (Term.string "RoomForecast" 157) "java/lang/String") (by decide +kernel))
    exact ⟨a, vk_R.of (A := #[Value.ref b]) (hts (Cond.stringRef "RoomForecast" 157 "out of range") (by decide +kernel)) q1⟩
  · obtain ⟨a, c, cA, kA, q1, -⟩ := Cond.exactly_spec (args := #[Value.ref b]) (first := s) (o := none) (s := s) (idx := []) (t := Term.string "RoomForecast" 161) (cls := "java/lang/String") (hs (Cond.exactly (Term.string "RoomForecast" 161) "java/lang/String") (by decide +kernel))
    exact ⟨a, vk_R.of (A := #[Value.ref b]) (hts (Cond.stringRef "RoomForecast" 161 "no such store") (by decide +kernel)) q1⟩
  · obtain ⟨a, c, cA, kA, q1, -⟩ := Cond.exactly_spec (args := #[Value.ref b]) (first := s) (o := none) (s := s) (idx := []) (t := Term.string "RoomForecast" 168) (cls := "java/lang/String") (hs (Cond.exactly (Term.string "RoomForecast" 168) "java/lang/String") (by decide +kernel))
    exact ⟨a, vk_R.of (A := #[Value.ref b]) (hts (Cond.stringRef "RoomForecast" 168 "no slope") (by decide +kernel)) q1⟩
set_option maxRecDepth 100000 in
set_option maxHeartbeats 8000000 in
theorem entry_nc {s : State} {b : Nat} (hs : ∀ c ∈ flatC (Jvm.Cond.and given_1 narrow_1), c.before #[Value.ref b] s = true) : NcS s := by
  intro q hq
  simp only [NCl, List.mem_cons, List.not_mem_nil, or_false] at hq
  rcases hq with rfl | rfl | rfl | rfl
  · exact va_Nc.of (hs (Cond.not (Cond.castable "java/lang/IllegalStateException" "java/lang/IllegalArgumentException")) (by decide +kernel))
  · exact va_Nc.of (hs (Cond.not (Cond.castable "java/lang/IllegalArgumentException" "java/lang/IndexOutOfBoundsException")) (by decide +kernel))
  · exact va_Nc.of (hs (Cond.not (Cond.castable "java/lang/IllegalStateException" "java/lang/IndexOutOfBoundsException")) (by decide +kernel))
  · exact va_Nc.of (hs (Cond.not (Cond.castable "java/lang/IllegalArgumentException" "java/lang/IllegalStateException")) (by decide +kernel))
set_option maxRecDepth 100000 in
set_option maxHeartbeats 8000000 in
theorem entry_K {s : State} {b : Nat} (hG : ∀ z ∈ GW, z.before #[Value.ref b] s = true) (hts : ∀ w ∈ lw_tbl, w.before #[Value.ref b] s = true) (tA : Nat) : ∃ (D : va_G) (cy : Nat → ClassId), va_K D vwCl (tyL cy) s ∧ cy 9 = tA := by
  obtain ⟨c0, i0, k0⟩ := u_known (C := RJx4a65c) (T := TJx4a65c) (N := 3) (n := 3) hG in_Jx4a65c (hG _ q_266)
  obtain ⟨c1, i1, k1⟩ := u_known (C := RX0) (T := TX0) (N := 3) (n := 3) hG in_X0 (hG _ q_139)
  obtain ⟨c2, i2, k2⟩ := u_known (C := RX1) (T := TX1) (N := 4) (n := 4) hG in_X1 (hG _ q_146)
  obtain ⟨c3, i3, k3⟩ := u_known (C := RX2) (T := TX2) (N := 6) (n := 6) hG in_X2 (hG _ q_136)
  obtain ⟨c4, i4, k4⟩ := u_known (C := RX3) (T := TX3) (N := 2) (n := 2) hG in_X3 (hG _ q_143)
  obtain ⟨c5, i5, k5⟩ := u_known (C := RX4) (T := TX4) (N := 4) (n := 4) hG in_X4 (hG _ q_133)
  obtain ⟨c6, i6, k6⟩ := u_known (C := RX5) (T := TX5) (N := 7) (n := 7) hG in_X5 (hG _ q_325)
  obtain ⟨c7, i7, k7⟩ := u_known (C := RX6) (T := TX6) (N := 2) (n := 2) hG in_X6 (hG _ q_149)
  obtain ⟨c8, i8, k8⟩ := u_known (C := RX7) (T := TX7) (N := 2) (n := 2) hG in_X7 (hG _ q_636)
  obtain ⟨c9, i9, k9⟩ := u_known (C := RX8) (T := TX8) (N := 30) (n := 30) hG in_X8 (hG _ q_638)
  obtain ⟨cI, kI, mI, fI1, fI2, fI3⟩ := Cond.arrayClass_spec (args := #[Value.ref b]) (first := s) (o := none) (s := s) (idx := []) (type := .int) (hG _ q_4)
  obtain ⟨cZ, kZ, mZ, fZ1, fZ2, fZ3⟩ := Cond.arrayClass_spec (args := #[Value.ref b]) (first := s) (o := none) (s := s) (idx := []) (type := .boolean) (hG _ q_442)
  obtain ⟨cJ, kJ, mJ, fJ1, fJ2, fJ3⟩ := Cond.arrayClass_spec (args := #[Value.ref b]) (first := s) (o := none) (s := s) (idx := []) (type := .long) (hG _ q_639)
  obtain ⟨mO, cO, kO, fO0, fO1, fO2, fO3, fO4⟩ := Cond.arrayOver_spec (args := #[Value.ref b]) (first := s) (o := none) (s := s) (idx := []) (n := "java/lang/Object") (hts (Cond.arrayOver (.object "java/lang/Object")) (by decide +kernel))
  refine ⟨(fun k => match k with | 0 => c0 | 1 => c1 | 2 => c2 | 3 => c3 | 4 => c4 | 5 => c5 | 6 => c6 | 7 => c7 | 8 => c8 | _ => c9, fun k => match k with | 0 => i0 | 1 => i1 | 2 => i2 | 3 => i3 | 4 => i4 | 5 => i5 | 6 => i6 | 7 => i7 | 8 => i8 | _ => i9), fun k => match k with | 0 => cI | 1 => cZ | 2 => cO | 3 => cJ | _ => tA, ⟨?_, ?_⟩, rfl⟩
  · intro k q hq
    match k, hq with
    | 0, hq => cases hq; exact k0
    | 1, hq => cases hq; exact k1
    | 2, hq => cases hq; exact k2
    | 3, hq => cases hq; exact k3
    | 4, hq => cases hq; exact k4
    | 5, hq => cases hq; exact k5
    | 6, hq => cases hq; exact k6
    | 7, hq => cases hq; exact k7
    | 8, hq => cases hq; exact k8
    | 9, hq => cases hq; exact k9
    | k + 10, hq => simp [vwCl] at hq
  · intro k q hq
    match k, hq with
    | 0, hq => cases hq; exact ⟨fun N z => ⟨(fun k h => by cases h), kI, fI2, mI, fI3⟩, fI1⟩
    | 1, hq => cases hq; exact ⟨fun N z => ⟨(fun k h => by cases h), kZ, fZ2, mZ, fZ3⟩, fZ1⟩
    | 2, hq => cases hq; exact ⟨fun N z => ⟨(fun k h => by cases h), kO, fO2, mO, fO3⟩, kO, mO, fO2, fO3, fO0, fO4⟩
    | 3, hq => cases hq; exact ⟨fun N z => ⟨(fun k h => by cases h), kJ, fJ2, mJ, fJ3⟩, fJ1⟩
    | k + 4, hq => simp [tyL] at hq
set_option maxRecDepth 100000 in
set_option maxHeartbeats 8000000 in
theorem whole_of {Rel : TS → St → Prop} (RR : RAll Rel) (h00 : Rel T00 initM) {p : Program} {e : Env} {s : State} {m : MethodId} {below : List Frame} {meth : Method} {c : Code} (l : Launch) (hflags : l.flags = flags0) {b L : Nat} {xs : Nat → Int32} (hL : L ≤ 2048) (C0 : lw_At p s m meth c b L xs) : W p l e room_1 s m #[Value.ref b] below meth c s.heap [] 0 0 (lw_Z below #[Value.ref b] s) (entryFrame m ([Value.ref b] : List Value).toArray 7) := by
  obtain ⟨hx, hb, hrt, hml, hown, hts, hX, hbl, hlocks, hgv⟩ := C0
  have hs := flat_of_before (Jvm.Cond.and given_1 narrow_1) hgv
  have hG : ∀ z ∈ GW, z.before #[Value.ref b] s = true := fun z hz => hts z (GW_tbl z hz)
  have hA9 : ∀ a : Nat, a < s.heap.size → ¬ (fun q : Nat => s.heap.size ≤ q) a := fun a h => Nat.not_le.mpr h
  obtain ⟨tA, htA, hTA⟩ := va_Tof (args := #[Value.ref b]) (s := s) (tm := Term.static "java/util/ArrayList" "DEFAULTCAPACITY_EMPTY_ELEMENTDATA" "[Ljava/lang/Object;") (ty := .object "java/lang/Object") (N := 0) (f := fun _ => .null) (A := fun q : Nat => s.heap.size ≤ q) (by decide) (hs (Cond.arrayOf (Term.static "java/util/ArrayList" "DEFAULTCAPACITY_EMPTY_ELEMENTDATA" "[Ljava/lang/Object;") (.object "java/lang/Object")) (by decide +kernel)) (va_eqt (hs (Cond.eq (Term.length (Term.static "java/util/ArrayList" "DEFAULTCAPACITY_EMPTY_ELEMENTDATA" "[Ljava/lang/Object;")) (Term.int 0)) (by decide +kernel))) (fun j h => absurd h (Nat.not_lt_zero _)) hA9
  obtain ⟨D, cy, hK, hcy⟩ := entry_K hG hts tA
  have hN : ∀ z ∈ NW, va_Nw z s := fun z hz => va_Nw.of (List.all_eq_true.mp NW_on z hz) (hts z (NW_tbl z hz))
  have hXK : XK (l, D, cy) (fun q : Nat => s.heap.size ≤ q) s s.heap := by
    refine ⟨?_, ?_, ?_, entry_str hts hs, ?_, ?_, ?_⟩
    · show (!l.flags.contains noTraceFlag) = false
      rw [hflags]; decide +kernel
    · exact vx_Zqof (args := #[Value.ref b]) (hts (Cond.laysStatic "java/lang/Throwable" "UNASSIGNED_STACK" "[Ljava/lang/StackTraceElement;") (by decide +kernel)) (hts (Cond.initialized "java/lang/Throwable") (by decide +kernel)) (hs (Cond.isRef (Term.static "java/lang/Throwable" "UNASSIGNED_STACK" "[Ljava/lang/StackTraceElement;")) (by decide +kernel)) hA9
    · exact vx_Zqof (args := #[Value.ref b]) (hts (Cond.laysStatic "java/lang/Throwable" "SUPPRESSED_SENTINEL" "Ljava/util/List;") (by decide +kernel)) (hts (Cond.initialized "java/lang/Throwable") (by decide +kernel)) (hs (Cond.isRef (Term.static "java/lang/Throwable" "SUPPRESSED_SENTINEL" "Ljava/util/List;")) (by decide +kernel)) hA9
    · show va_Z "java/util/ArrayList" "DEFAULTCAPACITY_EMPTY_ELEMENTDATA" "[Ljava/lang/Object;" (.ref (cy 9)) _ s s.heap
      rw [hcy]
      exact va_Zof (args := #[Value.ref b]) (hts (Cond.laysStatic "java/util/ArrayList" "DEFAULTCAPACITY_EMPTY_ELEMENTDATA" "[Ljava/lang/Object;") (by decide +kernel)) (hts (Cond.initialized "java/util/ArrayList") (by decide +kernel)) htA hA9
    · show va_T _ (cy 9) 0 _ _ s s.heap
      rw [hcy]
      exact hTA
    · exact va_AO.of (A := #[Value.ref b]) (hts (Cond.arrayOver (.object "java/lang/Object")) (by decide +kernel))
  obtain ⟨x, ex⟩ : ∃ x : Cx, x = (p, e, room_1, s, m, #[Value.ref b], below, meth, c, (fun q : Nat => s.heap.size ≤ q), 7, lw_Z below #[Value.ref b] s) := ⟨_, rfl⟩
  have X : Ok (l, D, cy) x cL_law RL room_1 7 := by
    rw [ex]
    exact ⟨hx, hb, hml, hown, hG, hK, hN, fun q h => h, rfl, rfl⟩
  have XX : OkX (l, D, cy) x := by
    rw [ex]
    exact hXK
  have XN : OkN x := by
    rw [ex]
    exact entry_nc hs
  have S : OkS x b L xs := by
    rw [ex]
    exact ⟨hX, hbl, Nat.not_le.mpr hbl⟩
  have hend : ∀ k n w lv, k ≤ 601024 → n ≤ 7293034 → J (l, D, cy) x k n w 1095 lv [.int 1] := by
    rw [ex]
    intro k n w lv hk hn H locs ls hP hD hS hv
    refine va_forget (fun q hq => hS.2.2 q hq) ?_
    refine W.widen hk hn ?_
    exact lw_ret hx hb hrt hlocks dL_law_1095
  have X2 : Ok (l, D, cy) x cL_law RL (rmA 12 432 601024 7293034) 7 := X
  have main : J (l, D, cy) x 0 0 [] 0 [(0, .ref b)] [] := by
    refine J_new X (pc := 0) (ci := 8) (fs := [.null, .int 0]) in_X7 tyX7 tyX7_ok q_635 q_636 q_14 rfl (fun j hj => by rcases (show j = 0 ∨ j = 1 by omega) with rfl | rfl <;> rfl) (Nat.le_of_ble_eq_true rfl) (Nat.le_of_ble_eq_true rfl) dL_law_0 (fun h0 => ?_)
    refine J_dup X (pc := 3) dL_law_3 rfl ?_
    refine J_app0 ?_
    refine J_callCX (w1 := [(h0, .inr (8, [.null, .int 0]))]) (rw := []) X XX (pc := 4) (y := yX7_init) (na := 0) (As := []) (rest := [.ref h0]) (c_X7_init (l, D, cy) h0) q_640 q_641 q_14 q_263 rfl rfl (by decide +kernel) (by decide +kernel) rfl (Nat.le_of_ble_eq_true rfl) ⟨by decide +kernel, by decide +kernel⟩ dL_law_4 (fun ad had => ?_)
    refine J_astore_n X (pc := 7) (lv1 := [(1, .ref h0), (0, .ref b)]) dL_law_7 (by decide) rfl ?_
    refine J_new X (pc := 8) (ci := 9) (fs := [.int 0, .int 0, .null, .null, .null, .null, .null, .null, .null, .null, .null, .null, .null, .null, .null, .null, .null, .null, .null, .int 0, .null, .null, .null, .null, .null, .int 0, .int 0, .int 0, .int 0, .int 0]) in_X8 tyX8 tyX8_ok q_637 q_638 q_465 rfl (fun j hj => by rcases (show j = 0 ∨ j = 1 ∨ j = 2 ∨ j = 3 ∨ j = 4 ∨ j = 5 ∨ j = 6 ∨ j = 7 ∨ j = 8 ∨ j = 9 ∨ j = 10 ∨ j = 11 ∨ j = 12 ∨ j = 13 ∨ j = 14 ∨ j = 15 ∨ j = 16 ∨ j = 17 ∨ j = 18 ∨ j = 19 ∨ j = 20 ∨ j = 21 ∨ j = 22 ∨ j = 23 ∨ j = 24 ∨ j = 25 ∨ j = 26 ∨ j = 27 ∨ j = 28 ∨ j = 29 by omega) with rfl | rfl | rfl | rfl | rfl | rfl | rfl | rfl | rfl | rfl | rfl | rfl | rfl | rfl | rfl | rfl | rfl | rfl | rfl | rfl | rfl | rfl | rfl | rfl | rfl | rfl | rfl | rfl | rfl | rfl <;> rfl) (by decide +kernel) (by decide +kernel) dL_law_8 (fun h1 => ?_)
    refine J_dup X (pc := 11) dL_law_11 rfl ?_
    refine J_perm List.perm_append_comm ?_
    refine J_callCI (w1 := [(h1, .inr (9, [.int 0, .int 0, .null, .null, .null, .null, .null, .null, .null, .null, .null, .null, .null, .null, .null, .null, .null, .null, .null, .int 0, .null, .null, .null, .null, .null, .int 0, .int 0, .int 0, .int 0, .int 0]))]) X2 (pc := 12) (y := yX8_init) (na := 0) (As := []) (rest := [.ref h1]) (c_X8_init (l, D, cy) h1) q_642 q_643 q_465 q_456 rfl rfl (by decide +kernel) (by decide +kernel) rfl (Nat.le_of_ble_eq_true rfl) ⟨by decide +kernel, by decide +kernel⟩ dL_law_12 (fun am ham => ?_)
    refine J_astore_n X (pc := 15) (lv1 := [(2, .ref h1), (1, .ref h0), (0, .ref b)]) dL_law_15 (by decide) rfl ?_
    refine J_iconst X (pc := 16) (v := 1) dL_law_16 (by decide +kernel) ?_
    refine J_newa X (pc := 17) (atype := .long) (ty := .long) (N := 1) (t0 := 3) (a0 := (1, .inr (.inl (fun _ => 0)))) (cA0 := cy 3) q_639 rfl rfl (fun U cA h0 h1 => Option.some.inj (h1.symm.trans h0)) (fun _ => rfl) (by decide) (by decide) (Nat.le_of_ble_eq_true rfl) (by decide +kernel) (by decide +kernel) dL_law_17 (fun ao => ?_)
    refine J_astore_n X (pc := 19) (lv1 := [(3, .ref ao), (2, .ref h1), (1, .ref h0), (0, .ref b)]) dL_law_19 (by decide) rfl ?_
    refine J_iconst X (pc := 20) (v := 0) dL_law_20 (by decide +kernel) ?_
    refine J_istore X (pc := 21) (lv1 := [(4, .int 0), (3, .ref ao), (2, .ref h1), (1, .ref h0), (0, .ref b)]) dL_law_21 (by decide) rfl ?_
    refine J_sub (lv1 := [(4, .int (nI (4 * 0))), (0, .ref b), (1, .ref h0), (2, .ref h1), (3, .ref ao)]) [0, 4, 3, 2, 1] rfl ?_
    subst ham
    refine J_perm (w1 := outC (l, D, cy) ao (fun _ => 0) :: (cW (l, D, cy) ad T00 ++ mW (l, D, cy) am initM)) ?_ ?_
    · refine List.perm_append_comm.trans (List.Perm.cons _ ?_)
      rw [List.append_nil]
      show (mW (l, D, cy) am initM ++ cW (l, D, cy) ad T00).Perm _
      exact List.perm_append_comm
    refine J_widen (k2 := 100 + 16 * 0) (n2 := 2000 + 398 * 0) (by decide +kernel) (by decide +kernel) ?_
    exact law_loop X XX XN S hL RR hend 513 0 rfl (by omega) ad (fun _ => 0) T00 initM h00 had
  rw [ex] at main
  have hl := lv_entry ([.ref b]) (n := 7) (Nat.le_of_ble_eq_true rfl)
  rw [lg_entry_eq]
  exact main s.heap [] _ (fun k q h => by simp at h) ⟨fun i j p q h => by simp at h, fun k q h => by simp at h⟩ va_S.rf hl
