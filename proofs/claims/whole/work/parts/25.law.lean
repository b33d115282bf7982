/-! The law's body, over any relation between the two sides that every call keeps -/
def ThrowAt (Rel : TS → St → Prop) (M2 : St) (fx : Option (String × TS)) : List String → Nat → Prop
  | [], _ => False
  | e :: r, j => (∃ T2, fx = some (e, T2) ∧ M2.1 7 = Int32.ofNat j ∧ Rel T2 M2) ∨ ThrowAt Rel M2 fx r (j + 1)
def StepI (Rel : TS → St → Prop) (exs : List String) (fx : Option (String × TS)) (ff : Option (Int32 × TS)) (fm : Option (Int32 × St)) : Prop := ∃ b M2, fm = some (b, M2) ∧ (ThrowAt Rel M2 fx exs 1 ∨ ∃ T2, ff = some (b, T2) ∧ M2.1 7 = 0 ∧ Rel T2 M2)
def StepV (Rel : TS → St → Prop) (exs : List String) (fx : Option (String × TS)) (ff : Option TS) (fm : Option St) : Prop := ∃ M2, fm = some M2 ∧ (ThrowAt Rel M2 fx exs 1 ∨ ∃ T2, ff = some T2 ∧ M2.1 7 = 0 ∧ Rel T2 M2)
def ffAdd (a1 : Int32) (T : TS) : Option (Int32 × TS) := if (1 ≤ a1 ∧ a1 ≤ 1000000) ∧ T.2.1 < 8 then some (nI T.2.1, addT T a1) else none
theorem updL0 (g : Nat → Int64) (v : Int64) : vp_updL g 0 v (0 : Int32).toNatClampNeg = v := by
  have h : (0 : Int32).toNatClampNeg = 0 := by decide
  rw [h]; exact if_pos rfl
theorem lg_self (u v : Int64) (h : u = v) : lg_cmp u v = 0 := (lg_cmp_eq u v).mpr h
def R_addStore (Rel : TS → St → Prop) : Prop := ∀ T M a1, Rel T M → StepI Rel ["java/lang/IllegalArgumentException", "java/lang/IllegalStateException"] (x_X7_addStore a1 T) (ffAdd a1 T) (f_X8_addStore a1 M)
def R_setSize (Rel : TS → St → Prop) : Prop := ∀ T M a1 a2, Rel T M → StepI Rel ["java/lang/IndexOutOfBoundsException", "java/lang/IllegalArgumentException"] (x_X7_setSize a1 a2 T) (f_X7_setSize a1 a2 T) (f_X8_setSize a1 a2 M)
def R_sample (Rel : TS → St → Prop) : Prop := ∀ T M a1 a2, Rel T M → StepI Rel ["java/lang/IndexOutOfBoundsException", "java/lang/IllegalArgumentException"] (x_X7_sample a1 a2 T) (f_X7_sample a1 a2 T) (f_X8_sample a1 a2 M)
def R_clean (Rel : TS → St → Prop) : Prop := ∀ T M a1 a2, Rel T M → StepI Rel ["java/lang/IndexOutOfBoundsException", "java/lang/IllegalArgumentException", "java/lang/IllegalStateException"] (x_X7_clean a1 a2 T) (f_X7_clean a1 a2 T) (f_X8_clean a1 a2 M)
def R_setRule (Rel : TS → St → Prop) : Prop := ∀ T M a1 a2 a3, Rel T M → StepV Rel ["java/lang/IndexOutOfBoundsException", "java/lang/IllegalArgumentException"] (x_X7_setRule a1 a2 a3 T) (f_X7_setRule a1 a2 a3 T) (f_X8_setRule a1 a2 a3 M)
def R_pass (Rel : TS → St → Prop) : Prop := ∀ T M a1, Rel T M → StepI Rel ["java/lang/IllegalArgumentException", "java/lang/IllegalStateException"] (x_X7_pass a1 T) (f_X7_pass a1 T) (f_X8_pass a1 M)
def R_today (Rel : TS → St → Prop) : Prop := ∀ T M, Rel T M → ∃ M2, f_X8_today M = some (T.1.1, M2) ∧ Rel T M2
def R_samples (Rel : TS → St → Prop) : Prop := ∀ T M a1, Rel T M → StepI Rel ["java/lang/IndexOutOfBoundsException"] (x_X7_samples a1 T) ((f_X7_samples a1 T).map (fun r => (r, T))) (f_X8_samples a1 M)
def R_slopeNumerator (Rel : TS → St → Prop) : Prop := ∀ T M a1, Rel T M → StepI Rel ["java/lang/IndexOutOfBoundsException", "java/lang/IllegalStateException"] (x_X7_slopeNumerator a1 T) (f_X7_slopeNumerator a1 T) (f_X8_slopeNumerator a1 M)
def R_slopeDenominator (Rel : TS → St → Prop) : Prop := ∀ T M a1, Rel T M → StepI Rel ["java/lang/IndexOutOfBoundsException", "java/lang/IllegalStateException"] (x_X7_slopeDenominator a1 T) (f_X7_slopeDenominator a1 T) (f_X8_slopeDenominator a1 M)
def R_usual (Rel : TS → St → Prop) : Prop := ∀ T M a1, Rel T M → StepI Rel ["java/lang/IndexOutOfBoundsException"] (x_X7_usual a1 T) ((f_X7_usual a1 T).map (fun r => (r, T))) (f_X8_usual a1 M)
def R_forecast (Rel : TS → St → Prop) : Prop := ∀ T M a1 a2, Rel T M → StepI Rel ["java/lang/IndexOutOfBoundsException", "java/lang/IllegalStateException", "java/lang/IllegalArgumentException"] (x_X7_forecast a1 a2 T) (f_X7_forecast a1 a2 T) (f_X8_forecast a1 a2 M)
def R_full (Rel : TS → St → Prop) : Prop := ∀ T M a1, Rel T M → StepI Rel ["java/lang/IndexOutOfBoundsException"] (x_X7_full a1 T) (f_X7_full a1 T) (f_X8_full a1 M)
def R_early (Rel : TS → St → Prop) : Prop := ∀ T M a1, Rel T M → StepI Rel ["java/lang/IndexOutOfBoundsException"] (x_X7_early a1 T) (f_X7_early a1 T) (f_X8_early a1 M)
def R_late (Rel : TS → St → Prop) : Prop := ∀ T M a1, Rel T M → StepI Rel ["java/lang/IndexOutOfBoundsException"] (x_X7_late a1 T) (f_X7_late a1 T) (f_X8_late a1 M)
def R_warns (Rel : TS → St → Prop) : Prop := ∀ T M a1, Rel T M → StepI Rel ["java/lang/IndexOutOfBoundsException"] (x_X7_warns a1 T) ((f_X7_warns a1 T).map (fun r => (r, T))) (f_X8_warns a1 M)
def R_poolFull (Rel : TS → St → Prop) : Prop := ∀ T M a1, Rel T M → StepI Rel ["java/lang/IllegalArgumentException"] (x_X7_poolFull a1 T) (f_X7_poolFull a1 T) (f_X8_poolFull a1 M)
set_option maxRecDepth 100000 in
set_option maxHeartbeats 4000000 in
theorem law_addStore {E : Ev} {x : Cx} {Rel : TS → St → Prop} {k n b NN ao : Nat} {xs : Nat → Int32} {i : Int32} {ad : CA} {am : Nat → Nat} {g : Nat → Int64} {T : TS} {M : St} {xr : Nat} (X : Ok E x cL_law RL room_1 7) (XX : OkX E x) (XN : OkN x) (S : OkS x b NN xs) (hxr : ad.1 0 = xr) (hk : k + 40 ≤ 601024 ∧ n + 1000 ≤ 7293034) (hr : Rel T M) (hi1 : inb (i + 1) NN) {a1 : Int32} (ea1 : a1 = xs (i + 1).toNatClampNeg) (st : R_addStore Rel) (kk : ∀ ad2 g2 T2 M2, Rel T2 M2 → ad2.1 0 = xr → J E x (k + 16) (n + 398) (outC E ao g2 :: (cW E ad2 T2 ++ mW E am M2)) 1088 [(4, .int i), (0, .ref b), (1, .ref xr), (2, .ref (am 0)), (3, .ref ao)] []) : J E x k n (outC E ao g :: (cW E ad T ++ mW E am M)) 120 [(4, .int i), (0, .ref b), (1, .ref xr), (2, .ref (am 0)), (3, .ref ao)] [] := by
  subst hxr
  obtain ⟨bb, M2, hm, hc⟩ := st T M a1 hr
  simp only [ThrowAt, or_false] at hc
  rcases hc with (⟨T2, hx, ht, hr2⟩ | ⟨T2, hx, ht, hr2⟩) | ⟨T2, hf, ht, hr2⟩
  · skip
    refine J_aload_n X (pc := 120) dL_law_120 2 rfl ?_
    refine J_aload_n X (pc := 121) dL_law_121 1 rfl ?_
    refine J_iload X (pc := 122) dL_law_122 0 rfl ?_
    refine J_iconst X (pc := 124) (v := 1) dL_law_124 (by decide +kernel) ?_
    refine J_iadd X (pc := 125) dL_law_125 ?_
    refine J_sld X (pc := 126) S hi1 dL_law_126 ?_
    refine J_nmi ea1 ?_
    refine J_aload_n X (pc := 127) dL_law_127 4 rfl ?_
    refine J_callH (w1 := outC E ao g :: cW E ad T) (rw := mW E am M) X XX XN (pc := 128) (na := 3) (As := [.ref (ad.1 0), .int a1, .ref ao]) (rest := []) (hx_addStore_1 E ad ao g hx) q_644 q_645 q_646 q_573 rfl (by decide +kernel) ⟨by decide +kernel, by decide +kernel⟩ rfl (Nat.le_of_ble_eq_true rfl) ⟨(by show _ ≤ 601024; omega), (by show _ ≤ 7293034; omega)⟩ dL_law_128 (fun ad2 had2 => ?_)
    refine J_istore X (pc := 131) (lv1 := [(5, .int 1), (4, .int i), (0, .ref b), (1, .ref (ad.1 0)), (2, .ref (am 0)), (3, .ref ao)]) dL_law_131 (by decide) rfl ?_
    refine J_aload_n X (pc := 133) dL_law_133 4 rfl ?_
    refine J_aload_n X (pc := 134) dL_law_134 2 rfl ?_
    refine J_iload X (pc := 135) dL_law_135 1 rfl ?_
    refine J_iconst X (pc := 137) (v := 1) dL_law_137 (by decide +kernel) ?_
    refine J_iadd X (pc := 138) dL_law_138 ?_
    refine J_sld X (pc := 139) S hi1 dL_law_139 ?_
    refine J_nmi ea1 ?_
    refine J_perm (w1 := mW E am M ++ (outC E ao g :: cW E ad2 T2)) (List.perm_append_comm (l₂ := mW E am M)) ?_
    refine J_callF0I X (pc := 140) (y := yX8_addStore) (na := 1) (As := [.int a1]) (rest := []) (c_X8_addStore E am hm) 0 mW_c0 rfl q_647 q_648 q_649 q_465 q_466 rfl (by decide +kernel) ⟨by decide +kernel, by decide +kernel⟩ rfl (Nat.le_of_ble_eq_true rfl) ⟨(by show _ ≤ 601024; omega), (by show _ ≤ 7293034; omega)⟩ dL_law_140 ?_
    refine J_istore X (pc := 143) (lv1 := [(6, .int bb), (5, .int 1), (4, .int i), (0, .ref b), (1, .ref (ad.1 0)), (2, .ref (am 0)), (3, .ref ao)]) dL_law_143 (by decide) rfl ?_
    refine J_aload_n X (pc := 145) dL_law_145 5 rfl ?_
    refine J_callF0I X (pc := 146) (y := yX8_thrown) (na := 0) (As := []) (rest := []) (c_X8_thrown E am (S := M2) (r := M2.1 7) rfl) 0 mW_c0 rfl q_650 q_651 q_652 q_465 q_457 rfl (by decide +kernel) ⟨by decide +kernel, by decide +kernel⟩ rfl (Nat.le_of_ble_eq_true rfl) ⟨(by show _ ≤ 601024; omega), (by show _ ≤ 7293034; omega)⟩ dL_law_146 ?_
    refine J_perm (w1 := outC E ao g :: (cW E ad2 T2 ++ mW E am M2)) (List.perm_append_comm (l₂ := outC E ao g :: cW E ad2 T2)) ?_
    refine J_iload X (pc := 149) dL_law_149 1 rfl ?_
    refine J_icmp_eq X (pc := 151) 156 dL_law_151 (by decide) (fun _ => ?_) (fun c => absurd ht c)
    refine J_iload X (pc := 156) dL_law_156 1 rfl ?_
    refine J_if_ne X (pc := 158) 173 dL_law_158 (by decide) (fun _ => ?_) (fun c => absurd c (by decide))
    refine J_goto X (pc := 173) 1088 dL_law_173 (by decide) ?_
    refine J_sub [2, 3, 4, 5, 6] rfl ?_
    exact kk ad2 _ T2 M2 hr2 had2
  · skip
    refine J_aload_n X (pc := 120) dL_law_120 2 rfl ?_
    refine J_aload_n X (pc := 121) dL_law_121 1 rfl ?_
    refine J_iload X (pc := 122) dL_law_122 0 rfl ?_
    refine J_iconst X (pc := 124) (v := 1) dL_law_124 (by decide +kernel) ?_
    refine J_iadd X (pc := 125) dL_law_125 ?_
    refine J_sld X (pc := 126) S hi1 dL_law_126 ?_
    refine J_nmi ea1 ?_
    refine J_aload_n X (pc := 127) dL_law_127 4 rfl ?_
    refine J_callH (w1 := outC E ao g :: cW E ad T) (rw := mW E am M) X XX XN (pc := 128) (na := 3) (As := [.ref (ad.1 0), .int a1, .ref ao]) (rest := []) (hx_addStore_2 E ad ao g hx) q_644 q_645 q_646 q_573 rfl (by decide +kernel) ⟨by decide +kernel, by decide +kernel⟩ rfl (Nat.le_of_ble_eq_true rfl) ⟨(by show _ ≤ 601024; omega), (by show _ ≤ 7293034; omega)⟩ dL_law_128 (fun ad2 had2 => ?_)
    refine J_istore X (pc := 131) (lv1 := [(5, .int 2), (4, .int i), (0, .ref b), (1, .ref (ad.1 0)), (2, .ref (am 0)), (3, .ref ao)]) dL_law_131 (by decide) rfl ?_
    refine J_aload_n X (pc := 133) dL_law_133 4 rfl ?_
    refine J_aload_n X (pc := 134) dL_law_134 2 rfl ?_
    refine J_iload X (pc := 135) dL_law_135 1 rfl ?_
    refine J_iconst X (pc := 137) (v := 1) dL_law_137 (by decide +kernel) ?_
    refine J_iadd X (pc := 138) dL_law_138 ?_
    refine J_sld X (pc := 139) S hi1 dL_law_139 ?_
    refine J_nmi ea1 ?_
    refine J_perm (w1 := mW E am M ++ (outC E ao g :: cW E ad2 T2)) (List.perm_append_comm (l₂ := mW E am M)) ?_
    refine J_callF0I X (pc := 140) (y := yX8_addStore) (na := 1) (As := [.int a1]) (rest := []) (c_X8_addStore E am hm) 0 mW_c0 rfl q_647 q_648 q_649 q_465 q_466 rfl (by decide +kernel) ⟨by decide +kernel, by decide +kernel⟩ rfl (Nat.le_of_ble_eq_true rfl) ⟨(by show _ ≤ 601024; omega), (by show _ ≤ 7293034; omega)⟩ dL_law_140 ?_
    refine J_istore X (pc := 143) (lv1 := [(6, .int bb), (5, .int 2), (4, .int i), (0, .ref b), (1, .ref (ad.1 0)), (2, .ref (am 0)), (3, .ref ao)]) dL_law_143 (by decide) rfl ?_
    refine J_aload_n X (pc := 145) dL_law_145 5 rfl ?_
    refine J_callF0I X (pc := 146) (y := yX8_thrown) (na := 0) (As := []) (rest := []) (c_X8_thrown E am (S := M2) (r := M2.1 7) rfl) 0 mW_c0 rfl q_650 q_651 q_652 q_465 q_457 rfl (by decide +kernel) ⟨by decide +kernel, by decide +kernel⟩ rfl (Nat.le_of_ble_eq_true rfl) ⟨(by show _ ≤ 601024; omega), (by show _ ≤ 7293034; omega)⟩ dL_law_146 ?_
    refine J_perm (w1 := outC E ao g :: (cW E ad2 T2 ++ mW E am M2)) (List.perm_append_comm (l₂ := outC E ao g :: cW E ad2 T2)) ?_
    refine J_iload X (pc := 149) dL_law_149 1 rfl ?_
    refine J_icmp_eq X (pc := 151) 156 dL_law_151 (by decide) (fun _ => ?_) (fun c => absurd ht c)
    refine J_iload X (pc := 156) dL_law_156 1 rfl ?_
    refine J_if_ne X (pc := 158) 173 dL_law_158 (by decide) (fun _ => ?_) (fun c => absurd c (by decide))
    refine J_goto X (pc := 173) 1088 dL_law_173 (by decide) ?_
    refine J_sub [2, 3, 4, 5, 6] rfl ?_
    exact kk ad2 _ T2 M2 hr2 had2
  · skip
    refine J_aload_n X (pc := 120) dL_law_120 2 rfl ?_
    refine J_aload_n X (pc := 121) dL_law_121 1 rfl ?_
    refine J_iload X (pc := 122) dL_law_122 0 rfl ?_
    refine J_iconst X (pc := 124) (v := 1) dL_law_124 (by decide +kernel) ?_
    refine J_iadd X (pc := 125) dL_law_125 ?_
    refine J_sld X (pc := 126) S hi1 dL_law_126 ?_
    refine J_nmi ea1 ?_
    refine J_aload_n X (pc := 127) dL_law_127 4 rfl ?_
    unfold ffAdd at hf
    have hq : (1 ≤ a1 ∧ a1 ≤ 1000000) ∧ T.2.1 < 8 := by
      rcases Decidable.em ((1 ≤ a1 ∧ a1 ≤ 1000000) ∧ T.2.1 < 8) with q | q
      · exact q
      · rw [if_neg q] at hf; cases hf
    rw [if_pos hq] at hf
    obtain ⟨hb2, hT2⟩ := Prod.mk.inj (Option.some.inj hf)
    subst hT2
    subst hb2
    refine J_callH (w1 := outC E ao g :: cW E ad T) (rw := mW E am M) X XX XN (pc := 128) (na := 3) (As := [.ref (ad.1 0), .int a1, .ref ao]) (rest := []) (h_addStore E ad ao g hq.1 hq.2) q_644 q_645 q_646 q_573 rfl (by decide +kernel) ⟨by decide +kernel, by decide +kernel⟩ rfl (Nat.le_of_ble_eq_true rfl) ⟨(by show _ ≤ 601024; omega), (by show _ ≤ 7293034; omega)⟩ dL_law_128 (fun ad2 had2 => ?_)
    refine J_istore X (pc := 131) (lv1 := [(5, .int 0), (4, .int i), (0, .ref b), (1, .ref (ad.1 0)), (2, .ref (am 0)), (3, .ref ao)]) dL_law_131 (by decide) rfl ?_
    refine J_aload_n X (pc := 133) dL_law_133 4 rfl ?_
    refine J_aload_n X (pc := 134) dL_law_134 2 rfl ?_
    refine J_iload X (pc := 135) dL_law_135 1 rfl ?_
    refine J_iconst X (pc := 137) (v := 1) dL_law_137 (by decide +kernel) ?_
    refine J_iadd X (pc := 138) dL_law_138 ?_
    refine J_sld X (pc := 139) S hi1 dL_law_139 ?_
    refine J_nmi ea1 ?_
    refine J_perm (w1 := mW E am M ++ (outC E ao (vp_updL g 0 (nI T.2.1).toInt64) :: cW E ad2 (addT T a1))) (List.perm_append_comm (l₂ := mW E am M)) ?_
    refine J_callF0I X (pc := 140) (y := yX8_addStore) (na := 1) (As := [.int a1]) (rest := []) (c_X8_addStore E am hm) 0 mW_c0 rfl q_647 q_648 q_649 q_465 q_466 rfl (by decide +kernel) ⟨by decide +kernel, by decide +kernel⟩ rfl (Nat.le_of_ble_eq_true rfl) ⟨(by show _ ≤ 601024; omega), (by show _ ≤ 7293034; omega)⟩ dL_law_140 ?_
    refine J_istore X (pc := 143) (lv1 := [(6, .int (nI T.2.1)), (5, .int 0), (4, .int i), (0, .ref b), (1, .ref (ad.1 0)), (2, .ref (am 0)), (3, .ref ao)]) dL_law_143 (by decide) rfl ?_
    refine J_aload_n X (pc := 145) dL_law_145 5 rfl ?_
    refine J_callF0I X (pc := 146) (y := yX8_thrown) (na := 0) (As := []) (rest := []) (c_X8_thrown E am (S := M2) (r := M2.1 7) rfl) 0 mW_c0 rfl q_650 q_651 q_652 q_465 q_457 rfl (by decide +kernel) ⟨by decide +kernel, by decide +kernel⟩ rfl (Nat.le_of_ble_eq_true rfl) ⟨(by show _ ≤ 601024; omega), (by show _ ≤ 7293034; omega)⟩ dL_law_146 ?_
    refine J_perm (w1 := outC E ao (vp_updL g 0 (nI T.2.1).toInt64) :: (cW E ad2 (addT T a1) ++ mW E am M2)) (List.perm_append_comm (l₂ := outC E ao (vp_updL g 0 (nI T.2.1).toInt64) :: cW E ad2 (addT T a1))) ?_
    refine J_iload X (pc := 149) dL_law_149 1 rfl ?_
    refine J_icmp_eq X (pc := 151) 156 dL_law_151 (by decide) (fun _ => ?_) (fun c => absurd ht c)
    refine J_iload X (pc := 156) dL_law_156 1 rfl ?_
    refine J_if_ne X (pc := 158) 173 dL_law_158 (by decide) (fun c => absurd rfl c) (fun _ => ?_)
    refine J_aload_n X (pc := 161) dL_law_161 6 rfl ?_
    refine J_iconst X (pc := 162) (v := 0) dL_law_162 (by decide +kernel) ?_
    refine J_lald X (pc := 163) 0 rfl ⟨by decide, by decide⟩ dL_law_163 ?_
    refine J_iload X (pc := 164) dL_law_164 0 rfl ?_
    refine J_i2l X (pc := 166) dL_law_166 ?_
    refine J_lcmp X (pc := 167) dL_law_167 ?_
    refine J_if_eq X (pc := 168) 173 dL_law_168 (by decide) (fun _ => ?_) (fun c => absurd (lg_self _ _ (updL0 g _)) c)
    refine J_goto X (pc := 173) 1088 dL_law_173 (by decide) ?_
    refine J_sub [2, 3, 4, 5, 6] rfl ?_
    exact kk ad2 _ (addT T a1) M2 hr2 had2
set_option maxRecDepth 100000 in
set_option maxHeartbeats 4000000 in
theorem law_setSize {E : Ev} {x : Cx} {Rel : TS → St → Prop} {k n b NN ao : Nat} {xs : Nat → Int32} {i : Int32} {ad : CA} {am : Nat → Nat} {g : Nat → Int64} {T : TS} {M : St} {xr : Nat} (X : Ok E x cL_law RL room_1 7) (XX : OkX E x) (XN : OkN x) (S : OkS x b NN xs) (hxr : ad.1 0 = xr) (hk : k + 40 ≤ 601024 ∧ n + 1000 ≤ 7293034) (hr : Rel T M) (hi1 : inb (i + 1) NN) (hi2 : inb (i + 2) NN) {a1 : Int32} (ea1 : a1 = xs (i + 1).toNatClampNeg) {a2 : Int32} (ea2 : a2 = xs (i + 2).toNatClampNeg) (st : R_setSize Rel) (kk : ∀ ad2 g2 T2 M2, Rel T2 M2 → ad2.1 0 = xr → J E x (k + 16) (n + 398) (outC E ao g2 :: (cW E ad2 T2 ++ mW E am M2)) 1088 [(4, .int i), (0, .ref b), (1, .ref xr), (2, .ref (am 0)), (3, .ref ao)] []) : J E x k n (outC E ao g :: (cW E ad T ++ mW E am M)) 176 [(4, .int i), (0, .ref b), (1, .ref xr), (2, .ref (am 0)), (3, .ref ao)] [] := by
  subst hxr
  obtain ⟨bb, M2, hm, hc⟩ := st T M a1 a2 hr
  simp only [ThrowAt, or_false] at hc
  rcases hc with (⟨T2, hx, ht, hr2⟩ | ⟨T2, hx, ht, hr2⟩) | ⟨T2, hf, ht, hr2⟩
  · skip
    refine J_aload_n X (pc := 176) dL_law_176 2 rfl ?_
    refine J_aload_n X (pc := 177) dL_law_177 1 rfl ?_
    refine J_iload X (pc := 178) dL_law_178 0 rfl ?_
    refine J_iconst X (pc := 180) (v := 1) dL_law_180 (by decide +kernel) ?_
    refine J_iadd X (pc := 181) dL_law_181 ?_
    refine J_sld X (pc := 182) S hi1 dL_law_182 ?_
    refine J_nmi ea1 ?_
    refine J_aload_n X (pc := 183) dL_law_183 1 rfl ?_
    refine J_iload X (pc := 184) dL_law_184 0 rfl ?_
    refine J_iconst X (pc := 186) (v := 2) dL_law_186 (by decide +kernel) ?_
    refine J_iadd X (pc := 187) dL_law_187 ?_
    refine J_sld X (pc := 188) S hi2 dL_law_188 ?_
    refine J_nmi ea2 ?_
    refine J_aload_n X (pc := 189) dL_law_189 4 rfl ?_
    refine J_callH (w1 := outC E ao g :: cW E ad T) (rw := mW E am M) X XX XN (pc := 190) (na := 4) (As := [.ref (ad.1 0), .int a1, .int a2, .ref ao]) (rest := []) (hx_setSize_1 E ad ao g hx) q_653 q_654 q_646 q_578 rfl (by decide +kernel) ⟨by decide +kernel, by decide +kernel⟩ rfl (Nat.le_of_ble_eq_true rfl) ⟨(by show _ ≤ 601024; omega), (by show _ ≤ 7293034; omega)⟩ dL_law_190 (fun ad2 had2 => ?_)
    refine J_istore X (pc := 193) (lv1 := [(5, .int 1), (4, .int i), (0, .ref b), (1, .ref (ad.1 0)), (2, .ref (am 0)), (3, .ref ao)]) dL_law_193 (by decide) rfl ?_
    refine J_aload_n X (pc := 195) dL_law_195 4 rfl ?_
    refine J_aload_n X (pc := 196) dL_law_196 2 rfl ?_
    refine J_iload X (pc := 197) dL_law_197 1 rfl ?_
    refine J_iconst X (pc := 199) (v := 1) dL_law_199 (by decide +kernel) ?_
    refine J_iadd X (pc := 200) dL_law_200 ?_
    refine J_sld X (pc := 201) S hi1 dL_law_201 ?_
    refine J_nmi ea1 ?_
    refine J_aload_n X (pc := 202) dL_law_202 2 rfl ?_
    refine J_iload X (pc := 203) dL_law_203 1 rfl ?_
    refine J_iconst X (pc := 205) (v := 2) dL_law_205 (by decide +kernel) ?_
    refine J_iadd X (pc := 206) dL_law_206 ?_
    refine J_sld X (pc := 207) S hi2 dL_law_207 ?_
    refine J_nmi ea2 ?_
    refine J_perm (w1 := mW E am M ++ (outC E ao g :: cW E ad2 T2)) (List.perm_append_comm (l₂ := mW E am M)) ?_
    refine J_callF0I X (pc := 208) (y := yX8_setSize) (na := 2) (As := [.int a1, .int a2]) (rest := []) (c_X8_setSize E am hm) 0 mW_c0 rfl q_655 q_656 q_657 q_465 q_471 rfl (by decide +kernel) ⟨by decide +kernel, by decide +kernel⟩ rfl (Nat.le_of_ble_eq_true rfl) ⟨(by show _ ≤ 601024; omega), (by show _ ≤ 7293034; omega)⟩ dL_law_208 ?_
    refine J_istore X (pc := 211) (lv1 := [(6, .int bb), (5, .int 1), (4, .int i), (0, .ref b), (1, .ref (ad.1 0)), (2, .ref (am 0)), (3, .ref ao)]) dL_law_211 (by decide) rfl ?_
    refine J_aload_n X (pc := 213) dL_law_213 5 rfl ?_
    refine J_callF0I X (pc := 214) (y := yX8_thrown) (na := 0) (As := []) (rest := []) (c_X8_thrown E am (S := M2) (r := M2.1 7) rfl) 0 mW_c0 rfl q_650 q_651 q_652 q_465 q_457 rfl (by decide +kernel) ⟨by decide +kernel, by decide +kernel⟩ rfl (Nat.le_of_ble_eq_true rfl) ⟨(by show _ ≤ 601024; omega), (by show _ ≤ 7293034; omega)⟩ dL_law_214 ?_
    refine J_perm (w1 := outC E ao g :: (cW E ad2 T2 ++ mW E am M2)) (List.perm_append_comm (l₂ := outC E ao g :: cW E ad2 T2)) ?_
    refine J_iload X (pc := 217) dL_law_217 1 rfl ?_
    refine J_icmp_eq X (pc := 219) 224 dL_law_219 (by decide) (fun _ => ?_) (fun c => absurd ht c)
    refine J_iload X (pc := 224) dL_law_224 1 rfl ?_
    refine J_if_ne X (pc := 226) 241 dL_law_226 (by decide) (fun _ => ?_) (fun c => absurd c (by decide))
    refine J_goto X (pc := 241) 1088 dL_law_241 (by decide) ?_
    refine J_sub [2, 3, 4, 5, 6] rfl ?_
    exact kk ad2 _ T2 M2 hr2 had2
  · skip
    refine J_aload_n X (pc := 176) dL_law_176 2 rfl ?_
    refine J_aload_n X (pc := 177) dL_law_177 1 rfl ?_
    refine J_iload X (pc := 178) dL_law_178 0 rfl ?_
    refine J_iconst X (pc := 180) (v := 1) dL_law_180 (by decide +kernel) ?_
    refine J_iadd X (pc := 181) dL_law_181 ?_
    refine J_sld X (pc := 182) S hi1 dL_law_182 ?_
    refine J_nmi ea1 ?_
    refine J_aload_n X (pc := 183) dL_law_183 1 rfl ?_
    refine J_iload X (pc := 184) dL_law_184 0 rfl ?_
    refine J_iconst X (pc := 186) (v := 2) dL_law_186 (by decide +kernel) ?_
    refine J_iadd X (pc := 187) dL_law_187 ?_
    refine J_sld X (pc := 188) S hi2 dL_law_188 ?_
    refine J_nmi ea2 ?_
    refine J_aload_n X (pc := 189) dL_law_189 4 rfl ?_
    refine J_callH (w1 := outC E ao g :: cW E ad T) (rw := mW E am M) X XX XN (pc := 190) (na := 4) (As := [.ref (ad.1 0), .int a1, .int a2, .ref ao]) (rest := []) (hx_setSize_2 E ad ao g hx) q_653 q_654 q_646 q_578 rfl (by decide +kernel) ⟨by decide +kernel, by decide +kernel⟩ rfl (Nat.le_of_ble_eq_true rfl) ⟨(by show _ ≤ 601024; omega), (by show _ ≤ 7293034; omega)⟩ dL_law_190 (fun ad2 had2 => ?_)
    refine J_istore X (pc := 193) (lv1 := [(5, .int 2), (4, .int i), (0, .ref b), (1, .ref (ad.1 0)), (2, .ref (am 0)), (3, .ref ao)]) dL_law_193 (by decide) rfl ?_
    refine J_aload_n X (pc := 195) dL_law_195 4 rfl ?_
    refine J_aload_n X (pc := 196) dL_law_196 2 rfl ?_
    refine J_iload X (pc := 197) dL_law_197 1 rfl ?_
    refine J_iconst X (pc := 199) (v := 1) dL_law_199 (by decide +kernel) ?_
    refine J_iadd X (pc := 200) dL_law_200 ?_
    refine J_sld X (pc := 201) S hi1 dL_law_201 ?_
    refine J_nmi ea1 ?_
    refine J_aload_n X (pc := 202) dL_law_202 2 rfl ?_
    refine J_iload X (pc := 203) dL_law_203 1 rfl ?_
    refine J_iconst X (pc := 205) (v := 2) dL_law_205 (by decide +kernel) ?_
    refine J_iadd X (pc := 206) dL_law_206 ?_
    refine J_sld X (pc := 207) S hi2 dL_law_207 ?_
    refine J_nmi ea2 ?_
    refine J_perm (w1 := mW E am M ++ (outC E ao g :: cW E ad2 T2)) (List.perm_append_comm (l₂ := mW E am M)) ?_
    refine J_callF0I X (pc := 208) (y := yX8_setSize) (na := 2) (As := [.int a1, .int a2]) (rest := []) (c_X8_setSize E am hm) 0 mW_c0 rfl q_655 q_656 q_657 q_465 q_471 rfl (by decide +kernel) ⟨by decide +kernel, by decide +kernel⟩ rfl (Nat.le_of_ble_eq_true rfl) ⟨(by show _ ≤ 601024; omega), (by show _ ≤ 7293034; omega)⟩ dL_law_208 ?_
    refine J_istore X (pc := 211) (lv1 := [(6, .int bb), (5, .int 2), (4, .int i), (0, .ref b), (1, .ref (ad.1 0)), (2, .ref (am 0)), (3, .ref ao)]) dL_law_211 (by decide) rfl ?_
    refine J_aload_n X (pc := 213) dL_law_213 5 rfl ?_
    refine J_callF0I X (pc := 214) (y := yX8_thrown) (na := 0) (As := []) (rest := []) (c_X8_thrown E am (S := M2) (r := M2.1 7) rfl) 0 mW_c0 rfl q_650 q_651 q_652 q_465 q_457 rfl (by decide +kernel) ⟨by decide +kernel, by decide +kernel⟩ rfl (Nat.le_of_ble_eq_true rfl) ⟨(by show _ ≤ 601024; omega), (by show _ ≤ 7293034; omega)⟩ dL_law_214 ?_
    refine J_perm (w1 := outC E ao g :: (cW E ad2 T2 ++ mW E am M2)) (List.perm_append_comm (l₂ := outC E ao g :: cW E ad2 T2)) ?_
    refine J_iload X (pc := 217) dL_law_217 1 rfl ?_
    refine J_icmp_eq X (pc := 219) 224 dL_law_219 (by decide) (fun _ => ?_) (fun c => absurd ht c)
    refine J_iload X (pc := 224) dL_law_224 1 rfl ?_
    refine J_if_ne X (pc := 226) 241 dL_law_226 (by decide) (fun _ => ?_) (fun c => absurd c (by decide))
    refine J_goto X (pc := 241) 1088 dL_law_241 (by decide) ?_
    refine J_sub [2, 3, 4, 5, 6] rfl ?_
    exact kk ad2 _ T2 M2 hr2 had2
  · skip
    refine J_aload_n X (pc := 176) dL_law_176 2 rfl ?_
    refine J_aload_n X (pc := 177) dL_law_177 1 rfl ?_
    refine J_iload X (pc := 178) dL_law_178 0 rfl ?_
    refine J_iconst X (pc := 180) (v := 1) dL_law_180 (by decide +kernel) ?_
    refine J_iadd X (pc := 181) dL_law_181 ?_
    refine J_sld X (pc := 182) S hi1 dL_law_182 ?_
    refine J_nmi ea1 ?_
    refine J_aload_n X (pc := 183) dL_law_183 1 rfl ?_
    refine J_iload X (pc := 184) dL_law_184 0 rfl ?_
    refine J_iconst X (pc := 186) (v := 2) dL_law_186 (by decide +kernel) ?_
    refine J_iadd X (pc := 187) dL_law_187 ?_
    refine J_sld X (pc := 188) S hi2 dL_law_188 ?_
    refine J_nmi ea2 ?_
    refine J_aload_n X (pc := 189) dL_law_189 4 rfl ?_
    refine J_callH (w1 := outC E ao g :: cW E ad T) (rw := mW E am M) X XX XN (pc := 190) (na := 4) (As := [.ref (ad.1 0), .int a1, .int a2, .ref ao]) (rest := []) (h_setSize E ad ao g hf) q_653 q_654 q_646 q_578 rfl (by decide +kernel) ⟨by decide +kernel, by decide +kernel⟩ rfl (Nat.le_of_ble_eq_true rfl) ⟨(by show _ ≤ 601024; omega), (by show _ ≤ 7293034; omega)⟩ dL_law_190 (fun ad2 had2 => ?_)
    refine J_istore X (pc := 193) (lv1 := [(5, .int 0), (4, .int i), (0, .ref b), (1, .ref (ad.1 0)), (2, .ref (am 0)), (3, .ref ao)]) dL_law_193 (by decide) rfl ?_
    refine J_aload_n X (pc := 195) dL_law_195 4 rfl ?_
    refine J_aload_n X (pc := 196) dL_law_196 2 rfl ?_
    refine J_iload X (pc := 197) dL_law_197 1 rfl ?_
    refine J_iconst X (pc := 199) (v := 1) dL_law_199 (by decide +kernel) ?_
    refine J_iadd X (pc := 200) dL_law_200 ?_
    refine J_sld X (pc := 201) S hi1 dL_law_201 ?_
    refine J_nmi ea1 ?_
    refine J_aload_n X (pc := 202) dL_law_202 2 rfl ?_
    refine J_iload X (pc := 203) dL_law_203 1 rfl ?_
    refine J_iconst X (pc := 205) (v := 2) dL_law_205 (by decide +kernel) ?_
    refine J_iadd X (pc := 206) dL_law_206 ?_
    refine J_sld X (pc := 207) S hi2 dL_law_207 ?_
    refine J_nmi ea2 ?_
    refine J_perm (w1 := mW E am M ++ (outC E ao (vp_updL g 0 bb.toInt64) :: cW E ad2 T2)) (List.perm_append_comm (l₂ := mW E am M)) ?_
    refine J_callF0I X (pc := 208) (y := yX8_setSize) (na := 2) (As := [.int a1, .int a2]) (rest := []) (c_X8_setSize E am hm) 0 mW_c0 rfl q_655 q_656 q_657 q_465 q_471 rfl (by decide +kernel) ⟨by decide +kernel, by decide +kernel⟩ rfl (Nat.le_of_ble_eq_true rfl) ⟨(by show _ ≤ 601024; omega), (by show _ ≤ 7293034; omega)⟩ dL_law_208 ?_
    refine J_istore X (pc := 211) (lv1 := [(6, .int bb), (5, .int 0), (4, .int i), (0, .ref b), (1, .ref (ad.1 0)), (2, .ref (am 0)), (3, .ref ao)]) dL_law_211 (by decide) rfl ?_
    refine J_aload_n X (pc := 213) dL_law_213 5 rfl ?_
    refine J_callF0I X (pc := 214) (y := yX8_thrown) (na := 0) (As := []) (rest := []) (c_X8_thrown E am (S := M2) (r := M2.1 7) rfl) 0 mW_c0 rfl q_650 q_651 q_652 q_465 q_457 rfl (by decide +kernel) ⟨by decide +kernel, by decide +kernel⟩ rfl (Nat.le_of_ble_eq_true rfl) ⟨(by show _ ≤ 601024; omega), (by show _ ≤ 7293034; omega)⟩ dL_law_214 ?_
    refine J_perm (w1 := outC E ao (vp_updL g 0 bb.toInt64) :: (cW E ad2 T2 ++ mW E am M2)) (List.perm_append_comm (l₂ := outC E ao (vp_updL g 0 bb.toInt64) :: cW E ad2 T2)) ?_
    refine J_iload X (pc := 217) dL_law_217 1 rfl ?_
    refine J_icmp_eq X (pc := 219) 224 dL_law_219 (by decide) (fun _ => ?_) (fun c => absurd ht c)
    refine J_iload X (pc := 224) dL_law_224 1 rfl ?_
    refine J_if_ne X (pc := 226) 241 dL_law_226 (by decide) (fun c => absurd rfl c) (fun _ => ?_)
    refine J_aload_n X (pc := 229) dL_law_229 6 rfl ?_
    refine J_iconst X (pc := 230) (v := 0) dL_law_230 (by decide +kernel) ?_
    refine J_lald X (pc := 231) 0 rfl ⟨by decide, by decide⟩ dL_law_231 ?_
    refine J_iload X (pc := 232) dL_law_232 0 rfl ?_
    refine J_i2l X (pc := 234) dL_law_234 ?_
    refine J_lcmp X (pc := 235) dL_law_235 ?_
    refine J_if_eq X (pc := 236) 241 dL_law_236 (by decide) (fun _ => ?_) (fun c => absurd (lg_self _ _ (updL0 g _)) c)
    refine J_goto X (pc := 241) 1088 dL_law_241 (by decide) ?_
    refine J_sub [2, 3, 4, 5, 6] rfl ?_
    exact kk ad2 _ T2 M2 hr2 had2
set_option maxRecDepth 100000 in
set_option maxHeartbeats 4000000 in
theorem law_sample {E : Ev} {x : Cx} {Rel : TS → St → Prop} {k n b NN ao : Nat} {xs : Nat → Int32} {i : Int32} {ad : CA} {am : Nat → Nat} {g : Nat → Int64} {T : TS} {M : St} {xr : Nat} (X : Ok E x cL_law RL room_1 7) (XX : OkX E x) (XN : OkN x) (S : OkS x b NN xs) (hxr : ad.1 0 = xr) (hk : k + 40 ≤ 601024 ∧ n + 1000 ≤ 7293034) (hr : Rel T M) (hi1 : inb (i + 1) NN) (hi2 : inb (i + 2) NN) {a1 : Int32} (ea1 : a1 = xs (i + 1).toNatClampNeg) {a2 : Int32} (ea2 : a2 = xs (i + 2).toNatClampNeg) (st : R_sample Rel) (kk : ∀ ad2 g2 T2 M2, Rel T2 M2 → ad2.1 0 = xr → J E x (k + 16) (n + 398) (outC E ao g2 :: (cW E ad2 T2 ++ mW E am M2)) 1088 [(4, .int i), (0, .ref b), (1, .ref xr), (2, .ref (am 0)), (3, .ref ao)] []) : J E x k n (outC E ao g :: (cW E ad T ++ mW E am M)) 244 [(4, .int i), (0, .ref b), (1, .ref xr), (2, .ref (am 0)), (3, .ref ao)] [] := by
  subst hxr
  obtain ⟨bb, M2, hm, hc⟩ := st T M a1 a2 hr
  simp only [ThrowAt, or_false] at hc
  rcases hc with (⟨T2, hx, ht, hr2⟩ | ⟨T2, hx, ht, hr2⟩) | ⟨T2, hf, ht, hr2⟩
  · skip
    refine J_aload_n X (pc := 244) dL_law_244 2 rfl ?_
    refine J_aload_n X (pc := 245) dL_law_245 1 rfl ?_
    refine J_iload X (pc := 246) dL_law_246 0 rfl ?_
    refine J_iconst X (pc := 248) (v := 1) dL_law_248 (by decide +kernel) ?_
    refine J_iadd X (pc := 249) dL_law_249 ?_
    refine J_sld X (pc := 250) S hi1 dL_law_250 ?_
    refine J_nmi ea1 ?_
    refine J_aload_n X (pc := 251) dL_law_251 1 rfl ?_
    refine J_iload X (pc := 252) dL_law_252 0 rfl ?_
    refine J_iconst X (pc := 254) (v := 2) dL_law_254 (by decide +kernel) ?_
    refine J_iadd X (pc := 255) dL_law_255 ?_
    refine J_sld X (pc := 256) S hi2 dL_law_256 ?_
    refine J_nmi ea2 ?_
    refine J_aload_n X (pc := 257) dL_law_257 4 rfl ?_
    refine J_callH (w1 := outC E ao g :: cW E ad T) (rw := mW E am M) X XX XN (pc := 258) (na := 4) (As := [.ref (ad.1 0), .int a1, .int a2, .ref ao]) (rest := []) (hx_sample_1 E ad ao g hx) q_658 q_659 q_646 q_582 rfl (by decide +kernel) ⟨by decide +kernel, by decide +kernel⟩ rfl (Nat.le_of_ble_eq_true rfl) ⟨(by show _ ≤ 601024; omega), (by show _ ≤ 7293034; omega)⟩ dL_law_258 (fun ad2 had2 => ?_)
    refine J_istore X (pc := 261) (lv1 := [(5, .int 1), (4, .int i), (0, .ref b), (1, .ref (ad.1 0)), (2, .ref (am 0)), (3, .ref ao)]) dL_law_261 (by decide) rfl ?_
    refine J_aload_n X (pc := 263) dL_law_263 4 rfl ?_
    refine J_aload_n X (pc := 264) dL_law_264 2 rfl ?_
    refine J_iload X (pc := 265) dL_law_265 1 rfl ?_
    refine J_iconst X (pc := 267) (v := 1) dL_law_267 (by decide +kernel) ?_
    refine J_iadd X (pc := 268) dL_law_268 ?_
    refine J_sld X (pc := 269) S hi1 dL_law_269 ?_
    refine J_nmi ea1 ?_
    refine J_aload_n X (pc := 270) dL_law_270 2 rfl ?_
    refine J_iload X (pc := 271) dL_law_271 1 rfl ?_
    refine J_iconst X (pc := 273) (v := 2) dL_law_273 (by decide +kernel) ?_
    refine J_iadd X (pc := 274) dL_law_274 ?_
    refine J_sld X (pc := 275) S hi2 dL_law_275 ?_
    refine J_nmi ea2 ?_
    refine J_perm (w1 := mW E am M ++ (outC E ao g :: cW E ad2 T2)) (List.perm_append_comm (l₂ := mW E am M)) ?_
    refine J_callF0I X (pc := 276) (y := yX8_sample) (na := 2) (As := [.int a1, .int a2]) (rest := []) (c_X8_sample E am hm) 0 mW_c0 rfl q_660 q_661 q_662 q_465 q_475 rfl (by decide +kernel) ⟨by decide +kernel, by decide +kernel⟩ rfl (Nat.le_of_ble_eq_true rfl) ⟨(by show _ ≤ 601024; omega), (by show _ ≤ 7293034; omega)⟩ dL_law_276 ?_
    refine J_istore X (pc := 279) (lv1 := [(6, .int bb), (5, .int 1), (4, .int i), (0, .ref b), (1, .ref (ad.1 0)), (2, .ref (am 0)), (3, .ref ao)]) dL_law_279 (by decide) rfl ?_
    refine J_aload_n X (pc := 281) dL_law_281 5 rfl ?_
    refine J_callF0I X (pc := 282) (y := yX8_thrown) (na := 0) (As := []) (rest := []) (c_X8_thrown E am (S := M2) (r := M2.1 7) rfl) 0 mW_c0 rfl q_650 q_651 q_652 q_465 q_457 rfl (by decide +kernel) ⟨by decide +kernel, by decide +kernel⟩ rfl (Nat.le_of_ble_eq_true rfl) ⟨(by show _ ≤ 601024; omega), (by show _ ≤ 7293034; omega)⟩ dL_law_282 ?_
    refine J_perm (w1 := outC E ao g :: (cW E ad2 T2 ++ mW E am M2)) (List.perm_append_comm (l₂ := outC E ao g :: cW E ad2 T2)) ?_
    refine J_iload X (pc := 285) dL_law_285 1 rfl ?_
    refine J_icmp_eq X (pc := 287) 292 dL_law_287 (by decide) (fun _ => ?_) (fun c => absurd ht c)
    refine J_iload X (pc := 292) dL_law_292 1 rfl ?_
    refine J_if_ne X (pc := 294) 309 dL_law_294 (by decide) (fun _ => ?_) (fun c => absurd c (by decide))
    refine J_goto X (pc := 309) 1088 dL_law_309 (by decide) ?_
    refine J_sub [2, 3, 4, 5, 6] rfl ?_
    exact kk ad2 _ T2 M2 hr2 had2
  · skip
    refine J_aload_n X (pc := 244) dL_law_244 2 rfl ?_
    refine J_aload_n X (pc := 245) dL_law_245 1 rfl ?_
    refine J_iload X (pc := 246) dL_law_246 0 rfl ?_
    refine J_iconst X (pc := 248) (v := 1) dL_law_248 (by decide +kernel) ?_
    refine J_iadd X (pc := 249) dL_law_249 ?_
    refine J_sld X (pc := 250) S hi1 dL_law_250 ?_
    refine J_nmi ea1 ?_
    refine J_aload_n X (pc := 251) dL_law_251 1 rfl ?_
    refine J_iload X (pc := 252) dL_law_252 0 rfl ?_
    refine J_iconst X (pc := 254) (v := 2) dL_law_254 (by decide +kernel) ?_
    refine J_iadd X (pc := 255) dL_law_255 ?_
    refine J_sld X (pc := 256) S hi2 dL_law_256 ?_
    refine J_nmi ea2 ?_
    refine J_aload_n X (pc := 257) dL_law_257 4 rfl ?_
    refine J_callH (w1 := outC E ao g :: cW E ad T) (rw := mW E am M) X XX XN (pc := 258) (na := 4) (As := [.ref (ad.1 0), .int a1, .int a2, .ref ao]) (rest := []) (hx_sample_2 E ad ao g hx) q_658 q_659 q_646 q_582 rfl (by decide +kernel) ⟨by decide +kernel, by decide +kernel⟩ rfl (Nat.le_of_ble_eq_true rfl) ⟨(by show _ ≤ 601024; omega), (by show _ ≤ 7293034; omega)⟩ dL_law_258 (fun ad2 had2 => ?_)
    refine J_istore X (pc := 261) (lv1 := [(5, .int 2), (4, .int i), (0, .ref b), (1, .ref (ad.1 0)), (2, .ref (am 0)), (3, .ref ao)]) dL_law_261 (by decide) rfl ?_
    refine J_aload_n X (pc := 263) dL_law_263 4 rfl ?_
    refine J_aload_n X (pc := 264) dL_law_264 2 rfl ?_
    refine J_iload X (pc := 265) dL_law_265 1 rfl ?_
    refine J_iconst X (pc := 267) (v := 1) dL_law_267 (by decide +kernel) ?_
    refine J_iadd X (pc := 268) dL_law_268 ?_
    refine J_sld X (pc := 269) S hi1 dL_law_269 ?_
    refine J_nmi ea1 ?_
    refine J_aload_n X (pc := 270) dL_law_270 2 rfl ?_
    refine J_iload X (pc := 271) dL_law_271 1 rfl ?_
    refine J_iconst X (pc := 273) (v := 2) dL_law_273 (by decide +kernel) ?_
    refine J_iadd X (pc := 274) dL_law_274 ?_
    refine J_sld X (pc := 275) S hi2 dL_law_275 ?_
    refine J_nmi ea2 ?_
    refine J_perm (w1 := mW E am M ++ (outC E ao g :: cW E ad2 T2)) (List.perm_append_comm (l₂ := mW E am M)) ?_
    refine J_callF0I X (pc := 276) (y := yX8_sample) (na := 2) (As := [.int a1, .int a2]) (rest := []) (c_X8_sample E am hm) 0 mW_c0 rfl q_660 q_661 q_662 q_465 q_475 rfl (by decide +kernel) ⟨by decide +kernel, by decide +kernel⟩ rfl (Nat.le_of_ble_eq_true rfl) ⟨(by show _ ≤ 601024; omega), (by show _ ≤ 7293034; omega)⟩ dL_law_276 ?_
    refine J_istore X (pc := 279) (lv1 := [(6, .int bb), (5, .int 2), (4, .int i), (0, .ref b), (1, .ref (ad.1 0)), (2, .ref (am 0)), (3, .ref ao)]) dL_law_279 (by decide) rfl ?_
    refine J_aload_n X (pc := 281) dL_law_281 5 rfl ?_
    refine J_callF0I X (pc := 282) (y := yX8_thrown) (na := 0) (As := []) (rest := []) (c_X8_thrown E am (S := M2) (r := M2.1 7) rfl) 0 mW_c0 rfl q_650 q_651 q_652 q_465 q_457 rfl (by decide +kernel) ⟨by decide +kernel, by decide +kernel⟩ rfl (Nat.le_of_ble_eq_true rfl) ⟨(by show _ ≤ 601024; omega), (by show _ ≤ 7293034; omega)⟩ dL_law_282 ?_
    refine J_perm (w1 := outC E ao g :: (cW E ad2 T2 ++ mW E am M2)) (List.perm_append_comm (l₂ := outC E ao g :: cW E ad2 T2)) ?_
    refine J_iload X (pc := 285) dL_law_285 1 rfl ?_
    refine J_icmp_eq X (pc := 287) 292 dL_law_287 (by decide) (fun _ => ?_) (fun c => absurd ht c)
    refine J_iload X (pc := 292) dL_law_292 1 rfl ?_
    refine J_if_ne X (pc := 294) 309 dL_law_294 (by decide) (fun _ => ?_) (fun c => absurd c (by decide))
    refine J_goto X (pc := 309) 1088 dL_law_309 (by decide) ?_
    refine J_sub [2, 3, 4, 5, 6] rfl ?_
    exact kk ad2 _ T2 M2 hr2 had2
  · skip
    refine J_aload_n X (pc := 244) dL_law_244 2 rfl ?_
    refine J_aload_n X (pc := 245) dL_law_245 1 rfl ?_
    refine J_iload X (pc := 246) dL_law_246 0 rfl ?_
    refine J_iconst X (pc := 248) (v := 1) dL_law_248 (by decide +kernel) ?_
    refine J_iadd X (pc := 249) dL_law_249 ?_
    refine J_sld X (pc := 250) S hi1 dL_law_250 ?_
    refine J_nmi ea1 ?_
    refine J_aload_n X (pc := 251) dL_law_251 1 rfl ?_
    refine J_iload X (pc := 252) dL_law_252 0 rfl ?_
    refine J_iconst X (pc := 254) (v := 2) dL_law_254 (by decide +kernel) ?_
    refine J_iadd X (pc := 255) dL_law_255 ?_
    refine J_sld X (pc := 256) S hi2 dL_law_256 ?_
    refine J_nmi ea2 ?_
    refine J_aload_n X (pc := 257) dL_law_257 4 rfl ?_
    refine J_callH (w1 := outC E ao g :: cW E ad T) (rw := mW E am M) X XX XN (pc := 258) (na := 4) (As := [.ref (ad.1 0), .int a1, .int a2, .ref ao]) (rest := []) (h_sample E ad ao g hf) q_658 q_659 q_646 q_582 rfl (by decide +kernel) ⟨by decide +kernel, by decide +kernel⟩ rfl (Nat.le_of_ble_eq_true rfl) ⟨(by show _ ≤ 601024; omega), (by show _ ≤ 7293034; omega)⟩ dL_law_258 (fun ad2 had2 => ?_)
    refine J_istore X (pc := 261) (lv1 := [(5, .int 0), (4, .int i), (0, .ref b), (1, .ref (ad.1 0)), (2, .ref (am 0)), (3, .ref ao)]) dL_law_261 (by decide) rfl ?_
    refine J_aload_n X (pc := 263) dL_law_263 4 rfl ?_
    refine J_aload_n X (pc := 264) dL_law_264 2 rfl ?_
    refine J_iload X (pc := 265) dL_law_265 1 rfl ?_
    refine J_iconst X (pc := 267) (v := 1) dL_law_267 (by decide +kernel) ?_
    refine J_iadd X (pc := 268) dL_law_268 ?_
    refine J_sld X (pc := 269) S hi1 dL_law_269 ?_
    refine J_nmi ea1 ?_
    refine J_aload_n X (pc := 270) dL_law_270 2 rfl ?_
    refine J_iload X (pc := 271) dL_law_271 1 rfl ?_
    refine J_iconst X (pc := 273) (v := 2) dL_law_273 (by decide +kernel) ?_
    refine J_iadd X (pc := 274) dL_law_274 ?_
    refine J_sld X (pc := 275) S hi2 dL_law_275 ?_
    refine J_nmi ea2 ?_
    refine J_perm (w1 := mW E am M ++ (outC E ao (vp_updL g 0 bb.toInt64) :: cW E ad2 T2)) (List.perm_append_comm (l₂ := mW E am M)) ?_
    refine J_callF0I X (pc := 276) (y := yX8_sample) (na := 2) (As := [.int a1, .int a2]) (rest := []) (c_X8_sample E am hm) 0 mW_c0 rfl q_660 q_661 q_662 q_465 q_475 rfl (by decide +kernel) ⟨by decide +kernel, by decide +kernel⟩ rfl (Nat.le_of_ble_eq_true rfl) ⟨(by show _ ≤ 601024; omega), (by show _ ≤ 7293034; omega)⟩ dL_law_276 ?_
    refine J_istore X (pc := 279) (lv1 := [(6, .int bb), (5, .int 0), (4, .int i), (0, .ref b), (1, .ref (ad.1 0)), (2, .ref (am 0)), (3, .ref ao)]) dL_law_279 (by decide) rfl ?_
    refine J_aload_n X (pc := 281) dL_law_281 5 rfl ?_
    refine J_callF0I X (pc := 282) (y := yX8_thrown) (na := 0) (As := []) (rest := []) (c_X8_thrown E am (S := M2) (r := M2.1 7) rfl) 0 mW_c0 rfl q_650 q_651 q_652 q_465 q_457 rfl (by decide +kernel) ⟨by decide +kernel, by decide +kernel⟩ rfl (Nat.le_of_ble_eq_true rfl) ⟨(by show _ ≤ 601024; omega), (by show _ ≤ 7293034; omega)⟩ dL_law_282 ?_
    refine J_perm (w1 := outC E ao (vp_updL g 0 bb.toInt64) :: (cW E ad2 T2 ++ mW E am M2)) (List.perm_append_comm (l₂ := outC E ao (vp_updL g 0 bb.toInt64) :: cW E ad2 T2)) ?_
    refine J_iload X (pc := 285) dL_law_285 1 rfl ?_
    refine J_icmp_eq X (pc := 287) 292 dL_law_287 (by decide) (fun _ => ?_) (fun c => absurd ht c)
    refine J_iload X (pc := 292) dL_law_292 1 rfl ?_
    refine J_if_ne X (pc := 294) 309 dL_law_294 (by decide) (fun c => absurd rfl c) (fun _ => ?_)
    refine J_aload_n X (pc := 297) dL_law_297 6 rfl ?_
    refine J_iconst X (pc := 298) (v := 0) dL_law_298 (by decide +kernel) ?_
    refine J_lald X (pc := 299) 0 rfl ⟨by decide, by decide⟩ dL_law_299 ?_
    refine J_iload X (pc := 300) dL_law_300 0 rfl ?_
    refine J_i2l X (pc := 302) dL_law_302 ?_
    refine J_lcmp X (pc := 303) dL_law_303 ?_
    refine J_if_eq X (pc := 304) 309 dL_law_304 (by decide) (fun _ => ?_) (fun c => absurd (lg_self _ _ (updL0 g _)) c)
    refine J_goto X (pc := 309) 1088 dL_law_309 (by decide) ?_
    refine J_sub [2, 3, 4, 5, 6] rfl ?_
    exact kk ad2 _ T2 M2 hr2 had2
set_option maxRecDepth 100000 in
set_option maxHeartbeats 4000000 in
theorem law_clean {E : Ev} {x : Cx} {Rel : TS → St → Prop} {k n b NN ao : Nat} {xs : Nat → Int32} {i : Int32} {ad : CA} {am : Nat → Nat} {g : Nat → Int64} {T : TS} {M : St} {xr : Nat} (X : Ok E x cL_law RL room_1 7) (XX : OkX E x) (XN : OkN x) (S : OkS x b NN xs) (hxr : ad.1 0 = xr) (hk : k + 40 ≤ 601024 ∧ n + 1000 ≤ 7293034) (hr : Rel T M) (hi1 : inb (i + 1) NN) (hi2 : inb (i + 2) NN) {a1 : Int32} (ea1 : a1 = xs (i + 1).toNatClampNeg) {a2 : Int32} (ea2 : a2 = xs (i + 2).toNatClampNeg) (st : R_clean Rel) (kk : ∀ ad2 g2 T2 M2, Rel T2 M2 → ad2.1 0 = xr → J E x (k + 16) (n + 398) (outC E ao g2 :: (cW E ad2 T2 ++ mW E am M2)) 1088 [(4, .int i), (0, .ref b), (1, .ref xr), (2, .ref (am 0)), (3, .ref ao)] []) : J E x k n (outC E ao g :: (cW E ad T ++ mW E am M)) 312 [(4, .int i), (0, .ref b), (1, .ref xr), (2, .ref (am 0)), (3, .ref ao)] [] := by
  subst hxr
  obtain ⟨bb, M2, hm, hc⟩ := st T M a1 a2 hr
  simp only [ThrowAt, or_false] at hc
  rcases hc with (⟨T2, hx, ht, hr2⟩ | ⟨T2, hx, ht, hr2⟩ | ⟨T2, hx, ht, hr2⟩) | ⟨T2, hf, ht, hr2⟩
  · skip
    refine J_aload_n X (pc := 312) dL_law_312 2 rfl ?_
    refine J_aload_n X (pc := 313) dL_law_313 1 rfl ?_
    refine J_iload X (pc := 314) dL_law_314 0 rfl ?_
    refine J_iconst X (pc := 316) (v := 1) dL_law_316 (by decide +kernel) ?_
    refine J_iadd X (pc := 317) dL_law_317 ?_
    refine J_sld X (pc := 318) S hi1 dL_law_318 ?_
    refine J_nmi ea1 ?_
    refine J_aload_n X (pc := 319) dL_law_319 1 rfl ?_
    refine J_iload X (pc := 320) dL_law_320 0 rfl ?_
    refine J_iconst X (pc := 322) (v := 2) dL_law_322 (by decide +kernel) ?_
    refine J_iadd X (pc := 323) dL_law_323 ?_
    refine J_sld X (pc := 324) S hi2 dL_law_324 ?_
    refine J_nmi ea2 ?_
    refine J_aload_n X (pc := 325) dL_law_325 4 rfl ?_
    refine J_callH (w1 := outC E ao g :: cW E ad T) (rw := mW E am M) X XX XN (pc := 326) (na := 4) (As := [.ref (ad.1 0), .int a1, .int a2, .ref ao]) (rest := []) (hx_clean_1 E ad ao g hx) q_663 q_664 q_646 q_586 rfl (by decide +kernel) ⟨by decide +kernel, by decide +kernel⟩ rfl (Nat.le_of_ble_eq_true rfl) ⟨(by show _ ≤ 601024; omega), (by show _ ≤ 7293034; omega)⟩ dL_law_326 (fun ad2 had2 => ?_)
    refine J_istore X (pc := 329) (lv1 := [(5, .int 1), (4, .int i), (0, .ref b), (1, .ref (ad.1 0)), (2, .ref (am 0)), (3, .ref ao)]) dL_law_329 (by decide) rfl ?_
    refine J_aload_n X (pc := 331) dL_law_331 4 rfl ?_
    refine J_aload_n X (pc := 332) dL_law_332 2 rfl ?_
    refine J_iload X (pc := 333) dL_law_333 1 rfl ?_
    refine J_iconst X (pc := 335) (v := 1) dL_law_335 (by decide +kernel) ?_
    refine J_iadd X (pc := 336) dL_law_336 ?_
    refine J_sld X (pc := 337) S hi1 dL_law_337 ?_
    refine J_nmi ea1 ?_
    refine J_aload_n X (pc := 338) dL_law_338 2 rfl ?_
    refine J_iload X (pc := 339) dL_law_339 1 rfl ?_
    refine J_iconst X (pc := 341) (v := 2) dL_law_341 (by decide +kernel) ?_
    refine J_iadd X (pc := 342) dL_law_342 ?_
    refine J_sld X (pc := 343) S hi2 dL_law_343 ?_
    refine J_nmi ea2 ?_
    refine J_perm (w1 := mW E am M ++ (outC E ao g :: cW E ad2 T2)) (List.perm_append_comm (l₂ := mW E am M)) ?_
    refine J_callF0I X (pc := 344) (y := yX8_clean) (na := 2) (As := [.int a1, .int a2]) (rest := []) (c_X8_clean E am hm) 0 mW_c0 rfl q_665 q_666 q_667 q_465 q_477 rfl (by decide +kernel) ⟨by decide +kernel, by decide +kernel⟩ rfl (Nat.le_of_ble_eq_true rfl) ⟨(by show _ ≤ 601024; omega), (by show _ ≤ 7293034; omega)⟩ dL_law_344 ?_
    refine J_istore X (pc := 347) (lv1 := [(6, .int bb), (5, .int 1), (4, .int i), (0, .ref b), (1, .ref (ad.1 0)), (2, .ref (am 0)), (3, .ref ao)]) dL_law_347 (by decide) rfl ?_
    refine J_aload_n X (pc := 349) dL_law_349 5 rfl ?_
    refine J_callF0I X (pc := 350) (y := yX8_thrown) (na := 0) (As := []) (rest := []) (c_X8_thrown E am (S := M2) (r := M2.1 7) rfl) 0 mW_c0 rfl q_650 q_651 q_652 q_465 q_457 rfl (by decide +kernel) ⟨by decide +kernel, by decide +kernel⟩ rfl (Nat.le_of_ble_eq_true rfl) ⟨(by show _ ≤ 601024; omega), (by show _ ≤ 7293034; omega)⟩ dL_law_350 ?_
    refine J_perm (w1 := outC E ao g :: (cW E ad2 T2 ++ mW E am M2)) (List.perm_append_comm (l₂ := outC E ao g :: cW E ad2 T2)) ?_
    refine J_iload X (pc := 353) dL_law_353 1 rfl ?_
    refine J_icmp_eq X (pc := 355) 360 dL_law_355 (by decide) (fun _ => ?_) (fun c => absurd ht c)
    refine J_iload X (pc := 360) dL_law_360 1 rfl ?_
    refine J_if_ne X (pc := 362) 377 dL_law_362 (by decide) (fun _ => ?_) (fun c => absurd c (by decide))
    refine J_goto X (pc := 377) 1088 dL_law_377 (by decide) ?_
    refine J_sub [2, 3, 4, 5, 6] rfl ?_
    exact kk ad2 _ T2 M2 hr2 had2
  · skip
    refine J_aload_n X (pc := 312) dL_law_312 2 rfl ?_
    refine J_aload_n X (pc := 313) dL_law_313 1 rfl ?_
    refine J_iload X (pc := 314) dL_law_314 0 rfl ?_
    refine J_iconst X (pc := 316) (v := 1) dL_law_316 (by decide +kernel) ?_
    refine J_iadd X (pc := 317) dL_law_317 ?_
    refine J_sld X (pc := 318) S hi1 dL_law_318 ?_
    refine J_nmi ea1 ?_
    refine J_aload_n X (pc := 319) dL_law_319 1 rfl ?_
    refine J_iload X (pc := 320) dL_law_320 0 rfl ?_
    refine J_iconst X (pc := 322) (v := 2) dL_law_322 (by decide +kernel) ?_
    refine J_iadd X (pc := 323) dL_law_323 ?_
    refine J_sld X (pc := 324) S hi2 dL_law_324 ?_
    refine J_nmi ea2 ?_
    refine J_aload_n X (pc := 325) dL_law_325 4 rfl ?_
    refine J_callH (w1 := outC E ao g :: cW E ad T) (rw := mW E am M) X XX XN (pc := 326) (na := 4) (As := [.ref (ad.1 0), .int a1, .int a2, .ref ao]) (rest := []) (hx_clean_2 E ad ao g hx) q_663 q_664 q_646 q_586 rfl (by decide +kernel) ⟨by decide +kernel, by decide +kernel⟩ rfl (Nat.le_of_ble_eq_true rfl) ⟨(by show _ ≤ 601024; omega), (by show _ ≤ 7293034; omega)⟩ dL_law_326 (fun ad2 had2 => ?_)
    refine J_istore X (pc := 329) (lv1 := [(5, .int 2), (4, .int i), (0, .ref b), (1, .ref (ad.1 0)), (2, .ref (am 0)), (3, .ref ao)]) dL_law_329 (by decide) rfl ?_
    refine J_aload_n X (pc := 331) dL_law_331 4 rfl ?_
    refine J_aload_n X (pc := 332) dL_law_332 2 rfl ?_
    refine J_iload X (pc := 333) dL_law_333 1 rfl ?_
    refine J_iconst X (pc := 335) (v := 1) dL_law_335 (by decide +kernel) ?_
    refine J_iadd X (pc := 336) dL_law_336 ?_
    refine J_sld X (pc := 337) S hi1 dL_law_337 ?_
    refine J_nmi ea1 ?_
    refine J_aload_n X (pc := 338) dL_law_338 2 rfl ?_
    refine J_iload X (pc := 339) dL_law_339 1 rfl ?_
    refine J_iconst X (pc := 341) (v := 2) dL_law_341 (by decide +kernel) ?_
    refine J_iadd X (pc := 342) dL_law_342 ?_
    refine J_sld X (pc := 343) S hi2 dL_law_343 ?_
    refine J_nmi ea2 ?_
    refine J_perm (w1 := mW E am M ++ (outC E ao g :: cW E ad2 T2)) (List.perm_append_comm (l₂ := mW E am M)) ?_
    refine J_callF0I X (pc := 344) (y := yX8_clean) (na := 2) (As := [.int a1, .int a2]) (rest := []) (c_X8_clean E am hm) 0 mW_c0 rfl q_665 q_666 q_667 q_465 q_477 rfl (by decide +kernel) ⟨by decide +kernel, by decide +kernel⟩ rfl (Nat.le_of_ble_eq_true rfl) ⟨(by show _ ≤ 601024; omega), (by show _ ≤ 7293034; omega)⟩ dL_law_344 ?_
    refine J_istore X (pc := 347) (lv1 := [(6, .int bb), (5, .int 2), (4, .int i), (0, .ref b), (1, .ref (ad.1 0)), (2, .ref (am 0)), (3, .ref ao)]) dL_law_347 (by decide) rfl ?_
    refine J_aload_n X (pc := 349) dL_law_349 5 rfl ?_
    refine J_callF0I X (pc := 350) (y := yX8_thrown) (na := 0) (As := []) (rest := []) (c_X8_thrown E am (S := M2) (r := M2.1 7) rfl) 0 mW_c0 rfl q_650 q_651 q_652 q_465 q_457 rfl (by decide +kernel) ⟨by decide +kernel, by decide +kernel⟩ rfl (Nat.le_of_ble_eq_true rfl) ⟨(by show _ ≤ 601024; omega), (by show _ ≤ 7293034; omega)⟩ dL_law_350 ?_
    refine J_perm (w1 := outC E ao g :: (cW E ad2 T2 ++ mW E am M2)) (List.perm_append_comm (l₂ := outC E ao g :: cW E ad2 T2)) ?_
    refine J_iload X (pc := 353) dL_law_353 1 rfl ?_
    refine J_icmp_eq X (pc := 355) 360 dL_law_355 (by decide) (fun _ => ?_) (fun c => absurd ht c)
    refine J_iload X (pc := 360) dL_law_360 1 rfl ?_
    refine J_if_ne X (pc := 362) 377 dL_law_362 (by decide) (fun _ => ?_) (fun c => absurd c (by decide))
    refine J_goto X (pc := 377) 1088 dL_law_377 (by decide) ?_
    refine J_sub [2, 3, 4, 5, 6] rfl ?_
    exact kk ad2 _ T2 M2 hr2 had2
  · skip
    refine J_aload_n X (pc := 312) dL_law_312 2 rfl ?_
    refine J_aload_n X (pc := 313) dL_law_313 1 rfl ?_
    refine J_iload X (pc := 314) dL_law_314 0 rfl ?_
    refine J_iconst X (pc := 316) (v := 1) dL_law_316 (by decide +kernel) ?_
    refine J_iadd X (pc := 317) dL_law_317 ?_
    refine J_sld X (pc := 318) S hi1 dL_law_318 ?_
    refine J_nmi ea1 ?_
    refine J_aload_n X (pc := 319) dL_law_319 1 rfl ?_
    refine J_iload X (pc := 320) dL_law_320 0 rfl ?_
    refine J_iconst X (pc := 322) (v := 2) dL_law_322 (by decide +kernel) ?_
    refine J_iadd X (pc := 323) dL_law_323 ?_
    refine J_sld X (pc := 324) S hi2 dL_law_324 ?_
    refine J_nmi ea2 ?_
    refine J_aload_n X (pc := 325) dL_law_325 4 rfl ?_
    refine J_callH (w1 := outC E ao g :: cW E ad T) (rw := mW E am M) X XX XN (pc := 326) (na := 4) (As := [.ref (ad.1 0), .int a1, .int a2, .ref ao]) (rest := []) (hx_clean_3 E ad ao g hx) q_663 q_664 q_646 q_586 rfl (by decide +kernel) ⟨by decide +kernel, by decide +kernel⟩ rfl (Nat.le_of_ble_eq_true rfl) ⟨(by show _ ≤ 601024; omega), (by show _ ≤ 7293034; omega)⟩ dL_law_326 (fun ad2 had2 => ?_)
    refine J_istore X (pc := 329) (lv1 := [(5, .int 3), (4, .int i), (0, .ref b), (1, .ref (ad.1 0)), (2, .ref (am 0)), (3, .ref ao)]) dL_law_329 (by decide) rfl ?_
    refine J_aload_n X (pc := 331) dL_law_331 4 rfl ?_
    refine J_aload_n X (pc := 332) dL_law_332 2 rfl ?_
    refine J_iload X (pc := 333) dL_law_333 1 rfl ?_
    refine J_iconst X (pc := 335) (v := 1) dL_law_335 (by decide +kernel) ?_
    refine J_iadd X (pc := 336) dL_law_336 ?_
    refine J_sld X (pc := 337) S hi1 dL_law_337 ?_
    refine J_nmi ea1 ?_
    refine J_aload_n X (pc := 338) dL_law_338 2 rfl ?_
    refine J_iload X (pc := 339) dL_law_339 1 rfl ?_
    refine J_iconst X (pc := 341) (v := 2) dL_law_341 (by decide +kernel) ?_
    refine J_iadd X (pc := 342) dL_law_342 ?_
    refine J_sld X (pc := 343) S hi2 dL_law_343 ?_
    refine J_nmi ea2 ?_
    refine J_perm (w1 := mW E am M ++ (outC E ao g :: cW E ad2 T2)) (List.perm_append_comm (l₂ := mW E am M)) ?_
    refine J_callF0I X (pc := 344) (y := yX8_clean) (na := 2) (As := [.int a1, .int a2]) (rest := []) (c_X8_clean E am hm) 0 mW_c0 rfl q_665 q_666 q_667 q_465 q_477 rfl (by decide +kernel) ⟨by decide +kernel, by decide +kernel⟩ rfl (Nat.le_of_ble_eq_true rfl) ⟨(by show _ ≤ 601024; omega), (by show _ ≤ 7293034; omega)⟩ dL_law_344 ?_
    refine J_istore X (pc := 347) (lv1 := [(6, .int bb), (5, .int 3), (4, .int i), (0, .ref b), (1, .ref (ad.1 0)), (2, .ref (am 0)), (3, .ref ao)]) dL_law_347 (by decide) rfl ?_
    refine J_aload_n X (pc := 349) dL_law_349 5 rfl ?_
    refine J_callF0I X (pc := 350) (y := yX8_thrown) (na := 0) (As := []) (rest := []) (c_X8_thrown E am (S := M2) (r := M2.1 7) rfl) 0 mW_c0 rfl q_650 q_651 q_652 q_465 q_457 rfl (by decide +kernel) ⟨by decide +kernel, by decide +kernel⟩ rfl (Nat.le_of_ble_eq_true rfl) ⟨(by show _ ≤ 601024; omega), (by show _ ≤ 7293034; omega)⟩ dL_law_350 ?_
    refine J_perm (w1 := outC E ao g :: (cW E ad2 T2 ++ mW E am M2)) (List.perm_append_comm (l₂ := outC E ao g :: cW E ad2 T2)) ?_
    refine J_iload X (pc := 353) dL_law_353 1 rfl ?_
    refine J_icmp_eq X (pc := 355) 360 dL_law_355 (by decide) (fun _ => ?_) (fun c => absurd ht c)
    refine J_iload X (pc := 360) dL_law_360 1 rfl ?_
    refine J_if_ne X (pc := 362) 377 dL_law_362 (by decide) (fun _ => ?_) (fun c => absurd c (by decide))
    refine J_goto X (pc := 377) 1088 dL_law_377 (by decide) ?_
    refine J_sub [2, 3, 4, 5, 6] rfl ?_
    exact kk ad2 _ T2 M2 hr2 had2
  · skip
    refine J_aload_n X (pc := 312) dL_law_312 2 rfl ?_
    refine J_aload_n X (pc := 313) dL_law_313 1 rfl ?_
    refine J_iload X (pc := 314) dL_law_314 0 rfl ?_
    refine J_iconst X (pc := 316) (v := 1) dL_law_316 (by decide +kernel) ?_
    refine J_iadd X (pc := 317) dL_law_317 ?_
    refine J_sld X (pc := 318) S hi1 dL_law_318 ?_
    refine J_nmi ea1 ?_
    refine J_aload_n X (pc := 319) dL_law_319 1 rfl ?_
    refine J_iload X (pc := 320) dL_law_320 0 rfl ?_
    refine J_iconst X (pc := 322) (v := 2) dL_law_322 (by decide +kernel) ?_
    refine J_iadd X (pc := 323) dL_law_323 ?_
    refine J_sld X (pc := 324) S hi2 dL_law_324 ?_
    refine J_nmi ea2 ?_
    refine J_aload_n X (pc := 325) dL_law_325 4 rfl ?_
    refine J_callH (w1 := outC E ao g :: cW E ad T) (rw := mW E am M) X XX XN (pc := 326) (na := 4) (As := [.ref (ad.1 0), .int a1, .int a2, .ref ao]) (rest := []) (h_clean E ad ao g hf) q_663 q_664 q_646 q_586 rfl (by decide +kernel) ⟨by decide +kernel, by decide +kernel⟩ rfl (Nat.le_of_ble_eq_true rfl) ⟨(by show _ ≤ 601024; omega), (by show _ ≤ 7293034; omega)⟩ dL_law_326 (fun ad2 had2 => ?_)
    refine J_istore X (pc := 329) (lv1 := [(5, .int 0), (4, .int i), (0, .ref b), (1, .ref (ad.1 0)), (2, .ref (am 0)), (3, .ref ao)]) dL_law_329 (by decide) rfl ?_
    refine J_aload_n X (pc := 331) dL_law_331 4 rfl ?_
    refine J_aload_n X (pc := 332) dL_law_332 2 rfl ?_
    refine J_iload X (pc := 333) dL_law_333 1 rfl ?_
    refine J_iconst X (pc := 335) (v := 1) dL_law_335 (by decide +kernel) ?_
    refine J_iadd X (pc := 336) dL_law_336 ?_
    refine J_sld X (pc := 337) S hi1 dL_law_337 ?_
    refine J_nmi ea1 ?_
    refine J_aload_n X (pc := 338) dL_law_338 2 rfl ?_
    refine J_iload X (pc := 339) dL_law_339 1 rfl ?_
    refine J_iconst X (pc := 341) (v := 2) dL_law_341 (by decide +kernel) ?_
    refine J_iadd X (pc := 342) dL_law_342 ?_
    refine J_sld X (pc := 343) S hi2 dL_law_343 ?_
    refine J_nmi ea2 ?_
    refine J_perm (w1 := mW E am M ++ (outC E ao (vp_updL g 0 bb.toInt64) :: cW E ad2 T2)) (List.perm_append_comm (l₂ := mW E am M)) ?_
    refine J_callF0I X (pc := 344) (y := yX8_clean) (na := 2) (As := [.int a1, .int a2]) (rest := []) (c_X8_clean E am hm) 0 mW_c0 rfl q_665 q_666 q_667 q_465 q_477 rfl (by decide +kernel) ⟨by decide +kernel, by decide +kernel⟩ rfl (Nat.le_of_ble_eq_true rfl) ⟨(by show _ ≤ 601024; omega), (by show _ ≤ 7293034; omega)⟩ dL_law_344 ?_
    refine J_istore X (pc := 347) (lv1 := [(6, .int bb), (5, .int 0), (4, .int i), (0, .ref b), (1, .ref (ad.1 0)), (2, .ref (am 0)), (3, .ref ao)]) dL_law_347 (by decide) rfl ?_
    refine J_aload_n X (pc := 349) dL_law_349 5 rfl ?_
    refine J_callF0I X (pc := 350) (y := yX8_thrown) (na := 0) (As := []) (rest := []) (c_X8_thrown E am (S := M2) (r := M2.1 7) rfl) 0 mW_c0 rfl q_650 q_651 q_652 q_465 q_457 rfl (by decide +kernel) ⟨by decide +kernel, by decide +kernel⟩ rfl (Nat.le_of_ble_eq_true rfl) ⟨(by show _ ≤ 601024; omega), (by show _ ≤ 7293034; omega)⟩ dL_law_350 ?_
    refine J_perm (w1 := outC E ao (vp_updL g 0 bb.toInt64) :: (cW E ad2 T2 ++ mW E am M2)) (List.perm_append_comm (l₂ := outC E ao (vp_updL g 0 bb.toInt64) :: cW E ad2 T2)) ?_
    refine J_iload X (pc := 353) dL_law_353 1 rfl ?_
    refine J_icmp_eq X (pc := 355) 360 dL_law_355 (by decide) (fun _ => ?_) (fun c => absurd ht c)
    refine J_iload X (pc := 360) dL_law_360 1 rfl ?_
    refine J_if_ne X (pc := 362) 377 dL_law_362 (by decide) (fun c => absurd rfl c) (fun _ => ?_)
    refine J_aload_n X (pc := 365) dL_law_365 6 rfl ?_
    refine J_iconst X (pc := 366) (v := 0) dL_law_366 (by decide +kernel) ?_
    refine J_lald X (pc := 367) 0 rfl ⟨by decide, by decide⟩ dL_law_367 ?_
    refine J_iload X (pc := 368) dL_law_368 0 rfl ?_
    refine J_i2l X (pc := 370) dL_law_370 ?_
    refine J_lcmp X (pc := 371) dL_law_371 ?_
    refine J_if_eq X (pc := 372) 377 dL_law_372 (by decide) (fun _ => ?_) (fun c => absurd (lg_self _ _ (updL0 g _)) c)
    refine J_goto X (pc := 377) 1088 dL_law_377 (by decide) ?_
    refine J_sub [2, 3, 4, 5, 6] rfl ?_
    exact kk ad2 _ T2 M2 hr2 had2
set_option maxRecDepth 100000 in
set_option maxHeartbeats 4000000 in
theorem law_setRule {E : Ev} {x : Cx} {Rel : TS → St → Prop} {k n b NN ao : Nat} {xs : Nat → Int32} {i : Int32} {ad : CA} {am : Nat → Nat} {g : Nat → Int64} {T : TS} {M : St} {xr : Nat} (X : Ok E x cL_law RL room_1 7) (XX : OkX E x) (XN : OkN x) (S : OkS x b NN xs) (hxr : ad.1 0 = xr) (hk : k + 40 ≤ 601024 ∧ n + 1000 ≤ 7293034) (hr : Rel T M) (hi1 : inb (i + 1) NN) (hi2 : inb (i + 2) NN) (hi3 : inb (i + 3) NN) {a1 : Int32} (ea1 : a1 = xs (i + 1).toNatClampNeg) {a2 : Int32} (ea2 : a2 = xs (i + 2).toNatClampNeg) {a3 : Int32} (ea3 : a3 = xs (i + 3).toNatClampNeg) (st : R_setRule Rel) (kk : ∀ ad2 g2 T2 M2, Rel T2 M2 → ad2.1 0 = xr → J E x (k + 16) (n + 398) (outC E ao g2 :: (cW E ad2 T2 ++ mW E am M2)) 1088 [(4, .int i), (0, .ref b), (1, .ref xr), (2, .ref (am 0)), (3, .ref ao)] []) : J E x k n (outC E ao g :: (cW E ad T ++ mW E am M)) 380 [(4, .int i), (0, .ref b), (1, .ref xr), (2, .ref (am 0)), (3, .ref ao)] [] := by
  subst hxr
  obtain ⟨M2, hm, hc⟩ := st T M a1 a2 a3 hr
  simp only [ThrowAt, or_false] at hc
  rcases hc with (⟨T2, hx, ht, hr2⟩ | ⟨T2, hx, ht, hr2⟩) | ⟨T2, hf, ht, hr2⟩
  · skip
    refine J_aload_n X (pc := 380) dL_law_380 2 rfl ?_
    refine J_aload_n X (pc := 381) dL_law_381 1 rfl ?_
    refine J_iload X (pc := 382) dL_law_382 0 rfl ?_
    refine J_iconst X (pc := 384) (v := 1) dL_law_384 (by decide +kernel) ?_
    refine J_iadd X (pc := 385) dL_law_385 ?_
    refine J_sld X (pc := 386) S hi1 dL_law_386 ?_
    refine J_nmi ea1 ?_
    refine J_aload_n X (pc := 387) dL_law_387 1 rfl ?_
    refine J_iload X (pc := 388) dL_law_388 0 rfl ?_
    refine J_iconst X (pc := 390) (v := 2) dL_law_390 (by decide +kernel) ?_
    refine J_iadd X (pc := 391) dL_law_391 ?_
    refine J_sld X (pc := 392) S hi2 dL_law_392 ?_
    refine J_nmi ea2 ?_
    refine J_aload_n X (pc := 393) dL_law_393 1 rfl ?_
    refine J_iload X (pc := 394) dL_law_394 0 rfl ?_
    refine J_iconst X (pc := 396) (v := 3) dL_law_396 (by decide +kernel) ?_
    refine J_iadd X (pc := 397) dL_law_397 ?_
    refine J_sld X (pc := 398) S hi3 dL_law_398 ?_
    refine J_nmi ea3 ?_
    refine J_callH (w1 := outC E ao g :: cW E ad T) (rw := mW E am M) X XX XN (pc := 399) (na := 4) (As := [.ref (ad.1 0), .int a1, .int a2, .int a3]) (rest := []) (hx_setRule_1 E ad ao g hx) q_668 q_669 q_646 q_590 rfl (by decide +kernel) ⟨by decide +kernel, by decide +kernel⟩ rfl (Nat.le_of_ble_eq_true rfl) ⟨(by show _ ≤ 601024; omega), (by show _ ≤ 7293034; omega)⟩ dL_law_399 (fun ad2 had2 => ?_)
    refine J_istore X (pc := 402) (lv1 := [(5, .int 1), (4, .int i), (0, .ref b), (1, .ref (ad.1 0)), (2, .ref (am 0)), (3, .ref ao)]) dL_law_402 (by decide) rfl ?_
    refine J_aload_n X (pc := 404) dL_law_404 4 rfl ?_
    refine J_aload_n X (pc := 405) dL_law_405 2 rfl ?_
    refine J_iload X (pc := 406) dL_law_406 1 rfl ?_
    refine J_iconst X (pc := 408) (v := 1) dL_law_408 (by decide +kernel) ?_
    refine J_iadd X (pc := 409) dL_law_409 ?_
    refine J_sld X (pc := 410) S hi1 dL_law_410 ?_
    refine J_nmi ea1 ?_
    refine J_aload_n X (pc := 411) dL_law_411 2 rfl ?_
    refine J_iload X (pc := 412) dL_law_412 1 rfl ?_
    refine J_iconst X (pc := 414) (v := 2) dL_law_414 (by decide +kernel) ?_
    refine J_iadd X (pc := 415) dL_law_415 ?_
    refine J_sld X (pc := 416) S hi2 dL_law_416 ?_
    refine J_nmi ea2 ?_
    refine J_aload_n X (pc := 417) dL_law_417 2 rfl ?_
    refine J_iload X (pc := 418) dL_law_418 1 rfl ?_
    refine J_iconst X (pc := 420) (v := 3) dL_law_420 (by decide +kernel) ?_
    refine J_iadd X (pc := 421) dL_law_421 ?_
    refine J_sld X (pc := 422) S hi3 dL_law_422 ?_
    refine J_nmi ea3 ?_
    refine J_perm (w1 := mW E am M ++ (outC E ao g :: cW E ad2 T2)) (List.perm_append_comm (l₂ := mW E am M)) ?_
    refine J_callF0V X (pc := 423) (y := yX8_setRule) (na := 3) (As := [.int a1, .int a2, .int a3]) (rest := []) (c_X8_setRule E am hm) 0 mW_c0 rfl q_670 q_671 q_672 q_465 q_479 rfl (by decide +kernel) ⟨by decide +kernel, by decide +kernel⟩ rfl (Nat.le_of_ble_eq_true rfl) ⟨(by show _ ≤ 601024; omega), (by show _ ≤ 7293034; omega)⟩ dL_law_423 ?_
    refine J_aload_n X (pc := 426) dL_law_426 4 rfl ?_
    refine J_callF0I X (pc := 427) (y := yX8_thrown) (na := 0) (As := []) (rest := []) (c_X8_thrown E am (S := M2) (r := M2.1 7) rfl) 0 mW_c0 rfl q_650 q_651 q_652 q_465 q_457 rfl (by decide +kernel) ⟨by decide +kernel, by decide +kernel⟩ rfl (Nat.le_of_ble_eq_true rfl) ⟨(by show _ ≤ 601024; omega), (by show _ ≤ 7293034; omega)⟩ dL_law_427 ?_
    refine J_perm (w1 := outC E ao g :: (cW E ad2 T2 ++ mW E am M2)) (List.perm_append_comm (l₂ := outC E ao g :: cW E ad2 T2)) ?_
    refine J_iload X (pc := 430) dL_law_430 0 rfl ?_
    refine J_icmp_eq X (pc := 432) 437 dL_law_432 (by decide) (fun _ => ?_) (fun c => absurd ht c)
    refine J_goto X (pc := 437) 1088 dL_law_437 (by decide) ?_
    refine J_sub [1, 2, 3, 4, 5] rfl ?_
    exact kk ad2 _ T2 M2 hr2 had2
  · skip
    refine J_aload_n X (pc := 380) dL_law_380 2 rfl ?_
    refine J_aload_n X (pc := 381) dL_law_381 1 rfl ?_
    refine J_iload X (pc := 382) dL_law_382 0 rfl ?_
    refine J_iconst X (pc := 384) (v := 1) dL_law_384 (by decide +kernel) ?_
    refine J_iadd X (pc := 385) dL_law_385 ?_
    refine J_sld X (pc := 386) S hi1 dL_law_386 ?_
    refine J_nmi ea1 ?_
    refine J_aload_n X (pc := 387) dL_law_387 1 rfl ?_
    refine J_iload X (pc := 388) dL_law_388 0 rfl ?_
    refine J_iconst X (pc := 390) (v := 2) dL_law_390 (by decide +kernel) ?_
    refine J_iadd X (pc := 391) dL_law_391 ?_
    refine J_sld X (pc := 392) S hi2 dL_law_392 ?_
    refine J_nmi ea2 ?_
    refine J_aload_n X (pc := 393) dL_law_393 1 rfl ?_
    refine J_iload X (pc := 394) dL_law_394 0 rfl ?_
    refine J_iconst X (pc := 396) (v := 3) dL_law_396 (by decide +kernel) ?_
    refine J_iadd X (pc := 397) dL_law_397 ?_
    refine J_sld X (pc := 398) S hi3 dL_law_398 ?_
    refine J_nmi ea3 ?_
    refine J_callH (w1 := outC E ao g :: cW E ad T) (rw := mW E am M) X XX XN (pc := 399) (na := 4) (As := [.ref (ad.1 0), .int a1, .int a2, .int a3]) (rest := []) (hx_setRule_2 E ad ao g hx) q_668 q_669 q_646 q_590 rfl (by decide +kernel) ⟨by decide +kernel, by decide +kernel⟩ rfl (Nat.le_of_ble_eq_true rfl) ⟨(by show _ ≤ 601024; omega), (by show _ ≤ 7293034; omega)⟩ dL_law_399 (fun ad2 had2 => ?_)
    refine J_istore X (pc := 402) (lv1 := [(5, .int 2), (4, .int i), (0, .ref b), (1, .ref (ad.1 0)), (2, .ref (am 0)), (3, .ref ao)]) dL_law_402 (by decide) rfl ?_
    refine J_aload_n X (pc := 404) dL_law_404 4 rfl ?_
    refine J_aload_n X (pc := 405) dL_law_405 2 rfl ?_
    refine J_iload X (pc := 406) dL_law_406 1 rfl ?_
    refine J_iconst X (pc := 408) (v := 1) dL_law_408 (by decide +kernel) ?_
    refine J_iadd X (pc := 409) dL_law_409 ?_
    refine J_sld X (pc := 410) S hi1 dL_law_410 ?_
    refine J_nmi ea1 ?_
    refine J_aload_n X (pc := 411) dL_law_411 2 rfl ?_
    refine J_iload X (pc := 412) dL_law_412 1 rfl ?_
    refine J_iconst X (pc := 414) (v := 2) dL_law_414 (by decide +kernel) ?_
    refine J_iadd X (pc := 415) dL_law_415 ?_
    refine J_sld X (pc := 416) S hi2 dL_law_416 ?_
    refine J_nmi ea2 ?_
    refine J_aload_n X (pc := 417) dL_law_417 2 rfl ?_
    refine J_iload X (pc := 418) dL_law_418 1 rfl ?_
    refine J_iconst X (pc := 420) (v := 3) dL_law_420 (by decide +kernel) ?_
    refine J_iadd X (pc := 421) dL_law_421 ?_
    refine J_sld X (pc := 422) S hi3 dL_law_422 ?_
    refine J_nmi ea3 ?_
    refine J_perm (w1 := mW E am M ++ (outC E ao g :: cW E ad2 T2)) (List.perm_append_comm (l₂ := mW E am M)) ?_
    refine J_callF0V X (pc := 423) (y := yX8_setRule) (na := 3) (As := [.int a1, .int a2, .int a3]) (rest := []) (c_X8_setRule E am hm) 0 mW_c0 rfl q_670 q_671 q_672 q_465 q_479 rfl (by decide +kernel) ⟨by decide +kernel, by decide +kernel⟩ rfl (Nat.le_of_ble_eq_true rfl) ⟨(by show _ ≤ 601024; omega), (by show _ ≤ 7293034; omega)⟩ dL_law_423 ?_
    refine J_aload_n X (pc := 426) dL_law_426 4 rfl ?_
    refine J_callF0I X (pc := 427) (y := yX8_thrown) (na := 0) (As := []) (rest := []) (c_X8_thrown E am (S := M2) (r := M2.1 7) rfl) 0 mW_c0 rfl q_650 q_651 q_652 q_465 q_457 rfl (by decide +kernel) ⟨by decide +kernel, by decide +kernel⟩ rfl (Nat.le_of_ble_eq_true rfl) ⟨(by show _ ≤ 601024; omega), (by show _ ≤ 7293034; omega)⟩ dL_law_427 ?_
    refine J_perm (w1 := outC E ao g :: (cW E ad2 T2 ++ mW E am M2)) (List.perm_append_comm (l₂ := outC E ao g :: cW E ad2 T2)) ?_
    refine J_iload X (pc := 430) dL_law_430 0 rfl ?_
    refine J_icmp_eq X (pc := 432) 437 dL_law_432 (by decide) (fun _ => ?_) (fun c => absurd ht c)
    refine J_goto X (pc := 437) 1088 dL_law_437 (by decide) ?_
    refine J_sub [1, 2, 3, 4, 5] rfl ?_
    exact kk ad2 _ T2 M2 hr2 had2
  · skip
    refine J_aload_n X (pc := 380) dL_law_380 2 rfl ?_
    refine J_aload_n X (pc := 381) dL_law_381 1 rfl ?_
    refine J_iload X (pc := 382) dL_law_382 0 rfl ?_
    refine J_iconst X (pc := 384) (v := 1) dL_law_384 (by decide +kernel) ?_
    refine J_iadd X (pc := 385) dL_law_385 ?_
    refine J_sld X (pc := 386) S hi1 dL_law_386 ?_
    refine J_nmi ea1 ?_
    refine J_aload_n X (pc := 387) dL_law_387 1 rfl ?_
    refine J_iload X (pc := 388) dL_law_388 0 rfl ?_
    refine J_iconst X (pc := 390) (v := 2) dL_law_390 (by decide +kernel) ?_
    refine J_iadd X (pc := 391) dL_law_391 ?_
    refine J_sld X (pc := 392) S hi2 dL_law_392 ?_
    refine J_nmi ea2 ?_
    refine J_aload_n X (pc := 393) dL_law_393 1 rfl ?_
    refine J_iload X (pc := 394) dL_law_394 0 rfl ?_
    refine J_iconst X (pc := 396) (v := 3) dL_law_396 (by decide +kernel) ?_
    refine J_iadd X (pc := 397) dL_law_397 ?_
    refine J_sld X (pc := 398) S hi3 dL_law_398 ?_
    refine J_nmi ea3 ?_
    refine J_callH (w1 := outC E ao g :: cW E ad T) (rw := mW E am M) X XX XN (pc := 399) (na := 4) (As := [.ref (ad.1 0), .int a1, .int a2, .int a3]) (rest := []) (h_setRule E ad ao g hf) q_668 q_669 q_646 q_590 rfl (by decide +kernel) ⟨by decide +kernel, by decide +kernel⟩ rfl (Nat.le_of_ble_eq_true rfl) ⟨(by show _ ≤ 601024; omega), (by show _ ≤ 7293034; omega)⟩ dL_law_399 (fun ad2 had2 => ?_)
    refine J_istore X (pc := 402) (lv1 := [(5, .int 0), (4, .int i), (0, .ref b), (1, .ref (ad.1 0)), (2, .ref (am 0)), (3, .ref ao)]) dL_law_402 (by decide) rfl ?_
    refine J_aload_n X (pc := 404) dL_law_404 4 rfl ?_
    refine J_aload_n X (pc := 405) dL_law_405 2 rfl ?_
    refine J_iload X (pc := 406) dL_law_406 1 rfl ?_
    refine J_iconst X (pc := 408) (v := 1) dL_law_408 (by decide +kernel) ?_
    refine J_iadd X (pc := 409) dL_law_409 ?_
    refine J_sld X (pc := 410) S hi1 dL_law_410 ?_
    refine J_nmi ea1 ?_
    refine J_aload_n X (pc := 411) dL_law_411 2 rfl ?_
    refine J_iload X (pc := 412) dL_law_412 1 rfl ?_
    refine J_iconst X (pc := 414) (v := 2) dL_law_414 (by decide +kernel) ?_
    refine J_iadd X (pc := 415) dL_law_415 ?_
    refine J_sld X (pc := 416) S hi2 dL_law_416 ?_
    refine J_nmi ea2 ?_
    refine J_aload_n X (pc := 417) dL_law_417 2 rfl ?_
    refine J_iload X (pc := 418) dL_law_418 1 rfl ?_
    refine J_iconst X (pc := 420) (v := 3) dL_law_420 (by decide +kernel) ?_
    refine J_iadd X (pc := 421) dL_law_421 ?_
    refine J_sld X (pc := 422) S hi3 dL_law_422 ?_
    refine J_nmi ea3 ?_
    refine J_perm (w1 := mW E am M ++ (outC E ao g :: cW E ad2 T2)) (List.perm_append_comm (l₂ := mW E am M)) ?_
    refine J_callF0V X (pc := 423) (y := yX8_setRule) (na := 3) (As := [.int a1, .int a2, .int a3]) (rest := []) (c_X8_setRule E am hm) 0 mW_c0 rfl q_670 q_671 q_672 q_465 q_479 rfl (by decide +kernel) ⟨by decide +kernel, by decide +kernel⟩ rfl (Nat.le_of_ble_eq_true rfl) ⟨(by show _ ≤ 601024; omega), (by show _ ≤ 7293034; omega)⟩ dL_law_423 ?_
    refine J_aload_n X (pc := 426) dL_law_426 4 rfl ?_
    refine J_callF0I X (pc := 427) (y := yX8_thrown) (na := 0) (As := []) (rest := []) (c_X8_thrown E am (S := M2) (r := M2.1 7) rfl) 0 mW_c0 rfl q_650 q_651 q_652 q_465 q_457 rfl (by decide +kernel) ⟨by decide +kernel, by decide +kernel⟩ rfl (Nat.le_of_ble_eq_true rfl) ⟨(by show _ ≤ 601024; omega), (by show _ ≤ 7293034; omega)⟩ dL_law_427 ?_
    refine J_perm (w1 := outC E ao g :: (cW E ad2 T2 ++ mW E am M2)) (List.perm_append_comm (l₂ := outC E ao g :: cW E ad2 T2)) ?_
    refine J_iload X (pc := 430) dL_law_430 0 rfl ?_
    refine J_icmp_eq X (pc := 432) 437 dL_law_432 (by decide) (fun _ => ?_) (fun c => absurd ht c)
    refine J_goto X (pc := 437) 1088 dL_law_437 (by decide) ?_
    refine J_sub [1, 2, 3, 4, 5] rfl ?_
    exact kk ad2 _ T2 M2 hr2 had2
set_option maxRecDepth 100000 in
set_option maxHeartbeats 4000000 in
theorem law_pass {E : Ev} {x : Cx} {Rel : TS → St → Prop} {k n b NN ao : Nat} {xs : Nat → Int32} {i : Int32} {ad : CA} {am : Nat → Nat} {g : Nat → Int64} {T : TS} {M : St} {xr : Nat} (X : Ok E x cL_law RL room_1 7) (XX : OkX E x) (XN : OkN x) (S : OkS x b NN xs) (hxr : ad.1 0 = xr) (hk : k + 40 ≤ 601024 ∧ n + 1000 ≤ 7293034) (hr : Rel T M) (hi1 : inb (i + 1) NN) {a1 : Int32} (ea1 : a1 = xs (i + 1).toNatClampNeg) (st : R_pass Rel) (kk : ∀ ad2 g2 T2 M2, Rel T2 M2 → ad2.1 0 = xr → J E x (k + 16) (n + 398) (outC E ao g2 :: (cW E ad2 T2 ++ mW E am M2)) 1088 [(4, .int i), (0, .ref b), (1, .ref xr), (2, .ref (am 0)), (3, .ref ao)] []) : J E x k n (outC E ao g :: (cW E ad T ++ mW E am M)) 440 [(4, .int i), (0, .ref b), (1, .ref xr), (2, .ref (am 0)), (3, .ref ao)] [] := by
  subst hxr
  obtain ⟨bb, M2, hm, hc⟩ := st T M a1 hr
  simp only [ThrowAt, or_false] at hc
  rcases hc with (⟨T2, hx, ht, hr2⟩ | ⟨T2, hx, ht, hr2⟩) | ⟨T2, hf, ht, hr2⟩
  · skip
    refine J_aload_n X (pc := 440) dL_law_440 2 rfl ?_
    refine J_aload_n X (pc := 441) dL_law_441 1 rfl ?_
    refine J_iload X (pc := 442) dL_law_442 0 rfl ?_
    refine J_iconst X (pc := 444) (v := 1) dL_law_444 (by decide +kernel) ?_
    refine J_iadd X (pc := 445) dL_law_445 ?_
    refine J_sld X (pc := 446) S hi1 dL_law_446 ?_
    refine J_nmi ea1 ?_
    refine J_aload_n X (pc := 447) dL_law_447 4 rfl ?_
    refine J_callH (w1 := outC E ao g :: cW E ad T) (rw := mW E am M) X XX XN (pc := 448) (na := 3) (As := [.ref (ad.1 0), .int a1, .ref ao]) (rest := []) (hx_pass_1 E ad ao g hx) q_673 q_674 q_646 q_594 rfl (by decide +kernel) ⟨by decide +kernel, by decide +kernel⟩ rfl (Nat.le_of_ble_eq_true rfl) ⟨(by show _ ≤ 601024; omega), (by show _ ≤ 7293034; omega)⟩ dL_law_448 (fun ad2 had2 => ?_)
    refine J_istore X (pc := 451) (lv1 := [(5, .int 1), (4, .int i), (0, .ref b), (1, .ref (ad.1 0)), (2, .ref (am 0)), (3, .ref ao)]) dL_law_451 (by decide) rfl ?_
    refine J_aload_n X (pc := 453) dL_law_453 4 rfl ?_
    refine J_aload_n X (pc := 454) dL_law_454 2 rfl ?_
    refine J_iload X (pc := 455) dL_law_455 1 rfl ?_
    refine J_iconst X (pc := 457) (v := 1) dL_law_457 (by decide +kernel) ?_
    refine J_iadd X (pc := 458) dL_law_458 ?_
    refine J_sld X (pc := 459) S hi1 dL_law_459 ?_
    refine J_nmi ea1 ?_
    refine J_perm (w1 := mW E am M ++ (outC E ao g :: cW E ad2 T2)) (List.perm_append_comm (l₂ := mW E am M)) ?_
    refine J_callF0I X (pc := 460) (y := yX8_pass) (na := 1) (As := [.int a1]) (rest := []) (c_X8_pass E am hm) 0 mW_c0 rfl q_675 q_676 q_677 q_465 q_532 rfl (by decide +kernel) ⟨by decide +kernel, by decide +kernel⟩ rfl (Nat.le_of_ble_eq_true rfl) ⟨(by show _ ≤ 601024; omega), (by show _ ≤ 7293034; omega)⟩ dL_law_460 ?_
    refine J_istore X (pc := 463) (lv1 := [(6, .int bb), (5, .int 1), (4, .int i), (0, .ref b), (1, .ref (ad.1 0)), (2, .ref (am 0)), (3, .ref ao)]) dL_law_463 (by decide) rfl ?_
    refine J_aload_n X (pc := 465) dL_law_465 5 rfl ?_
    refine J_callF0I X (pc := 466) (y := yX8_thrown) (na := 0) (As := []) (rest := []) (c_X8_thrown E am (S := M2) (r := M2.1 7) rfl) 0 mW_c0 rfl q_650 q_651 q_652 q_465 q_457 rfl (by decide +kernel) ⟨by decide +kernel, by decide +kernel⟩ rfl (Nat.le_of_ble_eq_true rfl) ⟨(by show _ ≤ 601024; omega), (by show _ ≤ 7293034; omega)⟩ dL_law_466 ?_
    refine J_perm (w1 := outC E ao g :: (cW E ad2 T2 ++ mW E am M2)) (List.perm_append_comm (l₂ := outC E ao g :: cW E ad2 T2)) ?_
    refine J_iload X (pc := 469) dL_law_469 1 rfl ?_
    refine J_icmp_eq X (pc := 471) 476 dL_law_471 (by decide) (fun _ => ?_) (fun c => absurd ht c)
    refine J_iload X (pc := 476) dL_law_476 1 rfl ?_
    refine J_if_ne X (pc := 478) 493 dL_law_478 (by decide) (fun _ => ?_) (fun c => absurd c (by decide))
    refine J_goto X (pc := 493) 1088 dL_law_493 (by decide) ?_
    refine J_sub [2, 3, 4, 5, 6] rfl ?_
    exact kk ad2 _ T2 M2 hr2 had2
  · skip
    refine J_aload_n X (pc := 440) dL_law_440 2 rfl ?_
    refine J_aload_n X (pc := 441) dL_law_441 1 rfl ?_
    refine J_iload X (pc := 442) dL_law_442 0 rfl ?_
    refine J_iconst X (pc := 444) (v := 1) dL_law_444 (by decide +kernel) ?_
    refine J_iadd X (pc := 445) dL_law_445 ?_
    refine J_sld X (pc := 446) S hi1 dL_law_446 ?_
    refine J_nmi ea1 ?_
    refine J_aload_n X (pc := 447) dL_law_447 4 rfl ?_
    refine J_callH (w1 := outC E ao g :: cW E ad T) (rw := mW E am M) X XX XN (pc := 448) (na := 3) (As := [.ref (ad.1 0), .int a1, .ref ao]) (rest := []) (hx_pass_2 E ad ao g hx) q_673 q_674 q_646 q_594 rfl (by decide +kernel) ⟨by decide +kernel, by decide +kernel⟩ rfl (Nat.le_of_ble_eq_true rfl) ⟨(by show _ ≤ 601024; omega), (by show _ ≤ 7293034; omega)⟩ dL_law_448 (fun ad2 had2 => ?_)
    refine J_istore X (pc := 451) (lv1 := [(5, .int 2), (4, .int i), (0, .ref b), (1, .ref (ad.1 0)), (2, .ref (am 0)), (3, .ref ao)]) dL_law_451 (by decide) rfl ?_
    refine J_aload_n X (pc := 453) dL_law_453 4 rfl ?_
    refine J_aload_n X (pc := 454) dL_law_454 2 rfl ?_
    refine J_iload X (pc := 455) dL_law_455 1 rfl ?_
    refine J_iconst X (pc := 457) (v := 1) dL_law_457 (by decide +kernel) ?_
    refine J_iadd X (pc := 458) dL_law_458 ?_
    refine J_sld X (pc := 459) S hi1 dL_law_459 ?_
    refine J_nmi ea1 ?_
    refine J_perm (w1 := mW E am M ++ (outC E ao g :: cW E ad2 T2)) (List.perm_append_comm (l₂ := mW E am M)) ?_
    refine J_callF0I X (pc := 460) (y := yX8_pass) (na := 1) (As := [.int a1]) (rest := []) (c_X8_pass E am hm) 0 mW_c0 rfl q_675 q_676 q_677 q_465 q_532 rfl (by decide +kernel) ⟨by decide +kernel, by decide +kernel⟩ rfl (Nat.le_of_ble_eq_true rfl) ⟨(by show _ ≤ 601024; omega), (by show _ ≤ 7293034; omega)⟩ dL_law_460 ?_
    refine J_istore X (pc := 463) (lv1 := [(6, .int bb), (5, .int 2), (4, .int i), (0, .ref b), (1, .ref (ad.1 0)), (2, .ref (am 0)), (3, .ref ao)]) dL_law_463 (by decide) rfl ?_
    refine J_aload_n X (pc := 465) dL_law_465 5 rfl ?_
    refine J_callF0I X (pc := 466) (y := yX8_thrown) (na := 0) (As := []) (rest := []) (c_X8_thrown E am (S := M2) (r := M2.1 7) rfl) 0 mW_c0 rfl q_650 q_651 q_652 q_465 q_457 rfl (by decide +kernel) ⟨by decide +kernel, by decide +kernel⟩ rfl (Nat.le_of_ble_eq_true rfl) ⟨(by show _ ≤ 601024; omega), (by show _ ≤ 7293034; omega)⟩ dL_law_466 ?_
    refine J_perm (w1 := outC E ao g :: (cW E ad2 T2 ++ mW E am M2)) (List.perm_append_comm (l₂ := outC E ao g :: cW E ad2 T2)) ?_
    refine J_iload X (pc := 469) dL_law_469 1 rfl ?_
    refine J_icmp_eq X (pc := 471) 476 dL_law_471 (by decide) (fun _ => ?_) (fun c => absurd ht c)
    refine J_iload X (pc := 476) dL_law_476 1 rfl ?_
    refine J_if_ne X (pc := 478) 493 dL_law_478 (by decide) (fun _ => ?_) (fun c => absurd c (by decide))
    refine J_goto X (pc := 493) 1088 dL_law_493 (by decide) ?_
    refine J_sub [2, 3, 4, 5, 6] rfl ?_
    exact kk ad2 _ T2 M2 hr2 had2
  · skip
    refine J_aload_n X (pc := 440) dL_law_440 2 rfl ?_
    refine J_aload_n X (pc := 441) dL_law_441 1 rfl ?_
    refine J_iload X (pc := 442) dL_law_442 0 rfl ?_
    refine J_iconst X (pc := 444) (v := 1) dL_law_444 (by decide +kernel) ?_
    refine J_iadd X (pc := 445) dL_law_445 ?_
    refine J_sld X (pc := 446) S hi1 dL_law_446 ?_
    refine J_nmi ea1 ?_
    refine J_aload_n X (pc := 447) dL_law_447 4 rfl ?_
    refine J_callH (w1 := outC E ao g :: cW E ad T) (rw := mW E am M) X XX XN (pc := 448) (na := 3) (As := [.ref (ad.1 0), .int a1, .ref ao]) (rest := []) (h_pass E ad ao g hf) q_673 q_674 q_646 q_594 rfl (by decide +kernel) ⟨by decide +kernel, by decide +kernel⟩ rfl (Nat.le_of_ble_eq_true rfl) ⟨(by show _ ≤ 601024; omega), (by show _ ≤ 7293034; omega)⟩ dL_law_448 (fun ad2 had2 => ?_)
    refine J_istore X (pc := 451) (lv1 := [(5, .int 0), (4, .int i), (0, .ref b), (1, .ref (ad.1 0)), (2, .ref (am 0)), (3, .ref ao)]) dL_law_451 (by decide) rfl ?_
    refine J_aload_n X (pc := 453) dL_law_453 4 rfl ?_
    refine J_aload_n X (pc := 454) dL_law_454 2 rfl ?_
    refine J_iload X (pc := 455) dL_law_455 1 rfl ?_
    refine J_iconst X (pc := 457) (v := 1) dL_law_457 (by decide +kernel) ?_
    refine J_iadd X (pc := 458) dL_law_458 ?_
    refine J_sld X (pc := 459) S hi1 dL_law_459 ?_
    refine J_nmi ea1 ?_
    refine J_perm (w1 := mW E am M ++ (outC E ao (vp_updL g 0 bb.toInt64) :: cW E ad2 T2)) (List.perm_append_comm (l₂ := mW E am M)) ?_
    refine J_callF0I X (pc := 460) (y := yX8_pass) (na := 1) (As := [.int a1]) (rest := []) (c_X8_pass E am hm) 0 mW_c0 rfl q_675 q_676 q_677 q_465 q_532 rfl (by decide +kernel) ⟨by decide +kernel, by decide +kernel⟩ rfl (Nat.le_of_ble_eq_true rfl) ⟨(by show _ ≤ 601024; omega), (by show _ ≤ 7293034; omega)⟩ dL_law_460 ?_
    refine J_istore X (pc := 463) (lv1 := [(6, .int bb), (5, .int 0), (4, .int i), (0, .ref b), (1, .ref (ad.1 0)), (2, .ref (am 0)), (3, .ref ao)]) dL_law_463 (by decide) rfl ?_
    refine J_aload_n X (pc := 465) dL_law_465 5 rfl ?_
    refine J_callF0I X (pc := 466) (y := yX8_thrown) (na := 0) (As := []) (rest := []) (c_X8_thrown E am (S := M2) (r := M2.1 7) rfl) 0 mW_c0 rfl q_650 q_651 q_652 q_465 q_457 rfl (by decide +kernel) ⟨by decide +kernel, by decide +kernel⟩ rfl (Nat.le_of_ble_eq_true rfl) ⟨(by show _ ≤ 601024; omega), (by show _ ≤ 7293034; omega)⟩ dL_law_466 ?_
    refine J_perm (w1 := outC E ao (vp_updL g 0 bb.toInt64) :: (cW E ad2 T2 ++ mW E am M2)) (List.perm_append_comm (l₂ := outC E ao (vp_updL g 0 bb.toInt64) :: cW E ad2 T2)) ?_
    refine J_iload X (pc := 469) dL_law_469 1 rfl ?_
    refine J_icmp_eq X (pc := 471) 476 dL_law_471 (by decide) (fun _ => ?_) (fun c => absurd ht c)
    refine J_iload X (pc := 476) dL_law_476 1 rfl ?_
    refine J_if_ne X (pc := 478) 493 dL_law_478 (by decide) (fun c => absurd rfl c) (fun _ => ?_)
    refine J_aload_n X (pc := 481) dL_law_481 6 rfl ?_
    refine J_iconst X (pc := 482) (v := 0) dL_law_482 (by decide +kernel) ?_
    refine J_lald X (pc := 483) 0 rfl ⟨by decide, by decide⟩ dL_law_483 ?_
    refine J_iload X (pc := 484) dL_law_484 0 rfl ?_
    refine J_i2l X (pc := 486) dL_law_486 ?_
    refine J_lcmp X (pc := 487) dL_law_487 ?_
    refine J_if_eq X (pc := 488) 493 dL_law_488 (by decide) (fun _ => ?_) (fun c => absurd (lg_self _ _ (updL0 g _)) c)
    refine J_goto X (pc := 493) 1088 dL_law_493 (by decide) ?_
    refine J_sub [2, 3, 4, 5, 6] rfl ?_
    exact kk ad2 _ T2 M2 hr2 had2
set_option maxRecDepth 100000 in
set_option maxHeartbeats 4000000 in
theorem law_today {E : Ev} {x : Cx} {Rel : TS → St → Prop} {k n b NN ao : Nat} {xs : Nat → Int32} {i : Int32} {ad : CA} {am : Nat → Nat} {g : Nat → Int64} {T : TS} {M : St} {xr : Nat} (X : Ok E x cL_law RL room_1 7) (XX : OkX E x) (XN : OkN x) (S : OkS x b NN xs) (hxr : ad.1 0 = xr) (hk : k + 40 ≤ 601024 ∧ n + 1000 ≤ 7293034) (hr : Rel T M) (st : R_today Rel) (kk : ∀ ad2 g2 T2 M2, Rel T2 M2 → ad2.1 0 = xr → J E x k n (outC E ao g2 :: (cW E ad2 T2 ++ mW E am M2)) 1088 [(4, .int i), (0, .ref b), (1, .ref xr), (2, .ref (am 0)), (3, .ref ao)] []) : J E x k n (outC E ao g :: (cW E ad T ++ mW E am M)) 496 [(4, .int i), (0, .ref b), (1, .ref xr), (2, .ref (am 0)), (3, .ref ao)] [] := by
  subst hxr
  obtain ⟨M2, hm, hr2⟩ := st T M hr
  refine J_aload_n X (pc := 496) dL_law_496 2 rfl ?_
  refine J_perm (w1 := cW E ad T ++ (outC E ao g :: mW E am M)) (List.perm_middle (l₁ := cW E ad T)).symm ?_
  refine J_callF0I X (pc := 497) (y := yX7_today) (na := 0) (As := []) (rest := []) (c_X7_today E ad (r := T.1.1) rfl) 0 cW_c0 rfl q_678 q_679 q_680 q_14 q_382 rfl (by decide +kernel) (by decide +kernel) rfl (Nat.le_of_ble_eq_true rfl) ⟨(by show _ ≤ 601024; omega), (by show _ ≤ 7293034; omega)⟩ dL_law_497 ?_
  refine J_aload_n X (pc := 500) dL_law_500 3 rfl ?_
  refine J_perm (w1 := mW E am M ++ (outC E ao g :: cW E ad T)) ((List.perm_middle (l₁ := cW E ad T)).trans (List.perm_append_comm (l₁ := outC E ao g :: cW E ad T))) ?_
  refine J_callF0I X (pc := 501) (y := yX8_today) (na := 0) (As := []) (rest := [.int T.1.1]) (c_X8_today E am hm) 0 mW_c0 rfl q_681 q_682 q_683 q_465 q_533 rfl (by decide +kernel) (by decide +kernel) rfl (Nat.le_of_ble_eq_true rfl) ⟨(by show _ ≤ 601024; omega), (by show _ ≤ 7293034; omega)⟩ dL_law_501 ?_
  refine J_perm (w1 := outC E ao g :: (cW E ad T ++ mW E am M2)) (List.perm_append_comm (l₂ := outC E ao g :: cW E ad T)) ?_
  refine J_icmp_eq X (pc := 504) 1088 dL_law_504 (by decide) (fun _ => ?_) (fun c => absurd rfl c)
  exact kk ad g T M2 hr2 rfl
set_option maxRecDepth 100000 in
set_option maxHeartbeats 4000000 in
theorem law_samples {E : Ev} {x : Cx} {Rel : TS → St → Prop} {k n b NN ao : Nat} {xs : Nat → Int32} {i : Int32} {ad : CA} {am : Nat → Nat} {g : Nat → Int64} {T : TS} {M : St} {xr : Nat} (X : Ok E x cL_law RL room_1 7) (XX : OkX E x) (XN : OkN x) (S : OkS x b NN xs) (hxr : ad.1 0 = xr) (hk : k + 40 ≤ 601024 ∧ n + 1000 ≤ 7293034) (hr : Rel T M) (hi1 : inb (i + 1) NN) {a1 : Int32} (ea1 : a1 = xs (i + 1).toNatClampNeg) (st : R_samples Rel) (kk : ∀ ad2 g2 T2 M2, Rel T2 M2 → ad2.1 0 = xr → J E x (k + 16) (n + 398) (outC E ao g2 :: (cW E ad2 T2 ++ mW E am M2)) 1088 [(4, .int i), (0, .ref b), (1, .ref xr), (2, .ref (am 0)), (3, .ref ao)] []) : J E x k n (outC E ao g :: (cW E ad T ++ mW E am M)) 509 [(4, .int i), (0, .ref b), (1, .ref xr), (2, .ref (am 0)), (3, .ref ao)] [] := by
  subst hxr
  obtain ⟨bb, M2, hm, hc⟩ := st T M a1 hr
  simp only [ThrowAt, or_false] at hc
  rcases hc with ⟨T2, hx, ht, hr2⟩ | ⟨T2, hf, ht, hr2⟩
  · skip
    refine J_aload_n X (pc := 509) dL_law_509 2 rfl ?_
    refine J_aload_n X (pc := 510) dL_law_510 1 rfl ?_
    refine J_iload X (pc := 511) dL_law_511 0 rfl ?_
    refine J_iconst X (pc := 513) (v := 1) dL_law_513 (by decide +kernel) ?_
    refine J_iadd X (pc := 514) dL_law_514 ?_
    refine J_sld X (pc := 515) S hi1 dL_law_515 ?_
    refine J_nmi ea1 ?_
    refine J_aload_n X (pc := 516) dL_law_516 4 rfl ?_
    refine J_callH (w1 := outC E ao g :: cW E ad T) (rw := mW E am M) X XX XN (pc := 517) (na := 3) (As := [.ref (ad.1 0), .int a1, .ref ao]) (rest := []) (hx_samples_1 E ad ao g hx) q_684 q_685 q_646 q_598 rfl (by decide +kernel) ⟨by decide +kernel, by decide +kernel⟩ rfl (Nat.le_of_ble_eq_true rfl) ⟨(by show _ ≤ 601024; omega), (by show _ ≤ 7293034; omega)⟩ dL_law_517 (fun ad2 had2 => ?_)
    refine J_istore X (pc := 520) (lv1 := [(5, .int 1), (4, .int i), (0, .ref b), (1, .ref (ad.1 0)), (2, .ref (am 0)), (3, .ref ao)]) dL_law_520 (by decide) rfl ?_
    refine J_aload_n X (pc := 522) dL_law_522 4 rfl ?_
    refine J_aload_n X (pc := 523) dL_law_523 2 rfl ?_
    refine J_iload X (pc := 524) dL_law_524 1 rfl ?_
    refine J_iconst X (pc := 526) (v := 1) dL_law_526 (by decide +kernel) ?_
    refine J_iadd X (pc := 527) dL_law_527 ?_
    refine J_sld X (pc := 528) S hi1 dL_law_528 ?_
    refine J_nmi ea1 ?_
    refine J_perm (w1 := mW E am M ++ (outC E ao g :: cW E ad2 T2)) (List.perm_append_comm (l₂ := mW E am M)) ?_
    refine J_callF0I X (pc := 529) (y := yX8_samples) (na := 1) (As := [.int a1]) (rest := []) (c_X8_samples E am hm) 0 mW_c0 rfl q_686 q_687 q_688 q_465 q_535 rfl (by decide +kernel) ⟨by decide +kernel, by decide +kernel⟩ rfl (Nat.le_of_ble_eq_true rfl) ⟨(by show _ ≤ 601024; omega), (by show _ ≤ 7293034; omega)⟩ dL_law_529 ?_
    refine J_istore X (pc := 532) (lv1 := [(6, .int bb), (5, .int 1), (4, .int i), (0, .ref b), (1, .ref (ad.1 0)), (2, .ref (am 0)), (3, .ref ao)]) dL_law_532 (by decide) rfl ?_
    refine J_aload_n X (pc := 534) dL_law_534 5 rfl ?_
    refine J_callF0I X (pc := 535) (y := yX8_thrown) (na := 0) (As := []) (rest := []) (c_X8_thrown E am (S := M2) (r := M2.1 7) rfl) 0 mW_c0 rfl q_650 q_651 q_652 q_465 q_457 rfl (by decide +kernel) ⟨by decide +kernel, by decide +kernel⟩ rfl (Nat.le_of_ble_eq_true rfl) ⟨(by show _ ≤ 601024; omega), (by show _ ≤ 7293034; omega)⟩ dL_law_535 ?_
    refine J_perm (w1 := outC E ao g :: (cW E ad2 T2 ++ mW E am M2)) (List.perm_append_comm (l₂ := outC E ao g :: cW E ad2 T2)) ?_
    refine J_iload X (pc := 538) dL_law_538 1 rfl ?_
    refine J_icmp_eq X (pc := 540) 545 dL_law_540 (by decide) (fun _ => ?_) (fun c => absurd ht c)
    refine J_iload X (pc := 545) dL_law_545 1 rfl ?_
    refine J_if_ne X (pc := 547) 562 dL_law_547 (by decide) (fun _ => ?_) (fun c => absurd c (by decide))
    refine J_goto X (pc := 562) 1088 dL_law_562 (by decide) ?_
    refine J_sub [2, 3, 4, 5, 6] rfl ?_
    exact kk ad2 _ T2 M2 hr2 had2
  · skip
    refine J_aload_n X (pc := 509) dL_law_509 2 rfl ?_
    refine J_aload_n X (pc := 510) dL_law_510 1 rfl ?_
    refine J_iload X (pc := 511) dL_law_511 0 rfl ?_
    refine J_iconst X (pc := 513) (v := 1) dL_law_513 (by decide +kernel) ?_
    refine J_iadd X (pc := 514) dL_law_514 ?_
    refine J_sld X (pc := 515) S hi1 dL_law_515 ?_
    refine J_nmi ea1 ?_
    refine J_aload_n X (pc := 516) dL_law_516 4 rfl ?_
    obtain ⟨z, hz, hz2⟩ := Option.map_eq_some_iff.mp hf
    obtain ⟨hz3, hz4⟩ := Prod.mk.inj hz2
    subst hz4
    subst hz3
    refine J_callH (w1 := outC E ao g :: cW E ad T) (rw := mW E am M) X XX XN (pc := 517) (na := 3) (As := [.ref (ad.1 0), .int a1, .ref ao]) (rest := []) (h_samples E ad ao g hz) q_684 q_685 q_646 q_598 rfl (by decide +kernel) ⟨by decide +kernel, by decide +kernel⟩ rfl (Nat.le_of_ble_eq_true rfl) ⟨(by show _ ≤ 601024; omega), (by show _ ≤ 7293034; omega)⟩ dL_law_517 (fun ad2 had2 => ?_)
    refine J_istore X (pc := 520) (lv1 := [(5, .int 0), (4, .int i), (0, .ref b), (1, .ref (ad.1 0)), (2, .ref (am 0)), (3, .ref ao)]) dL_law_520 (by decide) rfl ?_
    refine J_aload_n X (pc := 522) dL_law_522 4 rfl ?_
    refine J_aload_n X (pc := 523) dL_law_523 2 rfl ?_
    refine J_iload X (pc := 524) dL_law_524 1 rfl ?_
    refine J_iconst X (pc := 526) (v := 1) dL_law_526 (by decide +kernel) ?_
    refine J_iadd X (pc := 527) dL_law_527 ?_
    refine J_sld X (pc := 528) S hi1 dL_law_528 ?_
    refine J_nmi ea1 ?_
    refine J_perm (w1 := mW E am M ++ (outC E ao (vp_updL g 0 z.toInt64) :: cW E ad2 T)) (List.perm_append_comm (l₂ := mW E am M)) ?_
    refine J_callF0I X (pc := 529) (y := yX8_samples) (na := 1) (As := [.int a1]) (rest := []) (c_X8_samples E am hm) 0 mW_c0 rfl q_686 q_687 q_688 q_465 q_535 rfl (by decide +kernel) ⟨by decide +kernel, by decide +kernel⟩ rfl (Nat.le_of_ble_eq_true rfl) ⟨(by show _ ≤ 601024; omega), (by show _ ≤ 7293034; omega)⟩ dL_law_529 ?_
    refine J_istore X (pc := 532) (lv1 := [(6, .int z), (5, .int 0), (4, .int i), (0, .ref b), (1, .ref (ad.1 0)), (2, .ref (am 0)), (3, .ref ao)]) dL_law_532 (by decide) rfl ?_
    refine J_aload_n X (pc := 534) dL_law_534 5 rfl ?_
    refine J_callF0I X (pc := 535) (y := yX8_thrown) (na := 0) (As := []) (rest := []) (c_X8_thrown E am (S := M2) (r := M2.1 7) rfl) 0 mW_c0 rfl q_650 q_651 q_652 q_465 q_457 rfl (by decide +kernel) ⟨by decide +kernel, by decide +kernel⟩ rfl (Nat.le_of_ble_eq_true rfl) ⟨(by show _ ≤ 601024; omega), (by show _ ≤ 7293034; omega)⟩ dL_law_535 ?_
    refine J_perm (w1 := outC E ao (vp_updL g 0 z.toInt64) :: (cW E ad2 T ++ mW E am M2)) (List.perm_append_comm (l₂ := outC E ao (vp_updL g 0 z.toInt64) :: cW E ad2 T)) ?_
    refine J_iload X (pc := 538) dL_law_538 1 rfl ?_
    refine J_icmp_eq X (pc := 540) 545 dL_law_540 (by decide) (fun _ => ?_) (fun c => absurd ht c)
    refine J_iload X (pc := 545) dL_law_545 1 rfl ?_
    refine J_if_ne X (pc := 547) 562 dL_law_547 (by decide) (fun c => absurd rfl c) (fun _ => ?_)
    refine J_aload_n X (pc := 550) dL_law_550 6 rfl ?_
    refine J_iconst X (pc := 551) (v := 0) dL_law_551 (by decide +kernel) ?_
    refine J_lald X (pc := 552) 0 rfl ⟨by decide, by decide⟩ dL_law_552 ?_
    refine J_iload X (pc := 553) dL_law_553 0 rfl ?_
    refine J_i2l X (pc := 555) dL_law_555 ?_
    refine J_lcmp X (pc := 556) dL_law_556 ?_
    refine J_if_eq X (pc := 557) 562 dL_law_557 (by decide) (fun _ => ?_) (fun c => absurd (lg_self _ _ (updL0 g _)) c)
    refine J_goto X (pc := 562) 1088 dL_law_562 (by decide) ?_
    refine J_sub [2, 3, 4, 5, 6] rfl ?_
    exact kk ad2 _ T M2 hr2 had2
set_option maxRecDepth 100000 in
set_option maxHeartbeats 4000000 in
theorem law_slopeNumerator {E : Ev} {x : Cx} {Rel : TS → St → Prop} {k n b NN ao : Nat} {xs : Nat → Int32} {i : Int32} {ad : CA} {am : Nat → Nat} {g : Nat → Int64} {T : TS} {M : St} {xr : Nat} (X : Ok E x cL_law RL room_1 7) (XX : OkX E x) (XN : OkN x) (S : OkS x b NN xs) (hxr : ad.1 0 = xr) (hk : k + 40 ≤ 601024 ∧ n + 1000 ≤ 7293034) (hr : Rel T M) (hi1 : inb (i + 1) NN) {a1 : Int32} (ea1 : a1 = xs (i + 1).toNatClampNeg) (st : R_slopeNumerator Rel) (kk : ∀ ad2 g2 T2 M2, Rel T2 M2 → ad2.1 0 = xr → J E x (k + 16) (n + 398) (outC E ao g2 :: (cW E ad2 T2 ++ mW E am M2)) 1088 [(4, .int i), (0, .ref b), (1, .ref xr), (2, .ref (am 0)), (3, .ref ao)] []) : J E x k n (outC E ao g :: (cW E ad T ++ mW E am M)) 565 [(4, .int i), (0, .ref b), (1, .ref xr), (2, .ref (am 0)), (3, .ref ao)] [] := by
  subst hxr
  obtain ⟨bb, M2, hm, hc⟩ := st T M a1 hr
  simp only [ThrowAt, or_false] at hc
  rcases hc with (⟨T2, hx, ht, hr2⟩ | ⟨T2, hx, ht, hr2⟩) | ⟨T2, hf, ht, hr2⟩
  · skip
    refine J_aload_n X (pc := 565) dL_law_565 2 rfl ?_
    refine J_aload_n X (pc := 566) dL_law_566 1 rfl ?_
    refine J_iload X (pc := 567) dL_law_567 0 rfl ?_
    refine J_iconst X (pc := 569) (v := 1) dL_law_569 (by decide +kernel) ?_
    refine J_iadd X (pc := 570) dL_law_570 ?_
    refine J_sld X (pc := 571) S hi1 dL_law_571 ?_
    refine J_nmi ea1 ?_
    refine J_aload_n X (pc := 572) dL_law_572 4 rfl ?_
    refine J_callH (w1 := outC E ao g :: cW E ad T) (rw := mW E am M) X XX XN (pc := 573) (na := 3) (As := [.ref (ad.1 0), .int a1, .ref ao]) (rest := []) (hx_slopeNumerator_1 E ad ao g hx) q_689 q_690 q_646 q_602 rfl (by decide +kernel) ⟨by decide +kernel, by decide +kernel⟩ rfl (Nat.le_of_ble_eq_true rfl) ⟨(by show _ ≤ 601024; omega), (by show _ ≤ 7293034; omega)⟩ dL_law_573 (fun ad2 had2 => ?_)
    refine J_istore X (pc := 576) (lv1 := [(5, .int 1), (4, .int i), (0, .ref b), (1, .ref (ad.1 0)), (2, .ref (am 0)), (3, .ref ao)]) dL_law_576 (by decide) rfl ?_
    refine J_aload_n X (pc := 578) dL_law_578 4 rfl ?_
    refine J_aload_n X (pc := 579) dL_law_579 2 rfl ?_
    refine J_iload X (pc := 580) dL_law_580 1 rfl ?_
    refine J_iconst X (pc := 582) (v := 1) dL_law_582 (by decide +kernel) ?_
    refine J_iadd X (pc := 583) dL_law_583 ?_
    refine J_sld X (pc := 584) S hi1 dL_law_584 ?_
    refine J_nmi ea1 ?_
    refine J_perm (w1 := mW E am M ++ (outC E ao g :: cW E ad2 T2)) (List.perm_append_comm (l₂ := mW E am M)) ?_
    refine J_callF0I X (pc := 585) (y := yX8_slopeNumerator) (na := 1) (As := [.int a1]) (rest := []) (c_X8_slopeNumerator E am hm) 0 mW_c0 rfl q_691 q_692 q_693 q_465 q_543 rfl (by decide +kernel) ⟨by decide +kernel, by decide +kernel⟩ rfl (Nat.le_of_ble_eq_true rfl) ⟨(by show _ ≤ 601024; omega), (by show _ ≤ 7293034; omega)⟩ dL_law_585 ?_
    refine J_istore X (pc := 588) (lv1 := [(6, .int bb), (5, .int 1), (4, .int i), (0, .ref b), (1, .ref (ad.1 0)), (2, .ref (am 0)), (3, .ref ao)]) dL_law_588 (by decide) rfl ?_
    refine J_aload_n X (pc := 590) dL_law_590 5 rfl ?_
    refine J_callF0I X (pc := 591) (y := yX8_thrown) (na := 0) (As := []) (rest := []) (c_X8_thrown E am (S := M2) (r := M2.1 7) rfl) 0 mW_c0 rfl q_650 q_651 q_652 q_465 q_457 rfl (by decide +kernel) ⟨by decide +kernel, by decide +kernel⟩ rfl (Nat.le_of_ble_eq_true rfl) ⟨(by show _ ≤ 601024; omega), (by show _ ≤ 7293034; omega)⟩ dL_law_591 ?_
    refine J_perm (w1 := outC E ao g :: (cW E ad2 T2 ++ mW E am M2)) (List.perm_append_comm (l₂ := outC E ao g :: cW E ad2 T2)) ?_
    refine J_iload X (pc := 594) dL_law_594 1 rfl ?_
    refine J_icmp_eq X (pc := 596) 601 dL_law_596 (by decide) (fun _ => ?_) (fun c => absurd ht c)
    refine J_iload X (pc := 601) dL_law_601 1 rfl ?_
    refine J_if_ne X (pc := 603) 618 dL_law_603 (by decide) (fun _ => ?_) (fun c => absurd c (by decide))
    refine J_goto X (pc := 618) 1088 dL_law_618 (by decide) ?_
    refine J_sub [2, 3, 4, 5, 6] rfl ?_
    exact kk ad2 _ T2 M2 hr2 had2
  · skip
    refine J_aload_n X (pc := 565) dL_law_565 2 rfl ?_
    refine J_aload_n X (pc := 566) dL_law_566 1 rfl ?_
    refine J_iload X (pc := 567) dL_law_567 0 rfl ?_
    refine J_iconst X (pc := 569) (v := 1) dL_law_569 (by decide +kernel) ?_
    refine J_iadd X (pc := 570) dL_law_570 ?_
    refine J_sld X (pc := 571) S hi1 dL_law_571 ?_
    refine J_nmi ea1 ?_
    refine J_aload_n X (pc := 572) dL_law_572 4 rfl ?_
    refine J_callH (w1 := outC E ao g :: cW E ad T) (rw := mW E am M) X XX XN (pc := 573) (na := 3) (As := [.ref (ad.1 0), .int a1, .ref ao]) (rest := []) (hx_slopeNumerator_2 E ad ao g hx) q_689 q_690 q_646 q_602 rfl (by decide +kernel) ⟨by decide +kernel, by decide +kernel⟩ rfl (Nat.le_of_ble_eq_true rfl) ⟨(by show _ ≤ 601024; omega), (by show _ ≤ 7293034; omega)⟩ dL_law_573 (fun ad2 had2 => ?_)
    refine J_istore X (pc := 576) (lv1 := [(5, .int 2), (4, .int i), (0, .ref b), (1, .ref (ad.1 0)), (2, .ref (am 0)), (3, .ref ao)]) dL_law_576 (by decide) rfl ?_
    refine J_aload_n X (pc := 578) dL_law_578 4 rfl ?_
    refine J_aload_n X (pc := 579) dL_law_579 2 rfl ?_
    refine J_iload X (pc := 580) dL_law_580 1 rfl ?_
    refine J_iconst X (pc := 582) (v := 1) dL_law_582 (by decide +kernel) ?_
    refine J_iadd X (pc := 583) dL_law_583 ?_
    refine J_sld X (pc := 584) S hi1 dL_law_584 ?_
    refine J_nmi ea1 ?_
    refine J_perm (w1 := mW E am M ++ (outC E ao g :: cW E ad2 T2)) (List.perm_append_comm (l₂ := mW E am M)) ?_
    refine J_callF0I X (pc := 585) (y := yX8_slopeNumerator) (na := 1) (As := [.int a1]) (rest := []) (c_X8_slopeNumerator E am hm) 0 mW_c0 rfl q_691 q_692 q_693 q_465 q_543 rfl (by decide +kernel) ⟨by decide +kernel, by decide +kernel⟩ rfl (Nat.le_of_ble_eq_true rfl) ⟨(by show _ ≤ 601024; omega), (by show _ ≤ 7293034; omega)⟩ dL_law_585 ?_
    refine J_istore X (pc := 588) (lv1 := [(6, .int bb), (5, .int 2), (4, .int i), (0, .ref b), (1, .ref (ad.1 0)), (2, .ref (am 0)), (3, .ref ao)]) dL_law_588 (by decide) rfl ?_
    refine J_aload_n X (pc := 590) dL_law_590 5 rfl ?_
    refine J_callF0I X (pc := 591) (y := yX8_thrown) (na := 0) (As := []) (rest := []) (c_X8_thrown E am (S := M2) (r := M2.1 7) rfl) 0 mW_c0 rfl q_650 q_651 q_652 q_465 q_457 rfl (by decide +kernel) ⟨by decide +kernel, by decide +kernel⟩ rfl (Nat.le_of_ble_eq_true rfl) ⟨(by show _ ≤ 601024; omega), (by show _ ≤ 7293034; omega)⟩ dL_law_591 ?_
    refine J_perm (w1 := outC E ao g :: (cW E ad2 T2 ++ mW E am M2)) (List.perm_append_comm (l₂ := outC E ao g :: cW E ad2 T2)) ?_
    refine J_iload X (pc := 594) dL_law_594 1 rfl ?_
    refine J_icmp_eq X (pc := 596) 601 dL_law_596 (by decide) (fun _ => ?_) (fun c => absurd ht c)
    refine J_iload X (pc := 601) dL_law_601 1 rfl ?_
    refine J_if_ne X (pc := 603) 618 dL_law_603 (by decide) (fun _ => ?_) (fun c => absurd c (by decide))
    refine J_goto X (pc := 618) 1088 dL_law_618 (by decide) ?_
    refine J_sub [2, 3, 4, 5, 6] rfl ?_
    exact kk ad2 _ T2 M2 hr2 had2
  · skip
    refine J_aload_n X (pc := 565) dL_law_565 2 rfl ?_
    refine J_aload_n X (pc := 566) dL_law_566 1 rfl ?_
    refine J_iload X (pc := 567) dL_law_567 0 rfl ?_
    refine J_iconst X (pc := 569) (v := 1) dL_law_569 (by decide +kernel) ?_
    refine J_iadd X (pc := 570) dL_law_570 ?_
    refine J_sld X (pc := 571) S hi1 dL_law_571 ?_
    refine J_nmi ea1 ?_
    refine J_aload_n X (pc := 572) dL_law_572 4 rfl ?_
    refine J_callH (w1 := outC E ao g :: cW E ad T) (rw := mW E am M) X XX XN (pc := 573) (na := 3) (As := [.ref (ad.1 0), .int a1, .ref ao]) (rest := []) (h_slopeNumerator E ad ao g hf) q_689 q_690 q_646 q_602 rfl (by decide +kernel) ⟨by decide +kernel, by decide +kernel⟩ rfl (Nat.le_of_ble_eq_true rfl) ⟨(by show _ ≤ 601024; omega), (by show _ ≤ 7293034; omega)⟩ dL_law_573 (fun ad2 had2 => ?_)
    refine J_istore X (pc := 576) (lv1 := [(5, .int 0), (4, .int i), (0, .ref b), (1, .ref (ad.1 0)), (2, .ref (am 0)), (3, .ref ao)]) dL_law_576 (by decide) rfl ?_
    refine J_aload_n X (pc := 578) dL_law_578 4 rfl ?_
    refine J_aload_n X (pc := 579) dL_law_579 2 rfl ?_
    refine J_iload X (pc := 580) dL_law_580 1 rfl ?_
    refine J_iconst X (pc := 582) (v := 1) dL_law_582 (by decide +kernel) ?_
    refine J_iadd X (pc := 583) dL_law_583 ?_
    refine J_sld X (pc := 584) S hi1 dL_law_584 ?_
    refine J_nmi ea1 ?_
    refine J_perm (w1 := mW E am M ++ (outC E ao (vp_updL g 0 bb.toInt64) :: cW E ad2 T2)) (List.perm_append_comm (l₂ := mW E am M)) ?_
    refine J_callF0I X (pc := 585) (y := yX8_slopeNumerator) (na := 1) (As := [.int a1]) (rest := []) (c_X8_slopeNumerator E am hm) 0 mW_c0 rfl q_691 q_692 q_693 q_465 q_543 rfl (by decide +kernel) ⟨by decide +kernel, by decide +kernel⟩ rfl (Nat.le_of_ble_eq_true rfl) ⟨(by show _ ≤ 601024; omega), (by show _ ≤ 7293034; omega)⟩ dL_law_585 ?_
    refine J_istore X (pc := 588) (lv1 := [(6, .int bb), (5, .int 0), (4, .int i), (0, .ref b), (1, .ref (ad.1 0)), (2, .ref (am 0)), (3, .ref ao)]) dL_law_588 (by decide) rfl ?_
    refine J_aload_n X (pc := 590) dL_law_590 5 rfl ?_
    refine J_callF0I X (pc := 591) (y := yX8_thrown) (na := 0) (As := []) (rest := []) (c_X8_thrown E am (S := M2) (r := M2.1 7) rfl) 0 mW_c0 rfl q_650 q_651 q_652 q_465 q_457 rfl (by decide +kernel) ⟨by decide +kernel, by decide +kernel⟩ rfl (Nat.le_of_ble_eq_true rfl) ⟨(by show _ ≤ 601024; omega), (by show _ ≤ 7293034; omega)⟩ dL_law_591 ?_
    refine J_perm (w1 := outC E ao (vp_updL g 0 bb.toInt64) :: (cW E ad2 T2 ++ mW E am M2)) (List.perm_append_comm (l₂ := outC E ao (vp_updL g 0 bb.toInt64) :: cW E ad2 T2)) ?_
    refine J_iload X (pc := 594) dL_law_594 1 rfl ?_
    refine J_icmp_eq X (pc := 596) 601 dL_law_596 (by decide) (fun _ => ?_) (fun c => absurd ht c)
    refine J_iload X (pc := 601) dL_law_601 1 rfl ?_
    refine J_if_ne X (pc := 603) 618 dL_law_603 (by decide) (fun c => absurd rfl c) (fun _ => ?_)
    refine J_aload_n X (pc := 606) dL_law_606 6 rfl ?_
    refine J_iconst X (pc := 607) (v := 0) dL_law_607 (by decide +kernel) ?_
    refine J_lald X (pc := 608) 0 rfl ⟨by decide, by decide⟩ dL_law_608 ?_
    refine J_iload X (pc := 609) dL_law_609 0 rfl ?_
    refine J_i2l X (pc := 611) dL_law_611 ?_
    refine J_lcmp X (pc := 612) dL_law_612 ?_
    refine J_if_eq X (pc := 613) 618 dL_law_613 (by decide) (fun _ => ?_) (fun c => absurd (lg_self _ _ (updL0 g _)) c)
    refine J_goto X (pc := 618) 1088 dL_law_618 (by decide) ?_
    refine J_sub [2, 3, 4, 5, 6] rfl ?_
    exact kk ad2 _ T2 M2 hr2 had2
set_option maxRecDepth 100000 in
set_option maxHeartbeats 4000000 in
theorem law_slopeDenominator {E : Ev} {x : Cx} {Rel : TS → St → Prop} {k n b NN ao : Nat} {xs : Nat → Int32} {i : Int32} {ad : CA} {am : Nat → Nat} {g : Nat → Int64} {T : TS} {M : St} {xr : Nat} (X : Ok E x cL_law RL room_1 7) (XX : OkX E x) (XN : OkN x) (S : OkS x b NN xs) (hxr : ad.1 0 = xr) (hk : k + 40 ≤ 601024 ∧ n + 1000 ≤ 7293034) (hr : Rel T M) (hi1 : inb (i + 1) NN) {a1 : Int32} (ea1 : a1 = xs (i + 1).toNatClampNeg) (st : R_slopeDenominator Rel) (kk : ∀ ad2 g2 T2 M2, Rel T2 M2 → ad2.1 0 = xr → J E x (k + 16) (n + 398) (outC E ao g2 :: (cW E ad2 T2 ++ mW E am M2)) 1088 [(4, .int i), (0, .ref b), (1, .ref xr), (2, .ref (am 0)), (3, .ref ao)] []) : J E x k n (outC E ao g :: (cW E ad T ++ mW E am M)) 621 [(4, .int i), (0, .ref b), (1, .ref xr), (2, .ref (am 0)), (3, .ref ao)] [] := by
  subst hxr
  obtain ⟨bb, M2, hm, hc⟩ := st T M a1 hr
  simp only [ThrowAt, or_false] at hc
  rcases hc with (⟨T2, hx, ht, hr2⟩ | ⟨T2, hx, ht, hr2⟩) | ⟨T2, hf, ht, hr2⟩
  · skip
    refine J_aload_n X (pc := 621) dL_law_621 2 rfl ?_
    refine J_aload_n X (pc := 622) dL_law_622 1 rfl ?_
    refine J_iload X (pc := 623) dL_law_623 0 rfl ?_
    refine J_iconst X (pc := 625) (v := 1) dL_law_625 (by decide +kernel) ?_
    refine J_iadd X (pc := 626) dL_law_626 ?_
    refine J_sld X (pc := 627) S hi1 dL_law_627 ?_
    refine J_nmi ea1 ?_
    refine J_aload_n X (pc := 628) dL_law_628 4 rfl ?_
    refine J_callH (w1 := outC E ao g :: cW E ad T) (rw := mW E am M) X XX XN (pc := 629) (na := 3) (As := [.ref (ad.1 0), .int a1, .ref ao]) (rest := []) (hx_slopeDenominator_1 E ad ao g hx) q_694 q_695 q_646 q_606 rfl (by decide +kernel) ⟨by decide +kernel, by decide +kernel⟩ rfl (Nat.le_of_ble_eq_true rfl) ⟨(by show _ ≤ 601024; omega), (by show _ ≤ 7293034; omega)⟩ dL_law_629 (fun ad2 had2 => ?_)
    refine J_istore X (pc := 632) (lv1 := [(5, .int 1), (4, .int i), (0, .ref b), (1, .ref (ad.1 0)), (2, .ref (am 0)), (3, .ref ao)]) dL_law_632 (by decide) rfl ?_
    refine J_aload_n X (pc := 634) dL_law_634 4 rfl ?_
    refine J_aload_n X (pc := 635) dL_law_635 2 rfl ?_
    refine J_iload X (pc := 636) dL_law_636 1 rfl ?_
    refine J_iconst X (pc := 638) (v := 1) dL_law_638 (by decide +kernel) ?_
    refine J_iadd X (pc := 639) dL_law_639 ?_
    refine J_sld X (pc := 640) S hi1 dL_law_640 ?_
    refine J_nmi ea1 ?_
    refine J_perm (w1 := mW E am M ++ (outC E ao g :: cW E ad2 T2)) (List.perm_append_comm (l₂ := mW E am M)) ?_
    refine J_callF0I X (pc := 641) (y := yX8_slopeDenominator) (na := 1) (As := [.int a1]) (rest := []) (c_X8_slopeDenominator E am hm) 0 mW_c0 rfl q_696 q_697 q_698 q_465 q_544 rfl (by decide +kernel) ⟨by decide +kernel, by decide +kernel⟩ rfl (Nat.le_of_ble_eq_true rfl) ⟨(by show _ ≤ 601024; omega), (by show _ ≤ 7293034; omega)⟩ dL_law_641 ?_
    refine J_istore X (pc := 644) (lv1 := [(6, .int bb), (5, .int 1), (4, .int i), (0, .ref b), (1, .ref (ad.1 0)), (2, .ref (am 0)), (3, .ref ao)]) dL_law_644 (by decide) rfl ?_
    refine J_aload_n X (pc := 646) dL_law_646 5 rfl ?_
    refine J_callF0I X (pc := 647) (y := yX8_thrown) (na := 0) (As := []) (rest := []) (c_X8_thrown E am (S := M2) (r := M2.1 7) rfl) 0 mW_c0 rfl q_650 q_651 q_652 q_465 q_457 rfl (by decide +kernel) ⟨by decide +kernel, by decide +kernel⟩ rfl (Nat.le_of_ble_eq_true rfl) ⟨(by show _ ≤ 601024; omega), (by show _ ≤ 7293034; omega)⟩ dL_law_647 ?_
    refine J_perm (w1 := outC E ao g :: (cW E ad2 T2 ++ mW E am M2)) (List.perm_append_comm (l₂ := outC E ao g :: cW E ad2 T2)) ?_
    refine J_iload X (pc := 650) dL_law_650 1 rfl ?_
    refine J_icmp_eq X (pc := 652) 657 dL_law_652 (by decide) (fun _ => ?_) (fun c => absurd ht c)
    refine J_iload X (pc := 657) dL_law_657 1 rfl ?_
    refine J_if_ne X (pc := 659) 674 dL_law_659 (by decide) (fun _ => ?_) (fun c => absurd c (by decide))
    refine J_goto X (pc := 674) 1088 dL_law_674 (by decide) ?_
    refine J_sub [2, 3, 4, 5, 6] rfl ?_
    exact kk ad2 _ T2 M2 hr2 had2
  · skip
    refine J_aload_n X (pc := 621) dL_law_621 2 rfl ?_
    refine J_aload_n X (pc := 622) dL_law_622 1 rfl ?_
    refine J_iload X (pc := 623) dL_law_623 0 rfl ?_
    refine J_iconst X (pc := 625) (v := 1) dL_law_625 (by decide +kernel) ?_
    refine J_iadd X (pc := 626) dL_law_626 ?_
    refine J_sld X (pc := 627) S hi1 dL_law_627 ?_
    refine J_nmi ea1 ?_
    refine J_aload_n X (pc := 628) dL_law_628 4 rfl ?_
    refine J_callH (w1 := outC E ao g :: cW E ad T) (rw := mW E am M) X XX XN (pc := 629) (na := 3) (As := [.ref (ad.1 0), .int a1, .ref ao]) (rest := []) (hx_slopeDenominator_2 E ad ao g hx) q_694 q_695 q_646 q_606 rfl (by decide +kernel) ⟨by decide +kernel, by decide +kernel⟩ rfl (Nat.le_of_ble_eq_true rfl) ⟨(by show _ ≤ 601024; omega), (by show _ ≤ 7293034; omega)⟩ dL_law_629 (fun ad2 had2 => ?_)
    refine J_istore X (pc := 632) (lv1 := [(5, .int 2), (4, .int i), (0, .ref b), (1, .ref (ad.1 0)), (2, .ref (am 0)), (3, .ref ao)]) dL_law_632 (by decide) rfl ?_
    refine J_aload_n X (pc := 634) dL_law_634 4 rfl ?_
    refine J_aload_n X (pc := 635) dL_law_635 2 rfl ?_
    refine J_iload X (pc := 636) dL_law_636 1 rfl ?_
    refine J_iconst X (pc := 638) (v := 1) dL_law_638 (by decide +kernel) ?_
    refine J_iadd X (pc := 639) dL_law_639 ?_
    refine J_sld X (pc := 640) S hi1 dL_law_640 ?_
    refine J_nmi ea1 ?_
    refine J_perm (w1 := mW E am M ++ (outC E ao g :: cW E ad2 T2)) (List.perm_append_comm (l₂ := mW E am M)) ?_
    refine J_callF0I X (pc := 641) (y := yX8_slopeDenominator) (na := 1) (As := [.int a1]) (rest := []) (c_X8_slopeDenominator E am hm) 0 mW_c0 rfl q_696 q_697 q_698 q_465 q_544 rfl (by decide +kernel) ⟨by decide +kernel, by decide +kernel⟩ rfl (Nat.le_of_ble_eq_true rfl) ⟨(by show _ ≤ 601024; omega), (by show _ ≤ 7293034; omega)⟩ dL_law_641 ?_
    refine J_istore X (pc := 644) (lv1 := [(6, .int bb), (5, .int 2), (4, .int i), (0, .ref b), (1, .ref (ad.1 0)), (2, .ref (am 0)), (3, .ref ao)]) dL_law_644 (by decide) rfl ?_
    refine J_aload_n X (pc := 646) dL_law_646 5 rfl ?_
    refine J_callF0I X (pc := 647) (y := yX8_thrown) (na := 0) (As := []) (rest := []) (c_X8_thrown E am (S := M2) (r := M2.1 7) rfl) 0 mW_c0 rfl q_650 q_651 q_652 q_465 q_457 rfl (by decide +kernel) ⟨by decide +kernel, by decide +kernel⟩ rfl (Nat.le_of_ble_eq_true rfl) ⟨(by show _ ≤ 601024; omega), (by show _ ≤ 7293034; omega)⟩ dL_law_647 ?_
    refine J_perm (w1 := outC E ao g :: (cW E ad2 T2 ++ mW E am M2)) (List.perm_append_comm (l₂ := outC E ao g :: cW E ad2 T2)) ?_
    refine J_iload X (pc := 650) dL_law_650 1 rfl ?_
    refine J_icmp_eq X (pc := 652) 657 dL_law_652 (by decide) (fun _ => ?_) (fun c => absurd ht c)
    refine J_iload X (pc := 657) dL_law_657 1 rfl ?_
    refine J_if_ne X (pc := 659) 674 dL_law_659 (by decide) (fun _ => ?_) (fun c => absurd c (by decide))
    refine J_goto X (pc := 674) 1088 dL_law_674 (by decide) ?_
    refine J_sub [2, 3, 4, 5, 6] rfl ?_
    exact kk ad2 _ T2 M2 hr2 had2
  · skip
    refine J_aload_n X (pc := 621) dL_law_621 2 rfl ?_
    refine J_aload_n X (pc := 622) dL_law_622 1 rfl ?_
    refine J_iload X (pc := 623) dL_law_623 0 rfl ?_
    refine J_iconst X (pc := 625) (v := 1) dL_law_625 (by decide +kernel) ?_
    refine J_iadd X (pc := 626) dL_law_626 ?_
    refine J_sld X (pc := 627) S hi1 dL_law_627 ?_
    refine J_nmi ea1 ?_
    refine J_aload_n X (pc := 628) dL_law_628 4 rfl ?_
    refine J_callH (w1 := outC E ao g :: cW E ad T) (rw := mW E am M) X XX XN (pc := 629) (na := 3) (As := [.ref (ad.1 0), .int a1, .ref ao]) (rest := []) (h_slopeDenominator E ad ao g hf) q_694 q_695 q_646 q_606 rfl (by decide +kernel) ⟨by decide +kernel, by decide +kernel⟩ rfl (Nat.le_of_ble_eq_true rfl) ⟨(by show _ ≤ 601024; omega), (by show _ ≤ 7293034; omega)⟩ dL_law_629 (fun ad2 had2 => ?_)
    refine J_istore X (pc := 632) (lv1 := [(5, .int 0), (4, .int i), (0, .ref b), (1, .ref (ad.1 0)), (2, .ref (am 0)), (3, .ref ao)]) dL_law_632 (by decide) rfl ?_
    refine J_aload_n X (pc := 634) dL_law_634 4 rfl ?_
    refine J_aload_n X (pc := 635) dL_law_635 2 rfl ?_
    refine J_iload X (pc := 636) dL_law_636 1 rfl ?_
    refine J_iconst X (pc := 638) (v := 1) dL_law_638 (by decide +kernel) ?_
    refine J_iadd X (pc := 639) dL_law_639 ?_
    refine J_sld X (pc := 640) S hi1 dL_law_640 ?_
    refine J_nmi ea1 ?_
    refine J_perm (w1 := mW E am M ++ (outC E ao (vp_updL g 0 bb.toInt64) :: cW E ad2 T2)) (List.perm_append_comm (l₂ := mW E am M)) ?_
    refine J_callF0I X (pc := 641) (y := yX8_slopeDenominator) (na := 1) (As := [.int a1]) (rest := []) (c_X8_slopeDenominator E am hm) 0 mW_c0 rfl q_696 q_697 q_698 q_465 q_544 rfl (by decide +kernel) ⟨by decide +kernel, by decide +kernel⟩ rfl (Nat.le_of_ble_eq_true rfl) ⟨(by show _ ≤ 601024; omega), (by show _ ≤ 7293034; omega)⟩ dL_law_641 ?_
    refine J_istore X (pc := 644) (lv1 := [(6, .int bb), (5, .int 0), (4, .int i), (0, .ref b), (1, .ref (ad.1 0)), (2, .ref (am 0)), (3, .ref ao)]) dL_law_644 (by decide) rfl ?_
    refine J_aload_n X (pc := 646) dL_law_646 5 rfl ?_
    refine J_callF0I X (pc := 647) (y := yX8_thrown) (na := 0) (As := []) (rest := []) (c_X8_thrown E am (S := M2) (r := M2.1 7) rfl) 0 mW_c0 rfl q_650 q_651 q_652 q_465 q_457 rfl (by decide +kernel) ⟨by decide +kernel, by decide +kernel⟩ rfl (Nat.le_of_ble_eq_true rfl) ⟨(by show _ ≤ 601024; omega), (by show _ ≤ 7293034; omega)⟩ dL_law_647 ?_
    refine J_perm (w1 := outC E ao (vp_updL g 0 bb.toInt64) :: (cW E ad2 T2 ++ mW E am M2)) (List.perm_append_comm (l₂ := outC E ao (vp_updL g 0 bb.toInt64) :: cW E ad2 T2)) ?_
    refine J_iload X (pc := 650) dL_law_650 1 rfl ?_
    refine J_icmp_eq X (pc := 652) 657 dL_law_652 (by decide) (fun _ => ?_) (fun c => absurd ht c)
    refine J_iload X (pc := 657) dL_law_657 1 rfl ?_
    refine J_if_ne X (pc := 659) 674 dL_law_659 (by decide) (fun c => absurd rfl c) (fun _ => ?_)
    refine J_aload_n X (pc := 662) dL_law_662 6 rfl ?_
    refine J_iconst X (pc := 663) (v := 0) dL_law_663 (by decide +kernel) ?_
    refine J_lald X (pc := 664) 0 rfl ⟨by decide, by decide⟩ dL_law_664 ?_
    refine J_iload X (pc := 665) dL_law_665 0 rfl ?_
    refine J_i2l X (pc := 667) dL_law_667 ?_
    refine J_lcmp X (pc := 668) dL_law_668 ?_
    refine J_if_eq X (pc := 669) 674 dL_law_669 (by decide) (fun _ => ?_) (fun c => absurd (lg_self _ _ (updL0 g _)) c)
    refine J_goto X (pc := 674) 1088 dL_law_674 (by decide) ?_
    refine J_sub [2, 3, 4, 5, 6] rfl ?_
    exact kk ad2 _ T2 M2 hr2 had2
set_option maxRecDepth 100000 in
set_option maxHeartbeats 4000000 in
theorem law_usual {E : Ev} {x : Cx} {Rel : TS → St → Prop} {k n b NN ao : Nat} {xs : Nat → Int32} {i : Int32} {ad : CA} {am : Nat → Nat} {g : Nat → Int64} {T : TS} {M : St} {xr : Nat} (X : Ok E x cL_law RL room_1 7) (XX : OkX E x) (XN : OkN x) (S : OkS x b NN xs) (hxr : ad.1 0 = xr) (hk : k + 40 ≤ 601024 ∧ n + 1000 ≤ 7293034) (hr : Rel T M) (hi1 : inb (i + 1) NN) {a1 : Int32} (ea1 : a1 = xs (i + 1).toNatClampNeg) (st : R_usual Rel) (kk : ∀ ad2 g2 T2 M2, Rel T2 M2 → ad2.1 0 = xr → J E x (k + 16) (n + 398) (outC E ao g2 :: (cW E ad2 T2 ++ mW E am M2)) 1088 [(4, .int i), (0, .ref b), (1, .ref xr), (2, .ref (am 0)), (3, .ref ao)] []) : J E x k n (outC E ao g :: (cW E ad T ++ mW E am M)) 677 [(4, .int i), (0, .ref b), (1, .ref xr), (2, .ref (am 0)), (3, .ref ao)] [] := by
  subst hxr
  obtain ⟨bb, M2, hm, hc⟩ := st T M a1 hr
  simp only [ThrowAt, or_false] at hc
  rcases hc with ⟨T2, hx, ht, hr2⟩ | ⟨T2, hf, ht, hr2⟩
  · skip
    refine J_aload_n X (pc := 677) dL_law_677 2 rfl ?_
    refine J_aload_n X (pc := 678) dL_law_678 1 rfl ?_
    refine J_iload X (pc := 679) dL_law_679 0 rfl ?_
    refine J_iconst X (pc := 681) (v := 1) dL_law_681 (by decide +kernel) ?_
    refine J_iadd X (pc := 682) dL_law_682 ?_
    refine J_sld X (pc := 683) S hi1 dL_law_683 ?_
    refine J_nmi ea1 ?_
    refine J_aload_n X (pc := 684) dL_law_684 4 rfl ?_
    refine J_callH (w1 := outC E ao g :: cW E ad T) (rw := mW E am M) X XX XN (pc := 685) (na := 3) (As := [.ref (ad.1 0), .int a1, .ref ao]) (rest := []) (hx_usual_1 E ad ao g hx) q_699 q_700 q_646 q_610 rfl (by decide +kernel) ⟨by decide +kernel, by decide +kernel⟩ rfl (Nat.le_of_ble_eq_true rfl) ⟨(by show _ ≤ 601024; omega), (by show _ ≤ 7293034; omega)⟩ dL_law_685 (fun ad2 had2 => ?_)
    refine J_istore X (pc := 688) (lv1 := [(5, .int 1), (4, .int i), (0, .ref b), (1, .ref (ad.1 0)), (2, .ref (am 0)), (3, .ref ao)]) dL_law_688 (by decide) rfl ?_
    refine J_aload_n X (pc := 690) dL_law_690 4 rfl ?_
    refine J_aload_n X (pc := 691) dL_law_691 2 rfl ?_
    refine J_iload X (pc := 692) dL_law_692 1 rfl ?_
    refine J_iconst X (pc := 694) (v := 1) dL_law_694 (by decide +kernel) ?_
    refine J_iadd X (pc := 695) dL_law_695 ?_
    refine J_sld X (pc := 696) S hi1 dL_law_696 ?_
    refine J_nmi ea1 ?_
    refine J_perm (w1 := mW E am M ++ (outC E ao g :: cW E ad2 T2)) (List.perm_append_comm (l₂ := mW E am M)) ?_
    refine J_callF0I X (pc := 697) (y := yX8_usual) (na := 1) (As := [.int a1]) (rest := []) (c_X8_usual E am hm) 0 mW_c0 rfl q_701 q_702 q_703 q_465 q_545 rfl (by decide +kernel) ⟨by decide +kernel, by decide +kernel⟩ rfl (Nat.le_of_ble_eq_true rfl) ⟨(by show _ ≤ 601024; omega), (by show _ ≤ 7293034; omega)⟩ dL_law_697 ?_
    refine J_istore X (pc := 700) (lv1 := [(6, .int bb), (5, .int 1), (4, .int i), (0, .ref b), (1, .ref (ad.1 0)), (2, .ref (am 0)), (3, .ref ao)]) dL_law_700 (by decide) rfl ?_
    refine J_aload_n X (pc := 702) dL_law_702 5 rfl ?_
    refine J_callF0I X (pc := 703) (y := yX8_thrown) (na := 0) (As := []) (rest := []) (c_X8_thrown E am (S := M2) (r := M2.1 7) rfl) 0 mW_c0 rfl q_650 q_651 q_652 q_465 q_457 rfl (by decide +kernel) ⟨by decide +kernel, by decide +kernel⟩ rfl (Nat.le_of_ble_eq_true rfl) ⟨(by show _ ≤ 601024; omega), (by show _ ≤ 7293034; omega)⟩ dL_law_703 ?_
    refine J_perm (w1 := outC E ao g :: (cW E ad2 T2 ++ mW E am M2)) (List.perm_append_comm (l₂ := outC E ao g :: cW E ad2 T2)) ?_
    refine J_iload X (pc := 706) dL_law_706 1 rfl ?_
    refine J_icmp_eq X (pc := 708) 713 dL_law_708 (by decide) (fun _ => ?_) (fun c => absurd ht c)
    refine J_iload X (pc := 713) dL_law_713 1 rfl ?_
    refine J_if_ne X (pc := 715) 730 dL_law_715 (by decide) (fun _ => ?_) (fun c => absurd c (by decide))
    refine J_goto X (pc := 730) 1088 dL_law_730 (by decide) ?_
    refine J_sub [2, 3, 4, 5, 6] rfl ?_
    exact kk ad2 _ T2 M2 hr2 had2
  · skip
    refine J_aload_n X (pc := 677) dL_law_677 2 rfl ?_
    refine J_aload_n X (pc := 678) dL_law_678 1 rfl ?_
    refine J_iload X (pc := 679) dL_law_679 0 rfl ?_
    refine J_iconst X (pc := 681) (v := 1) dL_law_681 (by decide +kernel) ?_
    refine J_iadd X (pc := 682) dL_law_682 ?_
    refine J_sld X (pc := 683) S hi1 dL_law_683 ?_
    refine J_nmi ea1 ?_
    refine J_aload_n X (pc := 684) dL_law_684 4 rfl ?_
    obtain ⟨z, hz, hz2⟩ := Option.map_eq_some_iff.mp hf
    obtain ⟨hz3, hz4⟩ := Prod.mk.inj hz2
    subst hz4
    subst hz3
    refine J_callH (w1 := outC E ao g :: cW E ad T) (rw := mW E am M) X XX XN (pc := 685) (na := 3) (As := [.ref (ad.1 0), .int a1, .ref ao]) (rest := []) (h_usual E ad ao g hz) q_699 q_700 q_646 q_610 rfl (by decide +kernel) ⟨by decide +kernel, by decide +kernel⟩ rfl (Nat.le_of_ble_eq_true rfl) ⟨(by show _ ≤ 601024; omega), (by show _ ≤ 7293034; omega)⟩ dL_law_685 (fun ad2 had2 => ?_)
    refine J_istore X (pc := 688) (lv1 := [(5, .int 0), (4, .int i), (0, .ref b), (1, .ref (ad.1 0)), (2, .ref (am 0)), (3, .ref ao)]) dL_law_688 (by decide) rfl ?_
    refine J_aload_n X (pc := 690) dL_law_690 4 rfl ?_
    refine J_aload_n X (pc := 691) dL_law_691 2 rfl ?_
    refine J_iload X (pc := 692) dL_law_692 1 rfl ?_
    refine J_iconst X (pc := 694) (v := 1) dL_law_694 (by decide +kernel) ?_
    refine J_iadd X (pc := 695) dL_law_695 ?_
    refine J_sld X (pc := 696) S hi1 dL_law_696 ?_
    refine J_nmi ea1 ?_
    refine J_perm (w1 := mW E am M ++ (outC E ao (vp_updL g 0 z.toInt64) :: cW E ad2 T)) (List.perm_append_comm (l₂ := mW E am M)) ?_
    refine J_callF0I X (pc := 697) (y := yX8_usual) (na := 1) (As := [.int a1]) (rest := []) (c_X8_usual E am hm) 0 mW_c0 rfl q_701 q_702 q_703 q_465 q_545 rfl (by decide +kernel) ⟨by decide +kernel, by decide +kernel⟩ rfl (Nat.le_of_ble_eq_true rfl) ⟨(by show _ ≤ 601024; omega), (by show _ ≤ 7293034; omega)⟩ dL_law_697 ?_
    refine J_istore X (pc := 700) (lv1 := [(6, .int z), (5, .int 0), (4, .int i), (0, .ref b), (1, .ref (ad.1 0)), (2, .ref (am 0)), (3, .ref ao)]) dL_law_700 (by decide) rfl ?_
    refine J_aload_n X (pc := 702) dL_law_702 5 rfl ?_
    refine J_callF0I X (pc := 703) (y := yX8_thrown) (na := 0) (As := []) (rest := []) (c_X8_thrown E am (S := M2) (r := M2.1 7) rfl) 0 mW_c0 rfl q_650 q_651 q_652 q_465 q_457 rfl (by decide +kernel) ⟨by decide +kernel, by decide +kernel⟩ rfl (Nat.le_of_ble_eq_true rfl) ⟨(by show _ ≤ 601024; omega), (by show _ ≤ 7293034; omega)⟩ dL_law_703 ?_
    refine J_perm (w1 := outC E ao (vp_updL g 0 z.toInt64) :: (cW E ad2 T ++ mW E am M2)) (List.perm_append_comm (l₂ := outC E ao (vp_updL g 0 z.toInt64) :: cW E ad2 T)) ?_
    refine J_iload X (pc := 706) dL_law_706 1 rfl ?_
    refine J_icmp_eq X (pc := 708) 713 dL_law_708 (by decide) (fun _ => ?_) (fun c => absurd ht c)
    refine J_iload X (pc := 713) dL_law_713 1 rfl ?_
    refine J_if_ne X (pc := 715) 730 dL_law_715 (by decide) (fun c => absurd rfl c) (fun _ => ?_)
    refine J_aload_n X (pc := 718) dL_law_718 6 rfl ?_
    refine J_iconst X (pc := 719) (v := 0) dL_law_719 (by decide +kernel) ?_
    refine J_lald X (pc := 720) 0 rfl ⟨by decide, by decide⟩ dL_law_720 ?_
    refine J_iload X (pc := 721) dL_law_721 0 rfl ?_
    refine J_i2l X (pc := 723) dL_law_723 ?_
    refine J_lcmp X (pc := 724) dL_law_724 ?_
    refine J_if_eq X (pc := 725) 730 dL_law_725 (by decide) (fun _ => ?_) (fun c => absurd (lg_self _ _ (updL0 g _)) c)
    refine J_goto X (pc := 730) 1088 dL_law_730 (by decide) ?_
    refine J_sub [2, 3, 4, 5, 6] rfl ?_
    exact kk ad2 _ T M2 hr2 had2
set_option maxRecDepth 100000 in
set_option maxHeartbeats 4000000 in
theorem law_forecast {E : Ev} {x : Cx} {Rel : TS → St → Prop} {k n b NN ao : Nat} {xs : Nat → Int32} {i : Int32} {ad : CA} {am : Nat → Nat} {g : Nat → Int64} {T : TS} {M : St} {xr : Nat} (X : Ok E x cL_law RL room_1 7) (XX : OkX E x) (XN : OkN x) (S : OkS x b NN xs) (hxr : ad.1 0 = xr) (hk : k + 40 ≤ 601024 ∧ n + 1000 ≤ 7293034) (hr : Rel T M) (hi1 : inb (i + 1) NN) (hi2 : inb (i + 2) NN) {a1 : Int32} (ea1 : a1 = xs (i + 1).toNatClampNeg) {a2 : Int32} (ea2 : a2 = xs (i + 2).toNatClampNeg) (st : R_forecast Rel) (kk : ∀ ad2 g2 T2 M2, Rel T2 M2 → ad2.1 0 = xr → J E x (k + 16) (n + 398) (outC E ao g2 :: (cW E ad2 T2 ++ mW E am M2)) 1088 [(4, .int i), (0, .ref b), (1, .ref xr), (2, .ref (am 0)), (3, .ref ao)] []) : J E x k n (outC E ao g :: (cW E ad T ++ mW E am M)) 733 [(4, .int i), (0, .ref b), (1, .ref xr), (2, .ref (am 0)), (3, .ref ao)] [] := by
  subst hxr
  obtain ⟨bb, M2, hm, hc⟩ := st T M a1 a2 hr
  simp only [ThrowAt, or_false] at hc
  rcases hc with (⟨T2, hx, ht, hr2⟩ | ⟨T2, hx, ht, hr2⟩ | ⟨T2, hx, ht, hr2⟩) | ⟨T2, hf, ht, hr2⟩
  · skip
    refine J_aload_n X (pc := 733) dL_law_733 2 rfl ?_
    refine J_aload_n X (pc := 734) dL_law_734 1 rfl ?_
    refine J_iload X (pc := 735) dL_law_735 0 rfl ?_
    refine J_iconst X (pc := 737) (v := 1) dL_law_737 (by decide +kernel) ?_
    refine J_iadd X (pc := 738) dL_law_738 ?_
    refine J_sld X (pc := 739) S hi1 dL_law_739 ?_
    refine J_nmi ea1 ?_
    refine J_aload_n X (pc := 740) dL_law_740 1 rfl ?_
    refine J_iload X (pc := 741) dL_law_741 0 rfl ?_
    refine J_iconst X (pc := 743) (v := 2) dL_law_743 (by decide +kernel) ?_
    refine J_iadd X (pc := 744) dL_law_744 ?_
    refine J_sld X (pc := 745) S hi2 dL_law_745 ?_
    refine J_nmi ea2 ?_
    refine J_aload_n X (pc := 746) dL_law_746 4 rfl ?_
    refine J_callH (w1 := outC E ao g :: cW E ad T) (rw := mW E am M) X XX XN (pc := 747) (na := 4) (As := [.ref (ad.1 0), .int a1, .int a2, .ref ao]) (rest := []) (hx_forecast_1 E ad ao g hx) q_704 q_705 q_646 q_614 rfl (by decide +kernel) ⟨by decide +kernel, by decide +kernel⟩ rfl (Nat.le_of_ble_eq_true rfl) ⟨(by show _ ≤ 601024; omega), (by show _ ≤ 7293034; omega)⟩ dL_law_747 (fun ad2 had2 => ?_)
    refine J_istore X (pc := 750) (lv1 := [(5, .int 1), (4, .int i), (0, .ref b), (1, .ref (ad.1 0)), (2, .ref (am 0)), (3, .ref ao)]) dL_law_750 (by decide) rfl ?_
    refine J_aload_n X (pc := 752) dL_law_752 4 rfl ?_
    refine J_aload_n X (pc := 753) dL_law_753 2 rfl ?_
    refine J_iload X (pc := 754) dL_law_754 1 rfl ?_
    refine J_iconst X (pc := 756) (v := 1) dL_law_756 (by decide +kernel) ?_
    refine J_iadd X (pc := 757) dL_law_757 ?_
    refine J_sld X (pc := 758) S hi1 dL_law_758 ?_
    refine J_nmi ea1 ?_
    refine J_aload_n X (pc := 759) dL_law_759 2 rfl ?_
    refine J_iload X (pc := 760) dL_law_760 1 rfl ?_
    refine J_iconst X (pc := 762) (v := 2) dL_law_762 (by decide +kernel) ?_
    refine J_iadd X (pc := 763) dL_law_763 ?_
    refine J_sld X (pc := 764) S hi2 dL_law_764 ?_
    refine J_nmi ea2 ?_
    refine J_perm (w1 := mW E am M ++ (outC E ao g :: cW E ad2 T2)) (List.perm_append_comm (l₂ := mW E am M)) ?_
    refine J_callF0I X (pc := 765) (y := yX8_forecast) (na := 2) (As := [.int a1, .int a2]) (rest := []) (c_X8_forecast E am hm) 0 mW_c0 rfl q_706 q_707 q_708 q_465 q_546 rfl (by decide +kernel) ⟨by decide +kernel, by decide +kernel⟩ rfl (Nat.le_of_ble_eq_true rfl) ⟨(by show _ ≤ 601024; omega), (by show _ ≤ 7293034; omega)⟩ dL_law_765 ?_
    refine J_istore X (pc := 768) (lv1 := [(6, .int bb), (5, .int 1), (4, .int i), (0, .ref b), (1, .ref (ad.1 0)), (2, .ref (am 0)), (3, .ref ao)]) dL_law_768 (by decide) rfl ?_
    refine J_aload_n X (pc := 770) dL_law_770 5 rfl ?_
    refine J_callF0I X (pc := 771) (y := yX8_thrown) (na := 0) (As := []) (rest := []) (c_X8_thrown E am (S := M2) (r := M2.1 7) rfl) 0 mW_c0 rfl q_650 q_651 q_652 q_465 q_457 rfl (by decide +kernel) ⟨by decide +kernel, by decide +kernel⟩ rfl (Nat.le_of_ble_eq_true rfl) ⟨(by show _ ≤ 601024; omega), (by show _ ≤ 7293034; omega)⟩ dL_law_771 ?_
    refine J_perm (w1 := outC E ao g :: (cW E ad2 T2 ++ mW E am M2)) (List.perm_append_comm (l₂ := outC E ao g :: cW E ad2 T2)) ?_
    refine J_iload X (pc := 774) dL_law_774 1 rfl ?_
    refine J_icmp_eq X (pc := 776) 781 dL_law_776 (by decide) (fun _ => ?_) (fun c => absurd ht c)
    refine J_iload X (pc := 781) dL_law_781 1 rfl ?_
    refine J_if_ne X (pc := 783) 798 dL_law_783 (by decide) (fun _ => ?_) (fun c => absurd c (by decide))
    refine J_goto X (pc := 798) 1088 dL_law_798 (by decide) ?_
    refine J_sub [2, 3, 4, 5, 6] rfl ?_
    exact kk ad2 _ T2 M2 hr2 had2
  · skip
    refine J_aload_n X (pc := 733) dL_law_733 2 rfl ?_
    refine J_aload_n X (pc := 734) dL_law_734 1 rfl ?_
    refine J_iload X (pc := 735) dL_law_735 0 rfl ?_
    refine J_iconst X (pc := 737) (v := 1) dL_law_737 (by decide +kernel) ?_
    refine J_iadd X (pc := 738) dL_law_738 ?_
    refine J_sld X (pc := 739) S hi1 dL_law_739 ?_
    refine J_nmi ea1 ?_
    refine J_aload_n X (pc := 740) dL_law_740 1 rfl ?_
    refine J_iload X (pc := 741) dL_law_741 0 rfl ?_
    refine J_iconst X (pc := 743) (v := 2) dL_law_743 (by decide +kernel) ?_
    refine J_iadd X (pc := 744) dL_law_744 ?_
    refine J_sld X (pc := 745) S hi2 dL_law_745 ?_
    refine J_nmi ea2 ?_
    refine J_aload_n X (pc := 746) dL_law_746 4 rfl ?_
    refine J_callH (w1 := outC E ao g :: cW E ad T) (rw := mW E am M) X XX XN (pc := 747) (na := 4) (As := [.ref (ad.1 0), .int a1, .int a2, .ref ao]) (rest := []) (hx_forecast_2 E ad ao g hx) q_704 q_705 q_646 q_614 rfl (by decide +kernel) ⟨by decide +kernel, by decide +kernel⟩ rfl (Nat.le_of_ble_eq_true rfl) ⟨(by show _ ≤ 601024; omega), (by show _ ≤ 7293034; omega)⟩ dL_law_747 (fun ad2 had2 => ?_)
    refine J_istore X (pc := 750) (lv1 := [(5, .int 2), (4, .int i), (0, .ref b), (1, .ref (ad.1 0)), (2, .ref (am 0)), (3, .ref ao)]) dL_law_750 (by decide) rfl ?_
    refine J_aload_n X (pc := 752) dL_law_752 4 rfl ?_
    refine J_aload_n X (pc := 753) dL_law_753 2 rfl ?_
    refine J_iload X (pc := 754) dL_law_754 1 rfl ?_
    refine J_iconst X (pc := 756) (v := 1) dL_law_756 (by decide +kernel) ?_
    refine J_iadd X (pc := 757) dL_law_757 ?_
    refine J_sld X (pc := 758) S hi1 dL_law_758 ?_
    refine J_nmi ea1 ?_
    refine J_aload_n X (pc := 759) dL_law_759 2 rfl ?_
    refine J_iload X (pc := 760) dL_law_760 1 rfl ?_
    refine J_iconst X (pc := 762) (v := 2) dL_law_762 (by decide +kernel) ?_
    refine J_iadd X (pc := 763) dL_law_763 ?_
    refine J_sld X (pc := 764) S hi2 dL_law_764 ?_
    refine J_nmi ea2 ?_
    refine J_perm (w1 := mW E am M ++ (outC E ao g :: cW E ad2 T2)) (List.perm_append_comm (l₂ := mW E am M)) ?_
    refine J_callF0I X (pc := 765) (y := yX8_forecast) (na := 2) (As := [.int a1, .int a2]) (rest := []) (c_X8_forecast E am hm) 0 mW_c0 rfl q_706 q_707 q_708 q_465 q_546 rfl (by decide +kernel) ⟨by decide +kernel, by decide +kernel⟩ rfl (Nat.le_of_ble_eq_true rfl) ⟨(by show _ ≤ 601024; omega), (by show _ ≤ 7293034; omega)⟩ dL_law_765 ?_
    refine J_istore X (pc := 768) (lv1 := [(6, .int bb), (5, .int 2), (4, .int i), (0, .ref b), (1, .ref (ad.1 0)), (2, .ref (am 0)), (3, .ref ao)]) dL_law_768 (by decide) rfl ?_
    refine J_aload_n X (pc := 770) dL_law_770 5 rfl ?_
    refine J_callF0I X (pc := 771) (y := yX8_thrown) (na := 0) (As := []) (rest := []) (c_X8_thrown E am (S := M2) (r := M2.1 7) rfl) 0 mW_c0 rfl q_650 q_651 q_652 q_465 q_457 rfl (by decide +kernel) ⟨by decide +kernel, by decide +kernel⟩ rfl (Nat.le_of_ble_eq_true rfl) ⟨(by show _ ≤ 601024; omega), (by show _ ≤ 7293034; omega)⟩ dL_law_771 ?_
    refine J_perm (w1 := outC E ao g :: (cW E ad2 T2 ++ mW E am M2)) (List.perm_append_comm (l₂ := outC E ao g :: cW E ad2 T2)) ?_
    refine J_iload X (pc := 774) dL_law_774 1 rfl ?_
    refine J_icmp_eq X (pc := 776) 781 dL_law_776 (by decide) (fun _ => ?_) (fun c => absurd ht c)
    refine J_iload X (pc := 781) dL_law_781 1 rfl ?_
    refine J_if_ne X (pc := 783) 798 dL_law_783 (by decide) (fun _ => ?_) (fun c => absurd c (by decide))
    refine J_goto X (pc := 798) 1088 dL_law_798 (by decide) ?_
    refine J_sub [2, 3, 4, 5, 6] rfl ?_
    exact kk ad2 _ T2 M2 hr2 had2
  · skip
    refine J_aload_n X (pc := 733) dL_law_733 2 rfl ?_
    refine J_aload_n X (pc := 734) dL_law_734 1 rfl ?_
    refine J_iload X (pc := 735) dL_law_735 0 rfl ?_
    refine J_iconst X (pc := 737) (v := 1) dL_law_737 (by decide +kernel) ?_
    refine J_iadd X (pc := 738) dL_law_738 ?_
    refine J_sld X (pc := 739) S hi1 dL_law_739 ?_
    refine J_nmi ea1 ?_
    refine J_aload_n X (pc := 740) dL_law_740 1 rfl ?_
    refine J_iload X (pc := 741) dL_law_741 0 rfl ?_
    refine J_iconst X (pc := 743) (v := 2) dL_law_743 (by decide +kernel) ?_
    refine J_iadd X (pc := 744) dL_law_744 ?_
    refine J_sld X (pc := 745) S hi2 dL_law_745 ?_
    refine J_nmi ea2 ?_
    refine J_aload_n X (pc := 746) dL_law_746 4 rfl ?_
    refine J_callH (w1 := outC E ao g :: cW E ad T) (rw := mW E am M) X XX XN (pc := 747) (na := 4) (As := [.ref (ad.1 0), .int a1, .int a2, .ref ao]) (rest := []) (hx_forecast_3 E ad ao g hx) q_704 q_705 q_646 q_614 rfl (by decide +kernel) ⟨by decide +kernel, by decide +kernel⟩ rfl (Nat.le_of_ble_eq_true rfl) ⟨(by show _ ≤ 601024; omega), (by show _ ≤ 7293034; omega)⟩ dL_law_747 (fun ad2 had2 => ?_)
    refine J_istore X (pc := 750) (lv1 := [(5, .int 3), (4, .int i), (0, .ref b), (1, .ref (ad.1 0)), (2, .ref (am 0)), (3, .ref ao)]) dL_law_750 (by decide) rfl ?_
    refine J_aload_n X (pc := 752) dL_law_752 4 rfl ?_
    refine J_aload_n X (pc := 753) dL_law_753 2 rfl ?_
    refine J_iload X (pc := 754) dL_law_754 1 rfl ?_
    refine J_iconst X (pc := 756) (v := 1) dL_law_756 (by decide +kernel) ?_
    refine J_iadd X (pc := 757) dL_law_757 ?_
    refine J_sld X (pc := 758) S hi1 dL_law_758 ?_
    refine J_nmi ea1 ?_
    refine J_aload_n X (pc := 759) dL_law_759 2 rfl ?_
    refine J_iload X (pc := 760) dL_law_760 1 rfl ?_
    refine J_iconst X (pc := 762) (v := 2) dL_law_762 (by decide +kernel) ?_
    refine J_iadd X (pc := 763) dL_law_763 ?_
    refine J_sld X (pc := 764) S hi2 dL_law_764 ?_
    refine J_nmi ea2 ?_
    refine J_perm (w1 := mW E am M ++ (outC E ao g :: cW E ad2 T2)) (List.perm_append_comm (l₂ := mW E am M)) ?_
    refine J_callF0I X (pc := 765) (y := yX8_forecast) (na := 2) (As := [.int a1, .int a2]) (rest := []) (c_X8_forecast E am hm) 0 mW_c0 rfl q_706 q_707 q_708 q_465 q_546 rfl (by decide +kernel) ⟨by decide +kernel, by decide +kernel⟩ rfl (Nat.le_of_ble_eq_true rfl) ⟨(by show _ ≤ 601024; omega), (by show _ ≤ 7293034; omega)⟩ dL_law_765 ?_
    refine J_istore X (pc := 768) (lv1 := [(6, .int bb), (5, .int 3), (4, .int i), (0, .ref b), (1, .ref (ad.1 0)), (2, .ref (am 0)), (3, .ref ao)]) dL_law_768 (by decide) rfl ?_
    refine J_aload_n X (pc := 770) dL_law_770 5 rfl ?_
    refine J_callF0I X (pc := 771) (y := yX8_thrown) (na := 0) (As := []) (rest := []) (c_X8_thrown E am (S := M2) (r := M2.1 7) rfl) 0 mW_c0 rfl q_650 q_651 q_652 q_465 q_457 rfl (by decide +kernel) ⟨by decide +kernel, by decide +kernel⟩ rfl (Nat.le_of_ble_eq_true rfl) ⟨(by show _ ≤ 601024; omega), (by show _ ≤ 7293034; omega)⟩ dL_law_771 ?_
    refine J_perm (w1 := outC E ao g :: (cW E ad2 T2 ++ mW E am M2)) (List.perm_append_comm (l₂ := outC E ao g :: cW E ad2 T2)) ?_
    refine J_iload X (pc := 774) dL_law_774 1 rfl ?_
    refine J_icmp_eq X (pc := 776) 781 dL_law_776 (by decide) (fun _ => ?_) (fun c => absurd ht c)
    refine J_iload X (pc := 781) dL_law_781 1 rfl ?_
    refine J_if_ne X (pc := 783) 798 dL_law_783 (by decide) (fun _ => ?_) (fun c => absurd c (by decide))
    refine J_goto X (pc := 798) 1088 dL_law_798 (by decide) ?_
    refine J_sub [2, 3, 4, 5, 6] rfl ?_
    exact kk ad2 _ T2 M2 hr2 had2
  · skip
    refine J_aload_n X (pc := 733) dL_law_733 2 rfl ?_
    refine J_aload_n X (pc := 734) dL_law_734 1 rfl ?_
    refine J_iload X (pc := 735) dL_law_735 0 rfl ?_
    refine J_iconst X (pc := 737) (v := 1) dL_law_737 (by decide +kernel) ?_
    refine J_iadd X (pc := 738) dL_law_738 ?_
    refine J_sld X (pc := 739) S hi1 dL_law_739 ?_
    refine J_nmi ea1 ?_
    refine J_aload_n X (pc := 740) dL_law_740 1 rfl ?_
    refine J_iload X (pc := 741) dL_law_741 0 rfl ?_
    refine J_iconst X (pc := 743) (v := 2) dL_law_743 (by decide +kernel) ?_
    refine J_iadd X (pc := 744) dL_law_744 ?_
    refine J_sld X (pc := 745) S hi2 dL_law_745 ?_
    refine J_nmi ea2 ?_
    refine J_aload_n X (pc := 746) dL_law_746 4 rfl ?_
    refine J_callH (w1 := outC E ao g :: cW E ad T) (rw := mW E am M) X XX XN (pc := 747) (na := 4) (As := [.ref (ad.1 0), .int a1, .int a2, .ref ao]) (rest := []) (h_forecast E ad ao g hf) q_704 q_705 q_646 q_614 rfl (by decide +kernel) ⟨by decide +kernel, by decide +kernel⟩ rfl (Nat.le_of_ble_eq_true rfl) ⟨(by show _ ≤ 601024; omega), (by show _ ≤ 7293034; omega)⟩ dL_law_747 (fun ad2 had2 => ?_)
    refine J_istore X (pc := 750) (lv1 := [(5, .int 0), (4, .int i), (0, .ref b), (1, .ref (ad.1 0)), (2, .ref (am 0)), (3, .ref ao)]) dL_law_750 (by decide) rfl ?_
    refine J_aload_n X (pc := 752) dL_law_752 4 rfl ?_
    refine J_aload_n X (pc := 753) dL_law_753 2 rfl ?_
    refine J_iload X (pc := 754) dL_law_754 1 rfl ?_
    refine J_iconst X (pc := 756) (v := 1) dL_law_756 (by decide +kernel) ?_
    refine J_iadd X (pc := 757) dL_law_757 ?_
    refine J_sld X (pc := 758) S hi1 dL_law_758 ?_
    refine J_nmi ea1 ?_
    refine J_aload_n X (pc := 759) dL_law_759 2 rfl ?_
    refine J_iload X (pc := 760) dL_law_760 1 rfl ?_
    refine J_iconst X (pc := 762) (v := 2) dL_law_762 (by decide +kernel) ?_
    refine J_iadd X (pc := 763) dL_law_763 ?_
    refine J_sld X (pc := 764) S hi2 dL_law_764 ?_
    refine J_nmi ea2 ?_
    refine J_perm (w1 := mW E am M ++ (outC E ao (vp_updL g 0 bb.toInt64) :: cW E ad2 T2)) (List.perm_append_comm (l₂ := mW E am M)) ?_
    refine J_callF0I X (pc := 765) (y := yX8_forecast) (na := 2) (As := [.int a1, .int a2]) (rest := []) (c_X8_forecast E am hm) 0 mW_c0 rfl q_706 q_707 q_708 q_465 q_546 rfl (by decide +kernel) ⟨by decide +kernel, by decide +kernel⟩ rfl (Nat.le_of_ble_eq_true rfl) ⟨(by show _ ≤ 601024; omega), (by show _ ≤ 7293034; omega)⟩ dL_law_765 ?_
    refine J_istore X (pc := 768) (lv1 := [(6, .int bb), (5, .int 0), (4, .int i), (0, .ref b), (1, .ref (ad.1 0)), (2, .ref (am 0)), (3, .ref ao)]) dL_law_768 (by decide) rfl ?_
    refine J_aload_n X (pc := 770) dL_law_770 5 rfl ?_
    refine J_callF0I X (pc := 771) (y := yX8_thrown) (na := 0) (As := []) (rest := []) (c_X8_thrown E am (S := M2) (r := M2.1 7) rfl) 0 mW_c0 rfl q_650 q_651 q_652 q_465 q_457 rfl (by decide +kernel) ⟨by decide +kernel, by decide +kernel⟩ rfl (Nat.le_of_ble_eq_true rfl) ⟨(by show _ ≤ 601024; omega), (by show _ ≤ 7293034; omega)⟩ dL_law_771 ?_
    refine J_perm (w1 := outC E ao (vp_updL g 0 bb.toInt64) :: (cW E ad2 T2 ++ mW E am M2)) (List.perm_append_comm (l₂ := outC E ao (vp_updL g 0 bb.toInt64) :: cW E ad2 T2)) ?_
    refine J_iload X (pc := 774) dL_law_774 1 rfl ?_
    refine J_icmp_eq X (pc := 776) 781 dL_law_776 (by decide) (fun _ => ?_) (fun c => absurd ht c)
    refine J_iload X (pc := 781) dL_law_781 1 rfl ?_
    refine J_if_ne X (pc := 783) 798 dL_law_783 (by decide) (fun c => absurd rfl c) (fun _ => ?_)
    refine J_aload_n X (pc := 786) dL_law_786 6 rfl ?_
    refine J_iconst X (pc := 787) (v := 0) dL_law_787 (by decide +kernel) ?_
    refine J_lald X (pc := 788) 0 rfl ⟨by decide, by decide⟩ dL_law_788 ?_
    refine J_iload X (pc := 789) dL_law_789 0 rfl ?_
    refine J_i2l X (pc := 791) dL_law_791 ?_
    refine J_lcmp X (pc := 792) dL_law_792 ?_
    refine J_if_eq X (pc := 793) 798 dL_law_793 (by decide) (fun _ => ?_) (fun c => absurd (lg_self _ _ (updL0 g _)) c)
    refine J_goto X (pc := 798) 1088 dL_law_798 (by decide) ?_
    refine J_sub [2, 3, 4, 5, 6] rfl ?_
    exact kk ad2 _ T2 M2 hr2 had2
set_option maxRecDepth 100000 in
set_option maxHeartbeats 4000000 in
theorem law_full {E : Ev} {x : Cx} {Rel : TS → St → Prop} {k n b NN ao : Nat} {xs : Nat → Int32} {i : Int32} {ad : CA} {am : Nat → Nat} {g : Nat → Int64} {T : TS} {M : St} {xr : Nat} (X : Ok E x cL_law RL room_1 7) (XX : OkX E x) (XN : OkN x) (S : OkS x b NN xs) (hxr : ad.1 0 = xr) (hk : k + 40 ≤ 601024 ∧ n + 1000 ≤ 7293034) (hr : Rel T M) (hi1 : inb (i + 1) NN) {a1 : Int32} (ea1 : a1 = xs (i + 1).toNatClampNeg) (st : R_full Rel) (kk : ∀ ad2 g2 T2 M2, Rel T2 M2 → ad2.1 0 = xr → J E x (k + 16) (n + 398) (outC E ao g2 :: (cW E ad2 T2 ++ mW E am M2)) 1088 [(4, .int i), (0, .ref b), (1, .ref xr), (2, .ref (am 0)), (3, .ref ao)] []) : J E x k n (outC E ao g :: (cW E ad T ++ mW E am M)) 801 [(4, .int i), (0, .ref b), (1, .ref xr), (2, .ref (am 0)), (3, .ref ao)] [] := by
  subst hxr
  obtain ⟨bb, M2, hm, hc⟩ := st T M a1 hr
  simp only [ThrowAt, or_false] at hc
  rcases hc with ⟨T2, hx, ht, hr2⟩ | ⟨T2, hf, ht, hr2⟩
  · skip
    refine J_aload_n X (pc := 801) dL_law_801 2 rfl ?_
    refine J_aload_n X (pc := 802) dL_law_802 1 rfl ?_
    refine J_iload X (pc := 803) dL_law_803 0 rfl ?_
    refine J_iconst X (pc := 805) (v := 1) dL_law_805 (by decide +kernel) ?_
    refine J_iadd X (pc := 806) dL_law_806 ?_
    refine J_sld X (pc := 807) S hi1 dL_law_807 ?_
    refine J_nmi ea1 ?_
    refine J_aload_n X (pc := 808) dL_law_808 4 rfl ?_
    refine J_callH (w1 := outC E ao g :: cW E ad T) (rw := mW E am M) X XX XN (pc := 809) (na := 3) (As := [.ref (ad.1 0), .int a1, .ref ao]) (rest := []) (hx_full_1 E ad ao g hx) q_709 q_710 q_646 q_618 rfl (by decide +kernel) ⟨by decide +kernel, by decide +kernel⟩ rfl (Nat.le_of_ble_eq_true rfl) ⟨(by show _ ≤ 601024; omega), (by show _ ≤ 7293034; omega)⟩ dL_law_809 (fun ad2 had2 => ?_)
    refine J_istore X (pc := 812) (lv1 := [(5, .int 1), (4, .int i), (0, .ref b), (1, .ref (ad.1 0)), (2, .ref (am 0)), (3, .ref ao)]) dL_law_812 (by decide) rfl ?_
    refine J_aload_n X (pc := 814) dL_law_814 4 rfl ?_
    refine J_aload_n X (pc := 815) dL_law_815 2 rfl ?_
    refine J_iload X (pc := 816) dL_law_816 1 rfl ?_
    refine J_iconst X (pc := 818) (v := 1) dL_law_818 (by decide +kernel) ?_
    refine J_iadd X (pc := 819) dL_law_819 ?_
    refine J_sld X (pc := 820) S hi1 dL_law_820 ?_
    refine J_nmi ea1 ?_
    refine J_perm (w1 := mW E am M ++ (outC E ao g :: cW E ad2 T2)) (List.perm_append_comm (l₂ := mW E am M)) ?_
    refine J_callF0I X (pc := 821) (y := yX8_full) (na := 1) (As := [.int a1]) (rest := []) (c_X8_full E am hm) 0 mW_c0 rfl q_711 q_712 q_713 q_465 q_550 rfl (by decide +kernel) ⟨by decide +kernel, by decide +kernel⟩ rfl (Nat.le_of_ble_eq_true rfl) ⟨(by show _ ≤ 601024; omega), (by show _ ≤ 7293034; omega)⟩ dL_law_821 ?_
    refine J_istore X (pc := 824) (lv1 := [(6, .int bb), (5, .int 1), (4, .int i), (0, .ref b), (1, .ref (ad.1 0)), (2, .ref (am 0)), (3, .ref ao)]) dL_law_824 (by decide) rfl ?_
    refine J_aload_n X (pc := 826) dL_law_826 5 rfl ?_
    refine J_callF0I X (pc := 827) (y := yX8_thrown) (na := 0) (As := []) (rest := []) (c_X8_thrown E am (S := M2) (r := M2.1 7) rfl) 0 mW_c0 rfl q_650 q_651 q_652 q_465 q_457 rfl (by decide +kernel) ⟨by decide +kernel, by decide +kernel⟩ rfl (Nat.le_of_ble_eq_true rfl) ⟨(by show _ ≤ 601024; omega), (by show _ ≤ 7293034; omega)⟩ dL_law_827 ?_
    refine J_perm (w1 := outC E ao g :: (cW E ad2 T2 ++ mW E am M2)) (List.perm_append_comm (l₂ := outC E ao g :: cW E ad2 T2)) ?_
    refine J_iload X (pc := 830) dL_law_830 1 rfl ?_
    refine J_icmp_eq X (pc := 832) 837 dL_law_832 (by decide) (fun _ => ?_) (fun c => absurd ht c)
    refine J_iload X (pc := 837) dL_law_837 1 rfl ?_
    refine J_if_ne X (pc := 839) 854 dL_law_839 (by decide) (fun _ => ?_) (fun c => absurd c (by decide))
    refine J_goto X (pc := 854) 1088 dL_law_854 (by decide) ?_
    refine J_sub [2, 3, 4, 5, 6] rfl ?_
    exact kk ad2 _ T2 M2 hr2 had2
  · skip
    refine J_aload_n X (pc := 801) dL_law_801 2 rfl ?_
    refine J_aload_n X (pc := 802) dL_law_802 1 rfl ?_
    refine J_iload X (pc := 803) dL_law_803 0 rfl ?_
    refine J_iconst X (pc := 805) (v := 1) dL_law_805 (by decide +kernel) ?_
    refine J_iadd X (pc := 806) dL_law_806 ?_
    refine J_sld X (pc := 807) S hi1 dL_law_807 ?_
    refine J_nmi ea1 ?_
    refine J_aload_n X (pc := 808) dL_law_808 4 rfl ?_
    refine J_callH (w1 := outC E ao g :: cW E ad T) (rw := mW E am M) X XX XN (pc := 809) (na := 3) (As := [.ref (ad.1 0), .int a1, .ref ao]) (rest := []) (h_full E ad ao g hf) q_709 q_710 q_646 q_618 rfl (by decide +kernel) ⟨by decide +kernel, by decide +kernel⟩ rfl (Nat.le_of_ble_eq_true rfl) ⟨(by show _ ≤ 601024; omega), (by show _ ≤ 7293034; omega)⟩ dL_law_809 (fun ad2 had2 => ?_)
    refine J_istore X (pc := 812) (lv1 := [(5, .int 0), (4, .int i), (0, .ref b), (1, .ref (ad.1 0)), (2, .ref (am 0)), (3, .ref ao)]) dL_law_812 (by decide) rfl ?_
    refine J_aload_n X (pc := 814) dL_law_814 4 rfl ?_
    refine J_aload_n X (pc := 815) dL_law_815 2 rfl ?_
    refine J_iload X (pc := 816) dL_law_816 1 rfl ?_
    refine J_iconst X (pc := 818) (v := 1) dL_law_818 (by decide +kernel) ?_
    refine J_iadd X (pc := 819) dL_law_819 ?_
    refine J_sld X (pc := 820) S hi1 dL_law_820 ?_
    refine J_nmi ea1 ?_
    refine J_perm (w1 := mW E am M ++ (outC E ao (vp_updL g 0 bb.toInt64) :: cW E ad2 T2)) (List.perm_append_comm (l₂ := mW E am M)) ?_
    refine J_callF0I X (pc := 821) (y := yX8_full) (na := 1) (As := [.int a1]) (rest := []) (c_X8_full E am hm) 0 mW_c0 rfl q_711 q_712 q_713 q_465 q_550 rfl (by decide +kernel) ⟨by decide +kernel, by decide +kernel⟩ rfl (Nat.le_of_ble_eq_true rfl) ⟨(by show _ ≤ 601024; omega), (by show _ ≤ 7293034; omega)⟩ dL_law_821 ?_
    refine J_istore X (pc := 824) (lv1 := [(6, .int bb), (5, .int 0), (4, .int i), (0, .ref b), (1, .ref (ad.1 0)), (2, .ref (am 0)), (3, .ref ao)]) dL_law_824 (by decide) rfl ?_
    refine J_aload_n X (pc := 826) dL_law_826 5 rfl ?_
    refine J_callF0I X (pc := 827) (y := yX8_thrown) (na := 0) (As := []) (rest := []) (c_X8_thrown E am (S := M2) (r := M2.1 7) rfl) 0 mW_c0 rfl q_650 q_651 q_652 q_465 q_457 rfl (by decide +kernel) ⟨by decide +kernel, by decide +kernel⟩ rfl (Nat.le_of_ble_eq_true rfl) ⟨(by show _ ≤ 601024; omega), (by show _ ≤ 7293034; omega)⟩ dL_law_827 ?_
    refine J_perm (w1 := outC E ao (vp_updL g 0 bb.toInt64) :: (cW E ad2 T2 ++ mW E am M2)) (List.perm_append_comm (l₂ := outC E ao (vp_updL g 0 bb.toInt64) :: cW E ad2 T2)) ?_
    refine J_iload X (pc := 830) dL_law_830 1 rfl ?_
    refine J_icmp_eq X (pc := 832) 837 dL_law_832 (by decide) (fun _ => ?_) (fun c => absurd ht c)
    refine J_iload X (pc := 837) dL_law_837 1 rfl ?_
    refine J_if_ne X (pc := 839) 854 dL_law_839 (by decide) (fun c => absurd rfl c) (fun _ => ?_)
    refine J_aload_n X (pc := 842) dL_law_842 6 rfl ?_
    refine J_iconst X (pc := 843) (v := 0) dL_law_843 (by decide +kernel) ?_
    refine J_lald X (pc := 844) 0 rfl ⟨by decide, by decide⟩ dL_law_844 ?_
    refine J_iload X (pc := 845) dL_law_845 0 rfl ?_
    refine J_i2l X (pc := 847) dL_law_847 ?_
    refine J_lcmp X (pc := 848) dL_law_848 ?_
    refine J_if_eq X (pc := 849) 854 dL_law_849 (by decide) (fun _ => ?_) (fun c => absurd (lg_self _ _ (updL0 g _)) c)
    refine J_goto X (pc := 854) 1088 dL_law_854 (by decide) ?_
    refine J_sub [2, 3, 4, 5, 6] rfl ?_
    exact kk ad2 _ T2 M2 hr2 had2
set_option maxRecDepth 100000 in
set_option maxHeartbeats 4000000 in
theorem law_early {E : Ev} {x : Cx} {Rel : TS → St → Prop} {k n b NN ao : Nat} {xs : Nat → Int32} {i : Int32} {ad : CA} {am : Nat → Nat} {g : Nat → Int64} {T : TS} {M : St} {xr : Nat} (X : Ok E x cL_law RL room_1 7) (XX : OkX E x) (XN : OkN x) (S : OkS x b NN xs) (hxr : ad.1 0 = xr) (hk : k + 40 ≤ 601024 ∧ n + 1000 ≤ 7293034) (hr : Rel T M) (hi1 : inb (i + 1) NN) {a1 : Int32} (ea1 : a1 = xs (i + 1).toNatClampNeg) (st : R_early Rel) (kk : ∀ ad2 g2 T2 M2, Rel T2 M2 → ad2.1 0 = xr → J E x (k + 16) (n + 398) (outC E ao g2 :: (cW E ad2 T2 ++ mW E am M2)) 1088 [(4, .int i), (0, .ref b), (1, .ref xr), (2, .ref (am 0)), (3, .ref ao)] []) : J E x k n (outC E ao g :: (cW E ad T ++ mW E am M)) 857 [(4, .int i), (0, .ref b), (1, .ref xr), (2, .ref (am 0)), (3, .ref ao)] [] := by
  subst hxr
  obtain ⟨bb, M2, hm, hc⟩ := st T M a1 hr
  simp only [ThrowAt, or_false] at hc
  rcases hc with ⟨T2, hx, ht, hr2⟩ | ⟨T2, hf, ht, hr2⟩
  · skip
    refine J_aload_n X (pc := 857) dL_law_857 2 rfl ?_
    refine J_aload_n X (pc := 858) dL_law_858 1 rfl ?_
    refine J_iload X (pc := 859) dL_law_859 0 rfl ?_
    refine J_iconst X (pc := 861) (v := 1) dL_law_861 (by decide +kernel) ?_
    refine J_iadd X (pc := 862) dL_law_862 ?_
    refine J_sld X (pc := 863) S hi1 dL_law_863 ?_
    refine J_nmi ea1 ?_
    refine J_aload_n X (pc := 864) dL_law_864 4 rfl ?_
    refine J_callH (w1 := outC E ao g :: cW E ad T) (rw := mW E am M) X XX XN (pc := 865) (na := 3) (As := [.ref (ad.1 0), .int a1, .ref ao]) (rest := []) (hx_early_1 E ad ao g hx) q_714 q_715 q_646 q_622 rfl (by decide +kernel) ⟨by decide +kernel, by decide +kernel⟩ rfl (Nat.le_of_ble_eq_true rfl) ⟨(by show _ ≤ 601024; omega), (by show _ ≤ 7293034; omega)⟩ dL_law_865 (fun ad2 had2 => ?_)
    refine J_istore X (pc := 868) (lv1 := [(5, .int 1), (4, .int i), (0, .ref b), (1, .ref (ad.1 0)), (2, .ref (am 0)), (3, .ref ao)]) dL_law_868 (by decide) rfl ?_
    refine J_aload_n X (pc := 870) dL_law_870 4 rfl ?_
    refine J_aload_n X (pc := 871) dL_law_871 2 rfl ?_
    refine J_iload X (pc := 872) dL_law_872 1 rfl ?_
    refine J_iconst X (pc := 874) (v := 1) dL_law_874 (by decide +kernel) ?_
    refine J_iadd X (pc := 875) dL_law_875 ?_
    refine J_sld X (pc := 876) S hi1 dL_law_876 ?_
    refine J_nmi ea1 ?_
    refine J_perm (w1 := mW E am M ++ (outC E ao g :: cW E ad2 T2)) (List.perm_append_comm (l₂ := mW E am M)) ?_
    refine J_callF0I X (pc := 877) (y := yX8_early) (na := 1) (As := [.int a1]) (rest := []) (c_X8_early E am hm) 0 mW_c0 rfl q_716 q_717 q_718 q_465 q_551 rfl (by decide +kernel) ⟨by decide +kernel, by decide +kernel⟩ rfl (Nat.le_of_ble_eq_true rfl) ⟨(by show _ ≤ 601024; omega), (by show _ ≤ 7293034; omega)⟩ dL_law_877 ?_
    refine J_istore X (pc := 880) (lv1 := [(6, .int bb), (5, .int 1), (4, .int i), (0, .ref b), (1, .ref (ad.1 0)), (2, .ref (am 0)), (3, .ref ao)]) dL_law_880 (by decide) rfl ?_
    refine J_aload_n X (pc := 882) dL_law_882 5 rfl ?_
    refine J_callF0I X (pc := 883) (y := yX8_thrown) (na := 0) (As := []) (rest := []) (c_X8_thrown E am (S := M2) (r := M2.1 7) rfl) 0 mW_c0 rfl q_650 q_651 q_652 q_465 q_457 rfl (by decide +kernel) ⟨by decide +kernel, by decide +kernel⟩ rfl (Nat.le_of_ble_eq_true rfl) ⟨(by show _ ≤ 601024; omega), (by show _ ≤ 7293034; omega)⟩ dL_law_883 ?_
    refine J_perm (w1 := outC E ao g :: (cW E ad2 T2 ++ mW E am M2)) (List.perm_append_comm (l₂ := outC E ao g :: cW E ad2 T2)) ?_
    refine J_iload X (pc := 886) dL_law_886 1 rfl ?_
    refine J_icmp_eq X (pc := 888) 893 dL_law_888 (by decide) (fun _ => ?_) (fun c => absurd ht c)
    refine J_iload X (pc := 893) dL_law_893 1 rfl ?_
    refine J_if_ne X (pc := 895) 910 dL_law_895 (by decide) (fun _ => ?_) (fun c => absurd c (by decide))
    refine J_goto X (pc := 910) 1088 dL_law_910 (by decide) ?_
    refine J_sub [2, 3, 4, 5, 6] rfl ?_
    exact kk ad2 _ T2 M2 hr2 had2
  · skip
    refine J_aload_n X (pc := 857) dL_law_857 2 rfl ?_
    refine J_aload_n X (pc := 858) dL_law_858 1 rfl ?_
    refine J_iload X (pc := 859) dL_law_859 0 rfl ?_
    refine J_iconst X (pc := 861) (v := 1) dL_law_861 (by decide +kernel) ?_
    refine J_iadd X (pc := 862) dL_law_862 ?_
    refine J_sld X (pc := 863) S hi1 dL_law_863 ?_
    refine J_nmi ea1 ?_
    refine J_aload_n X (pc := 864) dL_law_864 4 rfl ?_
    refine J_callH (w1 := outC E ao g :: cW E ad T) (rw := mW E am M) X XX XN (pc := 865) (na := 3) (As := [.ref (ad.1 0), .int a1, .ref ao]) (rest := []) (h_early E ad ao g hf) q_714 q_715 q_646 q_622 rfl (by decide +kernel) ⟨by decide +kernel, by decide +kernel⟩ rfl (Nat.le_of_ble_eq_true rfl) ⟨(by show _ ≤ 601024; omega), (by show _ ≤ 7293034; omega)⟩ dL_law_865 (fun ad2 had2 => ?_)
    refine J_istore X (pc := 868) (lv1 := [(5, .int 0), (4, .int i), (0, .ref b), (1, .ref (ad.1 0)), (2, .ref (am 0)), (3, .ref ao)]) dL_law_868 (by decide) rfl ?_
    refine J_aload_n X (pc := 870) dL_law_870 4 rfl ?_
    refine J_aload_n X (pc := 871) dL_law_871 2 rfl ?_
    refine J_iload X (pc := 872) dL_law_872 1 rfl ?_
    refine J_iconst X (pc := 874) (v := 1) dL_law_874 (by decide +kernel) ?_
    refine J_iadd X (pc := 875) dL_law_875 ?_
    refine J_sld X (pc := 876) S hi1 dL_law_876 ?_
    refine J_nmi ea1 ?_
    refine J_perm (w1 := mW E am M ++ (outC E ao (vp_updL g 0 bb.toInt64) :: cW E ad2 T2)) (List.perm_append_comm (l₂ := mW E am M)) ?_
    refine J_callF0I X (pc := 877) (y := yX8_early) (na := 1) (As := [.int a1]) (rest := []) (c_X8_early E am hm) 0 mW_c0 rfl q_716 q_717 q_718 q_465 q_551 rfl (by decide +kernel) ⟨by decide +kernel, by decide +kernel⟩ rfl (Nat.le_of_ble_eq_true rfl) ⟨(by show _ ≤ 601024; omega), (by show _ ≤ 7293034; omega)⟩ dL_law_877 ?_
    refine J_istore X (pc := 880) (lv1 := [(6, .int bb), (5, .int 0), (4, .int i), (0, .ref b), (1, .ref (ad.1 0)), (2, .ref (am 0)), (3, .ref ao)]) dL_law_880 (by decide) rfl ?_
    refine J_aload_n X (pc := 882) dL_law_882 5 rfl ?_
    refine J_callF0I X (pc := 883) (y := yX8_thrown) (na := 0) (As := []) (rest := []) (c_X8_thrown E am (S := M2) (r := M2.1 7) rfl) 0 mW_c0 rfl q_650 q_651 q_652 q_465 q_457 rfl (by decide +kernel) ⟨by decide +kernel, by decide +kernel⟩ rfl (Nat.le_of_ble_eq_true rfl) ⟨(by show _ ≤ 601024; omega), (by show _ ≤ 7293034; omega)⟩ dL_law_883 ?_
    refine J_perm (w1 := outC E ao (vp_updL g 0 bb.toInt64) :: (cW E ad2 T2 ++ mW E am M2)) (List.perm_append_comm (l₂ := outC E ao (vp_updL g 0 bb.toInt64) :: cW E ad2 T2)) ?_
    refine J_iload X (pc := 886) dL_law_886 1 rfl ?_
    refine J_icmp_eq X (pc := 888) 893 dL_law_888 (by decide) (fun _ => ?_) (fun c => absurd ht c)
    refine J_iload X (pc := 893) dL_law_893 1 rfl ?_
    refine J_if_ne X (pc := 895) 910 dL_law_895 (by decide) (fun c => absurd rfl c) (fun _ => ?_)
    refine J_aload_n X (pc := 898) dL_law_898 6 rfl ?_
    refine J_iconst X (pc := 899) (v := 0) dL_law_899 (by decide +kernel) ?_
    refine J_lald X (pc := 900) 0 rfl ⟨by decide, by decide⟩ dL_law_900 ?_
    refine J_iload X (pc := 901) dL_law_901 0 rfl ?_
    refine J_i2l X (pc := 903) dL_law_903 ?_
    refine J_lcmp X (pc := 904) dL_law_904 ?_
    refine J_if_eq X (pc := 905) 910 dL_law_905 (by decide) (fun _ => ?_) (fun c => absurd (lg_self _ _ (updL0 g _)) c)
    refine J_goto X (pc := 910) 1088 dL_law_910 (by decide) ?_
    refine J_sub [2, 3, 4, 5, 6] rfl ?_
    exact kk ad2 _ T2 M2 hr2 had2
set_option maxRecDepth 100000 in
set_option maxHeartbeats 4000000 in
theorem law_late {E : Ev} {x : Cx} {Rel : TS → St → Prop} {k n b NN ao : Nat} {xs : Nat → Int32} {i : Int32} {ad : CA} {am : Nat → Nat} {g : Nat → Int64} {T : TS} {M : St} {xr : Nat} (X : Ok E x cL_law RL room_1 7) (XX : OkX E x) (XN : OkN x) (S : OkS x b NN xs) (hxr : ad.1 0 = xr) (hk : k + 40 ≤ 601024 ∧ n + 1000 ≤ 7293034) (hr : Rel T M) (hi1 : inb (i + 1) NN) {a1 : Int32} (ea1 : a1 = xs (i + 1).toNatClampNeg) (st : R_late Rel) (kk : ∀ ad2 g2 T2 M2, Rel T2 M2 → ad2.1 0 = xr → J E x (k + 16) (n + 398) (outC E ao g2 :: (cW E ad2 T2 ++ mW E am M2)) 1088 [(4, .int i), (0, .ref b), (1, .ref xr), (2, .ref (am 0)), (3, .ref ao)] []) : J E x k n (outC E ao g :: (cW E ad T ++ mW E am M)) 913 [(4, .int i), (0, .ref b), (1, .ref xr), (2, .ref (am 0)), (3, .ref ao)] [] := by
  subst hxr
  obtain ⟨bb, M2, hm, hc⟩ := st T M a1 hr
  simp only [ThrowAt, or_false] at hc
  rcases hc with ⟨T2, hx, ht, hr2⟩ | ⟨T2, hf, ht, hr2⟩
  · skip
    refine J_aload_n X (pc := 913) dL_law_913 2 rfl ?_
    refine J_aload_n X (pc := 914) dL_law_914 1 rfl ?_
    refine J_iload X (pc := 915) dL_law_915 0 rfl ?_
    refine J_iconst X (pc := 917) (v := 1) dL_law_917 (by decide +kernel) ?_
    refine J_iadd X (pc := 918) dL_law_918 ?_
    refine J_sld X (pc := 919) S hi1 dL_law_919 ?_
    refine J_nmi ea1 ?_
    refine J_aload_n X (pc := 920) dL_law_920 4 rfl ?_
    refine J_callH (w1 := outC E ao g :: cW E ad T) (rw := mW E am M) X XX XN (pc := 921) (na := 3) (As := [.ref (ad.1 0), .int a1, .ref ao]) (rest := []) (hx_late_1 E ad ao g hx) q_719 q_720 q_646 q_626 rfl (by decide +kernel) ⟨by decide +kernel, by decide +kernel⟩ rfl (Nat.le_of_ble_eq_true rfl) ⟨(by show _ ≤ 601024; omega), (by show _ ≤ 7293034; omega)⟩ dL_law_921 (fun ad2 had2 => ?_)
    refine J_istore X (pc := 924) (lv1 := [(5, .int 1), (4, .int i), (0, .ref b), (1, .ref (ad.1 0)), (2, .ref (am 0)), (3, .ref ao)]) dL_law_924 (by decide) rfl ?_
    refine J_aload_n X (pc := 926) dL_law_926 4 rfl ?_
    refine J_aload_n X (pc := 927) dL_law_927 2 rfl ?_
    refine J_iload X (pc := 928) dL_law_928 1 rfl ?_
    refine J_iconst X (pc := 930) (v := 1) dL_law_930 (by decide +kernel) ?_
    refine J_iadd X (pc := 931) dL_law_931 ?_
    refine J_sld X (pc := 932) S hi1 dL_law_932 ?_
    refine J_nmi ea1 ?_
    refine J_perm (w1 := mW E am M ++ (outC E ao g :: cW E ad2 T2)) (List.perm_append_comm (l₂ := mW E am M)) ?_
    refine J_callF0I X (pc := 933) (y := yX8_late) (na := 1) (As := [.int a1]) (rest := []) (c_X8_late E am hm) 0 mW_c0 rfl q_721 q_722 q_723 q_465 q_552 rfl (by decide +kernel) ⟨by decide +kernel, by decide +kernel⟩ rfl (Nat.le_of_ble_eq_true rfl) ⟨(by show _ ≤ 601024; omega), (by show _ ≤ 7293034; omega)⟩ dL_law_933 ?_
    refine J_istore X (pc := 936) (lv1 := [(6, .int bb), (5, .int 1), (4, .int i), (0, .ref b), (1, .ref (ad.1 0)), (2, .ref (am 0)), (3, .ref ao)]) dL_law_936 (by decide) rfl ?_
    refine J_aload_n X (pc := 938) dL_law_938 5 rfl ?_
    refine J_callF0I X (pc := 939) (y := yX8_thrown) (na := 0) (As := []) (rest := []) (c_X8_thrown E am (S := M2) (r := M2.1 7) rfl) 0 mW_c0 rfl q_650 q_651 q_652 q_465 q_457 rfl (by decide +kernel) ⟨by decide +kernel, by decide +kernel⟩ rfl (Nat.le_of_ble_eq_true rfl) ⟨(by show _ ≤ 601024; omega), (by show _ ≤ 7293034; omega)⟩ dL_law_939 ?_
    refine J_perm (w1 := outC E ao g :: (cW E ad2 T2 ++ mW E am M2)) (List.perm_append_comm (l₂ := outC E ao g :: cW E ad2 T2)) ?_
    refine J_iload X (pc := 942) dL_law_942 1 rfl ?_
    refine J_icmp_eq X (pc := 944) 949 dL_law_944 (by decide) (fun _ => ?_) (fun c => absurd ht c)
    refine J_iload X (pc := 949) dL_law_949 1 rfl ?_
    refine J_if_ne X (pc := 951) 966 dL_law_951 (by decide) (fun _ => ?_) (fun c => absurd c (by decide))
    refine J_goto X (pc := 966) 1088 dL_law_966 (by decide) ?_
    refine J_sub [2, 3, 4, 5, 6] rfl ?_
    exact kk ad2 _ T2 M2 hr2 had2
  · skip
    refine J_aload_n X (pc := 913) dL_law_913 2 rfl ?_
    refine J_aload_n X (pc := 914) dL_law_914 1 rfl ?_
    refine J_iload X (pc := 915) dL_law_915 0 rfl ?_
    refine J_iconst X (pc := 917) (v := 1) dL_law_917 (by decide +kernel) ?_
    refine J_iadd X (pc := 918) dL_law_918 ?_
    refine J_sld X (pc := 919) S hi1 dL_law_919 ?_
    refine J_nmi ea1 ?_
    refine J_aload_n X (pc := 920) dL_law_920 4 rfl ?_
    refine J_callH (w1 := outC E ao g :: cW E ad T) (rw := mW E am M) X XX XN (pc := 921) (na := 3) (As := [.ref (ad.1 0), .int a1, .ref ao]) (rest := []) (h_late E ad ao g hf) q_719 q_720 q_646 q_626 rfl (by decide +kernel) ⟨by decide +kernel, by decide +kernel⟩ rfl (Nat.le_of_ble_eq_true rfl) ⟨(by show _ ≤ 601024; omega), (by show _ ≤ 7293034; omega)⟩ dL_law_921 (fun ad2 had2 => ?_)
    refine J_istore X (pc := 924) (lv1 := [(5, .int 0), (4, .int i), (0, .ref b), (1, .ref (ad.1 0)), (2, .ref (am 0)), (3, .ref ao)]) dL_law_924 (by decide) rfl ?_
    refine J_aload_n X (pc := 926) dL_law_926 4 rfl ?_
    refine J_aload_n X (pc := 927) dL_law_927 2 rfl ?_
    refine J_iload X (pc := 928) dL_law_928 1 rfl ?_
    refine J_iconst X (pc := 930) (v := 1) dL_law_930 (by decide +kernel) ?_
    refine J_iadd X (pc := 931) dL_law_931 ?_
    refine J_sld X (pc := 932) S hi1 dL_law_932 ?_
    refine J_nmi ea1 ?_
    refine J_perm (w1 := mW E am M ++ (outC E ao (vp_updL g 0 bb.toInt64) :: cW E ad2 T2)) (List.perm_append_comm (l₂ := mW E am M)) ?_
    refine J_callF0I X (pc := 933) (y := yX8_late) (na := 1) (As := [.int a1]) (rest := []) (c_X8_late E am hm) 0 mW_c0 rfl q_721 q_722 q_723 q_465 q_552 rfl (by decide +kernel) ⟨by decide +kernel, by decide +kernel⟩ rfl (Nat.le_of_ble_eq_true rfl) ⟨(by show _ ≤ 601024; omega), (by show _ ≤ 7293034; omega)⟩ dL_law_933 ?_
    refine J_istore X (pc := 936) (lv1 := [(6, .int bb), (5, .int 0), (4, .int i), (0, .ref b), (1, .ref (ad.1 0)), (2, .ref (am 0)), (3, .ref ao)]) dL_law_936 (by decide) rfl ?_
    refine J_aload_n X (pc := 938) dL_law_938 5 rfl ?_
    refine J_callF0I X (pc := 939) (y := yX8_thrown) (na := 0) (As := []) (rest := []) (c_X8_thrown E am (S := M2) (r := M2.1 7) rfl) 0 mW_c0 rfl q_650 q_651 q_652 q_465 q_457 rfl (by decide +kernel) ⟨by decide +kernel, by decide +kernel⟩ rfl (Nat.le_of_ble_eq_true rfl) ⟨(by show _ ≤ 601024; omega), (by show _ ≤ 7293034; omega)⟩ dL_law_939 ?_
    refine J_perm (w1 := outC E ao (vp_updL g 0 bb.toInt64) :: (cW E ad2 T2 ++ mW E am M2)) (List.perm_append_comm (l₂ := outC E ao (vp_updL g 0 bb.toInt64) :: cW E ad2 T2)) ?_
    refine J_iload X (pc := 942) dL_law_942 1 rfl ?_
    refine J_icmp_eq X (pc := 944) 949 dL_law_944 (by decide) (fun _ => ?_) (fun c => absurd ht c)
    refine J_iload X (pc := 949) dL_law_949 1 rfl ?_
    refine J_if_ne X (pc := 951) 966 dL_law_951 (by decide) (fun c => absurd rfl c) (fun _ => ?_)
    refine J_aload_n X (pc := 954) dL_law_954 6 rfl ?_
    refine J_iconst X (pc := 955) (v := 0) dL_law_955 (by decide +kernel) ?_
    refine J_lald X (pc := 956) 0 rfl ⟨by decide, by decide⟩ dL_law_956 ?_
    refine J_iload X (pc := 957) dL_law_957 0 rfl ?_
    refine J_i2l X (pc := 959) dL_law_959 ?_
    refine J_lcmp X (pc := 960) dL_law_960 ?_
    refine J_if_eq X (pc := 961) 966 dL_law_961 (by decide) (fun _ => ?_) (fun c => absurd (lg_self _ _ (updL0 g _)) c)
    refine J_goto X (pc := 966) 1088 dL_law_966 (by decide) ?_
    refine J_sub [2, 3, 4, 5, 6] rfl ?_
    exact kk ad2 _ T2 M2 hr2 had2
set_option maxRecDepth 100000 in
set_option maxHeartbeats 4000000 in
theorem law_warns {E : Ev} {x : Cx} {Rel : TS → St → Prop} {k n b NN ao : Nat} {xs : Nat → Int32} {i : Int32} {ad : CA} {am : Nat → Nat} {g : Nat → Int64} {T : TS} {M : St} {xr : Nat} (X : Ok E x cL_law RL room_1 7) (XX : OkX E x) (XN : OkN x) (S : OkS x b NN xs) (hxr : ad.1 0 = xr) (hk : k + 40 ≤ 601024 ∧ n + 1000 ≤ 7293034) (hr : Rel T M) (hi1 : inb (i + 1) NN) {a1 : Int32} (ea1 : a1 = xs (i + 1).toNatClampNeg) (st : R_warns Rel) (kk : ∀ ad2 g2 T2 M2, Rel T2 M2 → ad2.1 0 = xr → J E x (k + 16) (n + 398) (outC E ao g2 :: (cW E ad2 T2 ++ mW E am M2)) 1088 [(4, .int i), (0, .ref b), (1, .ref xr), (2, .ref (am 0)), (3, .ref ao)] []) : J E x k n (outC E ao g :: (cW E ad T ++ mW E am M)) 969 [(4, .int i), (0, .ref b), (1, .ref xr), (2, .ref (am 0)), (3, .ref ao)] [] := by
  subst hxr
  obtain ⟨bb, M2, hm, hc⟩ := st T M a1 hr
  simp only [ThrowAt, or_false] at hc
  rcases hc with ⟨T2, hx, ht, hr2⟩ | ⟨T2, hf, ht, hr2⟩
  · skip
    refine J_aload_n X (pc := 969) dL_law_969 2 rfl ?_
    refine J_aload_n X (pc := 970) dL_law_970 1 rfl ?_
    refine J_iload X (pc := 971) dL_law_971 0 rfl ?_
    refine J_iconst X (pc := 973) (v := 1) dL_law_973 (by decide +kernel) ?_
    refine J_iadd X (pc := 974) dL_law_974 ?_
    refine J_sld X (pc := 975) S hi1 dL_law_975 ?_
    refine J_nmi ea1 ?_
    refine J_aload_n X (pc := 976) dL_law_976 4 rfl ?_
    refine J_callH (w1 := outC E ao g :: cW E ad T) (rw := mW E am M) X XX XN (pc := 977) (na := 3) (As := [.ref (ad.1 0), .int a1, .ref ao]) (rest := []) (hx_warns_1 E ad ao g hx) q_724 q_725 q_646 q_630 rfl (by decide +kernel) ⟨by decide +kernel, by decide +kernel⟩ rfl (Nat.le_of_ble_eq_true rfl) ⟨(by show _ ≤ 601024; omega), (by show _ ≤ 7293034; omega)⟩ dL_law_977 (fun ad2 had2 => ?_)
    refine J_istore X (pc := 980) (lv1 := [(5, .int 1), (4, .int i), (0, .ref b), (1, .ref (ad.1 0)), (2, .ref (am 0)), (3, .ref ao)]) dL_law_980 (by decide) rfl ?_
    refine J_aload_n X (pc := 982) dL_law_982 4 rfl ?_
    refine J_aload_n X (pc := 983) dL_law_983 2 rfl ?_
    refine J_iload X (pc := 984) dL_law_984 1 rfl ?_
    refine J_iconst X (pc := 986) (v := 1) dL_law_986 (by decide +kernel) ?_
    refine J_iadd X (pc := 987) dL_law_987 ?_
    refine J_sld X (pc := 988) S hi1 dL_law_988 ?_
    refine J_nmi ea1 ?_
    refine J_perm (w1 := mW E am M ++ (outC E ao g :: cW E ad2 T2)) (List.perm_append_comm (l₂ := mW E am M)) ?_
    refine J_callF0I X (pc := 989) (y := yX8_warns) (na := 1) (As := [.int a1]) (rest := []) (c_X8_warns E am hm) 0 mW_c0 rfl q_726 q_727 q_728 q_465 q_553 rfl (by decide +kernel) ⟨by decide +kernel, by decide +kernel⟩ rfl (Nat.le_of_ble_eq_true rfl) ⟨(by show _ ≤ 601024; omega), (by show _ ≤ 7293034; omega)⟩ dL_law_989 ?_
    refine J_istore X (pc := 992) (lv1 := [(6, .int bb), (5, .int 1), (4, .int i), (0, .ref b), (1, .ref (ad.1 0)), (2, .ref (am 0)), (3, .ref ao)]) dL_law_992 (by decide) rfl ?_
    refine J_aload_n X (pc := 994) dL_law_994 5 rfl ?_
    refine J_callF0I X (pc := 995) (y := yX8_thrown) (na := 0) (As := []) (rest := []) (c_X8_thrown E am (S := M2) (r := M2.1 7) rfl) 0 mW_c0 rfl q_650 q_651 q_652 q_465 q_457 rfl (by decide +kernel) ⟨by decide +kernel, by decide +kernel⟩ rfl (Nat.le_of_ble_eq_true rfl) ⟨(by show _ ≤ 601024; omega), (by show _ ≤ 7293034; omega)⟩ dL_law_995 ?_
    refine J_perm (w1 := outC E ao g :: (cW E ad2 T2 ++ mW E am M2)) (List.perm_append_comm (l₂ := outC E ao g :: cW E ad2 T2)) ?_
    refine J_iload X (pc := 998) dL_law_998 1 rfl ?_
    refine J_icmp_eq X (pc := 1000) 1005 dL_law_1000 (by decide) (fun _ => ?_) (fun c => absurd ht c)
    refine J_iload X (pc := 1005) dL_law_1005 1 rfl ?_
    refine J_if_ne X (pc := 1007) 1029 dL_law_1007 (by decide) (fun _ => ?_) (fun c => absurd c (by decide))
    refine J_goto X (pc := 1029) 1088 dL_law_1029 (by decide) ?_
    refine J_sub [2, 3, 4, 5, 6] rfl ?_
    exact kk ad2 _ T2 M2 hr2 had2
  · skip
    refine J_aload_n X (pc := 969) dL_law_969 2 rfl ?_
    refine J_aload_n X (pc := 970) dL_law_970 1 rfl ?_
    refine J_iload X (pc := 971) dL_law_971 0 rfl ?_
    refine J_iconst X (pc := 973) (v := 1) dL_law_973 (by decide +kernel) ?_
    refine J_iadd X (pc := 974) dL_law_974 ?_
    refine J_sld X (pc := 975) S hi1 dL_law_975 ?_
    refine J_nmi ea1 ?_
    refine J_aload_n X (pc := 976) dL_law_976 4 rfl ?_
    obtain ⟨z, hz, hz2⟩ := Option.map_eq_some_iff.mp hf
    obtain ⟨hz3, hz4⟩ := Prod.mk.inj hz2
    subst hz4
    subst hz3
    refine J_callH (w1 := outC E ao g :: cW E ad T) (rw := mW E am M) X XX XN (pc := 977) (na := 3) (As := [.ref (ad.1 0), .int a1, .ref ao]) (rest := []) (h_warns E ad ao g hz) q_724 q_725 q_646 q_630 rfl (by decide +kernel) ⟨by decide +kernel, by decide +kernel⟩ rfl (Nat.le_of_ble_eq_true rfl) ⟨(by show _ ≤ 601024; omega), (by show _ ≤ 7293034; omega)⟩ dL_law_977 (fun ad2 had2 => ?_)
    refine J_istore X (pc := 980) (lv1 := [(5, .int 0), (4, .int i), (0, .ref b), (1, .ref (ad.1 0)), (2, .ref (am 0)), (3, .ref ao)]) dL_law_980 (by decide) rfl ?_
    refine J_aload_n X (pc := 982) dL_law_982 4 rfl ?_
    refine J_aload_n X (pc := 983) dL_law_983 2 rfl ?_
    refine J_iload X (pc := 984) dL_law_984 1 rfl ?_
    refine J_iconst X (pc := 986) (v := 1) dL_law_986 (by decide +kernel) ?_
    refine J_iadd X (pc := 987) dL_law_987 ?_
    refine J_sld X (pc := 988) S hi1 dL_law_988 ?_
    refine J_nmi ea1 ?_
    refine J_perm (w1 := mW E am M ++ (outC E ao (vp_updL g 0 (if z = 0 then 0 else 1)) :: cW E ad2 T)) (List.perm_append_comm (l₂ := mW E am M)) ?_
    refine J_callF0I X (pc := 989) (y := yX8_warns) (na := 1) (As := [.int a1]) (rest := []) (c_X8_warns E am hm) 0 mW_c0 rfl q_726 q_727 q_728 q_465 q_553 rfl (by decide +kernel) ⟨by decide +kernel, by decide +kernel⟩ rfl (Nat.le_of_ble_eq_true rfl) ⟨(by show _ ≤ 601024; omega), (by show _ ≤ 7293034; omega)⟩ dL_law_989 ?_
    refine J_istore X (pc := 992) (lv1 := [(6, .int z), (5, .int 0), (4, .int i), (0, .ref b), (1, .ref (ad.1 0)), (2, .ref (am 0)), (3, .ref ao)]) dL_law_992 (by decide) rfl ?_
    refine J_aload_n X (pc := 994) dL_law_994 5 rfl ?_
    refine J_callF0I X (pc := 995) (y := yX8_thrown) (na := 0) (As := []) (rest := []) (c_X8_thrown E am (S := M2) (r := M2.1 7) rfl) 0 mW_c0 rfl q_650 q_651 q_652 q_465 q_457 rfl (by decide +kernel) ⟨by decide +kernel, by decide +kernel⟩ rfl (Nat.le_of_ble_eq_true rfl) ⟨(by show _ ≤ 601024; omega), (by show _ ≤ 7293034; omega)⟩ dL_law_995 ?_
    refine J_perm (w1 := outC E ao (vp_updL g 0 (if z = 0 then 0 else 1)) :: (cW E ad2 T ++ mW E am M2)) (List.perm_append_comm (l₂ := outC E ao (vp_updL g 0 (if z = 0 then 0 else 1)) :: cW E ad2 T)) ?_
    refine J_iload X (pc := 998) dL_law_998 1 rfl ?_
    refine J_icmp_eq X (pc := 1000) 1005 dL_law_1000 (by decide) (fun _ => ?_) (fun c => absurd ht c)
    refine J_iload X (pc := 1005) dL_law_1005 1 rfl ?_
    refine J_if_ne X (pc := 1007) 1029 dL_law_1007 (by decide) (fun c => absurd rfl c) (fun _ => ?_)
    refine J_aload_n X (pc := 1010) dL_law_1010 6 rfl ?_
    refine J_iconst X (pc := 1011) (v := 0) dL_law_1011 (by decide +kernel) ?_
    refine J_lald X (pc := 1012) 0 rfl ⟨by decide, by decide⟩ dL_law_1012 ?_
    refine J_iload X (pc := 1013) dL_law_1013 0 rfl ?_
    refine J_if_eq X (pc := 1015) 1022 dL_law_1015 (by decide) (fun c7 => ?_) (fun c7 => ?_)
    · skip
      refine J_lconst X (pc := 1022) (v := 0) dL_law_1022 (by decide +kernel) ?_
      refine J_lcmp X (pc := 1023) dL_law_1023 ?_
      refine J_if_eq X (pc := 1024) 1029 dL_law_1024 (by decide) (fun _ => ?_) (fun c => absurd (lg_self _ _ ((updL0 g _).trans (if_pos c7))) c)
      refine J_goto X (pc := 1029) 1088 dL_law_1029 (by decide) ?_
      refine J_sub [2, 3, 4, 5, 6] rfl ?_
      exact kk ad2 _ T M2 hr2 had2
    · skip
      refine J_lconst X (pc := 1018) (v := 1) dL_law_1018 (by decide +kernel) ?_
      refine J_goto X (pc := 1019) 1023 dL_law_1019 (by decide) ?_
      refine J_lcmp X (pc := 1023) dL_law_1023 ?_
      refine J_if_eq X (pc := 1024) 1029 dL_law_1024 (by decide) (fun _ => ?_) (fun c => absurd (lg_self _ _ ((updL0 g _).trans (if_neg c7))) c)
      refine J_goto X (pc := 1029) 1088 dL_law_1029 (by decide) ?_
      refine J_sub [2, 3, 4, 5, 6] rfl ?_
      exact kk ad2 _ T M2 hr2 had2
set_option maxRecDepth 100000 in
set_option maxHeartbeats 4000000 in
theorem law_poolFull {E : Ev} {x : Cx} {Rel : TS → St → Prop} {k n b NN ao : Nat} {xs : Nat → Int32} {i : Int32} {ad : CA} {am : Nat → Nat} {g : Nat → Int64} {T : TS} {M : St} {xr : Nat} (X : Ok E x cL_law RL room_1 7) (XX : OkX E x) (XN : OkN x) (S : OkS x b NN xs) (hxr : ad.1 0 = xr) (hk : k + 40 ≤ 601024 ∧ n + 1000 ≤ 7293034) (hr : Rel T M) (hi1 : inb (i + 1) NN) {a1 : Int32} (ea1 : a1 = xs (i + 1).toNatClampNeg) (st : R_poolFull Rel) (kk : ∀ ad2 g2 T2 M2, Rel T2 M2 → ad2.1 0 = xr → J E x (k + 16) (n + 398) (outC E ao g2 :: (cW E ad2 T2 ++ mW E am M2)) 1088 [(4, .int i), (0, .ref b), (1, .ref xr), (2, .ref (am 0)), (3, .ref ao)] []) : J E x k n (outC E ao g :: (cW E ad T ++ mW E am M)) 1032 [(4, .int i), (0, .ref b), (1, .ref xr), (2, .ref (am 0)), (3, .ref ao)] [] := by
  subst hxr
  obtain ⟨bb, M2, hm, hc⟩ := st T M a1 hr
  simp only [ThrowAt, or_false] at hc
  rcases hc with ⟨T2, hx, ht, hr2⟩ | ⟨T2, hf, ht, hr2⟩
  · skip
    refine J_aload_n X (pc := 1032) dL_law_1032 2 rfl ?_
    refine J_aload_n X (pc := 1033) dL_law_1033 1 rfl ?_
    refine J_iload X (pc := 1034) dL_law_1034 0 rfl ?_
    refine J_iconst X (pc := 1036) (v := 1) dL_law_1036 (by decide +kernel) ?_
    refine J_iadd X (pc := 1037) dL_law_1037 ?_
    refine J_sld X (pc := 1038) S hi1 dL_law_1038 ?_
    refine J_nmi ea1 ?_
    refine J_aload_n X (pc := 1039) dL_law_1039 4 rfl ?_
    refine J_callH (w1 := outC E ao g :: cW E ad T) (rw := mW E am M) X XX XN (pc := 1040) (na := 3) (As := [.ref (ad.1 0), .int a1, .ref ao]) (rest := []) (hx_poolFull_1 E ad ao g hx) q_729 q_730 q_646 q_634 rfl (by decide +kernel) ⟨by decide +kernel, by decide +kernel⟩ rfl (Nat.le_of_ble_eq_true rfl) ⟨(by show _ ≤ 601024; omega), (by show _ ≤ 7293034; omega)⟩ dL_law_1040 (fun ad2 had2 => ?_)
    refine J_istore X (pc := 1043) (lv1 := [(5, .int 1), (4, .int i), (0, .ref b), (1, .ref (ad.1 0)), (2, .ref (am 0)), (3, .ref ao)]) dL_law_1043 (by decide) rfl ?_
    refine J_aload_n X (pc := 1045) dL_law_1045 4 rfl ?_
    refine J_aload_n X (pc := 1046) dL_law_1046 2 rfl ?_
    refine J_iload X (pc := 1047) dL_law_1047 1 rfl ?_
    refine J_iconst X (pc := 1049) (v := 1) dL_law_1049 (by decide +kernel) ?_
    refine J_iadd X (pc := 1050) dL_law_1050 ?_
    refine J_sld X (pc := 1051) S hi1 dL_law_1051 ?_
    refine J_nmi ea1 ?_
    refine J_perm (w1 := mW E am M ++ (outC E ao g :: cW E ad2 T2)) (List.perm_append_comm (l₂ := mW E am M)) ?_
    refine J_callF0I X (pc := 1052) (y := yX8_poolFull) (na := 1) (As := [.int a1]) (rest := []) (c_X8_poolFull E am hm) 0 mW_c0 rfl q_731 q_732 q_733 q_465 q_562 rfl (by decide +kernel) ⟨by decide +kernel, by decide +kernel⟩ rfl (Nat.le_of_ble_eq_true rfl) ⟨(by show _ ≤ 601024; omega), (by show _ ≤ 7293034; omega)⟩ dL_law_1052 ?_
    refine J_istore X (pc := 1055) (lv1 := [(6, .int bb), (5, .int 1), (4, .int i), (0, .ref b), (1, .ref (ad.1 0)), (2, .ref (am 0)), (3, .ref ao)]) dL_law_1055 (by decide) rfl ?_
    refine J_aload_n X (pc := 1057) dL_law_1057 5 rfl ?_
    refine J_callF0I X (pc := 1058) (y := yX8_thrown) (na := 0) (As := []) (rest := []) (c_X8_thrown E am (S := M2) (r := M2.1 7) rfl) 0 mW_c0 rfl q_650 q_651 q_652 q_465 q_457 rfl (by decide +kernel) ⟨by decide +kernel, by decide +kernel⟩ rfl (Nat.le_of_ble_eq_true rfl) ⟨(by show _ ≤ 601024; omega), (by show _ ≤ 7293034; omega)⟩ dL_law_1058 ?_
    refine J_perm (w1 := outC E ao g :: (cW E ad2 T2 ++ mW E am M2)) (List.perm_append_comm (l₂ := outC E ao g :: cW E ad2 T2)) ?_
    refine J_iload X (pc := 1061) dL_law_1061 1 rfl ?_
    refine J_icmp_eq X (pc := 1063) 1068 dL_law_1063 (by decide) (fun _ => ?_) (fun c => absurd ht c)
    refine J_iload X (pc := 1068) dL_law_1068 1 rfl ?_
    refine J_if_ne X (pc := 1070) 1085 dL_law_1070 (by decide) (fun _ => ?_) (fun c => absurd c (by decide))
    refine J_goto X (pc := 1085) 1088 dL_law_1085 (by decide) ?_
    refine J_sub [2, 3, 4, 5, 6] rfl ?_
    exact kk ad2 _ T2 M2 hr2 had2
  · skip
    refine J_aload_n X (pc := 1032) dL_law_1032 2 rfl ?_
    refine J_aload_n X (pc := 1033) dL_law_1033 1 rfl ?_
    refine J_iload X (pc := 1034) dL_law_1034 0 rfl ?_
    refine J_iconst X (pc := 1036) (v := 1) dL_law_1036 (by decide +kernel) ?_
    refine J_iadd X (pc := 1037) dL_law_1037 ?_
    refine J_sld X (pc := 1038) S hi1 dL_law_1038 ?_
    refine J_nmi ea1 ?_
    refine J_aload_n X (pc := 1039) dL_law_1039 4 rfl ?_
    refine J_callH (w1 := outC E ao g :: cW E ad T) (rw := mW E am M) X XX XN (pc := 1040) (na := 3) (As := [.ref (ad.1 0), .int a1, .ref ao]) (rest := []) (h_poolFull E ad ao g hf) q_729 q_730 q_646 q_634 rfl (by decide +kernel) ⟨by decide +kernel, by decide +kernel⟩ rfl (Nat.le_of_ble_eq_true rfl) ⟨(by show _ ≤ 601024; omega), (by show _ ≤ 7293034; omega)⟩ dL_law_1040 (fun ad2 had2 => ?_)
    refine J_istore X (pc := 1043) (lv1 := [(5, .int 0), (4, .int i), (0, .ref b), (1, .ref (ad.1 0)), (2, .ref (am 0)), (3, .ref ao)]) dL_law_1043 (by decide) rfl ?_
    refine J_aload_n X (pc := 1045) dL_law_1045 4 rfl ?_
    refine J_aload_n X (pc := 1046) dL_law_1046 2 rfl ?_
    refine J_iload X (pc := 1047) dL_law_1047 1 rfl ?_
    refine J_iconst X (pc := 1049) (v := 1) dL_law_1049 (by decide +kernel) ?_
    refine J_iadd X (pc := 1050) dL_law_1050 ?_
    refine J_sld X (pc := 1051) S hi1 dL_law_1051 ?_
    refine J_nmi ea1 ?_
    refine J_perm (w1 := mW E am M ++ (outC E ao (vp_updL g 0 bb.toInt64) :: cW E ad2 T2)) (List.perm_append_comm (l₂ := mW E am M)) ?_
    refine J_callF0I X (pc := 1052) (y := yX8_poolFull) (na := 1) (As := [.int a1]) (rest := []) (c_X8_poolFull E am hm) 0 mW_c0 rfl q_731 q_732 q_733 q_465 q_562 rfl (by decide +kernel) ⟨by decide +kernel, by decide +kernel⟩ rfl (Nat.le_of_ble_eq_true rfl) ⟨(by show _ ≤ 601024; omega), (by show _ ≤ 7293034; omega)⟩ dL_law_1052 ?_
    refine J_istore X (pc := 1055) (lv1 := [(6, .int bb), (5, .int 0), (4, .int i), (0, .ref b), (1, .ref (ad.1 0)), (2, .ref (am 0)), (3, .ref ao)]) dL_law_1055 (by decide) rfl ?_
    refine J_aload_n X (pc := 1057) dL_law_1057 5 rfl ?_
    refine J_callF0I X (pc := 1058) (y := yX8_thrown) (na := 0) (As := []) (rest := []) (c_X8_thrown E am (S := M2) (r := M2.1 7) rfl) 0 mW_c0 rfl q_650 q_651 q_652 q_465 q_457 rfl (by decide +kernel) ⟨by decide +kernel, by decide +kernel⟩ rfl (Nat.le_of_ble_eq_true rfl) ⟨(by show _ ≤ 601024; omega), (by show _ ≤ 7293034; omega)⟩ dL_law_1058 ?_
    refine J_perm (w1 := outC E ao (vp_updL g 0 bb.toInt64) :: (cW E ad2 T2 ++ mW E am M2)) (List.perm_append_comm (l₂ := outC E ao (vp_updL g 0 bb.toInt64) :: cW E ad2 T2)) ?_
    refine J_iload X (pc := 1061) dL_law_1061 1 rfl ?_
    refine J_icmp_eq X (pc := 1063) 1068 dL_law_1063 (by decide) (fun _ => ?_) (fun c => absurd ht c)
    refine J_iload X (pc := 1068) dL_law_1068 1 rfl ?_
    refine J_if_ne X (pc := 1070) 1085 dL_law_1070 (by decide) (fun c => absurd rfl c) (fun _ => ?_)
    refine J_aload_n X (pc := 1073) dL_law_1073 6 rfl ?_
    refine J_iconst X (pc := 1074) (v := 0) dL_law_1074 (by decide +kernel) ?_
    refine J_lald X (pc := 1075) 0 rfl ⟨by decide, by decide⟩ dL_law_1075 ?_
    refine J_iload X (pc := 1076) dL_law_1076 0 rfl ?_
    refine J_i2l X (pc := 1078) dL_law_1078 ?_
    refine J_lcmp X (pc := 1079) dL_law_1079 ?_
    refine J_if_eq X (pc := 1080) 1085 dL_law_1080 (by decide) (fun _ => ?_) (fun c => absurd (lg_self _ _ (updL0 g _)) c)
    refine J_goto X (pc := 1085) 1088 dL_law_1085 (by decide) ?_
    refine J_sub [2, 3, 4, 5, 6] rfl ?_
    exact kk ad2 _ T2 M2 hr2 had2
