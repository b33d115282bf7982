/-! Every call keeps the relation and answers alike: samples, days that pass, forecasts -/
def Dwm (M0 M : St) (s i : Nat) : Prop := M.1 = M0.1 ∧ (∀ j, j ≠ 2 → j ≠ 3 → M.2 j = M0.2 j) ∧ ∀ j, j = 2 ∨ j = 3 → ∀ k, M.2 j k = if 12 * s ≤ k ∧ k < 12 * s + i then M0.2 j (k + 1) else M0.2 j k
theorem m_shift {M0 : St} {s : Nat} (hs : s < 8) : ∀ (fuel i : Nat) (M : St), 11 < i + fuel → i ≤ 11 → Dwm M0 M s i → ∃ M2, f_X8_sample_97 (i3 ((12 * s : Nat) : Int)) (i3 11) fuel (i3 i) M = some M2 ∧ Dwm M0 M2 s 11 := by
  intro fuel
  induction fuel with
  | zero => intro i M h1 h2; omega
  | succ fuel ih =>
    intro i M h1 h2 h
    unfold f_X8_sample_97
    simp (disch := omega) only [l3_1, i3_le, i3_add]
    by_cases c : (11 : Int) ≤ i
    · rw [if_pos c]
      have : i = 11 := by omega
      subst this
      exact ⟨M, rfl, h⟩
    · rw [if_neg c]
      have e1 : ((12 * s : Nat) : Int) + (i : Int) = ((12 * s + i : Nat) : Int) := by omega
      have e2 : ((12 * s + i : Nat) : Int) + 1 = ((12 * s + i + 1 : Nat) : Int) := by omega
      have i1 : inb (i3 ((12 * s + i : Nat) : Int)) 96 := inbN (by omega) (by omega)
      have i2 : inb (i3 ((12 * s + i + 1 : Nat) : Int)) 96 := inbN (by omega) (by omega)
      have n1 : (i3 ((12 * s + i : Nat) : Int)).toNatClampNeg = 12 * s + i := i3_nn (by omega)
      have n2 : (i3 ((12 * s + i + 1 : Nat) : Int)).toNatClampNeg = 12 * s + i + 1 := i3_nn (by omega)
      simp only [e2, e1, ck_pos i1, ck_pos i2, nmv_eq, n1, n2]
      refine ih (i + 1) _ (by omega) (by omega) ⟨h.1, ?_, ?_⟩
      · intro j a b
        rw [sA_ne _ _ _ _ _ b, sA_ne _ _ _ _ _ a]
        exact h.2.1 j a b
      · intro j a k
        have key : ∀ j, j = 2 ∨ j = 3 → (if k = 12 * s + i then M.2 j (12 * s + i + 1) else M.2 j k) = if 12 * s ≤ k ∧ k < 12 * s + (i + 1) then M0.2 j (k + 1) else M0.2 j k := by
          intro j a
          by_cases ci : k = 12 * s + i
          · rw [if_pos ci, if_pos (by omega), h.2.2 j a, if_neg (by omega), ci]
          · rw [if_neg ci, h.2.2 j a]
            by_cases c5 : 12 * s ≤ k ∧ k < 12 * s + i
            · rw [if_pos c5, if_pos (by omega)]
            · rw [if_neg c5, if_neg (by omega)]
        rcases a with rfl | rfl
        · rw [sA_ne _ _ _ _ _ (by decide), sA_same]
          exact key 2 (Or.inl rfl)
        · rw [sA_same, sA_ne _ _ _ _ _ (by decide)]
          exact key 3 (Or.inr rfl)
theorem m_place {A : AB} {M : St} {td u : Int} {s : Nat} (hv : Val td A) (hs : s < 8) (h : Mo A M s) : ∃ (c : Nat) (M3 : St), ((if i3 (if 0 < aN A ∧ aDy A (aN A - 1) = td then 1 else 0) = (0 : Int32) then if i3 (aN A) = (12 : Int32) then nmv (i3 (aN A) + (-1 : Int32)) (fun (v32 : Int32) => (f_X8_sample_97 (i3 ((12 * s : Nat) : Int)) v32 3000 ((0 : Int32)) M).bind (fun (S37 : St) => some (v32, S37))) else some (i3 (aN A), M) else some (i3 (aN A), M)) = some (i3 c, M3)) ∧ (c : Int) + (if 0 < aN A ∧ aDy A (aN A - 1) = td then 0 else 1) = aN (addS A td u) ∧ (1 ≤ aN (addS A td u) ∧ aN (addS A td u) ≤ 12) ∧ FrX s M M3 ∧ (M3.1 = M.1 ∧ ∀ j, j ≠ 2 → j ≠ 3 → M3.2 j = M.2 j) ∧ (∀ k, k < aN (addS A td u) - 1 → M3.2 2 (12 * s + k) = i3 (aDy (addS A td u) k) ∧ M3.2 3 (12 * s + k) = i3 (aUs (addS A td u) k)) ∧ aDy (addS A td u) (aN (addS A td u) - 1) = td ∧ aUs (addS A td u) (aN (addS A td u) - 1) = u := by
  have hn := hv.2.2.2.1
  have b := h.2.1
  unfold addS
  by_cases c : 0 < aN A ∧ aDy A (aN A - 1) = td
  · rw [if_pos c, if_pos c, if_pos c, if_neg (by decide)]
    refine ⟨aN A, M, rfl, Int.add_zero _, ⟨c.1, hn⟩, FrX.rf _ _, ⟨rfl, fun _ _ _ => rfl⟩, fun k hk => ?_, c.2, if_pos rfl⟩
    have hk2 : k < aN A - 1 := hk
    obtain ⟨b0, b1⟩ := b k (by omega)
    refine ⟨b0, ?_⟩
    show M.2 3 (12 * s + k) = i3 (if k = aN A - 1 then u else aUs A k)
    rw [if_neg (by omega)]; exact b1
  · rw [if_neg c, if_neg c, if_neg c, if_pos l3_0.symm]
    by_cases c2 : aN A < 12
    · rw [if_pos c2, if_neg (by rw [l3_12, i3_eq (by omega) (by omega) (by omega) (by omega)]; omega)]
      refine ⟨aN A, M, rfl, rfl, ⟨Nat.succ_le_succ (Nat.zero_le _), c2⟩, FrX.rf _ _, ⟨rfl, fun _ _ _ => rfl⟩, fun k hk => ?_, if_pos (Nat.add_sub_cancel _ _), if_pos (Nat.add_sub_cancel _ _)⟩
      have hk2 : k < aN A + 1 - 1 := hk
      obtain ⟨b0, b1⟩ := b k (by omega)
      refine ⟨?_, ?_⟩
      · show M.2 2 (12 * s + k) = i3 (if k = aN A then td else aDy A k)
        rw [if_neg (by omega)]; exact b0
      · show M.2 3 (12 * s + k) = i3 (if k = aN A then u else aUs A k)
        rw [if_neg (by omega)]; exact b1
    · have h12 : aN A = 12 := by omega
      have e11 : i3 (aN A : Int) + (-1 : Int32) = i3 11 := by rw [h12]; rfl
      obtain ⟨M3, g1, g2⟩ := m_shift (M0 := M) hs 3000 0 M (by omega) (by omega) ⟨rfl, fun _ _ _ => rfl, fun j a k => by rw [if_neg (by omega)]⟩
      have g1' : f_X8_sample_97 (i3 ((12 * s : Nat) : Int)) (i3 11) 3000 (0 : Int32) M = some M3 := g1
      rw [if_neg c2, if_pos (by rw [h12]; rfl), nmv_eq, e11, g1', Option.bind_some]
      refine ⟨11, M3, rfl, ?_, ⟨by show 1 ≤ aN A; omega, hn⟩, ⟨by rw [g2.1], by rw [g2.1], fun t ht h8 => ⟨fun j a b c d e => by rw [g2.2.1 j b c], fun k hk => ⟨?_, ?_⟩, fun k hk => by rw [g2.2.1 5 (by decide) (by decide), g2.2.1 6 (by decide) (by decide)]; exact ⟨rfl, rfl⟩⟩⟩, ⟨g2.1, g2.2.1⟩, fun k hk => ?_, if_pos rfl, if_pos rfl⟩
      · show ((11 : Nat) : Int) + 1 = ((aN A : Nat) : Int)
        omega
      · rw [g2.2.2 2 (Or.inl rfl), if_neg (by omega)]
      · rw [g2.2.2 3 (Or.inr rfl), if_neg (by omega)]
      · have hk2 : k < aN A - 1 := hk
        obtain ⟨b0, b1⟩ := b (k + 1) (by omega)
        rw [g2.2.2 2 (Or.inl rfl), g2.2.2 3 (Or.inr rfl), if_pos (by omega), if_pos (by omega)]
        refine ⟨?_, ?_⟩
        · show M.2 2 (12 * s + (k + 1)) = i3 (if k = aN A - 1 then td else aDy A (k + 1))
          rw [if_neg (by omega)]; exact b0
        · show M.2 3 (12 * s + (k + 1)) = i3 (if k = aN A - 1 then u else aUs A (k + 1))
          rw [if_neg (by omega)]; exact b1
theorem m_isLast {A : AB} {M : St} {td : Int} {s : Nat} (hv : Val td A) (ht : 0 ≤ td ∧ td ≤ 2000) (hs : s < 8) (h : Mo A M s) (h0 : M.1 0 = i3 td) : (if i3 (aN A : Int) ≤ 0 then some ((0 : Int32)) else ck (inb ((i3 ((12 * s : Nat) : Int) + i3 (aN A : Int)) - ((1 : Int32))) 96) (if (M.2 2 ((i3 ((12 * s : Nat) : Int) + i3 (aN A : Int)) - ((1 : Int32))).toNatClampNeg) = (M.1 0) then some ((1 : Int32)) else some ((0 : Int32)))) = some (i3 (if 0 < aN A ∧ aDy A (aN A - 1) = td then 1 else 0)) := by
  have hn := hv.2.2.2.1
  simp (disch := omega) only [l3_0, l3_1, i3_le, i3_sub, i3_add]
  by_cases c : (aN A : Int) ≤ 0
  · rw [if_pos c, if_neg (by omega)]
  · have e : ((12 * s : Nat) : Int) + (aN A : Int) - 1 = ((12 * s + (aN A - 1) : Nat) : Int) := by omega
    have i1 : inb (i3 ((12 * s + (aN A - 1) : Nat) : Int)) 96 := inbN (by omega) (by omega)
    have n1 : (i3 ((12 * s + (aN A - 1) : Nat) : Int)).toNatClampNeg = 12 * s + (aN A - 1) := i3_nn (by omega)
    have hd := hv.2.2.2.2.1 (aN A - 1) (by omega)
    rw [if_neg c]
    simp only [e, ck_pos i1, n1, (h.2.1 (aN A - 1) (by omega)).1, h0]
    simp (disch := omega) only [i3_eq]
    by_cases q : aDy A (aN A - 1) = td
    · rw [if_pos q, if_pos ⟨by omega, q⟩]
    · rw [if_neg q, if_neg (by omega)]
theorem m_told {A : AB} {M : St} {td u : Int} {s n : Nat} (hv : Val td A) (ht : 0 ≤ td ∧ td ≤ 2000) (hu : 0 ≤ u ∧ u ≤ 1000000) (hs : s < n) (hn8 : n ≤ 8) (h : Mo A M s) (h0 : M.1 0 = i3 td) (h1 : M.1 1 = i3 n) : ∃ (M3 : St) (q : Nat), f_X8_sample (i3 (s : Int)) (i3 u) M = some (i3 (aN (addS A td u)), sA (sA (sA (sA M3 2 (12 * s + q) (i3 td)) 3 (12 * s + q) (i3 u)) 1 s (i3 (aN (addS A td u)))) 11 s (i3 0)) ∧ aN (addS A td u) = q + 1 ∧ aN (addS A td u) ≤ 12 ∧ FrX s (sF M 7 (i3 0)) M3 ∧ (M3.1 = (sF M 7 (i3 0)).1 ∧ ∀ j, j ≠ 2 → j ≠ 3 → M3.2 j = M.2 j) ∧ (∀ k, k < q → M3.2 2 (12 * s + k) = i3 (aDy (addS A td u) k) ∧ M3.2 3 (12 * s + k) = i3 (aUs (addS A td u) k)) ∧ aDy (addS A td u) q = td ∧ aUs (addS A td u) q = u := by
  have hm0 : Mo A (sF M 7 (i3 0)) s := h
  obtain ⟨c, M3, p1, p2, p3, p4, p5, p6, p7, p8⟩ := m_place (u := u) (td := td) hv (show s < 8 by omega) hm0
  have hl := m_isLast hv ht (show s < 8 by omega) hm0 h0
  generalize hA : addS A td u = A2 at *
  obtain ⟨q, hq⟩ : ∃ q, aN A2 = q + 1 := ⟨aN A2 - 1, by omega⟩
  rw [hq, show q + 1 - 1 = q from rfl] at p7 p8
  refine ⟨M3, q, ?_, hq, p3.2, p4, p5, fun k hk => p6 k (by omega), p7, p8⟩
  have es : (i3 (s : Int)).toNatClampNeg = s := i3_nn (by omega)
  have i0 : inb (i3 (s : Int)) 8 := inbN (by omega) (by omega)
  have g0 : (12 : Int32) * i3 (s : Int) = i3 ((12 * s : Nat) : Int) := by rw [l3_12, i3_mul]; congr 1
  have gi : inb (i3 ((12 * s + q : Nat) : Int)) 96 := inbN (by omega) (by omega)
  have gn : (i3 ((12 * s + q : Nat) : Int)).toNatClampNeg = 12 * s + q := i3_nn (by omega)
  have ge : i3 ((12 * s : Nat) : Int) + i3 (aN A2 : Int) - 1 = i3 ((12 * s + q : Nat) : Int) := by
    rw [l3_1, i3_add, i3_sub]; congr 1; omega
  have e1' : (sF M 7 (i3 0)).2 1 (i3 (s : Int)).toNatClampNeg = i3 (aN A) := by rw [es]; exact h.1.2.1
  have e30 : M3.1 0 = i3 td := by rw [p5.1]; exact h0
  have e5 : (if i3 (if 0 < aN A ∧ aDy A (aN A - 1) = td then 1 else 0) = (0 : Int32) then some ((1 : Int32)) else some ((0 : Int32))) = some (i3 (if 0 < aN A ∧ aDy A (aN A - 1) = td then 0 else 1)) := by
    by_cases cc : 0 < aN A ∧ aDy A (aN A - 1) = td
    · rw [if_pos cc, if_pos cc, if_neg (by decide), l3_0]
    · rw [if_neg cc, if_neg cc, if_pos l3_0.symm, l3_1]
  unfold f_X8_sample
  rw [m_isStore h1 hn8 (by omega), if_pos (by omega), Option.bind_some, if_neg (by decide), isIn_2 (by omega), if_pos hu, Option.bind_some, if_neg (by decide), Option.bind_some, m_goes0', Option.bind_some]
  dsimp only
  rw [if_neg (by decide), nmv_eq, g0, ck_pos i0, nmv_eq, e1', hl, Option.bind_some, p1, Option.bind_some]
  dsimp only
  rw [e5, Option.bind_some, i3_add, p2, nmv_eq, ge, ck_pos gi, nmv_eq, ck_pos gi, nmv_eq, ck_pos i0, nmv_eq, ck_pos i0, ck_pos isZ_0, nmv_eq, gn, es, e30, l3_0]
theorem r_sample : R_sample Rel := by
  intro T M a1 a2 hr
  obtain ⟨p, rfl, hp1, hp2⟩ := i3_ex a1
  obtain ⟨z, rfl, z1, z2⟩ := i3_ex a2
  have ha2 : -2147483648 ≤ z ∧ z < 2147483648 := ⟨z1, z2⟩
  obtain ⟨as, td, h8, ht, h1, h2, h3, h4, h5⟩ := id hr
  have ha1 : -2147483648 ≤ p ∧ p < 2147483648 := ⟨hp1, hp2⟩
  by_cases hp : 0 ≤ p ∧ p < T.2.1
  · obtain ⟨s, rfl⟩ : ∃ s : Nat, p = (s : Int) := ⟨p.toNat, by omega⟩
    have hs : s < T.2.1 := by omega
    obtain ⟨hv, hc, hm, hcc⟩ := h5 s hs
    have es : (i3 (s : Int)).toNatClampNeg = s := i3_nn (by omega)
    have hin := inS_of hs h8
    have i0 : inb (i3 (s : Int)) 8 := inbN (by omega) (by omega)
    by_cases hz : 0 ≤ z ∧ z ≤ 1000000
    · obtain ⟨S2, q1, q2⟩ := cl_tellUsed hv ht hz hc
      obtain ⟨M3, q, p1, hq, p3, p4, p5, p6, p7, p8⟩ := m_told (u := z) hv ht hz hs h8 hm h2 h3
      have hv2 := Val_addS (u := z) hv ht.1 hz
      obtain ⟨k1, k2⟩ := addS_keep (as s) td z
      generalize hA : addS (as s) td z = A2 at *
      refine ⟨i3 (aN A2), sA (sA (sA (sA M3 2 (12 * s + q) (i3 td)) 3 (12 * s + q) (i3 z)) 1 s (i3 (aN A2))) 11 s (i3 0), ?_, Or.inr ⟨setT T s S2, ?_, ?_, ?_⟩⟩
      · exact p1
      · have hS : (setT T s S2).2.2 s = S2 := if_pos rfl
        unfold f_X7_sample f_X4_number
        rw [ck_pos hin, ck_pos (rng_2 hz), es, h1, q1, Option.bind_some, nmv_eq, hS, q2.1.2.1, Option.bind_some]
      · show M3.1 7 = 0
        rw [p5.1]; rfl
      · have hm2 : aM A2 = aM (as s) := by unfold aM; rw [k2]
        have hcd : aCd A2 = aCd (as s) := by unfold aCd; rw [k2]
        have hcf : aCf A2 = aCf (as s) := by unfold aCf; rw [k2]
        refine Rel_x h8 ht h1 h2 h3 h4 h5 hs ?_ hv2 q2 ⟨⟨?_, ?_, ?_, ?_, ?_, ?_, ?_⟩, fun k hk => ?_, fun j hj => ?_⟩ ?_
        · exact (((((FrX.f _ M 7 _ (by decide) (by decide)).tr p4).tr (FrX.b _ _ 2 _ _ (Or.inl rfl) (by omega))).tr (FrX.b _ _ 3 _ _ (Or.inr rfl) (by omega))).tr (FrX.a _ _ 1 _ (by decide))).tr (FrX.a _ _ 11 _ (by decide))
        · show M3.2 0 s = i3 (aSz A2)
          rw [p5.2 0 (by decide) (by decide), show aSz A2 = aSz (as s) by unfold aSz; rw [k1]]; exact hm.1.1
        · rw [sA_ne _ _ _ _ _ (by decide), sA_same, if_pos rfl]
        · show M3.2 4 s = i3 (aM A2)
          rw [p5.2 4 (by decide) (by decide), hm2]; exact hm.1.2.2.1
        · show M3.2 7 s = i3 (aFr A2)
          rw [p5.2 7 (by decide) (by decide), show aFr A2 = aFr (as s) by unfold aFr; rw [k1]]; exact hm.1.2.2.2.1
        · show M3.2 8 s = i3 (aEv A2)
          rw [p5.2 8 (by decide) (by decide), show aEv A2 = aEv (as s) by unfold aEv; rw [k1]]; exact hm.1.2.2.2.2.1
        · show M3.2 9 s = i3 (aOn A2)
          rw [p5.2 9 (by decide) (by decide), show aOn A2 = aOn (as s) by unfold aOn; rw [k2]]; exact hm.1.2.2.2.2.2.1
        · show M3.2 10 s = i3 (aNe A2)
          rw [p5.2 10 (by decide) (by decide), show aNe A2 = aNe (as s) by unfold aNe; rw [k2]]; exact hm.1.2.2.2.2.2.2
        · rw [sA_ne _ _ _ _ _ (by decide), sA_ne _ _ _ _ _ (by decide), sA_ne _ _ _ _ _ (by decide), sA_same, sA_ne _ _ _ _ _ (by decide), sA_ne _ _ _ _ _ (by decide), sA_same, sA_ne _ _ _ _ _ (by decide)]
          by_cases c9 : k = q
          · subst c9
            rw [if_pos rfl, if_pos rfl, p7, p8]; exact ⟨rfl, rfl⟩
          · rw [if_neg (by omega), if_neg (by omega)]
            exact p6 k (by omega)
        · rw [hcd, hcf]
          rw [hm2] at hj
          show M3.2 5 (60 * s + j) = _ ∧ M3.2 6 (60 * s + j) = _
          rw [p5.2 5 (by decide) (by decide), p5.2 6 (by decide) (by decide)]
          exact hm.2.2 j hj
        · rw [sA_same, if_pos rfl]
    · refine ⟨i3 0, sF M 7 (i3 2), ?_, Or.inl (Or.inr (Or.inl ⟨T, ?_, rfl, Rel_thrown hr _⟩))⟩
      · unfold f_X8_sample
        rw [m_isStore h3 h8 ha1, if_pos hp, Option.bind_some, if_neg (by decide), isIn_2 ha2, if_neg hz, Option.bind_some, if_pos l3_0.symm, Option.bind_some, m_goes2', Option.bind_some]
        dsimp only
        rw [if_pos l3_0.symm, l3_0]
      · unfold x_X7_sample
        rw [x_st_ok h8 hs]
        simp only [xc]
        rw [ck_pos hin, deb_2 ha2 hz]
        rfl
  · refine ⟨i3 0, sF M 7 (i3 1), ?_, Or.inl (Or.inl ⟨T, ?_, rfl, Rel_thrown hr _⟩)⟩
    · unfold f_X8_sample
      rw [m_isStore h3 h8 ha1, if_neg hp, Option.bind_some, if_pos l3_0.symm, Option.bind_some, m_goes1', Option.bind_some]
      dsimp only
      rw [if_pos l3_0.symm, l3_0]
    · unfold x_X7_sample
      rw [x_st_bad h8 ha1 hp]
      rfl
theorem r_pass : R_pass Rel := by
  intro T M a1 hr
  obtain ⟨p, rfl, hp1, hp2⟩ := i3_ex a1
  obtain ⟨as, td, h8, ht, h1, h2, h3, h4, h5⟩ := id hr
  have ha1 : -2147483648 ≤ p ∧ p < 2147483648 := ⟨hp1, hp2⟩
  by_cases hp : 1 ≤ p ∧ p ≤ 100
  · obtain ⟨n, rfl⟩ : ∃ n : Nat, p = (n : Int) := ⟨p.toNat, by omega⟩
    by_cases hq : td + (n : Int) ≤ 2000
    · have hex : ∀ t, ∃ e, t < T.2.1 → Early (as t) e := by
        intro t
        by_cases c : t < T.2.1
        · obtain ⟨hv, hc, -, -⟩ := h5 t c
          obtain ⟨e, S2, -, -, q, -⟩ := cl_early hv ht.2 hc
          exact ⟨e, fun _ => q⟩
        · exact ⟨0, fun q => absurd q c⟩
      have hex2 := Classical.axiomOfChoice hex
      obtain ⟨ee, he⟩ := hex2
      have he' : ∀ t, t < T.2.1 → Early (as t) (ee t) := he
      have hv : ∀ t, t < T.2.1 → Val td (as t) := fun t q => (h5 t q).1
      have hx : ∀ t, t < T.2.1 → HasMid (as t) := fun t q => HasMid_of (h5 t q).1 (h5 t q).2.1
      have h00 : smc (fun t => (lkn (ee t) td (aOn (as t), aNe (as t)) n).2) 0 = 0 := rfl
      have h01 : tots as ee td T.2.1 0 = 0 := by
        unfold tots
        have : ∀ m, smc (fun t => (lkn (ee t) td (aOn (as t), aNe (as t)) 0).2) m = 0 := by
          intro m
          induction m with
          | zero => rfl
          | succ m ih => show smc _ m + _ = 0; rw [ih]; rfl
        exact this _
      obtain ⟨T2, p1, p2, p3, p4⟩ := c_pass_loop (as := as) (es := ee) h8 (show n ≤ 100 by omega) ht hv he' 3000 0 T (by omega) (Nat.zero_le _) h1 rfl (fun t q => by
        rw [if_neg (Nat.not_lt_zero t)]
        exact (h5 t q).2.1)
      obtain ⟨M2, r1, r2, r3, r4, r5, r6⟩ := m_pass_out (as := as) (es := ee) (M := sF M 7 (i3 0)) h8 (show n ≤ 100 by omega) ht hv hx he' 3000 0 (by omega) (Nat.zero_le _) (by rw [show ((0 : Nat) : Int) = 0 from rfl, Int.add_zero]; exact h2) h3 (h4.a (fun _ _ => rfl)) (fun t q => by
        have := (h5 t q).2.2
        exact this)
      rw [h00] at p1
      rw [h01] at r1
      refine ⟨i3 (tots as ee td T.2.1 n), M2, ?_, Or.inr ⟨((T2.1.1 + i3 n, T2.1.2), T2.2), ?_, r4, ?_⟩⟩
      · have g : ¬ ((if M.1 0 + i3 (n : Int) ≤ (2000 : Int32) then some ((0 : Int32)) else some ((2 : Int32))) = none) := by split <;> simp
        have r1' : f_X8_pass_44 (i3 n) 3000 (0 : Int32) (0 : Int32) (sF M 7 (i3 0)) = some (i3 (tots as ee td T.2.1 n), M2) := r1
        unfold f_X8_pass
        rw [isIn_6 ha1, if_pos hp, Option.bind_some, if_neg (by decide), if_pos (by rw [h2, i3_add, l3_2000, i3_le (by omega) (by omega) (by omega) (by omega)]; exact hq), Option.bind_some, m_goes0', Option.bind_some]
        dsimp only
        rw [if_neg (by decide), r1', Option.bind_some]
      · have p1' : f_X7_pass_33 (i3 n) 3000 (0 : Int32) (0 : Int32) T = some (i3 (tots as ee td T.2.1 n), T2) := p1
        unfold f_X7_pass
        rw [ck_pos (rng_6 hp), if_pos (by rw [h1, i3_add, l3_2000, i3_le (by omega) (by omega) (by omega) (by omega)]; exact hq), p1', Option.bind_some]
        rfl
      · refine ⟨fun t => stg as ee td t n, td + n, by rw [show (((T2.1.1 + i3 (n : Int), T2.1.2), T2.2) : TS).2.1 = T2.2.1 from rfl, p3]; exact h8, by omega, ?_, r2, by rw [r3]; show _ = i3 (T2.2.1 : Int); rw [p3], ?_, fun t q => ?_⟩
        · show T2.1.1 + i3 n = _
          rw [p2, h1, i3_add]
        · show Fresh M2 T2.2.1
          rw [p3]; exact r5
        · have q' : t < T.2.1 := by
            have : t < T2.2.1 := q
            omega
          have hb := hv t q'
          obtain ⟨b1, b2, -, -⟩ := lkn_bit (e := ee t) (d0 := td) (s := (aOn (as t), aNe (as t))) hb.2.2.2.2.2.2.2.2.1 hb.2.2.2.2.2.2.2.2.2 n
          exact ⟨(Val_setW hb b1 b2).up (by omega), p4 t q', (r6 t q').1, (r6 t q').2⟩
    · refine ⟨i3 0, sF M 7 (i3 2), ?_, Or.inl (Or.inr (Or.inl ⟨T, ?_, rfl, Rel_thrown hr _⟩))⟩
      · unfold f_X8_pass
        rw [isIn_6 ha1, if_pos hp, Option.bind_some, if_neg (by decide), if_neg (by rw [h2, i3_add, l3_2000, i3_le (by omega) (by omega) (by omega) (by omega)]; exact hq), Option.bind_some, m_goes2', Option.bind_some]
        dsimp only
        rw [if_pos l3_0.symm, l3_0]
      · unfold x_X7_pass
        rw [dem_6 ha1 hp, ck_pos (rng_6 hp), if_neg (by rw [h1, i3_add, l3_2000, i3_le (by omega) (by omega) (by omega) (by omega)]; exact hq)]
        rfl
  · refine ⟨i3 0, sF M 7 (i3 1), ?_, Or.inl (Or.inl ⟨T, ?_, rfl, Rel_thrown hr _⟩)⟩
    · unfold f_X8_pass
      rw [isIn_6 ha1, if_neg hp, Option.bind_some, if_pos l3_0.symm, Option.bind_some, m_goes1', Option.bind_some]
      dsimp only
      rw [if_pos l3_0.symm, l3_0]
    · unfold x_X7_pass
      rw [deb_6 ha1 hp]
      rfl
