/-! The class's leaves, in numbers -/
theorem mul_rng {a b X Y : Int} (h1 : -X ≤ a) (h2 : a ≤ X) (h3 : 0 ≤ b) (h4 : b ≤ Y) (hX : 0 ≤ X) : -(X * Y) ≤ a * b ∧ a * b ≤ X * Y := by
  have e1 : X * b ≤ X * Y := Int.mul_le_mul_of_nonneg_left h4 hX
  have e2 : a * b ≤ X * b := Int.mul_le_mul_of_nonneg_right h2 h3
  have e3 : -X * b ≤ a * b := Int.mul_le_mul_of_nonneg_right h1 h3
  rw [Int.neg_mul] at e3
  omega
theorem div_rng {x y X : Int} (h1 : -X ≤ x) (h2 : x ≤ X) (hX : 0 ≤ X) (hy : 0 < y) : -X ≤ x / y ∧ x / y ≤ X := by
  constructor
  · have := (Int.le_ediv_iff_mul_le (a := -X) (b := x) hy).mpr (by
      have : -X * y ≤ -X * 1 := Int.mul_le_mul_of_nonpos_left (by omega) (by omega)
      omega)
    exact this
  · have := Int.ediv_le_ediv hy h2
    have h3 := Int.ediv_le_self (a := X) y hX
    omega
theorem cl_daysUntil {S : St} {fr ev d : Int} (h6 : S.1 6 = i3 fr) (h7 : S.1 7 = i3 ev) (hf : 0 ≤ fr ∧ fr ≤ 3000) (he : 0 ≤ ev ∧ ev ≤ 100) (hd : 0 ≤ d ∧ d ≤ 10000) : f_X3_daysUntil (i3 d) S = some (i3 (rul fr ev d)) := by
  unfold f_X3_daysUntil rul
  simp (disch := omega) only [h6, h7, l3_0, l3_1, i3_le, i3_lt, i3_eq, i3_sub]
  by_cases c1 : ev ≤ 0
  · rw [if_pos c1, if_pos (Or.inl c1)]
  · rw [if_neg c1]
    by_cases c2 : d < fr
    · rw [if_pos c2, if_pos (Or.inr c2)]
    · rw [if_neg c2, if_neg (by omega), ck_pos (by omega), i3_div (by omega) (by omega) (by omega) (by omega), i3_add]
theorem cl_daysWithin {S : St} {fr ev d d2 : Int} (h6 : S.1 6 = i3 fr) (h7 : S.1 7 = i3 ev) (hf : 0 ≤ fr ∧ fr ≤ 3000) (he : 0 ≤ ev ∧ ev ≤ 100) (hd : 0 ≤ d ∧ d ≤ 10000) (hd2 : 0 ≤ d2 ∧ d2 ≤ 10000) : f_X3_daysWithin (i3 d) (i3 d2) S = some (i3 (rul fr ev d2 - rul fr ev d)) := by
  unfold f_X3_daysWithin
  rw [cl_daysUntil h6 h7 hf he hd2, Option.bind_some, cl_daysUntil h6 h7 hf he hd, Option.bind_some, i3_sub]
theorem cl_floorDiv {x y : Int} (hx : -100000000000 ≤ x ∧ x ≤ 100000000000) (hy : 0 < y ∧ y ≤ 1000000) : f_J9_floorDiv_f86c9 (i6 x) (i6 y) = some (i6 (x / y)) := by
  have hr := div_rng (x := x) (y := y) (X := 100000000000) hx.1 hx.2 (by omega) hy.1
  unfold f_J9_floorDiv_f86c9
  rw [ck_pos (by rw [l6_0, i6_eq (by omega) (by omega) (by omega) (by omega)]; omega), nmv_eq]
  simp (disch := omega) only [i6_tdiv, lg_cmp_ge, lg_cmp_eq, l6_0, l6_1, xor_sign, i6_mul]
  by_cases c : 0 ≤ x
  · rw [if_pos c, Int.tdiv_eq_ediv_of_nonneg c]
  · rw [if_neg c, Int.tdiv_eq_ediv]
    by_cases c2 : y ∣ x
    · rw [if_pos (Or.inr c2), Int.add_zero, Int.ediv_mul_cancel c2, if_pos rfl]
    · rw [show (if 0 ≤ x ∨ y ∣ x then (0 : Int) else y.sign) = 1 from by rw [if_neg (fun q => q.elim c c2), Int.sign_eq_one_of_pos hy.1]]
      have hne : ¬ i6 ((x / y + 1) * y) = i6 x := by
        have e : (x / y + 1) * y = x / y * y + y := by rw [Int.add_mul]; omega
        have e2 : x / y * y = y * (x / y) := Int.mul_comm _ _
        have e3 := Int.mul_ediv_add_emod x y
        have e4 := Int.emod_nonneg x (show y ≠ 0 by omega)
        have e5 := Int.emod_lt_of_pos x hy.1
        have e6 : x % y ≠ 0 := fun q => c2 (Int.dvd_of_emod_eq_zero q)
        rw [i6_eq (by omega) (by omega) (by omega) (by omega)]
        omega
      rw [if_neg hne, i6_sub]
      congr 2
      omega
theorem cl_heightOn {S : St} {st us N D d : Int} (h8 : S.1 8 = i3 st) (h9 : S.1 9 = i3 us) (h10 : S.1 10 = i3 N) (h11 : S.1 11 = i3 D) (hs : 0 ≤ st ∧ st ≤ d) (hd : d ≤ 5000) (hu : 0 ≤ us ∧ us ≤ 1000000) (hN : -7000000 ≤ N ∧ N ≤ 7000000) (hD : 0 < D ∧ D ≤ 2000) : f_X1_heightOn (i3 d) S = some (i6 (us + N * (d - st) / D)) := by
  have hm := mul_rng (a := N) (b := d - st) (X := 7000000) (Y := 5000) (by omega) (by omega) (by omega) (by omega) (by omega)
  unfold f_X1_heightOn
  simp (disch := omega) only [nmv_eq, h8, h9, h10, h11, i3_sub, i3_long, i6_mul, l3_0, i3_le]
  rw [if_neg (by omega), cl_floorDiv (by omega) (by omega), Option.bind_some, Option.bind_some, i6_add]
def lst (h N D : Int) : Int := if 0 < N then (if 1000 < (h - 1) * D / N + 1 then 1000 else (h - 1) * D / N + 1) else 1000
theorem cl_least {S : St} {N D h : Int} (h10 : S.1 10 = i3 N) (h11 : S.1 11 = i3 D) (hh : 1 ≤ h ∧ h ≤ 1000000) (hN : -7000000 ≤ N ∧ N ≤ 7000000) (hD : 0 < D ∧ D ≤ 2000) : f_X1_leastDaysToClimb (i3 h) S = some (i3 (lst h N D)) := by
  have hm := mul_rng (a := h - 1) (b := D) (X := 1000000) (Y := 2000) (by omega) (by omega) (by omega) (by omega) (by omega)
  have hm0 : 0 ≤ (h - 1) * D := Int.mul_nonneg (by omega) (by omega)
  unfold f_X1_leastDaysToClimb lst
  simp (disch := omega) only [h10, h11, i3_sub, i3_long, i6_mul, i6_sub, l3_0, i3_lt, l6_0, l6_1, l6_1000, l3_1000, i6_eq]
  by_cases c : 0 < N
  · have hq := div_rng (x := (h - 1) * D) (y := N) (X := 2000000000000) (by omega) (by omega) (by omega) c
    rw [if_pos c, if_pos c, ck_pos (by omega)]
    simp (disch := omega) only [i6_div, i6_add, i6_lt]
    by_cases c2 : 1000 < (h - 1) * D / N + 1
    · rw [if_pos c2, if_pos c2, i6_int]
    · rw [if_neg c2, if_neg c2, i6_int]
  · rw [if_neg c, if_neg c]
def ent (S : St) (i : Nat) : (Int × Int) × (Int × Int) := (((S.2 3 i).toInt, (S.2 4 i).toInt), ((S.2 5 i).toInt, (S.2 6 i).toInt))
def en4 (A : AB) (p : Nat × Nat) : (Int × Int) × (Int × Int) := (frc A p, ((p.1 : Int), (p.2 : Int)))
def Cl1 (A : AB) (S : St) : Prop := S.1 0 = i3 (aSz A) ∧ S.1 1 = i3 (aN A) ∧ S.1 4 = i3 (aM A) ∧ S.1 5 = i3 (smc (aCf A) (aM A)) ∧ S.1 6 = i3 (aFr A) ∧ S.1 7 = i3 (aEv A) ∧ S.1 12 = i3 (aOn A) ∧ S.1 13 = i3 (aNe A)
def Cl2 (A : AB) (S : St) : Prop := ∀ k, k < aN A → S.2 0 k = i3 (aDy A k) ∧ S.2 1 k = i3 (aUs A k) ∧ S.2 2 k = i3 (fil A k)
def Cl3 (A : AB) (S : St) : Prop := S.1 2 = i3 (prs (aN A)).length ∧ S.1 3 = i3 (aN A) ∧ ((List.range (prs (aN A)).length).map (ent S)).Perm ((prs (aN A)).map (en4 A)) ∧ ((List.range (prs (aN A)).length).map (ent S)).Pairwise (fun a b => flt b.1 a.1 = false)
def Cl4 (A : AB) (S : St) : Prop := ((List.range (aM A)).map (fun j => (S.2 7 j).toInt)).Perm ((List.range (aM A)).map (aCf A)) ∧ ((List.range (aM A)).map (fun j => (S.2 7 j).toInt)).Pairwise (fun a b => ilt b a = false)
def Cl (A : AB) (S : St) : Prop := Cl1 A S ∧ Cl2 A S ∧ Cl3 A S ∧ Cl4 A S
/-- but for the line, the same -/
def FrS (S S2 : St) : Prop := S2.2 = S.2 ∧ ∀ k, k ≠ 8 → k ≠ 9 → k ≠ 10 → k ≠ 11 → S2.1 k = S.1 k
theorem FrS.rf (S : St) : FrS S S := ⟨rfl, fun _ _ _ _ _ => rfl⟩
theorem FrS.tr {S S2 S3 : St} (h : FrS S S2) (h2 : FrS S2 S3) : FrS S S3 := ⟨h2.1.trans h.1, fun k a b c d => (h2.2 k a b c d).trans (h.2 k a b c d)⟩
theorem Cl.fr {A : AB} {S S2 : St} (h : Cl A S) (f : FrS S S2) : Cl A S2 := by
  obtain ⟨⟨a0, a1, a4, a5, a6, a7, a12, a13⟩, b, ⟨c1, c2, c3, c4⟩, d⟩ := h
  have g := f.2
  have he : ent S2 = ent S := by unfold ent; rw [f.1]
  refine ⟨⟨?_, ?_, ?_, ?_, ?_, ?_, ?_, ?_⟩, ?_, ⟨?_, ?_, ?_, ?_⟩, ?_⟩
  · rw [g 0 (by decide) (by decide) (by decide) (by decide)]; exact a0
  · rw [g 1 (by decide) (by decide) (by decide) (by decide)]; exact a1
  · rw [g 4 (by decide) (by decide) (by decide) (by decide)]; exact a4
  · rw [g 5 (by decide) (by decide) (by decide) (by decide)]; exact a5
  · rw [g 6 (by decide) (by decide) (by decide) (by decide)]; exact a6
  · rw [g 7 (by decide) (by decide) (by decide) (by decide)]; exact a7
  · rw [g 12 (by decide) (by decide) (by decide) (by decide)]; exact a12
  · rw [g 13 (by decide) (by decide) (by decide) (by decide)]; exact a13
  · unfold Cl2; rw [f.1]; exact b
  · rw [g 2 (by decide) (by decide) (by decide) (by decide)]; exact c1
  · rw [g 3 (by decide) (by decide) (by decide) (by decide)]; exact c2
  · rw [he]; exact c3
  · rw [he]; exact c4
  · unfold Cl4; rw [f.1]; exact d
theorem cl_middle {n : Int} (h : 0 ≤ n ∧ n ≤ 100000) : f_X7_middlePlace (i3 n) = some (i3 ((n - 1).tdiv 2)) := by
  unfold f_X7_middlePlace
  rw [l3_1, l3_2, i3_sub, i3_tdiv (by omega) (by omega) (by omega) (by omega)]
theorem cl_usual {A : AB} {S : St} {td : Int} (hv : Val td A) (h : Cl A S) : ∃ u, f_X0_usualSize S = some (i3 u) ∧ IsUs A u := by
  obtain ⟨⟨a0, a1, a4, a5, a6, a7, a12, a13⟩, b, c, d1, d2⟩ := h
  have hm := hv.2.2.2.2.2.2.1
  unfold f_X0_usualSize
  simp (disch := omega) only [a4, l3_0, i3_le]
  by_cases c0 : (aM A : Int) ≤ 0
  · exact ⟨0, by rw [if_pos c0], Or.inl ⟨by omega, rfl⟩⟩
  · rw [if_neg c0, cl_middle (by omega), Option.bind_some]
    have e1 : ((aM A : Int) - 1).tdiv 2 = (((aM A - 1) / 2 : Nat) : Int) := by
      rw [Int.tdiv_eq_ediv_of_nonneg (by omega)]; omega
    rw [e1, ck_pos (inbI (by omega) (by omega) (by omega)), i3_nat (by omega) (by omega), Int.toNat_natCast]
    generalize hk : (aM A - 1) / 2 = k
    have hk2 : k < aM A := by omega
    refine ⟨(S.2 7 k).toInt, by rw [← i3_of], Or.inr ⟨by omega, MidI_perm d1 ?_⟩⟩
    have hlen : ((List.range (aM A)).map (fun j => (S.2 7 j).toInt)).length = aM A := by simp
    have hs := sorted_rank (lt := ilt) (fun a => decide_eq_false (by omega)) d2 (k := k) (by omega)
    have hget : ((List.range (aM A)).map (fun j => (S.2 7 j).toInt))[k]'(by omega) = (S.2 7 k).toInt := by simp
    rw [hget] at hs
    refine ⟨?_, ?_, ?_⟩
    · rw [← hget]; exact List.getElem_mem _
    · rw [hlen, hk]; exact hs.1
    · rw [hlen, hk]; exact hs.2
theorem cl_roomOn {A : AB} {S : St} {td : Int} (hv : Val td A) (h : Cl A S) {st us N D d u : Int} (hu1 : f_X0_usualSize S = some (i3 u)) (hu2 : 0 ≤ u ∧ u ≤ 100000) (h8 : S.1 8 = i3 st) (h9 : S.1 9 = i3 us) (h10 : S.1 10 = i3 N) (h11 : S.1 11 = i3 D) (hs : 0 ≤ st ∧ st ≤ d) (hd : d ≤ 5000) (hu : 0 ≤ us ∧ us ≤ 1000000) (hN : -7000000 ≤ N ∧ N ≤ 7000000) (hD : 0 < D ∧ D ≤ 2000) : f_X5_roomOn (i3 d) S = some (i3 (fcv us N D st u (aFr A) (aEv A) d)) := by
  obtain ⟨⟨a0, a1, a4, a5, a6, a7, a12, a13⟩, b, c, d1, d2⟩ := h
  have hr1 := rul_rng (fr := aFr A) (ev := aEv A) (d := d) hv.2.1.1 (by omega)
  have hr2 := rul_rng (fr := aFr A) (ev := aEv A) (d := st) hv.2.1.1 (by omega)
  have hr3 := rul_mono (fr := aFr A) (ev := aEv A) hs.2
  have hm := mul_rng (a := N) (b := d - st) (X := 7000000) (Y := 5000) (by omega) (by omega) (by omega) (by omega) (by omega)
  have hq := div_rng (x := N * (d - st)) (y := D) (X := 35000000000) (by omega) (by omega) (by omega) hD.1
  have hm2 := mul_rng (a := u) (b := rul (aFr A) (aEv A) d - rul (aFr A) (aEv A) st) (X := 100000) (Y := 10000) (by omega) (by omega) (by omega) (by omega) (by omega)
  unfold f_X5_roomOn
  rw [hu1, Option.bind_some, h8, cl_daysWithin a6 a7 hv.2.1 hv.2.2.1 (by omega) (by omega), Option.bind_some, nmv_eq, cl_heightOn h8 h9 h10 h11 hs hd hu hN hD, Option.bind_some, nmv_eq]
  have e1 : i6 (us + N * (d - st) / D) - (i3 u).toInt64 * (i3 (rul (aFr A) (aEv A) d - rul (aFr A) (aEv A) st)).toInt64 = i6 (rmv us N D st u (aFr A) (aEv A) d) := by
    rw [i3_long (by omega) (by omega), i3_long (by omega) (by omega), i6_mul, i6_sub]
    rfl
  rw [e1]
  have e2 : rmv us N D st u (aFr A) (aEv A) d = us + N * (d - st) / D - u * (rul (aFr A) (aEv A) d - rul (aFr A) (aEv A) st) := rfl
  have hb : -100000000000 ≤ rmv us N D st u (aFr A) (aEv A) d ∧ rmv us N D st u (aFr A) (aEv A) d ≤ 100000000000 := by rw [e2]; omega
  unfold fcv clp
  generalize rmv us N D st u (aFr A) (aEv A) d = x at hb ⊢
  simp (disch := omega) only [l6_0, l6_2000000000, i6_lt]
  by_cases c1 : x < 0
  · rw [if_pos c1, if_neg (show ¬ 0 < x by omega)]
    simp (disch := omega) only [i6_lt]
    rw [if_neg (by omega), i6_int]
  · rw [if_neg c1]
    by_cases c2 : 0 < x
    · rw [if_pos c2]
      simp (disch := omega) only [i6_lt]
      by_cases c3 : 2000000000 < x
      · rw [if_pos c3, if_pos c3, i6_int]
      · rw [if_neg c3, if_neg c3, i6_int]
    · rw [if_neg c2]
      simp (disch := omega) only [i6_lt]
      rw [if_neg (by omega), if_neg (by omega), i6_int]
      congr 2
      omega
