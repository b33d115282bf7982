/-! The reference: usual sizes, forecasts, days, bounds, looks -/
def eqi (y z : Int) : Bool := !ilt z y && !ilt y z
theorem cnt_ilt (y : Int) (l : List Int) : l.countP (fun z => ilt z y) + l.countP (eqi y) = l.countP (fun z => !ilt y z) := by
  refine cnt_add (fun z => ?_) l
  unfold eqi ilt
  by_cases h1 : z < y
  · have h2 : ¬ y < z := by omega
    simp [h1, h2]
  · by_cases h2 : y < z <;> simp [h1, h2]
theorem m_us_in {A : AB} {M : St} {td : Int} {s k : Nat} (hv : Val td A) (hs : s < 8) (h : Mo A M s) (hk : k < aM A) : ∀ (fuel j : Nat), aM A < j + fuel → j ≤ aM A → f_X8_usualOf_32 (i3 s) M (i3 ((60 * s : Nat) : Int)) (i3 ((60 * s + k : Nat) : Int)) fuel (i3 ((((List.range (aM A)).map (aCf A)).take j).countP (fun z => ilt z (aCf A k)) : Nat)) (i3 ((((List.range (aM A)).map (aCf A)).take j).countP (eqi (aCf A k)) : Nat)) (i3 ((60 * s + j : Nat) : Int)) = some (i3 (((List.range (aM A)).map (aCf A)).countP (fun z => ilt z (aCf A k)) : Nat), i3 (((List.range (aM A)).map (aCf A)).countP (eqi (aCf A k)) : Nat)) := by
  have hm := hv.2.2.2.2.2.2.1
  have i0 : inb (i3 (s : Int)) 8 := inbN hs (by omega)
  have e0 : (i3 (s : Int)).toNatClampNeg = s := i3_nn (by omega)
  have h4 := h.1.2.2.1
  have ik : inb (i3 ((60 * s + k : Nat) : Int)) 480 := inbN (by omega) (by omega)
  have ek : (i3 ((60 * s + k : Nat) : Int)).toNatClampNeg = 60 * s + k := i3_nn (by omega)
  have hfk := (h.2.2 k hk).2
  have bk := hv.2.2.2.2.2.2.2.1 k hk
  have hlen : ((List.range (aM A)).map (aCf A)).length = aM A := by simp
  intro fuel
  induction fuel with
  | zero => intro j h1 h2; omega
  | succ fuel ih =>
    intro j h1 h2
    unfold f_X8_usualOf_32
    rw [ck_pos i0]
    simp (disch := omega) only [e0, h4, i3_add, i3_le, l3_0, l3_1, nmv_eq]
    by_cases c : (((60 * s : Nat) : Int)) + (aM A : Int) ≤ ((60 * s + j : Nat) : Int)
    · rw [if_pos c, List.take_of_length_le (by omega)]
    · rw [if_neg c]
      have hj : j < aM A := by omega
      have ij : inb (i3 ((60 * s + j : Nat) : Int)) 480 := inbN (by omega) (by omega)
      have ej : (i3 ((60 * s + j : Nat) : Int)).toNatClampNeg = 60 * s + j := i3_nn (by omega)
      have hfj := (h.2.2 j hj).2
      have bj := hv.2.2.2.2.2.2.2.1 j hj
      have s1 := cnt_snoc (p := fun z => ilt z (aCf A k)) (l := (List.range (aM A)).map (aCf A)) (i := j) (by omega)
      have s2 := cnt_snoc (p := eqi (aCf A k)) (l := (List.range (aM A)).map (aCf A)) (i := j) (by omega)
      have hg : ((List.range (aM A)).map (aCf A))[j]'(by omega) = aCf A j := by simp
      rw [hg] at s1 s2
      have := ih (j + 1) (by omega) (by omega)
      rw [← this, s1, s2, ck_pos ij, ck_pos ik]
      simp (disch := omega) only [ck_pos ij, ck_pos ik, ej, ek, hfj, hfk, i3_le, i3_eq]
      unfold eqi ilt
      by_cases h3 : aCf A k ≤ aCf A j
      · rw [if_pos h3]
        simp only [Option.bind_some, i3_add]
        by_cases h5 : aCf A j = aCf A k
        · rw [if_pos h5]
          simp only [Option.bind_some, i3_add]
          simp [h5, Int.add_assoc]
        · rw [if_neg h5]
          simp only [Option.bind_some, i3_add]
          have h6 : ¬ aCf A j < aCf A k := by omega
          have h7 : aCf A k < aCf A j := by omega
          simp [h6, h7, Int.add_assoc]
      · rw [if_neg h3]
        simp only [Option.bind_some, i3_add]
        have h5 : ¬ aCf A j = aCf A k := by omega
        rw [if_neg h5]
        simp only [Option.bind_some, i3_add]
        have h6 : aCf A j < aCf A k := by omega
        simp [h6, Int.add_assoc]
theorem m_us_out {A : AB} {M : St} {td : Int} {s : Nat} (hv : Val td A) (hs : s < 8) (h : Mo A M s) : ∀ (fuel k : Nat) (u : Int), aM A < k + fuel → k ≤ aM A → (MidI ((List.range (aM A)).map (aCf A)) u ∨ (∃ j, k ≤ j ∧ j < aM A ∧ MidI ((List.range (aM A)).map (aCf A)) (aCf A j)) ∨ (aM A = 0 ∧ u = 0)) → ∃ w, f_X8_usualOf_10 (i3 s) M (i3 ((60 * s : Nat) : Int)) fuel (i3 u) (i3 ((60 * s + k : Nat) : Int)) = some (i3 w) ∧ IsUs A w := by
  have hm := hv.2.2.2.2.2.2.1
  have i0 : inb (i3 (s : Int)) 8 := inbN hs (by omega)
  have e0 : (i3 (s : Int)).toNatClampNeg = s := i3_nn (by omega)
  have h4 := h.1.2.2.1
  have hlen : ((List.range (aM A)).map (aCf A)).length = aM A := by simp
  intro fuel
  induction fuel with
  | zero => intro k u h1 h2; omega
  | succ fuel ih =>
    intro k u h1 h2 hq
    unfold f_X8_usualOf_10
    rw [ck_pos i0]
    simp (disch := omega) only [ck_pos i0, e0, h4, i3_add, i3_le]
    by_cases c : (((60 * s : Nat) : Int)) + (aM A : Int) ≤ ((60 * s + k : Nat) : Int)
    · rw [if_pos c]
      refine ⟨u, rfl, ?_⟩
      rcases hq with hq | ⟨j, j1, j2, j3⟩ | hq
      · have : 0 < aM A := by
          have := List.length_pos_of_mem hq.1
          omega
        exact Or.inr ⟨this, hq⟩
      · omega
      · exact Or.inl hq
    · rw [if_neg c]
      have hk : k < aM A := by omega
      have hc := m_us_in hv hs h hk 3000 0 (by omega) (by omega)
      have hc' : f_X8_usualOf_32 (i3 s) M (i3 ((60 * s : Nat) : Int)) (i3 ((60 * s + k : Nat) : Int)) 3000 0 0 (i3 ((60 * s : Nat) : Int)) = some (i3 (((List.range (aM A)).map (aCf A)).countP (fun z => ilt z (aCf A k)) : Nat), i3 (((List.range (aM A)).map (aCf A)).countP (eqi (aCf A k)) : Nat)) := by rw [l3_0]; exact hc
      have hsum := cnt_ilt (aCf A k) ((List.range (aM A)).map (aCf A))
      have hcl : ((List.range (aM A)).map (aCf A)).countP (fun z => ilt z (aCf A k)) ≤ aM A := Nat.le_trans List.countP_le_length (Nat.le_of_eq hlen)
      have hcl2 : ((List.range (aM A)).map (aCf A)).countP (eqi (aCf A k)) ≤ aM A := Nat.le_trans List.countP_le_length (Nat.le_of_eq hlen)
      rw [hc', Option.bind_some]
      dsimp only
      rw [m_middle (by omega), Option.bind_some]
      have ik : inb (i3 ((60 * s + k : Nat) : Int)) 480 := inbN (by omega) (by omega)
      have ek : (i3 ((60 * s + k : Nat) : Int)).toNatClampNeg = 60 * s + k := i3_nn (by omega)
      simp (disch := omega) only [ck_pos ik, ek, (h.2.2 k hk).2, i3_lt, i3_le, i3_add, l3_1, nmv_eq]
      have hmem : aCf A k ∈ (List.range (aM A)).map (aCf A) := List.mem_map.mpr ⟨k, List.mem_range.mpr hk, rfl⟩
      have hno : ¬ MidI ((List.range (aM A)).map (aCf A)) (aCf A k) → (MidI ((List.range (aM A)).map (aCf A)) u ∨ (∃ j, k + 1 ≤ j ∧ j < aM A ∧ MidI ((List.range (aM A)).map (aCf A)) (aCf A j)) ∨ (aM A = 0 ∧ u = 0)) := by
        intro hn
        rcases hq with hq | ⟨j, j1, j2, j3⟩ | hq
        · exact Or.inl hq
        · rcases (show j = k ∨ k + 1 ≤ j by omega) with q | q
          · subst q; exact absurd j3 hn
          · exact Or.inr (Or.inl ⟨j, q, j2, j3⟩)
        · omega
      by_cases c1 : (((aM A - 1) / 2 : Nat) : Int) < (((List.range (aM A)).map (aCf A)).countP (fun z => ilt z (aCf A k)) : Nat)
      · rw [if_pos c1, Option.bind_some]
        exact ih (k + 1) u (by omega) (by omega) (hno (fun q => by have := q.2.1; omega))
      · rw [if_neg c1]
        by_cases c2 : ((((List.range (aM A)).map (aCf A)).countP (fun z => ilt z (aCf A k)) : Nat) : Int) + (((List.range (aM A)).map (aCf A)).countP (eqi (aCf A k)) : Nat) ≤ (((aM A - 1) / 2 : Nat) : Int)
        · rw [if_pos c2, Option.bind_some]
          exact ih (k + 1) u (by omega) (by omega) (hno (fun q => by have := q.2.2; omega))
        · rw [if_neg c2, Option.bind_some]
          exact ih (k + 1) (aCf A k) (by omega) (by omega) (Or.inl ⟨hmem, by omega, by omega⟩)
theorem m_usual {A : AB} {M : St} {td : Int} {s : Nat} (hv : Val td A) (hs : s < 8) (h : Mo A M s) (hex : ∃ u, IsUs A u) : ∃ w, f_X8_usualOf (i3 s) M = some (i3 w) ∧ IsUs A w := by
  have hm := hv.2.2.2.2.2.2.1
  obtain ⟨w, w1, w2⟩ := m_us_out hv hs h 3000 0 0 (by omega) (by omega) (by
    obtain ⟨u, hu⟩ := hex
    rcases hu with hu | hu
    · exact Or.inr (Or.inr ⟨hu.1, rfl⟩)
    · obtain ⟨j, hj, e⟩ := List.mem_map.mp hu.2.1
      exact Or.inr (Or.inl ⟨j, Nat.zero_le _, List.mem_range.mp hj, by rw [e]; exact hu.2⟩))
  refine ⟨w, ?_, w2⟩
  unfold f_X8_usualOf
  rw [l3_60, i3_mul, nmv_eq, l3_0]
  have w1' : f_X8_usualOf_10 (i3 s) M (i3 ((60 : Int) * s)) 3000 (i3 0) (i3 ((60 : Int) * s)) = some (i3 w) := w1
  rw [w1', Option.bind_some]
theorem m_ruled {A : AB} {M : St} {td : Int} {s : Nat} (hv : Val td A) (hs : s < 8) (h : Mo A M s) {d : Int} (hd : 0 ≤ d ∧ d ≤ 10000) : f_X8_ruled (i3 s) (i3 d) M = some (i3 (rul (aFr A) (aEv A) d)) := by
  have i0 : inb (i3 (s : Int)) 8 := inbN hs (by omega)
  have e0 : (i3 (s : Int)).toNatClampNeg = s := i3_nn (by omega)
  have h7 := h.1.2.2.2.1
  have h8 := h.1.2.2.2.2.1
  have r7 := hv.2.1
  have r8 := hv.2.2.1
  unfold f_X8_ruled rul
  rw [ck_pos i0, ck_pos i0, ck_pos i0, ck_pos i0]
  simp (disch := omega) only [e0, h7, h8, l3_0, l3_1, i3_eq, i3_le, i3_sub]
  by_cases c1 : aEv A = 0
  · rw [if_pos c1, if_pos (Or.inl (by omega))]
  · rw [if_neg c1]
    by_cases c2 : aFr A ≤ d
    · rw [if_pos c2, if_neg (by omega), ck_pos c1, i3_div (by omega) (by omega) (by omega) (by omega), i3_add]
    · rw [if_neg c2, if_pos (Or.inr (by omega))]
theorem m_fore {A : AB} {M : St} {td : Int} {s : Nat} (hv : Val td A) (hs : s < 8) (h : Mo A M s) {N D st us u d : Int} (h3 : M.1 3 = i3 N) (h4 : M.1 4 = i3 D) (h5 : M.1 5 = i3 st) (h6 : M.1 6 = i3 us) (hu2 : 0 ≤ u ∧ u ≤ 100000) (hst : 0 ≤ st ∧ st ≤ d) (hd : d ≤ 5000) (hus : 0 ≤ us ∧ us ≤ 1000000) (hb : Bd (N, D)) : f_X8_forecastFor (i3 s) (i3 d) (i3 u) M = some (i6 (fcv us N D st u (aFr A) (aEv A) d)) := by
  obtain ⟨b1, b2, b3, b4⟩ := hb
  dsimp only at b1 b2 b3 b4
  have hr1 := rul_rng (fr := aFr A) (ev := aEv A) (d := d) hv.2.1.1 (by omega)
  have hr2 := rul_rng (fr := aFr A) (ev := aEv A) (d := st) hv.2.1.1 (by omega)
  have hr3 := rul_mono (fr := aFr A) (ev := aEv A) hst.2
  have hm := mul_rng (a := N) (b := d - st) (X := 7000000) (Y := 5000) (by omega) (by omega) (by omega) (by omega) (by omega)
  have hq := div_rng (x := N * (d - st)) (y := D) (X := 35000000000) (by omega) (by omega) (by omega) b3
  have hm2 := mul_rng (a := u) (b := rul (aFr A) (aEv A) d - rul (aFr A) (aEv A) st) (X := 100000) (Y := 10000) (by omega) (by omega) (by omega) (by omega) (by omega)
  have hg : ∃ t r : Int, i6 (N * (d - st)) / i6 D = i6 t ∧ (if i6 0 ≤ i6 (N * (d - st)) then some (i6 0) else ck (¬ i6 D = i6 0) (if i6 (N * (d - st)) - i6 (N * (d - st)) / i6 D * i6 D = i6 0 then some (i6 0) else some (i6 1))) = some (i6 r) ∧ t - r = N * (d - st) / D := by
    generalize N * (d - st) = x at hm hq ⊢
    have hne : ¬ i6 D = i6 0 := by rw [i6_eq (by omega) (by omega) (by omega) (by omega)]; omega
    rw [i6_tdiv (by omega) (by omega) (by omega) (by omega)]
    simp (disch := omega) only [i6_le, i6_mul, i6_sub]
    by_cases c : 0 ≤ x
    · rw [if_pos c, Int.tdiv_eq_ediv_of_nonneg c]
      exact ⟨_, 0, rfl, rfl, by omega⟩
    · rw [if_neg c, ck_pos (by first | exact hne | (rw [i6_eq (by omega) (by omega) (by omega) (by omega)] at hne; exact hne)), Int.tdiv_eq_ediv]
      have e3 := Int.mul_ediv_add_emod x D
      have e4 := Int.emod_nonneg x (show D ≠ 0 by omega)
      have e5 := Int.emod_lt_of_pos x b3
      have e2 : x / D * D = D * (x / D) := Int.mul_comm _ _
      by_cases c2 : D ∣ x
      · rw [show (if 0 ≤ x ∨ D ∣ x then (0 : Int) else D.sign) = 0 from if_pos (Or.inr c2), Int.add_zero, Int.ediv_mul_cancel c2, Int.sub_self, if_pos rfl]
        exact ⟨_, 0, rfl, rfl, by omega⟩
      · rw [show (if 0 ≤ x ∨ D ∣ x then (0 : Int) else D.sign) = 1 from by rw [if_neg (fun q => q.elim c c2), Int.sign_eq_one_of_pos b3]]
        have e6 : x % D ≠ 0 := fun q => c2 (Int.dvd_of_emod_eq_zero q)
        have e7 : (x / D + 1) * D = x / D * D + D := by rw [Int.add_mul]; omega
        have hne2 : ¬ i6 (x - (x / D + 1) * D) = i6 0 := by
          rw [i6_eq (by omega) (by omega) (by omega) (by omega)]; omega
        rw [if_neg hne2]
        exact ⟨_, 1, rfl, rfl, by omega⟩
  obtain ⟨t, r, g1, g2, g3⟩ := hg
  have hD0 : ¬ i6 D = 0 := by rw [l6_0, i6_eq (by omega) (by omega) (by omega) (by omega)]; omega
  have hg2' : (if 0 ≤ lg_cmp (i6 (N * (d - st))) 0 then some (0 : Int64) else ck (¬ i6 D = 0) (if lg_cmp (i6 (N * (d - st)) - i6 (N * (d - st)) / i6 D * i6 D) 0 = 0 then some (0 : Int64) else some (1 : Int64))) = some (i6 r) := by
    rw [← g2]
    simp only [l3_0, lgge, lgeq, l6_0, l6_1]
  unfold f_X8_forecastFor
  rw [h3, h4, h5, h6, i3_sub, i3_long (by omega) (by omega), i3_long (by omega) (by omega), i6_mul, nmv_eq, i3_long (by omega) (by omega), ck_pos hD0, nmv_eq, hg2', Option.bind_some, nmv_eq, m_ruled hv hs h (by omega), Option.bind_some, m_ruled hv hs h (by omega), Option.bind_some, nmv_eq, g1, i3_sub, i3_long (by omega) (by omega), i3_long (by omega) (by omega), i3_long (by omega) (by omega), i6_mul, i6_sub, i6_add, i6_sub, g3]
  have e2 : us + N * (d - st) / D - u * (rul (aFr A) (aEv A) d - rul (aFr A) (aEv A) st) = rmv us N D st u (aFr A) (aEv A) d := rfl
  have hb : -100000000000 ≤ rmv us N D st u (aFr A) (aEv A) d ∧ rmv us N D st u (aFr A) (aEv A) d ≤ 100000000000 := by rw [← e2]; omega
  rw [e2]
  unfold fcv clp
  generalize rmv us N D st u (aFr A) (aEv A) d = y at hb ⊢
  simp (disch := omega) only [l3_0, l6_0, l6_2000000000, lgge, lgle, i6_le]
  by_cases c1 : 0 ≤ y
  · rw [if_pos c1, if_neg (show ¬ y < 0 by omega)]
    by_cases c2 : y ≤ 2000000000
    · rw [if_pos c2, if_neg (show ¬ 2000000000 < y by omega)]
    · rw [if_neg c2, if_pos (show 2000000000 < y by omega)]
  · rw [if_neg c1, if_pos (show y < 0 by omega)]
theorem m_fd_loop {A : AB} {M : St} {td : Int} {s : Nat} (hv : Val td A) (ht : td ≤ 2000) (hs : s < 8) (h : Mo A M s) {N D st us u : Int} (h3 : M.1 3 = i3 N) (h4 : M.1 4 = i3 D) (h5 : M.1 5 = i3 st) (h6 : M.1 6 = i3 us) (hu2 : 0 ≤ u ∧ u ≤ 100000) (hst : 0 ≤ st ∧ st ≤ td) (hus : 0 ≤ us ∧ us ≤ 1000000) (hb : Bd (N, D)) : ∀ (fuel : Nat) (a : Int), 1 ≤ a → a ≤ 1001 → 1001 < a + (fuel : Int) → (∀ b, 1 ≤ b → b < a → fcv us N D st u (aFr A) (aEv A) (st + b) < aSz A) → ∃ r, f_X8_fullDay_30 (i3 s) M (i3 u) fuel (i3 1000000) (i3 (st + a)) = some (i3 r) ∧ IsFull (aSz A) (fcv us N D st u (aFr A) (aEv A)) st r := by
  have i0 : inb (i3 (s : Int)) 8 := inbN hs (by omega)
  have e0 : (i3 (s : Int)).toNatClampNeg = s := i3_nn (by omega)
  intro fuel
  induction fuel with
  | zero => intro a h1 h2 h9; omega
  | succ fuel ih =>
    intro a h1 h2 h9 hp
    unfold f_X8_fullDay_30
    simp (disch := omega) only [h5, l3_1000, l3_1000000, i3_add, i3_lt, i3_eq, l3_1, nmv_eq]
    by_cases c : st + 1000 < st + a
    · rw [if_pos c]
      exact ⟨1000000, rfl, Or.inr ⟨fun b b1 b2 => hp b b1 (by omega), rfl⟩⟩
    · rw [if_neg c, if_pos trivial, m_fore hv hs h h3 h4 h5 h6 hu2 (by omega) (by omega) hus hb, Option.bind_some, ck_pos i0]
      have hc := clp_rng (rmv us N D st u (aFr A) (aEv A) (st + a))
      have ef : fcv us N D st u (aFr A) (aEv A) (st + a) = clp (rmv us N D st u (aFr A) (aEv A) (st + a)) := rfl
      have hsz := hv.1
      simp (disch := omega) only [e0, h.1.1, i3_long, l3_0, lglt, i6_lt]
      by_cases c2 : fcv us N D st u (aFr A) (aEv A) (st + a) < aSz A
      · rw [if_pos c2, Option.bind_some, show st + a + 1 = st + (a + 1) by omega]
        refine ih (a + 1) (by omega) (by omega) (by omega) (fun b b1 b2 => ?_)
        rcases (show b = a ∨ b < a by omega) with q | q
        · rw [q]; exact c2
        · exact hp b b1 q
      · rw [if_neg c2, Option.bind_some]
        obtain ⟨f, rfl⟩ : ∃ f, fuel = f + 1 := ⟨fuel - 1, by omega⟩
        unfold f_X8_fullDay_30
        simp (disch := omega) only [h5, l3_1000, l3_1000000, i3_add, i3_lt, i3_eq]
        refine ⟨st + a, ?_, Or.inl ⟨a, h1, by omega, by omega, hp, rfl⟩⟩
        split
        · rfl
        · rw [if_neg (by omega)]
theorem m_fullDay {A : AB} {M : St} {td : Int} {s : Nat} (hv : Val td A) (ht : td ≤ 2000) (hs : s < 8) (h : Mo A M s) {o : Int} (ho : oOk (aN A) o) (hex : ∃ x, Mid (sl A o) x) (hex2 : ∃ u, IsUs A u) : ∃ r M2, f_X8_fullDay (i3 s) (i3 o) M = some (i3 r, M2) ∧ FrM M M2 ∧ FDay A o r ∧ 1 ≤ r ∧ r ≤ 1000000 := by
  obtain ⟨x, M2, q1, q2, q3, q4, q5, q6, q7⟩ := m_finds hv ht hs h ho hex
  have h2 := h.fm q2
  obtain ⟨u, u1, u2⟩ := m_usual hv hs h2 hex2
  have hn2 : 2 ≤ aN A := by rcases ho with h | h <;> omega
  have hlt : lastp (aN A) o < aN A := by unfold lastp; split <;> (rcases ho with h | h <;> omega)
  have hd := hv.2.2.2.2.1 _ hlt
  have hbx := sl_bd hv ht x q3.1
  obtain ⟨hbr, hre⟩ := red_rng hbx
  obtain ⟨r, r1, r2⟩ := m_fd_loop hv ht hs h2 q4 q5 q6 q7 (IsUs_rng hv u2) (by omega) (by omega) hbr 3000 1 (by omega) (by omega) (by omega) (fun b b1 b2 => by omega)
  have ef : fcv (aUs A (lastp (aN A) o)) (redN x) (redD x) (aDy A (lastp (aN A) o)) u (aFr A) (aEv A) = fcA A x u o := by
    funext d
    exact fcv_frac hbr.2.2.1 hbx.2.2.1 hre d
  rw [ef] at r2
  have hf : FDay A o r := ⟨x, u, q3, u2, r2⟩
  refine ⟨r, M2, ?_, q2, hf, FDay_rng hv ht hn2 hf⟩
  unfold f_X8_fullDay
  rw [q1, Option.bind_some]
  dsimp only
  rw [if_neg (by decide), u1, Option.bind_some, nmv_eq, q6, l3_1, i3_add, l3_1000000, r1, Option.bind_some]
theorem m_fullDay0 {A : AB} {M : St} {td : Int} {s : Nat} (hv : Val td A) (ht : td ≤ 2000) (hs : s < 8) (h : Mo A M s) (hn : aN A < 2) : ∃ M2, f_X8_fullDay (i3 s) (i3 (-1)) M = some (i3 1000000, M2) ∧ FrM M M2 := by
  obtain ⟨M2, q1, q2⟩ := m_finds0 hv ht hs h hn
  refine ⟨M2, ?_, q2⟩
  unfold f_X8_fullDay
  rw [q1, Option.bind_some]
  dsimp only
  rw [if_pos l3_0.symm, l3_1000000]
