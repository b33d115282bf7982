/-! The class: the line is drawn, the day found, the bounds, the warnings -/
theorem FrS.one (S : St) (k : Nat) (v : Int32) (h : k = 8 ∨ k = 9 ∨ k = 10 ∨ k = 11) : FrS S (sF S k v) := ⟨rfl, fun j a b c d => by
  rw [sF_1, if_neg (by omega)]⟩
theorem cl_draw {A : AB} {S : St} {td : Int} (hv : Val td A) (h : Cl A S) {o : Int} (ho : oOk (aN A) o) : ∃ x S2, f_X5_drawLineWithout (i3 o) S = some S2 ∧ FrS S S2 ∧ S2.1 8 = i3 (aDy A (lastp (aN A) o)) ∧ S2.1 9 = i3 (aUs A (lastp (aN A) o)) ∧ S2.1 10 = i3 x.1 ∧ S2.1 11 = i3 x.2 ∧ Mid (sl A o) x := by
  have hn : aN A ≤ 12 := hv.2.2.2.1
  obtain ⟨⟨a0, a1, a4, a5, a6, a7, a12, a13⟩, b, c, d⟩ := h
  obtain ⟨r, r1, r2, r3⟩ := cl_middleW hn c ho
  have hob : -1 ≤ o ∧ o ≤ 100 := by rcases ho with h | h <;> omega
  have hl : f_X4_lastPlaceWithout (i3 o) S = some (i3 ((lastp (aN A) o : Nat) : Int)) := by
    unfold f_X4_lastPlaceWithout lastp
    simp (disch := omega) only [a1, l3_1, l3_2, i3_sub, i3_eq]
    by_cases c1 : o = (aN A : Int) - 1
    · rw [if_pos c1, if_pos c1]; congr 2; rcases ho with h | h <;> omega
    · rw [if_neg c1, if_neg c1]; congr 2; rcases ho with h | h <;> omega
  have hlt : lastp (aN A) o < aN A := by unfold lastp; split <;> (rcases ho with h | h <;> omega)
  obtain ⟨g0, g1, g2⟩ := cl_at4 a1 hn b hlt
  have hpl := prs_len (aN A) (by omega)
  have hpl2 := tri_small (aN A) (by omega)
  have hS1 : (sF (sF S 8 (i3 (aDy A (lastp (aN A) o)))) 9 (i3 (aUs A (lastp (aN A) o)))).1 2 = i3 ((prs (aN A)).length : Nat) := c.1
  obtain ⟨q0, q1⟩ := cl_at2 hS1 (by omega) r1
  refine ⟨(ent S r).1, sF (sF (sF (sF S 8 (i3 (aDy A (lastp (aN A) o)))) 9 (i3 (aUs A (lastp (aN A) o)))) 10 (i3 (ent S r).1.1)) 11 (i3 (ent S r).1.2), ?_, ?_, rfl, rfl, rfl, rfl, r3⟩
  · unfold f_X5_drawLineWithout f_X1_start f_X1_climb
    rw [hl, Option.bind_some, r2, Option.bind_some, g0, Option.bind_some, g1, Option.bind_some, nmv_eq, nmv_eq, Option.bind_some, q0, Option.bind_some, q1, Option.bind_some, nmv_eq, nmv_eq, Option.bind_some]
    rfl
  · exact (((FrS.one _ _ _ (by omega)).tr (FrS.one _ _ _ (by omega))).tr (FrS.one _ _ _ (by omega))).tr (FrS.one _ _ _ (by omega))
theorem cl_draw0 {A : AB} {S : St} (h : Cl A S) (hn : aN A < 2) : ∃ S2, f_X5_drawLineWithout (i3 (-1)) S = some S2 ∧ FrS S S2 := by
  obtain ⟨⟨a0, a1, a4, a5, a6, a7, a12, a13⟩, b, ⟨c1, c2, c3, c4⟩, d⟩ := h
  have hp0 : (prs (aN A)).length = 0 := by
    rcases (show aN A = 0 ∨ aN A = 1 by omega) with h | h <;> rw [h] <;> decide
  rw [hp0] at c1
  have hm : f_X2_middlePlaceWithout (i3 (-1)) S = some (i3 (-1)) := by
    unfold f_X2_middlePlaceWithout f_X2_numberWithout
    simp (disch := omega) only [i3_neg, i3_eq, c2, l3_1, l3_2, i3_sub]
    rw [if_pos trivial, Option.bind_some]
    have e : (i3 (aN A) * (i3 (aN A) - i3 1)) / i3 2 = i3 0 := by
      rcases (show aN A = 0 ∨ aN A = 1 by omega) with h | h <;> rw [h] <;> decide
    rw [e, Option.bind_some, cl_middle (by omega), Option.bind_some]
    unfold f_X2_middlePlaceWithout_14
    rw [l3_0, if_pos (by rw [c1]; decide), l3_m1]
  have hl : ∃ k : Int, f_X4_lastPlaceWithout (i3 (-1)) S = some (i3 k) ∧ ((-10 ≤ k ∧ k < 0) ∨ (k = 0 ∧ 0 < aN A)) := by
    unfold f_X4_lastPlaceWithout
    simp (disch := omega) only [a1, l3_1, l3_2, i3_sub, i3_eq]
    by_cases c : (-1 : Int) = (aN A : Int) - 1
    · rw [if_pos c]; exact ⟨_, rfl, by omega⟩
    · rw [if_neg c]; exact ⟨_, rfl, by omega⟩
  obtain ⟨k, hl, hk⟩ := hl
  have hat : ∃ y z : Int, f_X4_dayAt (i3 k) S = some (i3 y) ∧ f_X4_usedAt (i3 k) S = some (i3 z) := by
    rcases hk with hk | ⟨rfl, hk⟩
    · obtain ⟨g0, g1⟩ := cl_at4o a1 (by omega) hk
      exact ⟨_, _, g0, g1⟩
    · obtain ⟨g0, g1, g2⟩ := cl_at4 a1 (by omega) b (k := 0) hk
      exact ⟨_, _, g0, g1⟩
  obtain ⟨y, z, g0, g1⟩ := hat
  have hS1 : (sF (sF S 8 (i3 y)) 9 (i3 z)).1 2 = i3 ((0 : Nat) : Int) := c1
  obtain ⟨q0, q1⟩ := cl_at2o hS1 (by omega)
  refine ⟨sF (sF (sF (sF S 8 (i3 y)) 9 (i3 z)) 10 (i3 0)) 11 (i3 1), ?_, ?_⟩
  · unfold f_X5_drawLineWithout f_X1_start f_X1_climb
    rw [hl, Option.bind_some, hm, Option.bind_some, g0, Option.bind_some, g1, Option.bind_some, nmv_eq, nmv_eq, Option.bind_some, q0, Option.bind_some, q1, Option.bind_some, nmv_eq, nmv_eq, Option.bind_some]
  · exact (((FrS.one _ _ _ (by omega)).tr (FrS.one _ _ _ (by omega))).tr (FrS.one _ _ _ (by omega))).tr (FrS.one _ _ _ (by omega))
theorem lst_rng {h N D : Int} (hh : 1 ≤ h) (hD : 0 < D) : 1 ≤ lst h N D ∧ lst h N D ≤ 1000 := by
  unfold lst
  by_cases c : 0 < N
  · rw [if_pos c]
    have := Int.ediv_nonneg (a := (h - 1) * D) (b := N) (Int.mul_nonneg (by omega) (by omega)) (by omega)
    split <;> omega
  · rw [if_neg c]; omega
theorem lst_ok {h N D t : Int} (hh : 1 ≤ h) (hD : 0 < D) (ht : t ≤ lst h N D - 1) : N ≤ 0 ∨ N * t ≤ (h - 1) * D := by
  by_cases c : 0 < N
  · right
    unfold lst at ht
    rw [if_pos c] at ht
    have h1 : t ≤ (h - 1) * D / N := by split at ht <;> omega
    have h2 := Int.mul_ediv_self_le (x := (h - 1) * D) (k := N) (by omega)
    have h3 : N * t ≤ N * ((h - 1) * D / N) := Int.mul_le_mul_of_nonneg_left h1 (by omega)
    omega
  · left; omega
theorem clp_rng (x : Int) : 0 ≤ clp x ∧ clp x ≤ 2000000000 := by
  unfold clp
  split
  · omega
  · split <;> omega
theorem cl_fd_loop {A : AB} {S1 : St} {td : Int} (hv : Val td A) (ht : td ≤ 2000) (h : Cl A S1) {st us u : Int} {x : Int × Int} (hu1 : f_X0_usualSize S1 = some (i3 u)) (hu2 : 0 ≤ u ∧ u ≤ 100000) (h8 : S1.1 8 = i3 st) (h9 : S1.1 9 = i3 us) (h10 : S1.1 10 = i3 x.1) (h11 : S1.1 11 = i3 x.2) (hs : 0 ≤ st ∧ st ≤ td) (hus : 0 ≤ us ∧ us ≤ 1000000) (hN : -7000000 ≤ x.1 ∧ x.1 ≤ 7000000) (hD : 0 < x.2 ∧ x.2 ≤ 2000) : ∀ (fuel : Nat) (a : Int), 1 ≤ a → a ≤ 2000 → 3000 < a + (fuel : Int) → (∀ b, 1 ≤ b → b < a → fcv us x.1 x.2 st u (aFr A) (aEv A) (st + b) < aSz A) → ∃ r, f_X5_fullDayWithout_9 S1 fuel (i3 a) = some (i3 r, S1) ∧ IsFull (aSz A) (fcv us x.1 x.2 st u (aFr A) (aEv A)) st r := by
  intro fuel
  induction fuel with
  | zero =>
    intro a h1 h2 h3 h4
    omega
  | succ fuel ih =>
    intro a h1 h2 h3 h4
    unfold f_X5_fullDayWithout_9
    simp (disch := omega) only [h8, l3_1000, i3_lt, l3_0, l3_1, i3_add]
    by_cases c : 1000 < a
    · rw [if_pos c]
      exact ⟨1000000, by rw [l3_1000000], Or.inr ⟨fun b b1 b2 => h4 b b1 (by omega), rfl⟩⟩
    · rw [if_neg c, cl_roomOn hv h hu1 hu2 h8 h9 h10 h11 (by omega) (by omega) hus hN hD, Option.bind_some, nmv_eq]
      have hc := clp_rng (rmv us x.1 x.2 st u (aFr A) (aEv A) (st + a))
      have hsz := hv.1
      have ef : fcv us x.1 x.2 st u (aFr A) (aEv A) (st + a) = clp (rmv us x.1 x.2 st u (aFr A) (aEv A) (st + a)) := rfl
      simp (disch := omega) only [h.1.1, i3_sub, i3_lt]
      by_cases c2 : 0 < aSz A - fcv us x.1 x.2 st u (aFr A) (aEv A) (st + a)
      · rw [if_pos c2, cl_least h10 h11 (by omega) hN hD, Option.bind_some, nmv_eq, nmv_eq]
        have hl := lst_rng (h := aSz A - fcv us x.1 x.2 st u (aFr A) (aEv A) (st + a)) (N := x.1) (D := x.2) (by omega) hD.1
        have e1 : (if i3 1 < i3 (lst (aSz A - fcv us x.1 x.2 st u (aFr A) (aEv A) (st + a)) x.1 x.2) then i3 (lst (aSz A - fcv us x.1 x.2 st u (aFr A) (aEv A) (st + a)) x.1 x.2) else i3 1) = i3 (lst (aSz A - fcv us x.1 x.2 st u (aFr A) (aEv A) (st + a)) x.1 x.2) := by
          simp (disch := omega) only [i3_lt]
          split
          · rfl
          · congr 1; omega
        rw [e1, i3_add]
        refine ih _ (by omega) (by omega) (by omega) (fun b b1 b2 => ?_)
        rcases Int.lt_trichotomy b a with q | q | q
        · exact h4 b b1 q
        · subst q; omega
        · exact skip_ok hD.1 hu2.1 hsz.1 (by omega) q rfl c2 (lst_ok (by omega) hD.1 (by omega))
      · rw [if_neg c2]
        exact ⟨st + a, rfl, Or.inl ⟨a, h1, by omega, by omega, h4, rfl⟩⟩
theorem cl_fullW {A : AB} {S : St} {td : Int} (hv : Val td A) (ht : td ≤ 2000) (h : Cl A S) {o : Int} (ho : oOk (aN A) o) : ∃ r S2, f_X5_fullDayWithout (i3 o) S = some (i3 r, S2) ∧ FrS S S2 ∧ FDay A o r ∧ 1 ≤ r ∧ r ≤ 1000000 := by
  obtain ⟨x, S2, e1, e2, e3, e4, e5, e6, e7⟩ := cl_draw hv h ho
  have h2 := h.fr e2
  obtain ⟨u, u1, u2⟩ := cl_usual hv h2
  have hn2 : 2 ≤ aN A := by rcases ho with h | h <;> omega
  have hlt : lastp (aN A) o < aN A := by unfold lastp; split <;> (rcases ho with h | h <;> omega)
  have hd := hv.2.2.2.2.1 _ hlt
  have hx := sl_mem hv e7.1
  obtain ⟨r, r1, r2⟩ := cl_fd_loop hv ht h2 u1 (IsUs_rng hv u2) e3 e4 e5 e6 (by omega) (by omega) (by omega) (by omega) 3000 1 (by omega) (by omega) (by omega) (fun b b1 b2 => by omega)
  have hf : FDay A o r := ⟨x, u, e7, u2, r2⟩
  refine ⟨r, S2, ?_, e2, hf, FDay_rng hv ht hn2 hf⟩
  unfold f_X5_fullDayWithout
  rw [e1, Option.bind_some, l3_1]
  exact r1
theorem cl_hasSlope {A : AB} {S : St} (h : Cl A S) (hn : aN A ≤ 12) : f_X5_hasSlope S = some (i3 (if aN A < 2 then 0 else 1)) := by
  unfold f_X5_hasSlope f_X4_number
  rw [Option.bind_some]
  simp (disch := omega) only [h.1.2.1, l3_0, l3_1, l3_2, i3_lt]
  by_cases c : aN A < 2
  · rw [if_pos c, if_pos (by omega)]
  · rw [if_neg c, if_neg (by omega)]
theorem cl_fullDay {A : AB} {S : St} {td : Int} (hv : Val td A) (ht : td ≤ 2000) (h : Cl A S) : ∃ r S2, f_X5_fullDay S = some (i3 r, S2) ∧ FrS S S2 ∧ ((aN A < 2 ∧ r = 1000000) ∨ (2 ≤ aN A ∧ FDay A (-1) r)) ∧ 1 ≤ r ∧ r ≤ 1000000 := by
  unfold f_X5_fullDay
  rw [cl_hasSlope h hv.2.2.2.1, Option.bind_some]
  by_cases c : aN A < 2
  · rw [if_pos c, if_pos l3_0.symm, l3_1000000]
    exact ⟨1000000, S, rfl, FrS.rf S, Or.inl ⟨c, rfl⟩, by omega, by omega⟩
  · rw [if_neg c, if_neg (by decide), l3_m1]
    obtain ⟨r, S2, r1, r2, r3, r4⟩ := cl_fullW hv ht h (o := -1) (Or.inl ⟨rfl, by omega⟩)
    rw [r1, Option.bind_some]
    exact ⟨r, S2, rfl, r2, Or.inr ⟨by omega, r3⟩, r4⟩
theorem cl_early_loop {A : AB} {td : Int} (hv : Val td A) (ht : td ≤ 2000) (hn : 3 ≤ aN A) : ∀ fuel (k : Nat) (e : Int) (S : St), Cl A S → aN A < k + fuel → k ≤ aN A → (1 ≤ e ∧ e ≤ 1000000) → (∀ o : Int, -1 ≤ o → o < k → ∃ r, FDay A o r ∧ e ≤ r) → (∃ o : Int, -1 ≤ o ∧ o < aN A ∧ FDay A o e) → ∃ e2 S2, f_X5_earlyBound_22 fuel (i3 e) (i3 k) S = some (i3 e2, S2) ∧ FrS S S2 ∧ Early A e2 ∧ 1 ≤ e2 ∧ e2 ≤ 1000000 := by
  intro fuel
  induction fuel with
  | zero => intro k e S h h1 h2; omega
  | succ fuel ih =>
    intro k e S h h1 h2 h3 h4 h5
    have hn2 := hv.2.2.2.1
    unfold f_X5_earlyBound_22 f_X4_number
    rw [Option.bind_some]
    simp (disch := omega) only [h.1.2.1, i3_le]
    by_cases c : (aN A : Int) ≤ k
    · rw [if_pos c]
      exact ⟨e, S, rfl, FrS.rf S, Or.inr ⟨hn, fun o o1 o2 => h4 o o1 (by omega), h5⟩, h3⟩
    · rw [if_neg c]
      obtain ⟨r, S2, r1, r2, r3, r4⟩ := cl_fullW hv ht h (o := (k : Int)) (Or.inr ⟨by omega, by omega, hn⟩)
      rw [r1, Option.bind_some]
      simp (disch := omega) only [nmv_eq, l3_1, i3_add, i3_lt]
      obtain ⟨e2, he2, hd⟩ : ∃ e2 : Int, (if r < e then i3 r else i3 e) = i3 e2 ∧ ((e2 = r ∧ r < e) ∨ (e2 = e ∧ e ≤ r)) := by
        by_cases c2 : r < e
        · rw [if_pos c2]; exact ⟨r, rfl, Or.inl ⟨rfl, by omega⟩⟩
        · rw [if_neg c2]; exact ⟨e, rfl, Or.inr ⟨rfl, by omega⟩⟩
      rw [he2]
      obtain ⟨e3, S3, q1, q2, q3⟩ := ih (k + 1) e2 S2 (h.fr r2) (by omega) (by omega) (by omega) (fun o o1 o2 => by
        rcases (show o < k ∨ o = k by omega) with q | q
        · obtain ⟨r9, r91, r92⟩ := h4 o o1 q
          exact ⟨r9, r91, by omega⟩
        · subst q; exact ⟨r, r3, by omega⟩) (by
        rcases hd with ⟨rfl, -⟩ | ⟨rfl, -⟩
        · exact ⟨k, by omega, by omega, r3⟩
        · exact h5)
      exact ⟨e3, S3, q1, r2.tr q2, q3⟩
theorem cl_early {A : AB} {S : St} {td : Int} (hv : Val td A) (ht : td ≤ 2000) (h : Cl A S) : ∃ e S2, f_X5_earlyBound S = some (i3 e, S2) ∧ FrS S S2 ∧ Early A e ∧ 1 ≤ e ∧ e ≤ 1000000 := by
  have hn2 := hv.2.2.2.1
  unfold f_X5_earlyBound f_X4_number
  rw [Option.bind_some]
  simp (disch := omega) only [h.1.2.1, l3_3, i3_le]
  by_cases c : (3 : Int) ≤ aN A
  · rw [if_pos c, l3_m1]
    obtain ⟨r, S2, r1, r2, r3, r4⟩ := cl_fullW hv ht h (o := -1) (Or.inl ⟨rfl, by omega⟩)
    rw [r1, Option.bind_some, l3_0]
    obtain ⟨e3, S3, q1, q2, q3⟩ := cl_early_loop hv ht (by omega) 3000 0 r S2 (h.fr r2) (by omega) (by omega) r4 (fun o o1 o2 => by
      have : o = -1 := by omega
      subst this
      exact ⟨r, r3, by omega⟩) ⟨-1, by omega, by omega, r3⟩
    have q1' : f_X5_earlyBound_22 3000 (i3 r) (i3 0) S2 = some (i3 e3, S3) := q1
    rw [q1', Option.bind_some]
    exact ⟨e3, S3, rfl, r2.tr q2, q3⟩
  · rw [if_neg c, l3_1000000]
    exact ⟨1000000, S, rfl, FrS.rf S, Or.inl ⟨by omega, rfl⟩, by omega, by omega⟩
theorem cl_late_loop {A : AB} {td : Int} (hv : Val td A) (ht : td ≤ 2000) (hn : 3 ≤ aN A) : ∀ fuel (k : Nat) (e : Int) (S : St), Cl A S → aN A < k + fuel → k ≤ aN A → (1 ≤ e ∧ e ≤ 1000000) → (∀ o : Int, -1 ≤ o → o < k → ∃ r, FDay A o r ∧ r ≤ e) → (∃ o : Int, -1 ≤ o ∧ o < aN A ∧ FDay A o e) → ∃ e2 S2, f_X5_lateBound_22 fuel (i3 e) (i3 k) S = some (i3 e2, S2) ∧ FrS S S2 ∧ Late A e2 ∧ 1 ≤ e2 ∧ e2 ≤ 1000000 := by
  intro fuel
  induction fuel with
  | zero => intro k e S h h1 h2; omega
  | succ fuel ih =>
    intro k e S h h1 h2 h3 h4 h5
    have hn2 := hv.2.2.2.1
    unfold f_X5_lateBound_22 f_X4_number
    rw [Option.bind_some]
    simp (disch := omega) only [h.1.2.1, i3_le]
    by_cases c : (aN A : Int) ≤ k
    · rw [if_pos c]
      exact ⟨e, S, rfl, FrS.rf S, Or.inr ⟨hn, fun o o1 o2 => h4 o o1 (by omega), h5⟩, h3⟩
    · rw [if_neg c]
      obtain ⟨r, S2, r1, r2, r3, r4⟩ := cl_fullW hv ht h (o := (k : Int)) (Or.inr ⟨by omega, by omega, hn⟩)
      rw [r1, Option.bind_some]
      simp (disch := omega) only [nmv_eq, l3_1, i3_add, i3_lt]
      obtain ⟨e2, he2, hd⟩ : ∃ e2 : Int, (if e < r then i3 r else i3 e) = i3 e2 ∧ ((e2 = r ∧ e < r) ∨ (e2 = e ∧ r ≤ e)) := by
        by_cases c2 : e < r
        · rw [if_pos c2]; exact ⟨r, rfl, Or.inl ⟨rfl, by omega⟩⟩
        · rw [if_neg c2]; exact ⟨e, rfl, Or.inr ⟨rfl, by omega⟩⟩
      rw [he2]
      obtain ⟨e3, S3, q1, q2, q3⟩ := ih (k + 1) e2 S2 (h.fr r2) (by omega) (by omega) (by omega) (fun o o1 o2 => by
        rcases (show o < k ∨ o = k by omega) with q | q
        · obtain ⟨r9, r91, r92⟩ := h4 o o1 q
          exact ⟨r9, r91, by omega⟩
        · subst q; exact ⟨r, r3, by omega⟩) (by
        rcases hd with ⟨rfl, -⟩ | ⟨rfl, -⟩
        · exact ⟨k, by omega, by omega, r3⟩
        · exact h5)
      exact ⟨e3, S3, q1, r2.tr q2, q3⟩
theorem cl_late {A : AB} {S : St} {td : Int} (hv : Val td A) (ht : td ≤ 2000) (h : Cl A S) : ∃ e S2, f_X5_lateBound S = some (i3 e, S2) ∧ FrS S S2 ∧ Late A e ∧ 1 ≤ e ∧ e ≤ 1000000 := by
  have hn2 := hv.2.2.2.1
  unfold f_X5_lateBound f_X4_number
  rw [Option.bind_some]
  simp (disch := omega) only [h.1.2.1, l3_3, i3_le]
  by_cases c : (3 : Int) ≤ aN A
  · rw [if_pos c, l3_m1]
    obtain ⟨r, S2, r1, r2, r3, r4⟩ := cl_fullW hv ht h (o := -1) (Or.inl ⟨rfl, by omega⟩)
    rw [r1, Option.bind_some, l3_0]
    obtain ⟨e3, S3, q1, q2, q3⟩ := cl_late_loop hv ht (by omega) 3000 0 r S2 (h.fr r2) (by omega) (by omega) r4 (fun o o1 o2 => by
      have : o = -1 := by omega
      subst this
      exact ⟨r, r3, by omega⟩) ⟨-1, by omega, by omega, r3⟩
    have q1' : f_X5_lateBound_22 3000 (i3 r) (i3 0) S2 = some (i3 e3, S3) := q1
    rw [q1', Option.bind_some]
    exact ⟨e3, S3, rfl, r2.tr q2, q3⟩
  · rw [if_neg c, l3_1000000]
    exact ⟨1000000, S, rfl, FrS.rf S, Or.inl ⟨by omega, rfl⟩, by omega, by omega⟩
/-- one look at a warning: on, and near on the day before -/
def lk (e d : Int) (s : Int × Int) : (Int × Int) × Int :=
  let ne : Int := if e - d ≤ 14 then 1 else 0
  let on : Int := if ne = 1 ∧ s.2 = 1 then 1 else if 21 < e - d then 0 else s.1
  ((on, ne), if on = s.1 then 0 else 1)
def lkn (e d0 : Int) (s : Int × Int) : Nat → (Int × Int) × Int
  | 0 => (s, 0)
  | k + 1 => ((lk e (d0 + ((k : Int) + 1)) (lkn e d0 s k).1).1, (lkn e d0 s k).2 + (lk e (d0 + ((k : Int) + 1)) (lkn e d0 s k).1).2)
def bit (x : Int) : Prop := x = 0 ∨ x = 1
theorem ite_bit {c : Prop} [Decidable c] {x y : Int} (hx : bit x) (hy : bit y) : bit (if c then x else y) := by
  split <;> assumption
theorem lk_bit {e d : Int} {s : Int × Int} (h : bit s.1) : bit (lk e d s).1.1 ∧ bit (lk e d s).1.2 ∧ bit (lk e d s).2 :=
  ⟨ite_bit (Or.inr rfl) (ite_bit (Or.inl rfl) h), ite_bit (Or.inr rfl) (Or.inl rfl), ite_bit (Or.inl rfl) (Or.inr rfl)⟩
theorem lkn_bit {e d0 : Int} {s : Int × Int} (h : bit s.1) (h2 : bit s.2) : ∀ k, bit (lkn e d0 s k).1.1 ∧ bit (lkn e d0 s k).1.2 ∧ 0 ≤ (lkn e d0 s k).2 ∧ (lkn e d0 s k).2 ≤ k
  | 0 => ⟨h, h2, Int.le_refl _, Int.le_refl _⟩
  | k + 1 => by
    obtain ⟨a, b, c, d⟩ := lkn_bit h h2 k
    obtain ⟨p, q, r⟩ := lk_bit (e := e) (d := d0 + ((k : Int) + 1)) a
    unfold lkn
    refine ⟨p, q, ?_, ?_⟩ <;> (dsimp only; unfold bit at r; omega)
def setW (A : AB) (s : Int × Int) : AB := (A.1, A.2.1, A.2.2.1, s)
theorem Cl.setW {A : AB} {S S2 : St} {s : Int × Int} (h : Cl A S) (h2 : S2.2 = S.2) (h3 : ∀ k, k ≠ 12 → k ≠ 13 → S2.1 k = S.1 k) (h12 : S2.1 12 = i3 s.1) (h13 : S2.1 13 = i3 s.2) : Cl (setW A s) S2 := by
  obtain ⟨⟨a0, a1, a4, a5, a6, a7, a12, a13⟩, b, ⟨c1, c2, c3, c4⟩, d⟩ := h
  have he : ent S2 = ent S := by unfold ent; rw [h2]
  refine ⟨⟨?_, ?_, ?_, ?_, ?_, ?_, h12, h13⟩, ?_, ⟨?_, ?_, ?_, ?_⟩, ?_⟩
  · rw [h3 0 (by decide) (by decide)]; exact a0
  · rw [h3 1 (by decide) (by decide)]; exact a1
  · rw [h3 4 (by decide) (by decide)]; exact a4
  · rw [h3 5 (by decide) (by decide)]; exact a5
  · rw [h3 6 (by decide) (by decide)]; exact a6
  · rw [h3 7 (by decide) (by decide)]; exact a7
  · unfold Cl2; rw [h2]; exact b
  · rw [h3 2 (by decide) (by decide)]; exact c1
  · rw [h3 3 (by decide) (by decide)]; exact c2
  · rw [he]; exact c3
  · rw [he]; exact c4
  · unfold Cl4; rw [h2]; exact d
theorem isZ_bit {x : Int} (h : bit x) : isZ (i3 x) := by
  rcases h with rfl | rfl
  · exact Or.inl rfl
  · exact Or.inr rfl
theorem cl_look {S : St} {e d on ne : Int} (he : 1 ≤ e ∧ e ≤ 1000000) (hd : 0 ≤ d ∧ d ≤ 5000) (hon : bit on) (hne : bit ne) (h12 : S.1 12 = i3 on) (h13 : S.1 13 = i3 ne) : ∃ S2, f_X6_lookChanges (i3 e) (i3 d) S = some (i3 (lk e d (on, ne)).2, S2) ∧ S2.2 = S.2 ∧ (∀ k, k ≠ 12 → k ≠ 13 → S2.1 k = S.1 k) ∧ S2.1 12 = i3 (lk e d (on, ne)).1.1 ∧ S2.1 13 = i3 (lk e d (on, ne)).1.2 := by
  have z0 : isZ (0 : Int32) := Or.inl rfl
  have z1 : isZ (1 : Int32) := Or.inr rfl
  have hon2 : 0 ≤ on ∧ on ≤ 1 := by unfold bit at hon; omega
  have hne2 : 0 ≤ ne ∧ ne ≤ 1 := by unfold bit at hne; omega
  have key : ∀ (w near : Int), bit near → bit w → ∀ S11 : St, S11.2 = S.2 → (∀ k, k ≠ 12 → k ≠ 13 → S11.1 k = S.1 k) → S11.1 12 = i3 w → ∃ S2, (ck (isZ (i3 near)) (nmv (sF S11 13 (i3 near)) (fun (S24 : St) => if (S24.1 12) = i3 on then some ((0 : Int32), S24) else some ((1 : Int32), S24)))) = some (i3 (if w = on then 0 else 1), S2) ∧ S2.2 = S.2 ∧ (∀ k, k ≠ 12 → k ≠ 13 → S2.1 k = S.1 k) ∧ S2.1 12 = i3 w ∧ S2.1 13 = i3 near := by
    intro w near hb hw S11 g1 g2 g3
    have hw2 : 0 ≤ w ∧ w ≤ 1 := by unfold bit at hw; omega
    refine ⟨sF S11 13 (i3 near), ?_, g1, fun k k1 k2 => by rw [sF_1, if_neg k2]; exact g2 k k1 k2, by rw [sF_1, if_neg (by decide)]; exact g3, rfl⟩
    rw [ck_pos (isZ_bit hb), nmv_eq]
    have e0 : (sF S11 13 (i3 near)).1 12 = i3 w := by rw [sF_1, if_neg (by decide)]; exact g3
    by_cases c : w = on
    · rw [if_pos (by rw [e0, c]), if_pos c, l3_0]
    · rw [if_neg (by rw [e0, i3_eq (by omega) (by omega) (by omega) (by omega)]; exact c), if_neg c, l3_1]
  unfold f_X6_lookChanges
  rw [nmv_eq, nmv_eq, h12, i3_sub]
  simp (disch := omega) only [l3_14, i3_lt]
  unfold lk
  dsimp only
  by_cases c1 : 14 < e - d
  · rw [if_pos c1, Option.bind_some, if_pos rfl, if_neg (show ¬ e - d ≤ 14 by omega), if_neg (show ¬ ((0 : Int) = 1 ∧ ne = 1) by omega)]
    simp (disch := omega) only [l3_21, i3_le]
    by_cases c2 : e - d ≤ 21
    · rw [if_pos c2, Option.bind_some, if_neg (show ¬ 21 < e - d by omega)]
      exact key on 0 (Or.inl rfl) hon S rfl (fun _ _ _ => rfl) h12
    · rw [if_neg c2, ck_pos z0, nmv_eq, Option.bind_some, if_pos (show 21 < e - d by omega)]
      exact key 0 0 (Or.inl rfl) (Or.inl rfl) (sF S 12 0) rfl (fun k k1 k2 => by rw [sF_1, if_neg k1]) rfl
  · rw [if_neg c1, Option.bind_some, if_neg (by decide), if_pos (show e - d ≤ 14 by omega), h13]
    simp (disch := omega) only [l3_0, i3_eq, l3_21, i3_le]
    by_cases c3 : ne = 0
    · rw [if_pos c3, if_pos (show e - d ≤ 21 by omega), Option.bind_some, if_neg (show ¬ (True ∧ ne = 1) by omega), if_neg (show ¬ 21 < e - d by omega)]
      exact key on 1 (Or.inr rfl) hon S rfl (fun _ _ _ => rfl) h12
    · rw [if_neg c3, ck_pos z1, nmv_eq, Option.bind_some, if_pos (show True ∧ ne = 1 from ⟨trivial, by omega⟩)]
      exact key 1 1 (Or.inr rfl) (Or.inr rfl) (sF S 12 1) rfl (fun k k1 k2 => by rw [sF_1, if_neg k1]) rfl
theorem cl_look_loop {A : AB} {e td : Int} {n : Nat} (hn : n ≤ 100) (he : 1 ≤ e ∧ e ≤ 1000000) (ht : 0 ≤ td ∧ td ≤ 2000) (hb1 : bit (aOn A)) (hb2 : bit (aNe A)) : ∀ fuel (t : Nat) (S : St), n < t + fuel → t ≤ n → Cl (setW A (lkn e td (aOn A, aNe A) t).1) S → ∃ S2, f_X5_lookOnDaysAfter_11 (i3 td) (i3 n) (i3 e) fuel (i3 (lkn e td (aOn A, aNe A) t).2) (i3 ((t : Int) + 1)) S = some (i3 (lkn e td (aOn A, aNe A) n).2, S2) ∧ Cl (setW A (lkn e td (aOn A, aNe A) n).1) S2 := by
  intro fuel
  induction fuel with
  | zero => intro t S h1 h2; omega
  | succ fuel ih =>
    intro t S h1 h2 h
    unfold f_X5_lookOnDaysAfter_11
    simp (disch := omega) only [i3_lt, i3_add]
    by_cases c : (n : Int) < (t : Int) + 1
    · rw [if_pos c]
      have : t = n := by omega
      subst this
      exact ⟨S, rfl, h⟩
    · rw [if_neg c]
      obtain ⟨b1, b2, b3, b4⟩ := lkn_bit (e := e) (d0 := td) (s := (aOn A, aNe A)) hb1 hb2 t
      obtain ⟨S2, g1, g2, g3, g4, g5⟩ := cl_look (S := S) (e := e) (d := td + ((t : Int) + 1)) he (by omega) b1 b2 h.1.2.2.2.2.2.2.1 h.1.2.2.2.2.2.2.2
      rw [g1, Option.bind_some]
      have hq := (lk_bit (e := e) (d := td + ((t : Int) + 1)) (s := ((lkn e td (aOn A, aNe A) t).1.1, (lkn e td (aOn A, aNe A) t).1.2)) b1).2.2
      have e2 : (if i3 (lk e (td + ((t : Int) + 1)) ((lkn e td (aOn A, aNe A) t).1.1, (lkn e td (aOn A, aNe A) t).1.2)).2 = 0 then some (i3 (lkn e td (aOn A, aNe A) t).2) else nmv (i3 (lkn e td (aOn A, aNe A) t).2 + 1) (fun (v21 : Int32) => some v21)) = some (i3 (lkn e td (aOn A, aNe A) (t + 1)).2) := by
        show _ = some (i3 ((lkn e td (aOn A, aNe A) t).2 + (lk e (td + ((t : Int) + 1)) (lkn e td (aOn A, aNe A) t).1).2))
        have hq2 : bit (lk e (td + ((t : Int) + 1)) (lkn e td (aOn A, aNe A) t).1).2 := hq
        show (if i3 (lk e (td + ((t : Int) + 1)) (lkn e td (aOn A, aNe A) t).1).2 = 0 then _ else _) = _
        rcases hq2 with q | q
        · rw [q, if_pos l3_0.symm, Int.add_zero]
        · rw [q, if_neg (by decide), nmv_eq, l3_1, i3_add]
      rw [e2, Option.bind_some, nmv_eq, l3_1, i3_add]
      have hc2 : Cl (setW A (lkn e td (aOn A, aNe A) (t + 1)).1) S2 := Cl.setW (A := setW A (lkn e td (aOn A, aNe A) t).1) (s := (lkn e td (aOn A, aNe A) (t + 1)).1) h g2 g3 g4 g5
      exact ih (t + 1) S2 (by omega) (by omega) hc2
theorem cl_looks {A : AB} {S : St} {td : Int} {n : Nat} (hv : Val td A) (ht : 0 ≤ td ∧ td ≤ 2000) (hn : n ≤ 100) (h : Cl A S) : ∃ e S2, f_X5_lookOnDaysAfter (i3 td) (i3 n) S = some (i3 (lkn e td (aOn A, aNe A) n).2, S2) ∧ Early A e ∧ (1 ≤ e ∧ e ≤ 1000000) ∧ Cl (setW A (lkn e td (aOn A, aNe A) n).1) S2 := by
  obtain ⟨e, S2, g1, g2, g3, g4⟩ := cl_early hv ht.2 h
  have h2 : Cl (setW A (lkn e td (aOn A, aNe A) 0).1) S2 := h.fr g2
  obtain ⟨S3, q1, q2⟩ := cl_look_loop hn g4 ht hv.2.2.2.2.2.2.2.2.1 hv.2.2.2.2.2.2.2.2.2 3000 0 S2 (by omega) (by omega) h2
  refine ⟨e, S3, ?_, g3, g4, q2⟩
  unfold f_X5_lookOnDaysAfter
  rw [g1, Option.bind_some, l3_0, l3_1]
  have q1' : f_X5_lookOnDaysAfter_11 (i3 td) (i3 n) (i3 e) 3000 (i3 0) (i3 1) S2 = some (i3 (lkn e td (aOn A, aNe A) n).2, S3) := q1
  dsimp only
  rw [q1', Option.bind_some]
