/-! The class: all slopes put in order anew -/
theorem lgle (x y : Int64) : (lg_cmp x y ≤ i3 0) = (x ≤ y) := propext (lg_cmp_le x y)
theorem lgge (x y : Int64) : (i3 0 ≤ lg_cmp x y) = (y ≤ x) := propext (lg_cmp_ge x y)
theorem lglt (x y : Int64) : (lg_cmp x y < i3 0) = (x < y) := propext (lg_cmp_lt x y)
theorem lgeq (x y : Int64) : (lg_cmp x y = i3 0) = (x = y) := propext (lg_cmp_eq x y)
def FrO (S S2 : St) : Prop := (∀ k, k ≠ 2 → S2.1 k = S.1 k) ∧ S2.2 0 = S.2 0 ∧ S2.2 1 = S.2 1 ∧ S2.2 2 = S.2 2 ∧ S2.2 7 = S.2 7
theorem FrO.rf (S : St) : FrO S S := ⟨fun _ _ => rfl, rfl, rfl, rfl, rfl⟩
theorem FrO.tr {S S2 S3 : St} (h : FrO S S2) (g : FrO S2 S3) : FrO S S3 := ⟨fun k a => (g.1 k a).trans (h.1 k a), g.2.1.trans h.2.1, g.2.2.1.trans h.2.2.1, g.2.2.2.1.trans h.2.2.2.1, g.2.2.2.2.trans h.2.2.2.2⟩
theorem FrO.cl2 {A : AB} {S S2 : St} (h : FrO S S2) (b : Cl2 A S) : Cl2 A S2 := by
  intro k hk
  rw [h.2.1, h.2.2.1, h.2.2.2.1]
  exact b k hk
theorem cl_isG {S : St} {c : Nat} (h2 : S.1 2 = i3 c) (hc : c ≤ 66) {k : Nat} (hk : k < c) (hb : -7000000 ≤ (ent S k).1.1 ∧ (ent S k).1.1 ≤ 7000000) (hb2 : 0 < (ent S k).1.2 ∧ (ent S k).1.2 ≤ 2000) {N D : Int} (hN : -7000000 ≤ N ∧ N ≤ 7000000) (hD : 0 < D ∧ D ≤ 2000) : f_X2_isGreater (i3 k) (i3 N) (i3 D) S = some (i3 (if flt (N, D) (ent S k).1 = true then 1 else 0)) := by
  obtain ⟨q0, q1⟩ := cl_at2 h2 hc hk
  have m1 := mul_rng (a := (ent S k).1.1) (b := D) (X := 7000000) (Y := 2000) (by omega) (by omega) (by omega) (by omega) (by omega)
  have m2 := mul_rng (a := N) (b := (ent S k).1.2) (X := 7000000) (Y := 2000) (by omega) (by omega) (by omega) (by omega) (by omega)
  unfold f_X2_isGreater
  rw [q0, Option.bind_some, q1, Option.bind_some]
  simp (disch := omega) only [i3_long, i6_mul, lgle, i6_le, l3_0, l3_1]
  unfold flt
  dsimp only
  by_cases c1 : (ent S k).1.1 * D ≤ N * (ent S k).1.2
  · rw [if_pos c1, if_neg (by rw [decide_eq_true_eq]; omega)]
  · rw [if_neg c1, if_pos (by rw [decide_eq_true_eq]; omega)]
/-- four rows moved up behind the place p -/
def Shf (S0 S : St) (c p : Nat) : Prop := S.1 = S0.1 ∧ (∀ j, j ≠ 3 → j ≠ 4 → j ≠ 5 → j ≠ 6 → S.2 j = S0.2 j) ∧ ∀ j, 3 ≤ j → j ≤ 6 → ∀ i, S.2 j i = if p < i ∧ i ≤ c then S0.2 j (i - 1) else S0.2 j i
theorem Shf.en {S0 S : St} {c p : Nat} (h : Shf S0 S c p) {i : Nat} (hi : i ≤ p) : ent S i = ent S0 i := by
  unfold ent
  rw [h.2.2 3 (by omega) (by omega), h.2.2 4 (by omega) (by omega), h.2.2 5 (by omega) (by omega), h.2.2 6 (by omega) (by omega), if_neg (by omega), if_neg (by omega), if_neg (by omega), if_neg (by omega)]
theorem cl_shift {S0 : St} {c : Nat} (h2 : S0.1 2 = i3 c) (hc : c < 66) {N D : Int} (hN : -7000000 ≤ N ∧ N ≤ 7000000) (hD : 0 < D ∧ D ≤ 2000) (hb : ∀ i, i < c → (-7000000 ≤ (ent S0 i).1.1 ∧ (ent S0 i).1.1 ≤ 7000000) ∧ 0 < (ent S0 i).1.2 ∧ (ent S0 i).1.2 ≤ 2000) : ∀ (fuel p : Nat) (S : St), p < fuel → p ≤ c → Shf S0 S c p → (∀ i, p ≤ i → i < c → flt (N, D) (ent S0 i).1 = true) → ∃ r S2, f_X2_putInOrder_42 (i3 N) (i3 D) fuel (i3 p) S = some (i3 (r : Nat), S2) ∧ r ≤ c ∧ Shf S0 S2 c r ∧ (∀ i, r ≤ i → i < c → flt (N, D) (ent S0 i).1 = true) ∧ (r = 0 ∨ flt (N, D) (ent S0 (r - 1)).1 = false) := by
  intro fuel
  induction fuel with
  | zero => intro p S h1; omega
  | succ fuel ih =>
    intro p S h1 h3 hS h4
    unfold f_X2_putInOrder_42
    simp (disch := omega) only [l3_0, l3_1, i3_le, i3_sub]
    by_cases c0 : (p : Int) ≤ 0
    · rw [if_pos c0]
      exact ⟨p, S, rfl, h3, hS, h4, Or.inl (by omega)⟩
    · rw [if_neg c0]
      obtain ⟨q, rfl⟩ : ∃ q, p = q + 1 := ⟨p - 1, by omega⟩
      rw [show ((q + 1 : Nat) : Int) - 1 = (q : Int) by omega]
      have hq : q < c := by omega
      have he : ent S q = ent S0 q := hS.en (by omega)
      have hbq := hb q hq
      rw [cl_isG (by rw [hS.1]; exact h2) (by omega) hq (by rw [he]; exact hbq.1) (by rw [he]; exact hbq.2) hN hD, Option.bind_some, he]
      by_cases cf : flt (N, D) (ent S0 q).1 = true
      · rw [if_pos cf, if_neg (show ¬ i3 1 = i3 0 by decide)]
        have i1 : inb (i3 (q : Int)) 66 := inbI (by omega) (by omega) (by omega)
        have i2 : inb (i3 ((q + 1 : Nat) : Int)) 66 := inbI (by omega) (by omega) (by omega)
        have e1 : (i3 (q : Int)).toNatClampNeg = q := by rw [i3_nat (by omega) (by omega)]; omega
        have e2 : (i3 ((q + 1 : Nat) : Int)).toNatClampNeg = q + 1 := by rw [i3_nat (by omega) (by omega)]; omega
        simp only [ck_pos i1, ck_pos i2, nmv_eq, e1, e2, i3_neg, l3_1, i3_add]
        rw [show ((q + 1 : Nat) : Int) + -1 = (q : Int) by omega]
        refine ih q _ (by omega) (by omega) ⟨hS.1, ?_, ?_⟩ (fun i a b => ?_)
        · intro j a b d e
          rw [sA_ne _ _ _ _ _ e, sA_ne _ _ _ _ _ d, sA_ne _ _ _ _ _ b, sA_ne _ _ _ _ _ a]
          exact hS.2.1 j a b d e
        · intro j a b i
          have key : ∀ j, 3 ≤ j → j ≤ 6 → (if i = q + 1 then S.2 j q else S.2 j i) = if q < i ∧ i ≤ c then S0.2 j (i - 1) else S0.2 j i := by
            intro j a b
            by_cases ci : i = q + 1
            · rw [if_pos ci, if_pos (by omega), hS.2.2 j a b, if_neg (by omega)]
              subst ci; rfl
            · rw [if_neg ci, hS.2.2 j a b]
              by_cases c5 : q + 1 < i ∧ i ≤ c
              · rw [if_pos c5, if_pos (by omega)]
              · rw [if_neg c5, if_neg (by omega)]
          rcases (show j = 3 ∨ j = 4 ∨ j = 5 ∨ j = 6 by omega) with rfl | rfl | rfl | rfl
          · rw [sA_ne _ _ _ _ _ (by decide), sA_ne _ _ _ _ _ (by decide), sA_ne _ _ _ _ _ (by decide), sA_same]
            exact key 3 (by omega) (by omega)
          · rw [sA_ne _ _ _ _ _ (by decide), sA_ne _ _ _ _ _ (by decide), sA_same, sA_ne _ _ _ _ _ (by decide)]
            exact key 4 (by omega) (by omega)
          · rw [sA_ne _ _ _ _ _ (by decide), sA_same, sA_ne _ _ _ _ _ (by decide), sA_ne _ _ _ _ _ (by decide)]
            exact key 5 (by omega) (by omega)
          · rw [sA_same, sA_ne _ _ _ _ _ (by decide), sA_ne _ _ _ _ _ (by decide), sA_ne _ _ _ _ _ (by decide)]
            exact key 6 (by omega) (by omega)
        · rcases (show i = q ∨ q + 1 ≤ i by omega) with h | h
          · subst h; exact cf
          · exact h4 i h b
      · rw [if_neg cf, if_pos rfl]
        exact ⟨q + 1, S, rfl, h3, hS, h4, Or.inr (by simpa using cf)⟩
/-- so many slopes are in order -/
def Ord (A : AB) (P : List (Nat × Nat)) (S : St) : Prop := S.1 2 = i3 P.length ∧ ((List.range P.length).map (ent S)).Perm (P.map (en4 A)) ∧ ((List.range P.length).map (ent S)).Pairwise (fun a b => flt b.1 a.1 = false)
theorem Ord.rng {A : AB} {P : List (Nat × Nat)} {S : St} (h : Ord A P S) (hP : ∀ p ∈ P, (-7000000 ≤ (frc A p).1 ∧ (frc A p).1 ≤ 7000000) ∧ 0 < (frc A p).2 ∧ (frc A p).2 ≤ 2000) {i : Nat} (hi : i < P.length) : (-7000000 ≤ (ent S i).1.1 ∧ (ent S i).1.1 ≤ 7000000) ∧ 0 < (ent S i).1.2 ∧ (ent S i).1.2 ≤ 2000 := by
  have hm : ent S i ∈ P.map (en4 A) := h.2.1.mem_iff.mp (List.mem_map.mpr ⟨i, List.mem_range.mpr hi, rfl⟩)
  obtain ⟨p, hp, he⟩ := List.mem_map.mp hm
  rw [← he]
  exact hP p hp
theorem cl_putInOrder {A : AB} {S : St} {P : List (Nat × Nat)} {f t : Nat} (a1 : S.1 1 = i3 (aN A)) (hn : aN A ≤ 12) (b : Cl2 A S) (hf : f < t) (ht : t < aN A) (h : Ord A P S) (hl : P.length < 66) (hP : ∀ p ∈ P, (-7000000 ≤ (frc A p).1 ∧ (frc A p).1 ≤ 7000000) ∧ 0 < (frc A p).2 ∧ (frc A p).2 ≤ 2000) (hw : (-7000000 ≤ (frc A (f, t)).1 ∧ (frc A (f, t)).1 ≤ 7000000) ∧ 0 < (frc A (f, t)).2 ∧ (frc A (f, t)).2 ≤ 2000) : ∃ S2, f_X2_putInOrder (i3 f) (i3 t) S = some S2 ∧ Ord A (P ++ [(f, t)]) S2 ∧ FrO S S2 := by
  have hrng := fun {i : Nat} (hi : i < P.length) => h.rng hP hi
  obtain ⟨h1, h2, h3⟩ := h
  obtain ⟨d0, u0, f0⟩ := cl_at4 a1 hn b (k := f) (by omega)
  obtain ⟨d1, u1, f1⟩ := cl_at4 a1 hn b (k := t) ht
  obtain ⟨r, S1, r1, r2, r3, r4, r5⟩ := cl_shift h1 hl hw.1 hw.2 (fun i hi => hrng hi) 3000 P.length S (by omega) (Nat.le_refl _) ⟨rfl, fun _ _ _ _ _ => rfl, fun j a b i => by rw [if_neg (by omega)]⟩ (fun i a b => by omega)
  have ir : inb (i3 (r : Int)) 66 := inbI (by omega) (by omega) (by omega)
  have er : (i3 (r : Int)).toNatClampNeg = r := by rw [i3_nat (by omega) (by omega)]; omega
  have eN : (frc A (f, t)).1 = fil A t - fil A f := rfl
  have eD : (frc A (f, t)).2 = aDy A t - aDy A f := rfl
  refine ⟨sF (sA (sA (sA (sA S1 3 r (i3 (frc A (f, t)).1)) 4 r (i3 (frc A (f, t)).2)) 5 r (i3 (f : Int))) 6 r (i3 (t : Int))) 2 (i3 (((P ++ [(f, t)]).length : Nat) : Int)), ?_, ?_, ?_⟩
  · unfold f_X2_putInOrder
    simp (disch := omega) only [h1, l3_66, i3_lt]
    rw [if_pos (by omega), f1, Option.bind_some, f0, Option.bind_some, nmv_eq, i3_sub, d1, Option.bind_some, d0, Option.bind_some, nmv_eq, i3_sub, nmv_eq, ← eN, ← eD, r1, Option.bind_some]
    simp only [ck_pos ir, nmv_eq, er]
    congr 2
    rw [sA_1, sA_1, sA_1, sA_1, r3.1, h1, l3_1, i3_add]
    congr 1
    simp
  · have hent : ∀ i, i < P.length + 1 → ent (sF (sA (sA (sA (sA S1 3 r (i3 (frc A (f, t)).1)) 4 r (i3 (frc A (f, t)).2)) 5 r (i3 (f : Int))) 6 r (i3 (t : Int))) 2 (i3 (((P ++ [(f, t)]).length : Nat) : Int))) i = insA (ent S) P.length r (en4 A (f, t)) i := by
      intro i hi
      have g : ∀ j : Nat, 3 ≤ j → j ≤ 6 → ∀ v : Int32, (if i = r then v else S1.2 j i) = if i < r then S.2 j i else if i = r then v else S.2 j (i - 1) := by
        intro j a b v
        rw [r3.2.2 j a b]
        by_cases q1 : i = r
        · rw [if_pos q1, if_neg (by omega), if_pos q1]
        · rw [if_neg q1]
          by_cases q2 : i < r
          · rw [if_neg (by omega), if_pos q2]
          · rw [if_pos (by omega), if_neg q2, if_neg q1]
      have hN := hw.1
      have hD := hw.2
      unfold ent insA
      rw [sF_2]
      rw [show (sA (sA (sA (sA S1 3 r (i3 (frc A (f, t)).1)) 4 r (i3 (frc A (f, t)).2)) 5 r (i3 (f : Int))) 6 r (i3 (t : Int))).2 3 i = if i = r then i3 (frc A (f, t)).1 else S1.2 3 i from by rw [sA_ne _ _ _ _ _ (by decide), sA_ne _ _ _ _ _ (by decide), sA_ne _ _ _ _ _ (by decide), sA_same]]
      rw [show (sA (sA (sA (sA S1 3 r (i3 (frc A (f, t)).1)) 4 r (i3 (frc A (f, t)).2)) 5 r (i3 (f : Int))) 6 r (i3 (t : Int))).2 4 i = if i = r then i3 (frc A (f, t)).2 else S1.2 4 i from by rw [sA_ne _ _ _ _ _ (by decide), sA_ne _ _ _ _ _ (by decide), sA_same, sA_ne _ _ _ _ _ (by decide)]]
      rw [show (sA (sA (sA (sA S1 3 r (i3 (frc A (f, t)).1)) 4 r (i3 (frc A (f, t)).2)) 5 r (i3 (f : Int))) 6 r (i3 (t : Int))).2 5 i = if i = r then i3 (f : Int) else S1.2 5 i from by rw [sA_ne _ _ _ _ _ (by decide), sA_same, sA_ne _ _ _ _ _ (by decide), sA_ne _ _ _ _ _ (by decide)]]
      rw [show (sA (sA (sA (sA S1 3 r (i3 (frc A (f, t)).1)) 4 r (i3 (frc A (f, t)).2)) 5 r (i3 (f : Int))) 6 r (i3 (t : Int))).2 6 i = if i = r then i3 (t : Int) else S1.2 6 i from by rw [sA_same, sA_ne _ _ _ _ _ (by decide), sA_ne _ _ _ _ _ (by decide), sA_ne _ _ _ _ _ (by decide)]]
      rw [g 3 (by omega) (by omega), g 4 (by omega) (by omega), g 5 (by omega) (by omega), g 6 (by omega) (by omega)]
      by_cases q1 : i < r
      · simp only [if_pos q1]
      · by_cases q2 : i = r
        · simp only [if_neg q1, if_pos q2]
          rw [i3_toInt (by omega) (by omega), i3_toInt (by omega) (by omega), i3_toInt (by omega) (by omega), i3_toInt (by omega) (by omega)]
          rfl
        · simp only [if_neg q1, if_neg q2, if_pos (show i ≤ P.length by omega)]
    have hlen : (P ++ [(f, t)]).length = P.length + 1 := by simp
    have hent2 := range_ext hent
    rw [hlen] at hent2
    refine ⟨rfl, ?_, ?_⟩
    · rw [hlen, hent2]
      refine (insA_perm r2).trans ?_
      rw [List.map_append]
      exact (List.Perm.cons _ h2).trans (List.perm_append_singleton _ _).symm
    · rw [hlen, hent2, insA_list r2]
      refine ins_pairwise (by rw [List.take_append_drop]; exact h3) ?_ ?_
      · intro x hx
        obtain ⟨i, hi, rfl⟩ := List.getElem_of_mem hx
        simp only [List.length_take, List.length_map, List.length_range] at hi
        simp only [List.getElem_take, List.getElem_map, List.getElem_range]
        have hr0 : r ≠ 0 := by omega
        rcases r5 with h0 | h0
        · exact absurd h0 hr0
        · rcases (show i = r - 1 ∨ i < r - 1 by omega) with q | q
          · rw [q]; exact h0
          · have hp := List.pairwise_iff_getElem.mp h3 i (r - 1) (by simp; omega) (by simp; omega) q
            simp only [List.getElem_map, List.getElem_range] at hp
            exact flt_le (hrng (by omega)).2.1 (hrng (by omega)).2.1 hw.2.1 hp h0
      · intro x hx
        obtain ⟨i, hi, rfl⟩ := List.getElem_of_mem hx
        simp only [List.length_drop, List.length_map, List.length_range] at hi
        simp only [List.getElem_drop, List.getElem_map, List.getElem_range]
        have h9 := of_decide_eq_true (r4 (r + i) (by omega) (by omega))
        refine decide_eq_false ?_
        show ¬ (ent S (r + i)).1.1 * (frc A (f, t)).2 < (frc A (f, t)).1 * (ent S (r + i)).1.2
        have h10 : (frc A (f, t)).1 * (ent S (r + i)).1.2 < (ent S (r + i)).1.1 * (frc A (f, t)).2 := h9
        omega
  · refine ⟨fun k k2 => ?_, ?_, ?_, ?_, ?_⟩
    · rw [sF_1, if_neg k2, sA_1, sA_1, sA_1, sA_1, r3.1]
    all_goals
      rw [sF_2, sA_ne _ _ _ _ _ (by decide), sA_ne _ _ _ _ _ (by decide), sA_ne _ _ _ _ _ (by decide), sA_ne _ _ _ _ _ (by decide)]
      exact r3.2.1 _ (by decide) (by decide) (by decide) (by decide)
theorem cl_inner {A : AB} {t : Nat} (hn : aN A ≤ 12) (ht : t < aN A) (hP : ∀ p ∈ prs (aN A), (-7000000 ≤ (frc A p).1 ∧ (frc A p).1 ≤ 7000000) ∧ 0 < (frc A p).2 ∧ (frc A p).2 ≤ 2000) : ∀ (fuel f : Nat) (S : St), t < f + fuel → f ≤ t → S.1 1 = i3 (aN A) → Cl2 A S → Ord A (prs t ++ (List.range f).map (fun f => (f, t))) S → ∃ S2, f_X2_orderAll_25 (i3 t) fuel (i3 f) S = some S2 ∧ Ord A (prs (t + 1)) S2 ∧ FrO S S2 := by
  have hin : ∀ p : Nat × Nat, p.1 < p.2 → p.2 < aN A → p ∈ prs (aN A) := by
    intro p h1 h2
    unfold prs
    exact List.mem_flatMap.mpr ⟨p.2, List.mem_range.mpr h2, List.mem_map.mpr ⟨p.1, List.mem_range.mpr h1, rfl⟩⟩
  intro fuel
  induction fuel with
  | zero => intro f S h1 h2; omega
  | succ fuel ih =>
    intro f S h1 h2 a1 b h
    unfold f_X2_orderAll_25
    simp (disch := omega) only [i3_le, nmv_eq, l3_1, i3_add]
    by_cases c : (t : Int) ≤ f
    · rw [if_pos c]
      have : f = t := by omega
      subst this
      rw [prs_succ]
      exact ⟨S, rfl, h, FrO.rf S⟩
    · rw [if_neg c]
      have hr := prs_room t (by omega)
      obtain ⟨S2, g1, g2, g3⟩ := cl_putInOrder a1 hn b (f := f) (by omega) ht h (by simp; omega) (fun p hp => by
        rcases List.mem_append.mp hp with hp | hp
        · have := prs_mem hp
          exact hP p (hin p this.1 (by omega))
        · obtain ⟨q, hq, rfl⟩ := List.mem_map.mp hp
          have := List.mem_range.mp hq
          exact hP _ (hin _ (by dsimp only; omega) ht)) (hP _ (hin _ (by dsimp only; omega) ht))
      rw [g1, Option.bind_some]
      have e : prs t ++ (List.range f).map (fun f => (f, t)) ++ [(f, t)] = prs t ++ (List.range (f + 1)).map (fun f => (f, t)) := by
        rw [List.range_succ, List.map_append, List.append_assoc]; rfl
      rw [e] at g2
      obtain ⟨S3, q1, q2, q3⟩ := ih (f + 1) S2 (by omega) (by omega) (by rw [g3.1 1 (by decide)]; exact a1) (g3.cl2 b) g2
      exact ⟨S3, q1, q2, g3.tr q3⟩
theorem cl_outer {A : AB} (hn : aN A ≤ 12) (hP : ∀ p ∈ prs (aN A), (-7000000 ≤ (frc A p).1 ∧ (frc A p).1 ≤ 7000000) ∧ 0 < (frc A p).2 ∧ (frc A p).2 ≤ 2000) : ∀ (fuel t : Nat) (S : St), 13 < t + fuel → 1 ≤ t → (t ≤ aN A ∨ t = 1) → S.1 1 = i3 (aN A) → Cl2 A S → Ord A (prs t) S → ∃ S2, f_X2_orderAll_15 fuel (i3 t) S = some S2 ∧ Ord A (prs (aN A)) S2 ∧ FrO S S2 := by
  intro fuel
  induction fuel with
  | zero => intro t S h1 h2 h3; omega
  | succ fuel ih =>
    intro t S h1 h2 h3 a1 b h
    unfold f_X2_orderAll_15 f_X4_number
    rw [Option.bind_some]
    simp (disch := omega) only [a1, i3_le, nmv_eq, l3_1, i3_add, l3_0]
    by_cases c : (aN A : Int) ≤ t
    · rw [if_pos c]
      have e : prs t = prs (aN A) := by
        rcases (show t = aN A ∨ (aN A = 0 ∧ t = 1) by omega) with h | ⟨h, h'⟩
        · rw [h]
        · rw [h, h']; decide
      rw [e] at h
      exact ⟨S, rfl, h, FrO.rf S⟩
    · rw [if_neg c]
      obtain ⟨S2, g1, g2, g3⟩ := cl_inner hn (t := t) (by omega) hP 3000 0 S (by omega) (by omega) a1 b (by simpa using h)
      have g1' : f_X2_orderAll_25 (i3 t) 3000 (i3 0) S = some S2 := g1
      rw [g1', Option.bind_some]
      obtain ⟨S3, q1, q2, q3⟩ := ih (t + 1) S2 (by omega) (by omega) (by omega) (by rw [g3.1 1 (by decide)]; exact a1) (g3.cl2 b) g2
      exact ⟨S3, q1, q2, g3.tr q3⟩
theorem prs_frc {A : AB} {td : Int} (hv : Val td A) (ht : td ≤ 2000) : ∀ p ∈ prs (aN A), (-7000000 ≤ (frc A p).1 ∧ (frc A p).1 ≤ 7000000) ∧ 0 < (frc A p).2 ∧ (frc A p).2 ≤ 2000 := by
  intro p hp
  have h := sl_mem hv (o := -1) (x := frc A p) (by unfold sl; rw [prs_all]; exact List.mem_map.mpr ⟨p, hp, rfl⟩)
  omega
theorem cl_orderAll {A : AB} {S : St} {td : Int} (hv : Val td A) (ht : td ≤ 2000) (a1 : S.1 1 = i3 (aN A)) (b : Cl2 A S) : ∃ S2, f_X2_orderAll S = some S2 ∧ Cl3 A S2 ∧ (∀ k, k ≠ 2 → k ≠ 3 → S2.1 k = S.1 k) ∧ S2.2 0 = S.2 0 ∧ S2.2 1 = S.2 1 ∧ S2.2 2 = S.2 2 ∧ S2.2 7 = S.2 7 := by
  have hn := hv.2.2.2.1
  have b0 : Cl2 A (sF (sF S 2 (i3 0)) 3 (i3 (aN A))) := b
  have a0 : (sF (sF S 2 (i3 0)) 3 (i3 (aN A))).1 1 = i3 (aN A) := a1
  obtain ⟨S2, g1, ⟨g21, g22, g23⟩, g3⟩ := cl_outer hn (prs_frc hv ht) 3000 1 (sF (sF S 2 (i3 0)) 3 (i3 (aN A))) (by omega) (by omega) (Or.inr rfl) a0 b0 ⟨rfl, List.Perm.refl _, List.Pairwise.nil⟩
  refine ⟨S2, ?_, ⟨g21, ?_, g22, g23⟩, fun k k2 k3 => ?_, g3.2.1, g3.2.2.1, g3.2.2.2.1, g3.2.2.2.2⟩
  · unfold f_X2_orderAll f_X4_number
    rw [nmv_eq, Option.bind_some, nmv_eq, l3_0, l3_1]
    have e : (sF S 2 (i3 0)).1 1 = i3 (aN A) := a1
    rw [e]
    have g1' : f_X2_orderAll_15 3000 (i3 1) (sF (sF S 2 (i3 0)) 3 (i3 (aN A))) = some S2 := g1
    rw [g1', Option.bind_some]
  · rw [g3.1 3 (by decide)]; rfl
  · rw [g3.1 k k2, sF_1, if_neg k3, sF_1, if_neg k2]
