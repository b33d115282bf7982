/-! The class: its middle slope, the line, the days -/
theorem i3_eqt {v : Int32} {o : Int} (h1 : -2147483648 ≤ o) (h2 : o < 2147483648) : (v = i3 o) = (v.toInt = o) := by
  rw [← Int32.toInt_inj, i3_toInt h1 h2]
def k4 (o : Int) (e : (Int × Int) × (Int × Int)) : Bool := !decide (e.2.1 = o) && !decide (e.2.2 = o)
theorem cl_has4 {A : AB} {S : St} (a1 : S.1 1 = i3 (aN A)) (hn : aN A ≤ 12) {k : Int} (hk : -10 ≤ k ∧ k ≤ 100) : f_X4_has (i3 k) S = some (i3 (if k < 0 ∨ (aN A : Int) ≤ k then 0 else 1)) := by
  unfold f_X4_has
  simp (disch := omega) only [a1, l3_0, l3_1, i3_lt, i3_le]
  by_cases c1 : k < 0
  · rw [if_pos c1, if_pos (Or.inl c1)]
  · rw [if_neg c1]
    by_cases c2 : (aN A : Int) ≤ k
    · rw [if_pos c2, if_pos (Or.inr c2)]
    · rw [if_neg c2, if_neg (by omega)]
theorem cl_at4 {A : AB} {S : St} (a1 : S.1 1 = i3 (aN A)) (hn : aN A ≤ 12) (b : Cl2 A S) {k : Nat} (hk : k < aN A) : f_X4_dayAt (i3 k) S = some (i3 (aDy A k)) ∧ f_X4_usedAt (i3 k) S = some (i3 (aUs A k)) ∧ f_X4_filledAt (i3 k) S = some (i3 (fil A k)) := by
  obtain ⟨b0, b1, b2⟩ := b k hk
  have hi : inb (i3 (k : Int)) 12 := inbI (by omega) (by omega) (by omega)
  have hc : (i3 (k : Int)).toNatClampNeg = k := by rw [i3_nat (by omega) (by omega)]; omega
  have h0 : ¬ i3 1 = (0 : Int32) := by rw [l3_0, i3_eq (by omega) (by omega) (by omega) (by omega)]; omega
  unfold f_X4_dayAt f_X4_usedAt f_X4_filledAt
  rw [cl_has4 a1 hn (by omega), Option.bind_some, Option.bind_some, Option.bind_some, if_neg (show ¬ ((k : Int) < 0 ∨ (aN A : Int) ≤ k) by omega), if_neg h0, if_neg h0, if_neg h0, ck_pos hi, ck_pos hi, ck_pos hi, hc, b0, b1, b2]
  exact ⟨rfl, rfl, rfl⟩
theorem cl_at4o {A : AB} {S : St} (a1 : S.1 1 = i3 (aN A)) (hn : aN A ≤ 12) {k : Int} (hk : -10 ≤ k ∧ k < 0) : f_X4_dayAt (i3 k) S = some (i3 0) ∧ f_X4_usedAt (i3 k) S = some (i3 0) := by
  unfold f_X4_dayAt f_X4_usedAt
  rw [cl_has4 a1 hn (by omega), Option.bind_some, Option.bind_some, if_pos (Or.inl hk.2), if_pos l3_0.symm, if_pos l3_0.symm, l3_0]
  exact ⟨rfl, rfl⟩
theorem cl_at2 {S : St} {c : Nat} (h2 : S.1 2 = i3 c) (hc : c ≤ 66) {k : Nat} (hk : k < c) : f_X2_riseAt (i3 k) S = some (i3 (ent S k).1.1) ∧ f_X2_runAt (i3 k) S = some (i3 (ent S k).1.2) := by
  have hi : inb (i3 (k : Int)) 66 := inbI (by omega) (by omega) (by omega)
  have hcl : (i3 (k : Int)).toNatClampNeg = k := by rw [i3_nat (by omega) (by omega)]; omega
  have h0 : ¬ i3 1 = (0 : Int32) := by rw [l3_0, i3_eq (by omega) (by omega) (by omega) (by omega)]; omega
  have hh : f_X2_has (i3 (k : Int)) S = some (i3 1) := by
    unfold f_X2_has
    simp (disch := omega) only [h2, l3_0, l3_1, i3_lt, i3_le]
    rw [if_neg (by omega), if_neg (by omega)]
  unfold f_X2_riseAt f_X2_runAt
  rw [hh, Option.bind_some, Option.bind_some, if_neg h0, if_neg h0, ck_pos hi, ck_pos hi, hcl]
  unfold ent
  dsimp only
  rw [← i3_of, ← i3_of]
  exact ⟨rfl, rfl⟩
theorem cl_at2o {S : St} {c : Nat} (h2 : S.1 2 = i3 c) (hc : c ≤ 66) : f_X2_riseAt (i3 (-1)) S = some (i3 0) ∧ f_X2_runAt (i3 (-1)) S = some (i3 1) := by
  have hh : f_X2_has (i3 (-1)) S = some (i3 0) := by
    unfold f_X2_has
    simp (disch := omega) only [h2, l3_0, l3_1, i3_lt, i3_le]
    rw [if_pos (by omega)]
  unfold f_X2_riseAt f_X2_runAt
  rw [hh, Option.bind_some, Option.bind_some, if_pos l3_0.symm, if_pos l3_0.symm, l3_0, l3_1]
  exact ⟨rfl, rfl⟩
theorem cl_isW {S : St} {c : Nat} (h2 : S.1 2 = i3 c) (hc : c ≤ 66) {k : Nat} (hk : k < c) {o : Int} (ho : -1 ≤ o ∧ o ≤ 100) : f_X2_isWithout (i3 k) (i3 o) S = some (i3 (if k4 o (ent S k) = true then 1 else 0)) := by
  have hi : inb (i3 (k : Int)) 66 := inbI (by omega) (by omega) (by omega)
  have hcl : (i3 (k : Int)).toNatClampNeg = k := by rw [i3_nat (by omega) (by omega)]; omega
  unfold f_X2_isWithout
  rw [ck_pos hi]
  simp (disch := omega) only [hcl, h2, l3_0, l3_1, i3_lt, i3_le, i3_eqt]
  rw [if_neg (by omega), if_neg (by omega), ck_pos hi]
  unfold k4 ent
  by_cases c1 : (S.2 5 k).toInt = o
  · rw [if_pos c1]; simp [c1]
  · rw [if_neg c1]
    by_cases c2 : (S.2 6 k).toInt = o
    · rw [if_pos c2]; simp [c2]
    · rw [if_neg c2]; simp [c1, c2]
theorem take_snoc_count {p : (Int × Int) × (Int × Int) → Bool} {f : Nat → (Int × Int) × (Int × Int)} {c i : Nat} (h : i < c) : (((List.range c).map f).take (i + 1)).countP p = (((List.range c).map f).take i).countP p + if p (f i) = true then 1 else 0 := by
  rw [List.take_succ_eq_append_getElem (by simpa using h), List.countP_append]
  simp [List.countP_cons]
theorem cl_mid_loop {S : St} {c : Nat} (h2 : S.1 2 = i3 c) (hc : c ≤ 66) {o : Int} (ho : -1 ≤ o ∧ o ≤ 100) {w : Nat} (hw : w < ((List.range c).map (ent S)).countP (k4 o)) (hw2 : w ≤ 100) : ∀ fuel i, c < i + fuel → i ≤ c → (((List.range c).map (ent S)).take i).countP (k4 o) ≤ w → ∃ r, r < c ∧ f_X2_middlePlaceWithout_14 (i3 o) S (i3 w) fuel (i3 ((((List.range c).map (ent S)).take i).countP (k4 o) : Nat)) (i3 i) = some (i3 r) ∧ k4 o (ent S r) = true ∧ (((List.range c).map (ent S)).take r).countP (k4 o) = w := by
  intro fuel
  induction fuel with
  | zero => intro i h1 h3; omega
  | succ fuel ih =>
    intro i h1 h3 h4
    unfold f_X2_middlePlaceWithout_14
    simp (disch := omega) only [h2, i3_le]
    rcases Nat.lt_or_ge i c with hi | hi
    · rw [if_neg (by omega), cl_isW h2 hc hi ho, Option.bind_some]
      have hs := take_snoc_count (p := k4 o) (f := ent S) hi
      by_cases ck0 : k4 o (ent S i) = true
      · rw [if_pos ck0]
        rw [if_pos ck0] at hs
        simp (disch := omega) only [l3_0, l3_1, i3_eq, nmv_eq, i3_add]
        rw [if_neg (by omega)]
        by_cases cw : (((List.range c).map (ent S)).take i).countP (k4 o) = w
        · rw [if_pos (by omega)]
          exact ⟨i, hi, rfl, ck0, cw⟩
        · rw [if_neg (by omega)]
          obtain ⟨r, r1, r2, r3⟩ := ih (i + 1) (by omega) (by omega) (by omega)
          refine ⟨r, r1, ?_, r3⟩
          rw [← r2, hs]
          rfl
      · rw [if_neg ck0]
        rw [if_neg ck0] at hs
        simp (disch := omega) only [l3_0, l3_1, i3_eq, nmv_eq, i3_add]
        rw [if_pos trivial]
        obtain ⟨r, r1, r2, r3⟩ := ih (i + 1) (by omega) (by omega) (by omega)
        refine ⟨r, r1, ?_, r3⟩
        rw [← r2, hs]
        rfl
    · have : i = c := by omega
      subst this
      rw [List.take_of_length_le (by simp)] at h4
      omega
def oOk (n : Nat) (o : Int) : Prop := (o = -1 ∧ 2 ≤ n) ∨ (0 ≤ o ∧ o < n ∧ 3 ≤ n)
theorem tri_cast (t : Nat) (h : 1 ≤ t) : ((t : Int) * ((t : Int) - 1)).tdiv 2 = ((t * (t - 1) / 2 : Nat) : Int) := by
  rw [show (t : Int) - 1 = ((t - 1 : Nat) : Int) by omega, ← Int.natCast_mul, Int.tdiv_eq_ediv_of_nonneg (by omega)]
  omega
theorem tri_pos : ∀ t, t < 13 → 2 ≤ t → 1 ≤ t * (t - 1) / 2 := by decide +kernel
theorem tri_small : ∀ t, t < 13 → t * (t - 1) / 2 ≤ 66 := by decide +kernel
theorem sl_len {A : AB} (hn : aN A ≤ 12) {o : Int} (ho : oOk (aN A) o) : (sl A o).length = (if o = -1 then aN A else aN A - 1) * ((if o = -1 then aN A else aN A - 1) - 1) / 2 ∧ 1 ≤ (sl A o).length ∧ (sl A o).length ≤ 66 := by
  unfold sl
  rw [List.length_map]
  rcases ho with ⟨rfl, h2⟩ | ⟨h0, h1, h2⟩
  · rw [prs_all, prs_len _ (by omega), if_pos rfl]
    exact ⟨rfl, tri_pos _ (by omega) h2, tri_small _ (by omega)⟩
  · obtain ⟨q, rfl⟩ : ∃ q : Nat, o = (q : Int) := ⟨o.toNat, by omega⟩
    rw [prs_keep _ (by omega) q (by omega), if_neg (by omega)]
    have e : aN A - 2 = aN A - 1 - 1 := by omega
    rw [e]
    exact ⟨rfl, tri_pos _ (by omega) (by omega), tri_small _ (by omega)⟩
theorem sl_perm {A : AB} {S : St} (h : Cl3 A S) (o : Int) : ((((List.range (prs (aN A)).length).map (ent S)).filter (k4 o)).map (fun e => e.1)).Perm (sl A o) := by
  obtain ⟨c1, c2, c3, c4⟩ := h
  have h1 := (c3.filter (k4 o)).map (fun e => e.1)
  have e2 : ((prs (aN A)).map (en4 A)).filter (k4 o) = ((prs (aN A)).filter (kp o)).map (en4 A) := by
    rw [List.filter_map]; rfl
  rw [e2, List.map_map] at h1
  exact h1
theorem cl_middleW {A : AB} {S : St} (hn : aN A ≤ 12) (h : Cl3 A S) {o : Int} (ho : oOk (aN A) o) : ∃ r, r < (prs (aN A)).length ∧ f_X2_middlePlaceWithout (i3 o) S = some (i3 (r : Nat)) ∧ Mid (sl A o) (ent S r).1 := by
  obtain ⟨l1, l2, l3⟩ := sl_len hn ho
  have hp := sl_perm h o
  obtain ⟨c1, c2, c3, c4⟩ := h
  have hpl := prs_len (aN A) (by omega)
  have hpl2 := tri_small (aN A) (by omega)
  have hcnt : ((List.range (prs (aN A)).length).map (ent S)).countP (k4 o) = (sl A o).length := by
    rw [List.countP_eq_length_filter, ← hp.length_eq, List.length_map]
  have hob : -1 ≤ o ∧ o ≤ 100 := by rcases ho with h | h <;> omega
  obtain ⟨r, r1, r2, r3, r4⟩ := cl_mid_loop c1 (by omega) hob (w := ((sl A o).length - 1) / 2) (by omega) (by omega) 3000 0 (by omega) (by omega) (by simp)
  refine ⟨r, r1, ?_, ?_⟩
  · unfold f_X2_middlePlaceWithout f_X2_numberWithout
    simp (disch := omega) only [i3_neg, i3_eq, c2, l3_1, l3_2, i3_sub]
    have key : ∀ t : Nat, t = (if o = -1 then aN A else aN A - 1) → (Option.bind (some (i3 (t : Int))) (fun (r2 : Int32) => some ((r2 * (r2 - (i3 1))) / (i3 2)))) = some (i3 (((sl A o).length : Nat) : Int)) := by
      intro t ht
      rw [← ht] at l1
      have ht1 : 1 ≤ t := by rw [ht]; split <;> (rcases ho with h | h <;> omega)
      have ht2 : t ≤ 12 := by rw [ht]; split <;> omega
      have hb := mul_rng (a := (t : Int)) (b := (t : Int) - 1) (X := 12) (Y := 12) (by omega) (by omega) (by omega) (by omega) (by omega)
      rw [Option.bind_some, i3_sub, i3_mul, i3_tdiv (by omega) (by omega) (by omega) (by omega), tri_cast t ht1, ← l1]
    have e0 : (if o = -1 then some (i3 (aN A)) else some (i3 ((aN A : Int) - 1))) = some (i3 (((if o = -1 then aN A else aN A - 1 : Nat)) : Int)) := by
      by_cases c : o = -1
      · rw [if_pos c, if_pos c]
      · rw [if_neg c, if_neg c]
        congr 2
        rcases ho with h | h <;> omega
    rw [e0, key _ rfl, Option.bind_some, cl_middle (by omega), Option.bind_some]
    have e1 : (((sl A o).length : Int) - 1).tdiv 2 = ((((sl A o).length - 1) / 2 : Nat) : Int) := by
      rw [Int.tdiv_eq_ediv_of_nonneg (by omega)]; omega
    rw [e1, l3_0]
    rw [List.take_zero] at r2
    exact r2
  · have hlen : ((List.range (prs (aN A)).length).map (ent S)).length = (prs (aN A)).length := by simp
    have hget : ((List.range (prs (aN A)).length).map (ent S))[r]'(by omega) = ent S r := by simp
    have hf := filter_at (p := k4 o) (l := (List.range (prs (aN A)).length).map (ent S)) (r := r) (k := ((sl A o).length - 1) / 2) (by omega) (by rw [hget]; exact r3) r4
    rw [hget] at hf
    have hs : ((((List.range (prs (aN A)).length).map (ent S)).filter (k4 o)).map (fun e => e.1)).Pairwise (fun a b => flt b a = false) := List.pairwise_map.mpr (c4.filter _)
    have hll := hp.length_eq
    have hk : ((sl A o).length - 1) / 2 < ((((List.range (prs (aN A)).length).map (ent S)).filter (k4 o)).map (fun e => e.1)).length := by omega
    have hr := sorted_rank flt_rf hs hk
    have hg2 : ((((List.range (prs (aN A)).length).map (ent S)).filter (k4 o)).map (fun e => e.1))[((sl A o).length - 1) / 2]'hk = (ent S r).1 := by
      rw [List.getElem_map]
      congr 1
      exact (List.getElem?_eq_some_iff.mp hf).2
    rw [hg2] at hr
    refine Mid_perm hp ⟨?_, ?_, ?_⟩
    · rw [← hg2]; exact List.getElem_mem _
    · rw [hll]; exact hr.1
    · rw [hll]; exact hr.2
