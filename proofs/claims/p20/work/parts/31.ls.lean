/-! Lists: places by rank, putting in order, all pairs -/
section RANK
variable {α : Type}
theorem rank_uniq {lt : α → α → Bool} {l : List α} {x y : α} {k : Nat} (htr : ∀ z ∈ l, lt x z = false → lt x y = true → lt z y = true) (hx : k < l.countP (fun z => !lt x z)) (hy : l.countP (fun z => lt z y) ≤ k) : lt x y = false := by
  cases h : lt x y with
  | false => rfl
  | true =>
    have h1 : l.countP (fun z => !lt x z) ≤ l.countP (fun z => lt z y) := by
      refine List.countP_mono_left (fun z hz hp => ?_)
      have hp : lt x z = false := by simpa using hp
      exact htr z hz hp h
    omega
theorem countP_split (p : α → Bool) (l : List α) (k : Nat) : l.countP p = (l.take k).countP p + (l.drop k).countP p := by
  conv => lhs; rw [← List.take_append_drop k l]
  rw [List.countP_append]
theorem sorted_rank {lt : α → α → Bool} {l : List α} (hr : ∀ a, lt a a = false) (hs : l.Pairwise (fun a b => lt b a = false)) {k : Nat} (hk : k < l.length) : l.countP (fun z => lt z l[k]) ≤ k ∧ k < l.countP (fun z => !lt l[k] z) := by
  have hp := List.pairwise_iff_getElem.mp hs
  constructor
  · have e : l.countP (fun z => lt z l[k]) = (l.take k).countP (fun z => lt z l[k]) + (l.drop k).countP (fun z => lt z l[k]) := countP_split _ l k
    have e2 : (l.drop k).countP (fun z => lt z l[k]) = 0 := by
      rw [List.countP_eq_zero]
      intro z hz
      obtain ⟨i, hi, rfl⟩ := List.getElem_of_mem hz
      rw [List.getElem_drop]
      rcases Nat.eq_zero_or_pos i with h0 | h0
      · subst h0; simp [hr]
      · have := hp k (k + i) hk (by simpa [List.length_drop] using (by rw [List.length_drop] at hi; omega : k + i < l.length)) (by omega)
        simp [this]
    have e3 : (l.take k).countP (fun z => lt z l[k]) ≤ k := Nat.le_trans List.countP_le_length (by rw [List.length_take]; omega)
    omega
  · have e : l.countP (fun z => !lt l[k] z) = (l.take (k + 1)).countP (fun z => !lt l[k] z) + (l.drop (k + 1)).countP (fun z => !lt l[k] z) := countP_split _ l (k + 1)
    have e2 : (l.take (k + 1)).countP (fun z => !lt l[k] z) = (l.take (k + 1)).length := by
      rw [List.countP_eq_length]
      intro z hz
      obtain ⟨i, hi, rfl⟩ := List.getElem_of_mem hz
      rw [List.getElem_take]
      rw [List.length_take] at hi
      rcases Nat.lt_or_ge i k with h0 | h0
      · have := hp i k (by omega) hk h0
        simp [this]
      · have : i = k := by omega
        subst this; simp [hr]
    rw [List.length_take] at e2
    omega
/-- the places of a list that was put in order: behind a, what is greater; ahead, what isn't -/
theorem ins_pairwise {R : α → α → Prop} {l1 l2 : List α} {a : α} (h : (l1 ++ l2).Pairwise R) (h1 : ∀ x ∈ l1, R x a) (h2 : ∀ x ∈ l2, R a x) : (l1 ++ a :: l2).Pairwise R := by
  rw [List.pairwise_append] at h ⊢
  refine ⟨h.1, List.pairwise_cons.mpr ⟨h2, h.2.1⟩, fun x hx y hy => ?_⟩
  rcases List.mem_cons.mp hy with rfl | hy
  · exact h1 x hx
  · exact h.2.2 x hx y hy
/-- an array with one thing put at the place r, the rest moved up -/
def insA (f : Nat → α) (c r : Nat) (a : α) : Nat → α := fun j => if j < r then f j else if j = r then a else if j ≤ c then f (j - 1) else f j
theorem insA_list {f : Nat → α} {c r : Nat} {a : α} (h : r ≤ c) : (List.range (c + 1)).map (insA f c r a) = ((List.range c).map f).take r ++ a :: ((List.range c).map f).drop r := by
  apply List.ext_getElem
  · simp; omega
  · intro i h1 h2
    simp only [List.length_map, List.length_range] at h1
    simp only [List.getElem_map, List.getElem_range]
    unfold insA
    by_cases c1 : i < r
    · rw [if_pos c1, List.getElem_append_left (by simp; omega)]
      simp
    · rw [if_neg c1, List.getElem_append_right (by simp; omega)]
      by_cases c2 : i = r
      · rw [if_pos c2]
        simp [c2, Nat.min_eq_left h]
      · rw [if_neg c2, if_pos (by omega)]
        rw [List.getElem_cons]
        have hl : (List.take r (List.map f (List.range c))).length = r := by simp; omega
        rw [dif_neg (by rw [hl]; omega)]
        simp only [List.getElem_drop, List.getElem_map, List.getElem_range, hl]
        congr 1
        omega
theorem insA_perm {f : Nat → α} {c r : Nat} {a : α} (h : r ≤ c) : ((List.range (c + 1)).map (insA f c r a)).Perm (a :: (List.range c).map f) := by
  rw [insA_list h]
  refine List.perm_middle.trans (List.Perm.cons _ ?_)
  rw [List.take_append_drop]
theorem range_ext {f g : Nat → α} {n : Nat} (h : ∀ k, k < n → f k = g k) : (List.range n).map f = (List.range n).map g :=
  List.map_congr_left (fun k hk => h k (List.mem_range.mp hk))
theorem range_snoc {f : Nat → α} {n : Nat} : (List.range (n + 1)).map f = (List.range n).map f ++ [f n] := by
  rw [List.range_succ, List.map_append]; rfl
/-- the k-th of those that count, by its place among all -/
theorem filter_at {p : α → Bool} {l : List α} {r k : Nat} (hr : r < l.length) (hp : p l[r] = true) (hk : (l.take r).countP p = k) : (l.filter p)[k]? = some l[r] := by
  have e : l = l.take r ++ l[r] :: l.drop (r + 1) := by
    rw [List.getElem_cons_drop, List.take_append_drop]
  have e2 : l.filter p = (l.take r).filter p ++ l[r] :: (l.drop (r + 1)).filter p := by
    conv => lhs; rw [e]
    rw [List.filter_append, List.filter_cons_of_pos hp]
  rw [e2, List.getElem?_append_right (by rw [← List.countP_eq_length_filter]; omega), ← List.countP_eq_length_filter, hk, Nat.sub_self]
  rfl
end RANK
/-- all pairs of places, the later one first in order -/
def prs (n : Nat) : List (Nat × Nat) := (List.range n).flatMap (fun t => (List.range t).map (fun f => (f, t)))
theorem prs_succ (n : Nat) : prs (n + 1) = prs n ++ (List.range n).map (fun f => (f, n)) := by
  unfold prs
  rw [List.range_succ, List.flatMap_append]
  simp
theorem prs_mem {n : Nat} {p : Nat × Nat} (h : p ∈ prs n) : p.1 < p.2 ∧ p.2 < n := by
  unfold prs at h
  obtain ⟨t, ht, hp⟩ := List.mem_flatMap.mp h
  obtain ⟨f, hf, rfl⟩ := List.mem_map.mp hp
  exact ⟨List.mem_range.mp hf, List.mem_range.mp ht⟩
def kp (o : Int) (p : Nat × Nat) : Bool := !decide ((p.1 : Int) = o) && !decide ((p.2 : Int) = o)
theorem prs_len : ∀ n, n < 13 → (prs n).length = n * (n - 1) / 2 := by decide +kernel
theorem prs_room : ∀ n, n < 12 → (prs n).length + n ≤ 66 := by decide +kernel
theorem prs_keep : ∀ n, n < 13 → ∀ o, o < n → ((prs n).filter (kp (o : Int))).length = (n - 1) * (n - 2) / 2 := by decide +kernel
theorem prs_all {n : Nat} : (prs n).filter (kp (-1)) = prs n := by
  apply List.filter_eq_self.mpr
  intro p hp
  unfold kp
  rw [decide_eq_false (by omega), decide_eq_false (by omega)]
  rfl
