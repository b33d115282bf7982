/-! The middle slope and the usual size have their places -/
theorem smc_count {f : Nat → Int} {p : Int → Bool} : ∀ m, smc (fun j => if p (f j) = true then 1 else 0) m = ((((List.range m).map f).countP p : Nat) : Int) := by
  intro m
  induction m with
  | zero => rfl
  | succ m ih =>
    rw [range_snoc, List.countP_append]
    show smc _ m + (if p (f m) = true then 1 else 0) = _
    rw [ih]
    by_cases c : p (f m) = true
    · rw [if_pos c]; simp [c]
    · rw [if_neg c]; simp [c]
theorem smc_add {f g : Nat → Int} : ∀ m, smc f m + smc g m = smc (fun j => f j + g j) m := by
  intro m
  induction m with
  | zero => rfl
  | succ m ih =>
    show (smc f m + f m) + (smc g m + g m) = smc (fun j => f j + g j) m + (f m + g m)
    omega
theorem p_isUsual {O : Ob} {L : LW} {s : Nat} (hs : s < O.2.1) (h8 : O.2.1 ≤ 8) (h : Sto O.1 (O.2.2 s) L s) (hf : Fct O.1 (O.2.2 s)) : f_L_isUsual (i3 (s : Int)) O L = some 1 := by
  have q3 := qv_usual hs h8
  have hu := IsUs_rng h.1 hf.2.1
  have hus := hf.2.1
  obtain ⟨b2, e2⟩ := h.g2
  have hm := h.2.2.1
  have hs3 := h.2.2.2.1
  generalize hA : O.2.2 s = A at *
  generalize vUs A = u at *
  let F1 : Nat → Int := fun j => if ilt (aCf A j) u = true then 1 else 0
  let F2 : Nat → Int := fun j => if decide (aCf A j = u) = true then 1 else 0
  have loop : ∀ (fuel j : Nat), aM A < j + fuel → j ≤ aM A → f_L_isUsual_29 (i3 (s : Int)) L (i3 u) (i3 (aM A : Int)) fuel (i3 (smc F1 j)) (i3 (smc F2 j)) (i3 ((20 * s + j : Nat) : Int)) = some (i3 (smc F1 (aM A)), i3 (smc F2 (aM A))) := by
    intro fuel
    induction fuel with
    | zero => intro j a b; omega
    | succ fuel ih =>
      intro j a b
      have hx := x20 s (aM A)
      rw [f_L_isUsual_29, hx]
      by_cases c : j = aM A
      · subst c
        rw [if_pos (Int32.le_refl _)]
      · have hj : j < aM A := by omega
        obtain ⟨b3, e3, h3, h4⟩ := h.c hj
        have n1 : ¬ i3 ((20 * s + aM A : Nat) : Int) ≤ i3 ((20 * s + j : Nat) : Int) := by
          rw [i3_le (by omega) (by omega) (by omega) (by omega)]; omega
        have e5 : (if 0 ≤ (lg_cmp (i6 (aCf A j)) (i6 u)) then some ((0 : Int32)) else some ((1 : Int32))) = some (i3 (F1 j)) := by
          show _ = some (i3 (if ilt (aCf A j) u = true then 1 else 0))
          by_cases c2 : aCf A j < u
          · rw [if_neg (by rw [lge0, i6_le (by omega) (by omega) (by omega) (by omega)]; omega), if_pos (show ilt (aCf A j) u = true from decide_eq_true c2), l3_1]
          · rw [if_pos (by rw [lge0, i6_le (by omega) (by omega) (by omega) (by omega)]; omega), if_neg (show ¬ ilt (aCf A j) u = true from fun q => c2 (of_decide_eq_true q)), l3_0]
        have e6 : (if (lg_cmp (i6 (aCf A j)) (i6 u)) = 0 then some ((1 : Int32)) else some ((0 : Int32))) = some (i3 (F2 j)) := by
          show _ = some (i3 (if decide (aCf A j = u) = true then 1 else 0))
          by_cases c2 : aCf A j = u
          · rw [if_pos (by rw [leq0, i6_eq (by omega) (by omega) (by omega) (by omega)]; omega), if_pos (decide_eq_true c2), l3_1]
          · rw [if_neg (by rw [leq0, i6_eq (by omega) (by omega) (by omega) (by omega)]; omega), if_neg (fun q => c2 (of_decide_eq_true q)), l3_0]
        rw [if_neg n1, ck_pos b3, e3, pk9_shr h3 (by omega), i3_long (by omega) (by omega), e5, Option.bind_some, nmv_eq, ck_pos b3, e6, Option.bind_some, nmv_eq, nmv_eq, l3_1, i3_add, i3_add, i3_add]
        exact ih (j + 1) (by omega) (by omega)
  have r1 := smc_rng (f := F1) (b := 1) (n := aM A) (fun k _ => by show 0 ≤ (if _ then (1 : Int) else 0) ∧ (if _ then (1 : Int) else 0) ≤ 1; split <;> omega)
  have r2 := smc_rng (f := F2) (b := 1) (n := aM A) (fun k _ => by show 0 ≤ (if _ then (1 : Int) else 0) ∧ (if _ then (1 : Int) else 0) ≤ 1; split <;> omega)
  have k1 : smc F1 (aM A) = ((((List.range (aM A)).map (aCf A)).countP (fun z => ilt z u) : Nat) : Int) := smc_count (p := fun z => ilt z u) _
  have k2 : smc F1 (aM A) + smc F2 (aM A) = ((((List.range (aM A)).map (aCf A)).countP (fun z => !ilt u z) : Nat) : Int) := by
    rw [smc_add, ← smc_count (p := fun z => !ilt u z)]
    refine smc_ext (fun j _ => ?_)
    show (if ilt (aCf A j) u = true then (1 : Int) else 0) + (if decide (aCf A j = u) = true then 1 else 0) = if (!ilt u (aCf A j)) = true then 1 else 0
    unfold ilt
    simp only [Bool.not_eq_true', decide_eq_true_eq, decide_eq_false_iff_not]
    by_cases c1 : aCf A j < u
    · rw [if_pos c1, if_neg (by omega), if_pos (by omega)]; rfl
    · by_cases c2 : aCf A j = u
      · rw [if_neg c1, if_pos c2, if_pos (by omega)]; rfl
      · rw [if_neg c1, if_neg c2, if_neg (by omega)]; rfl
  have lp := loop 3000 0 (by omega) (Nat.zero_le _)
  have lp' : f_L_isUsual_29 (i3 (s : Int)) L (i3 u) (i3 (aM A : Int)) 3000 (0 : Int32) (0 : Int32) (i3 ((20 * s : Nat) : Int)) = some (i3 (smc F1 (aM A)), i3 (smc F2 (aM A))) := lp
  unfold f_L_isUsual
  rw [q3, Option.bind_some, ck_pos b2, e2, nmv_eq, nmv_eq, x20_0, lp', Option.bind_some]
  dsimp only
  rw [nmv_eq]
  rcases hus with ⟨m0, u0⟩ | ⟨m0, hmid⟩
  · rw [if_pos (by rw [m0]; rfl), if_pos (by rw [u0]; rfl)]
  · obtain ⟨-, h1, h2⟩ := hmid
    rw [List.length_map, List.length_range] at h1 h2
    have ed : (i3 (aM A : Int) - (1 : Int32)) / (2 : Int32) = i3 (((aM A - 1) / 2 : Nat) : Int) := by
      rw [l3_1, l3_2, i3_sub, i3_div (by omega) (by omega) (by omega) (by omega)]; congr 1; omega
    have c1 : ¬ i3 (aM A : Int) = 0 := by rw [l3_0, i3_eq (by omega) (by omega) (by omega) (by omega)]; omega
    rw [if_neg c1, ed, if_neg (by rw [i3_lt (by omega) (by omega) (by omega) (by omega), k1]; omega), i3_add, if_neg (by rw [i3_le (by omega) (by omega) (by omega) (by omega), k2]; omega)]
/-- Euclid's way, in long -/
theorem p_gcd : ∀ (fuel a b : Nat), b < fuel → a ≤ 100000000 → b ≤ 100000000 → f_L_isMiddle_249 fuel (i6 (a : Int)) (i6 (b : Int)) = some (i6 ((Nat.gcd a b : Nat) : Int)) := by
  intro fuel
  induction fuel with
  | zero => intro a b h; omega
  | succ fuel ih =>
    intro a b h ha hb
    rw [f_L_isMiddle_249]
    by_cases c : b = 0
    · subst c
      rw [if_pos (by rw [lle0, l6_0, i6_le (by omega) (by omega) (by omega) (by omega)]; omega), Nat.gcd_zero_right]
    · have hlt := Nat.mod_lt a (show 0 < b by omega)
      rw [if_neg (by rw [lle0, l6_0, i6_le (by omega) (by omega) (by omega) (by omega)]; omega), ck_pos (by rw [l6_0, i6_eq (by omega) (by omega) (by omega) (by omega)]; omega), nmv_eq]
      have e : i6 (a : Int) - i6 (a : Int) / i6 (b : Int) * i6 (b : Int) = i6 ((a % b : Nat) : Int) := by
        rw [i6_div (by omega) (by omega) (by omega) (by omega), i6_mul, i6_sub]
        congr 1
        rw [Int.natCast_emod, Int.emod_def, Int.mul_comm (b : Int)]
      rw [e, ih b (a % b) (by omega) hb (by omega), Nat.gcd_comm b, ← Nat.gcd_rec, Nat.gcd_comm]
theorem smc_swap {G : Nat → Nat → Int} (m : Nat) : ∀ n, smc (fun a => smc (fun b => G a b) m) n = smc (fun b => smc (fun a => G a b) n) m := by
  intro n
  induction n with
  | zero =>
    show (0 : Int) = smc (fun b => (0 : Int)) m
    induction m with
    | zero => rfl
    | succ m ih => show 0 = smc (fun b => (0 : Int)) m + 0; omega
  | succ n ih =>
    show smc (fun a => smc (fun b => G a b) m) n + smc (fun b => G n b) m = smc (fun b => smc (fun a => G a b) n + G n b) m
    rw [ih, smc_add]
theorem smc_below {I : Nat → Int} {t : Nat} : ∀ n, t ≤ n → smc (fun a => if a < t then I a else 0) n = smc I t := by
  intro n
  induction n with
  | zero => intro h; rw [show t = 0 by omega]; rfl
  | succ n ih =>
    intro h
    show smc (fun a => if a < t then I a else 0) n + (if n < t then I n else 0) = smc I t
    by_cases c : n < t
    · rw [if_pos c, show t = n + 1 by omega]
      show smc (fun a => if a < n + 1 then I a else 0) n + I n = smc I n + I n
      rw [smc_ext (f := fun a => if a < n + 1 then I a else 0) (g := I) (fun k hk => if_pos (by omega))]
    · rw [if_neg c, ih (by omega)]; omega
theorem prs_count {p : Nat × Nat → Bool} : ∀ n, (((prs n).countP p : Nat) : Int) = smc (fun t => smc (fun f => if p (f, t) = true then 1 else 0) t) n := by
  intro n
  induction n with
  | zero => rfl
  | succ n ih =>
    rw [prs_succ, List.countP_append, Int.natCast_add, ih]
    show _ = smc (fun t => smc (fun f => if p (f, t) = true then 1 else 0) t) n + smc (fun f => if p (f, n) = true then 1 else 0) n
    congr 1
    have : ∀ m, ((((List.range m).map (fun f => (f, n))).countP p : Nat) : Int) = smc (fun f => if p (f, n) = true then 1 else 0) m := by
      intro m
      induction m with
      | zero => rfl
      | succ m ih2 =>
        rw [range_snoc, List.countP_append, Int.natCast_add, ih2]
        show _ = smc (fun f => if p (f, n) = true then 1 else 0) m + (if p (m, n) = true then 1 else 0)
        by_cases c : p (m, n) = true
        · rw [if_pos c]; simp [c]
        · rw [if_neg c]; simp [c]
    exact this n
/-- the law's two loops count all pairs -/
def sq (p : Nat × Nat → Bool) (n : Nat) : Int := smc (fun a => smc (fun b => if a < b then (if p (a, b) = true then 1 else 0) else 0) n) n
theorem sq_eq {p : Nat × Nat → Bool} (n : Nat) : sq p n = (((prs n).countP p : Nat) : Int) := by
  unfold sq
  rw [smc_swap, prs_count]
  refine smc_ext (fun t ht => ?_)
  exact smc_below (I := fun a => if p (a, t) = true then 1 else 0) n (by omega)
theorem flt_red {x z : Int × Int} (hx : 0 < x.2) : flt z (redN x, redD x) = flt z x ∧ flt (redN x, redD x) z = flt x z := by
  obtain ⟨e1, e2⟩ := red_spec hx
  obtain ⟨g1, -⟩ := gcd_pos (x := x.1) hx
  unfold flt
  generalize (Int.gcd x.1 x.2 : Int) = g at *
  have a1 : z.1 * x.2 = (z.1 * redD x) * g := by rw [e2]; ac_rfl
  have a2 : x.1 * z.2 = (redN x * z.2) * g := by rw [e1]; ac_rfl
  rw [a1, a2]
  constructor
  · exact decide_eq_decide.mpr (Int.mul_lt_mul_right g1).symm
  · exact decide_eq_decide.mpr (Int.mul_lt_mul_right g1).symm
