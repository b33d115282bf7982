/-! The reference: its leaves and slopes, in numbers -/
def Mo (A : AB) (M : St) (s : Nat) : Prop := (M.2 0 s = i3 (aSz A) ∧ M.2 1 s = i3 (aN A) ∧ M.2 4 s = i3 (aM A) ∧ M.2 7 s = i3 (aFr A) ∧ M.2 8 s = i3 (aEv A) ∧ M.2 9 s = i3 (aOn A) ∧ M.2 10 s = i3 (aNe A)) ∧ (∀ k, k < aN A → M.2 2 (12 * s + k) = i3 (aDy A k) ∧ M.2 3 (12 * s + k) = i3 (aUs A k)) ∧ ∀ j, j < aM A → M.2 5 (60 * s + j) = i3 (aCd A j) ∧ M.2 6 (60 * s + j) = i3 (aCf A j)
/-- but for what is laid down for a while, the same -/
def FrM (M M2 : St) : Prop := (∀ k, k ≠ 2 → k ≠ 3 → k ≠ 4 → k ≠ 5 → k ≠ 6 → M2.1 k = M.1 k) ∧ ∀ j, j ≠ 14 → j ≠ 15 → j ≠ 16 → M2.2 j = M.2 j
theorem FrM.rf (M : St) : FrM M M := ⟨fun _ _ _ _ _ _ => rfl, fun _ _ _ _ => rfl⟩
theorem FrM.tr {M M2 M3 : St} (h : FrM M M2) (g : FrM M2 M3) : FrM M M3 := ⟨fun k a b c d e => (g.1 k a b c d e).trans (h.1 k a b c d e), fun j a b c => (g.2 j a b c).trans (h.2 j a b c)⟩
theorem FrM.f (M : St) (k : Nat) (v : Int32) (h : 2 ≤ k ∧ k ≤ 6) : FrM M (sF M k v) := ⟨fun j a b c d e => by rw [sF_1, if_neg (by omega)], fun _ _ _ _ => rfl⟩
theorem FrM.a (M : St) (j i : Nat) (v : Int32) (h : 14 ≤ j ∧ j ≤ 16) : FrM M (sA M j i v) := ⟨fun _ _ _ _ _ _ => rfl, fun k a b c => by rw [sA_ne _ _ _ _ _ (by omega)]⟩
theorem Mo.fr {A : AB} {M M2 : St} {s : Nat} (h : Mo A M s) (f : ∀ j, j ≤ 10 → M2.2 j = M.2 j) : Mo A M2 s := by
  obtain ⟨⟨a0, a1, a4, a7, a8, a9, a10⟩, b, c⟩ := h
  unfold Mo
  rw [f 0 (by omega), f 1 (by omega), f 2 (by omega), f 3 (by omega), f 4 (by omega), f 5 (by omega), f 6 (by omega), f 7 (by omega), f 8 (by omega), f 9 (by omega), f 10 (by omega)]
  exact ⟨⟨a0, a1, a4, a7, a8, a9, a10⟩, b, c⟩
theorem Mo.fm {A : AB} {M M2 : St} {s : Nat} (h : Mo A M s) (f : FrM M M2) : Mo A M2 s := h.fr (fun j hj => f.2 j (by omega) (by omega) (by omega))
theorem i3_nn {k : Nat} (h : k < 2147483648) : (i3 (k : Int)).toNatClampNeg = k := by
  rw [i3_nat (by omega) (by omega)]; omega
theorem inbN {k N : Nat} (h : k < N) (h2 : N ≤ 100000) : inb (i3 (k : Int)) N := inbI (by omega) (by omega) (by omega)
theorem m_fill_loop {A : AB} {M : St} {td : Int} {s k : Nat} (hv : Val td A) (ht : td ≤ 2000) (hs : s < 8) (h : Mo A M s) (hk : k < aN A) : ∀ (fuel j : Nat), aM A < j + fuel → j ≤ aM A → f_X8_fill_18 (i3 s) (i3 k) M fuel (i3 (aUs A k + smc (fun j => if aCd A j ≤ aDy A k then aCf A j else 0) j)) (i3 ((60 * s + j : Nat) : Int)) = some (i3 (fil A k)) := by
  have hn := hv.2.2.2.1
  have hm := hv.2.2.2.2.2.2.1
  obtain ⟨⟨a0, a1, a4, a7, a8, a9, a10⟩, b, c⟩ := h
  have e0 : (i3 (s : Int)).toNatClampNeg = s := i3_nn (by omega)
  have i0 : inb (i3 (s : Int)) 8 := inbN hs (by omega)
  have e12 : (i3 12 * i3 (s : Int)) + i3 (k : Int) = i3 ((12 * s + k : Nat) : Int) := by rw [i3_mul, i3_add]; congr 1
  have i12 : inb (i3 ((12 * s + k : Nat) : Int)) 96 := inbN (by omega) (by omega)
  have c12 : (i3 ((12 * s + k : Nat) : Int)).toNatClampNeg = 12 * s + k := i3_nn (by omega)
  have hd := hv.2.2.2.2.1 k hk
  intro fuel
  induction fuel with
  | zero => intro j h1 h2; omega
  | succ fuel ih =>
    intro j h1 h2
    unfold f_X8_fill_18
    rw [ck_pos i0]
    simp (disch := omega) only [l3_12, l3_60, e12, c12, e0, a4, i3_mul, i3_add, i3_le, nmv_eq, l3_0, l3_1]
    by_cases cj : (60 : Int) * s + aM A ≤ ((60 * s + j : Nat) : Int)
    · rw [if_pos cj]
      have : j = aM A := by omega
      subst this
      rfl
    · rw [if_neg cj]
      have i5 : inb (i3 ((60 * s + j : Nat) : Int)) 480 := inbN (by omega) (by omega)
      have e5 : (i3 ((60 * s + j : Nat) : Int)).toNatClampNeg = 60 * s + j := i3_nn (by omega)
      obtain ⟨c5, c6⟩ := c j (by omega)
      have hc := hv.2.2.2.2.2.2.2.1 j (by omega)
      rw [ck_pos i5, show i3 ((12 : Int) * s + k) = i3 ((12 * s + k : Nat) : Int) from rfl, ck_pos i12, ck_pos i5]
      simp (disch := omega) only [c12, e5, (b k hk).1, c5, c6, i3_lt]
      have e : (if aDy A k < aCd A j then some (i3 0) else some (i3 (aCf A j))) = some (i3 (if aCd A j ≤ aDy A k then aCf A j else 0)) := by
        by_cases q : aDy A k < aCd A j
        · rw [if_pos q, if_neg (by omega)]
        · rw [if_neg q, if_pos (by omega)]
      rw [e, Option.bind_some, i3_add]
      have := ih (j + 1) (by omega) (by omega)
      rw [← this]
      congr 2
      show _ = aUs A k + (smc _ j + (if aCd A j ≤ aDy A k then aCf A j else 0))
      omega
theorem m_fill {A : AB} {M : St} {td : Int} {s k : Nat} (hv : Val td A) (ht : td ≤ 2000) (hs : s < 8) (h : Mo A M s) (hk : k < aN A) : f_X8_fill (i3 s) (i3 k) M = some (i3 (fil A k)) := by
  have hn := hv.2.2.2.1
  have e12 : (i3 12 * i3 (s : Int)) + i3 (k : Int) = i3 ((12 * s + k : Nat) : Int) := by rw [i3_mul, i3_add]; congr 1
  have i12 : inb (i3 ((12 * s + k : Nat) : Int)) 96 := inbN (by omega) (by omega)
  have c12 : (i3 ((12 * s + k : Nat) : Int)).toNatClampNeg = 12 * s + k := i3_nn (by omega)
  unfold f_X8_fill
  rw [l3_12, l3_60, e12, ck_pos i12, nmv_eq, nmv_eq, c12, (h.2.1 k hk).2, i3_mul]
  have := m_fill_loop hv ht hs h hk 3000 0 (by have := hv.2.2.2.2.2.2.1; omega) (by omega)
  rw [show aUs A k + smc (fun j => if aCd A j ≤ aDy A k then aCf A j else 0) 0 = aUs A k from Int.add_zero _] at this
  rw [show (60 : Int) * s = ((60 * s + 0 : Nat) : Int) by omega, this, Option.bind_some]
def nm (M : St) (i : Nat) : Int × Int := ((M.2 15 i).toInt, (M.2 16 i).toInt)
def Laid (M : St) (l : List (Int × Int)) : Prop := M.1 2 = i3 l.length ∧ (List.range l.length).map (nm M) = l
theorem Laid.at {M : St} {l : List (Int × Int)} (h : Laid M l) {i : Nat} (hi : i < l.length) : nm M i = l[i] := by
  have h1 : ((List.range l.length).map (nm M))[i]? = l[i]? := by rw [h.2]
  rw [List.getElem?_map, List.getElem?_range hi, List.getElem?_eq_getElem hi] at h1
  exact Option.some.inj h1
theorem Laid.mem {M : St} {l : List (Int × Int)} (h : Laid M l) {i : Nat} (hi : i < l.length) : nm M i ∈ l := by
  rw [h.at hi]; exact List.getElem_mem _
def Bd (x : Int × Int) : Prop := -7000000 ≤ x.1 ∧ x.1 ≤ 7000000 ∧ 0 < x.2 ∧ x.2 ≤ 2000
theorem m_compare {M : St} {i j : Nat} (hi : i < 66) (hj : j < 66) (bi : Bd (nm M i)) (bj : Bd (nm M j)) : f_X8_compare (i3 i) (i3 j) M = some (i3 (if flt (nm M i) (nm M j) = true then -1 else if flt (nm M j) (nm M i) = true then 1 else 0)) := by
  have ii : inb (i3 (i : Int)) 66 := inbN hi (by omega)
  have ij : inb (i3 (j : Int)) 66 := inbN hj (by omega)
  have ei : (i3 (i : Int)).toNatClampNeg = i := i3_nn (by omega)
  have ej : (i3 (j : Int)).toNatClampNeg = j := i3_nn (by omega)
  unfold Bd at bi bj
  have m1 := mul_rng (a := (nm M i).1) (b := (nm M j).2) (X := 7000000) (Y := 2000) (by omega) (by omega) (by omega) (by omega) (by omega)
  have m2 := mul_rng (a := (nm M j).1) (b := (nm M i).2) (X := 7000000) (Y := 2000) (by omega) (by omega) (by omega) (by omega) (by omega)
  have g1 : M.2 15 i = i3 (nm M i).1 := i3_of _
  have g2 : M.2 16 i = i3 (nm M i).2 := i3_of _
  have g3 : M.2 15 j = i3 (nm M j).1 := i3_of _
  have g4 : M.2 16 j = i3 (nm M j).2 := i3_of _
  unfold f_X8_compare
  rw [ck_pos ii, ck_pos ij, ck_pos ij, ck_pos ii, nmv_eq]
  simp (disch := omega) only [ei, ej, g1, g2, g3, g4, i3_long, i6_mul, i6_sub, l3_0, l3_1, lgge, lgle, l6_0, i6_le, i3_neg]
  unfold flt
  by_cases c1 : 0 ≤ (nm M i).1 * (nm M j).2 - (nm M j).1 * (nm M i).2
  · rw [if_pos c1, if_neg (show ¬ decide ((nm M i).1 * (nm M j).2 < (nm M j).1 * (nm M i).2) = true by rw [decide_eq_true_eq]; omega)]
    by_cases c2 : (nm M i).1 * (nm M j).2 - (nm M j).1 * (nm M i).2 ≤ 0
    · rw [if_pos c2, if_neg (show ¬ decide ((nm M j).1 * (nm M i).2 < (nm M i).1 * (nm M j).2) = true by rw [decide_eq_true_eq]; omega)]
    · rw [if_neg c2, if_pos (show decide ((nm M j).1 * (nm M i).2 < (nm M i).1 * (nm M j).2) = true by rw [decide_eq_true_eq]; omega)]
  · rw [if_neg c1, if_pos (show decide ((nm M i).1 * (nm M j).2 < (nm M j).1 * (nm M i).2) = true by rw [decide_eq_true_eq]; omega)]
theorem m_div_loop : ∀ (fuel a b : Nat), b < fuel → a ≤ 7000000 → b ≤ 7000000 → f_X8_divisor_13 fuel (i3 a) (i3 b) = some (i3 (Nat.gcd a b : Nat)) := by
  intro fuel
  induction fuel with
  | zero => intro a b h1; omega
  | succ fuel ih =>
    intro a b h1 h2 h3
    unfold f_X8_divisor_13
    simp (disch := omega) only [l3_0, i3_le, i3_eq, nmv_eq]
    by_cases c : (b : Int) ≤ 0
    · rw [if_pos c]
      have : b = 0 := by omega
      subst this
      rw [Nat.gcd_zero_right]
    · rw [if_neg c, ck_pos (by omega), i3_div (by omega) (by omega) (by omega) (by omega), i3_mul, i3_sub]
      have e : (a : Int) - (a : Int) / b * b = ((a % b : Nat) : Int) := by
        have h1 := Nat.mod_add_div a b
        have h2 : (a : Int) / b = ((a / b : Nat) : Int) := (Int.natCast_ediv a b).symm
        have h3 : b * (a / b) = a / b * b := Nat.mul_comm _ _
        rw [h2, ← Int.natCast_mul]
        omega
      have hl := Nat.mod_lt a (show b > 0 by omega)
      rw [e, ih b (a % b) (by omega) (by omega) (by omega)]
      congr 3
      rw [Nat.gcd_comm, Nat.gcd_comm a b, Nat.gcd_rec b a]
theorem m_divisor {x y : Int} (hx : -7000000 ≤ x ∧ x ≤ 7000000) (hy : 0 < y ∧ y ≤ 2000) : f_X8_divisor (i3 x) (i3 y) = some (i3 (Int.gcd x y : Nat)) := by
  unfold f_X8_divisor
  simp (disch := omega) only [l3_0, i3_le, i3_neg]
  have e : (if 0 ≤ x then some (i3 x) else some (i3 (-x))) = some (i3 (x.natAbs : Nat)) := by
    by_cases c : 0 ≤ x
    · rw [if_pos c]; congr 2; omega
    · rw [if_neg c]; congr 2; omega
  rw [e, Option.bind_some, show y = ((y.natAbs : Nat) : Int) by omega, m_div_loop 3000 _ _ (by omega) (by omega) (by omega), Option.bind_some]
  rfl
theorem cl_div_loop : ∀ (k fuel a b t : Nat), b < 2 ^ k → a ≤ 7000000 → b ≤ 7000000 → t + 2 * k ≤ 62 → 2 * k < fuel → f_X1_commonDivisor_15 fuel (i3 a) (i3 b) (i3 t) = some (i3 (Nat.gcd a b : Nat)) := by
  have step : ∀ (fuel a b t : Nat), a ≤ 7000000 → b ≤ 7000000 → 0 < b → t < 64 → f_X1_commonDivisor_15 (fuel + 1) (i3 a) (i3 b) (i3 t) = f_X1_commonDivisor_15 fuel (i3 b) (i3 ((a % b : Nat) : Int)) (i3 ((t + 1 : Nat) : Int)) := by
    intro fuel a b t h1 h2 h3 h4
    have e : (a : Int) - (a : Int) / b * b = ((a % b : Nat) : Int) := by
      have h1 := Nat.mod_add_div a b
      have h2 : (a : Int) / b = ((a / b : Nat) : Int) := (Int.natCast_ediv a b).symm
      have h3 : b * (a / b) = a / b * b := Nat.mul_comm _ _
      rw [h2, ← Int.natCast_mul]
      omega
    conv => lhs; unfold f_X1_commonDivisor_15
    simp (disch := omega) only [l3_0, l3_64, l3_1, i3_le, i3_eq, nmv_eq, i3_add]
    rw [if_neg (by omega), if_neg (by omega), ck_pos (by omega), i3_div (by omega) (by omega) (by omega) (by omega), i3_mul, i3_sub, e]
    rfl
  have zero : ∀ (fuel a t : Nat), t < 64 → f_X1_commonDivisor_15 (fuel + 1) (i3 a) (i3 ((0 : Nat) : Int)) (i3 t) = some (i3 a) := by
    intro fuel a t h4
    unfold f_X1_commonDivisor_15
    simp (disch := omega) only [l3_0, l3_64, i3_le]
    rw [if_neg (by omega), if_pos (by omega)]
  intro k
  induction k with
  | zero =>
    intro fuel a b t h1 h2 h3 h4 h5
    have hb : b = 0 := by simpa using h1
    subst hb
    obtain ⟨f, rfl⟩ : ∃ f, fuel = f + 1 := ⟨fuel - 1, by omega⟩
    rw [zero _ _ _ (by omega), Nat.gcd_zero_right]
  | succ k ih =>
    intro fuel a b t h1 h2 h3 h4 h5
    obtain ⟨f, rfl⟩ : ∃ f, fuel = f + 2 := ⟨fuel - 2, by omega⟩
    rcases Nat.eq_zero_or_pos b with hb | hb
    · subst hb
      rw [zero _ _ _ (by omega), Nat.gcd_zero_right]
    · have hl := Nat.mod_lt a hb
      rw [step _ _ _ _ h2 h3 hb (by omega), Nat.gcd_comm, Nat.gcd_rec, Nat.gcd_comm]
      rcases Nat.eq_zero_or_pos (a % b) with hr | hr
      · rw [hr, zero _ _ _ (by omega), Nat.gcd_zero_right]
      · have hl2 := Nat.mod_lt b hr
        rw [step _ _ _ _ h3 (by omega) hr (by omega)]
        have h6 : b % (a % b) < 2 ^ k := by
          have h7 : b % (a % b) * 2 ≤ b := by
            rcases Nat.lt_or_ge b (a % b * 2) with q | q
            · have : b % (a % b) = b - a % b := by
                rw [Nat.mod_eq_sub_mod (by omega), Nat.mod_eq_of_lt (by omega)]
              omega
            · omega
          have h8 : 2 ^ (k + 1) = 2 ^ k * 2 := Nat.pow_succ 2 k
          omega
        rw [ih f (a % b) (b % (a % b)) (t + 1 + 1) h6 (by omega) (by omega) (by omega) (by omega)]
        congr 3
        rw [Nat.gcd_comm (a % b), Nat.gcd_comm b, ← Nat.gcd_rec]
theorem gcd_pos {x y : Int} (hy : 0 < y) : 0 < (Int.gcd x y : Int) ∧ (Int.gcd x y : Int) ≤ y := by
  have h1 : (Int.gcd x y : Int) ∣ y := Int.gcd_dvd_right ..
  have h2 := Int.le_of_dvd hy h1
  have h3 : Int.gcd x y ≠ 0 := fun q => by
    rw [Int.gcd_eq_zero_iff] at q; omega
  omega
def redN (x : Int × Int) : Int := x.1 / (Int.gcd x.1 x.2 : Int)
def redD (x : Int × Int) : Int := x.2 / (Int.gcd x.1 x.2 : Int)
theorem red_spec {x : Int × Int} (hx : 0 < x.2) : x.1 = redN x * (Int.gcd x.1 x.2 : Int) ∧ x.2 = redD x * (Int.gcd x.1 x.2 : Int) := by
  exact ⟨(Int.ediv_mul_cancel (Int.gcd_dvd_left ..)).symm, (Int.ediv_mul_cancel (Int.gcd_dvd_right ..)).symm⟩
theorem red_rng {x : Int × Int} (hb : Bd x) : Bd (redN x, redD x) ∧ redN x * x.2 = x.1 * redD x := by
  obtain ⟨b1, b2, b3, b4⟩ := hb
  obtain ⟨g1, g2⟩ := gcd_pos (x := x.1) b3
  obtain ⟨e1, e2⟩ := red_spec b3
  have r1 := div_rng (x := x.1) (y := (Int.gcd x.1 x.2 : Int)) (X := 7000000) b1 b2 (by omega) g1
  have r2 := div_rng (x := x.2) (y := (Int.gcd x.1 x.2 : Int)) (X := 2000) (by omega) b4 (by omega) g1
  have hp : 0 < redD x := by
    rcases Int.lt_trichotomy 0 (redD x) with q | q | q
    · exact q
    · rw [← q, Int.zero_mul] at e2; omega
    · have : redD x * (Int.gcd x.1 x.2 : Int) ≤ 0 := by
        have := Int.mul_le_mul_of_nonneg_right (show redD x ≤ 0 by omega) (show (0 : Int) ≤ (Int.gcd x.1 x.2 : Int) by omega)
        rw [Int.zero_mul] at this; exact this
      omega
  refine ⟨⟨r1.1, r1.2, hp, r2.2⟩, ?_⟩
  conv => lhs; rw [e2]
  conv => rhs; rw [e1]
  ac_rfl
theorem idvd {a b c : Int} (h : a ∣ b * c) (g : Int.gcd b a = 1) : a ∣ c := by
  have h1 : a.natAbs ∣ b.natAbs * c.natAbs := by rw [← Int.natAbs_mul]; exact Int.natAbs_dvd_natAbs.mpr h
  have h2 : Nat.Coprime a.natAbs b.natAbs := by show Nat.gcd _ _ = 1; rw [Nat.gcd_comm]; exact g
  exact Int.natAbs_dvd_natAbs.mp (h2.dvd_of_dvd_mul_left h1)
/-- the lowest terms of one fraction -/
theorem red_uniq {x y : Int × Int} (hx : 0 < x.2) (hy : 0 < y.2) (h : x.1 * y.2 = y.1 * x.2) : redN x = redN y ∧ redD x = redD y := by
  obtain ⟨g1, -⟩ := gcd_pos (x := x.1) hx
  obtain ⟨k1, -⟩ := gcd_pos (x := y.1) hy
  obtain ⟨e1, e2⟩ := red_spec hx
  obtain ⟨f1, f2⟩ := red_spec hy
  have cx : Int.gcd (redN x) (redD x) = 1 := Int.gcd_ediv_gcd_ediv_gcd (by omega)
  have cy : Int.gcd (redN y) (redD y) = 1 := Int.gcd_ediv_gcd_ediv_gcd (by omega)
  have hm : redN x * redD y = redN y * redD x := by
    have h2 : (redN x * redD y) * ((Int.gcd x.1 x.2 : Int) * (Int.gcd y.1 y.2 : Int)) = (redN y * redD x) * ((Int.gcd x.1 x.2 : Int) * (Int.gcd y.1 y.2 : Int)) := by
      have a1 : (redN x * redD y) * ((Int.gcd x.1 x.2 : Int) * (Int.gcd y.1 y.2 : Int)) = (redN x * (Int.gcd x.1 x.2 : Int)) * (redD y * (Int.gcd y.1 y.2 : Int)) := by ac_rfl
      have a2 : (redN y * redD x) * ((Int.gcd x.1 x.2 : Int) * (Int.gcd y.1 y.2 : Int)) = (redN y * (Int.gcd y.1 y.2 : Int)) * (redD x * (Int.gcd x.1 x.2 : Int)) := by ac_rfl
      rw [a1, a2, ← e1, ← e2, ← f1, ← f2]
      exact h
    exact Int.eq_of_mul_eq_mul_right (Int.ne_of_gt (Int.mul_pos g1 k1)) h2
  have px : 0 < redD x := by
    rcases Int.lt_trichotomy 0 (redD x) with q | q | q
    · exact q
    · rw [← q, Int.zero_mul] at e2; omega
    · have := Int.mul_le_mul_of_nonneg_right (show redD x ≤ 0 by omega) (show (0 : Int) ≤ (Int.gcd x.1 x.2 : Int) by omega)
      rw [Int.zero_mul] at this; omega
  have py : 0 < redD y := by
    rcases Int.lt_trichotomy 0 (redD y) with q | q | q
    · exact q
    · rw [← q, Int.zero_mul] at f2; omega
    · have := Int.mul_le_mul_of_nonneg_right (show redD y ≤ 0 by omega) (show (0 : Int) ≤ (Int.gcd y.1 y.2 : Int) by omega)
      rw [Int.zero_mul] at this; omega
  have d1 : redD x ∣ redD y := by
    have : redD x ∣ redN x * redD y := by rw [hm]; exact Int.dvd_mul_left ..
    exact idvd this cx
  have d2 : redD y ∣ redD x := by
    have : redD y ∣ redN y * redD x := by rw [← hm]; exact Int.dvd_mul_left ..
    exact idvd this cy
  have ed : redD x = redD y := Int.le_antisymm (Int.le_of_dvd py d1) (Int.le_of_dvd px d2)
  refine ⟨?_, ed⟩
  rw [ed] at hm
  exact Int.eq_of_mul_eq_mul_right (by omega) hm
theorem cl_lowest {S : St} {x : Int × Int} (hb : Bd x) (h10 : S.1 10 = i3 x.1) (h11 : S.1 11 = i3 x.2) : f_X1_riseInLowestTerms S = some (i3 (redN x)) ∧ f_X1_runInLowestTerms S = some (i3 (redD x)) := by
  obtain ⟨b1, b2, b3, b4⟩ := hb
  obtain ⟨g1, g2⟩ := gcd_pos (x := x.1) b3
  have hc : f_X1_commonDivisor S = some (i3 (Int.gcd x.1 x.2 : Int)) := by
    unfold f_X1_commonDivisor
    simp (disch := omega) only [h10, h11, l3_0, i3_le, i3_sub, nmv_eq]
    have e : (if 0 ≤ x.1 then i3 x.1 else i3 (0 - x.1)) = i3 (x.1.natAbs : Nat) := by
      by_cases c : 0 ≤ x.1
      · rw [if_pos c]; congr 1; omega
      · rw [if_neg c]; congr 1; omega
    rw [e, show i3 x.2 = i3 ((x.2.natAbs : Nat) : Int) from by congr 1; omega]
    have := cl_div_loop 11 3000 x.1.natAbs x.2.natAbs 0 (by omega) (by omega) (by omega) (by omega) (by omega)
    rw [show i3 0 = i3 ((0 : Nat) : Int) from rfl, this, Option.bind_some]
    rfl
  have n0 : ¬ (Int.gcd x.1 x.2 : Int) ≤ 0 := by omega
  have t1 : x.1.tdiv (Int.gcd x.1 x.2 : Int) = redN x := Int.tdiv_eq_ediv_of_dvd (Int.gcd_dvd_left ..)
  have t2 : x.2.tdiv (Int.gcd x.1 x.2 : Int) = redD x := Int.tdiv_eq_ediv_of_dvd (Int.gcd_dvd_right ..)
  unfold f_X1_riseInLowestTerms f_X1_runInLowestTerms
  rw [hc, Option.bind_some, Option.bind_some]
  simp (disch := omega) only [h10, h11, l3_0, i3_le, i3_eq, i3_tdiv]
  rw [if_neg n0, if_neg n0, ck_pos (by omega), ck_pos (by omega), t1, t2]
  exact ⟨rfl, rfl⟩
