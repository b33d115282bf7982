/-! Rows of whole's own pure parts, by name -/
theorem i3_nn {k : Nat} (h : k < 2147483648) : (i3 (k : Int)).toNatClampNeg = k := by
  rw [i3_nat (by omega) (by omega)]; omega
theorem inbN {k N : Nat} (h : k < N) (h2 : N ≤ 100000) : inb (i3 (k : Int)) N := inbI (by omega) (by omega) (by omega)
def Bd (x : Int × Int) : Prop := -7000000 ≤ x.1 ∧ x.1 ≤ 7000000 ∧ 0 < x.2 ∧ x.2 ≤ 2000
theorem cl_div_loop : ∀ (k fuel a b t : Nat), b < 2 ^ k → a ≤ 7000000 → b ≤ 7000000 → t + 2 * k ≤ 62 → 2 * k < fuel → f_X1_commonDivisor_15 fuel (i3 a) (i3 b) (i3 t) = some (i3 (Nat.gcd a b : Nat)) := by
  have step : ∀ (fuel a b t : Nat), a ≤ 7000000 → b ≤ 7000000 → 0 < b → t < 64 → f_X1_commonDivisor_15 (fuel + 1) (i3 a) (i3 b) (i3 t) = f_X1_commonDivisor_15 fuel (i3 b) (i3 ((a % b : Nat) : Int)) (i3 ((t + 1 : Nat) : Int)) := by
    intro fuel a b t h1 h2 h3 h4
    have e : (a : Int) - (a : Int) / b * b = ((a % b : Nat) : Int) := by
      have h1 := Nat.mod_add_div a b
      have h2 : (a : Int) / b = ((a / b : Nat) : Int) := (Int.natCast_ediv a b).symm
      have h3 : b * (a / b) = a / b * b := Nat.mul_comm _ _
      rw [h2, ← Int.natCast_mul]
      omega
    conv => lhs; unfold f_X1_commonDivisor_15
    simp (disch := omega) only [l3_0, l3_64, l3_1, i3_le, i3_eq, nmv_eq, i3_add]
    rw [if_neg (by omega), if_neg (by omega), ck_pos (by omega), i3_div (by omega) (by omega) (by omega) (by omega), i3_mul, i3_sub, e]
    rfl
  have zero : ∀ (fuel a t : Nat), t < 64 → f_X1_commonDivisor_15 (fuel + 1) (i3 a) (i3 ((0 : Nat) : Int)) (i3 t) = some (i3 a) := by
    intro fuel a t h4
    unfold f_X1_commonDivisor_15
    simp (disch := omega) only [l3_0, l3_64, i3_le]
    rw [if_neg (by omega), if_pos (by omega)]
  intro k
  induction k with
  | zero =>
    intro fuel a b t h1 h2 h3 h4 h5
    have hb : b = 0 := by simpa using h1
    subst hb
    obtain ⟨f, rfl⟩ : ∃ f, fuel = f + 1 := ⟨fuel - 1, by omega⟩
    rw [zero _ _ _ (by omega), Nat.gcd_zero_right]
  | succ k ih =>
    intro fuel a b t h1 h2 h3 h4 h5
    obtain ⟨f, rfl⟩ : ∃ f, fuel = f + 2 := ⟨fuel - 2, by omega⟩
    rcases Nat.eq_zero_or_pos b with hb | hb
    · subst hb
      rw [zero _ _ _ (by omega), Nat.gcd_zero_right]
    · have hl := Nat.mod_lt a hb
      rw [step _ _ _ _ h2 h3 hb (by omega), Nat.gcd_comm, Nat.gcd_rec, Nat.gcd_comm]
      rcases Nat.eq_zero_or_pos (a % b) with hr | hr
      · rw [hr, zero _ _ _ (by omega), Nat.gcd_zero_right]
      · have hl2 := Nat.mod_lt b hr
        rw [step _ _ _ _ h3 (by omega) hr (by omega)]
        have h6 : b % (a % b) < 2 ^ k := by
          have h7 : b % (a % b) * 2 ≤ b := by
            rcases Nat.lt_or_ge b (a % b * 2) with q | q
            · have : b % (a % b) = b - a % b := by
                rw [Nat.mod_eq_sub_mod (by omega), Nat.mod_eq_of_lt (by omega)]
              omega
            · omega
          have h8 : 2 ^ (k + 1) = 2 ^ k * 2 := Nat.pow_succ 2 k
          omega
        rw [ih f (a % b) (b % (a % b)) (t + 1 + 1) h6 (by omega) (by omega) (by omega) (by omega)]
        congr 3
        rw [Nat.gcd_comm (a % b), Nat.gcd_comm b, ← Nat.gcd_rec]
theorem gcd_pos {x y : Int} (hy : 0 < y) : 0 < (Int.gcd x y : Int) ∧ (Int.gcd x y : Int) ≤ y := by
  have h1 : (Int.gcd x y : Int) ∣ y := Int.gcd_dvd_right ..
  have h2 := Int.le_of_dvd hy h1
  have h3 : Int.gcd x y ≠ 0 := fun q => by
    rw [Int.gcd_eq_zero_iff] at q; omega
  omega
def redN (x : Int × Int) : Int := x.1 / (Int.gcd x.1 x.2 : Int)
def redD (x : Int × Int) : Int := x.2 / (Int.gcd x.1 x.2 : Int)
theorem red_spec {x : Int × Int} (hx : 0 < x.2) : x.1 = redN x * (Int.gcd x.1 x.2 : Int) ∧ x.2 = redD x * (Int.gcd x.1 x.2 : Int) := by
  exact ⟨(Int.ediv_mul_cancel (Int.gcd_dvd_left ..)).symm, (Int.ediv_mul_cancel (Int.gcd_dvd_right ..)).symm⟩
theorem red_rng {x : Int × Int} (hb : Bd x) : Bd (redN x, redD x) ∧ redN x * x.2 = x.1 * redD x := by
  obtain ⟨b1, b2, b3, b4⟩ := hb
  obtain ⟨g1, g2⟩ := gcd_pos (x := x.1) b3
  obtain ⟨e1, e2⟩ := red_spec b3
  have r1 := div_rng (x := x.1) (y := (Int.gcd x.1 x.2 : Int)) (X := 7000000) b1 b2 (by omega) g1
  have r2 := div_rng (x := x.2) (y := (Int.gcd x.1 x.2 : Int)) (X := 2000) (by omega) b4 (by omega) g1
  have hp : 0 < redD x := by
    rcases Int.lt_trichotomy 0 (redD x) with q | q | q
    · exact q
    · rw [← q, Int.zero_mul] at e2; omega
    · have : redD x * (Int.gcd x.1 x.2 : Int) ≤ 0 := by
        have := Int.mul_le_mul_of_nonneg_right (show redD x ≤ 0 by omega) (show (0 : Int) ≤ (Int.gcd x.1 x.2 : Int) by omega)
        rw [Int.zero_mul] at this; exact this
      omega
  refine ⟨⟨r1.1, r1.2, hp, r2.2⟩, ?_⟩
  conv => lhs; rw [e2]
  conv => rhs; rw [e1]
  ac_rfl
theorem idvd {a b c : Int} (h : a ∣ b * c) (g : Int.gcd b a = 1) : a ∣ c := by
  have h1 : a.natAbs ∣ b.natAbs * c.natAbs := by rw [← Int.natAbs_mul]; exact Int.natAbs_dvd_natAbs.mpr h
  have h2 : Nat.Coprime a.natAbs b.natAbs := by show Nat.gcd _ _ = 1; rw [Nat.gcd_comm]; exact g
  exact Int.natAbs_dvd_natAbs.mp (h2.dvd_of_dvd_mul_left h1)
theorem red_uniq {x y : Int × Int} (hx : 0 < x.2) (hy : 0 < y.2) (h : x.1 * y.2 = y.1 * x.2) : redN x = redN y ∧ redD x = redD y := by
  obtain ⟨g1, -⟩ := gcd_pos (x := x.1) hx
  obtain ⟨k1, -⟩ := gcd_pos (x := y.1) hy
  obtain ⟨e1, e2⟩ := red_spec hx
  obtain ⟨f1, f2⟩ := red_spec hy
  have cx : Int.gcd (redN x) (redD x) = 1 := Int.gcd_ediv_gcd_ediv_gcd (by omega)
  have cy : Int.gcd (redN y) (redD y) = 1 := Int.gcd_ediv_gcd_ediv_gcd (by omega)
  have hm : redN x * redD y = redN y * redD x := by
    have h2 : (redN x * redD y) * ((Int.gcd x.1 x.2 : Int) * (Int.gcd y.1 y.2 : Int)) = (redN y * redD x) * ((Int.gcd x.1 x.2 : Int) * (Int.gcd y.1 y.2 : Int)) := by
      have a1 : (redN x * redD y) * ((Int.gcd x.1 x.2 : Int) * (Int.gcd y.1 y.2 : Int)) = (redN x * (Int.gcd x.1 x.2 : Int)) * (redD y * (Int.gcd y.1 y.2 : Int)) := by ac_rfl
      have a2 : (redN y * redD x) * ((Int.gcd x.1 x.2 : Int) * (Int.gcd y.1 y.2 : Int)) = (redN y * (Int.gcd y.1 y.2 : Int)) * (redD x * (Int.gcd x.1 x.2 : Int)) := by ac_rfl
      rw [a1, a2, ← e1, ← e2, ← f1, ← f2]
      exact h
    exact Int.eq_of_mul_eq_mul_right (Int.ne_of_gt (Int.mul_pos g1 k1)) h2
  have px : 0 < redD x := by
    rcases Int.lt_trichotomy 0 (redD x) with q | q | q
    · exact q
    · rw [← q, Int.zero_mul] at e2; omega
    · have := Int.mul_le_mul_of_nonneg_right (show redD x ≤ 0 by omega) (show (0 : Int) ≤ (Int.gcd x.1 x.2 : Int) by omega)
      rw [Int.zero_mul] at this; omega
  have py : 0 < redD y := by
    rcases Int.lt_trichotomy 0 (redD y) with q | q | q
    · exact q
    · rw [← q, Int.zero_mul] at f2; omega
    · have := Int.mul_le_mul_of_nonneg_right (show redD y ≤ 0 by omega) (show (0 : Int) ≤ (Int.gcd y.1 y.2 : Int) by omega)
      rw [Int.zero_mul] at this; omega
  have d1 : redD x ∣ redD y := by
    have : redD x ∣ redN x * redD y := by rw [hm]; exact Int.dvd_mul_left ..
    exact idvd this cx
  have d2 : redD y ∣ redD x := by
    have : redD y ∣ redN y * redD x := by rw [← hm]; exact Int.dvd_mul_left ..
    exact idvd this cy
  have ed : redD x = redD y := Int.le_antisymm (Int.le_of_dvd py d1) (Int.le_of_dvd px d2)
  refine ⟨?_, ed⟩
  rw [ed] at hm
  exact Int.eq_of_mul_eq_mul_right (by omega) hm
theorem cl_lowest {S : St} {x : Int × Int} (hb : Bd x) (h10 : S.1 10 = i3 x.1) (h11 : S.1 11 = i3 x.2) : f_X1_riseInLowestTerms S = some (i3 (redN x)) ∧ f_X1_runInLowestTerms S = some (i3 (redD x)) := by
  obtain ⟨b1, b2, b3, b4⟩ := hb
  obtain ⟨g1, g2⟩ := gcd_pos (x := x.1) b3
  have hc : f_X1_commonDivisor S = some (i3 (Int.gcd x.1 x.2 : Int)) := by
    unfold f_X1_commonDivisor
    simp (disch := omega) only [h10, h11, l3_0, i3_le, i3_sub, nmv_eq]
    have e : (if 0 ≤ x.1 then i3 x.1 else i3 (0 - x.1)) = i3 (x.1.natAbs : Nat) := by
      by_cases c : 0 ≤ x.1
      · rw [if_pos c]; congr 1; omega
      · rw [if_neg c]; congr 1; omega
    rw [e, show i3 x.2 = i3 ((x.2.natAbs : Nat) : Int) from by congr 1; omega]
    have := cl_div_loop 11 3000 x.1.natAbs x.2.natAbs 0 (by omega) (by omega) (by omega) (by omega) (by omega)
    rw [show i3 0 = i3 ((0 : Nat) : Int) from rfl, this, Option.bind_some]
    rfl
  have n0 : ¬ (Int.gcd x.1 x.2 : Int) ≤ 0 := by omega
  have t1 : x.1.tdiv (Int.gcd x.1 x.2 : Int) = redN x := Int.tdiv_eq_ediv_of_dvd (Int.gcd_dvd_left ..)
  have t2 : x.2.tdiv (Int.gcd x.1 x.2 : Int) = redD x := Int.tdiv_eq_ediv_of_dvd (Int.gcd_dvd_right ..)
  unfold f_X1_riseInLowestTerms f_X1_runInLowestTerms
  rw [hc, Option.bind_some, Option.bind_some]
  simp (disch := omega) only [h10, h11, l3_0, i3_le, i3_eq, i3_tdiv]
  rw [if_neg n0, if_neg n0, ck_pos (by omega), ck_pos (by omega), t1, t2]
  exact ⟨rfl, rfl⟩

theorem sl_bd {td : Int} {A : AB} (hv : Val td A) (ht : td ≤ 2000) {o : Int} : ∀ x ∈ sl A o, Bd x := by
  intro x hx
  have := sl_mem hv hx
  exact ⟨this.2.2.1, this.2.2.2, this.1, by omega⟩
def HasMid (A : AB) : Prop := (∀ o, oOk (aN A) o → ∃ x, Mid (sl A o) x) ∧ ∃ u, IsUs A u
theorem HasMid_of {A : AB} {S : St} {td : Int} (hv : Val td A) (h : Cl A S) : HasMid A := ⟨fun o ho => by
  obtain ⟨r, r1, r2, r3⟩ := cl_middleW hv.2.2.2.1 h.2.2.1 ho
  exact ⟨_, r3⟩, by
  obtain ⟨u, u1, u2⟩ := cl_usual hv h
  exact ⟨u, u2⟩⟩
def stg (as : Nat → AB) (es : Nat → Int) (td : Int) (t k : Nat) : AB := setW (as t) (lkn (es t) td (aOn (as t), aNe (as t)) k).1
def tots (as : Nat → AB) (es : Nat → Int) (td : Int) (ns k : Nat) : Int := smc (fun t => (lkn (es t) td (aOn (as t), aNe (as t)) k).2) ns
theorem setT_at {T : TS} {k t : Nat} {S : St} : (setT T k S).2.2 t = if t = k then S else T.2.2 t := rfl
theorem inS_of {T : TS} {k : Nat} (h : k < T.2.1) (h8 : T.2.1 ≤ 8) : inS T (i3 (k : Int)) := by
  refine ⟨?_, ?_, h8⟩
  · rw [l3_0, i3_le (by omega) (by omega) (by omega) (by omega)]; omega
  · rw [nI_i3, i3_lt (by omega) (by omega) (by omega) (by omega)]; omega
theorem c_pass_loop {as : Nat → AB} {es : Nat → Int} {td : Int} {ns n : Nat} (hns : ns ≤ 8) (hn : n ≤ 100) (ht : 0 ≤ td ∧ td ≤ 2000) (hv : ∀ t, t < ns → Val td (as t)) (he : ∀ t, t < ns → Early (as t) (es t)) : ∀ (fuel i : Nat) (T : TS), ns < i + fuel → i ≤ ns → T.1.1 = i3 td → T.2.1 = ns → (∀ t, t < ns → Cl (stg as es td t (if t < i then n else 0)) (T.2.2 t)) → ∃ T2, f_X7_pass_33 (i3 n) fuel (i3 (smc (fun t => (lkn (es t) td (aOn (as t), aNe (as t)) n).2) i)) (i3 i) T = some (i3 (tots as es td ns n), T2) ∧ T2.1 = T.1 ∧ T2.2.1 = ns ∧ ∀ t, t < ns → Cl (stg as es td t n) (T2.2.2 t) := by
  intro fuel
  induction fuel with
  | zero => intro i T h1 h2; omega
  | succ fuel ih =>
    intro i T h1 h2 h0 h11 h
    unfold f_X7_pass_33
    simp (disch := omega) only [h11, nI_i3, i3_le, l3_1, nmv_eq, i3_add]
    by_cases c : (ns : Int) ≤ i
    · rw [if_pos c]
      have : i = ns := by omega
      subst this
      refine ⟨T, rfl, rfl, h11, fun t htn => ?_⟩
      have := h t htn
      rw [if_pos htn] at this
      exact this
    · rw [if_neg c]
      have hi : i < ns := by omega
      have hii := h i hi
      rw [if_neg (Nat.lt_irrefl i)] at hii
      have hii' : Cl (as i) (T.2.2 i) := hii
      have ei : (i3 (i : Int)).toNatClampNeg = i := i3_nn (by omega)
      obtain ⟨e, S2, q1, q2, q3, q4⟩ := cl_looks (hv i hi) ht hn hii'
      have ee := Early_uniq (hv i hi) q2 (he i hi)
      subst ee
      rw [ck_pos (inS_of (by rw [h11]; exact hi) (by rw [h11]; exact hns)), ei, h0, q1, Option.bind_some]
      dsimp only
      rw [i3_add]
      obtain ⟨T2, p1, p2, p3, p4⟩ := ih (i + 1) (setT T i S2) (by omega) (by omega) h0 h11 (fun t htn => by
        rw [setT_at]
        by_cases ct : t = i
        · subst ct
          rw [if_pos rfl, if_pos (by omega)]
          exact q4
        · have := h t htn
          rw [if_neg ct]
          by_cases c5 : t < i
          · rw [if_pos c5] at this
            rw [if_pos (by omega)]
            exact this
          · rw [if_neg c5] at this
            rw [if_neg (by omega)]
            exact this)
      exact ⟨T2, p1, p2, p3, p4⟩
theorem x_st_bad {T : TS} {a : Int} (h8 : T.2.1 ≤ 8) (ha : -2147483648 ≤ a ∧ a < 2147483648) (hp : ¬ (0 ≤ a ∧ a < T.2.1)) : x_X7_storeAt (i3 a) T = some ("java/lang/IndexOutOfBoundsException", T) := by
  unfold x_X7_storeAt
  simp (disch := omega) only [nI_i3, i3_lt, l3_0]
  by_cases c : a < 0
  · rw [if_pos c]
  · rw [if_neg c, if_neg (by omega)]
theorem x_st_ok {T : TS} {s : Nat} (h8 : T.2.1 ≤ 8) (hs : s < T.2.1) : x_X7_storeAt (i3 (s : Int)) T = none := by
  unfold x_X7_storeAt
  have hi := inS_of hs h8
  rw [if_neg (inS_nn hi), if_pos hi.2.1, ck_pos hi]
theorem x_dem_ok {a b c : Int} (ha : -2147483648 ≤ a ∧ a < 2147483648) (hb : -2147483648 ≤ b ∧ b < 2147483648) (hc : -2147483648 ≤ c ∧ c < 2147483648) (h : b ≤ a ∧ a ≤ c) : x_X7_demandRange (i3 a) (i3 b) (i3 c) = none := by
  unfold x_X7_demandRange
  simp (disch := omega) only [i3_lt, i3_le]
  rw [if_neg (by omega), if_pos (by omega)]
theorem x_dem_bad {a b c : Int} (ha : -2147483648 ≤ a ∧ a < 2147483648) (hb : -2147483648 ≤ b ∧ b < 2147483648) (hc : -2147483648 ≤ c ∧ c < 2147483648) (h : ¬ (b ≤ a ∧ a ≤ c)) : x_X7_demandRange (i3 a) (i3 b) (i3 c) = some "java/lang/IllegalArgumentException" := by
  unfold x_X7_demandRange
  simp (disch := omega) only [i3_lt, i3_le]
  by_cases c1 : a < b
  · rw [if_pos c1]
  · rw [if_neg c1, if_neg (by omega)]
theorem rng_ok {a b c : Int} (ha : -2147483648 ≤ a ∧ a < 2147483648) (hb : -2147483648 ≤ b ∧ b < 2147483648) (hc : -2147483648 ≤ c ∧ c < 2147483648) (h : b ≤ a ∧ a ≤ c) : i3 b ≤ i3 a ∧ i3 a ≤ i3 c := by
  rw [i3_le hb.1 hb.2 ha.1 ha.2, i3_le ha.1 ha.2 hc.1 hc.2]; exact h
theorem told_some {r : Int} : ∃ v : Int32, f_X7_dayOrNone (i3 r) = some v := by
  unfold f_X7_dayOrNone
  split
  · exact ⟨_, rfl⟩
  · exact ⟨_, rfl⟩
theorem c_slopeOf {T : TS} {s : Nat} {as : Nat → AB} {td : Int} (h8 : T.2.1 ≤ 8) (ht : td ≤ 2000) (hs : s < T.2.1) (hv : Val td (as s)) (hc : Cl (as s) (T.2.2 s)) : (aN (as s) < 2 ∧ x_X7_slopeOf (i3 (s : Int)) T = some ("java/lang/IllegalStateException", T)) ∨ (2 ≤ aN (as s) ∧ x_X7_slopeOf (i3 (s : Int)) T = none ∧ ∃ x S2, f_X7_slopeOf (i3 (s : Int)) T = some (setT T s S2) ∧ FrS (T.2.2 s) S2 ∧ S2.1 8 = i3 (aDy (as s) (lastp (aN (as s)) (-1))) ∧ S2.1 9 = i3 (aUs (as s) (lastp (aN (as s)) (-1))) ∧ S2.1 10 = i3 x.1 ∧ S2.1 11 = i3 x.2 ∧ Mid (sl (as s) (-1)) x) := by
  have es : (i3 (s : Int)).toNatClampNeg = s := i3_nn (by omega)
  have hin := inS_of hs h8
  have hh := cl_hasSlope hc hv.2.2.2.1
  unfold x_X7_slopeOf f_X7_slopeOf
  rw [x_st_ok h8 hs]
  simp only [xc]
  rw [ck_pos hin, ck_pos hin, es, hh, Option.bind_some, Option.bind_some]
  by_cases c : aN (as s) < 2
  · left
    rw [if_pos c, if_pos l3_0.symm]
    exact ⟨c, rfl⟩
  · right
    rw [if_neg c, if_neg (by decide), if_neg (by decide), l3_m1]
    obtain ⟨x, S2, e1, e2, e3⟩ := cl_draw hv hc (o := -1) (Or.inl ⟨rfl, by omega⟩)
    rw [e1, Option.bind_some, Option.bind_some, nmv_eq, nmv_eq]
    exact ⟨by omega, rfl, x, S2, rfl, e2, e3⟩
theorem isZ_0 : isZ (0 : Int32) := by rw [l3_0]; exact isZ_bit (Or.inl rfl)
theorem rng_1 {p : Int} (h : 1 ≤ p ∧ p ≤ 1000000) : (1 : Int32) ≤ i3 p ∧ i3 p ≤ (1000000 : Int32) := by
  rw [l3_1, l3_1000000]; exact rng_ok (by omega) (by omega) (by omega) h
theorem dem_1 {p : Int} (ha : -2147483648 ≤ p ∧ p < 2147483648) (h : 1 ≤ p ∧ p ≤ 1000000) : x_X7_demandRange (i3 p) (1 : Int32) (1000000 : Int32) = none := by
  rw [l3_1, l3_1000000]; exact x_dem_ok ha (by omega) (by omega) h
theorem deb_1 {p : Int} (ha : -2147483648 ≤ p ∧ p < 2147483648) (h : ¬ (1 ≤ p ∧ p ≤ 1000000)) : x_X7_demandRange (i3 p) (1 : Int32) (1000000 : Int32) = some "java/lang/IllegalArgumentException" := by
  rw [l3_1, l3_1000000]; exact x_dem_bad ha (by omega) (by omega) h
theorem rng_2 {p : Int} (h : 0 ≤ p ∧ p ≤ 1000000) : (0 : Int32) ≤ i3 p ∧ i3 p ≤ (1000000 : Int32) := by
  rw [l3_0, l3_1000000]; exact rng_ok (by omega) (by omega) (by omega) h
theorem dem_2 {p : Int} (ha : -2147483648 ≤ p ∧ p < 2147483648) (h : 0 ≤ p ∧ p ≤ 1000000) : x_X7_demandRange (i3 p) (0 : Int32) (1000000 : Int32) = none := by
  rw [l3_0, l3_1000000]; exact x_dem_ok ha (by omega) (by omega) h
theorem deb_2 {p : Int} (ha : -2147483648 ≤ p ∧ p < 2147483648) (h : ¬ (0 ≤ p ∧ p ≤ 1000000)) : x_X7_demandRange (i3 p) (0 : Int32) (1000000 : Int32) = some "java/lang/IllegalArgumentException" := by
  rw [l3_0, l3_1000000]; exact x_dem_bad ha (by omega) (by omega) h
theorem rng_3 {p : Int} (h : 1 ≤ p ∧ p ≤ 100000) : (1 : Int32) ≤ i3 p ∧ i3 p ≤ (100000 : Int32) := by
  rw [l3_1, l3_100000]; exact rng_ok (by omega) (by omega) (by omega) h
theorem dem_3 {p : Int} (ha : -2147483648 ≤ p ∧ p < 2147483648) (h : 1 ≤ p ∧ p ≤ 100000) : x_X7_demandRange (i3 p) (1 : Int32) (100000 : Int32) = none := by
  rw [l3_1, l3_100000]; exact x_dem_ok ha (by omega) (by omega) h
theorem deb_3 {p : Int} (ha : -2147483648 ≤ p ∧ p < 2147483648) (h : ¬ (1 ≤ p ∧ p ≤ 100000)) : x_X7_demandRange (i3 p) (1 : Int32) (100000 : Int32) = some "java/lang/IllegalArgumentException" := by
  rw [l3_1, l3_100000]; exact x_dem_bad ha (by omega) (by omega) h
theorem rng_4 {p : Int} (h : 0 ≤ p ∧ p ≤ 3000) : (0 : Int32) ≤ i3 p ∧ i3 p ≤ (3000 : Int32) := by
  rw [l3_0, l3_3000]; exact rng_ok (by omega) (by omega) (by omega) h
theorem dem_4 {p : Int} (ha : -2147483648 ≤ p ∧ p < 2147483648) (h : 0 ≤ p ∧ p ≤ 3000) : x_X7_demandRange (i3 p) (0 : Int32) (3000 : Int32) = none := by
  rw [l3_0, l3_3000]; exact x_dem_ok ha (by omega) (by omega) h
theorem deb_4 {p : Int} (ha : -2147483648 ≤ p ∧ p < 2147483648) (h : ¬ (0 ≤ p ∧ p ≤ 3000)) : x_X7_demandRange (i3 p) (0 : Int32) (3000 : Int32) = some "java/lang/IllegalArgumentException" := by
  rw [l3_0, l3_3000]; exact x_dem_bad ha (by omega) (by omega) h
theorem rng_5 {p : Int} (h : 0 ≤ p ∧ p ≤ 100) : (0 : Int32) ≤ i3 p ∧ i3 p ≤ (100 : Int32) := by
  rw [l3_0, l3_100]; exact rng_ok (by omega) (by omega) (by omega) h
theorem dem_5 {p : Int} (ha : -2147483648 ≤ p ∧ p < 2147483648) (h : 0 ≤ p ∧ p ≤ 100) : x_X7_demandRange (i3 p) (0 : Int32) (100 : Int32) = none := by
  rw [l3_0, l3_100]; exact x_dem_ok ha (by omega) (by omega) h
theorem deb_5 {p : Int} (ha : -2147483648 ≤ p ∧ p < 2147483648) (h : ¬ (0 ≤ p ∧ p ≤ 100)) : x_X7_demandRange (i3 p) (0 : Int32) (100 : Int32) = some "java/lang/IllegalArgumentException" := by
  rw [l3_0, l3_100]; exact x_dem_bad ha (by omega) (by omega) h
theorem rng_6 {p : Int} (h : 1 ≤ p ∧ p ≤ 100) : (1 : Int32) ≤ i3 p ∧ i3 p ≤ (100 : Int32) := by
  rw [l3_1, l3_100]; exact rng_ok (by omega) (by omega) (by omega) h
theorem dem_6 {p : Int} (ha : -2147483648 ≤ p ∧ p < 2147483648) (h : 1 ≤ p ∧ p ≤ 100) : x_X7_demandRange (i3 p) (1 : Int32) (100 : Int32) = none := by
  rw [l3_1, l3_100]; exact x_dem_ok ha (by omega) (by omega) h
theorem deb_6 {p : Int} (ha : -2147483648 ≤ p ∧ p < 2147483648) (h : ¬ (1 ≤ p ∧ p ≤ 100)) : x_X7_demandRange (i3 p) (1 : Int32) (100 : Int32) = some "java/lang/IllegalArgumentException" := by
  rw [l3_1, l3_100]; exact x_dem_bad ha (by omega) (by omega) h
theorem lastp_lt {n : Nat} (h : 2 ≤ n) : lastp n (-1) < n := by unfold lastp; split <;> omega
theorem lsh {p : Int} {n : Nat} (h1 : -2147483648 ≤ p) (h2 : p < 2147483648) (hn : n ≤ 8) : (((i3 p).toUInt32 >>> ((i3 (n : Int)).toUInt32 &&& Int32.toUInt32 31)).toInt32 = 0) ↔ (0 ≤ p ∧ p < ((2 ^ n : Nat) : Int)) := by
  have hk : ((i3 (n : Int)).toUInt32 &&& Int32.toUInt32 31).toNat % 32 = n := by
    have : ∀ m, m < 9 → ((i3 (m : Nat)).toUInt32 &&& Int32.toUInt32 31).toNat % 32 = m := by decide +kernel
    exact this n (by omega)
  have hu : ((i3 p).toUInt32 >>> ((i3 (n : Int)).toUInt32 &&& Int32.toUInt32 31)).toNat = (i3 p).toUInt32.toNat / 2 ^ n := by
    rw [UInt32.toNat_shiftRight, hk, Nat.shiftRight_eq_div_pow]
  have hx : (i3 p).toBitVec.toInt = p := i3_toInt h1 h2
  rw [BitVec.toInt_eq_toNat_cond] at hx
  have hw : (i3 p).toUInt32.toNat = (i3 p).toBitVec.toNat := rfl
  rw [hw] at hu
  have hl := (i3 p).toBitVec.isLt
  generalize (i3 p).toUInt32 >>> ((i3 (n : Int)).toUInt32 &&& Int32.toUInt32 31) = U at *
  generalize (i3 p).toBitVec.toNat = x at *
  have hpos : 0 < 2 ^ n := Nat.pow_pos (by decide)
  have hle : 2 ^ n ≤ 2 ^ 8 := Nat.pow_le_pow_right (by decide) hn
  have hz : U.toInt32 = 0 ↔ x < 2 ^ n := by
    constructor
    · intro h
      have h0 : U = 0 := congrArg Int32.toUInt32 h
      have h3 : U.toNat = 0 := by rw [h0]; rfl
      rw [hu] at h3
      have := (Nat.div_eq_zero_iff).mp h3
      omega
    · intro h
      have h3 : U.toNat = (0 : UInt32).toNat := by rw [hu, Nat.div_eq_of_lt h]; rfl
      have h0 : U = 0 := UInt32.toNat_inj.mp h3
      rw [h0]; rfl
  rw [hz]
  generalize 2 ^ n = N at *
  have e8 : (2 : Nat) ^ 8 = 256 := rfl
  rw [e8] at hle
  split at hx <;> omega
def pb (p k : Nat) : Bool := p / 2 ^ k % 2 == 1
theorem pb_c : ∀ p, p < 256 → ∀ k, k < 8 → f_X7_isInPool (i3 (p : Nat)) (i3 (k : Nat)) = some (i3 (if pb p k = true then 1 else 0)) := by decide +kernel
theorem pb_m0 : ∀ p, p < 256 → ∀ k, k < 8 → decide (((i3 (p : Nat) >>> (i3 (k : Nat) &&& 31)) &&& (1 : Int32)) = 1) = pb p k := by decide +kernel
theorem pb_m {p k : Nat} (hp : p < 256) (hk : k < 8) : (((i3 (p : Int) >>> (i3 (k : Int) &&& 31)) &&& (1 : Int32)) = 1) ↔ pb p k = true := by
  rw [← pb_m0 p hp k hk, decide_eq_true_iff]
def okb (p : Nat) (as : Nat → AB) : Nat → Bool
  | 0 => true
  | i + 1 => okb p as i && (!pb p i || decide (2 ≤ aN (as i)))
theorem okb_at {p : Nat} {as : Nat → AB} : ∀ {n i : Nat}, okb p as n = true → i < n → pb p i = true → 2 ≤ aN (as i)
  | 0, _, _, h, _ => absurd h (Nat.not_lt_zero _)
  | n + 1, i, h, hi, hb => by
    unfold okb at h
    rw [Bool.and_eq_true] at h
    by_cases c : i = n
    · subst c
      have h2 := h.2
      rw [hb] at h2
      simpa using h2
    · exact okb_at h.1 (by omega) hb
theorem okb_out {p i : Nat} {as : Nat → AB} (h : ¬ pb p i = true) : okb p as (i + 1) = okb p as i := by
  show (okb p as i && (!pb p i || decide (2 ≤ aN (as i)))) = _
  rw [Bool.not_eq_true] at h
  rw [h]; simp
theorem okb_in {p i : Nat} {as : Nat → AB} (h : pb p i = true) : okb p as (i + 1) = (okb p as i && decide (2 ≤ aN (as i))) := by
  show (okb p as i && (!pb p i || decide (2 ≤ aN (as i)))) = _
  rw [h]; simp
def szP (p : Nat) (as : Nat → AB) (n : Nat) : Int := smc (fun t => if pb p t = true then aSz (as t) else 0) n
def foP (p : Nat) (as : Nat → AB) (xs : Nat → Int × Int) (us : Nat → Int) (n : Nat) (d : Int) : Int := smc (fun t => if pb p t = true then fcA (as t) (xs t) (us t) (-1) d else 0) n
def Drw (A : AB) (S : St) : Prop := ∃ x : Int × Int, S.1 8 = i3 (aDy A (lastp (aN A) (-1))) ∧ S.1 9 = i3 (aUs A (lastp (aN A) (-1))) ∧ S.1 10 = i3 x.1 ∧ S.1 11 = i3 x.2 ∧ Mid (sl A (-1)) x
theorem c_drawPool {p : Nat} (hp : p < 256) {as : Nat → AB} {td : Int} {ns : Nat} (hns : ns ≤ 8) (hv : ∀ t, t < ns → Val td (as t)) : ∀ (fuel i : Nat) (T : TS), ns < i + fuel → i ≤ ns → T.2.1 = ns → (∀ t, t < ns → Cl (as t) (T.2.2 t)) → (∀ t, t < i → pb p t = true → 2 ≤ aN (as t) → Drw (as t) (T.2.2 t)) → ∃ T2, f_X7_drawPool_4 (i3 (p : Int)) fuel (i3 (if okb p as i = true then 1 else 0)) (i3 (i : Int)) T = some (i3 (if okb p as ns = true then 1 else 0), T2) ∧ T2.1 = T.1 ∧ T2.2.1 = ns ∧ (∀ t, t < ns → Cl (as t) (T2.2.2 t)) ∧ ∀ t, t < ns → pb p t = true → 2 ≤ aN (as t) → Drw (as t) (T2.2.2 t) := by
  intro fuel
  induction fuel with
  | zero => intro i T h1 h2; omega
  | succ fuel ih =>
    intro i T h1 h2 h3 h4 h5
    unfold f_X7_drawPool_4
    by_cases c : ns ≤ i
    · have : i = ns := by omega
      subst this
      rw [if_pos (by rw [h3, nI_i3, i3_le (by omega) (by omega) (by omega) (by omega)]; omega)]
      exact ⟨T, rfl, rfl, h3, h4, h5⟩
    · have hi : i < ns := by omega
      have ei : (i3 (i : Int)).toNatClampNeg = i := i3_nn (by omega)
      have hin : inS T (i3 (i : Int)) := inS_of (by rw [h3]; exact hi) (by rw [h3]; exact hns)
      have hstep : i3 (i : Int) + 1 = i3 ((i + 1 : Nat) : Int) := by rw [l3_1, i3_add]; rfl
      rw [if_neg (by rw [h3, nI_i3, i3_le (by omega) (by omega) (by omega) (by omega)]; omega), pb_c p hp i (by omega), Option.bind_some]
      by_cases hb : pb p i = true
      · have hn := (hv i hi).2.2.2.1
        have hh := cl_hasSlope (h4 i hi) hn
        rw [if_pos hb, if_neg (by decide)]
        have ef : (if i3 (if okb p as i = true then 1 else 0) = (0 : Int32) then some ((0 : Int32)) else ck (inS T (i3 (i : Int))) ((f_X5_hasSlope (T.2.2 (i3 (i : Int)).toNatClampNeg)).bind (fun (r23 : Int32) => if r23 = 0 then some ((0 : Int32)) else some ((1 : Int32))))) = some (i3 (if okb p as (i + 1) = true then 1 else 0)) := by
          rw [okb_in hb]
          cases ho : okb p as i
          · rw [if_pos (show i3 (if false = true then 1 else 0) = (0 : Int32) from l3_0.symm), Bool.false_and, if_neg (by decide), l3_0]
          · rw [if_pos rfl, if_neg (by decide), ck_pos hin, ei, hh, Option.bind_some, Bool.true_and]
            by_cases c2 : 2 ≤ aN (as i)
            · rw [if_neg (show ¬ aN (as i) < 2 by omega), if_neg (by decide), decide_eq_true c2, if_pos rfl, l3_1]
            · rw [if_pos (show aN (as i) < 2 by omega), if_pos l3_0.symm, decide_eq_false c2, if_neg (by decide), l3_0]
        rw [ef, Option.bind_some, ck_pos hin, ei, l3_m1]
        have hd : ∃ S2, f_X5_drawLineWithout (i3 (-1)) (T.2.2 i) = some S2 ∧ FrS (T.2.2 i) S2 ∧ (2 ≤ aN (as i) → Drw (as i) S2) := by
          by_cases c2 : 2 ≤ aN (as i)
          · obtain ⟨x, S2, e1, e2, e3⟩ := cl_draw (hv i hi) (h4 i hi) (o := -1) (Or.inl ⟨rfl, c2⟩)
            exact ⟨S2, e1, e2, fun _ => ⟨x, e3⟩⟩
          · obtain ⟨S2, e1, e2⟩ := cl_draw0 (h4 i hi) (show aN (as i) < 2 by omega)
            exact ⟨S2, e1, e2, fun q => absurd q c2⟩
        obtain ⟨S2, e1, e2, e3⟩ := hd
        rw [e1, Option.bind_some, nmv_eq, Option.bind_some]
        dsimp only
        rw [nmv_eq, hstep]
        obtain ⟨T2, p1, p2, p3, p4⟩ := ih (i + 1) (setT T i S2) (by omega) (by omega) h3 (fun t q => by
          rw [setT_at]
          by_cases ct : t = i
          · subst ct; rw [if_pos rfl]; exact (h4 t q).fr e2
          · rw [if_neg ct]; exact h4 t q) (fun t q1 q2 q3 => by
          rw [setT_at]
          by_cases ct : t = i
          · subst ct; rw [if_pos rfl]; exact e3 q3
          · rw [if_neg ct]; exact h5 t (by omega) q2 q3)
        exact ⟨T2, p1, p2, p3, p4⟩
      · rw [if_neg hb, if_pos l3_0.symm, Option.bind_some]
        dsimp only
        rw [nmv_eq, hstep, ← okb_out hb]
        exact ih (i + 1) T (by omega) (by omega) h3 h4 (fun t q1 q2 q3 => by
          by_cases ct : t = i
          · subst ct; exact absurd q2 hb
          · exact h5 t (by omega) q2 q3)
theorem c_poolSize {p : Nat} (hp : p < 256) {as : Nat → AB} {td : Int} {ns : Nat} {T : TS} (hns : ns ≤ 8) (hv : ∀ t, t < ns → Val td (as t)) (h3 : T.2.1 = ns) (h4 : ∀ t, t < ns → Cl (as t) (T.2.2 t)) : ∀ (fuel i : Nat), ns < i + fuel → i ≤ ns → f_X7_poolSize_5 (i3 (p : Int)) T fuel (i6 (szP p as i)) (i3 (i : Int)) = some (i6 (szP p as ns)) := by
  intro fuel
  induction fuel with
  | zero => intro i h1 h2; omega
  | succ fuel ih =>
    intro i h1 h2
    unfold f_X7_poolSize_5
    by_cases c : ns ≤ i
    · have : i = ns := by omega
      subst this
      rw [if_pos (by rw [h3, nI_i3, i3_le (by omega) (by omega) (by omega) (by omega)]; omega)]
    · have hi : i < ns := by omega
      have ei : (i3 (i : Int)).toNatClampNeg = i := i3_nn (by omega)
      have hin : inS T (i3 (i : Int)) := inS_of (by rw [h3]; exact hi) (by rw [h3]; exact hns)
      have hstep : i3 (i : Int) + 1 = i3 ((i + 1 : Nat) : Int) := by rw [l3_1, i3_add]; rfl
      have hz := (hv i hi).1
      have es : szP p as (i + 1) = szP p as i + (if pb p i = true then aSz (as i) else 0) := rfl
      rw [if_neg (by rw [h3, nI_i3, i3_le (by omega) (by omega) (by omega) (by omega)]; omega), pb_c p hp i (by omega), Option.bind_some]
      by_cases hb : pb p i = true
      · rw [if_pos hb] at es
        rw [if_pos hb, if_neg (by decide), ck_pos hin, ei, (h4 i hi).1.1, i3_long (by omega) (by omega), i6_add, ← es, nmv_eq, Option.bind_some, nmv_eq, hstep]
        exact ih (i + 1) (by omega) (by omega)
      · rw [if_neg hb, Int.add_zero] at es
        rw [if_neg hb, if_pos l3_0.symm, Option.bind_some, nmv_eq, hstep, ← es]
        exact ih (i + 1) (by omega) (by omega)
theorem fc_eq {A : AB} {td : Int} {x y : Int × Int} {u w : Int} (hv : Val td A) (ht : td ≤ 2000) (hx : Mid (sl A (-1)) x) (hy : Mid (sl A (-1)) y) (hu : IsUs A u) (hw : IsUs A w) (d : Int) : fcA A x u (-1) d = fcA A y w (-1) d := by
  have := IsUs_uniq hu hw
  subst this
  have bx := sl_bd hv ht x hx.1
  have byy := sl_bd hv ht y hy.1
  exact fcv_frac bx.2.2.1 byy.2.2.1 (Mid_uniq (fun z hz => (sl_mem hv hz).1) hx hy) d
theorem fcA_rng {A : AB} {x : Int × Int} {u o d : Int} : 0 ≤ fcA A x u o d ∧ fcA A x u o d ≤ 2000000000 := clp_rng _
def Chs (as : Nat → AB) (xs : Nat → Int × Int) (us : Nat → Int) (ns : Nat) : Prop := ∀ t, t < ns → IsUs (as t) (us t) ∧ (2 ≤ aN (as t) → Mid (sl (as t) (-1)) (xs t))
theorem c_poolRoom {p : Nat} (hp : p < 256) {as : Nat → AB} {xs : Nat → Int × Int} {us : Nat → Int} {td d : Int} {ns : Nat} {T : TS} (hns : ns ≤ 8) (ht : 0 ≤ td ∧ td ≤ 2000) (hd : td ≤ d ∧ d ≤ 5000) (hv : ∀ t, t < ns → Val td (as t)) (hch : Chs as xs us ns) (hok : okb p as ns = true) (h3 : T.2.1 = ns) (h4 : ∀ t, t < ns → Cl (as t) (T.2.2 t)) (h5 : ∀ t, t < ns → pb p t = true → 2 ≤ aN (as t) → Drw (as t) (T.2.2 t)) : ∀ (fuel i : Nat), ns < i + fuel → i ≤ ns → f_X7_poolRoomOn_5 (i3 (p : Int)) (i3 d) T fuel (i6 (foP p as xs us i d)) (i3 (i : Int)) = some (i6 (foP p as xs us ns d)) := by
  intro fuel
  induction fuel with
  | zero => intro i h1 h2; omega
  | succ fuel ih =>
    intro i h1 h2
    unfold f_X7_poolRoomOn_5
    by_cases c : ns ≤ i
    · have : i = ns := by omega
      subst this
      rw [if_pos (by rw [h3, nI_i3, i3_le (by omega) (by omega) (by omega) (by omega)]; omega)]
    · have hi : i < ns := by omega
      have ei : (i3 (i : Int)).toNatClampNeg = i := i3_nn (by omega)
      have hin : inS T (i3 (i : Int)) := inS_of (by rw [h3]; exact hi) (by rw [h3]; exact hns)
      have hstep : i3 (i : Int) + 1 = i3 ((i + 1 : Nat) : Int) := by rw [l3_1, i3_add]; rfl
      have es : foP p as xs us (i + 1) d = foP p as xs us i d + (if pb p i = true then fcA (as i) (xs i) (us i) (-1) d else 0) := rfl
      rw [if_neg (by rw [h3, nI_i3, i3_le (by omega) (by omega) (by omega) (by omega)]; omega), pb_c p hp i (by omega), Option.bind_some]
      by_cases hb : pb p i = true
      · rw [if_pos hb] at es
        have n2 := okb_at hok hi hb
        obtain ⟨y, q3, q4, q5, q6, q7⟩ := h5 i hi hb n2
        obtain ⟨u, u1, u2⟩ := cl_usual (hv i hi) (h4 i hi)
        have byy := sl_bd (hv i hi) ht.2 y q7.1
        have hdd := (hv i hi).2.2.2.2.1 _ (lastp_lt n2)
        have ec := cl_roomOn (hv i hi) (h4 i hi) u1 (IsUs_rng (hv i hi) u2) q3 q4 q5 q6 (d := d) (by omega) (by omega) (by omega) ⟨byy.1, byy.2.1⟩ ⟨byy.2.2.1, byy.2.2.2⟩
        have e1 : fcv (aUs (as i) (lastp (aN (as i)) (-1))) y.1 y.2 (aDy (as i) (lastp (aN (as i)) (-1))) u (aFr (as i)) (aEv (as i)) d = fcA (as i) (xs i) (us i) (-1) d := fc_eq (hv i hi) ht.2 q7 ((hch i hi).2 n2) u2 (hch i hi).1 d
        have er := fcA_rng (A := as i) (x := xs i) (u := us i) (o := -1) (d := d)
        rw [if_pos hb, if_neg (by decide), ck_pos hin, ei, ec, Option.bind_some, e1, i3_long (by omega) (by omega), i6_add, ← es, nmv_eq, Option.bind_some, nmv_eq, hstep]
        exact ih (i + 1) (by omega) (by omega)
      · rw [if_neg hb, Int.add_zero] at es
        rw [if_neg hb, if_pos l3_0.symm, Option.bind_some, nmv_eq, hstep, ← es]
        exact ih (i + 1) (by omega) (by omega)
def pfs (f : Int → Int) (sz td : Int) : Nat → Int → Int
  | 0, _ => -1
  | k + 1, a => if sz ≤ f (td + a) then td + a else pfs f sz td k (a + 1)
theorem foP_rng {p : Nat} {as : Nat → AB} {xs : Nat → Int × Int} {us : Nat → Int} {n : Nat} {d : Int} (hn : n ≤ 8) : 0 ≤ foP p as xs us n d ∧ foP p as xs us n d ≤ 16000000000 := by
  have := smc_rng (f := fun t => if pb p t = true then fcA (as t) (xs t) (us t) (-1) d else 0) (b := 2000000000) (n := n) (fun k _ => by
    have := fcA_rng (A := as k) (x := xs k) (u := us k) (o := -1) (d := d)
    split <;> omega)
  unfold foP
  omega
theorem szP_rng {p : Nat} {as : Nat → AB} {n : Nat} {td : Int} (hn : n ≤ 8) (hv : ∀ t, t < n → Val td (as t)) : 0 ≤ szP p as n ∧ szP p as n ≤ 8000000 := by
  have := smc_rng (f := fun t => if pb p t = true then aSz (as t) else 0) (b := 1000000) (n := n) (fun k hk => by
    have := (hv k hk).1
    split <;> omega)
  unfold szP
  omega
theorem lg_lt {a b : Int} (ha : 0 ≤ a ∧ a ≤ 16000000000) (hb : 0 ≤ b ∧ b ≤ 16000000000) : (lg_cmp (i6 a) (i6 b) < (0 : Int32)) = (a < b) := by
  have h : (lg_cmp (i6 a) (i6 b) < (0 : Int32)) = (i6 a < i6 b) := lglt _ _
  rw [h, i6_lt (by omega) (by omega) (by omega) (by omega)]
theorem c_poolFull {p : Nat} {T : TS} {f : Int → Int} {sz td : Int} (ht : 0 ≤ td ∧ td ≤ 2000) (h1 : T.1.1 = i3 td) (hsz : 0 ≤ sz ∧ sz ≤ 16000000000) (hf : ∀ d, 0 ≤ f d ∧ f d ≤ 16000000000) (hr : ∀ d, td ≤ d ∧ d ≤ 5000 → f_X7_poolRoomOn (i3 (p : Int)) (i3 d) T = some (i6 (f d))) : ∀ (k fuel : Nat) (a : Int), a + k = 1001 → 1 ≤ a → k < fuel → f_X7_poolFull_45 (i3 (p : Int)) T (i6 sz) fuel (i3 a) = some (i3 (pfs f sz td k a), T) := by
  intro k
  induction k with
  | zero =>
    intro fuel a h2 h3 h4
    obtain ⟨fuel, rfl⟩ : ∃ q, fuel = q + 1 := ⟨fuel - 1, by omega⟩
    unfold f_X7_poolFull_45
    rw [if_pos (by rw [l3_1000, i3_lt (by omega) (by omega) (by omega) (by omega)]; omega)]
    rfl
  | succ k ih =>
    intro fuel a h2 h3 h4
    obtain ⟨fuel, rfl⟩ : ∃ q, fuel = q + 1 := ⟨fuel - 1, by omega⟩
    unfold f_X7_poolFull_45
    rw [if_neg (by rw [l3_1000, i3_lt (by omega) (by omega) (by omega) (by omega)]; omega), h1, i3_add, hr (td + a) (by omega), Option.bind_some]
    have e := lg_lt (hf (td + a)) hsz
    unfold pfs
    by_cases c : f (td + a) < sz
    · rw [if_pos (e.mpr c), if_neg (by omega), nmv_eq, l3_1, i3_add]
      exact ih fuel (a + 1) (by omega) (by omega) (by omega)
    · rw [if_neg (fun q => c (e.mp q)), if_pos (by omega)]

