/-! isRefused answers 1 -/
theorem p_all {O : Ob} {L : LW} (hn : O.2.1 ≤ 3) (hm : L.2.2.2 0 = i3 (O.2.1 : Int)) : ∃ h : Int64, f_L_all O L = some h := by
  have h8 : O.2.1 ≤ 8 := by omega
  have loop : ∀ (fuel j : Nat) (v : Int64), O.2.1 < j + fuel → j ≤ O.2.1 → ∃ h : Int64, f_L_all_9 O L fuel v (i3 (j : Int)) = some h := by
    intro fuel
    induction fuel with
    | zero => intro j v h1 h2; omega
    | succ fuel ih =>
      intro j v h1 h2
      rw [f_L_all_9, ck_pos z1, z0, hm]
      by_cases c : j = O.2.1
      · subst c
        exact ⟨v, by rw [if_pos (Int32.le_refl _)]⟩
      · have hj : j < O.2.1 := by omega
        have hsl : ∀ a : Int32, ∃ r, q_slope a (i3 (j : Int)) O = some r := fun a => by
          rw [qv_slope hj h8]
          split
          · exact ⟨_, rfl⟩
          · split <;> exact ⟨_, rfl⟩
        obtain ⟨s1, w1⟩ := hsl 1
        obtain ⟨s0, w0⟩ := hsl 0
        rw [if_neg (by rw [i3_le (by omega) (by omega) (by omega) (by omega)]; omega), qv_samples hj h8, Option.bind_some, qv_usual hj h8, Option.bind_some, qv_full hj h8, Option.bind_some, qv_warns hj h8, Option.bind_some]
        have e36 : ∃ r36, (if i3 (aOn (O.2.2 j)) = 0 then some ((0 : Int64)) else some ((3 : Int64))) = some r36 := by
          split <;> exact ⟨_, rfl⟩
        obtain ⟨r36, e36⟩ := e36
        rw [e36, Option.bind_some, w1, Option.bind_some, w0, Option.bind_some, nmv_eq, nmv_eq, show i3 (j : Int) + (1 : Int32) = i3 ((j + 1 : Nat) : Int) from by rw [l3_1, i3_add]; rfl]
        exact ih (j + 1) _ (by omega) (by omega)
  obtain ⟨h, e⟩ := loop 4 0 ((q_today O).toInt64) (by omega) (by omega)
  have e' : f_L_all_9 O L 4 ((q_today O).toInt64) (0 : Int32) = some h := e
  refine ⟨h, ?_⟩
  unfold f_L_all
  rw [nmv_eq, e', Option.bind_some]
theorem shl_big : ∀ n, n < 4 → ∀ k, k < 9 → ¬ (0 < ((1 : Int32) <<< ((i3 (n : Nat) + i3 (k : Nat)) &&& 31)).toInt ∧ ((1 : Int32) <<< ((i3 (n : Nat) + i3 (k : Nat)) &&& 31)).toInt < ((2 ^ n : Nat) : Int)) := by decide +kernel
theorem nr {z a b : Int} (hz : -2147483648 ≤ z ∧ z < 2147483648) (ha : -2147483648 ≤ a ∧ a < 2147483648) (hb : -2147483648 ≤ b ∧ b < 2147483648) (h : z < a ∨ b < z) : ¬ (i3 a ≤ i3 z ∧ i3 z ≤ i3 b) := by
  rw [i3_le ha.1 ha.2 hz.1 hz.2, i3_le hz.1 hz.2 hb.1 hb.2]; omega
section REF
variable {O : Ob}
theorem qb_add {z : Int} (hz : -2147483648 ≤ z ∧ z < 2147483648) (h : z < 1 ∨ 1000000 < z) : qx_addStore (i3 z) O = some (-972) := by
  unfold qx_addStore
  rw [if_neg (show ¬ ((1 : Int32) ≤ i3 z ∧ i3 z ≤ (1000000 : Int32)) from nr (a := 1) (b := 1000000) hz (by omega) (by omega) h)]
theorem qb_pass {z : Int} (hz : -2147483648 ≤ z ∧ z < 2147483648) (h : z < 1 ∨ 100 < z) : qx_pass (i3 z) O = some (-972) := by
  unfold qx_pass
  rw [if_neg (show ¬ ((1 : Int32) ≤ i3 z ∧ i3 z ≤ (100 : Int32)) from nr (a := 1) (b := 100) hz (by omega) (by omega) h)]
theorem qb_size {s : Nat} (hs : s < O.2.1) (h8 : O.2.1 ≤ 8) {z : Int} (hz : -2147483648 ≤ z ∧ z < 2147483648) (h : z < 1 ∨ 1000000 < z) : qx_setSize (i3 (s : Int)) (i3 z) O = some (-972) := by
  unfold qx_setSize
  rw [if_pos (inO_of hs h8).1, if_neg (show ¬ ((1 : Int32) ≤ i3 z ∧ i3 z ≤ (1000000 : Int32)) from nr (a := 1) (b := 1000000) hz (by omega) (by omega) h)]
theorem qb_sample {s : Nat} (hs : s < O.2.1) (h8 : O.2.1 ≤ 8) {z : Int} (hz : -2147483648 ≤ z ∧ z < 2147483648) (h : z < 0 ∨ 1000000 < z) : qx_sample (i3 (s : Int)) (i3 z) O = some (-972) := by
  unfold qx_sample
  rw [if_pos (inO_of hs h8).1, if_neg (show ¬ ((0 : Int32) ≤ i3 z ∧ i3 z ≤ (1000000 : Int32)) from nr (a := 0) (b := 1000000) hz (by omega) (by omega) h)]
theorem qb_clean {s : Nat} (hs : s < O.2.1) (h8 : O.2.1 ≤ 8) {z : Int} (hz : -2147483648 ≤ z ∧ z < 2147483648) (h : z < 1 ∨ 100000 < z) : qx_clean (i3 (s : Int)) (i3 z) O = some (-972) := by
  unfold qx_clean
  rw [if_pos (inO_of hs h8).1, if_neg (show ¬ ((1 : Int32) ≤ i3 z ∧ i3 z ≤ (100000 : Int32)) from nr (a := 1) (b := 100000) hz (by omega) (by omega) h)]
theorem qb_rule1 {s : Nat} (hs : s < O.2.1) (h8 : O.2.1 ≤ 8) {z : Int} {w : Int32} (hz : -2147483648 ≤ z ∧ z < 2147483648) (h : z < 0 ∨ 3000 < z) : qx_setRule (i3 (s : Int)) (i3 z) w O = some (-972) := by
  unfold qx_setRule
  rw [if_pos (inO_of hs h8).1, if_neg (show ¬ ((0 : Int32) ≤ i3 z ∧ i3 z ≤ (3000 : Int32)) from nr (a := 0) (b := 3000) hz (by omega) (by omega) h)]
theorem qb_rule2 {s : Nat} (hs : s < O.2.1) (h8 : O.2.1 ≤ 8) {z : Int} (hz : -2147483648 ≤ z ∧ z < 2147483648) (h : z < 0 ∨ 100 < z) : qx_setRule (i3 (s : Int)) (5 : Int32) (i3 z) O = some (-972) := by
  unfold qx_setRule
  rw [if_pos (inO_of hs h8).1, if_pos (by decide), if_neg (show ¬ ((0 : Int32) ≤ i3 z ∧ i3 z ≤ (100 : Int32)) from nr (a := 0) (b := 100) hz (by omega) (by omega) h)]
end REF
theorem p_isRefused {O : Ob} {L : LW} {x : Int} (hn : O.2.1 ≤ 3) (hm : L.2.2.2 0 = i3 (O.2.1 : Int)) (ht : 0 ≤ O.1 ∧ O.1 ≤ 400) (hx : 0 ≤ x ∧ x < 2147483648) : f_L_isRefused (i3 x) O L = some 1 := by
  have h8 : O.2.1 ≤ 8 := by omega
  obtain ⟨hh, eall⟩ := p_all hn hm
  have m2 := Int.emod_nonneg x (show (2 : Int) ≠ 0 by omega)
  have m2' := Int.emod_lt_of_pos x (show (0 : Int) < 2 by omega)
  have m30 := Int.emod_nonneg x (show (30 : Int) ≠ 0 by omega)
  have m30' := Int.emod_lt_of_pos x (show (0 : Int) < 30 by omega)
  have m9 := Int.emod_nonneg x (show (9 : Int) ≠ 0 by omega)
  have m9' := Int.emod_lt_of_pos x (show (0 : Int) < 9 by omega)
  have e2 : i3 x - i3 x / (2 : Int32) * (2 : Int32) = i3 (x % 2) := by rw [l3_2]; exact i3_rem (by omega) (by omega) (by omega) (by omega)
  have e30 : i3 x - i3 x / (30 : Int32) * (30 : Int32) = i3 (x % 30) := by rw [l3_30]; exact i3_rem (by omega) (by omega) (by omega) (by omega)
  have e9 : i3 x - i3 x / (9 : Int32) * (9 : Int32) = i3 (x % 9) := by rw [l3_9]; exact i3_rem (by omega) (by omega) (by omega) (by omega)
  unfold f_L_isRefused
  rw [e2, e30, e9]
  generalize x % 30 = y at *
  generalize x % 9 = w at *
  generalize x % 2 = lo at *
  -- which of the two ways
  obtain ⟨r2, none, a19, a65, a76, c2, cn, cn2, c19, c19', c65, c65', c76, c76', cw⟩ : ∃ (r2 : Int32) (none a19 a65 : Int) (a76 : Int32), ((if i3 lo = 0 then some ((1 : Int32)) else some ((0 : Int32))) = some r2) ∧ ((if r2 = 0 then ck (inb ((0 : Int32)) 1) (some ((L.2.2.2 ((0 : Int32)).toNatClampNeg) + (i3 y))) else some (((-1 : Int32)) - (i3 y))) = some (i3 none)) ∧ (-2147483648 ≤ none ∧ none < 2147483648 ∧ (none < 0 ∨ (O.2.1 : Int) ≤ none)) ∧ ((if r2 = 0 then some ((1000001 : Int32)) else some (((0 : Int32)) - (i3 y))) = some (i3 a19)) ∧ (-100 ≤ a19 ∧ a19 ≤ 1000001 ∧ (a19 < 1 ∨ 1000000 < a19)) ∧ ((if r2 = 0 then some (((101 : Int32)) + (i3 y)) else some (((0 : Int32)) - (i3 y))) = some (i3 a65)) ∧ (-100 ≤ a65 ∧ a65 ≤ 200 ∧ (a65 < 1 ∨ 100 < a65)) ∧ ((if r2 = 0 then ck (inb ((0 : Int32)) 1) (some (((1 : Int32)) <<< (((L.2.2.2 ((0 : Int32)).toNatClampNeg) + (i3 w)) &&& 31))) else some ((0 : Int32))) = some a76) ∧ qx_poolFull a76 O = some (-972) ∧ (r2 = 0 ∨ r2 = 1) := by
    by_cases c : lo = 0
    · refine ⟨1, -1 - y, 0 - y, 0 - y, 0, by rw [if_pos (by rw [c]; rfl)], by rw [if_neg (by decide), l3_m1, i3_sub], by omega, by rw [if_neg (by decide), l3_0, i3_sub], by omega, by rw [if_neg (by decide), l3_0, i3_sub], by omega, by rw [if_neg (by decide)], ?_, Or.inr rfl⟩
      unfold qx_poolFull
      rw [if_neg (by rw [show (0 : Int32).toInt = 0 from rfl]; omega)]
    · refine ⟨0, (O.2.1 : Int) + y, 1000001, 101 + y, (1 : Int32) <<< ((i3 (O.2.1 : Int) + i3 w) &&& 31), by rw [if_neg (by rw [l3_0, i3_eq (by omega) (by omega) (by omega) (by omega)]; exact c)], by rw [if_pos rfl, ck_pos z1, z0, hm, i3_add], by omega, by rw [if_pos rfl, l3_1000001], by omega, by rw [if_pos rfl, l3_101, i3_add], by omega, by rw [if_pos rfl, ck_pos z1, z0, hm], ?_, Or.inl rfl⟩
      unfold qx_poolFull
      obtain ⟨wn, rfl⟩ : ∃ k : Nat, w = (k : Int) := ⟨w.toNat, by omega⟩
      rw [if_neg (shl_big O.2.1 (by omega) wn (by omega))]
  have hno : ¬ inO O (i3 none) := inO_out ⟨cn2.1, cn2.2.1⟩ cn2.2.2 h8
  have q1 : ∀ v, qx_setSize (i3 none) v O = some (-971) := fun v => by unfold qx_setSize; rw [if_neg hno]
  have q2 : ∀ v, qx_sample (i3 none) v O = some (-971) := fun v => by unfold qx_sample; rw [if_neg hno]
  have q3 : ∀ v, qx_clean (i3 none) v O = some (-971) := fun v => by unfold qx_clean; rw [if_neg hno]
  have q5 : ∀ v, qx_forecast (i3 none) v O = some (-971) := fun v => by unfold qx_forecast; rw [if_neg hno]
  have q6 : ∀ v u, qx_setRule (i3 none) v u O = some (-971) := fun v u => by unfold qx_setRule; rw [if_neg hno]
  have q7 : ∀ v, q_slope v (i3 none) O = some (-2000000971) := fun v => by unfold q_slope; rw [if_neg hno]
  have q8 : qx_poolFull ((-1 : Int32) - i3 y) O = some (-972) := by
    unfold qx_poolFull
    rw [l3_m1, i3_sub, i3_toInt (by omega) (by omega), if_neg (by omega)]
  have l1 : ∀ (fuel k : Nat), 6 < k + fuel → k ≤ 6 → f_L_isRefused_267 O (i3 none) fuel (1 : Int32) (i3 (k : Int)) = some 1 := by
    intro fuel
    induction fuel with
    | zero => intro k h1 h2; omega
    | succ fuel ih =>
      intro k h1 h2
      rw [f_L_isRefused_267]
      by_cases c : k = 6
      · subst c
        rw [if_pos (by decide)]
      · rw [if_neg (by rw [l3_6, i3_le (by omega) (by omega) (by omega) (by omega)]; omega), if_neg (by decide), ck_pos hno, if_pos rfl, Option.bind_some, nmv_eq, l3_1, i3_add]
        exact ih (k + 1) (by omega) (by omega)
  have l1' : f_L_isRefused_267 O (i3 none) 7 (1 : Int32) (0 : Int32) = some 1 := l1 7 0 (by omega) (by omega)
  have cA : ∀ (u v : Int) (U V : Int32), U = i3 u → V = i3 v → ∃ z : Int, (if r2 = 0 then some U else some V) = some (i3 z) ∧ (z = u ∨ z = v) := by
    intro u v U V hu hv
    subst hu; subst hv
    rcases cw with q | q
    · exact ⟨u, by rw [if_pos q], Or.inl rfl⟩
    · exact ⟨v, by rw [q, if_neg (by decide)], Or.inr rfl⟩
  obtain ⟨zA, eA, hA⟩ := cA 1000001 0 1000001 0 l3_1000001 l3_0
  obtain ⟨zB, eB, hB⟩ := cA 1000001 (-1) 1000001 (-1) l3_1000001 l3_m1
  obtain ⟨zC, eC, hC⟩ := cA 100001 0 100001 0 l3_100001 l3_0
  obtain ⟨zD, eD, hD⟩ := cA 3001 (-1) 3001 (-1) l3_3001 l3_m1
  obtain ⟨zE, eE, hE⟩ := cA 101 (-1) 101 (-1) l3_101 l3_m1
  have l2 : ∀ (fuel k : Nat), O.2.1 < k + fuel → k ≤ O.2.1 → f_L_isRefused_309 O L r2 fuel (1 : Int32) (i3 (k : Int)) = some 1 := by
    intro fuel
    induction fuel with
    | zero => intro k h1 h2; omega
    | succ fuel ih =>
      intro k h1 h2
      rw [f_L_isRefused_309, ck_pos z1, z0, hm]
      by_cases c : k = O.2.1
      · subst c
        rw [if_pos (Int32.le_refl _)]
      · have hk : k < O.2.1 := by omega
        rw [if_neg (by rw [i3_le (by omega) (by omega) (by omega) (by omega)]; omega), if_neg (by decide), eA, Option.bind_some, qb_size hk h8 (by omega) (by omega), Option.bind_some, if_pos rfl, eB, Option.bind_some, qb_sample hk h8 (by omega) (by omega), Option.bind_some, if_pos rfl, eC, Option.bind_some, qb_clean hk h8 (by omega) (by omega), Option.bind_some, if_pos rfl, eD, Option.bind_some, qb_rule1 hk h8 (by omega) (by omega), Option.bind_some, if_pos rfl, eE, Option.bind_some, qb_rule2 hk h8 (by omega) (by omega), Option.bind_some, if_pos rfl, Option.bind_some, nmv_eq, l3_1, i3_add]
        exact ih (k + 1) (by omega) (by omega)
  have l2' : f_L_isRefused_309 O L r2 4 (1 : Int32) (0 : Int32) = some 1 := l2 4 0 (by omega) (by omega)
  have ets : q_today O < (1901 : Int32) := by
    rw [show q_today O = i3 O.1 from rfl, l3_1901, i3_lt (by omega) (by omega) (by omega) (by omega)]; omega
  rw [c2, Option.bind_some, cn, Option.bind_some, eall, Option.bind_some, c19, Option.bind_some, qb_add (by omega) c19'.2.2, Option.bind_some, if_pos rfl, q1, Option.bind_some, if_pos rfl, q2, Option.bind_some, if_pos rfl, q3, Option.bind_some, if_pos rfl, q5, Option.bind_some, if_pos rfl, q6, Option.bind_some, if_pos rfl, q7, Option.bind_some, if_pos rfl, c65, Option.bind_some, qb_pass (by omega) c65'.2.2, Option.bind_some, if_pos rfl, c76, Option.bind_some, c76', Option.bind_some, if_pos rfl, q8, Option.bind_some, if_pos rfl, if_pos ets, Option.bind_some, l1', Option.bind_some, l2', Option.bind_some, if_neg (by decide), Option.bind_some, if_pos (by rw [leq0])]
