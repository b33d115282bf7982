/-! isMiddle answers 1 -/
theorem smc_zero {f : Nat → Int} : ∀ m, (∀ k, k < m → f k = 0) → smc f m = 0 := by
  intro m
  induction m with
  | zero => intro _; rfl
  | succ m ih =>
    intro h
    show smc f m + f m = 0
    rw [ih (fun k hk => h k (by omega)), h m (by omega)]; rfl
theorem p_isMiddle {O : Ob} {L : LW} {s : Nat} (hs : s < O.2.1) (h8 : O.2.1 ≤ 8) (h : Sto O.1 (O.2.2 s) L s) (hf : Fct O.1 (O.2.2 s)) : f_L_isMiddle (i3 (s : Int)) O L = some 1 := by
  have qf := qv_full hs h8
  have q1 := qv_slope (a := (1 : Int32)) hs h8
  have q0 := qv_slope (a := (0 : Int32)) hs h8
  have qin := inO_of hs h8
  obtain ⟨b1, e1⟩ := h.g1
  have hn := h.1.2.2.2.1
  have ht := h.2.1
  by_cases n2 : aN (O.2.2 s) < 2
  · rw [if_pos n2] at q1 q0
    have qx : qx_forecast (i3 (s : Int)) (-7 : Int32) O = some (-973) := by
      unfold qx_forecast
      rw [if_pos qin.1, qin.2, if_pos n2]
    have ef : q_full (i3 (s : Int)) O = some (-1 : Int32) := by
      rw [qf, hf.2.2.2.1 n2]; rfl
    unfold f_L_isMiddle
    rw [ck_pos b1, e1, nmv_eq, q1, Option.bind_some, nmv_eq, q0, Option.bind_some, nmv_eq, if_neg (by rw [l3_2, i3_le (by omega) (by omega) (by omega) (by omega)]; omega), if_pos (by decide), if_pos (by decide), qx, Option.bind_some, if_pos rfl, ef, Option.bind_some, if_pos rfl]
  · rw [if_neg n2] at q1 q0
    rw [if_neg (by decide)] at q1
    rw [if_pos rfl] at q0
    obtain ⟨bN, bD, eND, hD2⟩ := slope_bd hf (by omega) (by omega)
    have hmid := (hf.2.2.1 (by omega)).1
    have hcop : Int.gcd (vN (O.2.2 s)) (vD (O.2.2 s)) = 1 := by
      obtain ⟨g1, -⟩ := gcd_pos (x := (vMid (O.2.2 s)).1) hD2
      exact Int.gcd_ediv_gcd_ediv_gcd (by omega)
    have hfl : ∀ z, flt z (vN (O.2.2 s), vD (O.2.2 s)) = flt z (vMid (O.2.2 s)) ∧ flt (vN (O.2.2 s), vD (O.2.2 s)) z = flt (vMid (O.2.2 s)) z := fun z => flt_red hD2
    have hfil : ∀ k, k < aN (O.2.2 s) → 0 ≤ fil (O.2.2 s) k ∧ fil (O.2.2 s) k ≤ 7000000 := fun k hk => fil_rng h.1 hk
    have hdy : ∀ k, k < aN (O.2.2 s) → 0 ≤ aDy (O.2.2 s) k ∧ aDy (O.2.2 s) k ≤ 400 := fun k hk => by
      have := h.1.2.2.2.2.1 k hk; omega
    have hpf : ∀ k, k < aN (O.2.2 s) → f_L_filled (i3 (s : Int)) (i3 (k : Int)) O L = some (i6 (fil (O.2.2 s) k)) := fun k hk => p_filled h hk
    have hpd : ∀ k, k < aN (O.2.2 s) → f_L_day (i3 (s : Int)) (i3 (k : Int)) O L = some (i3 (aDy (O.2.2 s) k)) := fun k hk => p_day h hk
    generalize hA : O.2.2 s = A at *
    generalize hNN : vN A = N at *
    generalize hDD : vD A = D at *
    let P1 : Nat × Nat → Bool := fun p => flt (frc A p) (N, D)
    let P2 : Nat × Nat → Bool := fun p => decide ((frc A p).1 * D = N * (frc A p).2)
    let H1 : Nat → Nat → Int := fun a b => if a < b then (if P1 (a, b) = true then 1 else 0) else 0
    let H2 : Nat → Nat → Int := fun a b => if a < b then (if P2 (a, b) = true then 1 else 0) else 0
    have inner : ∀ (a : Nat), a < aN A → ∀ (x y : Int) (fuel b : Nat), aN A < b + fuel → a < b → b ≤ aN A → f_L_isMiddle_120 (i3 (s : Int)) O L (i3 (aN A : Int)) (i6 N) (i6 D) (i3 (a : Int)) (i6 (fil A a)) fuel (i3 (x + smc (H1 a) b)) (i3 (y + smc (H2 a) b)) (i3 (b : Int)) = some (i3 (x + smc (H1 a) (aN A)), i3 (y + smc (H2 a) (aN A))) := by
      intro a ha x y fuel
      induction fuel with
      | zero => intro b q1 q2 q3; omega
      | succ fuel ih =>
        intro b c1 c2 c3
        rw [f_L_isMiddle_120]
        by_cases c : b = aN A
        · subst c
          rw [if_pos (Int32.le_refl _)]
        · have hb : b < aN A := by omega
          have fa := hfil a ha
          have fb := hfil b hb
          have da := hdy a ha
          have db := hdy b hb
          have m1 := mul_rng (a := fil A b - fil A a) (b := D) (X := 7000000) (Y := 2000) (by omega) (by omega) (by omega) (by omega) (by omega)
          have m2 := mul_rng (a := aDy A b - aDy A a) (b := 7000000) (X := 400) (Y := 7000000) (by omega) (by omega) (by omega) (by omega) (by omega)
          have m3 : -2800000000 ≤ N * (aDy A b - aDy A a) ∧ N * (aDy A b - aDy A a) ≤ 2800000000 := by
            have hd2 := h.1.2.2.2.2.2.1 a b c2 hb
            have := mul_rng (a := N) (b := aDy A b - aDy A a) (X := 7000000) (Y := 400) (by omega) (by omega) (by omega) (by omega) (by omega)
            omega
          rw [if_neg (by rw [i3_le (by omega) (by omega) (by omega) (by omega)]; omega), hpf b hb, Option.bind_some, hpd b hb, Option.bind_some, hpd a ha, Option.bind_some, nmv_eq, i6_sub, i6_mul, i3_sub, i3_long (by omega) (by omega), i6_mul, i6_sub]
          have e5 : (if 0 ≤ (lg_cmp (i6 ((fil A b - fil A a) * D - N * (aDy A b - aDy A a))) ((0 : Int64))) then some ((0 : Int32)) else some ((1 : Int32))) = some (i3 (H1 a b)) := by
            show _ = some (i3 (if a < b then (if flt (frc A (a, b)) (N, D) = true then 1 else 0) else 0))
            rw [if_pos c2]
            by_cases c9 : (fil A b - fil A a) * D < N * (aDy A b - aDy A a)
            · rw [if_neg (by rw [lge0, l6_0, i6_le (by omega) (by omega) (by omega) (by omega)]; omega), if_pos (show flt (frc A (a, b)) (N, D) = true from decide_eq_true c9), l3_1]
            · rw [if_pos (by rw [lge0, l6_0, i6_le (by omega) (by omega) (by omega) (by omega)]; omega), if_neg (show ¬ flt (frc A (a, b)) (N, D) = true from fun q => c9 (of_decide_eq_true q)), l3_0]
          have e6 : (if (lg_cmp (i6 ((fil A b - fil A a) * D - N * (aDy A b - aDy A a))) ((0 : Int64))) = 0 then some ((1 : Int32)) else some ((0 : Int32))) = some (i3 (H2 a b)) := by
            show _ = some (i3 (if a < b then (if decide ((fil A b - fil A a) * D = N * (aDy A b - aDy A a)) = true then 1 else 0) else 0))
            rw [if_pos c2]
            by_cases c9 : (fil A b - fil A a) * D = N * (aDy A b - aDy A a)
            · rw [if_pos (by rw [leq0, l6_0, i6_eq (by omega) (by omega) (by omega) (by omega)]; omega), if_pos (show decide _ = true from decide_eq_true c9), l3_1]
            · rw [if_neg (by rw [leq0, l6_0, i6_eq (by omega) (by omega) (by omega) (by omega)]; omega), if_neg (show ¬ decide _ = true from fun q => c9 (of_decide_eq_true q)), l3_0]
          rw [e5, Option.bind_some, nmv_eq, e6, Option.bind_some, nmv_eq, nmv_eq, l3_1, i3_add, i3_add, i3_add]
          have := ih (b + 1) (by omega) (by omega) (by omega)
          rw [← this]
          congr 2
          · show x + smc (H1 a) b + H1 a b = x + (smc (H1 a) b + H1 a b)
            omega
          · show y + smc (H2 a) b + H2 a b = y + (smc (H2 a) b + H2 a b)
            omega
    have outer : ∀ (fuel a : Nat), aN A < a + fuel → a ≤ aN A → f_L_isMiddle_95 (i3 (s : Int)) O L (i3 (aN A : Int)) (i6 N) (i6 D) fuel (i3 (smc (fun a => smc (H1 a) (aN A)) a)) (i3 (smc (fun a => smc (H2 a) (aN A)) a)) (i3 (a : Int)) = some (i3 (sq P1 (aN A)), i3 (sq P2 (aN A))) := by
      intro fuel
      induction fuel with
      | zero => intro a q1 q2; omega
      | succ fuel ih =>
        intro a c1 c2
        rw [f_L_isMiddle_95]
        by_cases c : a = aN A
        · subst c
          rw [if_pos (Int32.le_refl _)]
          rfl
        · have ha : a < aN A := by omega
          rw [if_neg (by rw [i3_le (by omega) (by omega) (by omega) (by omega)]; omega), hpf a ha, Option.bind_some, nmv_eq]
          have z1 : smc (H1 a) (a + 1) = 0 := smc_zero _ (fun k hk => if_neg (by omega))
          have z2 : smc (H2 a) (a + 1) = 0 := smc_zero _ (fun k hk => if_neg (by omega))
          have hin := inner a ha (smc (fun a => smc (H1 a) (aN A)) a) (smc (fun a => smc (H2 a) (aN A)) a) 3000 (a + 1) (by omega) (by omega) (by omega)
          rw [z1, z2, Int.add_zero, Int.add_zero] at hin
          have ea : i3 (a : Int) + (1 : Int32) = i3 ((a + 1 : Nat) : Int) := by rw [l3_1, i3_add]; rfl
          rw [ea, hin, Option.bind_some]
          dsimp only
          rw [nmv_eq]
          exact ih (a + 1) (by omega) (by omega)
    have hout := outer 3000 0 (by omega) (Nat.zero_le _)
    have hout' : f_L_isMiddle_95 (i3 (s : Int)) O L (i3 (aN A : Int)) (i6 N) (i6 D) 3000 (0 : Int32) (0 : Int32) (0 : Int32) = some (i3 (sq P1 (aN A)), i3 (sq P2 (aN A))) := hout
    obtain ⟨-, w1, w2⟩ := hmid
    have elen : (sl A (-1)).length = aN A * (aN A - 1) / 2 := by
      unfold sl
      rw [List.length_map, prs_all, prs_len (aN A) (by omega)]
    have k1 : sq P1 (aN A) = (((sl A (-1)).countP (fun z => flt z (vMid A)) : Nat) : Int) := by
      rw [sq_eq]
      unfold sl
      rw [prs_all, List.countP_map]
      congr 2
      funext p
      exact (hfl (frc A p)).1
    have k2 : sq P1 (aN A) + sq P2 (aN A) = (((sl A (-1)).countP (fun z => !flt (vMid A) z) : Nat) : Int) := by
      have hc : ∀ p, (fun p => !flt (vMid A) (frc A p)) p = (!decide (N * (frc A p).2 < (frc A p).1 * D)) := fun p => by
        show (!flt (vMid A) (frc A p)) = _
        rw [← (hfl (frc A p)).2]
        rfl
      unfold sl
      rw [prs_all, List.countP_map, sq_eq, sq_eq]
      have : ∀ l : List (Nat × Nat), ((l.countP P1 : Nat) : Int) + ((l.countP P2 : Nat) : Int) = ((l.countP ((fun z => !flt (vMid A) z) ∘ frc A) : Nat) : Int) := by
        intro l
        induction l with
        | nil => rfl
        | cons p l ih =>
          rw [List.countP_cons, List.countP_cons, List.countP_cons]
          have e3 : ((fun z => !flt (vMid A) z) ∘ frc A) p = (!decide (N * (frc A p).2 < (frc A p).1 * D)) := hc p
          have e1 : P1 p = decide ((frc A p).1 * D < N * (frc A p).2) := rfl
          have e2 : P2 p = decide ((frc A p).1 * D = N * (frc A p).2) := rfl
          rw [e3, e1, e2]
          generalize (frc A p).1 * D = u at *
          generalize N * (frc A p).2 = v at *
          have e9 : (if decide (u < v) = true then 1 else 0) + (if decide (u = v) = true then 1 else 0) = (if (!decide (v < u)) = true then 1 else (0 : Nat)) := by
            simp only [Bool.not_eq_true', decide_eq_true_eq, decide_eq_false_iff_not]
            repeat' split
            all_goals omega
          omega
      exact this _
    have hlen := prs_len (aN A) (by omega)
    have tp := tri_pos (aN A) (by omega) (by omega)
    have ts := tri_small (aN A) (by omega)
    have r1 : (sl A (-1)).countP (fun z => flt z (vMid A)) ≤ (sl A (-1)).length := List.countP_le_length
    have r2 : (sl A (-1)).countP (fun z => !flt (vMid A) z) ≤ (sl A (-1)).length := List.countP_le_length
    have ed : (((i3 (aN A : Int) * (i3 (aN A : Int) - ((1 : Int32)))) / ((2 : Int32))) - ((1 : Int32))) / ((2 : Int32)) = i3 ((((sl A (-1)).length - 1) / 2 : Nat) : Int) := by
      have mr := mul_rng (a := (aN A : Int)) (b := (aN A : Int) - 1) (X := 12) (Y := 12) (by omega) (by omega) (by omega) (by omega) (by omega)
      have m0 : 0 ≤ (aN A : Int) * ((aN A : Int) - 1) := Int.mul_nonneg (by omega) (by omega)
      have tc := tri_cast (aN A) (by omega)
      rw [Int.tdiv_eq_ediv_of_nonneg m0] at tc
      rw [l3_1, l3_2, i3_sub, i3_mul, i3_div m0 (by omega) (by omega) (by omega), tc, i3_sub, elen, i3_div (by omega) (by omega) (by omega) (by omega)]
      congr 1
      omega
    have eabs : (if 0 ≤ (lg_cmp (i6 N) ((0 : Int64))) then some (i6 N) else some (-(i6 N))) = some (i6 ((N.natAbs : Nat) : Int)) := by
      by_cases c : 0 ≤ N
      · rw [if_pos (by rw [lge0, l6_0, i6_le (by omega) (by omega) (by omega) (by omega)]; omega)]; congr 2; omega
      · rw [if_neg (by rw [lge0, l6_0, i6_le (by omega) (by omega) (by omega) (by omega)]; omega), show -(i6 N) = i6 (-N) from (Int64.ofInt_neg _).symm]; congr 2; omega
    have eg := p_gcd 3000 N.natAbs D.natAbs (by omega) (by omega) (by omega)
    rw [show Nat.gcd N.natAbs D.natAbs = 1 from hcop, show ((D.natAbs : Nat) : Int) = D by omega] at eg
    unfold f_L_isMiddle
    rw [ck_pos b1, e1, nmv_eq, q1, Option.bind_some, nmv_eq, q0, Option.bind_some, nmv_eq, i3_long (by omega) (by omega), i3_long (by omega) (by omega), if_pos (by rw [l3_2, i3_le (by omega) (by omega) (by omega) (by omega)]; omega), hout', Option.bind_some]
    dsimp only
    rw [nmv_eq, eabs, Option.bind_some, eg, Option.bind_some, if_neg (by rw [lle0, l6_0, i6_le (by omega) (by omega) (by omega) (by omega)]; omega), if_pos (by decide), ed, if_neg (by rw [i3_lt (by omega) (by omega) (by omega) (by omega), k1]; omega), i3_add, if_neg (by rw [i3_le (by omega) (by omega) (by omega) (by omega), k2]; omega)]
