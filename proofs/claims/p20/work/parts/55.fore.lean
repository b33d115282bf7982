/-! areForecasts answers 1 -/
theorem tld_cases {r : Int} (h : 1 ≤ r ∧ r ≤ 1000000) : (r = 1000000 ∧ tld r = -1) ∨ (r < 1000000 ∧ tld r = r) := by
  unfold tld
  by_cases c : r = 1000000
  · exact Or.inl ⟨c, if_pos c⟩
  · exact Or.inr ⟨by omega, if_neg c⟩
theorem vFc_rng (A : AB) (d : Int) : 0 ≤ vFc A d ∧ vFc A d ≤ 2000000000 := clp_rng _
/-- the first day at the size -/
theorem full_is {td : Int} {A : AB} (h : Fct td A) (ht : 0 ≤ td ∧ td ≤ 400) (n2 : 2 ≤ aN A) : (∃ a, 1 ≤ a ∧ a ≤ 1000 ∧ aSz A ≤ vFc A (lsD A + a) ∧ (∀ b, 1 ≤ b → b < a → vFc A (lsD A + b) < aSz A) ∧ vFull A = lsD A + a) ∨ ((∀ a, 1 ≤ a → a ≤ 1000 → vFc A (lsD A + a) < aSz A) ∧ vFull A = 1000000) := by
  obtain ⟨x, u, hx, hu, hF⟩ := (h.2.2.1 n2).2
  have e : ∀ d, fcA A x u (-1) d = vFc A d := fun d => (vFc_eq h.1 (by omega) hx hu d).symm
  rcases hF with ⟨a, a1, a2, a3, a4, a5⟩ | ⟨a1, a2⟩
  · exact Or.inl ⟨a, a1, a2, by rw [← e]; exact a3, fun b b1 b2 => by rw [← e]; exact a4 b b1 b2, a5⟩
  · exact Or.inr ⟨fun a b1 b2 => by rw [← e]; exact a1 a b1 b2, a2⟩
theorem bnds {td : Int} {A : AB} (h : Fct td A) (n3 : 3 ≤ aN A) : vEar A ≤ vFull A ∧ vFull A ≤ vLat A := by
  have hF := (h.2.2.1 (by omega)).2
  have hv := h.1
  obtain ⟨-, -, -, -, -, ⟨hE, -⟩, hL, -⟩ := h
  constructor
  · rcases hE with ⟨q, -⟩ | ⟨-, q, -⟩
    · omega
    · obtain ⟨r, r1, r2⟩ := q (-1) (by omega) (by omega)
      rw [FDay_uniq hv hF r1]; exact r2
  · rcases hL with ⟨q, -⟩ | ⟨-, q, -⟩
    · omega
    · obtain ⟨r, r1, r2⟩ := q (-1) (by omega) (by omega)
      rw [FDay_uniq hv hF r1]; exact r2
theorem few {td : Int} {A : AB} (h : Fct td A) (n3 : aN A < 3) : vEar A = 1000000 ∧ vLat A = 1000000 := by
  obtain ⟨-, -, -, -, -, ⟨hE, -⟩, hL, -⟩ := h
  constructor
  · rcases hE with ⟨-, q⟩ | ⟨q, -⟩
    · exact q
    · omega
  · rcases hL with ⟨-, q⟩ | ⟨q, -⟩
    · exact q
    · omega
theorem p_areF_end {n F e l F1 e1 l1 : Int} (hn : 2 ≤ n ∧ n ≤ 12) (hF : (F = 1000000 ∧ F1 = -1) ∨ (F < 1000000 ∧ F1 = F)) (he : (e = 1000000 ∧ e1 = -1) ∨ (e < 1000000 ∧ e1 = e)) (hl : (l = 1000000 ∧ l1 = -1) ∨ (l < 1000000 ∧ l1 = l)) (bF : 1 ≤ F ∧ F ≤ 1000000) (be : 1 ≤ e ∧ e ≤ 1000000) (bl : 1 ≤ l ∧ l ≤ 1000000) (h2 : n < 3 → e = 1000000 ∧ l = 1000000) (h3 : 3 ≤ n → e ≤ F ∧ F ≤ l) :
    (if i3 n ≤ ((2 : Int32)) then if 0 ≤ i3 e1 then some ((0 : Int32)) else if 0 ≤ i3 l1 then some ((0 : Int32)) else some ((1 : Int32)) else if 0 ≤ i3 e1 then if i3 F1 < 0 then if i3 l1 < 0 then some ((1 : Int32)) else if i3 F1 < 0 then some ((0 : Int32)) else if i3 l1 < i3 F1 then some ((0 : Int32)) else if i3 e1 < 0 then some ((0 : Int32)) else if i3 l1 < i3 e1 then some ((0 : Int32)) else some ((1 : Int32)) else if i3 F1 < i3 e1 then some ((0 : Int32)) else if i3 l1 < 0 then some ((1 : Int32)) else if i3 F1 < 0 then some ((0 : Int32)) else if i3 l1 < i3 F1 then some ((0 : Int32)) else if i3 e1 < 0 then some ((0 : Int32)) else if i3 l1 < i3 e1 then some ((0 : Int32)) else some ((1 : Int32)) else if 0 ≤ i3 F1 then some ((0 : Int32)) else if 0 ≤ i3 l1 then some ((0 : Int32)) else if i3 l1 < 0 then some ((1 : Int32)) else if i3 F1 < 0 then some ((0 : Int32)) else if i3 l1 < i3 F1 then some ((0 : Int32)) else if i3 e1 < 0 then some ((0 : Int32)) else if i3 l1 < i3 e1 then some ((0 : Int32)) else some ((1 : Int32))) = some (1 : Int32) := by
  have c1 : ∀ z : Int, -2147483648 ≤ z → z < 2147483648 → ((0 : Int32) ≤ i3 z) = (0 ≤ z) := fun z a b => by rw [l3_0, i3_le (by omega) (by omega) a b]
  have c2 : ∀ z : Int, -2147483648 ≤ z → z < 2147483648 → (i3 z < (0 : Int32)) = (z < 0) := fun z a b => by rw [l3_0, i3_lt a b (by omega) (by omega)]
  have c3 : (i3 n ≤ (2 : Int32)) = (n ≤ 2) := by rw [l3_2, i3_le (by omega) (by omega) (by omega) (by omega)]
  simp (disch := omega) only [c1, c2, c3, i3_lt]
  repeat' split
  all_goals first | rfl | (exfalso; omega)
theorem p_areForecasts {O : Ob} {L : LW} {s : Nat} {x : Int} (hs : s < O.2.1) (h8 : O.2.1 ≤ 8) (h : Sto O.1 (O.2.2 s) L s) (hf : Fct O.1 (O.2.2 s)) (hx : 0 ≤ x ∧ x ≤ 1000000000) : f_L_areForecasts (i3 (s : Int)) (i3 x) O L = some 1 := by
  have qF := qv_full hs h8
  have qE := qv_early hs h8
  have qL := qv_late hs h8
  have qin := inO_of hs h8
  obtain ⟨b0, e0⟩ := h.g0
  obtain ⟨b1, e1⟩ := h.g1
  have hn := h.1.2.2.2.1
  have ht := h.2.1
  obtain ⟨bF, ⟨-, bE⟩, -, bL⟩ := hf.2.2.2.2
  have tF := tld_cases bF
  have tE := tld_cases bE
  have tL := tld_cases bL
  unfold f_L_areForecasts
  by_cases n2 : aN (O.2.2 s) < 2
  · obtain ⟨v1, v2⟩ := few hf (by omega)
    rw [v1] at qE
    rw [v2] at qL
    have qE' : q_early (i3 (s : Int)) O = some (-1 : Int32) := qE
    have qL' : q_late (i3 (s : Int)) O = some (-1 : Int32) := qL
    rw [ck_pos b1, e1, if_neg (by rw [l3_2, i3_le (by omega) (by omega) (by omega) (by omega)]; omega), qE', Option.bind_some, if_pos rfl, qL', Option.bind_some, if_pos rfl]
  · have n2' : 2 ≤ aN (O.2.2 s) := by omega
    have hfi := full_is hf ht n2'
    have hday := p_day (O := O) h (k := aN (O.2.2 s) - 1) (by omega)
    have hdy := h.1.2.2.2.2.1 (aN (O.2.2 s) - 1) (by omega)
    have els : aDy (O.2.2 s) (aN (O.2.2 s) - 1) = lsD (O.2.2 s) := by unfold lsD; rw [lastp_m1 (by omega)]
    rw [els] at hday hdy
    have hdue : ∀ d, lsD (O.2.2 s) ≤ d → d ≤ 2500 → f_L_due (i3 (s : Int)) (i3 d) O L = some (i6 (vFc (O.2.2 s) d)) := fun d d1 d2 => p_due hs h8 h hf n2' ⟨d1, d2⟩
    have hfc : ∀ d, lsD (O.2.2 s) + 1 ≤ d → d ≤ lsD (O.2.2 s) + 1000 → q_forecast (i3 (s : Int)) (i3 d) O = some (i3 (vFc (O.2.2 s) d)) := fun d d1 d2 => qv_forecast hs h8 n2' (by omega) ⟨d1, d2⟩
    have hqx : ∀ d : Int, 0 ≤ d → d ≤ 100000 → ¬ (lsD (O.2.2 s) + 1 ≤ d ∧ d ≤ lsD (O.2.2 s) + 1000) → qx_forecast (i3 (s : Int)) (i3 d) O = some (-972) := by
      intro d d1 d2 d3
      unfold qx_forecast
      rw [if_pos qin.1, qin.2, if_neg (by omega), i3_toInt (by omega) (by omega), if_neg d3]
    have hsz := h.1.1
    have hrg := fun d => vFc_rng (O.2.2 s) d
    have few' : (aN (O.2.2 s) : Int) < 3 → vEar (O.2.2 s) = 1000000 ∧ vLat (O.2.2 s) = 1000000 := fun q => few hf (by omega)
    have bnd' : 3 ≤ (aN (O.2.2 s) : Int) → vEar (O.2.2 s) ≤ vFull (O.2.2 s) ∧ vFull (O.2.2 s) ≤ vLat (O.2.2 s) := fun q => bnds hf (by omega)
    have hend := p_areF_end (n := (aN (O.2.2 s) : Int)) (by omega) tF tE tL bF bE bL few' bnd'
    generalize hst : lsD (O.2.2 s) = st at *
    generalize hf9 : vFc (O.2.2 s) = f at *
    generalize hz9 : aSz (O.2.2 s) = sz at *
    generalize vFull (O.2.2 s) = F at *
    generalize tld F = F1 at *
    -- the end of the days that are looked at
    obtain ⟨en, hen1, hen2, hlt, hat⟩ : ∃ en : Int, (st + 1 ≤ en ∧ en ≤ st + 1000) ∧ (if 0 ≤ F1 then F1 else st + 1000) = en ∧ (∀ d, st + 1 ≤ d → d < en → f d < sz) ∧ ((F1 = en ∧ sz ≤ f en) ∨ (F1 = -1 ∧ f en < sz)) := by
      rcases hfi with ⟨a, a1, a2, a3, a4, a5⟩ | ⟨a1, a2⟩
      · have e9 : F1 = st + a := by omega
        refine ⟨st + a, by omega, by rw [if_pos (by omega), e9], fun d d1 d2 => ?_, Or.inl ⟨e9, a3⟩⟩
        have := a4 (d - st) (by omega) (by omega)
        rw [show st + (d - st) = d by omega] at this; exact this
      · have e9 : F1 = -1 := by omega
        refine ⟨st + 1000, by omega, by rw [if_neg (by omega)], fun d d1 d2 => ?_, Or.inr ⟨e9, a1 1000 (by omega) (by omega)⟩⟩
        have := a1 (d - st) (by omega) (by omega)
        rw [show st + (d - st) = d by omega] at this; exact this
    have en1 : i3 (aN (O.2.2 s) : Int) - (1 : Int32) = i3 ((aN (O.2.2 s) - 1 : Nat) : Int) := by
      rw [l3_1, i3_sub]; congr 1; omega
    have eF : (if 0 ≤ i3 F1 then some (i3 F1) else some (i3 st + ((1000 : Int32)))) = some (i3 en) := by
      rw [← hen2]
      by_cases c : 0 ≤ F1
      · rw [if_pos (by rw [l3_0, i3_le (by omega) (by omega) (by omega) (by omega)]; exact c), if_pos c]
      · rw [if_neg (by rw [l3_0, i3_le (by omega) (by omega) (by omega) (by omega)]; exact c), if_neg c, l3_1000, i3_add]
    have ex1 := hqx st (by omega) (by omega) (by omega)
    have ex2 := hqx (st + 1001) (by omega) (by omega) (by omega)
    have e1001 : i3 st + (1001 : Int32) = i3 (st + 1001) := by rw [l3_1001, i3_add]
    have e1000 : i3 st + (1000 : Int32) = i3 (st + 1000) := by rw [l3_1000, i3_add]
    have est1 : i3 st + (1 : Int32) = i3 (st + 1) := by rw [l3_1, i3_add]
    have e23 : (if i3 F1 < 0 then some ((1 : Int32)) else if i3 F1 ≤ i3 st then some ((0 : Int32)) else if (i3 (st + 1000)) < i3 F1 then some ((0 : Int32)) else (q_forecast (i3 (s : Int)) (i3 F1) O).bind (fun (r36 : Int32) => ck (inb (((8 : Int32)) * i3 (s : Int)) 24) (if r36 < (L.2.2.1 (((8 : Int32)) * i3 (s : Int)).toNatClampNeg) then some ((0 : Int32)) else some ((1 : Int32))))) = some 1 := by
      rcases hat with ⟨c1, c2⟩ | ⟨c1, c2⟩
      · subst c1
        have := hrg F1
        rw [if_neg (by rw [l3_0, i3_lt (by omega) (by omega) (by omega) (by omega)]; omega), if_neg (by rw [i3_le (by omega) (by omega) (by omega) (by omega)]; omega), if_neg (by rw [i3_lt (by omega) (by omega) (by omega) (by omega)]; omega), hfc F1 (by omega) (by omega), Option.bind_some, ck_pos b0, e0, if_neg (by rw [i3_lt (by omega) (by omega) (by omega) (by omega)]; omega)]
      · rw [if_pos (by rw [l3_0, i3_lt (by omega) (by omega) (by omega) (by omega)]; omega)]
    have loop : ∀ (fuel k : Nat), 6 < k + fuel → k ≤ 6 → f_L_areForecasts_159 (i3 (s : Int)) (i3 x) O L (i3 st) (i3 F1) (i3 en) fuel (1 : Int32) (i3 (k : Int)) = some 1 := by
      intro fuel
      induction fuel with
      | zero => intro k q1 q2; omega
      | succ fuel ih =>
        intro k q1 q2
        rw [f_L_areForecasts_159]
        by_cases c : k = 6
        · subst c
          rw [if_pos (by decide)]
        · have hm := Int.emod_nonneg (x + 173 * (k : Int)) (show en - st ≠ 0 by omega)
          have hm2 := Int.emod_lt_of_pos (x + 173 * (k : Int)) (show 0 < en - st by omega)
          have ed : (i3 st + ((1 : Int32))) + ((i3 x + (((173 : Int32)) * i3 (k : Int))) - (i3 x + (((173 : Int32)) * i3 (k : Int))) / (i3 en - i3 st) * (i3 en - i3 st)) = i3 (st + 1 + (x + 173 * (k : Int)) % (en - st)) := by
            rw [l3_173, i3_mul, i3_add, i3_sub, i3_rem (by omega) (by omega) (by omega) (by omega), est1, i3_add]
          rw [if_neg (by rw [l3_6, i3_le (by omega) (by omega) (by omega) (by omega)]; omega), if_neg (by decide), ck_pos (by rw [i3_sub, l3_0, i3_eq (by omega) (by omega) (by omega) (by omega)]; omega), nmv_eq, ed]
          generalize hdd : st + 1 + (x + 173 * (k : Int)) % (en - st) = d at *
          have hr := hrg d
          rw [hdue d (by omega) (by omega), Option.bind_some, hfc d (by omega) (by omega), Option.bind_some, i3_long (by omega) (by omega)]
          have e6 : (if (lg_cmp (i6 (f d)) (i6 (f d))) = 0 then if i3 d = i3 F1 then some ((1 : Int32)) else ck (inb (((8 : Int32)) * i3 (s : Int)) 24) (if 0 ≤ (lg_cmp (i6 (f d)) ((L.2.2.1 (((8 : Int32)) * i3 (s : Int)).toNatClampNeg).toInt64)) then some ((0 : Int32)) else some ((1 : Int32))) else some ((0 : Int32))) = some 1 := by
            rw [if_pos (by rw [leq0]), e0]
            by_cases c9 : d = F1
            · rw [if_pos (by rw [c9])]
            · have : f d < sz := by
                by_cases c8 : d < en
                · exact hlt d (by omega) c8
                · have c7 : d = en := by omega
                  rcases hat with ⟨c1, c2⟩ | ⟨c1, c2⟩
                  · omega
                  · rw [c7]; exact c2
              rw [if_neg (by rw [i3_eq (by omega) (by omega) (by omega) (by omega)]; exact c9), ck_pos b0, i3_long (by omega) (by omega), if_neg (by rw [lge0, i6_le (by omega) (by omega) (by omega) (by omega)]; omega)]
          rw [e6, Option.bind_some, nmv_eq, l3_1, i3_add]
          exact ih (k + 1) (by omega) (by omega)
    have lp : f_L_areForecasts_159 (i3 (s : Int)) (i3 x) O L (i3 st) (i3 F1) (i3 en) 3000 (1 : Int32) (0 : Int32) = some 1 := loop 3000 0 (by omega) (by omega)
    have e77 : (if ((1 : Int32)) = 0 then some ((0 : Int32)) else if i3 en = (i3 st + ((1 : Int32))) then some ((1 : Int32)) else (q_forecast (i3 (s : Int)) (i3 en - ((1 : Int32))) O).bind (fun (r83 : Int32) => ck (inb (((8 : Int32)) * i3 (s : Int)) 24) (if (L.2.2.1 (((8 : Int32)) * i3 (s : Int)).toNatClampNeg) ≤ r83 then some ((0 : Int32)) else some ((1 : Int32))))) = some 1 := by
      rw [if_neg (by decide), est1]
      by_cases c : en = st + 1
      · rw [if_pos (by rw [c])]
      · have := hlt (en - 1) (by omega) (by omega)
        have hr := hrg (en - 1)
        rw [if_neg (by rw [i3_eq (by omega) (by omega) (by omega) (by omega)]; exact c), show i3 en - (1 : Int32) = i3 (en - 1) from by rw [l3_1, i3_sub], hfc (en - 1) (by omega) (by omega), Option.bind_some, ck_pos b0, e0, if_neg (by rw [i3_le (by omega) (by omega) (by omega) (by omega)]; omega)]
    rw [ck_pos b1, e1, if_pos (by rw [l3_2, i3_le (by omega) (by omega) (by omega) (by omega)]; omega), ck_pos b1, en1, hday, Option.bind_some, qF, Option.bind_some, eF, Option.bind_some, ex1, Option.bind_some, if_pos rfl, e1001, ex2, Option.bind_some, if_pos rfl, e1000, e23, Option.bind_some, lp, Option.bind_some, e77, Option.bind_some, qE, Option.bind_some, qL, Option.bind_some, if_neg (by decide), ck_pos b1]
    exact hend
