/-! isPool answers 1 -/
theorem pfs_spec {f : Int → Int} {sz td : Int} : ∀ (k : Nat) (a : Int), (∃ j, a ≤ j ∧ j < a + k ∧ sz ≤ f (td + j) ∧ (∀ i, a ≤ i → i < j → f (td + i) < sz) ∧ pfs f sz td k a = td + j) ∨ ((∀ i, a ≤ i → i < a + k → f (td + i) < sz) ∧ pfs f sz td k a = -1) := by
  intro k
  induction k with
  | zero => intro a; exact Or.inr ⟨fun i h1 h2 => by omega, rfl⟩
  | succ k ih =>
    intro a
    have e : pfs f sz td (k + 1) a = if sz ≤ f (td + a) then td + a else pfs f sz td k (a + 1) := rfl
    rw [e]
    by_cases c : sz ≤ f (td + a)
    · rw [if_pos c]
      exact Or.inl ⟨a, by omega, by omega, c, fun i h1 h2 => by omega, rfl⟩
    · rw [if_neg c]
      rcases ih (a + 1) with ⟨j, j1, j2, j3, j4, j5⟩ | ⟨j1, j2⟩
      · refine Or.inl ⟨j, by omega, by omega, j3, fun i h1 h2 => ?_, j5⟩
        by_cases c2 : i = a
        · rw [c2]; omega
        · exact j4 i (by omega) h2
      · refine Or.inr ⟨fun i h1 h2 => ?_, j2⟩
        by_cases c2 : i = a
        · rw [c2]; omega
        · exact j1 i (by omega) (by omega)
theorem smc_ge {g : Nat → Int} {r : Nat} : ∀ n, r < n → (∀ k, k < n → 0 ≤ g k) → g r ≤ smc g n := by
  intro n
  induction n with
  | zero => intro h; omega
  | succ n ih =>
    intro h1 h2
    show g r ≤ smc g n + g n
    by_cases c : r = n
    · subst c
      have : 0 ≤ smc g r := by
        have : ∀ m, m ≤ r → 0 ≤ smc g m := by
          intro m
          induction m with
          | zero => intro _; exact Int.le_refl 0
          | succ m ihm =>
            intro q
            have a1 := ihm (by omega)
            have a2 := h2 m (by omega)
            show 0 ≤ smc g m + g m
            omega
        exact this r (Nat.le_refl _)
      omega
    · have := ih (by omega) (fun k hk => h2 k (by omega))
      have := h2 n (by omega)
      omega
theorem smc_one {g : Nat → Int} {r : Nat} : ∀ n, r < n → smc (fun t => if t = r then g t else 0) n = g r := by
  intro n
  induction n with
  | zero => intro h; omega
  | succ n ih =>
    intro h
    show smc (fun t => if t = r then g t else 0) n + (if n = r then g n else 0) = g r
    by_cases c : n = r
    · subst c
      rw [if_pos rfl, smc_zero n (fun k hk => if_neg (by omega))]
      omega
    · rw [if_neg c, ih (by omega)]; omega
theorem pb_z : ∀ p, p < 8 → ∀ k, k < 4 → decide (((i3 (p : Nat) >>> (i3 (k : Nat) &&& 31)) &&& (1 : Int32)) = 0) = !pb p k := by decide +kernel
theorem pb_any : ∀ p, p < 8 → 0 < p → pb p 0 = true ∨ pb p 1 = true ∨ pb p 2 = true := by decide +kernel
theorem pb_lt : ∀ n, n < 4 → ∀ p, p < 8 → p < 2 ^ n → ∀ r, r < 3 → pb p r = true → r < n := by decide +kernel
theorem pb_pow : ∀ r, r < 3 → ∀ p, p < 8 → i3 (p : Nat) = (1 : Int32) <<< (i3 (r : Nat) &&& 31) → ∀ t, t < 3 → (pb p t = true ↔ t = r) := by decide +kernel
theorem p_first {p : Nat} (hp : p < 8) (h0 : 0 < p) : ∀ (fuel k : Nat), 4 < k + fuel → k ≤ 2 → (∀ j, j < k → pb p j = false) → ∃ r : Nat, r < 3 ∧ pb p r = true ∧ f_L_isPool_155 (i3 (p : Int)) fuel (i3 (k : Int)) = some (i3 (r : Int)) := by
  intro fuel
  induction fuel with
  | zero => intro k h1 h2; omega
  | succ fuel ih =>
    intro k h1 h2 h3
    have hz := pb_z p hp k (by omega)
    rw [f_L_isPool_155]
    cases hb : pb p k
    · rw [hb] at hz
      rw [if_pos (of_decide_eq_true hz), nmv_eq, l3_1, i3_add]
      by_cases c : k = 2
      · subst c
        have a0 := h3 0 (by omega)
        have a1 := h3 1 (by omega)
        rcases pb_any p hp h0 with q | q | q
        · rw [a0] at q; cases q
        · rw [a1] at q; cases q
        · rw [hb] at q; cases q
      · exact ih (k + 1) (by omega) (by omega) (fun j hj => by
          by_cases c2 : j = k
          · rw [c2]; exact hb
          · exact h3 j (by omega))
    · rw [hb] at hz
      rw [if_neg (of_decide_eq_false hz)]
      exact ⟨k, by omega, hb, rfl⟩
theorem okb_mono {p : Nat} {as : Nat → AB} {n : Nat} (h : okb p as n = true) : ∀ j, j ≤ n → okb p as j = true := by
  induction n with
  | zero => intro j hj; rw [show j = 0 by omega]; exact h
  | succ n ih =>
    intro j hj
    by_cases c : j = n + 1
    · rw [c]; exact h
    · refine ih ?_ j (by omega)
      by_cases c2 : pb p n = true
      · rw [okb_in c2] at h
        exact (Bool.and_eq_true_iff.mp h).1
      · rw [okb_out c2] at h; exact h
theorem p_isPool {O : Ob} {L : LW} {p : Nat} (hn : O.2.1 ≤ 3) (hm : L.2.2.2 0 = i3 (O.2.1 : Int)) (hp0 : 0 < p) (hp : p < 2 ^ O.2.1) (ht : 0 ≤ O.1 ∧ O.1 ≤ 400) (hst : ∀ s, s < O.2.1 → Sto O.1 (O.2.2 s) L s ∧ Fct O.1 (O.2.2 s)) : f_L_isPool (i3 (p : Int)) O L = some 1 := by
  have h8 : O.2.1 ≤ 8 := by omega
  have hp8 : p < 8 := by
    have : 2 ^ O.2.1 ≤ 2 ^ 3 := Nat.pow_le_pow_right (by decide) hn
    omega
  have qP : q_poolFull (i3 (p : Int)) O = some (i3 (vPool O p)) := by
    unfold q_poolFull
    rw [i3_toInt (by omega) (by omega), ck_pos ⟨by omega, by omega⟩, Int.toNat_natCast]
  have hszr := szP_rng (p := p) (as := O.2.2) (n := O.2.1) h8 (fun t q => (hst t q).2.1)
  have hfor := fun d => foP_rng (p := p) (as := O.2.2) (xs := vXs O) (us := vUU O) (n := O.2.1) (d := d) h8
  have hsp := pfs_spec (f := foP p O.2.2 (vXs O) (vUU O) O.2.1) (sz := szP p O.2.2 O.2.1) (td := O.1) 1000 1
  -- what is told
  have hF : (okb p O.2.2 O.2.1 = true ∧ ((∃ j, 1 ≤ j ∧ j ≤ 1000 ∧ szP p O.2.2 O.2.1 ≤ foP p O.2.2 (vXs O) (vUU O) O.2.1 (O.1 + j) ∧ (∀ i, 1 ≤ i → i < j → foP p O.2.2 (vXs O) (vUU O) O.2.1 (O.1 + i) < szP p O.2.2 O.2.1) ∧ vPool O p = O.1 + j) ∨ ((∀ i, 1 ≤ i → i ≤ 1000 → foP p O.2.2 (vXs O) (vUU O) O.2.1 (O.1 + i) < szP p O.2.2 O.2.1) ∧ vPool O p = -1))) ∨ (okb p O.2.2 O.2.1 = false ∧ vPool O p = -1) := by
    unfold vPool
    cases ho : okb p O.2.2 O.2.1
    · exact Or.inr ⟨rfl, by rw [if_neg (by decide)]⟩
    · refine Or.inl ⟨rfl, ?_⟩
      rw [if_pos rfl]
      rcases hsp with ⟨j, j1, j2, j3, j4, j5⟩ | ⟨j1, j2⟩
      · exact Or.inl ⟨j, j1, by omega, j3, j4, j5⟩
      · exact Or.inr ⟨fun i a b => j1 i a (by omega), j2⟩
  obtain ⟨r, hr3, hpr, efst⟩ := p_first hp8 hp0 3000 0 (by omega) (by omega) (fun j hj => by omega)
  have hrn : r < O.2.1 := pb_lt O.2.1 (by omega) p hp8 hp r hr3 hpr
  have hsz0 : 0 < szP p O.2.2 O.2.1 := by
    have := smc_ge (g := fun t => if pb p t = true then aSz (O.2.2 t) else 0) (r := r) O.2.1 hrn (fun k hk => by
      have := (hst k hk).2.1.1
      show 0 ≤ if pb p k = true then aSz (O.2.2 k) else 0
      split <;> omega)
    have h1 := (hst r hrn).2.1.1
    rw [if_pos hpr] at this
    show 0 < smc (fun t => if pb p t = true then aSz (O.2.2 t) else 0) O.2.1
    omega
  -- one store alone
  have hone : i3 (p : Int) = (1 : Int32) <<< (i3 (r : Int) &&& 31) → O.1 < tld (vFull (O.2.2 r)) → okb p O.2.2 O.2.1 = true → vPool O p = tld (vFull (O.2.2 r)) := by
    intro hpow hful hok
    have hb := pb_pow r hr3 p hp8 hpow
    have n2 := okb_at hok hrn hpr
    have hf := (hst r hrn).2
    have tF := tld_cases hf.2.2.2.2.1
    have hl := (hst r hrn).1.1.2.2.2.2.1 (aN (O.2.2 r) - 1) (by omega)
    have els : aDy (O.2.2 r) (aN (O.2.2 r) - 1) = lsD (O.2.2 r) := by unfold lsD; rw [lastp_m1 (by omega)]
    rw [els] at hl
    have e1 : ∀ d, foP p O.2.2 (vXs O) (vUU O) O.2.1 d = vFc (O.2.2 r) d := by
      intro d
      have := smc_one (g := fun t => vFc (O.2.2 t) d) (r := r) O.2.1 hrn
      rw [← this]
      refine smc_ext (fun k hk => ?_)
      show (if pb p k = true then vFc (O.2.2 k) d else 0) = if k = r then vFc (O.2.2 k) d else 0
      by_cases c : k = r
      · rw [if_pos ((hb k (by omega)).mpr c), if_pos c]
      · rw [if_neg (fun q => c ((hb k (by omega)).mp q)), if_neg c]
    have e2 : szP p O.2.2 O.2.1 = aSz (O.2.2 r) := by
      have := smc_one (g := fun t => aSz (O.2.2 t)) (r := r) O.2.1 hrn
      rw [← this]
      refine smc_ext (fun k hk => ?_)
      show (if pb p k = true then aSz (O.2.2 k) else 0) = if k = r then aSz (O.2.2 k) else 0
      by_cases c : k = r
      · rw [if_pos ((hb k (by omega)).mpr c), if_pos c]
      · rw [if_neg (fun q => c ((hb k (by omega)).mp q)), if_neg c]
    rcases full_is hf ht n2 with ⟨a, a1, a2, a3, a4, a5⟩ | ⟨-, a5⟩
    · have e9 : tld (vFull (O.2.2 r)) = lsD (O.2.2 r) + a := by omega
      rw [e9] at hful ⊢
      rcases hF with ⟨-, ⟨j, j1, j2, j3, j4, j5⟩ | ⟨j1, j2⟩⟩ | ⟨j1, -⟩
      · rw [j5]
        rw [e1, e2] at j3
        rcases Int.lt_trichotomy (O.1 + j) (lsD (O.2.2 r) + a) with q | q | q
        · have := a4 (O.1 + j - lsD (O.2.2 r)) (by omega) (by omega)
          rw [show lsD (O.2.2 r) + (O.1 + j - lsD (O.2.2 r)) = O.1 + j by omega] at this
          omega
        · exact q
        · have := j4 (lsD (O.2.2 r) + a - O.1) (by omega) (by omega)
          rw [e1, e2, show O.1 + (lsD (O.2.2 r) + a - O.1) = lsD (O.2.2 r) + a by omega] at this
          omega
      · have := j1 (lsD (O.2.2 r) + a - O.1) (by omega) (by omega)
        rw [e1, e2, show O.1 + (lsD (O.2.2 r) + a - O.1) = lsD (O.2.2 r) + a by omega] at this
        omega
      · rw [hok] at j1; cases j1
    · omega
  have hF2 : vPool O p = -1 ∨ (O.1 < vPool O p ∧ vPool O p ≤ O.1 + 1000) := by
    rcases hF with ⟨-, ⟨j, j1, j2, j3, j4, j5⟩ | ⟨j1, j2⟩⟩ | ⟨j1, j2⟩
    · exact Or.inr (by omega)
    · exact Or.inl j2
    · exact Or.inl j2
  have hokF : okb p O.2.2 O.2.1 = true ∨ vPool O p = -1 := by
    rcases hF with ⟨a, -⟩ | ⟨-, a⟩
    · exact Or.inl a
    · exact Or.inr a
  have qFr := qv_full hrn h8
  generalize hF9 : vPool O p = F at *
  have et : q_today O = i3 O.1 := rfl
  have sumr := fun j d => foP_rng (p := p) (as := O.2.2) (xs := vXs O) (us := vUU O) (n := j) (d := d)
  have loop : ∀ (fuel j : Nat), O.2.1 < j + fuel → j ≤ O.2.1 → f_L_isPool_23 (i3 (p : Int)) O L (i3 F) fuel (i3 (if okb p O.2.2 j = true then 1 else 0)) (i6 (szP p O.2.2 j)) (i6 (if 0 < F then foP p O.2.2 (vXs O) (vUU O) j F else 0)) (i6 (if O.1 + 1 < F then foP p O.2.2 (vXs O) (vUU O) j (F - 1) else 0)) (i3 (j : Int)) = some (i3 (if okb p O.2.2 O.2.1 = true then 1 else 0), i6 (szP p O.2.2 O.2.1), i6 (if 0 < F then foP p O.2.2 (vXs O) (vUU O) O.2.1 F else 0), i6 (if O.1 + 1 < F then foP p O.2.2 (vXs O) (vUU O) O.2.1 (F - 1) else 0)) := by
    intro fuel
    induction fuel with
    | zero => intro j h1 h2; omega
    | succ fuel ih =>
      intro j h1 h2
      rw [f_L_isPool_23, ck_pos z1, z0, hm]
      by_cases c : j = O.2.1
      · subst c
        rw [if_pos (Int32.le_refl _)]
      · have hj : j < O.2.1 := by omega
        rw [if_neg (by rw [i3_le (by omega) (by omega) (by omega) (by omega)]; omega)]
        obtain ⟨hS, hf⟩ := hst j hj
        obtain ⟨b0, e0⟩ := hS.g0
        obtain ⟨b1, e1⟩ := hS.g1
        have hsz := hS.1.1
        have hN := hS.1.2.2.2.1
        have en : i3 (j : Int) + (1 : Int32) = i3 ((j + 1 : Nat) : Int) := by rw [l3_1, i3_add]; rfl
        by_cases hb : pb p j = true
        · rw [if_pos ((pb_m (by omega) (by omega)).mpr hb)]
          have e34 : (if i3 (if okb p O.2.2 j = true then 1 else 0) = 0 then some ((0 : Int32)) else ck (inb ((((8 : Int32)) * i3 (j : Int)) + ((1 : Int32))) 24) (if (L.2.2.1 ((((8 : Int32)) * i3 (j : Int)) + ((1 : Int32))).toNatClampNeg) ≤ ((1 : Int32)) then some ((0 : Int32)) else some ((1 : Int32)))) = some (i3 (if okb p O.2.2 (j + 1) = true then 1 else 0)) := by
            rw [okb_in hb]
            cases okb p O.2.2 j
            · rw [if_pos (by decide)]; rfl
            · rw [if_neg (by decide), ck_pos b1, e1]
              by_cases c9 : 2 ≤ aN (O.2.2 j)
              · rw [if_neg (by rw [l3_1, i3_le (by omega) (by omega) (by omega) (by omega)]; omega), decide_eq_true c9]; rfl
              · rw [if_pos (by rw [l3_1, i3_le (by omega) (by omega) (by omega) (by omega)]; omega), decide_eq_false c9]; rfl
          have hdue : ∀ d, lsD (O.2.2 j) ≤ d → d ≤ 2500 → 2 ≤ aN (O.2.2 j) → f_L_due (i3 (j : Int)) (i3 d) O L = some (i6 (vFc (O.2.2 j) d)) := fun d d1 d2 n2 => p_due hj h8 hS hf n2 ⟨d1, d2⟩
          have hls : 2 ≤ aN (O.2.2 j) → lsD (O.2.2 j) ≤ O.1 := fun n2 => by
            have := hS.1.2.2.2.2.1 (aN (O.2.2 j) - 1) (by omega)
            rw [show aDy (O.2.2 j) (aN (O.2.2 j) - 1) = lsD (O.2.2 j) from by unfold lsD; rw [lastp_m1 (by omega)]] at this
            omega
          have hok1 : 0 < F → okb p O.2.2 (j + 1) = true ∧ 2 ≤ aN (O.2.2 j) := fun q => by
            rcases hokF with a | a
            · exact ⟨okb_mono a _ (by omega), okb_at a hj hb⟩
            · omega
          have e44 : (if i3 (if okb p O.2.2 (j + 1) = true then 1 else 0) = 0 then some ((0 : Int64)) else if i3 F ≤ 0 then some ((0 : Int64)) else (f_L_due (i3 (j : Int)) (i3 F) O L).bind (fun (r53 : Int64) => some r53)) = some (i6 (if 0 < F then vFc (O.2.2 j) F else 0)) := by
            by_cases c9 : 0 < F
            · obtain ⟨o1, o2⟩ := hok1 c9
              rw [o1, if_pos rfl, if_neg (by decide), if_neg (by rw [l3_0, i3_le (by omega) (by omega) (by omega) (by omega)]; omega), hdue F (by have := hls o2; omega) (by omega) o2, Option.bind_some, if_pos c9]
            · rw [if_neg c9]
              cases okb p O.2.2 (j + 1)
              · rw [if_pos (by decide), l6_0]
              · rw [if_neg (by decide), if_pos (by rw [l3_0, i3_le (by omega) (by omega) (by omega) (by omega)]; omega), l6_0]
          have etd : q_today O + (1 : Int32) = i3 (O.1 + 1) := by rw [et, l3_1, i3_add]
          have e56 : (if i3 (if okb p O.2.2 (j + 1) = true then 1 else 0) = 0 then some ((0 : Int64)) else if i3 F ≤ ((q_today O) + ((1 : Int32))) then some ((0 : Int64)) else (f_L_due (i3 (j : Int)) (i3 F - ((1 : Int32))) O L).bind (fun (r65 : Int64) => some r65)) = some (i6 (if O.1 + 1 < F then vFc (O.2.2 j) (F - 1) else 0)) := by
            rw [etd]
            by_cases c9 : O.1 + 1 < F
            · obtain ⟨o1, o2⟩ := hok1 (by omega)
              rw [o1, if_pos rfl, if_neg (by decide), if_neg (by rw [i3_le (by omega) (by omega) (by omega) (by omega)]; omega), show i3 F - (1 : Int32) = i3 (F - 1) from by rw [l3_1, i3_sub], hdue (F - 1) (by have := hls o2; omega) (by omega) o2, Option.bind_some, if_pos c9]
            · rw [if_neg c9]
              cases okb p O.2.2 (j + 1)
              · rw [if_pos (by decide), l6_0]
              · rw [if_neg (by decide), if_pos (by rw [i3_le (by omega) (by omega) (by omega) (by omega)]; omega), l6_0]
          rw [e34, Option.bind_some, ck_pos b0, e0, nmv_eq, e44, Option.bind_some, nmv_eq, e56, Option.bind_some, nmv_eq, Option.bind_some]
          dsimp only
          rw [nmv_eq, en, i3_long (by omega) (by omega), i6_add, i6_add, i6_add]
          have := ih (j + 1) (by omega) (by omega)
          rw [← this]
          have f1 : szP p O.2.2 (j + 1) = szP p O.2.2 j + aSz (O.2.2 j) := by
            show szP p O.2.2 j + (if pb p j = true then aSz (O.2.2 j) else 0) = _
            rw [if_pos hb]
          have f2 : ∀ d, foP p O.2.2 (vXs O) (vUU O) (j + 1) d = foP p O.2.2 (vXs O) (vUU O) j d + vFc (O.2.2 j) d := fun d => by
            show foP p O.2.2 (vXs O) (vUU O) j d + (if pb p j = true then vFc (O.2.2 j) d else 0) = _
            rw [if_pos hb]
          rw [f1, f2, f2]
          congr 2
          · split <;> omega
          · split <;> omega
        · rw [if_neg (fun q => hb ((pb_m (by omega) (by omega)).mp q)), Option.bind_some]
          dsimp only
          rw [nmv_eq, en]
          have := ih (j + 1) (by omega) (by omega)
          rw [← this, okb_out hb]
          have f1 : szP p O.2.2 (j + 1) = szP p O.2.2 j := by
            show szP p O.2.2 j + (if pb p j = true then aSz (O.2.2 j) else 0) = _
            rw [if_neg hb]; omega
          have f2 : ∀ d, foP p O.2.2 (vXs O) (vUU O) (j + 1) d = foP p O.2.2 (vXs O) (vUU O) j d := fun d => by
            show foP p O.2.2 (vXs O) (vUU O) j d + (if pb p j = true then vFc (O.2.2 j) d else 0) = _
            rw [if_neg hb]; omega
          rw [f1, f2, f2]
  have lp := loop 3000 0 (by omega) (Nat.zero_le _)
  have z6 : ∀ c : Prop, [Decidable c] → (if c then (0 : Int) else 0) = 0 := fun c _ => by split <;> rfl
  have lp' : f_L_isPool_23 (i3 (p : Int)) O L (i3 F) 3000 (1 : Int32) (0 : Int64) (0 : Int64) (0 : Int64) (0 : Int32) = some (i3 (if okb p O.2.2 O.2.1 = true then 1 else 0), i6 (szP p O.2.2 O.2.1), i6 (if 0 < F then foP p O.2.2 (vXs O) (vUU O) O.2.1 F else 0), i6 (if O.1 + 1 < F then foP p O.2.2 (vXs O) (vUU O) O.2.1 (F - 1) else 0)) := by
    have a1 : ∀ d, foP p O.2.2 (vXs O) (vUU O) 0 d = 0 := fun d => rfl
    have a2 : szP p O.2.2 0 = 0 := rfl
    rw [a1, a1, z6, z6, a2] at lp
    exact lp
  have efst' : f_L_isPool_155 (i3 (p : Int)) 3000 (0 : Int32) = some (i3 (r : Int)) := efst
  generalize hF1 : tld (vFull (O.2.2 r)) = F1 at *
  have hF1r : -1 ≤ F1 ∧ F1 ≤ 1000000 := by
    have := tld_cases (hst r hrn).2.2.2.2.2.1
    have := (hst r hrn).2.2.2.2.2.1
    omega
  obtain ⟨iso, hiso, hiso2⟩ : ∃ iso : Int32, ((if i3 (p : Int) = (((1 : Int32)) <<< (i3 (r : Int) &&& 31)) then (q_full (i3 (r : Int)) O).bind (fun (r88 : Int32) => if r88 ≤ (q_today O) then some ((0 : Int32)) else some ((1 : Int32))) else some ((0 : Int32))) = some iso) ∧ (¬ iso = 0 → i3 (p : Int) = (1 : Int32) <<< (i3 (r : Int) &&& 31) ∧ O.1 < F1) := by
    by_cases c : i3 (p : Int) = (1 : Int32) <<< (i3 (r : Int) &&& 31)
    · rw [if_pos c, qFr, Option.bind_some, et]
      by_cases c2 : F1 ≤ O.1
      · exact ⟨0, by rw [if_pos (by rw [i3_le (by omega) (by omega) (by omega) (by omega)]; exact c2)], fun q => absurd rfl q⟩
      · exact ⟨1, by rw [if_neg (by rw [i3_le (by omega) (by omega) (by omega) (by omega)]; exact c2)], fun _ => ⟨c, by omega⟩⟩
    · exact ⟨0, by rw [if_neg c], fun q => absurd rfl q⟩
  have etk : q_today O + (1000 : Int32) = i3 (O.1 + 1000) := by rw [et, l3_1000, i3_add]
  unfold f_L_isPool
  rw [qP, Option.bind_some, lp', Option.bind_some]
  dsimp only
  rw [efst', Option.bind_some, hiso, Option.bind_some]
  cases ho : okb p O.2.2 O.2.1
  · rw [if_pos (by rfl)]
    have : F = -1 := by
      rcases hokF with a | a
      · rw [ho] at a; cases a
      · exact a
    rw [if_pos (by rw [this]; rfl)]
  · rw [if_neg (by decide)]
    rw [ho] at hF hone
    rcases hF with ⟨-, ⟨j, j1, j2, j3, j4, j5⟩ | ⟨j1, j2⟩⟩ | ⟨j1, -⟩
    · have jr := hfor (O.1 + j)
      have jr2 := hfor (O.1 + (j - 1))
      have last : (if iso = 0 then some ((1 : Int32)) else (q_full (i3 (r : Int)) O).bind (fun (r107 : Int32) => if i3 F = r107 then some ((1 : Int32)) else some ((0 : Int32)))) = some 1 := by
        by_cases c : iso = 0
        · rw [if_pos c]
        · obtain ⟨w1, w2⟩ := hiso2 c
          have := hone w1 w2 rfl
          rw [if_neg c, qFr, Option.bind_some, if_pos (by rw [this])]
      rw [if_neg (by rw [l3_0, i3_lt (by omega) (by omega) (by omega) (by omega)]; omega), et, if_neg (by rw [i3_le (by omega) (by omega) (by omega) (by omega)]; omega), ← et, etk, if_neg (by rw [i3_lt (by omega) (by omega) (by omega) (by omega)]; omega), if_neg (by rw [llt0, if_pos (by omega), j5, i6_lt (by omega) (by omega) (by omega) (by omega)]; omega)]
      have e2 : ¬ 0 ≤ lg_cmp (i6 (if O.1 + 1 < F then foP p O.2.2 (vXs O) (vUU O) O.2.1 (F - 1) else 0)) (i6 (szP p O.2.2 O.2.1)) := by
        rw [lge0]
        by_cases c : O.1 + 1 < F
        · have := j4 (j - 1) (by omega) (by omega)
          rw [if_pos c, j5, show O.1 + j - 1 = O.1 + (j - 1) by omega, i6_le (by omega) (by omega) (by omega) (by omega)]
          omega
        · rw [if_neg c, i6_le (by omega) (by omega) (by omega) (by omega)]
          omega
      rw [if_neg e2]
      exact last
    · rw [if_pos (by rw [l3_0, i3_lt (by omega) (by omega) (by omega) (by omega)]; omega)]
      by_cases c : iso = 0
      · rw [if_pos c]
      · obtain ⟨w1, w2⟩ := hiso2 c
        have := hone w1 w2 rfl
        omega
    · cases j1
