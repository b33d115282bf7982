/-! The reference: a pool -/
def Kept (A : AB) (M : St) (s : Nat) : Prop := ∃ (x : Int × Int) (u : Int), Mid (sl A (-1)) x ∧ IsUs A u ∧ M.2 17 s = i3 (redN x) ∧ M.2 18 s = i3 (redD x) ∧ M.2 19 s = i3 (aDy A (lastp (aN A) (-1))) ∧ M.2 20 s = i3 (aUs A (lastp (aN A) (-1))) ∧ M.2 21 s = i3 u
def FrP (M M2 : St) : Prop := (∀ k, k ≠ 2 → k ≠ 3 → k ≠ 4 → k ≠ 5 → k ≠ 6 → M2.1 k = M.1 k) ∧ ∀ j, j ≤ 13 → M2.2 j = M.2 j
theorem FrP.rf (M : St) : FrP M M := ⟨fun _ _ _ _ _ _ => rfl, fun _ _ => rfl⟩
theorem FrP.tr {M M2 M3 : St} (h : FrP M M2) (g : FrP M2 M3) : FrP M M3 := ⟨fun k a b c d e => (g.1 k a b c d e).trans (h.1 k a b c d e), fun j a => (g.2 j a).trans (h.2 j a)⟩
theorem FrM.p {M M2 : St} (h : FrM M M2) : FrP M M2 := ⟨h.1, fun j a => h.2 j (by omega) (by omega) (by omega)⟩
theorem FrP.a (M : St) (j i : Nat) (v : Int32) (h : 14 ≤ j) : FrP M (sA M j i v) := ⟨fun _ _ _ _ _ _ => rfl, fun k a => by rw [sA_ne _ _ _ _ _ (by omega)]⟩
theorem Mo.fp {A : AB} {M M2 : St} {s : Nat} (h : Mo A M s) (f : FrP M M2) : Mo A M2 s := h.fr (fun j hj => f.2 j (by omega))
theorem m_keeps {A : AB} {M : St} {td : Int} {s : Nat} (hv : Val td A) (ht : td ≤ 2000) (hs : s < 8) (h : Mo A M s) (hx : HasMid A) : ∃ M2, f_X8_keeps (i3 (s : Int)) M = some M2 ∧ FrP M M2 ∧ (∀ j, 17 ≤ j → ∀ t, t ≠ s → M2.2 j t = M.2 j t) ∧ (2 ≤ aN A → Kept A M2 s) := by
  have es : (i3 (s : Int)).toNatClampNeg = s := i3_nn (by omega)
  have i0 : inb (i3 (s : Int)) 8 := inbN (by omega) (by omega)
  have hf : ∃ (r : Int32) (M1 : St), f_X8_findsSlope (i3 (s : Int)) (i3 (-1)) M = some (r, M1) ∧ FrM M M1 ∧ (2 ≤ aN A → ∃ x, Mid (sl A (-1)) x ∧ M1.1 3 = i3 (redN x) ∧ M1.1 4 = i3 (redD x) ∧ M1.1 5 = i3 (aDy A (lastp (aN A) (-1))) ∧ M1.1 6 = i3 (aUs A (lastp (aN A) (-1)))) := by
    by_cases c : 2 ≤ aN A
    · have hok : oOk (aN A) (-1) := Or.inl ⟨rfl, c⟩
      obtain ⟨x, M1, q1, q2, q3⟩ := m_finds hv ht hs h hok (hx.1 _ hok)
      exact ⟨_, M1, q1, q2, fun _ => ⟨x, q3⟩⟩
    · obtain ⟨M1, q1, q2⟩ := m_finds0 hv ht hs h (show aN A < 2 by omega)
      exact ⟨_, M1, q1, q2, fun q => absurd q c⟩
  obtain ⟨r, M1, q1, q2, q3⟩ := hf
  have f1 : FrP M (sA (sA (sA (sA M1 17 s (M1.1 3)) 18 s (M1.1 4)) 19 s (M1.1 5)) 20 s (M1.1 6)) := (((q2.p.tr (FrP.a _ 17 _ _ (by decide))).tr (FrP.a _ 18 _ _ (by decide))).tr (FrP.a _ 19 _ _ (by decide))).tr (FrP.a _ 20 _ _ (by decide))
  obtain ⟨w, w1, w2⟩ := m_usual hv hs (h.fp f1) hx.2
  have w1' : f_X8_usualOf (i3 (s : Int)) (sA (sA (sA (sA M1 17 (i3 (s : Int)).toNatClampNeg (M1.1 3)) 18 (i3 (s : Int)).toNatClampNeg (M1.1 4)) 19 (i3 (s : Int)).toNatClampNeg (M1.1 5)) 20 (i3 (s : Int)).toNatClampNeg (M1.1 6)) = some (i3 w) := by rw [es]; exact w1
  refine ⟨sA (sA (sA (sA (sA M1 17 s (M1.1 3)) 18 s (M1.1 4)) 19 s (M1.1 5)) 20 s (M1.1 6)) 21 s (i3 w), ?_, f1.tr (FrP.a _ 21 _ _ (by decide)), fun j hj t htt => ?_, fun c => ?_⟩
  · unfold f_X8_keeps
    rw [l3_m1, q1, Option.bind_some]
    dsimp only
    rw [ck_pos i0, nmv_eq, ck_pos i0, nmv_eq, ck_pos i0, nmv_eq, ck_pos i0, nmv_eq]
    simp only [sA_1]
    rw [w1', Option.bind_some, ck_pos i0, nmv_eq, es]
  · have key : ∀ (M' : St) (j2 : Nat) (v : Int32), (sA M' j2 s v).2 j t = M'.2 j t := by
      intro M' j2 v
      by_cases c : j = j2
      · subst c; rw [sA_same, if_neg htt]
      · rw [sA_ne _ _ _ _ _ c]
    rw [key, key, key, key, key, q2.2 j (by omega) (by omega) (by omega)]
  · obtain ⟨x, x1, x2, x3, x4, x5⟩ := q3 c
    refine ⟨x, w, x1, w2, ?_, ?_, ?_, ?_, ?_⟩
    · rw [sA_ne _ _ _ _ _ (by decide), sA_ne _ _ _ _ _ (by decide), sA_ne _ _ _ _ _ (by decide), sA_ne _ _ _ _ _ (by decide), sA_same, if_pos rfl, x2]
    · rw [sA_ne _ _ _ _ _ (by decide), sA_ne _ _ _ _ _ (by decide), sA_ne _ _ _ _ _ (by decide), sA_same, if_pos rfl, x3]
    · rw [sA_ne _ _ _ _ _ (by decide), sA_ne _ _ _ _ _ (by decide), sA_same, if_pos rfl, x4]
    · rw [sA_ne _ _ _ _ _ (by decide), sA_same, if_pos rfl, x5]
    · rw [sA_same, if_pos rfl]
theorem m_pool_in {p : Nat} (hp : p < 256) {as : Nat → AB} {td : Int} {ns : Nat} (hns : ns ≤ 8) (ht : td ≤ 2000) (hv : ∀ t, t < ns → Val td (as t)) (hx : ∀ t, t < ns → HasMid (as t)) : ∀ (fuel i : Nat) (M : St), ns < i + fuel → i ≤ ns → M.1 1 = i3 (ns : Int) → (∀ t, t < ns → Mo (as t) M t) → (∀ t, t < i → 2 ≤ aN (as t) → Kept (as t) M t) → ∃ M2, f_X8_poolFull_35 (i3 (p : Int)) fuel (i6 (szP p as i)) (i3 (if okb p as i = true then 1 else 0)) (i3 (i : Int)) M = some (i6 (szP p as ns), i3 (if okb p as ns = true then 1 else 0), M2) ∧ FrP M M2 ∧ ∀ t, t < ns → 2 ≤ aN (as t) → Kept (as t) M2 t := by
  intro fuel
  induction fuel with
  | zero => intro i M h1 h2; omega
  | succ fuel ih =>
    intro i M h1 h2 h3 h4 h5
    unfold f_X8_poolFull_35
    rw [h3]
    by_cases c : ns ≤ i
    · have : i = ns := by omega
      subst this
      rw [if_pos (by rw [i3_le (by omega) (by omega) (by omega) (by omega)]; omega)]
      exact ⟨M, rfl, FrP.rf M, h5⟩
    · have hi : i < ns := by omega
      have i0 : inb (i3 (i : Int)) 8 := inbN (by omega) (by omega)
      have ei : (i3 (i : Int)).toNatClampNeg = i := i3_nn (by omega)
      have hn := (hv i hi).2.2.2.1
      have hz := (hv i hi).1
      have hstep : i3 (i : Int) + 1 = i3 ((i + 1 : Nat) : Int) := by rw [l3_1, i3_add]; rfl
      have es : szP p as (i + 1) = szP p as i + (if pb p i = true then aSz (as i) else 0) := rfl
      have eb : (if ((i3 (p : Int) >>> (i3 (i : Int) &&& 31)) &&& ((1 : Int32))) = ((1 : Int32)) then some ((1 : Int32)) else some ((0 : Int32))) = some (i3 (if pb p i = true then 1 else 0)) := by
        by_cases hb : pb p i = true
        · rw [if_pos ((pb_m hp (by omega)).mpr hb), if_pos hb, l3_1]
        · rw [if_neg (fun q => hb ((pb_m hp (by omega)).mp q)), if_neg hb, l3_0]
      have e1 : M.2 1 (i3 (i : Int)).toNatClampNeg = i3 (aN (as i) : Int) := by rw [ei]; exact (h4 i hi).1.2.1
      have e0 : M.2 0 (i3 (i : Int)).toNatClampNeg = i3 (aSz (as i)) := by rw [ei]; exact (h4 i hi).1.1
      have ef : (if i3 (if okb p as i = true then 1 else 0) = (0 : Int32) then some ((0 : Int32)) else if i3 (if pb p i = true then 1 else 0) = (0 : Int32) then some ((1 : Int32)) else ck (inb (i3 (i : Int)) 8) (if (M.2 1 (i3 (i : Int)).toNatClampNeg) ≤ ((1 : Int32)) then some ((0 : Int32)) else some ((1 : Int32)))) = some (i3 (if okb p as (i + 1) = true then 1 else 0)) := by
        cases ho : okb p as i
        · rw [if_pos (show i3 (if false = true then 1 else 0) = (0 : Int32) from l3_0.symm)]
          have : okb p as (i + 1) = false := by unfold okb; rw [ho, Bool.false_and]
          rw [this, if_neg (by decide), l3_0]
        · rw [if_pos rfl, if_neg (by decide)]
          by_cases hb : pb p i = true
          · rw [if_pos hb, if_neg (by decide), ck_pos i0, e1, okb_in hb, ho, Bool.true_and]
            by_cases c2 : 2 ≤ aN (as i)
            · rw [if_neg (by rw [l3_1, i3_le (by omega) (by omega) (by omega) (by omega)]; omega), decide_eq_true c2, if_pos rfl, l3_1]
            · rw [if_pos (by rw [l3_1, i3_le (by omega) (by omega) (by omega) (by omega)]; omega), decide_eq_false c2, if_neg (by decide), l3_0]
          · rw [if_neg hb, if_pos l3_0.symm, okb_out hb, ho, if_pos rfl, l3_1]
      have ez : (if i3 (if pb p i = true then 1 else 0) = (0 : Int32) then some ((0 : Int64)) else ck (inb (i3 (i : Int)) 8) (some ((M.2 0 (i3 (i : Int)).toNatClampNeg).toInt64))) = some (i6 (if pb p i = true then aSz (as i) else 0)) := by
        by_cases hb : pb p i = true
        · rw [if_pos hb, if_pos hb, if_neg (by decide), ck_pos i0, e0, i3_long (by omega) (by omega)]
        · rw [if_neg hb, if_neg hb, if_pos l3_0.symm, l6_0]
      obtain ⟨M1, k1, k2, k3, k4⟩ := m_keeps (hv i hi) ht (show i < 8 by omega) (h4 i hi) (hx i hi)
      rw [if_neg (by rw [i3_le (by omega) (by omega) (by omega) (by omega)]; omega), eb, Option.bind_some, ef, Option.bind_some, ez, Option.bind_some, i6_add, ← es, nmv_eq, k1, Option.bind_some, nmv_eq, hstep]
      obtain ⟨M2, p1, p2, p3⟩ := ih (i + 1) M1 (by omega) (by omega) ((k2.1 1 (by decide) (by decide) (by decide) (by decide) (by decide)).trans h3) (fun t q => (h4 t q).fp k2) (fun t q1 q2 => by
        by_cases ct : t = i
        · subst ct; exact k4 q2
        · obtain ⟨x, u, x1, x2, x3, x4, x5, x6, x7⟩ := h5 t (by omega) q2
          refine ⟨x, u, x1, x2, ?_, ?_, ?_, ?_, ?_⟩
          · rw [k3 17 (by omega) t ct, x3]
          · rw [k3 18 (by omega) t ct, x4]
          · rw [k3 19 (by omega) t ct, x5]
          · rw [k3 20 (by omega) t ct, x6]
          · rw [k3 21 (by omega) t ct, x7])
      exact ⟨M2, p1, k2.tr p2, p3⟩
def FrQ (M M2 : St) : Prop := M2.2 = M.2 ∧ ∀ k, k ≠ 3 → k ≠ 4 → k ≠ 5 → k ≠ 6 → M2.1 k = M.1 k
theorem FrQ.rf (M : St) : FrQ M M := ⟨rfl, fun _ _ _ _ _ => rfl⟩
theorem FrQ.tr {M M2 M3 : St} (h : FrQ M M2) (g : FrQ M2 M3) : FrQ M M3 := ⟨g.1.trans h.1, fun k a b c d => (g.2 k a b c d).trans (h.2 k a b c d)⟩
theorem FrQ.p {M M2 : St} (h : FrQ M M2) : FrP M M2 := ⟨fun k _ a b c d => h.2 k a b c d, fun j _ => by rw [h.1]⟩
theorem Kept.q {A : AB} {M M2 : St} {s : Nat} (h : Kept A M s) (f : FrQ M M2) : Kept A M2 s := by
  unfold Kept
  rw [f.1]
  exact h
theorem m_together {p : Nat} (hp : p < 256) {as : Nat → AB} {xs : Nat → Int × Int} {us : Nat → Int} {td d : Int} {ns : Nat} (hns : ns ≤ 8) (ht : 0 ≤ td ∧ td ≤ 2000) (hd : td ≤ d ∧ d ≤ 5000) (hv : ∀ t, t < ns → Val td (as t)) (hch : Chs as xs us ns) (hok : okb p as ns = true) : ∀ (fuel i : Nat) (M : St), ns < i + fuel → i ≤ ns → M.1 1 = i3 (ns : Int) → (∀ t, t < ns → Mo (as t) M t) → (∀ t, t < ns → 2 ≤ aN (as t) → Kept (as t) M t) → ∃ M2, f_X8_together_5 (i3 (p : Int)) (i3 d) fuel (i6 (foP p as xs us i d)) (i3 (i : Int)) M = some (i6 (foP p as xs us ns d), M2) ∧ FrQ M M2 := by
  intro fuel
  induction fuel with
  | zero => intro i M h1 h2; omega
  | succ fuel ih =>
    intro i M h1 h2 h3 h4 h5
    unfold f_X8_together_5
    rw [h3]
    by_cases c : ns ≤ i
    · have : i = ns := by omega
      subst this
      rw [if_pos (by rw [i3_le (by omega) (by omega) (by omega) (by omega)]; omega)]
      exact ⟨M, rfl, FrQ.rf M⟩
    · have hi : i < ns := by omega
      have i0 : inb (i3 (i : Int)) 8 := inbN (by omega) (by omega)
      have ei : (i3 (i : Int)).toNatClampNeg = i := i3_nn (by omega)
      have hstep : i3 (i : Int) + 1 = i3 ((i + 1 : Nat) : Int) := by rw [l3_1, i3_add]; rfl
      have es : foP p as xs us (i + 1) d = foP p as xs us i d + (if pb p i = true then fcA (as i) (xs i) (us i) (-1) d else 0) := rfl
      rw [if_neg (by rw [i3_le (by omega) (by omega) (by omega) (by omega)]; omega)]
      by_cases hb : pb p i = true
      · rw [if_pos hb] at es
        have n2 := okb_at hok hi hb
        obtain ⟨x, u, x1, x2, x3, x4, x5, x6, x7⟩ := h5 i hi n2
        have bx := sl_bd (hv i hi) ht.2 x x1.1
        have rr := red_rng bx
        have hdd := (hv i hi).2.2.2.2.1 _ (lastp_lt n2)
        generalize hM' : sF (sF (sF (sF M 3 (i3 (redN x))) 4 (i3 (redD x))) 5 (i3 (aDy (as i) (lastp (aN (as i)) (-1))))) 6 (i3 (aUs (as i) (lastp (aN (as i)) (-1)))) = M'
        have fq : FrQ M M' := by
          subst hM'
          refine ⟨rfl, fun k a b c d => ?_⟩
          rw [sF_1, if_neg d, sF_1, if_neg c, sF_1, if_neg b, sF_1, if_neg a]
        have g3 : M'.1 3 = i3 (redN x) := by subst hM'; rfl
        have g4 : M'.1 4 = i3 (redD x) := by subst hM'; rfl
        have g5 : M'.1 5 = i3 (aDy (as i) (lastp (aN (as i)) (-1))) := by subst hM'; rfl
        have g6 : M'.1 6 = i3 (aUs (as i) (lastp (aN (as i)) (-1))) := by subst hM'; rfl
        have hm' : Mo (as i) M' i := (h4 i hi).fp fq.p
        have ef := m_fore (M := M') (hv i hi) (show i < 8 by omega) hm' g3 g4 g5 g6 (IsUs_rng (hv i hi) x2) (d := d) (by omega) (by omega) (by omega) rr.1
        have e1 : fcv (aUs (as i) (lastp (aN (as i)) (-1))) (redN x) (redD x) (aDy (as i) (lastp (aN (as i)) (-1))) u (aFr (as i)) (aEv (as i)) d = fcA (as i) (xs i) (us i) (-1) d := (fcv_frac rr.1.2.2.1 bx.2.2.1 rr.2 d).trans (fc_eq (hv i hi) ht.2 x1 ((hch i hi).2 n2) x2 (hch i hi).1 d)
        rw [e1] at ef
        rw [if_pos ((pb_m hp (by omega)).mpr hb), ck_pos i0, nmv_eq, ck_pos i0, nmv_eq, ck_pos i0, nmv_eq, ck_pos i0, nmv_eq, ck_pos i0]
        simp only [sF_2]
        rw [ei, x3, x4, x5, x6, x7, hM', ef, Option.bind_some, i6_add, ← es, nmv_eq, Option.bind_some]
        dsimp only
        rw [nmv_eq, hstep]
        obtain ⟨M2, p1, p2⟩ := ih (i + 1) M' (by omega) (by omega) ((fq.2 1 (by decide) (by decide) (by decide) (by decide)).trans h3) (fun t q => (h4 t q).fp fq.p) (fun t q1 q2 => (h5 t q1 q2).q fq)
        exact ⟨M2, p1, fq.tr p2⟩
      · rw [if_neg hb, Int.add_zero] at es
        rw [if_neg (fun q => hb ((pb_m hp (by omega)).mp q)), Option.bind_some]
        dsimp only
        rw [nmv_eq, hstep, ← es]
        exact ih (i + 1) M (by omega) (by omega) h3 h4 h5
theorem m_pool_none {p : Nat} {r16 : Int64} {fuel : Nat} {x : Int32} {M : St} : f_X8_poolFull_132 (i3 (p : Int)) r16 (i3 0) (fuel + 1) (-1) x M = some (-1, M) := by
  unfold f_X8_poolFull_132
  by_cases c : (M.1 0) + 1000 < x
  · rw [if_pos c]
  · rw [if_neg c, if_pos l3_0.symm]
theorem m_pool_full {p : Nat} {f : Int → Int} {sz td : Int} {ns : Nat} {as : Nat → AB} (ht : 0 ≤ td ∧ td ≤ 2000) (hsz : 0 ≤ sz ∧ sz ≤ 16000000000) (hf : ∀ d, 0 ≤ f d ∧ f d ≤ 16000000000) (hr : ∀ (d : Int) (M : St), td ≤ d ∧ d ≤ 5000 → M.1 1 = i3 (ns : Int) → (∀ t, t < ns → Mo (as t) M t) → (∀ t, t < ns → 2 ≤ aN (as t) → Kept (as t) M t) → ∃ M2, f_X8_together (i3 (p : Int)) (i3 d) M = some (i6 (f d), M2) ∧ FrQ M M2) : ∀ (k fuel : Nat) (a : Int) (M : St), a + k = 1001 → 1 ≤ a → k + 1 < fuel → M.1 0 = i3 td → M.1 1 = i3 (ns : Int) → (∀ t, t < ns → Mo (as t) M t) → (∀ t, t < ns → 2 ≤ aN (as t) → Kept (as t) M t) → ∃ M2, f_X8_poolFull_132 (i3 (p : Int)) (i6 sz) (i3 1) fuel (-1) (i3 (td + a)) M = some (i3 (pfs f sz td k a), M2) ∧ FrQ M M2 := by
  intro k
  induction k with
  | zero =>
    intro fuel a M h2 h3 h4 h5 h6 h7 h8
    obtain ⟨fuel, rfl⟩ : ∃ q, fuel = q + 1 := ⟨fuel - 1, by omega⟩
    unfold f_X8_poolFull_132
    rw [if_pos (by rw [h5, l3_1000, i3_add, i3_lt (by omega) (by omega) (by omega) (by omega)]; omega)]
    exact ⟨M, rfl, FrQ.rf M⟩
  | succ k ih =>
    intro fuel a M h2 h3 h4 h5 h6 h7 h8
    obtain ⟨fuel, rfl⟩ : ∃ q, fuel = q + 2 := ⟨fuel - 2, by omega⟩
    obtain ⟨M1, q1, q2⟩ := hr (td + a) M (by omega) h6 h7 h8
    have e := lg_lt (hf (td + a)) hsz
    have m5 : M1.1 0 = i3 td := (q2.2 0 (by decide) (by decide) (by decide) (by decide)).trans h5
    have m6 : M1.1 1 = i3 (ns : Int) := (q2.2 1 (by decide) (by decide) (by decide) (by decide)).trans h6
    unfold f_X8_poolFull_132
    rw [if_neg (by rw [h5, l3_1000, i3_add, i3_lt (by omega) (by omega) (by omega) (by omega)]; omega), if_neg (by decide), if_pos rfl, q1, Option.bind_some]
    dsimp only
    unfold pfs
    by_cases c : f (td + a) < sz
    · rw [if_pos (e.mpr c), if_neg (by omega), Option.bind_some, nmv_eq, l3_1, i3_add, Int.add_assoc]
      obtain ⟨M2, p1, p2⟩ := ih (fuel + 1) (a + 1) M1 (by omega) (by omega) (by omega) m5 m6 (fun t q => (h7 t q).fp q2.p) (fun t y1 y2 => (h8 t y1 y2).q q2)
      exact ⟨M2, p1, q2.tr p2⟩
    · rw [if_neg (fun q => c (e.mp q)), if_pos (by omega), Option.bind_some, nmv_eq]
      unfold f_X8_poolFull_132
      refine ⟨M1, ?_, q2⟩
      by_cases c2 : M1.1 0 + 1000 < i3 (td + a) + 1
      · rw [if_pos c2]
      · rw [if_neg c2, if_neg (by decide), if_neg (by rw [l3_m1, i3_eq (by omega) (by omega) (by omega) (by omega)]; omega)]
