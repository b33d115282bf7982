/-! Every call keeps the relation and answers alike: a pool; all calls -/
theorem r_poolFull : R_poolFull Rel := by
  intro T M a1 hr
  obtain ⟨p, rfl, hp1, hp2⟩ := i3_ex a1
  obtain ⟨as, td, h8, ht, h1, h2, h3, h4, h5⟩ := id hr
  have hpow : (2 ^ T.2.1 : Nat) ≤ 256 := (Nat.pow_le_pow_right (by decide) h8 : (2 : Nat) ^ T.2.1 ≤ 2 ^ 8)
  by_cases hp : 0 < p ∧ p < ((2 ^ T.2.1 : Nat) : Int)
  · obtain ⟨n, rfl⟩ : ∃ n : Nat, p = (n : Int) := ⟨p.toNat, by omega⟩
    have hn : n < 256 := by omega
    have hv : ∀ t, t < T.2.1 → Val td (as t) := fun t q => (h5 t q).1
    have hx : ∀ t, t < T.2.1 → HasMid (as t) := fun t q => HasMid_of (h5 t q).1 (h5 t q).2.1
    have hchs : ∃ xs us, Chs as xs us T.2.1 := by
      have a : ∀ t, ∃ y : (Int × Int) × Int, t < T.2.1 → IsUs (as t) y.2 ∧ (2 ≤ aN (as t) → Mid (sl (as t) (-1)) y.1) := by
        intro t
        by_cases c : t < T.2.1
        · obtain ⟨u, hu⟩ := (hx t c).2
          by_cases c2 : 2 ≤ aN (as t)
          · obtain ⟨x, hx2⟩ := (hx t c).1 (-1) (Or.inl ⟨rfl, c2⟩)
            exact ⟨(x, u), fun _ => ⟨hu, fun _ => hx2⟩⟩
          · exact ⟨((0, 0), u), fun _ => ⟨hu, fun q => absurd q c2⟩⟩
        · exact ⟨((0, 0), 0), fun q => absurd q c⟩
      obtain ⟨g, hg⟩ := Classical.axiomOfChoice a
      exact ⟨fun t => (g t).1, fun t => (g t).2, hg⟩
    obtain ⟨xs, us, hch⟩ := hchs
    obtain ⟨T2, c1, c2, c3, c4, c5⟩ := c_drawPool hn h8 hv 3000 0 T (by omega) (Nat.zero_le _) rfl (fun t q => (h5 t q).2.1) (fun t q => absurd q (Nat.not_lt_zero _))
    obtain ⟨M2, m1, m2, m3⟩ := m_pool_in hn h8 ht.2 hv hx 3000 0 (sF M 7 (i3 0)) (by omega) (Nat.zero_le _) h3 (fun t q => (h5 t q).2.2.1) (fun t q => absurd q (Nat.not_lt_zero _))
    have c1' : f_X7_drawPool_4 (i3 (n : Int)) 3000 (1 : Int32) (0 : Int32) T = some (i3 (if okb n as T.2.1 = true then 1 else 0), T2) := c1
    have m1' : f_X8_poolFull_35 (i3 (n : Int)) 3000 (0 : Int64) (1 : Int32) (0 : Int32) (sF M 7 (i3 0)) = some (i6 (szP n as T.2.1), i3 (if okb n as T.2.1 = true then 1 else 0), M2) := m1
    have hsh : (((i3 (n : Int)).toUInt32 >>> ((nI T.2.1).toUInt32 &&& Int32.toUInt32 31)).toInt32) = 0 := by
      rw [nI_i3]; exact (lsh hp1 hp2 h8).mpr ⟨by omega, hp.2⟩
    have hash : (i3 (n : Int) >>> ((M.1 1) &&& 31)) = 0 := by
      rw [h3]; exact (ash (by omega) hp2 h8).mpr hp.2
    have hnz : ¬ i3 (n : Int) = 0 := by rw [l3_0, i3_eq (by omega) (by omega) (by omega) (by omega)]; omega
    have hnp : ¬ i3 (n : Int) ≤ 0 := by rw [l3_0, i3_le (by omega) (by omega) (by omega) (by omega)]; omega
    have hT1 : T2.1.1 = i3 td := by rw [c2]; exact h1
    have hrel : ∀ M3, FrP (sF M 7 (i3 0)) M3 → Rel T2 M3 := by
      intro M3 f
      refine ⟨as, td, by rw [c3]; exact h8, ht, hT1, (f.1 0 (by decide) (by decide) (by decide) (by decide) (by decide)).trans h2, ?_, ?_, fun s hs => ?_⟩
      · rw [c3]; exact (f.1 1 (by decide) (by decide) (by decide) (by decide) (by decide)).trans h3
      · rw [c3]; exact h4.a (M2 := M3) (fun j hj => f.2 j hj)
      · have hs' : s < T.2.1 := by rw [c3] at hs; exact hs
        have y3 : Mo (as s) (sF M 7 (i3 0)) s := (h5 s hs').2.2.1
        have y4 : MoC (as s) (sF M 7 (i3 0)) s := (h5 s hs').2.2.2
        exact ⟨hv s hs', c4 s hs', y3.fp f, y4.fr f.2⟩
    have m20 : M2.1 0 = i3 td := (m2.1 0 (by decide) (by decide) (by decide) (by decide) (by decide)).trans h2
    have m21 : M2.1 1 = i3 (T.2.1 : Int) := (m2.1 1 (by decide) (by decide) (by decide) (by decide) (by decide)).trans h3
    have m27 : ∀ M3, FrP (sF M 7 (i3 0)) M3 → M3.1 7 = 0 := fun M3 f => (f.1 7 (by decide) (by decide) (by decide) (by decide) (by decide)).trans rfl
    cases ho : okb n as T.2.1
    · rw [ho, if_neg (by decide)] at c1' m1'
      have m4 : ∀ v, f_X8_poolFull_132 (i3 (n : Int)) (i6 (szP n as T.2.1)) (i3 0) 3000 (-1 : Int32) v M2 = some (-1, M2) := fun v => m_pool_none
      refine ⟨-1, M2, ?_, Or.inr ⟨T2, ?_, m27 _ m2, hrel _ m2⟩⟩
      · unfold f_X8_poolFull
        rw [if_neg hnp, if_pos hash, Option.bind_some, m_goes0', Option.bind_some]
        dsimp only
        rw [if_neg (by decide), m1', Option.bind_some]
        dsimp only
        rw [nmv_eq, m4, Option.bind_some]
      · unfold f_X7_poolFull f_X7_drawPool
        rw [if_neg hnz, if_pos hsh, c1', Option.bind_some]
        dsimp only
        rw [ck_pos (isZ_bit (Or.inl rfl)), Option.bind_some]
        dsimp only
        rw [if_pos l3_0.symm]
    · rw [ho, if_pos rfl] at c1' m1'
      have hszr := szP_rng (p := n) h8 hv
      have e1 : f_X7_poolSize (i3 (n : Int)) T2 = some (i6 (szP n as T.2.1)) := by
        have q := c_poolSize hn h8 hv c3 c4 3000 0 (by omega) (Nat.zero_le _)
        have q' : f_X7_poolSize_5 (i3 (n : Int)) T2 3000 (0 : Int64) (0 : Int32) = some (i6 (szP n as T.2.1)) := q
        unfold f_X7_poolSize
        rw [q', Option.bind_some]
      have e2 := c_poolFull (p := n) (T := T2) (f := foP n as xs us T.2.1) (sz := szP n as T.2.1) ht hT1 (by omega) (fun d => foP_rng h8) (fun d hd => by
        have q := c_poolRoom hn h8 ht hd hv hch ho c3 c4 c5 3000 0 (by omega) (Nat.zero_le _)
        have q' : f_X7_poolRoomOn_5 (i3 (n : Int)) (i3 d) T2 3000 (0 : Int64) (0 : Int32) = some (i6 (foP n as xs us T.2.1 d)) := q
        unfold f_X7_poolRoomOn
        rw [q', Option.bind_some]) 1000 3000 1 (by omega) (by omega) (by omega)
      obtain ⟨M3, e3, e4⟩ := m_pool_full (p := n) (f := foP n as xs us T.2.1) (sz := szP n as T.2.1) (ns := T.2.1) (as := as) ht (by omega) (fun d => foP_rng h8) (fun d M' hd g1 g2 g3 => by
        obtain ⟨M4, q, q2⟩ := m_together hn h8 ht hd hv hch ho 3000 0 M' (by omega) (Nat.zero_le _) g1 g2 g3
        have q' : f_X8_together_5 (i3 (n : Int)) (i3 d) 3000 (0 : Int64) (0 : Int32) M' = some (i6 (foP n as xs us T.2.1 d), M4) := q
        refine ⟨M4, ?_, q2⟩
        unfold f_X8_together
        rw [q', Option.bind_some]) 1000 3000 1 M2 (by omega) (by omega) (by omega) m20 m21 (fun t q => by
          have y3 : Mo (as t) (sF M 7 (i3 0)) t := (h5 t q).2.2.1
          exact y3.fp m2) m3
      refine ⟨i3 (pfs (foP n as xs us T.2.1) (szP n as T.2.1) td 1000 1), M3, ?_, Or.inr ⟨T2, ?_, m27 _ (m2.tr e4.p), hrel _ (m2.tr e4.p)⟩⟩
      · unfold f_X8_poolFull
        rw [if_neg hnp, if_pos hash, Option.bind_some, m_goes0', Option.bind_some]
        dsimp only
        rw [if_neg (by decide), m1', Option.bind_some]
        dsimp only
        have e9 : i3 td + (1 : Int32) = i3 (td + 1) := by rw [l3_1, i3_add]
        rw [nmv_eq, m20, e9, e3, Option.bind_some]
      · have e2' : f_X7_poolFull_45 (i3 (n : Int)) T2 (i6 (szP n as T.2.1)) 3000 (1 : Int32) = some (i3 (pfs (foP n as xs us T.2.1) (szP n as T.2.1) td 1000 1), T2) := by rw [l3_1]; exact e2
        unfold f_X7_poolFull f_X7_drawPool
        rw [if_neg hnz, if_pos hsh, c1', Option.bind_some]
        dsimp only
        rw [ck_pos (isZ_bit (Or.inr rfl)), Option.bind_some]
        dsimp only
        rw [if_neg (by decide), e1, Option.bind_some, e2']
  · refine ⟨i3 0, sF M 7 (i3 1), ?_, Or.inl (Or.inl ⟨T, ?_, rfl, Rel_thrown hr _⟩)⟩
    · unfold f_X8_poolFull
      have e : (if i3 p ≤ 0 then some ((1 : Int32)) else if (i3 p >>> ((M.1 1) &&& 31)) = 0 then some ((0 : Int32)) else some ((1 : Int32))) = some 1 := by
        by_cases c : i3 p ≤ 0
        · rw [if_pos c]
        · rw [if_neg c, if_neg]
          intro q
          rw [l3_0, i3_le (by omega) (by omega) (by omega) (by omega)] at c
          rw [h3] at q
          have := (ash (by omega) hp2 h8).mp q
          omega
      rw [e, Option.bind_some, m_goes1', Option.bind_some]
      dsimp only
      rw [if_pos l3_0.symm, l3_0]
    · unfold x_X7_poolFull
      by_cases c : i3 p = 0
      · rw [if_pos c]
      · rw [if_neg c, if_neg]
        intro q
        rw [l3_0, i3_eq (by omega) (by omega) (by omega) (by omega)] at c
        rw [nI_i3] at q
        have := (lsh hp1 hp2 h8).mp q
        omega
theorem r_all : RAll Rel := ⟨r_addStore, r_setSize, r_sample, r_clean, r_setRule, r_pass, r_today, r_samples, r_slopeNumerator, r_slopeDenominator, r_usual, r_forecast, r_full, r_early, r_late, r_warns, r_poolFull⟩
