/-! Every call keeps the relation and answers alike: reads and settings -/
theorem m_isIn {a b c : Int} (ha : -2147483648 ≤ a ∧ a < 2147483648) (hb : -2147483648 ≤ b ∧ b < 2147483648) (hc : -2147483648 ≤ c ∧ c < 2147483648) : f_X8_isIn (i3 a) (i3 b) (i3 c) = some (i3 (if b ≤ a ∧ a ≤ c then 1 else 0)) := by
  unfold f_X8_isIn
  simp (disch := omega) only [i3_lt, l3_0, l3_1]
  by_cases c1 : a < b
  · rw [if_pos c1, if_neg (by omega)]
  · rw [if_neg c1]
    by_cases c2 : c < a
    · rw [if_pos c2, if_neg (by omega)]
    · rw [if_neg c2, if_pos (by omega)]
theorem m_isStore {M : St} {n : Nat} {a : Int} (h : M.1 1 = i3 n) (h8 : n ≤ 8) (ha : -2147483648 ≤ a ∧ a < 2147483648) : f_X8_isStore (i3 a) M = some (i3 (if 0 ≤ a ∧ a < n then 1 else 0)) := by
  unfold f_X8_isStore
  have e : f_X8_isIn (i3 a) 0 (M.1 1 - 1) = some (i3 (if 0 ≤ a ∧ a ≤ (n : Int) - 1 then 1 else 0)) := by
    rw [h, l3_0, l3_1, i3_sub, m_isIn ha (by omega) (by omega)]
  rw [e, Option.bind_some]
  by_cases c : 0 ≤ a ∧ a < n
  · rw [if_pos c, if_pos (by omega), ck_pos (isZ_bit (Or.inr rfl))]
  · rw [if_neg c, if_neg (by omega), ck_pos (isZ_bit (Or.inl rfl))]
theorem m_goes0 (M : St) : f_X8_goes (i3 0) M = some (i3 1, sF M 7 (i3 0)) := rfl
theorem m_goes {M : St} {v : Int} (h : 1 ≤ v ∧ v ≤ 3) : f_X8_goes (i3 v) M = some (i3 0, sF M 7 (i3 v)) := by
  unfold f_X8_goes
  rw [nmv_eq, if_neg (by rw [l3_0, i3_eq (by omega) (by omega) (by omega) (by omega)]; omega), l3_0]
theorem m_goes0' (M : St) : f_X8_goes 0 M = some (i3 1, sF M 7 (i3 0)) := by rw [l3_0]; exact m_goes0 M
theorem m_goes1' (M : St) : f_X8_goes 1 M = some (i3 0, sF M 7 (i3 1)) := by rw [l3_1]; exact m_goes (by omega)
theorem m_goes2' (M : St) : f_X8_goes 2 M = some (i3 0, sF M 7 (i3 2)) := by rw [l3_2]; exact m_goes (by omega)
theorem m_goes3' (M : St) : f_X8_goes 3 M = some (i3 0, sF M 7 (i3 3)) := by rw [l3_3]; exact m_goes (by omega)
theorem m_asks_ok {M : St} {n : Nat} {a : Int} (h : M.1 1 = i3 n) (h8 : n ≤ 8) (ha : -2147483648 ≤ a ∧ a < 2147483648) (hp : 0 ≤ a ∧ a < n) : f_X8_asks (i3 a) M = some (i3 1, sF M 7 (i3 0)) := by
  unfold f_X8_asks
  rw [m_isStore h h8 ha, if_pos hp, Option.bind_some, if_neg (by decide), Option.bind_some, m_goes0', Option.bind_some]
  dsimp only
  rw [ck_pos (isZ_bit (Or.inr rfl))]
theorem m_asks_bad {M : St} {n : Nat} {a : Int} (h : M.1 1 = i3 n) (h8 : n ≤ 8) (ha : -2147483648 ≤ a ∧ a < 2147483648) (hp : ¬ (0 ≤ a ∧ a < n)) : f_X8_asks (i3 a) M = some (i3 0, sF M 7 (i3 1)) := by
  unfold f_X8_asks
  rw [m_isStore h h8 ha, if_neg hp, Option.bind_some, if_pos l3_0.symm, Option.bind_some, m_goes1', Option.bind_some]
  dsimp only
  rw [ck_pos (isZ_bit (Or.inl rfl))]
theorem x_st_bad {T : TS} {a : Int} (h8 : T.2.1 ≤ 8) (ha : -2147483648 ≤ a ∧ a < 2147483648) (hp : ¬ (0 ≤ a ∧ a < T.2.1)) : x_X7_storeAt (i3 a) T = some ("java/lang/IndexOutOfBoundsException", T) := by
  unfold x_X7_storeAt
  simp (disch := omega) only [nI_i3, i3_lt, l3_0]
  by_cases c : a < 0
  · rw [if_pos c]
  · rw [if_neg c, if_neg (by omega)]
theorem x_st_ok {T : TS} {s : Nat} (h8 : T.2.1 ≤ 8) (hs : s < T.2.1) : x_X7_storeAt (i3 (s : Int)) T = none := by
  unfold x_X7_storeAt
  have hi := inS_of hs h8
  rw [if_neg (inS_nn hi), if_pos hi.2.1, ck_pos hi]
theorem x_dem_ok {a b c : Int} (ha : -2147483648 ≤ a ∧ a < 2147483648) (hb : -2147483648 ≤ b ∧ b < 2147483648) (hc : -2147483648 ≤ c ∧ c < 2147483648) (h : b ≤ a ∧ a ≤ c) : x_X7_demandRange (i3 a) (i3 b) (i3 c) = none := by
  unfold x_X7_demandRange
  simp (disch := omega) only [i3_lt, i3_le]
  rw [if_neg (by omega), if_pos (by omega)]
theorem x_dem_bad {a b c : Int} (ha : -2147483648 ≤ a ∧ a < 2147483648) (hb : -2147483648 ≤ b ∧ b < 2147483648) (hc : -2147483648 ≤ c ∧ c < 2147483648) (h : ¬ (b ≤ a ∧ a ≤ c)) : x_X7_demandRange (i3 a) (i3 b) (i3 c) = some "java/lang/IllegalArgumentException" := by
  unfold x_X7_demandRange
  simp (disch := omega) only [i3_lt, i3_le]
  by_cases c1 : a < b
  · rw [if_pos c1]
  · rw [if_neg c1, if_neg (by omega)]
theorem rng_ok {a b c : Int} (ha : -2147483648 ≤ a ∧ a < 2147483648) (hb : -2147483648 ≤ b ∧ b < 2147483648) (hc : -2147483648 ≤ c ∧ c < 2147483648) (h : b ≤ a ∧ a ≤ c) : i3 b ≤ i3 a ∧ i3 a ≤ i3 c := by
  rw [i3_le hb.1 hb.2 ha.1 ha.2, i3_le ha.1 ha.2 hc.1 hc.2]; exact h
/-- what other stores are, stays -/
def FrX (s : Nat) (M M2 : St) : Prop := M2.1 0 = M.1 0 ∧ M2.1 1 = M.1 1 ∧ ∀ t, t ≠ s → t < 8 → (∀ j, j ≤ 13 → j ≠ 2 → j ≠ 3 → j ≠ 5 → j ≠ 6 → M2.2 j t = M.2 j t) ∧ (∀ k, k < 12 → M2.2 2 (12 * t + k) = M.2 2 (12 * t + k) ∧ M2.2 3 (12 * t + k) = M.2 3 (12 * t + k)) ∧ ∀ k, k < 60 → M2.2 5 (60 * t + k) = M.2 5 (60 * t + k) ∧ M2.2 6 (60 * t + k) = M.2 6 (60 * t + k)
theorem Mo.x {A : AB} {M M2 : St} {s t : Nat} {td : Int} (hv : Val td A) (h : Mo A M t) (f : FrX s M M2) (ht : t ≠ s) (h8 : t < 8) : Mo A M2 t := by
  obtain ⟨⟨a0, a1, a4, a7, a8, a9, a10⟩, b, c⟩ := h
  obtain ⟨g, g2, g3⟩ := f.2.2 t ht h8
  have hn := hv.2.2.2.1
  have hm := hv.2.2.2.2.2.2.1
  refine ⟨⟨?_, ?_, ?_, ?_, ?_, ?_, ?_⟩, fun k hk => ?_, fun j hj => ?_⟩
  · rw [g 0 (by decide) (by decide) (by decide) (by decide) (by decide)]; exact a0
  · rw [g 1 (by decide) (by decide) (by decide) (by decide) (by decide)]; exact a1
  · rw [g 4 (by decide) (by decide) (by decide) (by decide) (by decide)]; exact a4
  · rw [g 7 (by decide) (by decide) (by decide) (by decide) (by decide)]; exact a7
  · rw [g 8 (by decide) (by decide) (by decide) (by decide) (by decide)]; exact a8
  · rw [g 9 (by decide) (by decide) (by decide) (by decide) (by decide)]; exact a9
  · rw [g 10 (by decide) (by decide) (by decide) (by decide) (by decide)]; exact a10
  · rw [(g2 k (by omega)).1, (g2 k (by omega)).2]; exact b k hk
  · rw [(g3 j (by omega)).1, (g3 j (by omega)).2]; exact c j hj
theorem MoC.x {A : AB} {M M2 : St} {s t : Nat} (h : MoC A M t) (f : FrX s M M2) (ht : t ≠ s) (h8 : t < 8) : MoC A M2 t := by
  obtain ⟨g, g2, g3⟩ := f.2.2 t ht h8
  unfold MoC
  rw [g 11 (by decide) (by decide) (by decide) (by decide) (by decide), g 12 (by decide) (by decide) (by decide) (by decide) (by decide), g 13 (by decide) (by decide) (by decide) (by decide) (by decide)]
  exact h
theorem Fresh.x {M M2 : St} {n s : Nat} (h : Fresh M n) (f : FrX s M M2) (hs : s < n) : Fresh M2 n := by
  intro t h1 h2
  obtain ⟨g, g2, g3⟩ := f.2.2 t (by omega) h2
  rw [g 1 (by decide) (by decide) (by decide) (by decide) (by decide), g 4 (by decide) (by decide) (by decide) (by decide) (by decide), g 7 (by decide) (by decide) (by decide) (by decide) (by decide), g 8 (by decide) (by decide) (by decide) (by decide) (by decide), g 9 (by decide) (by decide) (by decide) (by decide) (by decide), g 10 (by decide) (by decide) (by decide) (by decide) (by decide), g 11 (by decide) (by decide) (by decide) (by decide) (by decide)]
  exact h t h1 h2
/-- one store changed on both sides, the others as they were -/
theorem Rel_x {T : TS} {M M2 : St} {s : Nat} {A2 : AB} {S2 : St} {as : Nat → AB} {td : Int} (h8 : T.2.1 ≤ 8) (ht : 0 ≤ td ∧ td ≤ 2000) (h1 : T.1.1 = i3 td) (h2 : M.1 0 = i3 td) (h3 : M.1 1 = i3 T.2.1) (h4 : Fresh M T.2.1) (h5 : ∀ s, s < T.2.1 → Val td (as s) ∧ Cl (as s) (T.2.2 s) ∧ Mo (as s) M s ∧ MoC (as s) M s) (hs : s < T.2.1) (f : FrX s M M2) (h6 : Val td A2) (h7 : Cl A2 S2) (h9 : Mo A2 M2 s) (h10 : M2.2 11 s = i3 0) : Rel (setT T s S2) M2 :=
  Rel_upd h8 ht h1 (f.1.trans h2) (f.2.1.trans h3) (h4.x f hs) (fun t ht9 hts => by
    obtain ⟨a, b, c, d⟩ := h5 t ht9
    exact ⟨a, b, c.x a f hts (by omega), d.x f hts (by omega)⟩) ⟨h6, h7, h9, Or.inl h10⟩
theorem r_samples : R_samples Rel := by
  intro T M a1 hr
  obtain ⟨p, rfl, hp1, hp2⟩ := i3_ex a1
  obtain ⟨as, td, h8, ht, h1, h2, h3, h4, h5⟩ := id hr
  by_cases hp : 0 ≤ p ∧ p < T.2.1
  · obtain ⟨s, rfl⟩ : ∃ s : Nat, p = (s : Int) := ⟨p.toNat, by omega⟩
    have hs : s < T.2.1 := by omega
    obtain ⟨hv, hc, hm, hcc⟩ := h5 s hs
    have es : (i3 (s : Int)).toNatClampNeg = s := i3_nn (by omega)
    have hin := inS_of hs h8
    have i0 : inb (i3 (s : Int)) 8 := inbN (by omega) (by omega)
    have ha1 : -2147483648 ≤ (s : Int) ∧ (s : Int) < 2147483648 := ⟨hp1, hp2⟩
    refine ⟨i3 (aN (as s)), sF M 7 (i3 0), ?_, Or.inr ⟨T, ?_, rfl, Rel_thrown hr _⟩⟩
    · unfold f_X8_samples
      rw [m_asks_ok h3 h8 ha1 hp, Option.bind_some]
      dsimp only
      rw [if_neg (by decide), ck_pos i0, es, sF_2, hm.1.2.1]
    · unfold f_X7_samples f_X4_number
      rw [ck_pos hin, Option.bind_some, es, hc.1.2.1]
      rfl
  · have ha1 : -2147483648 ≤ p ∧ p < 2147483648 := ⟨hp1, hp2⟩
    refine ⟨i3 0, sF M 7 (i3 1), ?_, Or.inl (Or.inl ⟨T, ?_, rfl, Rel_thrown hr _⟩)⟩
    · unfold f_X8_samples
      rw [m_asks_bad h3 h8 ha1 hp, Option.bind_some]
      dsimp only
      rw [if_pos l3_0.symm, l3_0]
    · unfold x_X7_samples
      rw [x_st_bad h8 ha1 hp]
      rfl
theorem r_usual : R_usual Rel := by
  intro T M a1 hr
  obtain ⟨p, rfl, hp1, hp2⟩ := i3_ex a1
  obtain ⟨as, td, h8, ht, h1, h2, h3, h4, h5⟩ := id hr
  by_cases hp : 0 ≤ p ∧ p < T.2.1
  · obtain ⟨s, rfl⟩ : ∃ s : Nat, p = (s : Int) := ⟨p.toNat, by omega⟩
    have hs : s < T.2.1 := by omega
    obtain ⟨hv, hc, hm, hcc⟩ := h5 s hs
    have es : (i3 (s : Int)).toNatClampNeg = s := i3_nn (by omega)
    have hin := inS_of hs h8
    have i0 : inb (i3 (s : Int)) 8 := inbN (by omega) (by omega)
    have ha1 : -2147483648 ≤ (s : Int) ∧ (s : Int) < 2147483648 := ⟨hp1, hp2⟩
    obtain ⟨u, u1, u2⟩ := cl_usual hv hc
    obtain ⟨w, w1, w2⟩ := m_usual (M := sF M 7 (i3 0)) hv (by omega) hm ⟨u, u2⟩
    have := IsUs_uniq u2 w2
    subst this
    refine ⟨i3 u, sF M 7 (i3 0), ?_, Or.inr ⟨T, ?_, rfl, Rel_thrown hr _⟩⟩
    · unfold f_X8_usual
      rw [m_asks_ok h3 h8 ha1 hp, Option.bind_some]
      dsimp only
      rw [if_neg (by decide), w1, Option.bind_some]
    · unfold f_X7_usual
      rw [ck_pos hin, es, u1, Option.bind_some]
      rfl
  · have ha1 : -2147483648 ≤ p ∧ p < 2147483648 := ⟨hp1, hp2⟩
    refine ⟨i3 0, sF M 7 (i3 1), ?_, Or.inl (Or.inl ⟨T, ?_, rfl, Rel_thrown hr _⟩)⟩
    · unfold f_X8_usual
      rw [m_asks_bad h3 h8 ha1 hp, Option.bind_some]
      dsimp only
      rw [if_pos l3_0.symm, l3_0]
    · unfold x_X7_usual
      rw [x_st_bad h8 ha1 hp]
      rfl
theorem r_warns : R_warns Rel := by
  intro T M a1 hr
  obtain ⟨p, rfl, hp1, hp2⟩ := i3_ex a1
  obtain ⟨as, td, h8, ht, h1, h2, h3, h4, h5⟩ := id hr
  by_cases hp : 0 ≤ p ∧ p < T.2.1
  · obtain ⟨s, rfl⟩ : ∃ s : Nat, p = (s : Int) := ⟨p.toNat, by omega⟩
    have hs : s < T.2.1 := by omega
    obtain ⟨hv, hc, hm, hcc⟩ := h5 s hs
    have es : (i3 (s : Int)).toNatClampNeg = s := i3_nn (by omega)
    have hin := inS_of hs h8
    have i0 : inb (i3 (s : Int)) 8 := inbN (by omega) (by omega)
    have ha1 : -2147483648 ≤ (s : Int) ∧ (s : Int) < 2147483648 := ⟨hp1, hp2⟩
    have hb : bit (aOn (as s)) := hv.2.2.2.2.2.2.2.2.1
    refine ⟨i3 (aOn (as s)), sF M 7 (i3 0), ?_, Or.inr ⟨T, ?_, rfl, Rel_thrown hr _⟩⟩
    · unfold f_X8_warns
      rw [m_asks_ok h3 h8 ha1 hp, Option.bind_some]
      dsimp only
      rw [if_neg (by decide), ck_pos i0]
      simp only [es, sF_2, hm.1.2.2.2.2.2.1]
      rcases hb with q | q
      · rw [q, if_pos l3_0.symm, l3_0]
      · rw [q, if_neg (by decide), l3_1]
    · unfold f_X7_warns
      rw [ck_pos hin]
      simp only [es, hc.1.2.2.2.2.2.2.1]
      rw [ck_pos (isZ_bit hb)]
      rfl
  · have ha1 : -2147483648 ≤ p ∧ p < 2147483648 := ⟨hp1, hp2⟩
    refine ⟨i3 0, sF M 7 (i3 1), ?_, Or.inl (Or.inl ⟨T, ?_, rfl, Rel_thrown hr _⟩)⟩
    · unfold f_X8_warns
      rw [m_asks_bad h3 h8 ha1 hp, Option.bind_some]
      dsimp only
      rw [if_pos l3_0.symm, l3_0]
    · unfold x_X7_warns
      rw [x_st_bad h8 ha1 hp]
      rfl
theorem r_today : R_today Rel := by
  intro T M hr
  obtain ⟨as, td, h8, ht, h1, h2, h3, h4, h5⟩ := id hr
  refine ⟨sF M 7 0, ?_, Rel_thrown hr _⟩
  unfold f_X8_today
  rw [nmv_eq, h1]
  show some (M.1 0, _) = _
  rw [h2]
theorem told_eq {r : Int} (h : 1 ≤ r ∧ r ≤ 1000000) : f_X8_told (i3 r) = f_X7_dayOrNone (i3 r) := rfl
theorem told_some {r : Int} : ∃ v : Int32, f_X7_dayOrNone (i3 r) = some v := by
  unfold f_X7_dayOrNone
  split
  · exact ⟨_, rfl⟩
  · exact ⟨_, rfl⟩
theorem r_full : R_full Rel := by
  intro T M a1 hr
  obtain ⟨p, rfl, hp1, hp2⟩ := i3_ex a1
  obtain ⟨as, td, h8, ht, h1, h2, h3, h4, h5⟩ := id hr
  by_cases hp : 0 ≤ p ∧ p < T.2.1
  · obtain ⟨s, rfl⟩ : ∃ s : Nat, p = (s : Int) := ⟨p.toNat, by omega⟩
    have hs : s < T.2.1 := by omega
    obtain ⟨hv, hc, hm, hcc⟩ := h5 s hs
    have es : (i3 (s : Int)).toNatClampNeg = s := i3_nn (by omega)
    have hin := inS_of hs h8
    have i0 : inb (i3 (s : Int)) 8 := inbN (by omega) (by omega)
    have ha1 : -2147483648 ≤ (s : Int) ∧ (s : Int) < 2147483648 := ⟨hp1, hp2⟩
    have hx := HasMid_of hv hc
    obtain ⟨r, S2, q1, q2, q3, q4⟩ := cl_fullDay hv ht.2 hc
    have hmm : ∃ M2, f_X8_fullDay (i3 (s : Int)) (i3 (-1)) (sF M 7 (i3 0)) = some (i3 r, M2) ∧ FrM (sF M 7 (i3 0)) M2 := by
      rcases q3 with ⟨n2, rfl⟩ | ⟨n2, hf⟩
      · exact m_fullDay0 hv ht.2 (by omega) hm n2
      · have hok : oOk (aN (as s)) (-1) := Or.inl ⟨rfl, n2⟩
        obtain ⟨r2, M2, p1, p2, p3, p4⟩ := m_fullDay (M := sF M 7 (i3 0)) hv ht.2 (by omega) hm hok (hx.1 _ hok) hx.2
        have := FDay_uniq hv p3 hf
        subst this
        exact ⟨M2, p1, p2⟩
    obtain ⟨M2, p1, p2⟩ := hmm
    obtain ⟨v, hv9⟩ := told_some (r := r)
    refine ⟨v, M2, ?_, Or.inr ⟨setT T s S2, ?_, ?_, Rel_fm (Rel_thrown (Rel_fs hr q2) _) p2⟩⟩
    · unfold f_X8_full
      rw [m_asks_ok h3 h8 ha1 hp, Option.bind_some]
      dsimp only
      rw [if_neg (by decide), l3_m1, p1, Option.bind_some]
      dsimp only
      rw [told_eq q4, hv9, Option.bind_some]
    · unfold f_X7_full
      rw [ck_pos hin, es, q1, Option.bind_some]
      dsimp only
      rw [nmv_eq, hv9, Option.bind_some]
    · rw [p2.1 7 (by decide) (by decide) (by decide) (by decide) (by decide)]; rfl
  · have ha1 : -2147483648 ≤ p ∧ p < 2147483648 := ⟨hp1, hp2⟩
    refine ⟨i3 0, sF M 7 (i3 1), ?_, Or.inl (Or.inl ⟨T, ?_, rfl, Rel_thrown hr _⟩)⟩
    · unfold f_X8_full
      rw [m_asks_bad h3 h8 ha1 hp, Option.bind_some]
      dsimp only
      rw [if_pos l3_0.symm, l3_0]
    · unfold x_X7_full
      rw [x_st_bad h8 ha1 hp]
      rfl
theorem r_early : R_early Rel := by
  intro T M a1 hr
  obtain ⟨p, rfl, hp1, hp2⟩ := i3_ex a1
  obtain ⟨as, td, h8, ht, h1, h2, h3, h4, h5⟩ := id hr
  by_cases hp : 0 ≤ p ∧ p < T.2.1
  · obtain ⟨s, rfl⟩ : ∃ s : Nat, p = (s : Int) := ⟨p.toNat, by omega⟩
    have hs : s < T.2.1 := by omega
    obtain ⟨hv, hc, hm, hcc⟩ := h5 s hs
    have es : (i3 (s : Int)).toNatClampNeg = s := i3_nn (by omega)
    have hin := inS_of hs h8
    have i0 : inb (i3 (s : Int)) 8 := inbN (by omega) (by omega)
    have ha1 : -2147483648 ≤ (s : Int) ∧ (s : Int) < 2147483648 := ⟨hp1, hp2⟩
    have hx := HasMid_of hv hc
    obtain ⟨r, S2, q1, q2, q3, q4⟩ := cl_early hv ht.2 hc
    obtain ⟨M2, e2, l2, p1, p2, p3, p4, p5, p6, p7, p8, p9, p10, p11⟩ := m_bounds (M := sF M 7 (i3 0)) hv ht.2 (by omega) hx hm hcc
    have hu := Early_uniq hv q3 p8
    subst hu
    obtain ⟨v, hv9⟩ := told_some (r := r)
    have f9 : Mo (as s) M2 s := by
      obtain ⟨⟨a0, a1, a4, a7, a8, a9, a10⟩, b, c⟩ := hm
      refine ⟨⟨?_, ?_, ?_, ?_, ?_, ?_, ?_⟩, fun k hk => ?_, fun j hj => ?_⟩
      · rw [p2.2.1 0 (by omega)]; exact a0
      · rw [p2.2.1 1 (by omega)]; exact a1
      · rw [p2.2.1 4 (by omega)]; exact a4
      · rw [p2.2.1 7 (by omega)]; exact a7
      · rw [p2.2.1 8 (by omega)]; exact a8
      · rw [p3]; exact a9
      · rw [p4]; exact a10
      · rw [p2.2.1 2 (by omega), p2.2.1 3 (by omega)]; exact b k hk
      · rw [p2.2.1 5 (by omega), p2.2.1 6 (by omega)]; exact c j hj
    have hrel : Rel (setT T s S2) M2 := Rel_upd h8 ht h1 ((p2.1 0 (by decide) (by decide) (by decide) (by decide) (by decide)).trans h2) ((p2.1 1 (by decide) (by decide) (by decide) (by decide) (by decide)).trans h3) ((h4.a (M2 := sF M 7 (i3 0)) (fun _ _ => rfl)).l p2 hs) (fun t ht9 hts => by
      obtain ⟨a, b, c, d⟩ := h5 t ht9
      have c' : Mo (as t) (sF M 7 (i3 0)) t := c
      have d' : MoC (as t) (sF M 7 (i3 0)) t := d
      exact ⟨a, b, c'.l p2 hts, d'.l p2 hts⟩) ⟨hv, hc.fr q2, f9, Or.inr ⟨p5, _, _, p6, p7, p8, p9, p10, p11⟩⟩
    refine ⟨v, M2, ?_, Or.inr ⟨setT T s S2, ?_, ?_, hrel⟩⟩
    · unfold f_X8_early
      rw [m_asks_ok h3 h8 ha1 hp, Option.bind_some]
      dsimp only
      rw [if_neg (by decide), p1, Option.bind_some, ck_pos i0, es, p6, told_eq q4, hv9, Option.bind_some]
    · unfold f_X7_early
      rw [ck_pos hin, es, q1, Option.bind_some]
      dsimp only
      rw [nmv_eq, hv9, Option.bind_some]
    · rw [p2.1 7 (by decide) (by decide) (by decide) (by decide) (by decide)]; rfl
  · have ha1 : -2147483648 ≤ p ∧ p < 2147483648 := ⟨hp1, hp2⟩
    refine ⟨i3 0, sF M 7 (i3 1), ?_, Or.inl (Or.inl ⟨T, ?_, rfl, Rel_thrown hr _⟩)⟩
    · unfold f_X8_early
      rw [m_asks_bad h3 h8 ha1 hp, Option.bind_some]
      dsimp only
      rw [if_pos l3_0.symm, l3_0]
    · unfold x_X7_early
      rw [x_st_bad h8 ha1 hp]
      rfl
theorem r_late : R_late Rel := by
  intro T M a1 hr
  obtain ⟨p, rfl, hp1, hp2⟩ := i3_ex a1
  obtain ⟨as, td, h8, ht, h1, h2, h3, h4, h5⟩ := id hr
  by_cases hp : 0 ≤ p ∧ p < T.2.1
  · obtain ⟨s, rfl⟩ : ∃ s : Nat, p = (s : Int) := ⟨p.toNat, by omega⟩
    have hs : s < T.2.1 := by omega
    obtain ⟨hv, hc, hm, hcc⟩ := h5 s hs
    have es : (i3 (s : Int)).toNatClampNeg = s := i3_nn (by omega)
    have hin := inS_of hs h8
    have i0 : inb (i3 (s : Int)) 8 := inbN (by omega) (by omega)
    have ha1 : -2147483648 ≤ (s : Int) ∧ (s : Int) < 2147483648 := ⟨hp1, hp2⟩
    have hx := HasMid_of hv hc
    obtain ⟨r, S2, q1, q2, q3, q4⟩ := cl_late hv ht.2 hc
    obtain ⟨M2, e2, l2, p1, p2, p3, p4, p5, p6, p7, p8, p9, p10, p11⟩ := m_bounds (M := sF M 7 (i3 0)) hv ht.2 (by omega) hx hm hcc
    have hu := Late_uniq hv q3 p9
    subst hu
    obtain ⟨v, hv9⟩ := told_some (r := r)
    have f9 : Mo (as s) M2 s := by
      obtain ⟨⟨a0, a1, a4, a7, a8, a9, a10⟩, b, c⟩ := hm
      refine ⟨⟨?_, ?_, ?_, ?_, ?_, ?_, ?_⟩, fun k hk => ?_, fun j hj => ?_⟩
      · rw [p2.2.1 0 (by omega)]; exact a0
      · rw [p2.2.1 1 (by omega)]; exact a1
      · rw [p2.2.1 4 (by omega)]; exact a4
      · rw [p2.2.1 7 (by omega)]; exact a7
      · rw [p2.2.1 8 (by omega)]; exact a8
      · rw [p3]; exact a9
      · rw [p4]; exact a10
      · rw [p2.2.1 2 (by omega), p2.2.1 3 (by omega)]; exact b k hk
      · rw [p2.2.1 5 (by omega), p2.2.1 6 (by omega)]; exact c j hj
    have hrel : Rel (setT T s S2) M2 := Rel_upd h8 ht h1 ((p2.1 0 (by decide) (by decide) (by decide) (by decide) (by decide)).trans h2) ((p2.1 1 (by decide) (by decide) (by decide) (by decide) (by decide)).trans h3) ((h4.a (M2 := sF M 7 (i3 0)) (fun _ _ => rfl)).l p2 hs) (fun t ht9 hts => by
      obtain ⟨a, b, c, d⟩ := h5 t ht9
      have c' : Mo (as t) (sF M 7 (i3 0)) t := c
      have d' : MoC (as t) (sF M 7 (i3 0)) t := d
      exact ⟨a, b, c'.l p2 hts, d'.l p2 hts⟩) ⟨hv, hc.fr q2, f9, Or.inr ⟨p5, _, _, p6, p7, p8, p9, p10, p11⟩⟩
    refine ⟨v, M2, ?_, Or.inr ⟨setT T s S2, ?_, ?_, hrel⟩⟩
    · unfold f_X8_late
      rw [m_asks_ok h3 h8 ha1 hp, Option.bind_some]
      dsimp only
      rw [if_neg (by decide), p1, Option.bind_some, ck_pos i0, es, p7, told_eq q4, hv9, Option.bind_some]
    · unfold f_X7_late
      rw [ck_pos hin, es, q1, Option.bind_some]
      dsimp only
      rw [nmv_eq, hv9, Option.bind_some]
    · rw [p2.1 7 (by decide) (by decide) (by decide) (by decide) (by decide)]; rfl
  · have ha1 : -2147483648 ≤ p ∧ p < 2147483648 := ⟨hp1, hp2⟩
    refine ⟨i3 0, sF M 7 (i3 1), ?_, Or.inl (Or.inl ⟨T, ?_, rfl, Rel_thrown hr _⟩)⟩
    · unfold f_X8_late
      rw [m_asks_bad h3 h8 ha1 hp, Option.bind_some]
      dsimp only
      rw [if_pos l3_0.symm, l3_0]
    · unfold x_X7_late
      rw [x_st_bad h8 ha1 hp]
      rfl
theorem c_slopeOf {T : TS} {M : St} {s : Nat} {as : Nat → AB} {td : Int} (h8 : T.2.1 ≤ 8) (ht : td ≤ 2000) (hs : s < T.2.1) (hv : Val td (as s)) (hc : Cl (as s) (T.2.2 s)) : (aN (as s) < 2 ∧ x_X7_slopeOf (i3 (s : Int)) T = some ("java/lang/IllegalStateException", T)) ∨ (2 ≤ aN (as s) ∧ x_X7_slopeOf (i3 (s : Int)) T = none ∧ ∃ x S2, f_X7_slopeOf (i3 (s : Int)) T = some (setT T s S2) ∧ FrS (T.2.2 s) S2 ∧ S2.1 8 = i3 (aDy (as s) (lastp (aN (as s)) (-1))) ∧ S2.1 9 = i3 (aUs (as s) (lastp (aN (as s)) (-1))) ∧ S2.1 10 = i3 x.1 ∧ S2.1 11 = i3 x.2 ∧ Mid (sl (as s) (-1)) x) := by
  have es : (i3 (s : Int)).toNatClampNeg = s := i3_nn (by omega)
  have hin := inS_of hs h8
  have hh := cl_hasSlope hc hv.2.2.2.1
  unfold x_X7_slopeOf f_X7_slopeOf
  rw [x_st_ok h8 hs]
  simp only [xc]
  rw [ck_pos hin, ck_pos hin, es, hh, Option.bind_some, Option.bind_some]
  by_cases c : aN (as s) < 2
  · left
    rw [if_pos c, if_pos l3_0.symm]
    exact ⟨c, rfl⟩
  · right
    rw [if_neg c, if_neg (by decide), if_neg (by decide), l3_m1]
    obtain ⟨x, S2, e1, e2, e3⟩ := cl_draw hv hc (o := -1) (Or.inl ⟨rfl, by omega⟩)
    rw [e1, Option.bind_some, Option.bind_some, nmv_eq, nmv_eq]
    exact ⟨by omega, rfl, x, S2, rfl, e2, e3⟩
theorem m_asksS_bad {M : St} {n : Nat} {a : Int} (h : M.1 1 = i3 n) (h8 : n ≤ 8) (ha : -2147483648 ≤ a ∧ a < 2147483648) (hp : ¬ (0 ≤ a ∧ a < n)) : f_X8_asksSlope (i3 a) M = some (i3 0, sF M 7 (i3 1)) := by
  unfold f_X8_asksSlope
  rw [m_isStore h h8 ha, if_neg hp, Option.bind_some, if_pos l3_0.symm, Option.bind_some, l3_1, m_goes (by omega), Option.bind_some]
  dsimp only
  rw [if_pos l3_0.symm, l3_0]
theorem m_asksS {M : St} {n s : Nat} {A : AB} {td : Int} (hv : Val td A) (ht : td ≤ 2000) (h : M.1 1 = i3 n) (h8 : n ≤ 8) (hs : s < n) (hm : Mo A M s) (hx : HasMid A) : (aN A < 2 ∧ f_X8_asksSlope (i3 (s : Int)) M = some (i3 0, sF M 7 (i3 2))) ∨ (2 ≤ aN A ∧ ∃ x M2, f_X8_asksSlope (i3 (s : Int)) M = some (i3 1, M2) ∧ FrM (sF M 7 (i3 0)) M2 ∧ Mid (sl A (-1)) x ∧ M2.1 3 = i3 (redN x) ∧ M2.1 4 = i3 (redD x) ∧ M2.1 5 = i3 (aDy A (lastp (aN A) (-1))) ∧ M2.1 6 = i3 (aUs A (lastp (aN A) (-1)))) := by
  have hn := hv.2.2.2.1
  have es : (i3 (s : Int)).toNatClampNeg = s := i3_nn (by omega)
  have i0 : inb (i3 (s : Int)) 8 := inbN (by omega) (by omega)
  unfold f_X8_asksSlope
  rw [m_isStore h h8 (by omega), if_pos (by omega), Option.bind_some, if_neg (by decide), ck_pos i0]
  simp (disch := omega) only [es, hm.1.2.1, l3_2, i3_le]
  by_cases c : aN A < 2
  · left
    rw [if_neg (by omega), Option.bind_some, m_goes (by omega), Option.bind_some]
    dsimp only
    rw [if_pos l3_0.symm, l3_0]
    exact ⟨c, rfl⟩
  · right
    rw [if_pos (by omega), Option.bind_some, l3_0, m_goes0, Option.bind_some]
    dsimp only
    rw [if_neg (by decide), l3_m1]
    have hok : oOk (aN A) (-1) := Or.inl ⟨rfl, by omega⟩
    obtain ⟨x, M2, q1, q2⟩ := m_finds (M := sF M 7 (i3 0)) hv ht (by omega) hm hok (hx.1 _ hok)
    rw [q1, Option.bind_some]
    dsimp only
    rw [if_neg (by decide), l3_1]
    exact ⟨by omega, x, M2, rfl, q2⟩
theorem r_slopeNumerator : R_slopeNumerator Rel := by
  intro T M a1 hr
  obtain ⟨p, rfl, hp1, hp2⟩ := i3_ex a1
  obtain ⟨as, td, h8, ht, h1, h2, h3, h4, h5⟩ := id hr
  by_cases hp : 0 ≤ p ∧ p < T.2.1
  · obtain ⟨s, rfl⟩ : ∃ s : Nat, p = (s : Int) := ⟨p.toNat, by omega⟩
    have hs : s < T.2.1 := by omega
    obtain ⟨hv, hc, hm, hcc⟩ := h5 s hs
    have es : (i3 (s : Int)).toNatClampNeg = s := i3_nn (by omega)
    have hin := inS_of hs h8
    have i0 : inb (i3 (s : Int)) 8 := inbN (by omega) (by omega)
    have ha1 : -2147483648 ≤ (s : Int) ∧ (s : Int) < 2147483648 := ⟨hp1, hp2⟩
    have hx := HasMid_of hv hc
    rcases m_asksS hv ht.2 h3 h8 hs hm hx with ⟨n2, hmm⟩ | ⟨n2, x, M2, p1, p2, p3, p4, p5, p6, p7⟩
    · rcases c_slopeOf (M := M) h8 ht.2 hs hv hc with ⟨-, hcs⟩ | ⟨n3, -⟩
      · refine ⟨i3 0, sF M 7 (i3 2), ?_, Or.inl (Or.inr (Or.inl ⟨T, ?_, rfl, Rel_thrown hr _⟩))⟩
        · unfold f_X8_slopeNumerator
          rw [hmm, Option.bind_some]
          dsimp only
          rw [if_pos l3_0.symm, l3_0]
        · unfold x_X7_slopeNumerator
          rw [hcs]
          rfl
      · omega
    · rcases c_slopeOf (M := M) h8 ht.2 hs hv hc with ⟨n3, -⟩ | ⟨n3, -, y, S2, q1, q2, q3, q4, q5, q6, q7⟩
      · omega
      · have bx := sl_bd hv ht.2 x p3.1
        have byy := sl_bd hv ht.2 y q7.1
        obtain ⟨e1, e2⟩ := red_uniq bx.2.2.1 byy.2.2.1 (Mid_uniq (fun z hz => (sl_mem hv hz).1) p3 q7)
        obtain ⟨w1, w2⟩ := cl_lowest byy q5 q6
        refine ⟨i3 (redN x), M2, ?_, Or.inr ⟨setT T s S2, ?_, ?_, Rel_fm (Rel_thrown (Rel_fs hr q2) _) p2⟩⟩
        · unfold f_X8_slopeNumerator
          rw [p1, Option.bind_some]
          dsimp only
          rw [if_neg (by decide), p4]
        · unfold f_X7_slopeNumerator
          have hlt : s < (setT T s S2).2.1 := hs
          have hS : (setT T s S2).2.2 s = S2 := if_pos rfl
          rw [ck_pos hin, q1, Option.bind_some]
          simp only [es]
          rw [ck_pos hlt, hS, w1, Option.bind_some, e1]
        · rw [p2.1 7 (by decide) (by decide) (by decide) (by decide) (by decide)]; rfl
  · have ha1 : -2147483648 ≤ p ∧ p < 2147483648 := ⟨hp1, hp2⟩
    refine ⟨i3 0, sF M 7 (i3 1), ?_, Or.inl (Or.inl ⟨T, ?_, rfl, Rel_thrown hr _⟩)⟩
    · unfold f_X8_slopeNumerator
      rw [m_asksS_bad h3 h8 ha1 hp, Option.bind_some]
      dsimp only
      rw [if_pos l3_0.symm, l3_0]
    · unfold x_X7_slopeNumerator
      rw [show x_X7_slopeOf (i3 p) T = some ("java/lang/IndexOutOfBoundsException", T) from by unfold x_X7_slopeOf; rw [x_st_bad h8 ha1 hp]; rfl]
      rfl
theorem r_slopeDenominator : R_slopeDenominator Rel := by
  intro T M a1 hr
  obtain ⟨p, rfl, hp1, hp2⟩ := i3_ex a1
  obtain ⟨as, td, h8, ht, h1, h2, h3, h4, h5⟩ := id hr
  by_cases hp : 0 ≤ p ∧ p < T.2.1
  · obtain ⟨s, rfl⟩ : ∃ s : Nat, p = (s : Int) := ⟨p.toNat, by omega⟩
    have hs : s < T.2.1 := by omega
    obtain ⟨hv, hc, hm, hcc⟩ := h5 s hs
    have es : (i3 (s : Int)).toNatClampNeg = s := i3_nn (by omega)
    have hin := inS_of hs h8
    have i0 : inb (i3 (s : Int)) 8 := inbN (by omega) (by omega)
    have ha1 : -2147483648 ≤ (s : Int) ∧ (s : Int) < 2147483648 := ⟨hp1, hp2⟩
    have hx := HasMid_of hv hc
    rcases m_asksS hv ht.2 h3 h8 hs hm hx with ⟨n2, hmm⟩ | ⟨n2, x, M2, p1, p2, p3, p4, p5, p6, p7⟩
    · rcases c_slopeOf (M := M) h8 ht.2 hs hv hc with ⟨-, hcs⟩ | ⟨n3, -⟩
      · refine ⟨i3 0, sF M 7 (i3 2), ?_, Or.inl (Or.inr (Or.inl ⟨T, ?_, rfl, Rel_thrown hr _⟩))⟩
        · unfold f_X8_slopeDenominator
          rw [hmm, Option.bind_some]
          dsimp only
          rw [if_pos l3_0.symm, l3_0]
        · unfold x_X7_slopeDenominator
          rw [hcs]
          rfl
      · omega
    · rcases c_slopeOf (M := M) h8 ht.2 hs hv hc with ⟨n3, -⟩ | ⟨n3, -, y, S2, q1, q2, q3, q4, q5, q6, q7⟩
      · omega
      · have bx := sl_bd hv ht.2 x p3.1
        have byy := sl_bd hv ht.2 y q7.1
        obtain ⟨e1, e2⟩ := red_uniq bx.2.2.1 byy.2.2.1 (Mid_uniq (fun z hz => (sl_mem hv hz).1) p3 q7)
        obtain ⟨w1, w2⟩ := cl_lowest byy q5 q6
        refine ⟨i3 (redD x), M2, ?_, Or.inr ⟨setT T s S2, ?_, ?_, Rel_fm (Rel_thrown (Rel_fs hr q2) _) p2⟩⟩
        · unfold f_X8_slopeDenominator
          rw [p1, Option.bind_some]
          dsimp only
          rw [if_neg (by decide), p5]
        · unfold f_X7_slopeDenominator
          have hlt : s < (setT T s S2).2.1 := hs
          have hS : (setT T s S2).2.2 s = S2 := if_pos rfl
          rw [ck_pos hin, q1, Option.bind_some]
          simp only [es]
          rw [ck_pos hlt, hS, w2, Option.bind_some, e2]
        · rw [p2.1 7 (by decide) (by decide) (by decide) (by decide) (by decide)]; rfl
  · have ha1 : -2147483648 ≤ p ∧ p < 2147483648 := ⟨hp1, hp2⟩
    refine ⟨i3 0, sF M 7 (i3 1), ?_, Or.inl (Or.inl ⟨T, ?_, rfl, Rel_thrown hr _⟩)⟩
    · unfold f_X8_slopeDenominator
      rw [m_asksS_bad h3 h8 ha1 hp, Option.bind_some]
      dsimp only
      rw [if_pos l3_0.symm, l3_0]
    · unfold x_X7_slopeDenominator
      rw [show x_X7_slopeOf (i3 p) T = some ("java/lang/IndexOutOfBoundsException", T) from by unfold x_X7_slopeOf; rw [x_st_bad h8 ha1 hp]; rfl]
      rfl
