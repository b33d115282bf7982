/-! Every call keeps the relation and answers alike: what is told -/
theorem FrX.rf (s : Nat) (M : St) : FrX s M M := ⟨rfl, rfl, fun _ _ _ => ⟨fun _ _ _ _ _ _ => rfl, fun _ _ => ⟨rfl, rfl⟩, fun _ _ => ⟨rfl, rfl⟩⟩⟩
theorem FrX.tr {s : Nat} {M M2 M3 : St} (h : FrX s M M2) (g : FrX s M2 M3) : FrX s M M3 := ⟨g.1.trans h.1, g.2.1.trans h.2.1, fun t ht h8 => by
  obtain ⟨a, b, c⟩ := h.2.2 t ht h8
  obtain ⟨a2, b2, c2⟩ := g.2.2 t ht h8
  exact ⟨fun j x1 x2 x3 x4 x5 => (a2 j x1 x2 x3 x4 x5).trans (a j x1 x2 x3 x4 x5), fun k hk => ⟨(b2 k hk).1.trans (b k hk).1, (b2 k hk).2.trans (b k hk).2⟩, fun k hk => ⟨(c2 k hk).1.trans (c k hk).1, (c2 k hk).2.trans (c k hk).2⟩⟩⟩
theorem FrX.f (s : Nat) (M : St) (k : Nat) (v : Int32) (h0 : k ≠ 0) (h1 : k ≠ 1) : FrX s M (sF M k v) := ⟨if_neg (Ne.symm h0), if_neg (Ne.symm h1), fun _ _ _ => ⟨fun _ _ _ _ _ _ => rfl, fun _ _ => ⟨rfl, rfl⟩, fun _ _ => ⟨rfl, rfl⟩⟩⟩
theorem FrX.a (s : Nat) (M : St) (j : Nat) (v : Int32) (hj : j ≠ 2 ∧ j ≠ 3 ∧ j ≠ 5 ∧ j ≠ 6) : FrX s M (sA M j s v) := ⟨rfl, rfl, fun t ht h8 => ⟨fun i hi a b c d => by
    by_cases e : i = j
    · subst e; rw [sA_same, if_neg ht]
    · rw [sA_ne _ _ _ _ _ e], fun k hk => ⟨by rw [sA_ne _ _ _ _ _ (Ne.symm hj.1)], by rw [sA_ne _ _ _ _ _ (Ne.symm hj.2.1)]⟩, fun k hk => ⟨by rw [sA_ne _ _ _ _ _ (Ne.symm hj.2.2.1)], by rw [sA_ne _ _ _ _ _ (Ne.symm hj.2.2.2)]⟩⟩⟩
theorem FrX.b (s : Nat) (M : St) (j q : Nat) (v : Int32) (hj : j = 2 ∨ j = 3) (hq : q < 12) : FrX s M (sA M j (12 * s + q) v) := ⟨rfl, rfl, fun t ht h8 => ⟨fun i hi a b c d => by rw [sA_ne _ _ _ _ _ (by omega)], fun k hk => by
    rcases hj with rfl | rfl
    · rw [sA_same, if_neg (by omega), sA_ne _ _ _ _ _ (by omega)]; exact ⟨rfl, rfl⟩
    · rw [sA_same, if_neg (by omega), sA_ne _ _ _ _ _ (by omega)]; exact ⟨rfl, rfl⟩, fun k hk => by
    rw [sA_ne _ _ _ _ _ (by omega), sA_ne _ _ _ _ _ (by omega)]; exact ⟨rfl, rfl⟩⟩⟩
theorem FrX.c (s : Nat) (M : St) (j q : Nat) (v : Int32) (hj : j = 5 ∨ j = 6) (hq : q < 60) : FrX s M (sA M j (60 * s + q) v) := ⟨rfl, rfl, fun t ht h8 => ⟨fun i hi a b c d => by rw [sA_ne _ _ _ _ _ (by omega)], fun k hk => by
    rw [sA_ne _ _ _ _ _ (by omega), sA_ne _ _ _ _ _ (by omega)]; exact ⟨rfl, rfl⟩, fun k hk => by
    rcases hj with rfl | rfl
    · rw [sA_same, if_neg (by omega), sA_ne _ _ _ _ _ (by omega)]; exact ⟨rfl, rfl⟩
    · rw [sA_same, if_neg (by omega), sA_ne _ _ _ _ _ (by omega)]; exact ⟨rfl, rfl⟩⟩⟩
theorem isZ_0 : isZ (0 : Int32) := by rw [l3_0]; exact isZ_bit (Or.inl rfl)
theorem isIn_1 {p : Int} (ha : -2147483648 ≤ p ∧ p < 2147483648) : f_X8_isIn (i3 p) 1 1000000 = some (i3 (if 1 ≤ p ∧ p ≤ 1000000 then 1 else 0)) := by
  rw [l3_1, l3_1000000]; exact m_isIn ha (by omega) (by omega)
theorem isIn_2 {p : Int} (ha : -2147483648 ≤ p ∧ p < 2147483648) : f_X8_isIn (i3 p) 0 1000000 = some (i3 (if 0 ≤ p ∧ p ≤ 1000000 then 1 else 0)) := by
  rw [l3_0, l3_1000000]; exact m_isIn ha (by omega) (by omega)
theorem isIn_3 {p : Int} (ha : -2147483648 ≤ p ∧ p < 2147483648) : f_X8_isIn (i3 p) 1 100000 = some (i3 (if 1 ≤ p ∧ p ≤ 100000 then 1 else 0)) := by
  rw [l3_1, l3_100000]; exact m_isIn ha (by omega) (by omega)
theorem isIn_4 {p : Int} (ha : -2147483648 ≤ p ∧ p < 2147483648) : f_X8_isIn (i3 p) 0 3000 = some (i3 (if 0 ≤ p ∧ p ≤ 3000 then 1 else 0)) := by
  rw [l3_0, l3_3000]; exact m_isIn ha (by omega) (by omega)
theorem isIn_5 {p : Int} (ha : -2147483648 ≤ p ∧ p < 2147483648) : f_X8_isIn (i3 p) 0 100 = some (i3 (if 0 ≤ p ∧ p ≤ 100 then 1 else 0)) := by
  rw [l3_0, l3_100]; exact m_isIn ha (by omega) (by omega)
theorem isIn_6 {p : Int} (ha : -2147483648 ≤ p ∧ p < 2147483648) : f_X8_isIn (i3 p) 1 100 = some (i3 (if 1 ≤ p ∧ p ≤ 100 then 1 else 0)) := by
  rw [l3_1, l3_100]; exact m_isIn ha (by omega) (by omega)
theorem rng_1 {p : Int} (h : 1 ≤ p ∧ p ≤ 1000000) : (1 : Int32) ≤ i3 p ∧ i3 p ≤ (1000000 : Int32) := by
  rw [l3_1, l3_1000000]; exact rng_ok (by omega) (by omega) (by omega) h
theorem dem_1 {p : Int} (ha : -2147483648 ≤ p ∧ p < 2147483648) (h : 1 ≤ p ∧ p ≤ 1000000) : x_X7_demandRange (i3 p) (1 : Int32) (1000000 : Int32) = none := by
  rw [l3_1, l3_1000000]; exact x_dem_ok ha (by omega) (by omega) h
theorem deb_1 {p : Int} (ha : -2147483648 ≤ p ∧ p < 2147483648) (h : ¬ (1 ≤ p ∧ p ≤ 1000000)) : x_X7_demandRange (i3 p) (1 : Int32) (1000000 : Int32) = some "java/lang/IllegalArgumentException" := by
  rw [l3_1, l3_1000000]; exact x_dem_bad ha (by omega) (by omega) h
theorem rng_2 {p : Int} (h : 0 ≤ p ∧ p ≤ 1000000) : (0 : Int32) ≤ i3 p ∧ i3 p ≤ (1000000 : Int32) := by
  rw [l3_0, l3_1000000]; exact rng_ok (by omega) (by omega) (by omega) h
theorem dem_2 {p : Int} (ha : -2147483648 ≤ p ∧ p < 2147483648) (h : 0 ≤ p ∧ p ≤ 1000000) : x_X7_demandRange (i3 p) (0 : Int32) (1000000 : Int32) = none := by
  rw [l3_0, l3_1000000]; exact x_dem_ok ha (by omega) (by omega) h
theorem deb_2 {p : Int} (ha : -2147483648 ≤ p ∧ p < 2147483648) (h : ¬ (0 ≤ p ∧ p ≤ 1000000)) : x_X7_demandRange (i3 p) (0 : Int32) (1000000 : Int32) = some "java/lang/IllegalArgumentException" := by
  rw [l3_0, l3_1000000]; exact x_dem_bad ha (by omega) (by omega) h
theorem rng_3 {p : Int} (h : 1 ≤ p ∧ p ≤ 100000) : (1 : Int32) ≤ i3 p ∧ i3 p ≤ (100000 : Int32) := by
  rw [l3_1, l3_100000]; exact rng_ok (by omega) (by omega) (by omega) h
theorem dem_3 {p : Int} (ha : -2147483648 ≤ p ∧ p < 2147483648) (h : 1 ≤ p ∧ p ≤ 100000) : x_X7_demandRange (i3 p) (1 : Int32) (100000 : Int32) = none := by
  rw [l3_1, l3_100000]; exact x_dem_ok ha (by omega) (by omega) h
theorem deb_3 {p : Int} (ha : -2147483648 ≤ p ∧ p < 2147483648) (h : ¬ (1 ≤ p ∧ p ≤ 100000)) : x_X7_demandRange (i3 p) (1 : Int32) (100000 : Int32) = some "java/lang/IllegalArgumentException" := by
  rw [l3_1, l3_100000]; exact x_dem_bad ha (by omega) (by omega) h
theorem rng_4 {p : Int} (h : 0 ≤ p ∧ p ≤ 3000) : (0 : Int32) ≤ i3 p ∧ i3 p ≤ (3000 : Int32) := by
  rw [l3_0, l3_3000]; exact rng_ok (by omega) (by omega) (by omega) h
theorem dem_4 {p : Int} (ha : -2147483648 ≤ p ∧ p < 2147483648) (h : 0 ≤ p ∧ p ≤ 3000) : x_X7_demandRange (i3 p) (0 : Int32) (3000 : Int32) = none := by
  rw [l3_0, l3_3000]; exact x_dem_ok ha (by omega) (by omega) h
theorem deb_4 {p : Int} (ha : -2147483648 ≤ p ∧ p < 2147483648) (h : ¬ (0 ≤ p ∧ p ≤ 3000)) : x_X7_demandRange (i3 p) (0 : Int32) (3000 : Int32) = some "java/lang/IllegalArgumentException" := by
  rw [l3_0, l3_3000]; exact x_dem_bad ha (by omega) (by omega) h
theorem rng_5 {p : Int} (h : 0 ≤ p ∧ p ≤ 100) : (0 : Int32) ≤ i3 p ∧ i3 p ≤ (100 : Int32) := by
  rw [l3_0, l3_100]; exact rng_ok (by omega) (by omega) (by omega) h
theorem dem_5 {p : Int} (ha : -2147483648 ≤ p ∧ p < 2147483648) (h : 0 ≤ p ∧ p ≤ 100) : x_X7_demandRange (i3 p) (0 : Int32) (100 : Int32) = none := by
  rw [l3_0, l3_100]; exact x_dem_ok ha (by omega) (by omega) h
theorem deb_5 {p : Int} (ha : -2147483648 ≤ p ∧ p < 2147483648) (h : ¬ (0 ≤ p ∧ p ≤ 100)) : x_X7_demandRange (i3 p) (0 : Int32) (100 : Int32) = some "java/lang/IllegalArgumentException" := by
  rw [l3_0, l3_100]; exact x_dem_bad ha (by omega) (by omega) h
theorem rng_6 {p : Int} (h : 1 ≤ p ∧ p ≤ 100) : (1 : Int32) ≤ i3 p ∧ i3 p ≤ (100 : Int32) := by
  rw [l3_1, l3_100]; exact rng_ok (by omega) (by omega) (by omega) h
theorem dem_6 {p : Int} (ha : -2147483648 ≤ p ∧ p < 2147483648) (h : 1 ≤ p ∧ p ≤ 100) : x_X7_demandRange (i3 p) (1 : Int32) (100 : Int32) = none := by
  rw [l3_1, l3_100]; exact x_dem_ok ha (by omega) (by omega) h
theorem deb_6 {p : Int} (ha : -2147483648 ≤ p ∧ p < 2147483648) (h : ¬ (1 ≤ p ∧ p ≤ 100)) : x_X7_demandRange (i3 p) (1 : Int32) (100 : Int32) = some "java/lang/IllegalArgumentException" := by
  rw [l3_1, l3_100]; exact x_dem_bad ha (by omega) (by omega) h
theorem r_addStore : R_addStore Rel := by
  intro T M a1 hr
  obtain ⟨p, rfl, hp1, hp2⟩ := i3_ex a1
  obtain ⟨as, td, h8, ht, h1, h2, h3, h4, h5⟩ := id hr
  have ha1 : -2147483648 ≤ p ∧ p < 2147483648 := ⟨hp1, hp2⟩
  by_cases hp : 1 ≤ p ∧ p ≤ 1000000
  · by_cases hn : T.2.1 < 8
    · have e8 : ¬ M.1 1 = (8 : Int32) := by rw [h3, l3_8, i3_eq (by omega) (by omega) (by omega) (by omega)]; omega
      have en : (i3 (T.2.1 : Int)).toNatClampNeg = T.2.1 := i3_nn (by omega)
      refine ⟨nI T.2.1, sF (sA (sF M 7 (i3 0)) 0 T.2.1 (i3 p)) 1 (i3 ((T.2.1 : Int) + 1)), ?_, Or.inr ⟨addT T (i3 p), ?_, rfl, ?_⟩⟩
      · have g1 : (sF M 7 (i3 0)).1 1 = i3 (T.2.1 : Int) := h3
        have g2 : (sA (sF M 7 (i3 0)) 0 T.2.1 (i3 p)).1 1 = i3 (T.2.1 : Int) := h3
        unfold f_X8_addStore
        rw [isIn_1 ha1, if_pos hp, Option.bind_some, if_neg (by decide), if_neg e8, Option.bind_some, m_goes0', Option.bind_some]
        dsimp only
        rw [if_neg (by decide), g1, ck_pos (inbN hn (by omega)), en]
        simp only [nmv_eq]
        rw [g2, l3_1, i3_add, sF_1, if_pos rfl, i3_sub, nI_i3, Int.add_sub_cancel]
      · unfold ffAdd
        rw [if_pos ⟨rng_1 hp, hn⟩]
      · have fx : FrX T.2.1 M (sA (sF M 7 (i3 0)) 0 T.2.1 (i3 p)) := (FrX.f _ M 7 _ (by decide) (by decide)).tr (FrX.a _ _ 0 _ (by decide))
        refine ⟨fun s => if s = T.2.1 then newA p else as s, td, hn, ht, h1, h2, rfl, ?_, fun s hs => ?_⟩
        · intro t q1 q2
          have q3 : T.2.1 + 1 ≤ t := q1
          exact h4 t (by omega) q2
        · have hs2 : s < T.2.1 + 1 := hs
          show Val td (if s = T.2.1 then newA p else as s) ∧ Cl (if s = T.2.1 then newA p else as s) (if s = T.2.1 then initS (i3 p) else T.2.2 s) ∧ Mo (if s = T.2.1 then newA p else as s) _ s ∧ MoC (if s = T.2.1 then newA p else as s) _ s
          by_cases c : s = T.2.1
          · subst c
            rw [if_pos rfl, if_pos rfl]
            obtain ⟨f1, f4, f7, f8, f9, f10, f11⟩ := h4 T.2.1 (Nat.le_refl _) hn
            refine ⟨Val_new hp, cl_new, ⟨⟨?_, f1, f4, f7, f8, f9, f10⟩, fun k hk => absurd hk (Nat.not_lt_zero _), fun k hk => absurd hk (Nat.not_lt_zero _)⟩, Or.inl f11⟩
            show (sA (sF M 7 (i3 0)) 0 T.2.1 (i3 p)).2 0 T.2.1 = i3 p
            rw [sA_same, if_pos rfl]
          · rw [if_neg c, if_neg c]
            obtain ⟨x1, x2, x3, x4⟩ := h5 s (by omega)
            have y3 := x3.x x1 fx c (by omega)
            have y4 := x4.x fx c (by omega)
            exact ⟨x1, x2, y3, y4⟩
    · have e8 : M.1 1 = (8 : Int32) := by rw [h3, l3_8, show T.2.1 = 8 by omega]; rfl
      refine ⟨i3 0, sF M 7 (i3 2), ?_, Or.inl (Or.inr (Or.inl ⟨T, ?_, rfl, Rel_thrown hr _⟩))⟩
      · unfold f_X8_addStore
        rw [isIn_1 ha1, if_pos hp, Option.bind_some, if_neg (by decide), if_pos e8, Option.bind_some, m_goes2', Option.bind_some]
        dsimp only
        rw [if_pos l3_0.symm, l3_0]
      · unfold x_X7_addStore
        rw [dem_1 ha1 hp, ck_pos (rng_1 hp), if_neg (by rw [nI_i3, l3_8, i3_lt (by omega) (by omega) (by omega) (by omega)]; omega)]
        rfl
  · refine ⟨i3 0, sF M 7 (i3 1), ?_, Or.inl (Or.inl ⟨T, ?_, rfl, Rel_thrown hr _⟩)⟩
    · unfold f_X8_addStore
      rw [isIn_1 ha1, if_neg hp, Option.bind_some, if_pos l3_0.symm, Option.bind_some, m_goes1', Option.bind_some]
      dsimp only
      rw [if_pos l3_0.symm, l3_0]
    · unfold x_X7_addStore
      rw [deb_1 ha1 hp]
      rfl
theorem r_setSize : R_setSize Rel := by
  intro T M a1 a2 hr
  obtain ⟨p, rfl, hp1, hp2⟩ := i3_ex a1
  obtain ⟨z, rfl, z1, z2⟩ := i3_ex a2
  have ha2 : -2147483648 ≤ z ∧ z < 2147483648 := ⟨z1, z2⟩
  obtain ⟨as, td, h8, ht, h1, h2, h3, h4, h5⟩ := id hr
  have ha1 : -2147483648 ≤ p ∧ p < 2147483648 := ⟨hp1, hp2⟩
  by_cases hp : 0 ≤ p ∧ p < T.2.1
  · obtain ⟨s, rfl⟩ : ∃ s : Nat, p = (s : Int) := ⟨p.toNat, by omega⟩
    have hs : s < T.2.1 := by omega
    obtain ⟨hv, hc, hm, hcc⟩ := h5 s hs
    have es : (i3 (s : Int)).toNatClampNeg = s := i3_nn (by omega)
    have hin := inS_of hs h8
    have i0 : inb (i3 (s : Int)) 8 := inbN (by omega) (by omega)
    by_cases hz : 1 ≤ z ∧ z ≤ 1000000
    · refine ⟨i3 (aSz (as s)), sA (sA (sF M 7 (i3 0)) 0 s (i3 z)) 11 s (i3 0), ?_, Or.inr ⟨setT T s (sF (T.2.2 s) 0 (i3 z)), ?_, rfl, ?_⟩⟩
      · unfold f_X8_setSize
        rw [m_isStore h3 h8 ha1, if_pos hp, Option.bind_some, if_neg (by decide), isIn_1 ha2, if_pos hz, Option.bind_some, if_neg (by decide), Option.bind_some, m_goes0', Option.bind_some]
        dsimp only
        rw [if_neg (by decide)]
        simp only [ck_pos i0, nmv_eq, es]
        rw [ck_pos isZ_0, sF_2, hm.1.1, l3_0]
      · unfold f_X7_setSize
        rw [ck_pos hin, ck_pos (rng_1 hz)]
        simp only [nmv_eq, es]
        rw [hc.1.1]
      · refine Rel_x h8 ht h1 h2 h3 h4 h5 hs ?_ (Val_setZ hv hz) (cl_setSize hc) ⟨⟨?_, hm.1.2⟩, hm.2⟩ ?_
        · exact ((FrX.f _ M 7 _ (by decide) (by decide)).tr (FrX.a _ _ 0 _ (by decide))).tr (FrX.a _ _ 11 _ (by decide))
        · rw [sA_ne _ _ _ _ _ (by decide), sA_same, if_pos rfl]; rfl
        · rw [sA_same, if_pos rfl]
    · refine ⟨i3 0, sF M 7 (i3 2), ?_, Or.inl (Or.inr (Or.inl ⟨T, ?_, rfl, Rel_thrown hr _⟩))⟩
      · unfold f_X8_setSize
        rw [m_isStore h3 h8 ha1, if_pos hp, Option.bind_some, if_neg (by decide), isIn_1 ha2, if_neg hz, Option.bind_some, if_pos l3_0.symm, Option.bind_some, m_goes2', Option.bind_some]
        dsimp only
        rw [if_pos l3_0.symm, l3_0]
      · unfold x_X7_setSize
        rw [x_st_ok h8 hs]
        simp only [xc]
        rw [ck_pos hin, deb_1 ha2 hz]
        rfl
  · refine ⟨i3 0, sF M 7 (i3 1), ?_, Or.inl (Or.inl ⟨T, ?_, rfl, Rel_thrown hr _⟩)⟩
    · unfold f_X8_setSize
      rw [m_isStore h3 h8 ha1, if_neg hp, Option.bind_some, if_pos l3_0.symm, Option.bind_some, m_goes1', Option.bind_some]
      dsimp only
      rw [if_pos l3_0.symm, l3_0]
    · unfold x_X7_setSize
      rw [x_st_bad h8 ha1 hp]
      rfl
theorem r_clean : R_clean Rel := by
  intro T M a1 a2 hr
  obtain ⟨p, rfl, hp1, hp2⟩ := i3_ex a1
  obtain ⟨z, rfl, z1, z2⟩ := i3_ex a2
  have ha2 : -2147483648 ≤ z ∧ z < 2147483648 := ⟨z1, z2⟩
  obtain ⟨as, td, h8, ht, h1, h2, h3, h4, h5⟩ := id hr
  have ha1 : -2147483648 ≤ p ∧ p < 2147483648 := ⟨hp1, hp2⟩
  by_cases hp : 0 ≤ p ∧ p < T.2.1
  · obtain ⟨s, rfl⟩ : ∃ s : Nat, p = (s : Int) := ⟨p.toNat, by omega⟩
    have hs : s < T.2.1 := by omega
    obtain ⟨hv, hc, hm, hcc⟩ := h5 s hs
    have es : (i3 (s : Int)).toNatClampNeg = s := i3_nn (by omega)
    have hin := inS_of hs h8
    have i0 : inb (i3 (s : Int)) 8 := inbN (by omega) (by omega)
    by_cases hz : 1 ≤ z ∧ z ≤ 100000
    · have hm60 := hv.2.2.2.2.2.2.1
      have e4 : (sF M 7 (i3 0)).2 4 s = i3 (aM (as s)) := hm.1.2.2.1
      have e4' : M.2 4 s = i3 (aM (as s)) := hm.1.2.2.1
      have e5 : M.2 4 (i3 (s : Int)).toNatClampNeg = i3 (aM (as s)) := by rw [es]; exact e4'
      have c4 : f_X0_number (T.2.2 s) = some (i3 (aM (as s))) := by unfold f_X0_number; rw [hc.1.2.2.1]
      by_cases hl : aM (as s) < 60
      · have g0 : i3 60 * i3 (s : Int) + i3 (aM (as s) : Int) = i3 ((60 * s + aM (as s) : Nat) : Int) := by
          rw [i3_mul, i3_add]; congr 1
        have gi : inb (i3 ((60 * s + aM (as s) : Nat) : Int)) 480 := inbN (by omega) (by omega)
        have gn : (i3 ((60 * s + aM (as s) : Nat) : Int)).toNatClampNeg = 60 * s + aM (as s) := i3_nn (by omega)
        obtain ⟨S2, q1, q2⟩ := cl_tellFreed hv ht hz hl hc
        refine ⟨i3 ((aM (as s) : Int) + 1), sA (sA (sA (sA (sF M 7 (i3 0)) 5 (60 * s + aM (as s)) (i3 td)) 6 (60 * s + aM (as s)) (i3 z)) 4 s (i3 ((aM (as s) : Int) + 1))) 11 s (i3 0), ?_, Or.inr ⟨setT T s S2, ?_, rfl, ?_⟩⟩
        · have k1 : (sA (sA (sF M 7 (i3 0)) 5 (60 * s + aM (as s)) (i3 td)) 6 (60 * s + aM (as s)) (i3 z)).2 4 s = i3 (aM (as s)) := e4'
          have k2 : (sF M 7 (i3 0)).1 0 = i3 td := h2
          have k3 : (sA (sA (sA (sA (sF M 7 (i3 0)) 5 (60 * s + aM (as s)) (i3 td)) 6 (60 * s + aM (as s)) (i3 z)) 4 s (i3 ((aM (as s) : Int) + 1))) 11 s (i3 0)).2 4 s = i3 ((aM (as s) : Int) + 1) := by
            rw [sA_ne _ _ _ _ _ (by decide), sA_same, if_pos rfl]
          unfold f_X8_clean
          rw [m_isStore h3 h8 ha1, if_pos hp, Option.bind_some, if_neg (by decide), isIn_3 ha2, if_pos hz, Option.bind_some, if_neg (by decide), ck_pos i0, if_neg (by rw [e5, l3_60, i3_eq (by omega) (by omega) (by omega) (by omega)]; omega), Option.bind_some, m_goes0', Option.bind_some]
          dsimp only
          have g9 : (60 : Int32) * i3 (s : Int) + (sF M 7 (i3 0)).2 4 s = i3 ((60 * s + aM (as s) : Nat) : Int) := by rw [e4, l3_60, g0]
          rw [if_neg (by decide)]
          simp only [ck_pos i0, nmv_eq, g9, ck_pos gi, gn, k2, es, k1, l3_1, i3_add, ck_pos isZ_0]
          rw [l3_0, k3]
        · have hS : (setT T s S2).2.2 s = S2 := if_pos rfl
          unfold f_X7_clean
          rw [ck_pos hin, ck_pos (rng_3 hz), es, c4, Option.bind_some, if_pos (by rw [l3_60, i3_lt (by omega) (by omega) (by omega) (by omega)]; omega), h1, q1, Option.bind_some, nmv_eq, hS]
          have c5 : f_X0_number S2 = some (i3 ((aM (as s) : Int) + 1)) := by
            unfold f_X0_number
            rw [q2.1.2.2.1]
            rfl
          rw [c5, Option.bind_some]
        · refine Rel_x h8 ht h1 h2 h3 h4 h5 hs ?_ (Val_addC hv ht.1 hz hl) q2 ⟨⟨hm.1.1, hm.1.2.1, ?_, hm.1.2.2.2⟩, hm.2.1, fun j hj => ?_⟩ ?_
          · exact ((((FrX.f _ M 7 _ (by decide) (by decide)).tr (FrX.c _ _ 5 _ _ (Or.inl rfl) hl)).tr (FrX.c _ _ 6 _ _ (Or.inr rfl) hl)).tr (FrX.a _ _ 4 _ (by decide))).tr (FrX.a _ _ 11 _ (by decide))
          · rw [sA_ne _ _ _ _ _ (by decide), sA_same, if_pos rfl]; rfl
          · have hj2 : j < aM (as s) + 1 := hj
            rw [sA_ne _ _ _ _ _ (by decide), sA_ne _ _ _ _ _ (by decide), sA_ne _ _ _ _ _ (by decide), sA_same, sA_ne _ _ _ _ _ (by decide), sA_ne _ _ _ _ _ (by decide), sA_same, sA_ne _ _ _ _ _ (by decide)]
            show (if 60 * s + j = 60 * s + aM (as s) then i3 td else M.2 5 (60 * s + j)) = i3 (if j = aM (as s) then td else aCd (as s) j) ∧ (if 60 * s + j = 60 * s + aM (as s) then i3 z else M.2 6 (60 * s + j)) = i3 (if j = aM (as s) then z else aCf (as s) j)
            by_cases c : j = aM (as s)
            · rw [if_pos (by omega), if_pos c, if_pos (by omega), if_pos c]; exact ⟨rfl, rfl⟩
            · rw [if_neg (by omega), if_neg c, if_neg (by omega), if_neg c]; exact hm.2.2 j (by omega)
          · rw [sA_same, if_pos rfl]
      · refine ⟨i3 0, sF M 7 (i3 3), ?_, Or.inl (Or.inr (Or.inr (Or.inl ⟨T, ?_, rfl, Rel_thrown hr _⟩)))⟩
        · unfold f_X8_clean
          rw [m_isStore h3 h8 ha1, if_pos hp, Option.bind_some, if_neg (by decide), isIn_3 ha2, if_pos hz, Option.bind_some, if_neg (by decide), ck_pos i0, if_pos (by rw [e5, l3_60, i3_eq (by omega) (by omega) (by omega) (by omega)]; omega), Option.bind_some, m_goes3', Option.bind_some]
          dsimp only
          rw [if_pos l3_0.symm, l3_0]
        · unfold x_X7_clean
          rw [x_st_ok h8 hs]
          simp only [xc]
          rw [ck_pos hin, dem_3 ha2 hz, ck_pos (rng_3 hz), es, c4, Option.bind_some, if_neg (by rw [l3_60, i3_lt (by omega) (by omega) (by omega) (by omega)]; omega)]
          rfl
    · refine ⟨i3 0, sF M 7 (i3 2), ?_, Or.inl (Or.inr (Or.inl ⟨T, ?_, rfl, Rel_thrown hr _⟩))⟩
      · unfold f_X8_clean
        rw [m_isStore h3 h8 ha1, if_pos hp, Option.bind_some, if_neg (by decide), isIn_3 ha2, if_neg hz, Option.bind_some, if_pos l3_0.symm, Option.bind_some, m_goes2', Option.bind_some]
        dsimp only
        rw [if_pos l3_0.symm, l3_0]
      · unfold x_X7_clean
        rw [x_st_ok h8 hs]
        simp only [xc]
        rw [ck_pos hin, deb_3 ha2 hz]
        rfl
  · refine ⟨i3 0, sF M 7 (i3 1), ?_, Or.inl (Or.inl ⟨T, ?_, rfl, Rel_thrown hr _⟩)⟩
    · unfold f_X8_clean
      rw [m_isStore h3 h8 ha1, if_neg hp, Option.bind_some, if_pos l3_0.symm, Option.bind_some, m_goes1', Option.bind_some]
      dsimp only
      rw [if_pos l3_0.symm, l3_0]
    · unfold x_X7_clean
      rw [x_st_bad h8 ha1 hp]
      rfl
theorem r_setRule : R_setRule Rel := by
  intro T M a1 a2 a3 hr
  obtain ⟨p, rfl, hp1, hp2⟩ := i3_ex a1
  obtain ⟨z, rfl, z1, z2⟩ := i3_ex a2
  have ha2 : -2147483648 ≤ z ∧ z < 2147483648 := ⟨z1, z2⟩
  obtain ⟨w, rfl, w1, w2⟩ := i3_ex a3
  have ha3 : -2147483648 ≤ w ∧ w < 2147483648 := ⟨w1, w2⟩
  obtain ⟨as, td, h8, ht, h1, h2, h3, h4, h5⟩ := id hr
  have ha1 : -2147483648 ≤ p ∧ p < 2147483648 := ⟨hp1, hp2⟩
  by_cases hp : 0 ≤ p ∧ p < T.2.1
  · obtain ⟨s, rfl⟩ : ∃ s : Nat, p = (s : Int) := ⟨p.toNat, by omega⟩
    have hs : s < T.2.1 := by omega
    obtain ⟨hv, hc, hm, hcc⟩ := h5 s hs
    have es : (i3 (s : Int)).toNatClampNeg = s := i3_nn (by omega)
    have hin := inS_of hs h8
    have i0 : inb (i3 (s : Int)) 8 := inbN (by omega) (by omega)
    have ok4 : ∀ r4 : Int32, (f_X8_isStore (i3 (s : Int)) M).bind (fun (r10 : Int32) => if r10 = 0 then some ((1 : Int32)) else if r4 = 0 then some ((2 : Int32)) else some ((0 : Int32))) = some (if r4 = 0 then 2 else 0) := by
      intro r4
      rw [m_isStore h3 h8 ha1, if_pos hp, Option.bind_some, if_neg (by decide)]
      split <;> rfl
    have hstep : ∀ (hzw : ¬ ((0 ≤ z ∧ z ≤ 3000) ∧ 0 ≤ w ∧ w ≤ 100)), f_X8_setRule (i3 (s : Int)) (i3 z) (i3 w) M = some (sF M 7 (i3 2)) := by
      intro hzw
      unfold f_X8_setRule
      rw [isIn_4 ha2, Option.bind_some]
      by_cases hz : 0 ≤ z ∧ z ≤ 3000
      · have hw : ¬ (0 ≤ w ∧ w ≤ 100) := fun q => hzw ⟨hz, q⟩
        rw [if_pos hz, if_neg (by decide), isIn_5 ha3, if_neg hw, Option.bind_some, if_pos l3_0.symm, Option.bind_some, m_isStore h3 h8 ha1, if_pos hp, Option.bind_some, if_neg (by decide), if_pos rfl, Option.bind_some, m_goes2', Option.bind_some]
        dsimp only
        rw [if_pos l3_0.symm]
      · rw [if_neg hz, if_pos l3_0.symm, Option.bind_some, m_isStore h3 h8 ha1, if_pos hp, Option.bind_some, if_neg (by decide), if_pos rfl, Option.bind_some, m_goes2', Option.bind_some]
        dsimp only
        rw [if_pos l3_0.symm]
    by_cases hz : 0 ≤ z ∧ z ≤ 3000
    · by_cases hw : 0 ≤ w ∧ w ≤ 100
      · obtain ⟨q1, q2⟩ := cl_setRule (fr := z) (ev := w) hc
        refine ⟨sA (sA (sA (sF M 7 (i3 0)) 7 s (i3 z)) 8 s (i3 w)) 11 s (i3 0), ?_, Or.inr ⟨setT T s (sF (sF (T.2.2 s) 6 (i3 z)) 7 (i3 w)), ?_, rfl, ?_⟩⟩
        · unfold f_X8_setRule
          rw [isIn_4 ha2, Option.bind_some, if_pos hz, if_neg (by decide), isIn_5 ha3, if_pos hw, Option.bind_some, if_neg (by decide), Option.bind_some, m_isStore h3 h8 ha1, if_pos hp, Option.bind_some, if_neg (by decide), if_neg (by decide), Option.bind_some, m_goes0', Option.bind_some]
          dsimp only
          rw [if_neg (by decide), ck_pos i0, nmv_eq, ck_pos i0, nmv_eq, ck_pos i0, ck_pos isZ_0, nmv_eq, es, l3_0]
        · unfold f_X7_setRule
          rw [ck_pos hin, ck_pos (rng_4 hz), ck_pos (rng_5 hw), es, q1, Option.bind_some, nmv_eq]
        · refine Rel_x h8 ht h1 h2 h3 h4 h5 hs ?_ (Val_setR hv hz hw) q2 ⟨⟨hm.1.1, hm.1.2.1, hm.1.2.2.1, ?_, ?_, hm.1.2.2.2.2.2⟩, hm.2⟩ ?_
          · exact (((FrX.f _ M 7 _ (by decide) (by decide)).tr (FrX.a _ _ 7 _ (by decide))).tr (FrX.a _ _ 8 _ (by decide))).tr (FrX.a _ _ 11 _ (by decide))
          · rw [sA_ne _ _ _ _ _ (by decide), sA_ne _ _ _ _ _ (by decide), sA_same, if_pos rfl]; rfl
          · rw [sA_ne _ _ _ _ _ (by decide), sA_same, if_pos rfl]; rfl
          · rw [sA_same, if_pos rfl]
      · refine ⟨sF M 7 (i3 2), hstep (fun q => hw q.2), Or.inl (Or.inr (Or.inl ⟨T, ?_, rfl, Rel_thrown hr _⟩))⟩
        unfold x_X7_setRule
        rw [x_st_ok h8 hs]
        simp only [xc]
        rw [ck_pos hin, dem_4 ha2 hz, ck_pos (rng_4 hz), deb_5 ha3 hw]
        rfl
    · refine ⟨sF M 7 (i3 2), hstep (fun q => hz q.1), Or.inl (Or.inr (Or.inl ⟨T, ?_, rfl, Rel_thrown hr _⟩))⟩
      unfold x_X7_setRule
      rw [x_st_ok h8 hs]
      simp only [xc]
      rw [ck_pos hin, deb_4 ha2 hz]
      rfl
  · refine ⟨sF M 7 (i3 1), ?_, Or.inl (Or.inl ⟨T, ?_, rfl, Rel_thrown hr _⟩)⟩
    · have hh : ∀ r4 : Int32, (f_X8_isStore (i3 p) M).bind (fun (r10 : Int32) => (if r10 = 0 then some ((1 : Int32)) else if r4 = 0 then some ((2 : Int32)) else some ((0 : Int32))).bind (fun (r14 : Int32) => (f_X8_goes r14 M).bind (fun ((r18, S19) : Int32 × St) => if r18 = 0 then some S19 else ck (inb (i3 p) 8) (nmv (sA S19 7 (i3 p).toNatClampNeg (i3 z)) (fun (S23 : St) => ck (inb (i3 p) 8) (nmv (sA S23 8 (i3 p).toNatClampNeg (i3 w)) (fun (S25 : St) => ck (inb (i3 p) 8) (ck (isZ ((0 : Int32))) (nmv (sA S25 11 (i3 p).toNatClampNeg ((0 : Int32))) (fun (S28 : St) => some S28)))))))))) = some (sF M 7 (i3 1)) := by
        intro r4
        rw [m_isStore h3 h8 ha1, if_neg hp, Option.bind_some, if_pos l3_0.symm, Option.bind_some, m_goes1', Option.bind_some]
        dsimp only
        rw [if_pos l3_0.symm]
      unfold f_X8_setRule
      rw [isIn_4 ha2, Option.bind_some]
      by_cases hz : 0 ≤ z ∧ z ≤ 3000
      · rw [if_pos hz, if_neg (by decide), isIn_5 ha3, Option.bind_some]
        by_cases hw : 0 ≤ w ∧ w ≤ 100
        · rw [if_pos hw, if_neg (by decide), Option.bind_some]; exact hh _
        · rw [if_neg hw, if_pos l3_0.symm, Option.bind_some]; exact hh _
      · rw [if_neg hz, if_pos l3_0.symm, Option.bind_some]; exact hh _
    · unfold x_X7_setRule
      rw [x_st_bad h8 ha1 hp]
      rfl
