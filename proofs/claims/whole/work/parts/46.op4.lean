/-! Every call keeps the relation and answers alike: a forecast -/
theorem lastp_lt {n : Nat} (h : 2 ≤ n) : lastp n (-1) < n := by unfold lastp; split <;> omega
theorem r_forecast : R_forecast Rel := by
  intro T M a1 a2 hr
  obtain ⟨p, rfl, hp1, hp2⟩ := i3_ex a1
  obtain ⟨z, rfl, z1, z2⟩ := i3_ex a2
  have ha2 : -2147483648 ≤ z ∧ z < 2147483648 := ⟨z1, z2⟩
  obtain ⟨as, td, h8, ht, h1, h2, h3, h4, h5⟩ := id hr
  have ha1 : -2147483648 ≤ p ∧ p < 2147483648 := ⟨hp1, hp2⟩
  by_cases hp : 0 ≤ p ∧ p < T.2.1
  · obtain ⟨s, rfl⟩ : ∃ s : Nat, p = (s : Int) := ⟨p.toNat, by omega⟩
    have hs : s < T.2.1 := by omega
    obtain ⟨hv, hc, hm, hcc⟩ := h5 s hs
    have es : (i3 (s : Int)).toNatClampNeg = s := i3_nn (by omega)
    have hin := inS_of hs h8
    have i0 : inb (i3 (s : Int)) 8 := inbN (by omega) (by omega)
    have hx := HasMid_of hv hc
    rcases m_asksS hv ht.2 h3 h8 hs hm hx with ⟨n2, hmm⟩ | ⟨n2, x, M2, p1, p2, p3, p4, p5, p6, p7⟩
    · rcases c_slopeOf (M := M) h8 ht.2 hs hv hc with ⟨-, hcs⟩ | ⟨n3, -⟩
      · refine ⟨i3 0, sF M 7 (i3 2), ?_, Or.inl (Or.inr (Or.inl ⟨T, ?_, rfl, Rel_thrown hr _⟩))⟩
        · unfold f_X8_forecast
          rw [hmm, Option.bind_some]
          dsimp only
          rw [if_pos l3_0.symm, l3_0]
        · unfold x_X7_forecast
          rw [x_st_ok h8 hs]
          simp only [xc]
          rw [ck_pos hin, hcs]
      · omega
    · rcases c_slopeOf (M := M) h8 ht.2 hs hv hc with ⟨n3, -⟩ | ⟨n3, hcs, y, S2, q1, q2, q3, q4, q5, q6, q7⟩
      · omega
      · have bx := sl_bd hv ht.2 x p3.1
        have byy := sl_bd hv ht.2 y q7.1
        have hd := hv.2.2.2.2.1 _ (lastp_lt n2)
        generalize hst : aDy (as s) (lastp (aN (as s)) (-1)) = st at *
        generalize hus : aUs (as s) (lastp (aN (as s)) (-1)) = us at *
        have hlt : s < (setT T s S2).2.1 := hs
        have hS : (setT T s S2).2.2 s = S2 := if_pos rfl
        have hrel : ∀ v, Rel (setT T s S2) (sF M2 7 v) := fun v => Rel_thrown (Rel_fm (Rel_thrown (Rel_fs hr q2) _) p2) v
        have eI : f_X8_isIn (i3 z) (M2.1 5 + 1) (M2.1 5 + 1000) = some (i3 (if st + 1 ≤ z ∧ z ≤ st + 1000 then 1 else 0)) := by
          rw [p6, l3_1, l3_1000, i3_add, i3_add, m_isIn ha2 (by omega) (by omega)]
        by_cases hz : st + 1 ≤ z ∧ z ≤ st + 1000
        · obtain ⟨u, u1, u2⟩ := cl_usual hv (hc.fr q2)
          have hm0 : Mo (as s) (sF M 7 (i3 0)) s := hm
          have hm1 : Mo (as s) M2 s := hm0.fm p2
          have hm2 : Mo (as s) (sF M2 7 (i3 0)) s := hm1
          obtain ⟨w, w1, w2⟩ := m_usual (M := sF M2 7 (i3 0)) hv (by omega) hm2 ⟨u, u2⟩
          have := IsUs_uniq u2 w2
          subst this
          have ur := IsUs_rng hv u2
          have rr := red_rng bx
          have ef := m_fore (M := sF M2 7 (i3 0)) hv (by omega) hm2 p4 p5 p6 p7 ur (d := z) (by omega) (by omega) (by omega) rr.1
          have ec := cl_roomOn hv (hc.fr q2) u1 ur q3 q4 q5 q6 (d := z) (by omega) (by omega) (by omega) ⟨byy.1, byy.2.1⟩ ⟨byy.2.2.1, byy.2.2.2⟩
          have e1 := (fcv_frac (us := us) (st := st) (uz := u) (fr := aFr (as s)) (ev := aEv (as s)) rr.1.2.2.1 bx.2.2.1 rr.2 z).trans (fcv_frac bx.2.2.1 byy.2.2.1 (Mid_uniq (fun z hz => (sl_mem hv hz).1) p3 q7) z)
          refine ⟨i3 (fcv us y.1 y.2 st u (aFr (as s)) (aEv (as s)) z), sF M2 7 (i3 0), ?_, Or.inr ⟨setT T s S2, ?_, rfl, hrel _⟩⟩
          · unfold f_X8_forecast
            rw [p1, Option.bind_some]
            dsimp only
            rw [if_neg (by decide), eI, if_pos hz, Option.bind_some, if_neg (by decide), Option.bind_some, m_goes0', Option.bind_some]
            dsimp only
            rw [if_neg (by decide), w1, Option.bind_some, ef, Option.bind_some, i6_int]
            exact congrArg (fun v => some (i3 v, sF M2 7 (i3 0))) e1
          · have rng : S2.1 8 + 1 ≤ i3 z ∧ i3 z ≤ S2.1 8 + 1000 := by
              rw [q3, l3_1, l3_1000, i3_add, i3_add]; exact rng_ok ha2 (by omega) (by omega) hz
            unfold f_X7_forecast
            rw [ck_pos hin, ck_pos hin, q1, Option.bind_some]
            simp only [es]
            rw [ck_pos hlt, hS, ck_pos rng, ec, Option.bind_some]
        · refine ⟨i3 0, sF M2 7 (i3 3), ?_, Or.inl (Or.inr (Or.inr (Or.inl ⟨setT T s S2, ?_, rfl, hrel _⟩)))⟩
          · unfold f_X8_forecast
            rw [p1, Option.bind_some]
            dsimp only
            rw [if_neg (by decide), eI, if_neg hz, Option.bind_some, if_pos l3_0.symm, Option.bind_some, m_goes3', Option.bind_some]
            dsimp only
            rw [if_pos l3_0.symm, l3_0]
          · have dem : x_X7_demandRange (i3 z) (S2.1 8 + 1) (S2.1 8 + 1000) = some "java/lang/IllegalArgumentException" := by
              rw [q3, l3_1, l3_1000, i3_add, i3_add]; exact x_dem_bad ha2 (by omega) (by omega) hz
            unfold x_X7_forecast
            rw [x_st_ok h8 hs]
            simp only [xc]
            rw [ck_pos hin, hcs]
            simp only [xc]
            rw [ck_pos hin, q1, Option.bind_some]
            simp only [es]
            rw [ck_pos hlt, hS, dem]
            rfl
  · refine ⟨i3 0, sF M 7 (i3 1), ?_, Or.inl (Or.inl ⟨T, ?_, rfl, Rel_thrown hr _⟩)⟩
    · unfold f_X8_forecast
      rw [m_asksS_bad h3 h8 ha1 hp, Option.bind_some]
      dsimp only
      rw [if_pos l3_0.symm, l3_0]
    · unfold x_X7_forecast
      rw [x_st_bad h8 ha1 hp]
      rfl
