/-! The reference: bounds are kept, warnings looked at, days pass; and the class's days -/
def MoC (A : AB) (M : St) (s : Nat) : Prop := M.2 11 s = i3 0 ∨ (M.2 11 s = i3 1 ∧ ∃ e l, M.2 12 s = i3 e ∧ M.2 13 s = i3 l ∧ Early A e ∧ Late A l ∧ (1 ≤ e ∧ e ≤ 1000000) ∧ (1 ≤ l ∧ l ≤ 1000000))
def FrL (s : Nat) (M M2 : St) : Prop := (∀ k, k ≠ 2 → k ≠ 3 → k ≠ 4 → k ≠ 5 → k ≠ 6 → M2.1 k = M.1 k) ∧ (∀ j, j ≤ 8 → M2.2 j = M.2 j) ∧ ∀ t, t ≠ s → ∀ j, j ≤ 13 → M2.2 j t = M.2 j t
theorem FrL.tr {s : Nat} {M M2 M3 : St} (h : FrL s M M2) (g : FrL s M2 M3) : FrL s M M3 := ⟨fun k a b c d e => (g.1 k a b c d e).trans (h.1 k a b c d e), fun j a => (g.2.1 j a).trans (h.2.1 j a), fun t a j b => (g.2.2 t a j b).trans (h.2.2 t a j b)⟩
theorem FrM.l {s : Nat} {M M2 : St} (h : FrM M M2) : FrL s M M2 := ⟨h.1, fun j a => h.2 j (by omega) (by omega) (by omega), fun t a j b => by rw [h.2 j (by omega) (by omega) (by omega)]⟩
theorem FrL.one (s : Nat) (M : St) (j : Nat) (v : Int32) (hj : 9 ≤ j) : FrL s M (sA M j s v) := ⟨fun _ _ _ _ _ _ => rfl, fun i a => sA_ne _ _ _ _ _ (by omega), fun t a i b => by
  rw [sA_2]
  by_cases c : i = j
  · rw [if_pos c]; unfold upd; rw [if_neg a, c]
  · rw [if_neg c]⟩
theorem Mo.l {A : AB} {M M2 : St} {s t : Nat} (h : Mo A M t) (f : FrL s M M2) (ht : t ≠ s) : Mo A M2 t := by
  obtain ⟨⟨a0, a1, a4, a7, a8, a9, a10⟩, b, c⟩ := h
  have g := f.2.2 t ht
  refine ⟨⟨?_, ?_, ?_, ?_, ?_, ?_, ?_⟩, fun k hk => ?_, fun j hj => ?_⟩
  · rw [g 0 (by omega)]; exact a0
  · rw [g 1 (by omega)]; exact a1
  · rw [g 4 (by omega)]; exact a4
  · rw [g 7 (by omega)]; exact a7
  · rw [g 8 (by omega)]; exact a8
  · rw [g 9 (by omega)]; exact a9
  · rw [g 10 (by omega)]; exact a10
  · rw [f.2.1 2 (by omega), f.2.1 3 (by omega)]; exact b k hk
  · rw [f.2.1 5 (by omega), f.2.1 6 (by omega)]; exact c j hj
theorem MoC.l {A : AB} {M M2 : St} {s t : Nat} (h : MoC A M t) (f : FrL s M M2) (ht : t ≠ s) : MoC A M2 t := by
  have g := f.2.2 t ht
  unfold MoC
  rw [g 11 (by omega), g 12 (by omega), g 13 (by omega)]
  exact h
theorem MoC.fm {A : AB} {M M2 : St} {t : Nat} (h : MoC A M t) (f : FrM M M2) : MoC A M2 t := by
  unfold MoC
  rw [f.2 11 (by decide) (by decide) (by decide), f.2 12 (by decide) (by decide) (by decide), f.2 13 (by decide) (by decide) (by decide)]
  exact h
def HasMid (A : AB) : Prop := (∀ o, oOk (aN A) o → ∃ x, Mid (sl A o) x) ∧ ∃ u, IsUs A u
theorem HasMid_of {A : AB} {S : St} {td : Int} (hv : Val td A) (h : Cl A S) : HasMid A := ⟨fun o ho => by
  obtain ⟨r, r1, r2, r3⟩ := cl_middleW hv.2.2.2.1 h.2.2.1 ho
  exact ⟨_, r3⟩, by
  obtain ⟨u, u1, u2⟩ := cl_usual hv h
  exact ⟨u, u2⟩⟩
theorem m_bd_loop {A : AB} {td : Int} {s : Nat} (hv : Val td A) (ht : td ≤ 2000) (hs : s < 8) (hx : HasMid A) (hn : 3 ≤ aN A) : ∀ (fuel : Nat) (o e l : Int) (M : St), (aN A : Int) < o + (fuel : Int) → -1 ≤ o → o ≤ aN A → Mo A M s → M.2 12 s = i3 e → M.2 13 s = i3 l → ((o = -1 ∧ e = 1000000 ∧ l = 0) ∨ (0 ≤ o ∧ (1 ≤ e ∧ e ≤ 1000000) ∧ (1 ≤ l ∧ l ≤ 1000000) ∧ (∀ q : Int, -1 ≤ q → q < o → ∃ r, FDay A q r ∧ e ≤ r ∧ r ≤ l) ∧ (∃ q : Int, -1 ≤ q ∧ q < aN A ∧ FDay A q e) ∧ ∃ q : Int, -1 ≤ q ∧ q < aN A ∧ FDay A q l)) → ∃ M2 e2 l2, f_X8_findsBounds_49 (i3 s) fuel (i3 o) M = some M2 ∧ FrL s M M2 ∧ M2.2 9 = M.2 9 ∧ M2.2 10 = M.2 10 ∧ M2.2 11 = M.2 11 ∧ M2.2 12 s = i3 e2 ∧ M2.2 13 s = i3 l2 ∧ Early A e2 ∧ Late A l2 ∧ (1 ≤ e2 ∧ e2 ≤ 1000000) ∧ (1 ≤ l2 ∧ l2 ≤ 1000000) := by
  have hn12 := hv.2.2.2.1
  have i0 : inb (i3 (s : Int)) 8 := inbN hs (by omega)
  have e0 : (i3 (s : Int)).toNatClampNeg = s := i3_nn (by omega)
  intro fuel
  induction fuel with
  | zero => intro o e l M h1 h2 h3; omega
  | succ fuel ih =>
    intro o e l M h1 h2 h3 h h12 h13 hex
    unfold f_X8_findsBounds_49
    rw [ck_pos i0, ck_pos i0]
    simp (disch := omega) only [e0, h.1.2.1, i3_le, l3_2]
    by_cases c : (aN A : Int) ≤ o
    · rw [if_pos c]
      rcases hex with hex | ⟨h0, he, hl, hall, hqe, hql⟩
      · omega
      · exact ⟨M, e, l, rfl, (FrM.rf M).l, rfl, rfl, rfl, h12, h13, Or.inr ⟨hn, fun q q1 q2 => by
          obtain ⟨r, r1, r2, r3⟩ := hall q q1 (by omega)
          exact ⟨r, r1, r2⟩, hqe⟩, Or.inr ⟨hn, fun q q1 q2 => by
          obtain ⟨r, r1, r2, r3⟩ := hall q q1 (by omega)
          exact ⟨r, r1, r3⟩, hql⟩, he, hl⟩
    · rw [if_neg c, if_neg (by omega)]
      have hok : oOk (aN A) o := by
        rcases (show o = -1 ∨ 0 ≤ o by omega) with q | q
        · exact Or.inl ⟨q, by omega⟩
        · exact Or.inr ⟨q, by omega, hn⟩
      obtain ⟨r, M1, q1, q2, q3, q4⟩ := m_fullDay hv ht hs h hok (hx.1 o hok) hx.2
      rw [q1, Option.bind_some]
      dsimp only
      have g12 : M1.2 12 s = i3 e := by rw [q2.2 12 (by decide) (by decide) (by decide)]; exact h12
      have g13 : M1.2 13 s = i3 l := by rw [q2.2 13 (by decide) (by decide) (by decide)]; exact h13
      have her : 0 ≤ e ∧ e ≤ 1000000 ∧ 0 ≤ l ∧ l ≤ 1000000 := by rcases hex with hex | hex <;> omega
      obtain ⟨e2, he2, hd⟩ : ∃ e2 : Int, (if M1.2 12 s ≤ i3 r then some (M1.2 12 s) else some (i3 r)) = some (i3 e2) ∧ ((e2 = r ∧ r ≤ e) ∨ (e2 = e ∧ e ≤ r ∧ 0 ≤ o)) := by
        rw [g12]
        simp (disch := omega) only [i3_le]
        by_cases c2 : e ≤ r
        · rw [if_pos c2]
          exact ⟨e, rfl, by rcases hex with hex | hex <;> omega⟩
        · rw [if_neg c2]; exact ⟨r, rfl, Or.inl ⟨rfl, by omega⟩⟩
      obtain ⟨l2, hl2, hd2⟩ : ∃ l2 : Int, (if i3 r ≤ M1.2 13 s then some (M1.2 13 s) else some (i3 r)) = some (i3 l2) ∧ ((l2 = r ∧ l ≤ r) ∨ (l2 = l ∧ r ≤ l ∧ 0 ≤ o)) := by
        rw [g13]
        simp (disch := omega) only [i3_le]
        by_cases c2 : r ≤ l
        · rw [if_pos c2]
          exact ⟨l, rfl, by rcases hex with hex | hex <;> omega⟩
        · rw [if_neg c2]; exact ⟨r, rfl, Or.inl ⟨rfl, by omega⟩⟩
      simp only [ck_pos i0]
      rw [he2, Option.bind_some, nmv_eq, sA_ne _ _ _ _ _ (show (13 : Nat) ≠ 12 by decide), hl2, Option.bind_some, nmv_eq, nmv_eq, l3_1, i3_add]
      have f1 : FrL s M (sA (sA M1 12 s (i3 e2)) 13 s (i3 l2)) := (q2.l.tr (FrL.one s M1 12 _ (by omega))).tr (FrL.one s _ 13 _ (by omega))
      have hM2 : Mo A (sA (sA M1 12 s (i3 e2)) 13 s (i3 l2)) s := (h.fm q2).fr (fun j hj => by rw [sA_ne _ _ _ _ _ (by omega), sA_ne _ _ _ _ _ (by omega)])
      obtain ⟨M3, e3, l3, p1, p2, p3, p4, p5, p6, p7, p8⟩ := ih (o + 1) e2 l2 (sA (sA M1 12 s (i3 e2)) 13 s (i3 l2)) (by omega) (by omega) (by omega) hM2 (by rw [sA_ne _ _ _ _ _ (by decide), sA_same, if_pos rfl]) (by rw [sA_same, if_pos rfl]) (Or.inr ⟨by omega, by rcases hex with hex | hex <;> omega, by rcases hex with hex | hex <;> omega, fun q a b => by
        rcases (show q < o ∨ q = o by omega) with w | w
        · rcases hex with hex | ⟨h0, he, hl, hall, hqe, hql⟩
          · omega
          · obtain ⟨r9, r91, r92, r93⟩ := hall q a w
            exact ⟨r9, r91, by omega, by omega⟩
        · subst w; exact ⟨r, q3, by omega, by omega⟩, by
        rcases hd with ⟨rfl, -⟩ | ⟨rfl, -, h0⟩
        · exact ⟨o, h2, by omega, q3⟩
        · rcases hex with hex | ⟨h0, he, hl, hall, hqe, hql⟩
          · omega
          · exact hqe, by
        rcases hd2 with ⟨rfl, -⟩ | ⟨rfl, -, h0⟩
        · exact ⟨o, h2, by omega, q3⟩
        · rcases hex with hex | ⟨h0, he, hl, hall, hqe, hql⟩
          · omega
          · exact hql⟩)
      refine ⟨M3, e3, l3, p1, f1.tr p2, p3.trans ?_, p4.trans ?_, p5.trans ?_, p6, p7, p8⟩
      · rw [sA_ne _ _ _ _ _ (by decide), sA_ne _ _ _ _ _ (by decide), q2.2 9 (by decide) (by decide) (by decide)]
      · rw [sA_ne _ _ _ _ _ (by decide), sA_ne _ _ _ _ _ (by decide), q2.2 10 (by decide) (by decide) (by decide)]
      · rw [sA_ne _ _ _ _ _ (by decide), sA_ne _ _ _ _ _ (by decide), q2.2 11 (by decide) (by decide) (by decide)]
theorem m_bounds {A : AB} {M : St} {td : Int} {s : Nat} (hv : Val td A) (ht : td ≤ 2000) (hs : s < 8) (hx : HasMid A) (h : Mo A M s) (hc : MoC A M s) : ∃ M2 e l, f_X8_findsBounds (i3 s) M = some M2 ∧ FrL s M M2 ∧ M2.2 9 = M.2 9 ∧ M2.2 10 = M.2 10 ∧ M2.2 11 s = i3 1 ∧ M2.2 12 s = i3 e ∧ M2.2 13 s = i3 l ∧ Early A e ∧ Late A l ∧ (1 ≤ e ∧ e ≤ 1000000) ∧ (1 ≤ l ∧ l ≤ 1000000) := by
  have hn12 := hv.2.2.2.1
  have i0 : inb (i3 (s : Int)) 8 := inbN hs (by omega)
  have e0 : (i3 (s : Int)).toNatClampNeg = s := i3_nn (by omega)
  have z1 : isZ (1 : Int32) := Or.inr rfl
  unfold f_X8_findsBounds
  rw [ck_pos i0]
  simp only [e0]
  rcases hc with hc | ⟨hc, e, l, c1, c2, c3, c4, c5, c6⟩
  · rw [hc, if_pos l3_0.symm, ck_pos i0, ck_pos z1, nmv_eq, ck_pos i0, nmv_eq, ck_pos i0, l3_1, l3_1000000]
    have g1 : (sA (sA M 11 s (i3 1)) 12 s (i3 1000000)).2 1 s = i3 (aN A) := by
      rw [sA_ne _ _ _ _ _ (by decide), sA_ne _ _ _ _ _ (by decide)]; exact h.1.2.1
    rw [g1]
    have fr0 : ∀ v : Int32, FrL s M (sA (sA (sA M 11 s (i3 1)) 12 s (i3 1000000)) 13 s v) := fun v => ((FrL.one s M 11 _ (by omega)).tr (FrL.one s _ 12 _ (by omega))).tr (FrL.one s _ 13 _ (by omega))
    have hM : ∀ v : Int32, Mo A (sA (sA (sA M 11 s (i3 1)) 12 s (i3 1000000)) 13 s v) s := fun v => h.fr (fun j hj => by rw [sA_ne _ _ _ _ _ (by omega), sA_ne _ _ _ _ _ (by omega), sA_ne _ _ _ _ _ (by omega)])
    simp (disch := omega) only [l3_3, i3_le, ck_pos i0, nmv_eq, l3_0, l3_m1]
    by_cases c3 : (3 : Int) ≤ aN A
    · rw [if_pos c3, Option.bind_some]
      obtain ⟨M3, e3, l3, p1, p2, p3, p4, p5, p6, p7, p8⟩ := m_bd_loop hv ht hs hx (by omega) 3000 (-1) 1000000 0 _ (by omega) (by omega) (by omega) (hM (i3 0)) (by rw [sA_ne _ _ _ _ _ (by decide), sA_same, if_pos rfl]) (by rw [sA_same, if_pos rfl]) (Or.inl ⟨rfl, rfl, rfl⟩)
      first
        | rw [p1, Option.bind_some]
        | (simp only [l3_1, i3_neg]; rw [p1, Option.bind_some])
      refine ⟨M3, e3, l3, rfl, (fr0 _).tr p2, p3.trans ?_, p4.trans ?_, ?_, p6, p7, p8⟩
      · rw [sA_ne _ _ _ _ _ (by decide), sA_ne _ _ _ _ _ (by decide), sA_ne _ _ _ _ _ (by decide)]
      · rw [sA_ne _ _ _ _ _ (by decide), sA_ne _ _ _ _ _ (by decide), sA_ne _ _ _ _ _ (by decide)]
      · rw [p5, sA_ne _ _ _ _ _ (by decide), sA_ne _ _ _ _ _ (by decide), sA_same, if_pos rfl]
    · rw [if_neg c3, Option.bind_some]
      have hstop : f_X8_findsBounds_49 (i3 s) 3000 (i3 (-1)) (sA (sA (sA M 11 s (i3 1)) 12 s (i3 1000000)) 13 s (i3 1000000)) = some (sA (sA (sA M 11 s (i3 1)) 12 s (i3 1000000)) 13 s (i3 1000000)) := by
        unfold f_X8_findsBounds_49
        rw [ck_pos i0, ck_pos i0]
        simp (disch := omega) only [e0, (hM (i3 1000000)).1.2.1, i3_le, l3_2]
        rw [if_neg (by omega), if_pos (by omega)]
      first
        | rw [hstop, Option.bind_some]
        | (simp only [l3_1, i3_neg]; rw [hstop, Option.bind_some])
      refine ⟨_, 1000000, 1000000, rfl, fr0 _, ?_, ?_, ?_, ?_, ?_, Or.inl ⟨by omega, rfl⟩, Or.inl ⟨by omega, rfl⟩, by omega, by omega⟩
      · rw [sA_ne _ _ _ _ _ (by decide), sA_ne _ _ _ _ _ (by decide), sA_ne _ _ _ _ _ (by decide)]
      · rw [sA_ne _ _ _ _ _ (by decide), sA_ne _ _ _ _ _ (by decide), sA_ne _ _ _ _ _ (by decide)]
      · rw [sA_ne _ _ _ _ _ (by decide), sA_ne _ _ _ _ _ (by decide), sA_same, if_pos rfl]
      · rw [sA_ne _ _ _ _ _ (by decide), sA_same, if_pos rfl]
      · rw [sA_same, if_pos rfl]
  · rw [hc, if_neg (by decide)]
    exact ⟨M, e, l, rfl, (FrM.rf M).l, rfl, rfl, hc, c1, c2, c3, c4, c5, c6⟩
theorem m_looks {A : AB} {M : St} {td d e : Int} {s : Nat} (hv : Val td A) (ht : td ≤ 2000) (hd : 0 ≤ d ∧ d ≤ 5000) (hs : s < 8) (hx : HasMid A) (h : Mo A M s) (hc : MoC A M s) (h0 : M.1 0 = i3 d) (he : Early A e) : ∃ M2, f_X8_looks (i3 s) M = some (i3 (lk e d (aOn A, aNe A)).2, M2) ∧ FrL s M M2 ∧ Mo (setW A (lk e d (aOn A, aNe A)).1) M2 s ∧ MoC (setW A (lk e d (aOn A, aNe A)).1) M2 s := by
  obtain ⟨M1, e1, l1, q1, q2, q3, q4, q5, q6, q7, q8, q9, q10, q11⟩ := m_bounds hv ht hs hx h hc
  have ee := Early_uniq hv he q8
  subst ee
  have i0 : inb (i3 (s : Int)) 8 := inbN hs (by omega)
  have e0 : (i3 (s : Int)).toNatClampNeg = s := i3_nn (by omega)
  have g0 : M1.1 0 = i3 d := by rw [q2.1 0 (by decide) (by decide) (by decide) (by decide) (by decide)]; exact h0
  have g9 : M1.2 9 s = i3 (aOn A) := by rw [q3]; exact h.1.2.2.2.2.2.1
  have g10 : M1.2 10 s = i3 (aNe A) := by rw [q4]; exact h.1.2.2.2.2.2.2
  have bon : bit (aOn A) := hv.2.2.2.2.2.2.2.2.1
  have bne : bit (aNe A) := hv.2.2.2.2.2.2.2.2.2
  have hon2 : 0 ≤ aOn A ∧ aOn A ≤ 1 := by unfold bit at bon; omega
  have hne2 : 0 ≤ aNe A ∧ aNe A ≤ 1 := by unfold bit at bne; omega
  obtain ⟨lb1, lb2, lb3⟩ := lk_bit (e := e) (d := d) (s := (aOn A, aNe A)) bon
  have hw2 : 0 ≤ (lk e d (aOn A, aNe A)).1.1 ∧ (lk e d (aOn A, aNe A)).1.1 ≤ 1 := by unfold bit at lb1; omega
  have hnear : (if i3 (d + 14) < i3 e then some (i3 0) else some (i3 1)) = some (i3 (lk e d (aOn A, aNe A)).1.2) := by
    simp (disch := omega) only [i3_lt]
    show _ = some (i3 (if e - d ≤ 14 then 1 else 0))
    by_cases c : d + 14 < e
    · rw [if_pos c, if_neg (by omega)]
    · rw [if_neg c, if_pos (by omega)]
  have hw : (if i3 (aOn A) = i3 0 then (if i3 (lk e d (aOn A, aNe A)).1.2 = i3 0 then some (i3 0) else (if i3 (aNe A) = i3 0 then some (i3 0) else some (i3 1))) else (if i3 (d + 21) < i3 e then some (i3 0) else some (i3 1))) = some (i3 (lk e d (aOn A, aNe A)).1.1) := by
    have hn2 : (lk e d (aOn A, aNe A)).1.2 = if e - d ≤ 14 then 1 else 0 := rfl
    have hw9 : (lk e d (aOn A, aNe A)).1.1 = if (if e - d ≤ 14 then (1 : Int) else 0) = 1 ∧ aNe A = 1 then 1 else if 21 < e - d then 0 else aOn A := rfl
    rw [hn2, hw9]
    by_cases c14 : e - d ≤ 14
    · simp only [if_pos c14]
      simp (disch := omega) only [i3_lt, i3_eq]
      by_cases c1 : aOn A = 0
      · rw [if_pos c1, if_neg (by omega)]
        by_cases c2 : aNe A = 0
        · rw [if_pos c2, if_neg (by omega), if_neg (by omega), c1]
        · rw [if_neg c2, if_pos ⟨trivial, by omega⟩]
      · rw [if_neg c1, if_neg (by omega)]
        by_cases c2 : aNe A = 1
        · rw [if_pos ⟨trivial, c2⟩]
        · rw [if_neg (by omega), if_neg (by omega)]
          congr 2; omega
    · simp only [if_neg c14]
      simp (disch := omega) only [i3_lt, i3_eq]
      rw [if_neg (show ¬ ((0 : Int) = 1 ∧ aNe A = 1) by omega)]
      by_cases c1 : aOn A = 0
      · rw [if_pos c1]
        first
          | rw [if_pos trivial]
          | rw [if_pos rfl]
        congr 2
        split <;> omega
      · rw [if_neg c1]
        by_cases c2 : d + 21 < e
        · rw [if_pos c2, if_pos (by omega)]
        · rw [if_neg c2, if_neg (by omega)]
          congr 2; omega
  have z1 : isZ (i3 (lk e d (aOn A, aNe A)).1.1) := isZ_bit lb1
  have z2 : isZ (i3 (lk e d (aOn A, aNe A)).1.2) := isZ_bit lb2
  refine ⟨sA (sA M1 9 s (i3 (lk e d (aOn A, aNe A)).1.1)) 10 s (i3 (lk e d (aOn A, aNe A)).1.2), ?_, ?_, ?_, ?_⟩
  · unfold f_X8_looks
    rw [q1, Option.bind_some, ck_pos i0]
    simp only [e0, g0, q6, g9, g10, ck_pos i0, nmv_eq, l3_14, l3_21, l3_0, l3_1, i3_add]
    rw [hnear, Option.bind_some, hw, Option.bind_some, ck_pos z1, ck_pos z2, sA_ne _ _ _ _ _ (show (9 : Nat) ≠ 10 by decide), sA_same, if_pos rfl]
    show _ = some (i3 (if (lk e d (aOn A, aNe A)).1.1 = aOn A then 0 else 1), _)
    simp (disch := omega) only [i3_eq]
    by_cases c : (lk e d (aOn A, aNe A)).1.1 = aOn A
    · rw [if_pos c, if_pos c]
    · rw [if_neg c, if_neg c]
  · exact (q2.tr (FrL.one s M1 9 _ (by omega))).tr (FrL.one s _ 10 _ (by omega))
  · obtain ⟨⟨a0, a1, a4, a7, a8, a9, a10⟩, b, c⟩ := h
    have fj : ∀ j, j ≤ 8 → (sA (sA M1 9 s (i3 (lk e d (aOn A, aNe A)).1.1)) 10 s (i3 (lk e d (aOn A, aNe A)).1.2)).2 j = M.2 j := fun j hj => by
      rw [sA_ne _ _ _ _ _ (by omega), sA_ne _ _ _ _ _ (by omega), q2.2.1 j hj]
    refine ⟨⟨?_, ?_, ?_, ?_, ?_, ?_, ?_⟩, fun k hk => ?_, fun j hj => ?_⟩
    · rw [fj 0 (by omega)]; exact a0
    · rw [fj 1 (by omega)]; exact a1
    · rw [fj 4 (by omega)]; exact a4
    · rw [fj 7 (by omega)]; exact a7
    · rw [fj 8 (by omega)]; exact a8
    · rw [sA_ne _ _ _ _ _ (by decide), sA_same, if_pos rfl]; rfl
    · rw [sA_same, if_pos rfl]; rfl
    · rw [fj 2 (by omega), fj 3 (by omega)]; exact b k hk
    · rw [fj 5 (by omega), fj 6 (by omega)]; exact c j hj
  · refine Or.inr ⟨?_, e, l1, ?_, ?_, q8, q9, q10, q11⟩
    · rw [sA_ne _ _ _ _ _ (by decide), sA_ne _ _ _ _ _ (by decide)]; exact q5
    · rw [sA_ne _ _ _ _ _ (by decide), sA_ne _ _ _ _ _ (by decide)]; exact q6
    · rw [sA_ne _ _ _ _ _ (by decide), sA_ne _ _ _ _ _ (by decide)]; exact q7
