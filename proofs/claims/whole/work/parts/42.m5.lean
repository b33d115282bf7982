/-! Both sides: days pass; what relates them -/
def stg (as : Nat → AB) (es : Nat → Int) (td : Int) (t k : Nat) : AB := setW (as t) (lkn (es t) td (aOn (as t), aNe (as t)) k).1
def Fresh (M : St) (n : Nat) : Prop := ∀ t, n ≤ t → t < 8 → M.2 1 t = i3 0 ∧ M.2 4 t = i3 0 ∧ M.2 7 t = i3 0 ∧ M.2 8 t = i3 0 ∧ M.2 9 t = i3 0 ∧ M.2 10 t = i3 0 ∧ M.2 11 t = i3 0
theorem Fresh.l {M M2 : St} {n s : Nat} (h : Fresh M n) (f : FrL s M M2) (hs : s < n) : Fresh M2 n := by
  intro t h1 h2
  have g := f.2.2 t (by omega)
  rw [g 1 (by omega), g 4 (by omega), g 7 (by omega), g 8 (by omega), g 9 (by omega), g 10 (by omega), g 11 (by omega)]
  exact h t h1 h2
theorem Fresh.a {M M2 : St} {n : Nat} (h : Fresh M n) (f : ∀ j, j ≤ 13 → M2.2 j = M.2 j) : Fresh M2 n := by
  intro t h1 h2
  rw [f 1 (by omega), f 4 (by omega), f 7 (by omega), f 8 (by omega), f 9 (by omega), f 10 (by omega), f 11 (by omega)]
  exact h t h1 h2
theorem MoC.fr {A : AB} {M M2 : St} {s : Nat} (h : MoC A M s) (f : ∀ j, j ≤ 13 → M2.2 j = M.2 j) : MoC A M2 s := by
  unfold MoC
  rw [f 11 (by omega), f 12 (by omega), f 13 (by omega)]
  exact h
theorem smc_add (f g : Nat → Int) : ∀ n, smc f n + smc g n = smc (fun t => f t + g t) n
  | 0 => rfl
  | n + 1 => by
    have := smc_add f g n
    unfold smc
    omega
theorem m_pass_in {as : Nat → AB} {es : Nat → Int} {td : Int} {ns : Nat} (hns : ns ≤ 8) (ht : 0 ≤ td ∧ td ≤ 2000) (hv : ∀ t, t < ns → Val td (as t)) (hx : ∀ t, t < ns → HasMid (as t)) (he : ∀ t, t < ns → Early (as t) (es t)) (j : Nat) (hj : j ≤ 100) (x : Int) : ∀ (fuel i : Nat) (M : St), ns < i + fuel → i ≤ ns → M.1 0 = i3 (td + ((j : Int) + 1)) → M.1 1 = i3 ns → Fresh M ns → (∀ t, t < ns → Mo (stg as es td t (if t < i then j + 1 else j)) M t ∧ MoC (stg as es td t (if t < i then j + 1 else j)) M t) → ∃ M2, f_X8_pass_62 fuel (i3 (x + smc (fun t => (lk (es t) (td + ((j : Int) + 1)) (lkn (es t) td (aOn (as t), aNe (as t)) j).1).2) i)) (i3 i) M = some (i3 (x + smc (fun t => (lk (es t) (td + ((j : Int) + 1)) (lkn (es t) td (aOn (as t), aNe (as t)) j).1).2) ns), M2) ∧ M2.1 0 = M.1 0 ∧ M2.1 1 = M.1 1 ∧ M2.1 7 = M.1 7 ∧ Fresh M2 ns ∧ ∀ t, t < ns → Mo (stg as es td t (j + 1)) M2 t ∧ MoC (stg as es td t (j + 1)) M2 t := by
  intro fuel
  induction fuel with
  | zero => intro i M h1 h2; omega
  | succ fuel ih =>
    intro i M h1 h2 h0 h11 hf h
    unfold f_X8_pass_62
    simp (disch := omega) only [h11, i3_le, l3_1, nmv_eq, i3_add]
    by_cases c : (ns : Int) ≤ i
    · rw [if_pos c]
      have : i = ns := by omega
      subst this
      refine ⟨M, rfl, rfl, h11.symm ▸ rfl, rfl, hf, fun t htn => ?_⟩
      have := h t htn
      rw [if_pos htn] at this
      exact this
    · rw [if_neg c]
      have hi : i < ns := by omega
      have hii := h i hi
      rw [if_neg (Nat.lt_irrefl i)] at hii
      have bv := hv i hi
      obtain ⟨b1, b2, b3, b4⟩ := lkn_bit (e := es i) (d0 := td) (s := (aOn (as i), aNe (as i))) bv.2.2.2.2.2.2.2.2.1 bv.2.2.2.2.2.2.2.2.2 j
      obtain ⟨M1, q1, q2, q3, q4⟩ := m_looks (A := stg as es td i j) (td := td) (d := td + ((j : Int) + 1)) (e := es i) (Val_setW bv b1 b2) ht.2 (by omega) (show i < 8 by omega) (hx i hi) hii.1 hii.2 h0 (he i hi)
      have hb := (lk_bit (e := es i) (d := td + ((j : Int) + 1)) (s := (lkn (es i) td (aOn (as i), aNe (as i)) j).1) b1).2.2
      have q1' : f_X8_looks (i3 i) M = some (i3 (lk (es i) (td + ((j : Int) + 1)) (lkn (es i) td (aOn (as i), aNe (as i)) j).1).2, M1) := q1
      rw [q1', Option.bind_some]
      dsimp only
      have e2 : (if i3 (lk (es i) (td + ((j : Int) + 1)) (lkn (es i) td (aOn (as i), aNe (as i)) j).1).2 = 0 then some (0 : Int32) else some (i3 1)) = some (i3 (lk (es i) (td + ((j : Int) + 1)) (lkn (es i) td (aOn (as i), aNe (as i)) j).1).2) := by
        rcases hb with q | q
        · rw [q, if_pos l3_0.symm, l3_0]
        · rw [q, if_neg (by decide)]
      rw [e2, Option.bind_some, i3_add]
      obtain ⟨M2, p1, p2, p3, p4, p5, p6⟩ := ih (i + 1) M1 (by omega) (by omega) (by rw [q2.1 0 (by decide) (by decide) (by decide) (by decide) (by decide)]; exact h0) (by rw [q2.1 1 (by decide) (by decide) (by decide) (by decide) (by decide)]; exact h11) (hf.l q2 hi) (fun t htn => by
        by_cases ct : t = i
        · subst ct
          rw [if_pos (by omega)]
          exact ⟨q3, q4⟩
        · have := h t htn
          by_cases c5 : t < i
          · rw [if_pos c5] at this
            rw [if_pos (by omega)]
            exact ⟨this.1.l q2 ct, this.2.l q2 ct⟩
          · rw [if_neg c5] at this
            rw [if_neg (by omega)]
            exact ⟨this.1.l q2 ct, this.2.l q2 ct⟩)
      refine ⟨M2, ?_, p2.trans (q2.1 0 (by decide) (by decide) (by decide) (by decide) (by decide)), ?_, p4.trans (q2.1 7 (by decide) (by decide) (by decide) (by decide) (by decide)), p5, p6⟩
      · rw [← p1]
        congr 2
        show _ = x + (smc _ i + _)
        rw [Int.add_assoc]
      · rw [p3, q2.1 1 (by decide) (by decide) (by decide) (by decide) (by decide), h11]
def tots (as : Nat → AB) (es : Nat → Int) (td : Int) (ns k : Nat) : Int := smc (fun t => (lkn (es t) td (aOn (as t), aNe (as t)) k).2) ns
theorem m_pass_out {as : Nat → AB} {es : Nat → Int} {td : Int} {ns n : Nat} (hns : ns ≤ 8) (hn : n ≤ 100) (ht : 0 ≤ td ∧ td ≤ 2000) (hv : ∀ t, t < ns → Val td (as t)) (hx : ∀ t, t < ns → HasMid (as t)) (he : ∀ t, t < ns → Early (as t) (es t)) : ∀ (fuel k : Nat) (M : St), n < k + fuel → k ≤ n → M.1 0 = i3 (td + (k : Int)) → M.1 1 = i3 ns → Fresh M ns → (∀ t, t < ns → Mo (stg as es td t k) M t ∧ MoC (stg as es td t k) M t) → ∃ M2, f_X8_pass_44 (i3 n) fuel (i3 (tots as es td ns k)) (i3 k) M = some (i3 (tots as es td ns n), M2) ∧ M2.1 0 = i3 (td + (n : Int)) ∧ M2.1 1 = i3 ns ∧ M2.1 7 = M.1 7 ∧ Fresh M2 ns ∧ ∀ t, t < ns → Mo (stg as es td t n) M2 t ∧ MoC (stg as es td t n) M2 t := by
  intro fuel
  induction fuel with
  | zero => intro k M h1 h2; omega
  | succ fuel ih =>
    intro k M h1 h2 h0 h11 hf h
    unfold f_X8_pass_44
    simp (disch := omega) only [i3_le, l3_1, nmv_eq, i3_add, h0]
    by_cases c : (n : Int) ≤ k
    · rw [if_pos c]
      have : k = n := by omega
      subst this
      exact ⟨M, rfl, h0, h11, rfl, hf, h⟩
    · rw [if_neg c]
      obtain ⟨M1, q1, q2, q3, q4, q5, q6⟩ := m_pass_in hns ht hv hx he k (by omega) (tots as es td ns k) 3000 0 (sF M 0 (i3 (td + (k : Int) + 1))) (by omega) (by omega) (by rw [sF_1, if_pos rfl, Int.add_assoc]) h11 hf (fun t htn => by
        rw [if_neg (Nat.not_lt_zero t)]
        exact h t htn)
      have q1' : f_X8_pass_62 3000 (i3 (tots as es td ns k)) 0 (sF M 0 (i3 (td + (k : Int) + 1))) = some (i3 (tots as es td ns k + smc (fun t => (lk (es t) (td + ((k : Int) + 1)) (lkn (es t) td (aOn (as t), aNe (as t)) k).1).2) ns), M1) := by
        rw [l3_0, ← q1]
        congr 2
        exact (Int.add_zero _).symm
      rw [q1', Option.bind_some]
      dsimp only
      have et : tots as es td ns k + smc (fun t => (lk (es t) (td + ((k : Int) + 1)) (lkn (es t) td (aOn (as t), aNe (as t)) k).1).2) ns = tots as es td ns (k + 1) := smc_add _ _ ns
      rw [et]
      obtain ⟨M2, p1, p2, p3, p4, p5, p6⟩ := ih (k + 1) M1 (by omega) (by omega) (by rw [q2, sF_1, if_pos rfl]; congr 1; omega) (by rw [q3]; exact h11) q5 q6
      exact ⟨M2, p1, p2, p3, p4.trans q4, p5, p6⟩
theorem setT_at {T : TS} {k t : Nat} {S : St} : (setT T k S).2.2 t = if t = k then S else T.2.2 t := rfl
theorem inS_of {T : TS} {k : Nat} (h : k < T.2.1) (h8 : T.2.1 ≤ 8) : inS T (i3 (k : Int)) := by
  refine ⟨?_, ?_, h8⟩
  · rw [l3_0, i3_le (by omega) (by omega) (by omega) (by omega)]; omega
  · rw [nI_i3, i3_lt (by omega) (by omega) (by omega) (by omega)]; omega
theorem c_pass_loop {as : Nat → AB} {es : Nat → Int} {td : Int} {ns n : Nat} (hns : ns ≤ 8) (hn : n ≤ 100) (ht : 0 ≤ td ∧ td ≤ 2000) (hv : ∀ t, t < ns → Val td (as t)) (he : ∀ t, t < ns → Early (as t) (es t)) : ∀ (fuel i : Nat) (T : TS), ns < i + fuel → i ≤ ns → T.1.1 = i3 td → T.2.1 = ns → (∀ t, t < ns → Cl (stg as es td t (if t < i then n else 0)) (T.2.2 t)) → ∃ T2, f_X7_pass_33 (i3 n) fuel (i3 (smc (fun t => (lkn (es t) td (aOn (as t), aNe (as t)) n).2) i)) (i3 i) T = some (i3 (tots as es td ns n), T2) ∧ T2.1 = T.1 ∧ T2.2.1 = ns ∧ ∀ t, t < ns → Cl (stg as es td t n) (T2.2.2 t) := by
  intro fuel
  induction fuel with
  | zero => intro i T h1 h2; omega
  | succ fuel ih =>
    intro i T h1 h2 h0 h11 h
    unfold f_X7_pass_33
    simp (disch := omega) only [h11, nI_i3, i3_le, l3_1, nmv_eq, i3_add]
    by_cases c : (ns : Int) ≤ i
    · rw [if_pos c]
      have : i = ns := by omega
      subst this
      refine ⟨T, rfl, rfl, h11, fun t htn => ?_⟩
      have := h t htn
      rw [if_pos htn] at this
      exact this
    · rw [if_neg c]
      have hi : i < ns := by omega
      have hii := h i hi
      rw [if_neg (Nat.lt_irrefl i)] at hii
      have hii' : Cl (as i) (T.2.2 i) := hii
      have ei : (i3 (i : Int)).toNatClampNeg = i := i3_nn (by omega)
      obtain ⟨e, S2, q1, q2, q3, q4⟩ := cl_looks (hv i hi) ht hn hii'
      have ee := Early_uniq (hv i hi) q2 (he i hi)
      subst ee
      rw [ck_pos (inS_of (by rw [h11]; exact hi) (by rw [h11]; exact hns)), ei, h0, q1, Option.bind_some]
      dsimp only
      rw [i3_add]
      obtain ⟨T2, p1, p2, p3, p4⟩ := ih (i + 1) (setT T i S2) (by omega) (by omega) h0 h11 (fun t htn => by
        rw [setT_at]
        by_cases ct : t = i
        · subst ct
          rw [if_pos rfl, if_pos (by omega)]
          exact q4
        · have := h t htn
          rw [if_neg ct]
          by_cases c5 : t < i
          · rw [if_pos c5] at this
            rw [if_pos (by omega)]
            exact this
          · rw [if_neg c5] at this
            rw [if_neg (by omega)]
            exact this)
      exact ⟨T2, p1, p2, p3, p4⟩
def Rel (T : TS) (M : St) : Prop := ∃ (as : Nat → AB) (td : Int), T.2.1 ≤ 8 ∧ (0 ≤ td ∧ td ≤ 2000) ∧ T.1.1 = i3 td ∧ M.1 0 = i3 td ∧ M.1 1 = i3 T.2.1 ∧ Fresh M T.2.1 ∧ ∀ s, s < T.2.1 → Val td (as s) ∧ Cl (as s) (T.2.2 s) ∧ Mo (as s) M s ∧ MoC (as s) M s
theorem Rel_thrown {T : TS} {M : St} (h : Rel T M) (v : Int32) : Rel T (sF M 7 v) := by
  obtain ⟨as, td, h8, ht, h1, h2, h3, h4, h5⟩ := h
  exact ⟨as, td, h8, ht, h1, h2, h3, h4, h5⟩
theorem Rel_fm {T : TS} {M M2 : St} (h : Rel T M) (f : FrM M M2) : Rel T M2 := by
  obtain ⟨as, td, h8, ht, h1, h2, h3, h4, h5⟩ := h
  refine ⟨as, td, h8, ht, h1, ?_, ?_, h4.a (fun j hj => f.2 j (by omega) (by omega) (by omega)), fun s hs => ?_⟩
  · rw [f.1 0 (by decide) (by decide) (by decide) (by decide) (by decide)]; exact h2
  · rw [f.1 1 (by decide) (by decide) (by decide) (by decide) (by decide)]; exact h3
  · obtain ⟨a, b, c, d⟩ := h5 s hs
    exact ⟨a, b, c.fm f, d.fm f⟩
theorem Rel_fs {T : TS} {M : St} {i : Nat} {S2 : St} (h : Rel T M) (f : FrS (T.2.2 i) S2) : Rel (setT T i S2) M := by
  obtain ⟨as, td, h8, ht, h1, h2, h3, h4, h5⟩ := h
  refine ⟨as, td, h8, ht, h1, h2, h3, h4, fun s hs => ?_⟩
  obtain ⟨a, b, c, d⟩ := h5 s hs
  refine ⟨a, ?_, c, d⟩
  rw [setT_at]
  by_cases ct : s = i
  · subst ct; rw [if_pos rfl]; exact b.fr f
  · rw [if_neg ct]; exact b
theorem Rel_00 : Rel T00 initM := ⟨fun _ => newA 1, 0, Nat.zero_le _, by decide, rfl, rfl, rfl, fun t _ _ => ⟨rfl, rfl, rfl, rfl, rfl, rfl, rfl⟩, fun s hs => absurd hs (Nat.not_lt_zero _)⟩
/-- a change of one store on both sides -/
theorem Rel_upd {T : TS} {M2 : St} {as : Nat → AB} {td : Int} {i : Nat} {A2 : AB} {S2 : St} (h8 : T.2.1 ≤ 8) (ht : 0 ≤ td ∧ td ≤ 2000) (h1 : T.1.1 = i3 td) (h2 : M2.1 0 = i3 td) (h3 : M2.1 1 = i3 T.2.1) (h4 : Fresh M2 T.2.1) (h5 : ∀ s, s < T.2.1 → s ≠ i → Val td (as s) ∧ Cl (as s) (T.2.2 s) ∧ Mo (as s) M2 s ∧ MoC (as s) M2 s) (h6 : Val td A2 ∧ Cl A2 S2 ∧ Mo A2 M2 i ∧ MoC A2 M2 i) : Rel (setT T i S2) M2 := by
  refine ⟨fun s => if s = i then A2 else as s, td, h8, ht, h1, h2, h3, h4, fun s hs => ?_⟩
  rw [setT_at]
  dsimp only
  by_cases ct : s = i
  · subst ct; rw [if_pos rfl, if_pos rfl]; exact h6
  · rw [if_neg ct, if_neg ct]; exact h5 s hs ct
