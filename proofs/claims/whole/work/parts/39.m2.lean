/-! The reference: slopes laid, the middle one found -/
theorem cnt_snoc {α : Type} {p : α → Bool} {l : List α} {i : Nat} (h : i < l.length) : (l.take (i + 1)).countP p = (l.take i).countP p + if p l[i] = true then 1 else 0 := by
  rw [List.take_succ_eq_append_getElem h, List.countP_append]
  simp [List.countP_cons]
theorem cnt_add {α : Type} {p q r : α → Bool} (h : ∀ z, (if p z = true then 1 else 0) + (if q z = true then 1 else 0) = (if r z = true then 1 else 0 : Nat)) : ∀ l : List α, l.countP p + l.countP q = l.countP r
  | [] => rfl
  | a :: l => by
    have h1 := cnt_add h l
    have h2 := h a
    simp only [List.countP_cons]
    omega
theorem Laid.fr {M M2 : St} {l : List (Int × Int)} (h : Laid M l) (h1 : M2.1 2 = M.1 2) (h2 : M2.2 15 = M.2 15) (h3 : M2.2 16 = M.2 16) : Laid M2 l := by
  have : nm M2 = nm M := by unfold nm; rw [h2, h3]
  exact ⟨h1.trans h.1, by rw [this]; exact h.2⟩
theorem Laid_push {S : St} {l : List (Int × Int)} {x : Int × Int} (h : Laid S l) (hx : Bd x) : Laid (sF (sA (sA S 15 l.length (i3 x.1)) 16 l.length (i3 x.2)) 2 (i3 (((l.length + 1 : Nat)) : Int))) (l ++ [x]) := by
  obtain ⟨b1, b2, b3, b4⟩ := hx
  have e1 : ∀ k, nm (sF (sA (sA S 15 l.length (i3 x.1)) 16 l.length (i3 x.2)) 2 (i3 (((l.length + 1 : Nat)) : Int))) k = if k = l.length then x else nm S k := by
    intro k
    unfold nm
    rw [sF_2, sA_ne _ _ _ _ _ (show (15 : Nat) ≠ 16 by decide), sA_same, sA_same, sA_ne _ _ _ _ _ (show (16 : Nat) ≠ 15 by decide)]
    by_cases c : k = l.length
    · rw [if_pos c, if_pos c, if_pos c, i3_toInt (by omega) (by omega), i3_toInt (by omega) (by omega)]
    · rw [if_neg c, if_neg c, if_neg c]
  have hlen : (l ++ [x]).length = l.length + 1 := by simp
  refine ⟨by rw [hlen]; rfl, ?_⟩
  rw [hlen, range_snoc, e1, if_pos rfl]
  congr 1
  rw [range_ext (g := nm S) (fun k hk => by rw [e1, if_neg (by omega)])]
  exact h.2
def Lf (A : AB) (o : Int) (k f : Nat) : List (Int × Int) := ((prs k ++ (List.range f).map (fun f => (f, k))).filter (kp o)).map (frc A)
theorem Lf_succ (A : AB) (o : Int) (k f : Nat) : Lf A o k (f + 1) = Lf A o k f ++ if kp o (f, k) = true then [frc A (f, k)] else [] := by
  unfold Lf
  rw [List.range_succ, List.map_append, ← List.append_assoc, List.filter_append, List.map_append]
  congr 1
  by_cases c : kp o (f, k) = true
  · rw [if_pos c]; simp [c]
  · rw [if_neg c]; simp [c]
theorem Lf_len (A : AB) (o : Int) {k f : Nat} (hk : k < 12) (hf : f < k) : (Lf A o k f).length < 66 := by
  unfold Lf
  rw [List.length_map]
  have h1 := List.length_filter_le (kp o) (prs k ++ (List.range f).map (fun f => (f, k)))
  have h2 := prs_room k hk
  simp only [List.length_append, List.length_map, List.length_range] at h1
  omega
theorem Lf_next (A : AB) (o : Int) (k : Nat) : Lf A o k k = Lf A o (k + 1) 0 := by
  unfold Lf
  rw [← prs_succ]; simp
theorem m_lay_in {A : AB} {M : St} {td : Int} {s k : Nat} (hv : Val td A) (ht : td ≤ 2000) (hs : s < 8) (h : Mo A M s) (hk : k < aN A) {o : Int} (ho : -1 ≤ o ∧ o ≤ 100) : ∀ (fuel f : Nat) (S : St), k < f + fuel → f ≤ k → FrM M S → Laid S (Lf A o k f) → (∀ j, j ≤ k → S.2 14 j = i3 (fil A j)) → ∃ S2, f_X8_laysSlopes_86 (i3 s) (i3 o) (i3 k) fuel (i3 f) S = some S2 ∧ FrM M S2 ∧ Laid S2 (Lf A o (k + 1) 0) ∧ (∀ j, j ≤ k → S2.2 14 j = i3 (fil A j)) ∧ S2.1 5 = S.1 5 ∧ S2.1 6 = S.1 6 := by
  have hn := hv.2.2.2.1
  intro fuel
  induction fuel with
  | zero => intro f S h1 h2; omega
  | succ fuel ih =>
    intro f S h1 h2 fm hl h14
    unfold f_X8_laysSlopes_86
    simp (disch := omega) only [i3_le, i3_eq, nmv_eq, l3_1, l3_12, i3_add, i3_mul]
    by_cases c : (k : Int) ≤ f
    · rw [if_pos c]
      have : f = k := by omega
      subst this
      rw [Lf_next] at hl
      exact ⟨S, rfl, fm, hl, h14, rfl, rfl⟩
    · rw [if_neg c]
      have hlk := Lf_len A o (k := k) (f := f) (by omega) (by omega)
      by_cases c1 : (k : Int) = o
      · rw [if_pos c1, Option.bind_some]
        have e : Lf A o k (f + 1) = Lf A o k f := by
          rw [Lf_succ, if_neg (by unfold kp; simp [c1]), List.append_nil]
        exact ih (f + 1) S (by omega) (by omega) fm (by rw [e]; exact hl) h14
      · rw [if_neg c1]
        by_cases c2 : (f : Int) = o
        · rw [if_pos c2, Option.bind_some]
          have e : Lf A o k (f + 1) = Lf A o k f := by
            rw [Lf_succ, if_neg (by unfold kp; simp [c2]), List.append_nil]
          exact ih (f + 1) S (by omega) (by omega) fm (by rw [e]; exact hl) h14
        · rw [if_neg c2]
          have i1 : inb (i3 (k : Int)) 12 := inbN (by omega) (by omega)
          have i2 : inb (i3 (f : Int)) 12 := inbN (by omega) (by omega)
          have i3' : inb (i3 ((Lf A o k f).length : Int)) 66 := inbN hlk (by omega)
          have e1 : (i3 (k : Int)).toNatClampNeg = k := i3_nn (by omega)
          have e2 : (i3 (f : Int)).toNatClampNeg = f := i3_nn (by omega)
          have e3 : (i3 ((Lf A o k f).length : Int)).toNatClampNeg = (Lf A o k f).length := i3_nn (by omega)
          have j1 : inb (i3 ((12 : Int) * s + k)) 96 := inbI (by omega) (by omega) (by omega)
          have j2 : inb (i3 ((12 : Int) * s + f)) 96 := inbI (by omega) (by omega) (by omega)
          have d1 : (i3 ((12 : Int) * s + k)).toNatClampNeg = 12 * s + k := by rw [i3_nat (by omega) (by omega)]; omega
          have d2 : (i3 ((12 : Int) * s + f)).toNatClampNeg = 12 * s + f := by rw [i3_nat (by omega) (by omega)]; omega
          have hS2 : S.2 2 = M.2 2 := fm.2 2 (by decide) (by decide) (by decide)
          have hfr : Bd (frc A (f, k)) := by
            have := prs_frc hv ht (f, k) (by
              unfold prs
              exact List.mem_flatMap.mpr ⟨k, List.mem_range.mpr hk, List.mem_map.mpr ⟨f, List.mem_range.mpr (by omega), rfl⟩⟩)
            exact ⟨this.1.1, this.1.2, this.2.1, this.2.2⟩
          rw [ck_pos i1, ck_pos i2]
          simp only [hl.1, ck_pos i3', e1, e2, e3, sA_1, ck_pos j1, ck_pos j2, d1, d2, h14 k (Nat.le_refl _), h14 f (by omega), sA_ne _ _ _ _ _ (show (2 : Nat) ≠ 15 by decide), hS2, (h.2.1 k hk).1, (h.2.1 f (by omega)).1, i3_sub, i3_add, Option.bind_some]
          have hp := Laid_push hl hfr
          have e : Lf A o k (f + 1) = Lf A o k f ++ [frc A (f, k)] := by
            rw [Lf_succ, if_pos (by unfold kp; simp [c1, c2])]
          rw [← e] at hp
          obtain ⟨S3, q1, q2, q3, q4, q5, q6⟩ := ih (f + 1) _ (by omega) (by omega) ((fm.tr ((FrM.a S 15 _ _ (by omega)).tr (FrM.a _ 16 _ _ (by omega)))).tr (FrM.f _ 2 _ (by omega))) hp (fun j hj => by
            rw [sF_2, sA_ne _ _ _ _ _ (by decide), sA_ne _ _ _ _ _ (by decide)]; exact h14 j hj)
          exact ⟨S3, q1, q2, q3, q4, q5, q6⟩
def LD (A : AB) (o : Int) (k : Nat) (S : St) : Prop := (1 ≤ k → ((k : Int) - 1 ≠ o → S.1 5 = i3 (aDy A (k - 1)) ∧ S.1 6 = i3 (aUs A (k - 1)))) ∧ (2 ≤ k → ((k : Int) - 1 = o → S.1 5 = i3 (aDy A (k - 2)) ∧ S.1 6 = i3 (aUs A (k - 2))))
theorem m_lay_out {A : AB} {M : St} {td : Int} {s : Nat} (hv : Val td A) (ht : td ≤ 2000) (hs : s < 8) (h : Mo A M s) {o : Int} (ho : -1 ≤ o ∧ o ≤ 100) : ∀ (fuel k : Nat) (S : St), aN A < k + fuel → k ≤ aN A → FrM M S → Laid S (Lf A o k 0) → (∀ j, j < k → S.2 14 j = i3 (fil A j)) → LD A o k S → ∃ S2, f_X8_laysSlopes_7 (i3 s) (i3 o) fuel (i3 k) S = some S2 ∧ FrM M S2 ∧ Laid S2 (sl A o) ∧ LD A o (aN A) S2 := by
  have hn := hv.2.2.2.1
  have i0 : inb (i3 (s : Int)) 8 := inbN hs (by omega)
  have e0 : (i3 (s : Int)).toNatClampNeg = s := i3_nn (by omega)
  intro fuel
  induction fuel with
  | zero => intro k S h1 h2; omega
  | succ fuel ih =>
    intro k S h1 h2 fm hl h14 hd
    have h1S : S.2 1 s = i3 (aN A) := by rw [fm.2 1 (by decide) (by decide) (by decide)]; exact h.1.2.1
    unfold f_X8_laysSlopes_7
    rw [ck_pos i0]
    simp (disch := omega) only [e0, h1S, i3_le]
    by_cases c : (aN A : Int) ≤ k
    · rw [if_pos c]
      have : k = aN A := by omega
      subst this
      exact ⟨S, rfl, fm, by unfold Lf at hl; simpa [sl] using hl, hd⟩
    · rw [if_neg c, m_fill hv ht hs (h.fm fm) (by omega), Option.bind_some]
      have i1 : inb (i3 (k : Int)) 12 := inbN (by omega) (by omega)
      have e1 : (i3 (k : Int)).toNatClampNeg = k := i3_nn (by omega)
      have j1 : inb (i3 12 * i3 (s : Int) + i3 (k : Int)) 96 := by rw [i3_mul, i3_add]; exact inbI (by omega) (by omega) (by omega)
      have d1 : (i3 12 * i3 (s : Int) + i3 (k : Int)).toNatClampNeg = 12 * s + k := by rw [i3_mul, i3_add, i3_nat (by omega) (by omega)]; omega
      rw [ck_pos i1, nmv_eq, e1, l3_12, ck_pos j1]
      have g2 : ∀ v : Int32, (sA S 14 k v).2 2 (12 * s + k) = i3 (aDy A k) := fun v => by
        rw [sA_ne _ _ _ _ _ (by decide), fm.2 2 (by decide) (by decide) (by decide)]; exact (h.2.1 k (by omega)).1
      have g3 : ∀ v : Int32, (sA S 14 k v).2 3 (12 * s + k) = i3 (aUs A k) := fun v => by
        rw [sA_ne _ _ _ _ _ (by decide), fm.2 3 (by decide) (by decide) (by decide)]; exact (h.2.1 k (by omega)).2
      obtain ⟨v5, w5, hw5⟩ : ∃ v5 : Int32, (if i3 (k : Int) = i3 o then some ((sA S 14 k (i3 (fil A k))).1 5) else some ((sA S 14 k (i3 (fil A k))).2 2 (i3 12 * i3 (s : Int) + i3 (k : Int)).toNatClampNeg)) = some v5 ∧ v5 = if (k : Int) = o then S.1 5 else i3 (aDy A k) := by
        simp (disch := omega) only [i3_eq]
        by_cases q : (k : Int) = o
        · rw [if_pos q]; exact ⟨_, rfl, (if_pos q).symm⟩
        · rw [if_neg q, d1, g2]; exact ⟨_, rfl, (if_neg q).symm⟩
      obtain ⟨v6, w6, hw6⟩ : ∃ v6 : Int32, (if i3 (k : Int) = i3 o then some ((sF (sA S 14 k (i3 (fil A k))) 5 v5).1 6) else ck (inb (i3 12 * i3 (s : Int) + i3 (k : Int)) 96) (some ((sF (sA S 14 k (i3 (fil A k))) 5 v5).2 3 (i3 12 * i3 (s : Int) + i3 (k : Int)).toNatClampNeg))) = some v6 ∧ v6 = if (k : Int) = o then S.1 6 else i3 (aUs A k) := by
        rw [ck_pos j1]
        simp (disch := omega) only [i3_eq]
        by_cases q : (k : Int) = o
        · rw [if_pos q]; exact ⟨_, rfl, (if_pos q).symm⟩
        · rw [if_neg q, sF_2, d1, g3]; exact ⟨_, rfl, (if_neg q).symm⟩
      rw [w5, Option.bind_some, nmv_eq]
      rw [w6, Option.bind_some, nmv_eq, l3_0]
      have fm2 : FrM M (sF (sF (sA S 14 k (i3 (fil A k))) 5 v5) 6 v6) := ((fm.tr (FrM.a S 14 _ _ (by omega))).tr (FrM.f _ 5 _ (by omega))).tr (FrM.f _ 6 _ (by omega))
      obtain ⟨S3, q1, q2, q3, q4, q5, q6⟩ := m_lay_in hv ht hs h (k := k) (by omega) ho 3000 0 (sF (sF (sA S 14 k (i3 (fil A k))) 5 v5) 6 v6) (by omega) (by omega) fm2 (hl.fr rfl rfl rfl) (fun j hj => by
        rw [sF_2, sF_2, sA_same]
        by_cases cj : j = k
        · rw [if_pos cj, cj]
        · rw [if_neg cj]; exact h14 j (by omega))
      rw [show i3 0 = i3 ((0 : Nat) : Int) from rfl, q1, Option.bind_some, nmv_eq, l3_1, i3_add]
      have hq5 : S3.1 5 = v5 := by rw [q5]; rfl
      have hq6 : S3.1 6 = v6 := by rw [q6]; rfl
      refine ih (k + 1) S3 (by omega) (by omega) q2 q3 (fun j hj => q4 j (by omega)) ⟨fun a b => ?_, fun a b => ?_⟩
      · rw [hq5, hq6, hw5, hw6, if_neg (by omega), if_neg (by omega)]
        exact ⟨rfl, rfl⟩
      · rw [hq5, hq6, hw5, hw6, if_pos (by omega), if_pos (by omega)]
        exact hd.1 (by omega) (by omega)
theorem m_lays {A : AB} {M : St} {td : Int} {s : Nat} (hv : Val td A) (ht : td ≤ 2000) (hs : s < 8) (h : Mo A M s) {o : Int} (ho : -1 ≤ o ∧ o ≤ 100) : ∃ M2, f_X8_laysSlopes (i3 s) (i3 o) M = some (i3 (if (sl A o).length = 0 then 0 else 1), M2) ∧ FrM M M2 ∧ Laid M2 (sl A o) ∧ LD A o (aN A) M2 := by
  have hn := hv.2.2.2.1
  have f0 := FrM.f M 2 (i3 0) (by omega)
  obtain ⟨M2, q1, q2, q3, q4⟩ := m_lay_out hv ht hs h ho 3000 0 (sF M 2 (i3 0)) (by omega) (by omega) f0 ⟨rfl, rfl⟩ (fun j hj => absurd hj (Nat.not_lt_zero _)) ⟨fun a => by omega, fun a => by omega⟩
  refine ⟨M2, ?_, q2, q3, q4⟩
  have hlen : (sl A o).length ≤ 66 := by
    unfold sl
    rw [List.length_map]
    have h1 := List.length_filter_le (kp o) (prs (aN A))
    have h2 := prs_len (aN A) (by omega)
    have h3 := tri_small (aN A) (by omega)
    omega
  unfold f_X8_laysSlopes
  rw [nmv_eq, l3_0]
  have q1' : f_X8_laysSlopes_7 (i3 s) (i3 o) 3000 (i3 0) (sF M 2 (i3 0)) = some M2 := q1
  rw [q1', Option.bind_some]
  simp (disch := omega) only [q3.1, i3_le, l3_1]
  by_cases c : (sl A o).length = 0
  · rw [if_pos c, if_pos (by omega)]
  · rw [if_neg c, if_neg (by omega)]
theorem m_middle {m : Nat} (h : 1 ≤ m ∧ m ≤ 10000) : f_X8_middle (i3 m) = some (i3 (((m - 1) / 2 : Nat) : Int)) := by
  unfold f_X8_middle
  simp (disch := omega) only [l3_1, l3_2, i3_div, i3_mul, i3_sub, i3_eq]
  by_cases c : (m : Int) - m / 2 * 2 = 1
  · rw [if_pos c]; congr 2; omega
  · rw [if_neg c]; congr 2; omega
def eqb (y z : Int × Int) : Bool := !flt z y && !flt y z
theorem flt_as {y z : Int × Int} (h : flt z y = true) : flt y z = false := by
  have := of_decide_eq_true h
  exact decide_eq_false (by omega)
theorem cnt_flt (y : Int × Int) (l : List (Int × Int)) : l.countP (fun z => flt z y) + l.countP (eqb y) = l.countP (fun z => !flt y z) := by
  refine cnt_add (fun z => ?_) l
  unfold eqb
  cases h1 : flt z y with
  | true => rw [flt_as h1]; rfl
  | false => cases h2 : flt y z <;> rfl
theorem m_count {M : St} {l : List (Int × Int)} (hl : Laid M l) (hb : ∀ x ∈ l, Bd x) (hlen : l.length ≤ 66) {k : Nat} (hk : k < l.length) : ∀ (fuel j : Nat), l.length < j + fuel → j ≤ l.length → f_X8_findsSlope_30 (i3 k) M fuel (i3 ((l.take j).countP (fun z => flt z (nm M k)) : Nat)) (i3 ((l.take j).countP (eqb (nm M k)) : Nat)) (i3 j) = some (i3 (l.countP (fun z => flt z (nm M k)) : Nat), i3 (l.countP (eqb (nm M k)) : Nat)) := by
  intro fuel
  induction fuel with
  | zero => intro j h1 h2; omega
  | succ fuel ih =>
    intro j h1 h2
    unfold f_X8_findsSlope_30
    simp (disch := omega) only [hl.1, i3_le]
    by_cases c : (l.length : Int) ≤ j
    · rw [if_pos c, List.take_of_length_le (by omega)]
    · rw [if_neg c]
      have hj : j < l.length := by omega
      have hcm := m_compare (by omega) (by omega) (hb _ (hl.mem hj)) (hb _ (hl.mem hk))
      have s1 := cnt_snoc (p := fun z => flt z (nm M k)) hj
      have s2 := cnt_snoc (p := eqb (nm M k)) hj
      rw [← hl.at hj] at s1 s2
      have := ih (j + 1) (by omega) (by omega)
      rw [← this]
      by_cases h3 : flt (nm M j) (nm M k) = true
      · rw [if_pos h3] at hcm s1
        rw [if_neg (by unfold eqb; simp [h3])] at s2
        rw [hcm, s1, s2, Option.bind_some]
        simp only [l3_0, l3_1, nmv_eq, i3_add]
        rw [if_neg (show ¬ i3 0 ≤ i3 (-1) by decide)]
        simp only [Option.bind_some, i3_add]
        rw [if_neg (show ¬ i3 (-1) = i3 0 by decide)]
        simp only [Option.bind_some, i3_add]
        rfl
      · rw [if_neg h3] at hcm s1
        by_cases h4 : flt (nm M k) (nm M j) = true
        · rw [if_pos h4] at hcm
          rw [if_neg (by unfold eqb; simp [h4])] at s2
          rw [hcm, s1, s2, Option.bind_some]
          simp only [l3_0, l3_1, nmv_eq, i3_add]
          rw [if_pos (show i3 0 ≤ i3 1 by decide)]
          simp only [Option.bind_some, i3_add]
          rw [if_neg (show ¬ i3 1 = i3 0 by decide)]
          simp only [Option.bind_some, i3_add]
          rfl
        · rw [if_neg h4] at hcm
          rw [if_pos (by unfold eqb; simp [h3, h4])] at s2
          rw [hcm, s1, s2, Option.bind_some]
          simp only [l3_0, l3_1, nmv_eq, i3_add]
          rw [if_pos (show i3 0 ≤ i3 0 by decide)]
          simp only [Option.bind_some, i3_add]
          rw [if_pos trivial]
          simp only [Option.bind_some, i3_add]
          rfl
def Qr (l : List (Int × Int)) (M : St) : Prop := ∃ x, Mid l x ∧ M.1 3 = i3 (redN x) ∧ M.1 4 = i3 (redD x)
theorem m_find_loop {l : List (Int × Int)} (hb : ∀ x ∈ l, Bd x) (hlen : 1 ≤ l.length ∧ l.length ≤ 66) : ∀ (fuel k : Nat) (M : St), l.length < k + fuel → k ≤ l.length → Laid M l → (Qr l M ∨ ∃ j, k ≤ j ∧ j < l.length ∧ Mid l (nm M j)) → ∃ M2, f_X8_findsSlope_13 fuel (i3 k) M = some M2 ∧ FrM M M2 ∧ Qr l M2 ∧ M2.1 5 = M.1 5 ∧ M2.1 6 = M.1 6 := by
  intro fuel
  induction fuel with
  | zero => intro k M h1 h2; omega
  | succ fuel ih =>
    intro k M h1 h2 hl hq
    unfold f_X8_findsSlope_13
    simp (disch := omega) only [hl.1, i3_le]
    by_cases c : (l.length : Int) ≤ k
    · rw [if_pos c]
      rcases hq with hq | ⟨j, j1, j2, j3⟩
      · exact ⟨M, rfl, FrM.rf M, hq, rfl, rfl⟩
      · omega
    · rw [if_neg c]
      have hk : k < l.length := by omega
      have hc := m_count hl hb hlen.2 hk 3000 0 (by omega) (by omega)
      have hc' : f_X8_findsSlope_30 (i3 k) M 3000 0 0 0 = some (i3 (l.countP (fun z => flt z (nm M k)) : Nat), i3 (l.countP (eqb (nm M k)) : Nat)) := by rw [l3_0]; exact hc
      have hs := cnt_flt (nm M k) l
      have hcl : l.countP (fun z => flt z (nm M k)) ≤ l.length := List.countP_le_length
      have hcl2 : l.countP (eqb (nm M k)) ≤ l.length := List.countP_le_length
      rw [hc', Option.bind_some]
      dsimp only
      rw [m_middle (by omega), Option.bind_some]
      simp (disch := omega) only [i3_lt, Option.bind_some, i3_add, i3_le, nmv_eq, l3_1]
      have hno : ¬ Mid l (nm M k) → (Qr l M ∨ ∃ j, k + 1 ≤ j ∧ j < l.length ∧ Mid l (nm M j)) := by
        intro hn
        rcases hq with hq | ⟨j, j1, j2, j3⟩
        · exact Or.inl hq
        · rcases (show j = k ∨ k + 1 ≤ j by omega) with q | q
          · subst q; exact absurd j3 hn
          · exact Or.inr ⟨j, q, j2, j3⟩
      by_cases c1 : (((l.length - 1) / 2 : Nat) : Int) < (l.countP (fun z => flt z (nm M k)) : Nat)
      · rw [if_pos c1, Option.bind_some]
        exact ih (k + 1) M (by omega) (by omega) hl (hno (fun q => by have := q.2.1; omega))
      · rw [if_neg c1]
        by_cases c2 : ((l.countP (fun z => flt z (nm M k)) : Nat) : Int) + (l.countP (eqb (nm M k)) : Nat) ≤ (((l.length - 1) / 2 : Nat) : Int)
        · rw [if_pos c2, Option.bind_some]
          exact ih (k + 1) M (by omega) (by omega) hl (hno (fun q => by have := q.2.2; omega))
        · rw [if_neg c2]
          have hm : Mid l (nm M k) := ⟨hl.mem hk, by omega, by omega⟩
          have ik : inb (i3 (k : Int)) 66 := inbN (by omega) (by omega)
          have ek : (i3 (k : Int)).toNatClampNeg = k := i3_nn (by omega)
          have bk := hb _ (hl.mem hk)
          have g1 : M.2 15 k = i3 (nm M k).1 := i3_of _
          have g2 : M.2 16 k = i3 (nm M k).2 := i3_of _
          obtain ⟨b1, b2, b3, b4⟩ := bk
          obtain ⟨p1, p2⟩ := gcd_pos (x := (nm M k).1) b3
          have n0 : ¬ i3 (Int.gcd (nm M k).1 (nm M k).2 : Int) = 0 := by
            rw [l3_0, i3_eq (by omega) (by omega) (by omega) (by omega)]; omega
          have t1 : (nm M k).1.tdiv (Int.gcd (nm M k).1 (nm M k).2 : Int) = redN (nm M k) := Int.tdiv_eq_ediv_of_dvd (Int.gcd_dvd_left ..)
          have t2 : (nm M k).2.tdiv (Int.gcd (nm M k).1 (nm M k).2 : Int) = redD (nm M k) := Int.tdiv_eq_ediv_of_dvd (Int.gcd_dvd_right ..)
          have n0' : ¬ i3 (Int.gcd (nm M k).1 (nm M k).2 : Int) = i3 0 := by rw [← l3_0]; exact n0
          have hdv : f_X8_divisor (M.2 15 (i3 (k : Int)).toNatClampNeg) (M.2 16 (i3 (k : Int)).toNatClampNeg) = some (i3 (Int.gcd (nm M k).1 (nm M k).2 : Int)) := by
            rw [ek, g1, g2]; exact m_divisor ⟨b1, b2⟩ ⟨b3, b4⟩
          rw [ck_pos ik, ck_pos ik, hdv, Option.bind_some]
          simp only [ck_pos ik, ck_pos n0, ck_pos n0', Option.bind_some, sF_2, ek, g1, g2]
          rw [i3_tdiv (by omega) (by omega) (by omega) (by omega), i3_tdiv (by omega) (by omega) (by omega) (by omega), t1, t2]
          obtain ⟨M2, q1, q2, q3, q4, q5⟩ := ih (k + 1) (sF (sF M 3 (i3 (redN (nm M k)))) 4 (i3 (redD (nm M k)))) (by omega) (by omega) (hl.fr rfl rfl rfl) (Or.inl ⟨nm M k, hm, rfl, rfl⟩)
          exact ⟨M2, q1, ((FrM.f M 3 _ (by omega)).tr (FrM.f _ 4 _ (by omega))).tr q2, q3, q4, q5⟩
theorem sl_bd {td : Int} {A : AB} (hv : Val td A) (ht : td ≤ 2000) {o : Int} : ∀ x ∈ sl A o, Bd x := by
  intro x hx
  have := sl_mem hv hx
  exact ⟨this.2.2.1, this.2.2.2, this.1, by omega⟩
theorem m_finds {A : AB} {M : St} {td : Int} {s : Nat} (hv : Val td A) (ht : td ≤ 2000) (hs : s < 8) (h : Mo A M s) {o : Int} (ho : oOk (aN A) o) (hex : ∃ x, Mid (sl A o) x) : ∃ x M2, f_X8_findsSlope (i3 s) (i3 o) M = some (i3 1, M2) ∧ FrM M M2 ∧ Mid (sl A o) x ∧ M2.1 3 = i3 (redN x) ∧ M2.1 4 = i3 (redD x) ∧ M2.1 5 = i3 (aDy A (lastp (aN A) o)) ∧ M2.1 6 = i3 (aUs A (lastp (aN A) o)) := by
  have hn := hv.2.2.2.1
  have hob : -1 ≤ o ∧ o ≤ 100 := by rcases ho with h | h <;> omega
  obtain ⟨l1, l2, l3⟩ := sl_len hn ho
  obtain ⟨M1, q1, q2, q3, q4⟩ := m_lays hv ht hs h hob
  have hj : ∃ j, 0 ≤ j ∧ j < (sl A o).length ∧ Mid (sl A o) (nm M1 j) := by
    obtain ⟨x, hx⟩ := hex
    obtain ⟨j, hj, e⟩ := List.getElem_of_mem hx.1
    exact ⟨j, Nat.zero_le _, hj, by rw [q3.at hj, e]; exact hx⟩
  obtain ⟨M2, p1, p2, ⟨x, p3, p4, p5⟩, p6, p7⟩ := m_find_loop (sl_bd hv ht) ⟨l2, l3⟩ 3000 0 M1 (by omega) (by omega) q3 (Or.inr hj)
  have hld : M1.1 5 = i3 (aDy A (lastp (aN A) o)) ∧ M1.1 6 = i3 (aUs A (lastp (aN A) o)) := by
    unfold lastp
    by_cases c : o = (aN A : Int) - 1
    · rw [if_pos c]
      exact q4.2 (by rcases ho with h | h <;> omega) c.symm
    · rw [if_neg c]
      exact q4.1 (by rcases ho with h | h <;> omega) (fun e => c e.symm)
  refine ⟨x, M2, ?_, q2.tr p2, p3, p4, p5, p6.trans hld.1, p7.trans hld.2⟩
  unfold f_X8_findsSlope
  rw [q1, Option.bind_some]
  dsimp only
  rw [if_neg (show ¬ (sl A o).length = 0 by omega), if_neg (by decide), l3_0]
  have p1' : f_X8_findsSlope_13 3000 (i3 0) M1 = some M2 := p1
  rw [p1', Option.bind_some, l3_1]
theorem m_finds0 {A : AB} {M : St} {td : Int} {s : Nat} (hv : Val td A) (ht : td ≤ 2000) (hs : s < 8) (h : Mo A M s) (hn : aN A < 2) : ∃ M2, f_X8_findsSlope (i3 s) (i3 (-1)) M = some (i3 0, M2) ∧ FrM M M2 := by
  obtain ⟨M1, q1, q2, q3, q4⟩ := m_lays hv ht hs h (o := -1) (by omega)
  have hl : (sl A (-1)).length = 0 := by
    unfold sl
    rw [prs_all, List.length_map]
    rcases (show aN A = 0 ∨ aN A = 1 by omega) with h | h <;> rw [h] <;> decide
  refine ⟨M1, ?_, q2⟩
  unfold f_X8_findsSlope
  rw [q1, Option.bind_some]
  dsimp only
  rw [if_pos hl, if_pos l3_0.symm, l3_0]
