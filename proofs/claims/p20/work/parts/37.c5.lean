/-! The class: what is told -/

def adS1 (A : AB) (u : Int) : AB := (A.1, (aN A, aDy A, fun k => if k = aN A - 1 then u else aUs A k), A.2.2)
def adS2 (A : AB) (td u : Int) : AB := (A.1, (aN A + 1, (fun k => if k = aN A then td else aDy A k), fun k => if k = aN A then u else aUs A k), A.2.2)
def adS3 (A : AB) (td u : Int) : AB := (A.1, (aN A, (fun k => if k = aN A - 1 then td else aDy A (k + 1)), fun k => if k = aN A - 1 then u else aUs A (k + 1)), A.2.2)
def addS (A : AB) (td u : Int) : AB := if 0 < aN A ∧ aDy A (aN A - 1) = td then adS1 A u else if aN A < 12 then adS2 A td u else adS3 A td u
def addC (A : AB) (td f : Int) : AB := (A.1, A.2.1, (aM A + 1, (fun j => if j = aM A then td else aCd A j), fun j => if j = aM A then f else aCf A j), A.2.2.2)
def setR (A : AB) (fr ev : Int) : AB := ((aSz A, fr, ev), A.2)
def setZ (A : AB) (z : Int) : AB := ((z, A.1.2), A.2)
theorem Val.up {td td2 : Int} {A : AB} (h : Val td A) (ht : td ≤ td2) : Val td2 A := by
  obtain ⟨v1, v2, v3, v4, v5, v6, v7, v8, v9⟩ := h
  exact ⟨v1, v2, v3, v4, fun k hk => by have := v5 k hk; omega, v6, v7, fun j hj => by have := v8 j hj; omega, v9⟩
theorem Val_setR {td : Int} {A : AB} {fr ev : Int} (h : Val td A) (h1 : 0 ≤ fr ∧ fr ≤ 3000) (h2 : 0 ≤ ev ∧ ev ≤ 100) : Val td (setR A fr ev) := ⟨h.1, h1, h2, h.2.2.2⟩
theorem Val_setZ {td : Int} {A : AB} {z : Int} (h : Val td A) (h1 : 1 ≤ z ∧ z ≤ 1000000) : Val td (setZ A z) := ⟨h1, h.2⟩
theorem Val_setW {td : Int} {A : AB} {s : Int × Int} (h : Val td A) (h1 : bit s.1) (h2 : bit s.2) : Val td (setW A s) := by
  obtain ⟨v1, v2, v3, v4, v5, v6, v7, v8, v9⟩ := h
  exact ⟨v1, v2, v3, v4, v5, v6, v7, v8, h1, h2⟩
theorem Val_addC {td : Int} {A : AB} {f : Int} (h : Val td A) (ht : 0 ≤ td) (h1 : 1 ≤ f ∧ f ≤ 100000) (hm : aM A < 60) : Val td (addC A td f) := by
  obtain ⟨v1, v2, v3, v4, v5, v6, v7, v8, v9⟩ := h
  refine ⟨v1, v2, v3, v4, v5, v6, hm, fun j hj => ?_, v9⟩
  show 0 ≤ (if j = aM A then td else aCd A j) ∧ (if j = aM A then td else aCd A j) ≤ td ∧ 1 ≤ (if j = aM A then f else aCf A j) ∧ (if j = aM A then f else aCf A j) ≤ 100000
  have hj2 : j < aM A + 1 := hj
  by_cases c : j = aM A
  · simp only [if_pos c]; omega
  · simp only [if_neg c]
    exact v8 j (by omega)
theorem Val_addS {td : Int} {A : AB} {u : Int} (h : Val td A) (ht : 0 ≤ td) (h1 : 0 ≤ u ∧ u ≤ 1000000) : Val td (addS A td u) := by
  obtain ⟨v1, v2, v3, v4, v5, v6, v7, v8, v9⟩ := h
  have inc : ∀ i, i < aN A → ¬ (0 < aN A ∧ aDy A (aN A - 1) = td) → aDy A i < td := by
    intro i hi hc
    have a := v5 (aN A - 1) (by omega)
    have b : aDy A (aN A - 1) ≠ td := fun q => hc ⟨by omega, q⟩
    rcases (show i = aN A - 1 ∨ i < aN A - 1 by omega) with q | q
    · rw [q]; omega
    · have := v6 i (aN A - 1) q (by omega); omega
  unfold addS
  by_cases c : 0 < aN A ∧ aDy A (aN A - 1) = td
  · rw [if_pos c]
    refine ⟨v1, v2, v3, v4, fun k hk => ?_, v6, v7, v8, v9⟩
    have hk2 : k < aN A := hk
    have a := v5 k hk2
    show 0 ≤ aDy A k ∧ aDy A k ≤ td ∧ 0 ≤ (if k = aN A - 1 then u else aUs A k) ∧ (if k = aN A - 1 then u else aUs A k) ≤ 1000000
    by_cases q : k = aN A - 1
    · simp only [if_pos q]; omega
    · simp only [if_neg q]; omega
  · rw [if_neg c]
    by_cases c2 : aN A < 12
    · rw [if_pos c2]
      refine ⟨v1, v2, v3, c2, fun k hk => ?_, fun i j hij hj => ?_, v7, v8, v9⟩
      · have hk2 : k < aN A + 1 := hk
        show 0 ≤ (if k = aN A then td else aDy A k) ∧ (if k = aN A then td else aDy A k) ≤ td ∧ 0 ≤ (if k = aN A then u else aUs A k) ∧ (if k = aN A then u else aUs A k) ≤ 1000000
        by_cases q : k = aN A
        · simp only [if_pos q]; omega
        · simp only [if_neg q]
          exact v5 k (by omega)
      · have hj2 : j < aN A + 1 := hj
        show (if i = aN A then td else aDy A i) < (if j = aN A then td else aDy A j)
        rw [if_neg (by omega)]
        by_cases q : j = aN A
        · rw [if_pos q]; exact inc i (by omega) c
        · rw [if_neg q]; exact v6 i j hij (by omega)
    · rw [if_neg c2]
      refine ⟨v1, v2, v3, v4, fun k hk => ?_, fun i j hij hj => ?_, v7, v8, v9⟩
      · have hk2 : k < aN A := hk
        show 0 ≤ (if k = aN A - 1 then td else aDy A (k + 1)) ∧ (if k = aN A - 1 then td else aDy A (k + 1)) ≤ td ∧ 0 ≤ (if k = aN A - 1 then u else aUs A (k + 1)) ∧ (if k = aN A - 1 then u else aUs A (k + 1)) ≤ 1000000
        by_cases q : k = aN A - 1
        · simp only [if_pos q]; omega
        · simp only [if_neg q]
          exact v5 (k + 1) (by omega)
      · have hj2 : j < aN A := hj
        show (if i = aN A - 1 then td else aDy A (i + 1)) < (if j = aN A - 1 then td else aDy A (j + 1))
        rw [if_neg (by omega)]
        by_cases q : j = aN A - 1
        · rw [if_pos q]; exact inc (i + 1) (by omega) c
        · rw [if_neg q]; exact v6 (i + 1) (j + 1) (by omega) (by omega)
theorem cl_lastIs {A : AB} {S : St} {td : Int} (hv : Val td A) (ht : 0 ≤ td ∧ td ≤ 2000) (a1 : S.1 1 = i3 (aN A)) (b : ∀ k, k < aN A → S.2 0 k = i3 (aDy A k)) : f_X4_lastIsOf (i3 td) S = some (i3 (if 0 < aN A ∧ aDy A (aN A - 1) = td then 1 else 0)) := by
  have hn := hv.2.2.2.1
  unfold f_X4_lastIsOf
  simp (disch := omega) only [a1, l3_0, l3_1, i3_le, i3_sub]
  by_cases c : (aN A : Int) ≤ 0
  · rw [if_pos c, if_neg (by omega)]
  · have e : (i3 ((aN A : Int) - 1)).toNatClampNeg = aN A - 1 := by rw [i3_nat (by omega) (by omega)]; omega
    have hd := hv.2.2.2.2.1 (aN A - 1) (by omega)
    rw [if_neg c, ck_pos (inbI (by omega) (by omega) (by omega))]
    simp (disch := omega) only [e, b (aN A - 1) (by omega), i3_eq]
    by_cases q : aDy A (aN A - 1) = td
    · rw [if_pos q, if_pos ⟨by omega, q⟩]
    · rw [if_neg q, if_neg (by omega)]
/-- the rows of samples moved down, the first one forgotten, so far -/
def Dwn (S0 S : St) (i : Nat) : Prop := S.1 = S0.1 ∧ (∀ j, j ≠ 0 → j ≠ 1 → j ≠ 2 → S.2 j = S0.2 j) ∧ ∀ j, j ≤ 2 → ∀ k, S.2 j k = if k + 1 < i then S0.2 j (k + 1) else S0.2 j k
theorem cl_open_loop {S0 : St} : ∀ (fuel i : Nat) (S : St), 12 < i + fuel → 1 ≤ i → i ≤ 12 → Dwn S0 S i → ∃ S2, f_X4_openLastPlace_22 fuel (i3 i) S = some S2 ∧ Dwn S0 S2 12 := by
  intro fuel
  induction fuel with
  | zero => intro i S h1 h2 h3; omega
  | succ fuel ih =>
    intro i S h1 h2 h3 h
    unfold f_X4_openLastPlace_22
    simp (disch := omega) only [l3_12, l3_1, i3_le, i3_sub]
    by_cases c : (12 : Int) ≤ i
    · rw [if_pos c]
      have : i = 12 := by omega
      subst this
      exact ⟨S, rfl, h⟩
    · rw [if_neg c]
      obtain ⟨q, rfl⟩ : ∃ q, i = q + 1 := ⟨i - 1, by omega⟩
      rw [show ((q + 1 : Nat) : Int) - 1 = (q : Int) by omega]
      have i1 : inb (i3 (q : Int)) 12 := inbI (by omega) (by omega) (by omega)
      have i2 : inb (i3 ((q + 1 : Nat) : Int)) 12 := inbI (by omega) (by omega) (by omega)
      have e1 : (i3 (q : Int)).toNatClampNeg = q := by rw [i3_nat (by omega) (by omega)]; omega
      have e2 : (i3 ((q + 1 : Nat) : Int)).toNatClampNeg = q + 1 := by rw [i3_nat (by omega) (by omega)]; omega
      simp only [ck_pos i1, ck_pos i2, nmv_eq, e1, e2, i3_add]
      refine ih (q + 2) _ (by omega) (by omega) (by omega) ⟨h.1, ?_, ?_⟩
      · intro j a b d
        rw [sA_ne _ _ _ _ _ d, sA_ne _ _ _ _ _ b, sA_ne _ _ _ _ _ a]
        exact h.2.1 j a b d
      · intro j a k
        have key : ∀ j, j ≤ 2 → (if k = q then S.2 j (q + 1) else S.2 j k) = if k + 1 < q + 2 then S0.2 j (k + 1) else S0.2 j k := by
          intro j a
          by_cases ci : k = q
          · rw [if_pos ci, if_pos (by omega), h.2.2 j a, if_neg (by omega), ci]
          · rw [if_neg ci, h.2.2 j a]
            by_cases c5 : k + 1 < q + 1
            · rw [if_pos c5, if_pos (by omega)]
            · rw [if_neg c5, if_neg (by omega)]
        rcases (show j = 0 ∨ j = 1 ∨ j = 2 by omega) with rfl | rfl | rfl
        · rw [sA_ne _ _ _ _ _ (by decide), sA_ne _ _ _ _ _ (by decide), sA_same]
          exact key 0 (by omega)
        · rw [sA_ne _ _ _ _ _ (by decide), sA_same, sA_ne _ _ _ _ _ (by decide)]
          exact key 1 (by omega)
        · rw [sA_same, sA_ne _ _ _ _ _ (by decide), sA_ne _ _ _ _ _ (by decide)]
          exact key 2 (by omega)
theorem smc_all {A : AB} {td : Int} (hv : Val td A) : smc (fun j => if aCd A j ≤ td then aCf A j else 0) (aM A) = smc (aCf A) (aM A) := smc_ext (fun j hj => by
  have := hv.2.2.2.2.2.2.2.1 j hj
  rw [if_pos (by omega)])
theorem cl_place {A : AB} {S : St} {td u : Int} (hv : Val td A) (ht : 0 ≤ td ∧ td ≤ 2000) (h : Cl A S) : ∃ S4, ((if i3 (if 0 < aN A ∧ aDy A (aN A - 1) = td then 1 else 0) = (0 : Int32) then (f_X4_openLastPlace S).bind (fun (S7 : St) => some S7) else some S) = some S4) ∧ (1 ≤ aN (addS A td u) ∧ aN (addS A td u) ≤ 12) ∧ S4.1 1 = i3 (aN (addS A td u)) ∧ (∀ k, k ≠ 1 → S4.1 k = S.1 k) ∧ (∀ j, j ≠ 0 → j ≠ 1 → j ≠ 2 → S4.2 j = S.2 j) ∧ (∀ k, k < aN (addS A td u) - 1 → S4.2 0 k = i3 (aDy (addS A td u) k) ∧ S4.2 1 k = i3 (aUs (addS A td u) k) ∧ S4.2 2 k = i3 (fil (addS A td u) k)) ∧ aDy (addS A td u) (aN (addS A td u) - 1) = td ∧ aUs (addS A td u) (aN (addS A td u) - 1) = u := by
  have hn := hv.2.2.2.1
  obtain ⟨⟨a0, a1, a4, a5, a6, a7, a12, a13⟩, b, c3, d⟩ := h
  unfold addS
  by_cases c : 0 < aN A ∧ aDy A (aN A - 1) = td
  · rw [if_pos c, if_pos c, if_neg (by decide)]
    refine ⟨S, rfl, ⟨c.1, hn⟩, a1, fun _ _ => rfl, fun _ _ _ _ => rfl, fun k hk => ?_, c.2, if_pos rfl⟩
    have hk2 : k < aN A - 1 := hk
    obtain ⟨b0, b1, b2⟩ := b k (by omega)
    refine ⟨b0, ?_, ?_⟩
    · show S.2 1 k = i3 (if k = aN A - 1 then u else aUs A k)
      rw [if_neg (by omega)]; exact b1
    · rw [b2]
      show i3 (aUs A k + _) = i3 ((if k = aN A - 1 then u else aUs A k) + _)
      rw [if_neg (by omega)]
      rfl
  · rw [if_neg c, if_neg c, if_pos l3_0.symm]
    by_cases c2 : aN A < 12
    · rw [if_pos c2]
      refine ⟨sF S 1 (i3 ((aN A : Int) + 1)), ?_, ⟨Nat.succ_le_succ (Nat.zero_le _), c2⟩, ?_, fun k hk => by rw [sF_1, if_neg hk], fun _ _ _ _ => rfl, fun k hk => ?_, if_pos (Nat.add_sub_cancel _ _), if_pos (Nat.add_sub_cancel _ _)⟩
      · unfold f_X4_openLastPlace
        simp (disch := omega) only [l3_12, l3_1, i3_le, a1, nmv_eq, i3_add]
        rw [if_neg (by omega), Option.bind_some]
      · show i3 ((aN A : Int) + 1) = i3 ((aN A + 1 : Nat) : Int)
        rfl
      · have hk2 : k < aN A + 1 - 1 := hk
        obtain ⟨b0, b1, b2⟩ := b k (by omega)
        refine ⟨?_, ?_, ?_⟩
        · show S.2 0 k = i3 (if k = aN A then td else aDy A k)
          rw [if_neg (by omega)]; exact b0
        · show S.2 1 k = i3 (if k = aN A then u else aUs A k)
          rw [if_neg (by omega)]; exact b1
        · show S.2 2 k = i3 ((if k = aN A then u else aUs A k) + smc (fun j => if aCd A j ≤ (if k = aN A then td else aDy A k) then aCf A j else 0) (aM A))
          rw [b2]
          simp only [if_neg (show ¬ k = aN A by omega)]
          rfl
    · rw [if_neg c2]
      have h12 : aN A = 12 := by omega
      obtain ⟨S2, g1, g2⟩ := cl_open_loop (S0 := S) 3000 1 S (by omega) (by omega) (by omega) ⟨rfl, fun _ _ _ _ => rfl, fun j a k => by rw [if_neg (by omega)]⟩
      refine ⟨S2, ?_, ⟨by show 1 ≤ aN A; omega, hn⟩, ?_, fun k hk => by rw [g2.1], g2.2.1, fun k hk => ?_, if_pos rfl, if_pos rfl⟩
      · unfold f_X4_openLastPlace
        simp (disch := omega) only [l3_12, l3_1, i3_le, a1, nmv_eq, i3_add]
        rw [if_pos (by omega)]
        have g1' : f_X4_openLastPlace_22 3000 (i3 1) S = some S2 := g1
        rw [g1', Option.bind_some, Option.bind_some]
      · rw [g2.1]; exact a1
      · have hk2 : k < aN A - 1 := hk
        obtain ⟨b0, b1, b2⟩ := b (k + 1) (by omega)
        rw [g2.2.2 0 (by omega), g2.2.2 1 (by omega), g2.2.2 2 (by omega), if_pos (by omega), if_pos (by omega), if_pos (by omega), b0, b1, b2]
        refine ⟨?_, ?_, ?_⟩
        · show i3 _ = i3 (if k = aN A - 1 then td else aDy A (k + 1))
          rw [if_neg (by omega)]
        · show i3 _ = i3 (if k = aN A - 1 then u else aUs A (k + 1))
          rw [if_neg (by omega)]
        · show i3 _ = i3 ((if k = aN A - 1 then u else aUs A (k + 1)) + smc (fun j => if aCd A j ≤ (if k = aN A - 1 then td else aDy A (k + 1)) then aCf A j else 0) (aM A))
          simp only [if_neg (show ¬ k = aN A - 1 by omega)]
          rfl
theorem addS_keep (A : AB) (td u : Int) : (addS A td u).1 = A.1 ∧ (addS A td u).2.2 = A.2.2 := by
  unfold addS
  split
  · exact ⟨rfl, rfl⟩
  · split <;> exact ⟨rfl, rfl⟩
theorem cl_tellUsed {A : AB} {S : St} {td u : Int} (hv : Val td A) (ht : 0 ≤ td ∧ td ≤ 2000) (hu : 0 ≤ u ∧ u ≤ 1000000) (h : Cl A S) : ∃ S2, f_X5_tellUsed (i3 td) (i3 u) S = some S2 ∧ Cl (addS A td u) S2 := by
  have hv2 := Val_addS hv ht.1 hu
  obtain ⟨S4, p1, p2, p3, p4, p5, p6, p7, p8⟩ := cl_place (u := u) hv ht h
  obtain ⟨⟨a0, a1, a4, a5, a6, a7, a12, a13⟩, b, c3, d⟩ := h
  obtain ⟨k1, k2⟩ := addS_keep A td u
  have hl := cl_lastIs hv ht a1 (fun k hk => (b k hk).1)
  generalize hA : addS A td u = A2 at *
  obtain ⟨q, hq⟩ : ∃ q, aN A2 = q + 1 := ⟨aN A2 - 1, by omega⟩
  have i1 : inb (i3 (q : Int)) 12 := inbI (by omega) (by omega) (by omega)
  have e1 : (i3 (q : Int)).toNatClampNeg = q := by rw [i3_nat (by omega) (by omega)]; omega
  have hF := smc_rng (f := aCf A) (b := 100000) (n := aM A) (fun j hj => by have := hv.2.2.2.2.2.2.2.1 j hj; omega)
  have hm := hv.2.2.2.2.2.2.1
  have hh : f_X4_has (i3 (q : Int)) S4 = some (i3 1) := by
    rw [cl_has4 p3 p2.2 (by omega), if_neg (by omega)]
  have hput : f_X4_put (i3 td) (i3 u) (i3 (smc (aCf A) (aM A))) S = some (sA (sA (sA S4 0 q (i3 td)) 1 q (i3 u)) 2 q (i3 (u + smc (aCf A) (aM A)))) := by
    unfold f_X4_put
    rw [hl, Option.bind_some, p1, Option.bind_some, nmv_eq, p3, l3_1, i3_sub, show ((aN A2 : Nat) : Int) - 1 = (q : Int) by omega, hh, Option.bind_some, if_neg (by decide), ck_pos i1, nmv_eq, ck_pos i1, nmv_eq, ck_pos i1, nmv_eq, e1, i3_add]
  have hm2 : aM A2 = aM A := by unfold aM; rw [k2]
  have hcd : aCd A2 = aCd A := by unfold aCd; rw [k2]
  have hcf : aCf A2 = aCf A := by unfold aCf; rw [k2]
  have hfl : fil A2 q = u + smc (aCf A) (aM A) := by
    unfold fil
    rw [hq] at p7 p8
    rw [hm2, hcd, hcf]
    rw [show q + 1 - 1 = q from rfl] at p7 p8
    rw [p7, p8, smc_all hv]
  have b3 : Cl2 A2 (sA (sA (sA S4 0 q (i3 td)) 1 q (i3 u)) 2 q (i3 (u + smc (aCf A) (aM A)))) := by
    intro k hk
    rw [sA_ne _ _ _ _ _ (by decide), sA_ne _ _ _ _ _ (by decide), sA_same, sA_ne _ _ _ _ _ (by decide), sA_same, sA_ne _ _ _ _ _ (by decide), sA_same, sA_ne _ _ _ _ _ (by decide), sA_ne _ _ _ _ _ (by decide)]
    by_cases c : k = q
    · rw [if_pos c, if_pos c, if_pos c, c]
      rw [hq, show q + 1 - 1 = q from rfl] at p7 p8
      rw [p7, p8, hfl]
      exact ⟨rfl, rfl, rfl⟩
    · rw [if_neg c, if_neg c, if_neg c]
      exact p6 k (by omega)
  obtain ⟨S2, g1, g2, g3, g4, g5, g6, g7⟩ := cl_orderAll hv2 ht.2 (S := sA (sA (sA S4 0 q (i3 td)) 1 q (i3 u)) 2 q (i3 (u + smc (aCf A) (aM A)))) p3 b3
  refine ⟨S2, ?_, ⟨?_, ?_, ?_, ?_, ?_, ?_, ?_, ?_⟩, ?_, g2, ?_⟩
  · unfold f_X5_tellUsed f_X0_freedInAll
    rw [Option.bind_some, a5, hput, Option.bind_some, g1, Option.bind_some]
  · rw [g3 0 (by decide) (by decide)]; show S4.1 0 = _; rw [p4 0 (by decide), a0]; unfold aSz; rw [k1]
  · rw [g3 1 (by decide) (by decide)]; exact p3
  · rw [g3 4 (by decide) (by decide)]; show S4.1 4 = _; rw [p4 4 (by decide), a4, hm2]
  · rw [g3 5 (by decide) (by decide)]; show S4.1 5 = _; rw [p4 5 (by decide), a5, hm2, hcf]
  · rw [g3 6 (by decide) (by decide)]; show S4.1 6 = _; rw [p4 6 (by decide), a6]; unfold aFr; rw [k1]
  · rw [g3 7 (by decide) (by decide)]; show S4.1 7 = _; rw [p4 7 (by decide), a7]; unfold aEv; rw [k1]
  · rw [g3 12 (by decide) (by decide)]; show S4.1 12 = _; rw [p4 12 (by decide), a12]; unfold aOn; rw [k2]
  · rw [g3 13 (by decide) (by decide)]; show S4.1 13 = _; rw [p4 13 (by decide), a13]; unfold aNe; rw [k2]
  · intro k hk
    rw [g4, g5, g6]
    exact b3 k hk
  · unfold Cl4
    rw [hm2, hcf, g7, sA_ne _ _ _ _ _ (by decide), sA_ne _ _ _ _ _ (by decide), sA_ne _ _ _ _ _ (by decide), p5 7 (by decide) (by decide) (by decide)]
    exact d
theorem i3_let {v : Int32} {o : Int} (h1 : -2147483648 ≤ o) (h2 : o < 2147483648) : (v ≤ i3 o) = (v.toInt ≤ o) := by
  rw [Int32.le_iff_toInt_le, i3_toInt h1 h2]
def Shc (S0 S : St) (c p : Nat) : Prop := S.1 = S0.1 ∧ (∀ j, j ≠ 7 → S.2 j = S0.2 j) ∧ ∀ i, S.2 7 i = if p < i ∧ i ≤ c then S0.2 7 (i - 1) else S0.2 7 i
theorem cl_shc {S0 : St} {c : Nat} (hc : c < 60) {f : Int} (hf : 1 ≤ f ∧ f ≤ 100000) : ∀ (fuel p : Nat) (S : St), p < fuel → p ≤ c → Shc S0 S c p → (∀ i, p ≤ i → i < c → ilt f (S0.2 7 i).toInt = true) → ∃ r S2, f_X0_put_15 (i3 f) fuel (i3 p) S = some (i3 (r : Nat), S2) ∧ r ≤ c ∧ Shc S0 S2 c r ∧ (∀ i, r ≤ i → i < c → ilt f (S0.2 7 i).toInt = true) ∧ (r = 0 ∨ ilt f (S0.2 7 (r - 1)).toInt = false) := by
  intro fuel
  induction fuel with
  | zero => intro p S h1; omega
  | succ fuel ih =>
    intro p S h1 h3 hS h4
    unfold f_X0_put_15
    simp (disch := omega) only [l3_0, l3_1, i3_le, i3_sub]
    by_cases c0 : (p : Int) ≤ 0
    · rw [if_pos c0]
      exact ⟨p, S, rfl, h3, hS, h4, Or.inl (by omega)⟩
    · rw [if_neg c0]
      obtain ⟨q, rfl⟩ : ∃ q, p = q + 1 := ⟨p - 1, by omega⟩
      rw [show ((q + 1 : Nat) : Int) - 1 = (q : Int) by omega]
      have i1 : inb (i3 (q : Int)) 60 := inbI (by omega) (by omega) (by omega)
      have i2 : inb (i3 ((q + 1 : Nat) : Int)) 60 := inbI (by omega) (by omega) (by omega)
      have e1 : (i3 (q : Int)).toNatClampNeg = q := by rw [i3_nat (by omega) (by omega)]; omega
      have e2 : (i3 ((q + 1 : Nat) : Int)).toNatClampNeg = q + 1 := by rw [i3_nat (by omega) (by omega)]; omega
      have hq7 : S.2 7 q = S0.2 7 q := by rw [hS.2.2, if_neg (by omega)]
      simp (disch := omega) only [ck_pos i1, ck_pos i2, nmv_eq, e1, e2, i3_neg, i3_add, hq7, i3_let]
      by_cases cf : (S0.2 7 q).toInt ≤ f
      · rw [if_pos cf]
        exact ⟨q + 1, S, rfl, h3, hS, h4, Or.inr (decide_eq_false (by show ¬ f < (S0.2 7 q).toInt; omega))⟩
      · rw [if_neg cf, show ((q + 1 : Nat) : Int) + -1 = (q : Int) by omega]
        refine ih q _ (by omega) (by omega) ⟨hS.1, fun j a => by rw [sA_ne _ _ _ _ _ a]; exact hS.2.1 j a, fun i => ?_⟩ (fun i a b => ?_)
        · rw [sA_same]
          by_cases ci : i = q + 1
          · rw [if_pos ci, if_pos (by omega), ci]; rfl
          · rw [if_neg ci, hS.2.2]
            by_cases c5 : q + 1 < i ∧ i ≤ c
            · rw [if_pos c5, if_pos (by omega)]
            · rw [if_neg c5, if_neg (by omega)]
        · rcases (show i = q ∨ q + 1 ≤ i by omega) with h | h
          · subst h; exact decide_eq_true (by omega)
          · exact h4 i h b
theorem cl_putC {A : AB} {S : St} {td f : Int} (hv : Val td A) (hf : 1 ≤ f ∧ f ≤ 100000) (hm : aM A < 60) (a4 : S.1 4 = i3 (aM A)) (a5 : S.1 5 = i3 (smc (aCf A) (aM A))) (d : Cl4 A S) : ∃ S2, f_X0_put (i3 f) S = some S2 ∧ S2.1 4 = i3 ((aM A + 1 : Nat) : Int) ∧ S2.1 5 = i3 (smc (aCf A) (aM A) + f) ∧ (∀ k, k ≠ 4 → k ≠ 5 → S2.1 k = S.1 k) ∧ (∀ j, j ≠ 7 → S2.2 j = S.2 j) ∧ Cl4 (addC A td f) S2 := by
  obtain ⟨r, S1, r1, r2, r3, r4, r5⟩ := cl_shc (S0 := S) hm hf 3000 (aM A) S (by omega) (Nat.le_refl _) ⟨rfl, fun _ _ => rfl, fun i => by rw [if_neg (by omega)]⟩ (fun i a b => by omega)
  have ir : inb (i3 (r : Int)) 60 := inbI (by omega) (by omega) (by omega)
  have er : (i3 (r : Int)).toNatClampNeg = r := by rw [i3_nat (by omega) (by omega)]; omega
  refine ⟨sF (sF (sA S1 7 r (i3 f)) 4 (i3 ((aM A + 1 : Nat) : Int))) 5 (i3 (smc (aCf A) (aM A) + f)), ?_, rfl, rfl, fun k k1 k2 => ?_, fun j hj => ?_, ?_⟩
  · unfold f_X0_put
    simp (disch := omega) only [a4, l3_60, i3_lt]
    rw [if_pos (by omega), nmv_eq, r1, Option.bind_some]
    simp only [ck_pos ir, nmv_eq, er]
    have e4 : (sA S1 7 r (i3 f)).1 4 = i3 (aM A) := by rw [sA_1, r3.1]; exact a4
    have e5 : (sF (sA S1 7 r (i3 f)) 4 ((sA S1 7 r (i3 f)).1 4 + 1)).1 5 = i3 (smc (aCf A) (aM A)) := by rw [sF_1, if_neg (by decide), sA_1, r3.1]; exact a5
    rw [e5, e4, l3_1, i3_add, i3_add]
    rfl
  · rw [sF_1, if_neg k2, sF_1, if_neg k1, sA_1, r3.1]
  · rw [sF_2, sF_2, sA_ne _ _ _ _ _ hj]; exact r3.2.1 j hj
  · have hval : ∀ i, i < aM A + 1 → ((sF (sF (sA S1 7 r (i3 f)) 4 (i3 ((aM A + 1 : Nat) : Int))) 5 (i3 (smc (aCf A) (aM A) + f))).2 7 i).toInt = insA (fun j => (S.2 7 j).toInt) (aM A) r f i := by
      intro i hi
      rw [sF_2, sF_2, sA_same]
      unfold insA
      by_cases q1 : i = r
      · rw [if_pos q1, if_neg (by omega), if_pos q1, i3_toInt (by omega) (by omega)]
      · rw [if_neg q1, r3.2.2]
        by_cases q2 : i < r
        · rw [if_neg (by omega), if_pos q2]
        · rw [if_pos (by omega), if_neg q2, if_neg q1, if_pos (by omega)]
    obtain ⟨d1, d2⟩ := d
    unfold Cl4
    show ((List.range (aM A + 1)).map _).Perm ((List.range (aM A + 1)).map (fun j => if j = aM A then f else aCf A j)) ∧ ((List.range (aM A + 1)).map _).Pairwise _
    rw [range_ext hval]
    constructor
    · refine (insA_perm r2).trans ?_
      rw [range_snoc, if_pos rfl, range_ext (g := aCf A) (fun k hk => if_neg (by omega))]
      exact (List.Perm.cons _ d1).trans (List.perm_append_singleton _ _).symm
    · rw [insA_list r2]
      refine ins_pairwise (by rw [List.take_append_drop]; exact d2) ?_ ?_
      · intro x hx
        obtain ⟨i, hi, rfl⟩ := List.getElem_of_mem hx
        simp only [List.length_take, List.length_map, List.length_range] at hi
        simp only [List.getElem_take, List.getElem_map, List.getElem_range]
        rcases r5 with h0 | h0
        · omega
        · rcases (show i = r - 1 ∨ i < r - 1 by omega) with q | q
          · rw [q]; exact h0
          · have hp := List.pairwise_iff_getElem.mp d2 i (r - 1) (by simp; omega) (by simp; omega) q
            simp only [List.getElem_map, List.getElem_range] at hp
            have h1 := of_decide_eq_false hp
            have h2 := of_decide_eq_false h0
            exact decide_eq_false (by omega)
      · intro x hx
        obtain ⟨i, hi, rfl⟩ := List.getElem_of_mem hx
        simp only [List.length_drop, List.length_map, List.length_range] at hi
        simp only [List.getElem_drop, List.getElem_map, List.getElem_range]
        have h9 := of_decide_eq_true (r4 (r + i) (by omega) (by omega))
        exact decide_eq_false (by omega)
theorem fil_addC {A : AB} {td f : Int} {k : Nat} : fil (addC A td f) k = fil A k + if td ≤ aDy A k then f else 0 := by
  show aUs A k + smc (fun j => if (if j = aM A then td else aCd A j) ≤ aDy A k then (if j = aM A then f else aCf A j) else 0) (aM A + 1) = aUs A k + smc (fun j => if aCd A j ≤ aDy A k then aCf A j else 0) (aM A) + _
  have e : smc (fun j => if (if j = aM A then td else aCd A j) ≤ aDy A k then (if j = aM A then f else aCf A j) else 0) (aM A + 1) = smc (fun j => if (if j = aM A then td else aCd A j) ≤ aDy A k then (if j = aM A then f else aCf A j) else 0) (aM A) + (if td ≤ aDy A k then f else 0) := by
    show _ + (if (if aM A = aM A then td else aCd A (aM A)) ≤ aDy A k then (if aM A = aM A then f else aCf A (aM A)) else 0) = _
    rw [if_pos rfl, if_pos rfl]
  have e2 : smc (fun j => if (if j = aM A then td else aCd A j) ≤ aDy A k then (if j = aM A then f else aCf A j) else 0) (aM A) = smc (fun j => if aCd A j ≤ aDy A k then aCf A j else 0) (aM A) := smc_ext (fun j hj => by simp only [if_neg (show ¬ j = aM A by omega)])
  rw [e, e2]
  omega
theorem cl_tellFreed {A : AB} {S : St} {td f : Int} (hv : Val td A) (ht : 0 ≤ td ∧ td ≤ 2000) (hf : 1 ≤ f ∧ f ≤ 100000) (hm : aM A < 60) (h : Cl A S) : ∃ S2, f_X5_tellFreed (i3 td) (i3 f) S = some S2 ∧ Cl (addC A td f) S2 := by
  have hv2 := Val_addC hv ht.1 hf hm
  have hn := hv.2.2.2.1
  obtain ⟨⟨a0, a1, a4, a5, a6, a7, a12, a13⟩, b, c3, d⟩ := h
  obtain ⟨S1, p1, p2, p3, p4, p5, p6⟩ := cl_putC (td := td) hv hf hm a4 a5 d
  have b1 : Cl2 A S1 := by
    intro k hk
    rw [p5 0 (by decide), p5 1 (by decide), p5 2 (by decide)]
    exact b k hk
  have a11 : S1.1 1 = i3 (aN A) := by rw [p4 1 (by decide) (by decide)]; exact a1
  have hl := cl_lastIs hv ht a11 (fun k hk => (b1 k hk).1)
  have hS3 : ∃ S3, f_X4_addFreedOn (i3 td) (i3 f) S1 = some S3 ∧ S3.1 = S1.1 ∧ S3.2 0 = S1.2 0 ∧ S3.2 1 = S1.2 1 ∧ S3.2 7 = S1.2 7 ∧ Cl2 (addC A td f) S3 := by
    unfold f_X4_addFreedOn
    rw [hl, Option.bind_some]
    by_cases c : 0 < aN A ∧ aDy A (aN A - 1) = td
    · have i1 : inb (i3 ((aN A : Int) - 1)) 12 := inbI (by omega) (by omega) (by omega)
      have e1 : (i3 ((aN A : Int) - 1)).toNatClampNeg = aN A - 1 := by rw [i3_nat (by omega) (by omega)]; omega
      rw [if_pos c, if_neg (by decide), a11, l3_1, i3_sub, ck_pos i1, ck_pos i1, nmv_eq, e1]
      refine ⟨_, rfl, rfl, sA_ne _ _ _ _ _ (by decide), sA_ne _ _ _ _ _ (by decide), sA_ne _ _ _ _ _ (by decide), fun k hk => ?_⟩
      have hk2 : k < aN A := hk
      obtain ⟨b0, b2, b3⟩ := b1 k hk2
      rw [sA_ne _ _ _ _ _ (by decide), sA_ne _ _ _ _ _ (by decide), sA_same, fil_addC]
      refine ⟨b0, b2, ?_⟩
      by_cases q : k = aN A - 1
      · rw [if_pos q, if_pos (by rw [q]; omega), ← q, b3, i3_add]
      · have := hv.2.2.2.2.2.1 k (aN A - 1) (by omega) (by omega)
        rw [if_neg q, if_neg (by omega), b3, Int.add_zero]
    · rw [if_neg c, if_pos l3_0.symm]
      refine ⟨S1, rfl, rfl, rfl, rfl, rfl, fun k hk => ?_⟩
      have hk2 : k < aN A := hk
      obtain ⟨b0, b2, b3⟩ := b1 k hk2
      rw [fil_addC]
      refine ⟨b0, b2, ?_⟩
      have h9 := hv.2.2.2.2.1 (aN A - 1) (by omega)
      have h8 : aDy A (aN A - 1) ≠ td := fun q => c ⟨by omega, q⟩
      have h7 : aDy A k ≤ aDy A (aN A - 1) := by
        rcases (show k = aN A - 1 ∨ k < aN A - 1 by omega) with q | q
        · rw [← q]; omega
        · have := hv.2.2.2.2.2.1 k (aN A - 1) q (by omega); omega
      rw [if_neg (by omega), b3, Int.add_zero]
  obtain ⟨S3, q1, q2, q3, q4, q5, q6⟩ := hS3
  obtain ⟨S2, g1, g2, g3, g4, g5, g6, g7⟩ := cl_orderAll hv2 ht.2 (S := S3) (by rw [q2]; exact a11) q6
  have fld : ∀ k, k ≠ 2 → k ≠ 3 → k ≠ 4 → k ≠ 5 → S2.1 k = S.1 k := fun k x1 x2 x3 x4 => by rw [g3 k x1 x2, q2, p4 k x3 x4]
  refine ⟨S2, ?_, ⟨?_, ?_, ?_, ?_, ?_, ?_, ?_, ?_⟩, ?_, g2, ?_⟩
  · unfold f_X5_tellFreed
    rw [p1, Option.bind_some, q1, Option.bind_some, g1, Option.bind_some]
  · rw [fld 0 (by decide) (by decide) (by decide) (by decide)]; exact a0
  · rw [fld 1 (by decide) (by decide) (by decide) (by decide)]; exact a1
  · rw [g3 4 (by decide) (by decide), q2]; exact p2
  · rw [g3 5 (by decide) (by decide), q2, p3]
    congr 1
    show _ = smc (fun j => if j = aM A then f else aCf A j) (aM A) + (if aM A = aM A then f else aCf A (aM A))
    rw [if_pos rfl, smc_ext (g := aCf A) (fun j hj => if_neg (by omega))]
  · rw [fld 6 (by decide) (by decide) (by decide) (by decide)]; exact a6
  · rw [fld 7 (by decide) (by decide) (by decide) (by decide)]; exact a7
  · rw [fld 12 (by decide) (by decide) (by decide) (by decide)]; exact a12
  · rw [fld 13 (by decide) (by decide) (by decide) (by decide)]; exact a13
  · intro k hk
    rw [g4, g5, g6]
    exact q6 k hk
  · unfold Cl4 at p6 ⊢
    rw [g7, q5]
    exact p6
theorem cl_setRule {A : AB} {S : St} {fr ev : Int} (h : Cl A S) : f_X3_change (i3 fr) (i3 ev) S = some (sF (sF S 6 (i3 fr)) 7 (i3 ev)) ∧ Cl (setR A fr ev) (sF (sF S 6 (i3 fr)) 7 (i3 ev)) := by
  obtain ⟨⟨a0, a1, a4, a5, a6, a7, a12, a13⟩, b, c, d⟩ := h
  exact ⟨rfl, ⟨a0, a1, a4, a5, rfl, rfl, a12, a13⟩, b, c, d⟩
theorem cl_setSize {A : AB} {S : St} {z : Int} (h : Cl A S) : Cl (setZ A z) (sF S 0 (i3 z)) := by
  obtain ⟨⟨a0, a1, a4, a5, a6, a7, a12, a13⟩, b, c, d⟩ := h
  exact ⟨⟨rfl, a1, a4, a5, a6, a7, a12, a13⟩, b, c, d⟩
def newA (z : Int) : AB := ((z, 0, 0), (0, (fun _ => 0), fun _ => 0), (0, (fun _ => 0), fun _ => 0), (0, 0))
theorem cl_new {z : Int} : Cl (newA z) (initS (i3 z)) := by
  refine ⟨⟨rfl, rfl, rfl, rfl, rfl, rfl, rfl, rfl⟩, fun k hk => absurd hk (Nat.not_lt_zero _), ⟨rfl, rfl, List.Perm.refl _, List.Pairwise.nil⟩, List.Perm.refl _, List.Pairwise.nil⟩
theorem Val_new {td z : Int} (h : 1 ≤ z ∧ z ≤ 1000000) : Val td (newA z) := ⟨h, ⟨(by decide : (0 : Int) ≤ 0), (by decide : (0 : Int) ≤ 3000)⟩, ⟨(by decide : (0 : Int) ≤ 0), (by decide : (0 : Int) ≤ 100)⟩, Nat.zero_le _, fun k hk => absurd hk (Nat.not_lt_zero _), fun i j h1 h2 => absurd h2 (Nat.not_lt_zero _), Nat.zero_le _, fun j hj => absurd hj (Nat.not_lt_zero _), Or.inl rfl, Or.inl rfl⟩
