/-! What each call refuses, and what it makes of the object -/
def qx_addStore (a : Int32) (O : Ob) : Option Int32 := if 1 ≤ a ∧ a ≤ 1000000 then none else some (-972)
def qx_setSize (s a : Int32) (O : Ob) : Option Int32 := if inO O s then (if 1 ≤ a ∧ a ≤ 1000000 then none else some (-972)) else some (-971)
def qx_sample (s a : Int32) (O : Ob) : Option Int32 := if inO O s then (if 0 ≤ a ∧ a ≤ 1000000 then none else some (-972)) else some (-971)
def qx_clean (s a : Int32) (O : Ob) : Option Int32 := if inO O s then (if 1 ≤ a ∧ a ≤ 100000 then none else some (-972)) else some (-971)
def qx_pass (a : Int32) (O : Ob) : Option Int32 := if 1 ≤ a ∧ a ≤ 100 then none else some (-972)
def qx_forecast (s d : Int32) (O : Ob) : Option Int32 := if inO O s then (if aN (stA O s) < 2 then some (-973) else if lsD (stA O s) + 1 ≤ d.toInt ∧ d.toInt ≤ lsD (stA O s) + 1000 then none else some (-972)) else some (-971)
def qx_poolFull (p : Int32) (O : Ob) : Option Int32 := if 0 < p.toInt ∧ p.toInt < ((2 ^ O.2.1 : Nat) : Int) then none else some (-972)
def qx_setRule (s f e : Int32) (O : Ob) : Option Int32 := if inO O s then (if 0 ≤ f ∧ f ≤ 3000 then (if 0 ≤ e ∧ e ≤ 100 then none else some (-972)) else some (-972)) else some (-971)
def cdx (Ex : String) : Int32 := if Ex = "java/lang/IndexOutOfBoundsException" then -971 else if Ex = "java/lang/IllegalArgumentException" then -972 else -973
theorem x_dem_no {v a b : Int32} (h : ¬ (a ≤ v ∧ v ≤ b)) : x_X7_demandRange v a b = some "java/lang/IllegalArgumentException" := by
  unfold x_X7_demandRange
  by_cases c : v < a
  · rw [if_pos c]
  · rw [if_neg c, if_neg (fun q => h ⟨Int32.not_lt.mp c, q⟩)]
theorem x_dem_yes {v a b : Int32} (h : a ≤ v ∧ v ≤ b) : x_X7_demandRange v a b = none := by
  unfold x_X7_demandRange
  rw [if_neg (Int32.not_lt.mpr h.1), if_pos h.2]
theorem kx_addStore {a r : Int32} {T : TS} {O : Ob} (h : qx_addStore a O = some r) (hT : RlT T O) : ∃ Ex, x_X7_addStore a T = some (Ex, T) ∧ (Ex = "java/lang/IllegalArgumentException" ∧ r = -972) := by
  unfold qx_addStore at h
  by_cases c : 1 ≤ a ∧ a ≤ 1000000
  · rw [if_pos c] at h; cases h
  · rw [if_neg c] at h; cases h
    refine ⟨_, ?_, rfl, rfl⟩
    unfold x_X7_addStore
    rw [x_dem_no c]; rfl
theorem kx_setSize {s a r : Int32} {T : TS} {O : Ob} (h : qx_setSize s a O = some r) (hT : RlT T O) : ∃ Ex, x_X7_setSize s a T = some (Ex, T) ∧ (Ex = "java/lang/IndexOutOfBoundsException" ∧ r = -971 ∨ Ex = "java/lang/IllegalArgumentException" ∧ r = -972) := by
  unfold qx_setSize at h
  by_cases hs : inO O s
  · rw [if_pos hs] at h
    obtain ⟨k, -, hk, hkT, h8, e, hi, hv, hc, eA⟩ := inO_ex hT hs
    by_cases c : 1 ≤ a ∧ a ≤ 1000000
    · rw [if_pos c] at h; cases h
    · rw [if_neg c] at h; cases h
      refine ⟨_, ?_, Or.inr ⟨rfl, rfl⟩⟩
      unfold x_X7_setSize
      rw [inO_xok hT hs]
      simp only [xc]
      rw [ck_pos hi, x_dem_no c]; rfl
  · rw [if_neg hs] at h; cases h
    refine ⟨_, ?_, Or.inl ⟨rfl, rfl⟩⟩
    unfold x_X7_setSize
    rw [inO_no hT hs]; rfl
theorem kx_sample {s a r : Int32} {T : TS} {O : Ob} (h : qx_sample s a O = some r) (hT : RlT T O) : ∃ Ex, x_X7_sample s a T = some (Ex, T) ∧ (Ex = "java/lang/IndexOutOfBoundsException" ∧ r = -971 ∨ Ex = "java/lang/IllegalArgumentException" ∧ r = -972) := by
  unfold qx_sample at h
  by_cases hs : inO O s
  · rw [if_pos hs] at h
    obtain ⟨k, -, hk, hkT, h8, e, hi, hv, hc, eA⟩ := inO_ex hT hs
    by_cases c : 0 ≤ a ∧ a ≤ 1000000
    · rw [if_pos c] at h; cases h
    · rw [if_neg c] at h; cases h
      refine ⟨_, ?_, Or.inr ⟨rfl, rfl⟩⟩
      unfold x_X7_sample
      rw [inO_xok hT hs]
      simp only [xc]
      rw [ck_pos hi, x_dem_no c]; rfl
  · rw [if_neg hs] at h; cases h
    refine ⟨_, ?_, Or.inl ⟨rfl, rfl⟩⟩
    unfold x_X7_sample
    rw [inO_no hT hs]; rfl
theorem kx_clean {s a r : Int32} {T : TS} {O : Ob} (h : qx_clean s a O = some r) (hT : RlT T O) : ∃ Ex, x_X7_clean s a T = some (Ex, T) ∧ (Ex = "java/lang/IndexOutOfBoundsException" ∧ r = -971 ∨ Ex = "java/lang/IllegalArgumentException" ∧ r = -972) := by
  unfold qx_clean at h
  by_cases hs : inO O s
  · rw [if_pos hs] at h
    obtain ⟨k, -, hk, hkT, h8, e, hi, hv, hc, eA⟩ := inO_ex hT hs
    by_cases c : 1 ≤ a ∧ a ≤ 100000
    · rw [if_pos c] at h; cases h
    · rw [if_neg c] at h; cases h
      refine ⟨_, ?_, Or.inr ⟨rfl, rfl⟩⟩
      unfold x_X7_clean
      rw [inO_xok hT hs]
      simp only [xc]
      rw [ck_pos hi, x_dem_no c]; rfl
  · rw [if_neg hs] at h; cases h
    refine ⟨_, ?_, Or.inl ⟨rfl, rfl⟩⟩
    unfold x_X7_clean
    rw [inO_no hT hs]; rfl
theorem kx_pass {a r : Int32} {T : TS} {O : Ob} (h : qx_pass a O = some r) (hT : RlT T O) : ∃ Ex, x_X7_pass a T = some (Ex, T) ∧ (Ex = "java/lang/IllegalArgumentException" ∧ r = -972) := by
  unfold qx_pass at h
  by_cases c : 1 ≤ a ∧ a ≤ 100
  · rw [if_pos c] at h; cases h
  · rw [if_neg c] at h; cases h
    refine ⟨_, ?_, rfl, rfl⟩
    unfold x_X7_pass
    rw [x_dem_no c]; rfl
theorem kx_setRule {s f e9 r : Int32} {T : TS} {O : Ob} (h : qx_setRule s f e9 O = some r) (hT : RlT T O) : ∃ Ex, x_X7_setRule s f e9 T = some (Ex, T) ∧ (Ex = "java/lang/IndexOutOfBoundsException" ∧ r = -971 ∨ Ex = "java/lang/IllegalArgumentException" ∧ r = -972) := by
  unfold qx_setRule at h
  by_cases hs : inO O s
  · rw [if_pos hs] at h
    obtain ⟨k, -, hk, hkT, h8, e, hi, hv, hc, eA⟩ := inO_ex hT hs
    by_cases c : 0 ≤ f ∧ f ≤ 3000
    · rw [if_pos c] at h
      by_cases c2 : 0 ≤ e9 ∧ e9 ≤ 100
      · rw [if_pos c2] at h; cases h
      · rw [if_neg c2] at h; cases h
        refine ⟨_, ?_, Or.inr ⟨rfl, rfl⟩⟩
        unfold x_X7_setRule
        rw [inO_xok hT hs]
        simp only [xc]
        rw [ck_pos hi, x_dem_yes c, ck_pos c, x_dem_no c2]; rfl
    · rw [if_neg c] at h; cases h
      refine ⟨_, ?_, Or.inr ⟨rfl, rfl⟩⟩
      unfold x_X7_setRule
      rw [inO_xok hT hs]
      simp only [xc]
      rw [ck_pos hi, x_dem_no c]; rfl
  · rw [if_neg hs] at h; cases h
    refine ⟨_, ?_, Or.inl ⟨rfl, rfl⟩⟩
    unfold x_X7_setRule
    rw [inO_no hT hs]; rfl
theorem kx_slopeOf {s : Int32} {T : TS} {O : Ob} (hT : RlT T O) (hs : ¬ inO O s) : x_X7_slopeOf s T = some ("java/lang/IndexOutOfBoundsException", T) := by
  unfold x_X7_slopeOf
  rw [inO_no hT hs]; rfl
theorem kx_forecast {s d r : Int32} {T : TS} {O : Ob} (h : qx_forecast s d O = some r) (hT : RlT T O) : ∃ Ex T2, x_X7_forecast s d T = some (Ex, T2) ∧ RlT T2 O ∧ (Ex = "java/lang/IndexOutOfBoundsException" ∧ r = -971 ∨ Ex = "java/lang/IllegalStateException" ∧ r = -973 ∨ Ex = "java/lang/IllegalArgumentException" ∧ r = -972) := by
  unfold qx_forecast at h
  by_cases hs : inO O s
  · rw [if_pos hs] at h
    have hx := inO_xok hT hs
    obtain ⟨k, es, hk, hkT, h8, e, hi, hv, hc, eA⟩ := inO_ex hT hs
    rw [eA] at h
    rcases k_slopeOf hT hk hkT h8 hv hc with ⟨n2, hcs⟩ | ⟨n2, hcs, y, S2, q1, q2, q3, q4, q5, q6, q7⟩
    · rw [if_pos n2] at h; cases h
      refine ⟨_, T, ?_, hT, Or.inr (Or.inl ⟨rfl, rfl⟩)⟩
      unfold x_X7_forecast
      rw [hx]
      simp only [xc]
      rw [ck_pos hi, es, hcs]
    · rw [if_neg (by omega)] at h
      obtain ⟨z, rfl, z1, z2⟩ := i3_ex d
      rw [i3_toInt z1 z2] at h
      have hd := hv.2.2.2.2.1 _ (lastp_lt n2)
      have ht := hT.2.2.1.2
      have hlt : k < (setT T k S2).2.1 := hkT
      have hS : (setT T k S2).2.2 k = S2 := if_pos rfl
      unfold lsD at q3 h
      by_cases hz : aDy (O.2.2 k) (lastp (aN (O.2.2 k)) (-1)) + 1 ≤ z ∧ z ≤ aDy (O.2.2 k) (lastp (aN (O.2.2 k)) (-1)) + 1000
      · rw [if_pos hz] at h; cases h
      · rw [if_neg hz] at h; cases h
        refine ⟨_, setT T k S2, ?_, hT.up q2, Or.inr (Or.inr ⟨rfl, rfl⟩)⟩
        have dem : x_X7_demandRange (i3 z) (S2.1 8 + 1) (S2.1 8 + 1000) = some "java/lang/IllegalArgumentException" := by
          rw [q3, l3_1, l3_1000, i3_add, i3_add]; exact x_dem_bad ⟨z1, z2⟩ (by omega) (by omega) hz
        unfold x_X7_forecast
        rw [hx]
        simp only [xc]
        rw [ck_pos hi, es, hcs]
        simp only [xc]
        rw [es] at e hi
        rw [ck_pos hi, q1, Option.bind_some]
        simp only [e]
        rw [ck_pos hlt, hS, dem]
        rfl
  · rw [if_neg hs] at h; cases h
    refine ⟨_, T, ?_, hT, Or.inl ⟨rfl, rfl⟩⟩
    unfold x_X7_forecast
    rw [inO_no hT hs]; rfl
theorem kx_poolFull {p r : Int32} {T : TS} {O : Ob} (h : qx_poolFull p O = some r) (hT : RlT T O) : ∃ Ex, x_X7_poolFull p T = some (Ex, T) ∧ (Ex = "java/lang/IllegalArgumentException" ∧ r = -972) := by
  unfold qx_poolFull at h
  obtain ⟨p, rfl, hp1, hp2⟩ := i3_ex p
  rw [i3_toInt hp1 hp2] at h
  obtain ⟨h1, h8, -, -, -⟩ := hT
  by_cases hp : 0 < p ∧ p < ((2 ^ O.2.1 : Nat) : Int)
  · rw [if_pos hp] at h; cases h
  · rw [if_neg hp] at h; cases h
    refine ⟨_, ?_, rfl, rfl⟩
    unfold x_X7_poolFull
    by_cases c : i3 p = 0
    · rw [if_pos c]
    · rw [if_neg c, if_neg]
      intro q
      rw [l3_0, i3_eq (by omega) (by omega) (by omega) (by omega)] at c
      rw [h1, nI_i3] at q
      have := (lsh hp1 hp2 h8).mp q
      omega
theorem kx_slope {s : Int32} {T : TS} {O : Ob} (hT : RlT T O) : (¬ inO O s → x_X7_slopeNumerator s T = some ("java/lang/IndexOutOfBoundsException", T) ∧ x_X7_slopeDenominator s T = some ("java/lang/IndexOutOfBoundsException", T)) ∧ (inO O s → aN (stA O s) < 2 → x_X7_slopeNumerator s T = some ("java/lang/IllegalStateException", T) ∧ x_X7_slopeDenominator s T = some ("java/lang/IllegalStateException", T)) := by
  refine ⟨fun hs => ?_, fun hs n2 => ?_⟩
  · have := kx_slopeOf hT hs
    constructor
    · unfold x_X7_slopeNumerator; rw [this]; rfl
    · unfold x_X7_slopeDenominator; rw [this]; rfl
  · obtain ⟨k, es, hk, hkT, h8, e, hi, hv, hc, eA⟩ := inO_ex hT hs
    rw [eA] at n2
    rcases k_slopeOf hT hk hkT h8 hv hc with ⟨-, hcs⟩ | ⟨n3, -⟩
    · rw [← es] at hcs
      constructor
      · unfold x_X7_slopeNumerator; rw [hcs]; rfl
      · unfold x_X7_slopeDenominator; rw [hcs]; rfl
    · omega
theorem kx_of {s : Int32} {T : TS} {O : Ob} (hT : RlT T O) (hs : ¬ inO O s) : x_X7_samples s T = some ("java/lang/IndexOutOfBoundsException", T) ∧ x_X7_usual s T = some ("java/lang/IndexOutOfBoundsException", T) ∧ x_X7_full s T = some ("java/lang/IndexOutOfBoundsException", T) ∧ x_X7_early s T = some ("java/lang/IndexOutOfBoundsException", T) ∧ x_X7_late s T = some ("java/lang/IndexOutOfBoundsException", T) ∧ x_X7_warns s T = some ("java/lang/IndexOutOfBoundsException", T) := by
  have h := inO_no hT hs
  refine ⟨?_, ?_, ?_, ?_, ?_, ?_⟩
  · unfold x_X7_samples; rw [h]; rfl
  · unfold x_X7_usual; rw [h]; rfl
  · unfold x_X7_full; rw [h]; rfl
  · unfold x_X7_early; rw [h]; rfl
  · unfold x_X7_late; rw [h]; rfl
  · unfold x_X7_warns; rw [h]; rfl
/-! the calls that change the object -/
def updO (O : Ob) (s : Int32) (A : AB) : Ob := (O.1, O.2.1, fun t => if t = s.toNatClampNeg then A else O.2.2 t)
def addO (O : Ob) (z : Int) : Ob := (O.1, O.2.1 + 1, fun t => if t = O.2.1 then newA z else O.2.2 t)
noncomputable def vEs (O : Ob) : Nat → Int := fun t => vEar (O.2.2 t)
noncomputable def passO (O : Ob) : Ob := (O.1 + 1, O.2.1, fun t => stg O.2.2 (vEs O) O.1 t 1)
def qa_addStore (a : Int32) (O : Ob) : Option (Int32 × Ob) := ck (1 ≤ a ∧ a ≤ 1000000) (ck (O.2.1 < 8) (some (nI O.2.1, addO O a.toInt)))
def qa_setSize (s a : Int32) (O : Ob) : Option (Int32 × Ob) := ck (inO O s) (ck (1 ≤ a ∧ a ≤ 1000000) (some (i3 (aSz (stA O s)), updO O s (setZ (stA O s) a.toInt))))
def qa_sample (s a : Int32) (O : Ob) : Option (Int32 × Ob) := ck (inO O s) (ck (0 ≤ a ∧ a ≤ 1000000) (some (i3 (aN (addS (stA O s) O.1 a.toInt)), updO O s (addS (stA O s) O.1 a.toInt))))
def qa_clean (s a : Int32) (O : Ob) : Option (Int32 × Ob) := ck (inO O s) (ck (1 ≤ a ∧ a ≤ 100000) (ck (aM (stA O s) < 60) (some (i3 ((aM (stA O s) : Int) + 1), updO O s (addC (stA O s) O.1 a.toInt)))))
noncomputable def qa_pass (a : Int32) (O : Ob) : Option (Int32 × Ob) := ck (a = 1) (ck (O.1 + 1 ≤ 2000) (some (i3 (tots O.2.2 (vEs O) O.1 O.2.1 1), passO O)))
def qa_setRule (s f e : Int32) (O : Ob) : Option Ob := ck (inO O s) (ck (0 ≤ f ∧ f ≤ 3000) (ck (0 ≤ e ∧ e ≤ 100) (some (updO O s (setR (stA O s) f.toInt e.toInt)))))
theorem RlT.set {T : TS} {O : Ob} {k : Nat} {s : Int32} {A2 : AB} {S2 : St} (h : RlT T O) (e : s.toNatClampNeg = k) (hv : Val O.1 A2) (hc : Cl A2 S2) : RlT (setT T k S2) (updO O s A2) := by
  obtain ⟨h1, h2, h3, h4, h5⟩ := h
  refine ⟨h1, h2, h3, h4, fun t ht => ?_⟩
  show Val O.1 (if t = s.toNatClampNeg then A2 else O.2.2 t) ∧ Cl (if t = s.toNatClampNeg then A2 else O.2.2 t) (if t = k then S2 else T.2.2 t)
  rw [e]
  by_cases c : t = k
  · rw [if_pos c, if_pos c]; exact ⟨hv, hc⟩
  · rw [if_neg c, if_neg c]; exact h5 t ht
theorem rg3 {a : Int32} {x y : Int} (hx : -2147483648 ≤ x ∧ x < 2147483648) (hy : -2147483648 ≤ y ∧ y < 2147483648) (h : i3 x ≤ a ∧ a ≤ i3 y) : ∃ z : Int, a = i3 z ∧ x ≤ z ∧ z ≤ y ∧ a.toInt = z := by
  obtain ⟨z, rfl, z1, z2⟩ := i3_ex a
  rw [i3_le hx.1 hx.2 z1 z2, i3_le z1 z2 hy.1 hy.2] at h
  exact ⟨z, rfl, h.1, h.2, i3_toInt z1 z2⟩
theorem ka_addStore {a r : Int32} {T : TS} {O O2 : Ob} (h : qa_addStore a O = some (r, O2)) (hT : RlT T O) : (1 ≤ a ∧ a ≤ 1000000) ∧ T.2.1 < 8 ∧ r = nI T.2.1 ∧ RlT (addT T a) O2 := by
  obtain ⟨ha, h⟩ := ck_e h
  obtain ⟨hn, h⟩ := ck_e h
  obtain ⟨h1, h2, h3, h4, h5⟩ := hT
  cases h
  obtain ⟨z, rfl, z1, z2, ez⟩ := rg3 (x := 1) (y := 1000000) (by omega) (by omega) ha
  refine ⟨ha, by omega, by rw [h1], ⟨by show T.2.1 + 1 = O.2.1 + 1; rw [h1], hn, h3, h4, fun t ht => ?_⟩⟩
  show Val O.1 (if t = O.2.1 then newA (i3 z).toInt else O.2.2 t) ∧ Cl (if t = O.2.1 then newA (i3 z).toInt else O.2.2 t) (if t = T.2.1 then initS (i3 z) else T.2.2 t)
  rw [ez, h1]
  have ht2 : t < O.2.1 + 1 := ht
  by_cases c : t = O.2.1
  · rw [if_pos c, if_pos c]; exact ⟨Val_new ⟨z1, z2⟩, cl_new⟩
  · rw [if_neg c, if_neg c]; exact h5 t (by omega)
theorem ka_setSize {s a r : Int32} {T : TS} {O O2 : Ob} (h : qa_setSize s a O = some (r, O2)) (hT : RlT T O) : ∃ T2, f_X7_setSize s a T = some (r, T2) ∧ RlT T2 O2 := by
  obtain ⟨hs, h⟩ := ck_e h
  obtain ⟨ha, h⟩ := ck_e h
  obtain ⟨k, es, hk, hkT, h8, e, hi, hv, hc, eA⟩ := inO_ex hT hs
  rw [eA] at h
  cases h
  obtain ⟨z, rfl, z1, z2, ez⟩ := rg3 (x := 1) (y := 1000000) (by omega) (by omega) ha
  rw [ez]
  refine ⟨setT T k (sF (T.2.2 k) 0 (i3 z)), ?_, hT.set e (Val_setZ hv ⟨z1, z2⟩) (cl_setSize hc)⟩
  unfold f_X7_setSize
  rw [ck_pos hi, ck_pos ha]
  simp only [nmv_eq, e]
  rw [hc.1.1]
theorem ka_sample {s a r : Int32} {T : TS} {O O2 : Ob} (h : qa_sample s a O = some (r, O2)) (hT : RlT T O) : ∃ T2, f_X7_sample s a T = some (r, T2) ∧ RlT T2 O2 := by
  obtain ⟨hs, h⟩ := ck_e h
  obtain ⟨ha, h⟩ := ck_e h
  obtain ⟨k, es, hk, hkT, h8, e, hi, hv, hc, eA⟩ := inO_ex hT hs
  rw [eA] at h
  cases h
  obtain ⟨z, rfl, z1, z2, ez⟩ := rg3 (x := 0) (y := 1000000) (by omega) (by omega) ha
  rw [ez]
  obtain ⟨S2, q1, q2⟩ := cl_tellUsed hv hT.2.2.1 ⟨z1, z2⟩ hc
  refine ⟨setT T k S2, ?_, hT.set e (Val_addS hv hT.2.2.1.1 ⟨z1, z2⟩) q2⟩
  have hS : (setT T k S2).2.2 k = S2 := if_pos rfl
  unfold f_X7_sample f_X4_number
  rw [ck_pos hi, ck_pos ha, e, hT.2.2.2.1, q1, Option.bind_some, nmv_eq, hS, q2.1.2.1, Option.bind_some]
theorem ka_clean {s a r : Int32} {T : TS} {O O2 : Ob} (h : qa_clean s a O = some (r, O2)) (hT : RlT T O) : ∃ T2, f_X7_clean s a T = some (r, T2) ∧ RlT T2 O2 := by
  obtain ⟨hs, h⟩ := ck_e h
  obtain ⟨ha, h⟩ := ck_e h
  obtain ⟨hm, h⟩ := ck_e h
  obtain ⟨k, es, hk, hkT, h8, e, hi, hv, hc, eA⟩ := inO_ex hT hs
  rw [eA] at h hm
  cases h
  obtain ⟨z, rfl, z1, z2, ez⟩ := rg3 (x := 1) (y := 100000) (by omega) (by omega) ha
  rw [ez]
  obtain ⟨S2, q1, q2⟩ := cl_tellFreed hv hT.2.2.1 ⟨z1, z2⟩ hm hc
  refine ⟨setT T k S2, ?_, hT.set e (Val_addC hv hT.2.2.1.1 ⟨z1, z2⟩ hm) q2⟩
  have hS : (setT T k S2).2.2 k = S2 := if_pos rfl
  have c4 : f_X0_number (T.2.2 k) = some (i3 (aM (O.2.2 k))) := by unfold f_X0_number; rw [hc.1.2.2.1]
  unfold f_X7_clean
  rw [ck_pos hi, ck_pos ha, e, c4, Option.bind_some, if_pos (by rw [l3_60, i3_lt (by omega) (by omega) (by omega) (by omega)]; omega), hT.2.2.2.1, q1, Option.bind_some, nmv_eq, hS]
  have c5 : f_X0_number S2 = some (i3 ((aM (O.2.2 k) : Int) + 1)) := by
    unfold f_X0_number
    rw [q2.1.2.2.1]
    rfl
  rw [c5, Option.bind_some]
theorem ka_setRule {s f e9 : Int32} {T : TS} {O O2 : Ob} (h : qa_setRule s f e9 O = some O2) (hT : RlT T O) : ∃ T2, f_X7_setRule s f e9 T = some T2 ∧ RlT T2 O2 := by
  obtain ⟨hs, h⟩ := ck_e h
  obtain ⟨ha, h⟩ := ck_e h
  obtain ⟨hb, h⟩ := ck_e h
  obtain ⟨k, es, hk, hkT, h8, e, hi, hv, hc, eA⟩ := inO_ex hT hs
  rw [eA] at h
  cases h
  obtain ⟨z, rfl, z1, z2, ez⟩ := rg3 (x := 0) (y := 3000) (by omega) (by omega) ha
  obtain ⟨w, rfl, w1, w2, ew⟩ := rg3 (x := 0) (y := 100) (by omega) (by omega) hb
  rw [ez, ew]
  obtain ⟨q1, q2⟩ := cl_setRule (fr := z) (ev := w) hc
  refine ⟨setT T k (sF (sF (T.2.2 k) 6 (i3 z)) 7 (i3 w)), ?_, hT.set e (Val_setR hv ⟨z1, z2⟩ ⟨w1, w2⟩) q2⟩
  unfold f_X7_setRule
  rw [ck_pos hi, ck_pos ha, ck_pos hb, e, q1, Option.bind_some, nmv_eq]
theorem ka_pass {a r : Int32} {T : TS} {O O2 : Ob} (h : qa_pass a O = some (r, O2)) (hT : RlT T O) : ∃ T2, f_X7_pass a T = some (r, T2) ∧ RlT T2 O2 := by
  unfold qa_pass at h
  have hh := ck_e h
  obtain ⟨ha, h9⟩ := hh
  have hh2 := ck_e h9
  obtain ⟨hq, h10⟩ := hh2
  clear h h9
  subst ha
  obtain ⟨h1, h8, ht, h4, h5⟩ := id hT
  cases h10
  have hv : ∀ t, t < O.2.1 → Val O.1 (O.2.2 t) := fun t q => (h5 t q).1
  have he : ∀ t, t < O.2.1 → Early (O.2.2 t) (vEs O t) := by
    intro t q
    obtain ⟨e, S2, -, -, q9, -⟩ := cl_early (hv t q) ht.2 (h5 t q).2
    show Early (O.2.2 t) (vEar (O.2.2 t))
    rw [vEar_eq (hv t q) q9]; exact q9
  have h00 : smc (fun t => (lkn (vEs O t) O.1 (aOn (O.2.2 t), aNe (O.2.2 t)) 1).2) 0 = 0 := rfl
  obtain ⟨T2, p1, p2, p3, p4⟩ := c_pass_loop (as := O.2.2) (es := vEs O) (n := 1) h8 (by omega) ht hv he 3000 0 T (by omega) (Nat.zero_le _) h4 h1 (fun t q => by
    rw [if_neg (Nat.not_lt_zero t)]
    exact (h5 t q).2)
  rw [h00] at p1
  have p1' : f_X7_pass_33 (1 : Int32) 3000 (0 : Int32) (0 : Int32) T = some (i3 (tots O.2.2 (vEs O) O.1 O.2.1 1), T2) := p1
  refine ⟨((T2.1.1 + (1 : Int32), T2.1.2), T2.2), ?_, p3, h8, ⟨by show 0 ≤ O.1 + 1; omega, hq⟩, ?_, fun t q => ?_⟩
  · unfold f_X7_pass
    rw [ck_pos (by decide), if_pos (by rw [h4, l3_1, i3_add, l3_2000, i3_le (by omega) (by omega) (by omega) (by omega)]; exact hq), p1', Option.bind_some]
    rfl
  · show T2.1.1 + (1 : Int32) = i3 (O.1 + 1)
    rw [p2, h4, l3_1, i3_add]
  · have q' : t < O.2.1 := q
    have hb := hv t q'
    obtain ⟨b1, b2, -, -⟩ := lkn_bit (e := vEs O t) (d0 := O.1) (s := (aOn (O.2.2 t), aNe (O.2.2 t))) hb.2.2.2.2.2.2.2.2.1 hb.2.2.2.2.2.2.2.2.2 1
    exact ⟨(Val_setW hb b1 b2).up (by show O.1 ≤ O.1 + 1; omega), p4 t q'⟩
