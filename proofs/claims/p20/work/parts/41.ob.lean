/-! The object as numbers: its day, its stores; what each call answers of them -/
abbrev Ob : Type := Int × Nat × (Nat → AB)
def RlT (T : TS) (O : Ob) : Prop := T.2.1 = O.2.1 ∧ O.2.1 ≤ 8 ∧ (0 ≤ O.1 ∧ O.1 ≤ 2000) ∧ T.1.1 = i3 O.1 ∧ ∀ s, s < O.2.1 → Val O.1 (O.2.2 s) ∧ Cl (O.2.2 s) (T.2.2 s)
abbrev inO (O : Ob) (i : Int32) : Prop := 0 ≤ i ∧ i < nI O.2.1
def stA (O : Ob) (i : Int32) : AB := O.2.2 i.toNatClampNeg
noncomputable def vUs (A : AB) : Int := Classical.epsilon (IsUs A)
noncomputable def vMid (A : AB) : Int × Int := Classical.epsilon (Mid (sl A (-1)))
noncomputable def vFD (A : AB) : Int := Classical.epsilon (FDay A (-1))
noncomputable def vFull (A : AB) : Int := if aN A < 2 then 1000000 else vFD A
noncomputable def vEar (A : AB) : Int := Classical.epsilon (Early A)
noncomputable def vLat (A : AB) : Int := Classical.epsilon (Late A)
noncomputable def vN (A : AB) : Int := redN (vMid A)
noncomputable def vD (A : AB) : Int := redD (vMid A)
noncomputable def vFc (A : AB) (d : Int) : Int := fcA A (vMid A) (vUs A) (-1) d
def tld (r : Int) : Int := if r = 1000000 then -1 else r
theorem vUs_eq {A : AB} {u : Int} (h : IsUs A u) : vUs A = u := IsUs_uniq (Classical.epsilon_spec (p := IsUs A) ⟨u, h⟩) h
theorem vMid_ok {A : AB} {x : Int × Int} (h : Mid (sl A (-1)) x) : Mid (sl A (-1)) (vMid A) := Classical.epsilon_spec (p := Mid (sl A (-1))) ⟨x, h⟩
theorem vFD_eq {td : Int} {A : AB} (hv : Val td A) {r : Int} (h : FDay A (-1) r) : vFD A = r := FDay_uniq hv (Classical.epsilon_spec (p := FDay A (-1)) ⟨r, h⟩) h
theorem vEar_eq {td : Int} {A : AB} (hv : Val td A) {r : Int} (h : Early A r) : vEar A = r := Early_uniq hv (Classical.epsilon_spec (p := Early A) ⟨r, h⟩) h
theorem vLat_eq {td : Int} {A : AB} (hv : Val td A) {r : Int} (h : Late A r) : vLat A = r := Late_uniq hv (Classical.epsilon_spec (p := Late A) ⟨r, h⟩) h
theorem vRed {td : Int} {A : AB} (hv : Val td A) (ht : td ≤ 2000) {x : Int × Int} (h : Mid (sl A (-1)) x) : vN A = redN x ∧ vD A = redD x :=
  red_uniq (sl_bd hv ht _ (vMid_ok h).1).2.2.1 (sl_bd hv ht _ h.1).2.2.1 (Mid_uniq (fun z hz => (sl_mem hv hz).1) (vMid_ok h) h)
theorem vFc_eq {td : Int} {A : AB} (hv : Val td A) (ht : td ≤ 2000) {x : Int × Int} {u : Int} (h : Mid (sl A (-1)) x) (hu : IsUs A u) (d : Int) : vFc A d = fcA A x u (-1) d := by
  unfold vFc
  rw [vUs_eq hu]
  exact fc_eq hv ht (vMid_ok h) h hu hu d
def q_today (O : Ob) : Int32 := i3 O.1
def q_samples (s : Int32) (O : Ob) : Option Int32 := ck (inO O s) (some (i3 (aN (stA O s))))
noncomputable def q_usual (s : Int32) (O : Ob) : Option Int32 := ck (inO O s) (some (i3 (vUs (stA O s))))
noncomputable def q_full (s : Int32) (O : Ob) : Option Int32 := ck (inO O s) (some (i3 (tld (vFull (stA O s)))))
noncomputable def q_early (s : Int32) (O : Ob) : Option Int32 := ck (inO O s) (some (i3 (tld (vEar (stA O s)))))
noncomputable def q_late (s : Int32) (O : Ob) : Option Int32 := ck (inO O s) (some (i3 (tld (vLat (stA O s)))))
def q_warns (s : Int32) (O : Ob) : Option Int32 := ck (inO O s) (some (i3 (aOn (stA O s))))
noncomputable def q_slopeNumerator (s : Int32) (O : Ob) : Option Int32 := ck (inO O s) (ck (2 ≤ aN (stA O s)) (some (i3 (vN (stA O s)))))
noncomputable def q_slopeDenominator (s : Int32) (O : Ob) : Option Int32 := ck (inO O s) (ck (2 ≤ aN (stA O s)) (some (i3 (vD (stA O s)))))
def lsD (A : AB) : Int := aDy A (lastp (aN A) (-1))
noncomputable def q_forecast (s d : Int32) (O : Ob) : Option Int32 := ck (inO O s) (ck (2 ≤ aN (stA O s)) (ck (lsD (stA O s) + 1 ≤ d.toInt ∧ d.toInt ≤ lsD (stA O s) + 1000) (some (i3 (vFc (stA O s) d.toInt)))))
noncomputable def vXs (O : Ob) : Nat → Int × Int := fun t => vMid (O.2.2 t)
noncomputable def vUU (O : Ob) : Nat → Int := fun t => vUs (O.2.2 t)
noncomputable def vPool (O : Ob) (p : Nat) : Int := if okb p O.2.2 O.2.1 = true then pfs (foP p O.2.2 (vXs O) (vUU O) O.2.1) (szP p O.2.2 O.2.1) O.1 1000 1 else -1
noncomputable def q_poolFull (p : Int32) (O : Ob) : Option Int32 := ck (0 < p.toInt ∧ p.toInt < ((2 ^ O.2.1 : Nat) : Int)) (some (i3 (vPool O p.toInt.toNat)))
theorem RlT.up {T : TS} {O : Ob} {s : Nat} {S2 : St} (h : RlT T O) (f : FrS (T.2.2 s) S2) : RlT (setT T s S2) O := by
  obtain ⟨h1, h2, h3, h4, h5⟩ := h
  refine ⟨h1, h2, h3, h4, fun t ht => ⟨(h5 t ht).1, ?_⟩⟩
  show Cl (O.2.2 t) (if t = s then S2 else T.2.2 t)
  by_cases c : t = s
  · subst c; rw [if_pos rfl]; exact (h5 t ht).2.fr f
  · rw [if_neg c]; exact (h5 t ht).2
/-- a number that names a store of the object -/
theorem inO_ex {T : TS} {O : Ob} {s : Int32} (h : RlT T O) (hs : inO O s) : ∃ k : Nat, s = i3 (k : Int) ∧ k < O.2.1 ∧ k < T.2.1 ∧ T.2.1 ≤ 8 ∧ s.toNatClampNeg = k ∧ inS T s ∧ Val O.1 (O.2.2 k) ∧ Cl (O.2.2 k) (T.2.2 k) ∧ stA O s = O.2.2 k := by
  obtain ⟨p, rfl, p1, p2⟩ := i3_ex s
  obtain ⟨h1, h2, h3, h4, h5⟩ := h
  obtain ⟨a, b⟩ := hs
  rw [l3_0, i3_le (by omega) (by omega) (by omega) (by omega)] at a
  rw [nI_i3, i3_lt (by omega) (by omega) (by omega) (by omega)] at b
  obtain ⟨k, rfl⟩ : ∃ k : Nat, p = (k : Int) := ⟨p.toNat, by omega⟩
  have e : (i3 (k : Int)).toNatClampNeg = k := i3_nn (by omega)
  have hk : k < T.2.1 := by omega
  refine ⟨k, rfl, by omega, hk, by omega, e, inS_of hk (by omega), (h5 k (by omega)).1, (h5 k (by omega)).2, ?_⟩
  unfold stA
  rw [e]
theorem inO_no {T : TS} {O : Ob} {s : Int32} (h : RlT T O) (hs : ¬ inO O s) : x_X7_storeAt s T = some ("java/lang/IndexOutOfBoundsException", T) := by
  obtain ⟨p, rfl, p1, p2⟩ := i3_ex s
  obtain ⟨h1, h2, -, -, -⟩ := h
  refine x_st_bad (by omega) ⟨p1, p2⟩ (fun q => hs ⟨?_, ?_⟩)
  · rw [l3_0, i3_le (by omega) (by omega) (by omega) (by omega)]; exact q.1
  · rw [nI_i3, i3_lt (by omega) (by omega) (by omega) (by omega)]; omega
theorem inO_xok {T : TS} {O : Ob} {s : Int32} (h : RlT T O) (hs : inO O s) : x_X7_storeAt s T = none := by
  obtain ⟨k, rfl, -, hk, h8, -⟩ := inO_ex h hs
  exact x_st_ok h8 hk
theorem told_eq2 {r : Int} (h : 1 ≤ r ∧ r ≤ 1000000) : f_X7_dayOrNone (i3 r) = some (i3 (tld r)) := by
  unfold f_X7_dayOrNone tld
  by_cases c : r = 1000000
  · rw [if_pos (show i3 r = (1000000 : Int32) from by rw [c]; rfl), if_pos c]; rfl
  · rw [if_neg (show ¬ i3 r = (1000000 : Int32) from by rw [l3_1000000, i3_eq (by omega) (by omega) (by omega) (by omega)]; exact c), if_neg c]
theorem k_samples {s r : Int32} {T : TS} {O : Ob} (h : q_samples s O = some r) (hT : RlT T O) : f_X7_samples s T = some r := by
  obtain ⟨hs, h⟩ := ck_e h
  obtain ⟨k, -, hk, hkT, h8, e, hi, hv, hc, eA⟩ := inO_ex hT hs
  rw [eA] at h
  cases h
  unfold f_X7_samples f_X4_number
  rw [ck_pos hi, Option.bind_some, e, hc.1.2.1]
theorem k_warns {s r : Int32} {T : TS} {O : Ob} (h : q_warns s O = some r) (hT : RlT T O) : f_X7_warns s T = some r := by
  obtain ⟨hs, h⟩ := ck_e h
  obtain ⟨k, -, hk, hkT, h8, e, hi, hv, hc, eA⟩ := inO_ex hT hs
  rw [eA] at h
  cases h
  have hz : isZ ((T.2.2 k).1 12) := by rw [hc.1.2.2.2.2.2.2.1]; exact isZ_bit hv.2.2.2.2.2.2.2.2.1
  unfold f_X7_warns
  rw [ck_pos hi]
  simp only [e]
  rw [ck_pos hz, hc.1.2.2.2.2.2.2.1]
theorem k_usual {s r : Int32} {T : TS} {O : Ob} (h : q_usual s O = some r) (hT : RlT T O) : f_X7_usual s T = some r := by
  obtain ⟨hs, h⟩ := ck_e h
  obtain ⟨k, -, hk, hkT, h8, e, hi, hv, hc, eA⟩ := inO_ex hT hs
  rw [eA] at h
  cases h
  obtain ⟨u, u1, u2⟩ := cl_usual hv hc
  rw [vUs_eq u2]
  unfold f_X7_usual
  rw [ck_pos hi, e, u1, Option.bind_some]
theorem k_full {s r : Int32} {T : TS} {O : Ob} (h : q_full s O = some r) (hT : RlT T O) : ∃ T2, f_X7_full s T = some (r, T2) ∧ RlT T2 O := by
  obtain ⟨hs, h⟩ := ck_e h
  obtain ⟨k, -, hk, hkT, h8, e, hi, hv, hc, eA⟩ := inO_ex hT hs
  rw [eA] at h
  cases h
  obtain ⟨r, S2, q1, q2, q3, q4⟩ := cl_fullDay hv hT.2.2.1.2 hc
  have er : vFull (O.2.2 k) = r := by
    unfold vFull
    rcases q3 with ⟨n2, rfl⟩ | ⟨n2, hf⟩
    · rw [if_pos n2]
    · rw [if_neg (by omega)]; exact vFD_eq hv hf
  refine ⟨setT T k S2, ?_, hT.up q2⟩
  unfold f_X7_full
  rw [ck_pos hi, e, q1, Option.bind_some]
  dsimp only
  rw [nmv_eq, told_eq2 q4, Option.bind_some, er]
theorem k_early {s r : Int32} {T : TS} {O : Ob} (h : q_early s O = some r) (hT : RlT T O) : ∃ T2, f_X7_early s T = some (r, T2) ∧ RlT T2 O := by
  obtain ⟨hs, h⟩ := ck_e h
  obtain ⟨k, -, hk, hkT, h8, e, hi, hv, hc, eA⟩ := inO_ex hT hs
  rw [eA] at h
  cases h
  obtain ⟨r, S2, q1, q2, q3, q4⟩ := cl_early hv hT.2.2.1.2 hc
  rw [vEar_eq hv q3]
  refine ⟨setT T k S2, ?_, hT.up q2⟩
  unfold f_X7_early
  rw [ck_pos hi, e, q1, Option.bind_some]
  dsimp only
  rw [nmv_eq, told_eq2 q4, Option.bind_some]
theorem k_late {s r : Int32} {T : TS} {O : Ob} (h : q_late s O = some r) (hT : RlT T O) : ∃ T2, f_X7_late s T = some (r, T2) ∧ RlT T2 O := by
  obtain ⟨hs, h⟩ := ck_e h
  obtain ⟨k, -, hk, hkT, h8, e, hi, hv, hc, eA⟩ := inO_ex hT hs
  rw [eA] at h
  cases h
  obtain ⟨r, S2, q1, q2, q3, q4⟩ := cl_late hv hT.2.2.1.2 hc
  rw [vLat_eq hv q3]
  refine ⟨setT T k S2, ?_, hT.up q2⟩
  unfold f_X7_late
  rw [ck_pos hi, e, q1, Option.bind_some]
  dsimp only
  rw [nmv_eq, told_eq2 q4, Option.bind_some]
/-- the slope of a store: there, or not there -/
theorem k_slopeOf {T : TS} {O : Ob} {k : Nat} (hT : RlT T O) (hk : k < O.2.1) (hkT : k < T.2.1) (h8 : T.2.1 ≤ 8) (hv : Val O.1 (O.2.2 k)) (hc : Cl (O.2.2 k) (T.2.2 k)) : (aN (O.2.2 k) < 2 ∧ x_X7_slopeOf (i3 (k : Int)) T = some ("java/lang/IllegalStateException", T)) ∨ (2 ≤ aN (O.2.2 k) ∧ x_X7_slopeOf (i3 (k : Int)) T = none ∧ ∃ x S2, f_X7_slopeOf (i3 (k : Int)) T = some (setT T k S2) ∧ FrS (T.2.2 k) S2 ∧ S2.1 8 = i3 (lsD (O.2.2 k)) ∧ S2.1 9 = i3 (aUs (O.2.2 k) (lastp (aN (O.2.2 k)) (-1))) ∧ S2.1 10 = i3 x.1 ∧ S2.1 11 = i3 x.2 ∧ Mid (sl (O.2.2 k) (-1)) x) :=
  c_slopeOf (as := O.2.2) h8 hT.2.2.1.2 hkT hv hc
theorem k_slopeNumerator {s r : Int32} {T : TS} {O : Ob} (h : q_slopeNumerator s O = some r) (hT : RlT T O) : ∃ T2, f_X7_slopeNumerator s T = some (r, T2) ∧ RlT T2 O := by
  obtain ⟨hs, h⟩ := ck_e h
  obtain ⟨n2, h⟩ := ck_e h
  obtain ⟨k, es, hk, hkT, h8, e, hi, hv, hc, eA⟩ := inO_ex hT hs
  rw [eA] at h n2
  cases h
  rcases k_slopeOf hT hk hkT h8 hv hc with ⟨n3, -⟩ | ⟨-, -, y, S2, q1, q2, q3, q4, q5, q6, q7⟩
  · omega
  · obtain ⟨w1, w2⟩ := cl_lowest (sl_bd hv hT.2.2.1.2 y q7.1) q5 q6
    obtain ⟨v1, v2⟩ := vRed hv hT.2.2.1.2 q7
    refine ⟨setT T k S2, ?_, hT.up q2⟩
    have hlt : k < (setT T k S2).2.1 := hkT
    have hS : (setT T k S2).2.2 k = S2 := if_pos rfl
    unfold f_X7_slopeNumerator
    rw [ck_pos hi, es, q1, Option.bind_some]
    rw [es] at e
    simp only [e]
    rw [ck_pos hlt, hS, w1, Option.bind_some, v1]
theorem k_slopeDenominator {s r : Int32} {T : TS} {O : Ob} (h : q_slopeDenominator s O = some r) (hT : RlT T O) : ∃ T2, f_X7_slopeDenominator s T = some (r, T2) ∧ RlT T2 O := by
  obtain ⟨hs, h⟩ := ck_e h
  obtain ⟨n2, h⟩ := ck_e h
  obtain ⟨k, es, hk, hkT, h8, e, hi, hv, hc, eA⟩ := inO_ex hT hs
  rw [eA] at h n2
  cases h
  rcases k_slopeOf hT hk hkT h8 hv hc with ⟨n3, -⟩ | ⟨-, -, y, S2, q1, q2, q3, q4, q5, q6, q7⟩
  · omega
  · obtain ⟨w1, w2⟩ := cl_lowest (sl_bd hv hT.2.2.1.2 y q7.1) q5 q6
    obtain ⟨v1, v2⟩ := vRed hv hT.2.2.1.2 q7
    refine ⟨setT T k S2, ?_, hT.up q2⟩
    have hlt : k < (setT T k S2).2.1 := hkT
    have hS : (setT T k S2).2.2 k = S2 := if_pos rfl
    unfold f_X7_slopeDenominator
    rw [ck_pos hi, es, q1, Option.bind_some]
    rw [es] at e
    simp only [e]
    rw [ck_pos hlt, hS, w2, Option.bind_some, v2]
theorem k_forecast {s d r : Int32} {T : TS} {O : Ob} (h : q_forecast s d O = some r) (hT : RlT T O) : ∃ T2, f_X7_forecast s d T = some (r, T2) ∧ RlT T2 O := by
  obtain ⟨hs, h⟩ := ck_e h
  obtain ⟨n2, h⟩ := ck_e h
  obtain ⟨hz, h⟩ := ck_e h
  obtain ⟨z, rfl, z1, z2⟩ := i3_ex d
  rw [i3_toInt z1 z2] at hz h
  obtain ⟨k, es, hk, hkT, h8, e, hi, hv, hc, eA⟩ := inO_ex hT hs
  rw [eA] at h n2 hz
  cases h
  rcases k_slopeOf hT hk hkT h8 hv hc with ⟨n3, -⟩ | ⟨-, -, y, S2, q1, q2, q3, q4, q5, q6, q7⟩
  · omega
  · have byy := sl_bd hv hT.2.2.1.2 y q7.1
    have hd := hv.2.2.2.2.1 _ (lastp_lt n2)
    have ht := hT.2.2.1.2
    obtain ⟨u, u1, u2⟩ := cl_usual hv (hc.fr q2)
    have ur := IsUs_rng hv u2
    rw [vFc_eq hv ht q7 u2]
    unfold lsD at q3 hz
    unfold fcA
    generalize aDy (O.2.2 k) (lastp (aN (O.2.2 k)) (-1)) = st at *
    generalize aUs (O.2.2 k) (lastp (aN (O.2.2 k)) (-1)) = us at *
    have ec := cl_roomOn hv (hc.fr q2) u1 ur q3 q4 q5 q6 (d := z) (by omega) (by omega) (by omega) ⟨byy.1, byy.2.1⟩ ⟨byy.2.2.1, byy.2.2.2⟩
    refine ⟨setT T k S2, ?_, hT.up q2⟩
    have hlt : k < (setT T k S2).2.1 := hkT
    have hS : (setT T k S2).2.2 k = S2 := if_pos rfl
    have rng : S2.1 8 + 1 ≤ i3 z ∧ i3 z ≤ S2.1 8 + 1000 := by
      rw [q3, l3_1, l3_1000, i3_add, i3_add]; exact rng_ok ⟨z1, z2⟩ (by omega) (by omega) hz
    unfold f_X7_forecast
    rw [ck_pos hi, ck_pos hi, es, q1, Option.bind_some]
    rw [es] at e
    simp only [e]
    rw [ck_pos hlt, hS, ck_pos rng, ec, Option.bind_some]
theorem Chs_v {T : TS} {O : Ob} (hT : RlT T O) : Chs O.2.2 (vXs O) (vUU O) O.2.1 := fun t ht => by
  obtain ⟨hv, hc⟩ := hT.2.2.2.2 t ht
  have hx := HasMid_of hv hc
  obtain ⟨u, hu⟩ := hx.2
  refine ⟨?_, fun n2 => ?_⟩
  · show IsUs (O.2.2 t) (vUs (O.2.2 t))
    rw [vUs_eq hu]; exact hu
  · obtain ⟨x, hx2⟩ := hx.1 (-1) (Or.inl ⟨rfl, n2⟩)
    exact vMid_ok hx2
theorem k_poolFull {p r : Int32} {T : TS} {O : Ob} (h : q_poolFull p O = some r) (hT : RlT T O) : ∃ T2, f_X7_poolFull p T = some (r, T2) ∧ RlT T2 O := by
  obtain ⟨hp, h⟩ := ck_e h
  obtain ⟨p, rfl, hp1, hp2⟩ := i3_ex p
  rw [i3_toInt hp1 hp2] at hp h
  cases h
  obtain ⟨n, rfl⟩ : ∃ n : Nat, p = (n : Int) := ⟨p.toNat, by omega⟩
  rw [Int.toNat_natCast]
  have hch := Chs_v hT
  obtain ⟨h1, h8, ht, h4, h5⟩ := id hT
  have hpow : (2 ^ O.2.1 : Nat) ≤ 256 := (Nat.pow_le_pow_right (by decide) h8 : (2 : Nat) ^ O.2.1 ≤ 2 ^ 8)
  have hn : n < 256 := by omega
  have hv : ∀ t, t < O.2.1 → Val O.1 (O.2.2 t) := fun t q => (h5 t q).1
  obtain ⟨T2, c1, c2, c3, c4, c5⟩ := c_drawPool hn h8 hv 3000 0 T (by omega) (Nat.zero_le _) h1 (fun t q => (h5 t q).2) (fun t q => absurd q (Nat.not_lt_zero _))
  have c1' : f_X7_drawPool_4 (i3 (n : Int)) 3000 (1 : Int32) (0 : Int32) T = some (i3 (if okb n O.2.2 O.2.1 = true then 1 else 0), T2) := c1
  have hsh : (((i3 (n : Int)).toUInt32 >>> ((nI T.2.1).toUInt32 &&& Int32.toUInt32 31)).toInt32) = 0 := by
    rw [h1, nI_i3]; exact (lsh hp1 hp2 h8).mpr ⟨by omega, hp.2⟩
  have hnz : ¬ i3 (n : Int) = 0 := by rw [l3_0, i3_eq (by omega) (by omega) (by omega) (by omega)]; omega
  have hT1 : T2.1.1 = i3 O.1 := by rw [c2]; exact h4
  have hrel : RlT T2 O := ⟨c3, h8, ht, hT1, fun s hs => ⟨hv s hs, c4 s hs⟩⟩
  refine ⟨T2, ?_, hrel⟩
  unfold vPool
  cases ho : okb n O.2.2 O.2.1
  · rw [ho, if_neg (by decide)] at c1'
    rw [if_neg (by decide)]
    unfold f_X7_poolFull f_X7_drawPool
    rw [if_neg hnz, if_pos hsh, c1', Option.bind_some]
    dsimp only
    rw [ck_pos (isZ_bit (Or.inl rfl)), Option.bind_some]
    dsimp only
    rw [if_pos l3_0.symm]
    rfl
  · rw [ho, if_pos rfl] at c1'
    rw [if_pos rfl]
    have hszr := szP_rng (p := n) h8 hv
    have e1 : f_X7_poolSize (i3 (n : Int)) T2 = some (i6 (szP n O.2.2 O.2.1)) := by
      have q := c_poolSize hn h8 hv c3 c4 3000 0 (by omega) (Nat.zero_le _)
      have q' : f_X7_poolSize_5 (i3 (n : Int)) T2 3000 (0 : Int64) (0 : Int32) = some (i6 (szP n O.2.2 O.2.1)) := q
      unfold f_X7_poolSize
      rw [q', Option.bind_some]
    have e2 := c_poolFull (p := n) (T := T2) (f := foP n O.2.2 (vXs O) (vUU O) O.2.1) (sz := szP n O.2.2 O.2.1) ht hT1 (by omega) (fun d => foP_rng h8) (fun d hd => by
      have q := c_poolRoom hn h8 ht hd hv hch ho c3 c4 c5 3000 0 (by omega) (Nat.zero_le _)
      have q' : f_X7_poolRoomOn_5 (i3 (n : Int)) (i3 d) T2 3000 (0 : Int64) (0 : Int32) = some (i6 (foP n O.2.2 (vXs O) (vUU O) O.2.1 d)) := q
      unfold f_X7_poolRoomOn
      rw [q', Option.bind_some]) 1000 3000 1 (by omega) (by omega) (by omega)
    have e2' : f_X7_poolFull_45 (i3 (n : Int)) T2 (i6 (szP n O.2.2 O.2.1)) 3000 (1 : Int32) = some (i3 (pfs (foP n O.2.2 (vXs O) (vUU O) O.2.1) (szP n O.2.2 O.2.1) O.1 1000 1), T2) := by rw [l3_1]; exact e2
    unfold f_X7_poolFull f_X7_drawPool
    rw [if_neg hnz, if_pos hsh, c1', Option.bind_some]
    dsimp only
    rw [ck_pos (isZ_bit (Or.inr rfl)), Option.bind_some]
    dsimp only
    rw [if_neg (by decide), e1, Option.bind_some, e2']
