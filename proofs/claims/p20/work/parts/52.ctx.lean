/-! What the object answers of a store, as facts -/
def Fct (td : Int) (A : AB) : Prop := Val td A ∧ IsUs A (vUs A) ∧ (2 ≤ aN A → Mid (sl A (-1)) (vMid A) ∧ FDay A (-1) (vFull A)) ∧ (aN A < 2 → vFull A = 1000000) ∧ (1 ≤ vFull A ∧ vFull A ≤ 1000000) ∧ (Early A (vEar A) ∧ 1 ≤ vEar A ∧ vEar A ≤ 1000000) ∧ Late A (vLat A) ∧ 1 ≤ vLat A ∧ vLat A ≤ 1000000
theorem fct {O : Ob} {s : Nat} (h : ∃ T, RlT T O) (hs : s < O.2.1) : Fct O.1 (O.2.2 s) := by
  obtain ⟨T, hT⟩ := h
  obtain ⟨hv, hc⟩ := hT.2.2.2.2 s hs
  have ht := hT.2.2.1.2
  have hx := HasMid_of hv hc
  obtain ⟨u, hu⟩ := hx.2
  obtain ⟨r, S2, -, -, q3, q4⟩ := cl_fullDay hv ht hc
  obtain ⟨e, S3, -, -, e1, e2⟩ := cl_early hv ht hc
  obtain ⟨f, S4, -, -, f1, f2⟩ := cl_late hv ht hc
  have ef : vFull (O.2.2 s) = r := by
    unfold vFull
    rcases q3 with ⟨n2, rfl⟩ | ⟨n2, hf⟩
    · rw [if_pos n2]
    · rw [if_neg (by omega)]; exact vFD_eq hv hf
  refine ⟨hv, by rw [vUs_eq hu]; exact hu, fun n2 => ⟨?_, ?_⟩, fun n2 => ?_, by rw [ef]; exact q4, by rw [vEar_eq hv e1]; exact ⟨e1, e2⟩, by rw [vLat_eq hv f1]; exact ⟨f1, f2⟩⟩
  · obtain ⟨x, hx2⟩ := hx.1 (-1) (Or.inl ⟨rfl, n2⟩)
    exact vMid_ok hx2
  · rw [ef]
    rcases q3 with ⟨n3, -⟩ | ⟨-, hf⟩
    · omega
    · exact hf
  · unfold vFull; rw [if_pos n2]
theorem inO_of {O : Ob} {s : Nat} (hs : s < O.2.1) (h8 : O.2.1 ≤ 8) : inO O (i3 (s : Int)) ∧ stA O (i3 (s : Int)) = O.2.2 s := by
  refine ⟨⟨?_, ?_⟩, ?_⟩
  · rw [l3_0, i3_le (by omega) (by omega) (by omega) (by omega)]; omega
  · rw [nI_i3, i3_lt (by omega) (by omega) (by omega) (by omega)]; omega
  · unfold stA; rw [i3_nn (by omega)]
theorem inO_out {O : Ob} {p : Int} (hp : -2147483648 ≤ p ∧ p < 2147483648) (h : p < 0 ∨ (O.2.1 : Int) ≤ p) (h8 : O.2.1 ≤ 8) : ¬ inO O (i3 p) := by
  rintro ⟨a, b⟩
  rw [l3_0, i3_le (by omega) (by omega) (by omega) (by omega)] at a
  rw [nI_i3, i3_lt (by omega) (by omega) (by omega) (by omega)] at b
  omega
section QV
variable {O : Ob} {s : Nat} (hs : s < O.2.1) (h8 : O.2.1 ≤ 8)
theorem qv_samples (hs : s < O.2.1) (h8 : O.2.1 ≤ 8) : q_samples (i3 (s : Int)) O = some (i3 (aN (O.2.2 s))) := by
  obtain ⟨a, b⟩ := inO_of hs h8; unfold q_samples; rw [ck_pos a, b]
theorem qv_usual (hs : s < O.2.1) (h8 : O.2.1 ≤ 8) : q_usual (i3 (s : Int)) O = some (i3 (vUs (O.2.2 s))) := by
  obtain ⟨a, b⟩ := inO_of hs h8; unfold q_usual; rw [ck_pos a, b]
theorem qv_full (hs : s < O.2.1) (h8 : O.2.1 ≤ 8) : q_full (i3 (s : Int)) O = some (i3 (tld (vFull (O.2.2 s)))) := by
  obtain ⟨a, b⟩ := inO_of hs h8; unfold q_full; rw [ck_pos a, b]
theorem qv_early (hs : s < O.2.1) (h8 : O.2.1 ≤ 8) : q_early (i3 (s : Int)) O = some (i3 (tld (vEar (O.2.2 s)))) := by
  obtain ⟨a, b⟩ := inO_of hs h8; unfold q_early; rw [ck_pos a, b]
theorem qv_late (hs : s < O.2.1) (h8 : O.2.1 ≤ 8) : q_late (i3 (s : Int)) O = some (i3 (tld (vLat (O.2.2 s)))) := by
  obtain ⟨a, b⟩ := inO_of hs h8; unfold q_late; rw [ck_pos a, b]
theorem qv_warns (hs : s < O.2.1) (h8 : O.2.1 ≤ 8) : q_warns (i3 (s : Int)) O = some (i3 (aOn (O.2.2 s))) := by
  obtain ⟨a, b⟩ := inO_of hs h8; unfold q_warns; rw [ck_pos a, b]
theorem qv_num (hs : s < O.2.1) (h8 : O.2.1 ≤ 8) (n2 : 2 ≤ aN (O.2.2 s)) : q_slopeNumerator (i3 (s : Int)) O = some (i3 (vN (O.2.2 s))) := by
  obtain ⟨a, b⟩ := inO_of hs h8; unfold q_slopeNumerator; rw [ck_pos a, b, ck_pos n2]
theorem qv_den (hs : s < O.2.1) (h8 : O.2.1 ≤ 8) (n2 : 2 ≤ aN (O.2.2 s)) : q_slopeDenominator (i3 (s : Int)) O = some (i3 (vD (O.2.2 s))) := by
  obtain ⟨a, b⟩ := inO_of hs h8; unfold q_slopeDenominator; rw [ck_pos a, b, ck_pos n2]
theorem qv_forecast (hs : s < O.2.1) (h8 : O.2.1 ≤ 8) (n2 : 2 ≤ aN (O.2.2 s)) {d : Int} (hd : -2147483648 ≤ d ∧ d < 2147483648) (hr : lsD (O.2.2 s) + 1 ≤ d ∧ d ≤ lsD (O.2.2 s) + 1000) : q_forecast (i3 (s : Int)) (i3 d) O = some (i3 (vFc (O.2.2 s) d)) := by
  obtain ⟨a, b⟩ := inO_of hs h8
  unfold q_forecast
  rw [ck_pos a, b, ck_pos n2, i3_toInt hd.1 hd.2, ck_pos hr]
theorem qv_slope (hs : s < O.2.1) (h8 : O.2.1 ≤ 8) {a : Int32} : q_slope a (i3 (s : Int)) O = if aN (O.2.2 s) < 2 then some (-2000000973) else if a = 0 then some (i3 (vD (O.2.2 s))) else some (i3 (vN (O.2.2 s))) := by
  obtain ⟨a, b⟩ := inO_of hs h8
  unfold q_slope
  rw [if_pos a, b]
end QV
theorem lastp_m1 {n : Nat} (h : 1 ≤ n) : lastp n (-1) = n - 1 := by unfold lastp; rw [if_neg (by omega)]
/-- the slope that is told -/
theorem slope_bd {td : Int} {A : AB} (h : Fct td A) (ht : td ≤ 2000) (n2 : 2 ≤ aN A) : (-7000000 ≤ vN A ∧ vN A ≤ 7000000) ∧ (0 < vD A ∧ vD A ≤ 2000) ∧ vN A * (vMid A).2 = (vMid A).1 * vD A ∧ 0 < (vMid A).2 := by
  have hm := (h.2.2.1 n2).1
  have hb := sl_bd h.1 ht _ hm.1
  obtain ⟨⟨a, b, c, d⟩, e⟩ := red_rng hb
  exact ⟨⟨a, b⟩, ⟨c, d⟩, e, hb.2.2.1⟩
theorem ed_neg {D g : Int} (hD : 0 < D) : -((D - 1 - g) / D) = g / D := by
  have e1 := Int.mul_ediv_add_emod g D
  have e2 := Int.emod_nonneg g (show D ≠ 0 by omega)
  have e3 := Int.emod_lt_of_pos g hD
  have e4 : D - 1 - g = (D - 1 - g % D) + D * (-(g / D)) := by rw [Int.mul_neg]; omega
  rw [e4, Int.add_mul_ediv_left _ _ (by omega), Int.ediv_eq_zero_of_lt (by omega) (by omega)]
  omega
theorem p_due {O : Ob} {L : LW} {s : Nat} {d : Int} (hs : s < O.2.1) (h8 : O.2.1 ≤ 8) (h : Sto O.1 (O.2.2 s) L s) (hf : Fct O.1 (O.2.2 s)) (n2 : 2 ≤ aN (O.2.2 s)) (hd : lsD (O.2.2 s) ≤ d ∧ d ≤ 2500) : f_L_due (i3 (s : Int)) (i3 d) O L = some (i6 (vFc (O.2.2 s) d)) := by
  have q1 := qv_den hs h8 n2
  have q2 := qv_num hs h8 n2
  have q3 := qv_usual hs h8
  have ht := h.2.1
  obtain ⟨bN, bD, eND, hD2⟩ := slope_bd hf (by omega) n2
  have hu := IsUs_rng h.1 hf.2.1
  have hn := h.1.2.2.2.1
  have hs3 := h.2.2.2.1
  obtain ⟨b1, e1⟩ := h.g1
  have hday := p_day (O := O) h (k := aN (O.2.2 s) - 1) (by omega)
  obtain ⟨-, ey, hy1, hy2⟩ := h.y (k := aN (O.2.2 s) - 1) (by omega)
  have hl : lastp (aN (O.2.2 s)) (-1) = aN (O.2.2 s) - 1 := lastp_m1 (by omega)
  have els : lsD (O.2.2 s) = aDy (O.2.2 s) (aN (O.2.2 s) - 1) := by unfold lsD; rw [hl]
  rw [els] at hd
  have hru := p_ruled (O := O) h hy1.1 hd.1 hd.2
  have ev : vFc (O.2.2 s) d = fcv (aUs (O.2.2 s) (aN (O.2.2 s) - 1)) (vN (O.2.2 s)) (vD (O.2.2 s)) (aDy (O.2.2 s) (aN (O.2.2 s) - 1)) (vUs (O.2.2 s)) (aFr (O.2.2 s)) (aEv (O.2.2 s)) d := by
    unfold vFc fcA
    rw [hl]
    exact (fcv_frac bD.1 hD2 eND d).symm
  rw [ev]
  have r1 := rul_rng (fr := aFr (O.2.2 s)) (ev := aEv (O.2.2 s)) (d := d) h.1.2.1.1 (by omega)
  have r2 := rul_rng (fr := aFr (O.2.2 s)) (ev := aEv (O.2.2 s)) (d := aDy (O.2.2 s) (aN (O.2.2 s) - 1)) h.1.2.1.1 hy1.1
  have r3 := rul_mono (fr := aFr (O.2.2 s)) (ev := aEv (O.2.2 s)) hd.1
  unfold fcv rmv clp
  generalize aFr (O.2.2 s) = fr at *
  generalize aEv (O.2.2 s) = ev9 at *
  generalize vUs (O.2.2 s) = u at *
  generalize vN (O.2.2 s) = N at *
  generalize vD (O.2.2 s) = D at *
  generalize hst : aDy (O.2.2 s) (aN (O.2.2 s) - 1) = st at *
  generalize hus : aUs (O.2.2 s) (aN (O.2.2 s) - 1) = us at *
  generalize rul fr ev9 d = rd at *
  generalize rul fr ev9 st = rs at *
  have en1 : i3 (aN (O.2.2 s) : Int) - (1 : Int32) = i3 ((aN (O.2.2 s) - 1 : Nat) : Int) := by
    rw [l3_1, i3_sub]; congr 1; omega
  have eix : ((12 : Int32) * i3 (s : Int) + i3 (aN (O.2.2 s) : Int)) - (1 : Int32) = i3 ((12 * s + (aN (O.2.2 s) - 1) : Nat) : Int) := by
    rw [l3_12, l3_1, i3_mul, i3_add, i3_sub]; congr 1; omega
  have bix : inb (i3 ((12 * s + (aN (O.2.2 s) - 1) : Nat) : Int)) 36 := inbN (by omega) (by omega)
  have eyx : L.1 (i3 ((12 * s + (aN (O.2.2 s) - 1) : Nat) : Int)).toNatClampNeg = pk st us := by
    rw [i3_nn (by omega), ← hst, ← hus]; exact h.2.2.2.2.2.2.2.2.2.2.1 _ (by omega)
  have hm := mul_rng (a := N) (b := d - st) (X := 7000000) (Y := 2500) (by omega) (by omega) (by omega) (by omega) (by omega)
  have hq := div_rng (x := N * (d - st)) (y := D) (X := 7000000 * 2500) (by omega) (by omega) (by omega) bD.1
  have hur := mul_rng (a := u) (b := rd - rs) (X := 100000) (Y := 2501) (by omega) (by omega) (by omega) (by omega) (by omega)
  have hur0 : 0 ≤ u * (rd - rs) := Int.mul_nonneg hu.1 (by omega)
  unfold f_L_due
  rw [ck_pos b1, e1, en1, hday, Option.bind_some, q1, Option.bind_some, nmv_eq, q2, Option.bind_some, nmv_eq, i3_sub, i3_long (by omega) (by omega), i3_long (by omega) (by omega), i3_long (by omega) (by omega), i6_mul]
  generalize hg : N * (d - st) = g at *
  have e5 : (if (lg_cmp (i6 g) ((0 : Int64))) < 0 then ck (¬ i6 D = 0) (some (-(((i6 D - ((1 : Int64))) - i6 g) / i6 D))) else ck (¬ i6 D = 0) (some (i6 g / i6 D))) = some (i6 (g / D)) := by
    have nz : ¬ i6 D = 0 := by rw [l6_0, i6_eq (by omega) (by omega) (by omega) (by omega)]; omega
    by_cases c : g < 0
    · rw [if_pos (by rw [llt0, l6_0, i6_lt (by omega) (by omega) (by omega) (by omega)]; exact c), ck_pos nz, l6_1, i6_sub, i6_sub, i6_div (by omega) (by omega) (by omega) (by omega)]
      have e := ed_neg (g := g) bD.1
      rw [← e]
      congr 1
      exact (Int64.ofInt_neg _).symm
    · rw [if_neg (by rw [llt0, l6_0, i6_lt (by omega) (by omega) (by omega) (by omega)]; exact c), ck_pos nz, i6_div (by omega) (by omega) (by omega) (by omega)]
  rw [e5, Option.bind_some, ck_pos b1, eix, ck_pos bix, q3, Option.bind_some, hru, Option.bind_some, nmv_eq, eyx, pk9_shr hy1 hy2, i3_long (by omega) (by omega), i3_long (by omega) (by omega), i6_add, i6_mul, i6_sub]
  have hvv : -1000000000000 ≤ us + g / D - u * (rd - rs) ∧ us + g / D - u * (rd - rs) ≤ 1000000000000 := by omega
  generalize us + g / D - u * (rd - rs) = v at *
  by_cases c1 : v < 0
  · rw [if_neg (by rw [lge0, l6_0, i6_le (by omega) (by omega) (by omega) (by omega)]; omega), if_pos c1, l6_0]
  · rw [if_pos (by rw [lge0, l6_0, i6_le (by omega) (by omega) (by omega) (by omega)]; omega), if_neg c1]
    by_cases c2 : 2000000000 < v
    · rw [if_neg (by rw [lle0, l6_2000000000, i6_le (by omega) (by omega) (by omega) (by omega)]; omega), if_pos c2, l6_2000000000]
    · rw [if_pos (by rw [lle0, l6_2000000000, i6_le (by omega) (by omega) (by omega) (by omega)]; omega), if_neg c2]
