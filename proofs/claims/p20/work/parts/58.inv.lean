/-! What holds between the law's steps; isSampled -/
def Inv (O : Ob) (L : LW) (b : Int) : Prop := (∃ T, RlT T O) ∧ O.2.1 ≤ 3 ∧ (0 ≤ O.1 ∧ O.1 ≤ b ∧ b ≤ 400) ∧ L.2.2.2 0 = i3 (O.2.1 : Int) ∧ (∀ s, s < O.2.1 → aM (O.2.2 s) ≤ 20 ∧ ShS (O.2.2 s) L s) ∧ ∀ s, O.2.1 ≤ s → s < 3 → L.2.2.1 (8 * s + 1) = 0 ∧ L.2.2.1 (8 * s + 2) = 0 ∧ L.2.2.1 (8 * s + 3) = 0 ∧ L.2.2.1 (8 * s + 4) = 0 ∧ L.2.2.1 (8 * s + 5) = 0
theorem Inv.sto {O : Ob} {L : LW} {b : Int} (h : Inv O L b) {s : Nat} (hs : s < O.2.1) : Sto O.1 (O.2.2 s) L s ∧ Fct O.1 (O.2.2 s) := by
  obtain ⟨hT, hn, ht, hm, hst, -⟩ := h
  have hf := fct hT hs
  exact ⟨⟨hf.1, by omega, (hst s hs).1, by omega, (hst s hs).2⟩, hf⟩
theorem updL_at (f : Nat → Int64) (i j : Nat) (v : Int64) : vp_updL f i v j = if j = i then v else f j := rfl
theorem updI_at (f : Nat → Int32) (i j : Nat) (v : Int32) : upd f i v j = if j = i then v else f j := rfl
/-- a store's cells, where the arrays differ elsewhere alone -/
theorem ShS.keep {A : AB} {L L2 : LW} {t : Nat} (h : ShS A L t) (hn : aN A ≤ 12) (hm : aM A ≤ 20) (hg : ∀ c, c < 8 → L2.2.2.1 (8 * t + c) = L.2.2.1 (8 * t + c)) (hy : ∀ k, k < 12 → L2.1 (12 * t + k) = L.1 (12 * t + k)) (hc : ∀ j, j < 20 → L2.2.1 (20 * t + j) = L.2.1 (20 * t + j)) : ShS A L2 t := by
  obtain ⟨a0, a1, a2, a3, a4, a5, a6, a7⟩ := h
  exact ⟨(hg 0 (by omega)).trans a0, (hg 1 (by omega)).trans a1, (hg 2 (by omega)).trans a2, (hg 3 (by omega)).trans a3, (hg 4 (by omega)).trans a4, (hg 5 (by omega)).trans a5, fun k hk => (hy k (by omega)).trans (a6 k hk), fun j hj => (hc j (by omega)).trans (a7 j hj)⟩
theorem p_shift {s : Nat} (hs : s < 3) : ∀ (fuel k : Nat) (L : LW), 11 < k + fuel → k ≤ 11 → ∃ L2, f_L_isSampled_59 (i3 (s : Int)) fuel (i3 ((12 * s + k : Nat) : Int)) L = some L2 ∧ L2.2 = L.2 ∧ ∀ i, L2.1 i = if 12 * s + k ≤ i ∧ i < 12 * s + 11 then L.1 (i + 1) else L.1 i := by
  intro fuel
  induction fuel with
  | zero => intro k L h1 h2; omega
  | succ fuel ih =>
    intro k L h1 h2
    have e11 : (12 : Int32) * i3 (s : Int) + (11 : Int32) = i3 ((12 * s + 11 : Nat) : Int) := by
      rw [l3_12, l3_11, i3_mul, i3_add]; congr 1
    rw [f_L_isSampled_59, e11]
    by_cases c : k = 11
    · subst c
      refine ⟨L, by rw [if_pos (Int32.le_refl _)], rfl, fun i => ?_⟩
      rw [if_neg (by omega)]
    · have e1 : i3 ((12 * s + k : Nat) : Int) + (1 : Int32) = i3 ((12 * s + (k + 1) : Nat) : Int) := by rw [l3_1, i3_add]; congr 1
      have b1 : inb (i3 ((12 * s + (k + 1) : Nat) : Int)) 36 := inbN (by omega) (by omega)
      have b0 : inb (i3 ((12 * s + k : Nat) : Int)) 36 := inbN (by omega) (by omega)
      rw [if_neg (by rw [i3_le (by omega) (by omega) (by omega) (by omega)]; omega), e1, ck_pos b1, ck_pos b0, nmv_eq, nmv_eq, i3_nn (by omega), i3_nn (by omega)]
      obtain ⟨L2, q1, q2, q3⟩ := ih (k + 1) (sY L (12 * s + k) (L.1 (12 * s + (k + 1)))) (by omega) (by omega)
      refine ⟨L2, q1, q2, fun i => ?_⟩
      rw [q3]
      show (if 12 * s + (k + 1) ≤ i ∧ i < 12 * s + 11 then vp_updL L.1 (12 * s + k) (L.1 (12 * s + (k + 1))) (i + 1) else vp_updL L.1 (12 * s + k) (L.1 (12 * s + (k + 1))) i) = _
      rw [updL_at, updL_at]
      by_cases c2 : i = 12 * s + k
      · subst c2
        rw [if_neg (by omega), if_pos rfl, if_pos (by omega)]; rfl
      · by_cases c3 : 12 * s + (k + 1) ≤ i ∧ i < 12 * s + 11
        · rw [if_pos c3, if_neg (by omega), if_pos (by omega)]
        · rw [if_neg c3, if_neg c2, if_neg (by omega)]
theorem p_isSampled {O : Ob} {L : LW} {b u : Int} {s : Nat} (h : Inv O L b) (hs : s < O.2.1) (hu : 0 ≤ u ∧ u ≤ 1000000) : ∃ O2 L2, f_L_isSampled (i3 (s : Int)) (i3 u) O L = some (1, O2, L2) ∧ Inv O2 L2 b ∧ O2.2.1 = O.2.1 := by
  obtain ⟨hS, hf⟩ := h.sto hs
  obtain ⟨⟨T, hT⟩, hn3, ht, hm, hst, hz⟩ := h
  have h8 : O.2.1 ≤ 8 := by omega
  obtain ⟨hin, hsa⟩ := inO_of hs h8
  obtain ⟨b1, e1⟩ := hS.g1
  have hv := hS.1
  have hn := hv.2.2.2.1
  have hs3 := hS.2.2.2.1
  have hm20 := hS.2.2.1
  have hSh := hS.2.2.2.2
  have qa : qa_sample (i3 (s : Int)) (i3 u) O = some (i3 (aN (addS (O.2.2 s) O.1 u)), updO O (i3 (s : Int)) (addS (O.2.2 s) O.1 u)) := by
    unfold qa_sample
    rw [ck_pos hin, ck_pos (by rw [l3_0, l3_1000000, i3_le (by omega) (by omega) (by omega) (by omega), i3_le (by omega) (by omega) (by omega) (by omega)]; exact hu), hsa, i3_toInt (by omega) (by omega)]
  obtain ⟨T2, -, hT2⟩ := ka_sample qa hT
  have hqs : q_samples (i3 (s : Int)) (updO O (i3 (s : Int)) (addS (O.2.2 s) O.1 u)) = some (i3 (aN (addS (O.2.2 s) O.1 u))) := by
    rw [qv_samples (O := updO O (i3 (s : Int)) (addS (O.2.2 s) O.1 u)) (s := s) hs h8]
    show some (i3 (aN (if s = (i3 (s : Int)).toNatClampNeg then addS (O.2.2 s) O.1 u else O.2.2 s))) = _
    rw [i3_nn (by omega), if_pos rfl]
  obtain ⟨k1, k2⟩ := addS_keep (O.2.2 s) O.1 u
  -- the arrays behind
  have tail : ∀ L2 : LW, (L2.2.1 = L.2.1) → (L2.2.2.2 = L.2.2.2) → (∀ i, i ≠ 8 * s + 1 → L2.2.2.1 i = L.2.2.1 i) → L2.2.2.1 (8 * s + 1) = i3 (aN (addS (O.2.2 s) O.1 u)) → (∀ i, (i < 12 * s ∨ 12 * s + 12 ≤ i) → L2.1 i = L.1 i) → (∀ k, k < aN (addS (O.2.2 s) O.1 u) → L2.1 (12 * s + k) = pk (aDy (addS (O.2.2 s) O.1 u) k) (aUs (addS (O.2.2 s) O.1 u) k)) → Inv (updO O (i3 (s : Int)) (addS (O.2.2 s) O.1 u)) L2 b := by
    intro L2 p1 p2 p3 p4 p5 p6
    refine ⟨⟨T2, hT2⟩, hn3, ht, by rw [p2]; exact hm, fun t htn => ?_, fun t t1 t2 => ?_⟩
    · show aM (if t = (i3 (s : Int)).toNatClampNeg then addS (O.2.2 s) O.1 u else O.2.2 t) ≤ 20 ∧ ShS (if t = (i3 (s : Int)).toNatClampNeg then addS (O.2.2 s) O.1 u else O.2.2 t) L2 t
      rw [i3_nn (by omega)]
      have htn' : t < O.2.1 := htn
      by_cases c : t = s
      · subst c
        rw [if_pos rfl]
        obtain ⟨a0, a1, a2, a3, a4, a5, a6, a7⟩ := hSh
        have m2 : aM (addS (O.2.2 t) O.1 u) = aM (O.2.2 t) := by unfold aM; rw [k2]
        refine ⟨by rw [m2]; exact hm20, ?_, p4, ?_, ?_, ?_, ?_, p6, fun j hj => ?_⟩
        · rw [p3 _ (by omega), show aSz (addS (O.2.2 t) O.1 u) = aSz (O.2.2 t) from by unfold aSz; rw [k1]]; exact a0
        · rw [p3 _ (by omega), m2]; exact a2
        · rw [p3 _ (by omega), show aFr (addS (O.2.2 t) O.1 u) = aFr (O.2.2 t) from by unfold aFr; rw [k1]]; exact a3
        · rw [p3 _ (by omega), show aEv (addS (O.2.2 t) O.1 u) = aEv (O.2.2 t) from by unfold aEv; rw [k1]]; exact a4
        · rw [p3 _ (by omega), show aNe (addS (O.2.2 t) O.1 u) = aNe (O.2.2 t) from by unfold aNe; rw [k2]]; exact a5
        · rw [m2] at hj
          rw [p1, show aCd (addS (O.2.2 t) O.1 u) = aCd (O.2.2 t) from by unfold aCd; rw [k2], show aCf (addS (O.2.2 t) O.1 u) = aCf (O.2.2 t) from by unfold aCf; rw [k2]]
          exact a7 j hj
      · rw [if_neg c]
        have hv2 := (hT.2.2.2.2 t htn').1
        refine ⟨(hst t htn').1, (hst t htn').2.keep hv2.2.2.2.1 (hst t htn').1 (fun q hq => p3 _ (by omega)) (fun k hk => p5 _ (by omega)) (fun j hj => by rw [p1])⟩
    · have := hz t t1 t2
      have t1' : O.2.1 ≤ t := t1
      rw [p3 _ (by omega), p3 _ (by omega), p3 _ (by omega), p3 _ (by omega), p3 _ (by omega)]
      exact this
  have et : q_today O = i3 O.1 := rfl
  have e4 : (if i3 (aN (O.2.2 s) : Int) ≤ 0 then some ((0 : Int32)) else (f_L_day (i3 (s : Int)) (i3 (aN (O.2.2 s) : Int) - ((1 : Int32))) O L).bind (fun (r12 : Int32) => if r12 = (q_today O) then some ((1 : Int32)) else some ((0 : Int32)))) = some (if 0 < aN (O.2.2 s) ∧ aDy (O.2.2 s) (aN (O.2.2 s) - 1) = O.1 then 1 else 0) := by
    by_cases c : aN (O.2.2 s) = 0
    · rw [if_pos (by rw [l3_0, i3_le (by omega) (by omega) (by omega) (by omega)]; omega), if_neg (by omega)]
    · have hd := hv.2.2.2.2.1 (aN (O.2.2 s) - 1) (by omega)
      rw [if_neg (by rw [l3_0, i3_le (by omega) (by omega) (by omega) (by omega)]; omega), show i3 (aN (O.2.2 s) : Int) - (1 : Int32) = i3 ((aN (O.2.2 s) - 1 : Nat) : Int) from by rw [l3_1, i3_sub]; congr 1; omega, p_day (O := O) hS (by omega), Option.bind_some, et]
      by_cases c2 : aDy (O.2.2 s) (aN (O.2.2 s) - 1) = O.1
      · rw [if_pos (by rw [c2]), if_pos ⟨by omega, c2⟩]
      · rw [if_neg (by rw [i3_eq (by omega) (by omega) (by omega) (by omega)]; exact c2), if_neg (fun q => c2 q.2)]
  -- where it is written
  have fin : ∀ (L16 : LW) (q : Nat), q < 12 → aN (addS (O.2.2 s) O.1 u) = q + 1 → ∀ r15 r42 : Int32, r15 + r42 = i3 ((q + 1 : Nat) : Int) → (nmv (r15 + r42) (fun (v47 : Int32) => ck (inb (((((12 : Int32)) * i3 (s : Int)) + v47) - ((1 : Int32))) 36) (nmv (sY L16 (((((12 : Int32)) * i3 (s : Int)) + v47) - ((1 : Int32))).toNatClampNeg (((q_today O).toInt64) ||| ((i3 u).toInt64 <<< (((11 : Int32)).toInt64 &&& 63)))) (fun (L49 : LW) => ck (inb ((((8 : Int32)) * i3 (s : Int)) + ((1 : Int32))) 24) (nmv (sG L49 ((((8 : Int32)) * i3 (s : Int)) + ((1 : Int32))).toNatClampNeg v47) (fun (L51 : LW) => (qa_sample (i3 (s : Int)) (i3 u) O).bind (fun ((r55, O56) : Int32 × Ob) => if r55 = v47 then (q_samples (i3 (s : Int)) O56).bind (fun (r58 : Int32) => if r58 = v47 then some ((1 : Int32), O56, L51) else some ((0 : Int32), O56, L51)) else some ((0 : Int32), O56, L51))))))) = some ((1 : Int32), updO O (i3 (s : Int)) (addS (O.2.2 s) O.1 u), sG (sY L16 (12 * s + q) (pk O.1 u)) (8 * s + 1) (i3 ((q + 1 : Nat) : Int)))) := by
    intro L16 q hq hN r15 r42 er
    have eix : ((12 : Int32) * i3 (s : Int) + i3 ((q + 1 : Nat) : Int)) - (1 : Int32) = i3 ((12 * s + q : Nat) : Int) := by
      rw [l3_12, l3_1, i3_mul, i3_add, i3_sub]; congr 1; omega
    rw [nmv_eq, er, eix, ck_pos (inbN (by omega) (by omega)), nmv_eq, ck_pos b1, nmv_eq, qa, Option.bind_some]
    dsimp only
    rw [hN, if_pos rfl]
    rw [hN] at hqs
    rw [hqs, Option.bind_some, if_pos rfl, et, i3_long (by omega) (by omega), i3_long (by omega) (by omega), pk9_or (by omega) hu, i3_nn (by omega), (x8_1 hs3).2]
  unfold f_L_isSampled
  rw [ck_pos b1, e1, nmv_eq, e4, Option.bind_some]
  have hadd : addS (O.2.2 s) O.1 u = if 0 < aN (O.2.2 s) ∧ aDy (O.2.2 s) (aN (O.2.2 s) - 1) = O.1 then adS1 (O.2.2 s) u else if aN (O.2.2 s) < 12 then adS2 (O.2.2 s) O.1 u else adS3 (O.2.2 s) O.1 u := rfl
  have hy := hSh.2.2.2.2.2.2.1
  by_cases c : 0 < aN (O.2.2 s) ∧ aDy (O.2.2 s) (aN (O.2.2 s) - 1) = O.1
  · rw [if_pos c] at hadd ⊢
    have hN : aN (addS (O.2.2 s) O.1 u) = (aN (O.2.2 s) - 1) + 1 := by rw [hadd]; show aN (O.2.2 s) = _; omega
    have := fin L (aN (O.2.2 s) - 1) (by omega) hN (i3 (aN (O.2.2 s) : Int)) 0 (by rw [l3_0, i3_add]; congr 1; omega)
    rw [if_neg (by decide), Option.bind_some]
    dsimp only
    rw [if_neg (by decide), Option.bind_some]
    refine ⟨_, _, this, tail _ rfl rfl (fun i hi => ?_) ?_ (fun i hi => ?_) (fun k hk => ?_), rfl⟩
    · show upd L.2.2.1 (8 * s + 1) _ i = _
      rw [updI_at, if_neg hi]
    · show upd L.2.2.1 (8 * s + 1) _ (8 * s + 1) = _
      rw [updI_at, if_pos rfl, hN]
    · show vp_updL L.1 _ _ i = _
      rw [updL_at, if_neg (by omega)]
    · show vp_updL L.1 _ _ (12 * s + k) = _
      rw [updL_at, hadd]
      rw [hN] at hk
      show _ = pk (aDy (O.2.2 s) k) (if k = aN (O.2.2 s) - 1 then u else aUs (O.2.2 s) k)
      by_cases c2 : k = aN (O.2.2 s) - 1
      · rw [if_pos (by omega), if_pos c2, c2, c.2]
      · rw [if_neg (by omega), if_neg c2]; exact hy k (by omega)
  · rw [if_neg c] at hadd ⊢
    by_cases c12 : aN (O.2.2 s) < 12
    · rw [if_pos c12] at hadd
      have hN : aN (addS (O.2.2 s) O.1 u) = aN (O.2.2 s) + 1 := by rw [hadd]; rfl
      have := fin L (aN (O.2.2 s)) (by omega) hN (i3 (aN (O.2.2 s) : Int)) 1 (by rw [l3_1, i3_add]; rfl)
      rw [if_pos rfl, if_neg (by rw [l3_12, i3_eq (by omega) (by omega) (by omega) (by omega)]; omega), Option.bind_some]
      dsimp only
      rw [if_pos rfl, Option.bind_some]
      refine ⟨_, _, this, tail _ rfl rfl (fun i hi => ?_) ?_ (fun i hi => ?_) (fun k hk => ?_), rfl⟩
      · show upd L.2.2.1 (8 * s + 1) _ i = _
        rw [updI_at, if_neg hi]
      · show upd L.2.2.1 (8 * s + 1) _ (8 * s + 1) = _
        rw [updI_at, if_pos rfl, hN]
      · show vp_updL L.1 _ _ i = _
        rw [updL_at, if_neg (by omega)]
      · show vp_updL L.1 _ _ (12 * s + k) = _
        rw [updL_at, hadd]
        rw [hN] at hk
        show _ = pk (if k = aN (O.2.2 s) then O.1 else aDy (O.2.2 s) k) (if k = aN (O.2.2 s) then u else aUs (O.2.2 s) k)
        by_cases c2 : k = aN (O.2.2 s)
        · rw [if_pos (by omega), if_pos c2, if_pos c2]
        · rw [if_neg (by omega), if_neg c2, if_neg c2]; exact hy k (by omega)
    · rw [if_neg c12] at hadd
      have en12 : aN (O.2.2 s) = 12 := by omega
      have hN : aN (addS (O.2.2 s) O.1 u) = 11 + 1 := by rw [hadd]; show aN (O.2.2 s) = _; omega
      obtain ⟨L9, w1, w2, w3⟩ := p_shift hs3 3000 0 L (by omega) (by omega)
      have w1' : f_L_isSampled_59 (i3 (s : Int)) 3000 ((12 : Int32) * i3 (s : Int)) L = some L9 := by
        rw [l3_12, i3_mul, show (12 * (s : Int)) = ((12 * s + 0 : Nat) : Int) by omega]; exact w1
      have := fin L9 11 (by omega) hN (i3 11) 1 (by rw [l3_1, i3_add]; rfl)
      rw [if_pos rfl, en12, if_pos (by decide), nmv_eq, nmv_eq, w1', Option.bind_some, Option.bind_some]
      dsimp only
      rw [if_pos rfl, Option.bind_some, show i3 ((12 : Nat) : Int) + (-1 : Int32) = i3 11 from by decide]
      refine ⟨_, _, this, tail _ (by show L9.2.1 = _; rw [w2]) (by show L9.2.2.2 = _; rw [w2]) (fun i hi => ?_) ?_ (fun i hi => ?_) (fun k hk => ?_), rfl⟩
      · show upd L9.2.2.1 (8 * s + 1) _ i = _
        rw [updI_at, if_neg hi, w2]
      · show upd L9.2.2.1 (8 * s + 1) _ (8 * s + 1) = _
        rw [updI_at, if_pos rfl, hN]
      · show vp_updL L9.1 _ _ i = _
        rw [updL_at, if_neg (by omega), w3, if_neg (by omega)]
      · show vp_updL L9.1 _ _ (12 * s + k) = _
        rw [updL_at, hadd]
        rw [hN] at hk
        show _ = pk (if k = aN (O.2.2 s) - 1 then O.1 else aDy (O.2.2 s) (k + 1)) (if k = aN (O.2.2 s) - 1 then u else aUs (O.2.2 s) (k + 1))
        rw [en12]
        by_cases c2 : k = 11
        · rw [if_pos (by omega), if_pos c2, if_pos c2]
        · rw [if_neg (by omega), if_neg (by omega), if_neg (by omega), w3, if_pos (by omega)]; exact hy (k + 1) (by omega)
