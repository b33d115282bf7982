/-! isPassed -/
theorem lkn1 (e d : Int) (s : Int × Int) : lkn e d s 1 = ((lk e (d + 1) s).1, (lk e (d + 1) s).2) := by
  show ((lk e (d + (((0 : Nat) : Int) + 1)) s).1, 0 + (lk e (d + (((0 : Nat) : Int) + 1)) s).2) = _
  rw [show (((0 : Nat) : Int) + 1) = 1 from rfl, Int.zero_add]
theorem bo1 : ∀ j, j < 3 → ∀ w, w < 8 → w < 2 ^ j → i3 (w : Nat) ||| ((1 : Int32) <<< (i3 (j : Nat) &&& 31)) = i3 ((w + 2 ^ j : Nat) : Int) := by decide +kernel
theorem bo2a : ∀ j, j < 3 → ∀ w, w < 8 → w < 2 ^ j → pb (w + 2 ^ j) j = true := by decide +kernel
theorem bo2b : ∀ j, j < 3 → ∀ w, w < 8 → w < 2 ^ j → pb w j = false := by decide +kernel
theorem bo2c : ∀ j, j < 3 → ∀ w, w < 8 → ∀ t, t < j → w < 2 ^ j → pb (w + 2 ^ j) t = pb w t := by decide +kernel
theorem bo0 : ∀ w, w < 8 → i3 (w : Nat) ||| (0 : Int32) = i3 (w : Nat) := by decide +kernel
noncomputable def sx (O : Ob) (t : Nat) : (Int × Int) × Int := lk (vEar (O.2.2 t)) (O.1 + 1) (aOn (O.2.2 t), aNe (O.2.2 t))
theorem sx_bit {O : Ob} {t : Nat} (h : Fct O.1 (O.2.2 t)) : bit (sx O t).1.1 ∧ bit (sx O t).1.2 ∧ bit (sx O t).2 := lk_bit h.1.2.2.2.2.2.2.2.2.1
def rl5 (O : Ob) (L L2 : LW) (S : Nat → Int) (j : Nat) : Prop := L2.1 = L.1 ∧ L2.2.1 = L.2.1 ∧ L2.2.2.2 = L.2.2.2 ∧ (∀ i, (∀ t, t < j → i ≠ 8 * t + 5) → L2.2.2.1 i = L.2.2.1 i) ∧ ∀ t, t < j → L2.2.2.1 (8 * t + 5) = i3 (S t)
theorem p_pass34 {O : Ob} {L : LW} {b : Int} (h : Inv O L b) : ∀ (fuel j w : Nat) (L1 : LW), O.2.1 < j + fuel → j ≤ O.2.1 → w < 2 ^ j → (∀ t, t < j → (pb w t = true ↔ (sx O t).1.1 = 1)) → rl5 O L L1 (fun t => (sx O t).1.2) j → ∃ (w2 : Nat) (L2 : LW), f_L_isPassed_34 O (i3 (O.1 + 1)) fuel (i3 (smc (fun t => (sx O t).2) j)) (i3 (w : Int)) (i3 (j : Int)) L1 = some (i3 (smc (fun t => (sx O t).2) O.2.1), i3 (w2 : Int), L2) ∧ w2 < 2 ^ O.2.1 ∧ (∀ t, t < O.2.1 → (pb w2 t = true ↔ (sx O t).1.1 = 1)) ∧ rl5 O L L2 (fun t => (sx O t).1.2) O.2.1 := by
  have hn3 := h.2.1
  have ht := h.2.2.1
  have h8 : O.2.1 ≤ 8 := by omega
  have hm := h.2.2.2.1
  intro fuel
  induction fuel with
  | zero => intro j w L1 h1 h2; omega
  | succ fuel ih =>
    intro j w L1 h1 h2 hw hpb hrl
    have hm1 : L1.2.2.2 0 = i3 (O.2.1 : Int) := by rw [hrl.2.2.1]; exact hm
    rw [f_L_isPassed_34, ck_pos z1, z0, hm1]
    by_cases c : j = O.2.1
    · subst c
      exact ⟨w, L1, by rw [if_pos (Int32.le_refl _)], hw, hpb, hrl⟩
    · have hj : j < O.2.1 := by omega
      have hj3 : j < 3 := by omega
      obtain ⟨hS, hf⟩ := h.sto hj
      have hv := hS.1
      have hon := hv.2.2.2.2.2.2.2.2.1
      have hne := hv.2.2.2.2.2.2.2.2.2
      have he := hf.2.2.2.2.2.1.2
      have tE := tld_cases he
      obtain ⟨s1, s2, s3⟩ := sx_bit hf
      have qE := qv_early hj h8
      have qW := qv_warns hj h8
      obtain ⟨b5, e5⟩ := hS.g5
      have e5' : L1.2.2.1 ((8 : Int32) * i3 (j : Int) + (5 : Int32)).toNatClampNeg = i3 (aNe (O.2.2 j)) := by
        rw [← e5]
        refine hrl.2.2.2.1 _ (fun t htj => ?_)
        rw [(x8_5 hj3).2]; omega
      have hw8 : w < 8 := by
        have : 2 ^ j ≤ 2 ^ 3 := Nat.pow_le_pow_right (by decide) (by omega)
        omega
      have hsx : sx O j = lk (vEar (O.2.2 j)) (O.1 + 1) (aOn (O.2.2 j), aNe (O.2.2 j)) := rfl
      have e45 : (if 0 ≤ i3 (tld (vEar (O.2.2 j))) then (some (i3 (tld (vEar (O.2.2 j))))).bind (fun (r50 : Int32) => some r50) else some ((1000000 : Int32))) = some (i3 (vEar (O.2.2 j))) := by
        rcases tE with ⟨t1, t2⟩ | ⟨t1, t2⟩
        · rw [t2, if_neg (by decide), t1]; rfl
        · rw [t2, if_pos (by rw [l3_0, i3_le (by omega) (by omega) (by omega) (by omega)]; omega), Option.bind_some]
      have e55 : (if (i3 (O.1 + 1) + ((14 : Int32))) < i3 (vEar (O.2.2 j)) then some ((0 : Int32)) else some ((1 : Int32))) = some (i3 (sx O j).1.2) := by
        rw [hsx, l3_14, i3_add]
        show _ = some (i3 (if vEar (O.2.2 j) - (O.1 + 1) ≤ 14 then 1 else 0))
        by_cases c9 : vEar (O.2.2 j) - (O.1 + 1) ≤ 14
        · rw [if_neg (by rw [i3_lt (by omega) (by omega) (by omega) (by omega)]; omega), if_pos c9, l3_1]
        · rw [if_pos (by rw [i3_lt (by omega) (by omega) (by omega) (by omega)]; omega), if_neg c9, l3_0]
      have bz : ∀ z : Int, bit z → (i3 z = (0 : Int32)) = (z = 0) := fun z hz => by rw [l3_0, i3_eq (by rcases hz with q | q <;> omega) (by rcases hz with q | q <;> omega) (by omega) (by omega)]
      have e65 : (if i3 (aOn (O.2.2 j)) = 0 then if i3 (sx O j).1.2 = 0 then some ((0 : Int32)) else ck (inb ((((8 : Int32)) * i3 (j : Int)) + ((5 : Int32))) 24) (if i3 (aNe (O.2.2 j)) = ((1 : Int32)) then some ((1 : Int32)) else some ((0 : Int32))) else if (i3 (O.1 + 1) + ((21 : Int32))) < i3 (vEar (O.2.2 j)) then some ((0 : Int32)) else some ((1 : Int32))) = some (i3 (sx O j).1.1) := by
        have e1 : (i3 (aNe (O.2.2 j)) = (1 : Int32)) = (aNe (O.2.2 j) = 1) := by rw [l3_1, i3_eq (by omega) (by omega) (by omega) (by omega)]
        have e2 : (i3 (O.1 + 1) + (21 : Int32) < i3 (vEar (O.2.2 j))) = (O.1 + 1 + 21 < vEar (O.2.2 j)) := by rw [l3_21, i3_add, i3_lt (by omega) (by omega) (by omega) (by omega)]
        have q1 : (sx O j).1.1 = if (if vEar (O.2.2 j) - (O.1 + 1) ≤ 14 then (1 : Int) else 0) = 1 ∧ aNe (O.2.2 j) = 1 then 1 else if 21 < vEar (O.2.2 j) - (O.1 + 1) then 0 else aOn (O.2.2 j) := rfl
        have q2 : (sx O j).1.2 = if vEar (O.2.2 j) - (O.1 + 1) ≤ 14 then (1 : Int) else 0 := rfl
        simp only [bz _ hon, bz _ s2, e1, e2, ck_pos b5]
        rw [q1, q2]
        generalize vEar (O.2.2 j) = e at *
        generalize aOn (O.2.2 j) = on at *
        generalize aNe (O.2.2 j) = ne at *
        repeat' split
        all_goals first | rfl | (exfalso; omega) | (congr 1; rw [l3_0]; congr 1; omega) | (congr 1; rw [l3_1]; congr 1; omega)
      have e75 : (if i3 (sx O j).1.1 = i3 (aOn (O.2.2 j)) then some ((0 : Int32)) else some ((1 : Int32))) = some (i3 (sx O j).2) := by
        have q3 : (sx O j).2 = if (sx O j).1.1 = aOn (O.2.2 j) then 0 else 1 := rfl
        rw [q3]
        by_cases c9 : (sx O j).1.1 = aOn (O.2.2 j)
        · rw [if_pos (by rw [c9]), if_pos c9, l3_0]
        · rw [if_neg (by rw [i3_eq (by rcases s1 with q | q <;> omega) (by rcases s1 with q | q <;> omega) (by omega) (by omega)]; exact c9), if_neg c9, l3_1]
      have e89 : (if i3 (sx O j).1.2 = 0 then some ((0 : Int32)) else some ((1 : Int32))) = some (i3 (sx O j).1.2) := by
        rcases s2 with q | q
        · rw [q, if_pos (by decide)]; rfl
        · rw [q, if_neg (by decide)]; rfl
      have en : i3 (j : Int) + (1 : Int32) = i3 ((j + 1 : Nat) : Int) := by rw [l3_1, i3_add]; rfl
      have o1 := bo2a j hj3 w hw8 hw
      have o2 := bo2b j hj3 w hw8 hw
      have o3 := fun t (q : t < j) => bo2c j hj3 w hw8 t q hw
      have e82 : ∃ w2 : Nat, ((if i3 (sx O j).1.1 = 0 then some ((0 : Int32)) else some (((1 : Int32)) <<< (i3 (j : Int) &&& 31))).bind (fun r82 => some (i3 (w : Int) ||| r82))) = some (i3 (w2 : Int)) ∧ w2 < 2 ^ (j + 1) ∧ ∀ t, t < j + 1 → (pb w2 t = true ↔ (sx O t).1.1 = 1) := by
        have hp2 : 2 ^ (j + 1) = 2 ^ j + 2 ^ j := by rw [Nat.pow_succ]; omega
        rcases s1 with q | q
        · refine ⟨w, by rw [q, if_pos (by decide), Option.bind_some, bo0 w hw8], by omega, fun t htj => ?_⟩
          by_cases c9 : t = j
          · subst c9; rw [o2, q]; constructor <;> intro x <;> cases x
          · exact hpb t (by omega)
        · refine ⟨w + 2 ^ j, by rw [q, if_neg (by decide), Option.bind_some, bo1 j hj3 w hw8 hw], by omega, fun t htj => ?_⟩
          by_cases c9 : t = j
          · subst c9; rw [o1, q]; exact ⟨fun _ => rfl, fun _ => rfl⟩
          · rw [o3 t (by omega)]; exact hpb t (by omega)
      obtain ⟨w2, f82, f83, f84⟩ := e82
      obtain ⟨r82, g82, g83⟩ := bk f82
      have g84 := Option.some.inj g83
      rw [if_neg (by rw [i3_le (by omega) (by omega) (by omega) (by omega)]; omega), qE, Option.bind_some, e45, Option.bind_some, e55, Option.bind_some, qW, Option.bind_some, e5', e65, Option.bind_some, e75, Option.bind_some, nmv_eq, g82, Option.bind_some, nmv_eq, g84, e89, Option.bind_some, ck_pos b5, nmv_eq, nmv_eq, en, i3_add, (x8_5 hj3).2]
      refine ih (j + 1) w2 _ (by omega) (by omega) f83 f84 ⟨hrl.1, hrl.2.1, hrl.2.2.1, fun i hi => ?_, fun t htj => ?_⟩
      · show upd L1.2.2.1 (8 * j + 5) _ i = _
        rw [updI_at, if_neg (hi j (by omega))]
        exact hrl.2.2.2.1 i (fun t q => hi t (by omega))
      · show upd L1.2.2.1 (8 * j + 5) _ (8 * t + 5) = _
        rw [updI_at]
        by_cases c9 : t = j
        · subst c9; rw [if_pos rfl]
        · rw [if_neg (by omega)]; exact hrl.2.2.2.2 t (by omega)
theorem p_one {O : Ob} {L : LW} {b : Int} (h : Inv O L b) (hb : b + 1 ≤ 400) : ∃ (w : Nat) (L2 : LW) (d : Int32), f_L_isPassed_34 O (i3 (O.1 + 1)) 3000 (0 : Int32) (0 : Int32) (0 : Int32) L = some (d, i3 (w : Int), L2) ∧ qa_pass (1 : Int32) O = some (d, passO O) ∧ Inv (passO O) L2 (b + 1) ∧ f_L_isPassed_228 (i3 (w : Int)) L2 (passO O) 3000 (1 : Int32) (0 : Int32) = some 1 := by
  have hn3 := h.2.1
  have ht := h.2.2.1
  have h8 : O.2.1 ≤ 8 := by omega
  have hm := h.2.2.2.1
  obtain ⟨w, L2, p1, p2, p3, p4⟩ := p_pass34 h 3000 0 0 L (by omega) (by omega) (by decide) (fun t q => absurd q (Nat.not_lt_zero t)) ⟨rfl, rfl, rfl, fun _ _ => rfl, fun t q => absurd q (Nat.not_lt_zero t)⟩
  have p1' : f_L_isPassed_34 O (i3 (O.1 + 1)) 3000 (0 : Int32) (0 : Int32) (0 : Int32) L = some (i3 (smc (fun t => (sx O t).2) O.2.1), i3 (w : Int), L2) := p1
  have etot : tots O.2.2 (vEs O) O.1 O.2.1 1 = smc (fun t => (sx O t).2) O.2.1 := by
    unfold tots
    refine smc_ext (fun t _ => ?_)
    rw [lkn1]; rfl
  have qp : qa_pass (1 : Int32) O = some (i3 (smc (fun t => (sx O t).2) O.2.1), passO O) := by
    unfold qa_pass
    rw [ck_pos rfl, ck_pos (by omega), etot]
  have est : ∀ t, (passO O).2.2 t = setW (O.2.2 t) (sx O t).1 := fun t => by
    show setW (O.2.2 t) (lkn (vEs O t) O.1 (aOn (O.2.2 t), aNe (O.2.2 t)) 1).1 = _
    rw [lkn1]; rfl
  obtain ⟨T, hT⟩ := h.1
  obtain ⟨T2, -, hT2⟩ := ka_pass qp hT
  have hm2 : L2.2.2.2 0 = i3 (O.2.1 : Int) := by rw [p4.2.2.1]; exact hm
  refine ⟨w, L2, _, p1', qp, ⟨⟨T2, hT2⟩, hn3, by show 0 ≤ O.1 + 1 ∧ O.1 + 1 ≤ b + 1 ∧ b + 1 ≤ 400; omega, hm2, fun t htn => ?_, fun t t1 t2 => ?_⟩, ?_⟩
  · have htn' : t < O.2.1 := htn
    rw [est]
    obtain ⟨g1, g2⟩ := h.2.2.2.2.1 t htn'
    obtain ⟨a0, a1, a2, a3, a4, a5, a6, a7⟩ := g2
    refine ⟨g1, ?_, ?_, ?_, ?_, ?_, ?_, fun k hk => ?_, fun j hj => ?_⟩
    · rw [p4.2.2.2.1 _ (fun u hu => by omega)]; exact a0
    · rw [p4.2.2.2.1 _ (fun u hu => by omega)]; exact a1
    · rw [p4.2.2.2.1 _ (fun u hu => by omega)]; exact a2
    · rw [p4.2.2.2.1 _ (fun u hu => by omega)]; exact a3
    · rw [p4.2.2.2.1 _ (fun u hu => by omega)]; exact a4
    · rw [p4.2.2.2.2 t htn']; rfl
    · rw [p4.1]; exact a6 k hk
    · rw [p4.2.1]; exact a7 j hj
  · have t1' : O.2.1 ≤ t := t1
    have := h.2.2.2.2.2 t t1' t2
    rw [p4.2.2.2.1 _ (fun u hu => by omega), p4.2.2.2.1 _ (fun u hu => by omega), p4.2.2.2.1 _ (fun u hu => by omega), p4.2.2.2.1 _ (fun u hu => by omega), p4.2.2.2.1 _ (fun u hu => by omega)]
    exact this
  · have hw8 : w < 8 := by
      have : 2 ^ O.2.1 ≤ 2 ^ 3 := Nat.pow_le_pow_right (by decide) (by omega)
      omega
    have loop : ∀ (fuel j : Nat), O.2.1 < j + fuel → j ≤ O.2.1 → f_L_isPassed_228 (i3 (w : Int)) L2 (passO O) fuel (1 : Int32) (i3 (j : Int)) = some 1 := by
      intro fuel
      induction fuel with
      | zero => intro j h1 h2; omega
      | succ fuel ih =>
        intro j h1 h2
        rw [f_L_isPassed_228, ck_pos z1, z0, hm2]
        by_cases c : j = O.2.1
        · subst c
          rw [if_pos (Int32.le_refl _)]
        · have hj : j < O.2.1 := by omega
          have hf := (h.sto hj).2
          obtain ⟨s1, s2, s3⟩ := sx_bit hf
          have qW : q_warns (i3 (j : Int)) (passO O) = some (i3 (sx O j).1.1) := by
            rw [qv_warns (O := passO O) hj h8, est]; rfl
          have e129 : (if ((i3 (w : Int) >>> (i3 (j : Int) &&& 31)) &&& ((1 : Int32))) = ((1 : Int32)) then some ((1 : Int32)) else some ((0 : Int32))) = some (i3 (sx O j).1.1) := by
            have q := p3 j hj
            have q2 := pb_m (p := w) (k := j) (by omega) (by omega)
            rcases s1 with s | s
            · rw [if_neg (fun x => by have := q.mp (q2.mp x); omega), s]; rfl
            · rw [if_pos (q2.mpr (q.mpr s)), s]; rfl
          rw [if_neg (by rw [i3_le (by omega) (by omega) (by omega) (by omega)]; omega), if_neg (by decide), qW, Option.bind_some, e129, Option.bind_some, if_pos rfl, Option.bind_some, nmv_eq, show i3 (j : Int) + (1 : Int32) = i3 ((j + 1 : Nat) : Int) from by rw [l3_1, i3_add]; rfl]
          exact ih (j + 1) (by omega) (by omega)
    exact loop 3000 0 (by omega) (by omega)
theorem p_isPassed {O : Ob} {L : LW} {b : Int} {d : Nat} (h : Inv O L b) (hd : d ≤ 8) (hb : b + d ≤ 400) : ∃ O2 L2, f_L_isPassed (i3 (d : Int)) O L = some (1, O2, L2) ∧ Inv O2 L2 (b + d) ∧ O2.2.1 = O.2.1 := by
  have loop : ∀ (fuel k : Nat) (O1 : Ob) (L1 : LW), d < k + fuel → k ≤ d → Inv O1 L1 (b + k) → ∃ O2 L2, f_L_isPassed_6 (i3 (d : Int)) fuel (1 : Int32) (i3 (k : Int)) O1 L1 = some (1, O2, L2) ∧ Inv O2 L2 (b + d) ∧ O2.2.1 = O1.2.1 := by
    intro fuel
    induction fuel with
    | zero => intro k O1 L1 h1 h2; omega
    | succ fuel ih =>
      intro k O1 L1 h1 h2 hI
      rw [f_L_isPassed_6]
      by_cases c : k = d
      · subst c
        exact ⟨O1, L1, by rw [if_pos (Int32.le_refl _)], hI, rfl⟩
      · obtain ⟨w, L2, dd, q1, q2, q3, q4⟩ := p_one hI (by omega)
        have ht := hI.2.2.1
        have et : q_today O1 + (1 : Int32) = i3 (O1.1 + 1) := by rw [show q_today O1 = i3 O1.1 from rfl, l3_1, i3_add]
        rw [if_neg (by rw [i3_le (by omega) (by omega) (by omega) (by omega)]; omega), if_neg (by decide), nmv_eq, et, q1, Option.bind_some]
        dsimp only
        rw [q2, Option.bind_some]
        dsimp only
        rw [if_pos rfl, if_pos (show q_today (passO O1) = i3 (O1.1 + 1) from rfl), Option.bind_some, q4, Option.bind_some, nmv_eq, show i3 (k : Int) + (1 : Int32) = i3 ((k + 1 : Nat) : Int) from by rw [l3_1, i3_add]; rfl]
        obtain ⟨O2, L3, w1, w2, w3⟩ := ih (k + 1) (passO O1) L2 (by omega) (by omega) (by rw [show b + ((k + 1 : Nat) : Int) = b + (k : Int) + 1 by omega]; exact q3)
        exact ⟨O2, L3, w1, w2, w3⟩
  obtain ⟨O2, L2, q1, q2, q3⟩ := loop 9 0 O L (by omega) (by omega) (by rw [show b + ((0 : Nat) : Int) = b by omega]; exact h)
  refine ⟨O2, L2, ?_, q2, q3⟩
  have q1' : f_L_isPassed_6 (i3 (d : Int)) 9 (1 : Int32) (0 : Int32) O L = some (1, O2, L2) := q1
  unfold f_L_isPassed
  rw [q1', Option.bind_some]
  dsimp only
  rw [ck_pos (Or.inr rfl)]
