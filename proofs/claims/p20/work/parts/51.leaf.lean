/-! The law's small methods, in numbers -/
theorem p_day {td : Int} {A : AB} {L : LW} {s k : Nat} {O : Ob} (h : Sto td A L s) (hk : k < aN A) : f_L_day (i3 (s : Int)) (i3 (k : Int)) O L = some (i3 (aDy A k)) := by
  obtain ⟨b1, e1, h1, h2⟩ := h.y hk
  unfold f_L_day
  rw [ck_pos b1, e1, pk9_and h1 h2, i6_int]
theorem p_filled {td : Int} {A : AB} {L : LW} {s k : Nat} {O : Ob} (h : Sto td A L s) (hk : k < aN A) : f_L_filled (i3 (s : Int)) (i3 (k : Int)) O L = some (i6 (fil A k)) := by
  obtain ⟨b1, e1, h1, h2⟩ := h.y hk
  obtain ⟨b2, e2⟩ := h.g2
  have hm := h.2.2.1
  have hs := h.2.2.2.1
  have hd := p_day (O := O) h hk
  have loop : ∀ (fuel j : Nat), aM A < j + fuel → j ≤ aM A → f_L_filled_20 (i3 (s : Int)) (i3 (k : Int)) O L fuel (i6 (aUs A k + smc (fun j => if aCd A j ≤ aDy A k then aCf A j else 0) j)) (i3 ((20 * s + j : Nat) : Int)) = some (i6 (fil A k)) := by
    intro fuel
    induction fuel with
    | zero => intro j a b; omega
    | succ fuel ih =>
      intro j a b
      have hx := x20 s (aM A)
      rw [f_L_filled_20, ck_pos b2, e2, hx]
      by_cases c : j = aM A
      · subst c
        rw [if_pos (Int32.le_refl _)]
        rfl
      · have hj : j < aM A := by omega
        obtain ⟨b3, e3, h3, h4⟩ := h.c hj
        have n1 : ¬ i3 ((20 * s + aM A : Nat) : Int) ≤ i3 ((20 * s + j : Nat) : Int) := by
          rw [i3_le (by omega) (by omega) (by omega) (by omega)]; omega
        rw [if_neg n1, ck_pos b3, hd, Option.bind_some, e3, pk9_and h3 (by omega), i3_long (by omega) (by omega)]
        have e5 : (if 0 < lg_cmp (i6 (aCd A j)) (i6 (aDy A k)) then some ((0 : Int64)) else ck (inb (i3 ((20 * s + j : Nat) : Int)) 60) (some ((pk (aCd A j) (aCf A j)) >>> (((11 : Int32)).toInt64 &&& 63)))) = some (i6 (if aCd A j ≤ aDy A k then aCf A j else 0)) := by
          by_cases c2 : aCd A j ≤ aDy A k
          · rw [if_neg (by rw [lgt0, i6_lt (by omega) (by omega) (by omega) (by omega)]; omega), ck_pos b3, if_pos c2, pk9_shr h3 (by omega)]
          · rw [if_pos (by rw [lgt0, i6_lt (by omega) (by omega) (by omega) (by omega)]; omega), if_neg c2, l6_0]
        rw [e5, Option.bind_some, nmv_eq, nmv_eq, i6_add, l3_1, i3_add]
        have := ih (j + 1) (by omega) (by omega)
        rw [show ((20 * s + (j + 1) : Nat) : Int) = ((20 * s + j : Nat) : Int) + 1 by omega] at this
        rw [← this]
        congr 2
        show _ = aUs A k + (smc _ j + (if aCd A j ≤ aDy A k then aCf A j else 0))
        omega
  unfold f_L_filled
  rw [ck_pos b1, e1, pk9_shr h1 h2, nmv_eq, nmv_eq, x20_0]
  have := loop 3000 0 (by omega) (Nat.zero_le _)
  rw [show smc (fun j => if aCd A j ≤ aDy A k then aCf A j else 0) 0 = 0 from rfl, Int.add_zero] at this
  rw [show ((20 * s : Nat) : Int) = ((20 * s + 0 : Nat) : Int) from rfl, this, Option.bind_some]
theorem rul_lt {fr ev d i : Int} (hev : 0 < ev) (hi : 0 ≤ i) : fr + i * ev ≤ d ↔ i < rul fr ev d := by
  unfold rul
  have hm : 0 ≤ i * ev := Int.mul_nonneg hi (by omega)
  by_cases c : d < fr
  · rw [if_pos (Or.inr c)]; omega
  · rw [if_neg (by omega)]
    have := Int.le_ediv_iff_mul_le (a := i) (b := d - fr) hev
    omega
theorem p_ruled {td : Int} {A : AB} {L : LW} {s : Nat} {O : Ob} (h : Sto td A L s) {a b : Int} (ha : 0 ≤ a) (hab : a ≤ b) (hb : b ≤ 2500) : f_L_ruled (i3 (s : Int)) (i3 a) (i3 b) O L = some (i3 (rul (aFr A) (aEv A) b - rul (aFr A) (aEv A) a)) := by
  obtain ⟨b4, e4⟩ := h.g4
  obtain ⟨b3, e3⟩ := h.g3
  obtain ⟨-, hfr, hev, -⟩ := h.1
  generalize aFr A = fr at *
  generalize aEv A = ev at *
  unfold f_L_ruled
  rw [ck_pos b4, e4, nmv_eq, ck_pos b3, e3, nmv_eq]
  by_cases c0 : ev = 0
  · subst c0
    have : f_L_ruled_23 (i3 a) (i3 b) (i3 0) 3000 (0 : Int32) (i3 fr) = some (0 : Int32) := by
      rw [f_L_ruled_23]
      by_cases c : i3 b < i3 fr
      · rw [if_pos c]
      · rw [if_neg c, if_pos (by decide)]
    rw [this, Option.bind_some]
    unfold rul
    rw [if_pos (Or.inl (by omega)), if_pos (Or.inl (by omega)), l3_0]
    rfl
  · have hev0 : 0 < ev := by omega
    have hm := rul_mono (fr := fr) (ev := ev) hab
    have hr := rul_rng (fr := fr) (ev := ev) (d := b) hfr.1 (by omega)
    have hr2 := rul_rng (fr := fr) (ev := ev) (d := a) hfr.1 ha
    have loop : ∀ (fuel j : Nat), rul fr ev b < j + fuel → (j : Int) ≤ rul fr ev b → f_L_ruled_23 (i3 a) (i3 b) (i3 ev) fuel (i3 (if (j : Int) ≤ rul fr ev a then 0 else (j : Int) - rul fr ev a)) (i3 (fr + (j : Int) * ev)) = some (i3 (rul fr ev b - rul fr ev a)) := by
      intro fuel
      induction fuel with
      | zero => intro j q1 q2; omega
      | succ fuel ih =>
        intro j q1 q2
        have k1 := rul_lt (fr := fr) (d := b) hev0 (Int.natCast_nonneg j)
        have k2 := rul_lt (fr := fr) (d := a) hev0 (Int.natCast_nonneg j)
        have bnd : fr + (j : Int) * ev ≤ 6000 := by
          by_cases c9 : j = 0
          · subst c9; simp; omega
          · have k3 := (rul_lt (fr := fr) (d := b) (i := (j : Int) - 1) hev0 (by omega)).mpr (by omega)
            rw [Int.sub_mul, Int.one_mul] at k3
            omega
        have m0 : 0 ≤ (j : Int) * ev := Int.mul_nonneg (by omega) (by omega)
        have e9 : ((j + 1 : Nat) : Int) * ev = (j : Int) * ev + ev := by rw [Int.natCast_add, Int.add_mul]; omega
        rw [f_L_ruled_23]
        generalize hmm : (j : Int) * ev = m at *
        by_cases c : b < fr + m
        · rw [if_pos (by rw [i3_lt (by omega) (by omega) (by omega) (by omega)]; exact c)]
          have : (j : Int) = rul fr ev b := by omega
          congr 2
          split <;> omega
        · rw [if_neg (by rw [i3_lt (by omega) (by omega) (by omega) (by omega)]; exact c), if_neg (by rw [l3_0, i3_le (by omega) (by omega) (by omega) (by omega)]; omega)]
          have e5 : (if i3 (fr + m) ≤ i3 a then some ((0 : Int32)) else some ((1 : Int32))) = some (i3 (if fr + m ≤ a then 0 else 1)) := by
            by_cases c2 : fr + m ≤ a
            · rw [if_pos (by rw [i3_le (by omega) (by omega) (by omega) (by omega)]; exact c2), if_pos c2, l3_0]
            · rw [if_neg (by rw [i3_le (by omega) (by omega) (by omega) (by omega)]; exact c2), if_neg c2, l3_1]
          rw [e5, Option.bind_some, nmv_eq, nmv_eq, i3_add, i3_add]
          have := ih (j + 1) (by omega) (by omega)
          rw [e9] at this
          rw [← this]
          congr 2
          · repeat' split
            all_goals omega
          · omega
    have := loop 3000 0 (by omega) (by omega)
    rw [show ((0 : Nat) : Int) = 0 from rfl, if_pos (by omega), Int.zero_mul, Int.add_zero, ← l3_0] at this
    rw [this, Option.bind_some]
