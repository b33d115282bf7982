/-! Bits of the law's cells, numbers, places in its arrays -/
theorem u_tn {n : Nat} (h : n < 2 ^ 64) : (UInt64.ofNat n).toNat = n := Nat.mod_eq_of_lt h
theorem pf_lI {a : Nat} (h : a < 2 ^ 63) : (lN a).toInt = (a : Int) := lg_ofNat_toInt h
theorem g_and {a b c : Nat} (ha : a < 2 ^ 64) (hb : b < 2 ^ 64) (hc : a &&& b = c) : lN a &&& lN b = lN c := by
  subst hc
  have h : UInt64.ofNat a &&& UInt64.ofNat b = UInt64.ofNat (a &&& b) := UInt64.toNat_inj.mp (by rw [UInt64.toNat_and, u_tn ha, u_tn hb, u_tn (Nat.and_lt_two_pow a hb)])
  have h2 := congrArg UInt64.toInt64 h
  exact h2
theorem g_mask {a s p : Nat} (hp : 2 ^ s = p) (hs : s < 64) (ha : a < 2 ^ 64) : lN a &&& lN (p - 1) = lN (a % p) := by
  subst hp
  have := Nat.pow_lt_pow_right (show 1 < 2 by decide) hs
  exact g_and ha (by omega) (Nat.and_two_pow_sub_one_eq_mod a s)
theorem g_or {k p a b : Nat} (hp : 2 ^ k = p) (ha : a < p) (h : b * p + a < 2 ^ 64) : lN (b * p) ||| lN a = lN (b * p + a) := by
  subst hp
  have h1 : b * 2 ^ k ||| a = b * 2 ^ k + a := by rw [← Nat.shiftLeft_eq, Nat.shiftLeft_add_eq_or_of_lt ha]
  have h3 : UInt64.ofNat (b * 2 ^ k) ||| UInt64.ofNat a = UInt64.ofNat (b * 2 ^ k + a) := UInt64.toNat_inj.mp (by rw [UInt64.toNat_or, u_tn (by omega), u_tn (by omega), u_tn h, h1])
  have h2 := congrArg UInt64.toInt64 h3
  exact h2
theorem g_or' {k p a b : Nat} (hp : 2 ^ k = p) (ha : a < p) (h : a + b * p < 2 ^ 64) : lN a ||| lN (b * p) = lN (a + b * p) := by
  rw [Int64.or_comm, g_or hp ha (by omega), Nat.add_comm]
theorem g_shl {a k p : Nat} {y : Int64} (hy : y.toBitVec.smod 64 = BitVec.ofNat 64 k) (hk : k < 64) (hp : 2 ^ k = p) (ha : a < 2 ^ 64) : lN a <<< y = lN (a * p) := by
  subst hp
  apply Int64.toBitVec_inj.mp
  rw [Int64.toBitVec_shiftLeft, hy]
  apply BitVec.eq_of_toNat_eq
  have hb : (lN a).toBitVec.toNat = a := Nat.mod_eq_of_lt ha
  have hk' : (BitVec.ofNat 64 k).toNat = k := Nat.mod_eq_of_lt (by omega)
  have h : ((lN a).toBitVec <<< BitVec.ofNat 64 k).toNat = (a * 2 ^ k) % 2 ^ 64 := by simp only [BitVec.shiftLeft_eq', BitVec.toNat_shiftLeft, hb, hk', Nat.shiftLeft_eq]
  exact h
theorem pf_shr {a d : Nat} {D : Int64} (hD : (D.toBitVec.smod 64).toNat = d) (h : a < 2 ^ 62) : lN a >>> D = lN (a / 2 ^ d) := by
  have hd : a / 2 ^ d ≤ a := Nat.div_le_self _ _
  apply Int64.toInt_inj.mp
  have e : (lN a >>> D).toInt = (lN a).toInt >>> d := by
    rw [← hD]
    exact BitVec.toInt_sshiftRight ..
  rw [e, Int.shiftRight_eq_div_pow, pf_lI (by omega), pf_lI (by omega)]
  rfl
theorem i6_lN (n : Nat) : i6 (n : Int) = lN n := Int64.ofInt_eq_ofNat
/-- a day and a room in one cell -/
def pk (d u : Int) : Int64 := i6 (d + 2048 * u)
theorem pk9_lN {d u : Int} (hd : 0 ≤ d ∧ d < 2048) (hu : 0 ≤ u ∧ u ≤ 1000000) : pk d u = lN (d.toNat + u.toNat * 2048) := by
  unfold pk
  rw [← i6_lN]
  congr 1
  omega
theorem pk9_and {d u : Int} (hd : 0 ≤ d ∧ d < 2048) (hu : 0 ≤ u ∧ u ≤ 1000000) : pk d u &&& (2047 : Int64) = i6 d := by
  rw [pk9_lN hd hu, show (2047 : Int64) = lN (2048 - 1) from by decide, g_mask (s := 11) (by decide) (by decide) (by omega), ← i6_lN]
  congr 1
  omega
theorem pk9_shr {d u : Int} (hd : 0 ≤ d ∧ d < 2048) (hu : 0 ≤ u ∧ u ≤ 1000000) : pk d u >>> ((11 : Int32).toInt64 &&& 63) = i6 u := by
  rw [pk9_lN hd hu, pf_shr (d := 11) (by decide) (by omega), ← i6_lN]
  congr 1
  omega
theorem pk9_or {d u : Int} (hd : 0 ≤ d ∧ d < 2048) (hu : 0 ≤ u ∧ u ≤ 1000000) : i6 d ||| (i6 u <<< ((11 : Int32).toInt64 &&& 63)) = pk d u := by
  rw [pk9_lN hd hu, show i6 d = lN d.toNat from by rw [← i6_lN]; congr 1; omega, show i6 u = lN u.toNat from by rw [← i6_lN]; congr 1; omega, g_shl (k := 11) (p := 2048) (by decide) (by decide) (by decide) (by omega), g_or' (k := 11) (by decide) (by omega) (by omega)]
theorem i3_rem {x y : Int} (h1 : 0 ≤ x) (h2 : x < 2147483648) (h3 : 0 < y) (h4 : y < 2147483648) : i3 x - i3 x / i3 y * i3 y = i3 (x % y) := by
  rw [i3_div h1 h2 h3 h4, i3_mul, i3_sub, Int.emod_def, Int.mul_comm y]
theorem i3_neg_nat (v : Int32) (h : 0 ≤ v) : ∃ x : Int, v = i3 x ∧ 0 ≤ x ∧ x < 2147483648 := by
  obtain ⟨x, rfl, h1, h2⟩ := i3_ex v
  rw [l3_0, i3_le (by omega) (by omega) (by omega) (by omega)] at h
  exact ⟨x, rfl, h, h2⟩
theorem lgt0 (x y : Int64) : ((0 : Int32) < lg_cmp x y) = (y < x) := propext (lg_cmp_gt x y)
theorem lle0 (x y : Int64) : (lg_cmp x y ≤ (0 : Int32)) = (x ≤ y) := propext (lg_cmp_le x y)
theorem lge0 (x y : Int64) : ((0 : Int32) ≤ lg_cmp x y) = (y ≤ x) := propext (lg_cmp_ge x y)
theorem llt0 (x y : Int64) : (lg_cmp x y < (0 : Int32)) = (x < y) := propext (lg_cmp_lt x y)
theorem leq0 (x y : Int64) : (lg_cmp x y = (0 : Int32)) = (x = y) := propext (lg_cmp_eq x y)
theorem l3_4 : (4 : Int32) = i3 4 := by decide
theorem l3_5 : (5 : Int32) = i3 5 := by decide
theorem l3_6 : (6 : Int32) = i3 6 := by decide
theorem l3_7 : (7 : Int32) = i3 7 := by decide
theorem l3_9 : (9 : Int32) = i3 9 := by decide
theorem l3_11 : (11 : Int32) = i3 11 := by decide
theorem l3_17 : (17 : Int32) = i3 17 := by decide
theorem l3_20 : (20 : Int32) = i3 20 := by decide
theorem l3_29 : (29 : Int32) = i3 29 := by decide
theorem l3_30 : (30 : Int32) = i3 30 := by decide
theorem l3_99 : (99 : Int32) = i3 99 := by decide
theorem l3_101 : (101 : Int32) = i3 101 := by decide
theorem l3_173 : (173 : Int32) = i3 173 := by decide
theorem l3_200 : (200 : Int32) = i3 200 := by decide
theorem l3_500 : (500 : Int32) = i3 500 := by decide
theorem l3_1001 : (1001 : Int32) = i3 1001 := by decide
theorem l3_1901 : (1901 : Int32) = i3 1901 := by decide
theorem l3_3001 : (3001 : Int32) = i3 3001 := by decide
theorem l3_100001 : (100001 : Int32) = i3 100001 := by decide
theorem l3_1000001 : (1000001 : Int32) = i3 1000001 := by decide
theorem l3_m7 : (-7 : Int32) = i3 (-7) := by decide
theorem l3_m971 : (-971 : Int32) = i3 (-971) := by decide
theorem l3_m972 : (-972 : Int32) = i3 (-972) := by decide
theorem l3_m973 : (-973 : Int32) = i3 (-973) := by decide
theorem x8 {s k : Nat} (hs : s < 3) (hk : k < 8) : inb (i3 8 * i3 (s : Int) + i3 (k : Int)) 24 ∧ (i3 8 * i3 (s : Int) + i3 (k : Int)).toNatClampNeg = 8 * s + k := by
  rw [i3_mul, i3_add, show (8 * (s : Int) + (k : Int)) = ((8 * s + k : Nat) : Int) by omega]
  exact ⟨inbN (by omega) (by omega), i3_nn (by omega)⟩
theorem x8_0 {s : Nat} (hs : s < 3) : inb ((8 : Int32) * i3 (s : Int)) 24 ∧ ((8 : Int32) * i3 (s : Int)).toNatClampNeg = 8 * s := by
  rw [l3_8, i3_mul, show (8 * (s : Int)) = ((8 * s : Nat) : Int) by omega]
  exact ⟨inbN (by omega) (by omega), i3_nn (by omega)⟩
theorem x8_1 {s : Nat} (hs : s < 3) : inb ((8 : Int32) * i3 (s : Int) + (1 : Int32)) 24 ∧ ((8 : Int32) * i3 (s : Int) + (1 : Int32)).toNatClampNeg = 8 * s + 1 := by
  rw [l3_8, l3_1]; exact x8 (k := 1) hs (by decide)
theorem x8_2 {s : Nat} (hs : s < 3) : inb ((8 : Int32) * i3 (s : Int) + (2 : Int32)) 24 ∧ ((8 : Int32) * i3 (s : Int) + (2 : Int32)).toNatClampNeg = 8 * s + 2 := by
  rw [l3_8, l3_2]; exact x8 (k := 2) hs (by decide)
theorem x8_3 {s : Nat} (hs : s < 3) : inb ((8 : Int32) * i3 (s : Int) + (3 : Int32)) 24 ∧ ((8 : Int32) * i3 (s : Int) + (3 : Int32)).toNatClampNeg = 8 * s + 3 := by
  rw [l3_8, l3_3]; exact x8 (k := 3) hs (by decide)
theorem x8_4 {s : Nat} (hs : s < 3) : inb ((8 : Int32) * i3 (s : Int) + (4 : Int32)) 24 ∧ ((8 : Int32) * i3 (s : Int) + (4 : Int32)).toNatClampNeg = 8 * s + 4 := by
  rw [l3_8, l3_4]; exact x8 (k := 4) hs (by decide)
theorem x8_5 {s : Nat} (hs : s < 3) : inb ((8 : Int32) * i3 (s : Int) + (5 : Int32)) 24 ∧ ((8 : Int32) * i3 (s : Int) + (5 : Int32)).toNatClampNeg = 8 * s + 5 := by
  rw [l3_8, l3_5]; exact x8 (k := 5) hs (by decide)
theorem x12 {s k : Nat} (hs : s < 3) (hk : k < 12) : inb ((12 : Int32) * i3 (s : Int) + i3 (k : Int)) 36 ∧ ((12 : Int32) * i3 (s : Int) + i3 (k : Int)).toNatClampNeg = 12 * s + k := by
  rw [l3_12, i3_mul, i3_add, show (12 * (s : Int) + (k : Int)) = ((12 * s + k : Nat) : Int) by omega]
  exact ⟨inbN (by omega) (by omega), i3_nn (by omega)⟩
theorem x20 (s j : Nat) : (20 : Int32) * i3 (s : Int) + i3 (j : Int) = i3 ((20 * s + j : Nat) : Int) := by
  rw [l3_20, i3_mul, i3_add, show (20 * (s : Int) + (j : Int)) = ((20 * s + j : Nat) : Int) by omega]
theorem x20_0 (s : Nat) : (20 : Int32) * i3 (s : Int) = i3 ((20 * s : Nat) : Int) := by
  rw [l3_20, i3_mul, show (20 * (s : Int)) = ((20 * s : Nat) : Int) by omega]
theorem z1 : inb (0 : Int32) 1 := by decide
theorem z0 : (0 : Int32).toNatClampNeg = 0 := by decide
/-- the law's arrays show the store -/
def ShS (A : AB) (L : LW) (s : Nat) : Prop := L.2.2.1 (8 * s) = i3 (aSz A) ∧ L.2.2.1 (8 * s + 1) = i3 (aN A) ∧ L.2.2.1 (8 * s + 2) = i3 (aM A) ∧ L.2.2.1 (8 * s + 3) = i3 (aFr A) ∧ L.2.2.1 (8 * s + 4) = i3 (aEv A) ∧ L.2.2.1 (8 * s + 5) = i3 (aNe A) ∧ (∀ k, k < aN A → L.1 (12 * s + k) = pk (aDy A k) (aUs A k)) ∧ ∀ j, j < aM A → L.2.1 (20 * s + j) = pk (aCd A j) (aCf A j)
def Sto (td : Int) (A : AB) (L : LW) (s : Nat) : Prop := Val td A ∧ (0 ≤ td ∧ td ≤ 400) ∧ aM A ≤ 20 ∧ s < 3 ∧ ShS A L s
section STO
variable {td : Int} {A : AB} {L : LW} {s : Nat} (h : Sto td A L s)
theorem Sto.g0 (h : Sto td A L s) : inb ((8 : Int32) * i3 (s : Int)) 24 ∧ L.2.2.1 ((8 : Int32) * i3 (s : Int)).toNatClampNeg = i3 (aSz A) := by
  obtain ⟨a, b⟩ := x8_0 h.2.2.2.1
  exact ⟨a, by rw [b]; exact h.2.2.2.2.1⟩
theorem Sto.g1 (h : Sto td A L s) : inb ((8 : Int32) * i3 (s : Int) + (1 : Int32)) 24 ∧ L.2.2.1 ((8 : Int32) * i3 (s : Int) + (1 : Int32)).toNatClampNeg = i3 (aN A) := by
  obtain ⟨a, b⟩ := x8_1 h.2.2.2.1
  exact ⟨a, by rw [b]; exact h.2.2.2.2.2.1⟩
theorem Sto.g2 (h : Sto td A L s) : inb ((8 : Int32) * i3 (s : Int) + (2 : Int32)) 24 ∧ L.2.2.1 ((8 : Int32) * i3 (s : Int) + (2 : Int32)).toNatClampNeg = i3 (aM A) := by
  obtain ⟨a, b⟩ := x8_2 h.2.2.2.1
  exact ⟨a, by rw [b]; exact h.2.2.2.2.2.2.1⟩
theorem Sto.g3 (h : Sto td A L s) : inb ((8 : Int32) * i3 (s : Int) + (3 : Int32)) 24 ∧ L.2.2.1 ((8 : Int32) * i3 (s : Int) + (3 : Int32)).toNatClampNeg = i3 (aFr A) := by
  obtain ⟨a, b⟩ := x8_3 h.2.2.2.1
  exact ⟨a, by rw [b]; exact h.2.2.2.2.2.2.2.1⟩
theorem Sto.g4 (h : Sto td A L s) : inb ((8 : Int32) * i3 (s : Int) + (4 : Int32)) 24 ∧ L.2.2.1 ((8 : Int32) * i3 (s : Int) + (4 : Int32)).toNatClampNeg = i3 (aEv A) := by
  obtain ⟨a, b⟩ := x8_4 h.2.2.2.1
  exact ⟨a, by rw [b]; exact h.2.2.2.2.2.2.2.2.1⟩
theorem Sto.g5 (h : Sto td A L s) : inb ((8 : Int32) * i3 (s : Int) + (5 : Int32)) 24 ∧ L.2.2.1 ((8 : Int32) * i3 (s : Int) + (5 : Int32)).toNatClampNeg = i3 (aNe A) := by
  obtain ⟨a, b⟩ := x8_5 h.2.2.2.1
  exact ⟨a, by rw [b]; exact h.2.2.2.2.2.2.2.2.2.1⟩
theorem Sto.y (h : Sto td A L s) {k : Nat} (hk : k < aN A) : inb ((12 : Int32) * i3 (s : Int) + i3 (k : Int)) 36 ∧ L.1 ((12 : Int32) * i3 (s : Int) + i3 (k : Int)).toNatClampNeg = pk (aDy A k) (aUs A k) ∧ (0 ≤ aDy A k ∧ aDy A k < 2048) ∧ (0 ≤ aUs A k ∧ aUs A k ≤ 1000000) := by
  obtain ⟨a, b⟩ := x12 (k := k) h.2.2.2.1 (by have := h.1.2.2.2.1; omega)
  have := h.1.2.2.2.2.1 k hk
  exact ⟨a, by rw [b]; exact h.2.2.2.2.2.2.2.2.2.2.1 k hk, by have := h.2.1; omega, by omega⟩
theorem Sto.c (h : Sto td A L s) {j : Nat} (hj : j < aM A) : inb (i3 ((20 * s + j : Nat) : Int)) 60 ∧ L.2.1 (i3 ((20 * s + j : Nat) : Int)).toNatClampNeg = pk (aCd A j) (aCf A j) ∧ (0 ≤ aCd A j ∧ aCd A j < 2048) ∧ (1 ≤ aCf A j ∧ aCf A j ≤ 100000) := by
  have h1 := h.2.2.1
  have h2 := h.2.2.2.1
  have := h.1.2.2.2.2.2.2.2.1 j hj
  refine ⟨inbN (by omega) (by omega), ?_, by have := h.2.1; omega, by omega⟩
  rw [i3_nn (by omega)]
  exact h.2.2.2.2.2.2.2.2.2.2.2 j hj
end STO
