/-! Whole numbers for the machine's words -/
def i3 (x : Int) : Int32 := Int32.ofInt x
def i6 (x : Int) : Int64 := Int64.ofInt x
theorem i3_add (x y : Int) : i3 x + i3 y = i3 (x + y) := (Int32.ofInt_add x y).symm
theorem i3_sub (x y : Int) : i3 x - i3 y = i3 (x - y) := (Int32.ofInt_sub x y).symm
theorem i3_mul (x y : Int) : i3 x * i3 y = i3 (x * y) := (Int32.ofInt_mul x y).symm
theorem i3_neg (x : Int) : -i3 x = i3 (-x) := (Int32.ofInt_neg x).symm
theorem i6_add (x y : Int) : i6 x + i6 y = i6 (x + y) := (Int64.ofInt_add x y).symm
theorem i6_sub (x y : Int) : i6 x - i6 y = i6 (x - y) := (Int64.ofInt_sub x y).symm
theorem i6_mul (x y : Int) : i6 x * i6 y = i6 (x * y) := (Int64.ofInt_mul x y).symm
theorem i3_toInt {x : Int} (h1 : -2147483648 ≤ x) (h2 : x < 2147483648) : (i3 x).toInt = x := Int32.toInt_ofInt_of_le (by omega) (by omega)
theorem i6_toInt {x : Int} (h1 : -9223372036854775808 ≤ x) (h2 : x < 9223372036854775808) : (i6 x).toInt = x := Int64.toInt_ofInt_of_le (by omega) (by omega)
theorem i3_of (v : Int32) : v = i3 v.toInt := (Int32.ofInt_toInt v).symm
theorem i3_ex (v : Int32) : ∃ x : Int, v = i3 x ∧ -2147483648 ≤ x ∧ x < 2147483648 := ⟨v.toInt, i3_of v, by have := v.le_toInt; omega, by have := v.toInt_lt; omega⟩
theorem i3_le {x y : Int} (h1 : -2147483648 ≤ x) (h2 : x < 2147483648) (h3 : -2147483648 ≤ y) (h4 : y < 2147483648) : (i3 x ≤ i3 y) = (x ≤ y) := by
  rw [Int32.le_iff_toInt_le, i3_toInt h1 h2, i3_toInt h3 h4]
theorem i3_lt {x y : Int} (h1 : -2147483648 ≤ x) (h2 : x < 2147483648) (h3 : -2147483648 ≤ y) (h4 : y < 2147483648) : (i3 x < i3 y) = (x < y) := by
  rw [Int32.lt_iff_toInt_lt, i3_toInt h1 h2, i3_toInt h3 h4]
theorem i3_eq {x y : Int} (h1 : -2147483648 ≤ x) (h2 : x < 2147483648) (h3 : -2147483648 ≤ y) (h4 : y < 2147483648) : (i3 x = i3 y) = (x = y) := by
  rw [← Int32.toInt_inj, i3_toInt h1 h2, i3_toInt h3 h4]
theorem i6_le {x y : Int} (h1 : -9223372036854775808 ≤ x) (h2 : x < 9223372036854775808) (h3 : -9223372036854775808 ≤ y) (h4 : y < 9223372036854775808) : (i6 x ≤ i6 y) = (x ≤ y) := by
  rw [Int64.le_iff_toInt_le, i6_toInt h1 h2, i6_toInt h3 h4]
theorem i6_lt {x y : Int} (h1 : -9223372036854775808 ≤ x) (h2 : x < 9223372036854775808) (h3 : -9223372036854775808 ≤ y) (h4 : y < 9223372036854775808) : (i6 x < i6 y) = (x < y) := by
  rw [Int64.lt_iff_toInt_lt, i6_toInt h1 h2, i6_toInt h3 h4]
theorem i6_eq {x y : Int} (h1 : -9223372036854775808 ≤ x) (h2 : x < 9223372036854775808) (h3 : -9223372036854775808 ≤ y) (h4 : y < 9223372036854775808) : (i6 x = i6 y) = (x = y) := by
  rw [← Int64.toInt_inj, i6_toInt h1 h2, i6_toInt h3 h4]
theorem i3_nat {x : Int} (h1 : -2147483648 ≤ x) (h2 : x < 2147483648) : (i3 x).toNatClampNeg = x.toNat := Int32.toNatClampNeg_ofInt_of_le (by omega) (by omega)
theorem i3_long {x : Int} (h1 : -2147483648 ≤ x) (h2 : x < 2147483648) : (i3 x).toInt64 = i6 x := Int64.toInt_inj.mp (by rw [Int32.toInt_toInt64, i3_toInt h1 h2, i6_toInt (by omega) (by omega)])
theorem i6_int (x : Int) : (i6 x).toInt32 = i3 x := Int64.toInt32_ofInt
theorem i3_tdiv {x y : Int} (h1 : -2147483648 ≤ x) (h2 : x < 2147483648) (h3 : -2147483648 ≤ y) (h4 : y < 2147483648) : i3 x / i3 y = i3 (x.tdiv y) :=
  (Int32.ofInt_tdiv (by rw [show Int32.minValue.toInt = -2147483648 from by decide]; exact h1) (by rw [show Int32.maxValue.toInt = 2147483647 from by decide]; omega) (by rw [show Int32.minValue.toInt = -2147483648 from by decide]; exact h3) (by rw [show Int32.maxValue.toInt = 2147483647 from by decide]; omega)).symm
theorem i6_tdiv {x y : Int} (h1 : -9223372036854775808 ≤ x) (h2 : x < 9223372036854775808) (h3 : -9223372036854775808 ≤ y) (h4 : y < 9223372036854775808) : i6 x / i6 y = i6 (x.tdiv y) :=
  (Int64.ofInt_tdiv (by rw [show Int64.minValue.toInt = -9223372036854775808 from by decide]; exact h1) (by rw [show Int64.maxValue.toInt = 9223372036854775807 from by decide]; omega) (by rw [show Int64.minValue.toInt = -9223372036854775808 from by decide]; exact h3) (by rw [show Int64.maxValue.toInt = 9223372036854775807 from by decide]; omega)).symm
theorem i3_div {x y : Int} (h1 : 0 ≤ x) (h2 : x < 2147483648) (h3 : 0 < y) (h4 : y < 2147483648) : i3 x / i3 y = i3 (x / y) := by
  rw [i3_tdiv (by omega) h2 (by omega) h4, Int.tdiv_eq_ediv_of_nonneg h1]
theorem i6_div {x y : Int} (h1 : 0 ≤ x) (h2 : x < 9223372036854775808) (h3 : 0 < y) (h4 : y < 9223372036854775808) : i6 x / i6 y = i6 (x / y) := by
  rw [i6_tdiv (by omega) h2 (by omega) h4, Int.tdiv_eq_ediv_of_nonneg h1]
theorem nI_i3 (n : Nat) : nI n = i3 n := Int32.ofInt_eq_ofNat.symm
theorem inb_i3 {x : Int} {N : Nat} (h1 : -2147483648 ≤ x) (h2 : x < 2147483648) : inb (i3 x) N = (0 ≤ x ∧ x.toNat < N) := by
  unfold inb
  rw [show (0 : Int32) = i3 0 from by decide, i3_le (by omega) (by omega) h1 h2, i3_nat h1 h2]
theorem ck_pos {β : Type} {q : Prop} [Decidable q] {x : Option β} (h : q) : ck q x = x := if_pos h
theorem inbI {x : Int} {N : Nat} (h1 : 0 ≤ x) (h2 : x < N) (h3 : x < 2147483648) : inb (i3 x) N := by
  rw [inb_i3 (by omega) h3]; omega
theorem l3_0 : (0 : Int32) = i3 0 := by decide
theorem l3_1 : (1 : Int32) = i3 1 := by decide
theorem l3_2 : (2 : Int32) = i3 2 := by decide
theorem l3_3 : (3 : Int32) = i3 3 := by decide
theorem l3_8 : (8 : Int32) = i3 8 := by decide
theorem l3_12 : (12 : Int32) = i3 12 := by decide
theorem l3_14 : (14 : Int32) = i3 14 := by decide
theorem l3_21 : (21 : Int32) = i3 21 := by decide
theorem l3_60 : (60 : Int32) = i3 60 := by decide
theorem l3_64 : (64 : Int32) = i3 64 := by decide
theorem l3_66 : (66 : Int32) = i3 66 := by decide
theorem l3_100 : (100 : Int32) = i3 100 := by decide
theorem l3_1000 : (1000 : Int32) = i3 1000 := by decide
theorem l3_2000 : (2000 : Int32) = i3 2000 := by decide
theorem l3_3000 : (3000 : Int32) = i3 3000 := by decide
theorem l3_100000 : (100000 : Int32) = i3 100000 := by decide
theorem l3_1000000 : (1000000 : Int32) = i3 1000000 := by decide
theorem l3_m1 : (-1 : Int32) = i3 (-1) := by decide
theorem l6_0 : (0 : Int64) = i6 0 := by decide
theorem l6_1 : (1 : Int64) = i6 1 := by decide
theorem l6_1000 : (1000 : Int64) = i6 1000 := by decide
theorem l6_2000000000 : (2000000000 : Int64) = i6 2000000000 := by decide
theorem xor_sign {x y : Int} (h1 : -9223372036854775808 ≤ x) (h2 : x < 9223372036854775808) (h3 : 0 < y) (h4 : y < 9223372036854775808) : (i6 0 ≤ i6 x ^^^ i6 y) = (0 ≤ x) := by
  have e1 : (i6 x).toBitVec.toInt = x := i6_toInt h1 h2
  have e2 : (i6 y).toBitVec.toInt = y := i6_toInt (by omega) h4
  have e3 : (i6 x ^^^ i6 y).toInt = ((i6 x).toBitVec ^^^ (i6 y).toBitVec).toInt := rfl
  rw [Int64.le_iff_toInt_le, i6_toInt (by omega) (by omega), e3]
  have m1 := BitVec.msb_eq_toInt (x := (i6 x).toBitVec)
  have m2 := BitVec.msb_eq_toInt (x := (i6 y).toBitVec)
  have m3 := BitVec.msb_eq_toInt (x := (i6 x).toBitVec ^^^ (i6 y).toBitVec)
  rw [BitVec.msb_xor, m1, m2, e1, e2] at m3
  have hy : decide (y < 0) = false := decide_eq_false (by omega)
  rw [hy, Bool.xor_false] at m3
  have m4 := decide_eq_decide.mp m3
  apply propext
  constructor <;> intro h <;> omega
theorem sF_1 (S : St) (k j : Nat) (v : Int32) : (sF S k v).1 j = if j = k then v else S.1 j := rfl
theorem sF_2 (S : St) (k : Nat) (v : Int32) : (sF S k v).2 = S.2 := rfl
theorem sA_1 (S : St) (j i : Nat) (v : Int32) : (sA S j i v).1 = S.1 := rfl
theorem sA_2 (S : St) (j i j2 : Nat) (v : Int32) : (sA S j i v).2 j2 = if j2 = j then upd (S.2 j) i v else S.2 j2 := rfl
theorem sA_same (S : St) (j i k : Nat) (v : Int32) : (sA S j i v).2 j k = if k = i then v else S.2 j k := by
  rw [sA_2, if_pos rfl]; rfl
theorem sA_ne (S : St) (j i j2 : Nat) (v : Int32) (h : j2 ≠ j) : (sA S j i v).2 j2 = S.2 j2 := by
  rw [sA_2, if_neg h]
theorem nmv_eq {α β : Type} (x : α) (f : α → Option β) : nmv x f = f x := rfl
