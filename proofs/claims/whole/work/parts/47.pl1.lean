/-! Every call keeps the relation and answers alike: a pool -/
theorem lsh {p : Int} {n : Nat} (h1 : -2147483648 ≤ p) (h2 : p < 2147483648) (hn : n ≤ 8) : (((i3 p).toUInt32 >>> ((i3 (n : Int)).toUInt32 &&& Int32.toUInt32 31)).toInt32 = 0) ↔ (0 ≤ p ∧ p < ((2 ^ n : Nat) : Int)) := by
  have hk : ((i3 (n : Int)).toUInt32 &&& Int32.toUInt32 31).toNat % 32 = n := by
    have : ∀ m, m < 9 → ((i3 (m : Nat)).toUInt32 &&& Int32.toUInt32 31).toNat % 32 = m := by decide +kernel
    exact this n (by omega)
  have hu : ((i3 p).toUInt32 >>> ((i3 (n : Int)).toUInt32 &&& Int32.toUInt32 31)).toNat = (i3 p).toUInt32.toNat / 2 ^ n := by
    rw [UInt32.toNat_shiftRight, hk, Nat.shiftRight_eq_div_pow]
  have hx : (i3 p).toBitVec.toInt = p := i3_toInt h1 h2
  rw [BitVec.toInt_eq_toNat_cond] at hx
  have hw : (i3 p).toUInt32.toNat = (i3 p).toBitVec.toNat := rfl
  rw [hw] at hu
  have hl := (i3 p).toBitVec.isLt
  generalize (i3 p).toUInt32 >>> ((i3 (n : Int)).toUInt32 &&& Int32.toUInt32 31) = U at *
  generalize (i3 p).toBitVec.toNat = x at *
  have hpos : 0 < 2 ^ n := Nat.pow_pos (by decide)
  have hle : 2 ^ n ≤ 2 ^ 8 := Nat.pow_le_pow_right (by decide) hn
  have hz : U.toInt32 = 0 ↔ x < 2 ^ n := by
    constructor
    · intro h
      have h0 : U = 0 := congrArg Int32.toUInt32 h
      have h3 : U.toNat = 0 := by rw [h0]; rfl
      rw [hu] at h3
      have := (Nat.div_eq_zero_iff).mp h3
      omega
    · intro h
      have h3 : U.toNat = (0 : UInt32).toNat := by rw [hu, Nat.div_eq_of_lt h]; rfl
      have h0 : U = 0 := UInt32.toNat_inj.mp h3
      rw [h0]; rfl
  rw [hz]
  generalize 2 ^ n = N at *
  have e8 : (2 : Nat) ^ 8 = 256 := rfl
  rw [e8] at hle
  split at hx <;> omega
theorem ash {p : Int} {n : Nat} (h1 : 0 ≤ p) (h2 : p < 2147483648) (hn : n ≤ 8) : (i3 p >>> (i3 (n : Int) &&& 31) = 0) ↔ p < ((2 ^ n : Nat) : Int) := by
  have hb : ((i3 (n : Int) &&& 31).toBitVec.smod 32).toNat = n := by
    have : ∀ m, m < 9 → ((i3 (m : Nat) &&& 31).toBitVec.smod 32).toNat = m := by decide +kernel
    exact this n (by omega)
  have e1 : (i3 p >>> (i3 (n : Int) &&& 31)).toInt = p / ((2 ^ n : Nat) : Int) := by
    have a : (i3 p >>> (i3 (n : Int) &&& 31)).toInt = ((i3 p).toBitVec.sshiftRight' ((i3 (n : Int) &&& 31).toBitVec.smod 32)).toInt := rfl
    have b : (i3 p).toBitVec.toInt = p := i3_toInt (by omega) h2
    rw [a, BitVec.toInt_sshiftRight', hb, b, Int.shiftRight_eq_div_pow]
  have hpos : 0 < 2 ^ n := Nat.pow_pos (by decide)
  have e2 : (i3 p >>> (i3 (n : Int) &&& 31) = 0) ↔ p / ((2 ^ n : Nat) : Int) = 0 := by
    rw [← Int32.toInt_inj, e1]; rfl
  rw [e2]
  constructor
  · intro h
    have := Int.lt_ediv_add_one_mul_self p (show (0 : Int) < ((2 ^ n : Nat) : Int) by omega)
    rw [h] at this
    omega
  · intro h
    exact Int.ediv_eq_zero_of_lt h1 h
def pb (p k : Nat) : Bool := p / 2 ^ k % 2 == 1
theorem pb_c : ∀ p, p < 256 → ∀ k, k < 8 → f_X7_isInPool (i3 (p : Nat)) (i3 (k : Nat)) = some (i3 (if pb p k = true then 1 else 0)) := by decide +kernel
theorem pb_m0 : ∀ p, p < 256 → ∀ k, k < 8 → decide (((i3 (p : Nat) >>> (i3 (k : Nat) &&& 31)) &&& (1 : Int32)) = 1) = pb p k := by decide +kernel
theorem pb_m {p k : Nat} (hp : p < 256) (hk : k < 8) : (((i3 (p : Int) >>> (i3 (k : Int) &&& 31)) &&& (1 : Int32)) = 1) ↔ pb p k = true := by
  rw [← pb_m0 p hp k hk, decide_eq_true_iff]
def okb (p : Nat) (as : Nat → AB) : Nat → Bool
  | 0 => true
  | i + 1 => okb p as i && (!pb p i || decide (2 ≤ aN (as i)))
theorem okb_at {p : Nat} {as : Nat → AB} : ∀ {n i : Nat}, okb p as n = true → i < n → pb p i = true → 2 ≤ aN (as i)
  | 0, _, _, h, _ => absurd h (Nat.not_lt_zero _)
  | n + 1, i, h, hi, hb => by
    unfold okb at h
    rw [Bool.and_eq_true] at h
    by_cases c : i = n
    · subst c
      have h2 := h.2
      rw [hb] at h2
      simpa using h2
    · exact okb_at h.1 (by omega) hb
theorem okb_out {p i : Nat} {as : Nat → AB} (h : ¬ pb p i = true) : okb p as (i + 1) = okb p as i := by
  show (okb p as i && (!pb p i || decide (2 ≤ aN (as i)))) = _
  rw [Bool.not_eq_true] at h
  rw [h]; simp
theorem okb_in {p i : Nat} {as : Nat → AB} (h : pb p i = true) : okb p as (i + 1) = (okb p as i && decide (2 ≤ aN (as i))) := by
  show (okb p as i && (!pb p i || decide (2 ≤ aN (as i)))) = _
  rw [h]; simp
def szP (p : Nat) (as : Nat → AB) (n : Nat) : Int := smc (fun t => if pb p t = true then aSz (as t) else 0) n
def foP (p : Nat) (as : Nat → AB) (xs : Nat → Int × Int) (us : Nat → Int) (n : Nat) (d : Int) : Int := smc (fun t => if pb p t = true then fcA (as t) (xs t) (us t) (-1) d else 0) n
def Drw (A : AB) (S : St) : Prop := ∃ x : Int × Int, S.1 8 = i3 (aDy A (lastp (aN A) (-1))) ∧ S.1 9 = i3 (aUs A (lastp (aN A) (-1))) ∧ S.1 10 = i3 x.1 ∧ S.1 11 = i3 x.2 ∧ Mid (sl A (-1)) x
theorem c_drawPool {p : Nat} (hp : p < 256) {as : Nat → AB} {td : Int} {ns : Nat} (hns : ns ≤ 8) (hv : ∀ t, t < ns → Val td (as t)) : ∀ (fuel i : Nat) (T : TS), ns < i + fuel → i ≤ ns → T.2.1 = ns → (∀ t, t < ns → Cl (as t) (T.2.2 t)) → (∀ t, t < i → pb p t = true → 2 ≤ aN (as t) → Drw (as t) (T.2.2 t)) → ∃ T2, f_X7_drawPool_4 (i3 (p : Int)) fuel (i3 (if okb p as i = true then 1 else 0)) (i3 (i : Int)) T = some (i3 (if okb p as ns = true then 1 else 0), T2) ∧ T2.1 = T.1 ∧ T2.2.1 = ns ∧ (∀ t, t < ns → Cl (as t) (T2.2.2 t)) ∧ ∀ t, t < ns → pb p t = true → 2 ≤ aN (as t) → Drw (as t) (T2.2.2 t) := by
  intro fuel
  induction fuel with
  | zero => intro i T h1 h2; omega
  | succ fuel ih =>
    intro i T h1 h2 h3 h4 h5
    unfold f_X7_drawPool_4
    by_cases c : ns ≤ i
    · have : i = ns := by omega
      subst this
      rw [if_pos (by rw [h3, nI_i3, i3_le (by omega) (by omega) (by omega) (by omega)]; omega)]
      exact ⟨T, rfl, rfl, h3, h4, h5⟩
    · have hi : i < ns := by omega
      have ei : (i3 (i : Int)).toNatClampNeg = i := i3_nn (by omega)
      have hin : inS T (i3 (i : Int)) := inS_of (by rw [h3]; exact hi) (by rw [h3]; exact hns)
      have hstep : i3 (i : Int) + 1 = i3 ((i + 1 : Nat) : Int) := by rw [l3_1, i3_add]; rfl
      rw [if_neg (by rw [h3, nI_i3, i3_le (by omega) (by omega) (by omega) (by omega)]; omega), pb_c p hp i (by omega), Option.bind_some]
      by_cases hb : pb p i = true
      · have hn := (hv i hi).2.2.2.1
        have hh := cl_hasSlope (h4 i hi) hn
        rw [if_pos hb, if_neg (by decide)]
        have ef : (if i3 (if okb p as i = true then 1 else 0) = (0 : Int32) then some ((0 : Int32)) else ck (inS T (i3 (i : Int))) ((f_X5_hasSlope (T.2.2 (i3 (i : Int)).toNatClampNeg)).bind (fun (r23 : Int32) => if r23 = 0 then some ((0 : Int32)) else some ((1 : Int32))))) = some (i3 (if okb p as (i + 1) = true then 1 else 0)) := by
          rw [okb_in hb]
          cases ho : okb p as i
          · rw [if_pos (show i3 (if false = true then 1 else 0) = (0 : Int32) from l3_0.symm), Bool.false_and, if_neg (by decide), l3_0]
          · rw [if_pos rfl, if_neg (by decide), ck_pos hin, ei, hh, Option.bind_some, Bool.true_and]
            by_cases c2 : 2 ≤ aN (as i)
            · rw [if_neg (show ¬ aN (as i) < 2 by omega), if_neg (by decide), decide_eq_true c2, if_pos rfl, l3_1]
            · rw [if_pos (show aN (as i) < 2 by omega), if_pos l3_0.symm, decide_eq_false c2, if_neg (by decide), l3_0]
        rw [ef, Option.bind_some, ck_pos hin, ei, l3_m1]
        have hd : ∃ S2, f_X5_drawLineWithout (i3 (-1)) (T.2.2 i) = some S2 ∧ FrS (T.2.2 i) S2 ∧ (2 ≤ aN (as i) → Drw (as i) S2) := by
          by_cases c2 : 2 ≤ aN (as i)
          · obtain ⟨x, S2, e1, e2, e3⟩ := cl_draw (hv i hi) (h4 i hi) (o := -1) (Or.inl ⟨rfl, c2⟩)
            exact ⟨S2, e1, e2, fun _ => ⟨x, e3⟩⟩
          · obtain ⟨S2, e1, e2⟩ := cl_draw0 (h4 i hi) (show aN (as i) < 2 by omega)
            exact ⟨S2, e1, e2, fun q => absurd q c2⟩
        obtain ⟨S2, e1, e2, e3⟩ := hd
        rw [e1, Option.bind_some, nmv_eq, Option.bind_some]
        dsimp only
        rw [nmv_eq, hstep]
        obtain ⟨T2, p1, p2, p3, p4⟩ := ih (i + 1) (setT T i S2) (by omega) (by omega) h3 (fun t q => by
          rw [setT_at]
          by_cases ct : t = i
          · subst ct; rw [if_pos rfl]; exact (h4 t q).fr e2
          · rw [if_neg ct]; exact h4 t q) (fun t q1 q2 q3 => by
          rw [setT_at]
          by_cases ct : t = i
          · subst ct; rw [if_pos rfl]; exact e3 q3
          · rw [if_neg ct]; exact h5 t (by omega) q2 q3)
        exact ⟨T2, p1, p2, p3, p4⟩
      · rw [if_neg hb, if_pos l3_0.symm, Option.bind_some]
        dsimp only
        rw [nmv_eq, hstep, ← okb_out hb]
        exact ih (i + 1) T (by omega) (by omega) h3 h4 (fun t q1 q2 q3 => by
          by_cases ct : t = i
          · subst ct; exact absurd q2 hb
          · exact h5 t (by omega) q2 q3)
theorem c_poolSize {p : Nat} (hp : p < 256) {as : Nat → AB} {td : Int} {ns : Nat} {T : TS} (hns : ns ≤ 8) (hv : ∀ t, t < ns → Val td (as t)) (h3 : T.2.1 = ns) (h4 : ∀ t, t < ns → Cl (as t) (T.2.2 t)) : ∀ (fuel i : Nat), ns < i + fuel → i ≤ ns → f_X7_poolSize_5 (i3 (p : Int)) T fuel (i6 (szP p as i)) (i3 (i : Int)) = some (i6 (szP p as ns)) := by
  intro fuel
  induction fuel with
  | zero => intro i h1 h2; omega
  | succ fuel ih =>
    intro i h1 h2
    unfold f_X7_poolSize_5
    by_cases c : ns ≤ i
    · have : i = ns := by omega
      subst this
      rw [if_pos (by rw [h3, nI_i3, i3_le (by omega) (by omega) (by omega) (by omega)]; omega)]
    · have hi : i < ns := by omega
      have ei : (i3 (i : Int)).toNatClampNeg = i := i3_nn (by omega)
      have hin : inS T (i3 (i : Int)) := inS_of (by rw [h3]; exact hi) (by rw [h3]; exact hns)
      have hstep : i3 (i : Int) + 1 = i3 ((i + 1 : Nat) : Int) := by rw [l3_1, i3_add]; rfl
      have hz := (hv i hi).1
      have es : szP p as (i + 1) = szP p as i + (if pb p i = true then aSz (as i) else 0) := rfl
      rw [if_neg (by rw [h3, nI_i3, i3_le (by omega) (by omega) (by omega) (by omega)]; omega), pb_c p hp i (by omega), Option.bind_some]
      by_cases hb : pb p i = true
      · rw [if_pos hb] at es
        rw [if_pos hb, if_neg (by decide), ck_pos hin, ei, (h4 i hi).1.1, i3_long (by omega) (by omega), i6_add, ← es, nmv_eq, Option.bind_some, nmv_eq, hstep]
        exact ih (i + 1) (by omega) (by omega)
      · rw [if_neg hb, Int.add_zero] at es
        rw [if_neg hb, if_pos l3_0.symm, Option.bind_some, nmv_eq, hstep, ← es]
        exact ih (i + 1) (by omega) (by omega)
theorem fc_eq {A : AB} {td : Int} {x y : Int × Int} {u w : Int} (hv : Val td A) (ht : td ≤ 2000) (hx : Mid (sl A (-1)) x) (hy : Mid (sl A (-1)) y) (hu : IsUs A u) (hw : IsUs A w) (d : Int) : fcA A x u (-1) d = fcA A y w (-1) d := by
  have := IsUs_uniq hu hw
  subst this
  have bx := sl_bd hv ht x hx.1
  have byy := sl_bd hv ht y hy.1
  exact fcv_frac bx.2.2.1 byy.2.2.1 (Mid_uniq (fun z hz => (sl_mem hv hz).1) hx hy) d
theorem fcA_rng {A : AB} {x : Int × Int} {u o d : Int} : 0 ≤ fcA A x u o d ∧ fcA A x u o d ≤ 2000000000 := clp_rng _
def Chs (as : Nat → AB) (xs : Nat → Int × Int) (us : Nat → Int) (ns : Nat) : Prop := ∀ t, t < ns → IsUs (as t) (us t) ∧ (2 ≤ aN (as t) → Mid (sl (as t) (-1)) (xs t))
theorem c_poolRoom {p : Nat} (hp : p < 256) {as : Nat → AB} {xs : Nat → Int × Int} {us : Nat → Int} {td d : Int} {ns : Nat} {T : TS} (hns : ns ≤ 8) (ht : 0 ≤ td ∧ td ≤ 2000) (hd : td ≤ d ∧ d ≤ 5000) (hv : ∀ t, t < ns → Val td (as t)) (hch : Chs as xs us ns) (hok : okb p as ns = true) (h3 : T.2.1 = ns) (h4 : ∀ t, t < ns → Cl (as t) (T.2.2 t)) (h5 : ∀ t, t < ns → pb p t = true → 2 ≤ aN (as t) → Drw (as t) (T.2.2 t)) : ∀ (fuel i : Nat), ns < i + fuel → i ≤ ns → f_X7_poolRoomOn_5 (i3 (p : Int)) (i3 d) T fuel (i6 (foP p as xs us i d)) (i3 (i : Int)) = some (i6 (foP p as xs us ns d)) := by
  intro fuel
  induction fuel with
  | zero => intro i h1 h2; omega
  | succ fuel ih =>
    intro i h1 h2
    unfold f_X7_poolRoomOn_5
    by_cases c : ns ≤ i
    · have : i = ns := by omega
      subst this
      rw [if_pos (by rw [h3, nI_i3, i3_le (by omega) (by omega) (by omega) (by omega)]; omega)]
    · have hi : i < ns := by omega
      have ei : (i3 (i : Int)).toNatClampNeg = i := i3_nn (by omega)
      have hin : inS T (i3 (i : Int)) := inS_of (by rw [h3]; exact hi) (by rw [h3]; exact hns)
      have hstep : i3 (i : Int) + 1 = i3 ((i + 1 : Nat) : Int) := by rw [l3_1, i3_add]; rfl
      have es : foP p as xs us (i + 1) d = foP p as xs us i d + (if pb p i = true then fcA (as i) (xs i) (us i) (-1) d else 0) := rfl
      rw [if_neg (by rw [h3, nI_i3, i3_le (by omega) (by omega) (by omega) (by omega)]; omega), pb_c p hp i (by omega), Option.bind_some]
      by_cases hb : pb p i = true
      · rw [if_pos hb] at es
        have n2 := okb_at hok hi hb
        obtain ⟨y, q3, q4, q5, q6, q7⟩ := h5 i hi hb n2
        obtain ⟨u, u1, u2⟩ := cl_usual (hv i hi) (h4 i hi)
        have byy := sl_bd (hv i hi) ht.2 y q7.1
        have hdd := (hv i hi).2.2.2.2.1 _ (lastp_lt n2)
        have ec := cl_roomOn (hv i hi) (h4 i hi) u1 (IsUs_rng (hv i hi) u2) q3 q4 q5 q6 (d := d) (by omega) (by omega) (by omega) ⟨byy.1, byy.2.1⟩ ⟨byy.2.2.1, byy.2.2.2⟩
        have e1 : fcv (aUs (as i) (lastp (aN (as i)) (-1))) y.1 y.2 (aDy (as i) (lastp (aN (as i)) (-1))) u (aFr (as i)) (aEv (as i)) d = fcA (as i) (xs i) (us i) (-1) d := fc_eq (hv i hi) ht.2 q7 ((hch i hi).2 n2) u2 (hch i hi).1 d
        have er := fcA_rng (A := as i) (x := xs i) (u := us i) (o := -1) (d := d)
        rw [if_pos hb, if_neg (by decide), ck_pos hin, ei, ec, Option.bind_some, e1, i3_long (by omega) (by omega), i6_add, ← es, nmv_eq, Option.bind_some, nmv_eq, hstep]
        exact ih (i + 1) (by omega) (by omega)
      · rw [if_neg hb, Int.add_zero] at es
        rw [if_neg hb, if_pos l3_0.symm, Option.bind_some, nmv_eq, hstep, ← es]
        exact ih (i + 1) (by omega) (by omega)
def pfs (f : Int → Int) (sz td : Int) : Nat → Int → Int
  | 0, _ => -1
  | k + 1, a => if sz ≤ f (td + a) then td + a else pfs f sz td k (a + 1)
theorem foP_rng {p : Nat} {as : Nat → AB} {xs : Nat → Int × Int} {us : Nat → Int} {n : Nat} {d : Int} (hn : n ≤ 8) : 0 ≤ foP p as xs us n d ∧ foP p as xs us n d ≤ 16000000000 := by
  have := smc_rng (f := fun t => if pb p t = true then fcA (as t) (xs t) (us t) (-1) d else 0) (b := 2000000000) (n := n) (fun k _ => by
    have := fcA_rng (A := as k) (x := xs k) (u := us k) (o := -1) (d := d)
    split <;> omega)
  unfold foP
  omega
theorem szP_rng {p : Nat} {as : Nat → AB} {n : Nat} {td : Int} (hn : n ≤ 8) (hv : ∀ t, t < n → Val td (as t)) : 0 ≤ szP p as n ∧ szP p as n ≤ 8000000 := by
  have := smc_rng (f := fun t => if pb p t = true then aSz (as t) else 0) (b := 1000000) (n := n) (fun k hk => by
    have := (hv k hk).1
    split <;> omega)
  unfold szP
  omega
theorem lg_lt {a b : Int} (ha : 0 ≤ a ∧ a ≤ 16000000000) (hb : 0 ≤ b ∧ b ≤ 16000000000) : (lg_cmp (i6 a) (i6 b) < (0 : Int32)) = (a < b) := by
  have h : (lg_cmp (i6 a) (i6 b) < (0 : Int32)) = (i6 a < i6 b) := lglt _ _
  rw [h, i6_lt (by omega) (by omega) (by omega) (by omega)]
theorem c_poolFull {p : Nat} {T : TS} {f : Int → Int} {sz td : Int} (ht : 0 ≤ td ∧ td ≤ 2000) (h1 : T.1.1 = i3 td) (hsz : 0 ≤ sz ∧ sz ≤ 16000000000) (hf : ∀ d, 0 ≤ f d ∧ f d ≤ 16000000000) (hr : ∀ d, td ≤ d ∧ d ≤ 5000 → f_X7_poolRoomOn (i3 (p : Int)) (i3 d) T = some (i6 (f d))) : ∀ (k fuel : Nat) (a : Int), a + k = 1001 → 1 ≤ a → k < fuel → f_X7_poolFull_45 (i3 (p : Int)) T (i6 sz) fuel (i3 a) = some (i3 (pfs f sz td k a), T) := by
  intro k
  induction k with
  | zero =>
    intro fuel a h2 h3 h4
    obtain ⟨fuel, rfl⟩ : ∃ q, fuel = q + 1 := ⟨fuel - 1, by omega⟩
    unfold f_X7_poolFull_45
    rw [if_pos (by rw [l3_1000, i3_lt (by omega) (by omega) (by omega) (by omega)]; omega)]
    rfl
  | succ k ih =>
    intro fuel a h2 h3 h4
    obtain ⟨fuel, rfl⟩ : ∃ q, fuel = q + 1 := ⟨fuel - 1, by omega⟩
    unfold f_X7_poolFull_45
    rw [if_neg (by rw [l3_1000, i3_lt (by omega) (by omega) (by omega) (by omega)]; omega), h1, i3_add, hr (td + a) (by omega), Option.bind_some]
    have e := lg_lt (hf (td + a)) hsz
    unfold pfs
    by_cases c : f (td + a) < sz
    · rw [if_pos (e.mpr c), if_neg (by omega), nmv_eq, l3_1, i3_add]
      exact ih fuel (a + 1) (by omega) (by omega) (by omega)
    · rw [if_neg (fun q => c (e.mp q)), if_pos (by omega)]
