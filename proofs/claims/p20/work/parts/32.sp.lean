/-! What the answers are: a store as numbers, its middle slope, its forecasts, its days -/
def flt (a b : Int × Int) : Bool := decide (a.1 * b.2 < b.1 * a.2)
theorem flt_tr {x y z : Int × Int} (hx : 0 < x.2) (hy : 0 < y.2) (hz : 0 < z.2) (h1 : flt x z = false) (h2 : flt x y = true) : flt z y = true := by
  have h1 := of_decide_eq_false h1
  have h2 := of_decide_eq_true h2
  refine decide_eq_true ?_
  have a1 : z.1 * x.2 * y.2 ≤ x.1 * z.2 * y.2 := Int.mul_le_mul_of_nonneg_right (by omega) (by omega)
  have a2 : x.1 * y.2 * z.2 < y.1 * x.2 * z.2 := Int.mul_lt_mul_of_pos_right h2 hz
  refine Int.lt_of_mul_lt_mul_left (a := x.2) ?_ (by omega)
  have e1 : x.2 * (z.1 * y.2) = z.1 * x.2 * y.2 := by ac_rfl
  have e2 : x.2 * (y.1 * z.2) = y.1 * x.2 * z.2 := by ac_rfl
  have e3 : x.1 * z.2 * y.2 = x.1 * y.2 * z.2 := by ac_rfl
  omega
theorem flt_rf (a : Int × Int) : flt a a = false := decide_eq_false (by omega)
theorem flt_le {x y a : Int × Int} (hx : 0 < x.2) (hy : 0 < y.2) (ha : 0 < a.2) (h1 : flt y x = false) (h2 : flt a y = false) : flt a x = false := by
  cases h : flt a x with
  | false => rfl
  | true => rw [flt_tr ha hx hy h2 h] at h1; cases h1
def Mid (l : List (Int × Int)) (x : Int × Int) : Prop := x ∈ l ∧ l.countP (fun z => flt z x) ≤ (l.length - 1) / 2 ∧ (l.length - 1) / 2 < l.countP (fun z => !flt x z)
theorem Mid_uniq {l : List (Int × Int)} {x y : Int × Int} (hp : ∀ z ∈ l, 0 < z.2) (hx : Mid l x) (hy : Mid l y) : x.1 * y.2 = y.1 * x.2 := by
  have h1 := rank_uniq (lt := flt) (fun z hz a b => flt_tr (hp x hx.1) (hp y hy.1) (hp z hz) a b) hx.2.2 hy.2.1
  have h2 := rank_uniq (lt := flt) (fun z hz a b => flt_tr (hp y hy.1) (hp x hx.1) (hp z hz) a b) hy.2.2 hx.2.1
  have h1 := of_decide_eq_false h1
  have h2 := of_decide_eq_false h2
  omega
theorem Mid_perm {l l2 : List (Int × Int)} {x : Int × Int} (h : l.Perm l2) (hx : Mid l x) : Mid l2 x := by
  refine ⟨h.mem_iff.mp hx.1, ?_, ?_⟩
  · rw [← h.countP_eq, ← h.length_eq]; exact hx.2.1
  · rw [← h.countP_eq, ← h.length_eq]; exact hx.2.2
def ilt (a b : Int) : Bool := decide (a < b)
def MidI (l : List Int) (x : Int) : Prop := x ∈ l ∧ l.countP (fun z => ilt z x) ≤ (l.length - 1) / 2 ∧ (l.length - 1) / 2 < l.countP (fun z => !ilt x z)
theorem MidI_uniq {l : List Int} {x y : Int} (hx : MidI l x) (hy : MidI l y) : x = y := by
  have tr : ∀ a b c : Int, ilt a c = false → ilt a b = true → ilt c b = true := fun a b c h1 h2 => decide_eq_true (by
    have h1 := of_decide_eq_false h1
    have h2 := of_decide_eq_true h2
    omega)
  have h1 := of_decide_eq_false (rank_uniq (lt := ilt) (fun z _ => tr x y z) hx.2.2 hy.2.1)
  have h2 := of_decide_eq_false (rank_uniq (lt := ilt) (fun z _ => tr y x z) hy.2.2 hx.2.1)
  omega
theorem MidI_perm {l l2 : List Int} {x : Int} (h : l.Perm l2) (hx : MidI l x) : MidI l2 x := by
  refine ⟨h.mem_iff.mp hx.1, ?_, ?_⟩
  · rw [← h.countP_eq, ← h.length_eq]; exact hx.2.1
  · rw [← h.countP_eq, ← h.length_eq]; exact hx.2.2
theorem fl_div {N D N2 D2 : Int} (h1 : 0 < D) (h2 : 0 < D2) (h : N * D2 = N2 * D) (a : Int) : N * a / D = N2 * a / D2 := by
  have e1 : N * a / D = (D2 * (N * a)) / (D2 * D) := (Int.mul_ediv_mul_of_pos _ _ h2).symm
  have e2 : N2 * a / D2 = (D * (N2 * a)) / (D * D2) := (Int.mul_ediv_mul_of_pos _ _ h1).symm
  have e3 : D2 * (N * a) = D * (N2 * a) := by
    have : D2 * (N * a) = (N * D2) * a := by ac_rfl
    rw [this, h]; ac_rfl
  rw [e1, e2, e3, Int.mul_comm D2 D]
def rul (fr ev d : Int) : Int := if ev ≤ 0 ∨ d < fr then 0 else (d - fr) / ev + 1
theorem rul_mono {fr ev d d2 : Int} (h : d ≤ d2) : rul fr ev d ≤ rul fr ev d2 := by
  unfold rul
  by_cases c1 : ev ≤ 0
  · rw [if_pos (Or.inl c1), if_pos (Or.inl c1)]; omega
  · by_cases c2 : d < fr
    · rw [if_pos (Or.inr c2)]
      by_cases c3 : d2 < fr
      · rw [if_pos (Or.inr c3)]; omega
      · rw [if_neg (by omega)]
        have := Int.ediv_nonneg (a := d2 - fr) (b := ev) (by omega) (by omega)
        omega
    · rw [if_neg (by omega), if_neg (by omega)]
      have := Int.ediv_le_ediv (a := d - fr) (b := d2 - fr) (c := ev) (by omega) (by omega)
      omega
theorem rul_rng {fr ev d : Int} (h0 : 0 ≤ fr) (hd : 0 ≤ d) : 0 ≤ rul fr ev d ∧ rul fr ev d ≤ d + 1 := by
  unfold rul
  by_cases c : ev ≤ 0 ∨ d < fr
  · rw [if_pos c]; omega
  · rw [if_neg c]
    have h1 := Int.ediv_nonneg (a := d - fr) (b := ev) (by omega) (by omega)
    have h2 := Int.ediv_le_self (a := d - fr) ev (by omega)
    omega
def rmv (us N D st uz fr ev d : Int) : Int := us + N * (d - st) / D - uz * (rul fr ev d - rul fr ev st)
def clp (x : Int) : Int := if x < 0 then 0 else if 2000000000 < x then 2000000000 else x
def fcv (us N D st uz fr ev d : Int) : Int := clp (rmv us N D st uz fr ev d)
theorem fcv_frac {us N D N2 D2 st uz fr ev : Int} (h1 : 0 < D) (h2 : 0 < D2) (h : N * D2 = N2 * D) (d : Int) : fcv us N D st uz fr ev d = fcv us N2 D2 st uz fr ev d := by
  unfold fcv rmv
  rw [fl_div h1 h2 h]
def IsFull (sz : Int) (f : Int → Int) (st r : Int) : Prop := (∃ a, 1 ≤ a ∧ a ≤ 1000 ∧ sz ≤ f (st + a) ∧ (∀ b, 1 ≤ b → b < a → f (st + b) < sz) ∧ r = st + a) ∨ ((∀ a, 1 ≤ a → a ≤ 1000 → f (st + a) < sz) ∧ r = 1000000)
theorem IsFull_uniq {sz : Int} {f : Int → Int} {st r r2 : Int} (h : IsFull sz f st r) (h2 : IsFull sz f st r2) : r = r2 := by
  rcases h with ⟨a, a1, a2, a3, a4, a5⟩ | ⟨a1, a2⟩ <;> rcases h2 with ⟨b, b1, b2, b3, b4, b5⟩ | ⟨b1, b2⟩
  · rcases Int.lt_trichotomy a b with q | q | q
    · have := b4 a a1 q; omega
    · omega
    · have := a4 b b1 q; omega
  · have := b1 a ‹_› ‹_›; omega
  · have := a1 b ‹_› ‹_›; omega
  · omega
/-- no day that is stepped over can be full -/
theorem skip_ok {us N D st uz fr ev sz a b h : Int} (hD : 0 < D) (hu : 0 ≤ uz) (hs : 1 ≤ sz) (hs2 : sz ≤ 2000000000) (hab : a < b) (hh : h = sz - fcv us N D st uz fr ev (st + a)) (hp : 0 < h)
    (hst : N ≤ 0 ∨ N * (b - a) ≤ (h - 1) * D) : fcv us N D st uz fr ev (st + b) < sz := by
  have e1 : N * b / D ≤ N * a / D + (h - 1) := by
    rcases hst with q | q
    · have h1 : N * b ≤ N * a := Int.mul_le_mul_of_nonpos_left q (by omega)
      have := Int.ediv_le_ediv hD h1
      omega
    · have h1 : N * b = N * a + N * (b - a) := by rw [← Int.mul_add]; congr 1; omega
      have h2 : N * b ≤ N * a + (h - 1) * D := by omega
      have h3 := Int.ediv_le_ediv hD h2
      rw [Int.add_mul_ediv_right _ _ (by omega)] at h3
      exact h3
  have e2 := rul_mono (fr := fr) (ev := ev) (show st + a ≤ st + b by omega)
  have e3 : uz * (rul fr ev (st + a) - rul fr ev st) ≤ uz * (rul fr ev (st + b) - rul fr ev st) := Int.mul_le_mul_of_nonneg_left (by omega) hu
  have e4 : rmv us N D st uz fr ev (st + b) ≤ rmv us N D st uz fr ev (st + a) + (h - 1) := by
    unfold rmv
    rw [show st + a - st = a by omega, show st + b - st = b by omega]
    omega
  unfold fcv clp at hh ⊢
  by_cases c1 : rmv us N D st uz fr ev (st + a) < 0
  · rw [if_pos c1] at hh
    split
    · omega
    · rw [if_neg (by omega)]; omega
  · rw [if_neg c1] at hh
    by_cases c2 : 2000000000 < rmv us N D st uz fr ev (st + a)
    · rw [if_pos c2] at hh; omega
    · rw [if_neg c2] at hh
      split
      · omega
      · rw [if_neg (by omega)]; omega
def smc (g : Nat → Int) : Nat → Int
  | 0 => 0
  | n + 1 => smc g n + g n
theorem smc_ext {f g : Nat → Int} : ∀ {n : Nat}, (∀ k, k < n → f k = g k) → smc f n = smc g n
  | 0, _ => rfl
  | n + 1, h => by
    unfold smc
    rw [smc_ext (fun k hk => h k (by omega)), h n (by omega)]
theorem smc_rng {f : Nat → Int} {b : Int} : ∀ {n : Nat}, (∀ k, k < n → 0 ≤ f k ∧ f k ≤ b) → 0 ≤ smc f n ∧ smc f n ≤ b * n
  | 0, _ => by unfold smc; omega
  | n + 1, h => by
    unfold smc
    have h1 := smc_rng (n := n) (fun k hk => h k (by omega))
    have h2 := h n (by omega)
    have e : b * ((n + 1 : Nat) : Int) = b * n + b := by
      rw [Int.natCast_add, Int.mul_add]; simp
    omega
/-- a store: size, rule; samples; cleanings; warning -/
abbrev AB : Type := (Int × Int × Int) × (Nat × (Nat → Int) × (Nat → Int)) × (Nat × (Nat → Int) × (Nat → Int)) × (Int × Int)
def aSz (A : AB) : Int := A.1.1
def aFr (A : AB) : Int := A.1.2.1
def aEv (A : AB) : Int := A.1.2.2
def aN (A : AB) : Nat := A.2.1.1
def aDy (A : AB) : Nat → Int := A.2.1.2.1
def aUs (A : AB) : Nat → Int := A.2.1.2.2
def aM (A : AB) : Nat := A.2.2.1.1
def aCd (A : AB) : Nat → Int := A.2.2.1.2.1
def aCf (A : AB) : Nat → Int := A.2.2.1.2.2
def aOn (A : AB) : Int := A.2.2.2.1
def aNe (A : AB) : Int := A.2.2.2.2
def fil (A : AB) (k : Nat) : Int := aUs A k + smc (fun j => if aCd A j ≤ aDy A k then aCf A j else 0) (aM A)
def frc (A : AB) (p : Nat × Nat) : Int × Int := (fil A p.2 - fil A p.1, aDy A p.2 - aDy A p.1)
def sl (A : AB) (o : Int) : List (Int × Int) := ((prs (aN A)).filter (kp o)).map (frc A)
def lastp (n : Nat) (o : Int) : Nat := if o = (n : Int) - 1 then n - 2 else n - 1
def IsUs (A : AB) (u : Int) : Prop := (aM A = 0 ∧ u = 0) ∨ (0 < aM A ∧ MidI ((List.range (aM A)).map (aCf A)) u)
def fcA (A : AB) (x : Int × Int) (u : Int) (o : Int) : Int → Int := fcv (aUs A (lastp (aN A) o)) x.1 x.2 (aDy A (lastp (aN A) o)) u (aFr A) (aEv A)
def FDay (A : AB) (o r : Int) : Prop := ∃ x u, Mid (sl A o) x ∧ IsUs A u ∧ IsFull (aSz A) (fcA A x u o) (aDy A (lastp (aN A) o)) r
def Early (A : AB) (e : Int) : Prop := (aN A < 3 ∧ e = 1000000) ∨ (3 ≤ aN A ∧ (∀ o : Int, -1 ≤ o → o < aN A → ∃ r, FDay A o r ∧ e ≤ r) ∧ ∃ o : Int, -1 ≤ o ∧ o < aN A ∧ FDay A o e)
def Late (A : AB) (e : Int) : Prop := (aN A < 3 ∧ e = 1000000) ∨ (3 ≤ aN A ∧ (∀ o : Int, -1 ≤ o → o < aN A → ∃ r, FDay A o r ∧ r ≤ e) ∧ ∃ o : Int, -1 ≤ o ∧ o < aN A ∧ FDay A o e)
def Val (td : Int) (A : AB) : Prop := (1 ≤ aSz A ∧ aSz A ≤ 1000000) ∧ (0 ≤ aFr A ∧ aFr A ≤ 3000) ∧ (0 ≤ aEv A ∧ aEv A ≤ 100) ∧ aN A ≤ 12 ∧ (∀ k, k < aN A → 0 ≤ aDy A k ∧ aDy A k ≤ td ∧ 0 ≤ aUs A k ∧ aUs A k ≤ 1000000) ∧ (∀ i j, i < j → j < aN A → aDy A i < aDy A j) ∧ aM A ≤ 60 ∧ (∀ j, j < aM A → 0 ≤ aCd A j ∧ aCd A j ≤ td ∧ 1 ≤ aCf A j ∧ aCf A j ≤ 100000) ∧ (aOn A = 0 ∨ aOn A = 1) ∧ (aNe A = 0 ∨ aNe A = 1)
theorem IsUs_uniq {A : AB} {u v : Int} (h : IsUs A u) (h2 : IsUs A v) : u = v := by
  rcases h with h | h <;> rcases h2 with h2 | h2
  · omega
  · omega
  · omega
  · exact MidI_uniq h.2 h2.2
theorem IsUs_rng {td : Int} {A : AB} (hv : Val td A) {u : Int} (h : IsUs A u) : 0 ≤ u ∧ u ≤ 100000 := by
  rcases h with h | h
  · omega
  · obtain ⟨j, hj, rfl⟩ := List.mem_map.mp h.2.1
    have := hv.2.2.2.2.2.2.2.1 j (List.mem_range.mp hj)
    omega
theorem fil_rng {td : Int} {A : AB} (hv : Val td A) {k : Nat} (hk : k < aN A) : 0 ≤ fil A k ∧ fil A k ≤ 7000000 := by
  have h1 := hv.2.2.2.2.1 k hk
  have h2 : 0 ≤ smc (fun j => if aCd A j ≤ aDy A k then aCf A j else 0) (aM A) ∧ smc (fun j => if aCd A j ≤ aDy A k then aCf A j else 0) (aM A) ≤ 100000 * (aM A) := by
    refine smc_rng (fun j hj => ?_)
    have := hv.2.2.2.2.2.2.2.1 j hj
    split <;> omega
  have h3 := hv.2.2.2.2.2.2.1
  unfold fil
  omega
theorem sl_mem {td : Int} {A : AB} (hv : Val td A) {o : Int} {x : Int × Int} (h : x ∈ sl A o) : 0 < x.2 ∧ x.2 ≤ td ∧ -7000000 ≤ x.1 ∧ x.1 ≤ 7000000 := by
  obtain ⟨p, hp, rfl⟩ := List.mem_map.mp h
  obtain ⟨hp, -⟩ := List.mem_filter.mp hp
  obtain ⟨h1, h2⟩ := prs_mem hp
  have a1 := hv.2.2.2.2.1 p.1 (by omega)
  have a2 := hv.2.2.2.2.1 p.2 h2
  have a3 := hv.2.2.2.2.2.1 p.1 p.2 h1 h2
  have a4 := fil_rng hv (k := p.1) (by omega)
  have a5 := fil_rng hv h2
  unfold frc
  dsimp only
  omega
theorem FDay_uniq {td : Int} {A : AB} (hv : Val td A) {o r r2 : Int} (h : FDay A o r) (h2 : FDay A o r2) : r = r2 := by
  obtain ⟨x, u, a1, a2, a3⟩ := h
  obtain ⟨y, v, b1, b2, b3⟩ := h2
  have e := IsUs_uniq a2 b2
  subst e
  have hx := sl_mem hv a1.1
  have hy := sl_mem hv b1.1
  have e := Mid_uniq (fun z hz => (sl_mem hv hz).1) a1 b1
  have ef : fcA A x u o = fcA A y u o := by
    funext d
    exact fcv_frac hx.1 hy.1 e d
  rw [ef] at a3
  exact IsFull_uniq a3 b3
theorem Early_uniq {td : Int} {A : AB} (hv : Val td A) {e e2 : Int} (h : Early A e) (h2 : Early A e2) : e = e2 := by
  rcases h with h | ⟨h0, h1, o, ho1, ho2, ho3⟩ <;> rcases h2 with g | ⟨g0, g1, q, gq1, gq2, gq3⟩
  · omega
  · omega
  · omega
  · obtain ⟨r, hr, hle⟩ := h1 q gq1 gq2
    obtain ⟨r2, hr2, hle2⟩ := g1 o ho1 ho2
    have := FDay_uniq hv hr gq3
    have := FDay_uniq hv hr2 ho3
    omega
theorem Late_uniq {td : Int} {A : AB} (hv : Val td A) {e e2 : Int} (h : Late A e) (h2 : Late A e2) : e = e2 := by
  rcases h with h | ⟨h0, h1, o, ho1, ho2, ho3⟩ <;> rcases h2 with g | ⟨g0, g1, q, gq1, gq2, gq3⟩
  · omega
  · omega
  · omega
  · obtain ⟨r, hr, hle⟩ := h1 q gq1 gq2
    obtain ⟨r2, hr2, hle2⟩ := g1 o ho1 ho2
    have := FDay_uniq hv hr gq3
    have := FDay_uniq hv hr2 ho3
    omega
theorem FDay_rng {td : Int} {A : AB} (hv : Val td A) (ht : td ≤ 2000) {o r : Int} (ho : aN A ≥ 2) (h : FDay A o r) : 1 ≤ r ∧ r ≤ 1000000 := by
  obtain ⟨x, u, a1, a2, a3⟩ := h
  have hl : lastp (aN A) o < aN A := by unfold lastp; split <;> omega
  have := hv.2.2.2.2.1 _ hl
  rcases a3 with ⟨a, b1, b2, b3, b4, b5⟩ | ⟨b1, b2⟩ <;> omega
