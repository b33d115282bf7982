/-! One step of the law -/
theorem and_nn (r : Int32) : ∃ x : Int, r &&& (2147483647 : Int32) = i3 x ∧ 0 ≤ x ∧ x < 2147483648 := by
  have h : (r &&& (2147483647 : Int32)).toBitVec.toNat ≤ 2147483647 := by
    rw [Int32.toBitVec_and, BitVec.toNat_and]
    exact Nat.and_le_right
  have h2 : (r &&& (2147483647 : Int32)).toInt = ((r &&& (2147483647 : Int32)).toBitVec.toNat : Int) := by
    show (r &&& (2147483647 : Int32)).toBitVec.toInt = _
    rw [BitVec.toInt_eq_toNat_cond, if_pos (by omega)]
  refine ⟨(r &&& (2147483647 : Int32)).toInt, i3_of _, by omega, by omega⟩
theorem p_dice {xs : Nat → Int32} {NN nn : Nat} (h : NN ≤ 260) (hn : nn ≤ 45) : ∃ x : Int, f_L_dice xs NN (i3 (nn : Int)) = some (i3 x) ∧ 0 ≤ x ∧ x < 2147483648 := by
  unfold f_L_dice
  by_cases c : Int32.ofNat NN ≤ i3 (nn : Int)
  · rw [if_pos c, Option.bind_some]
    obtain ⟨x, e, h1, h2⟩ := and_nn (((961987163 : Int32) * (i3 (nn : Int) + (151 : Int32)) + ((543 : Int32) * i3 (nn : Int)) * i3 (nn : Int)) + (53 : Int32))
    exact ⟨x, by rw [e], h1, h2⟩
  · have c2 : ¬ nI NN ≤ i3 (nn : Int) := c
    rw [nI_i3, i3_le (by omega) (by omega) (by omega) (by omega)] at c2
    have b : inb (i3 (nn : Int)) NN := inbN (by omega) (by omega)
    rw [if_neg c, ck_pos b, Option.bind_some]
    obtain ⟨x, e, h1, h2⟩ := and_nn (xs (i3 (nn : Int)).toNatClampNeg)
    exact ⟨x, by rw [e], h1, h2⟩
theorem em_ex {x y : Int} (h1 : 0 ≤ x) (h2 : x < 2147483648) (h3 : 0 < y) (h4 : y < 2147483648) : ∃ z : Int, i3 x - i3 x / i3 y * i3 y = i3 z ∧ 0 ≤ z ∧ z < y := ⟨x % y, i3_rem h1 h2 h3 h4, Int.emod_nonneg x (by omega), Int.emod_lt_of_pos x h3⟩
theorem ed_ex {x y : Int} (h1 : 0 ≤ x) (h2 : x < 2147483648) (h3 : 0 < y) (h4 : y < 2147483648) : ∃ z : Int, i3 x / i3 y = i3 z ∧ 0 ≤ z ∧ z ≤ x := ⟨x / y, i3_div h1 h2 h3 h4, Int.ediv_nonneg h1 (by omega), Int.ediv_le_self y h1⟩
theorem l3_3000' : (3000 : Int32) = i3 3000 := by decide
theorem e_ite {β : Type} {c : Prop} [Decidable c] {u v : β} {q : β → Prop} (h1 : q u) (h2 : q v) : ∃ z, (if c then some u else some v) = some z ∧ q z := by
  by_cases h : c
  · exact ⟨u, if_pos h, h1⟩
  · exact ⟨v, if_neg h, h2⟩
/-- a number of a range -/
def rg (a b : Int) (w : Int32) : Prop := ∃ z : Int, w = i3 z ∧ a ≤ z ∧ z ≤ b
theorem Inv.up {O : Ob} {L : LW} {b b2 : Int} (h : Inv O L b) (h1 : b ≤ b2) (h2 : b2 ≤ 400) : Inv O L b2 := ⟨h.1, h.2.1, ⟨h.2.2.1.1, by have := h.2.2.1; omega, h2⟩, h.2.2.2⟩
theorem st_pass {O : Ob} {L : LW} {b v how : Int} (h : Inv O L b) (hb : b + 8 ≤ 400) (hv : 0 ≤ v ∧ v < 100000000) (hh : 0 ≤ how ∧ how < 32) : ∃ O2 L2, (if (i3 how) ≤ ((29 : Int32)) then some ((1 : Int32)) else some (((1 : Int32)) + ((i3 v) - (i3 v) / ((8 : Int32)) * ((8 : Int32))))).bind (fun (r220 : Int32) => (f_L_isPassed r220 O L).bind (fun ((r229, O230, L231) : Int32 × Ob × LW) => some (r229, O230, L231))) = some (1, O2, L2) ∧ Inv O2 L2 (b + 8) ∧ O2.2.1 = O.2.1 := by
  have e : ∃ w, (if (i3 how) ≤ ((29 : Int32)) then some ((1 : Int32)) else some (((1 : Int32)) + ((i3 v) - (i3 v) / ((8 : Int32)) * ((8 : Int32))))) = some w ∧ rg 1 8 w := by
    refine e_ite ⟨1, l3_1, by omega, by omega⟩ ?_
    obtain ⟨z, e1, e2, e3⟩ := em_ex (x := v) (y := 8) (by omega) (by omega) (by omega) (by omega)
    refine ⟨1 + z, ?_, by omega, by omega⟩
    rw [l3_8, e1, l3_1, i3_add]
  obtain ⟨w, e1, d, rfl, d1, d2⟩ := e
  obtain ⟨dn, rfl⟩ : ∃ k : Nat, d = (k : Int) := ⟨d.toNat, by omega⟩
  obtain ⟨O2, L2, q1, q2, q3⟩ := p_isPassed (d := dn) h (by omega) (by omega)
  refine ⟨O2, L2, ?_, q2.up (by omega) hb, q3⟩
  rw [e1, Option.bind_some, q1, Option.bind_some]
theorem st_sample {O : Ob} {L : LW} {b v : Int} {s : Nat} (h : Inv O L b) (hb : b + 8 ≤ 400) (hv : 0 ≤ v ∧ v < 100000000) (hs : s < O.2.1) : ∃ O2 L2, (if ((i3 v) - (i3 v) / ((9 : Int32)) * ((9 : Int32))) = 0 then some (((i3 v) / ((9 : Int32))) - ((i3 v) / ((9 : Int32))) / ((1000001 : Int32)) * ((1000001 : Int32))) else if ((6 : Int32)) ≤ ((i3 v) - (i3 v) / ((9 : Int32)) * ((9 : Int32))) then some (((i3 v) / ((9 : Int32))) - ((i3 v) / ((9 : Int32))) / ((3000 : Int32)) * ((3000 : Int32))) else some ((((200 : Int32)) + ((((20 : Int32)) * (q_today O)) - (((20 : Int32)) * (q_today O)) / ((3000 : Int32)) * ((3000 : Int32)))) + (((i3 v) / ((99 : Int32))) - ((i3 v) / ((99 : Int32))) / ((60 : Int32)) * ((60 : Int32))))).bind (fun (r302 : Int32) => (f_L_isSampled (i3 (s : Int)) r302 O L).bind (fun ((r312, O313, L314) : Int32 × Ob × LW) => some (r312, O313, L314))) = some (1, O2, L2) ∧ Inv O2 L2 (b + 8) ∧ O2.2.1 = O.2.1 := by
  have ht := h.2.2.1
  have e : ∃ w, (if ((i3 v) - (i3 v) / ((9 : Int32)) * ((9 : Int32))) = 0 then some (((i3 v) / ((9 : Int32))) - ((i3 v) / ((9 : Int32))) / ((1000001 : Int32)) * ((1000001 : Int32))) else if ((6 : Int32)) ≤ ((i3 v) - (i3 v) / ((9 : Int32)) * ((9 : Int32))) then some (((i3 v) / ((9 : Int32))) - ((i3 v) / ((9 : Int32))) / ((3000 : Int32)) * ((3000 : Int32))) else some ((((200 : Int32)) + ((((20 : Int32)) * (q_today O)) - (((20 : Int32)) * (q_today O)) / ((3000 : Int32)) * ((3000 : Int32)))) + (((i3 v) / ((99 : Int32))) - ((i3 v) / ((99 : Int32))) / ((60 : Int32)) * ((60 : Int32))))) = some w ∧ rg 0 1000000 w := by
    obtain ⟨v9, f1, f2, f3⟩ := ed_ex (x := v) (y := 9) (by omega) (by omega) (by omega) (by omega)
    obtain ⟨a, a1, a2, a3⟩ := em_ex (x := v9) (y := 1000001) (by omega) (by omega) (by omega) (by omega)
    obtain ⟨c, c1, c2, c3⟩ := em_ex (x := v9) (y := 3000) (by omega) (by omega) (by omega) (by omega)
    obtain ⟨v99, g1, g2, g3⟩ := ed_ex (x := v) (y := 99) (by omega) (by omega) (by omega) (by omega)
    obtain ⟨d, d1, d2, d3⟩ := em_ex (x := v99) (y := 60) (by omega) (by omega) (by omega) (by omega)
    obtain ⟨u, u1, u2, u3⟩ := em_ex (x := 20 * O.1) (y := 3000) (by omega) (by omega) (by omega) (by omega)
    have w1 : rg 0 1000000 (((i3 v) / ((9 : Int32))) - ((i3 v) / ((9 : Int32))) / ((1000001 : Int32)) * ((1000001 : Int32))) := ⟨a, by rw [l3_9, f1, l3_1000001, a1], by omega, by omega⟩
    have w2 : rg 0 1000000 (((i3 v) / ((9 : Int32))) - ((i3 v) / ((9 : Int32))) / ((3000 : Int32)) * ((3000 : Int32))) := ⟨c, by rw [l3_9, f1, l3_3000, c1], by omega, by omega⟩
    have w3 : rg 0 1000000 ((((200 : Int32)) + ((((20 : Int32)) * (q_today O)) - (((20 : Int32)) * (q_today O)) / ((3000 : Int32)) * ((3000 : Int32)))) + (((i3 v) / ((99 : Int32))) - ((i3 v) / ((99 : Int32))) / ((60 : Int32)) * ((60 : Int32)))) := ⟨200 + u + d, by rw [show q_today O = i3 O.1 from rfl, l3_20, i3_mul, l3_3000, u1, l3_99, g1, l3_60, d1, l3_200, i3_add, i3_add], by omega, by omega⟩
    by_cases k1 : ((i3 v) - (i3 v) / ((9 : Int32)) * ((9 : Int32))) = 0
    · exact ⟨_, if_pos k1, w1⟩
    · rw [if_neg k1]; exact e_ite w2 w3
  obtain ⟨w, e1, d, rfl, d1, d2⟩ := e
  obtain ⟨O2, L2, q1, q2, q3⟩ := p_isSampled (u := d) h hs (by omega)
  refine ⟨O2, L2, ?_, q2.up (by omega) hb, q3⟩
  rw [e1, Option.bind_some, q1, Option.bind_some]
/-- a change of one store's cells -/
theorem Inv.one {O : Ob} {L L2 : LW} {b : Int} {s : Nat} {A2 : AB} (h : Inv O L b) (hs : s < O.2.1) (hT : ∃ T, RlT T (updO O (i3 (s : Int)) A2)) (hm : aM A2 ≤ 20) (hS : ShS A2 L2 s) (hM : L2.2.2.2 = L.2.2.2) (hg : ∀ i, (i < 8 * s ∨ 8 * s + 8 ≤ i) → L2.2.2.1 i = L.2.2.1 i) (hy : ∀ i, (i < 12 * s ∨ 12 * s + 12 ≤ i) → L2.1 i = L.1 i) (hc : ∀ i, (i < 20 * s ∨ 20 * s + 20 ≤ i) → L2.2.1 i = L.2.1 i) : Inv (updO O (i3 (s : Int)) A2) L2 b := by
  obtain ⟨⟨T, hT0⟩, hn3, ht, hmm, hst, hz⟩ := h
  refine ⟨hT, hn3, ht, by rw [hM]; exact hmm, fun t htn => ?_, fun t t1 t2 => ?_⟩
  · have htn' : t < O.2.1 := htn
    show aM (if t = (i3 (s : Int)).toNatClampNeg then A2 else O.2.2 t) ≤ 20 ∧ ShS (if t = (i3 (s : Int)).toNatClampNeg then A2 else O.2.2 t) L2 t
    rw [i3_nn (by omega)]
    by_cases c : t = s
    · subst c; rw [if_pos rfl]; exact ⟨hm, hS⟩
    · rw [if_neg c]
      have hv2 := (hT0.2.2.2.2 t htn').1
      exact ⟨(hst t htn').1, (hst t htn').2.keep hv2.2.2.2.1 (hst t htn').1 (fun q hq => hg _ (by omega)) (fun k hk => hy _ (by omega)) (fun j hj => hc _ (by omega))⟩
  · have t1' : O.2.1 ≤ t := t1
    have := hz t t1' t2
    rw [hg _ (by omega), hg _ (by omega), hg _ (by omega), hg _ (by omega), hg _ (by omega)]
    exact this
theorem st_size {O : Ob} {L : LW} {b v : Int} {s : Nat} (h : Inv O L b) (hb : b + 8 ≤ 400) (hv : 0 ≤ v ∧ v < 100000000) (hs : s < O.2.1) : ∃ O2 L2, ck (inb (((8 : Int32)) * (i3 (s : Int))) 24) (nmv (L.2.2.1 (((8 : Int32)) * (i3 (s : Int))).toNatClampNeg) (fun (v316 : Int32) => (if ((i3 v) - (i3 v) / ((3 : Int32)) * ((3 : Int32))) = 0 then some (((1 : Int32)) + (((i3 v) / ((9 : Int32))) - ((i3 v) / ((9 : Int32))) / ((1000000 : Int32)) * ((1000000 : Int32)))) else some (((500 : Int32)) + (((i3 v) / ((9 : Int32))) - ((i3 v) / ((9 : Int32))) / ((3000 : Int32)) * ((3000 : Int32))))).bind (fun (r318 : Int32) => ck (inb (((8 : Int32)) * (i3 (s : Int))) 24) (nmv (sG L (((8 : Int32)) * (i3 (s : Int))).toNatClampNeg r318) (fun (L325 : LW) => ck (inb (((8 : Int32)) * (i3 (s : Int))) 24) ((qa_setSize (i3 (s : Int)) (L325.2.2.1 (((8 : Int32)) * (i3 (s : Int))).toNatClampNeg) O).bind (fun ((r330, O331) : Int32 × Ob) => (if r330 = v316 then some ((1 : Int32)) else some ((0 : Int32))).bind (fun (r333 : Int32) => some (r333, O331, L325))))))))) = some (1, O2, L2) ∧ Inv O2 L2 (b + 8) ∧ O2.2.1 = O.2.1 := by
  obtain ⟨hS, hf⟩ := h.sto hs
  have hn3 := h.2.1
  have h8 : O.2.1 ≤ 8 := by omega
  obtain ⟨hin, hsa⟩ := inO_of hs h8
  obtain ⟨b0, e0⟩ := hS.g0
  have e : ∃ w, (if ((i3 v) - (i3 v) / ((3 : Int32)) * ((3 : Int32))) = 0 then some (((1 : Int32)) + (((i3 v) / ((9 : Int32))) - ((i3 v) / ((9 : Int32))) / ((1000000 : Int32)) * ((1000000 : Int32)))) else some (((500 : Int32)) + (((i3 v) / ((9 : Int32))) - ((i3 v) / ((9 : Int32))) / ((3000 : Int32)) * ((3000 : Int32))))) = some w ∧ rg 1 1000000 w := by
    obtain ⟨v9, f1, f2, f3⟩ := ed_ex (x := v) (y := 9) (by omega) (by omega) (by omega) (by omega)
    obtain ⟨a, a1, a2, a3⟩ := em_ex (x := v9) (y := 1000000) (by omega) (by omega) (by omega) (by omega)
    obtain ⟨c, c1, c2, c3⟩ := em_ex (x := v9) (y := 3000) (by omega) (by omega) (by omega) (by omega)
    exact e_ite ⟨1 + a, by rw [l3_9, f1, l3_1000000, a1, l3_1, i3_add], by omega, by omega⟩ ⟨500 + c, by rw [l3_9, f1, l3_3000, c1, l3_500, i3_add], by omega, by omega⟩
  obtain ⟨w, e1, z, rfl, z1', z2⟩ := e
  have qa : qa_setSize (i3 (s : Int)) (i3 z) O = some (i3 (aSz (O.2.2 s)), updO O (i3 (s : Int)) (setZ (O.2.2 s) z)) := by
    unfold qa_setSize
    rw [ck_pos hin, ck_pos (by rw [l3_1, l3_1000000, i3_le (by omega) (by omega) (by omega) (by omega), i3_le (by omega) (by omega) (by omega) (by omega)]; exact ⟨z1', z2⟩), hsa, i3_toInt (by omega) (by omega)]
  obtain ⟨T, hT⟩ := h.1
  obtain ⟨T2, -, hT2⟩ := ka_setSize qa hT
  have er : (sG L (8 * s) (i3 z)).2.2.1 ((8 : Int32) * i3 (s : Int)).toNatClampNeg = i3 z := by
    rw [(x8_0 hS.2.2.2.1).2]
    show upd L.2.2.1 (8 * s) (i3 z) (8 * s) = _
    rw [updI_at, if_pos rfl]
  refine ⟨updO O (i3 (s : Int)) (setZ (O.2.2 s) z), sG L (8 * s) (i3 z), ?_, (h.one (L2 := sG L (8 * s) (i3 z)) hs ⟨T2, hT2⟩ hS.2.2.1 ?_ rfl (fun i hi => ?_) (fun _ _ => rfl) (fun _ _ => rfl)).up (by omega) hb, rfl⟩
  · rw [ck_pos b0, e0, nmv_eq, e1, Option.bind_some, ck_pos b0, nmv_eq, ck_pos b0, (x8_0 hS.2.2.2.1).2]
    rw [(x8_0 hS.2.2.2.1).2] at er
    rw [er, qa, Option.bind_some]
    dsimp only
    rw [if_pos rfl, Option.bind_some]
  · obtain ⟨a0, a1, a2, a3, a4, a5, a6, a7⟩ := hS.2.2.2.2
    have u : ∀ c, 0 < c → (sG L (8 * s) (i3 z)).2.2.1 (8 * s + c) = L.2.2.1 (8 * s + c) := fun c hc => by
      show upd L.2.2.1 (8 * s) (i3 z) (8 * s + c) = _
      rw [updI_at, if_neg (by omega)]
    refine ⟨?_, (u 1 (by omega)).trans a1, (u 2 (by omega)).trans a2, (u 3 (by omega)).trans a3, (u 4 (by omega)).trans a4, (u 5 (by omega)).trans a5, a6, a7⟩
    show upd L.2.2.1 (8 * s) (i3 z) (8 * s) = _
    rw [updI_at, if_pos rfl]; rfl
  · show upd L.2.2.1 (8 * s) (i3 z) i = _
    rw [updI_at, if_neg (by omega)]
theorem st_rule {O : Ob} {L : LW} {b v : Int} {s : Nat} (h : Inv O L b) (hb : b + 8 ≤ 400) (hv : 0 ≤ v ∧ v < 100000000) (hs : s < O.2.1) : ∃ O2 L2, (if ((i3 v) - (i3 v) / ((3 : Int32)) * ((3 : Int32))) = 0 then some ((3001 : Int32)) else some ((60 : Int32))).bind (fun (r233 : Int32) => ck (¬ r233 = 0) (ck (inb ((((8 : Int32)) * (i3 (s : Int))) + ((3 : Int32))) 24) (nmv (sG L ((((8 : Int32)) * (i3 (s : Int))) + ((3 : Int32))).toNatClampNeg ((i3 v) - (i3 v) / r233 * r233)) (fun (L241 : LW) => (if ((i3 v) - (i3 v) / ((4 : Int32)) * ((4 : Int32))) = 0 then some ((101 : Int32)) else some ((20 : Int32))).bind (fun (r243 : Int32) => ck (¬ r243 = 0) (ck (inb ((((8 : Int32)) * (i3 (s : Int))) + ((4 : Int32))) 24) (nmv (sG L241 ((((8 : Int32)) * (i3 (s : Int))) + ((4 : Int32))).toNatClampNeg (((i3 v) / ((7 : Int32))) - ((i3 v) / ((7 : Int32))) / r243 * r243)) (fun (L251 : LW) => ck (inb ((((8 : Int32)) * (i3 (s : Int))) + ((3 : Int32))) 24) (ck (inb ((((8 : Int32)) * (i3 (s : Int))) + ((4 : Int32))) 24) ((qa_setRule (i3 (s : Int)) (L251.2.2.1 ((((8 : Int32)) * (i3 (s : Int))) + ((3 : Int32))).toNatClampNeg) (L251.2.2.1 ((((8 : Int32)) * (i3 (s : Int))) + ((4 : Int32))).toNatClampNeg) O).bind (fun (O257 : Ob) => (if ((0 : Int32)) = 0 then some ((1 : Int32)) else some ((0 : Int32))).bind (fun (r259 : Int32) => some (r259, O257, L251))))))))))))) = some (1, O2, L2) ∧ Inv O2 L2 (b + 8) ∧ O2.2.1 = O.2.1 := by
  obtain ⟨hS, hf⟩ := h.sto hs
  have hn3 := h.2.1
  have h8 : O.2.1 ≤ 8 := by omega
  obtain ⟨hin, hsa⟩ := inO_of hs h8
  have hs3 := hS.2.2.2.1
  obtain ⟨b3, e3⟩ := x8_3 hs3
  obtain ⟨b4, e4⟩ := x8_4 hs3
  have ea : ∃ w, (if ((i3 v) - (i3 v) / ((3 : Int32)) * ((3 : Int32))) = 0 then some ((3001 : Int32)) else some ((60 : Int32))) = some w ∧ rg 1 3001 w := e_ite ⟨3001, l3_3001, by omega, by omega⟩ ⟨60, l3_60, by omega, by omega⟩
  have eb : ∃ w, (if ((i3 v) - (i3 v) / ((4 : Int32)) * ((4 : Int32))) = 0 then some ((101 : Int32)) else some ((20 : Int32))) = some w ∧ rg 1 101 w := e_ite ⟨101, l3_101, by omega, by omega⟩ ⟨20, l3_20, by omega, by omega⟩
  obtain ⟨w1, ea, p, rfl, p1, p2⟩ := ea
  obtain ⟨w2, eb, q, rfl, q1, q2⟩ := eb
  obtain ⟨v7, f1, f2, f3⟩ := ed_ex (x := v) (y := 7) (by omega) (by omega) (by omega) (by omega)
  obtain ⟨fr, g1, g2, g3⟩ := em_ex (x := v) (y := p) (by omega) (by omega) (by omega) (by omega)
  obtain ⟨ev, k1, k2, k3⟩ := em_ex (x := v7) (y := q) (by omega) (by omega) (by omega) (by omega)
  have qa : qa_setRule (i3 (s : Int)) (i3 fr) (i3 ev) O = some (updO O (i3 (s : Int)) (setR (O.2.2 s) fr ev)) := by
    unfold qa_setRule
    rw [ck_pos hin, ck_pos (by rw [l3_0, l3_3000, i3_le (by omega) (by omega) (by omega) (by omega), i3_le (by omega) (by omega) (by omega) (by omega)]; omega), ck_pos (by rw [l3_0, l3_100, i3_le (by omega) (by omega) (by omega) (by omega), i3_le (by omega) (by omega) (by omega) (by omega)]; omega), hsa, i3_toInt (by omega) (by omega), i3_toInt (by omega) (by omega)]
  obtain ⟨T, hT⟩ := h.1
  obtain ⟨T2, -, hT2⟩ := ka_setRule qa hT
  have u : ∀ i, (sG (sG L (8 * s + 3) (i3 fr)) (8 * s + 4) (i3 ev)).2.2.1 i = if i = 8 * s + 4 then i3 ev else if i = 8 * s + 3 then i3 fr else L.2.2.1 i := fun i => rfl
  refine ⟨updO O (i3 (s : Int)) (setR (O.2.2 s) fr ev), sG (sG L (8 * s + 3) (i3 fr)) (8 * s + 4) (i3 ev), ?_, (h.one (L2 := sG (sG L (8 * s + 3) (i3 fr)) (8 * s + 4) (i3 ev)) hs ⟨T2, hT2⟩ hS.2.2.1 ?_ rfl (fun i hi => ?_) (fun _ _ => rfl) (fun _ _ => rfl)).up (by omega) hb, rfl⟩
  · rw [ea, Option.bind_some, ck_pos (by rw [l3_0, i3_eq (by omega) (by omega) (by omega) (by omega)]; omega), ck_pos b3, nmv_eq, eb, Option.bind_some, ck_pos (by rw [l3_0, i3_eq (by omega) (by omega) (by omega) (by omega)]; omega), ck_pos b4, nmv_eq, ck_pos b3, ck_pos b4, g1, l3_7, f1, k1, e3, e4, u, u, if_neg (by omega), if_pos rfl, if_pos rfl, qa, Option.bind_some, if_pos rfl, Option.bind_some]
  · obtain ⟨a0, a1, a2, a3, a4, a5, a6, a7⟩ := hS.2.2.2.2
    refine ⟨?_, ?_, ?_, ?_, ?_, ?_, a6, a7⟩
    · rw [u, if_neg (by omega), if_neg (by omega)]; exact a0
    · rw [u, if_neg (by omega), if_neg (by omega)]; exact a1
    · rw [u, if_neg (by omega), if_neg (by omega)]; exact a2
    · rw [u, if_neg (by omega), if_pos rfl]; rfl
    · rw [u, if_pos rfl]; rfl
    · rw [u, if_neg (by omega), if_neg (by omega)]; exact a5
  · rw [u, if_neg (by omega), if_neg (by omega)]
theorem st_clean {O : Ob} {L : LW} {b v : Int} {s : Nat} (h : Inv O L b) (hb : b + 8 ≤ 400) (hv : 0 ≤ v ∧ v < 100000000) (hs : s < O.2.1) : ∃ O2 L2, (if ((i3 v) - (i3 v) / ((4 : Int32)) * ((4 : Int32))) = 0 then some (((1 : Int32)) + (((i3 v) / ((4 : Int32))) - ((i3 v) / ((4 : Int32))) / ((100000 : Int32)) * ((100000 : Int32)))) else some (((1 : Int32)) + (((i3 v) / ((4 : Int32))) - ((i3 v) / ((4 : Int32))) / ((300 : Int32)) * ((300 : Int32))))).bind (fun (r266 : Int32) => ck (inb ((((8 : Int32)) * (i3 (s : Int))) + ((2 : Int32))) 24) ((if ((20 : Int32)) ≤ (L.2.2.1 ((((8 : Int32)) * (i3 (s : Int))) + ((2 : Int32))).toNatClampNeg) then some ((1 : Int32), O, L) else ck (inb ((((8 : Int32)) * (i3 (s : Int))) + ((2 : Int32))) 24) (ck (inb ((((20 : Int32)) * (i3 (s : Int))) + (L.2.2.1 ((((8 : Int32)) * (i3 (s : Int))) + ((2 : Int32))).toNatClampNeg)) 60) (nmv (sC L ((((20 : Int32)) * (i3 (s : Int))) + (L.2.2.1 ((((8 : Int32)) * (i3 (s : Int))) + ((2 : Int32))).toNatClampNeg)).toNatClampNeg (((q_today O).toInt64) ||| (r266.toInt64 <<< (((11 : Int32)).toInt64 &&& 63)))) (fun (L284 : LW) => ck (inb ((((8 : Int32)) * (i3 (s : Int))) + ((2 : Int32))) 24) (ck (inb ((((8 : Int32)) * (i3 (s : Int))) + ((2 : Int32))) 24) (nmv (sG L284 ((((8 : Int32)) * (i3 (s : Int))) + ((2 : Int32))).toNatClampNeg ((L284.2.2.1 ((((8 : Int32)) * (i3 (s : Int))) + ((2 : Int32))).toNatClampNeg) + ((1 : Int32)))) (fun (L287 : LW) => (qa_clean (i3 (s : Int)) r266 O).bind (fun ((r291, O292) : Int32 × Ob) => ck (inb ((((8 : Int32)) * (i3 (s : Int))) + ((2 : Int32))) 24) ((if r291 = (L287.2.2.1 ((((8 : Int32)) * (i3 (s : Int))) + ((2 : Int32))).toNatClampNeg) then some ((1 : Int32)) else some ((0 : Int32))).bind (fun (r295 : Int32) => some (r295, O292, L287))))))))))).bind (fun ((r274, O275, L276) : Int32 × Ob × LW) => some (r274, O275, L276)))) = some (1, O2, L2) ∧ Inv O2 L2 (b + 8) ∧ O2.2.1 = O.2.1 := by
  obtain ⟨hS, hf⟩ := h.sto hs
  have hn3 := h.2.1
  have ht := h.2.2.1
  have h8 : O.2.1 ≤ 8 := by omega
  obtain ⟨hin, hsa⟩ := inO_of hs h8
  have hs3 := hS.2.2.2.1
  have hm20 := hS.2.2.1
  obtain ⟨b2, e2⟩ := hS.g2
  have e : ∃ w, (if ((i3 v) - (i3 v) / ((4 : Int32)) * ((4 : Int32))) = 0 then some (((1 : Int32)) + (((i3 v) / ((4 : Int32))) - ((i3 v) / ((4 : Int32))) / ((100000 : Int32)) * ((100000 : Int32)))) else some (((1 : Int32)) + (((i3 v) / ((4 : Int32))) - ((i3 v) / ((4 : Int32))) / ((300 : Int32)) * ((300 : Int32))))) = some w ∧ rg 1 100000 w := by
    obtain ⟨v4, f1, f2, f3⟩ := ed_ex (x := v) (y := 4) (by omega) (by omega) (by omega) (by omega)
    obtain ⟨a, a1, a2, a3⟩ := em_ex (x := v4) (y := 100000) (by omega) (by omega) (by omega) (by omega)
    obtain ⟨c, c1, c2, c3⟩ := em_ex (x := v4) (y := 300) (by omega) (by omega) (by omega) (by omega)
    exact e_ite ⟨1 + a, by rw [l3_4, f1, l3_100000, a1, l3_1, i3_add], by omega, by omega⟩ ⟨1 + c, by rw [l3_4, f1, show (300 : Int32) = i3 300 from by decide, c1, l3_1, i3_add], by omega, by omega⟩
  obtain ⟨w, e1, f, rfl, f1, f2⟩ := e
  by_cases c20 : 20 ≤ aM (O.2.2 s)
  · refine ⟨O, L, ?_, h.up (by omega) hb, rfl⟩
    rw [e1, Option.bind_some, ck_pos b2, e2, if_pos (by rw [l3_20, i3_le (by omega) (by omega) (by omega) (by omega)]; omega), Option.bind_some]
  · have qa : qa_clean (i3 (s : Int)) (i3 f) O = some (i3 ((aM (O.2.2 s) : Int) + 1), updO O (i3 (s : Int)) (addC (O.2.2 s) O.1 f)) := by
      unfold qa_clean
      rw [ck_pos hin, ck_pos (by rw [l3_1, l3_100000, i3_le (by omega) (by omega) (by omega) (by omega), i3_le (by omega) (by omega) (by omega) (by omega)]; exact ⟨f1, f2⟩), hsa, ck_pos (by omega), i3_toInt (by omega) (by omega)]
    obtain ⟨T, hT⟩ := h.1
    obtain ⟨T2, -, hT2⟩ := ka_clean qa hT
    have ix := x20 s (aM (O.2.2 s))
    have bx : inb (i3 ((20 * s + aM (O.2.2 s) : Nat) : Int)) 60 := inbN (by omega) (by omega)
    have g2 : (sC L (20 * s + aM (O.2.2 s)) (pk O.1 f)).2.2.1 ((8 : Int32) * i3 (s : Int) + (2 : Int32)).toNatClampNeg = i3 (aM (O.2.2 s) : Int) := e2
    have x2 := (x8_2 hs3).2
    have er : (sG (sC L (20 * s + aM (O.2.2 s)) (pk O.1 f)) (8 * s + 2) (i3 ((aM (O.2.2 s) : Int) + 1))).2.2.1 ((8 : Int32) * i3 (s : Int) + (2 : Int32)).toNatClampNeg = i3 ((aM (O.2.2 s) : Int) + 1) := by
      rw [x2]
      show upd L.2.2.1 (8 * s + 2) _ (8 * s + 2) = _
      rw [updI_at, if_pos rfl]
    have eor : (q_today O).toInt64 ||| ((i3 f).toInt64 <<< (((11 : Int32)).toInt64 &&& 63)) = pk O.1 f := by
      rw [show q_today O = i3 O.1 from rfl, i3_long (by omega) (by omega), i3_long (by omega) (by omega), pk9_or (by omega) (by omega)]
    refine ⟨updO O (i3 (s : Int)) (addC (O.2.2 s) O.1 f), sG (sC L (20 * s + aM (O.2.2 s)) (pk O.1 f)) (8 * s + 2) (i3 ((aM (O.2.2 s) : Int) + 1)), ?_, (h.one (L2 := sG (sC L (20 * s + aM (O.2.2 s)) (pk O.1 f)) (8 * s + 2) (i3 ((aM (O.2.2 s) : Int) + 1))) hs ⟨T2, hT2⟩ ?_ ?_ rfl (fun i hi => ?_) (fun _ _ => rfl) (fun i hi => ?_)).up (by omega) hb, rfl⟩
    · rw [e1, Option.bind_some, ck_pos b2, e2, if_neg (by rw [l3_20, i3_le (by omega) (by omega) (by omega) (by omega)]; omega), ck_pos b2, ix, ck_pos bx, nmv_eq, eor, i3_nn (by omega), ck_pos b2, ck_pos b2, g2, nmv_eq, show i3 (aM (O.2.2 s) : Int) + (1 : Int32) = i3 ((aM (O.2.2 s) : Int) + 1) from by rw [l3_1, i3_add], qa, Option.bind_some]
      dsimp only
      rw [ck_pos b2]
      rw [x2] at er ⊢
      rw [er, if_pos rfl, Option.bind_some, Option.bind_some]
    · show aM (O.2.2 s) + 1 ≤ 20
      omega
    · obtain ⟨a0, a1, a2, a3, a4, a5, a6, a7⟩ := hS.2.2.2.2
      have u : ∀ i, (sG (sC L (20 * s + aM (O.2.2 s)) (pk O.1 f)) (8 * s + 2) (i3 ((aM (O.2.2 s) : Int) + 1))).2.2.1 i = if i = 8 * s + 2 then i3 ((aM (O.2.2 s) : Int) + 1) else L.2.2.1 i := fun i => rfl
      refine ⟨?_, ?_, ?_, ?_, ?_, ?_, a6, fun j hj => ?_⟩
      · rw [u, if_neg (by omega)]; exact a0
      · rw [u, if_neg (by omega)]; exact a1
      · rw [u, if_pos rfl]; rfl
      · rw [u, if_neg (by omega)]; exact a3
      · rw [u, if_neg (by omega)]; exact a4
      · rw [u, if_neg (by omega)]; exact a5
      · show vp_updL L.2.1 (20 * s + aM (O.2.2 s)) (pk O.1 f) (20 * s + j) = pk (if j = aM (O.2.2 s) then O.1 else aCd (O.2.2 s) j) (if j = aM (O.2.2 s) then f else aCf (O.2.2 s) j)
        have hj2 : j < aM (O.2.2 s) + 1 := hj
        rw [updL_at]
        by_cases c : j = aM (O.2.2 s)
        · rw [if_pos (by omega), if_pos c, if_pos c]
        · rw [if_neg (by omega), if_neg c, if_neg c]; exact a7 j (by omega)
    · show upd L.2.2.1 (8 * s + 2) _ i = _
      rw [updI_at, if_neg (by omega)]
    · show vp_updL L.2.1 _ _ i = _
      rw [updL_at, if_neg (by omega)]
theorem st_add {O : Ob} {L : LW} {b v : Int} (h : Inv O L b) (hb : b + 8 ≤ 400) (hv : 0 ≤ v ∧ v < 100000000) (hn : O.2.1 < 3) : ∃ O2 L2, (if ((i3 v) - (i3 v) / ((3 : Int32)) * ((3 : Int32))) = 0 then some (((1 : Int32)) + (((i3 v) / ((3 : Int32))) - ((i3 v) / ((3 : Int32))) / ((1000000 : Int32)) * ((1000000 : Int32)))) else some (((500 : Int32)) + (((i3 v) / ((3 : Int32))) - ((i3 v) / ((3 : Int32))) / ((3000 : Int32)) * ((3000 : Int32))))).bind (fun (r49 : Int32) => ck (inb ((0 : Int32)) 1) (ck (inb (((8 : Int32)) * (L.2.2.2 ((0 : Int32)).toNatClampNeg)) 24) (nmv (sG L (((8 : Int32)) * (L.2.2.2 ((0 : Int32)).toNatClampNeg)).toNatClampNeg r49) (fun (L57 : LW) => ck (inb ((0 : Int32)) 1) (ck (inb ((0 : Int32)) 1) (nmv (sM L57 ((0 : Int32)).toNatClampNeg ((L57.2.2.2 ((0 : Int32)).toNatClampNeg) + ((1 : Int32)))) (fun (L60 : LW) => (qa_addStore r49 O).bind (fun ((r64, O65) : Int32 × Ob) => ck (inb ((0 : Int32)) 1) ((if r64 = ((L60.2.2.2 ((0 : Int32)).toNatClampNeg) - ((1 : Int32))) then ck (inb ((0 : Int32)) 1) ((q_warns ((L60.2.2.2 ((0 : Int32)).toNatClampNeg) - ((1 : Int32))) O65).bind (fun (r77 : Int32) => if r77 = 0 then ck (inb ((0 : Int32)) 1) ((q_samples ((L60.2.2.2 ((0 : Int32)).toNatClampNeg) - ((1 : Int32))) O65).bind (fun (r83 : Int32) => if r83 = 0 then some ((1 : Int32)) else some ((0 : Int32)))) else some ((0 : Int32)))) else some ((0 : Int32))).bind (fun (r70 : Int32) => some (r70, O65, L60))))))))))) = some (1, O2, L2) ∧ Inv O2 L2 (b + 8) ∧ 1 ≤ O2.2.1 := by
  obtain ⟨⟨T, hT⟩, hn3, ht, hm, hst, hz⟩ := h
  have h8 : O.2.1 ≤ 8 := by omega
  have e : ∃ w, (if ((i3 v) - (i3 v) / ((3 : Int32)) * ((3 : Int32))) = 0 then some (((1 : Int32)) + (((i3 v) / ((3 : Int32))) - ((i3 v) / ((3 : Int32))) / ((1000000 : Int32)) * ((1000000 : Int32)))) else some (((500 : Int32)) + (((i3 v) / ((3 : Int32))) - ((i3 v) / ((3 : Int32))) / ((3000 : Int32)) * ((3000 : Int32))))) = some w ∧ rg 1 1000000 w := by
    obtain ⟨v3, f1, f2, f3⟩ := ed_ex (x := v) (y := 3) (by omega) (by omega) (by omega) (by omega)
    obtain ⟨a, a1, a2, a3⟩ := em_ex (x := v3) (y := 1000000) (by omega) (by omega) (by omega) (by omega)
    obtain ⟨c, c1, c2, c3⟩ := em_ex (x := v3) (y := 3000) (by omega) (by omega) (by omega) (by omega)
    exact e_ite (q := rg 1 1000000) ⟨1 + a, by rw [l3_3, f1, l3_1000000, a1, l3_1, i3_add], by omega, by omega⟩ ⟨500 + c, by rw [l3_3, f1, l3_3000, c1, l3_500, i3_add], by omega, by omega⟩
  obtain ⟨w, e1, z, rfl, z1', z2⟩ := e
  have qa : qa_addStore (i3 z) O = some (nI O.2.1, addO O z) := by
    unfold qa_addStore
    rw [ck_pos (by rw [l3_1, l3_1000000, i3_le (by omega) (by omega) (by omega) (by omega), i3_le (by omega) (by omega) (by omega) (by omega)]; exact ⟨z1', z2⟩), ck_pos (by omega), i3_toInt (by omega) (by omega)]
  obtain ⟨-, -, -, hT2⟩ := ka_addStore qa hT
  obtain ⟨b0, x0⟩ := x8_0 (s := O.2.1) hn
  have enew : (addO O z).2.2 O.2.1 = newA z := if_pos rfl
  have hlt : O.2.1 < (addO O z).2.1 := Nat.lt_succ_self _
  have h82 : (addO O z).2.1 ≤ 8 := by show O.2.1 + 1 ≤ 8; omega
  have qw : q_warns (i3 (O.2.1 : Int)) (addO O z) = some (0 : Int32) := by
    rw [qv_warns hlt h82, enew]; rfl
  have qs : q_samples (i3 (O.2.1 : Int)) (addO O z) = some (0 : Int32) := by
    rw [qv_samples hlt h82, enew]; rfl
  have m1 : (sM (sG L (8 * O.2.1) (i3 z)) 0 (i3 ((O.2.1 : Int) + 1))).2.2.2 0 = i3 ((O.2.1 : Int) + 1) := by
    show (upd (sG L (8 * O.2.1) (i3 z)).2.2.2 0 (i3 ((O.2.1 : Int) + 1))) 0 = i3 ((O.2.1 : Int) + 1)
    rw [updI_at, if_pos rfl]
  have m0 : (sG L (8 * O.2.1) (i3 z)).2.2.2 0 = i3 (O.2.1 : Int) := hm
  have es : i3 ((O.2.1 : Int) + 1) - (1 : Int32) = i3 (O.2.1 : Int) := by rw [l3_1, i3_sub, Int.add_sub_cancel]
  have ea : i3 (O.2.1 : Int) + (1 : Int32) = i3 ((O.2.1 : Int) + 1) := by rw [l3_1, i3_add]
  refine ⟨addO O z, sM (sG L (8 * O.2.1) (i3 z)) 0 (i3 ((O.2.1 : Int) + 1)), ?_, ⟨⟨_, hT2⟩, by show O.2.1 + 1 ≤ 3; omega, by show 0 ≤ O.1 ∧ O.1 ≤ b + 8 ∧ b + 8 ≤ 400; omega, m1, fun t htn => ?_, fun t t1 t2 => ?_⟩, by show 1 ≤ O.2.1 + 1; omega⟩
  · rw [e1, Option.bind_some, ck_pos z1]
    simp only [z0, hm, ck_pos b0, x0, nmv_eq, ck_pos z1, m0, ea, qa, Option.bind_some, m1, es, nI_i3, qw, qs]
    rw [if_pos trivial, if_pos trivial, if_pos trivial, Option.bind_some]
  · have u : ∀ i, (sM (sG L (8 * O.2.1) (i3 z)) 0 (i3 ((O.2.1 : Int) + 1))).2.2.1 i = if i = 8 * O.2.1 then i3 z else L.2.2.1 i := fun i => rfl
    show aM (if t = O.2.1 then newA z else O.2.2 t) ≤ 20 ∧ ShS (if t = O.2.1 then newA z else O.2.2 t) _ t
    have htn2 : t < O.2.1 + 1 := htn
    by_cases c : t = O.2.1
    · subst c
      rw [if_pos rfl]
      obtain ⟨a1, a2, a3, a4, a5⟩ := hz O.2.1 (Nat.le_refl _) hn
      refine ⟨Nat.zero_le _, ?_, ?_, ?_, ?_, ?_, ?_, fun k hk => absurd hk (Nat.not_lt_zero _), fun j hj => absurd hj (Nat.not_lt_zero _)⟩
      · rw [u, if_pos rfl]; rfl
      · rw [u, if_neg (by omega), a1]; rfl
      · rw [u, if_neg (by omega), a2]; rfl
      · rw [u, if_neg (by omega), a3]; rfl
      · rw [u, if_neg (by omega), a4]; rfl
      · rw [u, if_neg (by omega), a5]; rfl
    · rw [if_neg c]
      have htn' : t < O.2.1 := by omega
      have hv2 := (hT.2.2.2.2 t htn').1
      exact ⟨(hst t htn').1, (hst t htn').2.keep hv2.2.2.2.1 (hst t htn').1 (fun q hq => by rw [u, if_neg (by omega)]) (fun _ _ => rfl) (fun _ _ => rfl)⟩
  · have t1' : O.2.1 + 1 ≤ t := t1
    have := hz t (by omega) t2
    have u : ∀ i, (sM (sG L (8 * O.2.1) (i3 z)) 0 (i3 ((O.2.1 : Int) + 1))).2.2.1 i = if i = 8 * O.2.1 then i3 z else L.2.2.1 i := fun i => rfl
    rw [u, u, u, u, u, if_neg (by omega), if_neg (by omega), if_neg (by omega), if_neg (by omega), if_neg (by omega)]
    exact this
theorem shl_m1 : ∀ n, n < 4 → 1 ≤ n → ((1 : Int32) <<< (i3 (n : Nat) &&& 31)) - (1 : Int32) = i3 ((2 ^ n - 1 : Nat) : Int) := by decide +kernel
theorem st_tail {xs : Nat → Int32} {NN fu nn : Nat} {O : Ob} {L : LW} {b v x : Int} (h : Inv O L b) (hn : 1 ≤ O.2.1) (hv : 0 ≤ v ∧ v < 100000000) (hx : 0 ≤ x ∧ x < 2147483648) (hnn : nn ≤ 45) : (ck (inb ((0 : Int32)) 1) (ck (¬ (L.2.2.2 ((0 : Int32)).toNatClampNeg) = 0) (nmv ((i3 v) - (i3 v) / (L.2.2.2 ((0 : Int32)).toNatClampNeg) * (L.2.2.2 ((0 : Int32)).toNatClampNeg)) (fun (v381 : Int32) => (if (1 : Int32) = 0 then some ((0 : Int32)) else (f_L_isMiddle v381 O L).bind (fun (r392 : Int32) => if r392 = 0 then some ((0 : Int32)) else (f_L_isUsual v381 O L).bind (fun (r397 : Int32) => if r397 = 0 then some ((0 : Int32)) else (f_L_areForecasts v381 ((i3 v) / ((5 : Int32))) O L).bind (fun (r402 : Int32) => if r402 = 0 then some ((0 : Int32)) else if 0 < ((i3 (nn : Int)) - (i3 (nn : Int)) / ((9 : Int32)) * ((9 : Int32))) then if 0 < ((i3 (nn : Int)) - (i3 (nn : Int)) / ((15 : Int32)) * ((15 : Int32))) then some ((1 : Int32)) else (f_L_isRefused ((i3 x) / ((3 : Int32))) O L).bind (fun (r409 : Int32) => if r409 = 0 then some ((0 : Int32)) else some ((1 : Int32))) else ck (inb ((0 : Int32)) 1) (ck (¬ ((((1 : Int32)) <<< ((L.2.2.2 ((0 : Int32)).toNatClampNeg) &&& 31)) - ((1 : Int32))) = 0) ((f_L_isPool (((1 : Int32)) + (((i3 v) / ((11 : Int32))) - ((i3 v) / ((11 : Int32))) / ((((1 : Int32)) <<< ((L.2.2.2 ((0 : Int32)).toNatClampNeg) &&& 31)) - ((1 : Int32))) * ((((1 : Int32)) <<< ((L.2.2.2 ((0 : Int32)).toNatClampNeg) &&& 31)) - ((1 : Int32))))) O L).bind (fun (r416 : Int32) => if r416 = 0 then some ((0 : Int32)) else if 0 < ((i3 (nn : Int)) - (i3 (nn : Int)) / ((15 : Int32)) * ((15 : Int32))) then some ((1 : Int32)) else (f_L_isRefused ((i3 x) / ((3 : Int32))) O L).bind (fun (r422 : Int32) => if r422 = 0 then some ((0 : Int32)) else some ((1 : Int32)))))))))).bind (fun (r383 : Int32) => nmv ((i3 (nn : Int)) + (1 : Int32)) (fun (v424 : Int32) => f_L_law_59 xs NN fu r383 v424 O L)))))) = f_L_law_59 xs NN fu (1 : Int32) (i3 ((nn + 1 : Nat) : Int)) O L := by
  have hn3 := h.2.1
  have ht := h.2.2.1
  have hm := h.2.2.2.1
  have h8 : O.2.1 ≤ 8 := by omega
  obtain ⟨s, e1, s1, s2⟩ := em_ex (x := v) (y := (O.2.1 : Int)) (by omega) (by omega) (by omega) (by omega)
  obtain ⟨sn, rfl⟩ : ∃ k : Nat, s = (k : Int) := ⟨s.toNat, by omega⟩
  have hs : sn < O.2.1 := by omega
  obtain ⟨hS, hf⟩ := h.sto hs
  obtain ⟨v5, f1, f2, f3⟩ := ed_ex (x := v) (y := 5) (by omega) (by omega) (by omega) (by omega)
  obtain ⟨v11, g1, g2, g3⟩ := ed_ex (x := v) (y := 11) (by omega) (by omega) (by omega) (by omega)
  obtain ⟨x3, k1, k2, k3⟩ := ed_ex (x := x) (y := 3) (by omega) (by omega) (by omega) (by omega)
  have hp : 2 ^ O.2.1 ≤ 2 ^ 3 := Nat.pow_le_pow_right (by decide) hn3
  have hp1 : 2 ^ 1 ≤ 2 ^ O.2.1 := Nat.pow_le_pow_right (by decide) hn
  obtain ⟨pp, p1, p2, p3⟩ := em_ex (x := v11) (y := ((2 ^ O.2.1 - 1 : Nat) : Int)) (by omega) (by omega) (by omega) (by omega)
  have hmid := p_isMiddle hs h8 hS hf
  have hus := p_isUsual hs h8 hS hf
  have hfo := p_areForecasts (x := v5) hs h8 hS hf (by omega)
  obtain ⟨pn, epn⟩ : ∃ k : Nat, 1 + pp = (k : Int) := ⟨(1 + pp).toNat, by omega⟩
  have hpo := p_isPool (p := pn) hn3 hm (by omega) (by omega) ⟨ht.1, by omega⟩ (fun t q => h.sto q)
  have hre := p_isRefused (x := x3) hn3 hm ⟨ht.1, by omega⟩ (by omega)
  have esh := shl_m1 O.2.1 (by omega) hn
  have epx : (1 : Int32) + i3 pp = i3 (pn : Int) := by rw [l3_1, i3_add, epn]
  have en : i3 (nn : Int) + (1 : Int32) = i3 ((nn + 1 : Nat) : Int) := by rw [l3_1, i3_add]; rfl
  have f1' : i3 v / (5 : Int32) = i3 v5 := by rw [l3_5]; exact f1
  have g1' : i3 v / (11 : Int32) = i3 v11 := by rw [l3_11]; exact g1
  have k1' : i3 x / (3 : Int32) = i3 x3 := by rw [l3_3]; exact k1
  rw [ck_pos z1]
  simp only [z0, hm]
  rw [ck_pos (by rw [l3_0, i3_eq (by omega) (by omega) (by omega) (by omega)]; omega), nmv_eq, e1, if_neg (show ¬ (1 : Int32) = 0 by decide), hmid, Option.bind_some, if_neg (show ¬ (1 : Int32) = 0 by decide), hus, Option.bind_some, if_neg (show ¬ (1 : Int32) = 0 by decide), f1', hfo, Option.bind_some, if_neg (show ¬ (1 : Int32) = 0 by decide), k1', hre, Option.bind_some, if_neg (show ¬ (1 : Int32) = 0 by decide), esh, g1', p1, epx, hpo, Option.bind_some, if_neg (show ¬ (1 : Int32) = 0 by decide)]
  have nz : ¬ i3 ((2 ^ O.2.1 - 1 : Nat) : Int) = 0 := by rw [l3_0, i3_eq (by omega) (by omega) (by omega) (by omega)]; omega
  rw [ck_pos z1, ck_pos nz]
  have : ∀ c1 c2 : Prop, ∀ [Decidable c1] [Decidable c2], (if c1 then if c2 then some (1 : Int32) else some 1 else if c2 then some 1 else some 1) = some 1 := by
    intro c1 c2 _ _
    split <;> split <;> rfl
  rw [this, Option.bind_some, nmv_eq, en]
