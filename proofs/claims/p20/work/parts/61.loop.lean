/-! The law's loop comes to its end with 1 -/
theorem bindw {α β : Type} {e : Option α} {K : α → Option β} {R : Option β} (y : α) (h1 : e = some y) (h2 : K y = R) : e.bind K = R := by
  subst h1; exact h2
theorem st_all {O : Ob} {L : LW} {b v how : Int} {s : Nat} (h : Inv O L b) (hb : b + 8 ≤ 400) (hv : 0 ≤ v ∧ v < 100000000) (hh : 0 ≤ how ∧ how < 32) (hs : O.2.1 = 0 ∨ s < O.2.1) : ∃ O2 L2, (if (L.2.2.2 ((0 : Int32)).toNatClampNeg) = 0 then (if ((i3 v) - (i3 v) / ((3 : Int32)) * ((3 : Int32))) = 0 then some (((1 : Int32)) + (((i3 v) / ((3 : Int32))) - ((i3 v) / ((3 : Int32))) / ((1000000 : Int32)) * ((1000000 : Int32)))) else some (((500 : Int32)) + (((i3 v) / ((3 : Int32))) - ((i3 v) / ((3 : Int32))) / ((3000 : Int32)) * ((3000 : Int32))))).bind (fun (r49 : Int32) => ck (inb ((0 : Int32)) 1) (ck (inb (((8 : Int32)) * (L.2.2.2 ((0 : Int32)).toNatClampNeg)) 24) (nmv (sG L (((8 : Int32)) * (L.2.2.2 ((0 : Int32)).toNatClampNeg)).toNatClampNeg r49) (fun (L57 : LW) => ck (inb ((0 : Int32)) 1) (ck (inb ((0 : Int32)) 1) (nmv (sM L57 ((0 : Int32)).toNatClampNeg ((L57.2.2.2 ((0 : Int32)).toNatClampNeg) + ((1 : Int32)))) (fun (L60 : LW) => (qa_addStore r49 O).bind (fun ((r64, O65) : Int32 × Ob) => ck (inb ((0 : Int32)) 1) ((if r64 = ((L60.2.2.2 ((0 : Int32)).toNatClampNeg) - ((1 : Int32))) then ck (inb ((0 : Int32)) 1) ((q_warns ((L60.2.2.2 ((0 : Int32)).toNatClampNeg) - ((1 : Int32))) O65).bind (fun (r77 : Int32) => if r77 = 0 then ck (inb ((0 : Int32)) 1) ((q_samples ((L60.2.2.2 ((0 : Int32)).toNatClampNeg) - ((1 : Int32))) O65).bind (fun (r83 : Int32) => if r83 = 0 then some ((1 : Int32)) else some ((0 : Int32)))) else some ((0 : Int32)))) else some ((0 : Int32))).bind (fun (r70 : Int32) => some (r70, O65, L60))))))))))) else if (i3 how) = 0 then ck (inb ((0 : Int32)) 1) (if ((3 : Int32)) ≤ (L.2.2.2 ((0 : Int32)).toNatClampNeg) then if (i3 how) = ((1 : Int32)) then ck (inb (((8 : Int32)) * (i3 (s : Int))) 24) (nmv (L.2.2.1 (((8 : Int32)) * (i3 (s : Int))).toNatClampNeg) (fun (v316 : Int32) => (if ((i3 v) - (i3 v) / ((3 : Int32)) * ((3 : Int32))) = 0 then some (((1 : Int32)) + (((i3 v) / ((9 : Int32))) - ((i3 v) / ((9 : Int32))) / ((1000000 : Int32)) * ((1000000 : Int32)))) else some (((500 : Int32)) + (((i3 v) / ((9 : Int32))) - ((i3 v) / ((9 : Int32))) / ((3000 : Int32)) * ((3000 : Int32))))).bind (fun (r318 : Int32) => ck (inb (((8 : Int32)) * (i3 (s : Int))) 24) (nmv (sG L (((8 : Int32)) * (i3 (s : Int))).toNatClampNeg r318) (fun (L325 : LW) => ck (inb (((8 : Int32)) * (i3 (s : Int))) 24) ((qa_setSize (i3 (s : Int)) (L325.2.2.1 (((8 : Int32)) * (i3 (s : Int))).toNatClampNeg) O).bind (fun ((r330, O331) : Int32 × Ob) => (if r330 = v316 then some ((1 : Int32)) else some ((0 : Int32))).bind (fun (r333 : Int32) => some (r333, O331, L325))))))))) else if ((14 : Int32)) ≤ (i3 how) then if ((17 : Int32)) ≤ (i3 how) then if (i3 how) = ((17 : Int32)) then (if ((i3 v) - (i3 v) / ((3 : Int32)) * ((3 : Int32))) = 0 then some ((3001 : Int32)) else some ((60 : Int32))).bind (fun (r233 : Int32) => ck (¬ r233 = 0) (ck (inb ((((8 : Int32)) * (i3 (s : Int))) + ((3 : Int32))) 24) (nmv (sG L ((((8 : Int32)) * (i3 (s : Int))) + ((3 : Int32))).toNatClampNeg ((i3 v) - (i3 v) / r233 * r233)) (fun (L241 : LW) => (if ((i3 v) - (i3 v) / ((4 : Int32)) * ((4 : Int32))) = 0 then some ((101 : Int32)) else some ((20 : Int32))).bind (fun (r243 : Int32) => ck (¬ r243 = 0) (ck (inb ((((8 : Int32)) * (i3 (s : Int))) + ((4 : Int32))) 24) (nmv (sG L241 ((((8 : Int32)) * (i3 (s : Int))) + ((4 : Int32))).toNatClampNeg (((i3 v) / ((7 : Int32))) - ((i3 v) / ((7 : Int32))) / r243 * r243)) (fun (L251 : LW) => ck (inb ((((8 : Int32)) * (i3 (s : Int))) + ((3 : Int32))) 24) (ck (inb ((((8 : Int32)) * (i3 (s : Int))) + ((4 : Int32))) 24) ((qa_setRule (i3 (s : Int)) (L251.2.2.1 ((((8 : Int32)) * (i3 (s : Int))) + ((3 : Int32))).toNatClampNeg) (L251.2.2.1 ((((8 : Int32)) * (i3 (s : Int))) + ((4 : Int32))).toNatClampNeg) O).bind (fun (O257 : Ob) => (if ((0 : Int32)) = 0 then some ((1 : Int32)) else some ((0 : Int32))).bind (fun (r259 : Int32) => some (r259, O257, L251))))))))))))) else (if (i3 how) ≤ ((29 : Int32)) then some ((1 : Int32)) else some (((1 : Int32)) + ((i3 v) - (i3 v) / ((8 : Int32)) * ((8 : Int32))))).bind (fun (r220 : Int32) => (f_L_isPassed r220 O L).bind (fun ((r229, O230, L231) : Int32 × Ob × LW) => some (r229, O230, L231))) else (if ((i3 v) - (i3 v) / ((4 : Int32)) * ((4 : Int32))) = 0 then some (((1 : Int32)) + (((i3 v) / ((4 : Int32))) - ((i3 v) / ((4 : Int32))) / ((100000 : Int32)) * ((100000 : Int32)))) else some (((1 : Int32)) + (((i3 v) / ((4 : Int32))) - ((i3 v) / ((4 : Int32))) / ((300 : Int32)) * ((300 : Int32))))).bind (fun (r266 : Int32) => ck (inb ((((8 : Int32)) * (i3 (s : Int))) + ((2 : Int32))) 24) ((if ((20 : Int32)) ≤ (L.2.2.1 ((((8 : Int32)) * (i3 (s : Int))) + ((2 : Int32))).toNatClampNeg) then some ((1 : Int32), O, L) else ck (inb ((((8 : Int32)) * (i3 (s : Int))) + ((2 : Int32))) 24) (ck (inb ((((20 : Int32)) * (i3 (s : Int))) + (L.2.2.1 ((((8 : Int32)) * (i3 (s : Int))) + ((2 : Int32))).toNatClampNeg)) 60) (nmv (sC L ((((20 : Int32)) * (i3 (s : Int))) + (L.2.2.1 ((((8 : Int32)) * (i3 (s : Int))) + ((2 : Int32))).toNatClampNeg)).toNatClampNeg (((q_today O).toInt64) ||| (r266.toInt64 <<< (((11 : Int32)).toInt64 &&& 63)))) (fun (L284 : LW) => ck (inb ((((8 : Int32)) * (i3 (s : Int))) + ((2 : Int32))) 24) (ck (inb ((((8 : Int32)) * (i3 (s : Int))) + ((2 : Int32))) 24) (nmv (sG L284 ((((8 : Int32)) * (i3 (s : Int))) + ((2 : Int32))).toNatClampNeg ((L284.2.2.1 ((((8 : Int32)) * (i3 (s : Int))) + ((2 : Int32))).toNatClampNeg) + ((1 : Int32)))) (fun (L287 : LW) => (qa_clean (i3 (s : Int)) r266 O).bind (fun ((r291, O292) : Int32 × Ob) => ck (inb ((((8 : Int32)) * (i3 (s : Int))) + ((2 : Int32))) 24) ((if r291 = (L287.2.2.1 ((((8 : Int32)) * (i3 (s : Int))) + ((2 : Int32))).toNatClampNeg) then some ((1 : Int32)) else some ((0 : Int32))).bind (fun (r295 : Int32) => some (r295, O292, L287))))))))))).bind (fun ((r274, O275, L276) : Int32 × Ob × LW) => some (r274, O275, L276)))) else (if ((i3 v) - (i3 v) / ((9 : Int32)) * ((9 : Int32))) = 0 then some (((i3 v) / ((9 : Int32))) - ((i3 v) / ((9 : Int32))) / ((1000001 : Int32)) * ((1000001 : Int32))) else if ((6 : Int32)) ≤ ((i3 v) - (i3 v) / ((9 : Int32)) * ((9 : Int32))) then some (((i3 v) / ((9 : Int32))) - ((i3 v) / ((9 : Int32))) / ((3000 : Int32)) * ((3000 : Int32))) else some ((((200 : Int32)) + ((((20 : Int32)) * (q_today O)) - (((20 : Int32)) * (q_today O)) / ((3000 : Int32)) * ((3000 : Int32)))) + (((i3 v) / ((99 : Int32))) - ((i3 v) / ((99 : Int32))) / ((60 : Int32)) * ((60 : Int32))))).bind (fun (r302 : Int32) => (f_L_isSampled (i3 (s : Int)) r302 O L).bind (fun ((r312, O313, L314) : Int32 × Ob × LW) => some (r312, O313, L314))) else (if ((i3 v) - (i3 v) / ((3 : Int32)) * ((3 : Int32))) = 0 then some (((1 : Int32)) + (((i3 v) / ((3 : Int32))) - ((i3 v) / ((3 : Int32))) / ((1000000 : Int32)) * ((1000000 : Int32)))) else some (((500 : Int32)) + (((i3 v) / ((3 : Int32))) - ((i3 v) / ((3 : Int32))) / ((3000 : Int32)) * ((3000 : Int32))))).bind (fun (r340 : Int32) => ck (inb ((0 : Int32)) 1) (ck (inb (((8 : Int32)) * (L.2.2.2 ((0 : Int32)).toNatClampNeg)) 24) (nmv (sG L (((8 : Int32)) * (L.2.2.2 ((0 : Int32)).toNatClampNeg)).toNatClampNeg r340) (fun (L348 : LW) => ck (inb ((0 : Int32)) 1) (ck (inb ((0 : Int32)) 1) (nmv (sM L348 ((0 : Int32)).toNatClampNeg ((L348.2.2.2 ((0 : Int32)).toNatClampNeg) + ((1 : Int32)))) (fun (L351 : LW) => (qa_addStore r340 O).bind (fun ((r355, O356) : Int32 × Ob) => ck (inb ((0 : Int32)) 1) ((if r355 = ((L351.2.2.2 ((0 : Int32)).toNatClampNeg) - ((1 : Int32))) then ck (inb ((0 : Int32)) 1) ((q_warns ((L351.2.2.2 ((0 : Int32)).toNatClampNeg) - ((1 : Int32))) O356).bind (fun (r368 : Int32) => if r368 = 0 then ck (inb ((0 : Int32)) 1) ((q_samples ((L351.2.2.2 ((0 : Int32)).toNatClampNeg) - ((1 : Int32))) O356).bind (fun (r374 : Int32) => if r374 = 0 then some ((1 : Int32)) else some ((0 : Int32)))) else some ((0 : Int32)))) else some ((0 : Int32))).bind (fun (r361 : Int32) => some (r361, O356, L351)))))))))))) else if (i3 how) = ((1 : Int32)) then ck (inb (((8 : Int32)) * (i3 (s : Int))) 24) (nmv (L.2.2.1 (((8 : Int32)) * (i3 (s : Int))).toNatClampNeg) (fun (v190 : Int32) => (if ((i3 v) - (i3 v) / ((3 : Int32)) * ((3 : Int32))) = 0 then some (((1 : Int32)) + (((i3 v) / ((9 : Int32))) - ((i3 v) / ((9 : Int32))) / ((1000000 : Int32)) * ((1000000 : Int32)))) else some (((500 : Int32)) + (((i3 v) / ((9 : Int32))) - ((i3 v) / ((9 : Int32))) / ((3000 : Int32)) * ((3000 : Int32))))).bind (fun (r192 : Int32) => ck (inb (((8 : Int32)) * (i3 (s : Int))) 24) (nmv (sG L (((8 : Int32)) * (i3 (s : Int))).toNatClampNeg r192) (fun (L199 : LW) => ck (inb (((8 : Int32)) * (i3 (s : Int))) 24) ((qa_setSize (i3 (s : Int)) (L199.2.2.1 (((8 : Int32)) * (i3 (s : Int))).toNatClampNeg) O).bind (fun ((r204, O205) : Int32 × Ob) => (if r204 = v190 then some ((1 : Int32)) else some ((0 : Int32))).bind (fun (r207 : Int32) => some (r207, O205, L199))))))))) else if ((14 : Int32)) ≤ (i3 how) then if ((17 : Int32)) ≤ (i3 how) then if (i3 how) = ((17 : Int32)) then (if ((i3 v) - (i3 v) / ((3 : Int32)) * ((3 : Int32))) = 0 then some ((3001 : Int32)) else some ((60 : Int32))).bind (fun (r107 : Int32) => ck (¬ r107 = 0) (ck (inb ((((8 : Int32)) * (i3 (s : Int))) + ((3 : Int32))) 24) (nmv (sG L ((((8 : Int32)) * (i3 (s : Int))) + ((3 : Int32))).toNatClampNeg ((i3 v) - (i3 v) / r107 * r107)) (fun (L115 : LW) => (if ((i3 v) - (i3 v) / ((4 : Int32)) * ((4 : Int32))) = 0 then some ((101 : Int32)) else some ((20 : Int32))).bind (fun (r117 : Int32) => ck (¬ r117 = 0) (ck (inb ((((8 : Int32)) * (i3 (s : Int))) + ((4 : Int32))) 24) (nmv (sG L115 ((((8 : Int32)) * (i3 (s : Int))) + ((4 : Int32))).toNatClampNeg (((i3 v) / ((7 : Int32))) - ((i3 v) / ((7 : Int32))) / r117 * r117)) (fun (L125 : LW) => ck (inb ((((8 : Int32)) * (i3 (s : Int))) + ((3 : Int32))) 24) (ck (inb ((((8 : Int32)) * (i3 (s : Int))) + ((4 : Int32))) 24) ((qa_setRule (i3 (s : Int)) (L125.2.2.1 ((((8 : Int32)) * (i3 (s : Int))) + ((3 : Int32))).toNatClampNeg) (L125.2.2.1 ((((8 : Int32)) * (i3 (s : Int))) + ((4 : Int32))).toNatClampNeg) O).bind (fun (O131 : Ob) => (if ((0 : Int32)) = 0 then some ((1 : Int32)) else some ((0 : Int32))).bind (fun (r133 : Int32) => some (r133, O131, L125))))))))))))) else (if (i3 how) ≤ ((29 : Int32)) then some ((1 : Int32)) else some (((1 : Int32)) + ((i3 v) - (i3 v) / ((8 : Int32)) * ((8 : Int32))))).bind (fun (r94 : Int32) => (f_L_isPassed r94 O L).bind (fun ((r103, O104, L105) : Int32 × Ob × LW) => some (r103, O104, L105))) else (if ((i3 v) - (i3 v) / ((4 : Int32)) * ((4 : Int32))) = 0 then some (((1 : Int32)) + (((i3 v) / ((4 : Int32))) - ((i3 v) / ((4 : Int32))) / ((100000 : Int32)) * ((100000 : Int32)))) else some (((1 : Int32)) + (((i3 v) / ((4 : Int32))) - ((i3 v) / ((4 : Int32))) / ((300 : Int32)) * ((300 : Int32))))).bind (fun (r140 : Int32) => ck (inb ((((8 : Int32)) * (i3 (s : Int))) + ((2 : Int32))) 24) ((if ((20 : Int32)) ≤ (L.2.2.1 ((((8 : Int32)) * (i3 (s : Int))) + ((2 : Int32))).toNatClampNeg) then some ((1 : Int32), O, L) else ck (inb ((((8 : Int32)) * (i3 (s : Int))) + ((2 : Int32))) 24) (ck (inb ((((20 : Int32)) * (i3 (s : Int))) + (L.2.2.1 ((((8 : Int32)) * (i3 (s : Int))) + ((2 : Int32))).toNatClampNeg)) 60) (nmv (sC L ((((20 : Int32)) * (i3 (s : Int))) + (L.2.2.1 ((((8 : Int32)) * (i3 (s : Int))) + ((2 : Int32))).toNatClampNeg)).toNatClampNeg (((q_today O).toInt64) ||| (r140.toInt64 <<< (((11 : Int32)).toInt64 &&& 63)))) (fun (L158 : LW) => ck (inb ((((8 : Int32)) * (i3 (s : Int))) + ((2 : Int32))) 24) (ck (inb ((((8 : Int32)) * (i3 (s : Int))) + ((2 : Int32))) 24) (nmv (sG L158 ((((8 : Int32)) * (i3 (s : Int))) + ((2 : Int32))).toNatClampNeg ((L158.2.2.1 ((((8 : Int32)) * (i3 (s : Int))) + ((2 : Int32))).toNatClampNeg) + ((1 : Int32)))) (fun (L161 : LW) => (qa_clean (i3 (s : Int)) r140 O).bind (fun ((r165, O166) : Int32 × Ob) => ck (inb ((((8 : Int32)) * (i3 (s : Int))) + ((2 : Int32))) 24) ((if r165 = (L161.2.2.1 ((((8 : Int32)) * (i3 (s : Int))) + ((2 : Int32))).toNatClampNeg) then some ((1 : Int32)) else some ((0 : Int32))).bind (fun (r169 : Int32) => some (r169, O166, L161))))))))))).bind (fun ((r148, O149, L150) : Int32 × Ob × LW) => some (r148, O149, L150)))) else (if ((i3 v) - (i3 v) / ((9 : Int32)) * ((9 : Int32))) = 0 then some (((i3 v) / ((9 : Int32))) - ((i3 v) / ((9 : Int32))) / ((1000001 : Int32)) * ((1000001 : Int32))) else if ((6 : Int32)) ≤ ((i3 v) - (i3 v) / ((9 : Int32)) * ((9 : Int32))) then some (((i3 v) / ((9 : Int32))) - ((i3 v) / ((9 : Int32))) / ((3000 : Int32)) * ((3000 : Int32))) else some ((((200 : Int32)) + ((((20 : Int32)) * (q_today O)) - (((20 : Int32)) * (q_today O)) / ((3000 : Int32)) * ((3000 : Int32)))) + (((i3 v) / ((99 : Int32))) - ((i3 v) / ((99 : Int32))) / ((60 : Int32)) * ((60 : Int32))))).bind (fun (r176 : Int32) => (f_L_isSampled (i3 (s : Int)) r176 O L).bind (fun ((r186, O187, L188) : Int32 × Ob × LW) => some (r186, O187, L188)))) = some ((1 : Int32), O2, L2) ∧ Inv O2 L2 (b + 8) ∧ 1 ≤ O2.2.1 := by
  have hn3 := h.2.1
  have hm : L.2.2.2 ((0 : Int32).toNatClampNeg) = i3 (O.2.1 : Int) := by rw [z0]; exact h.2.2.2.1
  have c1 : ∀ z : Int, -2147483648 ≤ z → z < 2147483648 → (i3 how = i3 z) = (how = z) := fun z a b => i3_eq (by omega) (by omega) a b
  have c2 : ∀ z : Int, -2147483648 ≤ z → z < 2147483648 → (i3 z ≤ i3 how) = (z ≤ how) := fun z a b => i3_le a b (by omega) (by omega)
  by_cases n0 : O.2.1 = 0
  · have k : L.2.2.2 ((0 : Int32).toNatClampNeg) = 0 := by rw [hm, n0]; rfl
    obtain ⟨O2, L2, e, h1, h2⟩ := st_add h hb hv (by omega)
    refine ⟨O2, L2, ?_, h1, h2⟩
    rw [if_pos k]
    exact e
  · have k : ¬ L.2.2.2 ((0 : Int32).toNatClampNeg) = 0 := by
      rw [hm, l3_0, i3_eq (by omega) (by omega) (by omega) (by omega)]; omega
    have hs2 : s < O.2.1 := by omega
    by_cases h0 : how = 0
    · have k0 : i3 how = (0 : Int32) := by rw [h0]; rfl
      by_cases n3 : O.2.1 < 3
      · have k3 : ¬ (3 : Int32) ≤ L.2.2.2 ((0 : Int32).toNatClampNeg) := by
          rw [hm, l3_3, i3_le (by omega) (by omega) (by omega) (by omega)]; omega
        obtain ⟨O2, L2, e, h1, h2⟩ := st_add h hb hv n3
        refine ⟨O2, L2, ?_, h1, h2⟩
        rw [if_neg k, if_pos k0, ck_pos z1, if_neg k3]
        exact e
      · have k3 : (3 : Int32) ≤ L.2.2.2 ((0 : Int32).toNatClampNeg) := by
          rw [hm, l3_3, i3_le (by omega) (by omega) (by omega) (by omega)]; omega
        have k1 : ¬ i3 how = (1 : Int32) := by rw [l3_1, c1 _ (by omega) (by omega)]; omega
        have k14 : ¬ (14 : Int32) ≤ i3 how := by rw [l3_14, c2 _ (by omega) (by omega)]; omega
        obtain ⟨O2, L2, e, h1, h2⟩ := st_sample h hb hv hs2
        refine ⟨O2, L2, ?_, h1, by omega⟩
        rw [if_neg k, if_pos k0, ck_pos z1, if_pos k3, if_neg k1, if_neg k14]
        exact e
    · have k0 : ¬ i3 how = (0 : Int32) := by rw [l3_0, c1 _ (by omega) (by omega)]; exact h0
      by_cases h1' : how = 1
      · have k1 : i3 how = (1 : Int32) := by rw [h1']; rfl
        obtain ⟨O2, L2, e, h1, h2⟩ := st_size h hb hv hs2
        refine ⟨O2, L2, ?_, h1, by omega⟩
        rw [if_neg k, if_neg k0, if_pos k1]
        exact e
      · have k1 : ¬ i3 how = (1 : Int32) := by rw [l3_1, c1 _ (by omega) (by omega)]; exact h1'
        by_cases h14 : 14 ≤ how
        · have k14 : (14 : Int32) ≤ i3 how := by rw [l3_14, c2 _ (by omega) (by omega)]; exact h14
          by_cases h17 : 17 ≤ how
          · have k17 : (17 : Int32) ≤ i3 how := by rw [l3_17, c2 _ (by omega) (by omega)]; exact h17
            by_cases he : how = 17
            · have ke : i3 how = (17 : Int32) := by rw [he]; rfl
              obtain ⟨O2, L2, e, h1, h2⟩ := st_rule h hb hv hs2
              refine ⟨O2, L2, ?_, h1, by omega⟩
              rw [if_neg k, if_neg k0, if_neg k1, if_pos k14, if_pos k17, if_pos ke]
              exact e
            · have ke : ¬ i3 how = (17 : Int32) := by rw [l3_17, c1 _ (by omega) (by omega)]; exact he
              obtain ⟨O2, L2, e, h1, h2⟩ := st_pass (v := v) h hb hv hh
              refine ⟨O2, L2, ?_, h1, by omega⟩
              rw [if_neg k, if_neg k0, if_neg k1, if_pos k14, if_pos k17, if_neg ke]
              exact e
          · have k17 : ¬ (17 : Int32) ≤ i3 how := by rw [l3_17, c2 _ (by omega) (by omega)]; exact h17
            obtain ⟨O2, L2, e, h1, h2⟩ := st_clean h hb hv hs2
            refine ⟨O2, L2, ?_, h1, by omega⟩
            rw [if_neg k, if_neg k0, if_neg k1, if_pos k14, if_neg k17]
            exact e
        · have k14 : ¬ (14 : Int32) ≤ i3 how := by rw [l3_14, c2 _ (by omega) (by omega)]; exact h14
          obtain ⟨O2, L2, e, h1, h2⟩ := st_sample h hb hv hs2
          refine ⟨O2, L2, ?_, h1, by omega⟩
          rw [if_neg k, if_neg k0, if_neg k1, if_neg k14]
          exact e
theorem p_loop {xs : Nat → Int32} {NN : Nat} (hN : NN ≤ 260) : ∀ (fuel nn : Nat) (O : Ob) (L : LW), 45 < nn + fuel → nn ≤ 45 → Inv O L (8 * (nn : Int)) → ∃ O2 L2, f_L_law_59 xs NN fuel (1 : Int32) (i3 (nn : Int)) O L = some ((1 : Int32), O2, L2) := by
  intro fuel
  induction fuel with
  | zero => intro nn O L h1 h2; omega
  | succ fuel ih =>
    intro nn O L h1 h2 hI
    by_cases c : nn = 45
    · subst c
      refine ⟨O, L, ?_⟩
      rw [f_L_law_59, if_pos (by decide)]
    · obtain ⟨x, ed, x1, x2⟩ := p_dice (xs := xs) hN h2
      have ev : i3 x / (32 : Int32) = i3 (x / 32) := by rw [show (32 : Int32) = i3 32 from by decide, i3_div (by omega) (by omega) (by omega) (by omega)]
      have eh : i3 x - i3 (x / 32) * (32 : Int32) = i3 (x % 32) := by
        rw [show (32 : Int32) = i3 32 from by decide, i3_mul, i3_sub, Int.emod_def, Int.mul_comm (x / 32)]
      have hv : 0 ≤ x / 32 ∧ x / 32 < 100000000 := by omega
      have hh : 0 ≤ x % 32 ∧ x % 32 < 32 := by omega
      generalize x / 32 = v at *
      generalize x % 32 = how at *
      have hn3 := hI.2.1
      have hm : L.2.2.2 ((0 : Int32).toNatClampNeg) = i3 (O.2.1 : Int) := by rw [z0]; exact hI.2.2.2.1
      have e30 : ∃ s : Nat, (if (L.2.2.2 ((0 : Int32)).toNatClampNeg) = 0 then some ((0 : Int32)) else ck (inb ((0 : Int32)) 1) (ck (¬ (L.2.2.2 ((0 : Int32)).toNatClampNeg) = 0) (some (i3 v - i3 v / (L.2.2.2 ((0 : Int32)).toNatClampNeg) * (L.2.2.2 ((0 : Int32)).toNatClampNeg))))) = some (i3 (s : Int)) ∧ (O.2.1 = 0 ∨ s < O.2.1) := by
        by_cases n0 : O.2.1 = 0
        · exact ⟨0, by rw [if_pos (by rw [hm, n0]; rfl)]; rfl, Or.inl n0⟩
        · have k : ¬ L.2.2.2 ((0 : Int32).toNatClampNeg) = 0 := by
            rw [hm, l3_0, i3_eq (by omega) (by omega) (by omega) (by omega)]; omega
          obtain ⟨z, e1, e2, e3⟩ := em_ex (x := v) (y := (O.2.1 : Int)) (by omega) (by omega) (by omega) (by omega)
          refine ⟨z.toNat, ?_, Or.inr (by omega)⟩
          rw [if_neg k, ck_pos z1, ck_pos k, hm, e1]
          congr 2
          omega
      obtain ⟨s, e30, hs⟩ := e30
      obtain ⟨O1, L1, es, hI1, hn1⟩ := st_all hI (by omega) hv hh hs
      obtain ⟨O2, L2, w⟩ := ih (nn + 1) O1 L1 (by omega) (by omega) (by rw [show 8 * ((nn + 1 : Nat) : Int) = 8 * (nn : Int) + 8 by omega]; exact hI1)
      refine ⟨O2, L2, ?_⟩
      rw [f_L_law_59, if_neg (by rw [show (45 : Int32) = i3 45 from by decide, i3_le (by omega) (by omega) (by omega) (by omega)]; omega), if_neg (by decide), ed, Option.bind_some, nmv_eq, nmv_eq, ev, eh, ck_pos z1, e30, Option.bind_some, ck_pos z1]
      refine bindw ((1 : Int32), O1, L1) es ?_
      exact (st_tail (fu := fuel) hI1 hn1 hv ⟨x1, x2⟩ h2).trans w
def O00 : Ob := (0, 0, fun _ => newA 1)
def L00 : LW := (fun _ => 0, fun _ => 0, fun _ => 0, fun _ => 0)
theorem Rl00 : RlT T00 O00 := ⟨rfl, by decide, by decide, rfl, fun s hs => absurd hs (Nat.not_lt_zero s)⟩
theorem Inv00 : Inv O00 L00 0 := ⟨⟨T00, Rl00⟩, by decide, by decide, rfl, fun s hs => absurd hs (Nat.not_lt_zero s), fun _ _ _ => ⟨rfl, rfl, rfl, rfl, rfl⟩⟩
theorem law_num {xs : Nat → Int32} {NN : Nat} (hN : NN ≤ 260) : f_L_isRefused (0 : Int32) O00 L00 = some 1 ∧ f_L_isRefused (1 : Int32) O00 L00 = some 1 ∧ f_L_law xs NN O00 L00 (1 : Int32) (0 : Int32) = some 1 := by
  refine ⟨?_, ?_, ?_⟩
  · rw [l3_0]; exact p_isRefused (by decide) rfl (by decide) (by omega)
  · rw [show f_L_isRefused (1 : Int32) O00 L00 = f_L_isRefused (i3 1) O00 L00 from by rw [← l3_1]]
    exact p_isRefused (by decide) rfl (by decide) (by omega)
  · obtain ⟨O2, L2, w⟩ := p_loop (xs := xs) hN 46 0 O00 L00 (by omega) (by omega) Inv00
    have w' : f_L_law_59 xs NN 46 (1 : Int32) (0 : Int32) O00 L00 = some ((1 : Int32), O2, L2) := w
    unfold f_L_law
    rw [w', Option.bind_some]
