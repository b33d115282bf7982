noncomputable def f_L_law_59 (xs : Nat → Int32) (NN : Nat) : Nat → Int32 → Int32 → Ob → LW → Option (Int32 × Ob × LW)
  | 0, _, _, _, _ => none
  | n12+1, x1, x2, O3, L4 => if ((45 : Int32)) ≤ x2 then some (x1, O3, L4) else if x1 = 0 then some (x1, O3, L4) else (f_L_dice xs NN x2).bind (fun (r24 : Int32) => nmv (r24 / ((32 : Int32))) (fun (v26 : Int32) => nmv (r24 - r24 / ((32 : Int32)) * ((32 : Int32))) (fun (v27 : Int32) => ck (inb ((0 : Int32)) 1) ((if (L4.2.2.2 ((0 : Int32)).toNatClampNeg) = 0 then some ((0 : Int32)) else ck (inb ((0 : Int32)) 1) (ck (¬ (L4.2.2.2 ((0 : Int32)).toNatClampNeg) = 0) (some (v26 - v26 / (L4.2.2.2 ((0 : Int32)).toNatClampNeg) * (L4.2.2.2 ((0 : Int32)).toNatClampNeg))))).bind (fun (r30 : Int32) => ck (inb ((0 : Int32)) 1) ((if (L4.2.2.2 ((0 : Int32)).toNatClampNeg) = 0 then (if (v26 - v26 / ((3 : Int32)) * ((3 : Int32))) = 0 then some (((1 : Int32)) + ((v26 / ((3 : Int32))) - (v26 / ((3 : Int32))) / ((1000000 : Int32)) * ((1000000 : Int32)))) else some (((500 : Int32)) + ((v26 / ((3 : Int32))) - (v26 / ((3 : Int32))) / ((3000 : Int32)) * ((3000 : Int32))))).bind (fun (r49 : Int32) => ck (inb ((0 : Int32)) 1) (ck (inb (((8 : Int32)) * (L4.2.2.2 ((0 : Int32)).toNatClampNeg)) 24) (nmv (sG L4 (((8 : Int32)) * (L4.2.2.2 ((0 : Int32)).toNatClampNeg)).toNatClampNeg r49) (fun (L57 : LW) => ck (inb ((0 : Int32)) 1) (ck (inb ((0 : Int32)) 1) (nmv (sM L57 ((0 : Int32)).toNatClampNeg ((L57.2.2.2 ((0 : Int32)).toNatClampNeg) + ((1 : Int32)))) (fun (L60 : LW) => (qa_addStore r49 O3).bind (fun ((r64, O65) : Int32 × Ob) => ck (inb ((0 : Int32)) 1) ((if r64 = ((L60.2.2.2 ((0 : Int32)).toNatClampNeg) - ((1 : Int32))) then ck (inb ((0 : Int32)) 1) ((q_warns ((L60.2.2.2 ((0 : Int32)).toNatClampNeg) - ((1 : Int32))) O65).bind (fun (r77 : Int32) => if r77 = 0 then ck (inb ((0 : Int32)) 1) ((q_samples ((L60.2.2.2 ((0 : Int32)).toNatClampNeg) - ((1 : Int32))) O65).bind (fun (r83 : Int32) => if r83 = 0 then some ((1 : Int32)) else some ((0 : Int32)))) else some ((0 : Int32)))) else some ((0 : Int32))).bind (fun (r70 : Int32) => some (r70, O65, L60))))))))))) else if v27 = 0 then ck (inb ((0 : Int32)) 1) (if ((3 : Int32)) ≤ (L4.2.2.2 ((0 : Int32)).toNatClampNeg) then if v27 = ((1 : Int32)) then ck (inb (((8 : Int32)) * r30) 24) (nmv (L4.2.2.1 (((8 : Int32)) * r30).toNatClampNeg) (fun (v316 : Int32) => (if (v26 - v26 / ((3 : Int32)) * ((3 : Int32))) = 0 then some (((1 : Int32)) + ((v26 / ((9 : Int32))) - (v26 / ((9 : Int32))) / ((1000000 : Int32)) * ((1000000 : Int32)))) else some (((500 : Int32)) + ((v26 / ((9 : Int32))) - (v26 / ((9 : Int32))) / ((3000 : Int32)) * ((3000 : Int32))))).bind (fun (r318 : Int32) => ck (inb (((8 : Int32)) * r30) 24) (nmv (sG L4 (((8 : Int32)) * r30).toNatClampNeg r318) (fun (L325 : LW) => ck (inb (((8 : Int32)) * r30) 24) ((qa_setSize r30 (L325.2.2.1 (((8 : Int32)) * r30).toNatClampNeg) O3).bind (fun ((r330, O331) : Int32 × Ob) => (if r330 = v316 then some ((1 : Int32)) else some ((0 : Int32))).bind (fun (r333 : Int32) => some (r333, O331, L325))))))))) else if ((14 : Int32)) ≤ v27 then if ((17 : Int32)) ≤ v27 then if v27 = ((17 : Int32)) then (if (v26 - v26 / ((3 : Int32)) * ((3 : Int32))) = 0 then some ((3001 : Int32)) else some ((60 : Int32))).bind (fun (r233 : Int32) => ck (¬ r233 = 0) (ck (inb ((((8 : Int32)) * r30) + ((3 : Int32))) 24) (nmv (sG L4 ((((8 : Int32)) * r30) + ((3 : Int32))).toNatClampNeg (v26 - v26 / r233 * r233)) (fun (L241 : LW) => (if (v26 - v26 / ((4 : Int32)) * ((4 : Int32))) = 0 then some ((101 : Int32)) else some ((20 : Int32))).bind (fun (r243 : Int32) => ck (¬ r243 = 0) (ck (inb ((((8 : Int32)) * r30) + ((4 : Int32))) 24) (nmv (sG L241 ((((8 : Int32)) * r30) + ((4 : Int32))).toNatClampNeg ((v26 / ((7 : Int32))) - (v26 / ((7 : Int32))) / r243 * r243)) (fun (L251 : LW) => ck (inb ((((8 : Int32)) * r30) + ((3 : Int32))) 24) (ck (inb ((((8 : Int32)) * r30) + ((4 : Int32))) 24) ((qa_setRule r30 (L251.2.2.1 ((((8 : Int32)) * r30) + ((3 : Int32))).toNatClampNeg) (L251.2.2.1 ((((8 : Int32)) * r30) + ((4 : Int32))).toNatClampNeg) O3).bind (fun (O257 : Ob) => (if ((0 : Int32)) = 0 then some ((1 : Int32)) else some ((0 : Int32))).bind (fun (r259 : Int32) => some (r259, O257, L251))))))))))))) else (if v27 ≤ ((29 : Int32)) then some ((1 : Int32)) else some (((1 : Int32)) + (v26 - v26 / ((8 : Int32)) * ((8 : Int32))))).bind (fun (r220 : Int32) => (f_L_isPassed r220 O3 L4).bind (fun ((r229, O230, L231) : Int32 × Ob × LW) => some (r229, O230, L231))) else (if (v26 - v26 / ((4 : Int32)) * ((4 : Int32))) = 0 then some (((1 : Int32)) + ((v26 / ((4 : Int32))) - (v26 / ((4 : Int32))) / ((100000 : Int32)) * ((100000 : Int32)))) else some (((1 : Int32)) + ((v26 / ((4 : Int32))) - (v26 / ((4 : Int32))) / ((300 : Int32)) * ((300 : Int32))))).bind (fun (r266 : Int32) => ck (inb ((((8 : Int32)) * r30) + ((2 : Int32))) 24) ((if ((20 : Int32)) ≤ (L4.2.2.1 ((((8 : Int32)) * r30) + ((2 : Int32))).toNatClampNeg) then some (x1, O3, L4) else ck (inb ((((8 : Int32)) * r30) + ((2 : Int32))) 24) (ck (inb ((((20 : Int32)) * r30) + (L4.2.2.1 ((((8 : Int32)) * r30) + ((2 : Int32))).toNatClampNeg)) 60) (nmv (sC L4 ((((20 : Int32)) * r30) + (L4.2.2.1 ((((8 : Int32)) * r30) + ((2 : Int32))).toNatClampNeg)).toNatClampNeg (((q_today O3).toInt64) ||| (r266.toInt64 <<< (((11 : Int32)).toInt64 &&& 63)))) (fun (L284 : LW) => ck (inb ((((8 : Int32)) * r30) + ((2 : Int32))) 24) (ck (inb ((((8 : Int32)) * r30) + ((2 : Int32))) 24) (nmv (sG L284 ((((8 : Int32)) * r30) + ((2 : Int32))).toNatClampNeg ((L284.2.2.1 ((((8 : Int32)) * r30) + ((2 : Int32))).toNatClampNeg) + ((1 : Int32)))) (fun (L287 : LW) => (qa_clean r30 r266 O3).bind (fun ((r291, O292) : Int32 × Ob) => ck (inb ((((8 : Int32)) * r30) + ((2 : Int32))) 24) ((if r291 = (L287.2.2.1 ((((8 : Int32)) * r30) + ((2 : Int32))).toNatClampNeg) then some ((1 : Int32)) else some ((0 : Int32))).bind (fun (r295 : Int32) => some (r295, O292, L287))))))))))).bind (fun ((r274, O275, L276) : Int32 × Ob × LW) => some (r274, O275, L276)))) else (if (v26 - v26 / ((9 : Int32)) * ((9 : Int32))) = 0 then some ((v26 / ((9 : Int32))) - (v26 / ((9 : Int32))) / ((1000001 : Int32)) * ((1000001 : Int32))) else if ((6 : Int32)) ≤ (v26 - v26 / ((9 : Int32)) * ((9 : Int32))) then some ((v26 / ((9 : Int32))) - (v26 / ((9 : Int32))) / ((3000 : Int32)) * ((3000 : Int32))) else some ((((200 : Int32)) + ((((20 : Int32)) * (q_today O3)) - (((20 : Int32)) * (q_today O3)) / ((3000 : Int32)) * ((3000 : Int32)))) + ((v26 / ((99 : Int32))) - (v26 / ((99 : Int32))) / ((60 : Int32)) * ((60 : Int32))))).bind (fun (r302 : Int32) => (f_L_isSampled r30 r302 O3 L4).bind (fun ((r312, O313, L314) : Int32 × Ob × LW) => some (r312, O313, L314))) else (if (v26 - v26 / ((3 : Int32)) * ((3 : Int32))) = 0 then some (((1 : Int32)) + ((v26 / ((3 : Int32))) - (v26 / ((3 : Int32))) / ((1000000 : Int32)) * ((1000000 : Int32)))) else some (((500 : Int32)) + ((v26 / ((3 : Int32))) - (v26 / ((3 : Int32))) / ((3000 : Int32)) * ((3000 : Int32))))).bind (fun (r340 : Int32) => ck (inb ((0 : Int32)) 1) (ck (inb (((8 : Int32)) * (L4.2.2.2 ((0 : Int32)).toNatClampNeg)) 24) (nmv (sG L4 (((8 : Int32)) * (L4.2.2.2 ((0 : Int32)).toNatClampNeg)).toNatClampNeg r340) (fun (L348 : LW) => ck (inb ((0 : Int32)) 1) (ck (inb ((0 : Int32)) 1) (nmv (sM L348 ((0 : Int32)).toNatClampNeg ((L348.2.2.2 ((0 : Int32)).toNatClampNeg) + ((1 : Int32)))) (fun (L351 : LW) => (qa_addStore r340 O3).bind (fun ((r355, O356) : Int32 × Ob) => ck (inb ((0 : Int32)) 1) ((if r355 = ((L351.2.2.2 ((0 : Int32)).toNatClampNeg) - ((1 : Int32))) then ck (inb ((0 : Int32)) 1) ((q_warns ((L351.2.2.2 ((0 : Int32)).toNatClampNeg) - ((1 : Int32))) O356).bind (fun (r368 : Int32) => if r368 = 0 then ck (inb ((0 : Int32)) 1) ((q_samples ((L351.2.2.2 ((0 : Int32)).toNatClampNeg) - ((1 : Int32))) O356).bind (fun (r374 : Int32) => if r374 = 0 then some ((1 : Int32)) else some ((0 : Int32)))) else some ((0 : Int32)))) else some ((0 : Int32))).bind (fun (r361 : Int32) => some (r361, O356, L351)))))))))))) else if v27 = ((1 : Int32)) then ck (inb (((8 : Int32)) * r30) 24) (nmv (L4.2.2.1 (((8 : Int32)) * r30).toNatClampNeg) (fun (v190 : Int32) => (if (v26 - v26 / ((3 : Int32)) * ((3 : Int32))) = 0 then some (((1 : Int32)) + ((v26 / ((9 : Int32))) - (v26 / ((9 : Int32))) / ((1000000 : Int32)) * ((1000000 : Int32)))) else some (((500 : Int32)) + ((v26 / ((9 : Int32))) - (v26 / ((9 : Int32))) / ((3000 : Int32)) * ((3000 : Int32))))).bind (fun (r192 : Int32) => ck (inb (((8 : Int32)) * r30) 24) (nmv (sG L4 (((8 : Int32)) * r30).toNatClampNeg r192) (fun (L199 : LW) => ck (inb (((8 : Int32)) * r30) 24) ((qa_setSize r30 (L199.2.2.1 (((8 : Int32)) * r30).toNatClampNeg) O3).bind (fun ((r204, O205) : Int32 × Ob) => (if r204 = v190 then some ((1 : Int32)) else some ((0 : Int32))).bind (fun (r207 : Int32) => some (r207, O205, L199))))))))) else if ((14 : Int32)) ≤ v27 then if ((17 : Int32)) ≤ v27 then if v27 = ((17 : Int32)) then (if (v26 - v26 / ((3 : Int32)) * ((3 : Int32))) = 0 then some ((3001 : Int32)) else some ((60 : Int32))).bind (fun (r107 : Int32) => ck (¬ r107 = 0) (ck (inb ((((8 : Int32)) * r30) + ((3 : Int32))) 24) (nmv (sG L4 ((((8 : Int32)) * r30) + ((3 : Int32))).toNatClampNeg (v26 - v26 / r107 * r107)) (fun (L115 : LW) => (if (v26 - v26 / ((4 : Int32)) * ((4 : Int32))) = 0 then some ((101 : Int32)) else some ((20 : Int32))).bind (fun (r117 : Int32) => ck (¬ r117 = 0) (ck (inb ((((8 : Int32)) * r30) + ((4 : Int32))) 24) (nmv (sG L115 ((((8 : Int32)) * r30) + ((4 : Int32))).toNatClampNeg ((v26 / ((7 : Int32))) - (v26 / ((7 : Int32))) / r117 * r117)) (fun (L125 : LW) => ck (inb ((((8 : Int32)) * r30) + ((3 : Int32))) 24) (ck (inb ((((8 : Int32)) * r30) + ((4 : Int32))) 24) ((qa_setRule r30 (L125.2.2.1 ((((8 : Int32)) * r30) + ((3 : Int32))).toNatClampNeg) (L125.2.2.1 ((((8 : Int32)) * r30) + ((4 : Int32))).toNatClampNeg) O3).bind (fun (O131 : Ob) => (if ((0 : Int32)) = 0 then some ((1 : Int32)) else some ((0 : Int32))).bind (fun (r133 : Int32) => some (r133, O131, L125))))))))))))) else (if v27 ≤ ((29 : Int32)) then some ((1 : Int32)) else some (((1 : Int32)) + (v26 - v26 / ((8 : Int32)) * ((8 : Int32))))).bind (fun (r94 : Int32) => (f_L_isPassed r94 O3 L4).bind (fun ((r103, O104, L105) : Int32 × Ob × LW) => some (r103, O104, L105))) else (if (v26 - v26 / ((4 : Int32)) * ((4 : Int32))) = 0 then some (((1 : Int32)) + ((v26 / ((4 : Int32))) - (v26 / ((4 : Int32))) / ((100000 : Int32)) * ((100000 : Int32)))) else some (((1 : Int32)) + ((v26 / ((4 : Int32))) - (v26 / ((4 : Int32))) / ((300 : Int32)) * ((300 : Int32))))).bind (fun (r140 : Int32) => ck (inb ((((8 : Int32)) * r30) + ((2 : Int32))) 24) ((if ((20 : Int32)) ≤ (L4.2.2.1 ((((8 : Int32)) * r30) + ((2 : Int32))).toNatClampNeg) then some (x1, O3, L4) else ck (inb ((((8 : Int32)) * r30) + ((2 : Int32))) 24) (ck (inb ((((20 : Int32)) * r30) + (L4.2.2.1 ((((8 : Int32)) * r30) + ((2 : Int32))).toNatClampNeg)) 60) (nmv (sC L4 ((((20 : Int32)) * r30) + (L4.2.2.1 ((((8 : Int32)) * r30) + ((2 : Int32))).toNatClampNeg)).toNatClampNeg (((q_today O3).toInt64) ||| (r140.toInt64 <<< (((11 : Int32)).toInt64 &&& 63)))) (fun (L158 : LW) => ck (inb ((((8 : Int32)) * r30) + ((2 : Int32))) 24) (ck (inb ((((8 : Int32)) * r30) + ((2 : Int32))) 24) (nmv (sG L158 ((((8 : Int32)) * r30) + ((2 : Int32))).toNatClampNeg ((L158.2.2.1 ((((8 : Int32)) * r30) + ((2 : Int32))).toNatClampNeg) + ((1 : Int32)))) (fun (L161 : LW) => (qa_clean r30 r140 O3).bind (fun ((r165, O166) : Int32 × Ob) => ck (inb ((((8 : Int32)) * r30) + ((2 : Int32))) 24) ((if r165 = (L161.2.2.1 ((((8 : Int32)) * r30) + ((2 : Int32))).toNatClampNeg) then some ((1 : Int32)) else some ((0 : Int32))).bind (fun (r169 : Int32) => some (r169, O166, L161))))))))))).bind (fun ((r148, O149, L150) : Int32 × Ob × LW) => some (r148, O149, L150)))) else (if (v26 - v26 / ((9 : Int32)) * ((9 : Int32))) = 0 then some ((v26 / ((9 : Int32))) - (v26 / ((9 : Int32))) / ((1000001 : Int32)) * ((1000001 : Int32))) else if ((6 : Int32)) ≤ (v26 - v26 / ((9 : Int32)) * ((9 : Int32))) then some ((v26 / ((9 : Int32))) - (v26 / ((9 : Int32))) / ((3000 : Int32)) * ((3000 : Int32))) else some ((((200 : Int32)) + ((((20 : Int32)) * (q_today O3)) - (((20 : Int32)) * (q_today O3)) / ((3000 : Int32)) * ((3000 : Int32)))) + ((v26 / ((99 : Int32))) - (v26 / ((99 : Int32))) / ((60 : Int32)) * ((60 : Int32))))).bind (fun (r176 : Int32) => (f_L_isSampled r30 r176 O3 L4).bind (fun ((r186, O187, L188) : Int32 × Ob × LW) => some (r186, O187, L188)))).bind (fun ((r40, O41, L42) : Int32 × Ob × LW) => ck (inb ((0 : Int32)) 1) (ck (¬ (L42.2.2.2 ((0 : Int32)).toNatClampNeg) = 0) (nmv (v26 - v26 / (L42.2.2.2 ((0 : Int32)).toNatClampNeg) * (L42.2.2.2 ((0 : Int32)).toNatClampNeg)) (fun (v381 : Int32) => (if r40 = 0 then some ((0 : Int32)) else (f_L_isMiddle v381 O41 L42).bind (fun (r392 : Int32) => if r392 = 0 then some ((0 : Int32)) else (f_L_isUsual v381 O41 L42).bind (fun (r397 : Int32) => if r397 = 0 then some ((0 : Int32)) else (f_L_areForecasts v381 (v26 / ((5 : Int32))) O41 L42).bind (fun (r402 : Int32) => if r402 = 0 then some ((0 : Int32)) else if 0 < (x2 - x2 / ((9 : Int32)) * ((9 : Int32))) then if 0 < (x2 - x2 / ((15 : Int32)) * ((15 : Int32))) then some ((1 : Int32)) else (f_L_isRefused (r24 / ((3 : Int32))) O41 L42).bind (fun (r409 : Int32) => if r409 = 0 then some ((0 : Int32)) else some ((1 : Int32))) else ck (inb ((0 : Int32)) 1) (ck (¬ ((((1 : Int32)) <<< ((L42.2.2.2 ((0 : Int32)).toNatClampNeg) &&& 31)) - ((1 : Int32))) = 0) ((f_L_isPool (((1 : Int32)) + ((v26 / ((11 : Int32))) - (v26 / ((11 : Int32))) / ((((1 : Int32)) <<< ((L42.2.2.2 ((0 : Int32)).toNatClampNeg) &&& 31)) - ((1 : Int32))) * ((((1 : Int32)) <<< ((L42.2.2.2 ((0 : Int32)).toNatClampNeg) &&& 31)) - ((1 : Int32))))) O41 L42).bind (fun (r416 : Int32) => if r416 = 0 then some ((0 : Int32)) else if 0 < (x2 - x2 / ((15 : Int32)) * ((15 : Int32))) then some ((1 : Int32)) else (f_L_isRefused (r24 / ((3 : Int32))) O41 L42).bind (fun (r422 : Int32) => if r422 = 0 then some ((0 : Int32)) else some ((1 : Int32)))))))))).bind (fun (r383 : Int32) => nmv (x2 + (1 : Int32)) (fun (v424 : Int32) => f_L_law_59 xs NN n12 r383 v424 O41 L42))))))))))))
noncomputable def f_L_law (xs : Nat → Int32) (NN : Nat) (O : Ob) (L : LW) (is0 n0 : Int32) : Option Int32 := (f_L_law_59 xs NN 46 is0 n0 O L).bind (fun ((r14, O15, L16) : Int32 × Ob × LW) => some r14)
set_option maxRecDepth 100000 in
set_option maxHeartbeats 16000000 in
theorem c_law_rest {E : Ev} {x : Cx} {al : Nat → Nat} {ad : CA} {b NN : Nat} {xs : Nat → Int32} {O : Ob} {L : LW} {T : TS} {is0 n0 : Int32} (X : Ok E x cL_law RL room_1 13) (XX : OkX E x) (XN : OkN x) (S : OkS x b NN xs) (hend : ∀ k n w lv, k ≤ 893193 → n ≤ 6421890 → J E x k n w 800 lv [.int 1]) (h : f_L_law xs NN O L is0 n0 = some 1) (hT : RlT T O) : J E x (400) (2400) (pw E al ad L T) 59 [(0, .ref b), (1, .ref (ad.1 0)), (2, .ref (al 0)), (3, .ref (al 1)), (4, .ref (al 2)), (5, .ref (al 3)), (6, .int is0), (7, .int n0)] [] := by
  unfold f_L_law at h
  replace h := bk h
  obtain ⟨⟨r14, O15, L16⟩, g20, h⟩ := h
  dsimp only at h
  have k19 : ∀ ad0 T0, RlT T0 O15 → J E x (6196) (37176) (pw E al ad0 L16 T0) 798 [(6, .int r14)] [] := by
    intro ad21 T17 hT18
    refine J_iload X (pc := 798) dL_law_798 0 rfl ?_
    replace h := Option.some.inj h
    subst h
    exact hend _ _ _ _ (by omega) (by omega)
  clear h
  have l425 : ∀ (n12 : Nat) (x1 : Int32) (x2 : Int32) (O3 : Ob) (L4 : LW) (k7 n8 : Nat) (ad11 : CA) (T5 : TS), k7 + 126 * n12 ≤ 6196 → n8 + 756 * n12 ≤ 37176 → RlT T5 O3 → f_L_law_59 xs NN n12 x1 x2 O3 L4 = some (r14, O15, L16) → J E x (k7) (n8) (pw E al ad11 L4 T5) 59 [(0, .ref b), (1, .ref (ad11.1 0)), (2, .ref (al 0)), (3, .ref (al 1)), (4, .ref (al 2)), (5, .ref (al 3)), (6, .int x1), (7, .int x2)] [] := by
    intro n12
    induction n12 with
    | zero => intro x1 x2 O3 L4 k7 n8 ad11 T5 hk9 hn10 hT6 h; rw [f_L_law_59] at h; cases h
    | succ n12 ih13 =>
      intro x1 x2 O3 L4 k7 n8 ad11 T5 hk9 hn10 hT6 h
      rw [f_L_law_59] at h
      refine J_iload X (pc := 59) dL_law_59 7 rfl ?_
      refine J_bipush X (pc := 61) (v := 45) dL_law_61 (by decide +kernel) ?_
      refine J_icmp_ge X (pc := 63) 798 dL_law_63 (by decide) (fun c22 => ?_) (fun c22 => ?_)
      · rw [if_pos c22] at h
        cases h
        refine J_widen (k2 := 6196) (n2 := 37176) (by omega) (by omega) ?_
        exact J_sub [6] rfl (k19 _ _ hT6)
      · rw [if_neg c22] at h
        refine J_iload X (pc := 66) dL_law_66 6 rfl ?_
        refine J_if_eq X (pc := 68) 798 dL_law_68 (by decide) (fun c23 => ?_) (fun c23 => ?_)
        · rw [if_pos c23] at h
          cases h
          refine J_widen (k2 := 6196) (n2 := 37176) (by omega) (by omega) ?_
          exact J_sub [6] rfl (k19 _ _ hT6)
        · rw [if_neg c23] at h
          refine J_aload_n X (pc := 71) dL_law_71 0 rfl ?_
          refine J_iload X (pc := 72) dL_law_72 7 rfl ?_
          replace h := bk h
          obtain ⟨r24, g25, h⟩ := h
          refine P_dice X S (pc := 74) g25 ⟨Nat.le_of_ble_eq_true rfl, Nat.le_of_ble_eq_true rfl⟩ (Nat.le_of_ble_eq_true rfl) ⟨(show k7 ≤ 893193 from by omega), (show n8 ≤ 6421890 from by omega)⟩ dL_law_74 ?_
          refine J_istore X (pc := 77) dL_law_77 (by decide) rfl ?_
          refine J_iload X (pc := 79) dL_law_79 0 rfl ?_
          refine J_bipush X (pc := 81) (v := 32) dL_law_81 (by decide +kernel) ?_
          refine J_idiv X (pc := 83) dL_law_83 (by decide +kernel) ?_
          replace h := nmv_e h
          obtain ⟨v26, ev26, h⟩ := h
          refine J_nmi ev26 ?_
          refine J_istore X (pc := 84) dL_law_84 (by decide) rfl ?_
          refine J_iload X (pc := 86) dL_law_86 1 rfl ?_
          refine J_bipush X (pc := 88) (v := 32) dL_law_88 (by decide +kernel) ?_
          refine J_irem X (pc := 90) dL_law_90 (by decide +kernel) ?_
          replace h := nmv_e h
          obtain ⟨v27, ev27, h⟩ := h
          refine J_nmi ev27 ?_
          refine J_istore X (pc := 91) dL_law_91 (by decide) rfl ?_
          refine J_aload X (pc := 93) dL_law_93 8 rfl ?_
          refine J_iconst X (pc := 95) (v := 0) dL_law_95 (by decide +kernel) ?_
          replace h := ck_e h
          obtain ⟨b28, h⟩ := h
          refine J_iald X (pc := 96) 3 pw_c3 b28 dL_law_96 ?_
          replace h := bk h
          obtain ⟨r30, g35, h⟩ := h
          have j34 : ∀ ad0 T0, RlT T0 O3 → J E x (k7) (n8) (pw E al ad0 L4 T0) 111 [(0, .ref b), (1, .ref (ad0.1 0)), (2, .ref (al 0)), (3, .ref (al 1)), (4, .ref (al 2)), (5, .ref (al 3)), (6, .int x1), (7, .int x2), (8, .int r24), (9, .int v26), (10, .int v27)] [.int r30] := by
            intro ad33 T31 hT32
            refine J_istore X (pc := 111) dL_law_111 (by decide) rfl ?_
            refine J_aload X (pc := 113) dL_law_113 6 rfl ?_
            refine J_iconst X (pc := 115) (v := 0) dL_law_115 (by decide +kernel) ?_
            replace h := ck_e h
            obtain ⟨b38, h⟩ := h
            refine J_iald X (pc := 116) 3 pw_c3 b38 dL_law_116 ?_
            replace h := bk h
            obtain ⟨⟨r40, O41, L42⟩, g47, h⟩ := h
            dsimp only at h
            have j46 : ∀ ad0 T0, RlT T0 O41 → J E x (k7 + 67) (n8 + 402) (pw E al ad0 L42 T0) 673 [(0, .ref b), (1, .ref (ad0.1 0)), (2, .ref (al 0)), (3, .ref (al 1)), (4, .ref (al 2)), (5, .ref (al 3)), (6, .int r40), (7, .int x2), (8, .int r24), (9, .int v26)] [] := by
              intro ad45 T43 hT44
              refine J_iload X (pc := 673) dL_law_673 9 rfl ?_
              refine J_aload X (pc := 675) dL_law_675 5 rfl ?_
              refine J_iconst X (pc := 677) (v := 0) dL_law_677 (by decide +kernel) ?_
              replace h := ck_e h
              obtain ⟨b379, h⟩ := h
              refine J_iald X (pc := 678) 3 pw_c3 b379 dL_law_678 ?_
              replace h := ck_e h
              obtain ⟨b380, h⟩ := h
              refine J_irem X (pc := 679) dL_law_679 b380 ?_
              replace h := nmv_e h
              obtain ⟨v381, ev381, h⟩ := h
              refine J_nmi ev381 ?_
              refine J_istore X (pc := 680) dL_law_680 (by decide) rfl ?_
              refine J_iload X (pc := 682) dL_law_682 7 rfl ?_
              replace h := bk h
              obtain ⟨r383, g388, h⟩ := h
              have j387 : ∀ ad0 T0, RlT T0 O41 → J E x (k7 + 126) (n8 + 756) (pw E al ad0 L42 T0) 790 [(0, .ref b), (1, .ref (ad0.1 0)), (2, .ref (al 0)), (3, .ref (al 1)), (4, .ref (al 2)), (5, .ref (al 3)), (7, .int x2)] [.int r383] := by
                intro ad386 T384 hT385
                refine J_istore X (pc := 790) dL_law_790 (by decide) rfl ?_
                replace h := nmv_e h
                obtain ⟨v424, ev424, h⟩ := h
                refine J_iinc X (pc := 792) (v := v424) dL_law_792 7 rfl (by rw [ev424]; rfl) (by decide) rfl ?_
                refine J_goto X (pc := 795) 59 dL_law_795 (by decide) ?_
                exact J_sub [2, 3, 4, 5, 6, 7, 1, 0] rfl (ih13 _ _ _ _ (k7 + 126) (n8 + 756) _ _ (by omega) (by omega) hT385 h)
              refine J_if_eq X (pc := 684) 789 dL_law_684 (by decide) (fun c382 => ?_) (fun c382 => ?_)
              · rw [if_pos c382] at g388
                refine J_iconst X (pc := 789) (v := 0) dL_law_789 (by decide +kernel) ?_
                replace g388 := Option.some.inj g388
                subst g388
                refine J_widen (k2 := k7 + 126) (n2 := n8 + 756) (by omega) (by omega) ?_
                exact J_sub [1, 2, 3, 4, 5, 6, 8] rfl (j387 _ _ hT44)
              · rw [if_neg c382] at g388
                refine J_aload_n X (pc := 687) dL_law_687 2 rfl ?_
                refine J_aload_n X (pc := 688) dL_law_688 3 rfl ?_
                refine J_aload_n X (pc := 689) dL_law_689 4 rfl ?_
                refine J_aload X (pc := 690) dL_law_690 5 rfl ?_
                refine J_iload X (pc := 692) dL_law_692 0 rfl ?_
                replace g388 := bk g388
                obtain ⟨r392, g389, g388⟩ := g388
                refine J_callN X XX XN (pc := 694) (y := yL_isMiddle) (na := 5) (As := [.ref (ad45.1 0), .ref (al 0), .ref (al 1), .ref (al 2), .int v381]) (rest := []) (c_L_isMiddle E al ad45 g389 hT44) q_556 q_557 q_507 q_519 rfl (by decide +kernel) ⟨Nat.le_of_ble_eq_true rfl, Nat.le_of_ble_eq_true rfl⟩ rfl (Nat.le_of_ble_eq_true rfl) ⟨(show k7 + 70 ≤ 893193 from by omega), (show n8 + 420 ≤ 6421890 from by omega)⟩ dL_law_694 (fun T390 hT391 => ?_)
                refine J_if_eq X (pc := 697) 789 dL_law_697 (by decide) (fun c393 => ?_) (fun c393 => ?_)
                · rw [if_pos c393] at g388
                  refine J_iconst X (pc := 789) (v := 0) dL_law_789 (by decide +kernel) ?_
                  replace g388 := Option.some.inj g388
                  subst g388
                  refine J_widen (k2 := k7 + 126) (n2 := n8 + 756) (by omega) (by omega) ?_
                  exact J_sub [1, 2, 3, 4, 5, 6, 8] rfl (j387 _ _ hT391)
                · rw [if_neg c393] at g388
                  refine J_aload_n X (pc := 700) dL_law_700 2 rfl ?_
                  refine J_aload_n X (pc := 701) dL_law_701 4 rfl ?_
                  refine J_aload X (pc := 702) dL_law_702 5 rfl ?_
                  refine J_iload X (pc := 704) dL_law_704 0 rfl ?_
                  replace g388 := bk g388
                  obtain ⟨r397, g394, g388⟩ := g388
                  refine J_callN X XX XN (pc := 706) (y := yL_isUsual) (na := 4) (As := [.ref (ad45.1 0), .ref (al 1), .ref (al 2), .int v381]) (rest := []) (c_L_isUsual E al ad45 g394 hT391) q_558 q_559 q_507 q_528 rfl (by decide +kernel) ⟨Nat.le_of_ble_eq_true rfl, Nat.le_of_ble_eq_true rfl⟩ rfl (Nat.le_of_ble_eq_true rfl) ⟨(show k7 + 70 ≤ 893193 from by omega), (show n8 + 420 ≤ 6421890 from by omega)⟩ dL_law_706 (fun T395 hT396 => ?_)
                  refine J_if_eq X (pc := 709) 789 dL_law_709 (by decide) (fun c398 => ?_) (fun c398 => ?_)
                  · rw [if_pos c398] at g388
                    refine J_iconst X (pc := 789) (v := 0) dL_law_789 (by decide +kernel) ?_
                    replace g388 := Option.some.inj g388
                    subst g388
                    refine J_widen (k2 := k7 + 126) (n2 := n8 + 756) (by omega) (by omega) ?_
                    exact J_sub [1, 2, 3, 4, 5, 6, 8] rfl (j387 _ _ hT396)
                  · rw [if_neg c398] at g388
                    refine J_aload_n X (pc := 712) dL_law_712 2 rfl ?_
                    refine J_aload_n X (pc := 713) dL_law_713 3 rfl ?_
                    refine J_aload X (pc := 714) dL_law_714 5 rfl ?_
                    refine J_iload X (pc := 716) dL_law_716 0 rfl ?_
                    refine J_iload X (pc := 718) dL_law_718 10 rfl ?_
                    refine J_iconst X (pc := 720) (v := 5) dL_law_720 (by decide +kernel) ?_
                    refine J_idiv X (pc := 721) dL_law_721 (by decide +kernel) ?_
                    replace g388 := bk g388
                    obtain ⟨r402, g399, g388⟩ := g388
                    refine J_callN X XX XN (pc := 722) (y := yL_areForecasts) (na := 5) (As := [.ref (ad45.1 0), .ref (al 0), .ref (al 2), .int v381, .int (v26 / ((5 : Int32)))]) (rest := []) (c_L_areForecasts E al ad45 g399 hT396) q_560 q_561 q_507 q_527 rfl (by decide +kernel) ⟨Nat.le_of_ble_eq_true rfl, Nat.le_of_ble_eq_true rfl⟩ rfl (Nat.le_of_ble_eq_true rfl) ⟨(show k7 + 72 ≤ 893193 from by omega), (show n8 + 432 ≤ 6421890 from by omega)⟩ dL_law_722 (fun T400 hT401 => ?_)
                    refine J_if_eq X (pc := 725) 789 dL_law_725 (by decide) (fun c403 => ?_) (fun c403 => ?_)
                    · rw [if_pos c403] at g388
                      refine J_iconst X (pc := 789) (v := 0) dL_law_789 (by decide +kernel) ?_
                      replace g388 := Option.some.inj g388
                      subst g388
                      refine J_widen (k2 := k7 + 126) (n2 := n8 + 756) (by omega) (by omega) ?_
                      exact J_sub [1, 2, 3, 4, 5, 6, 8] rfl (j387 _ _ hT401)
                    · rw [if_neg c403] at g388
                      refine J_iload X (pc := 728) dL_law_728 8 rfl ?_
                      refine J_bipush X (pc := 730) (v := 9) dL_law_730 (by decide +kernel) ?_
                      refine J_irem X (pc := 732) dL_law_732 (by decide +kernel) ?_
                      refine J_if_gt X (pc := 733) 764 dL_law_733 (by decide) (fun c404 => ?_) (fun c404 => ?_)
                      · rw [if_pos c404] at g388
                        refine J_iload X (pc := 764) dL_law_764 8 rfl ?_
                        refine J_bipush X (pc := 766) (v := 15) dL_law_766 (by decide +kernel) ?_
                        refine J_irem X (pc := 768) dL_law_768 (by decide +kernel) ?_
                        refine J_if_gt X (pc := 769) 785 dL_law_769 (by decide) (fun c405 => ?_) (fun c405 => ?_)
                        · rw [if_pos c405] at g388
                          refine J_iconst X (pc := 785) (v := 1) dL_law_785 (by decide +kernel) ?_
                          refine J_goto X (pc := 786) 790 dL_law_786 (by decide) ?_
                          replace g388 := Option.some.inj g388
                          subst g388
                          refine J_widen (k2 := k7 + 126) (n2 := n8 + 756) (by omega) (by omega) ?_
                          exact J_sub [1, 2, 3, 4, 5, 6, 8] rfl (j387 _ _ hT401)
                        · rw [if_neg c405] at g388
                          refine J_aload_n X (pc := 772) dL_law_772 2 rfl ?_
                          refine J_aload X (pc := 773) dL_law_773 6 rfl ?_
                          refine J_iload X (pc := 775) dL_law_775 9 rfl ?_
                          refine J_iconst X (pc := 777) (v := 3) dL_law_777 (by decide +kernel) ?_
                          refine J_idiv X (pc := 778) dL_law_778 (by decide +kernel) ?_
                          replace g388 := bk g388
                          obtain ⟨r409, g406, g388⟩ := g388
                          refine J_callN X XX XN (pc := 779) (y := yL_isRefused) (na := 3) (As := [.ref (ad45.1 0), .ref (al 3), .int (r24 / ((3 : Int32)))]) (rest := []) (c_L_isRefused E al ad45 g406 hT401) q_548 q_549 q_507 q_538 rfl (by decide +kernel) ⟨Nat.le_of_ble_eq_true rfl, Nat.le_of_ble_eq_true rfl⟩ rfl (Nat.le_of_ble_eq_true rfl) ⟨(show k7 + 126 ≤ 893193 from by omega), (show n8 + 756 ≤ 6421890 from by omega)⟩ dL_law_779 (fun T407 hT408 => ?_)
                          refine J_if_eq X (pc := 782) 789 dL_law_782 (by decide) (fun c410 => ?_) (fun c410 => ?_)
                          · rw [if_pos c410] at g388
                            refine J_iconst X (pc := 789) (v := 0) dL_law_789 (by decide +kernel) ?_
                            replace g388 := Option.some.inj g388
                            subst g388
                            refine J_widen (k2 := k7 + 126) (n2 := n8 + 756) (by omega) (by omega) ?_
                            exact J_sub [1, 2, 3, 4, 5, 6, 8] rfl (j387 _ _ hT408)
                          · rw [if_neg c410] at g388
                            refine J_iconst X (pc := 785) (v := 1) dL_law_785 (by decide +kernel) ?_
                            refine J_goto X (pc := 786) 790 dL_law_786 (by decide) ?_
                            replace g388 := Option.some.inj g388
                            subst g388
                            refine J_widen (k2 := k7 + 126) (n2 := n8 + 756) (by omega) (by omega) ?_
                            exact J_sub [1, 2, 3, 4, 5, 6, 8] rfl (j387 _ _ hT408)
                      · rw [if_neg c404] at g388
                        refine J_aload_n X (pc := 736) dL_law_736 2 rfl ?_
                        refine J_aload X (pc := 737) dL_law_737 5 rfl ?_
                        refine J_aload X (pc := 739) dL_law_739 6 rfl ?_
                        refine J_aload_n X (pc := 741) dL_law_741 3 rfl ?_
                        refine J_iconst X (pc := 742) (v := 1) dL_law_742 (by decide +kernel) ?_
                        refine J_iload X (pc := 743) dL_law_743 10 rfl ?_
                        refine J_bipush X (pc := 745) (v := 11) dL_law_745 (by decide +kernel) ?_
                        refine J_idiv X (pc := 747) dL_law_747 (by decide +kernel) ?_
                        refine J_iconst X (pc := 748) (v := 1) dL_law_748 (by decide +kernel) ?_
                        refine J_aload X (pc := 749) dL_law_749 6 rfl ?_
                        refine J_iconst X (pc := 751) (v := 0) dL_law_751 (by decide +kernel) ?_
                        replace g388 := ck_e g388
                        obtain ⟨b411, g388⟩ := g388
                        refine J_iald X (pc := 752) 3 pw_c3 b411 dL_law_752 ?_
                        refine J_ishl X (pc := 753) dL_law_753 ?_
                        refine J_iconst X (pc := 754) (v := 1) dL_law_754 (by decide +kernel) ?_
                        refine J_isub X (pc := 755) dL_law_755 ?_
                        replace g388 := ck_e g388
                        obtain ⟨b412, g388⟩ := g388
                        refine J_irem X (pc := 756) dL_law_756 b412 ?_
                        refine J_iadd X (pc := 757) dL_law_757 ?_
                        replace g388 := bk g388
                        obtain ⟨r416, g413, g388⟩ := g388
                        refine J_callN X XX XN (pc := 758) (y := yL_isPool) (na := 5) (As := [.ref (ad45.1 0), .ref (al 2), .ref (al 3), .ref (al 0), .int (((1 : Int32)) + ((v26 / ((11 : Int32))) - (v26 / ((11 : Int32))) / ((((1 : Int32)) <<< ((L42.2.2.2 ((0 : Int32)).toNatClampNeg) &&& 31)) - ((1 : Int32))) * ((((1 : Int32)) <<< ((L42.2.2.2 ((0 : Int32)).toNatClampNeg) &&& 31)) - ((1 : Int32)))))]) (rest := []) (c_L_isPool E al ad45 g413 hT401) q_562 q_563 q_507 q_529 rfl (by decide +kernel) ⟨Nat.le_of_ble_eq_true rfl, Nat.le_of_ble_eq_true rfl⟩ rfl (Nat.le_of_ble_eq_true rfl) ⟨(show k7 + 72 ≤ 893193 from by omega), (show n8 + 432 ≤ 6421890 from by omega)⟩ dL_law_758 (fun T414 hT415 => ?_)
                        refine J_if_eq X (pc := 761) 789 dL_law_761 (by decide) (fun c417 => ?_) (fun c417 => ?_)
                        · rw [if_pos c417] at g388
                          refine J_iconst X (pc := 789) (v := 0) dL_law_789 (by decide +kernel) ?_
                          replace g388 := Option.some.inj g388
                          subst g388
                          refine J_widen (k2 := k7 + 126) (n2 := n8 + 756) (by omega) (by omega) ?_
                          exact J_sub [1, 2, 3, 4, 5, 6, 8] rfl (j387 _ _ hT415)
                        · rw [if_neg c417] at g388
                          refine J_iload X (pc := 764) dL_law_764 8 rfl ?_
                          refine J_bipush X (pc := 766) (v := 15) dL_law_766 (by decide +kernel) ?_
                          refine J_irem X (pc := 768) dL_law_768 (by decide +kernel) ?_
                          refine J_if_gt X (pc := 769) 785 dL_law_769 (by decide) (fun c418 => ?_) (fun c418 => ?_)
                          · rw [if_pos c418] at g388
                            refine J_iconst X (pc := 785) (v := 1) dL_law_785 (by decide +kernel) ?_
                            refine J_goto X (pc := 786) 790 dL_law_786 (by decide) ?_
                            replace g388 := Option.some.inj g388
                            subst g388
                            refine J_widen (k2 := k7 + 126) (n2 := n8 + 756) (by omega) (by omega) ?_
                            exact J_sub [1, 2, 3, 4, 5, 6, 8] rfl (j387 _ _ hT415)
                          · rw [if_neg c418] at g388
                            refine J_aload_n X (pc := 772) dL_law_772 2 rfl ?_
                            refine J_aload X (pc := 773) dL_law_773 6 rfl ?_
                            refine J_iload X (pc := 775) dL_law_775 9 rfl ?_
                            refine J_iconst X (pc := 777) (v := 3) dL_law_777 (by decide +kernel) ?_
                            refine J_idiv X (pc := 778) dL_law_778 (by decide +kernel) ?_
                            replace g388 := bk g388
                            obtain ⟨r422, g419, g388⟩ := g388
                            refine J_callN X XX XN (pc := 779) (y := yL_isRefused) (na := 3) (As := [.ref (ad45.1 0), .ref (al 3), .int (r24 / ((3 : Int32)))]) (rest := []) (c_L_isRefused E al ad45 g419 hT415) q_548 q_549 q_507 q_538 rfl (by decide +kernel) ⟨Nat.le_of_ble_eq_true rfl, Nat.le_of_ble_eq_true rfl⟩ rfl (Nat.le_of_ble_eq_true rfl) ⟨(show k7 + 126 ≤ 893193 from by omega), (show n8 + 756 ≤ 6421890 from by omega)⟩ dL_law_779 (fun T420 hT421 => ?_)
                            refine J_if_eq X (pc := 782) 789 dL_law_782 (by decide) (fun c423 => ?_) (fun c423 => ?_)
                            · rw [if_pos c423] at g388
                              refine J_iconst X (pc := 789) (v := 0) dL_law_789 (by decide +kernel) ?_
                              replace g388 := Option.some.inj g388
                              subst g388
                              refine J_widen (k2 := k7 + 126) (n2 := n8 + 756) (by omega) (by omega) ?_
                              exact J_sub [1, 2, 3, 4, 5, 6, 8] rfl (j387 _ _ hT421)
                            · rw [if_neg c423] at g388
                              refine J_iconst X (pc := 785) (v := 1) dL_law_785 (by decide +kernel) ?_
                              refine J_goto X (pc := 786) 790 dL_law_786 (by decide) ?_
                              replace g388 := Option.some.inj g388
                              subst g388
                              refine J_widen (k2 := k7 + 126) (n2 := n8 + 756) (by omega) (by omega) ?_
                              exact J_sub [1, 2, 3, 4, 5, 6, 8] rfl (j387 _ _ hT421)
            refine J_if_eq X (pc := 117) 133 dL_law_117 (by decide) (fun c39 => ?_) (fun c39 => ?_)
            · rw [if_pos c39] at g47
              refine J_iload X (pc := 133) dL_law_133 10 rfl ?_
              refine J_iconst X (pc := 135) (v := 3) dL_law_135 (by decide +kernel) ?_
              refine J_irem X (pc := 136) dL_law_136 (by decide +kernel) ?_
              replace g47 := bk g47
              obtain ⟨r49, g54, g47⟩ := g47
              have j53 : ∀ ad0 T0, RlT T0 O3 → J E x (k7) (n8) (pw E al ad0 L4 T0) 164 [(0, .ref b), (1, .ref (ad0.1 0)), (2, .ref (al 0)), (3, .ref (al 1)), (4, .ref (al 2)), (5, .ref (al 3)), (7, .int x2), (8, .int r24), (9, .int v26)] [.int r49] := by
                intro ad52 T50 hT51
                refine J_istore X (pc := 164) dL_law_164 (by decide) rfl ?_
                refine J_aload X (pc := 166) dL_law_166 5 rfl ?_
                refine J_bipush X (pc := 168) (v := 8) dL_law_168 (by decide +kernel) ?_
                refine J_aload X (pc := 170) dL_law_170 6 rfl ?_
                refine J_iconst X (pc := 172) (v := 0) dL_law_172 (by decide +kernel) ?_
                replace g47 := ck_e g47
                obtain ⟨b55, g47⟩ := g47
                refine J_iald X (pc := 173) 3 pw_c3 b55 dL_law_173 ?_
                refine J_imul X (pc := 174) dL_law_174 ?_
                refine J_iload X (pc := 175) dL_law_175 0 rfl ?_
                replace g47 := ck_e g47
                obtain ⟨b56, g47⟩ := g47
                replace g47 := nmv_e g47
                obtain ⟨L57, eL57, g47⟩ := g47
                refine J_iast X (pc := 177) (w1 := pw E al ad52 L57 T50) 2 pw_c2 b56 dL_law_177 (pw_s2 eL57) ?_
                refine J_aload X (pc := 178) dL_law_178 6 rfl ?_
                refine J_iconst X (pc := 180) (v := 0) dL_law_180 (by decide +kernel) ?_
                refine J_dup2 X (pc := 181) dL_law_181 rfl rfl ?_
                replace g47 := ck_e g47
                obtain ⟨b58, g47⟩ := g47
                refine J_iald X (pc := 182) 3 pw_c3 b58 dL_law_182 ?_
                refine J_iconst X (pc := 183) (v := 1) dL_law_183 (by decide +kernel) ?_
                refine J_iadd X (pc := 184) dL_law_184 ?_
                replace g47 := ck_e g47
                obtain ⟨b59, g47⟩ := g47
                replace g47 := nmv_e g47
                obtain ⟨L60, eL60, g47⟩ := g47
                refine J_iast X (pc := 185) (w1 := pw E al ad52 L60 T50) 3 pw_c3 b59 dL_law_185 (pw_s3 eL60) ?_
                refine J_aload_n X (pc := 186) dL_law_186 2 rfl ?_
                refine J_iconst X (pc := 187) (v := 0) dL_law_187 (by decide +kernel) ?_
                refine J_iload X (pc := 188) dL_law_188 0 rfl ?_
                refine J_iconst X (pc := 190) (v := 0) dL_law_190 (by decide +kernel) ?_
                replace g47 := bk g47
                obtain ⟨⟨r64, O65⟩, g61, g47⟩ := g47
                dsimp only at g47
                refine P_a_addStore X XX XN (pc := 191) g61 hT51 ⟨Nat.le_of_ble_eq_true rfl, Nat.le_of_ble_eq_true rfl⟩ (Nat.le_of_ble_eq_true rfl) ⟨(show k7 + 16 ≤ 893193 from by omega), (show n8 + 398 ≤ 6421890 from by omega)⟩ dL_law_191 (fun ad66 T62 had67 hT63 => ?_)
                rw [← had67]
                refine J_widen (k2 := k7 + 67) (n2 := n8 + 402) (by omega) (by omega) ?_
                refine J_aload X (pc := 194) dL_law_194 6 rfl ?_
                refine J_iconst X (pc := 196) (v := 0) dL_law_196 (by decide +kernel) ?_
                replace g47 := ck_e g47
                obtain ⟨b68, g47⟩ := g47
                refine J_iald X (pc := 197) 3 pw_c3 b68 dL_law_197 ?_
                refine J_iconst X (pc := 198) (v := 1) dL_law_198 (by decide +kernel) ?_
                refine J_isub X (pc := 199) dL_law_199 ?_
                replace g47 := bk g47
                obtain ⟨r70, g75, g47⟩ := g47
                have j74 : ∀ ad0 T0, RlT T0 O65 → J E x (k7 + 67) (n8 + 402) (pw E al ad0 L60 T0) 234 [(0, .ref b), (1, .ref (ad0.1 0)), (2, .ref (al 0)), (3, .ref (al 1)), (4, .ref (al 2)), (5, .ref (al 3)), (7, .int x2), (8, .int r24), (9, .int v26)] [.int r70] := by
                  intro ad73 T71 hT72
                  refine J_istore X (pc := 234) dL_law_234 (by decide) rfl ?_
                  refine J_goto X (pc := 236) 673 dL_law_236 (by decide) ?_
                  cases g47
                  refine J_widen (k2 := k7 + 67) (n2 := n8 + 402) (by omega) (by omega) ?_
                  exact J_sub [1, 2, 3, 4, 5, 6, 0, 7, 8, 9] rfl (j46 _ _ hT72)
                refine J_icmp_ne X (pc := 200) 233 dL_law_200 (by decide) (fun c69 => ?_) (fun c69 => ?_)
                · rw [if_neg c69] at g75
                  refine J_iconst X (pc := 233) (v := 0) dL_law_233 (by decide +kernel) ?_
                  replace g75 := Option.some.inj g75
                  subst g75
                  exact J_sub [1, 2, 3, 4, 5, 6, 7, 8, 9] rfl (j74 _ _ hT63)
                · rw [if_pos c69] at g75
                  refine J_aload_n X (pc := 203) dL_law_203 2 rfl ?_
                  refine J_aload X (pc := 204) dL_law_204 6 rfl ?_
                  refine J_iconst X (pc := 206) (v := 0) dL_law_206 (by decide +kernel) ?_
                  replace g75 := ck_e g75
                  obtain ⟨b76, g75⟩ := g75
                  refine J_iald X (pc := 207) 3 pw_c3 b76 dL_law_207 ?_
                  refine J_iconst X (pc := 208) (v := 1) dL_law_208 (by decide +kernel) ?_
                  refine J_isub X (pc := 209) dL_law_209 ?_
                  replace g75 := bk g75
                  obtain ⟨r77, g78, g75⟩ := g75
                  refine P_warns X (pc := 210) g78 hT63 ⟨Nat.le_of_ble_eq_true rfl, Nat.le_of_ble_eq_true rfl⟩ (Nat.le_of_ble_eq_true rfl) ⟨(show k7 + 67 ≤ 893193 from by omega), (show n8 + 402 ≤ 6421890 from by omega)⟩ dL_law_210 (fun T79 hT80 => ?_)
                  refine J_if_ne X (pc := 213) 233 dL_law_213 (by decide) (fun c81 => ?_) (fun c81 => ?_)
                  · rw [if_neg c81] at g75
                    refine J_iconst X (pc := 233) (v := 0) dL_law_233 (by decide +kernel) ?_
                    replace g75 := Option.some.inj g75
                    subst g75
                    exact J_sub [1, 2, 3, 4, 5, 6, 7, 8, 9] rfl (j74 _ _ hT80)
                  · rw [if_pos c81] at g75
                    refine J_aload_n X (pc := 216) dL_law_216 2 rfl ?_
                    refine J_aload X (pc := 217) dL_law_217 6 rfl ?_
                    refine J_iconst X (pc := 219) (v := 0) dL_law_219 (by decide +kernel) ?_
                    replace g75 := ck_e g75
                    obtain ⟨b82, g75⟩ := g75
                    refine J_iald X (pc := 220) 3 pw_c3 b82 dL_law_220 ?_
                    refine J_iconst X (pc := 221) (v := 1) dL_law_221 (by decide +kernel) ?_
                    refine J_isub X (pc := 222) dL_law_222 ?_
                    replace g75 := bk g75
                    obtain ⟨r83, g84, g75⟩ := g75
                    refine P_samples X (pc := 223) g84 hT80 ⟨Nat.le_of_ble_eq_true rfl, Nat.le_of_ble_eq_true rfl⟩ (Nat.le_of_ble_eq_true rfl) ⟨(show k7 + 67 ≤ 893193 from by omega), (show n8 + 402 ≤ 6421890 from by omega)⟩ dL_law_223 (fun T85 hT86 => ?_)
                    refine J_if_ne X (pc := 226) 233 dL_law_226 (by decide) (fun c87 => ?_) (fun c87 => ?_)
                    · rw [if_neg c87] at g75
                      refine J_iconst X (pc := 233) (v := 0) dL_law_233 (by decide +kernel) ?_
                      replace g75 := Option.some.inj g75
                      subst g75
                      exact J_sub [1, 2, 3, 4, 5, 6, 7, 8, 9] rfl (j74 _ _ hT86)
                    · rw [if_pos c87] at g75
                      refine J_iconst X (pc := 229) (v := 1) dL_law_229 (by decide +kernel) ?_
                      refine J_goto X (pc := 230) 234 dL_law_230 (by decide) ?_
                      replace g75 := Option.some.inj g75
                      subst g75
                      exact J_sub [1, 2, 3, 4, 5, 6, 7, 8, 9] rfl (j74 _ _ hT86)
              refine J_if_ne X (pc := 137) 152 dL_law_137 (by decide) (fun c48 => ?_) (fun c48 => ?_)
              · rw [if_neg c48] at g54
                refine J_sipush X (pc := 152) (v := 500) dL_law_152 (by decide +kernel) ?_
                refine J_iload X (pc := 155) dL_law_155 10 rfl ?_
                refine J_iconst X (pc := 157) (v := 3) dL_law_157 (by decide +kernel) ?_
                refine J_idiv X (pc := 158) dL_law_158 (by decide +kernel) ?_
                refine J_sipush X (pc := 159) (v := 3000) dL_law_159 (by decide +kernel) ?_
                refine J_irem X (pc := 162) dL_law_162 (by decide +kernel) ?_
                refine J_iadd X (pc := 163) dL_law_163 ?_
                replace g54 := Option.some.inj g54
                subst g54
                exact J_sub [1, 2, 3, 4, 5, 6, 8, 9, 10] rfl (j53 _ _ hT32)
              · rw [if_pos c48] at g54
                refine J_iconst X (pc := 140) (v := 1) dL_law_140 (by decide +kernel) ?_
                refine J_iload X (pc := 141) dL_law_141 10 rfl ?_
                refine J_iconst X (pc := 143) (v := 3) dL_law_143 (by decide +kernel) ?_
                refine J_idiv X (pc := 144) dL_law_144 (by decide +kernel) ?_
                refine J_ldc X (pc := 145) dL_law_145 q_540 ?_
                refine J_irem X (pc := 147) dL_law_147 (by decide +kernel) ?_
                refine J_iadd X (pc := 148) dL_law_148 ?_
                refine J_goto X (pc := 149) 164 dL_law_149 (by decide) ?_
                replace g54 := Option.some.inj g54
                subst g54
                exact J_sub [1, 2, 3, 4, 5, 6, 8, 9, 10] rfl (j53 _ _ hT32)
            · rw [if_neg c39] at g47
              refine J_iload X (pc := 120) dL_law_120 11 rfl ?_
              refine J_if_ne X (pc := 122) 239 dL_law_122 (by decide) (fun c88 => ?_) (fun c88 => ?_)
              · rw [if_neg c88] at g47
                refine J_iload X (pc := 239) dL_law_239 11 rfl ?_
                refine J_iconst X (pc := 241) (v := 1) dL_law_241 (by decide +kernel) ?_
                refine J_icmp_ne X (pc := 242) 326 dL_law_242 (by decide) (fun c89 => ?_) (fun c89 => ?_)
                · rw [if_neg c89] at g47
                  refine J_iload X (pc := 326) dL_law_326 11 rfl ?_
                  refine J_bipush X (pc := 328) (v := 14) dL_law_328 (by decide +kernel) ?_
                  refine J_icmp_ge X (pc := 330) 412 dL_law_330 (by decide) (fun c90 => ?_) (fun c90 => ?_)
                  · rw [if_pos c90] at g47
                    refine J_iload X (pc := 412) dL_law_412 11 rfl ?_
                    refine J_bipush X (pc := 414) (v := 17) dL_law_414 (by decide +kernel) ?_
                    refine J_icmp_ge X (pc := 416) 541 dL_law_416 (by decide) (fun c91 => ?_) (fun c91 => ?_)
                    · rw [if_pos c91] at g47
                      refine J_iload X (pc := 541) dL_law_541 11 rfl ?_
                      refine J_bipush X (pc := 543) (v := 17) dL_law_543 (by decide +kernel) ?_
                      refine J_icmp_ne X (pc := 545) 645 dL_law_545 (by decide) (fun c92 => ?_) (fun c92 => ?_)
                      · rw [if_neg c92] at g47
                        refine J_aload_n X (pc := 645) dL_law_645 2 rfl ?_
                        refine J_aload X (pc := 646) dL_law_646 5 rfl ?_
                        refine J_aload X (pc := 648) dL_law_648 6 rfl ?_
                        refine J_iload X (pc := 650) dL_law_650 11 rfl ?_
                        refine J_bipush X (pc := 652) (v := 29) dL_law_652 (by decide +kernel) ?_
                        replace g47 := bk g47
                        obtain ⟨r94, g99, g47⟩ := g47
                        have j98 : ∀ ad0 T0, RlT T0 O3 → J E x (k7) (n8) (pw E al ad0 L4 T0) 668 [(0, .ref b), (1, .ref (ad0.1 0)), (2, .ref (al 0)), (3, .ref (al 1)), (4, .ref (al 2)), (5, .ref (al 3)), (7, .int x2), (8, .int r24), (9, .int v26)] [.int r94, .ref (al 3), .ref (al 2), .ref (ad0.1 0)] := by
                          intro ad97 T95 hT96
                          replace g47 := bk g47
                          obtain ⟨⟨r103, O104, L105⟩, g100, g47⟩ := g47
                          dsimp only at g47
                          refine J_callN X XX XN (pc := 668) (y := yL_isPassed) (na := 4) (As := [.ref (ad97.1 0), .ref (al 2), .ref (al 3), .int r94]) (rest := []) (c_L_isPassed E al ad97 g100 hT96) q_554 q_555 q_507 q_541 rfl (by decide +kernel) ⟨Nat.le_of_ble_eq_true rfl, Nat.le_of_ble_eq_true rfl⟩ rfl (Nat.le_of_ble_eq_true rfl) ⟨(show k7 + 9 ≤ 893193 from by omega), (show n8 + 54 ≤ 6421890 from by omega)⟩ dL_law_668 (fun T101 hT102 => ?_)
                          refine J_istore X (pc := 671) dL_law_671 (by decide) rfl ?_
                          cases g47
                          refine J_widen (k2 := k7 + 67) (n2 := n8 + 402) (by omega) (by omega) ?_
                          exact J_sub [1, 2, 3, 4, 5, 6, 0, 7, 8, 9] rfl (j46 _ _ hT102)
                        refine J_icmp_le X (pc := 654) 667 dL_law_654 (by decide) (fun c93 => ?_) (fun c93 => ?_)
                        · rw [if_pos c93] at g99
                          refine J_iconst X (pc := 667) (v := 1) dL_law_667 (by decide +kernel) ?_
                          replace g99 := Option.some.inj g99
                          subst g99
                          exact J_sub [1, 2, 3, 4, 5, 6, 8, 9, 10] rfl (j98 _ _ hT32)
                        · rw [if_neg c93] at g99
                          refine J_iconst X (pc := 657) (v := 1) dL_law_657 (by decide +kernel) ?_
                          refine J_iload X (pc := 658) dL_law_658 10 rfl ?_
                          refine J_bipush X (pc := 660) (v := 8) dL_law_660 (by decide +kernel) ?_
                          refine J_irem X (pc := 662) dL_law_662 (by decide +kernel) ?_
                          refine J_iadd X (pc := 663) dL_law_663 ?_
                          refine J_goto X (pc := 664) 668 dL_law_664 (by decide) ?_
                          replace g99 := Option.some.inj g99
                          subst g99
                          exact J_sub [1, 2, 3, 4, 5, 6, 8, 9, 10] rfl (j98 _ _ hT32)
                      · rw [if_pos c92] at g47
                        refine J_aload X (pc := 548) dL_law_548 5 rfl ?_
                        refine J_bipush X (pc := 550) (v := 8) dL_law_550 (by decide +kernel) ?_
                        refine J_iload X (pc := 552) dL_law_552 0 rfl ?_
                        refine J_imul X (pc := 554) dL_law_554 ?_
                        refine J_iconst X (pc := 555) (v := 3) dL_law_555 (by decide +kernel) ?_
                        refine J_iadd X (pc := 556) dL_law_556 ?_
                        refine J_iload X (pc := 557) dL_law_557 10 rfl ?_
                        refine J_iload X (pc := 559) dL_law_559 10 rfl ?_
                        refine J_iconst X (pc := 561) (v := 3) dL_law_561 (by decide +kernel) ?_
                        refine J_irem X (pc := 562) dL_law_562 (by decide +kernel) ?_
                        replace g47 := bk g47
                        obtain ⟨r107, g112, g47⟩ := g47
                        have j111 : ∀ ad0 T0, RlT T0 O3 → J E x (k7) (n8) (pw E al ad0 L4 T0) 574 [(0, .ref b), (1, .ref (ad0.1 0)), (2, .ref (al 0)), (3, .ref (al 1)), (4, .ref (al 2)), (5, .ref (al 3)), (7, .int x2), (8, .int r24), (9, .int v26), (11, .int r30)] [.int r107, .int v26, .int ((((8 : Int32)) * r30) + ((3 : Int32))), .ref (al 2)] := by
                          intro ad110 T108 hT109
                          replace g47 := ck_e g47
                          obtain ⟨b113, g47⟩ := g47
                          refine J_irem X (pc := 574) dL_law_574 b113 ?_
                          replace g47 := ck_e g47
                          obtain ⟨b114, g47⟩ := g47
                          replace g47 := nmv_e g47
                          obtain ⟨L115, eL115, g47⟩ := g47
                          refine J_iast X (pc := 575) (w1 := pw E al ad110 L115 T108) 2 pw_c2 b114 dL_law_575 (pw_s2 eL115) ?_
                          refine J_aload X (pc := 576) dL_law_576 4 rfl ?_
                          refine J_bipush X (pc := 578) (v := 8) dL_law_578 (by decide +kernel) ?_
                          refine J_iload X (pc := 580) dL_law_580 9 rfl ?_
                          refine J_imul X (pc := 582) dL_law_582 ?_
                          refine J_iconst X (pc := 583) (v := 4) dL_law_583 (by decide +kernel) ?_
                          refine J_iadd X (pc := 584) dL_law_584 ?_
                          refine J_iload X (pc := 585) dL_law_585 8 rfl ?_
                          refine J_bipush X (pc := 587) (v := 7) dL_law_587 (by decide +kernel) ?_
                          refine J_idiv X (pc := 589) dL_law_589 (by decide +kernel) ?_
                          refine J_iload X (pc := 590) dL_law_590 8 rfl ?_
                          refine J_iconst X (pc := 592) (v := 4) dL_law_592 (by decide +kernel) ?_
                          refine J_irem X (pc := 593) dL_law_593 (by decide +kernel) ?_
                          replace g47 := bk g47
                          obtain ⟨r117, g122, g47⟩ := g47
                          have j121 : ∀ ad0 T0, RlT T0 O3 → J E x (k7) (n8) (pw E al ad0 L115 T0) 604 [(0, .ref b), (1, .ref (ad0.1 0)), (2, .ref (al 0)), (3, .ref (al 1)), (4, .ref (al 2)), (5, .ref (al 3)), (7, .int x2), (8, .int r24), (9, .int v26), (11, .int r30)] [.int r117, .int (v26 / ((7 : Int32))), .int ((((8 : Int32)) * r30) + ((4 : Int32))), .ref (al 2)] := by
                            intro ad120 T118 hT119
                            replace g47 := ck_e g47
                            obtain ⟨b123, g47⟩ := g47
                            refine J_irem X (pc := 604) dL_law_604 b123 ?_
                            replace g47 := ck_e g47
                            obtain ⟨b124, g47⟩ := g47
                            replace g47 := nmv_e g47
                            obtain ⟨L125, eL125, g47⟩ := g47
                            refine J_iast X (pc := 605) (w1 := pw E al ad120 L125 T118) 2 pw_c2 b124 dL_law_605 (pw_s2 eL125) ?_
                            refine J_aload_n X (pc := 606) dL_law_606 1 rfl ?_
                            refine J_iload X (pc := 607) dL_law_607 9 rfl ?_
                            refine J_aload X (pc := 609) dL_law_609 4 rfl ?_
                            refine J_bipush X (pc := 611) (v := 8) dL_law_611 (by decide +kernel) ?_
                            refine J_iload X (pc := 613) dL_law_613 9 rfl ?_
                            refine J_imul X (pc := 615) dL_law_615 ?_
                            refine J_iconst X (pc := 616) (v := 3) dL_law_616 (by decide +kernel) ?_
                            refine J_iadd X (pc := 617) dL_law_617 ?_
                            replace g47 := ck_e g47
                            obtain ⟨b126, g47⟩ := g47
                            refine J_iald X (pc := 618) 2 pw_c2 b126 dL_law_618 ?_
                            refine J_aload X (pc := 619) dL_law_619 4 rfl ?_
                            refine J_bipush X (pc := 621) (v := 8) dL_law_621 (by decide +kernel) ?_
                            refine J_iload X (pc := 623) dL_law_623 9 rfl ?_
                            refine J_imul X (pc := 625) dL_law_625 ?_
                            refine J_iconst X (pc := 626) (v := 4) dL_law_626 (by decide +kernel) ?_
                            refine J_iadd X (pc := 627) dL_law_627 ?_
                            replace g47 := ck_e g47
                            obtain ⟨b127, g47⟩ := g47
                            refine J_iald X (pc := 628) 2 pw_c2 b127 dL_law_628 ?_
                            replace g47 := bk g47
                            obtain ⟨O131, g128, g47⟩ := g47
                            refine P_a_setRule X XX XN (pc := 629) g128 hT119 ⟨Nat.le_of_ble_eq_true rfl, Nat.le_of_ble_eq_true rfl⟩ (Nat.le_of_ble_eq_true rfl) ⟨(show k7 + 1 ≤ 893193 from by omega), (show n8 + 6 ≤ 6421890 from by omega)⟩ dL_law_629 (fun T129 hT130 => ?_)
                            replace g47 := bk g47
                            obtain ⟨r133, g138, g47⟩ := g47
                            have j137 : ∀ ad0 T0, RlT T0 O131 → J E x (k7 + 1) (n8 + 6) (pw E al ad0 L125 T0) 640 [(0, .ref b), (1, .ref (ad0.1 0)), (2, .ref (al 0)), (3, .ref (al 1)), (4, .ref (al 2)), (5, .ref (al 3)), (7, .int x2), (8, .int r24), (9, .int v26)] [.int r133] := by
                              intro ad136 T134 hT135
                              refine J_istore X (pc := 640) dL_law_640 (by decide) rfl ?_
                              refine J_goto X (pc := 642) 673 dL_law_642 (by decide) ?_
                              cases g47
                              refine J_widen (k2 := k7 + 67) (n2 := n8 + 402) (by omega) (by omega) ?_
                              exact J_sub [1, 2, 3, 4, 5, 6, 0, 7, 8, 9] rfl (j46 _ _ hT135)
                            refine J_if_ne X (pc := 632) 639 dL_law_632 (by decide) (fun c132 => ?_) (fun c132 => ?_)
                            · rw [if_neg c132] at g138
                              refine J_iconst X (pc := 639) (v := 0) dL_law_639 (by decide +kernel) ?_
                              replace g138 := Option.some.inj g138
                              subst g138
                              exact J_sub [0, 1, 2, 3, 4, 5, 6, 7, 8] rfl (j137 _ _ hT130)
                            · rw [if_pos c132] at g138
                              refine J_iconst X (pc := 635) (v := 1) dL_law_635 (by decide +kernel) ?_
                              refine J_goto X (pc := 636) 640 dL_law_636 (by decide) ?_
                              replace g138 := Option.some.inj g138
                              subst g138
                              exact J_sub [0, 1, 2, 3, 4, 5, 6, 7, 8] rfl (j137 _ _ hT130)
                          refine J_if_ne X (pc := 594) 602 dL_law_594 (by decide) (fun c116 => ?_) (fun c116 => ?_)
                          · rw [if_neg c116] at g122
                            refine J_bipush X (pc := 602) (v := 20) dL_law_602 (by decide +kernel) ?_
                            replace g122 := Option.some.inj g122
                            subst g122
                            exact J_sub [0, 1, 2, 3, 4, 5, 6, 7, 8, 9] rfl (j121 _ _ hT109)
                          · rw [if_pos c116] at g122
                            refine J_bipush X (pc := 597) (v := 101) dL_law_597 (by decide +kernel) ?_
                            refine J_goto X (pc := 599) 604 dL_law_599 (by decide) ?_
                            replace g122 := Option.some.inj g122
                            subst g122
                            exact J_sub [0, 1, 2, 3, 4, 5, 6, 7, 8, 9] rfl (j121 _ _ hT109)
                        refine J_if_ne X (pc := 563) 572 dL_law_563 (by decide) (fun c106 => ?_) (fun c106 => ?_)
                        · rw [if_neg c106] at g112
                          refine J_bipush X (pc := 572) (v := 60) dL_law_572 (by decide +kernel) ?_
                          replace g112 := Option.some.inj g112
                          subst g112
                          exact J_sub [1, 2, 3, 4, 5, 6, 8, 9, 10, 0] rfl (j111 _ _ hT32)
                        · rw [if_pos c106] at g112
                          refine J_sipush X (pc := 566) (v := 3001) dL_law_566 (by decide +kernel) ?_
                          refine J_goto X (pc := 569) 574 dL_law_569 (by decide) ?_
                          replace g112 := Option.some.inj g112
                          subst g112
                          exact J_sub [1, 2, 3, 4, 5, 6, 8, 9, 10, 0] rfl (j111 _ _ hT32)
                    · rw [if_neg c91] at g47
                      refine J_iload X (pc := 419) dL_law_419 10 rfl ?_
                      refine J_iconst X (pc := 421) (v := 4) dL_law_421 (by decide +kernel) ?_
                      refine J_irem X (pc := 422) dL_law_422 (by decide +kernel) ?_
                      replace g47 := bk g47
                      obtain ⟨r140, g145, g47⟩ := g47
                      have j144 : ∀ ad0 T0, RlT T0 O3 → J E x (k7) (n8) (pw E al ad0 L4 T0) 448 [(0, .ref b), (1, .ref (ad0.1 0)), (2, .ref (al 0)), (3, .ref (al 1)), (4, .ref (al 2)), (5, .ref (al 3)), (6, .int x1), (7, .int x2), (8, .int r24), (9, .int v26), (11, .int r30)] [.int r140] := by
                        intro ad143 T141 hT142
                        refine J_istore X (pc := 448) dL_law_448 (by decide) rfl ?_
                        refine J_aload X (pc := 450) dL_law_450 5 rfl ?_
                        refine J_bipush X (pc := 452) (v := 8) dL_law_452 (by decide +kernel) ?_
                        refine J_iload X (pc := 454) dL_law_454 11 rfl ?_
                        refine J_imul X (pc := 456) dL_law_456 ?_
                        refine J_iconst X (pc := 457) (v := 2) dL_law_457 (by decide +kernel) ?_
                        refine J_iadd X (pc := 458) dL_law_458 ?_
                        replace g47 := ck_e g47
                        obtain ⟨b146, g47⟩ := g47
                        refine J_iald X (pc := 459) 2 pw_c2 b146 dL_law_459 ?_
                        refine J_bipush X (pc := 460) (v := 20) dL_law_460 (by decide +kernel) ?_
                        replace g47 := bk g47
                        obtain ⟨⟨r148, O149, L150⟩, g155, g47⟩ := g47
                        dsimp only at g47
                        have j154 : ∀ ad0 T0, RlT T0 O149 → J E x (k7 + 1) (n8 + 6) (pw E al ad0 L150 T0) 538 [(0, .ref b), (1, .ref (ad0.1 0)), (2, .ref (al 0)), (3, .ref (al 1)), (4, .ref (al 2)), (5, .ref (al 3)), (6, .int r148), (7, .int x2), (8, .int r24), (9, .int v26)] [] := by
                          intro ad153 T151 hT152
                          refine J_goto X (pc := 538) 673 dL_law_538 (by decide) ?_
                          cases g47
                          refine J_widen (k2 := k7 + 67) (n2 := n8 + 402) (by omega) (by omega) ?_
                          exact J_sub [0, 1, 2, 3, 4, 5, 6, 7, 8, 9] rfl (j46 _ _ hT152)
                        refine J_icmp_ge X (pc := 462) 538 dL_law_462 (by decide) (fun c147 => ?_) (fun c147 => ?_)
                        · rw [if_pos c147] at g155
                          cases g155
                          refine J_widen (k2 := k7 + 1) (n2 := n8 + 6) (by omega) (by omega) ?_
                          exact J_sub [1, 2, 3, 4, 5, 6, 7, 8, 9, 10] rfl (j154 _ _ hT142)
                        · rw [if_neg c147] at g155
                          refine J_aload_n X (pc := 465) dL_law_465 4 rfl ?_
                          refine J_bipush X (pc := 466) (v := 20) dL_law_466 (by decide +kernel) ?_
                          refine J_iload X (pc := 468) dL_law_468 11 rfl ?_
                          refine J_imul X (pc := 470) dL_law_470 ?_
                          refine J_aload X (pc := 471) dL_law_471 5 rfl ?_
                          refine J_bipush X (pc := 473) (v := 8) dL_law_473 (by decide +kernel) ?_
                          refine J_iload X (pc := 475) dL_law_475 11 rfl ?_
                          refine J_imul X (pc := 477) dL_law_477 ?_
                          refine J_iconst X (pc := 478) (v := 2) dL_law_478 (by decide +kernel) ?_
                          refine J_iadd X (pc := 479) dL_law_479 ?_
                          replace g155 := ck_e g155
                          obtain ⟨b156, g155⟩ := g155
                          refine J_iald X (pc := 480) 2 pw_c2 b156 dL_law_480 ?_
                          refine J_iadd X (pc := 481) dL_law_481 ?_
                          refine J_aload_n X (pc := 482) dL_law_482 2 rfl ?_
                          refine P_today X (pc := 483) hT142 ⟨Nat.le_of_ble_eq_true rfl, Nat.le_of_ble_eq_true rfl⟩ (Nat.le_of_ble_eq_true rfl) ⟨(show k7 ≤ 893193 from by omega), (show n8 ≤ 6421890 from by omega)⟩ dL_law_483 ?_
                          refine J_i2l X (pc := 486) dL_law_486 ?_
                          refine J_iload X (pc := 487) dL_law_487 0 rfl ?_
                          refine J_i2l X (pc := 489) dL_law_489 ?_
                          refine J_bipush X (pc := 490) (v := 11) dL_law_490 (by decide +kernel) ?_
                          refine J_lshl X (pc := 492) dL_law_492 ?_
                          refine J_lor X (pc := 493) dL_law_493 ?_
                          replace g155 := ck_e g155
                          obtain ⟨b157, g155⟩ := g155
                          replace g155 := nmv_e g155
                          obtain ⟨L158, eL158, g155⟩ := g155
                          refine J_last X (pc := 494) (w1 := pw E al ad143 L158 T141) 1 pw_c1 b157 dL_law_494 (pw_s1 eL158) ?_
                          refine J_aload X (pc := 495) dL_law_495 5 rfl ?_
                          refine J_bipush X (pc := 497) (v := 8) dL_law_497 (by decide +kernel) ?_
                          refine J_iload X (pc := 499) dL_law_499 11 rfl ?_
                          refine J_imul X (pc := 501) dL_law_501 ?_
                          refine J_iconst X (pc := 502) (v := 2) dL_law_502 (by decide +kernel) ?_
                          refine J_iadd X (pc := 503) dL_law_503 ?_
                          refine J_dup2 X (pc := 504) dL_law_504 rfl rfl ?_
                          replace g155 := ck_e g155
                          obtain ⟨b159, g155⟩ := g155
                          refine J_iald X (pc := 505) 2 pw_c2 b159 dL_law_505 ?_
                          refine J_iconst X (pc := 506) (v := 1) dL_law_506 (by decide +kernel) ?_
                          refine J_iadd X (pc := 507) dL_law_507 ?_
                          replace g155 := ck_e g155
                          obtain ⟨b160, g155⟩ := g155
                          replace g155 := nmv_e g155
                          obtain ⟨L161, eL161, g155⟩ := g155
                          refine J_iast X (pc := 508) (w1 := pw E al ad143 L161 T141) 2 pw_c2 b160 dL_law_508 (pw_s2 eL161) ?_
                          refine J_aload_n X (pc := 509) dL_law_509 2 rfl ?_
                          refine J_iconst X (pc := 510) (v := 3) dL_law_510 (by decide +kernel) ?_
                          refine J_iload X (pc := 511) dL_law_511 11 rfl ?_
                          refine J_iload X (pc := 513) dL_law_513 0 rfl ?_
                          replace g155 := bk g155
                          obtain ⟨⟨r165, O166⟩, g162, g155⟩ := g155
                          dsimp only at g155
                          refine P_a_clean X XX XN (pc := 515) g162 hT142 ⟨Nat.le_of_ble_eq_true rfl, Nat.le_of_ble_eq_true rfl⟩ (Nat.le_of_ble_eq_true rfl) ⟨(show k7 + 1 ≤ 893193 from by omega), (show n8 + 6 ≤ 6421890 from by omega)⟩ dL_law_515 (fun T163 hT164 => ?_)
                          refine J_aload X (pc := 518) dL_law_518 5 rfl ?_
                          refine J_bipush X (pc := 520) (v := 8) dL_law_520 (by decide +kernel) ?_
                          refine J_iload X (pc := 522) dL_law_522 11 rfl ?_
                          refine J_imul X (pc := 524) dL_law_524 ?_
                          refine J_iconst X (pc := 525) (v := 2) dL_law_525 (by decide +kernel) ?_
                          refine J_iadd X (pc := 526) dL_law_526 ?_
                          replace g155 := ck_e g155
                          obtain ⟨b167, g155⟩ := g155
                          refine J_iald X (pc := 527) 2 pw_c2 b167 dL_law_527 ?_
                          replace g155 := bk g155
                          obtain ⟨r169, g174, g155⟩ := g155
                          have j173 : ∀ ad0 T0, RlT T0 O166 → J E x (k7 + 1) (n8 + 6) (pw E al ad0 L161 T0) 536 [(0, .ref b), (1, .ref (ad0.1 0)), (2, .ref (al 0)), (3, .ref (al 1)), (4, .ref (al 2)), (5, .ref (al 3)), (7, .int x2), (8, .int r24), (9, .int v26)] [.int r169] := by
                            intro ad172 T170 hT171
                            refine J_istore X (pc := 536) dL_law_536 (by decide) rfl ?_
                            cases g155
                            refine J_widen (k2 := k7 + 1) (n2 := n8 + 6) (by omega) (by omega) ?_
                            exact J_sub [1, 2, 3, 4, 5, 6, 0, 7, 8, 9] rfl (j154 _ _ hT171)
                          refine J_icmp_ne X (pc := 528) 535 dL_law_528 (by decide) (fun c168 => ?_) (fun c168 => ?_)
                          · rw [if_neg c168] at g174
                            refine J_iconst X (pc := 535) (v := 0) dL_law_535 (by decide +kernel) ?_
                            replace g174 := Option.some.inj g174
                            subst g174
                            exact J_sub [1, 2, 3, 4, 5, 6, 8, 9, 10] rfl (j173 _ _ hT164)
                          · rw [if_pos c168] at g174
                            refine J_iconst X (pc := 531) (v := 1) dL_law_531 (by decide +kernel) ?_
                            refine J_goto X (pc := 532) 536 dL_law_532 (by decide) ?_
                            replace g174 := Option.some.inj g174
                            subst g174
                            exact J_sub [1, 2, 3, 4, 5, 6, 8, 9, 10] rfl (j173 _ _ hT164)
                      refine J_if_ne X (pc := 423) 438 dL_law_423 (by decide) (fun c139 => ?_) (fun c139 => ?_)
                      · rw [if_neg c139] at g145
                        refine J_iconst X (pc := 438) (v := 1) dL_law_438 (by decide +kernel) ?_
                        refine J_iload X (pc := 439) dL_law_439 10 rfl ?_
                        refine J_iconst X (pc := 441) (v := 4) dL_law_441 (by decide +kernel) ?_
                        refine J_idiv X (pc := 442) dL_law_442 (by decide +kernel) ?_
                        refine J_sipush X (pc := 443) (v := 300) dL_law_443 (by decide +kernel) ?_
                        refine J_irem X (pc := 446) dL_law_446 (by decide +kernel) ?_
                        refine J_iadd X (pc := 447) dL_law_447 ?_
                        replace g145 := Option.some.inj g145
                        subst g145
                        exact J_sub [1, 2, 3, 4, 5, 6, 7, 8, 9, 10, 0] rfl (j144 _ _ hT32)
                      · rw [if_pos c139] at g145
                        refine J_iconst X (pc := 426) (v := 1) dL_law_426 (by decide +kernel) ?_
                        refine J_iload X (pc := 427) dL_law_427 10 rfl ?_
                        refine J_iconst X (pc := 429) (v := 4) dL_law_429 (by decide +kernel) ?_
                        refine J_idiv X (pc := 430) dL_law_430 (by decide +kernel) ?_
                        refine J_ldc X (pc := 431) dL_law_431 q_545 ?_
                        refine J_irem X (pc := 433) dL_law_433 (by decide +kernel) ?_
                        refine J_iadd X (pc := 434) dL_law_434 ?_
                        refine J_goto X (pc := 435) 448 dL_law_435 (by decide) ?_
                        replace g145 := Option.some.inj g145
                        subst g145
                        exact J_sub [1, 2, 3, 4, 5, 6, 7, 8, 9, 10, 0] rfl (j144 _ _ hT32)
                  · rw [if_neg c90] at g47
                    refine J_aload_n X (pc := 333) dL_law_333 2 rfl ?_
                    refine J_aload_n X (pc := 334) dL_law_334 3 rfl ?_
                    refine J_aload X (pc := 335) dL_law_335 5 rfl ?_
                    refine J_iload X (pc := 337) dL_law_337 0 rfl ?_
                    refine J_iload X (pc := 339) dL_law_339 10 rfl ?_
                    refine J_bipush X (pc := 341) (v := 9) dL_law_341 (by decide +kernel) ?_
                    refine J_irem X (pc := 343) dL_law_343 (by decide +kernel) ?_
                    replace g47 := bk g47
                    obtain ⟨r176, g181, g47⟩ := g47
                    have j180 : ∀ ad0 T0, RlT T0 O3 → J E x (k7) (n8) (pw E al ad0 L4 T0) 404 [(0, .ref b), (1, .ref (ad0.1 0)), (2, .ref (al 0)), (3, .ref (al 1)), (4, .ref (al 2)), (5, .ref (al 3)), (7, .int x2), (8, .int r24), (9, .int v26)] [.int r176, .int r30, .ref (al 2), .ref (al 0), .ref (ad0.1 0)] := by
                      intro ad179 T177 hT178
                      replace g47 := bk g47
                      obtain ⟨⟨r186, O187, L188⟩, g183, g47⟩ := g47
                      dsimp only at g47
                      refine J_callN X XX XN (pc := 404) (y := yL_isSampled) (na := 5) (As := [.ref (ad179.1 0), .ref (al 0), .ref (al 2), .int r30, .int r176]) (rest := []) (c_L_isSampled E al ad179 g183 hT178) q_552 q_553 q_507 q_539 rfl (by decide +kernel) ⟨Nat.le_of_ble_eq_true rfl, Nat.le_of_ble_eq_true rfl⟩ rfl (Nat.le_of_ble_eq_true rfl) ⟨(show k7 + 1 ≤ 893193 from by omega), (show n8 + 6 ≤ 6421890 from by omega)⟩ dL_law_404 (fun T184 hT185 => ?_)
                      refine J_istore X (pc := 407) dL_law_407 (by decide) rfl ?_
                      refine J_goto X (pc := 409) 673 dL_law_409 (by decide) ?_
                      cases g47
                      refine J_widen (k2 := k7 + 67) (n2 := n8 + 402) (by omega) (by omega) ?_
                      exact J_sub [1, 2, 3, 4, 5, 6, 0, 7, 8, 9] rfl (j46 _ _ hT185)
                    refine J_if_ne X (pc := 344) 358 dL_law_344 (by decide) (fun c175 => ?_) (fun c175 => ?_)
                    · rw [if_neg c175] at g181
                      refine J_iload X (pc := 358) dL_law_358 10 rfl ?_
                      refine J_bipush X (pc := 360) (v := 9) dL_law_360 (by decide +kernel) ?_
                      refine J_irem X (pc := 362) dL_law_362 (by decide +kernel) ?_
                      refine J_bipush X (pc := 363) (v := 6) dL_law_363 (by decide +kernel) ?_
                      refine J_icmp_ge X (pc := 365) 395 dL_law_365 (by decide) (fun c182 => ?_) (fun c182 => ?_)
                      · rw [if_pos c182] at g181
                        refine J_iload X (pc := 395) dL_law_395 10 rfl ?_
                        refine J_bipush X (pc := 397) (v := 9) dL_law_397 (by decide +kernel) ?_
                        refine J_idiv X (pc := 399) dL_law_399 (by decide +kernel) ?_
                        refine J_sipush X (pc := 400) (v := 3000) dL_law_400 (by decide +kernel) ?_
                        refine J_irem X (pc := 403) dL_law_403 (by decide +kernel) ?_
                        replace g181 := Option.some.inj g181
                        subst g181
                        exact J_sub [1, 2, 3, 4, 5, 6, 8, 9, 10] rfl (j180 _ _ hT32)
                      · rw [if_neg c182] at g181
                        refine J_sipush X (pc := 368) (v := 200) dL_law_368 (by decide +kernel) ?_
                        refine J_bipush X (pc := 371) (v := 20) dL_law_371 (by decide +kernel) ?_
                        refine J_aload_n X (pc := 373) dL_law_373 2 rfl ?_
                        refine P_today X (pc := 374) hT32 ⟨Nat.le_of_ble_eq_true rfl, Nat.le_of_ble_eq_true rfl⟩ (Nat.le_of_ble_eq_true rfl) ⟨(show k7 ≤ 893193 from by omega), (show n8 ≤ 6421890 from by omega)⟩ dL_law_374 ?_
                        refine J_imul X (pc := 377) dL_law_377 ?_
                        refine J_sipush X (pc := 378) (v := 3000) dL_law_378 (by decide +kernel) ?_
                        refine J_irem X (pc := 381) dL_law_381 (by decide +kernel) ?_
                        refine J_iadd X (pc := 382) dL_law_382 ?_
                        refine J_iload X (pc := 383) dL_law_383 10 rfl ?_
                        refine J_bipush X (pc := 385) (v := 99) dL_law_385 (by decide +kernel) ?_
                        refine J_idiv X (pc := 387) dL_law_387 (by decide +kernel) ?_
                        refine J_bipush X (pc := 388) (v := 60) dL_law_388 (by decide +kernel) ?_
                        refine J_irem X (pc := 390) dL_law_390 (by decide +kernel) ?_
                        refine J_iadd X (pc := 391) dL_law_391 ?_
                        refine J_goto X (pc := 392) 404 dL_law_392 (by decide) ?_
                        replace g181 := Option.some.inj g181
                        subst g181
                        exact J_sub [1, 2, 3, 4, 5, 6, 8, 9, 10] rfl (j180 _ _ hT32)
                    · rw [if_pos c175] at g181
                      refine J_iload X (pc := 347) dL_law_347 10 rfl ?_
                      refine J_bipush X (pc := 349) (v := 9) dL_law_349 (by decide +kernel) ?_
                      refine J_idiv X (pc := 351) dL_law_351 (by decide +kernel) ?_
                      refine J_ldc X (pc := 352) dL_law_352 q_530 ?_
                      refine J_irem X (pc := 354) dL_law_354 (by decide +kernel) ?_
                      refine J_goto X (pc := 355) 404 dL_law_355 (by decide) ?_
                      replace g181 := Option.some.inj g181
                      subst g181
                      exact J_sub [1, 2, 3, 4, 5, 6, 8, 9, 10] rfl (j180 _ _ hT32)
                · rw [if_pos c89] at g47
                  refine J_aload X (pc := 245) dL_law_245 5 rfl ?_
                  refine J_bipush X (pc := 247) (v := 8) dL_law_247 (by decide +kernel) ?_
                  refine J_iload X (pc := 249) dL_law_249 0 rfl ?_
                  refine J_imul X (pc := 251) dL_law_251 ?_
                  replace g47 := ck_e g47
                  obtain ⟨b189, g47⟩ := g47
                  refine J_iald X (pc := 252) 2 pw_c2 b189 dL_law_252 ?_
                  replace g47 := nmv_e g47
                  obtain ⟨v190, ev190, g47⟩ := g47
                  refine J_nmi ev190 ?_
                  refine J_istore X (pc := 253) dL_law_253 (by decide) rfl ?_
                  refine J_aload X (pc := 255) dL_law_255 6 rfl ?_
                  refine J_bipush X (pc := 257) (v := 8) dL_law_257 (by decide +kernel) ?_
                  refine J_iload X (pc := 259) dL_law_259 1 rfl ?_
                  refine J_imul X (pc := 261) dL_law_261 ?_
                  refine J_iload X (pc := 262) dL_law_262 11 rfl ?_
                  refine J_iconst X (pc := 264) (v := 3) dL_law_264 (by decide +kernel) ?_
                  refine J_irem X (pc := 265) dL_law_265 (by decide +kernel) ?_
                  replace g47 := bk g47
                  obtain ⟨r192, g197, g47⟩ := g47
                  have j196 : ∀ ad0 T0, RlT T0 O3 → J E x (k7) (n8) (pw E al ad0 L4 T0) 295 [(0, .ref b), (1, .ref (ad0.1 0)), (2, .ref (al 0)), (3, .ref (al 1)), (4, .ref (al 2)), (5, .ref (al 3)), (7, .int x2), (8, .int r24), (9, .int v26), (11, .int r30), (12, .int v190)] [.int r192, .int (((8 : Int32)) * r30), .ref (al 2)] := by
                    intro ad195 T193 hT194
                    replace g47 := ck_e g47
                    obtain ⟨b198, g47⟩ := g47
                    replace g47 := nmv_e g47
                    obtain ⟨L199, eL199, g47⟩ := g47
                    refine J_iast X (pc := 295) (w1 := pw E al ad195 L199 T193) 2 pw_c2 b198 dL_law_295 (pw_s2 eL199) ?_
                    refine J_aload_n X (pc := 296) dL_law_296 1 rfl ?_
                    refine J_iconst X (pc := 297) (v := 1) dL_law_297 (by decide +kernel) ?_
                    refine J_iload X (pc := 298) dL_law_298 9 rfl ?_
                    refine J_aload X (pc := 300) dL_law_300 4 rfl ?_
                    refine J_bipush X (pc := 302) (v := 8) dL_law_302 (by decide +kernel) ?_
                    refine J_iload X (pc := 304) dL_law_304 9 rfl ?_
                    refine J_imul X (pc := 306) dL_law_306 ?_
                    replace g47 := ck_e g47
                    obtain ⟨b200, g47⟩ := g47
                    refine J_iald X (pc := 307) 2 pw_c2 b200 dL_law_307 ?_
                    replace g47 := bk g47
                    obtain ⟨⟨r204, O205⟩, g201, g47⟩ := g47
                    dsimp only at g47
                    refine P_a_setSize X XX XN (pc := 308) g201 hT194 ⟨Nat.le_of_ble_eq_true rfl, Nat.le_of_ble_eq_true rfl⟩ (Nat.le_of_ble_eq_true rfl) ⟨(show k7 + 1 ≤ 893193 from by omega), (show n8 + 6 ≤ 6421890 from by omega)⟩ dL_law_308 (fun T202 hT203 => ?_)
                    refine J_iload X (pc := 311) dL_law_311 10 rfl ?_
                    replace g47 := bk g47
                    obtain ⟨r207, g212, g47⟩ := g47
                    have j211 : ∀ ad0 T0, RlT T0 O205 → J E x (k7 + 1) (n8 + 6) (pw E al ad0 L199 T0) 321 [(0, .ref b), (1, .ref (ad0.1 0)), (2, .ref (al 0)), (3, .ref (al 1)), (4, .ref (al 2)), (5, .ref (al 3)), (7, .int x2), (8, .int r24), (9, .int v26)] [.int r207] := by
                      intro ad210 T208 hT209
                      refine J_istore X (pc := 321) dL_law_321 (by decide) rfl ?_
                      refine J_goto X (pc := 323) 673 dL_law_323 (by decide) ?_
                      cases g47
                      refine J_widen (k2 := k7 + 67) (n2 := n8 + 402) (by omega) (by omega) ?_
                      exact J_sub [1, 2, 3, 4, 5, 6, 0, 7, 8, 9] rfl (j46 _ _ hT209)
                    refine J_icmp_ne X (pc := 313) 320 dL_law_313 (by decide) (fun c206 => ?_) (fun c206 => ?_)
                    · rw [if_neg c206] at g212
                      refine J_iconst X (pc := 320) (v := 0) dL_law_320 (by decide +kernel) ?_
                      replace g212 := Option.some.inj g212
                      subst g212
                      exact J_sub [0, 1, 2, 3, 4, 5, 6, 7, 8] rfl (j211 _ _ hT203)
                    · rw [if_pos c206] at g212
                      refine J_iconst X (pc := 316) (v := 1) dL_law_316 (by decide +kernel) ?_
                      refine J_goto X (pc := 317) 321 dL_law_317 (by decide) ?_
                      replace g212 := Option.some.inj g212
                      subst g212
                      exact J_sub [0, 1, 2, 3, 4, 5, 6, 7, 8] rfl (j211 _ _ hT203)
                  refine J_if_ne X (pc := 266) 282 dL_law_266 (by decide) (fun c191 => ?_) (fun c191 => ?_)
                  · rw [if_neg c191] at g197
                    refine J_sipush X (pc := 282) (v := 500) dL_law_282 (by decide +kernel) ?_
                    refine J_iload X (pc := 285) dL_law_285 11 rfl ?_
                    refine J_bipush X (pc := 287) (v := 9) dL_law_287 (by decide +kernel) ?_
                    refine J_idiv X (pc := 289) dL_law_289 (by decide +kernel) ?_
                    refine J_sipush X (pc := 290) (v := 3000) dL_law_290 (by decide +kernel) ?_
                    refine J_irem X (pc := 293) dL_law_293 (by decide +kernel) ?_
                    refine J_iadd X (pc := 294) dL_law_294 ?_
                    replace g197 := Option.some.inj g197
                    subst g197
                    exact J_sub [2, 3, 4, 5, 6, 7, 9, 10, 11, 1, 0] rfl (j196 _ _ hT32)
                  · rw [if_pos c191] at g197
                    refine J_iconst X (pc := 269) (v := 1) dL_law_269 (by decide +kernel) ?_
                    refine J_iload X (pc := 270) dL_law_270 11 rfl ?_
                    refine J_bipush X (pc := 272) (v := 9) dL_law_272 (by decide +kernel) ?_
                    refine J_idiv X (pc := 274) dL_law_274 (by decide +kernel) ?_
                    refine J_ldc X (pc := 275) dL_law_275 q_540 ?_
                    refine J_irem X (pc := 277) dL_law_277 (by decide +kernel) ?_
                    refine J_iadd X (pc := 278) dL_law_278 ?_
                    refine J_goto X (pc := 279) 295 dL_law_279 (by decide) ?_
                    replace g197 := Option.some.inj g197
                    subst g197
                    exact J_sub [2, 3, 4, 5, 6, 7, 9, 10, 11, 1, 0] rfl (j196 _ _ hT32)
              · rw [if_pos c88] at g47
                refine J_aload X (pc := 125) dL_law_125 6 rfl ?_
                refine J_iconst X (pc := 127) (v := 0) dL_law_127 (by decide +kernel) ?_
                replace g47 := ck_e g47
                obtain ⟨b213, g47⟩ := g47
                refine J_iald X (pc := 128) 3 pw_c3 b213 dL_law_128 ?_
                refine J_iconst X (pc := 129) (v := 3) dL_law_129 (by decide +kernel) ?_
                refine J_icmp_ge X (pc := 130) 239 dL_law_130 (by decide) (fun c214 => ?_) (fun c214 => ?_)
                · rw [if_pos c214] at g47
                  refine J_iload X (pc := 239) dL_law_239 11 rfl ?_
                  refine J_iconst X (pc := 241) (v := 1) dL_law_241 (by decide +kernel) ?_
                  refine J_icmp_ne X (pc := 242) 326 dL_law_242 (by decide) (fun c215 => ?_) (fun c215 => ?_)
                  · rw [if_neg c215] at g47
                    refine J_iload X (pc := 326) dL_law_326 11 rfl ?_
                    refine J_bipush X (pc := 328) (v := 14) dL_law_328 (by decide +kernel) ?_
                    refine J_icmp_ge X (pc := 330) 412 dL_law_330 (by decide) (fun c216 => ?_) (fun c216 => ?_)
                    · rw [if_pos c216] at g47
                      refine J_iload X (pc := 412) dL_law_412 11 rfl ?_
                      refine J_bipush X (pc := 414) (v := 17) dL_law_414 (by decide +kernel) ?_
                      refine J_icmp_ge X (pc := 416) 541 dL_law_416 (by decide) (fun c217 => ?_) (fun c217 => ?_)
                      · rw [if_pos c217] at g47
                        refine J_iload X (pc := 541) dL_law_541 11 rfl ?_
                        refine J_bipush X (pc := 543) (v := 17) dL_law_543 (by decide +kernel) ?_
                        refine J_icmp_ne X (pc := 545) 645 dL_law_545 (by decide) (fun c218 => ?_) (fun c218 => ?_)
                        · rw [if_neg c218] at g47
                          refine J_aload_n X (pc := 645) dL_law_645 2 rfl ?_
                          refine J_aload X (pc := 646) dL_law_646 5 rfl ?_
                          refine J_aload X (pc := 648) dL_law_648 6 rfl ?_
                          refine J_iload X (pc := 650) dL_law_650 11 rfl ?_
                          refine J_bipush X (pc := 652) (v := 29) dL_law_652 (by decide +kernel) ?_
                          replace g47 := bk g47
                          obtain ⟨r220, g225, g47⟩ := g47
                          have j224 : ∀ ad0 T0, RlT T0 O3 → J E x (k7) (n8) (pw E al ad0 L4 T0) 668 [(0, .ref b), (1, .ref (ad0.1 0)), (2, .ref (al 0)), (3, .ref (al 1)), (4, .ref (al 2)), (5, .ref (al 3)), (7, .int x2), (8, .int r24), (9, .int v26)] [.int r220, .ref (al 3), .ref (al 2), .ref (ad0.1 0)] := by
                            intro ad223 T221 hT222
                            replace g47 := bk g47
                            obtain ⟨⟨r229, O230, L231⟩, g226, g47⟩ := g47
                            dsimp only at g47
                            refine J_callN X XX XN (pc := 668) (y := yL_isPassed) (na := 4) (As := [.ref (ad223.1 0), .ref (al 2), .ref (al 3), .int r220]) (rest := []) (c_L_isPassed E al ad223 g226 hT222) q_554 q_555 q_507 q_541 rfl (by decide +kernel) ⟨Nat.le_of_ble_eq_true rfl, Nat.le_of_ble_eq_true rfl⟩ rfl (Nat.le_of_ble_eq_true rfl) ⟨(show k7 + 9 ≤ 893193 from by omega), (show n8 + 54 ≤ 6421890 from by omega)⟩ dL_law_668 (fun T227 hT228 => ?_)
                            refine J_istore X (pc := 671) dL_law_671 (by decide) rfl ?_
                            cases g47
                            refine J_widen (k2 := k7 + 67) (n2 := n8 + 402) (by omega) (by omega) ?_
                            exact J_sub [1, 2, 3, 4, 5, 6, 0, 7, 8, 9] rfl (j46 _ _ hT228)
                          refine J_icmp_le X (pc := 654) 667 dL_law_654 (by decide) (fun c219 => ?_) (fun c219 => ?_)
                          · rw [if_pos c219] at g225
                            refine J_iconst X (pc := 667) (v := 1) dL_law_667 (by decide +kernel) ?_
                            replace g225 := Option.some.inj g225
                            subst g225
                            exact J_sub [1, 2, 3, 4, 5, 6, 8, 9, 10] rfl (j224 _ _ hT32)
                          · rw [if_neg c219] at g225
                            refine J_iconst X (pc := 657) (v := 1) dL_law_657 (by decide +kernel) ?_
                            refine J_iload X (pc := 658) dL_law_658 10 rfl ?_
                            refine J_bipush X (pc := 660) (v := 8) dL_law_660 (by decide +kernel) ?_
                            refine J_irem X (pc := 662) dL_law_662 (by decide +kernel) ?_
                            refine J_iadd X (pc := 663) dL_law_663 ?_
                            refine J_goto X (pc := 664) 668 dL_law_664 (by decide) ?_
                            replace g225 := Option.some.inj g225
                            subst g225
                            exact J_sub [1, 2, 3, 4, 5, 6, 8, 9, 10] rfl (j224 _ _ hT32)
                        · rw [if_pos c218] at g47
                          refine J_aload X (pc := 548) dL_law_548 5 rfl ?_
                          refine J_bipush X (pc := 550) (v := 8) dL_law_550 (by decide +kernel) ?_
                          refine J_iload X (pc := 552) dL_law_552 0 rfl ?_
                          refine J_imul X (pc := 554) dL_law_554 ?_
                          refine J_iconst X (pc := 555) (v := 3) dL_law_555 (by decide +kernel) ?_
                          refine J_iadd X (pc := 556) dL_law_556 ?_
                          refine J_iload X (pc := 557) dL_law_557 10 rfl ?_
                          refine J_iload X (pc := 559) dL_law_559 10 rfl ?_
                          refine J_iconst X (pc := 561) (v := 3) dL_law_561 (by decide +kernel) ?_
                          refine J_irem X (pc := 562) dL_law_562 (by decide +kernel) ?_
                          replace g47 := bk g47
                          obtain ⟨r233, g238, g47⟩ := g47
                          have j237 : ∀ ad0 T0, RlT T0 O3 → J E x (k7) (n8) (pw E al ad0 L4 T0) 574 [(0, .ref b), (1, .ref (ad0.1 0)), (2, .ref (al 0)), (3, .ref (al 1)), (4, .ref (al 2)), (5, .ref (al 3)), (7, .int x2), (8, .int r24), (9, .int v26), (11, .int r30)] [.int r233, .int v26, .int ((((8 : Int32)) * r30) + ((3 : Int32))), .ref (al 2)] := by
                            intro ad236 T234 hT235
                            replace g47 := ck_e g47
                            obtain ⟨b239, g47⟩ := g47
                            refine J_irem X (pc := 574) dL_law_574 b239 ?_
                            replace g47 := ck_e g47
                            obtain ⟨b240, g47⟩ := g47
                            replace g47 := nmv_e g47
                            obtain ⟨L241, eL241, g47⟩ := g47
                            refine J_iast X (pc := 575) (w1 := pw E al ad236 L241 T234) 2 pw_c2 b240 dL_law_575 (pw_s2 eL241) ?_
                            refine J_aload X (pc := 576) dL_law_576 4 rfl ?_
                            refine J_bipush X (pc := 578) (v := 8) dL_law_578 (by decide +kernel) ?_
                            refine J_iload X (pc := 580) dL_law_580 9 rfl ?_
                            refine J_imul X (pc := 582) dL_law_582 ?_
                            refine J_iconst X (pc := 583) (v := 4) dL_law_583 (by decide +kernel) ?_
                            refine J_iadd X (pc := 584) dL_law_584 ?_
                            refine J_iload X (pc := 585) dL_law_585 8 rfl ?_
                            refine J_bipush X (pc := 587) (v := 7) dL_law_587 (by decide +kernel) ?_
                            refine J_idiv X (pc := 589) dL_law_589 (by decide +kernel) ?_
                            refine J_iload X (pc := 590) dL_law_590 8 rfl ?_
                            refine J_iconst X (pc := 592) (v := 4) dL_law_592 (by decide +kernel) ?_
                            refine J_irem X (pc := 593) dL_law_593 (by decide +kernel) ?_
                            replace g47 := bk g47
                            obtain ⟨r243, g248, g47⟩ := g47
                            have j247 : ∀ ad0 T0, RlT T0 O3 → J E x (k7) (n8) (pw E al ad0 L241 T0) 604 [(0, .ref b), (1, .ref (ad0.1 0)), (2, .ref (al 0)), (3, .ref (al 1)), (4, .ref (al 2)), (5, .ref (al 3)), (7, .int x2), (8, .int r24), (9, .int v26), (11, .int r30)] [.int r243, .int (v26 / ((7 : Int32))), .int ((((8 : Int32)) * r30) + ((4 : Int32))), .ref (al 2)] := by
                              intro ad246 T244 hT245
                              replace g47 := ck_e g47
                              obtain ⟨b249, g47⟩ := g47
                              refine J_irem X (pc := 604) dL_law_604 b249 ?_
                              replace g47 := ck_e g47
                              obtain ⟨b250, g47⟩ := g47
                              replace g47 := nmv_e g47
                              obtain ⟨L251, eL251, g47⟩ := g47
                              refine J_iast X (pc := 605) (w1 := pw E al ad246 L251 T244) 2 pw_c2 b250 dL_law_605 (pw_s2 eL251) ?_
                              refine J_aload_n X (pc := 606) dL_law_606 1 rfl ?_
                              refine J_iload X (pc := 607) dL_law_607 9 rfl ?_
                              refine J_aload X (pc := 609) dL_law_609 4 rfl ?_
                              refine J_bipush X (pc := 611) (v := 8) dL_law_611 (by decide +kernel) ?_
                              refine J_iload X (pc := 613) dL_law_613 9 rfl ?_
                              refine J_imul X (pc := 615) dL_law_615 ?_
                              refine J_iconst X (pc := 616) (v := 3) dL_law_616 (by decide +kernel) ?_
                              refine J_iadd X (pc := 617) dL_law_617 ?_
                              replace g47 := ck_e g47
                              obtain ⟨b252, g47⟩ := g47
                              refine J_iald X (pc := 618) 2 pw_c2 b252 dL_law_618 ?_
                              refine J_aload X (pc := 619) dL_law_619 4 rfl ?_
                              refine J_bipush X (pc := 621) (v := 8) dL_law_621 (by decide +kernel) ?_
                              refine J_iload X (pc := 623) dL_law_623 9 rfl ?_
                              refine J_imul X (pc := 625) dL_law_625 ?_
                              refine J_iconst X (pc := 626) (v := 4) dL_law_626 (by decide +kernel) ?_
                              refine J_iadd X (pc := 627) dL_law_627 ?_
                              replace g47 := ck_e g47
                              obtain ⟨b253, g47⟩ := g47
                              refine J_iald X (pc := 628) 2 pw_c2 b253 dL_law_628 ?_
                              replace g47 := bk g47
                              obtain ⟨O257, g254, g47⟩ := g47
                              refine P_a_setRule X XX XN (pc := 629) g254 hT245 ⟨Nat.le_of_ble_eq_true rfl, Nat.le_of_ble_eq_true rfl⟩ (Nat.le_of_ble_eq_true rfl) ⟨(show k7 + 1 ≤ 893193 from by omega), (show n8 + 6 ≤ 6421890 from by omega)⟩ dL_law_629 (fun T255 hT256 => ?_)
                              replace g47 := bk g47
                              obtain ⟨r259, g264, g47⟩ := g47
                              have j263 : ∀ ad0 T0, RlT T0 O257 → J E x (k7 + 1) (n8 + 6) (pw E al ad0 L251 T0) 640 [(0, .ref b), (1, .ref (ad0.1 0)), (2, .ref (al 0)), (3, .ref (al 1)), (4, .ref (al 2)), (5, .ref (al 3)), (7, .int x2), (8, .int r24), (9, .int v26)] [.int r259] := by
                                intro ad262 T260 hT261
                                refine J_istore X (pc := 640) dL_law_640 (by decide) rfl ?_
                                refine J_goto X (pc := 642) 673 dL_law_642 (by decide) ?_
                                cases g47
                                refine J_widen (k2 := k7 + 67) (n2 := n8 + 402) (by omega) (by omega) ?_
                                exact J_sub [1, 2, 3, 4, 5, 6, 0, 7, 8, 9] rfl (j46 _ _ hT261)
                              refine J_if_ne X (pc := 632) 639 dL_law_632 (by decide) (fun c258 => ?_) (fun c258 => ?_)
                              · rw [if_neg c258] at g264
                                refine J_iconst X (pc := 639) (v := 0) dL_law_639 (by decide +kernel) ?_
                                replace g264 := Option.some.inj g264
                                subst g264
                                exact J_sub [0, 1, 2, 3, 4, 5, 6, 7, 8] rfl (j263 _ _ hT256)
                              · rw [if_pos c258] at g264
                                refine J_iconst X (pc := 635) (v := 1) dL_law_635 (by decide +kernel) ?_
                                refine J_goto X (pc := 636) 640 dL_law_636 (by decide) ?_
                                replace g264 := Option.some.inj g264
                                subst g264
                                exact J_sub [0, 1, 2, 3, 4, 5, 6, 7, 8] rfl (j263 _ _ hT256)
                            refine J_if_ne X (pc := 594) 602 dL_law_594 (by decide) (fun c242 => ?_) (fun c242 => ?_)
                            · rw [if_neg c242] at g248
                              refine J_bipush X (pc := 602) (v := 20) dL_law_602 (by decide +kernel) ?_
                              replace g248 := Option.some.inj g248
                              subst g248
                              exact J_sub [0, 1, 2, 3, 4, 5, 6, 7, 8, 9] rfl (j247 _ _ hT235)
                            · rw [if_pos c242] at g248
                              refine J_bipush X (pc := 597) (v := 101) dL_law_597 (by decide +kernel) ?_
                              refine J_goto X (pc := 599) 604 dL_law_599 (by decide) ?_
                              replace g248 := Option.some.inj g248
                              subst g248
                              exact J_sub [0, 1, 2, 3, 4, 5, 6, 7, 8, 9] rfl (j247 _ _ hT235)
                          refine J_if_ne X (pc := 563) 572 dL_law_563 (by decide) (fun c232 => ?_) (fun c232 => ?_)
                          · rw [if_neg c232] at g238
                            refine J_bipush X (pc := 572) (v := 60) dL_law_572 (by decide +kernel) ?_
                            replace g238 := Option.some.inj g238
                            subst g238
                            exact J_sub [1, 2, 3, 4, 5, 6, 8, 9, 10, 0] rfl (j237 _ _ hT32)
                          · rw [if_pos c232] at g238
                            refine J_sipush X (pc := 566) (v := 3001) dL_law_566 (by decide +kernel) ?_
                            refine J_goto X (pc := 569) 574 dL_law_569 (by decide) ?_
                            replace g238 := Option.some.inj g238
                            subst g238
                            exact J_sub [1, 2, 3, 4, 5, 6, 8, 9, 10, 0] rfl (j237 _ _ hT32)
                      · rw [if_neg c217] at g47
                        refine J_iload X (pc := 419) dL_law_419 10 rfl ?_
                        refine J_iconst X (pc := 421) (v := 4) dL_law_421 (by decide +kernel) ?_
                        refine J_irem X (pc := 422) dL_law_422 (by decide +kernel) ?_
                        replace g47 := bk g47
                        obtain ⟨r266, g271, g47⟩ := g47
                        have j270 : ∀ ad0 T0, RlT T0 O3 → J E x (k7) (n8) (pw E al ad0 L4 T0) 448 [(0, .ref b), (1, .ref (ad0.1 0)), (2, .ref (al 0)), (3, .ref (al 1)), (4, .ref (al 2)), (5, .ref (al 3)), (6, .int x1), (7, .int x2), (8, .int r24), (9, .int v26), (11, .int r30)] [.int r266] := by
                          intro ad269 T267 hT268
                          refine J_istore X (pc := 448) dL_law_448 (by decide) rfl ?_
                          refine J_aload X (pc := 450) dL_law_450 5 rfl ?_
                          refine J_bipush X (pc := 452) (v := 8) dL_law_452 (by decide +kernel) ?_
                          refine J_iload X (pc := 454) dL_law_454 11 rfl ?_
                          refine J_imul X (pc := 456) dL_law_456 ?_
                          refine J_iconst X (pc := 457) (v := 2) dL_law_457 (by decide +kernel) ?_
                          refine J_iadd X (pc := 458) dL_law_458 ?_
                          replace g47 := ck_e g47
                          obtain ⟨b272, g47⟩ := g47
                          refine J_iald X (pc := 459) 2 pw_c2 b272 dL_law_459 ?_
                          refine J_bipush X (pc := 460) (v := 20) dL_law_460 (by decide +kernel) ?_
                          replace g47 := bk g47
                          obtain ⟨⟨r274, O275, L276⟩, g281, g47⟩ := g47
                          dsimp only at g47
                          have j280 : ∀ ad0 T0, RlT T0 O275 → J E x (k7 + 1) (n8 + 6) (pw E al ad0 L276 T0) 538 [(0, .ref b), (1, .ref (ad0.1 0)), (2, .ref (al 0)), (3, .ref (al 1)), (4, .ref (al 2)), (5, .ref (al 3)), (6, .int r274), (7, .int x2), (8, .int r24), (9, .int v26)] [] := by
                            intro ad279 T277 hT278
                            refine J_goto X (pc := 538) 673 dL_law_538 (by decide) ?_
                            cases g47
                            refine J_widen (k2 := k7 + 67) (n2 := n8 + 402) (by omega) (by omega) ?_
                            exact J_sub [0, 1, 2, 3, 4, 5, 6, 7, 8, 9] rfl (j46 _ _ hT278)
                          refine J_icmp_ge X (pc := 462) 538 dL_law_462 (by decide) (fun c273 => ?_) (fun c273 => ?_)
                          · rw [if_pos c273] at g281
                            cases g281
                            refine J_widen (k2 := k7 + 1) (n2 := n8 + 6) (by omega) (by omega) ?_
                            exact J_sub [1, 2, 3, 4, 5, 6, 7, 8, 9, 10] rfl (j280 _ _ hT268)
                          · rw [if_neg c273] at g281
                            refine J_aload_n X (pc := 465) dL_law_465 4 rfl ?_
                            refine J_bipush X (pc := 466) (v := 20) dL_law_466 (by decide +kernel) ?_
                            refine J_iload X (pc := 468) dL_law_468 11 rfl ?_
                            refine J_imul X (pc := 470) dL_law_470 ?_
                            refine J_aload X (pc := 471) dL_law_471 5 rfl ?_
                            refine J_bipush X (pc := 473) (v := 8) dL_law_473 (by decide +kernel) ?_
                            refine J_iload X (pc := 475) dL_law_475 11 rfl ?_
                            refine J_imul X (pc := 477) dL_law_477 ?_
                            refine J_iconst X (pc := 478) (v := 2) dL_law_478 (by decide +kernel) ?_
                            refine J_iadd X (pc := 479) dL_law_479 ?_
                            replace g281 := ck_e g281
                            obtain ⟨b282, g281⟩ := g281
                            refine J_iald X (pc := 480) 2 pw_c2 b282 dL_law_480 ?_
                            refine J_iadd X (pc := 481) dL_law_481 ?_
                            refine J_aload_n X (pc := 482) dL_law_482 2 rfl ?_
                            refine P_today X (pc := 483) hT268 ⟨Nat.le_of_ble_eq_true rfl, Nat.le_of_ble_eq_true rfl⟩ (Nat.le_of_ble_eq_true rfl) ⟨(show k7 ≤ 893193 from by omega), (show n8 ≤ 6421890 from by omega)⟩ dL_law_483 ?_
                            refine J_i2l X (pc := 486) dL_law_486 ?_
                            refine J_iload X (pc := 487) dL_law_487 0 rfl ?_
                            refine J_i2l X (pc := 489) dL_law_489 ?_
                            refine J_bipush X (pc := 490) (v := 11) dL_law_490 (by decide +kernel) ?_
                            refine J_lshl X (pc := 492) dL_law_492 ?_
                            refine J_lor X (pc := 493) dL_law_493 ?_
                            replace g281 := ck_e g281
                            obtain ⟨b283, g281⟩ := g281
                            replace g281 := nmv_e g281
                            obtain ⟨L284, eL284, g281⟩ := g281
                            refine J_last X (pc := 494) (w1 := pw E al ad269 L284 T267) 1 pw_c1 b283 dL_law_494 (pw_s1 eL284) ?_
                            refine J_aload X (pc := 495) dL_law_495 5 rfl ?_
                            refine J_bipush X (pc := 497) (v := 8) dL_law_497 (by decide +kernel) ?_
                            refine J_iload X (pc := 499) dL_law_499 11 rfl ?_
                            refine J_imul X (pc := 501) dL_law_501 ?_
                            refine J_iconst X (pc := 502) (v := 2) dL_law_502 (by decide +kernel) ?_
                            refine J_iadd X (pc := 503) dL_law_503 ?_
                            refine J_dup2 X (pc := 504) dL_law_504 rfl rfl ?_
                            replace g281 := ck_e g281
                            obtain ⟨b285, g281⟩ := g281
                            refine J_iald X (pc := 505) 2 pw_c2 b285 dL_law_505 ?_
                            refine J_iconst X (pc := 506) (v := 1) dL_law_506 (by decide +kernel) ?_
                            refine J_iadd X (pc := 507) dL_law_507 ?_
                            replace g281 := ck_e g281
                            obtain ⟨b286, g281⟩ := g281
                            replace g281 := nmv_e g281
                            obtain ⟨L287, eL287, g281⟩ := g281
                            refine J_iast X (pc := 508) (w1 := pw E al ad269 L287 T267) 2 pw_c2 b286 dL_law_508 (pw_s2 eL287) ?_
                            refine J_aload_n X (pc := 509) dL_law_509 2 rfl ?_
                            refine J_iconst X (pc := 510) (v := 3) dL_law_510 (by decide +kernel) ?_
                            refine J_iload X (pc := 511) dL_law_511 11 rfl ?_
                            refine J_iload X (pc := 513) dL_law_513 0 rfl ?_
                            replace g281 := bk g281
                            obtain ⟨⟨r291, O292⟩, g288, g281⟩ := g281
                            dsimp only at g281
                            refine P_a_clean X XX XN (pc := 515) g288 hT268 ⟨Nat.le_of_ble_eq_true rfl, Nat.le_of_ble_eq_true rfl⟩ (Nat.le_of_ble_eq_true rfl) ⟨(show k7 + 1 ≤ 893193 from by omega), (show n8 + 6 ≤ 6421890 from by omega)⟩ dL_law_515 (fun T289 hT290 => ?_)
                            refine J_aload X (pc := 518) dL_law_518 5 rfl ?_
                            refine J_bipush X (pc := 520) (v := 8) dL_law_520 (by decide +kernel) ?_
                            refine J_iload X (pc := 522) dL_law_522 11 rfl ?_
                            refine J_imul X (pc := 524) dL_law_524 ?_
                            refine J_iconst X (pc := 525) (v := 2) dL_law_525 (by decide +kernel) ?_
                            refine J_iadd X (pc := 526) dL_law_526 ?_
                            replace g281 := ck_e g281
                            obtain ⟨b293, g281⟩ := g281
                            refine J_iald X (pc := 527) 2 pw_c2 b293 dL_law_527 ?_
                            replace g281 := bk g281
                            obtain ⟨r295, g300, g281⟩ := g281
                            have j299 : ∀ ad0 T0, RlT T0 O292 → J E x (k7 + 1) (n8 + 6) (pw E al ad0 L287 T0) 536 [(0, .ref b), (1, .ref (ad0.1 0)), (2, .ref (al 0)), (3, .ref (al 1)), (4, .ref (al 2)), (5, .ref (al 3)), (7, .int x2), (8, .int r24), (9, .int v26)] [.int r295] := by
                              intro ad298 T296 hT297
                              refine J_istore X (pc := 536) dL_law_536 (by decide) rfl ?_
                              cases g281
                              refine J_widen (k2 := k7 + 1) (n2 := n8 + 6) (by omega) (by omega) ?_
                              exact J_sub [1, 2, 3, 4, 5, 6, 0, 7, 8, 9] rfl (j280 _ _ hT297)
                            refine J_icmp_ne X (pc := 528) 535 dL_law_528 (by decide) (fun c294 => ?_) (fun c294 => ?_)
                            · rw [if_neg c294] at g300
                              refine J_iconst X (pc := 535) (v := 0) dL_law_535 (by decide +kernel) ?_
                              replace g300 := Option.some.inj g300
                              subst g300
                              exact J_sub [1, 2, 3, 4, 5, 6, 8, 9, 10] rfl (j299 _ _ hT290)
                            · rw [if_pos c294] at g300
                              refine J_iconst X (pc := 531) (v := 1) dL_law_531 (by decide +kernel) ?_
                              refine J_goto X (pc := 532) 536 dL_law_532 (by decide) ?_
                              replace g300 := Option.some.inj g300
                              subst g300
                              exact J_sub [1, 2, 3, 4, 5, 6, 8, 9, 10] rfl (j299 _ _ hT290)
                        refine J_if_ne X (pc := 423) 438 dL_law_423 (by decide) (fun c265 => ?_) (fun c265 => ?_)
                        · rw [if_neg c265] at g271
                          refine J_iconst X (pc := 438) (v := 1) dL_law_438 (by decide +kernel) ?_
                          refine J_iload X (pc := 439) dL_law_439 10 rfl ?_
                          refine J_iconst X (pc := 441) (v := 4) dL_law_441 (by decide +kernel) ?_
                          refine J_idiv X (pc := 442) dL_law_442 (by decide +kernel) ?_
                          refine J_sipush X (pc := 443) (v := 300) dL_law_443 (by decide +kernel) ?_
                          refine J_irem X (pc := 446) dL_law_446 (by decide +kernel) ?_
                          refine J_iadd X (pc := 447) dL_law_447 ?_
                          replace g271 := Option.some.inj g271
                          subst g271
                          exact J_sub [1, 2, 3, 4, 5, 6, 7, 8, 9, 10, 0] rfl (j270 _ _ hT32)
                        · rw [if_pos c265] at g271
                          refine J_iconst X (pc := 426) (v := 1) dL_law_426 (by decide +kernel) ?_
                          refine J_iload X (pc := 427) dL_law_427 10 rfl ?_
                          refine J_iconst X (pc := 429) (v := 4) dL_law_429 (by decide +kernel) ?_
                          refine J_idiv X (pc := 430) dL_law_430 (by decide +kernel) ?_
                          refine J_ldc X (pc := 431) dL_law_431 q_545 ?_
                          refine J_irem X (pc := 433) dL_law_433 (by decide +kernel) ?_
                          refine J_iadd X (pc := 434) dL_law_434 ?_
                          refine J_goto X (pc := 435) 448 dL_law_435 (by decide) ?_
                          replace g271 := Option.some.inj g271
                          subst g271
                          exact J_sub [1, 2, 3, 4, 5, 6, 7, 8, 9, 10, 0] rfl (j270 _ _ hT32)
                    · rw [if_neg c216] at g47
                      refine J_aload_n X (pc := 333) dL_law_333 2 rfl ?_
                      refine J_aload_n X (pc := 334) dL_law_334 3 rfl ?_
                      refine J_aload X (pc := 335) dL_law_335 5 rfl ?_
                      refine J_iload X (pc := 337) dL_law_337 0 rfl ?_
                      refine J_iload X (pc := 339) dL_law_339 10 rfl ?_
                      refine J_bipush X (pc := 341) (v := 9) dL_law_341 (by decide +kernel) ?_
                      refine J_irem X (pc := 343) dL_law_343 (by decide +kernel) ?_
                      replace g47 := bk g47
                      obtain ⟨r302, g307, g47⟩ := g47
                      have j306 : ∀ ad0 T0, RlT T0 O3 → J E x (k7) (n8) (pw E al ad0 L4 T0) 404 [(0, .ref b), (1, .ref (ad0.1 0)), (2, .ref (al 0)), (3, .ref (al 1)), (4, .ref (al 2)), (5, .ref (al 3)), (7, .int x2), (8, .int r24), (9, .int v26)] [.int r302, .int r30, .ref (al 2), .ref (al 0), .ref (ad0.1 0)] := by
                        intro ad305 T303 hT304
                        replace g47 := bk g47
                        obtain ⟨⟨r312, O313, L314⟩, g309, g47⟩ := g47
                        dsimp only at g47
                        refine J_callN X XX XN (pc := 404) (y := yL_isSampled) (na := 5) (As := [.ref (ad305.1 0), .ref (al 0), .ref (al 2), .int r30, .int r302]) (rest := []) (c_L_isSampled E al ad305 g309 hT304) q_552 q_553 q_507 q_539 rfl (by decide +kernel) ⟨Nat.le_of_ble_eq_true rfl, Nat.le_of_ble_eq_true rfl⟩ rfl (Nat.le_of_ble_eq_true rfl) ⟨(show k7 + 1 ≤ 893193 from by omega), (show n8 + 6 ≤ 6421890 from by omega)⟩ dL_law_404 (fun T310 hT311 => ?_)
                        refine J_istore X (pc := 407) dL_law_407 (by decide) rfl ?_
                        refine J_goto X (pc := 409) 673 dL_law_409 (by decide) ?_
                        cases g47
                        refine J_widen (k2 := k7 + 67) (n2 := n8 + 402) (by omega) (by omega) ?_
                        exact J_sub [1, 2, 3, 4, 5, 6, 0, 7, 8, 9] rfl (j46 _ _ hT311)
                      refine J_if_ne X (pc := 344) 358 dL_law_344 (by decide) (fun c301 => ?_) (fun c301 => ?_)
                      · rw [if_neg c301] at g307
                        refine J_iload X (pc := 358) dL_law_358 10 rfl ?_
                        refine J_bipush X (pc := 360) (v := 9) dL_law_360 (by decide +kernel) ?_
                        refine J_irem X (pc := 362) dL_law_362 (by decide +kernel) ?_
                        refine J_bipush X (pc := 363) (v := 6) dL_law_363 (by decide +kernel) ?_
                        refine J_icmp_ge X (pc := 365) 395 dL_law_365 (by decide) (fun c308 => ?_) (fun c308 => ?_)
                        · rw [if_pos c308] at g307
                          refine J_iload X (pc := 395) dL_law_395 10 rfl ?_
                          refine J_bipush X (pc := 397) (v := 9) dL_law_397 (by decide +kernel) ?_
                          refine J_idiv X (pc := 399) dL_law_399 (by decide +kernel) ?_
                          refine J_sipush X (pc := 400) (v := 3000) dL_law_400 (by decide +kernel) ?_
                          refine J_irem X (pc := 403) dL_law_403 (by decide +kernel) ?_
                          replace g307 := Option.some.inj g307
                          subst g307
                          exact J_sub [1, 2, 3, 4, 5, 6, 8, 9, 10] rfl (j306 _ _ hT32)
                        · rw [if_neg c308] at g307
                          refine J_sipush X (pc := 368) (v := 200) dL_law_368 (by decide +kernel) ?_
                          refine J_bipush X (pc := 371) (v := 20) dL_law_371 (by decide +kernel) ?_
                          refine J_aload_n X (pc := 373) dL_law_373 2 rfl ?_
                          refine P_today X (pc := 374) hT32 ⟨Nat.le_of_ble_eq_true rfl, Nat.le_of_ble_eq_true rfl⟩ (Nat.le_of_ble_eq_true rfl) ⟨(show k7 ≤ 893193 from by omega), (show n8 ≤ 6421890 from by omega)⟩ dL_law_374 ?_
                          refine J_imul X (pc := 377) dL_law_377 ?_
                          refine J_sipush X (pc := 378) (v := 3000) dL_law_378 (by decide +kernel) ?_
                          refine J_irem X (pc := 381) dL_law_381 (by decide +kernel) ?_
                          refine J_iadd X (pc := 382) dL_law_382 ?_
                          refine J_iload X (pc := 383) dL_law_383 10 rfl ?_
                          refine J_bipush X (pc := 385) (v := 99) dL_law_385 (by decide +kernel) ?_
                          refine J_idiv X (pc := 387) dL_law_387 (by decide +kernel) ?_
                          refine J_bipush X (pc := 388) (v := 60) dL_law_388 (by decide +kernel) ?_
                          refine J_irem X (pc := 390) dL_law_390 (by decide +kernel) ?_
                          refine J_iadd X (pc := 391) dL_law_391 ?_
                          refine J_goto X (pc := 392) 404 dL_law_392 (by decide) ?_
                          replace g307 := Option.some.inj g307
                          subst g307
                          exact J_sub [1, 2, 3, 4, 5, 6, 8, 9, 10] rfl (j306 _ _ hT32)
                      · rw [if_pos c301] at g307
                        refine J_iload X (pc := 347) dL_law_347 10 rfl ?_
                        refine J_bipush X (pc := 349) (v := 9) dL_law_349 (by decide +kernel) ?_
                        refine J_idiv X (pc := 351) dL_law_351 (by decide +kernel) ?_
                        refine J_ldc X (pc := 352) dL_law_352 q_530 ?_
                        refine J_irem X (pc := 354) dL_law_354 (by decide +kernel) ?_
                        refine J_goto X (pc := 355) 404 dL_law_355 (by decide) ?_
                        replace g307 := Option.some.inj g307
                        subst g307
                        exact J_sub [1, 2, 3, 4, 5, 6, 8, 9, 10] rfl (j306 _ _ hT32)
                  · rw [if_pos c215] at g47
                    refine J_aload X (pc := 245) dL_law_245 5 rfl ?_
                    refine J_bipush X (pc := 247) (v := 8) dL_law_247 (by decide +kernel) ?_
                    refine J_iload X (pc := 249) dL_law_249 0 rfl ?_
                    refine J_imul X (pc := 251) dL_law_251 ?_
                    replace g47 := ck_e g47
                    obtain ⟨b315, g47⟩ := g47
                    refine J_iald X (pc := 252) 2 pw_c2 b315 dL_law_252 ?_
                    replace g47 := nmv_e g47
                    obtain ⟨v316, ev316, g47⟩ := g47
                    refine J_nmi ev316 ?_
                    refine J_istore X (pc := 253) dL_law_253 (by decide) rfl ?_
                    refine J_aload X (pc := 255) dL_law_255 6 rfl ?_
                    refine J_bipush X (pc := 257) (v := 8) dL_law_257 (by decide +kernel) ?_
                    refine J_iload X (pc := 259) dL_law_259 1 rfl ?_
                    refine J_imul X (pc := 261) dL_law_261 ?_
                    refine J_iload X (pc := 262) dL_law_262 11 rfl ?_
                    refine J_iconst X (pc := 264) (v := 3) dL_law_264 (by decide +kernel) ?_
                    refine J_irem X (pc := 265) dL_law_265 (by decide +kernel) ?_
                    replace g47 := bk g47
                    obtain ⟨r318, g323, g47⟩ := g47
                    have j322 : ∀ ad0 T0, RlT T0 O3 → J E x (k7) (n8) (pw E al ad0 L4 T0) 295 [(0, .ref b), (1, .ref (ad0.1 0)), (2, .ref (al 0)), (3, .ref (al 1)), (4, .ref (al 2)), (5, .ref (al 3)), (7, .int x2), (8, .int r24), (9, .int v26), (11, .int r30), (12, .int v316)] [.int r318, .int (((8 : Int32)) * r30), .ref (al 2)] := by
                      intro ad321 T319 hT320
                      replace g47 := ck_e g47
                      obtain ⟨b324, g47⟩ := g47
                      replace g47 := nmv_e g47
                      obtain ⟨L325, eL325, g47⟩ := g47
                      refine J_iast X (pc := 295) (w1 := pw E al ad321 L325 T319) 2 pw_c2 b324 dL_law_295 (pw_s2 eL325) ?_
                      refine J_aload_n X (pc := 296) dL_law_296 1 rfl ?_
                      refine J_iconst X (pc := 297) (v := 1) dL_law_297 (by decide +kernel) ?_
                      refine J_iload X (pc := 298) dL_law_298 9 rfl ?_
                      refine J_aload X (pc := 300) dL_law_300 4 rfl ?_
                      refine J_bipush X (pc := 302) (v := 8) dL_law_302 (by decide +kernel) ?_
                      refine J_iload X (pc := 304) dL_law_304 9 rfl ?_
                      refine J_imul X (pc := 306) dL_law_306 ?_
                      replace g47 := ck_e g47
                      obtain ⟨b326, g47⟩ := g47
                      refine J_iald X (pc := 307) 2 pw_c2 b326 dL_law_307 ?_
                      replace g47 := bk g47
                      obtain ⟨⟨r330, O331⟩, g327, g47⟩ := g47
                      dsimp only at g47
                      refine P_a_setSize X XX XN (pc := 308) g327 hT320 ⟨Nat.le_of_ble_eq_true rfl, Nat.le_of_ble_eq_true rfl⟩ (Nat.le_of_ble_eq_true rfl) ⟨(show k7 + 1 ≤ 893193 from by omega), (show n8 + 6 ≤ 6421890 from by omega)⟩ dL_law_308 (fun T328 hT329 => ?_)
                      refine J_iload X (pc := 311) dL_law_311 10 rfl ?_
                      replace g47 := bk g47
                      obtain ⟨r333, g338, g47⟩ := g47
                      have j337 : ∀ ad0 T0, RlT T0 O331 → J E x (k7 + 1) (n8 + 6) (pw E al ad0 L325 T0) 321 [(0, .ref b), (1, .ref (ad0.1 0)), (2, .ref (al 0)), (3, .ref (al 1)), (4, .ref (al 2)), (5, .ref (al 3)), (7, .int x2), (8, .int r24), (9, .int v26)] [.int r333] := by
                        intro ad336 T334 hT335
                        refine J_istore X (pc := 321) dL_law_321 (by decide) rfl ?_
                        refine J_goto X (pc := 323) 673 dL_law_323 (by decide) ?_
                        cases g47
                        refine J_widen (k2 := k7 + 67) (n2 := n8 + 402) (by omega) (by omega) ?_
                        exact J_sub [1, 2, 3, 4, 5, 6, 0, 7, 8, 9] rfl (j46 _ _ hT335)
                      refine J_icmp_ne X (pc := 313) 320 dL_law_313 (by decide) (fun c332 => ?_) (fun c332 => ?_)
                      · rw [if_neg c332] at g338
                        refine J_iconst X (pc := 320) (v := 0) dL_law_320 (by decide +kernel) ?_
                        replace g338 := Option.some.inj g338
                        subst g338
                        exact J_sub [0, 1, 2, 3, 4, 5, 6, 7, 8] rfl (j337 _ _ hT329)
                      · rw [if_pos c332] at g338
                        refine J_iconst X (pc := 316) (v := 1) dL_law_316 (by decide +kernel) ?_
                        refine J_goto X (pc := 317) 321 dL_law_317 (by decide) ?_
                        replace g338 := Option.some.inj g338
                        subst g338
                        exact J_sub [0, 1, 2, 3, 4, 5, 6, 7, 8] rfl (j337 _ _ hT329)
                    refine J_if_ne X (pc := 266) 282 dL_law_266 (by decide) (fun c317 => ?_) (fun c317 => ?_)
                    · rw [if_neg c317] at g323
                      refine J_sipush X (pc := 282) (v := 500) dL_law_282 (by decide +kernel) ?_
                      refine J_iload X (pc := 285) dL_law_285 11 rfl ?_
                      refine J_bipush X (pc := 287) (v := 9) dL_law_287 (by decide +kernel) ?_
                      refine J_idiv X (pc := 289) dL_law_289 (by decide +kernel) ?_
                      refine J_sipush X (pc := 290) (v := 3000) dL_law_290 (by decide +kernel) ?_
                      refine J_irem X (pc := 293) dL_law_293 (by decide +kernel) ?_
                      refine J_iadd X (pc := 294) dL_law_294 ?_
                      replace g323 := Option.some.inj g323
                      subst g323
                      exact J_sub [2, 3, 4, 5, 6, 7, 9, 10, 11, 1, 0] rfl (j322 _ _ hT32)
                    · rw [if_pos c317] at g323
                      refine J_iconst X (pc := 269) (v := 1) dL_law_269 (by decide +kernel) ?_
                      refine J_iload X (pc := 270) dL_law_270 11 rfl ?_
                      refine J_bipush X (pc := 272) (v := 9) dL_law_272 (by decide +kernel) ?_
                      refine J_idiv X (pc := 274) dL_law_274 (by decide +kernel) ?_
                      refine J_ldc X (pc := 275) dL_law_275 q_540 ?_
                      refine J_irem X (pc := 277) dL_law_277 (by decide +kernel) ?_
                      refine J_iadd X (pc := 278) dL_law_278 ?_
                      refine J_goto X (pc := 279) 295 dL_law_279 (by decide) ?_
                      replace g323 := Option.some.inj g323
                      subst g323
                      exact J_sub [2, 3, 4, 5, 6, 7, 9, 10, 11, 1, 0] rfl (j322 _ _ hT32)
                · rw [if_neg c214] at g47
                  refine J_iload X (pc := 133) dL_law_133 10 rfl ?_
                  refine J_iconst X (pc := 135) (v := 3) dL_law_135 (by decide +kernel) ?_
                  refine J_irem X (pc := 136) dL_law_136 (by decide +kernel) ?_
                  replace g47 := bk g47
                  obtain ⟨r340, g345, g47⟩ := g47
                  have j344 : ∀ ad0 T0, RlT T0 O3 → J E x (k7) (n8) (pw E al ad0 L4 T0) 164 [(0, .ref b), (1, .ref (ad0.1 0)), (2, .ref (al 0)), (3, .ref (al 1)), (4, .ref (al 2)), (5, .ref (al 3)), (7, .int x2), (8, .int r24), (9, .int v26)] [.int r340] := by
                    intro ad343 T341 hT342
                    refine J_istore X (pc := 164) dL_law_164 (by decide) rfl ?_
                    refine J_aload X (pc := 166) dL_law_166 5 rfl ?_
                    refine J_bipush X (pc := 168) (v := 8) dL_law_168 (by decide +kernel) ?_
                    refine J_aload X (pc := 170) dL_law_170 6 rfl ?_
                    refine J_iconst X (pc := 172) (v := 0) dL_law_172 (by decide +kernel) ?_
                    replace g47 := ck_e g47
                    obtain ⟨b346, g47⟩ := g47
                    refine J_iald X (pc := 173) 3 pw_c3 b346 dL_law_173 ?_
                    refine J_imul X (pc := 174) dL_law_174 ?_
                    refine J_iload X (pc := 175) dL_law_175 0 rfl ?_
                    replace g47 := ck_e g47
                    obtain ⟨b347, g47⟩ := g47
                    replace g47 := nmv_e g47
                    obtain ⟨L348, eL348, g47⟩ := g47
                    refine J_iast X (pc := 177) (w1 := pw E al ad343 L348 T341) 2 pw_c2 b347 dL_law_177 (pw_s2 eL348) ?_
                    refine J_aload X (pc := 178) dL_law_178 6 rfl ?_
                    refine J_iconst X (pc := 180) (v := 0) dL_law_180 (by decide +kernel) ?_
                    refine J_dup2 X (pc := 181) dL_law_181 rfl rfl ?_
                    replace g47 := ck_e g47
                    obtain ⟨b349, g47⟩ := g47
                    refine J_iald X (pc := 182) 3 pw_c3 b349 dL_law_182 ?_
                    refine J_iconst X (pc := 183) (v := 1) dL_law_183 (by decide +kernel) ?_
                    refine J_iadd X (pc := 184) dL_law_184 ?_
                    replace g47 := ck_e g47
                    obtain ⟨b350, g47⟩ := g47
                    replace g47 := nmv_e g47
                    obtain ⟨L351, eL351, g47⟩ := g47
                    refine J_iast X (pc := 185) (w1 := pw E al ad343 L351 T341) 3 pw_c3 b350 dL_law_185 (pw_s3 eL351) ?_
                    refine J_aload_n X (pc := 186) dL_law_186 2 rfl ?_
                    refine J_iconst X (pc := 187) (v := 0) dL_law_187 (by decide +kernel) ?_
                    refine J_iload X (pc := 188) dL_law_188 0 rfl ?_
                    refine J_iconst X (pc := 190) (v := 0) dL_law_190 (by decide +kernel) ?_
                    replace g47 := bk g47
                    obtain ⟨⟨r355, O356⟩, g352, g47⟩ := g47
                    dsimp only at g47
                    refine P_a_addStore X XX XN (pc := 191) g352 hT342 ⟨Nat.le_of_ble_eq_true rfl, Nat.le_of_ble_eq_true rfl⟩ (Nat.le_of_ble_eq_true rfl) ⟨(show k7 + 16 ≤ 893193 from by omega), (show n8 + 398 ≤ 6421890 from by omega)⟩ dL_law_191 (fun ad357 T353 had358 hT354 => ?_)
                    rw [← had358]
                    refine J_widen (k2 := k7 + 67) (n2 := n8 + 402) (by omega) (by omega) ?_
                    refine J_aload X (pc := 194) dL_law_194 6 rfl ?_
                    refine J_iconst X (pc := 196) (v := 0) dL_law_196 (by decide +kernel) ?_
                    replace g47 := ck_e g47
                    obtain ⟨b359, g47⟩ := g47
                    refine J_iald X (pc := 197) 3 pw_c3 b359 dL_law_197 ?_
                    refine J_iconst X (pc := 198) (v := 1) dL_law_198 (by decide +kernel) ?_
                    refine J_isub X (pc := 199) dL_law_199 ?_
                    replace g47 := bk g47
                    obtain ⟨r361, g366, g47⟩ := g47
                    have j365 : ∀ ad0 T0, RlT T0 O356 → J E x (k7 + 67) (n8 + 402) (pw E al ad0 L351 T0) 234 [(0, .ref b), (1, .ref (ad0.1 0)), (2, .ref (al 0)), (3, .ref (al 1)), (4, .ref (al 2)), (5, .ref (al 3)), (7, .int x2), (8, .int r24), (9, .int v26)] [.int r361] := by
                      intro ad364 T362 hT363
                      refine J_istore X (pc := 234) dL_law_234 (by decide) rfl ?_
                      refine J_goto X (pc := 236) 673 dL_law_236 (by decide) ?_
                      cases g47
                      refine J_widen (k2 := k7 + 67) (n2 := n8 + 402) (by omega) (by omega) ?_
                      exact J_sub [1, 2, 3, 4, 5, 6, 0, 7, 8, 9] rfl (j46 _ _ hT363)
                    refine J_icmp_ne X (pc := 200) 233 dL_law_200 (by decide) (fun c360 => ?_) (fun c360 => ?_)
                    · rw [if_neg c360] at g366
                      refine J_iconst X (pc := 233) (v := 0) dL_law_233 (by decide +kernel) ?_
                      replace g366 := Option.some.inj g366
                      subst g366
                      exact J_sub [1, 2, 3, 4, 5, 6, 7, 8, 9] rfl (j365 _ _ hT354)
                    · rw [if_pos c360] at g366
                      refine J_aload_n X (pc := 203) dL_law_203 2 rfl ?_
                      refine J_aload X (pc := 204) dL_law_204 6 rfl ?_
                      refine J_iconst X (pc := 206) (v := 0) dL_law_206 (by decide +kernel) ?_
                      replace g366 := ck_e g366
                      obtain ⟨b367, g366⟩ := g366
                      refine J_iald X (pc := 207) 3 pw_c3 b367 dL_law_207 ?_
                      refine J_iconst X (pc := 208) (v := 1) dL_law_208 (by decide +kernel) ?_
                      refine J_isub X (pc := 209) dL_law_209 ?_
                      replace g366 := bk g366
                      obtain ⟨r368, g369, g366⟩ := g366
                      refine P_warns X (pc := 210) g369 hT354 ⟨Nat.le_of_ble_eq_true rfl, Nat.le_of_ble_eq_true rfl⟩ (Nat.le_of_ble_eq_true rfl) ⟨(show k7 + 67 ≤ 893193 from by omega), (show n8 + 402 ≤ 6421890 from by omega)⟩ dL_law_210 (fun T370 hT371 => ?_)
                      refine J_if_ne X (pc := 213) 233 dL_law_213 (by decide) (fun c372 => ?_) (fun c372 => ?_)
                      · rw [if_neg c372] at g366
                        refine J_iconst X (pc := 233) (v := 0) dL_law_233 (by decide +kernel) ?_
                        replace g366 := Option.some.inj g366
                        subst g366
                        exact J_sub [1, 2, 3, 4, 5, 6, 7, 8, 9] rfl (j365 _ _ hT371)
                      · rw [if_pos c372] at g366
                        refine J_aload_n X (pc := 216) dL_law_216 2 rfl ?_
                        refine J_aload X (pc := 217) dL_law_217 6 rfl ?_
                        refine J_iconst X (pc := 219) (v := 0) dL_law_219 (by decide +kernel) ?_
                        replace g366 := ck_e g366
                        obtain ⟨b373, g366⟩ := g366
                        refine J_iald X (pc := 220) 3 pw_c3 b373 dL_law_220 ?_
                        refine J_iconst X (pc := 221) (v := 1) dL_law_221 (by decide +kernel) ?_
                        refine J_isub X (pc := 222) dL_law_222 ?_
                        replace g366 := bk g366
                        obtain ⟨r374, g375, g366⟩ := g366
                        refine P_samples X (pc := 223) g375 hT371 ⟨Nat.le_of_ble_eq_true rfl, Nat.le_of_ble_eq_true rfl⟩ (Nat.le_of_ble_eq_true rfl) ⟨(show k7 + 67 ≤ 893193 from by omega), (show n8 + 402 ≤ 6421890 from by omega)⟩ dL_law_223 (fun T376 hT377 => ?_)
                        refine J_if_ne X (pc := 226) 233 dL_law_226 (by decide) (fun c378 => ?_) (fun c378 => ?_)
                        · rw [if_neg c378] at g366
                          refine J_iconst X (pc := 233) (v := 0) dL_law_233 (by decide +kernel) ?_
                          replace g366 := Option.some.inj g366
                          subst g366
                          exact J_sub [1, 2, 3, 4, 5, 6, 7, 8, 9] rfl (j365 _ _ hT377)
                        · rw [if_pos c378] at g366
                          refine J_iconst X (pc := 229) (v := 1) dL_law_229 (by decide +kernel) ?_
                          refine J_goto X (pc := 230) 234 dL_law_230 (by decide) ?_
                          replace g366 := Option.some.inj g366
                          subst g366
                          exact J_sub [1, 2, 3, 4, 5, 6, 7, 8, 9] rfl (j365 _ _ hT377)
                  refine J_if_ne X (pc := 137) 152 dL_law_137 (by decide) (fun c339 => ?_) (fun c339 => ?_)
                  · rw [if_neg c339] at g345
                    refine J_sipush X (pc := 152) (v := 500) dL_law_152 (by decide +kernel) ?_
                    refine J_iload X (pc := 155) dL_law_155 10 rfl ?_
                    refine J_iconst X (pc := 157) (v := 3) dL_law_157 (by decide +kernel) ?_
                    refine J_idiv X (pc := 158) dL_law_158 (by decide +kernel) ?_
                    refine J_sipush X (pc := 159) (v := 3000) dL_law_159 (by decide +kernel) ?_
                    refine J_irem X (pc := 162) dL_law_162 (by decide +kernel) ?_
                    refine J_iadd X (pc := 163) dL_law_163 ?_
                    replace g345 := Option.some.inj g345
                    subst g345
                    exact J_sub [1, 2, 3, 4, 5, 6, 8, 9, 10] rfl (j344 _ _ hT32)
                  · rw [if_pos c339] at g345
                    refine J_iconst X (pc := 140) (v := 1) dL_law_140 (by decide +kernel) ?_
                    refine J_iload X (pc := 141) dL_law_141 10 rfl ?_
                    refine J_iconst X (pc := 143) (v := 3) dL_law_143 (by decide +kernel) ?_
                    refine J_idiv X (pc := 144) dL_law_144 (by decide +kernel) ?_
                    refine J_ldc X (pc := 145) dL_law_145 q_540 ?_
                    refine J_irem X (pc := 147) dL_law_147 (by decide +kernel) ?_
                    refine J_iadd X (pc := 148) dL_law_148 ?_
                    refine J_goto X (pc := 149) 164 dL_law_149 (by decide) ?_
                    replace g345 := Option.some.inj g345
                    subst g345
                    exact J_sub [1, 2, 3, 4, 5, 6, 8, 9, 10] rfl (j344 _ _ hT32)
          refine J_if_ne X (pc := 97) 104 dL_law_97 (by decide) (fun c29 => ?_) (fun c29 => ?_)
          · rw [if_neg c29] at g35
            refine J_iload X (pc := 104) dL_law_104 1 rfl ?_
            refine J_aload X (pc := 106) dL_law_106 8 rfl ?_
            refine J_iconst X (pc := 108) (v := 0) dL_law_108 (by decide +kernel) ?_
            replace g35 := ck_e g35
            obtain ⟨b36, g35⟩ := g35
            refine J_iald X (pc := 109) 3 pw_c3 b36 dL_law_109 ?_
            replace g35 := ck_e g35
            obtain ⟨b37, g35⟩ := g35
            refine J_irem X (pc := 110) dL_law_110 b37 ?_
            replace g35 := Option.some.inj g35
            subst g35
            exact J_sub [3, 4, 5, 6, 7, 8, 9, 10, 2, 1, 0] rfl (j34 _ _ hT6)
          · rw [if_pos c29] at g35
            refine J_iconst X (pc := 100) (v := 0) dL_law_100 (by decide +kernel) ?_
            refine J_goto X (pc := 101) 111 dL_law_101 (by decide) ?_
            replace g35 := Option.some.inj g35
            subst g35
            exact J_sub [3, 4, 5, 6, 7, 8, 9, 10, 2, 1, 0] rfl (j34 _ _ hT6)
  exact J_sub [0, 1, 2, 3, 4, 5, 6, 7] rfl (l425 46 _ _ _ _ (400) (2400) _ _ (by omega) (by omega) hT g20)
