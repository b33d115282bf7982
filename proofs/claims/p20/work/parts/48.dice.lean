/-! The law's dice, which read the script -/
def f_L_dice (xs : Nat → Int32) (NN : Nat) (a2 : Int32) : Option Int32 := (if Int32.ofNat NN ≤ a2 then some (((961987163 : Int32) * (a2 + (151 : Int32)) + ((543 : Int32) * a2) * a2) + (53 : Int32)) else ck (inb a2 NN) (some (xs a2.toNatClampNeg))).bind (fun (r : Int32) => some (r &&& (2147483647 : Int32)))
def PreD (E : Ev) (sz b NN : Nat) (xs : Nat → Int32) (av : List Value) : Array Value → State → Prop := va_Pc av (fun U => (U.heap.size = sz ∧ va_P E.2.1 vwCl [] U.heap ∧ va_K E.2.1 vwCl (tyL E.2.2) U ∧ (∀ z ∈ NW, va_Nw z U) ∧ va_D (fun _ => True) []) ∧ va_X b NN xs U U.heap ∧ b < sz)
theorem PreD_blind {E : Ev} {sz b NN : Nat} {xs : Nat → Int32} {av : List Value} : FrameBlind (PreD E sz b NN xs av) := fun a U g mk q => by
  obtain ⟨q0, ⟨h1, h2, h3, h4, h5⟩, h6, h7⟩ := q
  exact ⟨q0, ⟨h1, h2, va_K.moved (u := U) (U := U.calling g mk a) (Vm.Alike.refl U.vm) h3, NW_same (s := U) (U := U.calling g mk a) rfl h4, h5⟩, va_X.moved (u := U) (U := U.calling g mk a) (Vm.Alike.refl U.vm) h6, h7⟩
set_option maxRecDepth 100000 in
set_option maxHeartbeats 4000000 in
theorem c_dice (E : Ev) {b NN : Nat} {xs : Nat → Int32} {a2 r : Int32} (h : f_L_dice xs NN a2 = some r) : ∀ sz, Met E.1 yL_dice (.code yL_dice cL_dice 2 (some .int) :: GW) (rmA 0 0 0 0) (PreD E sz b NN xs [.ref b, .int a2]) (va_Qi (fun (r2 : Int32) (_ : Unit) => r2 = r) (fun _ t => End0 E sz [] [] t) (va_A [] sz)) 0 0 (va_A [] sz) := by
  obtain ⟨l, D, cy⟩ := E
  intro sz
  refine Met_ofW2 (cc := cL_dice) (maxL := 2) (ret := (some .int)) (by decide +kernel) rfl ?_
  intro p e s m args below meth c s₁ B hml hv
  obtain ⟨rfl, ⟨hsz, hP, hK, hN, hD0⟩, hX, hbs⟩ := hv
  have hx := B.exec
  have hb := B.bytes
  have hr := B.returns
  have hts := GW_cons (atoms_spec (ws := .code yL_dice cL_dice 2 (some .int) :: GW) B.pre)
  have hown : s.vm.findClass yL_dice.cls = some m.cls := findClass_of_methodNamed B.named
  have hlocks := B.notSynchronized
  subst hsz
  have hD := hD0.self (sz := s.heap.size)
  have hl := lv_entry [Value.ref b, Value.int a2] (n := 2) (Nat.le_of_ble_eq_true rfl)
  rw [lg_entry_eq]
  obtain ⟨x, ex⟩ : ∃ x : Cx, x = (p, e, rmA 0 0 0 0, s, m, ([.ref b, .int a2] : List Value).toArray, below, meth, c, va_A [] s.heap.size, 2, MQ below (va_Qi (fun (r2 : Int32) (_ : Unit) => r2 = r) (fun _ t => End0 (l, D, cy) s.heap.size [] [] t) (va_A [] s.heap.size)) ([.ref b, .int a2] : List Value).toArray s 0 0 (va_A [] s.heap.size)) := ⟨_, rfl⟩
  have X : Ok (l, D, cy) x cL_dice RL (rmA 0 0 0 0) 2 := by
    rw [ex]; exact ⟨hx, hb, hml, hown, hts, hK, hN, fun q h => Or.inr h, rfl, rfl⟩
  have S : OkS x b NN xs := by
    rw [ex]
    refine ⟨hX, hbs, fun q => ?_⟩
    rcases q with ⟨j, e9, q⟩ | q
    · simp at q
    · exact absurd hbs (Nat.not_lt.mpr q)
  have hE : ∀ pc lv, decode cL_dice pc = .ok (.ireturn, 1) → J (l, D, cy) x 0 0 [] pc lv [.int r] := by
    rw [ex]
    intro pc lv hdg H locs ls hP hD hS hv
    exact W.zret (v := r) hx hb hr rfl (fun t ht hW => ⟨⟨r, (), rfl, rfl, by rw [ht]; exact hP, hD⟩, hS.F ht⟩) hS.2.2 hdg
  have main : J (l, D, cy) x 0 0 [] 0 [(0, .ref b), (1, .int a2)] [] := by
    unfold f_L_dice at h
    obtain ⟨r1, g1, h⟩ := bk h
    have j1 : J (l, D, cy) x 0 0 [] 31 [(0, .ref b), (1, .int a2)] [.int r1] := by
      refine J_ldc X (pc := 31) dL_dice_31 q_439 ?_
      refine J_iand X (pc := 33) dL_dice_33 ?_
      have e := Option.some.inj h
      subst e
      exact hE _ _ dL_dice_34
    refine J_iload_n X (pc := 0) dL_dice_0 1 rfl ?_
    refine J_aload_n X (pc := 1) dL_dice_1 0 rfl ?_
    refine J_slen X (pc := 2) S dL_dice_2 ?_
    refine J_icmp_ge X (pc := 3) 12 dL_dice_3 (by decide) (fun c => ?_) (fun c => ?_)
    · rw [if_pos c] at g1
      refine J_ldc X (pc := 12) dL_dice_12 q_438 ?_
      refine J_iload_n X (pc := 14) dL_dice_14 1 rfl ?_
      refine J_sipush X (pc := 15) (v := 151) dL_dice_15 (by decide +kernel) ?_
      refine J_iadd X (pc := 18) dL_dice_18 ?_
      refine J_imul X (pc := 19) dL_dice_19 ?_
      refine J_sipush X (pc := 20) (v := 543) dL_dice_20 (by decide +kernel) ?_
      refine J_iload_n X (pc := 23) dL_dice_23 1 rfl ?_
      refine J_imul X (pc := 24) dL_dice_24 ?_
      refine J_iload_n X (pc := 25) dL_dice_25 1 rfl ?_
      refine J_imul X (pc := 26) dL_dice_26 ?_
      refine J_iadd X (pc := 27) dL_dice_27 ?_
      refine J_bipush X (pc := 28) (v := 53) dL_dice_28 (by decide +kernel) ?_
      refine J_iadd X (pc := 30) dL_dice_30 ?_
      have e := Option.some.inj g1
      subst e
      exact j1
    · rw [if_neg c] at g1
      obtain ⟨b1, g1⟩ := ck_e g1
      refine J_aload_n X (pc := 6) dL_dice_6 0 rfl ?_
      refine J_iload_n X (pc := 7) dL_dice_7 1 rfl ?_
      refine J_sld X (pc := 8) S b1 dL_dice_8 ?_
      refine J_goto X (pc := 9) 31 dL_dice_9 (by decide) ?_
      have e := Option.some.inj g1
      subst e
      exact j1
  rw [ex] at main
  exact main s.heap [] _ hP hD va_S.rf hl
set_option maxRecDepth 100000 in
set_option maxHeartbeats 4000000 in
theorem P_dice {E : Ev} {x : Cx} {cc : ByteArray} {rm0 : Room} {nL0 k n : Nat} {w : va_W} {pc : Nat} {lv : List (Nat × Value)} {rest : List Value} {b NN : Nat} {xs : Nat → Int32} {a2 r : Int32} (X : Ok E x cc RL rm0 nL0) (S : OkS x b NN xs) (h : f_L_dice xs NN a2 = some r) (hf : 1 ≤ rm0.frames ∧ 21 ≤ rm0.locals) (hW : (rest.map fun v => v.category).sum ≤ 8) (hkn : k ≤ rm0.cells ∧ n ≤ rm0.slots) (hdg : decode cc pc = .ok (.invokestatic 135, 3)) (k1 : J E x k n w (pc + 3) lv (.int r :: rest)) : J E x k n w pc lv (.int a2 :: .ref b :: rest) := by
  have hM := c_dice E (b := b) h
  obtain ⟨l, D, cy⟩ := E
  obtain ⟨p, e, R, s, m, args, below, meth, c, A, nL, Q⟩ := x
  obtain ⟨hx, hb, hml, hown, hG, hK, hN, hA, hR, hnl⟩ := X
  intro H locs ls hP hD hS hv
  subst hR
  subst hnl
  have hP0 : va_P D vwCl ([] ++ w) H := hP
  have hD0 : va_D A ([] ++ w) := hD
  have hF := va_Fl hD0 hS hA
  have hX : va_X b NN xs s H := va_X.kept S.1 (hS.2.1 b S.2.1 S.2.2)
  have hbH : b < H.size := Nat.lt_of_lt_of_le S.2.1 hS.1
  refine va_calli (va_runS (As := [.ref b, .int a2]) (rest := rest) (n := 2) (cc := cc) (nL := nL) (Ts := GW) (own := RL) (index := 135) ⟨hx, hb, hml, hown, hG⟩ (hM H.size) ⟨callB_of 2 hG (GW_good q_437) rfl rfl rfl (hG _ q_507) (hG _ q_550) (by decide +kernel) ⟨hf.1, hf.2⟩, hG _ q_551⟩ ⟨PreD_blind, fun U0 hU hW9 => ⟨rfl, ⟨by rw [hU], by rw [hU]; exact va_Pl hP0, va_K.moved hW9.alike hK, NW_warm hW9 hN, (va_Dl hD0).weaken (fun _ _ _ _ => trivial)⟩, by rw [hU]; exact va_X.moved hW9.alike hX, hbH⟩⟩ rfl rfl hv.1 rfl (lv_room hW) hdg ⟨hkn.1, hkn.2⟩) hS (fun q _ h => hF q h) hF (fun r2 u t H1 locs1 ht hvm hw hB hz1 hk1 hS => ?_)
  obtain ⟨hP1, hD1⟩ := hB
  rw [ht] at hP1
  obtain ⟨hP2, hD2⟩ := va_frm hP0 hD0 hF hk1 hP1 hD1
  subst hw
  exact k1 H1 locs1 ls hP2 hD2 hS hv
