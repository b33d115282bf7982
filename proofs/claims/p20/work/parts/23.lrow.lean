/-! The law's level: its helpers have tables of their own; what must not be caught by an earlier row -/
def NCl : List (String × String) := [("java/lang/IllegalStateException", "java/lang/IllegalArgumentException"), ("java/lang/IllegalArgumentException", "java/lang/IndexOutOfBoundsException"), ("java/lang/IllegalStateException", "java/lang/IndexOutOfBoundsException"), ("java/lang/IllegalArgumentException", "java/lang/IllegalStateException")]
theorem nc_0 : ("java/lang/IllegalStateException", "java/lang/IllegalArgumentException") ∈ NCl := List.mem_of_getElem? (i := 0) rfl
theorem nc_1 : ("java/lang/IllegalArgumentException", "java/lang/IndexOutOfBoundsException") ∈ NCl := List.mem_of_getElem? (i := 1) rfl
theorem nc_2 : ("java/lang/IllegalStateException", "java/lang/IndexOutOfBoundsException") ∈ NCl := List.mem_of_getElem? (i := 2) rfl
theorem nc_3 : ("java/lang/IllegalArgumentException", "java/lang/IllegalStateException") ∈ NCl := List.mem_of_getElem? (i := 3) rfl
def NcS (U : State) : Prop := ∀ q ∈ NCl, va_Nc q.1 q.2 U
theorem NcS.moved {u U : State} (hvm : u.vm.Alike U.vm) (h : NcS u) : NcS U := fun q hq => (h q hq).moved hvm
def OkN (x : Cx) : Prop := NcS x.2.2.2.1
def PreN (E : Ev) (sz : Nat) (w : va_W) (av : List Value) : Array Value → State → Prop := va_Pc av (fun U => (U.heap.size = sz ∧ va_P E.2.1 vwCl w U.heap ∧ va_K E.2.1 vwCl (tyL E.2.2) U ∧ (∀ z ∈ NW, va_Nw z U) ∧ va_D (fun _ => True) w ∧ XK E (va_A w sz) U U.heap) ∧ NcS U)
theorem PreN_blind {E : Ev} {sz : Nat} {w : va_W} {av : List Value} : FrameBlind (PreN E sz w av) := fun a U g mk q => by
  obtain ⟨q0, ⟨q1, qP, qK, qN, qD, qX⟩, qC⟩ := q
  exact ⟨q0, ⟨q1, qP, va_K.moved (u := U) (U := U.calling g mk a) (Vm.Alike.refl U.vm) qK, NW_same (s := U) (U := U.calling g mk a) rfl qN, qD, XK.same qX (U := U.calling g mk a) (State.WarmedH.refl U)⟩, NcS.moved (u := U) (U := U.calling g mk a) (Vm.Alike.refl U.vm) qC⟩
def CtH (E : Ev) (y : MethodName) (b : ByteArray) (nl : Nat) (hh : List (Nat × Nat × Nat × Nat)) (f lo mc ms : Nat) (w : va_W) (av : List Value) (r : Int32) {U : Type} (post : U → Prop) (B : U → va_W) : Prop := ∀ sz, Met E.1 y (.codeWith y b nl (some .int) hh :: GW) (rmA f lo mc ms) (PreN E sz w av) (va_Qi (fun (r2 : Int32) (u : U) => r2 = r ∧ post u) (fun u t => End0 E sz w (B u) t) (va_A w sz)) mc ms (va_A w sz)
theorem CtH_of {E : Ev} {y : MethodName} {b : ByteArray} {nl f lo mc ms : Nat} {hh : List (Nat × Nat × Nat × Nat)} {w : va_W} {av : List Value} {U : Type} {r : Int32} {post : U → Prop} {B : U → va_W} (hy : plainName y.cls = true) (hle : (lg_sl av).length ≤ nl) (body : ∀ x : Cx, Ok E x b y.cls (rmA f lo mc ms) nl → OkX E x → OkN x → x.2.2.2.2.2.2.2.2.1.exceptionTable.toList = tableOf hh → (∀ u, post u → ∀ pc lv, decode b pc = .ok (.ireturn, 1) → J E x mc ms (B u) pc lv [.int r]) → J E x 0 0 w 0 (lv_args 0 av) []) : CtH E y b nl hh f lo mc ms w av r post B := by
  obtain ⟨l, D, cy⟩ := E
  intro sz
  refine va_MetW (cc := b) (maxL := nl) (ret := (some .int)) (hh := hh) hy rfl ?_
  intro p e s m args below meth c s₁ B0 hml hv
  obtain ⟨rfl, ⟨hsz, hP, hK, hN, hD0, hX⟩, hC⟩ := hv
  have hx := B0.exec
  have hb := B0.bytes
  have hr := B0.returns
  have hts0 := atoms_spec (ws := .codeWith y b nl (some .int) hh :: GW) B0.pre
  have htab := vx_table (x := y) B0 (hts0 _ List.mem_cons_self)
  have hts := GW_cons hts0
  have hown : s.vm.findClass y.cls = some m.cls := findClass_of_methodNamed B0.named
  have hlocks := B0.notSynchronized
  subst hsz
  have hD := hD0.self (sz := s.heap.size)
  have hl := lv_entry av (n := nl) hle
  rw [lg_entry_eq]
  have hB := body (p, e, rmA f lo mc ms, s, m, av.toArray, below, meth, c, va_A w s.heap.size, nl, MQ below (va_Qi (fun (r2 : Int32) (u : U) => r2 = r ∧ post u) (fun u t => End0 (l, D, cy) s.heap.size w (B u) t) (va_A w s.heap.size)) av.toArray s mc ms (va_A w s.heap.size)) ⟨hx, hb, hml, hown, hts, hK, hN, fun q h => Or.inr h, rfl, rfl⟩ hX hC htab (fun u hu pc lv hdg H locs ls hP hD hS hv => ?_)
  · exact hB s.heap [] _ hP hD va_S.rf hl
  · exact W.zret (v := r) hx hb hr rfl (fun t ht hW => ⟨⟨r, u, rfl, ⟨rfl, hu⟩, by rw [ht]; exact hP, hD⟩, hS.F ht⟩) hS.2.2 hdg
theorem J_callCVF {E : Ev} {x : Cx} {cc : ByteArray} {own : String} {rm0 : Room} {nL0 k n : Nat} {w1 w2 rw : va_W} {pc : Nat} {lv : List (Nat × Value)} {st rest : List Value} (X : Ok E x cc own rm0 nL0) (XX : OkX E x) {F : u_T} {N ci : Nat} {fs : List Value} {a : Nat} {y : MethodName} {b : ByteArray} {nl f lo idx : Nat} {ret : Option FieldType} {Ex : String} {As : List Value} (hM : CtT E y b nl ret f lo w1 (.ref a :: As) Ex w2)  (q0 : Nat) (he : w1[q0]? = some (a, .inr (ci, fs))) (hc : vwCl[ci]? = some (y.cls, F, N)) (h1 : Cond.methodLink own idx y ∈ GW) (h2 : Cond.instanceMethod y ∈ GW) (h3 : Cond.selects y.cls y y ∈ GW) (h4 : Cond.initialized y.cls ∈ GW) (h5 : Cond.code y b nl ret ∈ GW) {na : Nat} (hna : As.length = na) (hd : y.cls ≠ "java/lang/invoke/MethodHandle" ∧ y.cls ≠ "java/lang/invoke/VarHandle" ∧ (parseMethodDescriptor y.desc).map (fun d => d.parameters.length) = some na) (hf : f + 1 ≤ rm0.frames ∧ 8 + (nl + 11) + lo ≤ rm0.locals) (hst : st = As.reverse ++ .ref a :: rest) (hW : (rest.map fun v => v.category).sum ≤ 8) (hkn : k + 1 ≤ rm0.cells ∧ n + 6 ≤ rm0.slots) (hdg : decode cc pc = .ok (.invokevirtual idx, 3)) (pre0 suf : List ExceptionTableEntry) (xr : ExceptionTableEntry) {name : String} (hsplit : x.2.2.2.2.2.2.2.2.1.exceptionTable.toList = pre0 ++ xr :: suf) (hpass : ∀ z ∈ pre0, covers z pc = false ∨ (z.catchType ≠ 0 ∧ ∃ nm : String, Cond.classLink own z.catchType nm ∈ GW ∧ va_Nc Ex nm x.2.2.2.1)) (hcov : covers xr pc = true) (h0 : xr.catchType ≠ 0) (hlink : Cond.classLink own xr.catchType name ∈ GW) (hcast : Cond.castable Ex name ∈ NW) (k1 : ∀ q : Nat, J E x (k + 1) (n + 6) (w2 ++ rw) xr.handlerPc lv [.ref q]) : J E x k n (w1 ++ rw) pc lv st := by
  obtain ⟨l, D, cy⟩ := E
  obtain ⟨p, e, R, s, m, args, below, meth, c, A, nL, Q⟩ := x
  obtain ⟨hx, hb, hml, hown, hG, hK, hN, hA, hR, hnl⟩ := X
  intro H locs ls hP hD hS hv
  subst hst
  subst hR
  subst hnl
  have hF := va_Fl hD hS hA
  refine vx_goT (vx_runV (As := As) (rest := rest) (b := a) (n := na) (cc := cc) (nL := nL) (Ts := GW) (own := own) (index := idx) ⟨hx, hb, hml, hown, hG⟩ (hM H.size) (cwV na hG (GW_goodV h1 h2 h3 h4 h5) rfl rfl rfl ⟨rfl, hd⟩ ⟨hf.1, hf.2⟩) ⟨PreX_blind, va_recv hK (va_Pl hP) hc he, fun U0 hU hW9 => ⟨rfl, by rw [hU], by rw [hU]; exact va_Pl hP, va_K.moved hW9.alike hK, NW_warm hW9 hN, (va_Dl hD).weaken (fun _ _ _ _ => trivial), XK.go XX hS hF hW9 hU⟩⟩ rfl hna hv.1 rfl (lv_room hW) hdg ⟨hkn.1, hkn.2⟩) hS (fun q _ h => hF q h) hF (fun ce q9 t H1 locs1 ht hvm hB hz1 hk9 hS1 hce hcv hcl => ?_)
  obtain ⟨hP1, hD1⟩ := hB
  rw [ht] at hP1
  obtain ⟨hP2, hD2⟩ := va_frm hP hD hF hk9 hP1 hD1
  exact vx_catch hown pre0 xr suf hsplit (fun z hz => (hpass z hz).imp id (fun ⟨h9, nm9, h8, h7⟩ => ⟨h9, nm9, hG _ h8, h7⟩)) hcov h0 (hG _ hlink) (NW_use hcast hN) hce hcv hcl (k1 q9 H1 locs1 ls hP2 hD2 hS1 hv)
theorem GW_goodHS {own : String} {idx : Nat} {y : MethodName} {z : Cond} (h1 : Cond.methodLink own idx y ∈ GW) (h2 : Cond.static y ∈ GW) (h4 : Cond.initialized y.cls ∈ GW) (h5 : z ∈ GW) : GoodIn GW (va_wsS own idx y (z :: GW)) := by
  intro q hq
  have hm : q ∈ GW := by
    simp only [va_wsS, List.cons_append, List.nil_append, List.mem_cons] at hq
    rcases hq with rfl | rfl | rfl | rfl | hq
    · exact h1
    · exact h2
    · exact h4
    · exact h5
    · exact hq
  exact ⟨hm, good_of_word (GW_ok _ hm)⟩
theorem J_callH {E : Ev} {x : Cx} {cc : ByteArray} {own : String} {rm0 : Room} {nL0 k n : Nat} {w1 rw : va_W} {pc : Nat} {lv : List (Nat × Value)} {st rest : List Value} (X : Ok E x cc own rm0 nL0) (XX : OkX E x) (XN : OkN x) {y : MethodName} {b : ByteArray} {nl f lo mc ms idx : Nat} {hh : List (Nat × Nat × Nat × Nat)} {r : Int32} {U : Type} {post : U → Prop} {B : U → va_W} {As : List Value} (hM : CtH E y b nl hh f lo mc ms w1 As r post B) (h1 : Cond.methodLink own idx y ∈ GW) (h2 : Cond.static y ∈ GW) (h4 : Cond.initialized y.cls ∈ GW) (h5 : Cond.codeWith y b nl (some .int) hh ∈ GW) {na : Nat} (hna : As.length = na) (hd : y.cls ≠ "java/lang/invoke/MethodHandle" ∧ y.cls ≠ "java/lang/invoke/VarHandle" ∧ (parseMethodDescriptor y.desc).map (fun d => d.parameters.length) = some na) (hf : f + 1 ≤ rm0.frames ∧ 8 + (nl + 11) + lo ≤ rm0.locals) (hst : st = As.reverse ++ rest) (hW : (rest.map fun v => v.category).sum ≤ 8) (hkn : k + mc ≤ rm0.cells ∧ n + ms ≤ rm0.slots) (hdg : decode cc pc = .ok (.invokestatic idx, 3)) (k1 : ∀ u, post u → J E x (k + mc) (n + ms) (B u ++ rw) (pc + 3) lv (.int r :: rest)) : J E x k n (w1 ++ rw) pc lv st := by
  obtain ⟨l, D, cy⟩ := E
  obtain ⟨p, e, R, s, m, args, below, meth, c, A, nL, Q⟩ := x
  obtain ⟨hx, hb, hml, hown, hG, hK, hN, hA, hR, hnl⟩ := X
  intro H locs ls hP hD hS hv
  subst hst
  subst hR
  subst hnl
  have hF := va_Fl hD hS hA
  refine va_calli (vx_runSW (As := As) (rest := rest) (n := na) (cc := cc) (nL := nL) (Ts := GW) (own := own) (index := idx) ⟨hx, hb, hml, hown, hG⟩ (hM H.size) (vx_cwSW na hG (GW_goodHS h1 h2 h4 h5) rfl rfl rfl hd ⟨hf.1, hf.2⟩) ⟨PreN_blind, fun U0 hU hW9 => ⟨rfl, ⟨by rw [hU], by rw [hU]; exact va_Pl hP, va_K.moved hW9.alike hK, NW_warm hW9 hN, (va_Dl hD).weaken (fun _ _ _ _ => trivial), XK.go XX hS hF hW9 hU⟩, NcS.moved hW9.alike XN⟩⟩ rfl hna hv.1 rfl (lv_room hW) hdg ⟨hkn.1, hkn.2⟩) hS (fun q _ h => hF q h) hF (fun r2 u t H1 locs1 ht hvm hw hB hz1 hk1 hS => ?_)
  obtain ⟨rfl, hw⟩ := hw
  obtain ⟨hP1, hD1⟩ := hB
  rw [ht] at hP1
  obtain ⟨hP2, hD2⟩ := va_frm hP hD hF hk1 hP1 hD1
  exact k1 u hw H1 locs1 ls hP2 hD2 hS hv
def outC (E : Ev) (ao : Nat) (g : Nat → Int64) : Nat × va_E := (ao, .inl (E.2.2 3, 1, .inr (.inl g)))
/-- the script, read only -/
def OkS (x : Cx) (b L : Nat) (xs : Nat → Int32) : Prop := va_X b L xs x.2.2.2.1 x.2.2.2.1.heap ∧ b < x.2.2.2.1.heap.size ∧ ¬ x.2.2.2.2.2.2.2.2.2.1 b
section LROWS
variable {E : Ev} {x : Cx} {cc : ByteArray} {own : String} {rm0 : Room} {nL0 k n : Nat} {w : va_W} {pc : Nat} {lv : List (Nat × Value)} {st : List Value}
theorem J_lald (X : Ok E x cc own rm0 nL0) {a N : Nat} {f : Nat → Int64} {i : Int32} (q0 : Nat) (he : w[q0]? = some (a, .inl (E.2.2 3, N, .inr (.inl f)))) (hi : inb i N) (hdg : decode cc pc = .ok (.laload, 1)) (k1 : J E x k n w (pc + 1) lv (.long (f i.toNatClampNeg) :: st)) : J E x k n w pc lv (.int i :: .ref a :: st) := by
  obtain ⟨l, D, cy⟩ := E
  obtain ⟨p, e, R, s, m, args, below, meth, c, A, nL, Q⟩ := x
  obtain ⟨hx, hb, hml, hown, hG, hK, hN, hA, hR, hnl⟩ := X
  intro H locs ls hP hD hS hv
  exact va_lald hx hb hK hP q0 3 he rfl (inb_in hi) hdg (k1 H locs ls hP hD hS hv)
theorem J_last (X : Ok E x cc own rm0 nL0) {a N : Nat} {f : Nat → Int64} {i : Int32} {v : Int64} {w1 : va_W} (q0 : Nat) (he : w[q0]? = some (a, .inl (E.2.2 3, N, .inr (.inl f)))) (hi : inb i N) (hdg : decode cc pc = .ok (.lastore, 1)) (e1 : w.set q0 (a, .inl (E.2.2 3, N, .inr (.inl (vp_updL f i.toNatClampNeg v)))) = w1) (k1 : J E x k n w1 (pc + 1) lv st) : J E x k n w pc lv (.long v :: .int i :: .ref a :: st) := by
  obtain ⟨l, D, cy⟩ := E
  obtain ⟨p, e, R, s, m, args, below, meth, c, A, nL, Q⟩ := x
  obtain ⟨hx, hb, hml, hown, hG, hK, hN, hA, hR, hnl⟩ := X
  intro H locs ls hP hD hS hv
  subst e1
  exact va_last hx hb hK hP hD hS q0 3 he rfl (inb_in hi) hdg (fun H1 locs1 hP hD hS => k1 H1 locs1 ls hP hD hS hv)
theorem J_sld (X : Ok E x cc own rm0 nL0) {b N : Nat} {xs : Nat → Int32} (S : OkS x b N xs) {i : Int32} (hi : inb i N) (hdg : decode cc pc = .ok (.iaload, 1)) (k1 : J E x k n w (pc + 1) lv (.int (xs i.toNatClampNeg) :: st)) : J E x k n w pc lv (.int i :: .ref b :: st) := by
  obtain ⟨l, D, cy⟩ := E
  obtain ⟨p, e, R, s, m, args, below, meth, c, A, nL, Q⟩ := x
  obtain ⟨hx, hb, hml, hown, hG, hK, hN, hA, hR, hnl⟩ := X
  intro H locs ls hP hD hS hv
  exact va_sld hx hb S.1 S.2.1 S.2.2 hS (inb_in hi) hdg (k1 H locs ls hP hD hS hv)
theorem J_slen (X : Ok E x cc own rm0 nL0) {b N : Nat} {xs : Nat → Int32} (S : OkS x b N xs) (hdg : decode cc pc = .ok (.arraylength, 1)) (k1 : J E x k n w (pc + 1) lv (.int (Int32.ofNat N) :: st)) : J E x k n w pc lv (.ref b :: st) := by
  obtain ⟨l, D, cy⟩ := E
  obtain ⟨p, e, R, s, m, args, below, meth, c, A, nL, Q⟩ := x
  obtain ⟨hx, hb, hml, hown, hG, hK, hN, hA, hR, hnl⟩ := X
  intro H locs ls hP hD hS hv
  exact va_slen hx hb S.1 S.2.1 S.2.2 hS hdg (k1 H locs ls hP hD hS hv)
theorem J_tabOut (X : Ok E x cc own rm0 nL0) {dflt lo hi : Int} {offs : Array Int} {len : Nat} {u : Int32} (tgt : Nat) (hdg : decode cc pc = .ok (.tableswitch dflt lo hi offs, len)) (h : u.toInt < lo ∨ hi < u.toInt) (ht : (pc : Int) + dflt = (tgt : Int)) (k1 : J E x k n w tgt lv st) : J E x k n w pc lv (.int u :: st) := by
  obtain ⟨l, D, cy⟩ := E
  obtain ⟨p, e, R, s, m, args, below, meth, c, A, nL, Q⟩ := x
  obtain ⟨hx, hb, hml, hown, hG, hK, hN, hA, hR, hnl⟩ := X
  intro H locs ls hP hD hS hv
  exact lv_tableOut hx hb hdg h ht (k1 H locs ls hP hD hS hv)
theorem J_tabIn (X : Ok E x cc own rm0 nL0) {dflt lo hi : Int} {offs : Array Int} {len : Nat} {u : Int32} {off : Int} (tgt : Nat) (hdg : decode cc pc = .ok (.tableswitch dflt lo hi offs, len)) (h1 : ¬ u.toInt < lo) (h2 : ¬ hi < u.toInt) (ho : offs[(u.toInt - lo).toNat]? = some off) (ht : (pc : Int) + off = (tgt : Int)) (k1 : J E x k n w tgt lv st) : J E x k n w pc lv (.int u :: st) := by
  obtain ⟨l, D, cy⟩ := E
  obtain ⟨p, e, R, s, m, args, below, meth, c, A, nL, Q⟩ := x
  obtain ⟨hx, hb, hml, hown, hG, hK, hN, hA, hR, hnl⟩ := X
  intro H locs ls hP hD hS hv
  exact lv_tableIn hx hb hdg h1 h2 ho ht (k1 H locs ls hP hD hS hv)
end LROWS
