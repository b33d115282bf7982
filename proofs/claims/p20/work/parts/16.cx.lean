def XSl : List (Nat × String) := [(31, "no more stores"), (72, "no more cleanings"), (86, "beyond the last day"), (142, "not a pool of stores"), (157, "out of range"), (161, "no such store"), (168, "no slope")]
theorem xs_31 : (31, "no more stores") ∈ XSl := List.mem_of_getElem? (i := 0) rfl
theorem xs_72 : (72, "no more cleanings") ∈ XSl := List.mem_of_getElem? (i := 1) rfl
theorem xs_86 : (86, "beyond the last day") ∈ XSl := List.mem_of_getElem? (i := 2) rfl
theorem xs_142 : (142, "not a pool of stores") ∈ XSl := List.mem_of_getElem? (i := 3) rfl
theorem xs_157 : (157, "out of range") ∈ XSl := List.mem_of_getElem? (i := 4) rfl
theorem xs_161 : (161, "no such store") ∈ XSl := List.mem_of_getElem? (i := 5) rfl
theorem xs_168 : (168, "no slope") ∈ XSl := List.mem_of_getElem? (i := 6) rfl
/-- what holds of what lies outside the worlds: the statics of Throwable, ArrayList's empty row, the texts -/
def XK (E : Ev) (A : Nat → Prop) (U : State) (H : Heap) : Prop :=
  E.1.stackTraces = false ∧ vx_Zq Bundle.tN "UNASSIGNED_STACK" Bundle.steD A U H ∧ vx_Zq Bundle.tN "SUPPRESSED_SENTINEL" Bundle.listD A U H ∧ (∀ q ∈ XSl, ∃ a, vk_R RX7 q.1 q.2 a U) ∧
  va_Z "java/util/ArrayList" "DEFAULTCAPACITY_EMPTY_ELEMENTDATA" "[Ljava/lang/Object;" (.ref (E.2.2 9)) A U H ∧ va_T (.object "java/lang/Object") (E.2.2 9) 0 (fun _ => .null) A U H ∧ va_AO "java/lang/Object" U
theorem va_AO_alike {C : String} {u U : State} (hW : u.WarmedH U.vm) (h : va_AO C u) : va_AO C U := va_AO.moved hW.alike h
theorem XK.go {E : Ev} {A A1 : Nat → Prop} {s U : State} {H : Heap} {locs : List Loc} (h : XK E A s s.heap) (hS : va_S A s.heap H locs) (hF : ∀ q, A1 q → A q) (hW : s.WarmedH U.vm) (hU : U.heap = H) : XK E A1 U U.heap := by
  obtain ⟨h0, h1, h2, h3, h4, h5, h6⟩ := h
  rw [hU]
  refine ⟨h0, vx_Zq.moved hW.alike ((h1.kept hS.2.1).narrow hF), vx_Zq.moved hW.alike ((h2.kept hS.2.1).narrow hF), fun q hq => ?_, va_Z.moved hW.alike ((h4.kept hS.2.1).narrow hF), va_T.moved hW.alike ((h5.kept hS.2.1).narrow hF), va_AO_alike hW h6⟩
  obtain ⟨a, ha⟩ := h3 q hq
  exact ⟨a, vk_R.warm hW ha⟩
theorem XK.same {E : Ev} {A : Nat → Prop} {s U : State} {H : Heap} (h : XK E A s H) (hW : s.WarmedH U.vm) : XK E A U H := by
  obtain ⟨h0, h1, h2, h3, h4, h5, h6⟩ := h
  refine ⟨h0, vx_Zq.moved hW.alike h1, vx_Zq.moved hW.alike h2, fun q hq => ?_, va_Z.moved hW.alike h4, va_T.moved hW.alike h5, va_AO_alike hW h6⟩
  obtain ⟨a, ha⟩ := h3 q hq
  exact ⟨a, vk_R.warm hW ha⟩
def PreX (E : Ev) (sz : Nat) (w : va_W) (av : List Value) : Array Value → State → Prop := va_Pc av (fun U => U.heap.size = sz ∧ va_P E.2.1 vwCl w U.heap ∧ va_K E.2.1 vwCl (tyL E.2.2) U ∧ (∀ z ∈ NW, va_Nw z U) ∧ va_D (fun _ => True) w ∧ XK E (va_A w sz) U U.heap)
theorem PreX_blind {E : Ev} {sz : Nat} {w : va_W} {av : List Value} : FrameBlind (PreX E sz w av) := fun a U g mk q => by
  obtain ⟨q0, q1, qP, qK, qN, qD, qX⟩ := q
  exact ⟨q0, q1, qP, va_K.moved (u := U) (U := U.calling g mk a) (Vm.Alike.refl U.vm) qK, NW_same (s := U) (U := U.calling g mk a) rfl qN, qD, XK.same qX (U := U.calling g mk a) (State.WarmedH.refl U)⟩
/-- the same of a walk's context -/
def OkX (E : Ev) (x : Cx) : Prop := match x with
  | (_, _, _, s, _, _, _, _, _, A, _, _) => XK E A s s.heap
section CXROWS
variable {E : Ev} {x : Cx} {cc : ByteArray} {own : String} {rm0 : Room} {nL0 k n : Nat} {w : va_W} {pc : Nat} {lv : List (Nat × Value)} {st : List Value}
theorem J_null (X : Ok E x cc own rm0 nL0) (hdg : decode cc pc = .ok (.aconst_null, 1)) (k1 : J E x k n w (pc + 1) lv (.null :: st)) : J E x k n w pc lv st := by
  obtain ⟨l, D, cy⟩ := E
  obtain ⟨p, e, R, s, m, args, below, meth, c, A, nL, Q⟩ := x
  obtain ⟨hx, hb, hml, hown, hG, hK, hN, hA, hR, hnl⟩ := X
  intro H locs ls hP hD hS hv
  exact lv_null hx hb hdg (k1 H locs ls hP hD hS hv)
theorem J_dup_x1 (X : Ok E x cc own rm0 nL0) {u v : Value} (hdg : decode cc pc = .ok (.dup_x1, 1)) (hc : u.category = 1) (hc2 : v.category = 1) (k1 : J E x k n w (pc + 1) lv (u :: v :: u :: st)) : J E x k n w pc lv (u :: v :: st) := by
  obtain ⟨l, D, cy⟩ := E
  obtain ⟨p, e, R, s, m, args, below, meth, c, A, nL, Q⟩ := x
  obtain ⟨hx, hb, hml, hown, hG, hK, hN, hA, hR, hnl⟩ := X
  intro H locs ls hP hD hS hv
  exact lv_dup_x1 hx hb hdg hc hc2 (k1 H locs ls hP hD hS hv)
theorem J_acmp_eqT (X : Ok E x cc own rm0 nL0) {a : Nat} {off : Int} (tgt : Nat) (hdg : decode cc pc = .ok (.if_acmp .eq off, 3)) (ht : (pc : Int) + off = (tgt : Int)) (k1 : J E x k n w tgt lv st) : J E x k n w pc lv (.ref a :: .ref a :: st) := by
  obtain ⟨l, D, cy⟩ := E
  obtain ⟨p, e, R, s, m, args, below, meth, c, A, nL, Q⟩ := x
  obtain ⟨hx, hb, hml, hown, hG, hK, hN, hA, hR, hnl⟩ := X
  intro H locs ls hP hD hS hv
  exact lv_acmp_eq (rx := some a) (ry := some a) hx hb hdg ht (fun _ => k1 H locs ls hP hD hS hv) (fun h => absurd rfl h)
theorem J_alen (X : Ok E x cc own rm0 nL0) {a t0 : Nat} {cA : ClassId} {x0 : vp_A} {ty : FieldType} {v : Int32} (q0 : Nat) (he : w[q0]? = some (a, .inl (cA, x0))) (ht : (tyL E.2.2)[t0]? = some (cA, ty)) (hv0 : Int32.ofNat x0.1 = v) (hdg : decode cc pc = .ok (.arraylength, 1)) (k1 : J E x k n w (pc + 1) lv (.int v :: st)) : J E x k n w pc lv (.ref a :: st) := by
  obtain ⟨l, D, cy⟩ := E
  obtain ⟨p, e, R, s, m, args, below, meth, c, A, nL, Q⟩ := x
  obtain ⟨hx, hb, hml, hown, hG, hK, hN, hA, hR, hnl⟩ := X
  intro H locs ls hP hD hS hv
  exact va_alen hx hb hK hP q0 t0 he ht hv0 hdg (k1 H locs ls hP hD hS hv)
theorem J_tlen (X : Ok E x cc own rm0 nL0) (XX : OkX E x) (hdg : decode cc pc = .ok (.arraylength, 1)) (k1 : J E x k n w (pc + 1) lv (.int 0 :: st)) : J E x k n w pc lv (.ref (E.2.2 9) :: st) := by
  obtain ⟨l, D, cy⟩ := E
  obtain ⟨p, e, R, s, m, args, below, meth, c, A, nL, Q⟩ := x
  obtain ⟨hx, hb, hml, hown, hG, hK, hN, hA, hR, hnl⟩ := X
  intro H locs ls hP hD hS hv
  exact va_tlen hx hb XX.2.2.2.2.2.1 hS rfl hdg (k1 H locs ls hP hD hS hv)
theorem J_gets (X : Ok E x cc own rm0 nL0) (XX : OkX E x) {idx : Nat} (hw : Cond.fieldLink own idx "java/util/ArrayList" "DEFAULTCAPACITY_EMPTY_ELEMENTDATA" "[Ljava/lang/Object;" ∈ GW) (hdg : decode cc pc = .ok (.getstatic idx, 3)) (k1 : J E x k n w (pc + 3) lv (.ref (E.2.2 9) :: st)) : J E x k n w pc lv st := by
  obtain ⟨l, D, cy⟩ := E
  obtain ⟨p, e, R, s, m, args, below, meth, c, A, nL, Q⟩ := x
  obtain ⟨hx, hb, hml, hown, hG, hK, hN, hA, hR, hnl⟩ := X
  intro H locs ls hP hD hS hv
  exact va_gets hx hb XX.2.2.2.2.1 hS hown (hG _ hw) (fun _ h => h) hdg (k1 H locs ls hP hD hS hv)
theorem J_aald (X : Ok E x cc own rm0 nL0) {a N : Nat} {f : Nat → Option Nat} {i : Int32} {b : Nat} (q0 : Nat) (he : w[q0]? = some (a, .inl (E.2.2 2, N, .inr (.inr (.inr (.inr f)))))) (hi : inb i N) (hf : f i.toNatClampNeg = some b) (hdg : decode cc pc = .ok (.aaload, 1)) (k1 : J E x k n w (pc + 1) lv (.ref b :: st)) : J E x k n w pc lv (.int i :: .ref a :: st) := by
  obtain ⟨l, D, cy⟩ := E
  obtain ⟨p, e, R, s, m, args, below, meth, c, A, nL, Q⟩ := x
  obtain ⟨hx, hb, hml, hown, hG, hK, hN, hA, hR, hnl⟩ := X
  intro H locs ls hP hD hS hv
  exact va_aldq hx hb hK hP q0 2 he rfl (inb_in hi) hdg (by rw [hf]; exact k1 H locs ls hP hD hS hv)
theorem J_aast (X : Ok E x cc own rm0 nL0) {a N v ci : Nat} {r : vw_C} {vs : List Value} {f : Nat → Option Nat} {i : Int32} {w1 : va_W} (q0 qk : Nat) (he : w[q0]? = some (a, .inl (E.2.2 2, N, .inr (.inr (.inr (.inr f)))))) (hca : Cond.castable r.1 "java/lang/Object" ∈ NW) (hv0 : w[qk]? = some (v, .inr (ci, vs))) (hc : vwCl[ci]? = some r) (hi : inb i N) (hdg : decode cc pc = .ok (.aastore, 1)) (e1 : w.set q0 (a, .inl (E.2.2 2, N, .inr (.inr (.inr (.inr (va_up f i.toNatClampNeg (some v))))))) = w1) (k1 : J E x k n w1 (pc + 1) lv st) : J E x k n w pc lv (.ref v :: .int i :: .ref a :: st) := by
  obtain ⟨l, D, cy⟩ := E
  obtain ⟨p, e, R, s, m, args, below, meth, c, A, nL, Q⟩ := x
  obtain ⟨hx, hb, hml, hown, hG, hK, hN, hA, hR, hnl⟩ := X
  intro H locs ls hP hD hS hv
  subst e1
  exact va_astqO hx hb hK hP hD hS q0 2 qk ci he rfl (hN _ hca) hv0 hc (inb_in hi) hdg (fun H1 locs1 hP hD hS => k1 H1 locs1 ls hP hD hS hv)
theorem J_newq (X : Ok E x cc own rm0 nL0) (XX : OkX E x) {idx N : Nat} {i : Int32} (hcl : Cond.classLink own idx "java/lang/Object" ∈ GW) (hn0 : ¬ i < 0) (hN0 : i.toNatClampNeg = N) (hbytes : N * 4 ≤ 536870912) (hcells : k + 1 ≤ rm0.cells) (hslots : n + N ≤ rm0.slots) (hdg : decode cc pc = .ok (.anewarray idx, 3)) (k1 : ∀ q : Nat, J E x (k + 1) (n + N) (w ++ [(q, .inl (E.2.2 2, N, .inr (.inr (.inr (.inr (fun _ => none))))))]) (pc + 3) lv (.ref q :: st)) : J E x k n w pc lv (.int i :: st) := by
  obtain ⟨l, D, cy⟩ := E
  obtain ⟨p, e, R, s, m, args, below, meth, c, A, nL, Q⟩ := x
  obtain ⟨hx, hb, hml, hown, hG, hK, hN, hA, hR, hnl⟩ := X
  intro H locs ls hP hD hS hv
  subst hR
  refine va_newq hx hb hown (hG _ hcl) XX.2.2.2.2.2.2 hK hP hD hS hA hn0 hN0 hbytes hcells hslots hdg (fun q cA H1 hK2 hP hD hS => ?_)
  have e1 := (hK2.2 (tyL cy).length (cA, .object "java/lang/Object") (by rw [List.getElem?_append_right (Nat.le_refl _), Nat.sub_self]; rfl)).2
  have e0 := (hK.2 2 (cy 2, .object "java/lang/Object") rfl).2
  obtain ⟨_, _, _, _, _, f1⟩ := e1
  obtain ⟨_, _, _, _, _, f0⟩ := e0
  cases Option.some.inj (f1.symm.trans f0)
  exact k1 q H1 locs ls hP hD hS hv
theorem J_getfS (X : Ok E x cc own rm0 nL0) {a : Nat} {C ref : String} {T : u_T} {N ci idx : Nat} {fs : List Value} {v : Value} (q0 : Nat) (he : w[q0]? = some (a, .inr (ci, fs))) (hc : vwCl[ci]? = some (C, T, N)) (hin : ∀ z ∈ u_ws C T N, z ∈ GW) (j : Nat) (hj : j < N) (hw : Cond.fieldLink own idx ref (T j).2.1 (T j).2.2.1 ∈ GW) (hsm : Cond.sameField ref (T j).1 (T j).2.1 (T j).2.2.1 ∈ GW) (hv1 : fs[j]? = some v) (hdg : decode cc pc = .ok (.getfield idx, 3)) (k1 : J E x k n w (pc + 3) lv (v :: st)) : J E x k n w pc lv (.ref a :: st) := by
  obtain ⟨l, D, cy⟩ := E
  obtain ⟨p, e, R, s, m, args, below, meth, c, A, nL, Q⟩ := x
  obtain ⟨hx, hb, hml, hown, hG, hK, hN, hA, hR, hnl⟩ := X
  intro H locs ls hP hD hS hv
  exact va_get hx hb hG hin hown hK hP q0 he hc j hj (hG _ hw) (fun z9 h9 => u_same (hG _ hsm) z9 h9) hv1 hdg (k1 H locs ls hP hD hS hv)
theorem J_putfS (X : Ok E x cc own rm0 nL0) {a : Nat} {C ref : String} {T : u_T} {N ci idx : Nat} {fs : List Value} {v : Value} {ty : FieldType} {w1 : va_W} (q0 : Nat) (he : w[q0]? = some (a, .inr (ci, fs))) (hc : vwCl[ci]? = some (C, T, N)) (hin : ∀ z ∈ u_ws C T N, z ∈ GW) {ty0 : Nat → FieldType} (hty : ∀ i, i < N → parseFieldDescriptor (T i).2.2.1 = some (ty0 i)) (hnm : ∀ i, i < N → ∀ i2, i2 < N → i ≠ i2 → (T i).2.1 ≠ (T i2).2.1) (j : Nat) (hj : j < N) (hw : Cond.fieldLink own idx ref (T j).2.1 (T j).2.2.1 ∈ GW) (hsm : Cond.sameField ref (T j).1 (T j).2.1 (T j).2.2.1 ∈ GW) (hfin : (T j).2.2.2 = false) (hd : parseFieldDescriptor (T j).2.2.1 = some ty) (hn : narrow ty v = v) (hfit : fits ty v = true) (hl : j < fs.length) (hdg : decode cc pc = .ok (.putfield idx, 3)) (e1 : w.set q0 (a, .inr (ci, fs.set j v)) = w1) (k1 : J E x k n w1 (pc + 3) lv st) : J E x k n w pc lv (v :: .ref a :: st) := by
  obtain ⟨l, D, cy⟩ := E
  obtain ⟨p, e, R, s, m, args, below, meth, c, A, nL, Q⟩ := x
  obtain ⟨hx, hb, hml, hown, hG, hK, hN, hA, hR, hnl⟩ := X
  intro H locs ls hP hD hS hv
  subst e1
  exact va_put hx hb hG hin ty0 hty hnm hown hK hP hD hS q0 he hc j hj (hG _ hw) (fun z9 h9 => u_same (hG _ hsm) z9 h9) hfin hd hn hfit hl hdg (fun H1 locs1 hP hD hS => k1 H1 locs1 ls hP hD hS hv)
theorem J_cast (X : Ok E x cc own rm0 nL0) {a ci idx : Nat} {C : String} {T : u_T} {N : Nat} {fs : List Value} (he : (a, .inr (ci, fs)) ∈ w) (hc : vwCl[ci]? = some (C, T, N)) (hw : Cond.classLink own idx C ∈ GW) (hdg : decode cc pc = .ok (.checkcast idx, 3)) (k1 : J E x k n w (pc + 3) lv (.ref a :: st)) : J E x k n w pc lv (.ref a :: st) := by
  obtain ⟨l, D, cy⟩ := E
  obtain ⟨p, e, R, s, m, args, below, meth, c, A, nL, Q⟩ := x
  obtain ⟨hx, hb, hml, hown, hG, hK, hN, hA, hR, hnl⟩ := X
  intro H locs ls hP hD hS hv
  obtain ⟨q0, he⟩ := List.getElem?_of_mem he
  exact va_castS hx hb hown (hG _ hw) (hK.1 ci (C, T, N) hc).2 (va_recv hK hP hc he) hdg (k1 H locs ls hP hD hS hv)
theorem J_aldG (X : Ok E x cc own rm0 nL0) {i : Nat} {v : Value} (hv0 : v = .null) (hdg : decode cc pc = .ok (.aload i, 2)) (q : Nat) (hl : lv[q]? = some (i, v)) (k1 : J E x k n w (pc + 2) lv (v :: st)) : J E x k n w pc lv st := by
  obtain ⟨l, D, cy⟩ := E
  obtain ⟨p, e, R, s, m, args, below, meth, c, A, nL, Q⟩ := x
  obtain ⟨hx, hb, hml, hown, hG, hK, hN, hA, hR, hnl⟩ := X
  intro H locs ls hP hD hS hv
  subst hv0
  exact lv_aloadN hx hb hdg (lv_at hv q hl) (k1 H locs ls hP hD hS hv)
end CXROWS
def CtXI (E : Ev) (y : MethodName) (b : ByteArray) (nl : Nat) (rt : FieldType) (f lo mc ms : Nat) (w : va_W) (av : List Value) (r : Int32) {U : Type} (post : U → Prop) (B : U → va_W) : Prop := ∀ sz, Met E.1 y (.code y b nl (some rt) :: GW) (rmA f lo mc ms) (PreX E sz w av) (va_Qi (fun (r2 : Int32) (u : U) => r2 = r ∧ post u) (fun u t => End0 E sz w (B u) t) (va_A w sz)) mc ms (va_A w sz)
theorem CtXI_of {E : Ev} {y : MethodName} {b : ByteArray} {nl f lo mc ms : Nat} {rt : FieldType} {w : va_W} {av : List Value} {U : Type} {r : Int32} {post : U → Prop} {B : U → va_W} (hy : plainFor y = true) (hle : (lg_sl av).length ≤ nl) (body : ∀ x : Cx, Ok E x b y.cls (rmA f lo mc ms) nl → OkX E x → (y.name = "<init>" → x.2.2.2.2.2.2.2.1.name = "<init>") → (∀ u, post u → ∀ pc lv, decode b pc = .ok (.ireturn, 1) → narrow rt (.int r) = .int r → J E x mc ms (B u) pc lv [.int r]) → J E x 0 0 w 0 (lv_args 0 av) []) : CtXI E y b nl rt f lo mc ms w av r post B := by
  obtain ⟨l, D, cy⟩ := E
  intro sz
  refine Met_ofW2 (cc := b) (maxL := nl) (ret := (some rt)) hy rfl ?_
  intro p e s m args below meth c s₁ B0 hml hv
  obtain ⟨rfl, hsz, hP, hK, hN, hD0, hX⟩ := hv
  have hx := B0.exec
  have hb := B0.bytes
  have hr := B0.returns
  have hts := GW_cons (atoms_spec (ws := .code y b nl (some rt) :: GW) B0.pre)
  have hown : s.vm.findClass y.cls = some m.cls := findClass_of_methodNamed B0.named
  have hlocks := B0.notSynchronized
  have hin : y.name = "<init>" → meth.name = "<init>" := fun hyi => (name_of_methodNamed B0.named B0.method).1.trans hyi
  subst hsz
  have hD := hD0.self (sz := s.heap.size)
  have hl := lv_entry av (n := nl) hle
  rw [lg_entry_eq]
  have hB := body (p, e, rmA f lo mc ms, s, m, av.toArray, below, meth, c, va_A w s.heap.size, nl, MQ below (va_Qi (fun (r2 : Int32) (u : U) => r2 = r ∧ post u) (fun u t => End0 (l, D, cy) s.heap.size w (B u) t) (va_A w s.heap.size)) av.toArray s mc ms (va_A w s.heap.size)) ⟨hx, hb, hml, hown, hts, hK, hN, fun q h => Or.inr h, rfl, rfl⟩ hX hin (fun u hu pc lv hdg hrt H locs ls hP hD hS hv => ?_)
  · exact hB s.heap [] _ hP hD va_S.rf hl
  · exact W.zret (v := r) hx hb hr hrt (fun t ht hW => ⟨⟨r, u, rfl, ⟨rfl, hu⟩, by rw [ht]; exact hP, hD⟩, hS.F ht⟩) hS.2.2 hdg
def CtXV (E : Ev) (y : MethodName) (b : ByteArray) (nl : Nat) (f lo mc ms : Nat) (w : va_W) (av : List Value) {U : Type} (post : U → Prop) (B : U → va_W) : Prop := ∀ sz, Met E.1 y (.code y b nl none :: GW) (rmA f lo mc ms) (PreX E sz w av) (va_Qv post (fun u t => End0 E sz w (B u) t) (va_A w sz)) mc ms (va_A w sz)
theorem CtXV_of {E : Ev} {y : MethodName} {b : ByteArray} {nl f lo mc ms : Nat} {w : va_W} {av : List Value} {U : Type} {post : U → Prop} {B : U → va_W} (hy : plainFor y = true) (hle : (lg_sl av).length ≤ nl) (body : ∀ x : Cx, Ok E x b y.cls (rmA f lo mc ms) nl → OkX E x → (y.name = "<init>" → x.2.2.2.2.2.2.2.1.name = "<init>") → (∀ u, post u → ∀ pc lv, decode b pc = .ok (.return_, 1) → J E x mc ms (B u) pc lv []) → J E x 0 0 w 0 (lv_args 0 av) []) : CtXV E y b nl f lo mc ms w av post B := by
  obtain ⟨l, D, cy⟩ := E
  intro sz
  refine Met_ofW2 (cc := b) (maxL := nl) (ret := none) hy rfl ?_
  intro p e s m args below meth c s₁ B0 hml hv
  obtain ⟨rfl, hsz, hP, hK, hN, hD0, hX⟩ := hv
  have hx := B0.exec
  have hb := B0.bytes
  have hr := B0.returns
  have hts := GW_cons (atoms_spec (ws := .code y b nl none :: GW) B0.pre)
  have hown : s.vm.findClass y.cls = some m.cls := findClass_of_methodNamed B0.named
  have hlocks := B0.notSynchronized
  have hin : y.name = "<init>" → meth.name = "<init>" := fun hyi => (name_of_methodNamed B0.named B0.method).1.trans hyi
  subst hsz
  have hD := hD0.self (sz := s.heap.size)
  have hl := lv_entry av (n := nl) hle
  rw [lg_entry_eq]
  have hB := body (p, e, rmA f lo mc ms, s, m, av.toArray, below, meth, c, va_A w s.heap.size, nl, MQ below (va_Qv post (fun u t => End0 (l, D, cy) s.heap.size w (B u) t) (va_A w s.heap.size)) av.toArray s mc ms (va_A w s.heap.size)) ⟨hx, hb, hml, hown, hts, hK, hN, fun q h => Or.inr h, rfl, rfl⟩ hX hin (fun u hu pc lv hdg H locs ls hP hD hS hv => ?_)
  · exact hB s.heap [] _ hP hD va_S.rf hl
  · exact W.vret hx hb hr (fun t ht hW => ⟨⟨u, rfl, hu, by rw [ht]; exact hP, hD⟩, hS.F ht⟩) hS.2.2 hdg
def CtXR (E : Ev) (y : MethodName) (b : ByteArray) (nl : Nat) (rt : FieldType) (f lo mc ms : Nat) (w : va_W) (av : List Value) {U : Type} (r : U → Nat) (post : U → Prop) (B : U → va_W) : Prop := ∀ sz, Met E.1 y (.code y b nl (some rt) :: GW) (rmA f lo mc ms) (PreX E sz w av) (va_Qr post (fun u ra t => ra = r u ∧ End0 E sz w (B u) t) (va_A w sz)) mc ms (va_A w sz)
theorem CtXR_of {E : Ev} {y : MethodName} {b : ByteArray} {nl f lo mc ms : Nat} {rt : FieldType} {w : va_W} {av : List Value} {U : Type} {r : U → Nat} {post : U → Prop} {B : U → va_W} (hy : plainFor y = true) (hle : (lg_sl av).length ≤ nl) (body : ∀ x : Cx, Ok E x b y.cls (rmA f lo mc ms) nl → OkX E x → (y.name = "<init>" → x.2.2.2.2.2.2.2.1.name = "<init>") → (∀ u, post u → ∀ pc lv, decode b pc = .ok (.areturn, 1) → ((∃ n, rt = .object n) ∨ ∃ t, rt = .array t) → J E x mc ms (B u) pc lv [.ref (r u)]) → J E x 0 0 w 0 (lv_args 0 av) []) : CtXR E y b nl rt f lo mc ms w av r post B := by
  obtain ⟨l, D, cy⟩ := E
  intro sz
  refine Met_ofW2 (cc := b) (maxL := nl) (ret := (some rt)) hy rfl ?_
  intro p e s m args below meth c s₁ B0 hml hv
  obtain ⟨rfl, hsz, hP, hK, hN, hD0, hX⟩ := hv
  have hx := B0.exec
  have hb := B0.bytes
  have hr := B0.returns
  have hts := GW_cons (atoms_spec (ws := .code y b nl (some rt) :: GW) B0.pre)
  have hown : s.vm.findClass y.cls = some m.cls := findClass_of_methodNamed B0.named
  have hlocks := B0.notSynchronized
  have hin : y.name = "<init>" → meth.name = "<init>" := fun hyi => (name_of_methodNamed B0.named B0.method).1.trans hyi
  subst hsz
  have hD := hD0.self (sz := s.heap.size)
  have hl := lv_entry av (n := nl) hle
  rw [lg_entry_eq]
  have hB := body (p, e, rmA f lo mc ms, s, m, av.toArray, below, meth, c, va_A w s.heap.size, nl, MQ below (va_Qr post (fun u ra t => ra = r u ∧ End0 (l, D, cy) s.heap.size w (B u) t) (va_A w s.heap.size)) av.toArray s mc ms (va_A w s.heap.size)) ⟨hx, hb, hml, hown, hts, hK, hN, fun q h => Or.inr h, rfl, rfl⟩ hX hin (fun u hu pc lv hdg hrt H locs ls hP hD hS hv => ?_)
  · exact hB s.heap [] _ hP hD va_S.rf hl
  · exact W.aret (v := .ref (r u)) hx hb hr hrt (Or.inr ⟨_, rfl⟩) (fun t ht hW => ⟨⟨u, r u, rfl, hu, rfl, by rw [ht]; exact hP, hD⟩, hS.F ht⟩) hS.2.2 hdg
def CtR (E : Ev) (y : MethodName) (b : ByteArray) (nl : Nat) (rt : FieldType) (f lo mc ms : Nat) (w : va_W) (av : List Value) {U : Type} (r : U → Nat) (post : U → Prop) (B : U → va_W) : Prop := ∀ sz, Met E.1 y (.code y b nl (some rt) :: GW) (rmA f lo mc ms) (Pre0 E sz w av) (va_Qr post (fun u ra t => ra = r u ∧ End0 E sz w (B u) t) (va_A w sz)) mc ms (va_A w sz)
theorem CtR_of {E : Ev} {y : MethodName} {b : ByteArray} {nl f lo mc ms : Nat} {rt : FieldType} {w : va_W} {av : List Value} {U : Type} {r : U → Nat} {post : U → Prop} {B : U → va_W} (hy : plainFor y = true) (hle : (lg_sl av).length ≤ nl) (body : ∀ x : Cx, Ok E x b y.cls (rmA f lo mc ms) nl → (y.name = "<init>" → x.2.2.2.2.2.2.2.1.name = "<init>") → (∀ u, post u → ∀ pc lv, decode b pc = .ok (.areturn, 1) → ((∃ n, rt = .object n) ∨ ∃ t, rt = .array t) → J E x mc ms (B u) pc lv [.ref (r u)]) → J E x 0 0 w 0 (lv_args 0 av) []) : CtR E y b nl rt f lo mc ms w av r post B := by
  obtain ⟨l, D, cy⟩ := E
  intro sz
  refine Met_ofW2 (cc := b) (maxL := nl) (ret := (some rt)) hy rfl ?_
  intro p e s m args below meth c s₁ B0 hml hv
  obtain ⟨rfl, hsz, hP, hK, hN, hD0⟩ := hv
  have hx := B0.exec
  have hb := B0.bytes
  have hr := B0.returns
  have hts := GW_cons (atoms_spec (ws := .code y b nl (some rt) :: GW) B0.pre)
  have hown : s.vm.findClass y.cls = some m.cls := findClass_of_methodNamed B0.named
  have hlocks := B0.notSynchronized
  have hin : y.name = "<init>" → meth.name = "<init>" := fun hyi => (name_of_methodNamed B0.named B0.method).1.trans hyi
  subst hsz
  have hD := hD0.self (sz := s.heap.size)
  have hl := lv_entry av (n := nl) hle
  rw [lg_entry_eq]
  have hB := body (p, e, rmA f lo mc ms, s, m, av.toArray, below, meth, c, va_A w s.heap.size, nl, MQ below (va_Qr post (fun u ra t => ra = r u ∧ End0 (l, D, cy) s.heap.size w (B u) t) (va_A w s.heap.size)) av.toArray s mc ms (va_A w s.heap.size)) ⟨hx, hb, hml, hown, hts, hK, hN, fun q h => Or.inr h, rfl, rfl⟩ hin (fun u hu pc lv hdg hrt H locs ls hP hD hS hv => ?_)
  · exact hB s.heap [] _ hP hD va_S.rf hl
  · exact W.aret (v := .ref (r u)) hx hb hr hrt (Or.inr ⟨_, rfl⟩) (fun t ht hW => ⟨⟨u, r u, rfl, hu, rfl, by rw [ht]; exact hP, hD⟩, hS.F ht⟩) hS.2.2 hdg
theorem J_callF0I {E : Ev} {x : Cx} {cc : ByteArray} {own : String} {rm0 : Room} {nL0 k n : Nat} {w1 rw : va_W} {pc : Nat} {lv : List (Nat × Value)} {st rest : List Value} (X : Ok E x cc own rm0 nL0) {T : u_T} {N ci : Nat} {fs : List Value} {a : Nat} {y : MethodName} {b : ByteArray} {nl f lo idx : Nat} {rt : FieldType} {r : Int32} {w2 : va_W} {As : List Value} (hM : CtI E y b nl rt f lo w1 (.ref a :: As) r w2) (q0 : Nat) (he : w1[q0]? = some (a, .inr (ci, fs))) (hc : vwCl[ci]? = some (y.cls, T, N)) (h1 : Cond.methodLink own idx y ∈ GW) (h2 : Cond.instanceMethod y ∈ GW) (h3 : Cond.selects y.cls y y ∈ GW) (h4 : Cond.initialized y.cls ∈ GW) (h5 : Cond.code y b nl (some rt) ∈ GW) {na : Nat} (hna : As.length = na) (hd : y.cls ≠ "java/lang/invoke/MethodHandle" ∧ y.cls ≠ "java/lang/invoke/VarHandle" ∧ (parseMethodDescriptor y.desc).map (fun d => d.parameters.length) = some na) (hf : f + 1 ≤ rm0.frames ∧ 8 + (nl + 11) + lo ≤ rm0.locals) (hst : st = As.reverse ++ .ref a :: rest) (hW : (rest.map fun v => v.category).sum ≤ 8) (hkn : k + 0 ≤ rm0.cells ∧ n + 0 ≤ rm0.slots) (hdg : decode cc pc = .ok (.invokevirtual idx, 3)) (k1 : J E x k n (w2 ++ rw) (pc + 3) lv (.int r :: rest)) : J E x k n (w1 ++ rw) pc lv st := by
  obtain ⟨l, D, cy⟩ := E
  obtain ⟨p, e, R, s, m, args, below, meth, c, A, nL, Q⟩ := x
  obtain ⟨hx, hb, hml, hown, hG, hK, hN, hA, hR, hnl⟩ := X
  intro H locs ls hP hD hS hv
  subst hst
  subst hR
  subst hnl
  have hF := va_Fl hD hS hA
  refine va_calli (va_runV (As := As) (rest := rest) (b := a) (n := na) (cc := cc) (nL := nL) (Ts := GW) (own := own) (index := idx) ⟨hx, hb, hml, hown, hG⟩ (hM H.size) (cwV na hG (GW_goodV h1 h2 h3 h4 h5) rfl rfl rfl ⟨rfl, hd⟩ ⟨hf.1, hf.2⟩) ⟨Pre0_blind, va_recv hK (va_Pl hP) hc he, fun U0 hU hW9 => ⟨rfl, by rw [hU], by rw [hU]; exact va_Pl hP, va_K.moved hW9.alike hK, NW_warm hW9 hN, (va_Dl hD).weaken (fun _ _ _ _ => trivial)⟩⟩ rfl hna hv.1 rfl (lv_room hW) hdg ⟨hkn.1, hkn.2⟩) hS (fun q _ h => hF q h) hF (fun r2 u t H1 locs1 ht hvm hw hB hz1 hk1 hS => ?_)
  subst hw
  obtain ⟨hP1, hD1⟩ := hB
  rw [ht] at hP1
  obtain ⟨hP2, hD2⟩ := va_frm hP hD hF hk1 hP1 hD1
  exact k1 H1 locs1 ls hP2 hD2 hS hv
theorem J_callFXI {E : Ev} {x : Cx} {cc : ByteArray} {own : String} {rm0 : Room} {nL0 k n : Nat} {w1 rw : va_W} {pc : Nat} {lv : List (Nat × Value)} {st rest : List Value} (X : Ok E x cc own rm0 nL0) (XX : OkX E x) {T : u_T} {N ci : Nat} {fs : List Value} {a : Nat} {y : MethodName} {b : ByteArray} {nl f lo idx : Nat} {rt : FieldType} {mc ms : Nat} {U : Type} {r : Int32} {post : U → Prop} {B : U → va_W} {As : List Value} (hM : CtXI E y b nl rt f lo mc ms w1 (.ref a :: As) r post B) (q0 : Nat) (he : w1[q0]? = some (a, .inr (ci, fs))) (hc : vwCl[ci]? = some (y.cls, T, N)) (h1 : Cond.methodLink own idx y ∈ GW) (h2 : Cond.instanceMethod y ∈ GW) (h3 : Cond.selects y.cls y y ∈ GW) (h4 : Cond.initialized y.cls ∈ GW) (h5 : Cond.code y b nl (some rt) ∈ GW) {na : Nat} (hna : As.length = na) (hd : y.cls ≠ "java/lang/invoke/MethodHandle" ∧ y.cls ≠ "java/lang/invoke/VarHandle" ∧ (parseMethodDescriptor y.desc).map (fun d => d.parameters.length) = some na) (hf : f + 1 ≤ rm0.frames ∧ 8 + (nl + 11) + lo ≤ rm0.locals) (hst : st = As.reverse ++ .ref a :: rest) (hW : (rest.map fun v => v.category).sum ≤ 8) (hkn : k + mc ≤ rm0.cells ∧ n + ms ≤ rm0.slots) (hdg : decode cc pc = .ok (.invokevirtual idx, 3)) (k1 : ∀ u, post u → J E x (k + mc) (n + ms) (B u ++ rw) (pc + 3) lv (.int r :: rest)) : J E x k n (w1 ++ rw) pc lv st := by
  obtain ⟨l, D, cy⟩ := E
  obtain ⟨p, e, R, s, m, args, below, meth, c, A, nL, Q⟩ := x
  obtain ⟨hx, hb, hml, hown, hG, hK, hN, hA, hR, hnl⟩ := X
  intro H locs ls hP hD hS hv
  subst hst
  subst hR
  subst hnl
  have hF := va_Fl hD hS hA
  refine va_calli (va_runV (As := As) (rest := rest) (b := a) (n := na) (cc := cc) (nL := nL) (Ts := GW) (own := own) (index := idx) ⟨hx, hb, hml, hown, hG⟩ (hM H.size) (cwV na hG (GW_goodV h1 h2 h3 h4 h5) rfl rfl rfl ⟨rfl, hd⟩ ⟨hf.1, hf.2⟩) ⟨PreX_blind, va_recv hK (va_Pl hP) hc he, fun U0 hU hW9 => ⟨rfl, by rw [hU], by rw [hU]; exact va_Pl hP, va_K.moved hW9.alike hK, NW_warm hW9 hN, (va_Dl hD).weaken (fun _ _ _ _ => trivial), XK.go XX hS hF hW9 hU⟩⟩ rfl hna hv.1 rfl (lv_room hW) hdg ⟨hkn.1, hkn.2⟩) hS (fun q _ h => hF q h) hF (fun r2 u t H1 locs1 ht hvm hw hB hz1 hk1 hS => ?_)
  obtain ⟨rfl, hw⟩ := hw
  obtain ⟨hP1, hD1⟩ := hB
  rw [ht] at hP1
  obtain ⟨hP2, hD2⟩ := va_frm hP hD hF hk1 hP1 hD1
  exact k1 u hw H1 locs1 ls hP2 hD2 hS hv
theorem J_callF0L {E : Ev} {x : Cx} {cc : ByteArray} {own : String} {rm0 : Room} {nL0 k n : Nat} {w1 rw : va_W} {pc : Nat} {lv : List (Nat × Value)} {st rest : List Value} (X : Ok E x cc own rm0 nL0) {T : u_T} {N ci : Nat} {fs : List Value} {a : Nat} {y : MethodName} {b : ByteArray} {nl f lo idx : Nat} {r : Int64} {w2 : va_W} {As : List Value} (hM : CtL E y b nl f lo w1 (.ref a :: As) r w2) (q0 : Nat) (he : w1[q0]? = some (a, .inr (ci, fs))) (hc : vwCl[ci]? = some (y.cls, T, N)) (h1 : Cond.methodLink own idx y ∈ GW) (h2 : Cond.instanceMethod y ∈ GW) (h3 : Cond.selects y.cls y y ∈ GW) (h4 : Cond.initialized y.cls ∈ GW) (h5 : Cond.code y b nl (some .long) ∈ GW) {na : Nat} (hna : As.length = na) (hd : y.cls ≠ "java/lang/invoke/MethodHandle" ∧ y.cls ≠ "java/lang/invoke/VarHandle" ∧ (parseMethodDescriptor y.desc).map (fun d => d.parameters.length) = some na) (hf : f + 1 ≤ rm0.frames ∧ 8 + (nl + 11) + lo ≤ rm0.locals) (hst : st = As.reverse ++ .ref a :: rest) (hW : (rest.map fun v => v.category).sum ≤ 8) (hkn : k + 0 ≤ rm0.cells ∧ n + 0 ≤ rm0.slots) (hdg : decode cc pc = .ok (.invokevirtual idx, 3)) (k1 : J E x k n (w2 ++ rw) (pc + 3) lv (.long r :: rest)) : J E x k n (w1 ++ rw) pc lv st := by
  obtain ⟨l, D, cy⟩ := E
  obtain ⟨p, e, R, s, m, args, below, meth, c, A, nL, Q⟩ := x
  obtain ⟨hx, hb, hml, hown, hG, hK, hN, hA, hR, hnl⟩ := X
  intro H locs ls hP hD hS hv
  subst hst
  subst hR
  subst hnl
  have hF := va_Fl hD hS hA
  refine va_calll (va_runV (As := As) (rest := rest) (b := a) (n := na) (cc := cc) (nL := nL) (Ts := GW) (own := own) (index := idx) ⟨hx, hb, hml, hown, hG⟩ (hM H.size) (cwV na hG (GW_goodV h1 h2 h3 h4 h5) rfl rfl rfl ⟨rfl, hd⟩ ⟨hf.1, hf.2⟩) ⟨Pre0_blind, va_recv hK (va_Pl hP) hc he, fun U0 hU hW9 => ⟨rfl, by rw [hU], by rw [hU]; exact va_Pl hP, va_K.moved hW9.alike hK, NW_warm hW9 hN, (va_Dl hD).weaken (fun _ _ _ _ => trivial)⟩⟩ rfl hna hv.1 rfl (lv_room hW) hdg ⟨hkn.1, hkn.2⟩) hS (fun q _ h => hF q h) hF (fun r2 u t H1 locs1 ht hvm hw hB hz1 hk1 hS => ?_)
  subst hw
  obtain ⟨hP1, hD1⟩ := hB
  rw [ht] at hP1
  obtain ⟨hP2, hD2⟩ := va_frm hP hD hF hk1 hP1 hD1
  exact k1 H1 locs1 ls hP2 hD2 hS hv
theorem J_callF0V {E : Ev} {x : Cx} {cc : ByteArray} {own : String} {rm0 : Room} {nL0 k n : Nat} {w1 rw : va_W} {pc : Nat} {lv : List (Nat × Value)} {st rest : List Value} (X : Ok E x cc own rm0 nL0) {T : u_T} {N ci : Nat} {fs : List Value} {a : Nat} {y : MethodName} {b : ByteArray} {nl f lo idx : Nat} {w2 : va_W} {As : List Value} (hM : CtV E y b nl f lo w1 (.ref a :: As) w2) (q0 : Nat) (he : w1[q0]? = some (a, .inr (ci, fs))) (hc : vwCl[ci]? = some (y.cls, T, N)) (h1 : Cond.methodLink own idx y ∈ GW) (h2 : Cond.instanceMethod y ∈ GW) (h3 : Cond.selects y.cls y y ∈ GW) (h4 : Cond.initialized y.cls ∈ GW) (h5 : Cond.code y b nl (none) ∈ GW) {na : Nat} (hna : As.length = na) (hd : y.cls ≠ "java/lang/invoke/MethodHandle" ∧ y.cls ≠ "java/lang/invoke/VarHandle" ∧ (parseMethodDescriptor y.desc).map (fun d => d.parameters.length) = some na) (hf : f + 1 ≤ rm0.frames ∧ 8 + (nl + 11) + lo ≤ rm0.locals) (hst : st = As.reverse ++ .ref a :: rest) (hW : (rest.map fun v => v.category).sum ≤ 8) (hkn : k + 0 ≤ rm0.cells ∧ n + 0 ≤ rm0.slots) (hdg : decode cc pc = .ok (.invokevirtual idx, 3)) (k1 : J E x k n (w2 ++ rw) (pc + 3) lv (rest)) : J E x k n (w1 ++ rw) pc lv st := by
  obtain ⟨l, D, cy⟩ := E
  obtain ⟨p, e, R, s, m, args, below, meth, c, A, nL, Q⟩ := x
  obtain ⟨hx, hb, hml, hown, hG, hK, hN, hA, hR, hnl⟩ := X
  intro H locs ls hP hD hS hv
  subst hst
  subst hR
  subst hnl
  have hF := va_Fl hD hS hA
  refine va_callv (va_runV (As := As) (rest := rest) (b := a) (n := na) (cc := cc) (nL := nL) (Ts := GW) (own := own) (index := idx) ⟨hx, hb, hml, hown, hG⟩ (hM H.size) (cwV na hG (GW_goodV h1 h2 h3 h4 h5) rfl rfl rfl ⟨rfl, hd⟩ ⟨hf.1, hf.2⟩) ⟨Pre0_blind, va_recv hK (va_Pl hP) hc he, fun U0 hU hW9 => ⟨rfl, by rw [hU], by rw [hU]; exact va_Pl hP, va_K.moved hW9.alike hK, NW_warm hW9 hN, (va_Dl hD).weaken (fun _ _ _ _ => trivial)⟩⟩ rfl hna hv.1 rfl (lv_room hW) hdg ⟨hkn.1, hkn.2⟩) hS (fun q _ h => hF q h) hF (fun u t H1 locs1 ht hvm hw hB hz1 hk1 hS => ?_)
  obtain ⟨hP1, hD1⟩ := hB
  rw [ht] at hP1
  obtain ⟨hP2, hD2⟩ := va_frm hP hD hF hk1 hP1 hD1
  exact k1 H1 locs1 ls hP2 hD2 hS hv
theorem J_callFXV {E : Ev} {x : Cx} {cc : ByteArray} {own : String} {rm0 : Room} {nL0 k n : Nat} {w1 rw : va_W} {pc : Nat} {lv : List (Nat × Value)} {st rest : List Value} (X : Ok E x cc own rm0 nL0) (XX : OkX E x) {T : u_T} {N ci : Nat} {fs : List Value} {a : Nat} {y : MethodName} {b : ByteArray} {nl f lo idx : Nat} {mc ms : Nat} {U : Type} {post : U → Prop} {B : U → va_W} {As : List Value} (hM : CtXV E y b nl f lo mc ms w1 (.ref a :: As) post B) (q0 : Nat) (he : w1[q0]? = some (a, .inr (ci, fs))) (hc : vwCl[ci]? = some (y.cls, T, N)) (h1 : Cond.methodLink own idx y ∈ GW) (h2 : Cond.instanceMethod y ∈ GW) (h3 : Cond.selects y.cls y y ∈ GW) (h4 : Cond.initialized y.cls ∈ GW) (h5 : Cond.code y b nl (none) ∈ GW) {na : Nat} (hna : As.length = na) (hd : y.cls ≠ "java/lang/invoke/MethodHandle" ∧ y.cls ≠ "java/lang/invoke/VarHandle" ∧ (parseMethodDescriptor y.desc).map (fun d => d.parameters.length) = some na) (hf : f + 1 ≤ rm0.frames ∧ 8 + (nl + 11) + lo ≤ rm0.locals) (hst : st = As.reverse ++ .ref a :: rest) (hW : (rest.map fun v => v.category).sum ≤ 8) (hkn : k + mc ≤ rm0.cells ∧ n + ms ≤ rm0.slots) (hdg : decode cc pc = .ok (.invokevirtual idx, 3)) (k1 : ∀ u, post u → J E x (k + mc) (n + ms) (B u ++ rw) (pc + 3) lv (rest)) : J E x k n (w1 ++ rw) pc lv st := by
  obtain ⟨l, D, cy⟩ := E
  obtain ⟨p, e, R, s, m, args, below, meth, c, A, nL, Q⟩ := x
  obtain ⟨hx, hb, hml, hown, hG, hK, hN, hA, hR, hnl⟩ := X
  intro H locs ls hP hD hS hv
  subst hst
  subst hR
  subst hnl
  have hF := va_Fl hD hS hA
  refine va_callv (va_runV (As := As) (rest := rest) (b := a) (n := na) (cc := cc) (nL := nL) (Ts := GW) (own := own) (index := idx) ⟨hx, hb, hml, hown, hG⟩ (hM H.size) (cwV na hG (GW_goodV h1 h2 h3 h4 h5) rfl rfl rfl ⟨rfl, hd⟩ ⟨hf.1, hf.2⟩) ⟨PreX_blind, va_recv hK (va_Pl hP) hc he, fun U0 hU hW9 => ⟨rfl, by rw [hU], by rw [hU]; exact va_Pl hP, va_K.moved hW9.alike hK, NW_warm hW9 hN, (va_Dl hD).weaken (fun _ _ _ _ => trivial), XK.go XX hS hF hW9 hU⟩⟩ rfl hna hv.1 rfl (lv_room hW) hdg ⟨hkn.1, hkn.2⟩) hS (fun q _ h => hF q h) hF (fun u t H1 locs1 ht hvm hw hB hz1 hk1 hS => ?_)
  obtain ⟨hP1, hD1⟩ := hB
  rw [ht] at hP1
  obtain ⟨hP2, hD2⟩ := va_frm hP hD hF hk1 hP1 hD1
  exact k1 u hw H1 locs1 ls hP2 hD2 hS hv
theorem J_callF0R {E : Ev} {x : Cx} {cc : ByteArray} {own : String} {rm0 : Room} {nL0 k n : Nat} {w1 rw : va_W} {pc : Nat} {lv : List (Nat × Value)} {st rest : List Value} (X : Ok E x cc own rm0 nL0) {T : u_T} {N ci : Nat} {fs : List Value} {a : Nat} {y : MethodName} {b : ByteArray} {nl f lo idx : Nat} {rt : FieldType} {mc ms : Nat} {U : Type} {r : U → Nat} {post : U → Prop} {B : U → va_W} {As : List Value} (hM : CtR E y b nl rt f lo mc ms w1 (.ref a :: As) r post B) (q0 : Nat) (he : w1[q0]? = some (a, .inr (ci, fs))) (hc : vwCl[ci]? = some (y.cls, T, N)) (h1 : Cond.methodLink own idx y ∈ GW) (h2 : Cond.instanceMethod y ∈ GW) (h3 : Cond.selects y.cls y y ∈ GW) (h4 : Cond.initialized y.cls ∈ GW) (h5 : Cond.code y b nl (some rt) ∈ GW) {na : Nat} (hna : As.length = na) (hd : y.cls ≠ "java/lang/invoke/MethodHandle" ∧ y.cls ≠ "java/lang/invoke/VarHandle" ∧ (parseMethodDescriptor y.desc).map (fun d => d.parameters.length) = some na) (hf : f + 1 ≤ rm0.frames ∧ 8 + (nl + 11) + lo ≤ rm0.locals) (hst : st = As.reverse ++ .ref a :: rest) (hW : (rest.map fun v => v.category).sum ≤ 8) (hkn : k + mc ≤ rm0.cells ∧ n + ms ≤ rm0.slots) (hdg : decode cc pc = .ok (.invokevirtual idx, 3)) (k1 : ∀ u, post u → J E x (k + mc) (n + ms) (B u ++ rw) (pc + 3) lv (.ref (r u) :: rest)) : J E x k n (w1 ++ rw) pc lv st := by
  obtain ⟨l, D, cy⟩ := E
  obtain ⟨p, e, R, s, m, args, below, meth, c, A, nL, Q⟩ := x
  obtain ⟨hx, hb, hml, hown, hG, hK, hN, hA, hR, hnl⟩ := X
  intro H locs ls hP hD hS hv
  subst hst
  subst hR
  subst hnl
  have hF := va_Fl hD hS hA
  refine va_callr (va_runV (As := As) (rest := rest) (b := a) (n := na) (cc := cc) (nL := nL) (Ts := GW) (own := own) (index := idx) ⟨hx, hb, hml, hown, hG⟩ (hM H.size) (cwV na hG (GW_goodV h1 h2 h3 h4 h5) rfl rfl rfl ⟨rfl, hd⟩ ⟨hf.1, hf.2⟩) ⟨Pre0_blind, va_recv hK (va_Pl hP) hc he, fun U0 hU hW9 => ⟨rfl, by rw [hU], by rw [hU]; exact va_Pl hP, va_K.moved hW9.alike hK, NW_warm hW9 hN, (va_Dl hD).weaken (fun _ _ _ _ => trivial)⟩⟩ rfl hna hv.1 rfl (lv_room hW) hdg ⟨hkn.1, hkn.2⟩) hS (fun q _ h => hF q h) hF (fun u ra t H1 locs1 ht hvm hw hB hz1 hk1 hS => ?_)
  obtain ⟨rfl, hP1, hD1⟩ := hB
  rw [ht] at hP1
  obtain ⟨hP2, hD2⟩ := va_frm hP hD hF hk1 hP1 hD1
  exact k1 u hw H1 locs1 ls hP2 hD2 hS hv
theorem J_callFXR {E : Ev} {x : Cx} {cc : ByteArray} {own : String} {rm0 : Room} {nL0 k n : Nat} {w1 rw : va_W} {pc : Nat} {lv : List (Nat × Value)} {st rest : List Value} (X : Ok E x cc own rm0 nL0) (XX : OkX E x) {T : u_T} {N ci : Nat} {fs : List Value} {a : Nat} {y : MethodName} {b : ByteArray} {nl f lo idx : Nat} {rt : FieldType} {mc ms : Nat} {U : Type} {r : U → Nat} {post : U → Prop} {B : U → va_W} {As : List Value} (hM : CtXR E y b nl rt f lo mc ms w1 (.ref a :: As) r post B) (q0 : Nat) (he : w1[q0]? = some (a, .inr (ci, fs))) (hc : vwCl[ci]? = some (y.cls, T, N)) (h1 : Cond.methodLink own idx y ∈ GW) (h2 : Cond.instanceMethod y ∈ GW) (h3 : Cond.selects y.cls y y ∈ GW) (h4 : Cond.initialized y.cls ∈ GW) (h5 : Cond.code y b nl (some rt) ∈ GW) {na : Nat} (hna : As.length = na) (hd : y.cls ≠ "java/lang/invoke/MethodHandle" ∧ y.cls ≠ "java/lang/invoke/VarHandle" ∧ (parseMethodDescriptor y.desc).map (fun d => d.parameters.length) = some na) (hf : f + 1 ≤ rm0.frames ∧ 8 + (nl + 11) + lo ≤ rm0.locals) (hst : st = As.reverse ++ .ref a :: rest) (hW : (rest.map fun v => v.category).sum ≤ 8) (hkn : k + mc ≤ rm0.cells ∧ n + ms ≤ rm0.slots) (hdg : decode cc pc = .ok (.invokevirtual idx, 3)) (k1 : ∀ u, post u → J E x (k + mc) (n + ms) (B u ++ rw) (pc + 3) lv (.ref (r u) :: rest)) : J E x k n (w1 ++ rw) pc lv st := by
  obtain ⟨l, D, cy⟩ := E
  obtain ⟨p, e, R, s, m, args, below, meth, c, A, nL, Q⟩ := x
  obtain ⟨hx, hb, hml, hown, hG, hK, hN, hA, hR, hnl⟩ := X
  intro H locs ls hP hD hS hv
  subst hst
  subst hR
  subst hnl
  have hF := va_Fl hD hS hA
  refine va_callr (va_runV (As := As) (rest := rest) (b := a) (n := na) (cc := cc) (nL := nL) (Ts := GW) (own := own) (index := idx) ⟨hx, hb, hml, hown, hG⟩ (hM H.size) (cwV na hG (GW_goodV h1 h2 h3 h4 h5) rfl rfl rfl ⟨rfl, hd⟩ ⟨hf.1, hf.2⟩) ⟨PreX_blind, va_recv hK (va_Pl hP) hc he, fun U0 hU hW9 => ⟨rfl, by rw [hU], by rw [hU]; exact va_Pl hP, va_K.moved hW9.alike hK, NW_warm hW9 hN, (va_Dl hD).weaken (fun _ _ _ _ => trivial), XK.go XX hS hF hW9 hU⟩⟩ rfl hna hv.1 rfl (lv_room hW) hdg ⟨hkn.1, hkn.2⟩) hS (fun q _ h => hF q h) hF (fun u ra t H1 locs1 ht hvm hw hB hz1 hk1 hS => ?_)
  obtain ⟨rfl, hP1, hD1⟩ := hB
  rw [ht] at hP1
  obtain ⟨hP2, hD2⟩ := va_frm hP hD hF hk1 hP1 hD1
  exact k1 u hw H1 locs1 ls hP2 hD2 hS hv
