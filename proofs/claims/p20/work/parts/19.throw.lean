/-! Methods that throw: what leaves them, and how -/
def NMS : List String := ["java/lang/RuntimeException", "java/lang/Exception"]
theorem NW_on : NW.all (fun z => z.onTables) = true := by decide +kernel
theorem NW_use {z : Cond} {args : Array Value} {s : State} (hz : z ∈ NW) (h : ∀ w ∈ NW, va_Nw w s) : z.before args s = true := va_Nw.use (List.all_eq_true.mp NW_on z hz) (h z hz)
/-- this walk owes a throw of Ex, with the world w1 -/
def IsT (E : Ev) (x : Cx) (Ex : String) (w1 : va_W) : Prop := match E, x with
  | (_, D, _), (_, _, _, s, _, args, below, meth, c, A, _, Q) => Q = vx_MQ below (fun _ _ _ _ => False) (vx_X (fun _ : Unit => True) (fun E' _ t => E' = Ex ∧ va_P D vwCl w1 t.heap ∧ va_D A w1) A) args s 1 6 A ∧ meth.locks = false ∧ ∀ z ∈ c.exceptionTable.toList, False
def CtT (E : Ev) (y : MethodName) (b : ByteArray) (nl : Nat) (ret : Option FieldType) (f lo : Nat) (w : va_W) (av : List Value) (Ex : String) (w1 : va_W) : Prop := ∀ sz, vx_Met E.1 y (.code y b nl ret :: GW) (rmA f lo 1 6) (PreX E sz w av) (fun _ _ _ _ => False) (vx_X (fun _ : Unit => True) (fun E' _ t => E' = Ex ∧ End0 E sz w w1 t) (va_A w sz)) 1 6 (va_A w sz)
theorem CtT_of {E : Ev} {y : MethodName} {b : ByteArray} {nl f lo : Nat} {ret : Option FieldType} {w w1 : va_W} {av : List Value} {Ex : String} (hy : plainName y.cls = true) (hle : (lg_sl av).length ≤ nl) (body : ∀ x : Cx, Ok E x b y.cls (rmA f lo 1 6) nl → OkX E x → IsT E x Ex w1 → J E x 0 0 w 0 (lv_args 0 av) []) : CtT E y b nl ret f lo w av Ex w1 := by
  obtain ⟨l, D, cy⟩ := E
  intro sz
  refine vx_ofW (cc := b) (maxL := nl) (ret := ret) hy rfl ?_
  intro p e s m args below meth c s₁ B0 hml htab hv
  obtain ⟨rfl, hsz, hP, hK, hN, hD0, hX⟩ := hv
  have hts := GW_cons (atoms_spec (ws := .code y b nl ret :: GW) B0.pre)
  have hown : s.vm.findClass y.cls = some m.cls := findClass_of_methodNamed B0.named
  subst hsz
  have hD := hD0.self (sz := s.heap.size)
  have hl := lv_entry av (n := nl) hle
  rw [lg_entry_eq]
  exact body (p, e, rmA f lo 1 6, s, m, av.toArray, below, meth, c, va_A w s.heap.size, nl, vx_MQ below (fun _ _ _ _ => False) (vx_X (fun _ : Unit => True) (fun E' _ t => E' = Ex ∧ End0 (l, D, cy) s.heap.size w w1 t) (va_A w s.heap.size)) av.toArray s 1 6 (va_A w s.heap.size)) ⟨B0.exec, B0.bytes, hml, hown, hts, hK, hN, fun q h => Or.inr h, rfl, rfl⟩ hX ⟨rfl, B0.notSynchronized, htab⟩ s.heap [] _ hP hD va_S.rf hl
theorem J_throwS {E : Ev} {x : Cx} {cc : ByteArray} {rm0 : Room} {nL0 k n : Nat} {w : va_W} {pc : Nat} {lv : List (Nat × Value)} {st : List Value} {cls text : String} {ik is ic : Nat} (X : Ok E x cc RX7 rm0 nL0) (XX : OkX E x) (IT : IsT E x cls w)
    (hcls : Bundle.fit cls = true) (hk : Cond.classLink RX7 ik cls ∈ GW) (hini : Cond.initialized cls ∈ GW) (hstr : (is, text) ∈ XSl)
    (hat : (vx_atS RX7 ic cls NMS).all (fun z => goodWord z || decide (z ∈ NW)) = true) (hin : ∀ z ∈ (vx_atS RX7 ic cls NMS).filter goodWord, z ∈ GW)
    (hgood : (Cond.classLink RX7 ik cls :: Cond.initialized cls :: vx_atS RX7 ic cls NMS).all vx_ot = true)
    (d0 : decode cc pc = .ok (.new ik, 3)) (d3 : decode cc (pc + 3) = .ok (.dup, 1)) (d4 : decode cc (pc + 4) = .ok (.ldc is, 2)) (d6 : decode cc (pc + 6) = .ok (.invokespecial ic, 3)) (d9 : decode cc (pc + 9) = .ok (.athrow, 1))
    (hf : 5 < rm0.frames) (hlo : (st.map fun v => v.category).sum + 82 ≤ rm0.locals) (hc : k + 1 ≤ rm0.cells) (hs : n + 6 ≤ rm0.slots) (hk1 : k + 1 ≤ 1) (hn1 : n + 6 ≤ 6) : J E x k n w pc lv st := by
  obtain ⟨l, D, cy⟩ := E
  obtain ⟨p, e, R, s, m, args, below, meth, c, A, nL, Q⟩ := x
  obtain ⟨hx, hb, hml, hown, hG, hK, hN, hA, hR, hnl⟩ := X
  obtain ⟨X0, X1, X2, X3, X4, X5, X6⟩ := XX
  obtain ⟨hQ, hlocks, htab⟩ := IT
  subst hQ
  subst hR
  intro H locs ls hP hD hS hv
  obtain ⟨sa, hsa⟩ := X3 _ hstr
  refine vx_throwS hx hb X0 (names := NMS) hown hcls (by decide +kernel) (hG _ hk) (hG _ hini) hsa (fun z hz => ?_) (fun z hz => List.all_eq_true.mp hgood z hz) X1 X2 hS (hv.1.trans hml.symm) d0 d3 d4 d6 d9 (fun z hz => absurd (htab z hz) id) hf hlo hc hs hlocks (fun t ht hz hq => ?_) hS.2.2 hk1 hn1
  · have h1 := List.all_eq_true.mp hat z hz
    rcases Bool.or_eq_true _ _ ▸ h1 with h1 | h1
    · exact hG _ (hin z (List.mem_filter.mpr ⟨hz, h1⟩))
    · exact NW_use (of_decide_eq_true h1) hN
  · refine ⟨(), trivial, ⟨rfl, fun j q0 hj => (hP j q0 hj).kept (hq q0.1 (hP j q0 hj).lt), hD⟩, Nat.le_trans hS.1 hz, fun q0 h1 h2 => ?_⟩
    rw [hq q0 (Nat.lt_of_lt_of_le h1 hS.1)]
    exact hS.2.1 q0 h1 h2
/-- a callee that throws, seen from its caller's frame -/
theorem vx_goT {p : Program} {l : Launch} {e : Env} {R : Room} {s : State} {m : MethodId} {args : Array Value} {below : List Frame} {meth : Method} {c : Code} {H : Heap} {locs : List Loc} {cells slots mc ms : Nat} {pc : Nat} {ls : Array Slot} {st0 rest : List Value} {Q : State → Prop} {A0 A1 : Nat → Prop} {free : Addr → Prop} {Ex : String} {B : State → Prop}
    (hr : vx_Run p l e R s m args below meth c H locs cells slots mc ms (F0 m pc ls st0) rest (fun _ _ _ => False) (vx_X (fun _ : Unit => True) (fun E' _ t => E' = Ex ∧ B t) A1) free) (hS : va_S A0 s.heap H locs) (hA : ∀ q, q < H.size → A1 q → A0 q) (hf : ∀ q, free q → A0 q)
    (kx : ∀ (ce : Cell) (q9 : Addr) (t : State) (H1 : Heap) (locs1 : List Loc), t.heap = H1 → s.vm.Alike t.vm → B t → H.size ≤ H1.size → (∀ q : Nat, q < H.size → ¬ A1 q → H1[q]? = H[q]?) → va_S A0 s.heap H1 locs1 → H1[q9]? = some ce → ce.vm = .none → s.vm.findClass Ex = some ce.cls → vx_W p l e R s m args below meth c H1 locs1 (cells + mc) (slots + ms) Q (F0 m pc ls rest) q9) :
    W p l e R s m args below meth c H locs cells slots Q (F0 m pc ls st0) := by
  intro T hT X
  rcases hr T hT X with ⟨v, st₀, t, T', L, h0, X', hL, e1, e2, hf0, st⟩ | ⟨q, st₀, t, T', L, E9, ce, h0, X', hL, e1, e2, ⟨u, hp, ⟨hE, hb⟩, hF⟩, hce, hcv, hcl, st⟩
  · exact absurd hf0 id
  · subst hE
    obtain ⟨k1, k2, k3⟩ := vx_keep h0 e1 hS hA hf hL hF
    obtain ⟨t2, a1, b1⟩ := kx ce q t T'.heap (locs ++ L) e1.symm (by rw [← e2]; exact X'.warmed.alike) hb k1 k2 k3 (by rw [e1]; exact hce) hcv hcl T' rfl X'
    exact ⟨t2, st.trans a1, b1⟩
theorem J_callTV {E : Ev} {x : Cx} {cc : ByteArray} {own : String} {rm0 : Room} {nL0 k n : Nat} {w w1 : va_W} {pc : Nat} {lv : List (Nat × Value)} {st rest : List Value} (X : Ok E x cc own rm0 nL0) (XX : OkX E x) {F : u_T} {N ci : Nat} {fs : List Value} {a : Nat} {y : MethodName} {b : ByteArray} {nl f lo idx : Nat} {ret : Option FieldType} {Ex : String} {As : List Value} (hM : CtT E y b nl ret f lo w (.ref a :: As) Ex w1) (IT : IsT E x Ex w1) (q0 : Nat) (he : w[q0]? = some (a, .inr (ci, fs))) (hc : vwCl[ci]? = some (y.cls, F, N)) (h1 : Cond.methodLink own idx y ∈ GW) (h2 : Cond.instanceMethod y ∈ GW) (h3 : Cond.selects y.cls y y ∈ GW) (h4 : Cond.initialized y.cls ∈ GW) (h5 : Cond.code y b nl ret ∈ GW) {na : Nat} (hna : As.length = na) (hd : y.cls ≠ "java/lang/invoke/MethodHandle" ∧ y.cls ≠ "java/lang/invoke/VarHandle" ∧ (parseMethodDescriptor y.desc).map (fun d => d.parameters.length) = some na) (hf : f + 1 ≤ rm0.frames ∧ 8 + (nl + 11) + lo ≤ rm0.locals) (hst : st = As.reverse ++ .ref a :: rest) (hW : (rest.map fun v => v.category).sum ≤ 8) (hkn : k + 1 ≤ rm0.cells ∧ n + 6 ≤ rm0.slots) (hdg : decode cc pc = .ok (.invokevirtual idx, 3)) (hk1 : k + 1 ≤ 1) (hn1 : n + 6 ≤ 6) : J E x k n w pc lv st := by
  obtain ⟨l, D, cy⟩ := E
  obtain ⟨p, e, R, s, m, args, below, meth, c, A, nL, Q⟩ := x
  obtain ⟨hx, hb, hml, hown, hG, hK, hN, hA, hR, hnl⟩ := X
  obtain ⟨hQ, hlocks, htab⟩ := IT
  subst hQ
  intro H locs ls hP hD hS hv
  subst hst
  subst hR
  subst hnl
  have hF : ∀ q, va_A w H.size q → A q := fun q h => by
    rcases h with ⟨j, e9, h⟩ | h
    · exact hD.2 j (q, e9) h
    · exact hA q (Nat.le_trans hS.1 h)
  refine vx_goT (vx_runV (As := As) (rest := rest) (b := a) (n := na) (cc := cc) (nL := nL) (Ts := GW) (own := own) (index := idx) ⟨hx, hb, hml, hown, hG⟩ (hM H.size) (cwV na hG (GW_goodV h1 h2 h3 h4 h5) rfl rfl rfl ⟨rfl, hd⟩ ⟨hf.1, hf.2⟩) ⟨PreX_blind, va_recv hK hP hc he, fun U0 hU hW9 => ⟨rfl, by rw [hU], by rw [hU]; exact hP, va_K.moved hW9.alike hK, NW_warm hW9 hN, hD.weaken (fun _ _ _ _ => trivial), XK.go XX hS hF hW9 hU⟩⟩ rfl hna hv.1 rfl (lv_room hW) hdg ⟨hkn.1, hkn.2⟩) hS (fun q _ h => hF q h) hF (fun ce q9 t H1 locs1 ht hvm hB hz1 hk9 hS1 hce hcv hcl => ?_)
  obtain ⟨hP1, hD1⟩ := hB
  rw [ht] at hP1
  exact vx_out (fun z hz => absurd (htab z hz) id) hlocks hce hcv hcl (fun t2 ht2 hvm2 => ⟨(), trivial, ⟨rfl, by rw [ht2]; exact hP1, hD1.weaken (fun _ q _ h9 => hF q.1 h9)⟩, hS1.F ht2⟩) hS1.2.2 hk1 hn1
theorem J_callCV {E : Ev} {x : Cx} {cc : ByteArray} {own : String} {rm0 : Room} {nL0 k n : Nat} {w w1 : va_W} {pc : Nat} {lv : List (Nat × Value)} {st rest : List Value} (X : Ok E x cc own rm0 nL0) (XX : OkX E x) {F : u_T} {N ci : Nat} {fs : List Value} {a : Nat} {y : MethodName} {b : ByteArray} {nl f lo idx : Nat} {ret : Option FieldType} {Ex : String} {As : List Value} (hM : CtT E y b nl ret f lo w (.ref a :: As) Ex w1)  (q0 : Nat) (he : w[q0]? = some (a, .inr (ci, fs))) (hc : vwCl[ci]? = some (y.cls, F, N)) (h1 : Cond.methodLink own idx y ∈ GW) (h2 : Cond.instanceMethod y ∈ GW) (h3 : Cond.selects y.cls y y ∈ GW) (h4 : Cond.initialized y.cls ∈ GW) (h5 : Cond.code y b nl ret ∈ GW) {na : Nat} (hna : As.length = na) (hd : y.cls ≠ "java/lang/invoke/MethodHandle" ∧ y.cls ≠ "java/lang/invoke/VarHandle" ∧ (parseMethodDescriptor y.desc).map (fun d => d.parameters.length) = some na) (hf : f + 1 ≤ rm0.frames ∧ 8 + (nl + 11) + lo ≤ rm0.locals) (hst : st = As.reverse ++ .ref a :: rest) (hW : (rest.map fun v => v.category).sum ≤ 8) (hkn : k + 1 ≤ rm0.cells ∧ n + 6 ≤ rm0.slots) (hdg : decode cc pc = .ok (.invokevirtual idx, 3)) (pre0 suf : List ExceptionTableEntry) (xr : ExceptionTableEntry) {name : String} (hsplit : x.2.2.2.2.2.2.2.2.1.exceptionTable.toList = pre0 ++ xr :: suf) (hpass : ∀ z ∈ pre0, covers z pc = false ∨ (z.catchType ≠ 0 ∧ ∃ nm : String, Cond.classLink own z.catchType nm ∈ GW ∧ va_Nc Ex nm x.2.2.2.1)) (hcov : covers xr pc = true) (h0 : xr.catchType ≠ 0) (hlink : Cond.classLink own xr.catchType name ∈ GW) (hcast : Cond.castable Ex name ∈ NW) (k1 : ∀ q : Nat, J E x (k + 1) (n + 6) w1 xr.handlerPc lv [.ref q]) : J E x k n w pc lv st := by
  obtain ⟨l, D, cy⟩ := E
  obtain ⟨p, e, R, s, m, args, below, meth, c, A, nL, Q⟩ := x
  obtain ⟨hx, hb, hml, hown, hG, hK, hN, hA, hR, hnl⟩ := X
  intro H locs ls hP hD hS hv
  subst hst
  subst hR
  subst hnl
  have hF : ∀ q, va_A w H.size q → A q := fun q h => by
    rcases h with ⟨j, e9, h⟩ | h
    · exact hD.2 j (q, e9) h
    · exact hA q (Nat.le_trans hS.1 h)
  refine vx_goT (vx_runV (As := As) (rest := rest) (b := a) (n := na) (cc := cc) (nL := nL) (Ts := GW) (own := own) (index := idx) ⟨hx, hb, hml, hown, hG⟩ (hM H.size) (cwV na hG (GW_goodV h1 h2 h3 h4 h5) rfl rfl rfl ⟨rfl, hd⟩ ⟨hf.1, hf.2⟩) ⟨PreX_blind, va_recv hK hP hc he, fun U0 hU hW9 => ⟨rfl, by rw [hU], by rw [hU]; exact hP, va_K.moved hW9.alike hK, NW_warm hW9 hN, hD.weaken (fun _ _ _ _ => trivial), XK.go XX hS hF hW9 hU⟩⟩ rfl hna hv.1 rfl (lv_room hW) hdg ⟨hkn.1, hkn.2⟩) hS (fun q _ h => hF q h) hF (fun ce q9 t H1 locs1 ht hvm hB hz1 hk9 hS1 hce hcv hcl => ?_)
  obtain ⟨hP1, hD1⟩ := hB
  rw [ht] at hP1
  exact vx_catch hown pre0 xr suf hsplit (fun z hz => (hpass z hz).imp id (fun ⟨h9, nm9, h8, h7⟩ => ⟨h9, nm9, hG _ h8, h7⟩)) hcov h0 (hG _ hlink) (NW_use hcast hN) hce hcv hcl (k1 q9 H1 locs1 ls hP1 (hD1.weaken (fun _ q _ h9 => hF q.1 h9)) hS1 hv)
theorem J_callTS {E : Ev} {x : Cx} {cc : ByteArray} {own : String} {rm0 : Room} {nL0 k n : Nat} {w w1 : va_W} {pc : Nat} {lv : List (Nat × Value)} {st rest : List Value} (X : Ok E x cc own rm0 nL0) (XX : OkX E x) {y : MethodName} {b : ByteArray} {nl f lo idx : Nat} {ret : Option FieldType} {Ex : String} {As : List Value} (hM : CtT E y b nl ret f lo w As Ex w1) (IT : IsT E x Ex w1) (h1 : Cond.methodLink own idx y ∈ GW) (h2 : Cond.static y ∈ GW) (h4 : Cond.initialized y.cls ∈ GW) (h5 : Cond.code y b nl ret ∈ GW) {na : Nat} (hna : As.length = na) (hd : y.cls ≠ "java/lang/invoke/MethodHandle" ∧ y.cls ≠ "java/lang/invoke/VarHandle" ∧ (parseMethodDescriptor y.desc).map (fun d => d.parameters.length) = some na) (hf : f + 1 ≤ rm0.frames ∧ 8 + (nl + 11) + lo ≤ rm0.locals) (hst : st = As.reverse ++ rest) (hW : (rest.map fun v => v.category).sum ≤ 8) (hkn : k + 1 ≤ rm0.cells ∧ n + 6 ≤ rm0.slots) (hdg : decode cc pc = .ok (.invokestatic idx, 3)) (hk1 : k + 1 ≤ 1) (hn1 : n + 6 ≤ 6) : J E x k n w pc lv st := by
  obtain ⟨l, D, cy⟩ := E
  obtain ⟨p, e, R, s, m, args, below, meth, c, A, nL, Q⟩ := x
  obtain ⟨hx, hb, hml, hown, hG, hK, hN, hA, hR, hnl⟩ := X
  obtain ⟨hQ, hlocks, htab⟩ := IT
  subst hQ
  intro H locs ls hP hD hS hv
  subst hst
  subst hR
  subst hnl
  have hF : ∀ q, va_A w H.size q → A q := fun q h => by
    rcases h with ⟨j, e9, h⟩ | h
    · exact hD.2 j (q, e9) h
    · exact hA q (Nat.le_trans hS.1 h)
  refine vx_goT (vx_runS (As := As) (rest := rest) (n := na) (cc := cc) (nL := nL) (Ts := GW) (own := own) (index := idx) ⟨hx, hb, hml, hown, hG⟩ (hM H.size) ⟨callB_of na hG (GW_good h5) rfl rfl rfl (hG _ h4) (hG _ h1) hd ⟨hf.1, hf.2⟩, hG _ h2⟩ ⟨PreX_blind, fun U0 hU hW9 => ⟨rfl, by rw [hU], by rw [hU]; exact hP, va_K.moved hW9.alike hK, NW_warm hW9 hN, hD.weaken (fun _ _ _ _ => trivial), XK.go XX hS hF hW9 hU⟩⟩ rfl hna hv.1 rfl (lv_room hW) hdg ⟨hkn.1, hkn.2⟩) hS (fun q _ h => hF q h) hF (fun ce q9 t H1 locs1 ht hvm hB hz1 hk9 hS1 hce hcv hcl => ?_)
  obtain ⟨hP1, hD1⟩ := hB
  rw [ht] at hP1
  exact vx_out (fun z hz => absurd (htab z hz) id) hlocks hce hcv hcl (fun t2 ht2 hvm2 => ⟨(), trivial, ⟨rfl, by rw [ht2]; exact hP1, hD1.weaken (fun _ q _ h9 => hF q.1 h9)⟩, hS1.F ht2⟩) hS1.2.2 hk1 hn1
theorem J_callCS {E : Ev} {x : Cx} {cc : ByteArray} {own : String} {rm0 : Room} {nL0 k n : Nat} {w w1 : va_W} {pc : Nat} {lv : List (Nat × Value)} {st rest : List Value} (X : Ok E x cc own rm0 nL0) (XX : OkX E x) {y : MethodName} {b : ByteArray} {nl f lo idx : Nat} {ret : Option FieldType} {Ex : String} {As : List Value} (hM : CtT E y b nl ret f lo w As Ex w1)  (h1 : Cond.methodLink own idx y ∈ GW) (h2 : Cond.static y ∈ GW) (h4 : Cond.initialized y.cls ∈ GW) (h5 : Cond.code y b nl ret ∈ GW) {na : Nat} (hna : As.length = na) (hd : y.cls ≠ "java/lang/invoke/MethodHandle" ∧ y.cls ≠ "java/lang/invoke/VarHandle" ∧ (parseMethodDescriptor y.desc).map (fun d => d.parameters.length) = some na) (hf : f + 1 ≤ rm0.frames ∧ 8 + (nl + 11) + lo ≤ rm0.locals) (hst : st = As.reverse ++ rest) (hW : (rest.map fun v => v.category).sum ≤ 8) (hkn : k + 1 ≤ rm0.cells ∧ n + 6 ≤ rm0.slots) (hdg : decode cc pc = .ok (.invokestatic idx, 3)) (pre0 suf : List ExceptionTableEntry) (xr : ExceptionTableEntry) {name : String} (hsplit : x.2.2.2.2.2.2.2.2.1.exceptionTable.toList = pre0 ++ xr :: suf) (hpass : ∀ z ∈ pre0, covers z pc = false ∨ (z.catchType ≠ 0 ∧ ∃ nm : String, Cond.classLink own z.catchType nm ∈ GW ∧ va_Nc Ex nm x.2.2.2.1)) (hcov : covers xr pc = true) (h0 : xr.catchType ≠ 0) (hlink : Cond.classLink own xr.catchType name ∈ GW) (hcast : Cond.castable Ex name ∈ NW) (k1 : ∀ q : Nat, J E x (k + 1) (n + 6) w1 xr.handlerPc lv [.ref q]) : J E x k n w pc lv st := by
  obtain ⟨l, D, cy⟩ := E
  obtain ⟨p, e, R, s, m, args, below, meth, c, A, nL, Q⟩ := x
  obtain ⟨hx, hb, hml, hown, hG, hK, hN, hA, hR, hnl⟩ := X
  intro H locs ls hP hD hS hv
  subst hst
  subst hR
  subst hnl
  have hF : ∀ q, va_A w H.size q → A q := fun q h => by
    rcases h with ⟨j, e9, h⟩ | h
    · exact hD.2 j (q, e9) h
    · exact hA q (Nat.le_trans hS.1 h)
  refine vx_goT (vx_runS (As := As) (rest := rest) (n := na) (cc := cc) (nL := nL) (Ts := GW) (own := own) (index := idx) ⟨hx, hb, hml, hown, hG⟩ (hM H.size) ⟨callB_of na hG (GW_good h5) rfl rfl rfl (hG _ h4) (hG _ h1) hd ⟨hf.1, hf.2⟩, hG _ h2⟩ ⟨PreX_blind, fun U0 hU hW9 => ⟨rfl, by rw [hU], by rw [hU]; exact hP, va_K.moved hW9.alike hK, NW_warm hW9 hN, hD.weaken (fun _ _ _ _ => trivial), XK.go XX hS hF hW9 hU⟩⟩ rfl hna hv.1 rfl (lv_room hW) hdg ⟨hkn.1, hkn.2⟩) hS (fun q _ h => hF q h) hF (fun ce q9 t H1 locs1 ht hvm hB hz1 hk9 hS1 hce hcv hcl => ?_)
  obtain ⟨hP1, hD1⟩ := hB
  rw [ht] at hP1
  exact vx_catch hown pre0 xr suf hsplit (fun z hz => (hpass z hz).imp id (fun ⟨h9, nm9, h8, h7⟩ => ⟨h9, nm9, hG _ h8, h7⟩)) hcov h0 (hG _ hlink) (NW_use hcast hN) hce hcv hcl (k1 q9 H1 locs1 ls hP1 (hD1.weaken (fun _ q _ h9 => hF q.1 h9)) hS1 hv)
