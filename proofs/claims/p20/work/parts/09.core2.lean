/-! Frames, permutations, making of objects -/
theorem va_D_pw {A : Nat → Prop} {w : va_W} : va_D A w ↔ (w.Pairwise (fun p q => p.1 ≠ q.1) ∧ ∀ q ∈ w, A q.1) := by
  constructor
  · intro h
    refine ⟨List.pairwise_iff_getElem.mpr fun i j hi hj hij he => ?_, fun q hq => ?_⟩
    · have := h.1 i j _ _ (List.getElem?_eq_getElem hi) (List.getElem?_eq_getElem hj) he
      omega
    · obtain ⟨k, hk⟩ := List.getElem?_of_mem hq
      exact h.2 k q hk
  · intro h
    refine ⟨fun i j p q hi hj he => ?_, fun k q hk => h.2 q (List.mem_of_getElem? hk)⟩
    obtain ⟨hi', rfl⟩ := List.getElem?_eq_some_iff.mp hi
    obtain ⟨hj', rfl⟩ := List.getElem?_eq_some_iff.mp hj
    rcases Nat.lt_trichotomy i j with c | c | c
    · exact absurd he (List.pairwise_iff_getElem.mp h.1 i j hi' hj' c)
    · exact c
    · exact absurd he.symm (List.pairwise_iff_getElem.mp h.1 j i hj' hi' c)
theorem va_P_mem {D : va_G} {cl : List vw_C} {w : va_W} {H : Heap} : va_P D cl w H ↔ ∀ q ∈ w, va_at D cl q H := by
  constructor
  · intro h q hq
    obtain ⟨k, hk⟩ := List.getElem?_of_mem hq
    exact h k q hk
  · intro h k q hk
    exact h q (List.mem_of_getElem? hk)
theorem va_P_perm {D : va_G} {cl : List vw_C} {w w1 : va_W} {H : Heap} (hp : w.Perm w1) (h : va_P D cl w H) : va_P D cl w1 H :=
  va_P_mem.mpr fun q hq => va_P_mem.mp h q (hp.mem_iff.mpr hq)
theorem va_D_perm {A : Nat → Prop} {w w1 : va_W} (hp : w.Perm w1) (h : va_D A w) : va_D A w1 := by
  have h1 := va_D_pw.mp h
  exact va_D_pw.mpr ⟨(hp.pairwise_iff (fun {_ _} h => Ne.symm h)).mp h1.1, fun q hq => h1.2 q (hp.mem_iff.mpr hq)⟩
theorem va_frm {A0 : Nat → Prop} {D : va_G} {cl : List vw_C} {w1 rest w2 : va_W} {H H1 : Heap} (hP : va_P D cl (w1 ++ rest) H) (hD : va_D A0 (w1 ++ rest))
    (hF : ∀ q, va_A w1 H.size q → A0 q) (hk : ∀ q : Nat, q < H.size → ¬ va_A w1 H.size q → H1[q]? = H[q]?) (hP1 : va_P D cl w2 H1) (hD1 : va_D (va_A w1 H.size) w2) : va_P D cl (w2 ++ rest) H1 ∧ va_D A0 (w2 ++ rest) := by
  have apart : ∀ q ∈ rest, q.1 < H.size ∧ ¬ va_A w1 H.size q.1 := by
    intro q hq
    obtain ⟨k, hk⟩ := List.getElem?_of_mem hq
    have h2 : (w1 ++ rest)[w1.length + k]? = some q := by rw [List.getElem?_append_right (Nat.le_add_right _ _), Nat.add_sub_cancel_left]; exact hk
    have hl := (hP _ q h2).lt
    refine ⟨hl, fun h => ?_⟩
    rcases h with ⟨k2, e, h⟩ | h
    · have hk2 : k2 < w1.length := (List.getElem?_eq_some_iff.mp h).1
      have h3 : (w1 ++ rest)[k2]? = some (q.1, e) := by rw [List.getElem?_append_left hk2]; exact h
      have := hD.1 _ _ _ _ h2 h3 rfl
      omega
    · omega
  have hPm := va_P_mem.mp hP
  have hDp := va_D_pw.mp hD
  have hD1p := va_D_pw.mp hD1
  rw [List.pairwise_append] at hDp
  refine ⟨va_P_mem.mpr fun q hq => ?_, va_D_pw.mpr ⟨List.pairwise_append.mpr ⟨hD1p.1, hDp.1.2.1, fun x hx y hy he => ?_⟩, fun q hq => ?_⟩⟩
  · rcases List.mem_append.mp hq with h | h
    · exact va_P_mem.mp hP1 q h
    · obtain ⟨g1, g2⟩ := apart q h
      exact (hPm q (List.mem_append_right _ h)).kept (hk q.1 g1 g2)
  · refine (apart y hy).2 ?_
    rw [← he]
    exact hD1p.2 x hx
  · rcases List.mem_append.mp hq with h | h
    · exact hF _ (hD1p.2 q h)
    · exact hDp.2 q (List.mem_append_right _ h)
theorem va_Dl {A0 : Nat → Prop} {w1 rest : va_W} (hD : va_D A0 (w1 ++ rest)) : va_D A0 w1 := by
  have h := va_D_pw.mp hD
  exact va_D_pw.mpr ⟨(List.pairwise_append.mp h.1).1, fun q hq => h.2 q (List.mem_append_left _ hq)⟩
theorem va_Pl {D : va_G} {cl : List vw_C} {w1 rest : va_W} {H : Heap} (hP : va_P D cl (w1 ++ rest) H) : va_P D cl w1 H :=
  va_P_mem.mpr fun q hq => va_P_mem.mp hP q (List.mem_append_left _ hq)
theorem va_Fl {A0 : Nat → Prop} {w1 rest : va_W} {s : State} {H : Heap} {locs : List Loc} (hD : va_D A0 (w1 ++ rest)) (hS : va_S A0 s.heap H locs) (hA : ∀ q, s.heap.size ≤ q → A0 q) : ∀ q, va_A w1 H.size q → A0 q := by
  intro q h
  rcases h with ⟨j, e9, h⟩ | h
  · exact (va_D_pw.mp hD).2 (q, e9) (List.mem_append_left _ (List.mem_of_getElem? h))
  · exact hA q (Nat.le_trans hS.1 h)
section JROWS2
variable {E : Ev} {x : Cx} {cc : ByteArray} {own : String} {rm0 : Room} {nL0 k n : Nat} {w : va_W} {pc : Nat} {lv : List (Nat × Value)} {st : List Value}
theorem J_perm {w1 : va_W} (hp : w.Perm w1) (k1 : J E x k n w1 pc lv st) : J E x k n w pc lv st := by
  obtain ⟨l, D, cy⟩ := E
  obtain ⟨p, e, R, s, m, args, below, meth, c, A, nL, Q⟩ := x
  intro H locs ls hP hD hS hv
  exact k1 H locs ls (va_P_perm hp hP) (va_D_perm hp hD) hS hv
theorem J_subw {w1 : va_W} (is : List Nat) (hn : va_nd is = true) (hs : is.map (fun i => w[i]?) = w1.map some) (k1 : J E x k n w1 pc lv st) : J E x k n w pc lv st := by
  obtain ⟨l, D, cy⟩ := E
  obtain ⟨p, e, R, s, m, args, below, meth, c, A, nL, Q⟩ := x
  intro H locs ls hP hD hS hv
  have hD1 := hD.sub is hn hs
  have hP1 : va_P D vwCl w1 H := by
    intro j q hq
    have h1 : (is.map (fun i => w[i]?))[j]? = some (some q) := by rw [hs, List.getElem?_map, hq]; rfl
    rw [List.getElem?_map] at h1
    cases hi : is[j]? with
    | none => rw [hi] at h1; cases h1
    | some i => rw [hi] at h1; exact hP i q (Option.some.inj h1)
  exact k1 H locs ls hP1 hD1 hS hv
theorem J_widen {k2 n2 : Nat} (h1 : k ≤ k2) (h2 : n ≤ n2) (k1 : J E x k2 n2 w pc lv st) : J E x k n w pc lv st := by
  obtain ⟨l, D, cy⟩ := E
  obtain ⟨p, e, R, s, m, args, below, meth, c, A, nL, Q⟩ := x
  intro H locs ls hP hD hS hv
  exact W.widen h1 h2 (k1 H locs ls hP hD hS hv)
theorem J_new (X : Ok E x cc own rm0 nL0) {C : String} {T : u_T} {N ci idx : Nat} {fs : List Value} (hin : ∀ z ∈ u_ws C T N, z ∈ GW) (ty : Nat → FieldType) (hty : ∀ j, j < N → parseFieldDescriptor (T j).2.2.1 = some (ty j)) (hcl : Cond.classLink own idx C ∈ GW) (hinst : Cond.instantiable C N ∈ GW) (hini : Cond.initialized C ∈ GW) (hc : vwCl[ci]? = some (C, T, N)) (hfs : ∀ j, j < N → defaultValue (ty j) = vp_V fs j) (hcells : k + 1 ≤ rm0.cells) (hslots : n + N ≤ rm0.slots) (hdg : decode cc pc = .ok (.new idx, 3)) (k1 : ∀ q : Nat, J E x (k + 1) (n + N) (w ++ [(q, .inr (ci, fs))]) (pc + 3) lv (.ref q :: st)) : J E x k n w pc lv st := by
  obtain ⟨l, D, cy⟩ := E
  obtain ⟨p, e, R, s, m, args, below, meth, c, A, nL, Q⟩ := x
  obtain ⟨hx, hb, hml, hown, hG, hK, hN, hA, hR, hnl⟩ := X
  intro H locs ls hP hD hS hv
  subst hR
  exact va_new hx hb hG hin ty hty hown (hG _ hcl) (hG _ hinst) (hG _ hini) hK hP hD hS hA hc hfs hcells hslots hdg (fun q H1 hP hD hS => k1 q H1 locs ls hP hD hS hv)
theorem J_newa (X : Ok E x cc own rm0 nL0) {atype : ArrayType} {ty : FieldType} {i : Int32} {N t0 : Nat} {a0 : vp_A} {cA0 : ClassId} (harr : Cond.arrayClass (newarray.typeOf atype) ∈ GW) (hty : newarray.typeOf atype = ty) (ht : (tyL E.2.2)[t0]? = some (cA0, ty)) (hcls : ∀ (U : State) (cA : ClassId), va_RA U cA0 ty → va_RA U cA ty → cA = cA0) (ha : ∀ cA : ClassId, vp_cell cA a0 = arrV cA N (fun _ => defaultValue ty)) (hn0 : ¬ i < 0) (hN0 : i.toNatClampNeg = N) (hbytes : N * componentBytes ty ≤ 536870912) (hcells : k + 1 ≤ rm0.cells) (hslots : n + N ≤ rm0.slots) (hdg : decode cc pc = .ok (.newarray atype, 2)) (k1 : ∀ q : Nat, J E x (k + 1) (n + N) (w ++ [(q, .inl (cA0, a0))]) (pc + 2) lv (.ref q :: st)) : J E x k n w pc lv (.int i :: st) := by
  obtain ⟨l, D, cy⟩ := E
  obtain ⟨p, e, R, s, m, args, below, meth, c, A, nL, Q⟩ := x
  obtain ⟨hx, hb, hml, hown, hG, hK, hN, hA, hR, hnl⟩ := X
  intro H locs ls hP hD hS hv
  subst hR
  refine va_newa hx hb (hG _ harr) hty hK hP hD hS hA ha hn0 hN0 hbytes hcells hslots hdg (fun q cA H1 hK2 hP hD hS => ?_)
  have e1 := (hK2.2 (tyL cy).length (cA, ty) (by rw [List.getElem?_append_right (Nat.le_refl _), Nat.sub_self]; rfl)).2
  have e0 := (hK.2 t0 (cA0, ty) ht).2
  cases hcls s cA e0 e1
  exact k1 q H1 locs ls hP hD hS hv
theorem J_putfF (X : Ok E x cc own rm0 nL0) (hin2 : x.2.2.2.2.2.2.2.1.name = "<init>") {a : Nat} {C : String} {T : u_T} {N ci idx : Nat} {fs : List Value} {v : Value} {ty : FieldType} {w1 : va_W} (q0 : Nat) (he : w[q0]? = some (a, .inr (ci, fs))) (hc : vwCl[ci]? = some (C, T, N)) (hin : ∀ z ∈ u_ws C T N, z ∈ GW) {ty0 : Nat → FieldType} (hty : ∀ i, i < N → parseFieldDescriptor (T i).2.2.1 = some (ty0 i)) (hnm : ∀ i, i < N → ∀ i2, i2 < N → i ≠ i2 → (T i).2.1 ≠ (T i2).2.1) (j : Nat) (hj : j < N) (hw : Cond.fieldLink own idx (T j).1 (T j).2.1 (T j).2.2.1 ∈ GW) (hfin : (T j).2.2.2 = true) (hdecl : (T j).1 = own) (hd : parseFieldDescriptor (T j).2.2.1 = some ty) (hn0 : narrow ty v = v) (hfit : fits ty v = true) (hl : j < fs.length) (hdg : decode cc pc = .ok (.putfield idx, 3)) (e1 : w.set q0 (a, .inr (ci, fs.set j v)) = w1) (k1 : J E x k n w1 (pc + 3) lv st) : J E x k n w pc lv (v :: .ref a :: st) := by
  obtain ⟨l, D, cy⟩ := E
  obtain ⟨p, e, R, s, m, args, below, meth, c, A, nL, Q⟩ := x
  obtain ⟨hx, hb, hml, hown, hG, hK, hN, hA, hR, hnl⟩ := X
  intro H locs ls hP hD hS hv
  subst e1
  exact va_putF hx hb hG hin ty0 hty hnm hown hK hP hD hS q0 he hc j hj (hG _ hw) (fun _ h9 => h9) hfin hin2 hdecl hd hn0 hfit hl hdg (fun H1 locs1 hP hD hS => k1 H1 locs1 ls hP hD hS hv)
theorem J_objInit (X : Ok E x cc own rm0 nL0) {idx a : Nat} (h1 : Cond.methodLink own idx objectInit ∈ GW) (h2 : Cond.instanceMethod objectInit ∈ GW) (h3 : Cond.code objectInit ⟨#[0xb1]⟩ 1 none ∈ GW) (hf : 1 ≤ rm0.frames) (hlo : (st.map fun v => v.category).sum + 12 ≤ rm0.locals) (hdg : decode cc pc = .ok (.invokespecial idx, 3)) (k1 : J E x k n w (pc + 3) lv st) : J E x k n w pc lv (.ref a :: st) := by
  obtain ⟨l, D, cy⟩ := E
  obtain ⟨p, e, R, s, m, args, below, meth, c, A, nL, Q⟩ := x
  obtain ⟨hx, hb, hml, hown, hG, hK, hN, hA, hR, hnl⟩ := X
  intro H locs ls hP hD hS hv
  subst hR
  refine W.objInit hx hb hown (hG _ h1) (hG _ h2) (hG _ h3) rfl (by rw [hml]; exact hv.1) rfl hdg hf (by show 2 * 0 + _ + 12 ≤ _; omega) ?_
  exact k1 H locs ls hP hD hS hv
end JROWS2
def rmA (f lo mc ms : Nat) : Room := { frames := f, cells := mc, slots := ms, locals := lo }
/-- a constructor: its world afterwards is B u, for some u of which 'post' holds -/
def CtC (E : Ev) (y : MethodName) (b : ByteArray) (nl f lo mc ms : Nat) (w : va_W) (av : List Value) {U : Type} (post : U → Prop) (B : U → va_W) : Prop := ∀ sz, Met E.1 y (.code y b nl none :: GW) (rmA f lo mc ms) (Pre0 E sz w av) (va_Qv post (fun u t => End0 E sz w (B u) t) (va_A w sz)) mc ms (va_A w sz)
theorem CtC_of {E : Ev} {y : MethodName} {b : ByteArray} {nl f lo mc ms : Nat} {w : va_W} {av : List Value} {U : Type} {post : U → Prop} {B : U → va_W} (hy : plainFor y = true) (hle : (lg_sl av).length ≤ nl) (hyi : y.name = "<init>") (body : ∀ x : Cx, Ok E x b y.cls (rmA f lo mc ms) nl → x.2.2.2.2.2.2.2.1.name = "<init>" → (∀ u, post u → ∀ pc lv, decode b pc = .ok (.return_, 1) → J E x mc ms (B u) pc lv []) → J E x 0 0 w 0 (lv_args 0 av) []) : CtC E y b nl f lo mc ms w av post B := by
  obtain ⟨l, D, cy⟩ := E
  intro sz
  refine Met_ofW2 (cc := b) (maxL := nl) (ret := none) hy rfl ?_
  intro p e s m args below meth c s₁ B0 hml hv
  obtain ⟨rfl, hsz, hP, hK, hN, hD0⟩ := hv
  have hx := B0.exec
  have hb := B0.bytes
  have hr := B0.returns
  have hts := GW_cons (atoms_spec (ws := .code y b nl none :: GW) B0.pre)
  have hown : s.vm.findClass y.cls = some m.cls := findClass_of_methodNamed B0.named
  have hlocks := B0.notSynchronized
  have hin : meth.name = "<init>" := (name_of_methodNamed B0.named B0.method).1.trans hyi
  subst hsz
  have hD := hD0.self (sz := s.heap.size)
  have hl := lv_entry av (n := nl) hle
  rw [lg_entry_eq]
  have hB := body (p, e, rmA f lo mc ms, s, m, av.toArray, below, meth, c, va_A w s.heap.size, nl, MQ below (va_Qv post (fun u t => End0 (l, D, cy) s.heap.size w (B u) t) (va_A w s.heap.size)) av.toArray s mc ms (va_A w s.heap.size)) ⟨hx, hb, hml, hown, hts, hK, hN, fun q h => Or.inr h, rfl, rfl⟩ hin (fun u hu pc lv hdg H locs ls hP hD hS hv => ?_)
  · exact hB s.heap [] _ hP hD va_S.rf hl
  · exact W.vret hx hb hr (fun t ht hW => ⟨⟨u, rfl, hu, by rw [ht]; exact hP, hD⟩, hS.F ht⟩) hS.2.2 hdg
theorem J_callCI {E : Ev} {x : Cx} {cc : ByteArray} {own : String} {f0 lo0 mc0 ms0 nL0 k n : Nat} {w1 rw : va_W} {pc : Nat} {lv : List (Nat × Value)} {st rest : List Value} (X : Ok E x cc own (rmA f0 lo0 mc0 ms0) nL0) {y : MethodName} {b : ByteArray} {nl f lo mc ms idx a : Nat} {As : List Value} {U : Type} {post : U → Prop} {B : U → va_W} (hM : CtC E y b nl f lo mc ms w1 (.ref a :: As) post B) (h1 : Cond.methodLink own idx y ∈ GW) (h2 : Cond.instanceMethod y ∈ GW) (h4 : Cond.initialized y.cls ∈ GW) (h5 : Cond.code y b nl none ∈ GW) (hy1 : y.name = "<init>") {na : Nat} (hna : As.length = na) (hd : y.cls ≠ "java/lang/invoke/MethodHandle" ∧ y.cls ≠ "java/lang/invoke/VarHandle" ∧ (parseMethodDescriptor y.desc).map (fun d => d.parameters.length) = some na) (hf : f + 1 ≤ f0 ∧ 8 + (nl + 11) + lo ≤ lo0) (hst : st = As.reverse ++ .ref a :: rest) (hW : (rest.map fun v => v.category).sum ≤ 8) (hkn : k + mc ≤ mc0 ∧ n + ms ≤ ms0) (hdg : decode cc pc = .ok (.invokespecial idx, 3)) (k1 : ∀ u, post u → J E x (k + mc) (n + ms) (B u ++ rw) (pc + 3) lv rest) : J E x k n (w1 ++ rw) pc lv st := by
  obtain ⟨l, D, cy⟩ := E
  obtain ⟨p, e, R, s, m, args, below, meth, c, A, nL, Q⟩ := x
  obtain ⟨hx, hb, hml, hown, hG, hK, hN, hA, hR, hnl⟩ := X
  intro H locs ls hP hD hS hv
  subst hst
  subst hR
  subst hnl
  have hF := va_Fl hD hS hA
  refine va_callv (va_runI (As := As) (rest := rest) (b := a) (n := na) (cc := cc) (nL := nL) (Ts := GW) (own := own) (index := idx) ⟨hx, hb, hml, hown, hG⟩ (hM H.size) (cwI na hG (GW_good h5) rfl rfl rfl (hG _ h4) (hG _ h1) (hG _ h2) hy1 hd ⟨hf.1, hf.2⟩) ⟨Pre0_blind, fun U0 hU hW9 => ⟨rfl, by rw [hU], by rw [hU]; exact va_Pl hP, va_K.moved hW9.alike hK, NW_warm hW9 hN, (va_Dl hD).weaken (fun _ _ _ _ => trivial)⟩⟩ rfl hna hv.1 rfl (lv_room hW) hdg ⟨hkn.1, hkn.2⟩) hS (fun q _ h => hF q h) hF (fun u t H1 locs1 ht hvm hw hB hz1 hk1 hS => ?_)
  obtain ⟨hP1, hD1⟩ := hB
  rw [ht] at hP1
  obtain ⟨hP2, hD2⟩ := va_frm hP hD hF hk1 hP1 hD1
  exact k1 u hw H1 locs1 ls hP2 hD2 hS hv
theorem J_callCIN {E : Ev} {x : Cx} {cc : ByteArray} {own : String} {f0 lo0 mc0 ms0 nL0 k n : Nat} {w1 rw : va_W} {pc : Nat} {lv : List (Nat × Value)} {st rest : List Value} (X : Ok E x cc own (rmA f0 lo0 mc0 ms0) nL0) {y : MethodName} {b : ByteArray} {nl f lo mc ms idx a : Nat} {As : List Value} {U : Type} {post : U → Prop} {B : U → va_W} (hM : CtC E y b nl f lo mc ms w1 (.ref a :: As) post B) {host : String} (h1 : Cond.methodLinkNest own idx y host ∈ NW) (h2 : Cond.instanceMethod y ∈ GW) (h4 : Cond.initialized y.cls ∈ GW) (h5 : Cond.code y b nl none ∈ GW) (hy1 : y.name = "<init>") {na : Nat} (hna : As.length = na) (hd : y.cls ≠ "java/lang/invoke/MethodHandle" ∧ y.cls ≠ "java/lang/invoke/VarHandle" ∧ (parseMethodDescriptor y.desc).map (fun d => d.parameters.length) = some na) (hf : f + 1 ≤ f0 ∧ 8 + (nl + 11) + lo ≤ lo0) (hst : st = As.reverse ++ .ref a :: rest) (hW : (rest.map fun v => v.category).sum ≤ 8) (hkn : k + mc ≤ mc0 ∧ n + ms ≤ ms0) (hdg : decode cc pc = .ok (.invokespecial idx, 3)) (k1 : ∀ u, post u → J E x (k + mc) (n + ms) (B u ++ rw) (pc + 3) lv rest) : J E x k n (w1 ++ rw) pc lv st := by
  obtain ⟨l, D, cy⟩ := E
  obtain ⟨p, e, R, s, m, args, below, meth, c, A, nL, Q⟩ := x
  obtain ⟨hx, hb, hml, hown, hG, hK, hN, hA, hR, hnl⟩ := X
  intro H locs ls hP hD hS hv
  subst hst
  subst hR
  subst hnl
  have hF := va_Fl hD hS hA
  refine va_callv (va_runIN (As := As) (rest := rest) (b := a) (n := na) (cc := cc) (nL := nL) (Ts := GW) (own := own) (index := idx) ⟨hx, hb, hml, hown, hG⟩ (hM H.size) ⟨va_cnB na hG (GW_good h5) rfl rfl rfl (hN _ h1) (hG _ h4) hd ⟨hf.1, hf.2⟩, hy1, hG _ h2⟩ ⟨Pre0_blind, fun U0 hU hW9 => ⟨rfl, by rw [hU], by rw [hU]; exact va_Pl hP, va_K.moved hW9.alike hK, NW_warm hW9 hN, (va_Dl hD).weaken (fun _ _ _ _ => trivial)⟩⟩ rfl hna hv.1 rfl (lv_room hW) hdg ⟨hkn.1, hkn.2⟩) hS (fun q _ h => hF q h) hF (fun u t H1 locs1 ht hvm hw hB hz1 hk1 hS => ?_)
  obtain ⟨hP1, hD1⟩ := hB
  rw [ht] at hP1
  obtain ⟨hP2, hD2⟩ := va_frm hP hD hF hk1 hP1 hD1
  exact k1 u hw H1 locs1 ls hP2 hD2 hS hv
