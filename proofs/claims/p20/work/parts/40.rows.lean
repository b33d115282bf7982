/-! Rows for the law of p20: missing instructions, the law's arrays beside the object, contracts of the law's own methods -/
section PROWS
variable {E : Ev} {x : Cx} {cc : ByteArray} {own : String} {rm0 : Room} {nL0 k n : Nat} {w : va_W} {pc : Nat} {lv : List (Nat × Value)} {st : List Value}
theorem J_land (X : Ok E x cc own rm0 nL0) {u v : Int64} (hdg : decode cc pc = .ok (.land, 1)) (k1 : J E x k n w (pc + 1) lv (.long (u &&& v) :: st)) : J E x k n w pc lv (.long v :: .long u :: st) := by
  obtain ⟨l, D, cy⟩ := E
  obtain ⟨p, e, R, s, m, args, below, meth, c, A, nL, Q⟩ := x
  obtain ⟨hx, hb, hml, hown, hG, hK, hN, hA, hR, hnl⟩ := X
  intro H locs ls hP hD hS hv
  exact lv_land hx hb hdg (k1 H locs ls hP hD hS hv)
theorem J_lor (X : Ok E x cc own rm0 nL0) {u v : Int64} (hdg : decode cc pc = .ok (.lor, 1)) (k1 : J E x k n w (pc + 1) lv (.long (u ||| v) :: st)) : J E x k n w pc lv (.long v :: .long u :: st) := by
  obtain ⟨l, D, cy⟩ := E
  obtain ⟨p, e, R, s, m, args, below, meth, c, A, nL, Q⟩ := x
  obtain ⟨hx, hb, hml, hown, hG, hK, hN, hA, hR, hnl⟩ := X
  intro H locs ls hP hD hS hv
  exact lv_lor hx hb hdg (k1 H locs ls hP hD hS hv)
theorem J_ior (X : Ok E x cc own rm0 nL0) {u v : Int32} (hdg : decode cc pc = .ok (.ior, 1)) (k1 : J E x k n w (pc + 1) lv (.int (u ||| v) :: st)) : J E x k n w pc lv (.int v :: .int u :: st) := by
  obtain ⟨l, D, cy⟩ := E
  obtain ⟨p, e, R, s, m, args, below, meth, c, A, nL, Q⟩ := x
  obtain ⟨hx, hb, hml, hown, hG, hK, hN, hA, hR, hnl⟩ := X
  intro H locs ls hP hD hS hv
  exact lv_ior hx hb hdg (k1 H locs ls hP hD hS hv)
theorem J_ishl (X : Ok E x cc own rm0 nL0) {u v : Int32} (hdg : decode cc pc = .ok (.ishl, 1)) (k1 : J E x k n w (pc + 1) lv (.int (u <<< (v &&& 31)) :: st)) : J E x k n w pc lv (.int v :: .int u :: st) := by
  obtain ⟨l, D, cy⟩ := E
  obtain ⟨p, e, R, s, m, args, below, meth, c, A, nL, Q⟩ := x
  obtain ⟨hx, hb, hml, hown, hG, hK, hN, hA, hR, hnl⟩ := X
  intro H locs ls hP hD hS hv
  exact lv_ishl hx hb hdg (k1 H locs ls hP hD hS hv)
theorem J_lshl (X : Ok E x cc own rm0 nL0) {u : Int64} {v : Int32} (hdg : decode cc pc = .ok (.lshl, 1)) (k1 : J E x k n w (pc + 1) lv (.long (u <<< (v.toInt64 &&& 63)) :: st)) : J E x k n w pc lv (.int v :: .long u :: st) := by
  obtain ⟨l, D, cy⟩ := E
  obtain ⟨p, e, R, s, m, args, below, meth, c, A, nL, Q⟩ := x
  obtain ⟨hx, hb, hml, hown, hG, hK, hN, hA, hR, hnl⟩ := X
  intro H locs ls hP hD hS hv
  exact lv_lshl hx hb hdg rfl (k1 H locs ls hP hD hS hv)
theorem J_lshr (X : Ok E x cc own rm0 nL0) {u : Int64} {v : Int32} (hdg : decode cc pc = .ok (.lshr, 1)) (k1 : J E x k n w (pc + 1) lv (.long (u >>> (v.toInt64 &&& 63)) :: st)) : J E x k n w pc lv (.int v :: .long u :: st) := by
  obtain ⟨l, D, cy⟩ := E
  obtain ⟨p, e, R, s, m, args, below, meth, c, A, nL, Q⟩ := x
  obtain ⟨hx, hb, hml, hown, hG, hK, hN, hA, hR, hnl⟩ := X
  intro H locs ls hP hD hS hv
  exact lv_lshr hx hb hdg rfl (k1 H locs ls hP hD hS hv)
theorem J_lneg (X : Ok E x cc own rm0 nL0) {u : Int64} (hdg : decode cc pc = .ok (.lneg, 1)) (k1 : J E x k n w (pc + 1) lv (.long (-u) :: st)) : J E x k n w pc lv (.long u :: st) := by
  obtain ⟨l, D, cy⟩ := E
  obtain ⟨p, e, R, s, m, args, below, meth, c, A, nL, Q⟩ := x
  obtain ⟨hx, hb, hml, hown, hG, hK, hN, hA, hR, hnl⟩ := X
  intro H locs ls hP hD hS hv
  exact lv_lneg hx hb hdg (k1 H locs ls hP hD hS hv)
end PROWS
abbrev LW : Type := (Nat → Int64) × (Nat → Int64) × (Nat → Int32) × (Nat → Int32)
def sY (L : LW) (i : Nat) (v : Int64) : LW := (vp_updL L.1 i v, L.2)
def sC (L : LW) (i : Nat) (v : Int64) : LW := (L.1, vp_updL L.2.1 i v, L.2.2)
def sG (L : LW) (i : Nat) (v : Int32) : LW := (L.1, L.2.1, upd L.2.2.1 i v, L.2.2.2)
def sM (L : LW) (i : Nat) (v : Int32) : LW := (L.1, L.2.1, L.2.2.1, upd L.2.2.2 i v)
def lwW (E : Ev) (al : Nat → Nat) (L : LW) : va_W := [(al 0, .inl (E.2.2 3, 36, .inr (.inl L.1))), (al 1, .inl (E.2.2 3, 60, .inr (.inl L.2.1))), (al 2, .inl (E.2.2 0, 24, .inl L.2.2.1)), (al 3, .inl (E.2.2 0, 1, .inl L.2.2.2))]
def pw (E : Ev) (al : Nat → Nat) (ad : CA) (L : LW) (T : TS) : va_W := lwW E al L ++ cW E ad T
section PWROWS
variable {E : Ev} {al : Nat → Nat} {ad : CA} {L L2 : LW} {T : TS}
theorem pw_c0 : (pw E al ad L T)[0]? = some (al 0, .inl (E.2.2 3, 36, .inr (.inl L.1))) := rfl
theorem pw_c1 : (pw E al ad L T)[1]? = some (al 1, .inl (E.2.2 3, 60, .inr (.inl L.2.1))) := rfl
theorem pw_c2 : (pw E al ad L T)[2]? = some (al 2, .inl (E.2.2 0, 24, .inl L.2.2.1)) := rfl
theorem pw_c3 : (pw E al ad L T)[3]? = some (al 3, .inl (E.2.2 0, 1, .inl L.2.2.2)) := rfl
theorem pw_s0 {i : Nat} {v : Int64} (e : L2 = sY L i v) : (pw E al ad L T).set 0 (al 0, .inl (E.2.2 3, 36, .inr (.inl (vp_updL L.1 i v)))) = pw E al ad L2 T := by subst e; rfl
theorem pw_s1 {i : Nat} {v : Int64} (e : L2 = sC L i v) : (pw E al ad L T).set 1 (al 1, .inl (E.2.2 3, 60, .inr (.inl (vp_updL L.2.1 i v)))) = pw E al ad L2 T := by subst e; rfl
theorem pw_s2 {i : Nat} {v : Int32} (e : L2 = sG L i v) : (pw E al ad L T).set 2 (al 2, .inl (E.2.2 0, 24, .inl (upd L.2.2.1 i v))) = pw E al ad L2 T := by subst e; rfl
theorem pw_s3 {i : Nat} {v : Int32} (e : L2 = sM L i v) : (pw E al ad L T).set 3 (al 3, .inl (E.2.2 0, 1, .inl (upd L.2.2.2 i v))) = pw E al ad L2 T := by subst e; rfl
theorem pw_pm : (pw E al ad L T).Perm (cW E ad T ++ lwW E al L) := List.perm_append_comm
theorem pw_pm2 : (cW E ad T ++ lwW E al L).Perm (pw E al ad L T) := List.perm_append_comm
end PWROWS
def CtN (E : Ev) (y : MethodName) (b : ByteArray) (nl : Nat) (rt : FieldType) (f lo mc ms : Nat) (w : va_W) (av : List Value) (r : Int32) {U : Type} (post : U → Prop) (B : U → va_W) : Prop := ∀ sz, Met E.1 y (.code y b nl (some rt) :: GW) (rmA f lo mc ms) (PreN E sz w av) (va_Qi (fun (r2 : Int32) (u : U) => r2 = r ∧ post u) (fun u t => End0 E sz w (B u) t) (va_A w sz)) mc ms (va_A w sz)
theorem CtN_of {E : Ev} {y : MethodName} {b : ByteArray} {nl f lo mc ms : Nat} {rt : FieldType} {w : va_W} {av : List Value} {U : Type} {r : Int32} {post : U → Prop} {B : U → va_W} (hy : plainFor y = true) (hle : (lg_sl av).length ≤ nl) (body : ∀ x : Cx, Ok E x b y.cls (rmA f lo mc ms) nl → OkX E x → OkN x → (∀ u, post u → ∀ pc lv, decode b pc = .ok (.ireturn, 1) → narrow rt (.int r) = .int r → J E x mc ms (B u) pc lv [.int r]) → J E x 0 0 w 0 (lv_args 0 av) []) : CtN E y b nl rt f lo mc ms w av r post B := by
  obtain ⟨l, D, cy⟩ := E
  intro sz
  refine Met_ofW2 (cc := b) (maxL := nl) (ret := (some rt)) hy rfl ?_
  intro p e s m args below meth c s₁ B0 hml hv
  obtain ⟨rfl, ⟨hsz, hP, hK, hN, hD0, hX⟩, hC⟩ := hv
  have hx := B0.exec
  have hb := B0.bytes
  have hr := B0.returns
  have hts := GW_cons (atoms_spec (ws := .code y b nl (some rt) :: GW) B0.pre)
  have hown : s.vm.findClass y.cls = some m.cls := findClass_of_methodNamed B0.named
  have hlocks := B0.notSynchronized
  subst hsz
  have hD := hD0.self (sz := s.heap.size)
  have hl := lv_entry av (n := nl) hle
  rw [lg_entry_eq]
  have hB := body (p, e, rmA f lo mc ms, s, m, av.toArray, below, meth, c, va_A w s.heap.size, nl, MQ below (va_Qi (fun (r2 : Int32) (u : U) => r2 = r ∧ post u) (fun u t => End0 (l, D, cy) s.heap.size w (B u) t) (va_A w s.heap.size)) av.toArray s mc ms (va_A w s.heap.size)) ⟨hx, hb, hml, hown, hts, hK, hN, fun q h => Or.inr h, rfl, rfl⟩ hX hC (fun u hu pc lv hdg hrt H locs ls hP hD hS hv => ?_)
  · exact hB s.heap [] _ hP hD va_S.rf hl
  · exact W.zret (v := r) hx hb hr hrt (fun t ht hW => ⟨⟨r, u, rfl, ⟨rfl, hu⟩, by rw [ht]; exact hP, hD⟩, hS.F ht⟩) hS.2.2 hdg
theorem J_callN {E : Ev} {x : Cx} {cc : ByteArray} {own : String} {rm0 : Room} {nL0 k n : Nat} {w : va_W} {pc : Nat} {lv : List (Nat × Value)} {st rest : List Value} (X : Ok E x cc own rm0 nL0) (XX : OkX E x) (XN : OkN x) {y : MethodName} {b : ByteArray} {nl f lo mc ms idx : Nat} {rt : FieldType} {r : Int32} {U : Type} {post : U → Prop} {B : U → va_W} {As : List Value} (hM : CtN E y b nl rt f lo mc ms w As r post B) (h1 : Cond.methodLink own idx y ∈ GW) (h2 : Cond.static y ∈ GW) (h4 : Cond.initialized y.cls ∈ GW) (h5 : Cond.code y b nl (some rt) ∈ GW) {na : Nat} (hna : As.length = na) (hd : y.cls ≠ "java/lang/invoke/MethodHandle" ∧ y.cls ≠ "java/lang/invoke/VarHandle" ∧ (parseMethodDescriptor y.desc).map (fun d => d.parameters.length) = some na) (hf : f + 1 ≤ rm0.frames ∧ 8 + (nl + 11) + lo ≤ rm0.locals) (hst : st = As.reverse ++ rest) (hW : (rest.map fun v => v.category).sum ≤ 8) (hkn : k + mc ≤ rm0.cells ∧ n + ms ≤ rm0.slots) (hdg : decode cc pc = .ok (.invokestatic idx, 3)) (k1 : ∀ u, post u → J E x (k + mc) (n + ms) (B u) (pc + 3) lv (.int r :: rest)) : J E x k n w pc lv st := by
  obtain ⟨l, D, cy⟩ := E
  obtain ⟨p, e, R, s, m, args, below, meth, c, A, nL, Q⟩ := x
  obtain ⟨hx, hb, hml, hown, hG, hK, hN, hA, hR, hnl⟩ := X
  intro H locs ls hP hD hS hv
  subst hst
  subst hR
  subst hnl
  have hF : ∀ q, va_A w H.size q → A q := fun q h => by
    rcases h with ⟨j, e9, h⟩ | h
    · exact hD.2 j (q, e9) h
    · exact hA q (Nat.le_trans hS.1 h)
  refine va_calli (va_runS (As := As) (rest := rest) (n := na) (cc := cc) (nL := nL) (Ts := GW) (own := own) (index := idx) ⟨hx, hb, hml, hown, hG⟩ (hM H.size) ⟨callB_of na hG (GW_good h5) rfl rfl rfl (hG _ h4) (hG _ h1) hd ⟨hf.1, hf.2⟩, hG _ h2⟩ ⟨PreN_blind, fun U0 hU hW9 => ⟨rfl, ⟨by rw [hU], by rw [hU]; exact hP, va_K.moved hW9.alike hK, NW_warm hW9 hN, hD.weaken (fun _ _ _ _ => trivial), XK.go XX hS hF hW9 hU⟩, NcS.moved hW9.alike XN⟩⟩ rfl hna hv.1 rfl (lv_room hW) hdg ⟨hkn.1, hkn.2⟩) hS (fun q _ h => hF q h) hF (fun r2 u t H1 locs1 ht hvm hw hB hz1 hk1 hS => ?_)
  obtain ⟨rfl, hw⟩ := hw
  obtain ⟨hP1, hD1⟩ := hB
  rw [ht] at hP1
  exact k1 u hw H1 locs1 ls hP1 (hD1.weaken (fun _ q _ h9 => hF q.1 h9)) hS hv
def CtNL (E : Ev) (y : MethodName) (b : ByteArray) (nl : Nat) (f lo mc ms : Nat) (w : va_W) (av : List Value) (r : Int64) {U : Type} (post : U → Prop) (B : U → va_W) : Prop := ∀ sz, Met E.1 y (.code y b nl (some .long) :: GW) (rmA f lo mc ms) (PreN E sz w av) (va_Ql (fun (r2 : Int64) (u : U) => r2 = r ∧ post u) (fun u t => End0 E sz w (B u) t) (va_A w sz)) mc ms (va_A w sz)
theorem CtNL_of {E : Ev} {y : MethodName} {b : ByteArray} {nl f lo mc ms : Nat}  {w : va_W} {av : List Value} {U : Type} {r : Int64} {post : U → Prop} {B : U → va_W} (hy : plainFor y = true) (hle : (lg_sl av).length ≤ nl) (body : ∀ x : Cx, Ok E x b y.cls (rmA f lo mc ms) nl → OkX E x → OkN x → (∀ u, post u → ∀ pc lv, decode b pc = .ok (.lreturn, 1) → J E x mc ms (B u) pc lv [.long r]) → J E x 0 0 w 0 (lv_args 0 av) []) : CtNL E y b nl f lo mc ms w av r post B := by
  obtain ⟨l, D, cy⟩ := E
  intro sz
  refine Met_ofW2 (cc := b) (maxL := nl) (ret := (some .long)) hy rfl ?_
  intro p e s m args below meth c s₁ B0 hml hv
  obtain ⟨rfl, ⟨hsz, hP, hK, hN, hD0, hX⟩, hC⟩ := hv
  have hx := B0.exec
  have hb := B0.bytes
  have hr := B0.returns
  have hts := GW_cons (atoms_spec (ws := .code y b nl (some .long) :: GW) B0.pre)
  have hown : s.vm.findClass y.cls = some m.cls := findClass_of_methodNamed B0.named
  have hlocks := B0.notSynchronized
  subst hsz
  have hD := hD0.self (sz := s.heap.size)
  have hl := lv_entry av (n := nl) hle
  rw [lg_entry_eq]
  have hB := body (p, e, rmA f lo mc ms, s, m, av.toArray, below, meth, c, va_A w s.heap.size, nl, MQ below (va_Ql (fun (r2 : Int64) (u : U) => r2 = r ∧ post u) (fun u t => End0 (l, D, cy) s.heap.size w (B u) t) (va_A w s.heap.size)) av.toArray s mc ms (va_A w s.heap.size)) ⟨hx, hb, hml, hown, hts, hK, hN, fun q h => Or.inr h, rfl, rfl⟩ hX hC (fun u hu pc lv hdg H locs ls hP hD hS hv => ?_)
  · exact hB s.heap [] _ hP hD va_S.rf hl
  · exact W.lret (v := r) hx hb hr (fun t ht hW => ⟨⟨r, u, rfl, ⟨rfl, hu⟩, by rw [ht]; exact hP, hD⟩, hS.F ht⟩) hS.2.2 hdg
theorem J_callNL {E : Ev} {x : Cx} {cc : ByteArray} {own : String} {rm0 : Room} {nL0 k n : Nat} {w : va_W} {pc : Nat} {lv : List (Nat × Value)} {st rest : List Value} (X : Ok E x cc own rm0 nL0) (XX : OkX E x) (XN : OkN x) {y : MethodName} {b : ByteArray} {nl f lo mc ms idx : Nat}  {r : Int64} {U : Type} {post : U → Prop} {B : U → va_W} {As : List Value} (hM : CtNL E y b nl f lo mc ms w As r post B) (h1 : Cond.methodLink own idx y ∈ GW) (h2 : Cond.static y ∈ GW) (h4 : Cond.initialized y.cls ∈ GW) (h5 : Cond.code y b nl (some .long) ∈ GW) {na : Nat} (hna : As.length = na) (hd : y.cls ≠ "java/lang/invoke/MethodHandle" ∧ y.cls ≠ "java/lang/invoke/VarHandle" ∧ (parseMethodDescriptor y.desc).map (fun d => d.parameters.length) = some na) (hf : f + 1 ≤ rm0.frames ∧ 8 + (nl + 11) + lo ≤ rm0.locals) (hst : st = As.reverse ++ rest) (hW : (rest.map fun v => v.category).sum ≤ 8) (hkn : k + mc ≤ rm0.cells ∧ n + ms ≤ rm0.slots) (hdg : decode cc pc = .ok (.invokestatic idx, 3)) (k1 : ∀ u, post u → J E x (k + mc) (n + ms) (B u) (pc + 3) lv (.long r :: rest)) : J E x k n w pc lv st := by
  obtain ⟨l, D, cy⟩ := E
  obtain ⟨p, e, R, s, m, args, below, meth, c, A, nL, Q⟩ := x
  obtain ⟨hx, hb, hml, hown, hG, hK, hN, hA, hR, hnl⟩ := X
  intro H locs ls hP hD hS hv
  subst hst
  subst hR
  subst hnl
  have hF : ∀ q, va_A w H.size q → A q := fun q h => by
    rcases h with ⟨j, e9, h⟩ | h
    · exact hD.2 j (q, e9) h
    · exact hA q (Nat.le_trans hS.1 h)
  refine va_calll (va_runS (As := As) (rest := rest) (n := na) (cc := cc) (nL := nL) (Ts := GW) (own := own) (index := idx) ⟨hx, hb, hml, hown, hG⟩ (hM H.size) ⟨callB_of na hG (GW_good h5) rfl rfl rfl (hG _ h4) (hG _ h1) hd ⟨hf.1, hf.2⟩, hG _ h2⟩ ⟨PreN_blind, fun U0 hU hW9 => ⟨rfl, ⟨by rw [hU], by rw [hU]; exact hP, va_K.moved hW9.alike hK, NW_warm hW9 hN, hD.weaken (fun _ _ _ _ => trivial), XK.go XX hS hF hW9 hU⟩, NcS.moved hW9.alike XN⟩⟩ rfl hna hv.1 rfl (lv_room hW) hdg ⟨hkn.1, hkn.2⟩) hS (fun q _ h => hF q h) hF (fun r2 u t H1 locs1 ht hvm hw hB hz1 hk1 hS => ?_)
  obtain ⟨rfl, hw⟩ := hw
  obtain ⟨hP1, hD1⟩ := hB
  rw [ht] at hP1
  exact k1 u hw H1 locs1 ls hP1 (hD1.weaken (fun _ q _ h9 => hF q.1 h9)) hS hv
