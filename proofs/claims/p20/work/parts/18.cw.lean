/-! The whole object's world: the object, its list, the list's row, the stores -/
abbrev TS : Type := (Int32 × Int32) × Nat × (Nat → St)
abbrev CA : Type := (Nat → Nat) × (Nat → Nat → Nat)
def rfs (ad : CA) (n : Nat) : Nat → Option Nat := fun j => if j < n then some (ad.2 j 0) else none
def eRef (E : Ev) (ad : CA) (n : Nat) : Nat := if n = 0 then E.2.2 9 else ad.1 2
def cAr (E : Ev) (ad : CA) (n : Nat) : va_W := if n = 0 then [] else [(ad.1 2, .inl (E.2.2 2, 10, .inr (.inr (.inr (.inr (rfs ad n))))))]
def cRF (ad : CA) (T : TS) : Nat × va_E := (ad.1 0, .inr (8, [.ref (ad.1 1), .int T.1.1]))
def cLI (E : Ev) (ad : CA) (T : TS) : Nat × va_E := (ad.1 1, .inr (0, [.int T.1.2, .ref (eRef E ad T.2.1), .int (nI T.2.1)]))
def cS (E : Ev) (ad : CA) (sts : Nat → St) : Nat → va_W
  | 0 => []
  | n + 1 => sW E (ad.2 n) (sts n) ++ cS E ad sts n
def cO (E : Ev) (ad : CA) (sts : Nat → St) (k : Nat) : Nat → va_W
  | 0 => []
  | n + 1 => if n = k then cO E ad sts k n else sW E (ad.2 n) (sts n) ++ cO E ad sts k n
def cW (E : Ev) (ad : CA) (T : TS) : va_W := cRF ad T :: cLI E ad T :: (cAr E ad T.2.1 ++ cS E ad T.2.2 T.2.1)
def cR (E : Ev) (ad : CA) (T : TS) (k : Nat) : va_W := cRF ad T :: cLI E ad T :: (cAr E ad T.2.1 ++ cO E ad T.2.2 k T.2.1)
def setT (T : TS) (k : Nat) (S : St) : TS := (T.1, T.2.1, va_up T.2.2 k S)
theorem cO_none {E : Ev} {ad : CA} {sts : Nat → St} {k : Nat} : ∀ n, n ≤ k → cO E ad sts k n = cS E ad sts n
  | 0, _ => rfl
  | n + 1, h => by
    have h1 : ¬ n = k := by omega
    simp only [cO, cS, if_neg h1]
    rw [cO_none (k := k) n (by omega)]
theorem cS_split {E : Ev} {ad : CA} {sts : Nat → St} {k : Nat} : ∀ n, k < n → (cS E ad sts n).Perm (sW E (ad.2 k) (sts k) ++ cO E ad sts k n)
  | 0, h => absurd h (Nat.not_lt_zero _)
  | n + 1, h => by
    by_cases hk : n = k
    · subst hk
      simp only [cS, cO, if_pos]
      rw [cO_none n (Nat.le_refl _)]
    · simp only [cS, cO, if_neg hk]
      have ih := cS_split (E := E) (ad := ad) (sts := sts) (k := k) n (by omega)
      refine (List.Perm.append_left _ ih).trans ?_
      rw [← List.append_assoc, ← List.append_assoc]
      exact List.Perm.append_right _ List.perm_append_comm
theorem cO_upd {E : Ev} {ad : CA} {sts : Nat → St} {k : Nat} {S : St} : ∀ n, cO E ad (va_up sts k S) k n = cO E ad sts k n
  | 0 => rfl
  | n + 1 => by
    by_cases hk : n = k
    · simp only [cO, if_pos hk, cO_upd n]
    · simp only [cO, if_neg hk, cO_upd n]
      rw [show va_up sts k S n = sts n from if_neg hk]
theorem cW_split {E : Ev} {ad : CA} {T : TS} {k : Nat} (h : k < T.2.1) : (cW E ad T).Perm (sW E (ad.2 k) (T.2.2 k) ++ cR E ad T k) := by
  have h1 := cS_split (E := E) (ad := ad) (sts := T.2.2) (k := k) T.2.1 h
  unfold cW cR
  refine (((List.Perm.append_left _ h1).cons _).cons _).trans ?_
  have e : ∀ (a b : Nat × va_E) (l1 l2 l3 : va_W), (a :: b :: (l1 ++ (l2 ++ l3))).Perm (l2 ++ (a :: b :: (l1 ++ l3))) := by
    intro a b l1 l2 l3
    have : (a :: b :: (l1 ++ (l2 ++ l3))) = ([a, b] ++ l1) ++ (l2 ++ l3) := by simp
    rw [this]
    have h2 : (l2 ++ (a :: b :: (l1 ++ l3))) = l2 ++ (([a, b] ++ l1) ++ l3) := by simp
    rw [h2, ← List.append_assoc, ← List.append_assoc]
    exact List.Perm.append_right _ List.perm_append_comm
  exact e _ _ _ _ _
theorem cW_join {E : Ev} {ad : CA} {T : TS} {k : Nat} {S : St} (h : k < T.2.1) : (sW E (ad.2 k) S ++ cR E ad T k).Perm (cW E ad (setT T k S)) := by
  have h1 := (cW_split (E := E) (ad := ad) (T := setT T k S) (k := k) h).symm
  have e1 : (setT T k S).2.2 k = S := if_pos rfl
  have e2 : cR E ad (setT T k S) k = cR E ad T k := by
    unfold cR
    rw [show (setT T k S).2.2 = va_up T.2.2 k S from rfl, show (setT T k S).2.1 = T.2.1 from rfl, cO_upd]
    rfl
  rw [e1, e2] at h1
  exact h1
theorem setT_self {T : TS} {k : Nat} : setT T k (T.2.2 k) = T := by
  have : va_up T.2.2 k (T.2.2 k) = T.2.2 := by
    funext j
    by_cases h : j = k
    · subst h; exact if_pos rfl
    · exact if_neg h
  unfold setT
  rw [this]
/-- a number that names a store -/
abbrev inS (T : TS) (i : Int32) : Prop := 0 ≤ i ∧ i < nI T.2.1 ∧ T.2.1 ≤ 8
theorem inS_lt {T : TS} {i : Int32} (h : inS T i) : i.toNatClampNeg < T.2.1 := by
  obtain ⟨h0, h1, h2⟩ := h
  have e1 := Int32.le_iff_toInt_le.mp h0
  have e2 := Int32.lt_iff_toInt_lt.mp h1
  rw [nI_toInt (by omega)] at e2
  have e3 : i.toNatClampNeg = i.toInt.toNat := rfl
  rw [show (0 : Int32).toInt = 0 from rfl] at e1
  omega
theorem inS_pos {T : TS} {i : Int32} (h : inS T i) : ¬ T.2.1 = 0 := by have := inS_lt h; omega
theorem inS_nn {T : TS} {i : Int32} (h : inS T i) : ¬ i < 0 := fun q => by
  have h1 := Int32.le_iff_toInt_le.mp h.1
  have h2 := Int32.lt_iff_toInt_lt.mp q
  omega
section CWROWS
variable {E : Ev} {x : Cx} {cc : ByteArray} {own : String} {rm0 : Room} {nL0 k n : Nat} {ad : CA} {T : TS} {pc : Nat} {lv : List (Nat × Value)} {st : List Value}
theorem J_split {i : Nat} (h : i < T.2.1) (k1 : J E x k n (sW E (ad.2 i) (T.2.2 i) ++ cR E ad T i) pc lv st) : J E x k n (cW E ad T) pc lv st := J_perm (cW_split h) k1
theorem J_join {i : Nat} {S : St} {T2 : TS} (h : i < T.2.1) (e : T2 = setT T i S) (k1 : J E x k n (cW E ad T2) pc lv st) : J E x k n (sW E (ad.2 i) S ++ cR E ad T i) pc lv st := by
  subst e
  exact J_perm (cW_join h) k1
theorem J_joinS {i : Nat} (h : i < T.2.1) (k1 : J E x k n (cW E ad T) pc lv st) : J E x k n (sW E (ad.2 i) (T.2.2 i) ++ cR E ad T i) pc lv st := J_join h setT_self.symm k1
theorem cW_c0 : (cW E ad T)[0]? = some (ad.1 0, .inr (8, [.ref (ad.1 1), .int T.1.1])) := rfl
theorem cW_pd {T2 : TS} {v : Int32} (e : T2 = ((v, T.1.2), T.2)) : (cW E ad T).set 0 (ad.1 0, .inr (8, ([.ref (ad.1 1), .int T.1.1] : List Value).set 1 (.int v))) = cW E ad T2 := by subst e; rfl
theorem J_stgetN (X : Ok E x cc own rm0 nL0) {i : Nat} (hi : i < T.2.1) {a : Nat} {C host : String} {F : u_T} {N ci idx : Nat} {fs : List Value} {v : Value} (q0 : Nat) (he : (sW E (ad.2 i) (T.2.2 i))[q0]? = some (a, .inr (ci, fs))) (hc : vwCl[ci]? = some (C, F, N)) (hin : ∀ z ∈ u_ws C F N, z ∈ GW) (j : Nat) (hj : j < N) (hw : Cond.fieldLinkNest own idx (F j).1 (F j).2.1 (F j).2.2.1 host ∈ NW) (hv1 : fs[j]? = some v) (hdg : decode cc pc = .ok (.getfield idx, 3)) (k1 : J E x k n (cW E ad T) (pc + 3) lv (v :: st)) : J E x k n (cW E ad T) pc lv (.ref a :: st) := by
  refine J_split hi ?_
  have hq : q0 < (sW E (ad.2 i) (T.2.2 i)).length := (List.getElem?_eq_some_iff.mp he).1
  refine J_getfN X q0 (by rw [List.getElem?_append_left hq]; exact he) hc hin j hj hw hv1 hdg ?_
  exact J_joinS hi k1
theorem J_stputN (X : Ok E x cc own rm0 nL0) {i : Nat} (hi : i < T.2.1) {a : Nat} {C host : String} {F : u_T} {N ci idx : Nat} {fs : List Value} {v : Value} {ty : FieldType} {S2 : St} {T2 : TS} (q0 : Nat) (he : (sW E (ad.2 i) (T.2.2 i))[q0]? = some (a, .inr (ci, fs))) (hc : vwCl[ci]? = some (C, F, N)) (hin : ∀ z ∈ u_ws C F N, z ∈ GW) {ty0 : Nat → FieldType} (hty : ∀ i, i < N → parseFieldDescriptor (F i).2.2.1 = some (ty0 i)) (hnm : ∀ i, i < N → ∀ i2, i2 < N → i ≠ i2 → (F i).2.1 ≠ (F i2).2.1) (j : Nat) (hj : j < N) (hw : Cond.fieldLinkNest own idx (F j).1 (F j).2.1 (F j).2.2.1 host ∈ NW) (hfin : (F j).2.2.2 = false) (hd : parseFieldDescriptor (F j).2.2.1 = some ty) (hn0 : narrow ty v = v) (hfit : fits ty v = true) (hl : j < fs.length) (hdg : decode cc pc = .ok (.putfield idx, 3)) (e1 : (sW E (ad.2 i) (T.2.2 i)).set q0 (a, .inr (ci, fs.set j v)) = sW E (ad.2 i) S2) (e2 : T2 = setT T i S2) (k1 : J E x k n (cW E ad T2) (pc + 3) lv st) : J E x k n (cW E ad T) pc lv (v :: .ref a :: st) := by
  refine J_split hi ?_
  have hq : q0 < (sW E (ad.2 i) (T.2.2 i)).length := (List.getElem?_eq_some_iff.mp he).1
  refine J_putfN X (w1 := sW E (ad.2 i) S2 ++ cR E ad T i) q0 (by rw [List.getElem?_append_left hq]; exact he) hc hin hty hnm j hj hw hfin hd hn0 hfit hl hdg (by rw [List.set_append_left _ _ hq, e1]) ?_
  exact J_join hi e2 k1
theorem J_stI (X : Ok E x cc own rm0 nL0) {i : Nat} (hi : i < T.2.1) {rest : List Value} {F : u_T} {N ci : Nat} {fs : List Value} {a : Nat} {y : MethodName} {b : ByteArray} {nl f lo idx : Nat} {rt : FieldType} {r : Int32} {As : List Value} {S2 : St} {T2 : TS} (hM : CtI E y b nl rt f lo (sW E (ad.2 i) (T.2.2 i)) (.ref a :: As) r (sW E (ad.2 i) S2)) (e2 : T2 = setT T i S2) (q0 : Nat) (he : (sW E (ad.2 i) (T.2.2 i))[q0]? = some (a, .inr (ci, fs))) (hc : vwCl[ci]? = some (y.cls, F, N)) (h1 : Cond.methodLink own idx y ∈ GW) (h2 : Cond.instanceMethod y ∈ GW) (h3 : Cond.selects y.cls y y ∈ GW) (h4 : Cond.initialized y.cls ∈ GW) (h5 : Cond.code y b nl (some rt) ∈ GW) {na : Nat} (hna : As.length = na) (hd : y.cls ≠ "java/lang/invoke/MethodHandle" ∧ y.cls ≠ "java/lang/invoke/VarHandle" ∧ (parseMethodDescriptor y.desc).map (fun d => d.parameters.length) = some na) (hf : f + 1 ≤ rm0.frames ∧ 8 + (nl + 11) + lo ≤ rm0.locals) (hst : st = As.reverse ++ .ref a :: rest) (hW : (rest.map fun v => v.category).sum ≤ 8) (hkn : k ≤ rm0.cells ∧ n ≤ rm0.slots) (hdg : decode cc pc = .ok (.invokevirtual idx, 3)) (k1 : J E x k n (cW E ad T2) (pc + 3) lv (.int r :: rest)) : J E x k n (cW E ad T) pc lv st := by
  refine J_split hi ?_
  refine J_callF0I X hM q0 he hc h1 h2 h3 h4 h5 hna hd hf hst hW hkn hdg ?_
  exact J_join hi e2 k1
theorem J_stL (X : Ok E x cc own rm0 nL0) {i : Nat} (hi : i < T.2.1) {rest : List Value} {F : u_T} {N ci : Nat} {fs : List Value} {a : Nat} {y : MethodName} {b : ByteArray} {nl f lo idx : Nat} {r : Int64} {As : List Value} {S2 : St} {T2 : TS} (hM : CtL E y b nl f lo (sW E (ad.2 i) (T.2.2 i)) (.ref a :: As) r (sW E (ad.2 i) S2)) (e2 : T2 = setT T i S2) (q0 : Nat) (he : (sW E (ad.2 i) (T.2.2 i))[q0]? = some (a, .inr (ci, fs))) (hc : vwCl[ci]? = some (y.cls, F, N)) (h1 : Cond.methodLink own idx y ∈ GW) (h2 : Cond.instanceMethod y ∈ GW) (h3 : Cond.selects y.cls y y ∈ GW) (h4 : Cond.initialized y.cls ∈ GW) (h5 : Cond.code y b nl (some .long) ∈ GW) {na : Nat} (hna : As.length = na) (hd : y.cls ≠ "java/lang/invoke/MethodHandle" ∧ y.cls ≠ "java/lang/invoke/VarHandle" ∧ (parseMethodDescriptor y.desc).map (fun d => d.parameters.length) = some na) (hf : f + 1 ≤ rm0.frames ∧ 8 + (nl + 11) + lo ≤ rm0.locals) (hst : st = As.reverse ++ .ref a :: rest) (hW : (rest.map fun v => v.category).sum ≤ 8) (hkn : k ≤ rm0.cells ∧ n ≤ rm0.slots) (hdg : decode cc pc = .ok (.invokevirtual idx, 3)) (k1 : J E x k n (cW E ad T2) (pc + 3) lv (.long r :: rest)) : J E x k n (cW E ad T) pc lv st := by
  refine J_split hi ?_
  refine J_callF0L X hM q0 he hc h1 h2 h3 h4 h5 hna hd hf hst hW hkn hdg ?_
  exact J_join hi e2 k1
theorem J_stV (X : Ok E x cc own rm0 nL0) {i : Nat} (hi : i < T.2.1) {rest : List Value} {F : u_T} {N ci : Nat} {fs : List Value} {a : Nat} {y : MethodName} {b : ByteArray} {nl f lo idx : Nat} {As : List Value} {S2 : St} {T2 : TS} (hM : CtV E y b nl f lo (sW E (ad.2 i) (T.2.2 i)) (.ref a :: As) (sW E (ad.2 i) S2)) (e2 : T2 = setT T i S2) (q0 : Nat) (he : (sW E (ad.2 i) (T.2.2 i))[q0]? = some (a, .inr (ci, fs))) (hc : vwCl[ci]? = some (y.cls, F, N)) (h1 : Cond.methodLink own idx y ∈ GW) (h2 : Cond.instanceMethod y ∈ GW) (h3 : Cond.selects y.cls y y ∈ GW) (h4 : Cond.initialized y.cls ∈ GW) (h5 : Cond.code y b nl (none) ∈ GW) {na : Nat} (hna : As.length = na) (hd : y.cls ≠ "java/lang/invoke/MethodHandle" ∧ y.cls ≠ "java/lang/invoke/VarHandle" ∧ (parseMethodDescriptor y.desc).map (fun d => d.parameters.length) = some na) (hf : f + 1 ≤ rm0.frames ∧ 8 + (nl + 11) + lo ≤ rm0.locals) (hst : st = As.reverse ++ .ref a :: rest) (hW : (rest.map fun v => v.category).sum ≤ 8) (hkn : k ≤ rm0.cells ∧ n ≤ rm0.slots) (hdg : decode cc pc = .ok (.invokevirtual idx, 3)) (k1 : J E x k n (cW E ad T2) (pc + 3) lv (rest)) : J E x k n (cW E ad T) pc lv st := by
  refine J_split hi ?_
  refine J_callF0V X hM q0 he hc h1 h2 h3 h4 h5 hna hd hf hst hW hkn hdg ?_
  exact J_join hi e2 k1
theorem cW_li : (cW E ad T).Perm ([cLI E ad T] ++ (cRF ad T :: (cAr E ad T.2.1 ++ cS E ad T.2.2 T.2.1))) := List.Perm.swap _ _ _
theorem cW_lia (h : ¬ T.2.1 = 0) : (cW E ad T).Perm ([(ad.1 1, .inr (0, [.int T.1.2, .ref (ad.1 2), .int (nI T.2.1)])), (ad.1 2, .inl (E.2.2 2, 10, .inr (.inr (.inr (.inr (rfs ad T.2.1))))))] ++ (cRF ad T :: cS E ad T.2.2 T.2.1)) := by
  unfold cW cLI cAr eRef
  rw [if_neg h, if_neg h]
  refine (List.Perm.swap _ _ _).trans (List.Perm.cons _ ?_)
  exact List.Perm.swap _ _ _
theorem J_size (X : Ok E x cc own rm0 nL0) {idx : Nat} (h1 : Cond.methodLink own idx yJx4a65c_size_8abf5 ∈ GW) (hf : 1 ≤ rm0.frames ∧ 20 ≤ rm0.locals) (hW : (st.map fun v => v.category).sum ≤ 8) (hkn : k ≤ rm0.cells ∧ n ≤ rm0.slots) (hdg : decode cc pc = .ok (.invokevirtual idx, 3)) (k1 : J E x k n (cW E ad T) (pc + 3) lv (.int (nI T.2.1) :: st)) : J E x k n (cW E ad T) pc lv (.ref (ad.1 1) :: st) := by
  refine J_perm cW_li ?_
  refine J_callF0I (y := yJx4a65c_size_8abf5) (na := 0) (As := []) (rest := st) X (c_size E (ad.1 1) (eRef E ad T.2.1) T.1.2 (nI T.2.1)) 0 rfl rfl h1 q_329 q_330 q_267 q_275 rfl (by decide +kernel) ⟨hf.1, hf.2⟩ rfl hW hkn hdg ?_
  exact J_perm cW_li.symm k1
theorem J_get (X : Ok E x cc own rm0 nL0) {idx : Nat} {i : Int32} (hi : inS T i) (h1 : Cond.methodLink own idx yJx4a65c_get_915e3 ∈ GW) (hf : 3 ≤ rm0.frames ∧ 64 ≤ rm0.locals) (hW : (st.map fun v => v.category).sum ≤ 8) (hkn : k ≤ rm0.cells ∧ n ≤ rm0.slots) (hdg : decode cc pc = .ok (.invokevirtual idx, 3)) (k1 : J E x k n (cW E ad T) (pc + 3) lv (.ref (ad.2 i.toNatClampNeg 0) :: st)) : J E x k n (cW E ad T) pc lv (.int i :: .ref (ad.1 1) :: st) := by
  have hp := inS_pos hi
  have hl := inS_lt hi
  refine J_perm (cW_lia hp) ?_
  refine J_callF0R (y := yJx4a65c_get_915e3) (na := 1) (As := [.int i]) (rest := st) X (c_get E (ad.1 1) (ad.1 2) 10 (ad.2 i.toNatClampNeg 0) T.1.2 (nI T.2.1) i (rfs ad T.2.1) (inS_nn hi) hi.2.1 ⟨hi.1, by have := hi.2.2; omega⟩ (if_pos hl)) 0 rfl rfl h1 q_354 q_355 q_267 q_343 rfl (by decide +kernel) ⟨hf.1, hf.2⟩ rfl hW hkn hdg (fun _ _ => ?_)
  exact J_perm (cW_lia hp).symm k1
theorem cast_mem {i : Nat} (h : i < T.2.1) : (ad.2 i 0, (.inr (6, [.ref (ad.2 i 1), .ref (ad.2 i 2), .ref (ad.2 i 3), .ref (ad.2 i 4), .ref (ad.2 i 5), .ref (ad.2 i 6), .int ((T.2.2 i).1 0)]) : va_E)) ∈ cW E ad T :=
  (cW_split (E := E) (ad := ad) h).mem_iff.mpr (List.mem_append_left _ (List.mem_of_getElem? (i := 0) sW_c0))
end CWROWS
