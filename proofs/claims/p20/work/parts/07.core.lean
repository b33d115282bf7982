/-! The worlds' states and the judgement J: 'from any heap that holds the world w, at pc with these locals and this stack, the machine comes to Q'. Over the kit's rows; every method's walk is said in J. -/
abbrev St : Type := (Nat → Int32) × (Nat → Nat → Int32)
def sF (S : St) (k : Nat) (v : Int32) : St := (va_up S.1 k v, S.2)
def sA (S : St) (j i : Nat) (v : Int32) : St := (S.1, va_up S.2 j (upd (S.2 j) i v))
def nmv {α β : Type} (x : α) (f : α → Option β) : Option β := f x
theorem nmv_e {α β : Type} {x : α} {f : α → Option β} {r : β} (h : nmv x f = some r) : ∃ y, y = x ∧ f y = some r := ⟨x, rfl, h⟩
def ck {β : Type} (q : Prop) [Decidable q] (x : Option β) : Option β := if q then x else none
theorem ck_e {β : Type} {q : Prop} [Decidable q] {x : Option β} {r : β} (h : ck q x = some r) : q ∧ x = some r := by
  by_cases hq : q
  · rw [ck, if_pos hq] at h; exact ⟨hq, h⟩
  · rw [ck, if_neg hq] at h; cases h
theorem bk {α β : Type} {x : Option α} {f : α → Option β} {r : β} (h : x.bind f = some r) : ∃ a, x = some a ∧ f a = some r := by
  cases x with
  | none => cases h
  | some a => exact ⟨a, rfl, h⟩
abbrev inb (i : Int32) (n : Nat) : Prop := 0 ≤ i ∧ i.toNatClampNeg < n
theorem inb_in {i : Int32} {n : Nat} (h : inb i n) : vp_in i n := by
  intro q
  rcases q with q | q
  · have h1 := Int32.le_iff_toInt_le.mp h.1
    have h2 := Int32.lt_iff_toInt_lt.mp q
    omega
  · exact Nat.not_le.mpr h.2 q
abbrev isZ (v : Int32) : Prop := v = 0 ∨ v = 1
theorem isZ_nar {v : Int32} (h : isZ v) : narrow .boolean (.int v) = .int v := by
  rcases h with rfl | rfl <;> decide +kernel
theorem isZ_fits {v : Int32} (h : isZ v) : fits .boolean (.int v) = true := by
  rcases h with rfl | rfl <;> decide +kernel
theorem isZ_nar2 {v : Int32} (h : isZ v) : vp_nar .boolean v = v := by
  rcases h with rfl | rfl <;> decide +kernel
abbrev Ev : Type := Launch × va_G × (Nat → ClassId)
abbrev Cx : Type := Program × Env × Room × State × MethodId × Array Value × List Frame × Method × Code × (Nat → Prop) × Nat × (State → Prop)
def tyL (cy : Nat → ClassId) : List (ClassId × FieldType) := [(cy 0, .int), (cy 1, .long), (cy 2, .object "java/lang/Object"), (cy 3, .long)]
def J (E : Ev) (x : Cx) (k n : Nat) (w : va_W) (pc : Nat) (lv : List (Nat × Value)) (st : List Value) : Prop :=
  match E, x with
  | (l, D, _), (p, e, R, s, m, args, below, meth, c, A, nL, Q) => ∀ (H : Heap) (locs : List Loc) (ls : Array Slot), va_P D vwCl w H → va_D A w → va_S A s.heap H locs → lv_has ls nL lv → W p l e R s m args below meth c H locs k n Q (F0 m pc ls st)
def Ok (E : Ev) (x : Cx) (cc : ByteArray) (own : String) (rm : Room) (nL0 : Nat) : Prop :=
  match E, x with
  | (_, D, cy), (p, _, R, s, m, args, _, _, c, A, nL, _) => p.tables.exec = Jvm.exec ∧ c.code = cc ∧ c.maxLocals = nL ∧ s.vm.findClass own = some m.cls ∧ (∀ z ∈ GW, z.before args s = true) ∧ va_K D vwCl (tyL cy) s ∧ (∀ z ∈ NW, va_Nw z s) ∧ (∀ q, s.heap.size ≤ q → A q) ∧ R = rm ∧ nL = nL0
section JROWS
variable {E : Ev} {x : Cx} {cc : ByteArray} {own : String} {rm0 : Room} {nL0 k n : Nat} {w : va_W} {pc : Nat} {lv : List (Nat × Value)} {st : List Value}
theorem J_iconst (X : Ok E x cc own rm0 nL0) {i : Int} {v : Int32} (hdg : decode cc pc = .ok (.iconst i, 1)) (hv0 : Int32.ofInt i = v) (k1 : J E x k n w (pc + 1) lv (.int v :: st)) : J E x k n w pc lv (st) := by
  obtain ⟨l, D, cy⟩ := E
  obtain ⟨p, e, R, s, m, args, below, meth, c, A, nL, Q⟩ := x
  obtain ⟨hx, hb, hml, hown, hG, hK, hN, hA, hR, hnl⟩ := X
  intro H locs ls hP hD hS hv
  exact lv_iconst hx hb hdg hv0 (k1 H locs ls hP hD hS hv)
theorem J_bipush (X : Ok E x cc own rm0 nL0) {i : Int} {v : Int32} (hdg : decode cc pc = .ok (.bipush i, 2)) (hv0 : (Int8.ofInt i).toInt32 = v) (k1 : J E x k n w (pc + 2) lv (.int v :: st)) : J E x k n w pc lv (st) := by
  obtain ⟨l, D, cy⟩ := E
  obtain ⟨p, e, R, s, m, args, below, meth, c, A, nL, Q⟩ := x
  obtain ⟨hx, hb, hml, hown, hG, hK, hN, hA, hR, hnl⟩ := X
  intro H locs ls hP hD hS hv
  exact lv_bipush hx hb hdg hv0 (k1 H locs ls hP hD hS hv)
theorem J_sipush (X : Ok E x cc own rm0 nL0) {i : Int} {v : Int32} (hdg : decode cc pc = .ok (.sipush i, 3)) (hv0 : (Int16.ofInt i).toInt32 = v) (k1 : J E x k n w (pc + 3) lv (.int v :: st)) : J E x k n w pc lv (st) := by
  obtain ⟨l, D, cy⟩ := E
  obtain ⟨p, e, R, s, m, args, below, meth, c, A, nL, Q⟩ := x
  obtain ⟨hx, hb, hml, hown, hG, hK, hN, hA, hR, hnl⟩ := X
  intro H locs ls hP hD hS hv
  exact lv_sipush hx hb hdg hv0 (k1 H locs ls hP hD hS hv)
theorem J_lconst (X : Ok E x cc own rm0 nL0) {i : Fin 2} {v : Int64} (hdg : decode cc pc = .ok (.lconst i, 1)) (hv0 : Int64.ofNat (i : Nat) = v) (k1 : J E x k n w (pc + 1) lv (.long v :: st)) : J E x k n w pc lv (st) := by
  obtain ⟨l, D, cy⟩ := E
  obtain ⟨p, e, R, s, m, args, below, meth, c, A, nL, Q⟩ := x
  obtain ⟨hx, hb, hml, hown, hG, hK, hN, hA, hR, hnl⟩ := X
  intro H locs ls hP hD hS hv
  exact lv_lconst hx hb hdg hv0 (k1 H locs ls hP hD hS hv)
theorem J_ldc (X : Ok E x cc own rm0 nL0) {i : Nat} {v : Int32} (hdg : decode cc pc = .ok (.ldc i, 2)) (hw : Cond.constant own i v ∈ GW) (k1 : J E x k n w (pc + 2) lv (.int v :: st)) : J E x k n w pc lv (st) := by
  obtain ⟨l, D, cy⟩ := E
  obtain ⟨p, e, R, s, m, args, below, meth, c, A, nL, Q⟩ := x
  obtain ⟨hx, hb, hml, hown, hG, hK, hN, hA, hR, hnl⟩ := X
  intro H locs ls hP hD hS hv
  exact lv_ldc hx hb hown (hG _ hw) hdg (k1 H locs ls hP hD hS hv)
theorem J_ldc2 (X : Ok E x cc own rm0 nL0) {i : Nat} {v : Int64} (hdg : decode cc pc = .ok (.ldc2_w i, 3)) (hw : Cond.constantLong own i v ∈ GW) (k1 : J E x k n w (pc + 3) lv (.long v :: st)) : J E x k n w pc lv (st) := by
  obtain ⟨l, D, cy⟩ := E
  obtain ⟨p, e, R, s, m, args, below, meth, c, A, nL, Q⟩ := x
  obtain ⟨hx, hb, hml, hown, hG, hK, hN, hA, hR, hnl⟩ := X
  intro H locs ls hP hD hS hv
  exact lv_ldc2 hx hb hown (hG _ hw) hdg (k1 H locs ls hP hD hS hv)
theorem J_iload_n (X : Ok E x cc own rm0 nL0) {i : Fin 4} {v : Int32} (hdg : decode cc pc = .ok (.iload_n i, 1)) (q : Nat) (hl : lv[q]? = some ((i : Nat), .int v)) (k1 : J E x k n w (pc + 1) lv (.int v :: st)) : J E x k n w pc lv (st) := by
  obtain ⟨l, D, cy⟩ := E
  obtain ⟨p, e, R, s, m, args, below, meth, c, A, nL, Q⟩ := x
  obtain ⟨hx, hb, hml, hown, hG, hK, hN, hA, hR, hnl⟩ := X
  intro H locs ls hP hD hS hv
  exact lv_iload_n hx hb hdg rfl (lv_at hv q hl) (k1 H locs ls hP hD hS hv)
theorem J_iload (X : Ok E x cc own rm0 nL0) {i : Nat} {v : Int32} (hdg : decode cc pc = .ok (.iload i, 2)) (q : Nat) (hl : lv[q]? = some (i, .int v)) (k1 : J E x k n w (pc + 2) lv (.int v :: st)) : J E x k n w pc lv (st) := by
  obtain ⟨l, D, cy⟩ := E
  obtain ⟨p, e, R, s, m, args, below, meth, c, A, nL, Q⟩ := x
  obtain ⟨hx, hb, hml, hown, hG, hK, hN, hA, hR, hnl⟩ := X
  intro H locs ls hP hD hS hv
  exact lv_iload hx hb hdg (lv_at hv q hl) (k1 H locs ls hP hD hS hv)
theorem J_lload_n (X : Ok E x cc own rm0 nL0) {i : Fin 4} {v : Int64} (hdg : decode cc pc = .ok (.lload_n i, 1)) (q : Nat) (hl : lv[q]? = some ((i : Nat), .long v)) (k1 : J E x k n w (pc + 1) lv (.long v :: st)) : J E x k n w pc lv (st) := by
  obtain ⟨l, D, cy⟩ := E
  obtain ⟨p, e, R, s, m, args, below, meth, c, A, nL, Q⟩ := x
  obtain ⟨hx, hb, hml, hown, hG, hK, hN, hA, hR, hnl⟩ := X
  intro H locs ls hP hD hS hv
  exact lv_lload_n hx hb hdg rfl (lv_at hv q hl) (k1 H locs ls hP hD hS hv)
theorem J_lload (X : Ok E x cc own rm0 nL0) {i : Nat} {v : Int64} (hdg : decode cc pc = .ok (.lload i, 2)) (q : Nat) (hl : lv[q]? = some (i, .long v)) (k1 : J E x k n w (pc + 2) lv (.long v :: st)) : J E x k n w pc lv (st) := by
  obtain ⟨l, D, cy⟩ := E
  obtain ⟨p, e, R, s, m, args, below, meth, c, A, nL, Q⟩ := x
  obtain ⟨hx, hb, hml, hown, hG, hK, hN, hA, hR, hnl⟩ := X
  intro H locs ls hP hD hS hv
  exact lv_lload hx hb hdg (lv_at hv q hl) (k1 H locs ls hP hD hS hv)
theorem J_aload_n (X : Ok E x cc own rm0 nL0) {i : Fin 4} {v : Nat} (hdg : decode cc pc = .ok (.aload_n i, 1)) (q : Nat) (hl : lv[q]? = some ((i : Nat), .ref v)) (k1 : J E x k n w (pc + 1) lv (.ref v :: st)) : J E x k n w pc lv (st) := by
  obtain ⟨l, D, cy⟩ := E
  obtain ⟨p, e, R, s, m, args, below, meth, c, A, nL, Q⟩ := x
  obtain ⟨hx, hb, hml, hown, hG, hK, hN, hA, hR, hnl⟩ := X
  intro H locs ls hP hD hS hv
  exact lv_aload_n hx hb hdg rfl (lv_at hv q hl) (k1 H locs ls hP hD hS hv)
theorem J_aload (X : Ok E x cc own rm0 nL0) {i : Nat} {v : Nat} (hdg : decode cc pc = .ok (.aload i, 2)) (q : Nat) (hl : lv[q]? = some (i, .ref v)) (k1 : J E x k n w (pc + 2) lv (.ref v :: st)) : J E x k n w pc lv (st) := by
  obtain ⟨l, D, cy⟩ := E
  obtain ⟨p, e, R, s, m, args, below, meth, c, A, nL, Q⟩ := x
  obtain ⟨hx, hb, hml, hown, hG, hK, hN, hA, hR, hnl⟩ := X
  intro H locs ls hP hD hS hv
  exact lv_aload hx hb hdg (lv_at hv q hl) (k1 H locs ls hP hD hS hv)
theorem J_istore_n (X : Ok E x cc own rm0 nL0) {i : Fin 4} {v : Int32} (hdg : decode cc pc = .ok (.istore_n i, 1)) (hn : (i : Nat) < nL0) {lv1 : List (Nat × Value)} (hl : ((i : Nat), Value.int v) :: lv.filter (fun q => !(q.1 == (i : Nat)) && !(q.1 + 1 == (i : Nat) && q.2.category == 2)) = lv1) (k1 : J E x k n w (pc + 1) lv1 st) : J E x k n w pc lv (.int v :: st) := by
  obtain ⟨l, D, cy⟩ := E
  obtain ⟨p, e, R, s, m, args, below, meth, c, A, nL, Q⟩ := x
  obtain ⟨hx, hb, hml, hown, hG, hK, hN, hA, hR, hnl⟩ := X
  intro H locs ls hP hD hS hv
  subst hnl
  exact lv_istore_n hx hb hdg rfl hv hn hl (fun ls hv => k1 H locs ls hP hD hS hv)
theorem J_istore (X : Ok E x cc own rm0 nL0) {i : Nat} {v : Int32} (hdg : decode cc pc = .ok (.istore i, 2)) (hn : (i : Nat) < nL0) {lv1 : List (Nat × Value)} (hl : ((i : Nat), Value.int v) :: lv.filter (fun q => !(q.1 == (i : Nat)) && !(q.1 + 1 == (i : Nat) && q.2.category == 2)) = lv1) (k1 : J E x k n w (pc + 2) lv1 st) : J E x k n w pc lv (.int v :: st) := by
  obtain ⟨l, D, cy⟩ := E
  obtain ⟨p, e, R, s, m, args, below, meth, c, A, nL, Q⟩ := x
  obtain ⟨hx, hb, hml, hown, hG, hK, hN, hA, hR, hnl⟩ := X
  intro H locs ls hP hD hS hv
  subst hnl
  exact lv_istore hx hb hdg hv hn hl (fun ls hv => k1 H locs ls hP hD hS hv)
theorem J_lstore_n (X : Ok E x cc own rm0 nL0) {i : Fin 4} {v : Int64} (hdg : decode cc pc = .ok (.lstore_n i, 1)) (hn : (i : Nat) + 1 < nL0) {lv1 : List (Nat × Value)} (hl : ((i : Nat), Value.long v) :: lv.filter (fun q => !(q.1 == (i : Nat)) && (!(q.1 == (i : Nat) + 1) && !(q.1 + 1 == (i : Nat) && q.2.category == 2))) = lv1) (k1 : J E x k n w (pc + 1) lv1 st) : J E x k n w pc lv (.long v :: st) := by
  obtain ⟨l, D, cy⟩ := E
  obtain ⟨p, e, R, s, m, args, below, meth, c, A, nL, Q⟩ := x
  obtain ⟨hx, hb, hml, hown, hG, hK, hN, hA, hR, hnl⟩ := X
  intro H locs ls hP hD hS hv
  subst hnl
  exact lv_lstore_n hx hb hdg rfl hv hn hl (fun ls hv => k1 H locs ls hP hD hS hv)
theorem J_lstore (X : Ok E x cc own rm0 nL0) {i : Nat} {v : Int64} (hdg : decode cc pc = .ok (.lstore i, 2)) (hn : (i : Nat) + 1 < nL0) {lv1 : List (Nat × Value)} (hl : ((i : Nat), Value.long v) :: lv.filter (fun q => !(q.1 == (i : Nat)) && (!(q.1 == (i : Nat) + 1) && !(q.1 + 1 == (i : Nat) && q.2.category == 2))) = lv1) (k1 : J E x k n w (pc + 2) lv1 st) : J E x k n w pc lv (.long v :: st) := by
  obtain ⟨l, D, cy⟩ := E
  obtain ⟨p, e, R, s, m, args, below, meth, c, A, nL, Q⟩ := x
  obtain ⟨hx, hb, hml, hown, hG, hK, hN, hA, hR, hnl⟩ := X
  intro H locs ls hP hD hS hv
  subst hnl
  exact lv_lstore hx hb hdg hv hn hl (fun ls hv => k1 H locs ls hP hD hS hv)
theorem J_astore_n (X : Ok E x cc own rm0 nL0) {i : Fin 4} {v : Nat} (hdg : decode cc pc = .ok (.astore_n i, 1)) (hn : (i : Nat) < nL0) {lv1 : List (Nat × Value)} (hl : ((i : Nat), Value.ref v) :: lv.filter (fun q => !(q.1 == (i : Nat)) && !(q.1 + 1 == (i : Nat) && q.2.category == 2)) = lv1) (k1 : J E x k n w (pc + 1) lv1 st) : J E x k n w pc lv (.ref v :: st) := by
  obtain ⟨l, D, cy⟩ := E
  obtain ⟨p, e, R, s, m, args, below, meth, c, A, nL, Q⟩ := x
  obtain ⟨hx, hb, hml, hown, hG, hK, hN, hA, hR, hnl⟩ := X
  intro H locs ls hP hD hS hv
  subst hnl
  exact lv_astore_n hx hb hdg rfl hv hn hl (fun ls hv => k1 H locs ls hP hD hS hv)
theorem J_astore (X : Ok E x cc own rm0 nL0) {i : Nat} {v : Nat} (hdg : decode cc pc = .ok (.astore i, 2)) (hn : (i : Nat) < nL0) {lv1 : List (Nat × Value)} (hl : ((i : Nat), Value.ref v) :: lv.filter (fun q => !(q.1 == (i : Nat)) && !(q.1 + 1 == (i : Nat) && q.2.category == 2)) = lv1) (k1 : J E x k n w (pc + 2) lv1 st) : J E x k n w pc lv (.ref v :: st) := by
  obtain ⟨l, D, cy⟩ := E
  obtain ⟨p, e, R, s, m, args, below, meth, c, A, nL, Q⟩ := x
  obtain ⟨hx, hb, hml, hown, hG, hK, hN, hA, hR, hnl⟩ := X
  intro H locs ls hP hD hS hv
  subst hnl
  exact lv_astore hx hb hdg hv hn hl (fun ls hv => k1 H locs ls hP hD hS hv)
theorem J_iinc (X : Ok E x cc own rm0 nL0) {i : Nat} {j : Int} {u v : Int32} (hdg : decode cc pc = .ok (.iinc i j, 3)) (q : Nat) (hq : lv[q]? = some (i, .int u)) (hu : u + Int32.ofInt j = v) (hn : i < nL0) {lv1 : List (Nat × Value)} (hl : (i, Value.int v) :: lv.filter (fun q => !(q.1 == i) && !(q.1 + 1 == i && q.2.category == 2)) = lv1) (k1 : J E x k n w (pc + 3) lv1 st) : J E x k n w pc lv st := by
  obtain ⟨l, D, cy⟩ := E
  obtain ⟨p, e, R, s, m, args, below, meth, c, A, nL, Q⟩ := x
  obtain ⟨hx, hb, hml, hown, hG, hK, hN, hA, hR, hnl⟩ := X
  intro H locs ls hP hD hS hv
  subst hnl
  exact lv_iinc hx hb hdg hv hq hu hn hl (fun ls hv => k1 H locs ls hP hD hS hv)
theorem J_iadd (X : Ok E x cc own rm0 nL0) {u v : Int32} (hdg : decode cc pc = .ok (.iadd, 1)) (k1 : J E x k n w (pc + 1) lv (.int (u + v) :: st)) : J E x k n w pc lv (.int v :: .int u :: st) := by
  obtain ⟨l, D, cy⟩ := E
  obtain ⟨p, e, R, s, m, args, below, meth, c, A, nL, Q⟩ := x
  obtain ⟨hx, hb, hml, hown, hG, hK, hN, hA, hR, hnl⟩ := X
  intro H locs ls hP hD hS hv
  exact lv_iadd hx hb hdg (k1 H locs ls hP hD hS hv)
theorem J_isub (X : Ok E x cc own rm0 nL0) {u v : Int32} (hdg : decode cc pc = .ok (.isub, 1)) (k1 : J E x k n w (pc + 1) lv (.int (u - v) :: st)) : J E x k n w pc lv (.int v :: .int u :: st) := by
  obtain ⟨l, D, cy⟩ := E
  obtain ⟨p, e, R, s, m, args, below, meth, c, A, nL, Q⟩ := x
  obtain ⟨hx, hb, hml, hown, hG, hK, hN, hA, hR, hnl⟩ := X
  intro H locs ls hP hD hS hv
  exact lv_isub hx hb hdg (k1 H locs ls hP hD hS hv)
theorem J_imul (X : Ok E x cc own rm0 nL0) {u v : Int32} (hdg : decode cc pc = .ok (.imul, 1)) (k1 : J E x k n w (pc + 1) lv (.int (u * v) :: st)) : J E x k n w pc lv (.int v :: .int u :: st) := by
  obtain ⟨l, D, cy⟩ := E
  obtain ⟨p, e, R, s, m, args, below, meth, c, A, nL, Q⟩ := x
  obtain ⟨hx, hb, hml, hown, hG, hK, hN, hA, hR, hnl⟩ := X
  intro H locs ls hP hD hS hv
  exact lv_imul hx hb hdg (k1 H locs ls hP hD hS hv)
theorem J_iand (X : Ok E x cc own rm0 nL0) {u v : Int32} (hdg : decode cc pc = .ok (.iand, 1)) (k1 : J E x k n w (pc + 1) lv (.int (u &&& v) :: st)) : J E x k n w pc lv (.int v :: .int u :: st) := by
  obtain ⟨l, D, cy⟩ := E
  obtain ⟨p, e, R, s, m, args, below, meth, c, A, nL, Q⟩ := x
  obtain ⟨hx, hb, hml, hown, hG, hK, hN, hA, hR, hnl⟩ := X
  intro H locs ls hP hD hS hv
  exact lv_iand hx hb hdg (k1 H locs ls hP hD hS hv)
theorem J_ishr (X : Ok E x cc own rm0 nL0) {u v : Int32} (hdg : decode cc pc = .ok (.ishr, 1)) (k1 : J E x k n w (pc + 1) lv (.int (u >>> (v &&& 31)) :: st)) : J E x k n w pc lv (.int v :: .int u :: st) := by
  obtain ⟨l, D, cy⟩ := E
  obtain ⟨p, e, R, s, m, args, below, meth, c, A, nL, Q⟩ := x
  obtain ⟨hx, hb, hml, hown, hG, hK, hN, hA, hR, hnl⟩ := X
  intro H locs ls hP hD hS hv
  exact lv_ishr hx hb hdg (k1 H locs ls hP hD hS hv)
theorem J_ladd (X : Ok E x cc own rm0 nL0) {u v : Int64} (hdg : decode cc pc = .ok (.ladd, 1)) (k1 : J E x k n w (pc + 1) lv (.long (u + v) :: st)) : J E x k n w pc lv (.long v :: .long u :: st) := by
  obtain ⟨l, D, cy⟩ := E
  obtain ⟨p, e, R, s, m, args, below, meth, c, A, nL, Q⟩ := x
  obtain ⟨hx, hb, hml, hown, hG, hK, hN, hA, hR, hnl⟩ := X
  intro H locs ls hP hD hS hv
  exact lv_ladd hx hb hdg (k1 H locs ls hP hD hS hv)
theorem J_lsub (X : Ok E x cc own rm0 nL0) {u v : Int64} (hdg : decode cc pc = .ok (.lsub, 1)) (k1 : J E x k n w (pc + 1) lv (.long (u - v) :: st)) : J E x k n w pc lv (.long v :: .long u :: st) := by
  obtain ⟨l, D, cy⟩ := E
  obtain ⟨p, e, R, s, m, args, below, meth, c, A, nL, Q⟩ := x
  obtain ⟨hx, hb, hml, hown, hG, hK, hN, hA, hR, hnl⟩ := X
  intro H locs ls hP hD hS hv
  exact lv_lsub hx hb hdg (k1 H locs ls hP hD hS hv)
theorem J_lmul (X : Ok E x cc own rm0 nL0) {u v : Int64} (hdg : decode cc pc = .ok (.lmul, 1)) (k1 : J E x k n w (pc + 1) lv (.long (u * v) :: st)) : J E x k n w pc lv (.long v :: .long u :: st) := by
  obtain ⟨l, D, cy⟩ := E
  obtain ⟨p, e, R, s, m, args, below, meth, c, A, nL, Q⟩ := x
  obtain ⟨hx, hb, hml, hown, hG, hK, hN, hA, hR, hnl⟩ := X
  intro H locs ls hP hD hS hv
  exact lv_lmul hx hb hdg (k1 H locs ls hP hD hS hv)
theorem J_lxor (X : Ok E x cc own rm0 nL0) {u v : Int64} (hdg : decode cc pc = .ok (.lxor, 1)) (k1 : J E x k n w (pc + 1) lv (.long (u ^^^ v) :: st)) : J E x k n w pc lv (.long v :: .long u :: st) := by
  obtain ⟨l, D, cy⟩ := E
  obtain ⟨p, e, R, s, m, args, below, meth, c, A, nL, Q⟩ := x
  obtain ⟨hx, hb, hml, hown, hG, hK, hN, hA, hR, hnl⟩ := X
  intro H locs ls hP hD hS hv
  exact lv_lxor hx hb hdg (k1 H locs ls hP hD hS hv)
theorem J_idiv (X : Ok E x cc own rm0 nL0) {u v : Int32} (hdg : decode cc pc = .ok (.idiv, 1)) (hne : ¬ v = 0) (k1 : J E x k n w (pc + 1) lv (.int (u / v) :: st)) : J E x k n w pc lv (.int v :: .int u :: st) := by
  obtain ⟨l, D, cy⟩ := E
  obtain ⟨p, e, R, s, m, args, below, meth, c, A, nL, Q⟩ := x
  obtain ⟨hx, hb, hml, hown, hG, hK, hN, hA, hR, hnl⟩ := X
  intro H locs ls hP hD hS hv
  exact lv_idiv hx hb hdg hne (k1 H locs ls hP hD hS hv)
theorem J_irem (X : Ok E x cc own rm0 nL0) {u v : Int32} (hdg : decode cc pc = .ok (.irem, 1)) (hne : ¬ v = 0) (k1 : J E x k n w (pc + 1) lv (.int (u - u / v * v) :: st)) : J E x k n w pc lv (.int v :: .int u :: st) := by
  obtain ⟨l, D, cy⟩ := E
  obtain ⟨p, e, R, s, m, args, below, meth, c, A, nL, Q⟩ := x
  obtain ⟨hx, hb, hml, hown, hG, hK, hN, hA, hR, hnl⟩ := X
  intro H locs ls hP hD hS hv
  exact lv_irem hx hb hdg hne (k1 H locs ls hP hD hS hv)
theorem J_ldiv (X : Ok E x cc own rm0 nL0) {u v : Int64} (hdg : decode cc pc = .ok (.ldiv, 1)) (hne : ¬ v = 0) (k1 : J E x k n w (pc + 1) lv (.long (u / v) :: st)) : J E x k n w pc lv (.long v :: .long u :: st) := by
  obtain ⟨l, D, cy⟩ := E
  obtain ⟨p, e, R, s, m, args, below, meth, c, A, nL, Q⟩ := x
  obtain ⟨hx, hb, hml, hown, hG, hK, hN, hA, hR, hnl⟩ := X
  intro H locs ls hP hD hS hv
  exact lv_ldiv hx hb hdg hne (k1 H locs ls hP hD hS hv)
theorem J_lrem (X : Ok E x cc own rm0 nL0) {u v : Int64} (hdg : decode cc pc = .ok (.lrem, 1)) (hne : ¬ v = 0) (k1 : J E x k n w (pc + 1) lv (.long (u - u / v * v) :: st)) : J E x k n w pc lv (.long v :: .long u :: st) := by
  obtain ⟨l, D, cy⟩ := E
  obtain ⟨p, e, R, s, m, args, below, meth, c, A, nL, Q⟩ := x
  obtain ⟨hx, hb, hml, hown, hG, hK, hN, hA, hR, hnl⟩ := X
  intro H locs ls hP hD hS hv
  exact lv_lrem hx hb hdg hne (k1 H locs ls hP hD hS hv)
theorem J_ineg (X : Ok E x cc own rm0 nL0) {u : Int32} (hdg : decode cc pc = .ok (.ineg, 1)) (k1 : J E x k n w (pc + 1) lv (.int (-u) :: st)) : J E x k n w pc lv (.int u :: st) := by
  obtain ⟨l, D, cy⟩ := E
  obtain ⟨p, e, R, s, m, args, below, meth, c, A, nL, Q⟩ := x
  obtain ⟨hx, hb, hml, hown, hG, hK, hN, hA, hR, hnl⟩ := X
  intro H locs ls hP hD hS hv
  exact lv_ineg hx hb hdg (k1 H locs ls hP hD hS hv)
theorem J_i2l (X : Ok E x cc own rm0 nL0) {u : Int32} (hdg : decode cc pc = .ok (.i2l, 1)) (k1 : J E x k n w (pc + 1) lv (.long u.toInt64 :: st)) : J E x k n w pc lv (.int u :: st) := by
  obtain ⟨l, D, cy⟩ := E
  obtain ⟨p, e, R, s, m, args, below, meth, c, A, nL, Q⟩ := x
  obtain ⟨hx, hb, hml, hown, hG, hK, hN, hA, hR, hnl⟩ := X
  intro H locs ls hP hD hS hv
  exact lv_i2l hx hb hdg rfl (k1 H locs ls hP hD hS hv)
theorem J_l2i (X : Ok E x cc own rm0 nL0) {u : Int64} (hdg : decode cc pc = .ok (.l2i, 1)) (k1 : J E x k n w (pc + 1) lv (.int u.toInt32 :: st)) : J E x k n w pc lv (.long u :: st) := by
  obtain ⟨l, D, cy⟩ := E
  obtain ⟨p, e, R, s, m, args, below, meth, c, A, nL, Q⟩ := x
  obtain ⟨hx, hb, hml, hown, hG, hK, hN, hA, hR, hnl⟩ := X
  intro H locs ls hP hD hS hv
  exact lv_l2i hx hb hdg rfl (k1 H locs ls hP hD hS hv)
theorem J_iushr (X : Ok E x cc own rm0 nL0) {u v : Int32} (hdg : decode cc pc = .ok (.iushr, 1)) (k1 : J E x k n w (pc + 1) lv (.int (u.toUInt32 >>> (v.toUInt32 &&& Int32.toUInt32 31)).toInt32 :: st)) : J E x k n w pc lv (.int v :: .int u :: st) := by
  obtain ⟨l, D, cy⟩ := E
  obtain ⟨p, e, R, s, m, args, below, meth, c, A, nL, Q⟩ := x
  obtain ⟨hx, hb, hml, hown, hG, hK, hN, hA, hR, hnl⟩ := X
  intro H locs ls hP hD hS hv
  exact lv_iushr hx hb hdg rfl (k1 H locs ls hP hD hS hv)
theorem J_lcmp (X : Ok E x cc own rm0 nL0) {u v : Int64} (hdg : decode cc pc = .ok (.lcmp, 1)) (k1 : J E x k n w (pc + 1) lv (.int (lg_cmp u v) :: st)) : J E x k n w pc lv (.long v :: .long u :: st) := by
  obtain ⟨l, D, cy⟩ := E
  obtain ⟨p, e, R, s, m, args, below, meth, c, A, nL, Q⟩ := x
  obtain ⟨hx, hb, hml, hown, hG, hK, hN, hA, hR, hnl⟩ := X
  intro H locs ls hP hD hS hv
  exact W.lcmp hx hb hdg (k1 H locs ls hP hD hS hv)
theorem J_dup (X : Ok E x cc own rm0 nL0) {u : Value} (hdg : decode cc pc = .ok (.dup, 1)) (hc : u.category = 1) (k1 : J E x k n w (pc + 1) lv (u :: u :: st)) : J E x k n w pc lv (u :: st) := by
  obtain ⟨l, D, cy⟩ := E
  obtain ⟨p, e, R, s, m, args, below, meth, c, A, nL, Q⟩ := x
  obtain ⟨hx, hb, hml, hown, hG, hK, hN, hA, hR, hnl⟩ := X
  intro H locs ls hP hD hS hv
  exact lv_dup hx hb hdg hc (k1 H locs ls hP hD hS hv)
theorem J_pop (X : Ok E x cc own rm0 nL0) {u : Value} (hdg : decode cc pc = .ok (.pop, 1)) (hc : u.category = 1) (k1 : J E x k n w (pc + 1) lv (st)) : J E x k n w pc lv (u :: st) := by
  obtain ⟨l, D, cy⟩ := E
  obtain ⟨p, e, R, s, m, args, below, meth, c, A, nL, Q⟩ := x
  obtain ⟨hx, hb, hml, hown, hG, hK, hN, hA, hR, hnl⟩ := X
  intro H locs ls hP hD hS hv
  exact lv_pop hx hb hdg hc (k1 H locs ls hP hD hS hv)
theorem J_dup2 (X : Ok E x cc own rm0 nL0) {u v : Value} (hdg : decode cc pc = .ok (.dup2, 1)) (hc : u.category = 1) (hc2 : v.category = 1) (k1 : J E x k n w (pc + 1) lv (u :: v :: u :: v :: st)) : J E x k n w pc lv (u :: v :: st) := by
  obtain ⟨l, D, cy⟩ := E
  obtain ⟨p, e, R, s, m, args, below, meth, c, A, nL, Q⟩ := x
  obtain ⟨hx, hb, hml, hown, hG, hK, hN, hA, hR, hnl⟩ := X
  intro H locs ls hP hD hS hv
  exact lv_dup2_11 hx hb hdg hc hc2 (k1 H locs ls hP hD hS hv)
theorem J_if_eq (X : Ok E x cc own rm0 nL0) {u : Int32} {off : Int} (tgt : Nat) (hdg : decode cc pc = .ok (.ifCond .eq off, 3)) (ht : (pc : Int) + off = (tgt : Int)) (kt : u = 0 → J E x k n w tgt lv st) (kf : ¬ u = 0 → J E x k n w (pc + 3) lv st) : J E x k n w pc lv (.int u :: st) := by
  obtain ⟨l, D, cy⟩ := E
  obtain ⟨p, e, R, s, m, args, below, meth, c, A, nL, Q⟩ := x
  obtain ⟨hx, hb, hml, hown, hG, hK, hN, hA, hR, hnl⟩ := X
  intro H locs ls hP hD hS hv
  exact lv_if_eq hx hb hdg ht (fun h => kt h H locs ls hP hD hS hv) (fun h => kf h H locs ls hP hD hS hv)
theorem J_icmp_eq (X : Ok E x cc own rm0 nL0) {u v : Int32} {off : Int} (tgt : Nat) (hdg : decode cc pc = .ok (.if_icmp .eq off, 3)) (ht : (pc : Int) + off = (tgt : Int)) (kt : u = v → J E x k n w tgt lv st) (kf : ¬ u = v → J E x k n w (pc + 3) lv st) : J E x k n w pc lv (.int v :: .int u :: st) := by
  obtain ⟨l, D, cy⟩ := E
  obtain ⟨p, e, R, s, m, args, below, meth, c, A, nL, Q⟩ := x
  obtain ⟨hx, hb, hml, hown, hG, hK, hN, hA, hR, hnl⟩ := X
  intro H locs ls hP hD hS hv
  exact lv_icmp_eq hx hb hdg ht (fun h => kt h H locs ls hP hD hS hv) (fun h => kf h H locs ls hP hD hS hv)
theorem J_if_ne (X : Ok E x cc own rm0 nL0) {u : Int32} {off : Int} (tgt : Nat) (hdg : decode cc pc = .ok (.ifCond .ne off, 3)) (ht : (pc : Int) + off = (tgt : Int)) (kt : ¬ u = 0 → J E x k n w tgt lv st) (kf : u = 0 → J E x k n w (pc + 3) lv st) : J E x k n w pc lv (.int u :: st) := by
  obtain ⟨l, D, cy⟩ := E
  obtain ⟨p, e, R, s, m, args, below, meth, c, A, nL, Q⟩ := x
  obtain ⟨hx, hb, hml, hown, hG, hK, hN, hA, hR, hnl⟩ := X
  intro H locs ls hP hD hS hv
  exact lv_if_ne hx hb hdg ht (fun h => kt h H locs ls hP hD hS hv) (fun h => kf h H locs ls hP hD hS hv)
theorem J_icmp_ne (X : Ok E x cc own rm0 nL0) {u v : Int32} {off : Int} (tgt : Nat) (hdg : decode cc pc = .ok (.if_icmp .ne off, 3)) (ht : (pc : Int) + off = (tgt : Int)) (kt : ¬ u = v → J E x k n w tgt lv st) (kf : u = v → J E x k n w (pc + 3) lv st) : J E x k n w pc lv (.int v :: .int u :: st) := by
  obtain ⟨l, D, cy⟩ := E
  obtain ⟨p, e, R, s, m, args, below, meth, c, A, nL, Q⟩ := x
  obtain ⟨hx, hb, hml, hown, hG, hK, hN, hA, hR, hnl⟩ := X
  intro H locs ls hP hD hS hv
  exact lv_icmp_ne hx hb hdg ht (fun h => kt h H locs ls hP hD hS hv) (fun h => kf h H locs ls hP hD hS hv)
theorem J_if_lt (X : Ok E x cc own rm0 nL0) {u : Int32} {off : Int} (tgt : Nat) (hdg : decode cc pc = .ok (.ifCond .lt off, 3)) (ht : (pc : Int) + off = (tgt : Int)) (kt : u < 0 → J E x k n w tgt lv st) (kf : ¬ u < 0 → J E x k n w (pc + 3) lv st) : J E x k n w pc lv (.int u :: st) := by
  obtain ⟨l, D, cy⟩ := E
  obtain ⟨p, e, R, s, m, args, below, meth, c, A, nL, Q⟩ := x
  obtain ⟨hx, hb, hml, hown, hG, hK, hN, hA, hR, hnl⟩ := X
  intro H locs ls hP hD hS hv
  exact lv_if_lt hx hb hdg ht (fun h => kt h H locs ls hP hD hS hv) (fun h => kf h H locs ls hP hD hS hv)
theorem J_icmp_lt (X : Ok E x cc own rm0 nL0) {u v : Int32} {off : Int} (tgt : Nat) (hdg : decode cc pc = .ok (.if_icmp .lt off, 3)) (ht : (pc : Int) + off = (tgt : Int)) (kt : u < v → J E x k n w tgt lv st) (kf : ¬ u < v → J E x k n w (pc + 3) lv st) : J E x k n w pc lv (.int v :: .int u :: st) := by
  obtain ⟨l, D, cy⟩ := E
  obtain ⟨p, e, R, s, m, args, below, meth, c, A, nL, Q⟩ := x
  obtain ⟨hx, hb, hml, hown, hG, hK, hN, hA, hR, hnl⟩ := X
  intro H locs ls hP hD hS hv
  exact lv_icmp_lt hx hb hdg ht (fun h => kt h H locs ls hP hD hS hv) (fun h => kf h H locs ls hP hD hS hv)
theorem J_if_ge (X : Ok E x cc own rm0 nL0) {u : Int32} {off : Int} (tgt : Nat) (hdg : decode cc pc = .ok (.ifCond .ge off, 3)) (ht : (pc : Int) + off = (tgt : Int)) (kt : 0 ≤ u → J E x k n w tgt lv st) (kf : ¬ 0 ≤ u → J E x k n w (pc + 3) lv st) : J E x k n w pc lv (.int u :: st) := by
  obtain ⟨l, D, cy⟩ := E
  obtain ⟨p, e, R, s, m, args, below, meth, c, A, nL, Q⟩ := x
  obtain ⟨hx, hb, hml, hown, hG, hK, hN, hA, hR, hnl⟩ := X
  intro H locs ls hP hD hS hv
  exact lv_if_ge hx hb hdg ht (fun h => kt h H locs ls hP hD hS hv) (fun h => kf h H locs ls hP hD hS hv)
theorem J_icmp_ge (X : Ok E x cc own rm0 nL0) {u v : Int32} {off : Int} (tgt : Nat) (hdg : decode cc pc = .ok (.if_icmp .ge off, 3)) (ht : (pc : Int) + off = (tgt : Int)) (kt : v ≤ u → J E x k n w tgt lv st) (kf : ¬ v ≤ u → J E x k n w (pc + 3) lv st) : J E x k n w pc lv (.int v :: .int u :: st) := by
  obtain ⟨l, D, cy⟩ := E
  obtain ⟨p, e, R, s, m, args, below, meth, c, A, nL, Q⟩ := x
  obtain ⟨hx, hb, hml, hown, hG, hK, hN, hA, hR, hnl⟩ := X
  intro H locs ls hP hD hS hv
  exact lv_icmp_ge hx hb hdg ht (fun h => kt h H locs ls hP hD hS hv) (fun h => kf h H locs ls hP hD hS hv)
theorem J_if_gt (X : Ok E x cc own rm0 nL0) {u : Int32} {off : Int} (tgt : Nat) (hdg : decode cc pc = .ok (.ifCond .gt off, 3)) (ht : (pc : Int) + off = (tgt : Int)) (kt : 0 < u → J E x k n w tgt lv st) (kf : ¬ 0 < u → J E x k n w (pc + 3) lv st) : J E x k n w pc lv (.int u :: st) := by
  obtain ⟨l, D, cy⟩ := E
  obtain ⟨p, e, R, s, m, args, below, meth, c, A, nL, Q⟩ := x
  obtain ⟨hx, hb, hml, hown, hG, hK, hN, hA, hR, hnl⟩ := X
  intro H locs ls hP hD hS hv
  exact lv_if_gt hx hb hdg ht (fun h => kt h H locs ls hP hD hS hv) (fun h => kf h H locs ls hP hD hS hv)
theorem J_icmp_gt (X : Ok E x cc own rm0 nL0) {u v : Int32} {off : Int} (tgt : Nat) (hdg : decode cc pc = .ok (.if_icmp .gt off, 3)) (ht : (pc : Int) + off = (tgt : Int)) (kt : v < u → J E x k n w tgt lv st) (kf : ¬ v < u → J E x k n w (pc + 3) lv st) : J E x k n w pc lv (.int v :: .int u :: st) := by
  obtain ⟨l, D, cy⟩ := E
  obtain ⟨p, e, R, s, m, args, below, meth, c, A, nL, Q⟩ := x
  obtain ⟨hx, hb, hml, hown, hG, hK, hN, hA, hR, hnl⟩ := X
  intro H locs ls hP hD hS hv
  exact lv_icmp_gt hx hb hdg ht (fun h => kt h H locs ls hP hD hS hv) (fun h => kf h H locs ls hP hD hS hv)
theorem J_if_le (X : Ok E x cc own rm0 nL0) {u : Int32} {off : Int} (tgt : Nat) (hdg : decode cc pc = .ok (.ifCond .le off, 3)) (ht : (pc : Int) + off = (tgt : Int)) (kt : u ≤ 0 → J E x k n w tgt lv st) (kf : ¬ u ≤ 0 → J E x k n w (pc + 3) lv st) : J E x k n w pc lv (.int u :: st) := by
  obtain ⟨l, D, cy⟩ := E
  obtain ⟨p, e, R, s, m, args, below, meth, c, A, nL, Q⟩ := x
  obtain ⟨hx, hb, hml, hown, hG, hK, hN, hA, hR, hnl⟩ := X
  intro H locs ls hP hD hS hv
  exact lv_if_le hx hb hdg ht (fun h => kt h H locs ls hP hD hS hv) (fun h => kf h H locs ls hP hD hS hv)
theorem J_icmp_le (X : Ok E x cc own rm0 nL0) {u v : Int32} {off : Int} (tgt : Nat) (hdg : decode cc pc = .ok (.if_icmp .le off, 3)) (ht : (pc : Int) + off = (tgt : Int)) (kt : u ≤ v → J E x k n w tgt lv st) (kf : ¬ u ≤ v → J E x k n w (pc + 3) lv st) : J E x k n w pc lv (.int v :: .int u :: st) := by
  obtain ⟨l, D, cy⟩ := E
  obtain ⟨p, e, R, s, m, args, below, meth, c, A, nL, Q⟩ := x
  obtain ⟨hx, hb, hml, hown, hG, hK, hN, hA, hR, hnl⟩ := X
  intro H locs ls hP hD hS hv
  exact lv_icmp_le hx hb hdg ht (fun h => kt h H locs ls hP hD hS hv) (fun h => kf h H locs ls hP hD hS hv)
theorem J_goto (X : Ok E x cc own rm0 nL0) {off : Int} (tgt : Nat) (hdg : decode cc pc = .ok (.goto off, 3)) (ht : (pc : Int) + off = (tgt : Int)) (k1 : J E x k n w tgt lv st) : J E x k n w pc lv st := by
  obtain ⟨l, D, cy⟩ := E
  obtain ⟨p, e, R, s, m, args, below, meth, c, A, nL, Q⟩ := x
  obtain ⟨hx, hb, hml, hown, hG, hK, hN, hA, hR, hnl⟩ := X
  intro H locs ls hP hD hS hv
  exact lv_goto hx hb hdg ht (k1 H locs ls hP hD hS hv)
theorem J_getf (X : Ok E x cc own rm0 nL0) {a : Nat} {C : String} {T : u_T} {N ci idx : Nat} {fs : List Value} {v : Value} (q0 : Nat) (he : w[q0]? = some (a, .inr (ci, fs))) (hc : vwCl[ci]? = some (C, T, N)) (hin : ∀ z ∈ u_ws C T N, z ∈ GW) (j : Nat) (hj : j < N) (hw : Cond.fieldLink own idx (T j).1 (T j).2.1 (T j).2.2.1 ∈ GW) (hv1 : fs[j]? = some v) (hdg : decode cc pc = .ok (.getfield idx, 3)) (k1 : J E x k n w (pc + 3) lv (v :: st)) : J E x k n w pc lv (.ref a :: st) := by
  obtain ⟨l, D, cy⟩ := E
  obtain ⟨p, e, R, s, m, args, below, meth, c, A, nL, Q⟩ := x
  obtain ⟨hx, hb, hml, hown, hG, hK, hN, hA, hR, hnl⟩ := X
  intro H locs ls hP hD hS hv
  exact va_get hx hb hG hin hown hK hP q0 he hc j hj (hG _ hw) (fun _ h9 => h9) hv1 hdg (k1 H locs ls hP hD hS hv)
theorem J_getfN (X : Ok E x cc own rm0 nL0) {a : Nat} {C host : String} {T : u_T} {N ci idx : Nat} {fs : List Value} {v : Value} (q0 : Nat) (he : w[q0]? = some (a, .inr (ci, fs))) (hc : vwCl[ci]? = some (C, T, N)) (hin : ∀ z ∈ u_ws C T N, z ∈ GW) (j : Nat) (hj : j < N) (hw : Cond.fieldLinkNest own idx (T j).1 (T j).2.1 (T j).2.2.1 host ∈ NW) (hv1 : fs[j]? = some v) (hdg : decode cc pc = .ok (.getfield idx, 3)) (k1 : J E x k n w (pc + 3) lv (v :: st)) : J E x k n w pc lv (.ref a :: st) := by
  obtain ⟨l, D, cy⟩ := E
  obtain ⟨p, e, R, s, m, args, below, meth, c, A, nL, Q⟩ := x
  obtain ⟨hx, hb, hml, hown, hG, hK, hN, hA, hR, hnl⟩ := X
  intro H locs ls hP hD hS hv
  exact va_getN hx hb hG hin hown hK hP q0 he hc j hj (va_Nw.use rfl (hN _ hw)) (fun _ h9 => h9) hv1 hdg (k1 H locs ls hP hD hS hv)
theorem J_putf (X : Ok E x cc own rm0 nL0) {a : Nat} {C : String} {T : u_T} {N ci idx : Nat} {fs : List Value} {v : Value} {ty : FieldType} {w1 : va_W} (q0 : Nat) (he : w[q0]? = some (a, .inr (ci, fs))) (hc : vwCl[ci]? = some (C, T, N)) (hin : ∀ z ∈ u_ws C T N, z ∈ GW) {ty0 : Nat → FieldType} (hty : ∀ i, i < N → parseFieldDescriptor (T i).2.2.1 = some (ty0 i)) (hnm : ∀ i, i < N → ∀ i2, i2 < N → i ≠ i2 → (T i).2.1 ≠ (T i2).2.1) (j : Nat) (hj : j < N) (hw : Cond.fieldLink own idx (T j).1 (T j).2.1 (T j).2.2.1 ∈ GW) (hfin : (T j).2.2.2 = false) (hd : parseFieldDescriptor (T j).2.2.1 = some ty) (hn : narrow ty v = v) (hfit : fits ty v = true) (hl : j < fs.length) (hdg : decode cc pc = .ok (.putfield idx, 3)) (e1 : w.set q0 (a, .inr (ci, fs.set j v)) = w1) (k1 : J E x k n w1 (pc + 3) lv st) : J E x k n w pc lv (v :: .ref a :: st) := by
  obtain ⟨l, D, cy⟩ := E
  obtain ⟨p, e, R, s, m, args, below, meth, c, A, nL, Q⟩ := x
  obtain ⟨hx, hb, hml, hown, hG, hK, hN, hA, hR, hnl⟩ := X
  intro H locs ls hP hD hS hv
  subst e1
  exact va_put hx hb hG hin ty0 hty hnm hown hK hP hD hS q0 he hc j hj (hG _ hw) (fun _ h9 => h9) hfin hd hn hfit hl hdg (fun H1 locs1 hP hD hS => k1 H1 locs1 ls hP hD hS hv)
theorem J_putfN (X : Ok E x cc own rm0 nL0) {a : Nat} {C host : String} {T : u_T} {N ci idx : Nat} {fs : List Value} {v : Value} {ty : FieldType} {w1 : va_W} (q0 : Nat) (he : w[q0]? = some (a, .inr (ci, fs))) (hc : vwCl[ci]? = some (C, T, N)) (hin : ∀ z ∈ u_ws C T N, z ∈ GW) {ty0 : Nat → FieldType} (hty : ∀ i, i < N → parseFieldDescriptor (T i).2.2.1 = some (ty0 i)) (hnm : ∀ i, i < N → ∀ i2, i2 < N → i ≠ i2 → (T i).2.1 ≠ (T i2).2.1) (j : Nat) (hj : j < N) (hw : Cond.fieldLinkNest own idx (T j).1 (T j).2.1 (T j).2.2.1 host ∈ NW) (hfin : (T j).2.2.2 = false) (hd : parseFieldDescriptor (T j).2.2.1 = some ty) (hn : narrow ty v = v) (hfit : fits ty v = true) (hl : j < fs.length) (hdg : decode cc pc = .ok (.putfield idx, 3)) (e1 : w.set q0 (a, .inr (ci, fs.set j v)) = w1) (k1 : J E x k n w1 (pc + 3) lv st) : J E x k n w pc lv (v :: .ref a :: st) := by
  obtain ⟨l, D, cy⟩ := E
  obtain ⟨p, e, R, s, m, args, below, meth, c, A, nL, Q⟩ := x
  obtain ⟨hx, hb, hml, hown, hG, hK, hN, hA, hR, hnl⟩ := X
  intro H locs ls hP hD hS hv
  subst e1
  exact va_putN hx hb hG hin ty0 hty hnm hown hK hP hD hS q0 he hc j hj (va_Nw.use rfl (hN _ hw)) (fun _ h9 => h9) hfin hd hn hfit hl hdg (fun H1 locs1 hP hD hS => k1 H1 locs1 ls hP hD hS hv)
theorem J_iald (X : Ok E x cc own rm0 nL0) {a N : Nat} {f : Nat → Int32} {i : Int32} (q0 : Nat) (he : w[q0]? = some (a, .inl (E.2.2 0, N, .inl f))) (hi : inb i N) (hdg : decode cc pc = .ok (.iaload, 1)) (k1 : J E x k n w (pc + 1) lv (.int (f i.toNatClampNeg) :: st)) : J E x k n w pc lv (.int i :: .ref a :: st) := by
  obtain ⟨l, D, cy⟩ := E
  obtain ⟨p, e, R, s, m, args, below, meth, c, A, nL, Q⟩ := x
  obtain ⟨hx, hb, hml, hown, hG, hK, hN, hA, hR, hnl⟩ := X
  intro H locs ls hP hD hS hv
  exact va_iald hx hb hK hP q0 0 he rfl (inb_in hi) hdg (k1 H locs ls hP hD hS hv)
theorem J_iast (X : Ok E x cc own rm0 nL0) {a N : Nat} {f : Nat → Int32} {i v : Int32} {w1 : va_W} (q0 : Nat) (he : w[q0]? = some (a, .inl (E.2.2 0, N, .inl f))) (hi : inb i N) (hdg : decode cc pc = .ok (.iastore, 1)) (e1 : w.set q0 (a, .inl (E.2.2 0, N, .inl (upd f i.toNatClampNeg v))) = w1) (k1 : J E x k n w1 (pc + 1) lv st) : J E x k n w pc lv (.int v :: .int i :: .ref a :: st) := by
  obtain ⟨l, D, cy⟩ := E
  obtain ⟨p, e, R, s, m, args, below, meth, c, A, nL, Q⟩ := x
  obtain ⟨hx, hb, hml, hown, hG, hK, hN, hA, hR, hnl⟩ := X
  intro H locs ls hP hD hS hv
  subst e1
  exact va_iast hx hb hK hP hD hS q0 0 he rfl (inb_in hi) hdg (fun H1 locs1 hP hD hS => k1 H1 locs1 ls hP hD hS hv)
theorem J_sub {E : Ev} {x : Cx} {k n : Nat} {w : va_W} {pc : Nat} {lv lv1 : List (Nat × Value)} {st : List Value} (ks : List Nat) (hl : lv_pick lv ks = lv1) (k1 : J E x k n w pc lv1 st) : J E x k n w pc lv st := by
  obtain ⟨l, D, cy⟩ := E
  obtain ⟨p, e, R, s, m, args, below, meth, c, A, nL, Q⟩ := x
  intro H locs ls hP hD hS hv
  exact k1 H locs ls hP hD hS (lv_sub hv ks hl)
theorem J_nmi {E : Ev} {x : Cx} {k n : Nat} {w : va_W} {pc : Nat} {lv : List (Nat × Value)} {st : List Value} {u v : Int32} (e : v = u) (k1 : J E x k n w pc lv (.int v :: st)) : J E x k n w pc lv (.int u :: st) := e ▸ k1
theorem J_nml {E : Ev} {x : Cx} {k n : Nat} {w : va_W} {pc : Nat} {lv : List (Nat × Value)} {st : List Value} {u v : Int64} (e : v = u) (k1 : J E x k n w pc lv (.long v :: st)) : J E x k n w pc lv (.long u :: st) := e ▸ k1
theorem J_mmax (X : Ok E x cc own rm0 nL0) {idx : Nat} {u v : Int32} (h1 : Cond.methodLink own idx Lib.Math.max.name ∈ GW) (h2 : Cond.static Lib.Math.max.name ∈ GW) (h3 : Cond.initialized "java/lang/Math" ∈ GW) (h4 : Cond.code Lib.Math.max.name Lib.Math.max.code 2 (some .int) ∈ GW) (hf : 1 ≤ rm0.frames) (hlo : (st.map fun v => v.category).sum + 13 ≤ rm0.locals) (hc : k ≤ rm0.cells) (hs : n ≤ rm0.slots) (hdg : decode cc pc = .ok (.invokestatic idx, 3)) (k1 : J E x k n w (pc + 3) lv (.int (if u < v then v else u) :: st)) : J E x k n w pc lv (.int v :: .int u :: st) := by
  obtain ⟨l, D, cy⟩ := E
  obtain ⟨p, e, R, s, m, args, below, meth, c, A, nL, Q⟩ := x
  obtain ⟨hx, hb, hml, hown, hG, hK, hN, hA, hR, hnl⟩ := X
  intro H locs ls hP hD hS hv
  subst hR
  exact va_mmax hx hb (hml.trans hv.1.symm) hown (hG _ h1) (hG _ h2) (hG _ h3) (hG _ h4) hf hlo hc hs hdg (k1 H locs ls hP hD hS hv)
theorem J_mmin (X : Ok E x cc own rm0 nL0) {idx : Nat} {u v : Int32} (h1 : Cond.methodLink own idx Lib.Math.min.name ∈ GW) (h2 : Cond.static Lib.Math.min.name ∈ GW) (h3 : Cond.initialized "java/lang/Math" ∈ GW) (h4 : Cond.code Lib.Math.min.name Lib.Math.min.code 2 (some .int) ∈ GW) (hf : 1 ≤ rm0.frames) (hlo : (st.map fun v => v.category).sum + 13 ≤ rm0.locals) (hc : k ≤ rm0.cells) (hs : n ≤ rm0.slots) (hdg : decode cc pc = .ok (.invokestatic idx, 3)) (k1 : J E x k n w (pc + 3) lv (.int (if v < u then v else u) :: st)) : J E x k n w pc lv (.int v :: .int u :: st) := by
  obtain ⟨l, D, cy⟩ := E
  obtain ⟨p, e, R, s, m, args, below, meth, c, A, nL, Q⟩ := x
  obtain ⟨hx, hb, hml, hown, hG, hK, hN, hA, hR, hnl⟩ := X
  intro H locs ls hP hD hS hv
  subst hR
  exact va_mmin hx hb (hml.trans hv.1.symm) hown (hG _ h1) (hG _ h2) (hG _ h3) (hG _ h4) hf hlo hc hs hdg (k1 H locs ls hP hD hS hv)
theorem J_mmaxl (X : Ok E x cc own rm0 nL0) {idx : Nat} {u v : Int64} (h1 : Cond.methodLink own idx Lib.MathLoose.max_long.x ∈ GW) (h2 : Cond.static Lib.MathLoose.max_long.x ∈ GW) (h3 : Cond.initialized "java/lang/Math" ∈ GW) (h4 : Cond.code Lib.MathLoose.max_long.x Lib.MathLoose.max_long.code 4 (some .long) ∈ GW) (hf : 1 ≤ rm0.frames) (hlo : (st.map fun v => v.category).sum + 15 ≤ rm0.locals) (hc : k ≤ rm0.cells) (hs : n ≤ rm0.slots) (hdg : decode cc pc = .ok (.invokestatic idx, 3)) (k1 : J E x k n w (pc + 3) lv (.long (if v < u then u else v) :: st)) : J E x k n w pc lv (.long v :: .long u :: st) := by
  obtain ⟨l, D, cy⟩ := E
  obtain ⟨p, e, R, s, m, args, below, meth, c, A, nL, Q⟩ := x
  obtain ⟨hx, hb, hml, hown, hG, hK, hN, hA, hR, hnl⟩ := X
  intro H locs ls hP hD hS hv
  subst hR
  exact va_mmax_long hx hb (hml.trans hv.1.symm) hown (hG _ h1) (hG _ h2) (hG _ h3) (hG _ h4) hf hlo hc hs hdg (k1 H locs ls hP hD hS hv)
theorem J_mminl (X : Ok E x cc own rm0 nL0) {idx : Nat} {u v : Int64} (h1 : Cond.methodLink own idx Lib.MathLoose.min_long.x ∈ GW) (h2 : Cond.static Lib.MathLoose.min_long.x ∈ GW) (h3 : Cond.initialized "java/lang/Math" ∈ GW) (h4 : Cond.code Lib.MathLoose.min_long.x Lib.MathLoose.min_long.code 4 (some .long) ∈ GW) (hf : 1 ≤ rm0.frames) (hlo : (st.map fun v => v.category).sum + 15 ≤ rm0.locals) (hc : k ≤ rm0.cells) (hs : n ≤ rm0.slots) (hdg : decode cc pc = .ok (.invokestatic idx, 3)) (k1 : J E x k n w (pc + 3) lv (.long (if v < u then v else u) :: st)) : J E x k n w pc lv (.long v :: .long u :: st) := by
  obtain ⟨l, D, cy⟩ := E
  obtain ⟨p, e, R, s, m, args, below, meth, c, A, nL, Q⟩ := x
  obtain ⟨hx, hb, hml, hown, hG, hK, hN, hA, hR, hnl⟩ := X
  intro H locs ls hP hD hS hv
  subst hR
  exact va_mmin_long hx hb (hml.trans hv.1.symm) hown (hG _ h1) (hG _ h2) (hG _ h3) (hG _ h4) hf hlo hc hs hdg (k1 H locs ls hP hD hS hv)
theorem J_mabs (X : Ok E x cc own rm0 nL0) {idx : Nat} {u : Int32} (h1 : Cond.methodLink own idx Lib.Math.abs.name ∈ GW) (h2 : Cond.static Lib.Math.abs.name ∈ GW) (h3 : Cond.initialized "java/lang/Math" ∈ GW) (h4 : Cond.code Lib.Math.abs.name Lib.Math.abs.code 1 (some .int) ∈ GW) (hf : 1 ≤ rm0.frames) (hlo : (st.map fun v => v.category).sum + 13 ≤ rm0.locals) (hc : k ≤ rm0.cells) (hs : n ≤ rm0.slots) (hdg : decode cc pc = .ok (.invokestatic idx, 3)) (k1 : J E x k n w (pc + 3) lv (.int (if 0 ≤ u then u else 0 - u) :: st)) : J E x k n w pc lv (.int u :: st) := by
  obtain ⟨l, D, cy⟩ := E
  obtain ⟨p, e, R, s, m, args, below, meth, c, A, nL, Q⟩ := x
  obtain ⟨hx, hb, hml, hown, hG, hK, hN, hA, hR, hnl⟩ := X
  intro H locs ls hP hD hS hv
  subst hR
  exact va_mabs hx hb (hml.trans hv.1.symm) hown (hG _ h1) (hG _ h2) (hG _ h3) (hG _ h4) hf hlo hc hs hdg (k1 H locs ls hP hD hS hv)
end JROWS
def Pre0 (E : Ev) (sz : Nat) (w : va_W) (av : List Value) : Array Value → State → Prop := va_Pc av (fun U => U.heap.size = sz ∧ va_P E.2.1 vwCl w U.heap ∧ va_K E.2.1 vwCl (tyL E.2.2) U ∧ (∀ z ∈ NW, va_Nw z U) ∧ va_D (fun _ => True) w)
def End0 (E : Ev) (sz : Nat) (w w1 : va_W) (t : State) : Prop := va_P E.2.1 vwCl w1 t.heap ∧ va_D (va_A w sz) w1
def rmC (f lo : Nat) : Room := { frames := f, cells := 0, slots := 0, locals := lo }
def CtI (E : Ev) (y : MethodName) (b : ByteArray) (nl : Nat) (rt : FieldType) (f lo : Nat) (w : va_W) (av : List Value) (r : Int32) (w1 : va_W) : Prop := ∀ sz, Met E.1 y (.code y b nl (some rt) :: GW) (rmC f lo) (Pre0 E sz w av) (va_Qi (fun (r2 : Int32) (_ : Unit) => r2 = r) (fun _ t => End0 E sz w w1 t) (va_A w sz)) 0 0 (va_A w sz)
def CtL (E : Ev) (y : MethodName) (b : ByteArray) (nl : Nat) (f lo : Nat) (w : va_W) (av : List Value) (r : Int64) (w1 : va_W) : Prop := ∀ sz, Met E.1 y (.code y b nl (some .long) :: GW) (rmC f lo) (Pre0 E sz w av) (va_Ql (fun (r2 : Int64) (_ : Unit) => r2 = r) (fun _ t => End0 E sz w w1 t) (va_A w sz)) 0 0 (va_A w sz)
def CtV (E : Ev) (y : MethodName) (b : ByteArray) (nl : Nat) (f lo : Nat) (w : va_W) (av : List Value) (w1 : va_W) : Prop := ∀ sz, Met E.1 y (.code y b nl none :: GW) (rmC f lo) (Pre0 E sz w av) (va_Qv (fun (_ : Unit) => True) (fun _ t => End0 E sz w w1 t) (va_A w sz)) 0 0 (va_A w sz)
theorem Met_ofW2 {l : Launch} {y : MethodName} {ws ws' : List Cond} {rm : Room} {Pc : Array Value → State → Prop} {Qc : Array Value → State → Outcome → State → Prop} {mc ms : Nat} {free : Addr → Prop} {cc : ByteArray} {maxL : Nat} {ret : Option FieldType}
    (hy : plainFor y = true) (hw : ws = Cond.code y cc maxL ret :: ws')
    (body : ∀ p e s m args below meth c s₁, BodyLoose p l y (headSpec ws rm) cc maxL ret e s m args below meth c s₁ → c.maxLocals = maxL → Pc args s →
      W p l e (headSpec ws rm).room s m args below meth c s.heap [] 0 0 (MQ below Qc args s mc ms free) (entryFrame m args maxL)) : Met l y ws rm Pc Qc mc ms free := by
  refine MetFree.of_bodyRF (code := cc) (maxLocals := maxL) (ret := ret) hy ?_ ?_
  · intro args s m h hn
    obtain ⟨meth, c, h1, h2, h3, h4, h5, h6, -, -⟩ := Cond.code_spec hn (atoms_spec (ws := ws) h _ (by rw [hw]; exact List.mem_cons_self))
    exact ⟨meth, c, h1, h2, h3, h4, h5, h6⟩
  · intro p e s m args below meth c s₁ B hml hP _ hst
    have hh0 : s₁.heap = s.heap := by rw [B.state]; rfl
    obtain ⟨t, a1, o, b1, b2, b3⟩ := body p e s m args below meth c s₁ B hml hP s₁ hh0 (Stand.of_body B)
    exact ⟨t, o, hst.trans a1, b1, b2, ⟨b3.1, b3.2⟩⟩
theorem GW_cons {args : Array Value} {s : State} {z : Cond} (h : ∀ q ∈ z :: GW, q.before args s = true) : ∀ q ∈ GW, q.before args s = true := fun q hq => h q (List.mem_cons_of_mem _ hq)
theorem Pre0_blind {E : Ev} {sz : Nat} {w : va_W} {av : List Value} : FrameBlind (Pre0 E sz w av) := fun a U g mk q => by
  obtain ⟨q0, q1, qP, qK, qN, qD⟩ := q
  exact ⟨q0, q1, qP, va_K.moved (u := U) (U := U.calling g mk a) (Vm.Alike.refl U.vm) qK, NW_same (s := U) (U := U.calling g mk a) rfl qN, qD⟩
theorem GW_good {z : Cond} (h : z ∈ GW) : GoodIn GW (z :: GW) := by
  intro q hq
  rcases List.mem_cons.mp hq with rfl | hq
  · exact ⟨h, good_of_word (GW_ok _ h)⟩
  · exact ⟨hq, good_of_word (GW_ok _ hq)⟩
theorem GW_goodV {own C : String} {idx : Nat} {y : MethodName} {z : Cond} (h1 : Cond.methodLink own idx y ∈ GW) (h2 : Cond.instanceMethod y ∈ GW) (h3 : Cond.selects C y y ∈ GW) (h4 : Cond.initialized C ∈ GW) (h5 : z ∈ GW) : GoodIn GW (wsV own idx C y (z :: GW)) := by
  intro q hq
  have hm : q ∈ GW := by
    simp only [wsV, List.cons_append, List.nil_append, List.mem_cons] at hq
    rcases hq with rfl | rfl | rfl | rfl | rfl | hq
    · exact h1
    · exact h2
    · exact h3
    · exact h4
    · exact h5
    · exact hq
  exact ⟨hm, good_of_word (GW_ok _ hm)⟩
theorem GW_goodS {own : String} {idx : Nat} {y : MethodName} {z : Cond} (h1 : Cond.methodLink own idx y ∈ GW) (h2 : Cond.static y ∈ GW) (h4 : Cond.initialized own ∈ GW) (h5 : z ∈ GW) : GoodIn GW (wsS own idx y (z :: GW)) := by
  intro q hq
  have hm : q ∈ GW := by
    simp only [wsS, List.cons_append, List.nil_append, List.mem_cons] at hq
    rcases hq with rfl | rfl | rfl | rfl | hq
    · exact h1
    · exact h2
    · exact h4
    · exact h5
    · exact hq
  exact ⟨hm, good_of_word (GW_ok _ hm)⟩
theorem CtI_of {E : Ev} {y : MethodName} {b : ByteArray} {nl f lo : Nat} {rt : FieldType} {r : Int32} {w w1 : va_W} {av : List Value} (hy : plainFor y = true) (hle : (lg_sl av).length ≤ nl) (body : ∀ x : Cx, Ok E x b y.cls (rmC f lo) nl → (∀ pc lv, decode b pc = .ok (.ireturn, 1) → narrow rt (.int r) = .int r → J E x 0 0 w1 pc lv [.int r]) → J E x 0 0 w 0 (lv_args 0 av) []) : CtI E y b nl rt f lo w av r w1 := by
  obtain ⟨l, D, cy⟩ := E
  intro sz
  refine Met_ofW2 (cc := b) (maxL := nl) (ret := (some rt)) hy rfl ?_
  intro p e s m args below meth c s₁ B hml hv
  obtain ⟨rfl, hsz, hP, hK, hN, hD0⟩ := hv
  have hx := B.exec
  have hb := B.bytes
  have hr := B.returns
  have hts := GW_cons (atoms_spec (ws := .code y b nl (some rt) :: GW) B.pre)
  have hown : s.vm.findClass y.cls = some m.cls := findClass_of_methodNamed B.named
  have hlocks := B.notSynchronized
  subst hsz
  have hD := hD0.self (sz := s.heap.size)
  have hl := lv_entry av (n := nl) hle
  rw [lg_entry_eq]
  have hB := body (p, e, rmC f lo, s, m, av.toArray, below, meth, c, va_A w s.heap.size, nl, MQ below (va_Qi (fun (r2 : Int32) (_ : Unit) => r2 = r) (fun _ t => End0 (l, D, cy) s.heap.size w w1 t) (va_A w s.heap.size)) av.toArray s 0 0 (va_A w s.heap.size)) ⟨hx, hb, hml, hown, hts, hK, hN, fun q h => Or.inr h, rfl, rfl⟩ (fun pc lv hdg hrt H locs ls hP hD hS hv => ?_)
  · exact hB s.heap [] _ hP hD va_S.rf hl
  · exact W.zret (v := r) hx hb hr hrt (fun t ht hW => ⟨⟨r, (), rfl, rfl, by rw [ht]; exact hP, hD⟩, hS.F ht⟩) hS.2.2 hdg
theorem CtL_of {E : Ev} {y : MethodName} {b : ByteArray} {nl f lo : Nat} {r : Int64} {w w1 : va_W} {av : List Value} (hy : plainFor y = true) (hle : (lg_sl av).length ≤ nl) (body : ∀ x : Cx, Ok E x b y.cls (rmC f lo) nl → (∀ pc lv, decode b pc = .ok (.lreturn, 1) → J E x 0 0 w1 pc lv [.long r]) → J E x 0 0 w 0 (lv_args 0 av) []) : CtL E y b nl f lo w av r w1 := by
  obtain ⟨l, D, cy⟩ := E
  intro sz
  refine Met_ofW2 (cc := b) (maxL := nl) (ret := (some .long)) hy rfl ?_
  intro p e s m args below meth c s₁ B hml hv
  obtain ⟨rfl, hsz, hP, hK, hN, hD0⟩ := hv
  have hx := B.exec
  have hb := B.bytes
  have hr := B.returns
  have hts := GW_cons (atoms_spec (ws := .code y b nl (some .long) :: GW) B.pre)
  have hown : s.vm.findClass y.cls = some m.cls := findClass_of_methodNamed B.named
  have hlocks := B.notSynchronized
  subst hsz
  have hD := hD0.self (sz := s.heap.size)
  have hl := lv_entry av (n := nl) hle
  rw [lg_entry_eq]
  have hB := body (p, e, rmC f lo, s, m, av.toArray, below, meth, c, va_A w s.heap.size, nl, MQ below (va_Ql (fun (r2 : Int64) (_ : Unit) => r2 = r) (fun _ t => End0 (l, D, cy) s.heap.size w w1 t) (va_A w s.heap.size)) av.toArray s 0 0 (va_A w s.heap.size)) ⟨hx, hb, hml, hown, hts, hK, hN, fun q h => Or.inr h, rfl, rfl⟩ (fun pc lv hdg H locs ls hP hD hS hv => ?_)
  · exact hB s.heap [] _ hP hD va_S.rf hl
  · exact W.lret (v := r) hx hb hr (fun t ht hW => ⟨⟨r, (), rfl, rfl, by rw [ht]; exact hP, hD⟩, hS.F ht⟩) hS.2.2 hdg
theorem CtV_of {E : Ev} {y : MethodName} {b : ByteArray} {nl f lo : Nat} {w w1 : va_W} {av : List Value} (hy : plainFor y = true) (hle : (lg_sl av).length ≤ nl) (body : ∀ x : Cx, Ok E x b y.cls (rmC f lo) nl → (∀ pc lv, decode b pc = .ok (.return_, 1) → J E x 0 0 w1 pc lv []) → J E x 0 0 w 0 (lv_args 0 av) []) : CtV E y b nl f lo w av w1 := by
  obtain ⟨l, D, cy⟩ := E
  intro sz
  refine Met_ofW2 (cc := b) (maxL := nl) (ret := none) hy rfl ?_
  intro p e s m args below meth c s₁ B hml hv
  obtain ⟨rfl, hsz, hP, hK, hN, hD0⟩ := hv
  have hx := B.exec
  have hb := B.bytes
  have hr := B.returns
  have hts := GW_cons (atoms_spec (ws := .code y b nl none :: GW) B.pre)
  have hown : s.vm.findClass y.cls = some m.cls := findClass_of_methodNamed B.named
  have hlocks := B.notSynchronized
  subst hsz
  have hD := hD0.self (sz := s.heap.size)
  have hl := lv_entry av (n := nl) hle
  rw [lg_entry_eq]
  have hB := body (p, e, rmC f lo, s, m, av.toArray, below, meth, c, va_A w s.heap.size, nl, MQ below (va_Qv (fun (_ : Unit) => True) (fun _ t => End0 (l, D, cy) s.heap.size w w1 t) (va_A w s.heap.size)) av.toArray s 0 0 (va_A w s.heap.size)) ⟨hx, hb, hml, hown, hts, hK, hN, fun q h => Or.inr h, rfl, rfl⟩ (fun pc lv hdg H locs ls hP hD hS hv => ?_)
  · exact hB s.heap [] _ hP hD va_S.rf hl
  · exact W.vret hx hb hr (fun t ht hW => ⟨⟨(), rfl, trivial, by rw [ht]; exact hP, hD⟩, hS.F ht⟩) hS.2.2 hdg
theorem J_callVI {E : Ev} {x : Cx} {cc : ByteArray} {own : String} {rm0 : Room} {nL0 k n : Nat} {w w1 : va_W} {pc : Nat} {lv : List (Nat × Value)} {st rest : List Value} (X : Ok E x cc own rm0 nL0) {T : u_T} {N ci : Nat} {fs : List Value} {a : Nat} {r : Int32} {y : MethodName} {b : ByteArray} {nl f lo idx : Nat} {rt : FieldType} {As : List Value} (hM : CtI E y b nl rt f lo w (.ref a :: As) r w1) (q0 : Nat) (he : w[q0]? = some (a, .inr (ci, fs))) (hc : vwCl[ci]? = some (y.cls, T, N)) (h1 : Cond.methodLink own idx y ∈ GW) (h2 : Cond.instanceMethod y ∈ GW) (h3 : Cond.selects y.cls y y ∈ GW) (h4 : Cond.initialized y.cls ∈ GW) (h5 : Cond.code y b nl (some rt) ∈ GW) {na : Nat} (hna : As.length = na) (hd : y.cls ≠ "java/lang/invoke/MethodHandle" ∧ y.cls ≠ "java/lang/invoke/VarHandle" ∧ (parseMethodDescriptor y.desc).map (fun d => d.parameters.length) = some na) (hf : f + 1 ≤ rm0.frames ∧ 8 + (nl + 11) + lo ≤ rm0.locals) (hst : st = As.reverse ++ .ref a :: rest) (hW : (rest.map fun v => v.category).sum ≤ 8) (hkn : k ≤ rm0.cells ∧ n ≤ rm0.slots) (hdg : decode cc pc = .ok (.invokevirtual idx, 3)) (k1 : J E x k n w1 (pc + 3) lv (.int r :: rest)) : J E x k n w pc lv st := by
  obtain ⟨l, D, cy⟩ := E
  obtain ⟨p, e, R, s, m, args, below, meth, c, A, nL, Q⟩ := x
  obtain ⟨hx, hb, hml, hown, hG, hK, hN, hA, hR, hnl⟩ := X
  intro H locs ls hP hD hS hv
  subst hst
  subst hR
  subst hnl
  have hF : ∀ q, va_A w H.size q → A q := fun q h => by
    rcases h with ⟨j, e9, h⟩ | h
    · exact hD.2 j (q, e9) h
    · exact hA q (Nat.le_trans hS.1 h)
  exact va_calli (va_runV (As := As) (rest := rest) (b := a) (n := na) (cc := cc) (nL := nL) (Ts := GW) (own := own) (index := idx) ⟨hx, hb, hml, hown, hG⟩ (hM H.size) (cwV na hG (GW_goodV h1 h2 h3 h4 h5) rfl rfl rfl ⟨rfl, hd⟩ ⟨hf.1, hf.2⟩) ⟨Pre0_blind, va_recv hK hP hc he, fun U hU hW9 => ⟨rfl, by rw [hU], by rw [hU]; exact hP, va_K.moved hW9.alike hK, NW_warm hW9 hN, hD.weaken (fun _ _ _ _ => trivial)⟩⟩ rfl hna hv.1 rfl (lv_room hW) hdg ⟨hkn.1, hkn.2⟩) hS (fun q _ h => hF q h) hF (fun r2 _ t H1 locs1 ht hvm hw hB hz1 hk1 hS => by
    obtain ⟨hP1, hD1⟩ := hB
    rw [ht] at hP1
    subst hw
    exact k1 H1 locs1 ls hP1 (hD1.weaken (fun _ q _ h9 => hF q.1 h9)) hS hv)
theorem J_callVNI {E : Ev} {x : Cx} {cc : ByteArray} {own : String} {rm0 : Room} {nL0 k n : Nat} {w w1 : va_W} {pc : Nat} {lv : List (Nat × Value)} {st rest : List Value} (X : Ok E x cc own rm0 nL0) {T : u_T} {N ci : Nat} {fs : List Value} {a : Nat} {r : Int32} {y : MethodName} {b : ByteArray} {nl f lo idx : Nat} {rt : FieldType} {As : List Value} (hM : CtI E y b nl rt f lo w (.ref a :: As) r w1) (q0 : Nat) (he : w[q0]? = some (a, .inr (ci, fs))) (hc : vwCl[ci]? = some (y.cls, T, N)) {host : String} (h1 : Cond.methodLinkNest own idx y host ∈ NW) (h2 : Cond.instanceMethod y ∈ GW) (h3 : Cond.selects y.cls y y ∈ GW) (h4 : Cond.initialized y.cls ∈ GW) (h5 : Cond.code y b nl (some rt) ∈ GW) {na : Nat} (hna : As.length = na) (hd : y.cls ≠ "java/lang/invoke/MethodHandle" ∧ y.cls ≠ "java/lang/invoke/VarHandle" ∧ (parseMethodDescriptor y.desc).map (fun d => d.parameters.length) = some na) (hf : f + 1 ≤ rm0.frames ∧ 8 + (nl + 11) + lo ≤ rm0.locals) (hst : st = As.reverse ++ .ref a :: rest) (hW : (rest.map fun v => v.category).sum ≤ 8) (hkn : k ≤ rm0.cells ∧ n ≤ rm0.slots) (hdg : decode cc pc = .ok (.invokevirtual idx, 3)) (k1 : J E x k n w1 (pc + 3) lv (.int r :: rest)) : J E x k n w pc lv st := by
  obtain ⟨l, D, cy⟩ := E
  obtain ⟨p, e, R, s, m, args, below, meth, c, A, nL, Q⟩ := x
  obtain ⟨hx, hb, hml, hown, hG, hK, hN, hA, hR, hnl⟩ := X
  intro H locs ls hP hD hS hv
  subst hst
  subst hR
  subst hnl
  have hF : ∀ q, va_A w H.size q → A q := fun q h => by
    rcases h with ⟨j, e9, h⟩ | h
    · exact hD.2 j (q, e9) h
    · exact hA q (Nat.le_trans hS.1 h)
  exact va_calli (va_runVN (As := As) (rest := rest) (b := a) (n := na) (cc := cc) (nL := nL) (Ts := GW) (own := own) (index := idx) (C := y.cls) ⟨hx, hb, hml, hown, hG⟩ (hM H.size) ⟨va_cnB na hG (GW_good h5) rfl rfl rfl (hN _ h1) (hG _ h4) hd ⟨hf.1, hf.2⟩, hG _ h2, hG _ h3⟩ ⟨Pre0_blind, va_recv hK hP hc he, fun U hU hW9 => ⟨rfl, by rw [hU], by rw [hU]; exact hP, va_K.moved hW9.alike hK, NW_warm hW9 hN, hD.weaken (fun _ _ _ _ => trivial)⟩⟩ rfl hna hv.1 rfl (lv_room hW) hdg ⟨hkn.1, hkn.2⟩) hS (fun q _ h => hF q h) hF (fun r2 _ t H1 locs1 ht hvm hw hB hz1 hk1 hS => by
    obtain ⟨hP1, hD1⟩ := hB
    rw [ht] at hP1
    subst hw
    exact k1 H1 locs1 ls hP1 (hD1.weaken (fun _ q _ h9 => hF q.1 h9)) hS hv)
theorem J_callSI {E : Ev} {x : Cx} {cc : ByteArray} {own : String} {rm0 : Room} {nL0 k n : Nat} {w w1 : va_W} {pc : Nat} {lv : List (Nat × Value)} {st rest : List Value} (X : Ok E x cc own rm0 nL0) {r : Int32} {y : MethodName} {b : ByteArray} {nl f lo idx : Nat} {rt : FieldType} {As : List Value} (hM : CtI E y b nl rt f lo w As r w1) (h1 : Cond.methodLink own idx y ∈ GW) (h2 : Cond.static y ∈ GW) (h4 : Cond.initialized y.cls ∈ GW) (h5 : Cond.code y b nl (some rt) ∈ GW) {na : Nat} (hna : As.length = na) (hd : y.cls ≠ "java/lang/invoke/MethodHandle" ∧ y.cls ≠ "java/lang/invoke/VarHandle" ∧ (parseMethodDescriptor y.desc).map (fun d => d.parameters.length) = some na) (hf : f + 1 ≤ rm0.frames ∧ 8 + (nl + 11) + lo ≤ rm0.locals) (hst : st = As.reverse ++ rest) (hW : (rest.map fun v => v.category).sum ≤ 8) (hkn : k ≤ rm0.cells ∧ n ≤ rm0.slots) (hdg : decode cc pc = .ok (.invokestatic idx, 3)) (k1 : J E x k n w1 (pc + 3) lv (.int r :: rest)) : J E x k n w pc lv st := by
  obtain ⟨l, D, cy⟩ := E
  obtain ⟨p, e, R, s, m, args, below, meth, c, A, nL, Q⟩ := x
  obtain ⟨hx, hb, hml, hown, hG, hK, hN, hA, hR, hnl⟩ := X
  intro H locs ls hP hD hS hv
  subst hst
  subst hR
  subst hnl
  have hF : ∀ q, va_A w H.size q → A q := fun q h => by
    rcases h with ⟨j, e9, h⟩ | h
    · exact hD.2 j (q, e9) h
    · exact hA q (Nat.le_trans hS.1 h)
  exact va_calli (va_runS (As := As) (rest := rest) (n := na) (cc := cc) (nL := nL) (Ts := GW) (own := own) (index := idx) ⟨hx, hb, hml, hown, hG⟩ (hM H.size) ⟨callB_of na hG (GW_good h5) rfl rfl rfl (hG _ h4) (hG _ h1) hd ⟨hf.1, hf.2⟩, hG _ h2⟩ ⟨Pre0_blind, fun U hU hW9 => ⟨rfl, by rw [hU], by rw [hU]; exact hP, va_K.moved hW9.alike hK, NW_warm hW9 hN, hD.weaken (fun _ _ _ _ => trivial)⟩⟩ rfl hna hv.1 rfl (lv_room hW) hdg ⟨hkn.1, hkn.2⟩) hS (fun q _ h => hF q h) hF (fun r2 _ t H1 locs1 ht hvm hw hB hz1 hk1 hS => by
    obtain ⟨hP1, hD1⟩ := hB
    rw [ht] at hP1
    subst hw
    exact k1 H1 locs1 ls hP1 (hD1.weaken (fun _ q _ h9 => hF q.1 h9)) hS hv)
theorem J_callSNI {E : Ev} {x : Cx} {cc : ByteArray} {own : String} {rm0 : Room} {nL0 k n : Nat} {w w1 : va_W} {pc : Nat} {lv : List (Nat × Value)} {st rest : List Value} (X : Ok E x cc own rm0 nL0) {r : Int32} {y : MethodName} {b : ByteArray} {nl f lo idx : Nat} {rt : FieldType} {As : List Value} (hM : CtI E y b nl rt f lo w As r w1) {host : String} (h1 : Cond.methodLinkNest own idx y host ∈ NW) (h2 : Cond.static y ∈ GW) (h4 : Cond.initialized y.cls ∈ GW) (h5 : Cond.code y b nl (some rt) ∈ GW) {na : Nat} (hna : As.length = na) (hd : y.cls ≠ "java/lang/invoke/MethodHandle" ∧ y.cls ≠ "java/lang/invoke/VarHandle" ∧ (parseMethodDescriptor y.desc).map (fun d => d.parameters.length) = some na) (hf : f + 1 ≤ rm0.frames ∧ 8 + (nl + 11) + lo ≤ rm0.locals) (hst : st = As.reverse ++ rest) (hW : (rest.map fun v => v.category).sum ≤ 8) (hkn : k ≤ rm0.cells ∧ n ≤ rm0.slots) (hdg : decode cc pc = .ok (.invokestatic idx, 3)) (k1 : J E x k n w1 (pc + 3) lv (.int r :: rest)) : J E x k n w pc lv st := by
  obtain ⟨l, D, cy⟩ := E
  obtain ⟨p, e, R, s, m, args, below, meth, c, A, nL, Q⟩ := x
  obtain ⟨hx, hb, hml, hown, hG, hK, hN, hA, hR, hnl⟩ := X
  intro H locs ls hP hD hS hv
  subst hst
  subst hR
  subst hnl
  have hF : ∀ q, va_A w H.size q → A q := fun q h => by
    rcases h with ⟨j, e9, h⟩ | h
    · exact hD.2 j (q, e9) h
    · exact hA q (Nat.le_trans hS.1 h)
  exact va_calli (va_runSN (As := As) (rest := rest) (n := na) (cc := cc) (nL := nL) (Ts := GW) (own := own) (index := idx) ⟨hx, hb, hml, hown, hG⟩ (hM H.size) ⟨va_cnB na hG (GW_good h5) rfl rfl rfl (hN _ h1) (hG _ h4) hd ⟨hf.1, hf.2⟩, hG _ h2, trivial⟩ ⟨Pre0_blind, fun U hU hW9 => ⟨rfl, by rw [hU], by rw [hU]; exact hP, va_K.moved hW9.alike hK, NW_warm hW9 hN, hD.weaken (fun _ _ _ _ => trivial)⟩⟩ rfl hna hv.1 rfl (lv_room hW) hdg ⟨hkn.1, hkn.2⟩) hS (fun q _ h => hF q h) hF (fun r2 _ t H1 locs1 ht hvm hw hB hz1 hk1 hS => by
    obtain ⟨hP1, hD1⟩ := hB
    rw [ht] at hP1
    subst hw
    exact k1 H1 locs1 ls hP1 (hD1.weaken (fun _ q _ h9 => hF q.1 h9)) hS hv)
theorem J_callVL {E : Ev} {x : Cx} {cc : ByteArray} {own : String} {rm0 : Room} {nL0 k n : Nat} {w w1 : va_W} {pc : Nat} {lv : List (Nat × Value)} {st rest : List Value} (X : Ok E x cc own rm0 nL0) {T : u_T} {N ci : Nat} {fs : List Value} {a : Nat} {r : Int64} {y : MethodName} {b : ByteArray} {nl f lo idx : Nat} {As : List Value} (hM : CtL E y b nl f lo w (.ref a :: As) r w1) (q0 : Nat) (he : w[q0]? = some (a, .inr (ci, fs))) (hc : vwCl[ci]? = some (y.cls, T, N)) (h1 : Cond.methodLink own idx y ∈ GW) (h2 : Cond.instanceMethod y ∈ GW) (h3 : Cond.selects y.cls y y ∈ GW) (h4 : Cond.initialized y.cls ∈ GW) (h5 : Cond.code y b nl (some .long) ∈ GW) {na : Nat} (hna : As.length = na) (hd : y.cls ≠ "java/lang/invoke/MethodHandle" ∧ y.cls ≠ "java/lang/invoke/VarHandle" ∧ (parseMethodDescriptor y.desc).map (fun d => d.parameters.length) = some na) (hf : f + 1 ≤ rm0.frames ∧ 8 + (nl + 11) + lo ≤ rm0.locals) (hst : st = As.reverse ++ .ref a :: rest) (hW : (rest.map fun v => v.category).sum ≤ 8) (hkn : k ≤ rm0.cells ∧ n ≤ rm0.slots) (hdg : decode cc pc = .ok (.invokevirtual idx, 3)) (k1 : J E x k n w1 (pc + 3) lv (.long r :: rest)) : J E x k n w pc lv st := by
  obtain ⟨l, D, cy⟩ := E
  obtain ⟨p, e, R, s, m, args, below, meth, c, A, nL, Q⟩ := x
  obtain ⟨hx, hb, hml, hown, hG, hK, hN, hA, hR, hnl⟩ := X
  intro H locs ls hP hD hS hv
  subst hst
  subst hR
  subst hnl
  have hF : ∀ q, va_A w H.size q → A q := fun q h => by
    rcases h with ⟨j, e9, h⟩ | h
    · exact hD.2 j (q, e9) h
    · exact hA q (Nat.le_trans hS.1 h)
  exact va_calll (va_runV (As := As) (rest := rest) (b := a) (n := na) (cc := cc) (nL := nL) (Ts := GW) (own := own) (index := idx) ⟨hx, hb, hml, hown, hG⟩ (hM H.size) (cwV na hG (GW_goodV h1 h2 h3 h4 h5) rfl rfl rfl ⟨rfl, hd⟩ ⟨hf.1, hf.2⟩) ⟨Pre0_blind, va_recv hK hP hc he, fun U hU hW9 => ⟨rfl, by rw [hU], by rw [hU]; exact hP, va_K.moved hW9.alike hK, NW_warm hW9 hN, hD.weaken (fun _ _ _ _ => trivial)⟩⟩ rfl hna hv.1 rfl (lv_room hW) hdg ⟨hkn.1, hkn.2⟩) hS (fun q _ h => hF q h) hF (fun r2 _ t H1 locs1 ht hvm hw hB hz1 hk1 hS => by
    obtain ⟨hP1, hD1⟩ := hB
    rw [ht] at hP1
    subst hw
    exact k1 H1 locs1 ls hP1 (hD1.weaken (fun _ q _ h9 => hF q.1 h9)) hS hv)
theorem J_callVNL {E : Ev} {x : Cx} {cc : ByteArray} {own : String} {rm0 : Room} {nL0 k n : Nat} {w w1 : va_W} {pc : Nat} {lv : List (Nat × Value)} {st rest : List Value} (X : Ok E x cc own rm0 nL0) {T : u_T} {N ci : Nat} {fs : List Value} {a : Nat} {r : Int64} {y : MethodName} {b : ByteArray} {nl f lo idx : Nat} {As : List Value} (hM : CtL E y b nl f lo w (.ref a :: As) r w1) (q0 : Nat) (he : w[q0]? = some (a, .inr (ci, fs))) (hc : vwCl[ci]? = some (y.cls, T, N)) {host : String} (h1 : Cond.methodLinkNest own idx y host ∈ NW) (h2 : Cond.instanceMethod y ∈ GW) (h3 : Cond.selects y.cls y y ∈ GW) (h4 : Cond.initialized y.cls ∈ GW) (h5 : Cond.code y b nl (some .long) ∈ GW) {na : Nat} (hna : As.length = na) (hd : y.cls ≠ "java/lang/invoke/MethodHandle" ∧ y.cls ≠ "java/lang/invoke/VarHandle" ∧ (parseMethodDescriptor y.desc).map (fun d => d.parameters.length) = some na) (hf : f + 1 ≤ rm0.frames ∧ 8 + (nl + 11) + lo ≤ rm0.locals) (hst : st = As.reverse ++ .ref a :: rest) (hW : (rest.map fun v => v.category).sum ≤ 8) (hkn : k ≤ rm0.cells ∧ n ≤ rm0.slots) (hdg : decode cc pc = .ok (.invokevirtual idx, 3)) (k1 : J E x k n w1 (pc + 3) lv (.long r :: rest)) : J E x k n w pc lv st := by
  obtain ⟨l, D, cy⟩ := E
  obtain ⟨p, e, R, s, m, args, below, meth, c, A, nL, Q⟩ := x
  obtain ⟨hx, hb, hml, hown, hG, hK, hN, hA, hR, hnl⟩ := X
  intro H locs ls hP hD hS hv
  subst hst
  subst hR
  subst hnl
  have hF : ∀ q, va_A w H.size q → A q := fun q h => by
    rcases h with ⟨j, e9, h⟩ | h
    · exact hD.2 j (q, e9) h
    · exact hA q (Nat.le_trans hS.1 h)
  exact va_calll (va_runVN (As := As) (rest := rest) (b := a) (n := na) (cc := cc) (nL := nL) (Ts := GW) (own := own) (index := idx) (C := y.cls) ⟨hx, hb, hml, hown, hG⟩ (hM H.size) ⟨va_cnB na hG (GW_good h5) rfl rfl rfl (hN _ h1) (hG _ h4) hd ⟨hf.1, hf.2⟩, hG _ h2, hG _ h3⟩ ⟨Pre0_blind, va_recv hK hP hc he, fun U hU hW9 => ⟨rfl, by rw [hU], by rw [hU]; exact hP, va_K.moved hW9.alike hK, NW_warm hW9 hN, hD.weaken (fun _ _ _ _ => trivial)⟩⟩ rfl hna hv.1 rfl (lv_room hW) hdg ⟨hkn.1, hkn.2⟩) hS (fun q _ h => hF q h) hF (fun r2 _ t H1 locs1 ht hvm hw hB hz1 hk1 hS => by
    obtain ⟨hP1, hD1⟩ := hB
    rw [ht] at hP1
    subst hw
    exact k1 H1 locs1 ls hP1 (hD1.weaken (fun _ q _ h9 => hF q.1 h9)) hS hv)
theorem J_callSL {E : Ev} {x : Cx} {cc : ByteArray} {own : String} {rm0 : Room} {nL0 k n : Nat} {w w1 : va_W} {pc : Nat} {lv : List (Nat × Value)} {st rest : List Value} (X : Ok E x cc own rm0 nL0) {r : Int64} {y : MethodName} {b : ByteArray} {nl f lo idx : Nat} {As : List Value} (hM : CtL E y b nl f lo w As r w1) (h1 : Cond.methodLink own idx y ∈ GW) (h2 : Cond.static y ∈ GW) (h4 : Cond.initialized y.cls ∈ GW) (h5 : Cond.code y b nl (some .long) ∈ GW) {na : Nat} (hna : As.length = na) (hd : y.cls ≠ "java/lang/invoke/MethodHandle" ∧ y.cls ≠ "java/lang/invoke/VarHandle" ∧ (parseMethodDescriptor y.desc).map (fun d => d.parameters.length) = some na) (hf : f + 1 ≤ rm0.frames ∧ 8 + (nl + 11) + lo ≤ rm0.locals) (hst : st = As.reverse ++ rest) (hW : (rest.map fun v => v.category).sum ≤ 8) (hkn : k ≤ rm0.cells ∧ n ≤ rm0.slots) (hdg : decode cc pc = .ok (.invokestatic idx, 3)) (k1 : J E x k n w1 (pc + 3) lv (.long r :: rest)) : J E x k n w pc lv st := by
  obtain ⟨l, D, cy⟩ := E
  obtain ⟨p, e, R, s, m, args, below, meth, c, A, nL, Q⟩ := x
  obtain ⟨hx, hb, hml, hown, hG, hK, hN, hA, hR, hnl⟩ := X
  intro H locs ls hP hD hS hv
  subst hst
  subst hR
  subst hnl
  have hF : ∀ q, va_A w H.size q → A q := fun q h => by
    rcases h with ⟨j, e9, h⟩ | h
    · exact hD.2 j (q, e9) h
    · exact hA q (Nat.le_trans hS.1 h)
  exact va_calll (va_runS (As := As) (rest := rest) (n := na) (cc := cc) (nL := nL) (Ts := GW) (own := own) (index := idx) ⟨hx, hb, hml, hown, hG⟩ (hM H.size) ⟨callB_of na hG (GW_good h5) rfl rfl rfl (hG _ h4) (hG _ h1) hd ⟨hf.1, hf.2⟩, hG _ h2⟩ ⟨Pre0_blind, fun U hU hW9 => ⟨rfl, by rw [hU], by rw [hU]; exact hP, va_K.moved hW9.alike hK, NW_warm hW9 hN, hD.weaken (fun _ _ _ _ => trivial)⟩⟩ rfl hna hv.1 rfl (lv_room hW) hdg ⟨hkn.1, hkn.2⟩) hS (fun q _ h => hF q h) hF (fun r2 _ t H1 locs1 ht hvm hw hB hz1 hk1 hS => by
    obtain ⟨hP1, hD1⟩ := hB
    rw [ht] at hP1
    subst hw
    exact k1 H1 locs1 ls hP1 (hD1.weaken (fun _ q _ h9 => hF q.1 h9)) hS hv)
theorem J_callSNL {E : Ev} {x : Cx} {cc : ByteArray} {own : String} {rm0 : Room} {nL0 k n : Nat} {w w1 : va_W} {pc : Nat} {lv : List (Nat × Value)} {st rest : List Value} (X : Ok E x cc own rm0 nL0) {r : Int64} {y : MethodName} {b : ByteArray} {nl f lo idx : Nat} {As : List Value} (hM : CtL E y b nl f lo w As r w1) {host : String} (h1 : Cond.methodLinkNest own idx y host ∈ NW) (h2 : Cond.static y ∈ GW) (h4 : Cond.initialized y.cls ∈ GW) (h5 : Cond.code y b nl (some .long) ∈ GW) {na : Nat} (hna : As.length = na) (hd : y.cls ≠ "java/lang/invoke/MethodHandle" ∧ y.cls ≠ "java/lang/invoke/VarHandle" ∧ (parseMethodDescriptor y.desc).map (fun d => d.parameters.length) = some na) (hf : f + 1 ≤ rm0.frames ∧ 8 + (nl + 11) + lo ≤ rm0.locals) (hst : st = As.reverse ++ rest) (hW : (rest.map fun v => v.category).sum ≤ 8) (hkn : k ≤ rm0.cells ∧ n ≤ rm0.slots) (hdg : decode cc pc = .ok (.invokestatic idx, 3)) (k1 : J E x k n w1 (pc + 3) lv (.long r :: rest)) : J E x k n w pc lv st := by
  obtain ⟨l, D, cy⟩ := E
  obtain ⟨p, e, R, s, m, args, below, meth, c, A, nL, Q⟩ := x
  obtain ⟨hx, hb, hml, hown, hG, hK, hN, hA, hR, hnl⟩ := X
  intro H locs ls hP hD hS hv
  subst hst
  subst hR
  subst hnl
  have hF : ∀ q, va_A w H.size q → A q := fun q h => by
    rcases h with ⟨j, e9, h⟩ | h
    · exact hD.2 j (q, e9) h
    · exact hA q (Nat.le_trans hS.1 h)
  exact va_calll (va_runSN (As := As) (rest := rest) (n := na) (cc := cc) (nL := nL) (Ts := GW) (own := own) (index := idx) ⟨hx, hb, hml, hown, hG⟩ (hM H.size) ⟨va_cnB na hG (GW_good h5) rfl rfl rfl (hN _ h1) (hG _ h4) hd ⟨hf.1, hf.2⟩, hG _ h2, trivial⟩ ⟨Pre0_blind, fun U hU hW9 => ⟨rfl, by rw [hU], by rw [hU]; exact hP, va_K.moved hW9.alike hK, NW_warm hW9 hN, hD.weaken (fun _ _ _ _ => trivial)⟩⟩ rfl hna hv.1 rfl (lv_room hW) hdg ⟨hkn.1, hkn.2⟩) hS (fun q _ h => hF q h) hF (fun r2 _ t H1 locs1 ht hvm hw hB hz1 hk1 hS => by
    obtain ⟨hP1, hD1⟩ := hB
    rw [ht] at hP1
    subst hw
    exact k1 H1 locs1 ls hP1 (hD1.weaken (fun _ q _ h9 => hF q.1 h9)) hS hv)
theorem J_callVV {E : Ev} {x : Cx} {cc : ByteArray} {own : String} {rm0 : Room} {nL0 k n : Nat} {w w1 : va_W} {pc : Nat} {lv : List (Nat × Value)} {st rest : List Value} (X : Ok E x cc own rm0 nL0) {T : u_T} {N ci : Nat} {fs : List Value} {a : Nat} {y : MethodName} {b : ByteArray} {nl f lo idx : Nat} {As : List Value} (hM : CtV E y b nl f lo w (.ref a :: As) w1) (q0 : Nat) (he : w[q0]? = some (a, .inr (ci, fs))) (hc : vwCl[ci]? = some (y.cls, T, N)) (h1 : Cond.methodLink own idx y ∈ GW) (h2 : Cond.instanceMethod y ∈ GW) (h3 : Cond.selects y.cls y y ∈ GW) (h4 : Cond.initialized y.cls ∈ GW) (h5 : Cond.code y b nl (none) ∈ GW) {na : Nat} (hna : As.length = na) (hd : y.cls ≠ "java/lang/invoke/MethodHandle" ∧ y.cls ≠ "java/lang/invoke/VarHandle" ∧ (parseMethodDescriptor y.desc).map (fun d => d.parameters.length) = some na) (hf : f + 1 ≤ rm0.frames ∧ 8 + (nl + 11) + lo ≤ rm0.locals) (hst : st = As.reverse ++ .ref a :: rest) (hW : (rest.map fun v => v.category).sum ≤ 8) (hkn : k ≤ rm0.cells ∧ n ≤ rm0.slots) (hdg : decode cc pc = .ok (.invokevirtual idx, 3)) (k1 : J E x k n w1 (pc + 3) lv (rest)) : J E x k n w pc lv st := by
  obtain ⟨l, D, cy⟩ := E
  obtain ⟨p, e, R, s, m, args, below, meth, c, A, nL, Q⟩ := x
  obtain ⟨hx, hb, hml, hown, hG, hK, hN, hA, hR, hnl⟩ := X
  intro H locs ls hP hD hS hv
  subst hst
  subst hR
  subst hnl
  have hF : ∀ q, va_A w H.size q → A q := fun q h => by
    rcases h with ⟨j, e9, h⟩ | h
    · exact hD.2 j (q, e9) h
    · exact hA q (Nat.le_trans hS.1 h)
  exact va_callv (va_runV (As := As) (rest := rest) (b := a) (n := na) (cc := cc) (nL := nL) (Ts := GW) (own := own) (index := idx) ⟨hx, hb, hml, hown, hG⟩ (hM H.size) (cwV na hG (GW_goodV h1 h2 h3 h4 h5) rfl rfl rfl ⟨rfl, hd⟩ ⟨hf.1, hf.2⟩) ⟨Pre0_blind, va_recv hK hP hc he, fun U hU hW9 => ⟨rfl, by rw [hU], by rw [hU]; exact hP, va_K.moved hW9.alike hK, NW_warm hW9 hN, hD.weaken (fun _ _ _ _ => trivial)⟩⟩ rfl hna hv.1 rfl (lv_room hW) hdg ⟨hkn.1, hkn.2⟩) hS (fun q _ h => hF q h) hF (fun _ t H1 locs1 ht hvm hw hB hz1 hk1 hS => by
    obtain ⟨hP1, hD1⟩ := hB
    rw [ht] at hP1
    exact k1 H1 locs1 ls hP1 (hD1.weaken (fun _ q _ h9 => hF q.1 h9)) hS hv)
theorem J_callVNV {E : Ev} {x : Cx} {cc : ByteArray} {own : String} {rm0 : Room} {nL0 k n : Nat} {w w1 : va_W} {pc : Nat} {lv : List (Nat × Value)} {st rest : List Value} (X : Ok E x cc own rm0 nL0) {T : u_T} {N ci : Nat} {fs : List Value} {a : Nat} {y : MethodName} {b : ByteArray} {nl f lo idx : Nat} {As : List Value} (hM : CtV E y b nl f lo w (.ref a :: As) w1) (q0 : Nat) (he : w[q0]? = some (a, .inr (ci, fs))) (hc : vwCl[ci]? = some (y.cls, T, N)) {host : String} (h1 : Cond.methodLinkNest own idx y host ∈ NW) (h2 : Cond.instanceMethod y ∈ GW) (h3 : Cond.selects y.cls y y ∈ GW) (h4 : Cond.initialized y.cls ∈ GW) (h5 : Cond.code y b nl (none) ∈ GW) {na : Nat} (hna : As.length = na) (hd : y.cls ≠ "java/lang/invoke/MethodHandle" ∧ y.cls ≠ "java/lang/invoke/VarHandle" ∧ (parseMethodDescriptor y.desc).map (fun d => d.parameters.length) = some na) (hf : f + 1 ≤ rm0.frames ∧ 8 + (nl + 11) + lo ≤ rm0.locals) (hst : st = As.reverse ++ .ref a :: rest) (hW : (rest.map fun v => v.category).sum ≤ 8) (hkn : k ≤ rm0.cells ∧ n ≤ rm0.slots) (hdg : decode cc pc = .ok (.invokevirtual idx, 3)) (k1 : J E x k n w1 (pc + 3) lv (rest)) : J E x k n w pc lv st := by
  obtain ⟨l, D, cy⟩ := E
  obtain ⟨p, e, R, s, m, args, below, meth, c, A, nL, Q⟩ := x
  obtain ⟨hx, hb, hml, hown, hG, hK, hN, hA, hR, hnl⟩ := X
  intro H locs ls hP hD hS hv
  subst hst
  subst hR
  subst hnl
  have hF : ∀ q, va_A w H.size q → A q := fun q h => by
    rcases h with ⟨j, e9, h⟩ | h
    · exact hD.2 j (q, e9) h
    · exact hA q (Nat.le_trans hS.1 h)
  exact va_callv (va_runVN (As := As) (rest := rest) (b := a) (n := na) (cc := cc) (nL := nL) (Ts := GW) (own := own) (index := idx) (C := y.cls) ⟨hx, hb, hml, hown, hG⟩ (hM H.size) ⟨va_cnB na hG (GW_good h5) rfl rfl rfl (hN _ h1) (hG _ h4) hd ⟨hf.1, hf.2⟩, hG _ h2, hG _ h3⟩ ⟨Pre0_blind, va_recv hK hP hc he, fun U hU hW9 => ⟨rfl, by rw [hU], by rw [hU]; exact hP, va_K.moved hW9.alike hK, NW_warm hW9 hN, hD.weaken (fun _ _ _ _ => trivial)⟩⟩ rfl hna hv.1 rfl (lv_room hW) hdg ⟨hkn.1, hkn.2⟩) hS (fun q _ h => hF q h) hF (fun _ t H1 locs1 ht hvm hw hB hz1 hk1 hS => by
    obtain ⟨hP1, hD1⟩ := hB
    rw [ht] at hP1
    exact k1 H1 locs1 ls hP1 (hD1.weaken (fun _ q _ h9 => hF q.1 h9)) hS hv)
theorem J_callSV {E : Ev} {x : Cx} {cc : ByteArray} {own : String} {rm0 : Room} {nL0 k n : Nat} {w w1 : va_W} {pc : Nat} {lv : List (Nat × Value)} {st rest : List Value} (X : Ok E x cc own rm0 nL0) {y : MethodName} {b : ByteArray} {nl f lo idx : Nat} {As : List Value} (hM : CtV E y b nl f lo w As w1) (h1 : Cond.methodLink own idx y ∈ GW) (h2 : Cond.static y ∈ GW) (h4 : Cond.initialized y.cls ∈ GW) (h5 : Cond.code y b nl (none) ∈ GW) {na : Nat} (hna : As.length = na) (hd : y.cls ≠ "java/lang/invoke/MethodHandle" ∧ y.cls ≠ "java/lang/invoke/VarHandle" ∧ (parseMethodDescriptor y.desc).map (fun d => d.parameters.length) = some na) (hf : f + 1 ≤ rm0.frames ∧ 8 + (nl + 11) + lo ≤ rm0.locals) (hst : st = As.reverse ++ rest) (hW : (rest.map fun v => v.category).sum ≤ 8) (hkn : k ≤ rm0.cells ∧ n ≤ rm0.slots) (hdg : decode cc pc = .ok (.invokestatic idx, 3)) (k1 : J E x k n w1 (pc + 3) lv (rest)) : J E x k n w pc lv st := by
  obtain ⟨l, D, cy⟩ := E
  obtain ⟨p, e, R, s, m, args, below, meth, c, A, nL, Q⟩ := x
  obtain ⟨hx, hb, hml, hown, hG, hK, hN, hA, hR, hnl⟩ := X
  intro H locs ls hP hD hS hv
  subst hst
  subst hR
  subst hnl
  have hF : ∀ q, va_A w H.size q → A q := fun q h => by
    rcases h with ⟨j, e9, h⟩ | h
    · exact hD.2 j (q, e9) h
    · exact hA q (Nat.le_trans hS.1 h)
  exact va_callv (va_runS (As := As) (rest := rest) (n := na) (cc := cc) (nL := nL) (Ts := GW) (own := own) (index := idx) ⟨hx, hb, hml, hown, hG⟩ (hM H.size) ⟨callB_of na hG (GW_good h5) rfl rfl rfl (hG _ h4) (hG _ h1) hd ⟨hf.1, hf.2⟩, hG _ h2⟩ ⟨Pre0_blind, fun U hU hW9 => ⟨rfl, by rw [hU], by rw [hU]; exact hP, va_K.moved hW9.alike hK, NW_warm hW9 hN, hD.weaken (fun _ _ _ _ => trivial)⟩⟩ rfl hna hv.1 rfl (lv_room hW) hdg ⟨hkn.1, hkn.2⟩) hS (fun q _ h => hF q h) hF (fun _ t H1 locs1 ht hvm hw hB hz1 hk1 hS => by
    obtain ⟨hP1, hD1⟩ := hB
    rw [ht] at hP1
    exact k1 H1 locs1 ls hP1 (hD1.weaken (fun _ q _ h9 => hF q.1 h9)) hS hv)
theorem J_callSNV {E : Ev} {x : Cx} {cc : ByteArray} {own : String} {rm0 : Room} {nL0 k n : Nat} {w w1 : va_W} {pc : Nat} {lv : List (Nat × Value)} {st rest : List Value} (X : Ok E x cc own rm0 nL0) {y : MethodName} {b : ByteArray} {nl f lo idx : Nat} {As : List Value} (hM : CtV E y b nl f lo w As w1) {host : String} (h1 : Cond.methodLinkNest own idx y host ∈ NW) (h2 : Cond.static y ∈ GW) (h4 : Cond.initialized y.cls ∈ GW) (h5 : Cond.code y b nl (none) ∈ GW) {na : Nat} (hna : As.length = na) (hd : y.cls ≠ "java/lang/invoke/MethodHandle" ∧ y.cls ≠ "java/lang/invoke/VarHandle" ∧ (parseMethodDescriptor y.desc).map (fun d => d.parameters.length) = some na) (hf : f + 1 ≤ rm0.frames ∧ 8 + (nl + 11) + lo ≤ rm0.locals) (hst : st = As.reverse ++ rest) (hW : (rest.map fun v => v.category).sum ≤ 8) (hkn : k ≤ rm0.cells ∧ n ≤ rm0.slots) (hdg : decode cc pc = .ok (.invokestatic idx, 3)) (k1 : J E x k n w1 (pc + 3) lv (rest)) : J E x k n w pc lv st := by
  obtain ⟨l, D, cy⟩ := E
  obtain ⟨p, e, R, s, m, args, below, meth, c, A, nL, Q⟩ := x
  obtain ⟨hx, hb, hml, hown, hG, hK, hN, hA, hR, hnl⟩ := X
  intro H locs ls hP hD hS hv
  subst hst
  subst hR
  subst hnl
  have hF : ∀ q, va_A w H.size q → A q := fun q h => by
    rcases h with ⟨j, e9, h⟩ | h
    · exact hD.2 j (q, e9) h
    · exact hA q (Nat.le_trans hS.1 h)
  exact va_callv (va_runSN (As := As) (rest := rest) (n := na) (cc := cc) (nL := nL) (Ts := GW) (own := own) (index := idx) ⟨hx, hb, hml, hown, hG⟩ (hM H.size) ⟨va_cnB na hG (GW_good h5) rfl rfl rfl (hN _ h1) (hG _ h4) hd ⟨hf.1, hf.2⟩, hG _ h2, trivial⟩ ⟨Pre0_blind, fun U hU hW9 => ⟨rfl, by rw [hU], by rw [hU]; exact hP, va_K.moved hW9.alike hK, NW_warm hW9 hN, hD.weaken (fun _ _ _ _ => trivial)⟩⟩ rfl hna hv.1 rfl (lv_room hW) hdg ⟨hkn.1, hkn.2⟩) hS (fun q _ h => hF q h) hF (fun _ t H1 locs1 ht hvm hw hB hz1 hk1 hS => by
    obtain ⟨hP1, hD1⟩ := hB
    rw [ht] at hP1
    exact k1 H1 locs1 ls hP1 (hD1.weaken (fun _ q _ h9 => hF q.1 h9)) hS hv)
