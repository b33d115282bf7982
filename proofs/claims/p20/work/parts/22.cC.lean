theorem J_callCX {E : Ev} {x : Cx} {cc : ByteArray} {own : String} {rm0 : Room} {nL0 k n : Nat} {w1 rw : va_W} {pc : Nat} {lv : List (Nat × Value)} {st rest : List Value} (X : Ok E x cc own rm0 nL0) (XX : OkX E x) {y : MethodName} {b : ByteArray} {nl f lo mc ms idx a : Nat} {As : List Value} {U : Type} {post : U → Prop} {B : U → va_W} (hM : CtXV E y b nl f lo mc ms w1 (.ref a :: As) post B) (h1 : Cond.methodLink own idx y ∈ GW) (h2 : Cond.instanceMethod y ∈ GW) (h4 : Cond.initialized y.cls ∈ GW) (h5 : Cond.code y b nl none ∈ GW) (hy1 : y.name = "<init>") {na : Nat} (hna : As.length = na) (hd : y.cls ≠ "java/lang/invoke/MethodHandle" ∧ y.cls ≠ "java/lang/invoke/VarHandle" ∧ (parseMethodDescriptor y.desc).map (fun d => d.parameters.length) = some na) (hf : f + 1 ≤ rm0.frames ∧ 8 + (nl + 11) + lo ≤ rm0.locals) (hst : st = As.reverse ++ .ref a :: rest) (hW : (rest.map fun v => v.category).sum ≤ 8) (hkn : k + mc ≤ rm0.cells ∧ n + ms ≤ rm0.slots) (hdg : decode cc pc = .ok (.invokespecial idx, 3)) (k1 : ∀ u, post u → J E x (k + mc) (n + ms) (B u ++ rw) (pc + 3) lv rest) : J E x k n (w1 ++ rw) pc lv st := by
  obtain ⟨l, D, cy⟩ := E
  obtain ⟨p, e, R, s, m, args, below, meth, c, A, nL, Q⟩ := x
  obtain ⟨hx, hb, hml, hown, hG, hK, hN, hA, hR, hnl⟩ := X
  intro H locs ls hP hD hS hv
  subst hst
  subst hR
  subst hnl
  have hF := va_Fl hD hS hA
  refine va_callv (va_runI (As := As) (rest := rest) (b := a) (n := na) (cc := cc) (nL := nL) (Ts := GW) (own := own) (index := idx) ⟨hx, hb, hml, hown, hG⟩ (hM H.size) (cwI na hG (GW_good h5) rfl rfl rfl (hG _ h4) (hG _ h1) (hG _ h2) hy1 hd ⟨hf.1, hf.2⟩) ⟨PreX_blind, fun U0 hU hW9 => ⟨rfl, by rw [hU], by rw [hU]; exact va_Pl hP, va_K.moved hW9.alike hK, NW_warm hW9 hN, (va_Dl hD).weaken (fun _ _ _ _ => trivial), XK.go XX hS hF hW9 hU⟩⟩ rfl hna hv.1 rfl (lv_room hW) hdg ⟨hkn.1, hkn.2⟩) hS (fun q _ h => hF q h) hF (fun u t H1 locs1 ht hvm hw hB hz1 hk1 hS => ?_)
  obtain ⟨hP1, hD1⟩ := hB
  rw [ht] at hP1
  obtain ⟨hP2, hD2⟩ := va_frm hP hD hF hk1 hP1 hD1
  exact k1 u hw H1 locs1 ls hP2 hD2 hS hv
def addT (T : TS) (v : Int32) : TS := ((T.1.1, T.1.2 + 1), T.2.1 + 1, va_up T.2.2 T.2.1 (initS v))
/-- the addresses when one store more is there -/
def adA (ad : CA) (n : Nat) (u : Nat → Nat) (a2 : Nat) : CA := (fun j => if j = 2 then a2 else ad.1 j, va_up ad.2 n u)
theorem rfs_add {ad : CA} {n a2 : Nat} {u : Nat → Nat} : rfs (adA ad n u a2) (n + 1) = va_up (rfs ad n) n (some (u 0)) := by
  funext j
  unfold rfs adA va_up
  by_cases h : j = n
  · subst h; simp
  · by_cases h2 : j < n
    · have : j < n + 1 := by omega
      simp [h, h2, this]
    · have : ¬ j < n + 1 := by omega
      simp [h, h2, this]
theorem rfs_0 {ad : CA} : rfs ad 0 = fun _ => none := by
  funext j; unfold rfs; simp
theorem cS_add {E : Ev} {ad : CA} {sts : Nat → St} {N a2 : Nat} {u : Nat → Nat} {S : St} : ∀ n, n ≤ N → cS E (adA ad N u a2) (va_up sts N S) n = cS E ad sts n
  | 0, _ => rfl
  | n + 1, h => by
    have h1 : ¬ n = N := by omega
    simp only [cS]
    rw [cS_add n (by omega), show (adA ad N u a2).2 n = ad.2 n from if_neg h1, show va_up sts N S n = sts n from if_neg h1]
theorem cW_add {E : Ev} {ad : CA} {T : TS} {v : Int32} {u : Nat → Nat} {a2 : Nat} (h2 : T.2.1 = 0 ∨ a2 = ad.1 2) :
    (([(ad.1 1, .inr (0, [.int (T.1.2 + 1), .ref a2, .int (nI (T.2.1 + 1))])), (a2, .inl (E.2.2 2, 10, .inr (.inr (.inr (.inr (va_up (rfs ad T.2.1) T.2.1 (some (u 0)))))))) ] : va_W) ++ (cRF ad T :: (sW E u (initS v) ++ cS E ad T.2.2 T.2.1))).Perm (cW E (adA ad T.2.1 u a2) (addT T v)) := by
  have e1 : cS E (adA ad T.2.1 u a2) (addT T v).2.2 (addT T v).2.1 = sW E u (initS v) ++ cS E ad T.2.2 T.2.1 := by
    show cS E (adA ad T.2.1 u a2) (va_up T.2.2 T.2.1 (initS v)) (T.2.1 + 1) = _
    simp only [cS]
    rw [cS_add T.2.1 (Nat.le_refl _), show (adA ad T.2.1 u a2).2 T.2.1 = u from if_pos rfl, show va_up T.2.2 T.2.1 (initS v) T.2.1 = initS v from if_pos rfl]
  unfold cW
  rw [e1]
  have e2 : cAr E (adA ad T.2.1 u a2) (addT T v).2.1 = [(a2, .inl (E.2.2 2, 10, .inr (.inr (.inr (.inr (va_up (rfs ad T.2.1) T.2.1 (some (u 0))))))))] := by
    show (if T.2.1 + 1 = 0 then [] else _) = _
    rw [if_neg (Nat.succ_ne_zero _)]
    show [(_, Sum.inl (E.2.2 2, 10, Sum.inr (Sum.inr (Sum.inr (Sum.inr (rfs (adA ad T.2.1 u a2) (T.2.1 + 1)))))))] = _
    rw [rfs_add]
    rfl
  rw [e2]
  have e3 : cLI E (adA ad T.2.1 u a2) (addT T v) = (ad.1 1, .inr (0, [.int (T.1.2 + 1), .ref a2, .int (nI (T.2.1 + 1))])) := by
    unfold cLI eRef
    rw [show (addT T v).2.1 = T.2.1 + 1 from rfl, if_neg (Nat.succ_ne_zero _)]
    rfl
  rw [e3]
  show (_ :: _ :: _ :: _).Perm (_ :: _ :: _ :: _)
  refine ((List.Perm.swap _ _ _).cons _).trans ?_
  exact List.Perm.swap _ _ _
set_option maxRecDepth 100000 in
set_option maxHeartbeats 4000000 in
theorem c_X7_addStore (E : Ev) (ad : CA) {a1 : Int32} {T : TS} (h0 : 1 ≤ a1 ∧ a1 ≤ 1000000) (hn8 : T.2.1 < 8) : CtXI E yX7_addStore cX7_addStore 2 .int 5 101 16 398 (cW E ad T) [.ref (ad.1 0), .int a1] (nI T.2.1) (fun (ad2 : CA) => ad2.1 0 = ad.1 0) (fun ad2 => cW E ad2 (addT T a1)) := by
  refine CtXI_of (by decide +kernel) (Nat.le_of_ble_eq_true rfl) (fun x X XX _ hE => ?_)
  show J E x 0 0 (cW E ad T) 0 [(0, .ref (ad.1 0)), (1, .int a1)] []
  refine J_iload_n X (pc := 0) dX7_addStore_0 1 rfl ?_
  refine J_iconst X (pc := 1) (v := 1) dX7_addStore_1 (by decide +kernel) ?_
  refine J_ldc X (pc := 2) dX7_addStore_2 q_323 ?_
  refine J_callSV X (pc := 4) (y := yX7_demandRange) (na := 3) (As := [.int a1, .int 1, .int 1000000]) (rest := []) (c_X7_demandRange E (cW E ad T) h0) q_326 q_327 q_14 q_272 rfl (by decide +kernel) (by decide +kernel) rfl (Nat.le_of_ble_eq_true rfl) ⟨Nat.zero_le _, Nat.zero_le _⟩ dX7_addStore_4 ?_
  refine J_aload_n X (pc := 7) dX7_addStore_7 0 rfl ?_
  refine J_getf X (pc := 8) 0 cW_c0 rfl in_X7 0 (by decide) q_268 rfl dX7_addStore_8 ?_
  refine J_size X (pc := 11) q_328 ⟨Nat.le_of_ble_eq_true rfl, Nat.le_of_ble_eq_true rfl⟩ (Nat.le_of_ble_eq_true rfl) ⟨Nat.zero_le _, Nat.zero_le _⟩ dX7_addStore_11 ?_
  refine J_bipush X (pc := 14) (v := 8) dX7_addStore_14 (by decide +kernel) ?_
  refine J_icmp_lt X (pc := 16) 29 dX7_addStore_16 (by decide) (fun c1 => ?_) (fun c1 => absurd (nI_lt hn8 (by decide)) c1)
  refine J_aload_n X (pc := 29) dX7_addStore_29 0 rfl ?_
  refine J_getf X (pc := 30) 0 cW_c0 rfl in_X7 0 (by decide) q_268 rfl dX7_addStore_30 ?_
  refine J_new X (pc := 33) (ci := 6) (fs := [.null, .null, .null, .null, .null, .null, .int 0]) in_X5 tyX5 tyX5_ok q_324 q_325 q_220 rfl (fun j hj => by rcases (show j = 0 ∨ j = 1 ∨ j = 2 ∨ j = 3 ∨ j = 4 ∨ j = 5 ∨ j = 6 by omega) with rfl | rfl | rfl | rfl | rfl | rfl | rfl <;> rfl) (Nat.le_of_ble_eq_true rfl) (Nat.le_of_ble_eq_true rfl) dX7_addStore_33 (fun st => ?_)
  refine J_dup X (pc := 36) dX7_addStore_36 rfl ?_
  refine J_iload_n X (pc := 37) dX7_addStore_37 1 rfl ?_
  refine J_perm List.perm_append_comm ?_
  refine J_callCI (w1 := [(st, .inr (6, [.null, .null, .null, .null, .null, .null, .int 0]))]) (rw := cW E ad T) X (pc := 38) (y := yX5_init) (na := 1) (As := [.int a1]) (rest := [.ref st, .ref (ad.1 1)]) (c_X5_init E st a1) q_331 q_332 q_220 q_159 rfl rfl (by decide +kernel) (by decide +kernel) rfl (Nat.le_of_ble_eq_true rfl) ⟨by decide +kernel, by decide +kernel⟩ dX7_addStore_38 (fun u hu => ?_)
  subst hu
  by_cases hz : T.2.1 = 0
  · have hp : (sW E u (initS a1) ++ cW E ad T).Perm ([(ad.1 1, .inr (0, [.int T.1.2, .ref (E.2.2 9), .int 0])), (u 0, .inr (6, [.ref (u 1), .ref (u 2), .ref (u 3), .ref (u 4), .ref (u 5), .ref (u 6), .int ((initS a1).1 0)]))] ++ (((sW E u (initS a1)).drop 1) ++ (cRF ad T :: cS E ad T.2.2 T.2.1))) := by
      have e1 : cW E ad T = cRF ad T :: (ad.1 1, .inr (0, [.int T.1.2, .ref (E.2.2 9), .int 0])) :: cS E ad T.2.2 T.2.1 := by
        unfold cW cLI cAr eRef
        rw [if_pos hz, if_pos hz, hz]
        rfl
      rw [e1]
      show ((u 0, .inr (6, [.ref (u 1), .ref (u 2), .ref (u 3), .ref (u 4), .ref (u 5), .ref (u 6), .int ((initS a1).1 0)])) :: (((sW E u (initS a1)).drop 1) ++ (cRF ad T :: (ad.1 1, .inr (0, [.int T.1.2, .ref (E.2.2 9), .int 0])) :: cS E ad T.2.2 T.2.1))).Perm _
      refine (List.Perm.cons _ ((List.Perm.append_left _ (List.Perm.swap _ _ _)).trans List.perm_middle)).trans ?_
      exact List.Perm.swap _ _ _
    refine J_perm hp ?_
    refine J_callFXI X XX (pc := 41) (y := yJx4a65c_add_9ea2d) (na := 1) (As := [.ref (u 0)]) (rest := []) (c_add_A E (ad.1 1) (u 0) T.1.2 [.ref (u 1), .ref (u 2), .ref (u 3), .ref (u 4), .ref (u 5), .ref (u 6), .int ((initS a1).1 0)]) 0 rfl rfl q_333 q_334 q_335 q_267 q_320 rfl (by decide +kernel) (by decide +kernel) rfl (Nat.le_of_ble_eq_true rfl) ⟨by decide +kernel, by decide +kernel⟩ dX7_addStore_41 (fun q _ => ?_)
    have hp2 : (([(ad.1 1, .inr (0, [.int (T.1.2 + 1), .ref q, .int 1])), (q, .inl (E.2.2 2, 10, .inr (.inr (.inr (.inr (va_up (fun _ => none) 0 (some (u 0)))))))), (u 0, .inr (6, [.ref (u 1), .ref (u 2), .ref (u 3), .ref (u 4), .ref (u 5), .ref (u 6), .int ((initS a1).1 0)]))] : va_W) ++ (((sW E u (initS a1)).drop 1) ++ (cRF ad T :: cS E ad T.2.2 T.2.1))).Perm (cW E (adA ad T.2.1 u q) (addT T a1)) := by
      refine List.Perm.trans ?_ (cW_add (E := E) (ad := ad) (T := T) (v := a1) (u := u) (a2 := q) (Or.inl hz))
      rw [hz, rfs_0]
      refine List.Perm.cons _ (List.Perm.cons _ ?_)
      show ((u 0, .inr (6, [.ref (u 1), .ref (u 2), .ref (u 3), .ref (u 4), .ref (u 5), .ref (u 6), .int ((initS a1).1 0)])) :: (((sW E u (initS a1)).drop 1) ++ (cRF ad T :: cS E ad T.2.2 0))).Perm (cRF ad T :: (sW E u (initS a1) ++ cS E ad T.2.2 0))
      show ((sW E u (initS a1)) ++ (cRF ad T :: cS E ad T.2.2 0)).Perm _
      exact List.perm_middle
    refine J_perm hp2 ?_
    refine J_pop X (pc := 44) dX7_addStore_44 rfl ?_
    refine J_aload_n X (pc := 45) dX7_addStore_45 0 rfl ?_
    refine J_getf X (pc := 46) 0 (cW_c0 (ad := adA ad T.2.1 u q)) rfl in_X7 0 (by decide) q_268 rfl dX7_addStore_46 ?_
    refine J_size (ad := adA ad T.2.1 u q) X (pc := 49) q_328 ⟨Nat.le_of_ble_eq_true rfl, Nat.le_of_ble_eq_true rfl⟩ (Nat.le_of_ble_eq_true rfl) ⟨by decide +kernel, by decide +kernel⟩ dX7_addStore_49 ?_
    refine J_iconst X (pc := 52) (v := 1) dX7_addStore_52 (by decide +kernel) ?_
    refine J_isub X (pc := 53) dX7_addStore_53 ?_
    refine J_nmi (v := nI T.2.1) (nI_pred T.2.1).symm ?_
    refine J_widen (k2 := 16) (n2 := 398) (by decide +kernel) (by decide +kernel) ?_
    exact hE (adA ad T.2.1 u q) rfl _ _ dX7_addStore_54 rfl
  · have hp : (sW E u (initS a1) ++ cW E ad T).Perm ([(ad.1 1, .inr (0, [.int T.1.2, .ref (ad.1 2), .int (nI T.2.1)])), (ad.1 2, .inl (E.2.2 2, 10, .inr (.inr (.inr (.inr (rfs ad T.2.1)))))), (u 0, .inr (6, [.ref (u 1), .ref (u 2), .ref (u 3), .ref (u 4), .ref (u 5), .ref (u 6), .int ((initS a1).1 0)]))] ++ (((sW E u (initS a1)).drop 1) ++ (cRF ad T :: cS E ad T.2.2 T.2.1))) := by
      refine (List.Perm.append_left _ (cW_lia hz)).trans ?_
      refine (List.perm_append_comm_assoc _ _ _).trans ?_
      exact List.Perm.refl _
    refine J_perm hp ?_
    refine J_callFXI X XX (pc := 41) (y := yJx4a65c_add_9ea2d) (na := 1) (As := [.ref (u 0)]) (rest := []) (c_add_B E (ad.1 1) (ad.1 2) (u 0) T.1.2 (nI T.2.1) (rfs ad T.2.1) [.ref (u 1), .ref (u 2), .ref (u 3), .ref (u 4), .ref (u 5), .ref (u 6), .int ((initS a1).1 0)] ⟨nI_pos' (by omega), by rw [nI_clamp (by omega)]; omega⟩ (fun h9 => by have h8 := (nI_eq (a := T.2.1) (b := 10) (by omega) (by decide)).mp h9; omega)) 0 rfl rfl q_333 q_334 q_335 q_267 q_320 rfl (by decide +kernel) (by decide +kernel) rfl (Nat.le_of_ble_eq_true rfl) ⟨by decide +kernel, by decide +kernel⟩ dX7_addStore_41 (fun _ _ => ?_)
    have hp2 : (([(ad.1 1, .inr (0, [.int (T.1.2 + 1), .ref (ad.1 2), .int (nI T.2.1 + 1)])), (ad.1 2, .inl (E.2.2 2, 10, .inr (.inr (.inr (.inr (va_up (rfs ad T.2.1) (nI T.2.1).toNatClampNeg (some (u 0)))))))), (u 0, .inr (6, [.ref (u 1), .ref (u 2), .ref (u 3), .ref (u 4), .ref (u 5), .ref (u 6), .int ((initS a1).1 0)]))] : va_W) ++ (((sW E u (initS a1)).drop 1) ++ (cRF ad T :: cS E ad T.2.2 T.2.1))).Perm (cW E (adA ad T.2.1 u (ad.1 2)) (addT T a1)) := by
      refine List.Perm.trans ?_ (cW_add (E := E) (ad := ad) (T := T) (v := a1) (u := u) (a2 := ad.1 2) (Or.inr rfl))
      rw [nI_clamp (by omega), nI_1]
      refine List.Perm.cons _ (List.Perm.cons _ ?_)
      show ((sW E u (initS a1)) ++ (cRF ad T :: cS E ad T.2.2 T.2.1)).Perm _
      exact List.perm_middle
    refine J_perm hp2 ?_
    refine J_pop X (pc := 44) dX7_addStore_44 rfl ?_
    refine J_aload_n X (pc := 45) dX7_addStore_45 0 rfl ?_
    refine J_getf X (pc := 46) 0 (cW_c0 (ad := adA ad T.2.1 u (ad.1 2))) rfl in_X7 0 (by decide) q_268 rfl dX7_addStore_46 ?_
    refine J_size (ad := adA ad T.2.1 u (ad.1 2)) X (pc := 49) q_328 ⟨Nat.le_of_ble_eq_true rfl, Nat.le_of_ble_eq_true rfl⟩ (Nat.le_of_ble_eq_true rfl) ⟨by decide +kernel, by decide +kernel⟩ dX7_addStore_49 ?_
    refine J_iconst X (pc := 52) (v := 1) dX7_addStore_52 (by decide +kernel) ?_
    refine J_isub X (pc := 53) dX7_addStore_53 ?_
    refine J_nmi (v := nI T.2.1) (nI_pred T.2.1).symm ?_
    refine J_widen (k2 := 16) (n2 := 398) (by decide +kernel) (by decide +kernel) ?_
    exact hE (adA ad T.2.1 u (ad.1 2)) rfl _ _ dX7_addStore_54 rfl
def x_X7_addStore (a1 : Int32) (T : TS) : Option (String × TS) := xc ((x_X7_demandRange a1 ((1 : Int32)) ((1000000 : Int32))).map (fun z => (z, T))) (ck (((1 : Int32)) ≤ a1 ∧ a1 ≤ ((1000000 : Int32))) (if (nI T.2.1) < ((8 : Int32)) then none else some ("java/lang/IllegalStateException", T)))
set_option maxRecDepth 100000 in
set_option maxHeartbeats 4000000 in
theorem t_X7_addStore (E : Ev) (ad : CA) {a1 : Int32} {T : TS} {Ex : String} {T2 : TS} (h : x_X7_addStore a1 T = some (Ex, T2)) : CtT E yX7_addStore cX7_addStore 2 (some .int) 7 106 (cW E ad T) [.ref (ad.1 0), .int a1] Ex (cW E ad T2) := by
  refine CtT_of (by decide +kernel) (Nat.le_of_ble_eq_true rfl) (fun x X XX IT => ?_)
  show J E x 0 0 (cW E ad T) 0 [(0, .ref (ad.1 0)), (1, .int a1)] []
  unfold x_X7_addStore at h
  refine J_iload_n X (pc := 0) dX7_addStore_0 1 rfl ?_
  refine J_iconst X (pc := 1) (v := 1) dX7_addStore_1 (by decide +kernel) ?_
  refine J_ldc X (pc := 2) dX7_addStore_2 q_323 ?_
  rcases xc_e h with h | h
  · obtain ⟨z, hz, hz2⟩ := Option.map_eq_some_iff.mp h
    have hz3 := Prod.mk.inj hz2
    rw [← hz3.1, ← hz3.2] at IT
    exact J_callTS (y := yX7_demandRange) (na := 3) (As := [.int a1, .int ((1 : Int32)), .int ((1000000 : Int32))]) (rest := []) X XX (t_X7_demandRange E (cW E ad T) hz) IT q_326 q_327 q_14 q_272 rfl (by decide +kernel) (by decide +kernel) rfl (Nat.le_of_ble_eq_true rfl) ⟨by decide +kernel, by decide +kernel⟩ dX7_addStore_4 (Nat.le_of_ble_eq_true rfl) (Nat.le_of_ble_eq_true rfl)
  replace h := ck_e h
  obtain ⟨b1, h⟩ := h
  refine J_callSV X (pc := 4) (y := yX7_demandRange) (na := 3) (As := [.int a1, .int ((1 : Int32)), .int ((1000000 : Int32))]) (rest := []) (c_X7_demandRange E (cW E ad T) b1) q_326 q_327 q_14 q_272 rfl (by decide +kernel) (by decide +kernel) rfl (Nat.le_of_ble_eq_true rfl) ⟨Nat.zero_le _, Nat.zero_le _⟩ dX7_addStore_4 ?_
  refine J_aload_n X (pc := 7) dX7_addStore_7 0 rfl ?_
  refine J_getf X (pc := 8) 0 cW_c0 rfl in_X7 0 (by decide) q_268 rfl dX7_addStore_8 ?_
  refine J_size X (pc := 11) q_328 ⟨Nat.le_of_ble_eq_true rfl, Nat.le_of_ble_eq_true rfl⟩ (Nat.le_of_ble_eq_true rfl) ⟨Nat.zero_le _, Nat.zero_le _⟩ dX7_addStore_11 ?_
  refine J_bipush X (pc := 14) (v := 8) dX7_addStore_14 (by decide +kernel) ?_
  refine J_icmp_lt X (pc := 16) 29 dX7_addStore_16 (by decide) (fun c2 => ?_) (fun c2 => ?_)
  · rw [if_pos c2] at h
    refine J_aload_n X (pc := 29) dX7_addStore_29 0 rfl ?_
    refine J_getf X (pc := 30) 0 cW_c0 rfl in_X7 0 (by decide) q_268 rfl dX7_addStore_30 ?_
    cases h
  · rw [if_neg c2] at h
    cases h
    exact J_throwS (text := "no more stores") X XX IT (by decide +kernel) q_321 q_322 xs_31 (by decide +kernel) inv_33 (by decide +kernel) dX7_addStore_19 dX7_addStore_22 dX7_addStore_23 dX7_addStore_25 dX7_addStore_28 (Nat.le_of_ble_eq_true rfl) (Nat.le_of_ble_eq_true rfl) (Nat.le_of_ble_eq_true rfl) (Nat.le_of_ble_eq_true rfl) (Nat.le_of_ble_eq_true rfl) (Nat.le_of_ble_eq_true rfl)
def T00 : TS := ((0, 0), 0, fun _ => initS 0)
set_option maxRecDepth 100000 in
set_option maxHeartbeats 4000000 in
theorem c_X7_init (E : Ev) (h0 : Nat) : CtXV E yX7_init cX7_init 1 4 72 1 3 [(h0, .inr (8, [.null, .int 0]))] [.ref h0] (fun (ad : CA) => ad.1 0 = h0) (fun ad => cW E ad T00) := by
  refine CtXV_of (by decide +kernel) (Nat.le_of_ble_eq_true rfl) (fun x X XX hin hE => ?_)
  show J E x 0 0 [(h0, .inr (8, [.null, .int 0]))] 0 [(0, .ref h0)] []
  refine J_aload_n X (pc := 0) dX7_init_0 0 rfl ?_
  refine J_objInit X (pc := 1) q_264 q_2 q_3 (by decide +kernel) (by decide +kernel) dX7_init_1 ?_
  refine J_aload_n X (pc := 4) dX7_init_4 0 rfl ?_
  refine J_new X (pc := 5) (ci := 0) (fs := [.int 0, .null, .int 0]) in_Jx4a65c tyJx4a65c tyJx4a65c_ok q_265 q_266 q_267 rfl (fun j hj => by rcases (show j = 0 ∨ j = 1 ∨ j = 2 by omega) with rfl | rfl | rfl <;> rfl) (Nat.le_of_ble_eq_true rfl) (Nat.le_of_ble_eq_true rfl) dX7_init_5 (fun li => ?_)
  refine J_dup X (pc := 8) dX7_init_8 rfl ?_
  refine J_perm (w1 := ([(li, .inr (0, [.int 0, .null, .int 0]))] : va_W) ++ [(h0, .inr (8, [.null, .int 0]))]) List.perm_append_comm ?_
  refine J_callCX X XX (pc := 9) (y := yJx4a65c_init_da8c8) (na := 0) (As := []) (rest := [.ref li, .ref h0]) (c_li_init E li) q_270 q_271 q_267 q_257 rfl rfl (by decide +kernel) (by decide +kernel) rfl (Nat.le_of_ble_eq_true rfl) ⟨by decide +kernel, by decide +kernel⟩ dX7_init_9 (fun _ _ => ?_)
  show J E x 1 3 [(li, .inr (0, [.int 0, .ref (E.2.2 9), .int 0])), (h0, .inr (8, [.null, .int 0]))] 12 [(0, .ref h0)] [.ref li, .ref h0]
  refine J_putfF X (hin rfl) (pc := 12) (ty := tyX7 0) (w1 := [(li, .inr (0, [.int 0, .ref (E.2.2 9), .int 0])), (h0, .inr (8, [.ref li, .int 0]))]) 1 rfl rfl in_X7 tyX7_ok nmX7 0 (by decide) q_268 rfl rfl (by decide +kernel) rfl rfl (Nat.le_of_ble_eq_true rfl) dX7_init_12 rfl ?_
  refine J_aload_n X (pc := 15) dX7_init_15 0 rfl ?_
  refine J_iconst X (pc := 16) (v := 0) dX7_init_16 (by decide +kernel) ?_
  refine J_putf X (pc := 17) (ty := tyX7 1) (w1 := [(li, .inr (0, [.int 0, .ref (E.2.2 9), .int 0])), (h0, .inr (8, [.ref li, .int 0]))]) 1 rfl rfl in_X7 tyX7_ok nmX7 1 (by decide) q_269 rfl (by decide +kernel) rfl rfl (Nat.le_of_ble_eq_true rfl) dX7_init_17 rfl ?_
  refine J_perm (List.Perm.swap _ _ _) ?_
  exact hE (fun j => if j = 0 then h0 else li, fun _ _ => 0) rfl _ _ dX7_init_20
