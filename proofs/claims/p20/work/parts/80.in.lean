/-! THE CLAIM OUT OF ONE WALK OF THE LAW'S BODY (the kit's skeleton, its head), and the words -/
def R_law : String := "RoomForecastLaw"
def lw_P (b : Addr) (xs : List Int32) (args : Array Value) (s : State) : Prop := args = #[.ref b] ∧ s.IntsAt b xs ∧ xs.length ≤ 260 ∧ (Jvm.Cond.and given_1 narrow_1).before args s = true
def lw_Q (_ : Array Value) (s : State) (o : Outcome) (t : State) : Prop := o = .returned (some (.int 1)) ∧ Framed s o t [] 893193 6421890
def lw_Z (below : List Frame) (a : Array Value) (s : State) : State → Prop := fun t => ∃ o, t.status = .running ∧ Ended t below o ∧ lw_Q a s o t
/-- the law's own end, with 1 on the stack, nothing written that was there before, its room as the claim has it -/
theorem lw_ret {p : Program} {l : Launch} {e : Env} {s : State} {m : MethodId} {below : List Frame} {meth : Method} {c : Code} {b : Nat} (hx : p.tables.exec = Jvm.exec) (hb : c.code = code) (hr : meth.sig.returnType = ret) (hlocks : meth.locks = false) {pc : Nat} {H : Heap} {ls : Array Slot} (hdg : decode code pc = .ok (.ireturn, 1)) : W p l e room_1 s m #[Value.ref b] below meth c H [] 893193 6421890 (lw_Z below #[Value.ref b] s) (F0 m pc ls [.int 1]) := by
  intro T hT X
  obtain ⟨fs, hret, hrun, hended, hW, hframe⟩ := X.leave (v := some (.int 1)) (hlocks := hlocks) (fun h => by rw [hr] at h; cases h)
  have hmeth' : T.vm.method? m = some meth := X.method'
  refine ⟨T.setFrames fs, ?_, .returned (some (.int 1)), hrun, hended, rfl, ⟨_, rfl⟩, hW, hframe⟩
  jvm_step X.here [X.here.top, hx, hb, hdg, hmeth', hr, ret, narrow_b1]
  (try refine ⟨rfl, ?_⟩); (try refine ⟨rfl, ?_⟩)
  first | (intro acts; rw [hret _ acts rfl rfl rfl]) | rw [hret _ _ rfl rfl rfl]
  exact Steps.refl _
/-- what holds at the law's entry: the machine, the code, the tables' words (any of lw_tbl by 'hts w (by decide +kernel)'), the script of L ints xs at the cell b, what the Statement gives of the start (any of its parts by flat_of_before) -/
def lw_At (p : Program) (s : State) (m : MethodId) (meth : Method) (c : Code) (b L : Nat) (xs : Nat → Int32) : Prop :=
  p.tables.exec = Jvm.exec ∧ c.code = code ∧ meth.sig.returnType = ret ∧ c.maxLocals = 13 ∧ s.vm.findClass R_law = some m.cls ∧ (∀ w ∈ lw_tbl, w.before #[Value.ref b] s = true) ∧ va_X b L xs s s.heap ∧ b < s.heap.size ∧ meth.locks = false ∧ (Jvm.Cond.and given_1 narrow_1).before #[Value.ref b] s = true
set_option maxRecDepth 100000 in
theorem in_GC0 : ∀ w ∈ GC0, w ∈ lw_tbl := fun w h => (goodIn_p GC0 [297, 51, 517, 459, 526, 568, 595, 326, 581, 587, 611, 608, 622] rfl (by decide +kernel) w h).1
set_option maxRecDepth 100000 in
theorem in_GC1 : ∀ w ∈ GC1, w ∈ lw_tbl := fun w h => (goodIn_p GC1 [618, 694, 697, 690, 705, 272, 187, 475, 488, 492] rfl (by decide +kernel) w h).1
set_option maxRecDepth 100000 in
theorem in_GC2 : ∀ w ∈ GC2, w ∈ lw_tbl := fun w h => (goodIn_p GC2 [504, 500, 508, 496, 484] rfl (by decide +kernel) w h).1
set_option maxRecDepth 100000 in
theorem in_GC3 : ∀ w ∈ GC3, w ∈ lw_tbl := fun w h => (goodIn_p GC3 [479, 565, 572, 561, 313, 676, 604, 600, 252, 467, 471, 463] rfl (by decide +kernel) w h).1
set_option maxRecDepth 100000 in
theorem in_GC4 : ∀ w ∈ GC4, w ∈ lw_tbl := fun w h => (goodIn_p GC4 [530, 577, 557, 347] rfl (by decide +kernel) w h).1
set_option maxRecDepth 100000 in
theorem in_GC5 : ∀ w ∈ GC5, w ∈ lw_tbl := fun w h => (goodIn_p GC5 [246, 455, 522, 642] rfl (by decide +kernel) w h).1
set_option maxRecDepth 100000 in
theorem in_GC6 : ∀ w ∈ GC6, w ∈ lw_tbl := fun w h => (goodIn_p GC6 [553, 614] rfl (by decide +kernel) w h).1
set_option maxRecDepth 100000 in
theorem in_GC7 : ∀ w ∈ GC7, w ∈ lw_tbl := fun w h => (goodIn_p GC7 [591, 406, 549, 716, 438, 543, 743] rfl (by decide +kernel) w h).1
set_option maxRecDepth 100000 in
theorem in_GC8 : ∀ w ∈ GC8, w ∈ lw_tbl := fun w h => (goodIn_p GC8 [630, 539, 62, 59, 56, 48] rfl (by decide +kernel) w h).1
set_option maxRecDepth 100000 in
theorem in_GC9 : ∀ w ∈ GC9, w ∈ lw_tbl := fun w h => (goodIn_p GC9 [210, 100, 410, 403, 432, 413] rfl (by decide +kernel) w h).1
set_option maxRecDepth 100000 in
theorem in_GC10 : ∀ w ∈ GC10, w ∈ lw_tbl := fun w h => (goodIn_p GC10 [400, 396, 392, 388] rfl (by decide +kernel) w h).1
set_option maxRecDepth 100000 in
theorem in_GC11 : ∀ w ∈ GC11, w ∈ lw_tbl := fun w h => (goodIn_p GC11 [206, 178, 175, 182, 172, 96] rfl (by decide +kernel) w h).1
set_option maxRecDepth 100000 in
theorem in_GC12 : ∀ w ∈ GC12, w ∈ lw_tbl := fun w h => (goodIn_p GC12 [447, 451, 512, 672, 534, 88, 92, 638] rfl (by decide +kernel) w h).1
set_option maxRecDepth 100000 in
theorem in_GC13 : ∀ w ∈ GC13, w ∈ lw_tbl := fun w h => (goodIn_p GC13 [686, 701, 750, 634, 720, 712, 734, 739, 191, 657, 654] rfl (by decide +kernel) w h).1
set_option maxRecDepth 100000 in
theorem in_GC14 : ∀ w ∈ GC14, w ∈ lw_tbl := fun w h => (goodIn_p GC14 [661, 665, 649, 697, 406, 614, 438, 618, 194] rfl (by decide +kernel) w h).1
set_option maxRecDepth 100000 in
theorem in_GC15 : ∀ w ∈ GC15, w ∈ lw_tbl := fun w h => (goodIn_p GC15 [] rfl (by decide +kernel) w h).1
set_option maxRecDepth 100000 in
theorem in_GC16 : ∀ w ∈ GC16, w ∈ lw_tbl := fun w h => (goodIn_p GC16 [767, 727] rfl (by decide +kernel) w h).1
set_option maxRecDepth 100000 in
theorem in_GC17 : ∀ w ∈ GC17, w ∈ lw_tbl := fun w h => (goodIn_p GC17 [723, 679, 754, 746, 730, 758, 761, 764, 780] rfl (by decide +kernel) w h).1
set_option maxRecDepth 100000 in
theorem in_GC18 : ∀ w ∈ GC18, w ∈ lw_tbl := fun w h => (goodIn_p GC18 [783] rfl (by decide +kernel) w h).1
set_option maxRecDepth 100000 in
theorem in_GX19 : ∀ w ∈ (u_ws RX0 TX0 3), w ∈ lw_tbl := by decide +kernel
set_option maxRecDepth 100000 in
theorem in_GX20 : ∀ w ∈ (u_ws RX1 TX1 4), w ∈ lw_tbl := by decide +kernel
set_option maxRecDepth 100000 in
theorem in_GX21 : ∀ w ∈ (u_ws RX2 TX2 6), w ∈ lw_tbl := by decide +kernel
set_option maxRecDepth 100000 in
theorem in_GX22 : ∀ w ∈ (u_ws RX3 TX3 2), w ∈ lw_tbl := by decide +kernel
set_option maxRecDepth 100000 in
theorem in_GX23 : ∀ w ∈ (u_ws RX4 TX4 4), w ∈ lw_tbl := by decide +kernel
set_option maxRecDepth 100000 in
theorem in_GX24 : ∀ w ∈ (u_ws RX5 TX5 7), w ∈ lw_tbl := by decide +kernel
set_option maxRecDepth 100000 in
theorem in_GX25 : ∀ w ∈ (u_ws RX6 TX6 2), w ∈ lw_tbl := by decide +kernel
set_option maxRecDepth 100000 in
theorem in_GX26 : ∀ w ∈ (u_ws RX7 TX7 2), w ∈ lw_tbl := by decide +kernel
set_option maxRecDepth 100000 in
theorem in_GX27 : ∀ w ∈ (u_ws RX8 TX8 0), w ∈ lw_tbl := by decide +kernel
set_option maxRecDepth 100000 in
theorem in_GX28 : ∀ w ∈ (u_ws RJx145de TJx145de 0), w ∈ lw_tbl := by decide +kernel
set_option maxRecDepth 100000 in
theorem in_GX29 : ∀ w ∈ (u_ws RJx8e188 TJx8e188 0), w ∈ lw_tbl := by decide +kernel
set_option maxRecDepth 100000 in
theorem in_GX30 : ∀ w ∈ (u_ws RJxab1ab TJxab1ab 0), w ∈ lw_tbl := by decide +kernel
set_option maxRecDepth 100000 in
theorem in_GX31 : ∀ w ∈ (u_ws RJ9 TJ9 0), w ∈ lw_tbl := by decide +kernel
set_option maxRecDepth 100000 in
theorem in_GX32 : ∀ w ∈ (u_ws RJ0 TJ0 0), w ∈ lw_tbl := by decide +kernel
set_option maxRecDepth 100000 in
theorem in_GX33 : ∀ w ∈ (u_ws RJ10 TJ10 0), w ∈ lw_tbl := by decide +kernel
set_option maxRecDepth 100000 in
theorem in_GX34 : ∀ w ∈ (u_ws RJxa1e45 TJxa1e45 0), w ∈ lw_tbl := by decide +kernel
set_option maxRecDepth 100000 in
theorem in_GX35 : ∀ w ∈ (u_ws RJxc12de TJxc12de 0), w ∈ lw_tbl := by decide +kernel
set_option maxRecDepth 100000 in
theorem in_GX36 : ∀ w ∈ (u_ws RJx4a65c TJx4a65c 3), w ∈ lw_tbl := by decide +kernel
set_option maxRecDepth 100000 in
theorem in_GX37 : ∀ w ∈ (u_ws RJ7 TJ7 0), w ∈ lw_tbl := by decide +kernel
set_option maxRecDepth 100000 in
theorem in_GX38 : ∀ w ∈ (u_ws RJx5ef63 TJx5ef63 0), w ∈ lw_tbl := by decide +kernel
set_option maxRecDepth 100000 in
theorem in_GX39 : ∀ w ∈ (u_ws RJxbd725 TJxbd725 0), w ∈ lw_tbl := by decide +kernel
set_option maxRecDepth 100000 in
theorem in_GX40 : ∀ w ∈ (u_ws RJ15 TJ15 0), w ∈ lw_tbl := by decide +kernel
set_option maxRecDepth 100000 in
theorem in_GX41 : ∀ w ∈ (u_ws RJxf0a74 TJxf0a74 0), w ∈ lw_tbl := by decide +kernel
set_option maxRecDepth 100000 in
theorem in_GX42 : ∀ w ∈ (u_ws RJxa66e6 TJxa66e6 0), w ∈ lw_tbl := by decide +kernel
set_option maxRecDepth 100000 in
theorem in_GX43 : ∀ w ∈ (u_ws RJ8 TJ8 0), w ∈ lw_tbl := by decide +kernel
set_option maxRecDepth 100000 in
theorem in_GX44 : ∀ w ∈ (u_ws RJ3 TJ3 0), w ∈ lw_tbl := by decide +kernel
set_option maxRecDepth 100000 in
theorem in_GX45 : ∀ w ∈ ((vx_atS RX7 144 "java/lang/IllegalArgumentException" ["java/lang/RuntimeException", "java/lang/Exception"]).filter goodWord), w ∈ lw_tbl := by decide +kernel
set_option maxRecDepth 100000 in
theorem in_GX46 : ∀ w ∈ ((vx_atS RX7 163 "java/lang/IndexOutOfBoundsException" ["java/lang/RuntimeException", "java/lang/Exception"]).filter goodWord), w ∈ lw_tbl := by decide +kernel
set_option maxRecDepth 100000 in
theorem in_GX47 : ∀ w ∈ ((vx_atS RX7 33 "java/lang/IllegalStateException" ["java/lang/RuntimeException", "java/lang/Exception"]).filter goodWord), w ∈ lw_tbl := by decide +kernel
theorem GW_tbl : ∀ w ∈ GW, w ∈ lw_tbl := by
  intro w hw
  obtain ⟨c, hc, hw⟩ := List.mem_flatten.mp hw
  simp only [GWs, List.mem_cons, List.not_mem_nil, or_false] at hc
  rcases hc with rfl | rfl | rfl | rfl | rfl | rfl | rfl | rfl | rfl | rfl | rfl | rfl | rfl | rfl | rfl | rfl | rfl | rfl | rfl | rfl | rfl | rfl | rfl | rfl | rfl | rfl | rfl | rfl | rfl | rfl | rfl | rfl | rfl | rfl | rfl | rfl | rfl | rfl | rfl | rfl | rfl | rfl | rfl | rfl | rfl | rfl | rfl | rfl
  · exact in_GC0 w hw
  · exact in_GC1 w hw
  · exact in_GC2 w hw
  · exact in_GC3 w hw
  · exact in_GC4 w hw
  · exact in_GC5 w hw
  · exact in_GC6 w hw
  · exact in_GC7 w hw
  · exact in_GC8 w hw
  · exact in_GC9 w hw
  · exact in_GC10 w hw
  · exact in_GC11 w hw
  · exact in_GC12 w hw
  · exact in_GC13 w hw
  · exact in_GC14 w hw
  · exact in_GC15 w hw
  · exact in_GC16 w hw
  · exact in_GC17 w hw
  · exact in_GC18 w hw
  · exact in_GX19 w hw
  · exact in_GX20 w hw
  · exact in_GX21 w hw
  · exact in_GX22 w hw
  · exact in_GX23 w hw
  · exact in_GX24 w hw
  · exact in_GX25 w hw
  · exact in_GX26 w hw
  · exact in_GX27 w hw
  · exact in_GX28 w hw
  · exact in_GX29 w hw
  · exact in_GX30 w hw
  · exact in_GX31 w hw
  · exact in_GX32 w hw
  · exact in_GX33 w hw
  · exact in_GX34 w hw
  · exact in_GX35 w hw
  · exact in_GX36 w hw
  · exact in_GX37 w hw
  · exact in_GX38 w hw
  · exact in_GX39 w hw
  · exact in_GX40 w hw
  · exact in_GX41 w hw
  · exact in_GX42 w hw
  · exact in_GX43 w hw
  · exact in_GX44 w hw
  · exact in_GX45 w hw
  · exact in_GX46 w hw
  · exact in_GX47 w hw
set_option maxRecDepth 100000 in
theorem NW_tbl : ∀ w ∈ NW, w ∈ lw_tbl := by decide +kernel
