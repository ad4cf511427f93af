/-! the law's start: what the tables and the given start say, as the contracts ask it -/
def R_law : String := "WideCountsLaw"
def lw_P (b : Addr) (xs : List Int32) (args : Array Value) (s : State) : Prop := args = #[.ref b] ∧ s.IntsAt b xs ∧ xs.length ≤ 2560 ∧ (Jvm.Cond.and given_1 narrow_1).before args s = true
def lw_Q (_ : Array Value) (s : State) (o : Outcome) (t : State) : Prop := o = .returned (some (.int 1)) ∧ Framed s o t [] 603072 7198826
def lw_Z (below : List Frame) (a : Array Value) (s : State) : State → Prop := fun t => ∃ o, t.status = .running ∧ Ended t below o ∧ lw_Q a s o t
/-- the law's own end, with 1 on the stack, nothing written that was there before, its room as the claim has it -/
theorem lw_ret {p : Program} {l : Launch} {e : Env} {s : State} {m : MethodId} {below : List Frame} {meth : Method} {c : Code} {b : Nat} (hx : p.tables.exec = Jvm.exec) (hb : c.code = code) (hr : meth.sig.returnType = ret) (hlocks : meth.locks = false) {pc : Nat} {H : Heap} {ls : Array Slot} (hdg : decode code pc = .ok (.ireturn, 1)) : W p l e room_1 s m #[Value.ref b] below meth c H [] 603072 7198826 (lw_Z below #[Value.ref b] s) (F0 m pc ls [.int 1]) := by
  intro T hT X
  obtain ⟨fs, hret, hrun, hended, hW, hframe⟩ := X.leave (v := some (.int 1)) (hlocks := hlocks) (fun h => by rw [hr] at h; cases h)
  have hmeth' : T.vm.method? m = some meth := X.method'
  refine ⟨T.setFrames fs, ?_, .returned (some (.int 1)), hrun, hended, rfl, ⟨_, rfl⟩, hW, hframe⟩
  jvm_step X.here [X.here.top, hx, hb, hdg, hmeth', hr, ret, narrow_b1]
  (try refine ⟨rfl, ?_⟩); (try refine ⟨rfl, ?_⟩)
  first | (intro acts; rw [hret _ acts rfl rfl rfl]) | rw [hret _ _ rfl rfl rfl]
  exact Steps.refl _
/-- what holds at the law's entry: the machine, the code, the tables' words (any of lw_tbl by 'hts w (by decide +kernel)'), the script of L ints xs at the cell b, what the Statement gives of the start (any of its parts by flat_of_before) -/
def lw_At (p : Program) (s : State) (m : MethodId) (meth : Method) (c : Code) (b L : Nat) (xs : Nat → Int32) : Prop :=
  p.tables.exec = Jvm.exec ∧ c.code = code ∧ meth.sig.returnType = ret ∧ c.maxLocals = 8 ∧ s.vm.findClass R_law = some m.cls ∧ (∀ w ∈ lw_tbl, w.before #[Value.ref b] s = true) ∧ va_X b L xs s s.heap ∧ b < s.heap.size ∧ meth.locks = false ∧ (Jvm.Cond.and given_1 narrow_1).before #[Value.ref b] s = true
theorem lw_kJ0 : ∀ w ∈ wsJ00, w ∈ lw_tbl := by decide +kernel
theorem lw_kJx : ∀ w ∈ u_ws RJx00060 TJx00060 6, w ∈ lw_tbl := by decide +kernel
theorem lw_arr {args : Array Value} {s : State} {ty : FieldType} (h : (Cond.arrayClass ty).before args s = true) : ∃ cA : ClassId, ArrOfT s cA ty ∧ s.vm.findClass ("[" ++ ty.toString) = some cA := by
  obtain ⟨cA, k, comp, h1, h2, h3⟩ := Cond.arrayClass_spec h
  exact ⟨cA, fun N z => ⟨(fun q hq => by cases hq), k, h2, comp, h3⟩, h1⟩
set_option maxRecDepth 100000 in
theorem lw_K {s : State} {b : Nat} (hts : ∀ w ∈ lw_tbl, w.before #[Value.ref b] s = true) : ∃ E : hm_E, hm_K E s := by
  have hws : ∀ w ∈ hm_ws, w.before #[Value.ref b] s = true := fun w h => hts w (List.mem_filter.mp h).1
  obtain ⟨c0, i0, h0⟩ := u_known hts lw_kJ0 (hws _ kw_377)
  obtain ⟨c1, i1, h1⟩ := u_known hts lw_kJx (hws _ kw_309)
  obtain ⟨c2, i2, h2⟩ := u_known hws kin_X0 (hws _ kw_90)
  obtain ⟨c3, i3, h3⟩ := u_known hws kin_X1 (hws _ kw_186)
  obtain ⟨c4, i4, h4⟩ := u_known hws kin_X2 (hws _ kw_63)
  obtain ⟨c5, i5, h5⟩ := u_known hws kin_X3 (hws _ kw_52)
  obtain ⟨c6, i6, h6⟩ := u_known hws kin_X4 (hws _ kw_473)
  obtain ⟨aI, gI, fI⟩ := lw_arr (hws _ kw_88)
  obtain ⟨aJ, gJ, fJ⟩ := lw_arr (hws _ kw_87)
  obtain ⟨aZ, gZ, fZ⟩ := lw_arr (hws _ kw_528)
  obtain ⟨cQ, aQ, kQ, q1, q2, q3, q4, q5⟩ := Cond.arrayOver_spec (hts (.arrayOver (.object RX2)) (List.mem_of_getElem? (i := 60) rfl))
  obtain ⟨cR, aR, kR, r1, r2, r3, r4, r5⟩ := Jvm.Stand.arrayOver_specB (hts (.arrayOver (.array .long)) (List.mem_of_getElem? (i := 62) rfl))
  have e0 : ∀ (c : Nat) (q : vw_C), vwCl[c]? = some q → u_Kn s q.1 q.2.1 q.2.2 ([c0, c1, c2, c3, c4, c5, c6].getD c default) ([i0, i1, i2, i3, i4, i5, i6].getD c default) := by
    intro c q hq
    rcases c with _ | _ | _ | _ | _ | _ | _ | c
    · cases hq; exact h0
    · cases hq; exact h1
    · cases hq; exact h2
    · cases hq; exact h3
    · cases hq; exact h4
    · cases hq; exact h5
    · cases hq; exact h6
    · cases hq
  refine ⟨((fun c => [c0, c1, c2, c3, c4, c5, c6].getD c default, fun c => [i0, i1, i2, i3, i4, i5, i6].getD c default), aI, aJ, aZ, aQ, aR), ⟨e0, ?_⟩, ?_, ?_⟩
  · intro k q hq
    rcases k with _ | _ | _ | _ | _ | k
    · cases hq; exact ⟨gI, fI⟩
    · cases hq; exact ⟨gJ, fJ⟩
    · cases hq; exact ⟨gZ, fZ⟩
    · cases hq; exact ⟨fun N z => ⟨(fun q hq => by cases hq), kQ, q3, cQ, q4⟩, kQ, cQ, q3, q4, q1, q5⟩
    · cases hq; exact ⟨fun N z => ⟨(fun q hq => by cases hq), kR, r3, cR, r4⟩, r5⟩
    · cases hq
  · intro q hq
    simp only [hm_nF, List.mem_cons, List.not_mem_nil, or_false] at hq
    rcases hq with rfl | rfl | rfl | rfl | rfl | rfl
    · exact va_Nw.of rfl (hts _ (List.mem_of_getElem? (i := 74) rfl))
    · exact va_Nw.of rfl (hts _ (List.mem_of_getElem? (i := 72) rfl))
    · exact va_Nw.of rfl (hts _ (List.mem_of_getElem? (i := 77) rfl))
    · exact va_Nw.of rfl (hts _ (List.mem_of_getElem? (i := 75) rfl))
    · exact va_Nw.of rfl (hts _ (List.mem_of_getElem? (i := 78) rfl))
    · exact va_Nw.of rfl (hts _ (List.mem_of_getElem? (i := 79) rfl))
  · intro q hq
    simp only [hm_nM, List.mem_cons, List.not_mem_nil, or_false] at hq
    rcases hq with rfl | rfl | rfl | rfl
    · exact va_Nw.of rfl (hts _ (List.mem_of_getElem? (i := 91) rfl))
    · exact va_Nw.of rfl (hts _ (List.mem_of_getElem? (i := 266) rfl))
    · exact va_Nw.of rfl (hts _ (List.mem_of_getElem? (i := 267) rfl))
    · exact va_Nw.of rfl (hts _ (List.mem_of_getElem? (i := 277) rfl))
theorem lw_st {s : State} {args : Array Value} {k : Nat} {tx : String} (h1 : (Cond.stringRef RX3 k tx).before args s = true) (h2 : (Cond.exactly (.string RX3 k) "java/lang/String").before args s = true) : ∃ a, vk_R RX3 k tx a s := by
  obtain ⟨a, c, cA, kA, q1, q2, q3, q4, q5, q6, -⟩ := Cond.exactly_spec (args := args) (first := s) (o := none) (s := s) (idx := []) (t := .string RX3 k) (cls := "java/lang/String") h2
  exact ⟨a, vk_R.of h1 q1⟩
set_option maxRecDepth 100000 in
theorem lw_Y {s : State} {b : Nat} (hts : ∀ w ∈ lw_tbl, w.before #[Value.ref b] s = true) (hg : (Jvm.Cond.and given_1 narrow_1).before #[Value.ref b] s = true) {A : Nat → Prop} (hA : ∀ a : Nat, a < s.heap.size → ¬ A a) : hm_Y A s := by
  have hf := flat_of_before _ hg
  refine ⟨⟨va_AO.of (hts (.arrayOver (.object RX2)) (List.mem_of_getElem? (i := 60) rfl)), hts (.arrayOver (.array .long)) (List.mem_of_getElem? (i := 62) rfl)⟩, ⟨vx_Zqof (hts _ (List.mem_of_getElem? (i := 326) rfl)) (hts _ (List.mem_of_getElem? (i := 42) rfl)) (hf _ (by decide +kernel)) hA, vx_Zqof (hts _ (List.mem_of_getElem? (i := 328) rfl)) (hts _ (List.mem_of_getElem? (i := 42) rfl)) (hf _ (by decide +kernel)) hA⟩, ?_, ⟨va_Nw.of rfl (hts _ (List.mem_of_getElem? (i := 358) rfl)), va_Nw.of rfl (hts _ (List.mem_of_getElem? (i := 418) rfl))⟩, ?_, va_Nc.of (args := #[Value.ref b]) (hf _ (by decide +kernel))⟩
  · intro q hq
    simp only [hm_dw, List.mem_cons, List.not_mem_nil, or_false] at hq
    rcases hq with rfl | rfl | rfl | rfl
    · exact va_Nw.of rfl (hts _ (List.mem_of_getElem? (i := 360) rfl))
    · exact va_Nw.of rfl (hts _ (List.mem_of_getElem? (i := 362) rfl))
    · exact va_Nw.of rfl (hts _ (List.mem_of_getElem? (i := 364) rfl))
    · exact va_Nw.of rfl (hts _ (List.mem_of_getElem? (i := 366) rfl))
  · intro q hq
    simp only [hm_st, List.mem_cons, List.not_mem_nil, or_false] at hq
    rcases hq with rfl | rfl | rfl | rfl
    · exact lw_st (args := #[Value.ref b]) (hts _ (List.mem_of_getElem? (i := 392) rfl)) (hf _ (by decide +kernel))
    · exact lw_st (args := #[Value.ref b]) (hts _ (List.mem_of_getElem? (i := 426) rfl)) (hf _ (by decide +kernel))
    · exact lw_st (args := #[Value.ref b]) (hts _ (List.mem_of_getElem? (i := 453) rfl)) (hf _ (by decide +kernel))
    · exact lw_st (args := #[Value.ref b]) (hts _ (List.mem_of_getElem? (i := 467) rfl)) (hf _ (by decide +kernel))
