section
-- ===== PART A: goes FIRST, ahead of the names: the tables' words, and 'selects' of the private methods out of them =====
/-- a private method of a class that the tables say can be made, by its rows of tables_1 -/
def lw_okq (q : MethodName × Nat) : Prop := (q.1.cls ≠ "java/lang/invoke/MethodHandle" ∧ q.1.cls ≠ "java/lang/invoke/VarHandle") ∧ Cond.instantiable q.1.cls q.2 ∈ tables_1 ∧ Cond.privateMethod q.1 ∈ tables_1 ∧ Cond.instanceMethod q.1 ∈ tables_1
theorem lw_p0 : lw_okq (⟨"WideCounts", "isFull", "()Z"⟩, 7) := ⟨⟨by decide +kernel, by decide +kernel⟩, List.mem_of_getElem? (i := 16) (by decide +kernel), List.mem_of_getElem? (i := 93) (by decide +kernel), List.mem_of_getElem? (i := 94) (by decide +kernel)⟩
theorem lw_p1 : lw_okq (⟨"WideCounts$Whole", "finish", "(IZ)V"⟩, 3) := ⟨⟨by decide +kernel, by decide +kernel⟩, List.mem_of_getElem? (i := 27) (by decide +kernel), List.mem_of_getElem? (i := 105) (by decide +kernel), List.mem_of_getElem? (i := 106) (by decide +kernel)⟩
theorem lw_p2 : lw_okq (⟨"WideCounts", "keep", "(LWideCounts$Whole;)I"⟩, 7) := ⟨⟨by decide +kernel, by decide +kernel⟩, List.mem_of_getElem? (i := 16) (by decide +kernel), List.mem_of_getElem? (i := 109) (by decide +kernel), List.mem_of_getElem? (i := 110) (by decide +kernel)⟩
theorem lw_p3 : lw_okq (⟨"WideCounts$Whole", "limbAt", "(I)I"⟩, 3) := ⟨⟨by decide +kernel, by decide +kernel⟩, List.mem_of_getElem? (i := 27) (by decide +kernel), List.mem_of_getElem? (i := 130) (by decide +kernel), List.mem_of_getElem? (i := 131) (by decide +kernel)⟩
theorem lw_p4 : lw_okq (⟨"WideCounts$Elimination", "load", "([[JI)V"⟩, 4) := ⟨⟨by decide +kernel, by decide +kernel⟩, List.mem_of_getElem? (i := 150) (by decide +kernel), List.mem_of_getElem? (i := 175) (by decide +kernel), List.mem_of_getElem? (i := 176) (by decide +kernel)⟩
theorem lw_p5 : lw_okq (⟨"WideCounts$Elimination", "cell", "(II)LWideCounts$Whole;"⟩, 4) := ⟨⟨by decide +kernel, by decide +kernel⟩, List.mem_of_getElem? (i := 150) (by decide +kernel), List.mem_of_getElem? (i := 179) (by decide +kernel), List.mem_of_getElem? (i := 180) (by decide +kernel)⟩
theorem lw_p6 : lw_okq (⟨"WideCounts$Elimination", "pivotRow", "(II)I"⟩, 4) := ⟨⟨by decide +kernel, by decide +kernel⟩, List.mem_of_getElem? (i := 150) (by decide +kernel), List.mem_of_getElem? (i := 184) (by decide +kernel), List.mem_of_getElem? (i := 185) (by decide +kernel)⟩
theorem lw_p7 : lw_okq (⟨"WideCounts$Elimination", "swapRows", "(III)V"⟩, 4) := ⟨⟨by decide +kernel, by decide +kernel⟩, List.mem_of_getElem? (i := 150) (by decide +kernel), List.mem_of_getElem? (i := 192) (by decide +kernel), List.mem_of_getElem? (i := 193) (by decide +kernel)⟩
theorem lw_p8 : lw_okq (⟨"WideCounts$Elimination", "clearBelow", "(II)V"⟩, 4) := ⟨⟨by decide +kernel, by decide +kernel⟩, List.mem_of_getElem? (i := 150) (by decide +kernel), List.mem_of_getElem? (i := 196) (by decide +kernel), List.mem_of_getElem? (i := 197) (by decide +kernel)⟩
theorem lw_p9 : lw_okq (⟨"WideCounts$Elimination", "reduce", "(III)V"⟩, 4) := ⟨⟨by decide +kernel, by decide +kernel⟩, List.mem_of_getElem? (i := 150) (by decide +kernel), List.mem_of_getElem? (i := 200) (by decide +kernel), List.mem_of_getElem? (i := 201) (by decide +kernel)⟩
theorem lw_p10 : lw_okq (⟨"WideCounts$Whole", "setAmounts", "(LWideCounts$Whole;LWideCounts$Whole;IZ)V"⟩, 3) := ⟨⟨by decide +kernel, by decide +kernel⟩, List.mem_of_getElem? (i := 27) (by decide +kernel), List.mem_of_getElem? (i := 213) (by decide +kernel), List.mem_of_getElem? (i := 214) (by decide +kernel)⟩
theorem lw_p11 : lw_okq (⟨"WideCounts$Divider", "nextLimb", "(II)I"⟩, 2) := ⟨⟨by decide +kernel, by decide +kernel⟩, List.mem_of_getElem? (i := 54) (by decide +kernel), List.mem_of_getElem? (i := 244) (by decide +kernel), List.mem_of_getElem? (i := 245) (by decide +kernel)⟩
theorem lw_p12 : lw_okq (⟨"WideCounts$Divider", "guessLimb", "(II)J"⟩, 2) := ⟨⟨by decide +kernel, by decide +kernel⟩, List.mem_of_getElem? (i := 54) (by decide +kernel), List.mem_of_getElem? (i := 248) (by decide +kernel), List.mem_of_getElem? (i := 249) (by decide +kernel)⟩
theorem lw_p13 : lw_okq (⟨"WideCounts$Divider", "takeAway", "(IIJ)Z"⟩, 2) := ⟨⟨by decide +kernel, by decide +kernel⟩, List.mem_of_getElem? (i := 54) (by decide +kernel), List.mem_of_getElem? (i := 253) (by decide +kernel), List.mem_of_getElem? (i := 254) (by decide +kernel)⟩
theorem lw_p14 : lw_okq (⟨"WideCounts$Divider", "giveBack", "(II)V"⟩, 2) := ⟨⟨by decide +kernel, by decide +kernel⟩, List.mem_of_getElem? (i := 54) (by decide +kernel), List.mem_of_getElem? (i := 257) (by decide +kernel), List.mem_of_getElem? (i := 258) (by decide +kernel)⟩
theorem lw_p15 : lw_okq (⟨"java/lang/Throwable", "fillInStackTrace", "(I)Ljava/lang/Throwable;"⟩, 6) := ⟨⟨by decide +kernel, by decide +kernel⟩, List.mem_of_getElem? (i := 302) (by decide +kernel), List.mem_of_getElem? (i := 300) (by decide +kernel), List.mem_of_getElem? (i := 301) (by decide +kernel)⟩
def lw_privs_1 : List (MethodName × Nat) := [(⟨"WideCounts", "isFull", "()Z"⟩, 7), (⟨"WideCounts$Whole", "finish", "(IZ)V"⟩, 3), (⟨"WideCounts", "keep", "(LWideCounts$Whole;)I"⟩, 7), (⟨"WideCounts$Whole", "limbAt", "(I)I"⟩, 3), (⟨"WideCounts$Elimination", "load", "([[JI)V"⟩, 4), (⟨"WideCounts$Elimination", "cell", "(II)LWideCounts$Whole;"⟩, 4), (⟨"WideCounts$Elimination", "pivotRow", "(II)I"⟩, 4), (⟨"WideCounts$Elimination", "swapRows", "(III)V"⟩, 4), (⟨"WideCounts$Elimination", "clearBelow", "(II)V"⟩, 4), (⟨"WideCounts$Elimination", "reduce", "(III)V"⟩, 4), (⟨"WideCounts$Whole", "setAmounts", "(LWideCounts$Whole;LWideCounts$Whole;IZ)V"⟩, 3), (⟨"WideCounts$Divider", "nextLimb", "(II)I"⟩, 2), (⟨"WideCounts$Divider", "guessLimb", "(II)J"⟩, 2), (⟨"WideCounts$Divider", "takeAway", "(IIJ)Z"⟩, 2), (⟨"WideCounts$Divider", "giveBack", "(II)V"⟩, 2), (⟨"java/lang/Throwable", "fillInStackTrace", "(I)Ljava/lang/Throwable;"⟩, 6)]
theorem lw_r1 : ∀ q ∈ lw_privs_1, lw_okq q := List.forall_mem_cons.mpr ⟨lw_p0, List.forall_mem_cons.mpr ⟨lw_p1, List.forall_mem_cons.mpr ⟨lw_p2, List.forall_mem_cons.mpr ⟨lw_p3, List.forall_mem_cons.mpr ⟨lw_p4, List.forall_mem_cons.mpr ⟨lw_p5, List.forall_mem_cons.mpr ⟨lw_p6, List.forall_mem_cons.mpr ⟨lw_p7, List.forall_mem_cons.mpr ⟨lw_p8, List.forall_mem_cons.mpr ⟨lw_p9, List.forall_mem_cons.mpr ⟨lw_p10, List.forall_mem_cons.mpr ⟨lw_p11, List.forall_mem_cons.mpr ⟨lw_p12, List.forall_mem_cons.mpr ⟨lw_p13, List.forall_mem_cons.mpr ⟨lw_p14, List.forall_mem_cons.mpr ⟨lw_p15, fun _ h => absurd h List.not_mem_nil⟩⟩⟩⟩⟩⟩⟩⟩⟩⟩⟩⟩⟩⟩⟩⟩
theorem lw_p16 : lw_okq (⟨"WideCounts", "known", "(I)LWideCounts$Whole;"⟩, 7) := ⟨⟨by decide +kernel, by decide +kernel⟩, List.mem_of_getElem? (i := 16) (by decide +kernel), List.mem_of_getElem? (i := 352) (by decide +kernel), List.mem_of_getElem? (i := 353) (by decide +kernel)⟩
theorem lw_p17 : lw_okq (⟨"WideCountsModel", "loadLong", "(J)V"⟩, 16) := ⟨⟨by decide +kernel, by decide +kernel⟩, List.mem_of_getElem? (i := 437) (by decide +kernel), List.mem_of_getElem? (i := 502) (by decide +kernel), List.mem_of_getElem? (i := 503) (by decide +kernel)⟩
theorem lw_p18 : lw_okq (⟨"WideCountsModel", "clear", "([I)V"⟩, 16) := ⟨⟨by decide +kernel, by decide +kernel⟩, List.mem_of_getElem? (i := 437) (by decide +kernel), List.mem_of_getElem? (i := 506) (by decide +kernel), List.mem_of_getElem? (i := 507) (by decide +kernel)⟩
theorem lw_p19 : lw_okq (⟨"WideCountsModel", "keep", "(Z)I"⟩, 16) := ⟨⟨by decide +kernel, by decide +kernel⟩, List.mem_of_getElem? (i := 437) (by decide +kernel), List.mem_of_getElem? (i := 514) (by decide +kernel), List.mem_of_getElem? (i := 515) (by decide +kernel)⟩
theorem lw_p20 : lw_okq (⟨"WideCountsModel", "isTooWide", "()Z"⟩, 16) := ⟨⟨by decide +kernel, by decide +kernel⟩, List.mem_of_getElem? (i := 437) (by decide +kernel), List.mem_of_getElem? (i := 518) (by decide +kernel), List.mem_of_getElem? (i := 519) (by decide +kernel)⟩
theorem lw_p21 : lw_okq (⟨"WideCountsModel", "areKnown", "(II)Z"⟩, 16) := ⟨⟨by decide +kernel, by decide +kernel⟩, List.mem_of_getElem? (i := 437) (by decide +kernel), List.mem_of_getElem? (i := 526) (by decide +kernel), List.mem_of_getElem? (i := 527) (by decide +kernel)⟩
theorem lw_p22 : lw_okq (⟨"WideCountsModel", "isKnown", "(I)Z"⟩, 16) := ⟨⟨by decide +kernel, by decide +kernel⟩, List.mem_of_getElem? (i := 437) (by decide +kernel), List.mem_of_getElem? (i := 530) (by decide +kernel), List.mem_of_getElem? (i := 531) (by decide +kernel)⟩
theorem lw_p23 : lw_okq (⟨"WideCountsModel", "load", "(I)V"⟩, 16) := ⟨⟨by decide +kernel, by decide +kernel⟩, List.mem_of_getElem? (i := 437) (by decide +kernel), List.mem_of_getElem? (i := 534) (by decide +kernel), List.mem_of_getElem? (i := 535) (by decide +kernel)⟩
theorem lw_p24 : lw_okq (⟨"WideCountsModel", "loadOther", "(I)V"⟩, 16) := ⟨⟨by decide +kernel, by decide +kernel⟩, List.mem_of_getElem? (i := 437) (by decide +kernel), List.mem_of_getElem? (i := 538) (by decide +kernel), List.mem_of_getElem? (i := 539) (by decide +kernel)⟩
theorem lw_p25 : lw_okq (⟨"WideCountsModel", "grow", "()V"⟩, 16) := ⟨⟨by decide +kernel, by decide +kernel⟩, List.mem_of_getElem? (i := 437) (by decide +kernel), List.mem_of_getElem? (i := 542) (by decide +kernel), List.mem_of_getElem? (i := 543) (by decide +kernel)⟩
theorem lw_p26 : lw_okq (⟨"WideCountsModel", "compare", "()I"⟩, 16) := ⟨⟨by decide +kernel, by decide +kernel⟩, List.mem_of_getElem? (i := 437) (by decide +kernel), List.mem_of_getElem? (i := 547) (by decide +kernel), List.mem_of_getElem? (i := 548) (by decide +kernel)⟩
theorem lw_p27 : lw_okq (⟨"WideCountsModel", "shrink", "(Z)V"⟩, 16) := ⟨⟨by decide +kernel, by decide +kernel⟩, List.mem_of_getElem? (i := 437) (by decide +kernel), List.mem_of_getElem? (i := 551) (by decide +kernel), List.mem_of_getElem? (i := 552) (by decide +kernel)⟩
theorem lw_p28 : lw_okq (⟨"WideCountsModel", "multiply", "()V"⟩, 16) := ⟨⟨by decide +kernel, by decide +kernel⟩, List.mem_of_getElem? (i := 437) (by decide +kernel), List.mem_of_getElem? (i := 559) (by decide +kernel), List.mem_of_getElem? (i := 560) (by decide +kernel)⟩
theorem lw_p29 : lw_okq (⟨"WideCountsModel", "divide", "()V"⟩, 16) := ⟨⟨by decide +kernel, by decide +kernel⟩, List.mem_of_getElem? (i := 437) (by decide +kernel), List.mem_of_getElem? (i := 567) (by decide +kernel), List.mem_of_getElem? (i := 568) (by decide +kernel)⟩
theorem lw_p30 : lw_okq (⟨"WideCountsModel", "reaches", "()Z"⟩, 16) := ⟨⟨by decide +kernel, by decide +kernel⟩, List.mem_of_getElem? (i := 437) (by decide +kernel), List.mem_of_getElem? (i := 571) (by decide +kernel), List.mem_of_getElem? (i := 572) (by decide +kernel)⟩
theorem lw_p31 : lw_okq (⟨"WideCountsModel", "multiplyBy", "(I)V"⟩, 16) := ⟨⟨by decide +kernel, by decide +kernel⟩, List.mem_of_getElem? (i := 437) (by decide +kernel), List.mem_of_getElem? (i := 584) (by decide +kernel), List.mem_of_getElem? (i := 585) (by decide +kernel)⟩
def lw_privs_2 : List (MethodName × Nat) := [(⟨"WideCounts", "known", "(I)LWideCounts$Whole;"⟩, 7), (⟨"WideCountsModel", "loadLong", "(J)V"⟩, 16), (⟨"WideCountsModel", "clear", "([I)V"⟩, 16), (⟨"WideCountsModel", "keep", "(Z)I"⟩, 16), (⟨"WideCountsModel", "isTooWide", "()Z"⟩, 16), (⟨"WideCountsModel", "areKnown", "(II)Z"⟩, 16), (⟨"WideCountsModel", "isKnown", "(I)Z"⟩, 16), (⟨"WideCountsModel", "load", "(I)V"⟩, 16), (⟨"WideCountsModel", "loadOther", "(I)V"⟩, 16), (⟨"WideCountsModel", "grow", "()V"⟩, 16), (⟨"WideCountsModel", "compare", "()I"⟩, 16), (⟨"WideCountsModel", "shrink", "(Z)V"⟩, 16), (⟨"WideCountsModel", "multiply", "()V"⟩, 16), (⟨"WideCountsModel", "divide", "()V"⟩, 16), (⟨"WideCountsModel", "reaches", "()Z"⟩, 16), (⟨"WideCountsModel", "multiplyBy", "(I)V"⟩, 16)]
theorem lw_r2 : ∀ q ∈ lw_privs_2, lw_okq q := List.forall_mem_cons.mpr ⟨lw_p16, List.forall_mem_cons.mpr ⟨lw_p17, List.forall_mem_cons.mpr ⟨lw_p18, List.forall_mem_cons.mpr ⟨lw_p19, List.forall_mem_cons.mpr ⟨lw_p20, List.forall_mem_cons.mpr ⟨lw_p21, List.forall_mem_cons.mpr ⟨lw_p22, List.forall_mem_cons.mpr ⟨lw_p23, List.forall_mem_cons.mpr ⟨lw_p24, List.forall_mem_cons.mpr ⟨lw_p25, List.forall_mem_cons.mpr ⟨lw_p26, List.forall_mem_cons.mpr ⟨lw_p27, List.forall_mem_cons.mpr ⟨lw_p28, List.forall_mem_cons.mpr ⟨lw_p29, List.forall_mem_cons.mpr ⟨lw_p30, List.forall_mem_cons.mpr ⟨lw_p31, fun _ h => absurd h List.not_mem_nil⟩⟩⟩⟩⟩⟩⟩⟩⟩⟩⟩⟩⟩⟩⟩⟩
theorem lw_p32 : lw_okq (⟨"WideCountsModel", "divideBy", "(I)I"⟩, 16) := ⟨⟨by decide +kernel, by decide +kernel⟩, List.mem_of_getElem? (i := 437) (by decide +kernel), List.mem_of_getElem? (i := 588) (by decide +kernel), List.mem_of_getElem? (i := 589) (by decide +kernel)⟩
theorem lw_p33 : lw_okq (⟨"WideCountsModel", "minorOf", "(I)V"⟩, 16) := ⟨⟨by decide +kernel, by decide +kernel⟩, List.mem_of_getElem? (i := 437) (by decide +kernel), List.mem_of_getElem? (i := 621) (by decide +kernel), List.mem_of_getElem? (i := 622) (by decide +kernel)⟩
theorem lw_p34 : lw_okq (⟨"WideCountsModel", "product", "(JI[I)V"⟩, 16) := ⟨⟨by decide +kernel, by decide +kernel⟩, List.mem_of_getElem? (i := 437) (by decide +kernel), List.mem_of_getElem? (i := 628) (by decide +kernel), List.mem_of_getElem? (i := 629) (by decide +kernel)⟩
theorem lw_p35 : lw_okq (⟨"WideCountsModel", "addTo", "([I[I)V"⟩, 16) := ⟨⟨by decide +kernel, by decide +kernel⟩, List.mem_of_getElem? (i := 437) (by decide +kernel), List.mem_of_getElem? (i := 632) (by decide +kernel), List.mem_of_getElem? (i := 633) (by decide +kernel)⟩
def lw_privs_3 : List (MethodName × Nat) := [(⟨"WideCountsModel", "divideBy", "(I)I"⟩, 16), (⟨"WideCountsModel", "minorOf", "(I)V"⟩, 16), (⟨"WideCountsModel", "product", "(JI[I)V"⟩, 16), (⟨"WideCountsModel", "addTo", "([I[I)V"⟩, 16)]
theorem lw_r3 : ∀ q ∈ lw_privs_3, lw_okq q := List.forall_mem_cons.mpr ⟨lw_p32, List.forall_mem_cons.mpr ⟨lw_p33, List.forall_mem_cons.mpr ⟨lw_p34, List.forall_mem_cons.mpr ⟨lw_p35, fun _ h => absurd h List.not_mem_nil⟩⟩⟩⟩
def lw_privs : List (MethodName × Nat) := lw_privs_1 ++ (lw_privs_2 ++ (lw_privs_3))
def lw_tbl : List Cond := k2_sels lw_privs ++ tables_1
theorem lw_privs_ok : ∀ q ∈ lw_privs, lw_okq q := by
  show ∀ q ∈ lw_privs_1 ++ (lw_privs_2 ++ (lw_privs_3)), lw_okq q
  exact List.forall_mem_append.mpr ⟨lw_r1, List.forall_mem_append.mpr ⟨lw_r2, lw_r3⟩⟩
end
section
/-! ===== BEGIN words of one list among another's, by their places ===== -/
theorem goodIn_r {big : List Cond} (ws : List Cond) (ps : List Nat) (hp : ws = ps.filterMap (fun i => big[i]?)) (h : ws.all goodWord = true) : GoodIn big ws := by
  intro w hw
  have h1 := List.all_eq_true.mp h w hw
  rw [hp] at hw
  obtain ⟨i, -, hi⟩ := List.mem_filterMap.mp hw
  have hm : w ∈ big := by first | exact List.mem_of_getElem? hi | exact List.getElem?_mem hi
  exact ⟨hm, good_of_word h1⟩
theorem goodIn_app {big a b : List Cond} (ha : GoodIn big a) (hb : GoodIn big b) : GoodIn big (a ++ b) := fun w h => (List.mem_append.mp h).elim (ha w) (hb w)
theorem goodIn_ca {big a b : List Cond} {c : Cond} (ha : GoodIn big (c :: a)) (hb : GoodIn big b) : GoodIn big (c :: (a ++ b)) := fun w h => (List.mem_cons.mp h).elim (fun e => ha w (List.mem_cons.mpr (Or.inl e))) (fun h => (List.mem_append.mp h).elim (fun h => ha w (List.mem_cons.mpr (Or.inr h))) (hb w))
theorem goodIn_sub {big ws : List Cond} (hm : ∀ w ∈ ws, w ∈ big) (h : ws.all goodWord = true) : GoodIn big ws := fun w hw => ⟨hm w hw, good_of_word (List.all_eq_true.mp h w hw)⟩
/-! ===== END ===== -/

/-! ===== BEGIN exceptions that leave a method, and their catching by the caller (launches without stack traces) ===== -/
section VXA
/-! The laws vx_back, vx_callV, vx_callS, vx_callSW, vx_throw0, vx_throwS follow proofs of the library, with one case more: JvmDerived/Free/Laws.lean (Back.of_free), Shelf42/LK1.lean (callV, callS), Shelf/KitTraced.lean (throwNew0V, throwNewS). -/

/-- where a method has thrown q: the class by its name, the cell, what was written, the world -/
def vx_T (XC : String → State → State → Prop) (st : State) (q : Addr) (t : State) (mc ms : Nat) (free : Addr → Prop) : Prop :=
  ∃ (E : String) (ce : Cell) (L : List Loc), XC E st t ∧ t.heap[q]? = some ce ∧ ce.vm = .none ∧ st.vm.findClass E = some ce.cls ∧ st.WarmedH t.vm ∧ st.sameButNew ({ t with vm := st.vm } : State) L mc ms ∧ ∀ z ∈ L, free z.base
def vx_Q (Qc : Array Value → State → Outcome → State → Prop) (XC : String → State → State → Prop) (mc ms : Nat) (free : Addr → Prop) : Array Value → State → Outcome → State → Prop := fun a st o t =>
  (Qc a st o t ∧ ∃ L, FrameEnd st o t L mc ms ∧ ∀ q ∈ L, free q.base) ∨ ∃ q, o = .threw q ∧ vx_T XC st q t mc ms free
/-- a callee that returns or throws -/
def vx_Met (l : Launch) (y : MethodName) (ws : List Cond) (rm : Room) (Pc : Array Value → State → Prop) (Qc : Array Value → State → Outcome → State → Prop) (XC : String → State → State → Prop) (mc ms : Nat) (free : Addr → Prop) : Prop :=
  MetFree l y (headSpec ws rm) Pc (fun _ _ _ _ _ => True) (vx_Q Qc XC mc ms free)
def vx_Post (XC : String → State → State → Prop) (mc ms : Nat) (free : Addr → Prop) : Pt → Array Value → Addr → Pt → Prop := fun A a q B =>
  ∃ (g : JFrame) (mk : MethodId) (t : State) (L : List Loc) (E : String) (ce : Cell), B.U.heap = t.heap ∧ B.U.vm = t.vm ∧ XC E (A.U.calling g mk a) t ∧ t.heap[q]? = some ce ∧ ce.vm = .none ∧ A.U.vm.findClass E = some ce.cls ∧ B.locs = A.locs ++ L ∧ (∀ z ∈ L, free z.base) ∧ B.cells = A.cells + mc ∧ B.slots = A.slots + ms
def vx_Back (l : Launch) (R : Room) (p : Program) (e : Env) (below : List Frame) (s : State) (sargs : Array Value) (y : MethodName) (len W9 : Nat)
    (Pre : Pt → Array Value → Prop) (Post : Pt → Array Value → Option Value → Pt → Prop) (PostX : Pt → Array Value → Addr → Pt → Prop) : Prop :=
  ∀ (m : MethodId) (meth : Method) (c : Code) (A : Pt) (g : JFrame) (ig : Instr) (mk : MethodId) (a : Array Value),
    Stand p l e R s m sargs below meth c A.U A.locs A.cells A.slots → g.method = m → g.locals.size = c.maxLocals → decode c.code g.pc = .ok (ig, len) →
    2 * g.monitorRoom + (g.stack.map fun v => v.category).sum ≤ W9 → A.U.methodNamed? y = some mk → Pre A a →
    (∃ (v : Option Value) (B : Pt), Stand p l e R s m sargs below meth c B.U B.locs B.cells B.slots ∧ Post A a v B ∧
      Steps p.tables e below (doInvoke e (A.U.setTop g) [] mk a).1 (B.U.setTop { g with pc := g.pc + len, stack := v.toList ++ g.stack })) ∨
    (∃ (q : Addr) (B : Pt), Stand p l e R s m sargs below meth c B.U B.locs B.cells B.slots ∧ PostX A a q B ∧
      Steps p.tables e below (doInvoke e (A.U.setTop g) [] mk a).1 ((B.U.setTop g).pushFrame (.throwing q)))
section Payer
variable {l : Launch} {R : Room} {p : Program} {e : Env} {below : List Frame} {s : State} {sargs : Array Value} {y : MethodName} {len W9 : Nat}
theorem vx_back {ws : List Cond} {rm : Room} {Pc : Array Value → State → Prop} {Qc : Array Value → State → Outcome → State → Prop} {XC : String → State → State → Prop} {mc ms : Nat} {free : Addr → Prop} {bytes : ByteArray} {maxL : Nat} {ret : Option FieldType}
    (hM : vx_Met l y ws rm Pc Qc XC mc ms free) (hblind : FrameBlind Pc) (hrc : rm.cells = mc) (hrs : rm.slots = ms)
    (hframes : rm.frames + 1 ≤ R.frames) (hlocals : W9 + (maxL + 11) + rm.locals ≤ R.locals)
    (hws : ∀ w ∈ ws, ∀ a' U, s.WarmedH U.vm → w.before a' U = true) (hcode : Cond.code y bytes maxL ret ∈ ws) (hinit : ∀ a' U, s.WarmedH U.vm → (Cond.initialized y.cls).before a' U = true) :
    vx_Back l R p e below s sargs y len W9 (PreOf R mc ms Pc) (PostOf Qc mc ms free) (vx_Post XC mc ms free) := by
  intro m meth c A g ig mk a X hg hsize hdg hW hn hp
  have h1 : (headSpec ws rm).pre.before a A.U = true := atoms_intro fun w hw => hws w hw _ _ X.warmed
  have h2 : (Cond.code y bytes maxL ret).before a A.U = true := hws _ hcode _ _ X.warmed
  have h3 : (Cond.initialized y.cls).before a A.U = true := hinit _ _ X.warmed
  have h4 : A.cells + (headSpec ws rm).room.cells ≤ R.cells := by rw [show (headSpec ws rm).room.cells = mc from hrc]; exact hp.1
  have h5 : A.slots + (headSpec ws rm).room.slots ≤ R.slots := by rw [show (headSpec ws rm).room.slots = ms from hrs]; exact hp.2.1
  have hPc : Pc a (A.U.calling g mk a) := hblind _ _ _ _ hp.2.2
  obtain ⟨U, Ls, c0, s0⟩ := A
  dsimp only [Pt.U, Pt.locs, Pt.cells, Pt.slots] at h1 h2 h3 h4 h5 X hn hPc ⊢
  obtain ⟨methY, cY, hmY, hcY, -, hlY, -, -, -, -⟩ := Cond.code_spec hn h2
  obtain ⟨kY, hkY, -⟩ := className_of_methodNamed hn
  have hinitY : kY.init = .initialized := Cond.initialized_spec (findClass_of_methodNamed hn) hkY h3
  have h : At U g.method c below := by rw [hg]; exact X.here
  have hlocals9 : W9 + (maxL + 11) + (headSpec ws rm).room.locals ≤ R.locals := hlocals
  have happ : (headSpec ws rm).appliesLoose y e.platform (U.calling g mk a) = true :=
    Spec.appliesLoose_calling (g := g) h hdg hn hkY hinitY
      (X.room_calling (g := g) (R' := (headSpec ws rm).room) hsize hmY hcY hframes (by rw [hlY]; omega) h4 h5) h1
  obtain ⟨mid, hmid⟩ := h.above
  have hfr : (U.setTop g).frames = (.java g :: mid) ++ below := by rw [State.frames_setTop' g h.top, hmid]; rfl
  obtain ⟨o, s₂, hsteps, -, hend, hq⟩ := Steps.callFree hM p X.admits X.cas X.clock (acts := []) hfr happ hPc trivial
  have hq' : vx_Q Qc XC mc ms free a (U.calling g mk a) o s₂ := hq
  rw [State.frames_setTop' g h.top] at hend
  obtain ⟨g₀, hg0⟩ := Option.isSome_iff_exists.mp h.top
  obtain ⟨r, hr⟩ := State.topJava?_eq_some.mp hg0
  have hr' : (({ U with heap := s₂.heap, slotsUsed := s₂.slotsUsed } : State).setVm s₂.vm).frames = .java g₀ :: r := hr
  rcases hq' with ⟨hqc, L, hfe, hL⟩ | ⟨q, rfl, E, ce, L, hx, hce, hcv, hcl, hW₂, hsm, hL⟩
  · obtain ⟨⟨v, rfl⟩, hW₂, e2, q2, q3, q4, q5, q6⟩ := id hfe
    have e3 : s₂ = ({ (U.calling g mk a).setFrames s₂.frames with heap := s₂.heap, slotsUsed := s₂.slotsUsed } : State).setVm s₂.vm := by
      have : s₂ = ({ s₂ with vm := (U.calling g mk a).vm } : State).setVm s₂.vm := rfl
      rw [e2] at this
      exact this
    obtain ⟨c₂, i₂, len₂, hc₂, hd₂, hf₂⟩ := hend
    have hW' : U.WarmedH s₂.vm := hW₂
    have hcc : c₂ = c := by
      have h1 : s₂.code? g.method = U.code? g.method := by
        rw [State.code?_eq, State.code?_eq, hW'.alike.method?]
      exact Option.some.inj (hc₂.symm.trans (h1.trans h.code))
    subst hcc
    have hlen : len₂ = len := by rw [hdg] at hd₂; cases hd₂; rfl
    subst hlen
    have hs₂ : s₂ = (({ U with heap := s₂.heap, slotsUsed := s₂.slotsUsed } : State).setVm s₂.vm).setTop { g with pc := g.pc + len₂, stack := v.toList ++ g.stack } := by
      refine e3.trans ?_
      rw [hf₂, State.calling_eq h.top, State.setFrames_setFrames, State.setTop_of_frames _ hr', hr]
      rfl
    have hsame : U.sameButNew ({ U with heap := s₂.heap, slotsUsed := s₂.slotsUsed } : State) L mc ms := by
      refine ⟨?_, q2, q3, q4, q5, q6⟩
      obtain ⟨t, ht, -⟩ := State.frames_cons hr
      show ({ U with heap := s₂.heap, slotsUsed := s₂.slotsUsed } : State) = { U.setFrames U.frames with heap := s₂.heap, slotsUsed := s₂.slotsUsed }
      rw [State.setFrames_self ht]
    subst hg
    refine Or.inl ⟨v, ⟨(({ U with heap := s₂.heap, slotsUsed := s₂.slotsUsed } : State).setVm s₂.vm), Ls ++ L, c0 + mc, s0 + ms⟩,
      ⟨X.admits, X.cas, X.clock, X.frames, X.room, X.hears, X.method, X.code, (X.here.setHeapUsed s₂.heap s₂.slotsUsed).setVm hW'.alike, X.tail, State.WarmedH.trans X.warmed hW', X.limits, X.bytes, X.same.trans (hsame.setVm s.vm)⟩,
      ⟨g, mk, s₂, L, rfl, rfl, hqc, rfl, hL, rfl, rfl⟩, ?_⟩
    show Steps p.tables e below _ ((({ U with heap := s₂.heap, slotsUsed := s₂.slotsUsed } : State).setVm s₂.vm).setTop { g with pc := g.pc + len₂, stack := v.toList ++ g.stack })
    rw [← hs₂]
    exact hsteps
  · obtain ⟨e2, q2, q3, q4, q5, q6⟩ := id hsm
    have e3 : s₂ = ({ (U.calling g mk a).setFrames s₂.frames with heap := s₂.heap, slotsUsed := s₂.slotsUsed } : State).setVm s₂.vm := by
      have : s₂ = ({ s₂ with vm := (U.calling g mk a).vm } : State).setVm s₂.vm := rfl
      rw [e2] at this
      exact this
    have hf₂ : s₂.frames = .throwing q :: .java g :: U.frames.tail := hend
    have hW' : U.WarmedH s₂.vm := hW₂
    have hs₂ : s₂ = ((({ U with heap := s₂.heap, slotsUsed := s₂.slotsUsed } : State).setVm s₂.vm).setTop g).pushFrame (.throwing q) := by
      refine e3.trans ?_
      rw [hf₂, State.calling_eq h.top, State.setFrames_setFrames, State.pushFrame, State.frames_setTop _ hr', State.setTop_of_frames _ hr', State.setFrames_setFrames, hr]
      rfl
    have hsame : U.sameButNew ({ U with heap := s₂.heap, slotsUsed := s₂.slotsUsed } : State) L mc ms := by
      refine ⟨?_, q2, q3, q4, q5, q6⟩
      obtain ⟨t, ht, -⟩ := State.frames_cons hr
      show ({ U with heap := s₂.heap, slotsUsed := s₂.slotsUsed } : State) = { U.setFrames U.frames with heap := s₂.heap, slotsUsed := s₂.slotsUsed }
      rw [State.setFrames_self ht]
    subst hg
    refine Or.inr ⟨q, ⟨(({ U with heap := s₂.heap, slotsUsed := s₂.slotsUsed } : State).setVm s₂.vm), Ls ++ L, c0 + mc, s0 + ms⟩,
      ⟨X.admits, X.cas, X.clock, X.frames, X.room, X.hears, X.method, X.code, (X.here.setHeapUsed s₂.heap s₂.slotsUsed).setVm hW'.alike, X.tail, State.WarmedH.trans X.warmed hW', X.limits, X.bytes, X.same.trans (hsame.setVm s.vm)⟩,
      ⟨g, mk, s₂, L, E, ce, rfl, rfl, hx, hce, hcv, hcl, rfl, hL, rfl, rfl⟩, ?_⟩
    show Steps p.tables e below _ (((({ U with heap := s₂.heap, slotsUsed := s₂.slotsUsed } : State).setVm s₂.vm).setTop g).pushFrame (.throwing q))
    rw [← hs₂]
    exact hsteps
end Payer
section Calls
variable {p : Program} {l : Launch} {e : Env} {R : Room} {s : State} {m : MethodId} {args : Array Value} {below : List Frame} {meth : Method} {c : Code} {T : State} {locs : List Loc} {cells slots : Nat}
theorem vx_callV (X : Stand p l e R s m args below meth c T locs cells slots) (hexec : p.tables.exec = Jvm.exec) {own C : String} {index : Nat} {y : MethodName} {bytes : ByteArray} {maxL : Nat} {ret : Option FieldType}
    (hown : s.vm.findClass own = some m.cls) (hlink : (Cond.methodLink own index y).before args s = true) (hinst : (Cond.instanceMethod y).before args s = true) (hsel : (Cond.selects C y y).before args s = true)
    (hcode : (Cond.code y bytes maxL ret).before args s = true) (hy : y.cls ≠ "java/lang/invoke/MethodHandle" ∧ y.cls ≠ "java/lang/invoke/VarHandle")
    {W9 : Nat} {Pre : Pt → Array Value → Prop} {Post : Pt → Array Value → Option Value → Pt → Prop} {PostX : Pt → Array Value → Addr → Pt → Prop} (hK : vx_Back l R p e below s args y 3 W9 Pre Post PostX)
    {b : Addr} {cellB : Cell} (hcell : T.heap[b]? = some cellB) (hobj : cellB.vm.isStatics = false) (hcls : s.vm.findClass C = some cellB.cls)
    {g : JFrame} (hg : g.method = m) (hsize : g.locals.size = c.maxLocals) {argsL rest : List Value} (hlen : ∀ sig, parseMethodDescriptor y.desc = some sig → argsL.length = sig.parameters.length)
    (hstack : g.stack = argsL.reverse ++ .ref b :: rest) (hW : 2 * g.monitorRoom + (rest.map fun v => v.category).sum ≤ W9) (hdg : decode c.code g.pc = .ok (.invokevirtual index, 3))
    (hpre : ∀ vm₁, s.WarmedH vm₁ → Pre ⟨T.setVm vm₁, locs, cells, slots⟩ (Value.ref b :: argsL).toArray) :
    (∃ (v : Option Value) (vm₁ : Vm) (B : Pt), s.WarmedH vm₁ ∧ Stand p l e R s m args below meth c B.U B.locs B.cells B.slots ∧ Post ⟨T.setVm vm₁, locs, cells, slots⟩ (Value.ref b :: argsL).toArray v B ∧
      ∀ target, Steps p.tables e below (B.U.setTop { g with pc := g.pc + 3, stack := v.toList ++ rest }) target → Steps p.tables e below (T.setTop g) target) ∨
    (∃ (q : Addr) (vm₁ : Vm) (B : Pt), s.WarmedH vm₁ ∧ Stand p l e R s m args below meth c B.U B.locs B.cells B.slots ∧ PostX ⟨T.setVm vm₁, locs, cells, slots⟩ (Value.ref b :: argsL).toArray q B ∧
      Steps p.tables e below (T.setTop g) ((B.U.setTop { g with stack := rest }).pushFrame (.throwing q))) := by
  obtain ⟨mk, methM, hnamed, hmethM, hstM, habM⟩ := Cond.instanceMethod_spec hinst
  obtain ⟨methM', cM, hmethM', -, -, -, -, -, -, hsigM⟩ := Cond.code_spec hnamed hcode
  cases hmethM.symm.trans hmethM'
  obtain ⟨c2, r2, m2, q1, q2, q3, q4, kP, hkP, hkPi⟩ := Cond.selects_spec hsel
  cases hcls.symm.trans q1
  cases (State.methodFound?_of_named hnamed hy).symm.trans q2
  cases hnamed.symm.trans q3
  have hselP : selectMethod e.platform s.vm cellB.cls mk = .method mk := by rw [Launch.admits_selectMethod X.admits]; exact q4
  obtain ⟨vm₁, X₁, hstep₁⟩ := X.invokevirtual hexec hown hlink hnamed hmethM hstM hkP hkPi hy (a := b) (cell := cellB) hcell
    (fun z h => by rw [h] at hobj; cases hobj) hselP hmethM habM hkP hkPi (g := g) hg (argsL := argsL) (rest := rest) (hlen _ hsigM) hstack hdg
  rcases hK m meth c ⟨T.setVm vm₁, locs, cells, slots⟩ { g with stack := rest } (.invokevirtual index) mk (Value.ref b :: argsL).toArray X₁ hg hsize hdg hW (X₁.named hnamed) (hpre vm₁ X₁.warmed) with ⟨v, B, X', hpost, hsteps⟩ | ⟨q, B, X', hpost, hsteps⟩
  · exact Or.inl ⟨v, vm₁, B, X₁.warmed, X', hpost, fun target h => hstep₁ _ fun acts => by rw [doInvoke_state]; exact hsteps.trans h⟩
  · exact Or.inr ⟨q, vm₁, B, X₁.warmed, X', hpost, hstep₁ _ fun acts => by rw [doInvoke_state]; exact hsteps⟩
theorem vx_callS (X : Stand p l e R s m args below meth c T locs cells slots) (hexec : p.tables.exec = Jvm.exec) {own : String} {index : Nat} {y : MethodName} {bytes : ByteArray} {maxL : Nat} {ret : Option FieldType}
    (hown : s.vm.findClass own = some m.cls) (hlink : (Cond.methodLink own index y).before args s = true) (hstat : (Cond.static y).before args s = true) (hinit : (Cond.initialized y.cls).before args s = true)
    (hcode : (Cond.code y bytes maxL ret).before args s = true) (hy : y.cls ≠ "java/lang/invoke/MethodHandle" ∧ y.cls ≠ "java/lang/invoke/VarHandle")
    {W9 : Nat} {Pre : Pt → Array Value → Prop} {Post : Pt → Array Value → Option Value → Pt → Prop} {PostX : Pt → Array Value → Addr → Pt → Prop} (hK : vx_Back l R p e below s args y 3 W9 Pre Post PostX)
    {g : JFrame} (hg : g.method = m) (hsize : g.locals.size = c.maxLocals) {argsL rest : List Value} (hlen : ∀ sig, parseMethodDescriptor y.desc = some sig → argsL.length = sig.parameters.length)
    (hstack : g.stack = argsL.reverse ++ rest) (hW : 2 * g.monitorRoom + (rest.map fun v => v.category).sum ≤ W9) (hdg : decode c.code g.pc = .ok (.invokestatic index, 3))
    (hpre : ∀ vm₁, s.WarmedH vm₁ → Pre ⟨T.setVm vm₁, locs, cells, slots⟩ argsL.toArray) :
    (∃ (v : Option Value) (vm₁ : Vm) (B : Pt), s.WarmedH vm₁ ∧ Stand p l e R s m args below meth c B.U B.locs B.cells B.slots ∧ Post ⟨T.setVm vm₁, locs, cells, slots⟩ argsL.toArray v B ∧
      ∀ target, Steps p.tables e below (B.U.setTop { g with pc := g.pc + 3, stack := v.toList ++ rest }) target → Steps p.tables e below (T.setTop g) target) ∨
    (∃ (q : Addr) (vm₁ : Vm) (B : Pt), s.WarmedH vm₁ ∧ Stand p l e R s m args below meth c B.U B.locs B.cells B.slots ∧ PostX ⟨T.setVm vm₁, locs, cells, slots⟩ argsL.toArray q B ∧
      Steps p.tables e below (T.setTop g) ((B.U.setTop { g with stack := rest }).pushFrame (.throwing q))) := by
  obtain ⟨mk, hnamed⟩ := Cond.code_named hcode
  obtain ⟨methM, cM, hmethM, -, -, -, -, -, -, hsigM⟩ := Cond.code_spec hnamed hcode
  have hstatic : methM.isStatic = true := Cond.static_spec hnamed hmethM hstat
  obtain ⟨kP, hkP, -⟩ := className_of_methodNamed hnamed
  have hinitP : kP.init = .initialized := Cond.initialized_spec (findClass_of_methodNamed hnamed) hkP hinit
  obtain ⟨vm₁, X₁, hstep₁⟩ := X.invokestatic hexec hown hlink hnamed hmethM hstatic hkP hinitP hy (g := g) hg (argsL := argsL) (rest := rest) (hlen _ hsigM) hstack hdg
  rcases hK m meth c ⟨T.setVm vm₁, locs, cells, slots⟩ { g with stack := rest } (.invokestatic index) mk argsL.toArray X₁ hg hsize hdg hW (X₁.named hnamed) (hpre vm₁ X₁.warmed) with ⟨v, B, X', hpost, hsteps⟩ | ⟨q, B, X', hpost, hsteps⟩
  · exact Or.inl ⟨v, vm₁, B, X₁.warmed, X', hpost, fun target h => hstep₁ _ fun acts => by rw [doInvoke_state]; exact hsteps.trans h⟩
  · exact Or.inr ⟨q, vm₁, B, X₁.warmed, X', hpost, hstep₁ _ fun acts => by rw [doInvoke_state]; exact hsteps⟩
end Calls
theorem vx_cls {s : State} {T : State} {vm₁ : Vm} {E : String} {k : ClassId} (hW : s.WarmedH vm₁) (h : (T.setVm vm₁).vm.findClass E = some k) : s.vm.findClass E = some k := by
  have h1 : vm₁.findClass E = some k := h
  rw [hW.alike.findClass] at h1
  exact h1
/-- the method's frame g, with q thrown over it -/
def vx_W (p : Program) (l : Launch) (e : Env) (R : Room) (s : State) (m : MethodId) (args : Array Value) (below : List Frame) (meth : Method) (c : Code) (H : Heap) (locs : List Loc) (cells slots : Nat) (Q : State → Prop) (g : JFrame) (q : Addr) : Prop :=
  ∀ T : State, T.heap = H → Stand p l e R s m args below meth c T locs cells slots → ∃ t, Steps p.tables e below ((T.setTop g).pushFrame (.throwing q)) t ∧ Q t
def vx_Run (p : Program) (l : Launch) (e : Env) (R : Room) (s : State) (m : MethodId) (args : Array Value) (below : List Frame) (meth : Method) (c : Code) (H : Heap) (locs : List Loc) (cells slots mc ms : Nat) (g : JFrame) (rest : List Value) (Qa : State → Outcome → State → Prop) (XC : String → State → State → Prop) (free : Addr → Prop) : Prop :=
  ∀ T : State, T.heap = H → Stand p l e R s m args below meth c T locs cells slots →
    (∃ (v : Option Value) (st₀ t T' : State) (L : List Loc), st₀.heap = H ∧ Stand p l e R s m args below meth c T' (locs ++ L) (cells + mc) (slots + ms) ∧ (∀ q ∈ L, free q.base) ∧ T'.heap = t.heap ∧ T'.vm = t.vm ∧ Qa st₀ (.returned v) t ∧
      Goes p e below T g T' { g with pc := g.pc + 3, stack := v.toList ++ rest }) ∨
    (∃ (q : Addr) (st₀ t T' : State) (L : List Loc) (E : String) (ce : Cell), st₀.heap = H ∧ Stand p l e R s m args below meth c T' (locs ++ L) (cells + mc) (slots + ms) ∧ (∀ z ∈ L, free z.base) ∧ T'.heap = t.heap ∧ T'.vm = t.vm ∧ XC E st₀ t ∧ t.heap[q]? = some ce ∧ ce.vm = .none ∧ s.vm.findClass E = some ce.cls ∧
      Steps p.tables e below (T.setTop g) ((T'.setTop { g with stack := rest }).pushFrame (.throwing q)))
def vx_X {S : Type} (px : S → Prop) (B : String → S → State → Prop) (A : Nat → Prop) : String → State → State → Prop := fun E st t => ∃ u : S, px u ∧ B E u t ∧ va_F A st t
section Runs
variable {p : Program} {l : Launch} {e : Env} {R : Room} {s : State} {m : MethodId} {args : Array Value} {below : List Frame} {meth : Method} {c : Code} {H : Heap} {locs : List Loc} {cells slots : Nat}
variable {y : MethodName} {bytes cc : ByteArray} {maxL nL mc ms n index : Nat} {ret : Option FieldType} {ws : List Cond} {rm : Room} {Pc : Array Value → State → Prop} {Qc : Array Value → State → Outcome → State → Prop} {XC : String → State → State → Prop} {free : Addr → Prop} {Ts : List Cond} {own C : String} {b : Addr} {As rest : List Value} {g : JFrame}
theorem vx_callBack (cb : CallB R s args own index y bytes maxL ret ws rm mc ms n) (hM : vx_Met l y ws rm Pc Qc XC mc ms free) (hbl : FrameBlind Pc) : vx_Back l R p e below s args y 3 8 (PreOf R mc ms Pc) (PostOf Qc mc ms free) (vx_Post XC mc ms free) := by
  obtain ⟨hrc, hrs, hfr, hlo, hws, hcw, -, hini, -⟩ := cb
  exact vx_back (bytes := bytes) (maxL := maxL) (ret := ret) hM hbl hrc hrs hfr hlo hws hcw (fun a' U hW => word_at hW (Or.inl (by first | rfl | simp [Cond.onTables, Cond.keeps, Cond.steady])) hini)
theorem vx_runV (S : CallFix p m c cc nL s args Ts own) (hM : vx_Met l y ws rm Pc Qc XC mc ms free) (cw : CallW R s args own C index y bytes maxL ret ws rm mc ms n) (hp : PreV s H C b Pc As)
    (hg : g.method = m) (hn : As.length = n) (hsize : g.locals.size = nL) (hstack : g.stack = As.reverse ++ .ref b :: rest) (hW : 2 * g.monitorRoom + (rest.map fun v => v.category).sum ≤ 8) (hdg : decode cc g.pc = .ok (.invokevirtual index, 3)) (hf : cells + mc ≤ R.cells ∧ slots + ms ≤ R.slots) :
    vx_Run p l e R s m args below meth c H locs cells slots mc ms g rest (Qc (Value.ref b :: As).toArray) XC free := by
  have hK : vx_Back l R p e below s args y 3 8 (PreOf R mc ms Pc) (PostOf Qc mc ms free) (vx_Post XC mc ms free) := vx_callBack cw.1 hM hp.1
  obtain ⟨⟨-, -, -, -, -, -, hcode, -, hy, hlen, hl⟩, hin, hse⟩ := cw
  obtain ⟨hx, hb, hml, ho, -⟩ := S
  obtain ⟨-, ⟨cellB, hcB, hoB, hclB⟩, hPc⟩ := hp
  intro T hT X
  rcases vx_callV X hx (C := C) (bytes := bytes) (maxL := maxL) (ret := ret) ho hl hin hse hcode hy hK (by rw [hT]; exact hcB) hoB hclB hg (hsize.trans hml.symm) (argsL := As) (rest := rest) (fun sig h => hn.trans (hlen sig h)) hstack hW (by rw [hb]; exact hdg)
    (fun vm₁ hW₁ => ⟨hf.1, hf.2, hPc (T.setVm vm₁) hT hW₁⟩) with ⟨v, vm₁, ⟨U', l2, c2, s2⟩, hW₁, X', ⟨g', mk, t, L, e1, e2, hq, h1, hL, h2, h3⟩, st⟩ | ⟨q, vm₁, ⟨U', l2, c2, s2⟩, hW₁, X', ⟨g', mk, t, L, E, ce, e1, e2, hq, hce, hcv, hcl, h1, hL, h2, h3⟩, st⟩
  · dsimp only [Pt.U, Pt.locs, Pt.cells, Pt.slots] at X' e1 e2 h1 h2 h3 st
    subst h1; subst h2; subst h3
    exact Or.inl ⟨v, (T.setVm vm₁).calling g' mk (Value.ref b :: As).toArray, t, U', L, hT, X', hL, e1, e2, hq, st⟩
  · dsimp only [Pt.U, Pt.locs, Pt.cells, Pt.slots] at X' e1 e2 h1 h2 h3 st hcl
    subst h1; subst h2; subst h3
    exact Or.inr ⟨q, (T.setVm vm₁).calling g' mk (Value.ref b :: As).toArray, t, U', L, E, ce, hT, X', hL, e1, e2, hq, hce, hcv, vx_cls hW₁ hcl, st⟩
theorem vx_runS (S : CallFix p m c cc nL s args Ts own) (hM : vx_Met l y ws rm Pc Qc XC mc ms free) (cw : CallB R s args own index y bytes maxL ret ws rm mc ms n ∧ (Cond.static y).before args s = true) (hp : PreS s H Pc As)
    (hg : g.method = m) (hn : As.length = n) (hsize : g.locals.size = nL) (hstack : g.stack = As.reverse ++ rest) (hW : 2 * g.monitorRoom + (rest.map fun v => v.category).sum ≤ 8) (hdg : decode cc g.pc = .ok (.invokestatic index, 3)) (hf : cells + mc ≤ R.cells ∧ slots + ms ≤ R.slots) :
    vx_Run p l e R s m args below meth c H locs cells slots mc ms g rest (Qc As.toArray) XC free := by
  have hK : vx_Back l R p e below s args y 3 8 (PreOf R mc ms Pc) (PostOf Qc mc ms free) (vx_Post XC mc ms free) := vx_callBack cw.1 hM hp.1
  obtain ⟨⟨-, -, -, -, -, -, hcode, hini, hy, hlen, hl⟩, hstt⟩ := cw
  obtain ⟨hx, hb, hml, ho, -⟩ := S
  intro T hT X
  rcases vx_callS X hx (bytes := bytes) (maxL := maxL) (ret := ret) ho hl hstt hini hcode hy hK hg (hsize.trans hml.symm) (argsL := As) (rest := rest) (fun sig h => hn.trans (hlen sig h)) hstack hW (by rw [hb]; exact hdg)
    (fun vm₁ hW₁ => ⟨hf.1, hf.2, hp.2 (T.setVm vm₁) hT hW₁⟩) with ⟨v, vm₁, ⟨U', l2, c2, s2⟩, hW₁, X', ⟨g', mk, t, L, e1, e2, hq, h1, hL, h2, h3⟩, st⟩ | ⟨q, vm₁, ⟨U', l2, c2, s2⟩, hW₁, X', ⟨g', mk, t, L, E, ce, e1, e2, hq, hce, hcv, hcl, h1, hL, h2, h3⟩, st⟩
  · dsimp only [Pt.U, Pt.locs, Pt.cells, Pt.slots] at X' e1 e2 h1 h2 h3 st
    subst h1; subst h2; subst h3
    exact Or.inl ⟨v, (T.setVm vm₁).calling g' mk As.toArray, t, U', L, hT, X', hL, e1, e2, hq, st⟩
  · dsimp only [Pt.U, Pt.locs, Pt.cells, Pt.slots] at X' e1 e2 h1 h2 h3 st hcl
    subst h1; subst h2; subst h3
    exact Or.inr ⟨q, (T.setVm vm₁).calling g' mk As.toArray, t, U', L, E, ce, hT, X', hL, e1, e2, hq, hce, hcv, vx_cls hW₁ hcl, st⟩
end Runs
section Rows
variable {p : Program} {l : Launch} {e : Env} {R : Room} {s : State} {m : MethodId} {args : Array Value} {below : List Frame} {meth : Method} {c : Code} {H : Heap} {locs : List Loc} {cells slots : Nat} {Q : State → Prop}
variable {mc ms : Nat} {free : Addr → Prop} {A0 A1 : Nat → Prop} {H0 : Heap} {a : Array Value} {pc : Nat} {ls : Array Slot} {st0 rest : List Value}
theorem vx_keep {st₀ t T' : State} {L : List Loc} (h0 : st₀.heap = H) (e1 : T'.heap = t.heap) (hS : va_S A0 H0 H locs) (hA : ∀ q, q < H.size → A1 q → A0 q) (hf : ∀ q, free q → A0 q) (hL : ∀ q ∈ L, free q.base) (hF : va_F A1 st₀ t) :
    H.size ≤ T'.heap.size ∧ (∀ q : Nat, q < H.size → ¬ A1 q → T'.heap[q]? = H[q]?) ∧ va_S A0 H0 T'.heap (locs ++ L) := by
  obtain ⟨hz, hk⟩ := hF
  rw [h0] at hz hk
  exact ⟨by rw [e1]; exact hz, fun q h1 h2 => by rw [e1]; exact hk q h1 h2,
    ⟨Nat.le_trans hS.1 (by rw [e1]; exact hz), fun q h1 h2 => by rw [e1, hk q (Nat.lt_of_lt_of_le h1 hS.1) (fun z => h2 (hA q (Nat.lt_of_lt_of_le h1 hS.1) z))]; exact hS.2.1 q h1 h2, fun q hq => by
      rcases List.mem_append.mp hq with h | h
      · exact hS.2.2 q h
      · exact hf _ (hL q h)⟩⟩
theorem vx_calli {S SX : Type} {post : Int32 → S → Prop} {px : SX → Prop} {B : S → State → Prop} {BX : String → SX → State → Prop} {AX : Nat → Prop} (hr : vx_Run p l e R s m args below meth c H locs cells slots mc ms (F0 m pc ls st0) rest (va_Qi post B A1 a) (vx_X px BX AX) free) (hS : va_S A0 H0 H locs) (hA : ∀ q, q < H.size → A1 q → A0 q) (hf : ∀ q, free q → A0 q) (hAX : ∀ q, q < H.size → AX q → A0 q)
    (kx : ∀ (E : String) (ce : Cell) (q9 : Addr) (u : SX) (t : State) (H1 : Heap) (locs1 : List Loc), t.heap = H1 → s.vm.Alike t.vm → px u → BX E u t → H.size ≤ H1.size → (∀ q : Nat, q < H.size → ¬ AX q → H1[q]? = H[q]?) → va_S A0 H0 H1 locs1 → H1[q9]? = some ce → ce.vm = .none → s.vm.findClass E = some ce.cls → vx_W p l e R s m args below meth c H1 locs1 (cells + mc) (slots + ms) Q (F0 m pc ls rest) q9)
    (kk : ∀ (r : Int32) (u : S) (t : State) (H1 : Heap) (locs1 : List Loc), t.heap = H1 → s.vm.Alike t.vm → post r u → B u t → H.size ≤ H1.size → (∀ q : Nat, q < H.size → ¬ A1 q → H1[q]? = H[q]?) → va_S A0 H0 H1 locs1 → W p l e R s m args below meth c H1 locs1 (cells + mc) (slots + ms) Q (F0 m (pc + 3) ls (.int r :: rest))) : W p l e R s m args below meth c H locs cells slots Q (F0 m pc ls st0) := by
  intro T hT X
  rcases hr T hT X with ⟨v, st₀, t, T', L, h0, X', hL, e1, e2, ⟨⟨r, u, hv, hp, hb⟩, hF⟩, st⟩ | ⟨q, st₀, t, T', L, E, ce, h0, X', hL, e1, e2, ⟨u, hp, hb, hF⟩, hce, hcv, hcl, st⟩
  · cases hv
    obtain ⟨k1, k2, k3⟩ := vx_keep h0 e1 hS hA hf hL hF
    obtain ⟨t2, a1, b1⟩ := kk r u t T'.heap (locs ++ L) e1.symm (by rw [← e2]; exact X'.warmed.alike) hp hb k1 k2 k3 T' rfl X'
    exact ⟨t2, st t2 a1, b1⟩
  · obtain ⟨k1, k2, k3⟩ := vx_keep h0 e1 hS hAX hf hL hF
    obtain ⟨t2, a1, b1⟩ := kx E ce q u t T'.heap (locs ++ L) e1.symm (by rw [← e2]; exact X'.warmed.alike) hp hb k1 k2 k3 (by rw [e1]; exact hce) hcv hcl T' rfl X'
    exact ⟨t2, st.trans a1, b1⟩
theorem vx_calll {S SX : Type} {post : Int64 → S → Prop} {px : SX → Prop} {B : S → State → Prop} {BX : String → SX → State → Prop} {AX : Nat → Prop} (hr : vx_Run p l e R s m args below meth c H locs cells slots mc ms (F0 m pc ls st0) rest (va_Ql post B A1 a) (vx_X px BX AX) free) (hS : va_S A0 H0 H locs) (hA : ∀ q, q < H.size → A1 q → A0 q) (hf : ∀ q, free q → A0 q) (hAX : ∀ q, q < H.size → AX q → A0 q)
    (kx : ∀ (E : String) (ce : Cell) (q9 : Addr) (u : SX) (t : State) (H1 : Heap) (locs1 : List Loc), t.heap = H1 → s.vm.Alike t.vm → px u → BX E u t → H.size ≤ H1.size → (∀ q : Nat, q < H.size → ¬ AX q → H1[q]? = H[q]?) → va_S A0 H0 H1 locs1 → H1[q9]? = some ce → ce.vm = .none → s.vm.findClass E = some ce.cls → vx_W p l e R s m args below meth c H1 locs1 (cells + mc) (slots + ms) Q (F0 m pc ls rest) q9)
    (kk : ∀ (r : Int64) (u : S) (t : State) (H1 : Heap) (locs1 : List Loc), t.heap = H1 → s.vm.Alike t.vm → post r u → B u t → H.size ≤ H1.size → (∀ q : Nat, q < H.size → ¬ A1 q → H1[q]? = H[q]?) → va_S A0 H0 H1 locs1 → W p l e R s m args below meth c H1 locs1 (cells + mc) (slots + ms) Q (F0 m (pc + 3) ls (.long r :: rest))) : W p l e R s m args below meth c H locs cells slots Q (F0 m pc ls st0) := by
  intro T hT X
  rcases hr T hT X with ⟨v, st₀, t, T', L, h0, X', hL, e1, e2, ⟨⟨r, u, hv, hp, hb⟩, hF⟩, st⟩ | ⟨q, st₀, t, T', L, E, ce, h0, X', hL, e1, e2, ⟨u, hp, hb, hF⟩, hce, hcv, hcl, st⟩
  · cases hv
    obtain ⟨k1, k2, k3⟩ := vx_keep h0 e1 hS hA hf hL hF
    obtain ⟨t2, a1, b1⟩ := kk r u t T'.heap (locs ++ L) e1.symm (by rw [← e2]; exact X'.warmed.alike) hp hb k1 k2 k3 T' rfl X'
    exact ⟨t2, st t2 a1, b1⟩
  · obtain ⟨k1, k2, k3⟩ := vx_keep h0 e1 hS hAX hf hL hF
    obtain ⟨t2, a1, b1⟩ := kx E ce q u t T'.heap (locs ++ L) e1.symm (by rw [← e2]; exact X'.warmed.alike) hp hb k1 k2 k3 (by rw [e1]; exact hce) hcv hcl T' rfl X'
    exact ⟨t2, st.trans a1, b1⟩
theorem vx_callf {S SX : Type} {post : UInt32 → S → Prop} {px : SX → Prop} {B : S → State → Prop} {BX : String → SX → State → Prop} {AX : Nat → Prop} (hr : vx_Run p l e R s m args below meth c H locs cells slots mc ms (F0 m pc ls st0) rest (va_Qf post B A1 a) (vx_X px BX AX) free) (hS : va_S A0 H0 H locs) (hA : ∀ q, q < H.size → A1 q → A0 q) (hf : ∀ q, free q → A0 q) (hAX : ∀ q, q < H.size → AX q → A0 q)
    (kx : ∀ (E : String) (ce : Cell) (q9 : Addr) (u : SX) (t : State) (H1 : Heap) (locs1 : List Loc), t.heap = H1 → s.vm.Alike t.vm → px u → BX E u t → H.size ≤ H1.size → (∀ q : Nat, q < H.size → ¬ AX q → H1[q]? = H[q]?) → va_S A0 H0 H1 locs1 → H1[q9]? = some ce → ce.vm = .none → s.vm.findClass E = some ce.cls → vx_W p l e R s m args below meth c H1 locs1 (cells + mc) (slots + ms) Q (F0 m pc ls rest) q9)
    (kk : ∀ (r : UInt32) (u : S) (t : State) (H1 : Heap) (locs1 : List Loc), t.heap = H1 → s.vm.Alike t.vm → post r u → B u t → H.size ≤ H1.size → (∀ q : Nat, q < H.size → ¬ A1 q → H1[q]? = H[q]?) → va_S A0 H0 H1 locs1 → W p l e R s m args below meth c H1 locs1 (cells + mc) (slots + ms) Q (F0 m (pc + 3) ls (.float r :: rest))) : W p l e R s m args below meth c H locs cells slots Q (F0 m pc ls st0) := by
  intro T hT X
  rcases hr T hT X with ⟨v, st₀, t, T', L, h0, X', hL, e1, e2, ⟨⟨r, u, hv, hp, hb⟩, hF⟩, st⟩ | ⟨q, st₀, t, T', L, E, ce, h0, X', hL, e1, e2, ⟨u, hp, hb, hF⟩, hce, hcv, hcl, st⟩
  · cases hv
    obtain ⟨k1, k2, k3⟩ := vx_keep h0 e1 hS hA hf hL hF
    obtain ⟨t2, a1, b1⟩ := kk r u t T'.heap (locs ++ L) e1.symm (by rw [← e2]; exact X'.warmed.alike) hp hb k1 k2 k3 T' rfl X'
    exact ⟨t2, st t2 a1, b1⟩
  · obtain ⟨k1, k2, k3⟩ := vx_keep h0 e1 hS hAX hf hL hF
    obtain ⟨t2, a1, b1⟩ := kx E ce q u t T'.heap (locs ++ L) e1.symm (by rw [← e2]; exact X'.warmed.alike) hp hb k1 k2 k3 (by rw [e1]; exact hce) hcv hcl T' rfl X'
    exact ⟨t2, st.trans a1, b1⟩
theorem vx_calld {S SX : Type} {post : UInt64 → S → Prop} {px : SX → Prop} {B : S → State → Prop} {BX : String → SX → State → Prop} {AX : Nat → Prop} (hr : vx_Run p l e R s m args below meth c H locs cells slots mc ms (F0 m pc ls st0) rest (va_Qd post B A1 a) (vx_X px BX AX) free) (hS : va_S A0 H0 H locs) (hA : ∀ q, q < H.size → A1 q → A0 q) (hf : ∀ q, free q → A0 q) (hAX : ∀ q, q < H.size → AX q → A0 q)
    (kx : ∀ (E : String) (ce : Cell) (q9 : Addr) (u : SX) (t : State) (H1 : Heap) (locs1 : List Loc), t.heap = H1 → s.vm.Alike t.vm → px u → BX E u t → H.size ≤ H1.size → (∀ q : Nat, q < H.size → ¬ AX q → H1[q]? = H[q]?) → va_S A0 H0 H1 locs1 → H1[q9]? = some ce → ce.vm = .none → s.vm.findClass E = some ce.cls → vx_W p l e R s m args below meth c H1 locs1 (cells + mc) (slots + ms) Q (F0 m pc ls rest) q9)
    (kk : ∀ (r : UInt64) (u : S) (t : State) (H1 : Heap) (locs1 : List Loc), t.heap = H1 → s.vm.Alike t.vm → post r u → B u t → H.size ≤ H1.size → (∀ q : Nat, q < H.size → ¬ A1 q → H1[q]? = H[q]?) → va_S A0 H0 H1 locs1 → W p l e R s m args below meth c H1 locs1 (cells + mc) (slots + ms) Q (F0 m (pc + 3) ls (.double r :: rest))) : W p l e R s m args below meth c H locs cells slots Q (F0 m pc ls st0) := by
  intro T hT X
  rcases hr T hT X with ⟨v, st₀, t, T', L, h0, X', hL, e1, e2, ⟨⟨r, u, hv, hp, hb⟩, hF⟩, st⟩ | ⟨q, st₀, t, T', L, E, ce, h0, X', hL, e1, e2, ⟨u, hp, hb, hF⟩, hce, hcv, hcl, st⟩
  · cases hv
    obtain ⟨k1, k2, k3⟩ := vx_keep h0 e1 hS hA hf hL hF
    obtain ⟨t2, a1, b1⟩ := kk r u t T'.heap (locs ++ L) e1.symm (by rw [← e2]; exact X'.warmed.alike) hp hb k1 k2 k3 T' rfl X'
    exact ⟨t2, st t2 a1, b1⟩
  · obtain ⟨k1, k2, k3⟩ := vx_keep h0 e1 hS hAX hf hL hF
    obtain ⟨t2, a1, b1⟩ := kx E ce q u t T'.heap (locs ++ L) e1.symm (by rw [← e2]; exact X'.warmed.alike) hp hb k1 k2 k3 (by rw [e1]; exact hce) hcv hcl T' rfl X'
    exact ⟨t2, st.trans a1, b1⟩
theorem vx_callv {S SX : Type} {post : S → Prop} {px : SX → Prop} {B : S → State → Prop} {BX : String → SX → State → Prop} {AX : Nat → Prop} (hr : vx_Run p l e R s m args below meth c H locs cells slots mc ms (F0 m pc ls st0) rest (va_Qv post B A1 a) (vx_X px BX AX) free) (hS : va_S A0 H0 H locs) (hA : ∀ q, q < H.size → A1 q → A0 q) (hf : ∀ q, free q → A0 q) (hAX : ∀ q, q < H.size → AX q → A0 q)
    (kx : ∀ (E : String) (ce : Cell) (q9 : Addr) (u : SX) (t : State) (H1 : Heap) (locs1 : List Loc), t.heap = H1 → s.vm.Alike t.vm → px u → BX E u t → H.size ≤ H1.size → (∀ q : Nat, q < H.size → ¬ AX q → H1[q]? = H[q]?) → va_S A0 H0 H1 locs1 → H1[q9]? = some ce → ce.vm = .none → s.vm.findClass E = some ce.cls → vx_W p l e R s m args below meth c H1 locs1 (cells + mc) (slots + ms) Q (F0 m pc ls rest) q9)
    (kk : ∀ (u : S) (t : State) (H1 : Heap) (locs1 : List Loc), t.heap = H1 → s.vm.Alike t.vm → post u → B u t → H.size ≤ H1.size → (∀ q : Nat, q < H.size → ¬ A1 q → H1[q]? = H[q]?) → va_S A0 H0 H1 locs1 → W p l e R s m args below meth c H1 locs1 (cells + mc) (slots + ms) Q (F0 m (pc + 3) ls (rest))) : W p l e R s m args below meth c H locs cells slots Q (F0 m pc ls st0) := by
  intro T hT X
  rcases hr T hT X with ⟨v, st₀, t, T', L, h0, X', hL, e1, e2, ⟨⟨u, hv, hp, hb⟩, hF⟩, st⟩ | ⟨q, st₀, t, T', L, E, ce, h0, X', hL, e1, e2, ⟨u, hp, hb, hF⟩, hce, hcv, hcl, st⟩
  · cases hv
    obtain ⟨k1, k2, k3⟩ := vx_keep h0 e1 hS hA hf hL hF
    obtain ⟨t2, a1, b1⟩ := kk u t T'.heap (locs ++ L) e1.symm (by rw [← e2]; exact X'.warmed.alike) hp hb k1 k2 k3 T' rfl X'
    exact ⟨t2, st t2 a1, b1⟩
  · obtain ⟨k1, k2, k3⟩ := vx_keep h0 e1 hS hAX hf hL hF
    obtain ⟨t2, a1, b1⟩ := kx E ce q u t T'.heap (locs ++ L) e1.symm (by rw [← e2]; exact X'.warmed.alike) hp hb k1 k2 k3 (by rw [e1]; exact hce) hcv hcl T' rfl X'
    exact ⟨t2, st.trans a1, b1⟩
end Rows
section Ends
variable {p : Program} {l : Launch} {e : Env} {R : Room} {s : State} {m : MethodId} {args : Array Value} {below : List Frame} {meth : Method} {c : Code} {H : Heap} {locs : List Loc} {cells slots : Nat} {Q : State → Prop}
variable {mc ms : Nat} {free : Addr → Prop} {A0 A1 : Nat → Prop} {H0 : Heap} {a : Array Value} {ls : Array Slot} {st0 rest : List Value}
variable {Qc : Array Value → State → Outcome → State → Prop} {XC : String → State → State → Prop}
/-- what a body that may throw owes at its end -/
def vx_MQ (below : List Frame) (Qc : Array Value → State → Outcome → State → Prop) (XC : String → State → State → Prop) (a : Array Value) (s : State) (mc ms : Nat) (free : Addr → Prop) : State → Prop := fun t =>
  ∃ o, t.status = .running ∧ Ended t below o ∧ vx_Q Qc XC mc ms free a s o t
theorem vx_ret {g : JFrame} {mc ms : Nat} (k : W p l e R s m args below meth c H locs cells slots (MQ below Qc args s mc ms free) g) : W p l e R s m args below meth c H locs cells slots (vx_MQ below Qc XC args s mc ms free) g := by
  intro T hT X
  obtain ⟨t, a1, o, b1, b2, b3, b4⟩ := k T hT X
  exact ⟨t, a1, o, b1, b2, Or.inl ⟨b3, b4⟩⟩
/-- not caught here: it goes on to the caller -/
theorem vx_widen {g : JFrame} {q : Addr} {k n : Nat} (h1 : cells ≤ k) (h2 : slots ≤ n) (kk : vx_W p l e R s m args below meth c H locs k n Q g q) : vx_W p l e R s m args below meth c H locs cells slots Q g q := fun T hT X => kk T hT (stand_widen X h1 h2)
theorem vx_out {pc : Nat} {E : String} {ce : Cell} {q : Addr} {mc ms : Nat} (hout : ∀ x ∈ c.exceptionTable.toList, covers x pc = false) (hlocks : meth.locks = false) (hcell : H[q]? = some ce) (hv : ce.vm = .none) (hcl : s.vm.findClass E = some ce.cls)
    (hx : ∀ t : State, t.heap = H → s.vm.Alike t.vm → XC E s t) (hf : ∀ z ∈ locs, free z.base) (hc : cells ≤ mc) (hs : slots ≤ ms) :
    vx_W p l e R s m args below meth c H locs cells slots (vx_MQ below Qc XC args s mc ms free) (F0 m pc ls rest) q := by
  intro T hT X
  obtain ⟨st1, hrun, hend, hW, hsm⟩ := X.leaveThrown q (g := F0 m pc ls rest) rfl rfl rfl hout hlocks
  have hcell9 : (T.setFrames (.throwing q :: below)).heap[q]? = some ce := by
    show T.heap[q]? = some ce
    rw [hT]; exact hcell
  exact ⟨_, st1, .threw q, hrun, hend, Or.inr ⟨q, rfl, E, ce, locs, hx _ hT hW.alike, hcell9, hv, hcl, hW, hsm.mono hc hs, hf⟩⟩
theorem vx_frame {U : State} {k n : Nat} (h : s.sameButNew ({ U with vm := s.vm } : State) locs k n) : s.heap.size ≤ U.heap.size ∧ ∀ q : Nat, q < s.heap.size → (∀ z ∈ locs, z.base ≠ q) → U.heap[q]? = s.heap[q]? := by
  obtain ⟨-, h2, -, -, -, h6⟩ := h
  refine ⟨h2, fun q hq hz => ?_⟩
  obtain ⟨c9, e1, e2, e3, e4⟩ := h6 q _ (Array.getElem?_eq_getElem hq)
  have hs : c9.slots = (s.heap[q]).slots := Array.ext_getElem? fun i => e4 i fun hm => hz _ hm rfl
  have h9 : c9 = s.heap[q] := by
    rw [hs] at e2
    exact e2
  have e5 : U.heap[q]? = some c9 := e1
  rw [e5, h9, Array.getElem?_eq_getElem hq]
/-- the words of a throw but the four that speak of the heap -/
def vx_no (w : Cond) : Bool := decide (w ≠ .isRef (.static Bundle.tN "UNASSIGNED_STACK" Bundle.steD)) && decide (w ≠ .isRef (.static Bundle.tN "SUPPRESSED_SENTINEL" Bundle.listD)) && decide (w ≠ .laysStatic Bundle.tN "UNASSIGNED_STACK" Bundle.steD) && decide (w ≠ .laysStatic Bundle.tN "SUPPRESSED_SENTINEL" Bundle.listD)
def vx_at0 (own : String) (ic : Nat) (X : String) (names : List String) : List Cond := (Bundle.ownAtoms0 own ic X names).filter vx_no
def vx_atS (own : String) (ic : Nat) (X : String) (names : List String) : List Cond := (Bundle.ownAtoms own ic X names).filter vx_no
/-- a word that the tables alone decide, or a good one -/
def vx_ot (w : Cond) : Bool := w.onTables || goodWord w
theorem vx_ot_at {args a' : Array Value} {s U : State} {w : Cond} (hW : s.WarmedH U.vm) (hvm : s.vm = U.vm) (hg : vx_ot w = true) (h : w.before args s = true) : w.before a' U = true := by
  simp only [vx_ot, Bool.or_eq_true] at hg
  rcases hg with hg | hg
  · exact va_tabs hg hvm h
  · exact word_at hW (good_of_word hg) h
/-- a list's words: the good ones out of the method's own list, the others by premises of their own -/
theorem vx_hat {args : Array Value} {s : State} {L B : List Cond} (h1 : ∀ w ∈ L.filter goodWord, w.before args s = true) (h2 : ∀ w ∈ L.filter (fun w => !goodWord w), w ∈ B) (h3 : ∀ w ∈ B, w.before args s = true) : ∀ w ∈ L, w.before args s = true := by
  intro w hw
  by_cases g : goodWord w = true
  · exact h1 w (List.mem_filter.mpr ⟨hw, g⟩)
  · refine h3 w (h2 w (List.mem_filter.mpr ⟨hw, ?_⟩))
    show (!goodWord w) = true
    cases hgw : goodWord w
    · rfl
    · exact absurd hgw g
theorem vx_c {args : Array Value} {s : State} {w : Cond} {B : List Cond} (h : w.before args s = true) (t : ∀ w ∈ B, w.before args s = true) : ∀ w' ∈ w :: B, w'.before args s = true := fun w' h' => (List.mem_cons.mp h').elim (fun e => by rw [e]; exact h) (t w')
theorem vx_n {args : Array Value} {s : State} : ∀ w ∈ ([] : List Cond), w.before args s = true := fun _ h => nomatch h
theorem vx_own {args : Array Value} {s : State} {L : List Cond} (h1 : ∀ w ∈ L.filter vx_no, w.before args s = true)
    (hU : (Cond.isRef (.static Bundle.tN "UNASSIGNED_STACK" Bundle.steD)).before args s = true) (hN : (Cond.isRef (.static Bundle.tN "SUPPRESSED_SENTINEL" Bundle.listD)).before args s = true)
    (lU : (Cond.laysStatic Bundle.tN "UNASSIGNED_STACK" Bundle.steD).before args s = true) (lN : (Cond.laysStatic Bundle.tN "SUPPRESSED_SENTINEL" Bundle.listD).before args s = true) : ∀ w ∈ L, w.before args s = true := by
  intro w hw
  by_cases e1 : w = .isRef (.static Bundle.tN "UNASSIGNED_STACK" Bundle.steD)
  · rw [e1]; exact hU
  · by_cases e2 : w = .isRef (.static Bundle.tN "SUPPRESSED_SENTINEL" Bundle.listD)
    · rw [e2]; exact hN
    · by_cases e3 : w = .laysStatic Bundle.tN "UNASSIGNED_STACK" Bundle.steD
      · rw [e3]; exact lU
      · by_cases e4 : w = .laysStatic Bundle.tN "SUPPRESSED_SENTINEL" Bundle.listD
        · rw [e4]; exact lN
        · exact h1 w (List.mem_filter.mpr ⟨hw, by unfold vx_no; rw [decide_eq_true e1, decide_eq_true e2, decide_eq_true e3, decide_eq_true e4]; rfl⟩)
/-- where a static field lies, its class's statics cell in H -/
def vx_L (C n d : String) (A : Nat → Prop) (U : State) (H : Heap) : Prop := ∃ (c : ClassId) (k : Class) (i : Nat) (f : Field) (a : Nat) (cell : Cell), U.vm.findClass C = some c ∧ U.fieldFound? C n d = some (c, k, i, f) ∧ f.isStatic = true ∧ k.statics = some a ∧ H[a]? = some cell ∧ cell.vm.isStatics = true ∧ cell.cls = c ∧ f.slot < cell.slots.size ∧ k.staticTypes[f.slot]? = some f.type ∧ ¬ A a
theorem vx_L.moved {C n d : String} {A : Nat → Prop} {u U : State} {H : Heap} (hvm : u.vm.Alike U.vm) (h : vx_L C n d A u H) : vx_L C n d A U H := by
  obtain ⟨c, k, i, f, a, cell, h1, h2, h3, h4, h5, h6, h7, h8, h9, h10⟩ := h
  obtain ⟨k', hi', he⟩ := State.fieldFound?_setVm hvm h2
  exact ⟨c, k', i, f, a, cell, by rw [hvm.findClass]; exact h1, hi', h3, by rw [he]; exact h4, h5, h6, h7, h8, by rw [he]; exact h9, h10⟩
theorem vx_L.kept {C n d : String} {A : Nat → Prop} {U : State} {H H1 : Heap} (h : vx_L C n d A U H) (hq : ∀ a : Nat, a < H.size → ¬ A a → H1[a]? = H[a]?) : vx_L C n d A U H1 := by
  obtain ⟨c, k, i, f, a, cell, h1, h2, h3, h4, h5, h6, h7, h8, h9, h10⟩ := h
  exact ⟨c, k, i, f, a, cell, h1, h2, h3, h4, by rw [hq a (Array.getElem?_eq_some_iff.mp h5).1 h10]; exact h5, h6, h7, h8, h9, h10⟩
theorem vx_L.narrow {C n d : String} {A B : Nat → Prop} {U : State} {H : Heap} (h : vx_L C n d A U H) (hAB : ∀ q, B q → A q) : vx_L C n d B U H := by
  obtain ⟨c, k, i, f, a, cell, h1, h2, h3, h4, h5, h6, h7, h8, h9, h10⟩ := h
  exact ⟨c, k, i, f, a, cell, h1, h2, h3, h4, h5, h6, h7, h8, h9, fun z => h10 (hAB _ z)⟩
theorem vx_L.word {C n d : String} {A : Nat → Prop} {s : State} {args : Array Value} (h : vx_L C n d A s s.heap) : (Cond.laysStatic C n d).before args s = true := by
  obtain ⟨c, k, i, f, a, cell, h1, h2, h3, h4, h5, h6, h7, h8, h9, -⟩ := h
  show (Cond.laysStatic C n d).holds args s none s [] = true
  exact Cond.laysStatic_of h1 h2 h3 h4 h5 h6 h7 h8 h9
/-- .. and what it holds: null or some reference -/
def vx_Zq (C n d : String) (A : Nat → Prop) (U : State) (H : Heap) : Prop := va_Zq C n d A U H ∧ vx_L C n d A U H
theorem vx_Zq.moved {C n d : String} {A : Nat → Prop} {u U : State} {H : Heap} (hvm : u.vm.Alike U.vm) (h : vx_Zq C n d A u H) : vx_Zq C n d A U H := ⟨va_Zq.moved hvm h.1, vx_L.moved hvm h.2⟩
theorem vx_Zq.kept {C n d : String} {A : Nat → Prop} {U : State} {H H1 : Heap} (h : vx_Zq C n d A U H) (hq : ∀ a : Nat, a < H.size → ¬ A a → H1[a]? = H[a]?) : vx_Zq C n d A U H1 := ⟨va_Zq.kept h.1 hq, vx_L.kept h.2 hq⟩
theorem vx_Zq.narrow {C n d : String} {A B : Nat → Prop} {U : State} {H : Heap} (h : vx_Zq C n d A U H) (hAB : ∀ q, B q → A q) : vx_Zq C n d B U H := ⟨va_Zq.narrow h.1 hAB, vx_L.narrow h.2 hAB⟩
theorem vx_Zqof {args : Array Value} {s : State} {C n d : String} {A : Nat → Prop} (hl : (Cond.laysStatic C n d).before args s = true) (hini : (Cond.initialized C).before args s = true) (h : (Cond.isRef (.static C n d)).before args s = true) (hA : ∀ a : Nat, a < s.heap.size → ¬ A a) : vx_Zq C n d A s s.heap := by
  refine ⟨va_Zqof hl hini h hA, ?_⟩
  obtain ⟨c, k, i, f, a, cell, h1, h2, h3, h4, h5, h6, h7, h8, h9⟩ := Cond.laysStatic_spec hl
  exact ⟨c, k, i, f, a, cell, h1, h2, h3, h4, h5, h6, h7, h8, h9, hA a (Array.getElem?_eq_some_iff.mp h5).1⟩
theorem vx_isRef {C n d : String} {v : Value} {A : Nat → Prop} {s : State} {args : Array Value} (h : va_Z C n d v A s s.heap) (hv : v.isRef = true) : (Cond.isRef (.static C n d)).before args s = true := by
  obtain ⟨cf, kf, fi, f, a, cell, h1, h2, h3, h4, h5, h6, h7, -⟩ := h
  have he : (Term.static C n d).eval args s none [] s = some v := by
    simp [Term.eval, State.fieldNamed?, h1, h2, h4, h5, h6, h7]
  simp only [Cond.before, Cond.holds, Cond.value, he]
  cases v <;> simp_all [Value.isRef]
theorem vx_isRefq {C n d : String} {A : Nat → Prop} {s : State} {args : Array Value} (h : va_Zq C n d A s s.heap) : (Cond.isRef (.static C n d)).before args s = true := by
  rcases h with h | ⟨t, h⟩
  · exact vx_isRef h rfl
  · exact vx_isRef h rfl
/-- the same frame, seen from here: as if the method were called anew in this heap -/
theorem vx_rebase {T : State} (X : Stand p l e R s m args below meth c T locs cells slots) {R' : Room} (hf : R'.frames ≤ R.frames) (hl : R'.locals ≤ R.locals) (hc : cells + R'.cells ≤ R.cells) (hs : slots + R'.slots ≤ R.slots) :
    Stand p l e R' ((T.setVm s.vm).setFrames (.invoking m args :: below)) m args below meth c T [] 0 0 := by
  have htop : (T.setVm s.vm).topJava?.isSome := X.here.top
  have hF : ((T.setVm s.vm).setFrames (.invoking m args :: below)).frames = .invoking m args :: below := State.frames_setFrames _ (State.cur_lt_of_top htop)
  obtain ⟨g₀, hg0⟩ := Option.isSome_iff_exists.mp htop
  obtain ⟨r, hr⟩ := State.topJava?_eq_some.mp hg0
  have hl9 : e.platform.stackLimits (T.setVm s.vm).me = e.platform.stackLimits s.me := X.limits
  have hb9 : (T.setVm s.vm).me.stackBytes = s.me.stackBytes := X.bytes
  refine ⟨X.admits, X.cas, X.clock, hF, ?_, X.hears, X.method, X.code, X.here, X.tail, X.warmed, ?_, ?_, ?_⟩
  · have h := X.room
    have hU : ((T.setVm s.vm).setFrames (.invoking m args :: below)).localsInUse = s.localsInUse := by
      rw [State.localsInUse_invoking hF (meth := meth) (c := c) X.method X.code, State.localsInUse_invoking X.frames X.method X.code]
    simp only [State.hasRoom, Bool.and_eq_true, decide_eq_true_eq] at h ⊢
    obtain ⟨⟨⟨⟨h1, h2, h3, h4, h5, h6⟩, h7⟩, h8⟩, h9⟩ := h
    rw [X.frames, List.length_cons] at h2 h3
    have q1 := X.heapSize
    have q2 := X.used
    simp only [hF, hU, List.length_cons, State.stackLimits_setFrames, State.stackBytes_setFrames, hl9, hb9]
    refine ⟨⟨⟨⟨by omega, by omega, by omega, by omega, by omega, h6⟩, ?_⟩, ?_⟩, X.book⟩
    · show T.heap.size + R'.cells ≤ e.platform.maxCells
      omega
    · show T.slotsUsed + R'.slots ≤ e.platform.maxSlots
      omega
  · rw [State.stackLimits_setFrames]; rfl
  · rw [State.stackBytes_setFrames]; rfl
  · refine ⟨?_, Nat.le_refl _, Nat.le_refl _, ?_, ?_, fun a c9 h9 => ⟨c9, h9, rfl, rfl, fun _ _ => rfl⟩⟩
    · obtain ⟨t, ht, -⟩ := State.frames_cons hr
      show T.setVm s.vm = { ((T.setVm s.vm).setFrames (.invoking m args :: below)).setFrames (T.setVm s.vm).frames with heap := T.heap, slotsUsed := T.slotsUsed }
      rw [State.setFrames_setFrames, State.setFrames_self ht]
      rfl
    · show T.slotsUsed = T.slotsUsed + ((T.heap.toList.drop T.heap.size).map (·.slots.size)).sum
      rw [List.drop_eq_nil_of_le (Nat.le_of_eq Array.length_toList)]
      rfl
    · show ((T.heap.toList.drop T.heap.size).map (·.slots.size)).sum ≤ 0
      rw [List.drop_eq_nil_of_le (Nat.le_of_eq Array.length_toList)]
      exact Nat.le_refl _
/-- 'throw new E()': new; dup; invokespecial; athrow -/
theorem vx_throw0 {cc : ByteArray} {pc : Nat} (hexec : p.tables.exec = Jvm.exec) (hb : c.code = cc) (hl : l.stackTraces = false) {own cls : String} {names : List String} {ik ic mc ms : Nat} {A : Nat → Prop}
    (hown : s.vm.findClass own = some m.cls) (hcls : Bundle.fit cls = true) (hnames : ∀ n ∈ names, Bundle.fit n = true)
    (hk : (Cond.classLink own ik cls).before args s = true) (hini : (Cond.initialized cls).before args s = true) (hat : ∀ w ∈ vx_at0 own ic cls names, w.before args s = true)
    (hgood : ∀ w ∈ Cond.classLink own ik cls :: Cond.initialized cls :: vx_at0 own ic cls names, vx_ot w = true)
    (hU : vx_Zq Bundle.tN "UNASSIGNED_STACK" Bundle.steD A s s.heap) (hN : vx_Zq Bundle.tN "SUPPRESSED_SENTINEL" Bundle.listD A s s.heap) (hS : va_S A s.heap H locs) (hsize : ls.size = c.maxLocals)
    (d0 : decode cc pc = .ok (.new ik, 3)) (d3 : decode cc (pc + 3) = .ok (.dup, 1)) (d4 : decode cc (pc + 4) = .ok (.invokespecial ic, 3)) (d7 : decode cc (pc + 7) = .ok (.athrow, 1))
    (hout : ∀ x ∈ c.exceptionTable.toList, covers x (pc + 7) = false)
    (hRframes : names.length + 3 < R.frames) (hRlocals : (rest.map fun v => v.category).sum + (13 * (names.length + 1) + 42) ≤ R.locals) (hRcells : cells + 1 ≤ R.cells) (hRslots : slots + 6 ≤ R.slots) (hlocks : meth.locks = false)
    (hx : ∀ t : State, s.vm.Alike t.vm → H.size ≤ t.heap.size → (∀ q : Nat, q < H.size → t.heap[q]? = H[q]?) → XC cls s t)
    (hf : ∀ z ∈ locs, free z.base) (hc : cells + 1 ≤ mc) (hs : slots + 6 ≤ ms) :
    W p l e R s m args below meth c H locs cells slots (vx_MQ below Qc XC args s mc ms free) (F0 m pc ls rest) := by
  intro T hT X
  have htr : e.platform.stackTraces = false := (show e.platform.stackTraces = l.stackTraces by rw [X.admits.platform]).trans hl
  have Y := vx_rebase X (R' := { frames := R.frames, locals := R.locals, cells := 1, slots := 6 }) (Nat.le_refl _) (Nat.le_refl _) hRcells hRslots
  obtain ⟨s', hA⟩ : ∃ z, z = (T.setVm s.vm).setFrames (.invoking m args :: below) := ⟨_, rfl⟩
  rw [← hA] at Y
  have hvm : s'.vm = s.vm := by rw [hA]; rfl
  have hhp : s'.heap = H := by rw [hA]; exact hT
  have hW0 : s.WarmedH s'.vm := by rw [hvm]; exact State.WarmedH.refl s
  have hat' : ∀ w ∈ vx_at0 own ic cls names, w.before args s' = true := fun w hw => vx_ot_at hW0 hvm.symm (hgood w (List.mem_cons_of_mem _ (List.mem_cons_of_mem _ hw))) (hat w hw)
  have hk' : (Cond.classLink own ik cls).before args s' = true := vx_ot_at hW0 hvm.symm (hgood _ List.mem_cons_self) hk
  have hini' : (Cond.initialized cls).before args s' = true := vx_ot_at hW0 hvm.symm (hgood _ (List.mem_cons_of_mem _ List.mem_cons_self)) hini
  have hU' : vx_Zq Bundle.tN "UNASSIGNED_STACK" Bundle.steD A s' s'.heap := by rw [hhp]; exact vx_Zq.moved hW0.alike (hU.kept hS.2.1)
  have hN' : vx_Zq Bundle.tN "SUPPRESSED_SENTINEL" Bundle.listD A s' s'.heap := by rw [hhp]; exact vx_Zq.moved hW0.alike (hN.kept hS.2.1)
  have h : ∀ w ∈ Bundle.ownAtoms0 own ic cls names, w.before args s' = true := vx_own hat' (vx_isRefq hU'.1) (vx_isRefq hN'.1) hU'.2.word hN'.2.word
  have hown' : s'.vm.findClass own = some m.cls := by rw [hvm]; exact hown
  have hins : (Cond.instantiable cls 6).before args s' = true := h _ (by simp [Bundle.ownAtoms0])
  obtain ⟨vm₁, cX, kX, hfX, hkX, -, -, X₁, st1⟩ := Y.newCold hexec (own := own) (C := cls) (index := ik) (n := 6) hown' hk' hins hini'
    (g := F0 m pc ls rest) rfl (by rw [hb]; exact d0) (Nat.le_refl _) (Nat.le_refl _)
  generalize hT1 : (T.setVm vm₁).pushCell { cls := cX, slots := kX.instanceTypes.map defaultValue, vm := .none } = T1 at X₁ st1
  have hcat : (Value.ref T.heap.size).category = 1 := rfl
  have hcellA : T1.heap[T.heap.size]? = some (freshCell cX kX) := by rw [← hT1]; exact State.heap_pushCell_size _ _
  have d3' : decode c.code (pc + 3) = .ok (.dup, 1) := by rw [hb]; exact d3
  obtain ⟨U, hsteps, hrun, hend, hW, hsame, ce, hce, hO⟩ := X₁.ctorThrow0 hexec htr (own := own) (cls := cls) (names := names) (ic := ic) hown' hcls hnames h (fun x hx => nomatch hx) hfX hkX hcellA (by rw [hhp, hT]; exact Nat.le_refl _)
    (g := { method := m, pc := pc + 4, locals := ls, stack := .ref T.heap.size :: .ref T.heap.size :: rest, locked := none }) rfl hsize rfl rfl (rest := rest) rfl
    (by rw [hb]; exact d4) (by rw [hb]; exact d7) hout hRframes (by simp only [List.map_cons, List.sum_cons, hcat]; omega) hlocks
  obtain ⟨f1, f2⟩ := vx_frame hsame
  rw [hhp] at f1 f2
  have hWs : s.WarmedH U.vm := State.WarmedH.trans hW0 hW
  have hcl : s.vm.findClass cls = some ce.cls := by
    have h9 := hO.cls
    rw [hvm] at h9
    exact h9
  have hall : s.sameButNew ({ U with vm := s.vm } : State) locs mc ms := by
    subst hA
    obtain ⟨e1, e2⟩ := hsame
    rw [State.setFrames_setFrames] at e1
    have h2 : (T.setVm s.vm).sameButNew ({ U with vm := s.vm } : State) [] (0 + 1) (0 + 6) := ⟨e1, e2⟩
    have h3 := X.same.trans h2
    rw [List.append_nil] at h3
    exact h3.mono hc hs
  refine ⟨U, ?_, .threw T.heap.size, hrun, hend, Or.inr ⟨T.heap.size, rfl, cls, ce, locs, hx U hWs.alike f1 (fun q hq => f2 q hq (fun z hz => nomatch hz)), hce, hO.vm, hcl, hWs, hall, hf⟩⟩
  refine st1 _ ?_
  show Steps p.tables e below (T1.setTop { method := m, pc := pc + 3, locals := ls, stack := .ref T.heap.size :: rest, locked := none }) _
  jvm_step X₁.here [X₁.here.top, hexec, d3', Value.category]
  exact hsteps
/-- 'throw new E("text")': new; dup; ldc; invokespecial; athrow -/
theorem vx_throwS {cc : ByteArray} {pc : Nat} (hexec : p.tables.exec = Jvm.exec) (hb : c.code = cc) (hl : l.stackTraces = false) {own cls text : String} {names : List String} {ik is ic mc ms sa : Nat} {A : Nat → Prop}
    (hown : s.vm.findClass own = some m.cls) (hcls : Bundle.fit cls = true) (hnames : ∀ n ∈ names, Bundle.fit n = true)
    (hk : (Cond.classLink own ik cls).before args s = true) (hini : (Cond.initialized cls).before args s = true) (hstr : vk_R own is text sa s) (hat : ∀ w ∈ vx_atS own ic cls names, w.before args s = true)
    (hgood : ∀ w ∈ Cond.classLink own ik cls :: Cond.initialized cls :: vx_atS own ic cls names, vx_ot w = true)
    (hU : vx_Zq Bundle.tN "UNASSIGNED_STACK" Bundle.steD A s s.heap) (hN : vx_Zq Bundle.tN "SUPPRESSED_SENTINEL" Bundle.listD A s s.heap) (hS : va_S A s.heap H locs) (hsize : ls.size = c.maxLocals)
    (d0 : decode cc pc = .ok (.new ik, 3)) (d3 : decode cc (pc + 3) = .ok (.dup, 1)) (d4 : decode cc (pc + 4) = .ok (.ldc is, 2)) (d6 : decode cc (pc + 6) = .ok (.invokespecial ic, 3)) (d9 : decode cc (pc + 9) = .ok (.athrow, 1))
    (hout : ∀ x ∈ c.exceptionTable.toList, covers x (pc + 9) = false)
    (hRframes : names.length + 3 < R.frames) (hRlocals : (rest.map fun v => v.category).sum + (13 * (names.length + 1) + 43) ≤ R.locals) (hRcells : cells + 1 ≤ R.cells) (hRslots : slots + 6 ≤ R.slots) (hlocks : meth.locks = false)
    (hx : ∀ t : State, s.vm.Alike t.vm → H.size ≤ t.heap.size → (∀ q : Nat, q < H.size → t.heap[q]? = H[q]?) → XC cls s t)
    (hf : ∀ z ∈ locs, free z.base) (hc : cells + 1 ≤ mc) (hs : slots + 6 ≤ ms) :
    W p l e R s m args below meth c H locs cells slots (vx_MQ below Qc XC args s mc ms free) (F0 m pc ls rest) := by
  intro T hT X
  have htr : e.platform.stackTraces = false := (show e.platform.stackTraces = l.stackTraces by rw [X.admits.platform]).trans hl
  have Y := vx_rebase X (R' := { frames := R.frames, locals := R.locals, cells := 1, slots := 6 }) (Nat.le_refl _) (Nat.le_refl _) hRcells hRslots
  obtain ⟨s', hA⟩ : ∃ z, z = (T.setVm s.vm).setFrames (.invoking m args :: below) := ⟨_, rfl⟩
  rw [← hA] at Y
  have hvm : s'.vm = s.vm := by rw [hA]; rfl
  have hhp : s'.heap = H := by rw [hA]; exact hT
  have hW0 : s.WarmedH s'.vm := by rw [hvm]; exact State.WarmedH.refl s
  have hat' : ∀ w ∈ vx_atS own ic cls names, w.before args s' = true := fun w hw => vx_ot_at hW0 hvm.symm (hgood w (List.mem_cons_of_mem _ (List.mem_cons_of_mem _ hw))) (hat w hw)
  have hk' : (Cond.classLink own ik cls).before args s' = true := vx_ot_at hW0 hvm.symm (hgood _ List.mem_cons_self) hk
  have hini' : (Cond.initialized cls).before args s' = true := vx_ot_at hW0 hvm.symm (hgood _ (List.mem_cons_of_mem _ List.mem_cons_self)) hini
  have hU' : vx_Zq Bundle.tN "UNASSIGNED_STACK" Bundle.steD A s' s'.heap := by rw [hhp]; exact vx_Zq.moved hW0.alike (hU.kept hS.2.1)
  have hN' : vx_Zq Bundle.tN "SUPPRESSED_SENTINEL" Bundle.listD A s' s'.heap := by rw [hhp]; exact vx_Zq.moved hW0.alike (hN.kept hS.2.1)
  have h : ∀ w ∈ Bundle.ownAtoms own ic cls names, w.before args s' = true := vx_own hat' (vx_isRefq hU'.1) (vx_isRefq hN'.1) hU'.2.word hN'.2.word
  have hown' : s'.vm.findClass own = some m.cls := by rw [hvm]; exact hown
  have hins : (Cond.instantiable cls 6).before args s' = true := h _ (by simp [Bundle.ownAtoms])
  obtain ⟨vm₁, cX, kX, hfX, hkX, -, -, X₁, st1⟩ := Y.newCold hexec (own := own) (C := cls) (index := ik) (n := 6) hown' hk' hins hini'
    (g := F0 m pc ls rest) rfl (by rw [hb]; exact d0) (Nat.le_refl _) (Nat.le_refl _)
  generalize hT1 : (T.setVm vm₁).pushCell { cls := cX, slots := kX.instanceTypes.map defaultValue, vm := .none } = T1 at X₁ st1
  have hcat : (Value.ref T.heap.size).category = 1 := rfl
  have hcellA : T1.heap[T.heap.size]? = some (freshCell cX kX) := by rw [← hT1]; exact State.heap_pushCell_size _ _
  have d3' : decode c.code (pc + 3) = .ok (.dup, 1) := by rw [hb]; exact d3
  have d4' : decode c.code (pc + 4) = .ok (.ldc is, 2) := by rw [hb]; exact d4
  have hstr' : vk_R own is text sa s' := vk_R.warm hW0 hstr
  obtain ⟨U, hsteps, hrun, hend, hW, hsame, ce, hce, hO⟩ := X₁.ctorThrowS hexec htr (own := own) (cls := cls) (names := names) (ic := ic) hown' hcls hnames h (fun x hx => nomatch hx) hfX hkX hcellA (by rw [hhp, hT]; exact Nat.le_refl _) (msg := .ref sa) rfl
    (g := { method := m, pc := pc + 6, locals := ls, stack := .ref sa :: .ref T.heap.size :: .ref T.heap.size :: rest, locked := none }) rfl hsize rfl rfl (rest := rest) rfl
    (by rw [hb]; exact d6) (by rw [hb]; exact d9) hout hRframes (by simp only [List.map_cons, List.sum_cons, hcat]; omega) hlocks
  obtain ⟨f1, f2⟩ := vx_frame hsame
  rw [hhp] at f1 f2
  have hWs : s.WarmedH U.vm := State.WarmedH.trans hW0 hW
  have hcl : s.vm.findClass cls = some ce.cls := by
    have h9 := hO.cls
    rw [hvm] at h9
    exact h9
  have hall : s.sameButNew ({ U with vm := s.vm } : State) locs mc ms := by
    subst hA
    obtain ⟨e1, e2⟩ := hsame
    rw [State.setFrames_setFrames] at e1
    have h2 : (T.setVm s.vm).sameButNew ({ U with vm := s.vm } : State) [] (0 + 1) (0 + 6) := ⟨e1, e2⟩
    have h3 := X.same.trans h2
    rw [List.append_nil] at h3
    exact h3.mono hc hs
  refine ⟨U, ?_, .threw T.heap.size, hrun, hend, Or.inr ⟨T.heap.size, rfl, cls, ce, locs, hx U hWs.alike f1 (fun q hq => f2 q hq (fun z hz => nomatch hz)), hce, hO.vm, hcl, hWs, hall, hf⟩⟩
  refine st1 _ ?_
  show Steps p.tables e below (T1.setTop { method := m, pc := pc + 3, locals := ls, stack := .ref T.heap.size :: rest, locked := none }) _
  jvm_step X₁.here [X₁.here.top, hexec, d3', Value.category]
  exact X₁.ldcString hexec (own := own) (text := text) (index := is) (a := sa) hown' hstr'.1 hstr'.2
    (g := { method := m, pc := pc + 4, locals := ls, stack := .ref T.heap.size :: .ref T.heap.size :: rest, locked := none }) rfl d4' _ hsteps
/-- 'throw new E("text")', the text by a wide index -/
theorem vx_throwSW {cc : ByteArray} {pc : Nat} (hexec : p.tables.exec = Jvm.exec) (hb : c.code = cc) (hl : l.stackTraces = false) {own cls text : String} {names : List String} {ik is ic mc ms sa : Nat} {A : Nat → Prop}
    (hown : s.vm.findClass own = some m.cls) (hcls : Bundle.fit cls = true) (hnames : ∀ n ∈ names, Bundle.fit n = true)
    (hk : (Cond.classLink own ik cls).before args s = true) (hini : (Cond.initialized cls).before args s = true) (hstr : vk_R own is text sa s) (hat : ∀ w ∈ vx_atS own ic cls names, w.before args s = true)
    (hgood : ∀ w ∈ Cond.classLink own ik cls :: Cond.initialized cls :: vx_atS own ic cls names, vx_ot w = true)
    (hU : vx_Zq Bundle.tN "UNASSIGNED_STACK" Bundle.steD A s s.heap) (hN : vx_Zq Bundle.tN "SUPPRESSED_SENTINEL" Bundle.listD A s s.heap) (hS : va_S A s.heap H locs) (hsize : ls.size = c.maxLocals)
    (d0 : decode cc pc = .ok (.new ik, 3)) (d3 : decode cc (pc + 3) = .ok (.dup, 1)) (d4 : decode cc (pc + 4) = .ok (.ldc_w is, 3)) (d7 : decode cc (pc + 7) = .ok (.invokespecial ic, 3)) (d10 : decode cc (pc + 10) = .ok (.athrow, 1))
    (hout : ∀ x ∈ c.exceptionTable.toList, covers x (pc + 10) = false)
    (hRframes : names.length + 3 < R.frames) (hRlocals : (rest.map fun v => v.category).sum + (13 * (names.length + 1) + 43) ≤ R.locals) (hRcells : cells + 1 ≤ R.cells) (hRslots : slots + 6 ≤ R.slots) (hlocks : meth.locks = false)
    (hx : ∀ t : State, s.vm.Alike t.vm → H.size ≤ t.heap.size → (∀ q : Nat, q < H.size → t.heap[q]? = H[q]?) → XC cls s t)
    (hf : ∀ z ∈ locs, free z.base) (hc : cells + 1 ≤ mc) (hs : slots + 6 ≤ ms) :
    W p l e R s m args below meth c H locs cells slots (vx_MQ below Qc XC args s mc ms free) (F0 m pc ls rest) := by
  intro T hT X
  have htr : e.platform.stackTraces = false := (show e.platform.stackTraces = l.stackTraces by rw [X.admits.platform]).trans hl
  have Y := vx_rebase X (R' := { frames := R.frames, locals := R.locals, cells := 1, slots := 6 }) (Nat.le_refl _) (Nat.le_refl _) hRcells hRslots
  obtain ⟨s', hA⟩ : ∃ z, z = (T.setVm s.vm).setFrames (.invoking m args :: below) := ⟨_, rfl⟩
  rw [← hA] at Y
  have hvm : s'.vm = s.vm := by rw [hA]; rfl
  have hhp : s'.heap = H := by rw [hA]; exact hT
  have hW0 : s.WarmedH s'.vm := by rw [hvm]; exact State.WarmedH.refl s
  have hat' : ∀ w ∈ vx_atS own ic cls names, w.before args s' = true := fun w hw => vx_ot_at hW0 hvm.symm (hgood w (List.mem_cons_of_mem _ (List.mem_cons_of_mem _ hw))) (hat w hw)
  have hk' : (Cond.classLink own ik cls).before args s' = true := vx_ot_at hW0 hvm.symm (hgood _ List.mem_cons_self) hk
  have hini' : (Cond.initialized cls).before args s' = true := vx_ot_at hW0 hvm.symm (hgood _ (List.mem_cons_of_mem _ List.mem_cons_self)) hini
  have hU' : vx_Zq Bundle.tN "UNASSIGNED_STACK" Bundle.steD A s' s'.heap := by rw [hhp]; exact vx_Zq.moved hW0.alike (hU.kept hS.2.1)
  have hN' : vx_Zq Bundle.tN "SUPPRESSED_SENTINEL" Bundle.listD A s' s'.heap := by rw [hhp]; exact vx_Zq.moved hW0.alike (hN.kept hS.2.1)
  have h : ∀ w ∈ Bundle.ownAtoms own ic cls names, w.before args s' = true := vx_own hat' (vx_isRefq hU'.1) (vx_isRefq hN'.1) hU'.2.word hN'.2.word
  have hown' : s'.vm.findClass own = some m.cls := by rw [hvm]; exact hown
  have hins : (Cond.instantiable cls 6).before args s' = true := h _ (by simp [Bundle.ownAtoms])
  obtain ⟨vm₁, cX, kX, hfX, hkX, -, -, X₁, st1⟩ := Y.newCold hexec (own := own) (C := cls) (index := ik) (n := 6) hown' hk' hins hini'
    (g := F0 m pc ls rest) rfl (by rw [hb]; exact d0) (Nat.le_refl _) (Nat.le_refl _)
  generalize hT1 : (T.setVm vm₁).pushCell { cls := cX, slots := kX.instanceTypes.map defaultValue, vm := .none } = T1 at X₁ st1
  have hcat : (Value.ref T.heap.size).category = 1 := rfl
  have hcellA : T1.heap[T.heap.size]? = some (freshCell cX kX) := by rw [← hT1]; exact State.heap_pushCell_size _ _
  have d3' : decode c.code (pc + 3) = .ok (.dup, 1) := by rw [hb]; exact d3
  have d4' : decode c.code (pc + 4) = .ok (.ldc_w is, 3) := by rw [hb]; exact d4
  have hstr' : vk_R own is text sa s' := vk_R.warm hW0 hstr
  obtain ⟨U, hsteps, hrun, hend, hW, hsame, ce, hce, hO⟩ := X₁.ctorThrowS hexec htr (own := own) (cls := cls) (names := names) (ic := ic) hown' hcls hnames h (fun x hx => nomatch hx) hfX hkX hcellA (by rw [hhp, hT]; exact Nat.le_refl _) (msg := .ref sa) rfl
    (g := { method := m, pc := pc + 7, locals := ls, stack := .ref sa :: .ref T.heap.size :: .ref T.heap.size :: rest, locked := none }) rfl hsize rfl rfl (rest := rest) rfl
    (by rw [hb]; exact d7) (by rw [hb]; exact d10) hout hRframes (by simp only [List.map_cons, List.sum_cons, hcat]; omega) hlocks
  obtain ⟨f1, f2⟩ := vx_frame hsame
  rw [hhp] at f1 f2
  have hWs : s.WarmedH U.vm := State.WarmedH.trans hW0 hW
  have hcl : s.vm.findClass cls = some ce.cls := by
    have h9 := hO.cls
    rw [hvm] at h9
    exact h9
  have hall : s.sameButNew ({ U with vm := s.vm } : State) locs mc ms := by
    subst hA
    obtain ⟨e1, e2⟩ := hsame
    rw [State.setFrames_setFrames] at e1
    have h2 : (T.setVm s.vm).sameButNew ({ U with vm := s.vm } : State) [] (0 + 1) (0 + 6) := ⟨e1, e2⟩
    have h3 := X.same.trans h2
    rw [List.append_nil] at h3
    exact h3.mono hc hs
  refine ⟨U, ?_, .threw T.heap.size, hrun, hend, Or.inr ⟨T.heap.size, rfl, cls, ce, locs, hx U hWs.alike f1 (fun q hq => f2 q hq (fun z hz => nomatch hz)), hce, hO.vm, hcl, hWs, hall, hf⟩⟩
  refine st1 _ ?_
  show Steps p.tables e below (T1.setTop { method := m, pc := pc + 3, locals := ls, stack := .ref T.heap.size :: rest, locked := none }) _
  jvm_step X₁.here [X₁.here.top, hexec, d3', Value.category]
  exact X₁.ldcStringW hexec (own := own) (text := text) (index := is) (a := sa) hown' hstr'.1 hstr'.2
    (g := { method := m, pc := pc + 4, locals := ls, stack := .ref T.heap.size :: .ref T.heap.size :: rest, locked := none }) rfl d4' _ hsteps
end Ends
section Bodies
variable {l : Launch}
theorem vx_ofW {y : MethodName} {ws ws' : List Cond} {rm : Room} {Pc : Array Value → State → Prop} {Qc : Array Value → State → Outcome → State → Prop} {XC : String → State → State → Prop} {mc ms : Nat} {free : Addr → Prop} {cc : ByteArray} {maxL : Nat} {ret : Option FieldType}
    (hy : plainName y.cls = true) (hw : ws = Cond.code y cc maxL ret :: ws')
    (body : ∀ p e s m args below meth c s₁, BodyLoose p l y (headSpec ws rm) cc maxL ret e s m args below meth c s₁ → c.maxLocals = maxL → (∀ x ∈ c.exceptionTable.toList, False) → Pc args s →
      W p l e (headSpec ws rm).room s m args below meth c s.heap [] 0 0 (vx_MQ below Qc XC args s mc ms free) (entryFrame m args maxL)) : vx_Met l y ws rm Pc Qc XC mc ms free := by
  refine MetFree.of_bodyS (code := cc) (maxLocals := maxL) (ret := ret) hy ?_ ?_
  · intro args s m h hn
    obtain ⟨meth, c, h1, h2, h3, h4, h5, h6, -, -⟩ := Cond.code_spec hn (atoms_spec (ws := ws) h _ (by rw [hw]; exact List.mem_cons_self))
    exact ⟨meth, c, h1, h2, h3, h4, h5, h6⟩
  · intro p e s m args below meth c s₁ B hml hP _
    have hh0 : s₁.heap = s.heap := by rw [B.state]; rfl
    have ht : ∀ x ∈ c.exceptionTable.toList, False := by
      obtain ⟨meth9, c9, h1, h2, -, -, -, -, h7, -⟩ := Cond.code_spec B.named (atoms_spec (ws := ws) B.pre _ (by rw [hw]; exact List.mem_cons_self))
      cases Option.some.inj (h1.symm.trans B.method)
      cases Option.some.inj (h2.symm.trans (Stand.of_body B).code)
      intro x hx
      rw [Array.isEmpty_iff.mp h7] at hx
      cases hx
    obtain ⟨t, a1, o, b1, b2, b3⟩ := body p e s m args below meth c s₁ B hml ht hP s₁ hh0 (Stand.of_body B)
    exact ⟨t, o, a1, b1, b2, b3⟩
/-- the table of a body with handlers -/
theorem vx_table {p : Program} {x y : MethodName} {S : Spec} {cc bytes : ByteArray} {maxL maxL' : Nat} {ret ret' : Option FieldType} {e : Env} {s s₁ : State} {m : MethodId} {args : Array Value} {below : List Frame} {meth : Method} {c : Code} {hh : List (Nat × Nat × Nat × Nat)}
    (B : BodyLoose p l y S cc maxL ret e s m args below meth c s₁) (h : (Cond.codeWith y bytes maxL' ret' hh).before args s = true) : c.exceptionTable.toList = tableOf hh := by
  obtain ⟨m9, meth9, c9, hn9, h1, h2, -, -, h6, -⟩ := Cond.codeWith_spec h
  cases Option.some.inj (hn9.symm.trans B.named)
  cases Option.some.inj (h1.symm.trans B.method)
  cases Option.some.inj (h2.symm.trans (Stand.of_body B).code)
  rw [← h6, table_eq]
end Bodies
end VXA
/-! ===== END ===== -/
/-! ===== BEGIN a static call of a method with an exception table ===== -/
section VXS
variable {p : Program} {l : Launch} {e : Env} {R : Room} {s : State} {m : MethodId} {args : Array Value} {below : List Frame} {meth : Method} {c : Code} {T : State} {H : Heap} {locs : List Loc} {cells slots : Nat}
abbrev vx_CSW (R : Room) (s : State) (args : Array Value) (own : String) (index : Nat) (y : MethodName) (bytes : ByteArray) (maxL : Nat) (ret : Option FieldType) (hh : List (Nat × Nat × Nat × Nat)) (ws : List Cond) (rm : Room) (mc ms n : Nat) : Prop :=
  (rm.cells = mc ∧ rm.slots = ms ∧ rm.frames + 1 ≤ R.frames ∧ 8 + (maxL + 11) + rm.locals ≤ R.locals ∧ (∀ w ∈ ws, ∀ (a' : Array Value) (U : State), s.WarmedH U.vm → w.before a' U = true) ∧ Cond.codeWith y bytes maxL ret hh ∈ ws) ∧
  (Cond.codeWith y bytes maxL ret hh).before args s = true ∧ (Cond.initialized y.cls).before args s = true ∧ (y.cls ≠ "java/lang/invoke/MethodHandle" ∧ y.cls ≠ "java/lang/invoke/VarHandle") ∧
  (∀ sig, parseMethodDescriptor y.desc = some sig → n = sig.parameters.length) ∧ (Cond.methodLink own index y).before args s = true ∧ (Cond.static y).before args s = true
theorem vx_cwSW {own : String} {index maxL mc ms : Nat} {y : MethodName} {bytes : ByteArray} {ret : Option FieldType} {hh : List (Nat × Nat × Nat × Nat)} {Ts ws ws' : List Cond} {rm : Room} (n : Nat) (ht : ∀ w ∈ Ts, w.before args s = true) (hT : GoodIn Ts (va_wsS own index y ws)) (hw : ws = Cond.codeWith y bytes maxL ret hh :: ws') (hrc : rm.cells = mc) (hrs : rm.slots = ms)
    (hd : y.cls ≠ "java/lang/invoke/MethodHandle" ∧ y.cls ≠ "java/lang/invoke/VarHandle" ∧ (parseMethodDescriptor y.desc).map (fun d => d.parameters.length) = some n) (hR : rm.frames + 1 ≤ R.frames ∧ 8 + (maxL + 11) + rm.locals ≤ R.locals) :
    vx_CSW R s args own index y bytes maxL ret hh ws rm mc ms n := by
  have ok : ∀ w ∈ va_wsS own index y ws, w.before args s = true := fun w h => ht w (hT w h).1
  have hG : GoodIn Ts ws := fun w h => hT w (by unfold va_wsS; exact List.mem_append_right _ h)
  have hc : Cond.codeWith y bytes maxL ret hh ∈ ws := by rw [hw]; exact List.mem_cons_self
  refine ⟨⟨hrc, hrs, hR.1, hR.2, pay_in ht hG, hc⟩, ht _ (hG _ hc).1, ok _ (by simp [va_wsS]), ⟨hd.1, hd.2.1⟩, fun sig h => ?_, ok _ (by simp [va_wsS]), ok _ (by simp [va_wsS])⟩
  have h2 := hd.2.2
  rw [h] at h2
  exact (Option.some.inj h2).symm
theorem vx_callSW (X : Stand p l e R s m args below meth c T locs cells slots) (hexec : p.tables.exec = Jvm.exec) {own : String} {index : Nat} {y : MethodName} {bytes : ByteArray} {maxL : Nat} {ret : Option FieldType} {hh : List (Nat × Nat × Nat × Nat)}
    (hown : s.vm.findClass own = some m.cls) (hlink : (Cond.methodLink own index y).before args s = true) (hstat : (Cond.static y).before args s = true) (hinit : (Cond.initialized y.cls).before args s = true)
    (hcode : (Cond.codeWith y bytes maxL ret hh).before args s = true) (hy : y.cls ≠ "java/lang/invoke/MethodHandle" ∧ y.cls ≠ "java/lang/invoke/VarHandle")
    {W9 : Nat} {Pre : Pt → Array Value → Prop} {Post : Pt → Array Value → Option Value → Pt → Prop} (hK : Back l R p e below s args y 3 W9 Pre Post)
    {g : JFrame} (hg : g.method = m) (hsize : g.locals.size = c.maxLocals) {argsL rest : List Value} (hlen : ∀ sig, parseMethodDescriptor y.desc = some sig → argsL.length = sig.parameters.length)
    (hstack : g.stack = argsL.reverse ++ rest) (hW : 2 * g.monitorRoom + (rest.map fun v => v.category).sum ≤ W9) (hdg : decode c.code g.pc = .ok (.invokestatic index, 3))
    (hpre : ∀ vm₁, s.WarmedH vm₁ → Pre ⟨T.setVm vm₁, locs, cells, slots⟩ argsL.toArray) :
    ∃ (v : Option Value) (vm₁ : Vm) (B : Pt), s.WarmedH vm₁ ∧ Stand p l e R s m args below meth c B.U B.locs B.cells B.slots ∧ Post ⟨T.setVm vm₁, locs, cells, slots⟩ argsL.toArray v B ∧
      ∀ target, Steps p.tables e below (B.U.setTop { g with pc := g.pc + 3, stack := v.toList ++ rest }) target → Steps p.tables e below (T.setTop g) target := by
  obtain ⟨mk, methM, cM, hnamed, hmethM, -, -, -, -, -, -, hsigM⟩ := Cond.codeWith_spec hcode
  have hstatic : methM.isStatic = true := Cond.static_spec hnamed hmethM hstat
  obtain ⟨kP, hkP, -⟩ := className_of_methodNamed hnamed
  have hinitP : kP.init = .initialized := Cond.initialized_spec (findClass_of_methodNamed hnamed) hkP hinit
  obtain ⟨vm₁, X₁, hstep₁⟩ := X.invokestatic hexec hown hlink hnamed hmethM hstatic hkP hinitP hy (g := g) hg (argsL := argsL) (rest := rest) (hlen _ hsigM) hstack hdg
  obtain ⟨v, B, X', hpost, hsteps⟩ := hK m meth c ⟨T.setVm vm₁, locs, cells, slots⟩ { g with stack := rest } (.invokestatic index) mk argsL.toArray X₁ hg hsize hdg hW (X₁.named hnamed) (hpre vm₁ X₁.warmed)
  exact ⟨v, vm₁, B, X₁.warmed, X', hpost, fun target h => hstep₁ _ fun acts => by rw [doInvoke_state]; exact hsteps.trans h⟩
theorem vx_runSW {y : MethodName} {bytes cc : ByteArray} {maxL nL mc ms n index : Nat} {ret : Option FieldType} {hh : List (Nat × Nat × Nat × Nat)} {ws : List Cond} {rm : Room} {Pc : Array Value → State → Prop} {Qc : Array Value → State → Outcome → State → Prop} {free : Addr → Prop} {Ts : List Cond} {own : String} {As rest : List Value} {g : JFrame}
    (S : CallFix p m c cc nL s args Ts own) (hM : Met l y ws rm Pc Qc mc ms free) (cw : vx_CSW R s args own index y bytes maxL ret hh ws rm mc ms n) (hp : PreS s H Pc As)
    (hg : g.method = m) (hn : As.length = n) (hsize : g.locals.size = nL) (hstack : g.stack = As.reverse ++ rest) (hW : 2 * g.monitorRoom + (rest.map fun v => v.category).sum ≤ 8) (hdg : decode cc g.pc = .ok (.invokestatic index, 3)) (hf : cells + mc ≤ R.cells ∧ slots + ms ≤ R.slots) :
    va_Run p l e R s m args below meth c H locs cells slots mc ms g rest (Qc As.toArray) (free) := by
  obtain ⟨⟨hrc, hrs, hfr, hlo, hws, hcw⟩, hcode, hini, hy, hlen, hl, hstt⟩ := cw
  have hK : Back l R p e below s args y 3 8 (PreOf R mc ms Pc) (PostOf Qc mc ms free) := va_backW (hh := hh) (bytes := bytes) (maxL := maxL) (ret := ret) hM hp.1 hrc hrs hfr hlo hws hcw (fun a' U hW => word_at hW (Or.inl (by first | rfl | simp [Cond.onTables, Cond.keeps, Cond.steady])) hini)
  obtain ⟨hx, hb, hml, ho, -⟩ := S
  intro T hT X
  obtain ⟨v, vm₁, ⟨U', l2, c2, s2⟩, hW₁, X', ⟨g', mk, t, L, e1, e2, hq, h1, hL, h2, h3⟩, st⟩ := vx_callSW X hx (hh := hh) (bytes := bytes) (maxL := maxL) (ret := ret) ho hl hstt hini hcode hy hK hg (hsize.trans hml.symm) (argsL := As) (rest := rest) (fun sig h => hn.trans (hlen sig h)) hstack hW (by rw [hb]; exact hdg)
    (fun vm₁ hW₁ => ⟨hf.1, hf.2, hp.2 (T.setVm vm₁) hT hW₁⟩)
  dsimp only [Pt.U, Pt.locs, Pt.cells, Pt.slots] at X' e1 e2 h1 h2 h3 st
  subst h1; subst h2; subst h3
  exact ⟨v, (T.setVm vm₁).calling g' mk As.toArray, t, U', L, hT, X', hL, e1, e2, hq, st⟩
/-- a thing of a world lies in the heap -/
theorem vx_lt {D : va_G} {cl : List vw_C} {ws : va_W} {H1 : Heap} (h : va_P D cl ws H1) {k : Nat} {q : Nat × va_E} (hk : ws[k]? = some q) : q.1 < H1.size := (h k q hk).lt
end VXS
/-! ===== END ===== -/
/-! ===== BEGIN methods with a table of their own: called by a name, returning or throwing ===== -/
section VXH
/-! vx_backW, vx_callVX, vx_callSX, vx_callVW, vx_runVW, vx_runVX, vx_runSX, vx_ofWH follow the same proofs as their sisters above (Free/Laws.lean, Shelf42/LK1.lean); vx_outP calls Shelf42/NT130.lean (outThrough). -/
section
variable {l : Launch} {R : Room} {p : Program} {e : Env} {below : List Frame} {s : State} {sargs : Array Value} {y : MethodName} {len W9 : Nat}
theorem vx_backW {ws : List Cond} {rm : Room} {Pc : Array Value → State → Prop} {Qc : Array Value → State → Outcome → State → Prop} {XC : String → State → State → Prop} {mc ms : Nat} {free : Addr → Prop} {bytes : ByteArray} {maxL : Nat} {ret : Option FieldType} {hh : List (Nat × Nat × Nat × Nat)}
    (hM : vx_Met l y ws rm Pc Qc XC mc ms free) (hblind : FrameBlind Pc) (hrc : rm.cells = mc) (hrs : rm.slots = ms)
    (hframes : rm.frames + 1 ≤ R.frames) (hlocals : W9 + (maxL + 11) + rm.locals ≤ R.locals)
    (hws : ∀ w ∈ ws, ∀ a' U, s.WarmedH U.vm → w.before a' U = true) (hcode : Cond.codeWith y bytes maxL ret hh ∈ ws) (hinit : ∀ a' U, s.WarmedH U.vm → (Cond.initialized y.cls).before a' U = true) :
    vx_Back l R p e below s sargs y len W9 (PreOf R mc ms Pc) (PostOf Qc mc ms free) (vx_Post XC mc ms free) := by
  intro m meth c A g ig mk a X hg hsize hdg hW hn hp
  have h1 : (headSpec ws rm).pre.before a A.U = true := atoms_intro fun w hw => hws w hw _ _ X.warmed
  have h2 : (Cond.codeWith y bytes maxL ret hh).before a A.U = true := hws _ hcode _ _ X.warmed
  have h3 : (Cond.initialized y.cls).before a A.U = true := hinit _ _ X.warmed
  have h4 : A.cells + (headSpec ws rm).room.cells ≤ R.cells := by rw [show (headSpec ws rm).room.cells = mc from hrc]; exact hp.1
  have h5 : A.slots + (headSpec ws rm).room.slots ≤ R.slots := by rw [show (headSpec ws rm).room.slots = ms from hrs]; exact hp.2.1
  have hPc : Pc a (A.U.calling g mk a) := hblind _ _ _ _ hp.2.2
  obtain ⟨U, Ls, c0, s0⟩ := A
  dsimp only [Pt.U, Pt.locs, Pt.cells, Pt.slots] at h1 h2 h3 h4 h5 X hn hPc ⊢
  obtain ⟨m9, methY, cY, hn9, hmY, hcY, -, hlY, -⟩ := Cond.codeWith_spec h2
  cases Option.some.inj (hn9.symm.trans hn)
  obtain ⟨kY, hkY, -⟩ := className_of_methodNamed hn
  have hinitY : kY.init = .initialized := Cond.initialized_spec (findClass_of_methodNamed hn) hkY h3
  have h : At U g.method c below := by rw [hg]; exact X.here
  have hlocals9 : W9 + (maxL + 11) + (headSpec ws rm).room.locals ≤ R.locals := hlocals
  have happ : (headSpec ws rm).appliesLoose y e.platform (U.calling g mk a) = true :=
    Spec.appliesLoose_calling (g := g) h hdg hn hkY hinitY
      (X.room_calling (g := g) (R' := (headSpec ws rm).room) hsize hmY hcY hframes (by rw [hlY]; omega) h4 h5) h1
  obtain ⟨mid, hmid⟩ := h.above
  have hfr : (U.setTop g).frames = (.java g :: mid) ++ below := by rw [State.frames_setTop' g h.top, hmid]; rfl
  obtain ⟨o, s₂, hsteps, -, hend, hq⟩ := Steps.callFree hM p X.admits X.cas X.clock (acts := []) hfr happ hPc trivial
  have hq' : vx_Q Qc XC mc ms free a (U.calling g mk a) o s₂ := hq
  rw [State.frames_setTop' g h.top] at hend
  obtain ⟨g₀, hg0⟩ := Option.isSome_iff_exists.mp h.top
  obtain ⟨r, hr⟩ := State.topJava?_eq_some.mp hg0
  have hr' : (({ U with heap := s₂.heap, slotsUsed := s₂.slotsUsed } : State).setVm s₂.vm).frames = .java g₀ :: r := hr
  rcases hq' with ⟨hqc, L, hfe, hL⟩ | ⟨q, rfl, E, ce, L, hx, hce, hcv, hcl, hW₂, hsm, hL⟩
  · obtain ⟨⟨v, rfl⟩, hW₂, e2, q2, q3, q4, q5, q6⟩ := id hfe
    have e3 : s₂ = ({ (U.calling g mk a).setFrames s₂.frames with heap := s₂.heap, slotsUsed := s₂.slotsUsed } : State).setVm s₂.vm := by
      have : s₂ = ({ s₂ with vm := (U.calling g mk a).vm } : State).setVm s₂.vm := rfl
      rw [e2] at this
      exact this
    obtain ⟨c₂, i₂, len₂, hc₂, hd₂, hf₂⟩ := hend
    have hW' : U.WarmedH s₂.vm := hW₂
    have hcc : c₂ = c := by
      have h1 : s₂.code? g.method = U.code? g.method := by
        rw [State.code?_eq, State.code?_eq, hW'.alike.method?]
      exact Option.some.inj (hc₂.symm.trans (h1.trans h.code))
    subst hcc
    have hlen : len₂ = len := by rw [hdg] at hd₂; cases hd₂; rfl
    subst hlen
    have hs₂ : s₂ = (({ U with heap := s₂.heap, slotsUsed := s₂.slotsUsed } : State).setVm s₂.vm).setTop { g with pc := g.pc + len₂, stack := v.toList ++ g.stack } := by
      refine e3.trans ?_
      rw [hf₂, State.calling_eq h.top, State.setFrames_setFrames, State.setTop_of_frames _ hr', hr]
      rfl
    have hsame : U.sameButNew ({ U with heap := s₂.heap, slotsUsed := s₂.slotsUsed } : State) L mc ms := by
      refine ⟨?_, q2, q3, q4, q5, q6⟩
      obtain ⟨t, ht, -⟩ := State.frames_cons hr
      show ({ U with heap := s₂.heap, slotsUsed := s₂.slotsUsed } : State) = { U.setFrames U.frames with heap := s₂.heap, slotsUsed := s₂.slotsUsed }
      rw [State.setFrames_self ht]
    subst hg
    refine Or.inl ⟨v, ⟨(({ U with heap := s₂.heap, slotsUsed := s₂.slotsUsed } : State).setVm s₂.vm), Ls ++ L, c0 + mc, s0 + ms⟩,
      ⟨X.admits, X.cas, X.clock, X.frames, X.room, X.hears, X.method, X.code, (X.here.setHeapUsed s₂.heap s₂.slotsUsed).setVm hW'.alike, X.tail, State.WarmedH.trans X.warmed hW', X.limits, X.bytes, X.same.trans (hsame.setVm s.vm)⟩,
      ⟨g, mk, s₂, L, rfl, rfl, hqc, rfl, hL, rfl, rfl⟩, ?_⟩
    show Steps p.tables e below _ ((({ U with heap := s₂.heap, slotsUsed := s₂.slotsUsed } : State).setVm s₂.vm).setTop { g with pc := g.pc + len₂, stack := v.toList ++ g.stack })
    rw [← hs₂]
    exact hsteps
  · obtain ⟨e2, q2, q3, q4, q5, q6⟩ := id hsm
    have e3 : s₂ = ({ (U.calling g mk a).setFrames s₂.frames with heap := s₂.heap, slotsUsed := s₂.slotsUsed } : State).setVm s₂.vm := by
      have : s₂ = ({ s₂ with vm := (U.calling g mk a).vm } : State).setVm s₂.vm := rfl
      rw [e2] at this
      exact this
    have hf₂ : s₂.frames = .throwing q :: .java g :: U.frames.tail := hend
    have hW' : U.WarmedH s₂.vm := hW₂
    have hs₂ : s₂ = ((({ U with heap := s₂.heap, slotsUsed := s₂.slotsUsed } : State).setVm s₂.vm).setTop g).pushFrame (.throwing q) := by
      refine e3.trans ?_
      rw [hf₂, State.calling_eq h.top, State.setFrames_setFrames, State.pushFrame, State.frames_setTop _ hr', State.setTop_of_frames _ hr', State.setFrames_setFrames, hr]
      rfl
    have hsame : U.sameButNew ({ U with heap := s₂.heap, slotsUsed := s₂.slotsUsed } : State) L mc ms := by
      refine ⟨?_, q2, q3, q4, q5, q6⟩
      obtain ⟨t, ht, -⟩ := State.frames_cons hr
      show ({ U with heap := s₂.heap, slotsUsed := s₂.slotsUsed } : State) = { U.setFrames U.frames with heap := s₂.heap, slotsUsed := s₂.slotsUsed }
      rw [State.setFrames_self ht]
    subst hg
    refine Or.inr ⟨q, ⟨(({ U with heap := s₂.heap, slotsUsed := s₂.slotsUsed } : State).setVm s₂.vm), Ls ++ L, c0 + mc, s0 + ms⟩,
      ⟨X.admits, X.cas, X.clock, X.frames, X.room, X.hears, X.method, X.code, (X.here.setHeapUsed s₂.heap s₂.slotsUsed).setVm hW'.alike, X.tail, State.WarmedH.trans X.warmed hW', X.limits, X.bytes, X.same.trans (hsame.setVm s.vm)⟩,
      ⟨g, mk, s₂, L, E, ce, rfl, rfl, hx, hce, hcv, hcl, rfl, hL, rfl, rfl⟩, ?_⟩
    show Steps p.tables e below _ (((({ U with heap := s₂.heap, slotsUsed := s₂.slotsUsed } : State).setVm s₂.vm).setTop g).pushFrame (.throwing q))
    rw [← hs₂]
    exact hsteps
end
variable {p : Program} {l : Launch} {e : Env} {R : Room} {s : State} {m : MethodId} {args : Array Value} {below : List Frame} {meth : Method} {c : Code} {T : State} {H : Heap} {locs : List Loc} {cells slots : Nat}
theorem vx_callVX (X : Stand p l e R s m args below meth c T locs cells slots) (hexec : p.tables.exec = Jvm.exec) {own C : String} {index : Nat} {y : MethodName} {bytes : ByteArray} {maxL : Nat} {ret : Option FieldType} {hh : List (Nat × Nat × Nat × Nat)}
    (hown : s.vm.findClass own = some m.cls) (hlink : (Cond.methodLink own index y).before args s = true) (hinst : (Cond.instanceMethod y).before args s = true) (hsel : (Cond.selects C y y).before args s = true)
    (hcode : (Cond.codeWith y bytes maxL ret hh).before args s = true) (hy : y.cls ≠ "java/lang/invoke/MethodHandle" ∧ y.cls ≠ "java/lang/invoke/VarHandle")
    {W9 : Nat} {Pre : Pt → Array Value → Prop} {Post : Pt → Array Value → Option Value → Pt → Prop} {PostX : Pt → Array Value → Addr → Pt → Prop} (hK : vx_Back l R p e below s args y 3 W9 Pre Post PostX)
    {b : Addr} {cellB : Cell} (hcell : T.heap[b]? = some cellB) (hobj : cellB.vm.isStatics = false) (hcls : s.vm.findClass C = some cellB.cls)
    {g : JFrame} (hg : g.method = m) (hsize : g.locals.size = c.maxLocals) {argsL rest : List Value} (hlen : ∀ sig, parseMethodDescriptor y.desc = some sig → argsL.length = sig.parameters.length)
    (hstack : g.stack = argsL.reverse ++ .ref b :: rest) (hW : 2 * g.monitorRoom + (rest.map fun v => v.category).sum ≤ W9) (hdg : decode c.code g.pc = .ok (.invokevirtual index, 3))
    (hpre : ∀ vm₁, s.WarmedH vm₁ → Pre ⟨T.setVm vm₁, locs, cells, slots⟩ (Value.ref b :: argsL).toArray) :
    (∃ (v : Option Value) (vm₁ : Vm) (B : Pt), s.WarmedH vm₁ ∧ Stand p l e R s m args below meth c B.U B.locs B.cells B.slots ∧ Post ⟨T.setVm vm₁, locs, cells, slots⟩ (Value.ref b :: argsL).toArray v B ∧
      ∀ target, Steps p.tables e below (B.U.setTop { g with pc := g.pc + 3, stack := v.toList ++ rest }) target → Steps p.tables e below (T.setTop g) target) ∨
    (∃ (q : Addr) (vm₁ : Vm) (B : Pt), s.WarmedH vm₁ ∧ Stand p l e R s m args below meth c B.U B.locs B.cells B.slots ∧ PostX ⟨T.setVm vm₁, locs, cells, slots⟩ (Value.ref b :: argsL).toArray q B ∧
      Steps p.tables e below (T.setTop g) ((B.U.setTop { g with stack := rest }).pushFrame (.throwing q))) := by
  obtain ⟨mk, methM, hnamed, hmethM, hstM, habM⟩ := Cond.instanceMethod_spec hinst
  obtain ⟨m8, methM', cM, hn8, hmethM', -, -, -, -, -, -, hsigM⟩ := Cond.codeWith_spec hcode
  cases Option.some.inj (hn8.symm.trans hnamed)
  cases hmethM.symm.trans hmethM'
  obtain ⟨c2, r2, m2, q1, q2, q3, q4, kP, hkP, hkPi⟩ := Cond.selects_spec hsel
  cases hcls.symm.trans q1
  cases (State.methodFound?_of_named hnamed hy).symm.trans q2
  cases hnamed.symm.trans q3
  have hselP : selectMethod e.platform s.vm cellB.cls mk = .method mk := by rw [Launch.admits_selectMethod X.admits]; exact q4
  obtain ⟨vm₁, X₁, hstep₁⟩ := X.invokevirtual hexec hown hlink hnamed hmethM hstM hkP hkPi hy (a := b) (cell := cellB) hcell
    (fun z h => by rw [h] at hobj; cases hobj) hselP hmethM habM hkP hkPi (g := g) hg (argsL := argsL) (rest := rest) (hlen _ hsigM) hstack hdg
  rcases hK m meth c ⟨T.setVm vm₁, locs, cells, slots⟩ { g with stack := rest } (.invokevirtual index) mk (Value.ref b :: argsL).toArray X₁ hg hsize hdg hW (X₁.named hnamed) (hpre vm₁ X₁.warmed) with ⟨v, B, X', hpost, hsteps⟩ | ⟨q, B, X', hpost, hsteps⟩
  · exact Or.inl ⟨v, vm₁, B, X₁.warmed, X', hpost, fun target h => hstep₁ _ fun acts => by rw [doInvoke_state]; exact hsteps.trans h⟩
  · exact Or.inr ⟨q, vm₁, B, X₁.warmed, X', hpost, hstep₁ _ fun acts => by rw [doInvoke_state]; exact hsteps⟩
theorem vx_callSX (X : Stand p l e R s m args below meth c T locs cells slots) (hexec : p.tables.exec = Jvm.exec) {own : String} {index : Nat} {y : MethodName} {bytes : ByteArray} {maxL : Nat} {ret : Option FieldType} {hh : List (Nat × Nat × Nat × Nat)}
    (hown : s.vm.findClass own = some m.cls) (hlink : (Cond.methodLink own index y).before args s = true) (hstat : (Cond.static y).before args s = true) (hinit : (Cond.initialized y.cls).before args s = true)
    (hcode : (Cond.codeWith y bytes maxL ret hh).before args s = true) (hy : y.cls ≠ "java/lang/invoke/MethodHandle" ∧ y.cls ≠ "java/lang/invoke/VarHandle")
    {W9 : Nat} {Pre : Pt → Array Value → Prop} {Post : Pt → Array Value → Option Value → Pt → Prop} {PostX : Pt → Array Value → Addr → Pt → Prop} (hK : vx_Back l R p e below s args y 3 W9 Pre Post PostX)
    {g : JFrame} (hg : g.method = m) (hsize : g.locals.size = c.maxLocals) {argsL rest : List Value} (hlen : ∀ sig, parseMethodDescriptor y.desc = some sig → argsL.length = sig.parameters.length)
    (hstack : g.stack = argsL.reverse ++ rest) (hW : 2 * g.monitorRoom + (rest.map fun v => v.category).sum ≤ W9) (hdg : decode c.code g.pc = .ok (.invokestatic index, 3))
    (hpre : ∀ vm₁, s.WarmedH vm₁ → Pre ⟨T.setVm vm₁, locs, cells, slots⟩ argsL.toArray) :
    (∃ (v : Option Value) (vm₁ : Vm) (B : Pt), s.WarmedH vm₁ ∧ Stand p l e R s m args below meth c B.U B.locs B.cells B.slots ∧ Post ⟨T.setVm vm₁, locs, cells, slots⟩ argsL.toArray v B ∧
      ∀ target, Steps p.tables e below (B.U.setTop { g with pc := g.pc + 3, stack := v.toList ++ rest }) target → Steps p.tables e below (T.setTop g) target) ∨
    (∃ (q : Addr) (vm₁ : Vm) (B : Pt), s.WarmedH vm₁ ∧ Stand p l e R s m args below meth c B.U B.locs B.cells B.slots ∧ PostX ⟨T.setVm vm₁, locs, cells, slots⟩ argsL.toArray q B ∧
      Steps p.tables e below (T.setTop g) ((B.U.setTop { g with stack := rest }).pushFrame (.throwing q))) := by
  obtain ⟨mk, methM, cM, hnamed, hmethM, -, -, -, -, -, -, hsigM⟩ := Cond.codeWith_spec hcode
  have hstatic : methM.isStatic = true := Cond.static_spec hnamed hmethM hstat
  obtain ⟨kP, hkP, -⟩ := className_of_methodNamed hnamed
  have hinitP : kP.init = .initialized := Cond.initialized_spec (findClass_of_methodNamed hnamed) hkP hinit
  obtain ⟨vm₁, X₁, hstep₁⟩ := X.invokestatic hexec hown hlink hnamed hmethM hstatic hkP hinitP hy (g := g) hg (argsL := argsL) (rest := rest) (hlen _ hsigM) hstack hdg
  rcases hK m meth c ⟨T.setVm vm₁, locs, cells, slots⟩ { g with stack := rest } (.invokestatic index) mk argsL.toArray X₁ hg hsize hdg hW (X₁.named hnamed) (hpre vm₁ X₁.warmed) with ⟨v, B, X', hpost, hsteps⟩ | ⟨q, B, X', hpost, hsteps⟩
  · exact Or.inl ⟨v, vm₁, B, X₁.warmed, X', hpost, fun target h => hstep₁ _ fun acts => by rw [doInvoke_state]; exact hsteps.trans h⟩
  · exact Or.inr ⟨q, vm₁, B, X₁.warmed, X', hpost, hstep₁ _ fun acts => by rw [doInvoke_state]; exact hsteps⟩
theorem vx_callVW (X : Stand p l e R s m args below meth c T locs cells slots) (hexec : p.tables.exec = Jvm.exec) {own C : String} {index : Nat} {y : MethodName} {bytes : ByteArray} {maxL : Nat} {ret : Option FieldType} {hh : List (Nat × Nat × Nat × Nat)}
    (hown : s.vm.findClass own = some m.cls) (hlink : (Cond.methodLink own index y).before args s = true) (hinst : (Cond.instanceMethod y).before args s = true) (hsel : (Cond.selects C y y).before args s = true)
    (hcode : (Cond.codeWith y bytes maxL ret hh).before args s = true) (hy : y.cls ≠ "java/lang/invoke/MethodHandle" ∧ y.cls ≠ "java/lang/invoke/VarHandle")
    {W9 : Nat} {Pre : Pt → Array Value → Prop} {Post : Pt → Array Value → Option Value → Pt → Prop} (hK : Back l R p e below s args y 3 W9 Pre Post)
    {b : Addr} {cellB : Cell} (hcell : T.heap[b]? = some cellB) (hobj : cellB.vm.isStatics = false) (hcls : s.vm.findClass C = some cellB.cls)
    {g : JFrame} (hg : g.method = m) (hsize : g.locals.size = c.maxLocals) {argsL rest : List Value} (hlen : ∀ sig, parseMethodDescriptor y.desc = some sig → argsL.length = sig.parameters.length)
    (hstack : g.stack = argsL.reverse ++ .ref b :: rest) (hW : 2 * g.monitorRoom + (rest.map fun v => v.category).sum ≤ W9) (hdg : decode c.code g.pc = .ok (.invokevirtual index, 3))
    (hpre : ∀ vm₁, s.WarmedH vm₁ → Pre ⟨T.setVm vm₁, locs, cells, slots⟩ (Value.ref b :: argsL).toArray) :
    ∃ (v : Option Value) (vm₁ : Vm) (B : Pt), s.WarmedH vm₁ ∧ Stand p l e R s m args below meth c B.U B.locs B.cells B.slots ∧ Post ⟨T.setVm vm₁, locs, cells, slots⟩ (Value.ref b :: argsL).toArray v B ∧
      ∀ target, Steps p.tables e below (B.U.setTop { g with pc := g.pc + 3, stack := v.toList ++ rest }) target → Steps p.tables e below (T.setTop g) target := by
  obtain ⟨mk, methM, hnamed, hmethM, hstM, habM⟩ := Cond.instanceMethod_spec hinst
  obtain ⟨m8, methM', cM, hn8, hmethM', -, -, -, -, -, -, hsigM⟩ := Cond.codeWith_spec hcode
  cases Option.some.inj (hn8.symm.trans hnamed)
  cases hmethM.symm.trans hmethM'
  obtain ⟨c2, r2, m2, q1, q2, q3, q4, kP, hkP, hkPi⟩ := Cond.selects_spec hsel
  cases hcls.symm.trans q1
  cases (State.methodFound?_of_named hnamed hy).symm.trans q2
  cases hnamed.symm.trans q3
  have hselP : selectMethod e.platform s.vm cellB.cls mk = .method mk := by rw [Launch.admits_selectMethod X.admits]; exact q4
  obtain ⟨vm₁, X₁, hstep₁⟩ := X.invokevirtual hexec hown hlink hnamed hmethM hstM hkP hkPi hy (a := b) (cell := cellB) hcell
    (fun z h => by rw [h] at hobj; cases hobj) hselP hmethM habM hkP hkPi (g := g) hg (argsL := argsL) (rest := rest) (hlen _ hsigM) hstack hdg
  obtain ⟨v, B, X', hpost, hsteps⟩ := hK m meth c ⟨T.setVm vm₁, locs, cells, slots⟩ { g with stack := rest } (.invokevirtual index) mk (Value.ref b :: argsL).toArray X₁ hg hsize hdg hW (X₁.named hnamed) (hpre vm₁ X₁.warmed)
  exact ⟨v, vm₁, B, X₁.warmed, X', hpost, fun target h => hstep₁ _ fun acts => by rw [doInvoke_state]; exact hsteps.trans h⟩
abbrev vx_CVW (R : Room) (s : State) (args : Array Value) (own C : String) (index : Nat) (y : MethodName) (bytes : ByteArray) (maxL : Nat) (ret : Option FieldType) (hh : List (Nat × Nat × Nat × Nat)) (ws : List Cond) (rm : Room) (mc ms n : Nat) : Prop :=
  (rm.cells = mc ∧ rm.slots = ms ∧ rm.frames + 1 ≤ R.frames ∧ 8 + (maxL + 11) + rm.locals ≤ R.locals ∧ (∀ w ∈ ws, ∀ (a' : Array Value) (U : State), s.WarmedH U.vm → w.before a' U = true) ∧ Cond.codeWith y bytes maxL ret hh ∈ ws) ∧
  (Cond.codeWith y bytes maxL ret hh).before args s = true ∧ (Cond.initialized y.cls).before args s = true ∧ (y.cls ≠ "java/lang/invoke/MethodHandle" ∧ y.cls ≠ "java/lang/invoke/VarHandle") ∧
  (∀ sig, parseMethodDescriptor y.desc = some sig → n = sig.parameters.length) ∧ (Cond.methodLink own index y).before args s = true ∧ (Cond.instanceMethod y).before args s = true ∧ (Cond.selects C y y).before args s = true
theorem vx_cwVW {own C : String} {index maxL mc ms : Nat} {y : MethodName} {bytes : ByteArray} {ret : Option FieldType} {hh : List (Nat × Nat × Nat × Nat)} {Ts ws ws' : List Cond} {rm : Room} (n : Nat) (ht : ∀ w ∈ Ts, w.before args s = true) (hT : GoodIn Ts (wsV own index C y ws)) (hw : ws = Cond.codeWith y bytes maxL ret hh :: ws') (hrc : rm.cells = mc) (hrs : rm.slots = ms)
    (hd : y.cls = C ∧ y.cls ≠ "java/lang/invoke/MethodHandle" ∧ y.cls ≠ "java/lang/invoke/VarHandle" ∧ (parseMethodDescriptor y.desc).map (fun d => d.parameters.length) = some n) (hR : rm.frames + 1 ≤ R.frames ∧ 8 + (maxL + 11) + rm.locals ≤ R.locals) :
    vx_CVW R s args own C index y bytes maxL ret hh ws rm mc ms n := by
  obtain ⟨hC, hd⟩ := hd
  subst hC
  have ok : ∀ w ∈ wsV own index y.cls y ws, w.before args s = true := fun w h => ht w (hT w h).1
  have hG : GoodIn Ts ws := fun w h => hT w (by unfold wsV; exact List.mem_append_right _ h)
  have hc : Cond.codeWith y bytes maxL ret hh ∈ ws := by rw [hw]; exact List.mem_cons_self
  refine ⟨⟨hrc, hrs, hR.1, hR.2, pay_in ht hG, hc⟩, ht _ (hG _ hc).1, ok _ (by simp [wsV]), ⟨hd.1, hd.2.1⟩, fun sig h => ?_, ok _ (by simp [wsV]), ok _ (by simp [wsV]), ok _ (by simp [wsV])⟩
  have h2 := hd.2.2
  rw [h] at h2
  exact (Option.some.inj h2).symm
theorem vx_runVW {y : MethodName} {bytes cc : ByteArray} {maxL nL mc ms n index : Nat} {ret : Option FieldType} {hh : List (Nat × Nat × Nat × Nat)} {ws : List Cond} {rm : Room} {Pc : Array Value → State → Prop} {Qc : Array Value → State → Outcome → State → Prop} {free : Addr → Prop} {Ts : List Cond} {own C : String} {b : Addr} {As rest : List Value} {g : JFrame}
    (S : CallFix p m c cc nL s args Ts own) (hM : Met l y ws rm Pc Qc mc ms free) (cw : vx_CVW R s args own C index y bytes maxL ret hh ws rm mc ms n) (hp : PreV s H C b Pc As)
    (hg : g.method = m) (hn : As.length = n) (hsize : g.locals.size = nL) (hstack : g.stack = As.reverse ++ .ref b :: rest) (hW : 2 * g.monitorRoom + (rest.map fun v => v.category).sum ≤ 8) (hdg : decode cc g.pc = .ok (.invokevirtual index, 3)) (hf : cells + mc ≤ R.cells ∧ slots + ms ≤ R.slots) :
    va_Run p l e R s m args below meth c H locs cells slots mc ms g rest (Qc (Value.ref b :: As).toArray) free := by
  obtain ⟨⟨hrc, hrs, hfr, hlo, hws, hcw⟩, hcode, hini, hy, hlen, hl, hin, hse⟩ := cw
  have hK : Back l R p e below s args y 3 8 (PreOf R mc ms Pc) (PostOf Qc mc ms free) := va_backW (hh := hh) (bytes := bytes) (maxL := maxL) (ret := ret) hM hp.1 hrc hrs hfr hlo hws hcw (fun a' U hW => word_at hW (Or.inl (by first | rfl | simp [Cond.onTables, Cond.keeps, Cond.steady])) hini)
  obtain ⟨hx, hb, hml, ho, -⟩ := S
  obtain ⟨-, ⟨cellB, hcB, hoB, hclB⟩, hPc⟩ := hp
  intro T hT X
  obtain ⟨v, vm₁, ⟨U', l2, c2, s2⟩, hW₁, X', ⟨g', mk, t, L, e1, e2, hq, h1, hL, h2, h3⟩, st⟩ := vx_callVW X hx (C := C) (hh := hh) (bytes := bytes) (maxL := maxL) (ret := ret) ho hl hin hse hcode hy hK (by rw [hT]; exact hcB) hoB hclB hg (hsize.trans hml.symm) (argsL := As) (rest := rest) (fun sig h => hn.trans (hlen sig h)) hstack hW (by rw [hb]; exact hdg)
    (fun vm₁ hW₁ => ⟨hf.1, hf.2, hPc (T.setVm vm₁) hT hW₁⟩)
  dsimp only [Pt.U, Pt.locs, Pt.cells, Pt.slots] at X' e1 e2 h1 h2 h3 st
  subst h1; subst h2; subst h3
  exact ⟨v, (T.setVm vm₁).calling g' mk (Value.ref b :: As).toArray, t, U', L, hT, X', hL, e1, e2, hq, st⟩
section
variable {y : MethodName} {bytes cc : ByteArray} {maxL nL mc ms n index : Nat} {ret : Option FieldType} {ws : List Cond} {rm : Room} {Pc : Array Value → State → Prop} {Qc : Array Value → State → Outcome → State → Prop} {XC : String → State → State → Prop} {free : Addr → Prop} {Ts : List Cond} {own C : String} {b : Addr} {As rest : List Value} {g : JFrame}
theorem vx_runVX {hh : List (Nat × Nat × Nat × Nat)} (S : CallFix p m c cc nL s args Ts own) (hM : vx_Met l y ws rm Pc Qc XC mc ms free) (cw : vx_CVW R s args own C index y bytes maxL ret hh ws rm mc ms n) (hp : PreV s H C b Pc As)
    (hg : g.method = m) (hn : As.length = n) (hsize : g.locals.size = nL) (hstack : g.stack = As.reverse ++ .ref b :: rest) (hW : 2 * g.monitorRoom + (rest.map fun v => v.category).sum ≤ 8) (hdg : decode cc g.pc = .ok (.invokevirtual index, 3)) (hf : cells + mc ≤ R.cells ∧ slots + ms ≤ R.slots) :
    vx_Run p l e R s m args below meth c H locs cells slots mc ms g rest (Qc (Value.ref b :: As).toArray) XC free := by
  obtain ⟨⟨hrc, hrs, hfr, hlo, hws, hcw⟩, hcode, hini, hy, hlen, hl, hin, hse⟩ := cw
  have hK : vx_Back l R p e below s args y 3 8 (PreOf R mc ms Pc) (PostOf Qc mc ms free) (vx_Post XC mc ms free) := vx_backW (hh := hh) (bytes := bytes) (maxL := maxL) (ret := ret) hM hp.1 hrc hrs hfr hlo hws hcw (fun a' U hW => word_at hW (Or.inl (by first | rfl | simp [Cond.onTables, Cond.keeps, Cond.steady])) hini)
  obtain ⟨hx, hb, hml, ho, -⟩ := S
  obtain ⟨-, ⟨cellB, hcB, hoB, hclB⟩, hPc⟩ := hp
  intro T hT X
  rcases vx_callVX X hx (C := C) (hh := hh) (bytes := bytes) (maxL := maxL) (ret := ret) ho hl hin hse hcode hy hK (by rw [hT]; exact hcB) hoB hclB hg (hsize.trans hml.symm) (argsL := As) (rest := rest) (fun sig h => hn.trans (hlen sig h)) hstack hW (by rw [hb]; exact hdg)
    (fun vm₁ hW₁ => ⟨hf.1, hf.2, hPc (T.setVm vm₁) hT hW₁⟩) with ⟨v, vm₁, ⟨U', l2, c2, s2⟩, hW₁, X', ⟨g', mk, t, L, e1, e2, hq, h1, hL, h2, h3⟩, st⟩ | ⟨q, vm₁, ⟨U', l2, c2, s2⟩, hW₁, X', ⟨g', mk, t, L, E, ce, e1, e2, hq, hce, hcv, hcl, h1, hL, h2, h3⟩, st⟩
  · dsimp only [Pt.U, Pt.locs, Pt.cells, Pt.slots] at X' e1 e2 h1 h2 h3 st
    subst h1; subst h2; subst h3
    exact Or.inl ⟨v, (T.setVm vm₁).calling g' mk (Value.ref b :: As).toArray, t, U', L, hT, X', hL, e1, e2, hq, st⟩
  · dsimp only [Pt.U, Pt.locs, Pt.cells, Pt.slots] at X' e1 e2 h1 h2 h3 st hcl
    subst h1; subst h2; subst h3
    exact Or.inr ⟨q, (T.setVm vm₁).calling g' mk (Value.ref b :: As).toArray, t, U', L, E, ce, hT, X', hL, e1, e2, hq, hce, hcv, vx_cls hW₁ hcl, st⟩
theorem vx_runSX {hh : List (Nat × Nat × Nat × Nat)} (S : CallFix p m c cc nL s args Ts own) (hM : vx_Met l y ws rm Pc Qc XC mc ms free) (cw : vx_CSW R s args own index y bytes maxL ret hh ws rm mc ms n) (hp : PreS s H Pc As)
    (hg : g.method = m) (hn : As.length = n) (hsize : g.locals.size = nL) (hstack : g.stack = As.reverse ++ rest) (hW : 2 * g.monitorRoom + (rest.map fun v => v.category).sum ≤ 8) (hdg : decode cc g.pc = .ok (.invokestatic index, 3)) (hf : cells + mc ≤ R.cells ∧ slots + ms ≤ R.slots) :
    vx_Run p l e R s m args below meth c H locs cells slots mc ms g rest (Qc As.toArray) XC free := by
  obtain ⟨⟨hrc, hrs, hfr, hlo, hws, hcw⟩, hcode, hini, hy, hlen, hl, hstt⟩ := cw
  have hK : vx_Back l R p e below s args y 3 8 (PreOf R mc ms Pc) (PostOf Qc mc ms free) (vx_Post XC mc ms free) := vx_backW (hh := hh) (bytes := bytes) (maxL := maxL) (ret := ret) hM hp.1 hrc hrs hfr hlo hws hcw (fun a' U hW => word_at hW (Or.inl (by first | rfl | simp [Cond.onTables, Cond.keeps, Cond.steady])) hini)
  obtain ⟨hx, hb, hml, ho, -⟩ := S
  intro T hT X
  rcases vx_callSX X hx (hh := hh) (bytes := bytes) (maxL := maxL) (ret := ret) ho hl hstt hini hcode hy hK hg (hsize.trans hml.symm) (argsL := As) (rest := rest) (fun sig h => hn.trans (hlen sig h)) hstack hW (by rw [hb]; exact hdg)
    (fun vm₁ hW₁ => ⟨hf.1, hf.2, hp.2 (T.setVm vm₁) hT hW₁⟩) with ⟨v, vm₁, ⟨U', l2, c2, s2⟩, hW₁, X', ⟨g', mk, t, L, e1, e2, hq, h1, hL, h2, h3⟩, st⟩ | ⟨q, vm₁, ⟨U', l2, c2, s2⟩, hW₁, X', ⟨g', mk, t, L, E, ce, e1, e2, hq, hce, hcv, hcl, h1, hL, h2, h3⟩, st⟩
  · dsimp only [Pt.U, Pt.locs, Pt.cells, Pt.slots] at X' e1 e2 h1 h2 h3 st
    subst h1; subst h2; subst h3
    exact Or.inl ⟨v, (T.setVm vm₁).calling g' mk As.toArray, t, U', L, hT, X', hL, e1, e2, hq, st⟩
  · dsimp only [Pt.U, Pt.locs, Pt.cells, Pt.slots] at X' e1 e2 h1 h2 h3 st hcl
    subst h1; subst h2; subst h3
    exact Or.inr ⟨q, (T.setVm vm₁).calling g' mk As.toArray, t, U', L, E, ce, hT, X', hL, e1, e2, hq, hce, hcv, vx_cls hW₁ hcl, st⟩
end
end VXH
theorem vx_ofWH {l : Launch} {y : MethodName} {ws ws' : List Cond} {rm : Room} {Pc : Array Value → State → Prop} {Qc : Array Value → State → Outcome → State → Prop} {XC : String → State → State → Prop} {mc ms : Nat} {free : Addr → Prop} {cc : ByteArray} {maxL : Nat} {ret : Option FieldType} {hh : List (Nat × Nat × Nat × Nat)}
    (hy : plainName y.cls = true) (hw : ws = Cond.codeWith y cc maxL ret hh :: ws')
    (body : ∀ p e s m args below meth c s₁, BodyLoose p l y (headSpec ws rm) cc maxL ret e s m args below meth c s₁ → c.maxLocals = maxL → Pc args s →
      W p l e (headSpec ws rm).room s m args below meth c s.heap [] 0 0 (vx_MQ below Qc XC args s mc ms free) (entryFrame m args maxL)) : vx_Met l y ws rm Pc Qc XC mc ms free := by
  refine MetFree.of_bodyS (code := cc) (maxLocals := maxL) (ret := ret) hy ?_ ?_
  · intro args s m h hn
    obtain ⟨m9, meth, c, hn9, h1, h2, h3, h4, -, h5, h6, -⟩ := Cond.codeWith_spec (atoms_spec (ws := ws) h _ (by rw [hw]; exact List.mem_cons_self))
    cases hn.symm.trans hn9
    exact ⟨meth, c, h1, h2, h3, h4, h5, h6⟩
  · intro p e s m args below meth c s₁ B hml hP _
    have hh0 : s₁.heap = s.heap := by rw [B.state]; rfl
    obtain ⟨t, a1, o, b1, b2, b3⟩ := body p e s m args below meth c s₁ B hml hP s₁ hh0 (Stand.of_body B)
    exact ⟨t, o, a1, b1, b2, b3⟩
/-! ===== END ===== -/
end
section
/-! ===== BEGIN printed: names, fields, word lists, decode rows ===== -/
def RX0 : String := "WideCounts$Divider"
def TX0 : u_T := fun k => match k with
  | 0 => ("WideCounts$Divider", "rest", "[I", true)
  | _ => ("WideCounts$Divider", "divisor", "[I", true)
def tyX0 : Nat → FieldType := fun k => match k with
  | 0 => .array .int
  | _ => .array .int
abbrev wsX00 : List Cond := u_ws RX0 TX0 2
theorem nmX0 : ∀ a, a < 2 → ∀ b, b < 2 → a ≠ b → (TX0 a).2.1 ≠ (TX0 b).2.1 := by decide +kernel
theorem tyX0_ok : ∀ k, k < 2 → parseFieldDescriptor (TX0 k).2.2.1 = some (tyX0 k) := by decide +kernel
abbrev cX0_init : ByteArray := prog_2_method_1_code
def yX0_init : MethodName := ⟨RX0, "<init>", "()V"⟩
abbrev cX0_divide : ByteArray := prog_2_method_2_code
def yX0_divide : MethodName := ⟨RX0, "divide", "(LWideCounts$Whole;LWideCounts$Whole;LWideCounts$Whole;)V"⟩
abbrev cX0_shiftInto : ByteArray := prog_2_method_3_code
def yX0_shiftInto : MethodName := ⟨RX0, "shiftInto", "([ILWideCounts$Whole;I)V"⟩
abbrev cX0_nextLimb : ByteArray := prog_2_method_4_code
def yX0_nextLimb : MethodName := ⟨RX0, "nextLimb", "(II)I"⟩
abbrev cX0_guessLimb : ByteArray := prog_2_method_5_code
def yX0_guessLimb : MethodName := ⟨RX0, "guessLimb", "(II)J"⟩
abbrev cX0_takeAway : ByteArray := prog_2_method_6_code
def yX0_takeAway : MethodName := ⟨RX0, "takeAway", "(IIJ)Z"⟩
abbrev cX0_giveBack : ByteArray := prog_2_method_7_code
def yX0_giveBack : MethodName := ⟨RX0, "giveBack", "(II)V"⟩
def RX1 : String := "WideCounts$Elimination"
def TX1 : u_T := fun k => match k with
  | 0 => ("WideCounts$Elimination", "cells", "[LWideCounts$Whole;", true)
  | 1 => ("WideCounts$Elimination", "first", "LWideCounts$Whole;", true)
  | 2 => ("WideCounts$Elimination", "second", "LWideCounts$Whole;", true)
  | _ => ("WideCounts$Elimination", "divider", "LWideCounts$Divider;", true)
def tyX1 : Nat → FieldType := fun k => match k with
  | 0 => .array (.object "WideCounts$Whole")
  | 1 => .object "WideCounts$Whole"
  | 2 => .object "WideCounts$Whole"
  | _ => .object "WideCounts$Divider"
abbrev wsX10 : List Cond := u_ws RX1 TX1 4
theorem nmX1 : ∀ a, a < 4 → ∀ b, b < 4 → a ≠ b → (TX1 a).2.1 ≠ (TX1 b).2.1 := by decide +kernel
theorem tyX1_ok : ∀ k, k < 4 → parseFieldDescriptor (TX1 k).2.2.1 = some (tyX1 k) := by decide +kernel
abbrev cX1_init : ByteArray := prog_3_method_1_code
def yX1_init : MethodName := ⟨RX1, "<init>", "(LWideCounts$Divider;)V"⟩
abbrev cX1_solve : ByteArray := prog_3_method_2_code
def yX1_solve : MethodName := ⟨RX1, "solve", "([[JILWideCounts$Whole;)V"⟩
abbrev cX1_cell : ByteArray := prog_3_method_3_code
def yX1_cell : MethodName := ⟨RX1, "cell", "(II)LWideCounts$Whole;"⟩
abbrev cX1_load : ByteArray := prog_3_method_4_code
def yX1_load : MethodName := ⟨RX1, "load", "([[JI)V"⟩
abbrev cX1_pivotRow : ByteArray := prog_3_method_5_code
def yX1_pivotRow : MethodName := ⟨RX1, "pivotRow", "(II)I"⟩
abbrev cX1_swapRows : ByteArray := prog_3_method_6_code
def yX1_swapRows : MethodName := ⟨RX1, "swapRows", "(III)V"⟩
abbrev cX1_clearBelow : ByteArray := prog_3_method_7_code
def yX1_clearBelow : MethodName := ⟨RX1, "clearBelow", "(II)V"⟩
abbrev cX1_reduce : ByteArray := prog_3_method_8_code
def yX1_reduce : MethodName := ⟨RX1, "reduce", "(III)V"⟩
def RX2 : String := "WideCounts$Whole"
def TX2 : u_T := fun k => match k with
  | 0 => ("WideCounts$Whole", "limbs", "[I", true)
  | 1 => ("WideCounts$Whole", "length", "I", false)
  | _ => ("WideCounts$Whole", "negative", "Z", false)
def tyX2 : Nat → FieldType := fun k => match k with
  | 0 => .array .int
  | 1 => .int
  | _ => .boolean
abbrev wsX20 : List Cond := u_ws RX2 TX2 3
theorem nmX2 : ∀ a, a < 3 → ∀ b, b < 3 → a ≠ b → (TX2 a).2.1 ≠ (TX2 b).2.1 := by decide +kernel
theorem tyX2_ok : ∀ k, k < 3 → parseFieldDescriptor (TX2 k).2.2.1 = some (tyX2 k) := by decide +kernel
abbrev cX2_init : ByteArray := prog_4_method_1_code
def yX2_init : MethodName := ⟨RX2, "<init>", "(I)V"⟩
abbrev cX2_isZero : ByteArray := prog_4_method_2_code
def yX2_isZero : MethodName := ⟨RX2, "isZero", "()Z"⟩
abbrev cX2_fits : ByteArray := prog_4_method_3_code
def yX2_fits : MethodName := ⟨RX2, "fits", "()Z"⟩
abbrev cX2_limbAt : ByteArray := prog_4_method_4_code
def yX2_limbAt : MethodName := ⟨RX2, "limbAt", "(I)I"⟩
abbrev cX2_finish : ByteArray := prog_4_method_5_code
def yX2_finish : MethodName := ⟨RX2, "finish", "(IZ)V"⟩
abbrev cX2_setLong : ByteArray := prog_4_method_6_code
def yX2_setLong : MethodName := ⟨RX2, "setLong", "(J)V"⟩
abbrev cX2_copyFrom : ByteArray := prog_4_method_7_code
def yX2_copyFrom : MethodName := ⟨RX2, "copyFrom", "(LWideCounts$Whole;)V"⟩
abbrev cX2_negate : ByteArray := prog_4_method_8_code
def yX2_negate : MethodName := ⟨RX2, "negate", "()V"⟩
abbrev cX2_compareAmount : ByteArray := prog_4_method_9_code
def yX2_compareAmount : MethodName := ⟨RX2, "compareAmount", "(LWideCounts$Whole;)I"⟩
abbrev cX2_setSum : ByteArray := prog_4_method_10_code
def yX2_setSum : MethodName := ⟨RX2, "setSum", "(LWideCounts$Whole;LWideCounts$Whole;Z)V"⟩
abbrev cX2_setAmounts : ByteArray := prog_4_method_11_code
def yX2_setAmounts : MethodName := ⟨RX2, "setAmounts", "(LWideCounts$Whole;LWideCounts$Whole;IZ)V"⟩
abbrev cX2_setProduct : ByteArray := prog_4_method_12_code
def yX2_setProduct : MethodName := ⟨RX2, "setProduct", "(LWideCounts$Whole;LWideCounts$Whole;)Z"⟩
abbrev cX2_multiplyBy : ByteArray := prog_4_method_13_code
def yX2_multiplyBy : MethodName := ⟨RX2, "multiplyBy", "(I)V"⟩
abbrev cX2_divideBy : ByteArray := prog_4_method_14_code
def yX2_divideBy : MethodName := ⟨RX2, "divideBy", "(I)I"⟩
abbrev cX2_dropDigits : ByteArray := prog_4_method_15_code
def yX2_dropDigits : MethodName := ⟨RX2, "dropDigits", "(I)V"⟩
abbrev cX2_restBelowZero : ByteArray := prog_4_method_16_code
def yX2_restBelowZero : MethodName := ⟨RX2, "restBelowZero", "(J)J"⟩
def RX3 : String := "WideCounts"
def TX3 : u_T := fun k => match k with
  | 0 => ("WideCounts", "numbers", "[LWideCounts$Whole;", true)
  | 1 => ("WideCounts", "count", "I", false)
  | 2 => ("WideCounts", "table", "[[J", true)
  | 3 => ("WideCounts", "result", "LWideCounts$Whole;", true)
  | 4 => ("WideCounts", "spare", "LWideCounts$Whole;", true)
  | 5 => ("WideCounts", "divider", "LWideCounts$Divider;", true)
  | _ => ("WideCounts", "elimination", "LWideCounts$Elimination;", false)
def tyX3 : Nat → FieldType := fun k => match k with
  | 0 => .array (.object "WideCounts$Whole")
  | 1 => .int
  | 2 => .array (.array .long)
  | 3 => .object "WideCounts$Whole"
  | 4 => .object "WideCounts$Whole"
  | 5 => .object "WideCounts$Divider"
  | _ => .object "WideCounts$Elimination"
abbrev wsX30 : List Cond := u_ws RX3 TX3 7
theorem nmX3 : ∀ a, a < 7 → ∀ b, b < 7 → a ≠ b → (TX3 a).2.1 ≠ (TX3 b).2.1 := by decide +kernel
theorem tyX3_ok : ∀ k, k < 7 → parseFieldDescriptor (TX3 k).2.2.1 = some (tyX3 k) := by decide +kernel
abbrev cX3_init : ByteArray := prog_1_method_1_code
def yX3_init : MethodName := ⟨RX3, "<init>", "()V"⟩
abbrev cX3_value : ByteArray := prog_1_method_2_code
def yX3_value : MethodName := ⟨RX3, "value", "(J)I"⟩
abbrev cX3_add : ByteArray := prog_1_method_3_code
def yX3_add : MethodName := ⟨RX3, "add", "(II)I"⟩
abbrev cX3_times : ByteArray := prog_1_method_4_code
def yX3_times : MethodName := ⟨RX3, "times", "(II)I"⟩
abbrev cX3_over : ByteArray := prog_1_method_5_code
def yX3_over : MethodName := ⟨RX3, "over", "(II)I"⟩
abbrev cX3_power : ByteArray := prog_1_method_6_code
def yX3_power : MethodName := ⟨RX3, "power", "(II)I"⟩
abbrev cX3_binomial : ByteArray := prog_1_method_7_code
def yX3_binomial : MethodName := ⟨RX3, "binomial", "(II)I"⟩
abbrev cX3_factorial : ByteArray := prog_1_method_8_code
def yX3_factorial : MethodName := ⟨RX3, "factorial", "(I)I"⟩
abbrev cX3_order : ByteArray := prog_1_method_9_code
def yX3_order : MethodName := ⟨RX3, "order", "(II)I"⟩
abbrev cX3_digit : ByteArray := prog_1_method_10_code
def yX3_digit : MethodName := ⟨RX3, "digit", "(II)I"⟩
abbrev cX3_entry : ByteArray := prog_1_method_11_code
def yX3_entry : MethodName := ⟨RX3, "entry", "(IIJ)Z"⟩
abbrev cX3_determinant : ByteArray := prog_1_method_12_code
def yX3_determinant : MethodName := ⟨RX3, "determinant", "(I)I"⟩
abbrev cX3_residue : ByteArray := prog_1_method_13_code
def yX3_residue : MethodName := ⟨RX3, "residue", "(IJ)J"⟩
abbrev cX3_kept : ByteArray := prog_1_method_14_code
def yX3_kept : MethodName := ⟨RX3, "kept", "()I"⟩
abbrev cX3_isFull : ByteArray := prog_1_method_15_code
def yX3_isFull : MethodName := ⟨RX3, "isFull", "()Z"⟩
abbrev cX3_known : ByteArray := prog_1_method_16_code
def yX3_known : MethodName := ⟨RX3, "known", "(I)LWideCounts$Whole;"⟩
abbrev cX3_keep : ByteArray := prog_1_method_17_code
def yX3_keep : MethodName := ⟨RX3, "keep", "(LWideCounts$Whole;)I"⟩
abbrev cX3_highestBit : ByteArray := prog_1_method_18_code
def yX3_highestBit : MethodName := ⟨RX3, "highestBit", "(I)I"⟩
def RX4 : String := "WideCountsModel"
def TX4 : u_T := fun k => match k with
  | 0 => ("WideCountsModel", "thrown", "I", false)
  | 1 => ("WideCountsModel", "kept", "I", false)
  | 2 => ("WideCountsModel", "limbs", "[I", true)
  | 3 => ("WideCountsModel", "sizes", "[I", true)
  | 4 => ("WideCountsModel", "below", "[Z", true)
  | 5 => ("WideCountsModel", "table", "[J", true)
  | 6 => ("WideCountsModel", "work", "[I", true)
  | 7 => ("WideCountsModel", "workSize", "I", false)
  | 8 => ("WideCountsModel", "other", "[I", true)
  | 9 => ("WideCountsModel", "otherSize", "I", false)
  | 10 => ("WideCountsModel", "rest", "[I", true)
  | 11 => ("WideCountsModel", "minors", "[I", true)
  | 12 => ("WideCountsModel", "minorBelow", "[Z", true)
  | 13 => ("WideCountsModel", "up", "[I", true)
  | 14 => ("WideCountsModel", "plus", "[I", true)
  | _ => ("WideCountsModel", "minus", "[I", true)
def tyX4 : Nat → FieldType := fun k => match k with
  | 0 => .int
  | 1 => .int
  | 2 => .array .int
  | 3 => .array .int
  | 4 => .array .boolean
  | 5 => .array .long
  | 6 => .array .int
  | 7 => .int
  | 8 => .array .int
  | 9 => .int
  | 10 => .array .int
  | 11 => .array .int
  | 12 => .array .boolean
  | 13 => .array .int
  | 14 => .array .int
  | _ => .array .int
abbrev wsX40 : List Cond := u_ws RX4 TX4 16
theorem nmX4 : ∀ a, a < 16 → ∀ b, b < 16 → a ≠ b → (TX4 a).2.1 ≠ (TX4 b).2.1 := by decide +kernel
theorem tyX4_ok : ∀ k, k < 16 → parseFieldDescriptor (TX4 k).2.2.1 = some (tyX4 k) := by decide +kernel
abbrev cX4_init : ByteArray := prog_6_method_1_code
def yX4_init : MethodName := ⟨RX4, "<init>", "()V"⟩
abbrev cX4_thrown : ByteArray := prog_6_method_2_code
def yX4_thrown : MethodName := ⟨RX4, "thrown", "()I"⟩
abbrev cX4_isKnown : ByteArray := prog_6_method_3_code
def yX4_isKnown : MethodName := ⟨RX4, "isKnown", "(I)Z"⟩
abbrev cX4_areKnown : ByteArray := prog_6_method_4_code
def yX4_areKnown : MethodName := ⟨RX4, "areKnown", "(II)Z"⟩
abbrev cX4_sizeOf : ByteArray := prog_6_method_5_code
def yX4_sizeOf : MethodName := ⟨RX4, "sizeOf", "([II)I"⟩
abbrev cX4_clear : ByteArray := prog_6_method_6_code
def yX4_clear : MethodName := ⟨RX4, "clear", "([I)V"⟩
abbrev cX4_load : ByteArray := prog_6_method_7_code
def yX4_load : MethodName := ⟨RX4, "load", "(I)V"⟩
abbrev cX4_loadOther : ByteArray := prog_6_method_8_code
def yX4_loadOther : MethodName := ⟨RX4, "loadOther", "(I)V"⟩
abbrev cX4_loadLong : ByteArray := prog_6_method_9_code
def yX4_loadLong : MethodName := ⟨RX4, "loadLong", "(J)V"⟩
abbrev cX4_isTooWide : ByteArray := prog_6_method_10_code
def yX4_isTooWide : MethodName := ⟨RX4, "isTooWide", "()Z"⟩
abbrev cX4_keep : ByteArray := prog_6_method_11_code
def yX4_keep : MethodName := ⟨RX4, "keep", "(Z)I"⟩
abbrev cX4_compare : ByteArray := prog_6_method_12_code
def yX4_compare : MethodName := ⟨RX4, "compare", "()I"⟩
abbrev cX4_grow : ByteArray := prog_6_method_13_code
def yX4_grow : MethodName := ⟨RX4, "grow", "()V"⟩
abbrev cX4_shrink : ByteArray := prog_6_method_14_code
def yX4_shrink : MethodName := ⟨RX4, "shrink", "(Z)V"⟩
abbrev cX4_multiply : ByteArray := prog_6_method_15_code
def yX4_multiply : MethodName := ⟨RX4, "multiply", "()V"⟩
abbrev cX4_multiplyBy : ByteArray := prog_6_method_16_code
def yX4_multiplyBy : MethodName := ⟨RX4, "multiplyBy", "(I)V"⟩
abbrev cX4_divideBy : ByteArray := prog_6_method_17_code
def yX4_divideBy : MethodName := ⟨RX4, "divideBy", "(I)I"⟩
abbrev cX4_divide : ByteArray := prog_6_method_18_code
def yX4_divide : MethodName := ⟨RX4, "divide", "()V"⟩
abbrev cX4_reaches : ByteArray := prog_6_method_19_code
def yX4_reaches : MethodName := ⟨RX4, "reaches", "()Z"⟩
abbrev cX4_value : ByteArray := prog_6_method_20_code
def yX4_value : MethodName := ⟨RX4, "value", "(J)I"⟩
abbrev cX4_add : ByteArray := prog_6_method_21_code
def yX4_add : MethodName := ⟨RX4, "add", "(II)I"⟩
abbrev cX4_times : ByteArray := prog_6_method_22_code
def yX4_times : MethodName := ⟨RX4, "times", "(II)I"⟩
abbrev cX4_over : ByteArray := prog_6_method_23_code
def yX4_over : MethodName := ⟨RX4, "over", "(II)I"⟩
abbrev cX4_power : ByteArray := prog_6_method_24_code
def yX4_power : MethodName := ⟨RX4, "power", "(II)I"⟩
abbrev cX4_binomial : ByteArray := prog_6_method_25_code
def yX4_binomial : MethodName := ⟨RX4, "binomial", "(II)I"⟩
abbrev cX4_factorial : ByteArray := prog_6_method_26_code
def yX4_factorial : MethodName := ⟨RX4, "factorial", "(I)I"⟩
abbrev cX4_order : ByteArray := prog_6_method_27_code
def yX4_order : MethodName := ⟨RX4, "order", "(II)I"⟩
abbrev cX4_digit : ByteArray := prog_6_method_28_code
def yX4_digit : MethodName := ⟨RX4, "digit", "(II)I"⟩
abbrev cX4_residue : ByteArray := prog_6_method_29_code
def yX4_residue : MethodName := ⟨RX4, "residue", "(IJ)J"⟩
abbrev cX4_kept : ByteArray := prog_6_method_30_code
def yX4_kept : MethodName := ⟨RX4, "kept", "()I"⟩
abbrev cX4_entry : ByteArray := prog_6_method_31_code
def yX4_entry : MethodName := ⟨RX4, "entry", "(IIJ)Z"⟩
abbrev cX4_bits : ByteArray := prog_6_method_32_code
def yX4_bits : MethodName := ⟨RX4, "bits", "(I)I"⟩
abbrev cX4_product : ByteArray := prog_6_method_33_code
def yX4_product : MethodName := ⟨RX4, "product", "(JI[I)V"⟩
abbrev cX4_addTo : ByteArray := prog_6_method_34_code
def yX4_addTo : MethodName := ⟨RX4, "addTo", "([I[I)V"⟩
abbrev cX4_minorOf : ByteArray := prog_6_method_35_code
def yX4_minorOf : MethodName := ⟨RX4, "minorOf", "(I)V"⟩
abbrev cX4_determinant : ByteArray := prog_6_method_36_code
def yX4_determinant : MethodName := ⟨RX4, "determinant", "(I)I"⟩
def RJx00060 : String := "java/lang/ArrayIndexOutOfBoundsException"
def TJx00060 : u_T := fun k => match k with
  | 0 => ("java/lang/Throwable", "backtrace", "Ljava/lang/Object;", false)
  | 1 => ("java/lang/Throwable", "detailMessage", "Ljava/lang/String;", false)
  | 2 => ("java/lang/Throwable", "cause", "Ljava/lang/Throwable;", false)
  | 3 => ("java/lang/Throwable", "stackTrace", "[Ljava/lang/StackTraceElement;", false)
  | 4 => ("java/lang/Throwable", "depth", "I", false)
  | _ => ("java/lang/Throwable", "suppressedExceptions", "Ljava/util/List;", false)
def tyJx00060 : Nat → FieldType := fun k => match k with
  | 0 => .object "java/lang/Object"
  | 1 => .object "java/lang/String"
  | 2 => .object "java/lang/Throwable"
  | 3 => .array (.object "java/lang/StackTraceElement")
  | 4 => .int
  | _ => .object "java/util/List"
abbrev wsJx000600 : List Cond := u_ws RJx00060 TJx00060 6
theorem nmJx00060 : ∀ a, a < 6 → ∀ b, b < 6 → a ≠ b → (TJx00060 a).2.1 ≠ (TJx00060 b).2.1 := by decide +kernel
theorem tyJx00060_ok : ∀ k, k < 6 → parseFieldDescriptor (TJx00060 k).2.2.1 = some (tyJx00060 k) := by decide +kernel
abbrev cJx00060_init_a7421 : ByteArray := prog_8_method_2_code
def yJx00060_init_a7421 : MethodName := ⟨RJx00060, "<init>", "(Ljava/lang/String;)V"⟩
def RJ6 : String := "java/lang/Integer"
def TJ6 : u_T := fun k => match k with
  | _ => ("", "", "", false)
def tyJ6 : Nat → FieldType := fun k => match k with
  | _ => .int
abbrev wsJ60 : List Cond := u_ws RJ6 TJ6 0
theorem nmJ6 : ∀ a, a < 0 → ∀ b, b < 0 → a ≠ b → (TJ6 a).2.1 ≠ (TJ6 b).2.1 := by decide +kernel
theorem tyJ6_ok : ∀ k, k < 0 → parseFieldDescriptor (TJ6 k).2.2.1 = some (tyJ6 k) := by decide +kernel
abbrev cJ6_numberOfLeadingZeros_0f7a4 : ByteArray := prog_11_method_47_code
def yJ6_numberOfLeadingZeros_0f7a4 : MethodName := ⟨RJ6, "numberOfLeadingZeros", "(I)I"⟩
def RJ9 : String := "java/lang/Math"
def TJ9 : u_T := fun k => match k with
  | _ => ("", "", "", false)
def tyJ9 : Nat → FieldType := fun k => match k with
  | _ => .int
abbrev wsJ90 : List Cond := u_ws RJ9 TJ9 0
theorem nmJ9 : ∀ a, a < 0 → ∀ b, b < 0 → a ≠ b → (TJ9 a).2.1 ≠ (TJ9 b).2.1 := by decide +kernel
theorem tyJ9_ok : ∀ k, k < 0 → parseFieldDescriptor (TJ9 k).2.2.1 = some (tyJ9 k) := by decide +kernel
abbrev cJ9_max_7cf53 : ByteArray := prog_12_method_65_code
def yJ9_max_7cf53 : MethodName := ⟨RJ9, "max", "(II)I"⟩
abbrev cJ9_min_7cf53 : ByteArray := prog_12_method_69_code
def yJ9_min_7cf53 : MethodName := ⟨RJ9, "min", "(II)I"⟩
def RJ0 : String := "java/lang/String"
def TJ0 : u_T := fun k => match k with
  | 0 => ("java/lang/String", "value", "[B", true)
  | _ => ("java/lang/String", "coder", "B", true)
def tyJ0 : Nat → FieldType := fun k => match k with
  | 0 => .array .byte
  | _ => .byte
abbrev wsJ00 : List Cond := u_ws RJ0 TJ0 2
theorem nmJ0 : ∀ a, a < 2 → ∀ b, b < 2 → a ≠ b → (TJ0 a).2.1 ≠ (TJ0 b).2.1 := by decide +kernel
theorem tyJ0_ok : ∀ k, k < 2 → parseFieldDescriptor (TJ0 k).2.2.1 = some (tyJ0 k) := by decide +kernel
def RL : String := "WideCountsLaw"
abbrev cL_add : ByteArray := method_3_code
def yL_add : MethodName := ⟨RL, "add", "(LWideCounts;II[J)I"⟩
abbrev cL_times : ByteArray := method_4_code
def yL_times : MethodName := ⟨RL, "times", "(LWideCounts;II[J)I"⟩
abbrev cL_over : ByteArray := method_5_code
def yL_over : MethodName := ⟨RL, "over", "(LWideCounts;II[J)I"⟩
abbrev cL_power : ByteArray := method_6_code
def yL_power : MethodName := ⟨RL, "power", "(LWideCounts;II[J)I"⟩
abbrev cL_order : ByteArray := method_7_code
def yL_order : MethodName := ⟨RL, "order", "(LWideCounts;II[J)I"⟩
abbrev cL_digit : ByteArray := method_8_code
def yL_digit : MethodName := ⟨RL, "digit", "(LWideCounts;II[J)I"⟩
abbrev cL_residue : ByteArray := method_9_code
def yL_residue : MethodName := ⟨RL, "residue", "(LWideCounts;IJ[J)I"⟩
abbrev cL_law : ByteArray := code
def yL_law : MethodName := ⟨RL, "law", "([I)Z"⟩
abbrev vwCl : List vw_C := [(RJ0, TJ0, 2), (RJx00060, TJx00060, 6), (RX0, TX0, 2), (RX1, TX1, 4), (RX2, TX2, 3), (RX3, TX3, 7), (RX4, TX4, 16)]
end
section
/-! the words of the tables that every method may have, and each by its place -/
def hm_ws : List Cond := lw_tbl.filter goodWord
theorem kw_0 : Cond.selects RX3 yX3_isFull yX3_isFull ∈ hm_ws := List.mem_filter.mpr ⟨List.mem_of_getElem? (i := 0) rfl, rfl⟩
theorem kw_1 : Cond.selects RX2 yX2_finish yX2_finish ∈ hm_ws := List.mem_filter.mpr ⟨List.mem_of_getElem? (i := 1) rfl, rfl⟩
theorem kw_2 : Cond.selects RX3 yX3_keep yX3_keep ∈ hm_ws := List.mem_filter.mpr ⟨List.mem_of_getElem? (i := 2) rfl, rfl⟩
theorem kw_3 : Cond.selects RX2 yX2_limbAt yX2_limbAt ∈ hm_ws := List.mem_filter.mpr ⟨List.mem_of_getElem? (i := 3) rfl, rfl⟩
theorem kw_4 : Cond.selects RX1 yX1_load yX1_load ∈ hm_ws := List.mem_filter.mpr ⟨List.mem_of_getElem? (i := 4) rfl, rfl⟩
theorem kw_5 : Cond.selects RX1 yX1_cell yX1_cell ∈ hm_ws := List.mem_filter.mpr ⟨List.mem_of_getElem? (i := 5) rfl, rfl⟩
theorem kw_6 : Cond.selects RX1 yX1_pivotRow yX1_pivotRow ∈ hm_ws := List.mem_filter.mpr ⟨List.mem_of_getElem? (i := 6) rfl, rfl⟩
theorem kw_7 : Cond.selects RX1 yX1_swapRows yX1_swapRows ∈ hm_ws := List.mem_filter.mpr ⟨List.mem_of_getElem? (i := 7) rfl, rfl⟩
theorem kw_8 : Cond.selects RX1 yX1_clearBelow yX1_clearBelow ∈ hm_ws := List.mem_filter.mpr ⟨List.mem_of_getElem? (i := 8) rfl, rfl⟩
theorem kw_9 : Cond.selects RX1 yX1_reduce yX1_reduce ∈ hm_ws := List.mem_filter.mpr ⟨List.mem_of_getElem? (i := 9) rfl, rfl⟩
theorem kw_10 : Cond.selects RX2 yX2_setAmounts yX2_setAmounts ∈ hm_ws := List.mem_filter.mpr ⟨List.mem_of_getElem? (i := 10) rfl, rfl⟩
theorem kw_11 : Cond.selects RX0 yX0_nextLimb yX0_nextLimb ∈ hm_ws := List.mem_filter.mpr ⟨List.mem_of_getElem? (i := 11) rfl, rfl⟩
theorem kw_12 : Cond.selects RX0 yX0_guessLimb yX0_guessLimb ∈ hm_ws := List.mem_filter.mpr ⟨List.mem_of_getElem? (i := 12) rfl, rfl⟩
theorem kw_13 : Cond.selects RX0 yX0_takeAway yX0_takeAway ∈ hm_ws := List.mem_filter.mpr ⟨List.mem_of_getElem? (i := 13) rfl, rfl⟩
theorem kw_14 : Cond.selects RX0 yX0_giveBack yX0_giveBack ∈ hm_ws := List.mem_filter.mpr ⟨List.mem_of_getElem? (i := 14) rfl, rfl⟩
theorem kw_16 : Cond.selects RX3 yX3_known yX3_known ∈ hm_ws := List.mem_filter.mpr ⟨List.mem_of_getElem? (i := 16) rfl, rfl⟩
theorem kw_17 : Cond.selects RX4 yX4_loadLong yX4_loadLong ∈ hm_ws := List.mem_filter.mpr ⟨List.mem_of_getElem? (i := 17) rfl, rfl⟩
theorem kw_18 : Cond.selects RX4 yX4_clear yX4_clear ∈ hm_ws := List.mem_filter.mpr ⟨List.mem_of_getElem? (i := 18) rfl, rfl⟩
theorem kw_19 : Cond.selects RX4 yX4_keep yX4_keep ∈ hm_ws := List.mem_filter.mpr ⟨List.mem_of_getElem? (i := 19) rfl, rfl⟩
theorem kw_20 : Cond.selects RX4 yX4_isTooWide yX4_isTooWide ∈ hm_ws := List.mem_filter.mpr ⟨List.mem_of_getElem? (i := 20) rfl, rfl⟩
theorem kw_21 : Cond.selects RX4 yX4_areKnown yX4_areKnown ∈ hm_ws := List.mem_filter.mpr ⟨List.mem_of_getElem? (i := 21) rfl, rfl⟩
theorem kw_22 : Cond.selects RX4 yX4_isKnown yX4_isKnown ∈ hm_ws := List.mem_filter.mpr ⟨List.mem_of_getElem? (i := 22) rfl, rfl⟩
theorem kw_23 : Cond.selects RX4 yX4_load yX4_load ∈ hm_ws := List.mem_filter.mpr ⟨List.mem_of_getElem? (i := 23) rfl, rfl⟩
theorem kw_24 : Cond.selects RX4 yX4_loadOther yX4_loadOther ∈ hm_ws := List.mem_filter.mpr ⟨List.mem_of_getElem? (i := 24) rfl, rfl⟩
theorem kw_25 : Cond.selects RX4 yX4_grow yX4_grow ∈ hm_ws := List.mem_filter.mpr ⟨List.mem_of_getElem? (i := 25) rfl, rfl⟩
theorem kw_26 : Cond.selects RX4 yX4_compare yX4_compare ∈ hm_ws := List.mem_filter.mpr ⟨List.mem_of_getElem? (i := 26) rfl, rfl⟩
theorem kw_27 : Cond.selects RX4 yX4_shrink yX4_shrink ∈ hm_ws := List.mem_filter.mpr ⟨List.mem_of_getElem? (i := 27) rfl, rfl⟩
theorem kw_28 : Cond.selects RX4 yX4_multiply yX4_multiply ∈ hm_ws := List.mem_filter.mpr ⟨List.mem_of_getElem? (i := 28) rfl, rfl⟩
theorem kw_29 : Cond.selects RX4 yX4_divide yX4_divide ∈ hm_ws := List.mem_filter.mpr ⟨List.mem_of_getElem? (i := 29) rfl, rfl⟩
theorem kw_30 : Cond.selects RX4 yX4_reaches yX4_reaches ∈ hm_ws := List.mem_filter.mpr ⟨List.mem_of_getElem? (i := 30) rfl, rfl⟩
theorem kw_31 : Cond.selects RX4 yX4_multiplyBy yX4_multiplyBy ∈ hm_ws := List.mem_filter.mpr ⟨List.mem_of_getElem? (i := 31) rfl, rfl⟩
theorem kw_32 : Cond.selects RX4 yX4_divideBy yX4_divideBy ∈ hm_ws := List.mem_filter.mpr ⟨List.mem_of_getElem? (i := 32) rfl, rfl⟩
theorem kw_33 : Cond.selects RX4 yX4_minorOf yX4_minorOf ∈ hm_ws := List.mem_filter.mpr ⟨List.mem_of_getElem? (i := 33) rfl, rfl⟩
theorem kw_34 : Cond.selects RX4 yX4_product yX4_product ∈ hm_ws := List.mem_filter.mpr ⟨List.mem_of_getElem? (i := 34) rfl, rfl⟩
theorem kw_35 : Cond.selects RX4 yX4_addTo yX4_addTo ∈ hm_ws := List.mem_filter.mpr ⟨List.mem_of_getElem? (i := 35) rfl, rfl⟩
theorem kw_36 : Cond.initialized RL ∈ hm_ws := List.mem_filter.mpr ⟨List.mem_of_getElem? (i := 36) rfl, rfl⟩
theorem kw_37 : Cond.initialized RX3 ∈ hm_ws := List.mem_filter.mpr ⟨List.mem_of_getElem? (i := 37) rfl, rfl⟩
theorem kw_38 : Cond.initialized RX2 ∈ hm_ws := List.mem_filter.mpr ⟨List.mem_of_getElem? (i := 38) rfl, rfl⟩
theorem kw_39 : Cond.initialized RJ9 ∈ hm_ws := List.mem_filter.mpr ⟨List.mem_of_getElem? (i := 39) rfl, rfl⟩
theorem kw_40 : Cond.initialized RX0 ∈ hm_ws := List.mem_filter.mpr ⟨List.mem_of_getElem? (i := 40) rfl, rfl⟩
theorem kw_41 : Cond.initialized RX4 ∈ hm_ws := List.mem_filter.mpr ⟨List.mem_of_getElem? (i := 41) rfl, rfl⟩
theorem kw_42 : Cond.initialized "java/lang/Throwable" ∈ hm_ws := List.mem_filter.mpr ⟨List.mem_of_getElem? (i := 42) rfl, rfl⟩
theorem kw_43 : Cond.initialized "java/lang/Exception" ∈ hm_ws := List.mem_filter.mpr ⟨List.mem_of_getElem? (i := 43) rfl, rfl⟩
theorem kw_44 : Cond.initialized "java/lang/RuntimeException" ∈ hm_ws := List.mem_filter.mpr ⟨List.mem_of_getElem? (i := 44) rfl, rfl⟩
theorem kw_45 : Cond.initialized "java/lang/IndexOutOfBoundsException" ∈ hm_ws := List.mem_filter.mpr ⟨List.mem_of_getElem? (i := 45) rfl, rfl⟩
theorem kw_46 : Cond.initialized RJx00060 ∈ hm_ws := List.mem_filter.mpr ⟨List.mem_of_getElem? (i := 46) rfl, rfl⟩
theorem kw_47 : Cond.initialized RJ0 ∈ hm_ws := List.mem_filter.mpr ⟨List.mem_of_getElem? (i := 47) rfl, rfl⟩
theorem kw_48 : Cond.initialized "java/lang/ArithmeticException" ∈ hm_ws := List.mem_filter.mpr ⟨List.mem_of_getElem? (i := 48) rfl, rfl⟩
theorem kw_49 : Cond.initialized RJ6 ∈ hm_ws := List.mem_filter.mpr ⟨List.mem_of_getElem? (i := 49) rfl, rfl⟩
theorem kw_50 : Cond.initialized RX1 ∈ hm_ws := List.mem_filter.mpr ⟨List.mem_of_getElem? (i := 50) rfl, rfl⟩
theorem kw_51 : Cond.classLink RL 8 RX3 ∈ hm_ws := List.mem_filter.mpr ⟨List.mem_of_getElem? (i := 51) rfl, rfl⟩
theorem kw_52 : Cond.instantiable RX3 7 ∈ hm_ws := List.mem_filter.mpr ⟨List.mem_of_getElem? (i := 52) rfl, rfl⟩
theorem kw_53 : Cond.methodLink RL 36 yX3_init ∈ hm_ws := List.mem_filter.mpr ⟨List.mem_of_getElem? (i := 53) rfl, rfl⟩
theorem kw_54 : Cond.instanceMethod yX3_init ∈ hm_ws := List.mem_filter.mpr ⟨List.mem_of_getElem? (i := 54) rfl, rfl⟩
theorem kw_55 : Cond.code yX3_init cX3_init 1 none ∈ hm_ws := List.mem_filter.mpr ⟨List.mem_of_getElem? (i := 55) rfl, rfl⟩
theorem kw_56 : Cond.methodLink RX3 3 objectInit ∈ hm_ws := List.mem_filter.mpr ⟨List.mem_of_getElem? (i := 56) rfl, rfl⟩
theorem kw_57 : Cond.instanceMethod objectInit ∈ hm_ws := List.mem_filter.mpr ⟨List.mem_of_getElem? (i := 57) rfl, rfl⟩
theorem kw_58 : Cond.code objectInit ⟨#[0xb1]⟩ 1 none ∈ hm_ws := List.mem_filter.mpr ⟨List.mem_of_getElem? (i := 58) rfl, rfl⟩
theorem kw_59 : Cond.classLink RX3 9 RX2 ∈ hm_ws := List.mem_filter.mpr ⟨List.mem_of_getElem? (i := 59) rfl, rfl⟩
theorem kw_61 : Cond.classLink RX3 19 "[[J" ∈ hm_ws := List.mem_filter.mpr ⟨List.mem_of_getElem? (i := 61) rfl, rfl⟩
theorem kw_63 : Cond.instantiable RX2 3 ∈ hm_ws := List.mem_filter.mpr ⟨List.mem_of_getElem? (i := 63) rfl, rfl⟩
theorem kw_64 : Cond.methodLink RX3 24 yX2_init ∈ hm_ws := List.mem_filter.mpr ⟨List.mem_of_getElem? (i := 64) rfl, rfl⟩
theorem kw_65 : Cond.instanceMethod yX2_init ∈ hm_ws := List.mem_filter.mpr ⟨List.mem_of_getElem? (i := 65) rfl, rfl⟩
theorem kw_66 : Cond.code yX2_init cX2_init 2 none ∈ hm_ws := List.mem_filter.mpr ⟨List.mem_of_getElem? (i := 66) rfl, rfl⟩
theorem kw_67 : Cond.methodLink RX2 3 objectInit ∈ hm_ws := List.mem_filter.mpr ⟨List.mem_of_getElem? (i := 67) rfl, rfl⟩
theorem kw_68 : Cond.methodLink RX2 19 Lib.Math.max.name ∈ hm_ws := List.mem_filter.mpr ⟨List.mem_of_getElem? (i := 68) rfl, rfl⟩
theorem kw_69 : Cond.static Lib.Math.max.name ∈ hm_ws := List.mem_filter.mpr ⟨List.mem_of_getElem? (i := 69) rfl, rfl⟩
theorem kw_70 : Cond.code Lib.Math.max.name Lib.Math.max.code 2 (some .int) ∈ hm_ws := List.mem_filter.mpr ⟨List.mem_of_getElem? (i := 70) rfl, rfl⟩
theorem kw_71 : Cond.fieldLink RX2 25 "WideCounts$Whole" "limbs" "[I" ∈ hm_ws := List.mem_filter.mpr ⟨List.mem_of_getElem? (i := 71) rfl, rfl⟩
theorem kw_73 : Cond.fieldLink RX2 9 "WideCounts$Whole" "length" "I" ∈ hm_ws := List.mem_filter.mpr ⟨List.mem_of_getElem? (i := 73) rfl, rfl⟩
theorem kw_76 : Cond.fieldLink RX2 15 "WideCounts$Whole" "negative" "Z" ∈ hm_ws := List.mem_filter.mpr ⟨List.mem_of_getElem? (i := 76) rfl, rfl⟩
theorem kw_87 : Cond.arrayClass .long ∈ hm_ws := List.mem_filter.mpr ⟨List.mem_of_getElem? (i := 87) rfl, rfl⟩
theorem kw_88 : Cond.arrayClass .int ∈ hm_ws := List.mem_filter.mpr ⟨List.mem_of_getElem? (i := 88) rfl, rfl⟩
theorem kw_89 : Cond.classLink RX3 34 RX0 ∈ hm_ws := List.mem_filter.mpr ⟨List.mem_of_getElem? (i := 89) rfl, rfl⟩
theorem kw_90 : Cond.instantiable RX0 2 ∈ hm_ws := List.mem_filter.mpr ⟨List.mem_of_getElem? (i := 90) rfl, rfl⟩
theorem kw_92 : Cond.instanceMethod yX0_init ∈ hm_ws := List.mem_filter.mpr ⟨List.mem_of_getElem? (i := 92) rfl, rfl⟩
theorem kw_93 : Cond.code yX0_init cX0_init 1 none ∈ hm_ws := List.mem_filter.mpr ⟨List.mem_of_getElem? (i := 93) rfl, rfl⟩
theorem kw_94 : Cond.methodLink RX0 3 objectInit ∈ hm_ws := List.mem_filter.mpr ⟨List.mem_of_getElem? (i := 94) rfl, rfl⟩
theorem kw_95 : Cond.fieldLink RX0 9 "WideCounts$Divider" "rest" "[I" ∈ hm_ws := List.mem_filter.mpr ⟨List.mem_of_getElem? (i := 95) rfl, rfl⟩
theorem kw_96 : Cond.fieldLink RX0 15 "WideCounts$Divider" "divisor" "[I" ∈ hm_ws := List.mem_filter.mpr ⟨List.mem_of_getElem? (i := 96) rfl, rfl⟩
theorem kw_102 : Cond.fieldLink RX3 11 "WideCounts" "numbers" "[LWideCounts$Whole;" ∈ hm_ws := List.mem_filter.mpr ⟨List.mem_of_getElem? (i := 102) rfl, rfl⟩
theorem kw_103 : Cond.fieldLink RX3 15 "WideCounts" "count" "I" ∈ hm_ws := List.mem_filter.mpr ⟨List.mem_of_getElem? (i := 103) rfl, rfl⟩
theorem kw_104 : Cond.fieldLink RX3 21 "WideCounts" "table" "[[J" ∈ hm_ws := List.mem_filter.mpr ⟨List.mem_of_getElem? (i := 104) rfl, rfl⟩
theorem kw_105 : Cond.fieldLink RX3 27 "WideCounts" "result" "LWideCounts$Whole;" ∈ hm_ws := List.mem_filter.mpr ⟨List.mem_of_getElem? (i := 105) rfl, rfl⟩
theorem kw_106 : Cond.fieldLink RX3 31 "WideCounts" "spare" "LWideCounts$Whole;" ∈ hm_ws := List.mem_filter.mpr ⟨List.mem_of_getElem? (i := 106) rfl, rfl⟩
theorem kw_107 : Cond.fieldLink RX3 37 "WideCounts" "divider" "LWideCounts$Divider;" ∈ hm_ws := List.mem_filter.mpr ⟨List.mem_of_getElem? (i := 107) rfl, rfl⟩
theorem kw_108 : Cond.fieldLink RX3 41 "WideCounts" "elimination" "LWideCounts$Elimination;" ∈ hm_ws := List.mem_filter.mpr ⟨List.mem_of_getElem? (i := 108) rfl, rfl⟩
theorem kw_124 : Cond.methodLink RL 42 yX3_value ∈ hm_ws := List.mem_filter.mpr ⟨List.mem_of_getElem? (i := 124) rfl, rfl⟩
theorem kw_125 : Cond.instanceMethod yX3_value ∈ hm_ws := List.mem_filter.mpr ⟨List.mem_of_getElem? (i := 125) rfl, rfl⟩
theorem kw_126 : Cond.selects RX3 yX3_value yX3_value ∈ hm_ws := List.mem_filter.mpr ⟨List.mem_of_getElem? (i := 126) rfl, rfl⟩
theorem kw_127 : Cond.code yX3_value cX3_value 3 (some .int) ∈ hm_ws := List.mem_filter.mpr ⟨List.mem_of_getElem? (i := 127) rfl, rfl⟩
theorem kw_128 : Cond.methodLink RX3 45 yX3_isFull ∈ hm_ws := List.mem_filter.mpr ⟨List.mem_of_getElem? (i := 128) rfl, rfl⟩
theorem kw_130 : Cond.instanceMethod yX3_isFull ∈ hm_ws := List.mem_filter.mpr ⟨List.mem_of_getElem? (i := 130) rfl, rfl⟩
theorem kw_131 : Cond.code yX3_isFull cX3_isFull 1 (some .boolean) ∈ hm_ws := List.mem_filter.mpr ⟨List.mem_of_getElem? (i := 131) rfl, rfl⟩
theorem kw_132 : Cond.methodLink RX3 49 yX2_setLong ∈ hm_ws := List.mem_filter.mpr ⟨List.mem_of_getElem? (i := 132) rfl, rfl⟩
theorem kw_133 : Cond.instanceMethod yX2_setLong ∈ hm_ws := List.mem_filter.mpr ⟨List.mem_of_getElem? (i := 133) rfl, rfl⟩
theorem kw_134 : Cond.selects RX2 yX2_setLong yX2_setLong ∈ hm_ws := List.mem_filter.mpr ⟨List.mem_of_getElem? (i := 134) rfl, rfl⟩
theorem kw_135 : Cond.code yX2_setLong cX2_setLong 7 none ∈ hm_ws := List.mem_filter.mpr ⟨List.mem_of_getElem? (i := 135) rfl, rfl⟩
theorem kw_136 : Cond.methodLink RX2 29 Lib.Math.min.name ∈ hm_ws := List.mem_filter.mpr ⟨List.mem_of_getElem? (i := 136) rfl, rfl⟩
theorem kw_137 : Cond.static Lib.Math.min.name ∈ hm_ws := List.mem_filter.mpr ⟨List.mem_of_getElem? (i := 137) rfl, rfl⟩
theorem kw_138 : Cond.code Lib.Math.min.name Lib.Math.min.code 2 (some .int) ∈ hm_ws := List.mem_filter.mpr ⟨List.mem_of_getElem? (i := 138) rfl, rfl⟩
theorem kw_139 : Cond.constantLong RX2 32 33554431 ∈ hm_ws := List.mem_filter.mpr ⟨List.mem_of_getElem? (i := 139) rfl, rfl⟩
theorem kw_140 : Cond.methodLink RX2 34 yX2_finish ∈ hm_ws := List.mem_filter.mpr ⟨List.mem_of_getElem? (i := 140) rfl, rfl⟩
theorem kw_142 : Cond.instanceMethod yX2_finish ∈ hm_ws := List.mem_filter.mpr ⟨List.mem_of_getElem? (i := 142) rfl, rfl⟩
theorem kw_143 : Cond.code yX2_finish cX2_finish 3 none ∈ hm_ws := List.mem_filter.mpr ⟨List.mem_of_getElem? (i := 143) rfl, rfl⟩
theorem kw_144 : Cond.methodLink RX3 53 yX3_keep ∈ hm_ws := List.mem_filter.mpr ⟨List.mem_of_getElem? (i := 144) rfl, rfl⟩
theorem kw_146 : Cond.instanceMethod yX3_keep ∈ hm_ws := List.mem_filter.mpr ⟨List.mem_of_getElem? (i := 146) rfl, rfl⟩
theorem kw_147 : Cond.code yX3_keep cX3_keep 3 (some .int) ∈ hm_ws := List.mem_filter.mpr ⟨List.mem_of_getElem? (i := 147) rfl, rfl⟩
theorem kw_148 : Cond.methodLink RX3 102 yX2_fits ∈ hm_ws := List.mem_filter.mpr ⟨List.mem_of_getElem? (i := 148) rfl, rfl⟩
theorem kw_149 : Cond.instanceMethod yX2_fits ∈ hm_ws := List.mem_filter.mpr ⟨List.mem_of_getElem? (i := 149) rfl, rfl⟩
theorem kw_150 : Cond.selects RX2 yX2_fits yX2_fits ∈ hm_ws := List.mem_filter.mpr ⟨List.mem_of_getElem? (i := 150) rfl, rfl⟩
theorem kw_151 : Cond.code yX2_fits cX2_fits 1 (some .boolean) ∈ hm_ws := List.mem_filter.mpr ⟨List.mem_of_getElem? (i := 151) rfl, rfl⟩
theorem kw_152 : Cond.methodLink RX3 92 yX2_copyFrom ∈ hm_ws := List.mem_filter.mpr ⟨List.mem_of_getElem? (i := 152) rfl, rfl⟩
theorem kw_153 : Cond.instanceMethod yX2_copyFrom ∈ hm_ws := List.mem_filter.mpr ⟨List.mem_of_getElem? (i := 153) rfl, rfl⟩
theorem kw_154 : Cond.selects RX2 yX2_copyFrom yX2_copyFrom ∈ hm_ws := List.mem_filter.mpr ⟨List.mem_of_getElem? (i := 154) rfl, rfl⟩
theorem kw_155 : Cond.code yX2_copyFrom cX2_copyFrom 4 none ∈ hm_ws := List.mem_filter.mpr ⟨List.mem_of_getElem? (i := 155) rfl, rfl⟩
theorem kw_156 : Cond.methodLink RL 66 yX3_binomial ∈ hm_ws := List.mem_filter.mpr ⟨List.mem_of_getElem? (i := 156) rfl, rfl⟩
theorem kw_157 : Cond.instanceMethod yX3_binomial ∈ hm_ws := List.mem_filter.mpr ⟨List.mem_of_getElem? (i := 157) rfl, rfl⟩
theorem kw_158 : Cond.selects RX3 yX3_binomial yX3_binomial ∈ hm_ws := List.mem_filter.mpr ⟨List.mem_of_getElem? (i := 158) rfl, rfl⟩
theorem kw_159 : Cond.code yX3_binomial cX3_binomial 5 (some .int) ∈ hm_ws := List.mem_filter.mpr ⟨List.mem_of_getElem? (i := 159) rfl, rfl⟩
theorem kw_160 : Cond.methodLink RX3 96 Lib.Math.min.name ∈ hm_ws := List.mem_filter.mpr ⟨List.mem_of_getElem? (i := 160) rfl, rfl⟩
theorem kw_161 : Cond.methodLink RX3 105 yX2_multiplyBy ∈ hm_ws := List.mem_filter.mpr ⟨List.mem_of_getElem? (i := 161) rfl, rfl⟩
theorem kw_162 : Cond.instanceMethod yX2_multiplyBy ∈ hm_ws := List.mem_filter.mpr ⟨List.mem_of_getElem? (i := 162) rfl, rfl⟩
theorem kw_163 : Cond.selects RX2 yX2_multiplyBy yX2_multiplyBy ∈ hm_ws := List.mem_filter.mpr ⟨List.mem_of_getElem? (i := 163) rfl, rfl⟩
theorem kw_164 : Cond.code yX2_multiplyBy cX2_multiplyBy 6 none ∈ hm_ws := List.mem_filter.mpr ⟨List.mem_of_getElem? (i := 164) rfl, rfl⟩
theorem kw_165 : Cond.methodLink RX2 46 yX2_limbAt ∈ hm_ws := List.mem_filter.mpr ⟨List.mem_of_getElem? (i := 165) rfl, rfl⟩
theorem kw_167 : Cond.instanceMethod yX2_limbAt ∈ hm_ws := List.mem_filter.mpr ⟨List.mem_of_getElem? (i := 167) rfl, rfl⟩
theorem kw_168 : Cond.code yX2_limbAt cX2_limbAt 2 (some .int) ∈ hm_ws := List.mem_filter.mpr ⟨List.mem_of_getElem? (i := 168) rfl, rfl⟩
theorem kw_169 : Cond.methodLink RX3 108 yX2_divideBy ∈ hm_ws := List.mem_filter.mpr ⟨List.mem_of_getElem? (i := 169) rfl, rfl⟩
theorem kw_170 : Cond.instanceMethod yX2_divideBy ∈ hm_ws := List.mem_filter.mpr ⟨List.mem_of_getElem? (i := 170) rfl, rfl⟩
theorem kw_171 : Cond.selects RX2 yX2_divideBy yX2_divideBy ∈ hm_ws := List.mem_filter.mpr ⟨List.mem_of_getElem? (i := 171) rfl, rfl⟩
theorem kw_172 : Cond.code yX2_divideBy cX2_divideBy 7 (some .int) ∈ hm_ws := List.mem_filter.mpr ⟨List.mem_of_getElem? (i := 172) rfl, rfl⟩
theorem kw_173 : Cond.methodLink RL 70 yX3_factorial ∈ hm_ws := List.mem_filter.mpr ⟨List.mem_of_getElem? (i := 173) rfl, rfl⟩
theorem kw_174 : Cond.instanceMethod yX3_factorial ∈ hm_ws := List.mem_filter.mpr ⟨List.mem_of_getElem? (i := 174) rfl, rfl⟩
theorem kw_175 : Cond.selects RX3 yX3_factorial yX3_factorial ∈ hm_ws := List.mem_filter.mpr ⟨List.mem_of_getElem? (i := 175) rfl, rfl⟩
theorem kw_176 : Cond.code yX3_factorial cX3_factorial 3 (some .int) ∈ hm_ws := List.mem_filter.mpr ⟨List.mem_of_getElem? (i := 176) rfl, rfl⟩
theorem kw_177 : Cond.methodLink RL 81 yX3_entry ∈ hm_ws := List.mem_filter.mpr ⟨List.mem_of_getElem? (i := 177) rfl, rfl⟩
theorem kw_178 : Cond.instanceMethod yX3_entry ∈ hm_ws := List.mem_filter.mpr ⟨List.mem_of_getElem? (i := 178) rfl, rfl⟩
theorem kw_179 : Cond.selects RX3 yX3_entry yX3_entry ∈ hm_ws := List.mem_filter.mpr ⟨List.mem_of_getElem? (i := 179) rfl, rfl⟩
theorem kw_180 : Cond.code yX3_entry cX3_entry 5 (some .boolean) ∈ hm_ws := List.mem_filter.mpr ⟨List.mem_of_getElem? (i := 180) rfl, rfl⟩
theorem kw_181 : Cond.methodLink RL 86 yX3_determinant ∈ hm_ws := List.mem_filter.mpr ⟨List.mem_of_getElem? (i := 181) rfl, rfl⟩
theorem kw_182 : Cond.instanceMethod yX3_determinant ∈ hm_ws := List.mem_filter.mpr ⟨List.mem_of_getElem? (i := 182) rfl, rfl⟩
theorem kw_183 : Cond.selects RX3 yX3_determinant yX3_determinant ∈ hm_ws := List.mem_filter.mpr ⟨List.mem_of_getElem? (i := 183) rfl, rfl⟩
theorem kw_184 : Cond.code yX3_determinant cX3_determinant 2 (some .int) ∈ hm_ws := List.mem_filter.mpr ⟨List.mem_of_getElem? (i := 184) rfl, rfl⟩
theorem kw_185 : Cond.classLink RX3 122 RX1 ∈ hm_ws := List.mem_filter.mpr ⟨List.mem_of_getElem? (i := 185) rfl, rfl⟩
theorem kw_186 : Cond.instantiable RX1 4 ∈ hm_ws := List.mem_filter.mpr ⟨List.mem_of_getElem? (i := 186) rfl, rfl⟩
theorem kw_187 : Cond.methodLink RX3 124 yX1_init ∈ hm_ws := List.mem_filter.mpr ⟨List.mem_of_getElem? (i := 187) rfl, rfl⟩
theorem kw_188 : Cond.instanceMethod yX1_init ∈ hm_ws := List.mem_filter.mpr ⟨List.mem_of_getElem? (i := 188) rfl, rfl⟩
theorem kw_189 : Cond.code yX1_init cX1_init 3 none ∈ hm_ws := List.mem_filter.mpr ⟨List.mem_of_getElem? (i := 189) rfl, rfl⟩
theorem kw_190 : Cond.methodLink RX1 3 objectInit ∈ hm_ws := List.mem_filter.mpr ⟨List.mem_of_getElem? (i := 190) rfl, rfl⟩
theorem kw_191 : Cond.classLink RX1 9 RX2 ∈ hm_ws := List.mem_filter.mpr ⟨List.mem_of_getElem? (i := 191) rfl, rfl⟩
theorem kw_192 : Cond.methodLink RX1 17 yX2_init ∈ hm_ws := List.mem_filter.mpr ⟨List.mem_of_getElem? (i := 192) rfl, rfl⟩
theorem kw_193 : Cond.fieldLink RX1 11 "WideCounts$Elimination" "cells" "[LWideCounts$Whole;" ∈ hm_ws := List.mem_filter.mpr ⟨List.mem_of_getElem? (i := 193) rfl, rfl⟩
theorem kw_194 : Cond.fieldLink RX1 20 "WideCounts$Elimination" "first" "LWideCounts$Whole;" ∈ hm_ws := List.mem_filter.mpr ⟨List.mem_of_getElem? (i := 194) rfl, rfl⟩
theorem kw_195 : Cond.fieldLink RX1 24 "WideCounts$Elimination" "second" "LWideCounts$Whole;" ∈ hm_ws := List.mem_filter.mpr ⟨List.mem_of_getElem? (i := 195) rfl, rfl⟩
theorem kw_196 : Cond.fieldLink RX1 27 "WideCounts$Elimination" "divider" "LWideCounts$Divider;" ∈ hm_ws := List.mem_filter.mpr ⟨List.mem_of_getElem? (i := 196) rfl, rfl⟩
theorem kw_206 : Cond.methodLink RX3 127 yX1_solve ∈ hm_ws := List.mem_filter.mpr ⟨List.mem_of_getElem? (i := 206) rfl, rfl⟩
theorem kw_207 : Cond.instanceMethod yX1_solve ∈ hm_ws := List.mem_filter.mpr ⟨List.mem_of_getElem? (i := 207) rfl, rfl⟩
theorem kw_208 : Cond.selects RX1 yX1_solve yX1_solve ∈ hm_ws := List.mem_filter.mpr ⟨List.mem_of_getElem? (i := 208) rfl, rfl⟩
theorem kw_209 : Cond.code yX1_solve cX1_solve 7 none ∈ hm_ws := List.mem_filter.mpr ⟨List.mem_of_getElem? (i := 209) rfl, rfl⟩
theorem kw_210 : Cond.methodLink RX1 31 yX1_load ∈ hm_ws := List.mem_filter.mpr ⟨List.mem_of_getElem? (i := 210) rfl, rfl⟩
theorem kw_212 : Cond.instanceMethod yX1_load ∈ hm_ws := List.mem_filter.mpr ⟨List.mem_of_getElem? (i := 212) rfl, rfl⟩
theorem kw_213 : Cond.code yX1_load cX1_load 5 none ∈ hm_ws := List.mem_filter.mpr ⟨List.mem_of_getElem? (i := 213) rfl, rfl⟩
theorem kw_214 : Cond.methodLink RX1 51 yX1_cell ∈ hm_ws := List.mem_filter.mpr ⟨List.mem_of_getElem? (i := 214) rfl, rfl⟩
theorem kw_216 : Cond.instanceMethod yX1_cell ∈ hm_ws := List.mem_filter.mpr ⟨List.mem_of_getElem? (i := 216) rfl, rfl⟩
theorem kw_217 : Cond.code yX1_cell cX1_cell 3 (some (.object "WideCounts$Whole")) ∈ hm_ws := List.mem_filter.mpr ⟨List.mem_of_getElem? (i := 217) rfl, rfl⟩
theorem kw_218 : Cond.methodLink RX1 39 yX2_setLong ∈ hm_ws := List.mem_filter.mpr ⟨List.mem_of_getElem? (i := 218) rfl, rfl⟩
theorem kw_219 : Cond.methodLink RX1 35 yX1_pivotRow ∈ hm_ws := List.mem_filter.mpr ⟨List.mem_of_getElem? (i := 219) rfl, rfl⟩
theorem kw_221 : Cond.instanceMethod yX1_pivotRow ∈ hm_ws := List.mem_filter.mpr ⟨List.mem_of_getElem? (i := 221) rfl, rfl⟩
theorem kw_222 : Cond.code yX1_pivotRow cX1_pivotRow 4 (some .int) ∈ hm_ws := List.mem_filter.mpr ⟨List.mem_of_getElem? (i := 222) rfl, rfl⟩
theorem kw_223 : Cond.methodLink RX1 62 yX2_isZero ∈ hm_ws := List.mem_filter.mpr ⟨List.mem_of_getElem? (i := 223) rfl, rfl⟩
theorem kw_224 : Cond.instanceMethod yX2_isZero ∈ hm_ws := List.mem_filter.mpr ⟨List.mem_of_getElem? (i := 224) rfl, rfl⟩
theorem kw_225 : Cond.selects RX2 yX2_isZero yX2_isZero ∈ hm_ws := List.mem_filter.mpr ⟨List.mem_of_getElem? (i := 225) rfl, rfl⟩
theorem kw_226 : Cond.code yX2_isZero cX2_isZero 1 (some .boolean) ∈ hm_ws := List.mem_filter.mpr ⟨List.mem_of_getElem? (i := 226) rfl, rfl⟩
theorem kw_227 : Cond.methodLink RX1 43 yX1_swapRows ∈ hm_ws := List.mem_filter.mpr ⟨List.mem_of_getElem? (i := 227) rfl, rfl⟩
theorem kw_229 : Cond.instanceMethod yX1_swapRows ∈ hm_ws := List.mem_filter.mpr ⟨List.mem_of_getElem? (i := 229) rfl, rfl⟩
theorem kw_230 : Cond.code yX1_swapRows cX1_swapRows 6 none ∈ hm_ws := List.mem_filter.mpr ⟨List.mem_of_getElem? (i := 230) rfl, rfl⟩
theorem kw_231 : Cond.methodLink RX1 47 yX1_clearBelow ∈ hm_ws := List.mem_filter.mpr ⟨List.mem_of_getElem? (i := 231) rfl, rfl⟩
theorem kw_233 : Cond.instanceMethod yX1_clearBelow ∈ hm_ws := List.mem_filter.mpr ⟨List.mem_of_getElem? (i := 233) rfl, rfl⟩
theorem kw_234 : Cond.code yX1_clearBelow cX1_clearBelow 5 none ∈ hm_ws := List.mem_filter.mpr ⟨List.mem_of_getElem? (i := 234) rfl, rfl⟩
theorem kw_235 : Cond.methodLink RX1 66 yX1_reduce ∈ hm_ws := List.mem_filter.mpr ⟨List.mem_of_getElem? (i := 235) rfl, rfl⟩
theorem kw_237 : Cond.instanceMethod yX1_reduce ∈ hm_ws := List.mem_filter.mpr ⟨List.mem_of_getElem? (i := 237) rfl, rfl⟩
theorem kw_238 : Cond.code yX1_reduce cX1_reduce 5 none ∈ hm_ws := List.mem_filter.mpr ⟨List.mem_of_getElem? (i := 238) rfl, rfl⟩
theorem kw_239 : Cond.methodLink RX1 69 yX2_setProduct ∈ hm_ws := List.mem_filter.mpr ⟨List.mem_of_getElem? (i := 239) rfl, rfl⟩
theorem kw_240 : Cond.instanceMethod yX2_setProduct ∈ hm_ws := List.mem_filter.mpr ⟨List.mem_of_getElem? (i := 240) rfl, rfl⟩
theorem kw_241 : Cond.selects RX2 yX2_setProduct yX2_setProduct ∈ hm_ws := List.mem_filter.mpr ⟨List.mem_of_getElem? (i := 241) rfl, rfl⟩
theorem kw_242 : Cond.code yX2_setProduct cX2_setProduct 9 (some .boolean) ∈ hm_ws := List.mem_filter.mpr ⟨List.mem_of_getElem? (i := 242) rfl, rfl⟩
theorem kw_243 : Cond.methodLink RX2 51 yX2_fits ∈ hm_ws := List.mem_filter.mpr ⟨List.mem_of_getElem? (i := 243) rfl, rfl⟩
theorem kw_244 : Cond.methodLink RX1 77 yX2_setSum ∈ hm_ws := List.mem_filter.mpr ⟨List.mem_of_getElem? (i := 244) rfl, rfl⟩
theorem kw_245 : Cond.instanceMethod yX2_setSum ∈ hm_ws := List.mem_filter.mpr ⟨List.mem_of_getElem? (i := 245) rfl, rfl⟩
theorem kw_246 : Cond.selects RX2 yX2_setSum yX2_setSum ∈ hm_ws := List.mem_filter.mpr ⟨List.mem_of_getElem? (i := 246) rfl, rfl⟩
theorem kw_247 : Cond.code yX2_setSum cX2_setSum 4 none ∈ hm_ws := List.mem_filter.mpr ⟨List.mem_of_getElem? (i := 247) rfl, rfl⟩
theorem kw_248 : Cond.methodLink RX2 38 yX2_setAmounts ∈ hm_ws := List.mem_filter.mpr ⟨List.mem_of_getElem? (i := 248) rfl, rfl⟩
theorem kw_250 : Cond.instanceMethod yX2_setAmounts ∈ hm_ws := List.mem_filter.mpr ⟨List.mem_of_getElem? (i := 250) rfl, rfl⟩
theorem kw_251 : Cond.code yX2_setAmounts cX2_setAmounts 9 none ∈ hm_ws := List.mem_filter.mpr ⟨List.mem_of_getElem? (i := 251) rfl, rfl⟩
theorem kw_252 : Cond.constant RX2 50 33554431 ∈ hm_ws := List.mem_filter.mpr ⟨List.mem_of_getElem? (i := 252) rfl, rfl⟩
theorem kw_253 : Cond.methodLink RX2 42 yX2_compareAmount ∈ hm_ws := List.mem_filter.mpr ⟨List.mem_of_getElem? (i := 253) rfl, rfl⟩
theorem kw_254 : Cond.instanceMethod yX2_compareAmount ∈ hm_ws := List.mem_filter.mpr ⟨List.mem_of_getElem? (i := 254) rfl, rfl⟩
theorem kw_255 : Cond.selects RX2 yX2_compareAmount yX2_compareAmount ∈ hm_ws := List.mem_filter.mpr ⟨List.mem_of_getElem? (i := 255) rfl, rfl⟩
theorem kw_256 : Cond.code yX2_compareAmount cX2_compareAmount 3 (some .int) ∈ hm_ws := List.mem_filter.mpr ⟨List.mem_of_getElem? (i := 256) rfl, rfl⟩
theorem kw_257 : Cond.methodLink RX1 55 yX2_copyFrom ∈ hm_ws := List.mem_filter.mpr ⟨List.mem_of_getElem? (i := 257) rfl, rfl⟩
theorem kw_258 : Cond.methodLink RX1 81 yX0_divide ∈ hm_ws := List.mem_filter.mpr ⟨List.mem_of_getElem? (i := 258) rfl, rfl⟩
theorem kw_259 : Cond.instanceMethod yX0_divide ∈ hm_ws := List.mem_filter.mpr ⟨List.mem_of_getElem? (i := 259) rfl, rfl⟩
theorem kw_260 : Cond.selects RX0 yX0_divide yX0_divide ∈ hm_ws := List.mem_filter.mpr ⟨List.mem_of_getElem? (i := 260) rfl, rfl⟩
theorem kw_261 : Cond.code yX0_divide cX0_divide 8 none ∈ hm_ws := List.mem_filter.mpr ⟨List.mem_of_getElem? (i := 261) rfl, rfl⟩
theorem kw_262 : Cond.methodLink RX0 24 yX2_isZero ∈ hm_ws := List.mem_filter.mpr ⟨List.mem_of_getElem? (i := 262) rfl, rfl⟩
theorem kw_263 : Cond.methodLink RX0 31 yX2_setLong ∈ hm_ws := List.mem_filter.mpr ⟨List.mem_of_getElem? (i := 263) rfl, rfl⟩
theorem kw_264 : Cond.methodLink RX0 39 yX2_copyFrom ∈ hm_ws := List.mem_filter.mpr ⟨List.mem_of_getElem? (i := 264) rfl, rfl⟩
theorem kw_265 : Cond.methodLink RX0 43 yX2_divideBy ∈ hm_ws := List.mem_filter.mpr ⟨List.mem_of_getElem? (i := 265) rfl, rfl⟩
theorem kw_268 : Cond.static yX3_highestBit ∈ hm_ws := List.mem_filter.mpr ⟨List.mem_of_getElem? (i := 268) rfl, rfl⟩
theorem kw_269 : Cond.code yX3_highestBit cX3_highestBit 1 (some .int) ∈ hm_ws := List.mem_filter.mpr ⟨List.mem_of_getElem? (i := 269) rfl, rfl⟩
theorem kw_270 : Cond.methodLink RX3 142 yJ6_numberOfLeadingZeros_0f7a4 ∈ hm_ws := List.mem_filter.mpr ⟨List.mem_of_getElem? (i := 270) rfl, rfl⟩
theorem kw_271 : Cond.static yJ6_numberOfLeadingZeros_0f7a4 ∈ hm_ws := List.mem_filter.mpr ⟨List.mem_of_getElem? (i := 271) rfl, rfl⟩
theorem kw_272 : Cond.code yJ6_numberOfLeadingZeros_0f7a4 cJ6_numberOfLeadingZeros_0f7a4 2 (some .int) ∈ hm_ws := List.mem_filter.mpr ⟨List.mem_of_getElem? (i := 272) rfl, rfl⟩
theorem kw_273 : Cond.constant RJ6 264 65536 ∈ hm_ws := List.mem_filter.mpr ⟨List.mem_of_getElem? (i := 273) rfl, rfl⟩
theorem kw_274 : Cond.methodLink RX0 54 yX0_shiftInto ∈ hm_ws := List.mem_filter.mpr ⟨List.mem_of_getElem? (i := 274) rfl, rfl⟩
theorem kw_275 : Cond.static yX0_shiftInto ∈ hm_ws := List.mem_filter.mpr ⟨List.mem_of_getElem? (i := 275) rfl, rfl⟩
theorem kw_276 : Cond.code yX0_shiftInto cX0_shiftInto 6 none ∈ hm_ws := List.mem_filter.mpr ⟨List.mem_of_getElem? (i := 276) rfl, rfl⟩
theorem kw_278 : Cond.constantLong RX0 65 33554431 ∈ hm_ws := List.mem_filter.mpr ⟨List.mem_of_getElem? (i := 278) rfl, rfl⟩
theorem kw_279 : Cond.methodLink RX0 58 yX0_nextLimb ∈ hm_ws := List.mem_filter.mpr ⟨List.mem_of_getElem? (i := 279) rfl, rfl⟩
theorem kw_281 : Cond.instanceMethod yX0_nextLimb ∈ hm_ws := List.mem_filter.mpr ⟨List.mem_of_getElem? (i := 281) rfl, rfl⟩
theorem kw_282 : Cond.code yX0_nextLimb cX0_nextLimb 5 (some .int) ∈ hm_ws := List.mem_filter.mpr ⟨List.mem_of_getElem? (i := 282) rfl, rfl⟩
theorem kw_283 : Cond.methodLink RX0 67 yX0_guessLimb ∈ hm_ws := List.mem_filter.mpr ⟨List.mem_of_getElem? (i := 283) rfl, rfl⟩
theorem kw_285 : Cond.instanceMethod yX0_guessLimb ∈ hm_ws := List.mem_filter.mpr ⟨List.mem_of_getElem? (i := 285) rfl, rfl⟩
theorem kw_286 : Cond.code yX0_guessLimb cX0_guessLimb 14 (some .long) ∈ hm_ws := List.mem_filter.mpr ⟨List.mem_of_getElem? (i := 286) rfl, rfl⟩
theorem kw_287 : Cond.constantLong RX0 79 33554432 ∈ hm_ws := List.mem_filter.mpr ⟨List.mem_of_getElem? (i := 287) rfl, rfl⟩
theorem kw_288 : Cond.methodLink RX0 71 yX0_takeAway ∈ hm_ws := List.mem_filter.mpr ⟨List.mem_of_getElem? (i := 288) rfl, rfl⟩
theorem kw_290 : Cond.instanceMethod yX0_takeAway ∈ hm_ws := List.mem_filter.mpr ⟨List.mem_of_getElem? (i := 290) rfl, rfl⟩
theorem kw_291 : Cond.code yX0_takeAway cX0_takeAway 8 (some .boolean) ∈ hm_ws := List.mem_filter.mpr ⟨List.mem_of_getElem? (i := 291) rfl, rfl⟩
theorem kw_292 : Cond.methodLink RX0 75 yX0_giveBack ∈ hm_ws := List.mem_filter.mpr ⟨List.mem_of_getElem? (i := 292) rfl, rfl⟩
theorem kw_294 : Cond.instanceMethod yX0_giveBack ∈ hm_ws := List.mem_filter.mpr ⟨List.mem_of_getElem? (i := 294) rfl, rfl⟩
theorem kw_295 : Cond.code yX0_giveBack cX0_giveBack 5 none ∈ hm_ws := List.mem_filter.mpr ⟨List.mem_of_getElem? (i := 295) rfl, rfl⟩
theorem kw_296 : Cond.constant RX0 81 33554431 ∈ hm_ws := List.mem_filter.mpr ⟨List.mem_of_getElem? (i := 296) rfl, rfl⟩
theorem kw_297 : Cond.methodLink RX1 59 yX2_negate ∈ hm_ws := List.mem_filter.mpr ⟨List.mem_of_getElem? (i := 297) rfl, rfl⟩
theorem kw_298 : Cond.instanceMethod yX2_negate ∈ hm_ws := List.mem_filter.mpr ⟨List.mem_of_getElem? (i := 298) rfl, rfl⟩
theorem kw_299 : Cond.selects RX2 yX2_negate yX2_negate ∈ hm_ws := List.mem_filter.mpr ⟨List.mem_of_getElem? (i := 299) rfl, rfl⟩
theorem kw_300 : Cond.code yX2_negate cX2_negate 1 none ∈ hm_ws := List.mem_filter.mpr ⟨List.mem_of_getElem? (i := 300) rfl, rfl⟩
theorem kw_301 : Cond.methodLink RL 94 yX3_kept ∈ hm_ws := List.mem_filter.mpr ⟨List.mem_of_getElem? (i := 301) rfl, rfl⟩
theorem kw_302 : Cond.instanceMethod yX3_kept ∈ hm_ws := List.mem_filter.mpr ⟨List.mem_of_getElem? (i := 302) rfl, rfl⟩
theorem kw_303 : Cond.selects RX3 yX3_kept yX3_kept ∈ hm_ws := List.mem_filter.mpr ⟨List.mem_of_getElem? (i := 303) rfl, rfl⟩
theorem kw_304 : Cond.code yX3_kept cX3_kept 1 (some .int) ∈ hm_ws := List.mem_filter.mpr ⟨List.mem_of_getElem? (i := 304) rfl, rfl⟩
theorem kw_305 : Cond.methodLink RL 47 yL_add ∈ hm_ws := List.mem_filter.mpr ⟨List.mem_of_getElem? (i := 305) rfl, rfl⟩
theorem kw_306 : Cond.static yL_add ∈ hm_ws := List.mem_filter.mpr ⟨List.mem_of_getElem? (i := 306) rfl, rfl⟩
theorem kw_308 : Cond.classLink RL 13 RJx00060 ∈ hm_ws := List.mem_filter.mpr ⟨List.mem_of_getElem? (i := 308) rfl, rfl⟩
theorem kw_309 : Cond.instantiable RJx00060 6 ∈ hm_ws := List.mem_filter.mpr ⟨List.mem_of_getElem? (i := 309) rfl, rfl⟩
theorem kw_310 : Cond.instanceMethod yJx00060_init_a7421 ∈ hm_ws := List.mem_filter.mpr ⟨List.mem_of_getElem? (i := 310) rfl, rfl⟩
theorem kw_311 : Cond.code yJx00060_init_a7421 cJx00060_init_a7421 2 none ∈ hm_ws := List.mem_filter.mpr ⟨List.mem_of_getElem? (i := 311) rfl, rfl⟩
theorem kw_324 : Cond.methodLink "java/lang/Throwable" 1 objectInit ∈ hm_ws := List.mem_filter.mpr ⟨List.mem_of_getElem? (i := 324) rfl, rfl⟩
theorem kw_325 : Cond.fieldLink "java/lang/Throwable" 13 "java/lang/Throwable" "UNASSIGNED_STACK" "[Ljava/lang/StackTraceElement;" ∈ hm_ws := List.mem_filter.mpr ⟨List.mem_of_getElem? (i := 325) rfl, rfl⟩
theorem kw_327 : Cond.fieldLink "java/lang/Throwable" 20 "java/lang/Throwable" "SUPPRESSED_SENTINEL" "Ljava/util/List;" ∈ hm_ws := List.mem_filter.mpr ⟨List.mem_of_getElem? (i := 327) rfl, rfl⟩
theorem kw_338 : Cond.instantiable "java/lang/Throwable" 6 ∈ hm_ws := List.mem_filter.mpr ⟨List.mem_of_getElem? (i := 338) rfl, rfl⟩
theorem kw_340 : Cond.fieldLink "java/lang/Throwable" 198 "java/lang/Throwable" "backtrace" "Ljava/lang/Object;" ∈ hm_ws := List.mem_filter.mpr ⟨List.mem_of_getElem? (i := 340) rfl, rfl⟩
theorem kw_341 : Cond.fieldLink "java/lang/Throwable" 31 "java/lang/Throwable" "detailMessage" "Ljava/lang/String;" ∈ hm_ws := List.mem_filter.mpr ⟨List.mem_of_getElem? (i := 341) rfl, rfl⟩
theorem kw_342 : Cond.fieldLink "java/lang/Throwable" 7 "java/lang/Throwable" "cause" "Ljava/lang/Throwable;" ∈ hm_ws := List.mem_filter.mpr ⟨List.mem_of_getElem? (i := 342) rfl, rfl⟩
theorem kw_343 : Cond.fieldLink "java/lang/Throwable" 17 "java/lang/Throwable" "stackTrace" "[Ljava/lang/StackTraceElement;" ∈ hm_ws := List.mem_filter.mpr ⟨List.mem_of_getElem? (i := 343) rfl, rfl⟩
theorem kw_344 : Cond.fieldLink "java/lang/Throwable" 24 "java/lang/Throwable" "suppressedExceptions" "Ljava/util/List;" ∈ hm_ws := List.mem_filter.mpr ⟨List.mem_of_getElem? (i := 344) rfl, rfl⟩
theorem kw_377 : Cond.instantiable RJ0 4 ∈ hm_ws := List.mem_filter.mpr ⟨List.mem_of_getElem? (i := 377) rfl, rfl⟩
theorem kw_378 : Cond.arrayClass .byte ∈ hm_ws := List.mem_filter.mpr ⟨List.mem_of_getElem? (i := 378) rfl, rfl⟩
set_option maxRecDepth 100000 in
theorem kw_383 : Cond.methodLink RL 7 yX3_add ∈ hm_ws := List.mem_filter.mpr ⟨List.mem_of_getElem? (i := 383) rfl, rfl⟩
set_option maxRecDepth 100000 in
theorem kw_384 : Cond.instanceMethod yX3_add ∈ hm_ws := List.mem_filter.mpr ⟨List.mem_of_getElem? (i := 384) rfl, rfl⟩
set_option maxRecDepth 100000 in
theorem kw_385 : Cond.selects RX3 yX3_add yX3_add ∈ hm_ws := List.mem_filter.mpr ⟨List.mem_of_getElem? (i := 385) rfl, rfl⟩
set_option maxRecDepth 100000 in
theorem kw_386 : Cond.code yX3_add cX3_add 5 (some .int) ∈ hm_ws := List.mem_filter.mpr ⟨List.mem_of_getElem? (i := 386) rfl, rfl⟩
set_option maxRecDepth 100000 in
theorem kw_387 : Cond.methodLink RX3 57 yX3_known ∈ hm_ws := List.mem_filter.mpr ⟨List.mem_of_getElem? (i := 387) rfl, rfl⟩
set_option maxRecDepth 100000 in
theorem kw_389 : Cond.instanceMethod yX3_known ∈ hm_ws := List.mem_filter.mpr ⟨List.mem_of_getElem? (i := 389) rfl, rfl⟩
set_option maxRecDepth 100000 in
theorem kw_390 : Cond.code yX3_known cX3_known 2 (some (.object "WideCounts$Whole")) ∈ hm_ws := List.mem_filter.mpr ⟨List.mem_of_getElem? (i := 390) rfl, rfl⟩
set_option maxRecDepth 100000 in
theorem kw_391 : Cond.classLink RX3 114 RJx00060 ∈ hm_ws := List.mem_filter.mpr ⟨List.mem_of_getElem? (i := 391) rfl, rfl⟩
set_option maxRecDepth 100000 in
theorem kw_393 : Cond.methodLink RX3 118 yJx00060_init_a7421 ∈ hm_ws := List.mem_filter.mpr ⟨List.mem_of_getElem? (i := 393) rfl, rfl⟩
set_option maxRecDepth 100000 in
theorem kw_394 : Cond.methodLink RX3 65 yX2_setSum ∈ hm_ws := List.mem_filter.mpr ⟨List.mem_of_getElem? (i := 394) rfl, rfl⟩
set_option maxRecDepth 100000 in
theorem kw_395 : Cond.methodLink RL 57 yL_times ∈ hm_ws := List.mem_filter.mpr ⟨List.mem_of_getElem? (i := 395) rfl, rfl⟩
set_option maxRecDepth 100000 in
theorem kw_396 : Cond.static yL_times ∈ hm_ws := List.mem_filter.mpr ⟨List.mem_of_getElem? (i := 396) rfl, rfl⟩
set_option maxRecDepth 100000 in
theorem kw_398 : Cond.methodLink RL 15 yX3_times ∈ hm_ws := List.mem_filter.mpr ⟨List.mem_of_getElem? (i := 398) rfl, rfl⟩
set_option maxRecDepth 100000 in
theorem kw_399 : Cond.instanceMethod yX3_times ∈ hm_ws := List.mem_filter.mpr ⟨List.mem_of_getElem? (i := 399) rfl, rfl⟩
set_option maxRecDepth 100000 in
theorem kw_400 : Cond.selects RX3 yX3_times yX3_times ∈ hm_ws := List.mem_filter.mpr ⟨List.mem_of_getElem? (i := 400) rfl, rfl⟩
set_option maxRecDepth 100000 in
theorem kw_401 : Cond.code yX3_times cX3_times 5 (some .int) ∈ hm_ws := List.mem_filter.mpr ⟨List.mem_of_getElem? (i := 401) rfl, rfl⟩
set_option maxRecDepth 100000 in
theorem kw_402 : Cond.methodLink RX3 69 yX2_setProduct ∈ hm_ws := List.mem_filter.mpr ⟨List.mem_of_getElem? (i := 402) rfl, rfl⟩
set_option maxRecDepth 100000 in
theorem kw_403 : Cond.methodLink RL 60 yL_over ∈ hm_ws := List.mem_filter.mpr ⟨List.mem_of_getElem? (i := 403) rfl, rfl⟩
set_option maxRecDepth 100000 in
theorem kw_404 : Cond.static yL_over ∈ hm_ws := List.mem_filter.mpr ⟨List.mem_of_getElem? (i := 404) rfl, rfl⟩
set_option maxRecDepth 100000 in
theorem kw_406 : Cond.classLink RL 21 "java/lang/ArithmeticException" ∈ hm_ws := List.mem_filter.mpr ⟨List.mem_of_getElem? (i := 406) rfl, rfl⟩
set_option maxRecDepth 100000 in
theorem kw_407 : Cond.instantiable "java/lang/ArithmeticException" 6 ∈ hm_ws := List.mem_filter.mpr ⟨List.mem_of_getElem? (i := 407) rfl, rfl⟩
set_option maxRecDepth 100000 in
theorem kw_420 : Cond.methodLink RL 18 yX3_over ∈ hm_ws := List.mem_filter.mpr ⟨List.mem_of_getElem? (i := 420) rfl, rfl⟩
set_option maxRecDepth 100000 in
theorem kw_421 : Cond.instanceMethod yX3_over ∈ hm_ws := List.mem_filter.mpr ⟨List.mem_of_getElem? (i := 421) rfl, rfl⟩
set_option maxRecDepth 100000 in
theorem kw_422 : Cond.selects RX3 yX3_over yX3_over ∈ hm_ws := List.mem_filter.mpr ⟨List.mem_of_getElem? (i := 422) rfl, rfl⟩
set_option maxRecDepth 100000 in
theorem kw_423 : Cond.code yX3_over cX3_over 5 (some .int) ∈ hm_ws := List.mem_filter.mpr ⟨List.mem_of_getElem? (i := 423) rfl, rfl⟩
set_option maxRecDepth 100000 in
theorem kw_424 : Cond.methodLink RX3 73 yX2_isZero ∈ hm_ws := List.mem_filter.mpr ⟨List.mem_of_getElem? (i := 424) rfl, rfl⟩
set_option maxRecDepth 100000 in
theorem kw_425 : Cond.classLink RX3 76 "java/lang/ArithmeticException" ∈ hm_ws := List.mem_filter.mpr ⟨List.mem_of_getElem? (i := 425) rfl, rfl⟩
set_option maxRecDepth 100000 in
theorem kw_428 : Cond.methodLink RX3 83 yX0_divide ∈ hm_ws := List.mem_filter.mpr ⟨List.mem_of_getElem? (i := 428) rfl, rfl⟩
set_option maxRecDepth 100000 in
theorem kw_429 : Cond.methodLink RL 63 yL_power ∈ hm_ws := List.mem_filter.mpr ⟨List.mem_of_getElem? (i := 429) rfl, rfl⟩
set_option maxRecDepth 100000 in
theorem kw_430 : Cond.static yL_power ∈ hm_ws := List.mem_filter.mpr ⟨List.mem_of_getElem? (i := 430) rfl, rfl⟩
set_option maxRecDepth 100000 in
theorem kw_432 : Cond.methodLink RL 23 yX3_power ∈ hm_ws := List.mem_filter.mpr ⟨List.mem_of_getElem? (i := 432) rfl, rfl⟩
set_option maxRecDepth 100000 in
theorem kw_433 : Cond.instanceMethod yX3_power ∈ hm_ws := List.mem_filter.mpr ⟨List.mem_of_getElem? (i := 433) rfl, rfl⟩
set_option maxRecDepth 100000 in
theorem kw_434 : Cond.selects RX3 yX3_power yX3_power ∈ hm_ws := List.mem_filter.mpr ⟨List.mem_of_getElem? (i := 434) rfl, rfl⟩
set_option maxRecDepth 100000 in
theorem kw_435 : Cond.code yX3_power cX3_power 5 (some .int) ∈ hm_ws := List.mem_filter.mpr ⟨List.mem_of_getElem? (i := 435) rfl, rfl⟩
set_option maxRecDepth 100000 in
theorem kw_436 : Cond.constant RX3 87 1000000 ∈ hm_ws := List.mem_filter.mpr ⟨List.mem_of_getElem? (i := 436) rfl, rfl⟩
set_option maxRecDepth 100000 in
theorem kw_437 : Cond.methodLink RX3 88 yX3_highestBit ∈ hm_ws := List.mem_filter.mpr ⟨List.mem_of_getElem? (i := 437) rfl, rfl⟩
set_option maxRecDepth 100000 in
theorem kw_438 : Cond.methodLink RL 75 yL_order ∈ hm_ws := List.mem_filter.mpr ⟨List.mem_of_getElem? (i := 438) rfl, rfl⟩
set_option maxRecDepth 100000 in
theorem kw_439 : Cond.static yL_order ∈ hm_ws := List.mem_filter.mpr ⟨List.mem_of_getElem? (i := 439) rfl, rfl⟩
set_option maxRecDepth 100000 in
theorem kw_441 : Cond.methodLink RL 26 yX3_order ∈ hm_ws := List.mem_filter.mpr ⟨List.mem_of_getElem? (i := 441) rfl, rfl⟩
set_option maxRecDepth 100000 in
theorem kw_442 : Cond.instanceMethod yX3_order ∈ hm_ws := List.mem_filter.mpr ⟨List.mem_of_getElem? (i := 442) rfl, rfl⟩
set_option maxRecDepth 100000 in
theorem kw_443 : Cond.selects RX3 yX3_order yX3_order ∈ hm_ws := List.mem_filter.mpr ⟨List.mem_of_getElem? (i := 443) rfl, rfl⟩
set_option maxRecDepth 100000 in
theorem kw_444 : Cond.code yX3_order cX3_order 6 (some .int) ∈ hm_ws := List.mem_filter.mpr ⟨List.mem_of_getElem? (i := 444) rfl, rfl⟩
set_option maxRecDepth 100000 in
theorem kw_445 : Cond.methodLink RX3 111 yX2_compareAmount ∈ hm_ws := List.mem_filter.mpr ⟨List.mem_of_getElem? (i := 445) rfl, rfl⟩
set_option maxRecDepth 100000 in
theorem kw_446 : Cond.methodLink RL 78 yL_digit ∈ hm_ws := List.mem_filter.mpr ⟨List.mem_of_getElem? (i := 446) rfl, rfl⟩
set_option maxRecDepth 100000 in
theorem kw_447 : Cond.static yL_digit ∈ hm_ws := List.mem_filter.mpr ⟨List.mem_of_getElem? (i := 447) rfl, rfl⟩
set_option maxRecDepth 100000 in
theorem kw_449 : Cond.methodLink RL 29 yX3_digit ∈ hm_ws := List.mem_filter.mpr ⟨List.mem_of_getElem? (i := 449) rfl, rfl⟩
set_option maxRecDepth 100000 in
theorem kw_450 : Cond.instanceMethod yX3_digit ∈ hm_ws := List.mem_filter.mpr ⟨List.mem_of_getElem? (i := 450) rfl, rfl⟩
set_option maxRecDepth 100000 in
theorem kw_451 : Cond.selects RX3 yX3_digit yX3_digit ∈ hm_ws := List.mem_filter.mpr ⟨List.mem_of_getElem? (i := 451) rfl, rfl⟩
set_option maxRecDepth 100000 in
theorem kw_452 : Cond.code yX3_digit cX3_digit 4 (some .int) ∈ hm_ws := List.mem_filter.mpr ⟨List.mem_of_getElem? (i := 452) rfl, rfl⟩
set_option maxRecDepth 100000 in
theorem kw_454 : Cond.methodLink RX3 119 yX2_dropDigits ∈ hm_ws := List.mem_filter.mpr ⟨List.mem_of_getElem? (i := 454) rfl, rfl⟩
set_option maxRecDepth 100000 in
theorem kw_455 : Cond.instanceMethod yX2_dropDigits ∈ hm_ws := List.mem_filter.mpr ⟨List.mem_of_getElem? (i := 455) rfl, rfl⟩
set_option maxRecDepth 100000 in
theorem kw_456 : Cond.selects RX2 yX2_dropDigits yX2_dropDigits ∈ hm_ws := List.mem_filter.mpr ⟨List.mem_of_getElem? (i := 456) rfl, rfl⟩
set_option maxRecDepth 100000 in
theorem kw_457 : Cond.code yX2_dropDigits cX2_dropDigits 3 none ∈ hm_ws := List.mem_filter.mpr ⟨List.mem_of_getElem? (i := 457) rfl, rfl⟩
set_option maxRecDepth 100000 in
theorem kw_458 : Cond.constant RX2 55 1000000000 ∈ hm_ws := List.mem_filter.mpr ⟨List.mem_of_getElem? (i := 458) rfl, rfl⟩
set_option maxRecDepth 100000 in
theorem kw_459 : Cond.methodLink RX2 56 yX2_divideBy ∈ hm_ws := List.mem_filter.mpr ⟨List.mem_of_getElem? (i := 459) rfl, rfl⟩
set_option maxRecDepth 100000 in
theorem kw_460 : Cond.methodLink RL 90 yL_residue ∈ hm_ws := List.mem_filter.mpr ⟨List.mem_of_getElem? (i := 460) rfl, rfl⟩
set_option maxRecDepth 100000 in
theorem kw_461 : Cond.static yL_residue ∈ hm_ws := List.mem_filter.mpr ⟨List.mem_of_getElem? (i := 461) rfl, rfl⟩
set_option maxRecDepth 100000 in
theorem kw_463 : Cond.methodLink RL 32 yX3_residue ∈ hm_ws := List.mem_filter.mpr ⟨List.mem_of_getElem? (i := 463) rfl, rfl⟩
set_option maxRecDepth 100000 in
theorem kw_464 : Cond.instanceMethod yX3_residue ∈ hm_ws := List.mem_filter.mpr ⟨List.mem_of_getElem? (i := 464) rfl, rfl⟩
set_option maxRecDepth 100000 in
theorem kw_465 : Cond.selects RX3 yX3_residue yX3_residue ∈ hm_ws := List.mem_filter.mpr ⟨List.mem_of_getElem? (i := 465) rfl, rfl⟩
set_option maxRecDepth 100000 in
theorem kw_466 : Cond.code yX3_residue cX3_residue 9 (some .long) ∈ hm_ws := List.mem_filter.mpr ⟨List.mem_of_getElem? (i := 466) rfl, rfl⟩
set_option maxRecDepth 100000 in
theorem kw_468 : Cond.methodLink RX3 133 yX2_restBelowZero ∈ hm_ws := List.mem_filter.mpr ⟨List.mem_of_getElem? (i := 468) rfl, rfl⟩
set_option maxRecDepth 100000 in
theorem kw_469 : Cond.instanceMethod yX2_restBelowZero ∈ hm_ws := List.mem_filter.mpr ⟨List.mem_of_getElem? (i := 469) rfl, rfl⟩
set_option maxRecDepth 100000 in
theorem kw_470 : Cond.selects RX2 yX2_restBelowZero yX2_restBelowZero ∈ hm_ws := List.mem_filter.mpr ⟨List.mem_of_getElem? (i := 470) rfl, rfl⟩
set_option maxRecDepth 100000 in
theorem kw_471 : Cond.code yX2_restBelowZero cX2_restBelowZero 9 (some .long) ∈ hm_ws := List.mem_filter.mpr ⟨List.mem_of_getElem? (i := 471) rfl, rfl⟩
set_option maxRecDepth 100000 in
theorem kw_472 : Cond.classLink RL 37 RX4 ∈ hm_ws := List.mem_filter.mpr ⟨List.mem_of_getElem? (i := 472) rfl, rfl⟩
set_option maxRecDepth 100000 in
theorem kw_473 : Cond.instantiable RX4 16 ∈ hm_ws := List.mem_filter.mpr ⟨List.mem_of_getElem? (i := 473) rfl, rfl⟩
set_option maxRecDepth 100000 in
theorem kw_474 : Cond.methodLink RL 39 yX4_init ∈ hm_ws := List.mem_filter.mpr ⟨List.mem_of_getElem? (i := 474) rfl, rfl⟩
set_option maxRecDepth 100000 in
theorem kw_475 : Cond.instanceMethod yX4_init ∈ hm_ws := List.mem_filter.mpr ⟨List.mem_of_getElem? (i := 475) rfl, rfl⟩
set_option maxRecDepth 100000 in
theorem kw_476 : Cond.code yX4_init cX4_init 1 none ∈ hm_ws := List.mem_filter.mpr ⟨List.mem_of_getElem? (i := 476) rfl, rfl⟩
set_option maxRecDepth 100000 in
theorem kw_477 : Cond.methodLink RX4 1 objectInit ∈ hm_ws := List.mem_filter.mpr ⟨List.mem_of_getElem? (i := 477) rfl, rfl⟩
set_option maxRecDepth 100000 in
theorem kw_478 : Cond.constant RX4 33 212992 ∈ hm_ws := List.mem_filter.mpr ⟨List.mem_of_getElem? (i := 478) rfl, rfl⟩
set_option maxRecDepth 100000 in
theorem kw_479 : Cond.fieldLink RX4 49 "WideCountsModel" "thrown" "I" ∈ hm_ws := List.mem_filter.mpr ⟨List.mem_of_getElem? (i := 479) rfl, rfl⟩
set_option maxRecDepth 100000 in
theorem kw_480 : Cond.fieldLink RX4 53 "WideCountsModel" "kept" "I" ∈ hm_ws := List.mem_filter.mpr ⟨List.mem_of_getElem? (i := 480) rfl, rfl⟩
set_option maxRecDepth 100000 in
theorem kw_481 : Cond.fieldLink RX4 7 "WideCountsModel" "limbs" "[I" ∈ hm_ws := List.mem_filter.mpr ⟨List.mem_of_getElem? (i := 481) rfl, rfl⟩
set_option maxRecDepth 100000 in
theorem kw_482 : Cond.fieldLink RX4 13 "WideCountsModel" "sizes" "[I" ∈ hm_ws := List.mem_filter.mpr ⟨List.mem_of_getElem? (i := 482) rfl, rfl⟩
set_option maxRecDepth 100000 in
theorem kw_483 : Cond.fieldLink RX4 16 "WideCountsModel" "below" "[Z" ∈ hm_ws := List.mem_filter.mpr ⟨List.mem_of_getElem? (i := 483) rfl, rfl⟩
set_option maxRecDepth 100000 in
theorem kw_484 : Cond.fieldLink RX4 20 "WideCountsModel" "table" "[J" ∈ hm_ws := List.mem_filter.mpr ⟨List.mem_of_getElem? (i := 484) rfl, rfl⟩
set_option maxRecDepth 100000 in
theorem kw_485 : Cond.fieldLink RX4 24 "WideCountsModel" "work" "[I" ∈ hm_ws := List.mem_filter.mpr ⟨List.mem_of_getElem? (i := 485) rfl, rfl⟩
set_option maxRecDepth 100000 in
theorem kw_486 : Cond.fieldLink RX4 64 "WideCountsModel" "workSize" "I" ∈ hm_ws := List.mem_filter.mpr ⟨List.mem_of_getElem? (i := 486) rfl, rfl⟩
set_option maxRecDepth 100000 in
theorem kw_487 : Cond.fieldLink RX4 27 "WideCountsModel" "other" "[I" ∈ hm_ws := List.mem_filter.mpr ⟨List.mem_of_getElem? (i := 487) rfl, rfl⟩
set_option maxRecDepth 100000 in
theorem kw_488 : Cond.fieldLink RX4 67 "WideCountsModel" "otherSize" "I" ∈ hm_ws := List.mem_filter.mpr ⟨List.mem_of_getElem? (i := 488) rfl, rfl⟩
set_option maxRecDepth 100000 in
theorem kw_489 : Cond.fieldLink RX4 30 "WideCountsModel" "rest" "[I" ∈ hm_ws := List.mem_filter.mpr ⟨List.mem_of_getElem? (i := 489) rfl, rfl⟩
set_option maxRecDepth 100000 in
theorem kw_490 : Cond.fieldLink RX4 34 "WideCountsModel" "minors" "[I" ∈ hm_ws := List.mem_filter.mpr ⟨List.mem_of_getElem? (i := 490) rfl, rfl⟩
set_option maxRecDepth 100000 in
theorem kw_491 : Cond.fieldLink RX4 37 "WideCountsModel" "minorBelow" "[Z" ∈ hm_ws := List.mem_filter.mpr ⟨List.mem_of_getElem? (i := 491) rfl, rfl⟩
set_option maxRecDepth 100000 in
theorem kw_492 : Cond.fieldLink RX4 40 "WideCountsModel" "up" "[I" ∈ hm_ws := List.mem_filter.mpr ⟨List.mem_of_getElem? (i := 492) rfl, rfl⟩
set_option maxRecDepth 100000 in
theorem kw_493 : Cond.fieldLink RX4 43 "WideCountsModel" "plus" "[I" ∈ hm_ws := List.mem_filter.mpr ⟨List.mem_of_getElem? (i := 493) rfl, rfl⟩
set_option maxRecDepth 100000 in
theorem kw_494 : Cond.fieldLink RX4 46 "WideCountsModel" "minus" "[I" ∈ hm_ws := List.mem_filter.mpr ⟨List.mem_of_getElem? (i := 494) rfl, rfl⟩
set_option maxRecDepth 100000 in
theorem kw_528 : Cond.arrayClass .boolean ∈ hm_ws := List.mem_filter.mpr ⟨List.mem_of_getElem? (i := 528) rfl, rfl⟩
set_option maxRecDepth 100000 in
theorem kw_529 : Cond.methodLink RL 53 yX4_thrown ∈ hm_ws := List.mem_filter.mpr ⟨List.mem_of_getElem? (i := 529) rfl, rfl⟩
set_option maxRecDepth 100000 in
theorem kw_530 : Cond.instanceMethod yX4_thrown ∈ hm_ws := List.mem_filter.mpr ⟨List.mem_of_getElem? (i := 530) rfl, rfl⟩
set_option maxRecDepth 100000 in
theorem kw_531 : Cond.selects RX4 yX4_thrown yX4_thrown ∈ hm_ws := List.mem_filter.mpr ⟨List.mem_of_getElem? (i := 531) rfl, rfl⟩
set_option maxRecDepth 100000 in
theorem kw_532 : Cond.code yX4_thrown cX4_thrown 1 (some .int) ∈ hm_ws := List.mem_filter.mpr ⟨List.mem_of_getElem? (i := 532) rfl, rfl⟩
set_option maxRecDepth 100000 in
theorem kw_533 : Cond.methodLink RL 46 yX4_value ∈ hm_ws := List.mem_filter.mpr ⟨List.mem_of_getElem? (i := 533) rfl, rfl⟩
set_option maxRecDepth 100000 in
theorem kw_534 : Cond.instanceMethod yX4_value ∈ hm_ws := List.mem_filter.mpr ⟨List.mem_of_getElem? (i := 534) rfl, rfl⟩
set_option maxRecDepth 100000 in
theorem kw_535 : Cond.selects RX4 yX4_value yX4_value ∈ hm_ws := List.mem_filter.mpr ⟨List.mem_of_getElem? (i := 535) rfl, rfl⟩
set_option maxRecDepth 100000 in
theorem kw_536 : Cond.code yX4_value cX4_value 3 (some .int) ∈ hm_ws := List.mem_filter.mpr ⟨List.mem_of_getElem? (i := 536) rfl, rfl⟩
set_option maxRecDepth 100000 in
theorem kw_537 : Cond.methodLink RX4 84 yX4_loadLong ∈ hm_ws := List.mem_filter.mpr ⟨List.mem_of_getElem? (i := 537) rfl, rfl⟩
set_option maxRecDepth 100000 in
theorem kw_539 : Cond.instanceMethod yX4_loadLong ∈ hm_ws := List.mem_filter.mpr ⟨List.mem_of_getElem? (i := 539) rfl, rfl⟩
set_option maxRecDepth 100000 in
theorem kw_540 : Cond.code yX4_loadLong cX4_loadLong 6 none ∈ hm_ws := List.mem_filter.mpr ⟨List.mem_of_getElem? (i := 540) rfl, rfl⟩
set_option maxRecDepth 100000 in
theorem kw_541 : Cond.methodLink RX4 60 yX4_clear ∈ hm_ws := List.mem_filter.mpr ⟨List.mem_of_getElem? (i := 541) rfl, rfl⟩
set_option maxRecDepth 100000 in
theorem kw_543 : Cond.instanceMethod yX4_clear ∈ hm_ws := List.mem_filter.mpr ⟨List.mem_of_getElem? (i := 543) rfl, rfl⟩
set_option maxRecDepth 100000 in
theorem kw_544 : Cond.code yX4_clear cX4_clear 3 none ∈ hm_ws := List.mem_filter.mpr ⟨List.mem_of_getElem? (i := 544) rfl, rfl⟩
set_option maxRecDepth 100000 in
theorem kw_545 : Cond.constantLong RX4 70 65535 ∈ hm_ws := List.mem_filter.mpr ⟨List.mem_of_getElem? (i := 545) rfl, rfl⟩
set_option maxRecDepth 100000 in
theorem kw_546 : Cond.methodLink RX4 72 yX4_sizeOf ∈ hm_ws := List.mem_filter.mpr ⟨List.mem_of_getElem? (i := 546) rfl, rfl⟩
set_option maxRecDepth 100000 in
theorem kw_547 : Cond.static yX4_sizeOf ∈ hm_ws := List.mem_filter.mpr ⟨List.mem_of_getElem? (i := 547) rfl, rfl⟩
set_option maxRecDepth 100000 in
theorem kw_548 : Cond.code yX4_sizeOf cX4_sizeOf 3 (some .int) ∈ hm_ws := List.mem_filter.mpr ⟨List.mem_of_getElem? (i := 548) rfl, rfl⟩
set_option maxRecDepth 100000 in
theorem kw_549 : Cond.methodLink RX4 88 yX4_keep ∈ hm_ws := List.mem_filter.mpr ⟨List.mem_of_getElem? (i := 549) rfl, rfl⟩
set_option maxRecDepth 100000 in
theorem kw_551 : Cond.instanceMethod yX4_keep ∈ hm_ws := List.mem_filter.mpr ⟨List.mem_of_getElem? (i := 551) rfl, rfl⟩
set_option maxRecDepth 100000 in
theorem kw_552 : Cond.code yX4_keep cX4_keep 3 (some .int) ∈ hm_ws := List.mem_filter.mpr ⟨List.mem_of_getElem? (i := 552) rfl, rfl⟩
set_option maxRecDepth 100000 in
theorem kw_553 : Cond.methodLink RX4 76 yX4_isTooWide ∈ hm_ws := List.mem_filter.mpr ⟨List.mem_of_getElem? (i := 553) rfl, rfl⟩
set_option maxRecDepth 100000 in
theorem kw_555 : Cond.instanceMethod yX4_isTooWide ∈ hm_ws := List.mem_filter.mpr ⟨List.mem_of_getElem? (i := 555) rfl, rfl⟩
set_option maxRecDepth 100000 in
theorem kw_556 : Cond.code yX4_isTooWide cX4_isTooWide 1 (some .boolean) ∈ hm_ws := List.mem_filter.mpr ⟨List.mem_of_getElem? (i := 556) rfl, rfl⟩
set_option maxRecDepth 100000 in
theorem kw_557 : Cond.methodLink RL 52 yX4_add ∈ hm_ws := List.mem_filter.mpr ⟨List.mem_of_getElem? (i := 557) rfl, rfl⟩
set_option maxRecDepth 100000 in
theorem kw_558 : Cond.instanceMethod yX4_add ∈ hm_ws := List.mem_filter.mpr ⟨List.mem_of_getElem? (i := 558) rfl, rfl⟩
set_option maxRecDepth 100000 in
theorem kw_559 : Cond.selects RX4 yX4_add yX4_add ∈ hm_ws := List.mem_filter.mpr ⟨List.mem_of_getElem? (i := 559) rfl, rfl⟩
set_option maxRecDepth 100000 in
theorem kw_560 : Cond.code yX4_add cX4_add 5 (some .int) ∈ hm_ws := List.mem_filter.mpr ⟨List.mem_of_getElem? (i := 560) rfl, rfl⟩
set_option maxRecDepth 100000 in
theorem kw_561 : Cond.methodLink RX4 92 yX4_areKnown ∈ hm_ws := List.mem_filter.mpr ⟨List.mem_of_getElem? (i := 561) rfl, rfl⟩
set_option maxRecDepth 100000 in
theorem kw_563 : Cond.instanceMethod yX4_areKnown ∈ hm_ws := List.mem_filter.mpr ⟨List.mem_of_getElem? (i := 563) rfl, rfl⟩
set_option maxRecDepth 100000 in
theorem kw_564 : Cond.code yX4_areKnown cX4_areKnown 3 (some .boolean) ∈ hm_ws := List.mem_filter.mpr ⟨List.mem_of_getElem? (i := 564) rfl, rfl⟩
set_option maxRecDepth 100000 in
theorem kw_565 : Cond.methodLink RX4 56 yX4_isKnown ∈ hm_ws := List.mem_filter.mpr ⟨List.mem_of_getElem? (i := 565) rfl, rfl⟩
set_option maxRecDepth 100000 in
theorem kw_567 : Cond.instanceMethod yX4_isKnown ∈ hm_ws := List.mem_filter.mpr ⟨List.mem_of_getElem? (i := 567) rfl, rfl⟩
set_option maxRecDepth 100000 in
theorem kw_568 : Cond.code yX4_isKnown cX4_isKnown 2 (some .boolean) ∈ hm_ws := List.mem_filter.mpr ⟨List.mem_of_getElem? (i := 568) rfl, rfl⟩
set_option maxRecDepth 100000 in
theorem kw_569 : Cond.methodLink RX4 96 yX4_load ∈ hm_ws := List.mem_filter.mpr ⟨List.mem_of_getElem? (i := 569) rfl, rfl⟩
set_option maxRecDepth 100000 in
theorem kw_571 : Cond.instanceMethod yX4_load ∈ hm_ws := List.mem_filter.mpr ⟨List.mem_of_getElem? (i := 571) rfl, rfl⟩
set_option maxRecDepth 100000 in
theorem kw_572 : Cond.code yX4_load cX4_load 3 none ∈ hm_ws := List.mem_filter.mpr ⟨List.mem_of_getElem? (i := 572) rfl, rfl⟩
set_option maxRecDepth 100000 in
theorem kw_573 : Cond.methodLink RX4 100 yX4_loadOther ∈ hm_ws := List.mem_filter.mpr ⟨List.mem_of_getElem? (i := 573) rfl, rfl⟩
set_option maxRecDepth 100000 in
theorem kw_575 : Cond.instanceMethod yX4_loadOther ∈ hm_ws := List.mem_filter.mpr ⟨List.mem_of_getElem? (i := 575) rfl, rfl⟩
set_option maxRecDepth 100000 in
theorem kw_576 : Cond.code yX4_loadOther cX4_loadOther 3 none ∈ hm_ws := List.mem_filter.mpr ⟨List.mem_of_getElem? (i := 576) rfl, rfl⟩
set_option maxRecDepth 100000 in
theorem kw_577 : Cond.methodLink RX4 103 yX4_grow ∈ hm_ws := List.mem_filter.mpr ⟨List.mem_of_getElem? (i := 577) rfl, rfl⟩
set_option maxRecDepth 100000 in
theorem kw_579 : Cond.instanceMethod yX4_grow ∈ hm_ws := List.mem_filter.mpr ⟨List.mem_of_getElem? (i := 579) rfl, rfl⟩
set_option maxRecDepth 100000 in
theorem kw_580 : Cond.code yX4_grow cX4_grow 5 none ∈ hm_ws := List.mem_filter.mpr ⟨List.mem_of_getElem? (i := 580) rfl, rfl⟩
set_option maxRecDepth 100000 in
theorem kw_581 : Cond.constant RX4 80 65535 ∈ hm_ws := List.mem_filter.mpr ⟨List.mem_of_getElem? (i := 581) rfl, rfl⟩
set_option maxRecDepth 100000 in
theorem kw_582 : Cond.methodLink RX4 106 yX4_compare ∈ hm_ws := List.mem_filter.mpr ⟨List.mem_of_getElem? (i := 582) rfl, rfl⟩
set_option maxRecDepth 100000 in
theorem kw_584 : Cond.instanceMethod yX4_compare ∈ hm_ws := List.mem_filter.mpr ⟨List.mem_of_getElem? (i := 584) rfl, rfl⟩
set_option maxRecDepth 100000 in
theorem kw_585 : Cond.code yX4_compare cX4_compare 2 (some .int) ∈ hm_ws := List.mem_filter.mpr ⟨List.mem_of_getElem? (i := 585) rfl, rfl⟩
set_option maxRecDepth 100000 in
theorem kw_586 : Cond.methodLink RX4 110 yX4_shrink ∈ hm_ws := List.mem_filter.mpr ⟨List.mem_of_getElem? (i := 586) rfl, rfl⟩
set_option maxRecDepth 100000 in
theorem kw_588 : Cond.instanceMethod yX4_shrink ∈ hm_ws := List.mem_filter.mpr ⟨List.mem_of_getElem? (i := 588) rfl, rfl⟩
set_option maxRecDepth 100000 in
theorem kw_589 : Cond.code yX4_shrink cX4_shrink 6 none ∈ hm_ws := List.mem_filter.mpr ⟨List.mem_of_getElem? (i := 589) rfl, rfl⟩
set_option maxRecDepth 100000 in
theorem kw_590 : Cond.methodLink RL 59 yX4_times ∈ hm_ws := List.mem_filter.mpr ⟨List.mem_of_getElem? (i := 590) rfl, rfl⟩
set_option maxRecDepth 100000 in
theorem kw_591 : Cond.instanceMethod yX4_times ∈ hm_ws := List.mem_filter.mpr ⟨List.mem_of_getElem? (i := 591) rfl, rfl⟩
set_option maxRecDepth 100000 in
theorem kw_592 : Cond.selects RX4 yX4_times yX4_times ∈ hm_ws := List.mem_filter.mpr ⟨List.mem_of_getElem? (i := 592) rfl, rfl⟩
set_option maxRecDepth 100000 in
theorem kw_593 : Cond.code yX4_times cX4_times 3 (some .int) ∈ hm_ws := List.mem_filter.mpr ⟨List.mem_of_getElem? (i := 593) rfl, rfl⟩
set_option maxRecDepth 100000 in
theorem kw_594 : Cond.methodLink RX4 114 yX4_multiply ∈ hm_ws := List.mem_filter.mpr ⟨List.mem_of_getElem? (i := 594) rfl, rfl⟩
set_option maxRecDepth 100000 in
theorem kw_596 : Cond.instanceMethod yX4_multiply ∈ hm_ws := List.mem_filter.mpr ⟨List.mem_of_getElem? (i := 596) rfl, rfl⟩
set_option maxRecDepth 100000 in
theorem kw_597 : Cond.code yX4_multiply cX4_multiply 6 none ∈ hm_ws := List.mem_filter.mpr ⟨List.mem_of_getElem? (i := 597) rfl, rfl⟩
set_option maxRecDepth 100000 in
theorem kw_598 : Cond.methodLink RL 62 yX4_over ∈ hm_ws := List.mem_filter.mpr ⟨List.mem_of_getElem? (i := 598) rfl, rfl⟩
set_option maxRecDepth 100000 in
theorem kw_599 : Cond.instanceMethod yX4_over ∈ hm_ws := List.mem_filter.mpr ⟨List.mem_of_getElem? (i := 599) rfl, rfl⟩
set_option maxRecDepth 100000 in
theorem kw_600 : Cond.selects RX4 yX4_over yX4_over ∈ hm_ws := List.mem_filter.mpr ⟨List.mem_of_getElem? (i := 600) rfl, rfl⟩
set_option maxRecDepth 100000 in
theorem kw_601 : Cond.code yX4_over cX4_over 3 (some .int) ∈ hm_ws := List.mem_filter.mpr ⟨List.mem_of_getElem? (i := 601) rfl, rfl⟩
set_option maxRecDepth 100000 in
theorem kw_602 : Cond.methodLink RX4 117 yX4_divide ∈ hm_ws := List.mem_filter.mpr ⟨List.mem_of_getElem? (i := 602) rfl, rfl⟩
set_option maxRecDepth 100000 in
theorem kw_604 : Cond.instanceMethod yX4_divide ∈ hm_ws := List.mem_filter.mpr ⟨List.mem_of_getElem? (i := 604) rfl, rfl⟩
set_option maxRecDepth 100000 in
theorem kw_605 : Cond.code yX4_divide cX4_divide 7 none ∈ hm_ws := List.mem_filter.mpr ⟨List.mem_of_getElem? (i := 605) rfl, rfl⟩
set_option maxRecDepth 100000 in
theorem kw_606 : Cond.methodLink RX4 81 yX4_reaches ∈ hm_ws := List.mem_filter.mpr ⟨List.mem_of_getElem? (i := 606) rfl, rfl⟩
set_option maxRecDepth 100000 in
theorem kw_608 : Cond.instanceMethod yX4_reaches ∈ hm_ws := List.mem_filter.mpr ⟨List.mem_of_getElem? (i := 608) rfl, rfl⟩
set_option maxRecDepth 100000 in
theorem kw_609 : Cond.code yX4_reaches cX4_reaches 2 (some .boolean) ∈ hm_ws := List.mem_filter.mpr ⟨List.mem_of_getElem? (i := 609) rfl, rfl⟩
set_option maxRecDepth 100000 in
theorem kw_610 : Cond.methodLink RL 65 yX4_power ∈ hm_ws := List.mem_filter.mpr ⟨List.mem_of_getElem? (i := 610) rfl, rfl⟩
set_option maxRecDepth 100000 in
theorem kw_611 : Cond.instanceMethod yX4_power ∈ hm_ws := List.mem_filter.mpr ⟨List.mem_of_getElem? (i := 611) rfl, rfl⟩
set_option maxRecDepth 100000 in
theorem kw_612 : Cond.selects RX4 yX4_power yX4_power ∈ hm_ws := List.mem_filter.mpr ⟨List.mem_of_getElem? (i := 612) rfl, rfl⟩
set_option maxRecDepth 100000 in
theorem kw_613 : Cond.code yX4_power cX4_power 5 (some .int) ∈ hm_ws := List.mem_filter.mpr ⟨List.mem_of_getElem? (i := 613) rfl, rfl⟩
set_option maxRecDepth 100000 in
theorem kw_614 : Cond.constant RX4 120 1000000 ∈ hm_ws := List.mem_filter.mpr ⟨List.mem_of_getElem? (i := 614) rfl, rfl⟩
set_option maxRecDepth 100000 in
theorem kw_615 : Cond.methodLink RL 69 yX4_binomial ∈ hm_ws := List.mem_filter.mpr ⟨List.mem_of_getElem? (i := 615) rfl, rfl⟩
set_option maxRecDepth 100000 in
theorem kw_616 : Cond.instanceMethod yX4_binomial ∈ hm_ws := List.mem_filter.mpr ⟨List.mem_of_getElem? (i := 616) rfl, rfl⟩
set_option maxRecDepth 100000 in
theorem kw_617 : Cond.selects RX4 yX4_binomial yX4_binomial ∈ hm_ws := List.mem_filter.mpr ⟨List.mem_of_getElem? (i := 617) rfl, rfl⟩
set_option maxRecDepth 100000 in
theorem kw_618 : Cond.code yX4_binomial cX4_binomial 5 (some .int) ∈ hm_ws := List.mem_filter.mpr ⟨List.mem_of_getElem? (i := 618) rfl, rfl⟩
set_option maxRecDepth 100000 in
theorem kw_619 : Cond.methodLink RX4 121 yX4_multiplyBy ∈ hm_ws := List.mem_filter.mpr ⟨List.mem_of_getElem? (i := 619) rfl, rfl⟩
set_option maxRecDepth 100000 in
theorem kw_621 : Cond.instanceMethod yX4_multiplyBy ∈ hm_ws := List.mem_filter.mpr ⟨List.mem_of_getElem? (i := 621) rfl, rfl⟩
set_option maxRecDepth 100000 in
theorem kw_622 : Cond.code yX4_multiplyBy cX4_multiplyBy 5 none ∈ hm_ws := List.mem_filter.mpr ⟨List.mem_of_getElem? (i := 622) rfl, rfl⟩
set_option maxRecDepth 100000 in
theorem kw_623 : Cond.methodLink RX4 124 yX4_divideBy ∈ hm_ws := List.mem_filter.mpr ⟨List.mem_of_getElem? (i := 623) rfl, rfl⟩
set_option maxRecDepth 100000 in
theorem kw_625 : Cond.instanceMethod yX4_divideBy ∈ hm_ws := List.mem_filter.mpr ⟨List.mem_of_getElem? (i := 625) rfl, rfl⟩
set_option maxRecDepth 100000 in
theorem kw_626 : Cond.code yX4_divideBy cX4_divideBy 5 (some .int) ∈ hm_ws := List.mem_filter.mpr ⟨List.mem_of_getElem? (i := 626) rfl, rfl⟩
set_option maxRecDepth 100000 in
theorem kw_627 : Cond.methodLink RL 74 yX4_factorial ∈ hm_ws := List.mem_filter.mpr ⟨List.mem_of_getElem? (i := 627) rfl, rfl⟩
set_option maxRecDepth 100000 in
theorem kw_628 : Cond.instanceMethod yX4_factorial ∈ hm_ws := List.mem_filter.mpr ⟨List.mem_of_getElem? (i := 628) rfl, rfl⟩
set_option maxRecDepth 100000 in
theorem kw_629 : Cond.selects RX4 yX4_factorial yX4_factorial ∈ hm_ws := List.mem_filter.mpr ⟨List.mem_of_getElem? (i := 629) rfl, rfl⟩
set_option maxRecDepth 100000 in
theorem kw_630 : Cond.code yX4_factorial cX4_factorial 3 (some .int) ∈ hm_ws := List.mem_filter.mpr ⟨List.mem_of_getElem? (i := 630) rfl, rfl⟩
set_option maxRecDepth 100000 in
theorem kw_631 : Cond.methodLink RL 77 yX4_order ∈ hm_ws := List.mem_filter.mpr ⟨List.mem_of_getElem? (i := 631) rfl, rfl⟩
set_option maxRecDepth 100000 in
theorem kw_632 : Cond.instanceMethod yX4_order ∈ hm_ws := List.mem_filter.mpr ⟨List.mem_of_getElem? (i := 632) rfl, rfl⟩
set_option maxRecDepth 100000 in
theorem kw_633 : Cond.selects RX4 yX4_order yX4_order ∈ hm_ws := List.mem_filter.mpr ⟨List.mem_of_getElem? (i := 633) rfl, rfl⟩
set_option maxRecDepth 100000 in
theorem kw_634 : Cond.code yX4_order cX4_order 3 (some .int) ∈ hm_ws := List.mem_filter.mpr ⟨List.mem_of_getElem? (i := 634) rfl, rfl⟩
set_option maxRecDepth 100000 in
theorem kw_635 : Cond.methodLink RL 80 yX4_digit ∈ hm_ws := List.mem_filter.mpr ⟨List.mem_of_getElem? (i := 635) rfl, rfl⟩
set_option maxRecDepth 100000 in
theorem kw_636 : Cond.instanceMethod yX4_digit ∈ hm_ws := List.mem_filter.mpr ⟨List.mem_of_getElem? (i := 636) rfl, rfl⟩
set_option maxRecDepth 100000 in
theorem kw_637 : Cond.selects RX4 yX4_digit yX4_digit ∈ hm_ws := List.mem_filter.mpr ⟨List.mem_of_getElem? (i := 637) rfl, rfl⟩
set_option maxRecDepth 100000 in
theorem kw_638 : Cond.code yX4_digit cX4_digit 5 (some .int) ∈ hm_ws := List.mem_filter.mpr ⟨List.mem_of_getElem? (i := 638) rfl, rfl⟩
set_option maxRecDepth 100000 in
theorem kw_639 : Cond.methodLink RL 93 yX4_residue ∈ hm_ws := List.mem_filter.mpr ⟨List.mem_of_getElem? (i := 639) rfl, rfl⟩
set_option maxRecDepth 100000 in
theorem kw_640 : Cond.instanceMethod yX4_residue ∈ hm_ws := List.mem_filter.mpr ⟨List.mem_of_getElem? (i := 640) rfl, rfl⟩
set_option maxRecDepth 100000 in
theorem kw_641 : Cond.selects RX4 yX4_residue yX4_residue ∈ hm_ws := List.mem_filter.mpr ⟨List.mem_of_getElem? (i := 641) rfl, rfl⟩
set_option maxRecDepth 100000 in
theorem kw_642 : Cond.code yX4_residue cX4_residue 9 (some .long) ∈ hm_ws := List.mem_filter.mpr ⟨List.mem_of_getElem? (i := 642) rfl, rfl⟩
set_option maxRecDepth 100000 in
theorem kw_643 : Cond.constantLong RX4 128 (-9223372036854775808) ∈ hm_ws := List.mem_filter.mpr ⟨List.mem_of_getElem? (i := 643) rfl, rfl⟩
set_option maxRecDepth 100000 in
theorem kw_644 : Cond.methodLink RL 97 yX4_kept ∈ hm_ws := List.mem_filter.mpr ⟨List.mem_of_getElem? (i := 644) rfl, rfl⟩
set_option maxRecDepth 100000 in
theorem kw_645 : Cond.instanceMethod yX4_kept ∈ hm_ws := List.mem_filter.mpr ⟨List.mem_of_getElem? (i := 645) rfl, rfl⟩
set_option maxRecDepth 100000 in
theorem kw_646 : Cond.selects RX4 yX4_kept yX4_kept ∈ hm_ws := List.mem_filter.mpr ⟨List.mem_of_getElem? (i := 646) rfl, rfl⟩
set_option maxRecDepth 100000 in
theorem kw_647 : Cond.code yX4_kept cX4_kept 1 (some .int) ∈ hm_ws := List.mem_filter.mpr ⟨List.mem_of_getElem? (i := 647) rfl, rfl⟩
set_option maxRecDepth 100000 in
theorem kw_648 : Cond.methodLink RL 85 yX4_entry ∈ hm_ws := List.mem_filter.mpr ⟨List.mem_of_getElem? (i := 648) rfl, rfl⟩
set_option maxRecDepth 100000 in
theorem kw_649 : Cond.instanceMethod yX4_entry ∈ hm_ws := List.mem_filter.mpr ⟨List.mem_of_getElem? (i := 649) rfl, rfl⟩
set_option maxRecDepth 100000 in
theorem kw_650 : Cond.selects RX4 yX4_entry yX4_entry ∈ hm_ws := List.mem_filter.mpr ⟨List.mem_of_getElem? (i := 650) rfl, rfl⟩
set_option maxRecDepth 100000 in
theorem kw_651 : Cond.code yX4_entry cX4_entry 5 (some .boolean) ∈ hm_ws := List.mem_filter.mpr ⟨List.mem_of_getElem? (i := 651) rfl, rfl⟩
set_option maxRecDepth 100000 in
theorem kw_652 : Cond.methodLink RL 89 yX4_determinant ∈ hm_ws := List.mem_filter.mpr ⟨List.mem_of_getElem? (i := 652) rfl, rfl⟩
set_option maxRecDepth 100000 in
theorem kw_653 : Cond.instanceMethod yX4_determinant ∈ hm_ws := List.mem_filter.mpr ⟨List.mem_of_getElem? (i := 653) rfl, rfl⟩
set_option maxRecDepth 100000 in
theorem kw_654 : Cond.selects RX4 yX4_determinant yX4_determinant ∈ hm_ws := List.mem_filter.mpr ⟨List.mem_of_getElem? (i := 654) rfl, rfl⟩
set_option maxRecDepth 100000 in
theorem kw_655 : Cond.code yX4_determinant cX4_determinant 4 (some .int) ∈ hm_ws := List.mem_filter.mpr ⟨List.mem_of_getElem? (i := 655) rfl, rfl⟩
set_option maxRecDepth 100000 in
theorem kw_656 : Cond.methodLink RX4 141 yX4_minorOf ∈ hm_ws := List.mem_filter.mpr ⟨List.mem_of_getElem? (i := 656) rfl, rfl⟩
set_option maxRecDepth 100000 in
theorem kw_658 : Cond.instanceMethod yX4_minorOf ∈ hm_ws := List.mem_filter.mpr ⟨List.mem_of_getElem? (i := 658) rfl, rfl⟩
set_option maxRecDepth 100000 in
theorem kw_659 : Cond.code yX4_minorOf cX4_minorOf 9 none ∈ hm_ws := List.mem_filter.mpr ⟨List.mem_of_getElem? (i := 659) rfl, rfl⟩
set_option maxRecDepth 100000 in
theorem kw_660 : Cond.methodLink RX4 130 yX4_bits ∈ hm_ws := List.mem_filter.mpr ⟨List.mem_of_getElem? (i := 660) rfl, rfl⟩
set_option maxRecDepth 100000 in
theorem kw_661 : Cond.static yX4_bits ∈ hm_ws := List.mem_filter.mpr ⟨List.mem_of_getElem? (i := 661) rfl, rfl⟩
set_option maxRecDepth 100000 in
theorem kw_662 : Cond.code yX4_bits cX4_bits 3 (some .int) ∈ hm_ws := List.mem_filter.mpr ⟨List.mem_of_getElem? (i := 662) rfl, rfl⟩
set_option maxRecDepth 100000 in
theorem kw_663 : Cond.methodLink RX4 133 yX4_product ∈ hm_ws := List.mem_filter.mpr ⟨List.mem_of_getElem? (i := 663) rfl, rfl⟩
set_option maxRecDepth 100000 in
theorem kw_665 : Cond.instanceMethod yX4_product ∈ hm_ws := List.mem_filter.mpr ⟨List.mem_of_getElem? (i := 665) rfl, rfl⟩
set_option maxRecDepth 100000 in
theorem kw_666 : Cond.code yX4_product cX4_product 15 none ∈ hm_ws := List.mem_filter.mpr ⟨List.mem_of_getElem? (i := 666) rfl, rfl⟩
set_option maxRecDepth 100000 in
theorem kw_667 : Cond.methodLink RX4 137 yX4_addTo ∈ hm_ws := List.mem_filter.mpr ⟨List.mem_of_getElem? (i := 667) rfl, rfl⟩
set_option maxRecDepth 100000 in
theorem kw_669 : Cond.instanceMethod yX4_addTo ∈ hm_ws := List.mem_filter.mpr ⟨List.mem_of_getElem? (i := 669) rfl, rfl⟩
set_option maxRecDepth 100000 in
theorem kw_670 : Cond.code yX4_addTo cX4_addTo 6 none ∈ hm_ws := List.mem_filter.mpr ⟨List.mem_of_getElem? (i := 670) rfl, rfl⟩
set_option maxRecDepth 100000 in
theorem kw_671 : Cond.constantLong RL 40 4294967295 ∈ hm_ws := List.mem_filter.mpr ⟨List.mem_of_getElem? (i := 671) rfl, rfl⟩
theorem kin_X0 : ∀ w ∈ wsX00, w ∈ hm_ws := by
  have h : ∀ w ∈ wsX00, w ∈ lw_tbl ∧ goodWord w = true := by decide +kernel
  exact fun w hw => List.mem_filter.mpr (h w hw)
theorem kin_X1 : ∀ w ∈ wsX10, w ∈ hm_ws := by
  have h : ∀ w ∈ wsX10, w ∈ lw_tbl ∧ goodWord w = true := by decide +kernel
  exact fun w hw => List.mem_filter.mpr (h w hw)
theorem kin_X2 : ∀ w ∈ wsX20, w ∈ hm_ws := by
  have h : ∀ w ∈ wsX20, w ∈ lw_tbl ∧ goodWord w = true := by decide +kernel
  exact fun w hw => List.mem_filter.mpr (h w hw)
theorem kin_X3 : ∀ w ∈ wsX30, w ∈ hm_ws := by
  have h : ∀ w ∈ wsX30, w ∈ lw_tbl ∧ goodWord w = true := by decide +kernel
  exact fun w hw => List.mem_filter.mpr (h w hw)
theorem kin_X4 : ∀ w ∈ wsX40, w ∈ hm_ws := by
  have h : ∀ w ∈ wsX40, w ∈ lw_tbl ∧ goodWord w = true := by decide +kernel
  exact fun w hw => List.mem_filter.mpr (h w hw)
theorem hm_gw {w : Cond} (h : w ∈ hm_ws) : (w.onTables && w.keeps) = true ∨ ∃ ty, w = .arrayClass ty := good_of_word (List.mem_filter.mp h).2
/-- a callee's words among a caller's -/
theorem hm_gI {c0 cy : Cond} (hc : cy ∈ hm_ws) : GoodIn (c0 :: hm_ws) (cy :: hm_ws) := fun w hw => by
  have h : w ∈ hm_ws := by
    rcases List.mem_cons.mp hw with q | q
    · rw [q]; exact hc
    · exact q
  exact ⟨List.mem_cons_of_mem _ h, hm_gw h⟩
theorem hm_gV {c0 cy : Cond} {own C : String} {idx : Nat} {y : MethodName} (h1 : Cond.methodLink own idx y ∈ hm_ws) (h2 : Cond.instanceMethod y ∈ hm_ws) (h3 : Cond.selects C y y ∈ hm_ws) (h4 : Cond.initialized C ∈ hm_ws) (hc : cy ∈ hm_ws) : GoodIn (c0 :: hm_ws) (wsV own idx C y (cy :: hm_ws)) := fun w hw => by
  have h : w ∈ hm_ws := by
    rcases List.mem_append.mp hw with q | q
    · simp only [List.mem_cons, List.not_mem_nil, or_false] at q
      rcases q with q | q | q | q <;> rw [q] <;> assumption
    · rcases List.mem_cons.mp q with q | q
      · rw [q]; exact hc
      · exact q
  exact ⟨List.mem_cons_of_mem _ h, hm_gw h⟩
theorem hm_gS {c0 cy : Cond} {own : String} {idx : Nat} {y : MethodName} (h1 : Cond.methodLink own idx y ∈ hm_ws) (h2 : Cond.static y ∈ hm_ws) (h3 : Cond.initialized y.cls ∈ hm_ws) (hc : cy ∈ hm_ws) : GoodIn (c0 :: hm_ws) (va_wsS own idx y (cy :: hm_ws)) := fun w hw => by
  have h : w ∈ hm_ws := by
    rcases List.mem_append.mp hw with q | q
    · simp only [List.mem_cons, List.not_mem_nil, or_false] at q
      rcases q with q | q | q <;> rw [q] <;> assumption
    · rcases List.mem_cons.mp q with q | q
      · rw [q]; exact hc
      · exact q
  exact ⟨List.mem_cons_of_mem _ h, hm_gw h⟩
end
section
theorem dX2_init_0 : decode cX2_init 0 = .ok (.aload_n 0, 1) := by decide +kernel
theorem dX2_init_1 : decode cX2_init 1 = .ok (.invokespecial 3, 3) := by decide +kernel
theorem dX2_init_4 : decode cX2_init 4 = .ok (.aload_n 0, 1) := by decide +kernel
theorem dX2_init_5 : decode cX2_init 5 = .ok (.iconst 0, 1) := by decide +kernel
theorem dX2_init_6 : decode cX2_init 6 = .ok (.putfield 9, 3) := by decide +kernel
theorem dX2_init_9 : decode cX2_init 9 = .ok (.aload_n 0, 1) := by decide +kernel
theorem dX2_init_10 : decode cX2_init 10 = .ok (.iconst 0, 1) := by decide +kernel
theorem dX2_init_11 : decode cX2_init 11 = .ok (.putfield 15, 3) := by decide +kernel
theorem dX2_init_14 : decode cX2_init 14 = .ok (.aload_n 0, 1) := by decide +kernel
theorem dX2_init_15 : decode cX2_init 15 = .ok (.iconst 0, 1) := by decide +kernel
theorem dX2_init_16 : decode cX2_init 16 = .ok (.iload_n 1, 1) := by decide +kernel
theorem dX2_init_17 : decode cX2_init 17 = .ok (.invokestatic 19, 3) := by decide +kernel
theorem dX2_init_20 : decode cX2_init 20 = .ok (.newarray .int, 2) := by decide +kernel
theorem dX2_init_22 : decode cX2_init 22 = .ok (.putfield 25, 3) := by decide +kernel
theorem dX2_init_25 : decode cX2_init 25 = .ok (.return_, 1) := by decide +kernel
theorem dX2_isZero_0 : decode cX2_isZero 0 = .ok (.aload_n 0, 1) := by decide +kernel
theorem dX2_isZero_1 : decode cX2_isZero 1 = .ok (.getfield 9, 3) := by decide +kernel
theorem dX2_isZero_4 : decode cX2_isZero 4 = .ok (.ifCond .ne 7, 3) := by decide +kernel
theorem dX2_isZero_7 : decode cX2_isZero 7 = .ok (.iconst 1, 1) := by decide +kernel
theorem dX2_isZero_8 : decode cX2_isZero 8 = .ok (.goto 4, 3) := by decide +kernel
theorem dX2_isZero_11 : decode cX2_isZero 11 = .ok (.iconst 0, 1) := by decide +kernel
theorem dX2_isZero_12 : decode cX2_isZero 12 = .ok (.ireturn, 1) := by decide +kernel
theorem dX2_fits_0 : decode cX2_fits 0 = .ok (.aload_n 0, 1) := by decide +kernel
theorem dX2_fits_1 : decode cX2_fits 1 = .ok (.getfield 9, 3) := by decide +kernel
theorem dX2_fits_4 : decode cX2_fits 4 = .ok (.bipush 64, 2) := by decide +kernel
theorem dX2_fits_6 : decode cX2_fits 6 = .ok (.if_icmp .gt 7, 3) := by decide +kernel
theorem dX2_fits_9 : decode cX2_fits 9 = .ok (.iconst 1, 1) := by decide +kernel
theorem dX2_fits_10 : decode cX2_fits 10 = .ok (.goto 4, 3) := by decide +kernel
theorem dX2_fits_13 : decode cX2_fits 13 = .ok (.iconst 0, 1) := by decide +kernel
theorem dX2_fits_14 : decode cX2_fits 14 = .ok (.ireturn, 1) := by decide +kernel
theorem dX2_limbAt_0 : decode cX2_limbAt 0 = .ok (.iload_n 1, 1) := by decide +kernel
theorem dX2_limbAt_1 : decode cX2_limbAt 1 = .ok (.ifCond .lt 20, 3) := by decide +kernel
theorem dX2_limbAt_4 : decode cX2_limbAt 4 = .ok (.iload_n 1, 1) := by decide +kernel
theorem dX2_limbAt_5 : decode cX2_limbAt 5 = .ok (.aload_n 0, 1) := by decide +kernel
theorem dX2_limbAt_6 : decode cX2_limbAt 6 = .ok (.getfield 9, 3) := by decide +kernel
theorem dX2_limbAt_9 : decode cX2_limbAt 9 = .ok (.if_icmp .ge 12, 3) := by decide +kernel
theorem dX2_limbAt_12 : decode cX2_limbAt 12 = .ok (.aload_n 0, 1) := by decide +kernel
theorem dX2_limbAt_13 : decode cX2_limbAt 13 = .ok (.getfield 25, 3) := by decide +kernel
theorem dX2_limbAt_16 : decode cX2_limbAt 16 = .ok (.iload_n 1, 1) := by decide +kernel
theorem dX2_limbAt_17 : decode cX2_limbAt 17 = .ok (.iaload, 1) := by decide +kernel
theorem dX2_limbAt_18 : decode cX2_limbAt 18 = .ok (.goto 4, 3) := by decide +kernel
theorem dX2_limbAt_21 : decode cX2_limbAt 21 = .ok (.iconst 0, 1) := by decide +kernel
theorem dX2_limbAt_22 : decode cX2_limbAt 22 = .ok (.ireturn, 1) := by decide +kernel
theorem dX2_finish_0 : decode cX2_finish 0 = .ok (.aload_n 0, 1) := by decide +kernel
theorem dX2_finish_1 : decode cX2_finish 1 = .ok (.iload_n 1, 1) := by decide +kernel
theorem dX2_finish_2 : decode cX2_finish 2 = .ok (.putfield 9, 3) := by decide +kernel
theorem dX2_finish_5 : decode cX2_finish 5 = .ok (.aload_n 0, 1) := by decide +kernel
theorem dX2_finish_6 : decode cX2_finish 6 = .ok (.getfield 9, 3) := by decide +kernel
theorem dX2_finish_9 : decode cX2_finish 9 = .ok (.ifCond .le 30, 3) := by decide +kernel
theorem dX2_finish_12 : decode cX2_finish 12 = .ok (.aload_n 0, 1) := by decide +kernel
theorem dX2_finish_13 : decode cX2_finish 13 = .ok (.getfield 25, 3) := by decide +kernel
theorem dX2_finish_16 : decode cX2_finish 16 = .ok (.aload_n 0, 1) := by decide +kernel
theorem dX2_finish_17 : decode cX2_finish 17 = .ok (.getfield 9, 3) := by decide +kernel
theorem dX2_finish_20 : decode cX2_finish 20 = .ok (.iconst 1, 1) := by decide +kernel
theorem dX2_finish_21 : decode cX2_finish 21 = .ok (.isub, 1) := by decide +kernel
theorem dX2_finish_22 : decode cX2_finish 22 = .ok (.iaload, 1) := by decide +kernel
theorem dX2_finish_23 : decode cX2_finish 23 = .ok (.ifCond .ne 16, 3) := by decide +kernel
theorem dX2_finish_26 : decode cX2_finish 26 = .ok (.aload_n 0, 1) := by decide +kernel
theorem dX2_finish_27 : decode cX2_finish 27 = .ok (.dup, 1) := by decide +kernel
theorem dX2_finish_28 : decode cX2_finish 28 = .ok (.getfield 9, 3) := by decide +kernel
theorem dX2_finish_31 : decode cX2_finish 31 = .ok (.iconst 1, 1) := by decide +kernel
theorem dX2_finish_32 : decode cX2_finish 32 = .ok (.isub, 1) := by decide +kernel
theorem dX2_finish_33 : decode cX2_finish 33 = .ok (.putfield 9, 3) := by decide +kernel
theorem dX2_finish_36 : decode cX2_finish 36 = .ok (.goto (-31), 3) := by decide +kernel
theorem dX2_finish_39 : decode cX2_finish 39 = .ok (.aload_n 0, 1) := by decide +kernel
theorem dX2_finish_40 : decode cX2_finish 40 = .ok (.iload_n 2, 1) := by decide +kernel
theorem dX2_finish_41 : decode cX2_finish 41 = .ok (.ifCond .eq 14, 3) := by decide +kernel
theorem dX2_finish_44 : decode cX2_finish 44 = .ok (.aload_n 0, 1) := by decide +kernel
theorem dX2_finish_45 : decode cX2_finish 45 = .ok (.getfield 9, 3) := by decide +kernel
theorem dX2_finish_48 : decode cX2_finish 48 = .ok (.ifCond .le 7, 3) := by decide +kernel
theorem dX2_finish_51 : decode cX2_finish 51 = .ok (.iconst 1, 1) := by decide +kernel
theorem dX2_finish_52 : decode cX2_finish 52 = .ok (.goto 4, 3) := by decide +kernel
theorem dX2_finish_55 : decode cX2_finish 55 = .ok (.iconst 0, 1) := by decide +kernel
theorem dX2_finish_56 : decode cX2_finish 56 = .ok (.putfield 15, 3) := by decide +kernel
theorem dX2_finish_59 : decode cX2_finish 59 = .ok (.return_, 1) := by decide +kernel
theorem dX2_setLong_0 : decode cX2_setLong 0 = .ok (.iconst 3, 1) := by decide +kernel
theorem dX2_setLong_1 : decode cX2_setLong 1 = .ok (.aload_n 0, 1) := by decide +kernel
theorem dX2_setLong_2 : decode cX2_setLong 2 = .ok (.getfield 25, 3) := by decide +kernel
theorem dX2_setLong_5 : decode cX2_setLong 5 = .ok (.arraylength, 1) := by decide +kernel
theorem dX2_setLong_6 : decode cX2_setLong 6 = .ok (.invokestatic 29, 3) := by decide +kernel
theorem dX2_setLong_9 : decode cX2_setLong 9 = .ok (.istore_n 3, 1) := by decide +kernel
theorem dX2_setLong_10 : decode cX2_setLong 10 = .ok (.lload_n 1, 1) := by decide +kernel
theorem dX2_setLong_11 : decode cX2_setLong 11 = .ok (.lconst 0, 1) := by decide +kernel
theorem dX2_setLong_12 : decode cX2_setLong 12 = .ok (.lcmp, 1) := by decide +kernel
theorem dX2_setLong_13 : decode cX2_setLong 13 = .ok (.ifCond .ge 8, 3) := by decide +kernel
theorem dX2_setLong_16 : decode cX2_setLong 16 = .ok (.lload_n 1, 1) := by decide +kernel
theorem dX2_setLong_17 : decode cX2_setLong 17 = .ok (.lneg, 1) := by decide +kernel
theorem dX2_setLong_18 : decode cX2_setLong 18 = .ok (.goto 4, 3) := by decide +kernel
theorem dX2_setLong_21 : decode cX2_setLong 21 = .ok (.lload_n 1, 1) := by decide +kernel
theorem dX2_setLong_22 : decode cX2_setLong 22 = .ok (.lstore 4, 2) := by decide +kernel
theorem dX2_setLong_24 : decode cX2_setLong 24 = .ok (.iconst 0, 1) := by decide +kernel
theorem dX2_setLong_25 : decode cX2_setLong 25 = .ok (.istore 6, 2) := by decide +kernel
theorem dX2_setLong_27 : decode cX2_setLong 27 = .ok (.iload 6, 2) := by decide +kernel
theorem dX2_setLong_29 : decode cX2_setLong 29 = .ok (.iload_n 3, 1) := by decide +kernel
theorem dX2_setLong_30 : decode cX2_setLong 30 = .ok (.if_icmp .ge 30, 3) := by decide +kernel
theorem dX2_setLong_33 : decode cX2_setLong 33 = .ok (.aload_n 0, 1) := by decide +kernel
theorem dX2_setLong_34 : decode cX2_setLong 34 = .ok (.getfield 25, 3) := by decide +kernel
theorem dX2_setLong_37 : decode cX2_setLong 37 = .ok (.iload 6, 2) := by decide +kernel
theorem dX2_setLong_39 : decode cX2_setLong 39 = .ok (.lload 4, 2) := by decide +kernel
theorem dX2_setLong_41 : decode cX2_setLong 41 = .ok (.ldc2_w 32, 3) := by decide +kernel
theorem dX2_setLong_44 : decode cX2_setLong 44 = .ok (.land, 1) := by decide +kernel
theorem dX2_setLong_45 : decode cX2_setLong 45 = .ok (.l2i, 1) := by decide +kernel
theorem dX2_setLong_46 : decode cX2_setLong 46 = .ok (.iastore, 1) := by decide +kernel
theorem dX2_setLong_47 : decode cX2_setLong 47 = .ok (.lload 4, 2) := by decide +kernel
theorem dX2_setLong_49 : decode cX2_setLong 49 = .ok (.bipush 25, 2) := by decide +kernel
theorem dX2_setLong_51 : decode cX2_setLong 51 = .ok (.lushr, 1) := by decide +kernel
theorem dX2_setLong_52 : decode cX2_setLong 52 = .ok (.lstore 4, 2) := by decide +kernel
theorem dX2_setLong_54 : decode cX2_setLong 54 = .ok (.iinc 6 1, 3) := by decide +kernel
theorem dX2_setLong_57 : decode cX2_setLong 57 = .ok (.goto (-30), 3) := by decide +kernel
theorem dX2_setLong_60 : decode cX2_setLong 60 = .ok (.aload_n 0, 1) := by decide +kernel
theorem dX2_setLong_61 : decode cX2_setLong 61 = .ok (.iload_n 3, 1) := by decide +kernel
theorem dX2_setLong_62 : decode cX2_setLong 62 = .ok (.lload_n 1, 1) := by decide +kernel
theorem dX2_setLong_63 : decode cX2_setLong 63 = .ok (.lconst 0, 1) := by decide +kernel
theorem dX2_setLong_64 : decode cX2_setLong 64 = .ok (.lcmp, 1) := by decide +kernel
theorem dX2_setLong_65 : decode cX2_setLong 65 = .ok (.ifCond .ge 7, 3) := by decide +kernel
theorem dX2_setLong_68 : decode cX2_setLong 68 = .ok (.iconst 1, 1) := by decide +kernel
theorem dX2_setLong_69 : decode cX2_setLong 69 = .ok (.goto 4, 3) := by decide +kernel
theorem dX2_setLong_72 : decode cX2_setLong 72 = .ok (.iconst 0, 1) := by decide +kernel
theorem dX2_setLong_73 : decode cX2_setLong 73 = .ok (.invokevirtual 34, 3) := by decide +kernel
theorem dX2_setLong_76 : decode cX2_setLong 76 = .ok (.return_, 1) := by decide +kernel
theorem dX2_copyFrom_0 : decode cX2_copyFrom 0 = .ok (.aload_n 1, 1) := by decide +kernel
theorem dX2_copyFrom_1 : decode cX2_copyFrom 1 = .ok (.getfield 9, 3) := by decide +kernel
theorem dX2_copyFrom_4 : decode cX2_copyFrom 4 = .ok (.aload_n 0, 1) := by decide +kernel
theorem dX2_copyFrom_5 : decode cX2_copyFrom 5 = .ok (.getfield 25, 3) := by decide +kernel
theorem dX2_copyFrom_8 : decode cX2_copyFrom 8 = .ok (.arraylength, 1) := by decide +kernel
theorem dX2_copyFrom_9 : decode cX2_copyFrom 9 = .ok (.invokestatic 29, 3) := by decide +kernel
theorem dX2_copyFrom_12 : decode cX2_copyFrom 12 = .ok (.istore_n 2, 1) := by decide +kernel
theorem dX2_copyFrom_13 : decode cX2_copyFrom 13 = .ok (.iconst 0, 1) := by decide +kernel
theorem dX2_copyFrom_14 : decode cX2_copyFrom 14 = .ok (.istore_n 3, 1) := by decide +kernel
theorem dX2_copyFrom_15 : decode cX2_copyFrom 15 = .ok (.iload_n 3, 1) := by decide +kernel
theorem dX2_copyFrom_16 : decode cX2_copyFrom 16 = .ok (.iload_n 2, 1) := by decide +kernel
theorem dX2_copyFrom_17 : decode cX2_copyFrom 17 = .ok (.if_icmp .ge 21, 3) := by decide +kernel
theorem dX2_copyFrom_20 : decode cX2_copyFrom 20 = .ok (.aload_n 0, 1) := by decide +kernel
theorem dX2_copyFrom_21 : decode cX2_copyFrom 21 = .ok (.getfield 25, 3) := by decide +kernel
theorem dX2_copyFrom_24 : decode cX2_copyFrom 24 = .ok (.iload_n 3, 1) := by decide +kernel
theorem dX2_copyFrom_25 : decode cX2_copyFrom 25 = .ok (.aload_n 1, 1) := by decide +kernel
theorem dX2_copyFrom_26 : decode cX2_copyFrom 26 = .ok (.getfield 25, 3) := by decide +kernel
theorem dX2_copyFrom_29 : decode cX2_copyFrom 29 = .ok (.iload_n 3, 1) := by decide +kernel
theorem dX2_copyFrom_30 : decode cX2_copyFrom 30 = .ok (.iaload, 1) := by decide +kernel
theorem dX2_copyFrom_31 : decode cX2_copyFrom 31 = .ok (.iastore, 1) := by decide +kernel
theorem dX2_copyFrom_32 : decode cX2_copyFrom 32 = .ok (.iinc 3 1, 3) := by decide +kernel
theorem dX2_copyFrom_35 : decode cX2_copyFrom 35 = .ok (.goto (-20), 3) := by decide +kernel
theorem dX2_copyFrom_38 : decode cX2_copyFrom 38 = .ok (.aload_n 0, 1) := by decide +kernel
theorem dX2_copyFrom_39 : decode cX2_copyFrom 39 = .ok (.iload_n 2, 1) := by decide +kernel
theorem dX2_copyFrom_40 : decode cX2_copyFrom 40 = .ok (.aload_n 1, 1) := by decide +kernel
theorem dX2_copyFrom_41 : decode cX2_copyFrom 41 = .ok (.getfield 15, 3) := by decide +kernel
theorem dX2_copyFrom_44 : decode cX2_copyFrom 44 = .ok (.invokevirtual 34, 3) := by decide +kernel
theorem dX2_copyFrom_47 : decode cX2_copyFrom 47 = .ok (.return_, 1) := by decide +kernel
theorem dX2_negate_0 : decode cX2_negate 0 = .ok (.aload_n 0, 1) := by decide +kernel
theorem dX2_negate_1 : decode cX2_negate 1 = .ok (.aload_n 0, 1) := by decide +kernel
theorem dX2_negate_2 : decode cX2_negate 2 = .ok (.getfield 15, 3) := by decide +kernel
theorem dX2_negate_5 : decode cX2_negate 5 = .ok (.ifCond .ne 14, 3) := by decide +kernel
theorem dX2_negate_8 : decode cX2_negate 8 = .ok (.aload_n 0, 1) := by decide +kernel
theorem dX2_negate_9 : decode cX2_negate 9 = .ok (.getfield 9, 3) := by decide +kernel
theorem dX2_negate_12 : decode cX2_negate 12 = .ok (.ifCond .le 7, 3) := by decide +kernel
theorem dX2_negate_15 : decode cX2_negate 15 = .ok (.iconst 1, 1) := by decide +kernel
theorem dX2_negate_16 : decode cX2_negate 16 = .ok (.goto 4, 3) := by decide +kernel
theorem dX2_negate_19 : decode cX2_negate 19 = .ok (.iconst 0, 1) := by decide +kernel
theorem dX2_negate_20 : decode cX2_negate 20 = .ok (.putfield 15, 3) := by decide +kernel
theorem dX2_negate_23 : decode cX2_negate 23 = .ok (.return_, 1) := by decide +kernel
theorem dX2_compareAmount_0 : decode cX2_compareAmount 0 = .ok (.aload_n 0, 1) := by decide +kernel
theorem dX2_compareAmount_1 : decode cX2_compareAmount 1 = .ok (.getfield 9, 3) := by decide +kernel
theorem dX2_compareAmount_4 : decode cX2_compareAmount 4 = .ok (.aload_n 1, 1) := by decide +kernel
theorem dX2_compareAmount_5 : decode cX2_compareAmount 5 = .ok (.getfield 9, 3) := by decide +kernel
theorem dX2_compareAmount_8 : decode cX2_compareAmount 8 = .ok (.if_icmp .eq 20, 3) := by decide +kernel
theorem dX2_compareAmount_11 : decode cX2_compareAmount 11 = .ok (.aload_n 0, 1) := by decide +kernel
theorem dX2_compareAmount_12 : decode cX2_compareAmount 12 = .ok (.getfield 9, 3) := by decide +kernel
theorem dX2_compareAmount_15 : decode cX2_compareAmount 15 = .ok (.aload_n 1, 1) := by decide +kernel
theorem dX2_compareAmount_16 : decode cX2_compareAmount 16 = .ok (.getfield 9, 3) := by decide +kernel
theorem dX2_compareAmount_19 : decode cX2_compareAmount 19 = .ok (.if_icmp .ge 7, 3) := by decide +kernel
theorem dX2_compareAmount_22 : decode cX2_compareAmount 22 = .ok (.iconst (-1), 1) := by decide +kernel
theorem dX2_compareAmount_23 : decode cX2_compareAmount 23 = .ok (.goto 4, 3) := by decide +kernel
theorem dX2_compareAmount_26 : decode cX2_compareAmount 26 = .ok (.iconst 1, 1) := by decide +kernel
theorem dX2_compareAmount_27 : decode cX2_compareAmount 27 = .ok (.ireturn, 1) := by decide +kernel
theorem dX2_compareAmount_28 : decode cX2_compareAmount 28 = .ok (.aload_n 0, 1) := by decide +kernel
theorem dX2_compareAmount_29 : decode cX2_compareAmount 29 = .ok (.getfield 9, 3) := by decide +kernel
theorem dX2_compareAmount_32 : decode cX2_compareAmount 32 = .ok (.iconst 1, 1) := by decide +kernel
theorem dX2_compareAmount_33 : decode cX2_compareAmount 33 = .ok (.isub, 1) := by decide +kernel
theorem dX2_compareAmount_34 : decode cX2_compareAmount 34 = .ok (.istore_n 2, 1) := by decide +kernel
theorem dX2_compareAmount_35 : decode cX2_compareAmount 35 = .ok (.iload_n 2, 1) := by decide +kernel
theorem dX2_compareAmount_36 : decode cX2_compareAmount 36 = .ok (.ifCond .lt 45, 3) := by decide +kernel
theorem dX2_compareAmount_39 : decode cX2_compareAmount 39 = .ok (.aload_n 0, 1) := by decide +kernel
theorem dX2_compareAmount_40 : decode cX2_compareAmount 40 = .ok (.getfield 25, 3) := by decide +kernel
theorem dX2_compareAmount_43 : decode cX2_compareAmount 43 = .ok (.iload_n 2, 1) := by decide +kernel
theorem dX2_compareAmount_44 : decode cX2_compareAmount 44 = .ok (.iaload, 1) := by decide +kernel
theorem dX2_compareAmount_45 : decode cX2_compareAmount 45 = .ok (.aload_n 1, 1) := by decide +kernel
theorem dX2_compareAmount_46 : decode cX2_compareAmount 46 = .ok (.getfield 25, 3) := by decide +kernel
theorem dX2_compareAmount_49 : decode cX2_compareAmount 49 = .ok (.iload_n 2, 1) := by decide +kernel
theorem dX2_compareAmount_50 : decode cX2_compareAmount 50 = .ok (.iaload, 1) := by decide +kernel
theorem dX2_compareAmount_51 : decode cX2_compareAmount 51 = .ok (.if_icmp .eq 24, 3) := by decide +kernel
theorem dX2_compareAmount_54 : decode cX2_compareAmount 54 = .ok (.aload_n 0, 1) := by decide +kernel
theorem dX2_compareAmount_55 : decode cX2_compareAmount 55 = .ok (.getfield 25, 3) := by decide +kernel
theorem dX2_compareAmount_58 : decode cX2_compareAmount 58 = .ok (.iload_n 2, 1) := by decide +kernel
theorem dX2_compareAmount_59 : decode cX2_compareAmount 59 = .ok (.iaload, 1) := by decide +kernel
theorem dX2_compareAmount_60 : decode cX2_compareAmount 60 = .ok (.aload_n 1, 1) := by decide +kernel
theorem dX2_compareAmount_61 : decode cX2_compareAmount 61 = .ok (.getfield 25, 3) := by decide +kernel
theorem dX2_compareAmount_64 : decode cX2_compareAmount 64 = .ok (.iload_n 2, 1) := by decide +kernel
theorem dX2_compareAmount_65 : decode cX2_compareAmount 65 = .ok (.iaload, 1) := by decide +kernel
theorem dX2_compareAmount_66 : decode cX2_compareAmount 66 = .ok (.if_icmp .ge 7, 3) := by decide +kernel
theorem dX2_compareAmount_69 : decode cX2_compareAmount 69 = .ok (.iconst (-1), 1) := by decide +kernel
theorem dX2_compareAmount_70 : decode cX2_compareAmount 70 = .ok (.goto 4, 3) := by decide +kernel
theorem dX2_compareAmount_73 : decode cX2_compareAmount 73 = .ok (.iconst 1, 1) := by decide +kernel
theorem dX2_compareAmount_74 : decode cX2_compareAmount 74 = .ok (.ireturn, 1) := by decide +kernel
theorem dX2_compareAmount_75 : decode cX2_compareAmount 75 = .ok (.iinc 2 (-1), 3) := by decide +kernel
theorem dX2_compareAmount_78 : decode cX2_compareAmount 78 = .ok (.goto (-43), 3) := by decide +kernel
theorem dX2_compareAmount_81 : decode cX2_compareAmount 81 = .ok (.iconst 0, 1) := by decide +kernel
theorem dX2_compareAmount_82 : decode cX2_compareAmount 82 = .ok (.ireturn, 1) := by decide +kernel
theorem dX2_setSum_0 : decode cX2_setSum 0 = .ok (.aload_n 1, 1) := by decide +kernel
theorem dX2_setSum_1 : decode cX2_setSum 1 = .ok (.getfield 15, 3) := by decide +kernel
theorem dX2_setSum_4 : decode cX2_setSum 4 = .ok (.iload_n 3, 1) := by decide +kernel
theorem dX2_setSum_5 : decode cX2_setSum 5 = .ok (.if_icmp .ne 14, 3) := by decide +kernel
theorem dX2_setSum_8 : decode cX2_setSum 8 = .ok (.aload_n 0, 1) := by decide +kernel
theorem dX2_setSum_9 : decode cX2_setSum 9 = .ok (.aload_n 1, 1) := by decide +kernel
theorem dX2_setSum_10 : decode cX2_setSum 10 = .ok (.aload_n 2, 1) := by decide +kernel
theorem dX2_setSum_11 : decode cX2_setSum 11 = .ok (.iconst 1, 1) := by decide +kernel
theorem dX2_setSum_12 : decode cX2_setSum 12 = .ok (.iload_n 3, 1) := by decide +kernel
theorem dX2_setSum_13 : decode cX2_setSum 13 = .ok (.invokevirtual 38, 3) := by decide +kernel
theorem dX2_setSum_16 : decode cX2_setSum 16 = .ok (.goto 33, 3) := by decide +kernel
theorem dX2_setSum_19 : decode cX2_setSum 19 = .ok (.aload_n 1, 1) := by decide +kernel
theorem dX2_setSum_20 : decode cX2_setSum 20 = .ok (.aload_n 2, 1) := by decide +kernel
theorem dX2_setSum_21 : decode cX2_setSum 21 = .ok (.invokevirtual 42, 3) := by decide +kernel
theorem dX2_setSum_24 : decode cX2_setSum 24 = .ok (.ifCond .lt 17, 3) := by decide +kernel
theorem dX2_setSum_27 : decode cX2_setSum 27 = .ok (.aload_n 0, 1) := by decide +kernel
theorem dX2_setSum_28 : decode cX2_setSum 28 = .ok (.aload_n 1, 1) := by decide +kernel
theorem dX2_setSum_29 : decode cX2_setSum 29 = .ok (.aload_n 2, 1) := by decide +kernel
theorem dX2_setSum_30 : decode cX2_setSum 30 = .ok (.iconst (-1), 1) := by decide +kernel
theorem dX2_setSum_31 : decode cX2_setSum 31 = .ok (.aload_n 1, 1) := by decide +kernel
theorem dX2_setSum_32 : decode cX2_setSum 32 = .ok (.getfield 15, 3) := by decide +kernel
theorem dX2_setSum_35 : decode cX2_setSum 35 = .ok (.invokevirtual 38, 3) := by decide +kernel
theorem dX2_setSum_38 : decode cX2_setSum 38 = .ok (.goto 11, 3) := by decide +kernel
theorem dX2_setSum_41 : decode cX2_setSum 41 = .ok (.aload_n 0, 1) := by decide +kernel
theorem dX2_setSum_42 : decode cX2_setSum 42 = .ok (.aload_n 2, 1) := by decide +kernel
theorem dX2_setSum_43 : decode cX2_setSum 43 = .ok (.aload_n 1, 1) := by decide +kernel
theorem dX2_setSum_44 : decode cX2_setSum 44 = .ok (.iconst (-1), 1) := by decide +kernel
theorem dX2_setSum_45 : decode cX2_setSum 45 = .ok (.iload_n 3, 1) := by decide +kernel
theorem dX2_setSum_46 : decode cX2_setSum 46 = .ok (.invokevirtual 38, 3) := by decide +kernel
theorem dX2_setSum_49 : decode cX2_setSum 49 = .ok (.return_, 1) := by decide +kernel
theorem dX2_setAmounts_0 : decode cX2_setAmounts 0 = .ok (.aload_n 1, 1) := by decide +kernel
theorem dX2_setAmounts_1 : decode cX2_setAmounts 1 = .ok (.getfield 9, 3) := by decide +kernel
theorem dX2_setAmounts_4 : decode cX2_setAmounts 4 = .ok (.aload_n 2, 1) := by decide +kernel
theorem dX2_setAmounts_5 : decode cX2_setAmounts 5 = .ok (.getfield 9, 3) := by decide +kernel
theorem dX2_setAmounts_8 : decode cX2_setAmounts 8 = .ok (.invokestatic 19, 3) := by decide +kernel
theorem dX2_setAmounts_11 : decode cX2_setAmounts 11 = .ok (.iconst 1, 1) := by decide +kernel
theorem dX2_setAmounts_12 : decode cX2_setAmounts 12 = .ok (.iadd, 1) := by decide +kernel
theorem dX2_setAmounts_13 : decode cX2_setAmounts 13 = .ok (.aload_n 0, 1) := by decide +kernel
theorem dX2_setAmounts_14 : decode cX2_setAmounts 14 = .ok (.getfield 25, 3) := by decide +kernel
theorem dX2_setAmounts_17 : decode cX2_setAmounts 17 = .ok (.arraylength, 1) := by decide +kernel
theorem dX2_setAmounts_18 : decode cX2_setAmounts 18 = .ok (.invokestatic 29, 3) := by decide +kernel
theorem dX2_setAmounts_21 : decode cX2_setAmounts 21 = .ok (.istore 5, 2) := by decide +kernel
theorem dX2_setAmounts_23 : decode cX2_setAmounts 23 = .ok (.iconst 0, 1) := by decide +kernel
theorem dX2_setAmounts_24 : decode cX2_setAmounts 24 = .ok (.istore 6, 2) := by decide +kernel
theorem dX2_setAmounts_26 : decode cX2_setAmounts 26 = .ok (.iconst 0, 1) := by decide +kernel
theorem dX2_setAmounts_27 : decode cX2_setAmounts 27 = .ok (.istore 7, 2) := by decide +kernel
theorem dX2_setAmounts_29 : decode cX2_setAmounts 29 = .ok (.iload 7, 2) := by decide +kernel
theorem dX2_setAmounts_31 : decode cX2_setAmounts 31 = .ok (.iload 5, 2) := by decide +kernel
theorem dX2_setAmounts_33 : decode cX2_setAmounts 33 = .ok (.if_icmp .ge 48, 3) := by decide +kernel
theorem dX2_setAmounts_36 : decode cX2_setAmounts 36 = .ok (.aload_n 1, 1) := by decide +kernel
theorem dX2_setAmounts_37 : decode cX2_setAmounts 37 = .ok (.iload 7, 2) := by decide +kernel
theorem dX2_setAmounts_39 : decode cX2_setAmounts 39 = .ok (.invokevirtual 46, 3) := by decide +kernel
theorem dX2_setAmounts_42 : decode cX2_setAmounts 42 = .ok (.iload_n 3, 1) := by decide +kernel
theorem dX2_setAmounts_43 : decode cX2_setAmounts 43 = .ok (.aload_n 2, 1) := by decide +kernel
theorem dX2_setAmounts_44 : decode cX2_setAmounts 44 = .ok (.iload 7, 2) := by decide +kernel
theorem dX2_setAmounts_46 : decode cX2_setAmounts 46 = .ok (.invokevirtual 46, 3) := by decide +kernel
theorem dX2_setAmounts_49 : decode cX2_setAmounts 49 = .ok (.imul, 1) := by decide +kernel
theorem dX2_setAmounts_50 : decode cX2_setAmounts 50 = .ok (.iadd, 1) := by decide +kernel
theorem dX2_setAmounts_51 : decode cX2_setAmounts 51 = .ok (.iload 6, 2) := by decide +kernel
theorem dX2_setAmounts_53 : decode cX2_setAmounts 53 = .ok (.iadd, 1) := by decide +kernel
theorem dX2_setAmounts_54 : decode cX2_setAmounts 54 = .ok (.istore 8, 2) := by decide +kernel
theorem dX2_setAmounts_56 : decode cX2_setAmounts 56 = .ok (.aload_n 0, 1) := by decide +kernel
theorem dX2_setAmounts_57 : decode cX2_setAmounts 57 = .ok (.getfield 25, 3) := by decide +kernel
theorem dX2_setAmounts_60 : decode cX2_setAmounts 60 = .ok (.iload 7, 2) := by decide +kernel
theorem dX2_setAmounts_62 : decode cX2_setAmounts 62 = .ok (.iload 8, 2) := by decide +kernel
theorem dX2_setAmounts_64 : decode cX2_setAmounts 64 = .ok (.ldc 50, 2) := by decide +kernel
theorem dX2_setAmounts_66 : decode cX2_setAmounts 66 = .ok (.iand, 1) := by decide +kernel
theorem dX2_setAmounts_67 : decode cX2_setAmounts 67 = .ok (.iastore, 1) := by decide +kernel
theorem dX2_setAmounts_68 : decode cX2_setAmounts 68 = .ok (.iload 8, 2) := by decide +kernel
theorem dX2_setAmounts_70 : decode cX2_setAmounts 70 = .ok (.bipush 25, 2) := by decide +kernel
theorem dX2_setAmounts_72 : decode cX2_setAmounts 72 = .ok (.ishr, 1) := by decide +kernel
theorem dX2_setAmounts_73 : decode cX2_setAmounts 73 = .ok (.istore 6, 2) := by decide +kernel
theorem dX2_setAmounts_75 : decode cX2_setAmounts 75 = .ok (.iinc 7 1, 3) := by decide +kernel
theorem dX2_setAmounts_78 : decode cX2_setAmounts 78 = .ok (.goto (-49), 3) := by decide +kernel
theorem dX2_setAmounts_81 : decode cX2_setAmounts 81 = .ok (.aload_n 0, 1) := by decide +kernel
theorem dX2_setAmounts_82 : decode cX2_setAmounts 82 = .ok (.iload 5, 2) := by decide +kernel
theorem dX2_setAmounts_84 : decode cX2_setAmounts 84 = .ok (.iload 4, 2) := by decide +kernel
theorem dX2_setAmounts_86 : decode cX2_setAmounts 86 = .ok (.invokevirtual 34, 3) := by decide +kernel
theorem dX2_setAmounts_89 : decode cX2_setAmounts 89 = .ok (.return_, 1) := by decide +kernel
theorem dX2_setProduct_0 : decode cX2_setProduct 0 = .ok (.aload_n 1, 1) := by decide +kernel
theorem dX2_setProduct_1 : decode cX2_setProduct 1 = .ok (.getfield 9, 3) := by decide +kernel
theorem dX2_setProduct_4 : decode cX2_setProduct 4 = .ok (.aload_n 2, 1) := by decide +kernel
theorem dX2_setProduct_5 : decode cX2_setProduct 5 = .ok (.getfield 9, 3) := by decide +kernel
theorem dX2_setProduct_8 : decode cX2_setProduct 8 = .ok (.iadd, 1) := by decide +kernel
theorem dX2_setProduct_9 : decode cX2_setProduct 9 = .ok (.istore_n 3, 1) := by decide +kernel
theorem dX2_setProduct_10 : decode cX2_setProduct 10 = .ok (.iload_n 3, 1) := by decide +kernel
theorem dX2_setProduct_11 : decode cX2_setProduct 11 = .ok (.bipush 65, 2) := by decide +kernel
theorem dX2_setProduct_13 : decode cX2_setProduct 13 = .ok (.if_icmp .gt 12, 3) := by decide +kernel
theorem dX2_setProduct_16 : decode cX2_setProduct 16 = .ok (.iload_n 3, 1) := by decide +kernel
theorem dX2_setProduct_17 : decode cX2_setProduct 17 = .ok (.aload_n 0, 1) := by decide +kernel
theorem dX2_setProduct_18 : decode cX2_setProduct 18 = .ok (.getfield 25, 3) := by decide +kernel
theorem dX2_setProduct_21 : decode cX2_setProduct 21 = .ok (.arraylength, 1) := by decide +kernel
theorem dX2_setProduct_22 : decode cX2_setProduct 22 = .ok (.if_icmp .le 5, 3) := by decide +kernel
theorem dX2_setProduct_25 : decode cX2_setProduct 25 = .ok (.iconst 0, 1) := by decide +kernel
theorem dX2_setProduct_26 : decode cX2_setProduct 26 = .ok (.ireturn, 1) := by decide +kernel
theorem dX2_setProduct_27 : decode cX2_setProduct 27 = .ok (.lconst 0, 1) := by decide +kernel
theorem dX2_setProduct_28 : decode cX2_setProduct 28 = .ok (.lstore 4, 2) := by decide +kernel
theorem dX2_setProduct_30 : decode cX2_setProduct 30 = .ok (.iconst 0, 1) := by decide +kernel
theorem dX2_setProduct_31 : decode cX2_setProduct 31 = .ok (.istore 6, 2) := by decide +kernel
theorem dX2_setProduct_33 : decode cX2_setProduct 33 = .ok (.iload 6, 2) := by decide +kernel
theorem dX2_setProduct_35 : decode cX2_setProduct 35 = .ok (.iload_n 3, 1) := by decide +kernel
theorem dX2_setProduct_36 : decode cX2_setProduct 36 = .ok (.if_icmp .ge 96, 3) := by decide +kernel
theorem dX2_setProduct_39 : decode cX2_setProduct 39 = .ok (.iload 6, 2) := by decide +kernel
theorem dX2_setProduct_41 : decode cX2_setProduct 41 = .ok (.aload_n 1, 1) := by decide +kernel
theorem dX2_setProduct_42 : decode cX2_setProduct 42 = .ok (.getfield 9, 3) := by decide +kernel
theorem dX2_setProduct_45 : decode cX2_setProduct 45 = .ok (.iconst 1, 1) := by decide +kernel
theorem dX2_setProduct_46 : decode cX2_setProduct 46 = .ok (.isub, 1) := by decide +kernel
theorem dX2_setProduct_47 : decode cX2_setProduct 47 = .ok (.invokestatic 29, 3) := by decide +kernel
theorem dX2_setProduct_50 : decode cX2_setProduct 50 = .ok (.istore 7, 2) := by decide +kernel
theorem dX2_setProduct_52 : decode cX2_setProduct 52 = .ok (.iconst 0, 1) := by decide +kernel
theorem dX2_setProduct_53 : decode cX2_setProduct 53 = .ok (.iload 6, 2) := by decide +kernel
theorem dX2_setProduct_55 : decode cX2_setProduct 55 = .ok (.aload_n 2, 1) := by decide +kernel
theorem dX2_setProduct_56 : decode cX2_setProduct 56 = .ok (.getfield 9, 3) := by decide +kernel
theorem dX2_setProduct_59 : decode cX2_setProduct 59 = .ok (.isub, 1) := by decide +kernel
theorem dX2_setProduct_60 : decode cX2_setProduct 60 = .ok (.iconst 1, 1) := by decide +kernel
theorem dX2_setProduct_61 : decode cX2_setProduct 61 = .ok (.iadd, 1) := by decide +kernel
theorem dX2_setProduct_62 : decode cX2_setProduct 62 = .ok (.invokestatic 19, 3) := by decide +kernel
theorem dX2_setProduct_65 : decode cX2_setProduct 65 = .ok (.istore 8, 2) := by decide +kernel
theorem dX2_setProduct_67 : decode cX2_setProduct 67 = .ok (.iload 8, 2) := by decide +kernel
theorem dX2_setProduct_69 : decode cX2_setProduct 69 = .ok (.iload 7, 2) := by decide +kernel
theorem dX2_setProduct_71 : decode cX2_setProduct 71 = .ok (.if_icmp .gt 34, 3) := by decide +kernel
theorem dX2_setProduct_74 : decode cX2_setProduct 74 = .ok (.lload 4, 2) := by decide +kernel
theorem dX2_setProduct_76 : decode cX2_setProduct 76 = .ok (.aload_n 1, 1) := by decide +kernel
theorem dX2_setProduct_77 : decode cX2_setProduct 77 = .ok (.getfield 25, 3) := by decide +kernel
theorem dX2_setProduct_80 : decode cX2_setProduct 80 = .ok (.iload 8, 2) := by decide +kernel
theorem dX2_setProduct_82 : decode cX2_setProduct 82 = .ok (.iaload, 1) := by decide +kernel
theorem dX2_setProduct_83 : decode cX2_setProduct 83 = .ok (.i2l, 1) := by decide +kernel
theorem dX2_setProduct_84 : decode cX2_setProduct 84 = .ok (.aload_n 2, 1) := by decide +kernel
theorem dX2_setProduct_85 : decode cX2_setProduct 85 = .ok (.getfield 25, 3) := by decide +kernel
theorem dX2_setProduct_88 : decode cX2_setProduct 88 = .ok (.iload 6, 2) := by decide +kernel
theorem dX2_setProduct_90 : decode cX2_setProduct 90 = .ok (.iload 8, 2) := by decide +kernel
theorem dX2_setProduct_92 : decode cX2_setProduct 92 = .ok (.isub, 1) := by decide +kernel
theorem dX2_setProduct_93 : decode cX2_setProduct 93 = .ok (.iaload, 1) := by decide +kernel
theorem dX2_setProduct_94 : decode cX2_setProduct 94 = .ok (.i2l, 1) := by decide +kernel
theorem dX2_setProduct_95 : decode cX2_setProduct 95 = .ok (.lmul, 1) := by decide +kernel
theorem dX2_setProduct_96 : decode cX2_setProduct 96 = .ok (.ladd, 1) := by decide +kernel
theorem dX2_setProduct_97 : decode cX2_setProduct 97 = .ok (.lstore 4, 2) := by decide +kernel
theorem dX2_setProduct_99 : decode cX2_setProduct 99 = .ok (.iinc 8 1, 3) := by decide +kernel
theorem dX2_setProduct_102 : decode cX2_setProduct 102 = .ok (.goto (-35), 3) := by decide +kernel
theorem dX2_setProduct_105 : decode cX2_setProduct 105 = .ok (.aload_n 0, 1) := by decide +kernel
theorem dX2_setProduct_106 : decode cX2_setProduct 106 = .ok (.getfield 25, 3) := by decide +kernel
theorem dX2_setProduct_109 : decode cX2_setProduct 109 = .ok (.iload 6, 2) := by decide +kernel
theorem dX2_setProduct_111 : decode cX2_setProduct 111 = .ok (.lload 4, 2) := by decide +kernel
theorem dX2_setProduct_113 : decode cX2_setProduct 113 = .ok (.ldc2_w 32, 3) := by decide +kernel
theorem dX2_setProduct_116 : decode cX2_setProduct 116 = .ok (.land, 1) := by decide +kernel
theorem dX2_setProduct_117 : decode cX2_setProduct 117 = .ok (.l2i, 1) := by decide +kernel
theorem dX2_setProduct_118 : decode cX2_setProduct 118 = .ok (.iastore, 1) := by decide +kernel
theorem dX2_setProduct_119 : decode cX2_setProduct 119 = .ok (.lload 4, 2) := by decide +kernel
theorem dX2_setProduct_121 : decode cX2_setProduct 121 = .ok (.bipush 25, 2) := by decide +kernel
theorem dX2_setProduct_123 : decode cX2_setProduct 123 = .ok (.lshr, 1) := by decide +kernel
theorem dX2_setProduct_124 : decode cX2_setProduct 124 = .ok (.lstore 4, 2) := by decide +kernel
theorem dX2_setProduct_126 : decode cX2_setProduct 126 = .ok (.iinc 6 1, 3) := by decide +kernel
theorem dX2_setProduct_129 : decode cX2_setProduct 129 = .ok (.goto (-96), 3) := by decide +kernel
theorem dX2_setProduct_132 : decode cX2_setProduct 132 = .ok (.aload_n 0, 1) := by decide +kernel
theorem dX2_setProduct_133 : decode cX2_setProduct 133 = .ok (.iload_n 3, 1) := by decide +kernel
theorem dX2_setProduct_134 : decode cX2_setProduct 134 = .ok (.aload_n 1, 1) := by decide +kernel
theorem dX2_setProduct_135 : decode cX2_setProduct 135 = .ok (.getfield 15, 3) := by decide +kernel
theorem dX2_setProduct_138 : decode cX2_setProduct 138 = .ok (.aload_n 2, 1) := by decide +kernel
theorem dX2_setProduct_139 : decode cX2_setProduct 139 = .ok (.getfield 15, 3) := by decide +kernel
theorem dX2_setProduct_142 : decode cX2_setProduct 142 = .ok (.if_icmp .eq 7, 3) := by decide +kernel
theorem dX2_setProduct_145 : decode cX2_setProduct 145 = .ok (.iconst 1, 1) := by decide +kernel
theorem dX2_setProduct_146 : decode cX2_setProduct 146 = .ok (.goto 4, 3) := by decide +kernel
theorem dX2_setProduct_149 : decode cX2_setProduct 149 = .ok (.iconst 0, 1) := by decide +kernel
theorem dX2_setProduct_150 : decode cX2_setProduct 150 = .ok (.invokevirtual 34, 3) := by decide +kernel
theorem dX2_setProduct_153 : decode cX2_setProduct 153 = .ok (.aload_n 0, 1) := by decide +kernel
theorem dX2_setProduct_154 : decode cX2_setProduct 154 = .ok (.invokevirtual 51, 3) := by decide +kernel
theorem dX2_setProduct_157 : decode cX2_setProduct 157 = .ok (.ireturn, 1) := by decide +kernel
theorem dX2_multiplyBy_0 : decode cX2_multiplyBy 0 = .ok (.aload_n 0, 1) := by decide +kernel
theorem dX2_multiplyBy_1 : decode cX2_multiplyBy 1 = .ok (.getfield 9, 3) := by decide +kernel
theorem dX2_multiplyBy_4 : decode cX2_multiplyBy 4 = .ok (.iconst 1, 1) := by decide +kernel
theorem dX2_multiplyBy_5 : decode cX2_multiplyBy 5 = .ok (.iadd, 1) := by decide +kernel
theorem dX2_multiplyBy_6 : decode cX2_multiplyBy 6 = .ok (.aload_n 0, 1) := by decide +kernel
theorem dX2_multiplyBy_7 : decode cX2_multiplyBy 7 = .ok (.getfield 25, 3) := by decide +kernel
theorem dX2_multiplyBy_10 : decode cX2_multiplyBy 10 = .ok (.arraylength, 1) := by decide +kernel
theorem dX2_multiplyBy_11 : decode cX2_multiplyBy 11 = .ok (.invokestatic 29, 3) := by decide +kernel
theorem dX2_multiplyBy_14 : decode cX2_multiplyBy 14 = .ok (.istore_n 2, 1) := by decide +kernel
theorem dX2_multiplyBy_15 : decode cX2_multiplyBy 15 = .ok (.lconst 0, 1) := by decide +kernel
theorem dX2_multiplyBy_16 : decode cX2_multiplyBy 16 = .ok (.lstore_n 3, 1) := by decide +kernel
theorem dX2_multiplyBy_17 : decode cX2_multiplyBy 17 = .ok (.iconst 0, 1) := by decide +kernel
theorem dX2_multiplyBy_18 : decode cX2_multiplyBy 18 = .ok (.istore 5, 2) := by decide +kernel
theorem dX2_multiplyBy_20 : decode cX2_multiplyBy 20 = .ok (.iload 5, 2) := by decide +kernel
theorem dX2_multiplyBy_22 : decode cX2_multiplyBy 22 = .ok (.iload_n 2, 1) := by decide +kernel
theorem dX2_multiplyBy_23 : decode cX2_multiplyBy 23 = .ok (.if_icmp .ge 40, 3) := by decide +kernel
theorem dX2_multiplyBy_26 : decode cX2_multiplyBy 26 = .ok (.lload_n 3, 1) := by decide +kernel
theorem dX2_multiplyBy_27 : decode cX2_multiplyBy 27 = .ok (.aload_n 0, 1) := by decide +kernel
theorem dX2_multiplyBy_28 : decode cX2_multiplyBy 28 = .ok (.iload 5, 2) := by decide +kernel
theorem dX2_multiplyBy_30 : decode cX2_multiplyBy 30 = .ok (.invokevirtual 46, 3) := by decide +kernel
theorem dX2_multiplyBy_33 : decode cX2_multiplyBy 33 = .ok (.i2l, 1) := by decide +kernel
theorem dX2_multiplyBy_34 : decode cX2_multiplyBy 34 = .ok (.iload_n 1, 1) := by decide +kernel
theorem dX2_multiplyBy_35 : decode cX2_multiplyBy 35 = .ok (.i2l, 1) := by decide +kernel
theorem dX2_multiplyBy_36 : decode cX2_multiplyBy 36 = .ok (.lmul, 1) := by decide +kernel
theorem dX2_multiplyBy_37 : decode cX2_multiplyBy 37 = .ok (.ladd, 1) := by decide +kernel
theorem dX2_multiplyBy_38 : decode cX2_multiplyBy 38 = .ok (.lstore_n 3, 1) := by decide +kernel
theorem dX2_multiplyBy_39 : decode cX2_multiplyBy 39 = .ok (.aload_n 0, 1) := by decide +kernel
theorem dX2_multiplyBy_40 : decode cX2_multiplyBy 40 = .ok (.getfield 25, 3) := by decide +kernel
theorem dX2_multiplyBy_43 : decode cX2_multiplyBy 43 = .ok (.iload 5, 2) := by decide +kernel
theorem dX2_multiplyBy_45 : decode cX2_multiplyBy 45 = .ok (.lload_n 3, 1) := by decide +kernel
theorem dX2_multiplyBy_46 : decode cX2_multiplyBy 46 = .ok (.ldc2_w 32, 3) := by decide +kernel
theorem dX2_multiplyBy_49 : decode cX2_multiplyBy 49 = .ok (.land, 1) := by decide +kernel
theorem dX2_multiplyBy_50 : decode cX2_multiplyBy 50 = .ok (.l2i, 1) := by decide +kernel
theorem dX2_multiplyBy_51 : decode cX2_multiplyBy 51 = .ok (.iastore, 1) := by decide +kernel
theorem dX2_multiplyBy_52 : decode cX2_multiplyBy 52 = .ok (.lload_n 3, 1) := by decide +kernel
theorem dX2_multiplyBy_53 : decode cX2_multiplyBy 53 = .ok (.bipush 25, 2) := by decide +kernel
theorem dX2_multiplyBy_55 : decode cX2_multiplyBy 55 = .ok (.lshr, 1) := by decide +kernel
theorem dX2_multiplyBy_56 : decode cX2_multiplyBy 56 = .ok (.lstore_n 3, 1) := by decide +kernel
theorem dX2_multiplyBy_57 : decode cX2_multiplyBy 57 = .ok (.iinc 5 1, 3) := by decide +kernel
theorem dX2_multiplyBy_60 : decode cX2_multiplyBy 60 = .ok (.goto (-40), 3) := by decide +kernel
theorem dX2_multiplyBy_63 : decode cX2_multiplyBy 63 = .ok (.aload_n 0, 1) := by decide +kernel
theorem dX2_multiplyBy_64 : decode cX2_multiplyBy 64 = .ok (.iload_n 2, 1) := by decide +kernel
theorem dX2_multiplyBy_65 : decode cX2_multiplyBy 65 = .ok (.aload_n 0, 1) := by decide +kernel
theorem dX2_multiplyBy_66 : decode cX2_multiplyBy 66 = .ok (.getfield 15, 3) := by decide +kernel
theorem dX2_multiplyBy_69 : decode cX2_multiplyBy 69 = .ok (.invokevirtual 34, 3) := by decide +kernel
theorem dX2_multiplyBy_72 : decode cX2_multiplyBy 72 = .ok (.return_, 1) := by decide +kernel
theorem dX2_divideBy_0 : decode cX2_divideBy 0 = .ok (.iload_n 1, 1) := by decide +kernel
theorem dX2_divideBy_1 : decode cX2_divideBy 1 = .ok (.iconst 1, 1) := by decide +kernel
theorem dX2_divideBy_2 : decode cX2_divideBy 2 = .ok (.if_icmp .ge 5, 3) := by decide +kernel
theorem dX2_divideBy_5 : decode cX2_divideBy 5 = .ok (.iconst 0, 1) := by decide +kernel
theorem dX2_divideBy_6 : decode cX2_divideBy 6 = .ok (.ireturn, 1) := by decide +kernel
theorem dX2_divideBy_7 : decode cX2_divideBy 7 = .ok (.lconst 0, 1) := by decide +kernel
theorem dX2_divideBy_8 : decode cX2_divideBy 8 = .ok (.lstore_n 2, 1) := by decide +kernel
theorem dX2_divideBy_9 : decode cX2_divideBy 9 = .ok (.aload_n 0, 1) := by decide +kernel
theorem dX2_divideBy_10 : decode cX2_divideBy 10 = .ok (.getfield 9, 3) := by decide +kernel
theorem dX2_divideBy_13 : decode cX2_divideBy 13 = .ok (.iconst 1, 1) := by decide +kernel
theorem dX2_divideBy_14 : decode cX2_divideBy 14 = .ok (.isub, 1) := by decide +kernel
theorem dX2_divideBy_15 : decode cX2_divideBy 15 = .ok (.istore 4, 2) := by decide +kernel
theorem dX2_divideBy_17 : decode cX2_divideBy 17 = .ok (.iload 4, 2) := by decide +kernel
theorem dX2_divideBy_19 : decode cX2_divideBy 19 = .ok (.ifCond .lt 43, 3) := by decide +kernel
theorem dX2_divideBy_22 : decode cX2_divideBy 22 = .ok (.lload_n 2, 1) := by decide +kernel
theorem dX2_divideBy_23 : decode cX2_divideBy 23 = .ok (.bipush 25, 2) := by decide +kernel
theorem dX2_divideBy_25 : decode cX2_divideBy 25 = .ok (.lshl, 1) := by decide +kernel
theorem dX2_divideBy_26 : decode cX2_divideBy 26 = .ok (.aload_n 0, 1) := by decide +kernel
theorem dX2_divideBy_27 : decode cX2_divideBy 27 = .ok (.getfield 25, 3) := by decide +kernel
theorem dX2_divideBy_30 : decode cX2_divideBy 30 = .ok (.iload 4, 2) := by decide +kernel
theorem dX2_divideBy_32 : decode cX2_divideBy 32 = .ok (.iaload, 1) := by decide +kernel
theorem dX2_divideBy_33 : decode cX2_divideBy 33 = .ok (.i2l, 1) := by decide +kernel
theorem dX2_divideBy_34 : decode cX2_divideBy 34 = .ok (.lor, 1) := by decide +kernel
theorem dX2_divideBy_35 : decode cX2_divideBy 35 = .ok (.lstore 5, 2) := by decide +kernel
theorem dX2_divideBy_37 : decode cX2_divideBy 37 = .ok (.aload_n 0, 1) := by decide +kernel
theorem dX2_divideBy_38 : decode cX2_divideBy 38 = .ok (.getfield 25, 3) := by decide +kernel
theorem dX2_divideBy_41 : decode cX2_divideBy 41 = .ok (.iload 4, 2) := by decide +kernel
theorem dX2_divideBy_43 : decode cX2_divideBy 43 = .ok (.lload 5, 2) := by decide +kernel
theorem dX2_divideBy_45 : decode cX2_divideBy 45 = .ok (.iload_n 1, 1) := by decide +kernel
theorem dX2_divideBy_46 : decode cX2_divideBy 46 = .ok (.i2l, 1) := by decide +kernel
theorem dX2_divideBy_47 : decode cX2_divideBy 47 = .ok (.ldiv, 1) := by decide +kernel
theorem dX2_divideBy_48 : decode cX2_divideBy 48 = .ok (.l2i, 1) := by decide +kernel
theorem dX2_divideBy_49 : decode cX2_divideBy 49 = .ok (.iastore, 1) := by decide +kernel
theorem dX2_divideBy_50 : decode cX2_divideBy 50 = .ok (.lload 5, 2) := by decide +kernel
theorem dX2_divideBy_52 : decode cX2_divideBy 52 = .ok (.iload_n 1, 1) := by decide +kernel
theorem dX2_divideBy_53 : decode cX2_divideBy 53 = .ok (.i2l, 1) := by decide +kernel
theorem dX2_divideBy_54 : decode cX2_divideBy 54 = .ok (.lrem, 1) := by decide +kernel
theorem dX2_divideBy_55 : decode cX2_divideBy 55 = .ok (.lstore_n 2, 1) := by decide +kernel
theorem dX2_divideBy_56 : decode cX2_divideBy 56 = .ok (.iinc 4 (-1), 3) := by decide +kernel
theorem dX2_divideBy_59 : decode cX2_divideBy 59 = .ok (.goto (-42), 3) := by decide +kernel
theorem dX2_divideBy_62 : decode cX2_divideBy 62 = .ok (.aload_n 0, 1) := by decide +kernel
theorem dX2_divideBy_63 : decode cX2_divideBy 63 = .ok (.aload_n 0, 1) := by decide +kernel
theorem dX2_divideBy_64 : decode cX2_divideBy 64 = .ok (.getfield 9, 3) := by decide +kernel
theorem dX2_divideBy_67 : decode cX2_divideBy 67 = .ok (.aload_n 0, 1) := by decide +kernel
theorem dX2_divideBy_68 : decode cX2_divideBy 68 = .ok (.getfield 15, 3) := by decide +kernel
theorem dX2_divideBy_71 : decode cX2_divideBy 71 = .ok (.invokevirtual 34, 3) := by decide +kernel
theorem dX2_divideBy_74 : decode cX2_divideBy 74 = .ok (.lload_n 2, 1) := by decide +kernel
theorem dX2_divideBy_75 : decode cX2_divideBy 75 = .ok (.l2i, 1) := by decide +kernel
theorem dX2_divideBy_76 : decode cX2_divideBy 76 = .ok (.ireturn, 1) := by decide +kernel
theorem dX2_dropDigits_0 : decode cX2_dropDigits 0 = .ok (.iconst 0, 1) := by decide +kernel
theorem dX2_dropDigits_1 : decode cX2_dropDigits 1 = .ok (.istore_n 2, 1) := by decide +kernel
theorem dX2_dropDigits_2 : decode cX2_dropDigits 2 = .ok (.iload_n 2, 1) := by decide +kernel
theorem dX2_dropDigits_3 : decode cX2_dropDigits 3 = .ok (.iload_n 1, 1) := by decide +kernel
theorem dX2_dropDigits_4 : decode cX2_dropDigits 4 = .ok (.bipush 9, 2) := by decide +kernel
theorem dX2_dropDigits_6 : decode cX2_dropDigits 6 = .ok (.idiv, 1) := by decide +kernel
theorem dX2_dropDigits_7 : decode cX2_dropDigits 7 = .ok (.if_icmp .ge 16, 3) := by decide +kernel
theorem dX2_dropDigits_10 : decode cX2_dropDigits 10 = .ok (.aload_n 0, 1) := by decide +kernel
theorem dX2_dropDigits_11 : decode cX2_dropDigits 11 = .ok (.ldc 55, 2) := by decide +kernel
theorem dX2_dropDigits_13 : decode cX2_dropDigits 13 = .ok (.invokevirtual 56, 3) := by decide +kernel
theorem dX2_dropDigits_16 : decode cX2_dropDigits 16 = .ok (.pop, 1) := by decide +kernel
theorem dX2_dropDigits_17 : decode cX2_dropDigits 17 = .ok (.iinc 2 1, 3) := by decide +kernel
theorem dX2_dropDigits_20 : decode cX2_dropDigits 20 = .ok (.goto (-18), 3) := by decide +kernel
theorem dX2_dropDigits_23 : decode cX2_dropDigits 23 = .ok (.iconst 0, 1) := by decide +kernel
theorem dX2_dropDigits_24 : decode cX2_dropDigits 24 = .ok (.istore_n 2, 1) := by decide +kernel
theorem dX2_dropDigits_25 : decode cX2_dropDigits 25 = .ok (.iload_n 2, 1) := by decide +kernel
theorem dX2_dropDigits_26 : decode cX2_dropDigits 26 = .ok (.iload_n 1, 1) := by decide +kernel
theorem dX2_dropDigits_27 : decode cX2_dropDigits 27 = .ok (.bipush 9, 2) := by decide +kernel
theorem dX2_dropDigits_29 : decode cX2_dropDigits 29 = .ok (.irem, 1) := by decide +kernel
theorem dX2_dropDigits_30 : decode cX2_dropDigits 30 = .ok (.if_icmp .ge 16, 3) := by decide +kernel
theorem dX2_dropDigits_33 : decode cX2_dropDigits 33 = .ok (.aload_n 0, 1) := by decide +kernel
theorem dX2_dropDigits_34 : decode cX2_dropDigits 34 = .ok (.bipush 10, 2) := by decide +kernel
theorem dX2_dropDigits_36 : decode cX2_dropDigits 36 = .ok (.invokevirtual 56, 3) := by decide +kernel
theorem dX2_dropDigits_39 : decode cX2_dropDigits 39 = .ok (.pop, 1) := by decide +kernel
theorem dX2_dropDigits_40 : decode cX2_dropDigits 40 = .ok (.iinc 2 1, 3) := by decide +kernel
theorem dX2_dropDigits_43 : decode cX2_dropDigits 43 = .ok (.goto (-18), 3) := by decide +kernel
theorem dX2_dropDigits_46 : decode cX2_dropDigits 46 = .ok (.return_, 1) := by decide +kernel
theorem dX2_restBelowZero_0 : decode cX2_restBelowZero 0 = .ok (.lconst 0, 1) := by decide +kernel
theorem dX2_restBelowZero_1 : decode cX2_restBelowZero 1 = .ok (.lstore_n 3, 1) := by decide +kernel
theorem dX2_restBelowZero_2 : decode cX2_restBelowZero 2 = .ok (.aload_n 0, 1) := by decide +kernel
theorem dX2_restBelowZero_3 : decode cX2_restBelowZero 3 = .ok (.getfield 9, 3) := by decide +kernel
theorem dX2_restBelowZero_6 : decode cX2_restBelowZero 6 = .ok (.iconst 1, 1) := by decide +kernel
theorem dX2_restBelowZero_7 : decode cX2_restBelowZero 7 = .ok (.isub, 1) := by decide +kernel
theorem dX2_restBelowZero_8 : decode cX2_restBelowZero 8 = .ok (.istore 5, 2) := by decide +kernel
theorem dX2_restBelowZero_10 : decode cX2_restBelowZero 10 = .ok (.iload 5, 2) := by decide +kernel
theorem dX2_restBelowZero_12 : decode cX2_restBelowZero 12 = .ok (.ifCond .lt 71, 3) := by decide +kernel
theorem dX2_restBelowZero_15 : decode cX2_restBelowZero 15 = .ok (.bipush 24, 2) := by decide +kernel
theorem dX2_restBelowZero_17 : decode cX2_restBelowZero 17 = .ok (.istore 6, 2) := by decide +kernel
theorem dX2_restBelowZero_19 : decode cX2_restBelowZero 19 = .ok (.iload 6, 2) := by decide +kernel
theorem dX2_restBelowZero_21 : decode cX2_restBelowZero 21 = .ok (.ifCond .lt 56, 3) := by decide +kernel
theorem dX2_restBelowZero_24 : decode cX2_restBelowZero 24 = .ok (.lload_n 1, 1) := by decide +kernel
theorem dX2_restBelowZero_25 : decode cX2_restBelowZero 25 = .ok (.lload_n 3, 1) := by decide +kernel
theorem dX2_restBelowZero_26 : decode cX2_restBelowZero 26 = .ok (.lsub, 1) := by decide +kernel
theorem dX2_restBelowZero_27 : decode cX2_restBelowZero 27 = .ok (.lstore 7, 2) := by decide +kernel
theorem dX2_restBelowZero_29 : decode cX2_restBelowZero 29 = .ok (.lload_n 3, 1) := by decide +kernel
theorem dX2_restBelowZero_30 : decode cX2_restBelowZero 30 = .ok (.lload 7, 2) := by decide +kernel
theorem dX2_restBelowZero_32 : decode cX2_restBelowZero 32 = .ok (.lcmp, 1) := by decide +kernel
theorem dX2_restBelowZero_33 : decode cX2_restBelowZero 33 = .ok (.ifCond .gt 10, 3) := by decide +kernel
theorem dX2_restBelowZero_36 : decode cX2_restBelowZero 36 = .ok (.lload_n 3, 1) := by decide +kernel
theorem dX2_restBelowZero_37 : decode cX2_restBelowZero 37 = .ok (.lload 7, 2) := by decide +kernel
theorem dX2_restBelowZero_39 : decode cX2_restBelowZero 39 = .ok (.lsub, 1) := by decide +kernel
theorem dX2_restBelowZero_40 : decode cX2_restBelowZero 40 = .ok (.goto 6, 3) := by decide +kernel
theorem dX2_restBelowZero_43 : decode cX2_restBelowZero 43 = .ok (.lload_n 3, 1) := by decide +kernel
theorem dX2_restBelowZero_44 : decode cX2_restBelowZero 44 = .ok (.lload_n 3, 1) := by decide +kernel
theorem dX2_restBelowZero_45 : decode cX2_restBelowZero 45 = .ok (.ladd, 1) := by decide +kernel
theorem dX2_restBelowZero_46 : decode cX2_restBelowZero 46 = .ok (.lstore_n 3, 1) := by decide +kernel
theorem dX2_restBelowZero_47 : decode cX2_restBelowZero 47 = .ok (.lload_n 3, 1) := by decide +kernel
theorem dX2_restBelowZero_48 : decode cX2_restBelowZero 48 = .ok (.aload_n 0, 1) := by decide +kernel
theorem dX2_restBelowZero_49 : decode cX2_restBelowZero 49 = .ok (.getfield 25, 3) := by decide +kernel
theorem dX2_restBelowZero_52 : decode cX2_restBelowZero 52 = .ok (.iload 5, 2) := by decide +kernel
theorem dX2_restBelowZero_54 : decode cX2_restBelowZero 54 = .ok (.iaload, 1) := by decide +kernel
theorem dX2_restBelowZero_55 : decode cX2_restBelowZero 55 = .ok (.iload 6, 2) := by decide +kernel
theorem dX2_restBelowZero_57 : decode cX2_restBelowZero 57 = .ok (.ishr, 1) := by decide +kernel
theorem dX2_restBelowZero_58 : decode cX2_restBelowZero 58 = .ok (.iconst 1, 1) := by decide +kernel
theorem dX2_restBelowZero_59 : decode cX2_restBelowZero 59 = .ok (.iand, 1) := by decide +kernel
theorem dX2_restBelowZero_60 : decode cX2_restBelowZero 60 = .ok (.i2l, 1) := by decide +kernel
theorem dX2_restBelowZero_61 : decode cX2_restBelowZero 61 = .ok (.lsub, 1) := by decide +kernel
theorem dX2_restBelowZero_62 : decode cX2_restBelowZero 62 = .ok (.lstore_n 3, 1) := by decide +kernel
theorem dX2_restBelowZero_63 : decode cX2_restBelowZero 63 = .ok (.lload_n 3, 1) := by decide +kernel
theorem dX2_restBelowZero_64 : decode cX2_restBelowZero 64 = .ok (.lload_n 1, 1) := by decide +kernel
theorem dX2_restBelowZero_65 : decode cX2_restBelowZero 65 = .ok (.lcmp, 1) := by decide +kernel
theorem dX2_restBelowZero_66 : decode cX2_restBelowZero 66 = .ok (.ifCond .ne 5, 3) := by decide +kernel
theorem dX2_restBelowZero_69 : decode cX2_restBelowZero 69 = .ok (.lconst 0, 1) := by decide +kernel
theorem dX2_restBelowZero_70 : decode cX2_restBelowZero 70 = .ok (.lstore_n 3, 1) := by decide +kernel
theorem dX2_restBelowZero_71 : decode cX2_restBelowZero 71 = .ok (.iinc 6 (-1), 3) := by decide +kernel
theorem dX2_restBelowZero_74 : decode cX2_restBelowZero 74 = .ok (.goto (-55), 3) := by decide +kernel
theorem dX2_restBelowZero_77 : decode cX2_restBelowZero 77 = .ok (.iinc 5 (-1), 3) := by decide +kernel
theorem dX2_restBelowZero_80 : decode cX2_restBelowZero 80 = .ok (.goto (-70), 3) := by decide +kernel
theorem dX2_restBelowZero_83 : decode cX2_restBelowZero 83 = .ok (.lload_n 3, 1) := by decide +kernel
theorem dX2_restBelowZero_84 : decode cX2_restBelowZero 84 = .ok (.lreturn, 1) := by decide +kernel
end
section
theorem dX0_init_0 : decode cX0_init 0 = .ok (.aload_n 0, 1) := by decide +kernel
theorem dX0_init_1 : decode cX0_init 1 = .ok (.invokespecial 3, 3) := by decide +kernel
theorem dX0_init_4 : decode cX0_init 4 = .ok (.aload_n 0, 1) := by decide +kernel
theorem dX0_init_5 : decode cX0_init 5 = .ok (.bipush 66, 2) := by decide +kernel
theorem dX0_init_7 : decode cX0_init 7 = .ok (.newarray .int, 2) := by decide +kernel
theorem dX0_init_9 : decode cX0_init 9 = .ok (.putfield 9, 3) := by decide +kernel
theorem dX0_init_12 : decode cX0_init 12 = .ok (.aload_n 0, 1) := by decide +kernel
theorem dX0_init_13 : decode cX0_init 13 = .ok (.bipush 66, 2) := by decide +kernel
theorem dX0_init_15 : decode cX0_init 15 = .ok (.newarray .int, 2) := by decide +kernel
theorem dX0_init_17 : decode cX0_init 17 = .ok (.putfield 15, 3) := by decide +kernel
theorem dX0_init_20 : decode cX0_init 20 = .ok (.return_, 1) := by decide +kernel
theorem dX0_divide_0 : decode cX0_divide 0 = .ok (.aload_n 1, 1) := by decide +kernel
theorem dX0_divide_1 : decode cX0_divide 1 = .ok (.getfield 18, 3) := by decide +kernel
theorem dX0_divide_4 : decode cX0_divide 4 = .ok (.aload_n 2, 1) := by decide +kernel
theorem dX0_divide_5 : decode cX0_divide 5 = .ok (.getfield 18, 3) := by decide +kernel
theorem dX0_divide_8 : decode cX0_divide 8 = .ok (.isub, 1) := by decide +kernel
theorem dX0_divide_9 : decode cX0_divide 9 = .ok (.iconst 1, 1) := by decide +kernel
theorem dX0_divide_10 : decode cX0_divide 10 = .ok (.iadd, 1) := by decide +kernel
theorem dX0_divide_11 : decode cX0_divide 11 = .ok (.istore 4, 2) := by decide +kernel
theorem dX0_divide_13 : decode cX0_divide 13 = .ok (.aload_n 2, 1) := by decide +kernel
theorem dX0_divide_14 : decode cX0_divide 14 = .ok (.invokevirtual 24, 3) := by decide +kernel
theorem dX0_divide_17 : decode cX0_divide 17 = .ok (.ifCond .ne 28, 3) := by decide +kernel
theorem dX0_divide_20 : decode cX0_divide 20 = .ok (.iload 4, 2) := by decide +kernel
theorem dX0_divide_22 : decode cX0_divide 22 = .ok (.iconst 1, 1) := by decide +kernel
theorem dX0_divide_23 : decode cX0_divide 23 = .ok (.if_icmp .lt 22, 3) := by decide +kernel
theorem dX0_divide_26 : decode cX0_divide 26 = .ok (.iload 4, 2) := by decide +kernel
theorem dX0_divide_28 : decode cX0_divide 28 = .ok (.aload_n 3, 1) := by decide +kernel
theorem dX0_divide_29 : decode cX0_divide 29 = .ok (.getfield 28, 3) := by decide +kernel
theorem dX0_divide_32 : decode cX0_divide 32 = .ok (.arraylength, 1) := by decide +kernel
theorem dX0_divide_33 : decode cX0_divide 33 = .ok (.if_icmp .gt 12, 3) := by decide +kernel
theorem dX0_divide_36 : decode cX0_divide 36 = .ok (.aload_n 1, 1) := by decide +kernel
theorem dX0_divide_37 : decode cX0_divide 37 = .ok (.getfield 18, 3) := by decide +kernel
theorem dX0_divide_40 : decode cX0_divide 40 = .ok (.bipush 65, 2) := by decide +kernel
theorem dX0_divide_42 : decode cX0_divide 42 = .ok (.if_icmp .le 9, 3) := by decide +kernel
theorem dX0_divide_45 : decode cX0_divide 45 = .ok (.aload_n 3, 1) := by decide +kernel
theorem dX0_divide_46 : decode cX0_divide 46 = .ok (.lconst 0, 1) := by decide +kernel
theorem dX0_divide_47 : decode cX0_divide 47 = .ok (.invokevirtual 31, 3) := by decide +kernel
theorem dX0_divide_50 : decode cX0_divide 50 = .ok (.return_, 1) := by decide +kernel
theorem dX0_divide_51 : decode cX0_divide 51 = .ok (.aload_n 1, 1) := by decide +kernel
theorem dX0_divide_52 : decode cX0_divide 52 = .ok (.getfield 35, 3) := by decide +kernel
theorem dX0_divide_55 : decode cX0_divide 55 = .ok (.aload_n 2, 1) := by decide +kernel
theorem dX0_divide_56 : decode cX0_divide 56 = .ok (.getfield 35, 3) := by decide +kernel
theorem dX0_divide_59 : decode cX0_divide 59 = .ok (.if_icmp .eq 7, 3) := by decide +kernel
theorem dX0_divide_62 : decode cX0_divide 62 = .ok (.iconst 1, 1) := by decide +kernel
theorem dX0_divide_63 : decode cX0_divide 63 = .ok (.goto 4, 3) := by decide +kernel
theorem dX0_divide_66 : decode cX0_divide 66 = .ok (.iconst 0, 1) := by decide +kernel
theorem dX0_divide_67 : decode cX0_divide 67 = .ok (.istore 5, 2) := by decide +kernel
theorem dX0_divide_69 : decode cX0_divide 69 = .ok (.aload_n 2, 1) := by decide +kernel
theorem dX0_divide_70 : decode cX0_divide 70 = .ok (.getfield 18, 3) := by decide +kernel
theorem dX0_divide_73 : decode cX0_divide 73 = .ok (.iconst 1, 1) := by decide +kernel
theorem dX0_divide_74 : decode cX0_divide 74 = .ok (.if_icmp .ne 30, 3) := by decide +kernel
theorem dX0_divide_77 : decode cX0_divide 77 = .ok (.aload_n 3, 1) := by decide +kernel
theorem dX0_divide_78 : decode cX0_divide 78 = .ok (.aload_n 1, 1) := by decide +kernel
theorem dX0_divide_79 : decode cX0_divide 79 = .ok (.invokevirtual 39, 3) := by decide +kernel
theorem dX0_divide_82 : decode cX0_divide 82 = .ok (.aload_n 3, 1) := by decide +kernel
theorem dX0_divide_83 : decode cX0_divide 83 = .ok (.aload_n 2, 1) := by decide +kernel
theorem dX0_divide_84 : decode cX0_divide 84 = .ok (.getfield 28, 3) := by decide +kernel
theorem dX0_divide_87 : decode cX0_divide 87 = .ok (.iconst 0, 1) := by decide +kernel
theorem dX0_divide_88 : decode cX0_divide 88 = .ok (.iaload, 1) := by decide +kernel
theorem dX0_divide_89 : decode cX0_divide 89 = .ok (.invokevirtual 43, 3) := by decide +kernel
theorem dX0_divide_92 : decode cX0_divide 92 = .ok (.pop, 1) := by decide +kernel
theorem dX0_divide_93 : decode cX0_divide 93 = .ok (.aload_n 3, 1) := by decide +kernel
theorem dX0_divide_94 : decode cX0_divide 94 = .ok (.aload_n 3, 1) := by decide +kernel
theorem dX0_divide_95 : decode cX0_divide 95 = .ok (.getfield 18, 3) := by decide +kernel
theorem dX0_divide_98 : decode cX0_divide 98 = .ok (.iload 5, 2) := by decide +kernel
theorem dX0_divide_100 : decode cX0_divide 100 = .ok (.invokevirtual 47, 3) := by decide +kernel
theorem dX0_divide_103 : decode cX0_divide 103 = .ok (.return_, 1) := by decide +kernel
theorem dX0_divide_104 : decode cX0_divide 104 = .ok (.bipush 24, 2) := by decide +kernel
theorem dX0_divide_106 : decode cX0_divide 106 = .ok (.aload_n 2, 1) := by decide +kernel
theorem dX0_divide_107 : decode cX0_divide 107 = .ok (.getfield 28, 3) := by decide +kernel
theorem dX0_divide_110 : decode cX0_divide 110 = .ok (.aload_n 2, 1) := by decide +kernel
theorem dX0_divide_111 : decode cX0_divide 111 = .ok (.getfield 18, 3) := by decide +kernel
theorem dX0_divide_114 : decode cX0_divide 114 = .ok (.iconst 1, 1) := by decide +kernel
theorem dX0_divide_115 : decode cX0_divide 115 = .ok (.isub, 1) := by decide +kernel
theorem dX0_divide_116 : decode cX0_divide 116 = .ok (.iaload, 1) := by decide +kernel
theorem dX0_divide_117 : decode cX0_divide 117 = .ok (.invokestatic 51, 3) := by decide +kernel
theorem dX0_divide_120 : decode cX0_divide 120 = .ok (.isub, 1) := by decide +kernel
theorem dX0_divide_121 : decode cX0_divide 121 = .ok (.istore 6, 2) := by decide +kernel
theorem dX0_divide_123 : decode cX0_divide 123 = .ok (.aload_n 0, 1) := by decide +kernel
theorem dX0_divide_124 : decode cX0_divide 124 = .ok (.getfield 15, 3) := by decide +kernel
theorem dX0_divide_127 : decode cX0_divide 127 = .ok (.aload_n 2, 1) := by decide +kernel
theorem dX0_divide_128 : decode cX0_divide 128 = .ok (.iload 6, 2) := by decide +kernel
theorem dX0_divide_130 : decode cX0_divide 130 = .ok (.invokestatic 54, 3) := by decide +kernel
theorem dX0_divide_133 : decode cX0_divide 133 = .ok (.aload_n 0, 1) := by decide +kernel
theorem dX0_divide_134 : decode cX0_divide 134 = .ok (.getfield 9, 3) := by decide +kernel
theorem dX0_divide_137 : decode cX0_divide 137 = .ok (.aload_n 1, 1) := by decide +kernel
theorem dX0_divide_138 : decode cX0_divide 138 = .ok (.iload 6, 2) := by decide +kernel
theorem dX0_divide_140 : decode cX0_divide 140 = .ok (.invokestatic 54, 3) := by decide +kernel
theorem dX0_divide_143 : decode cX0_divide 143 = .ok (.iload 4, 2) := by decide +kernel
theorem dX0_divide_145 : decode cX0_divide 145 = .ok (.iconst 1, 1) := by decide +kernel
theorem dX0_divide_146 : decode cX0_divide 146 = .ok (.isub, 1) := by decide +kernel
theorem dX0_divide_147 : decode cX0_divide 147 = .ok (.istore 7, 2) := by decide +kernel
theorem dX0_divide_149 : decode cX0_divide 149 = .ok (.iload 7, 2) := by decide +kernel
theorem dX0_divide_151 : decode cX0_divide 151 = .ok (.ifCond .lt 26, 3) := by decide +kernel
theorem dX0_divide_154 : decode cX0_divide 154 = .ok (.aload_n 3, 1) := by decide +kernel
theorem dX0_divide_155 : decode cX0_divide 155 = .ok (.getfield 28, 3) := by decide +kernel
theorem dX0_divide_158 : decode cX0_divide 158 = .ok (.iload 7, 2) := by decide +kernel
theorem dX0_divide_160 : decode cX0_divide 160 = .ok (.aload_n 0, 1) := by decide +kernel
theorem dX0_divide_161 : decode cX0_divide 161 = .ok (.iload 7, 2) := by decide +kernel
theorem dX0_divide_163 : decode cX0_divide 163 = .ok (.aload_n 2, 1) := by decide +kernel
theorem dX0_divide_164 : decode cX0_divide 164 = .ok (.getfield 18, 3) := by decide +kernel
theorem dX0_divide_167 : decode cX0_divide 167 = .ok (.invokevirtual 58, 3) := by decide +kernel
theorem dX0_divide_170 : decode cX0_divide 170 = .ok (.iastore, 1) := by decide +kernel
theorem dX0_divide_171 : decode cX0_divide 171 = .ok (.iinc 7 (-1), 3) := by decide +kernel
theorem dX0_divide_174 : decode cX0_divide 174 = .ok (.goto (-25), 3) := by decide +kernel
theorem dX0_divide_177 : decode cX0_divide 177 = .ok (.aload_n 3, 1) := by decide +kernel
theorem dX0_divide_178 : decode cX0_divide 178 = .ok (.iload 4, 2) := by decide +kernel
theorem dX0_divide_180 : decode cX0_divide 180 = .ok (.iload 5, 2) := by decide +kernel
theorem dX0_divide_182 : decode cX0_divide 182 = .ok (.invokevirtual 47, 3) := by decide +kernel
theorem dX0_divide_185 : decode cX0_divide 185 = .ok (.return_, 1) := by decide +kernel
theorem dX0_shiftInto_0 : decode cX0_shiftInto 0 = .ok (.lconst 0, 1) := by decide +kernel
theorem dX0_shiftInto_1 : decode cX0_shiftInto 1 = .ok (.lstore_n 3, 1) := by decide +kernel
theorem dX0_shiftInto_2 : decode cX0_shiftInto 2 = .ok (.iconst 0, 1) := by decide +kernel
theorem dX0_shiftInto_3 : decode cX0_shiftInto 3 = .ok (.istore 5, 2) := by decide +kernel
theorem dX0_shiftInto_5 : decode cX0_shiftInto 5 = .ok (.iload 5, 2) := by decide +kernel
theorem dX0_shiftInto_7 : decode cX0_shiftInto 7 = .ok (.aload_n 1, 1) := by decide +kernel
theorem dX0_shiftInto_8 : decode cX0_shiftInto 8 = .ok (.getfield 18, 3) := by decide +kernel
theorem dX0_shiftInto_11 : decode cX0_shiftInto 11 = .ok (.if_icmp .gt 43, 3) := by decide +kernel
theorem dX0_shiftInto_14 : decode cX0_shiftInto 14 = .ok (.iload 5, 2) := by decide +kernel
theorem dX0_shiftInto_16 : decode cX0_shiftInto 16 = .ok (.aload_n 0, 1) := by decide +kernel
theorem dX0_shiftInto_17 : decode cX0_shiftInto 17 = .ok (.arraylength, 1) := by decide +kernel
theorem dX0_shiftInto_18 : decode cX0_shiftInto 18 = .ok (.if_icmp .ge 36, 3) := by decide +kernel
theorem dX0_shiftInto_21 : decode cX0_shiftInto 21 = .ok (.lload_n 3, 1) := by decide +kernel
theorem dX0_shiftInto_22 : decode cX0_shiftInto 22 = .ok (.aload_n 1, 1) := by decide +kernel
theorem dX0_shiftInto_23 : decode cX0_shiftInto 23 = .ok (.iload 5, 2) := by decide +kernel
theorem dX0_shiftInto_25 : decode cX0_shiftInto 25 = .ok (.invokevirtual 62, 3) := by decide +kernel
theorem dX0_shiftInto_28 : decode cX0_shiftInto 28 = .ok (.i2l, 1) := by decide +kernel
theorem dX0_shiftInto_29 : decode cX0_shiftInto 29 = .ok (.iload_n 2, 1) := by decide +kernel
theorem dX0_shiftInto_30 : decode cX0_shiftInto 30 = .ok (.lshl, 1) := by decide +kernel
theorem dX0_shiftInto_31 : decode cX0_shiftInto 31 = .ok (.lor, 1) := by decide +kernel
theorem dX0_shiftInto_32 : decode cX0_shiftInto 32 = .ok (.lstore_n 3, 1) := by decide +kernel
theorem dX0_shiftInto_33 : decode cX0_shiftInto 33 = .ok (.aload_n 0, 1) := by decide +kernel
theorem dX0_shiftInto_34 : decode cX0_shiftInto 34 = .ok (.iload 5, 2) := by decide +kernel
theorem dX0_shiftInto_36 : decode cX0_shiftInto 36 = .ok (.lload_n 3, 1) := by decide +kernel
theorem dX0_shiftInto_37 : decode cX0_shiftInto 37 = .ok (.ldc2_w 65, 3) := by decide +kernel
theorem dX0_shiftInto_40 : decode cX0_shiftInto 40 = .ok (.land, 1) := by decide +kernel
theorem dX0_shiftInto_41 : decode cX0_shiftInto 41 = .ok (.l2i, 1) := by decide +kernel
theorem dX0_shiftInto_42 : decode cX0_shiftInto 42 = .ok (.iastore, 1) := by decide +kernel
theorem dX0_shiftInto_43 : decode cX0_shiftInto 43 = .ok (.lload_n 3, 1) := by decide +kernel
theorem dX0_shiftInto_44 : decode cX0_shiftInto 44 = .ok (.bipush 25, 2) := by decide +kernel
theorem dX0_shiftInto_46 : decode cX0_shiftInto 46 = .ok (.lshr, 1) := by decide +kernel
theorem dX0_shiftInto_47 : decode cX0_shiftInto 47 = .ok (.lstore_n 3, 1) := by decide +kernel
theorem dX0_shiftInto_48 : decode cX0_shiftInto 48 = .ok (.iinc 5 1, 3) := by decide +kernel
theorem dX0_shiftInto_51 : decode cX0_shiftInto 51 = .ok (.goto (-46), 3) := by decide +kernel
theorem dX0_shiftInto_54 : decode cX0_shiftInto 54 = .ok (.return_, 1) := by decide +kernel
theorem dX0_nextLimb_0 : decode cX0_nextLimb 0 = .ok (.aload_n 0, 1) := by decide +kernel
theorem dX0_nextLimb_1 : decode cX0_nextLimb 1 = .ok (.iload_n 1, 1) := by decide +kernel
theorem dX0_nextLimb_2 : decode cX0_nextLimb 2 = .ok (.iload_n 2, 1) := by decide +kernel
theorem dX0_nextLimb_3 : decode cX0_nextLimb 3 = .ok (.invokevirtual 67, 3) := by decide +kernel
theorem dX0_nextLimb_6 : decode cX0_nextLimb 6 = .ok (.lstore_n 3, 1) := by decide +kernel
theorem dX0_nextLimb_7 : decode cX0_nextLimb 7 = .ok (.aload_n 0, 1) := by decide +kernel
theorem dX0_nextLimb_8 : decode cX0_nextLimb 8 = .ok (.iload_n 1, 1) := by decide +kernel
theorem dX0_nextLimb_9 : decode cX0_nextLimb 9 = .ok (.iload_n 2, 1) := by decide +kernel
theorem dX0_nextLimb_10 : decode cX0_nextLimb 10 = .ok (.lload_n 3, 1) := by decide +kernel
theorem dX0_nextLimb_11 : decode cX0_nextLimb 11 = .ok (.invokevirtual 71, 3) := by decide +kernel
theorem dX0_nextLimb_14 : decode cX0_nextLimb 14 = .ok (.ifCond .eq 6, 3) := by decide +kernel
theorem dX0_nextLimb_17 : decode cX0_nextLimb 17 = .ok (.lload_n 3, 1) := by decide +kernel
theorem dX0_nextLimb_18 : decode cX0_nextLimb 18 = .ok (.l2i, 1) := by decide +kernel
theorem dX0_nextLimb_19 : decode cX0_nextLimb 19 = .ok (.ireturn, 1) := by decide +kernel
theorem dX0_nextLimb_20 : decode cX0_nextLimb 20 = .ok (.aload_n 0, 1) := by decide +kernel
theorem dX0_nextLimb_21 : decode cX0_nextLimb 21 = .ok (.iload_n 1, 1) := by decide +kernel
theorem dX0_nextLimb_22 : decode cX0_nextLimb 22 = .ok (.iload_n 2, 1) := by decide +kernel
theorem dX0_nextLimb_23 : decode cX0_nextLimb 23 = .ok (.invokevirtual 75, 3) := by decide +kernel
theorem dX0_nextLimb_26 : decode cX0_nextLimb 26 = .ok (.lload_n 3, 1) := by decide +kernel
theorem dX0_nextLimb_27 : decode cX0_nextLimb 27 = .ok (.l2i, 1) := by decide +kernel
theorem dX0_nextLimb_28 : decode cX0_nextLimb 28 = .ok (.iconst 1, 1) := by decide +kernel
theorem dX0_nextLimb_29 : decode cX0_nextLimb 29 = .ok (.isub, 1) := by decide +kernel
theorem dX0_nextLimb_30 : decode cX0_nextLimb 30 = .ok (.ireturn, 1) := by decide +kernel
theorem dX0_guessLimb_0 : decode cX0_guessLimb 0 = .ok (.aload_n 0, 1) := by decide +kernel
theorem dX0_guessLimb_1 : decode cX0_guessLimb 1 = .ok (.getfield 15, 3) := by decide +kernel
theorem dX0_guessLimb_4 : decode cX0_guessLimb 4 = .ok (.iload_n 2, 1) := by decide +kernel
theorem dX0_guessLimb_5 : decode cX0_guessLimb 5 = .ok (.iconst 1, 1) := by decide +kernel
theorem dX0_guessLimb_6 : decode cX0_guessLimb 6 = .ok (.isub, 1) := by decide +kernel
theorem dX0_guessLimb_7 : decode cX0_guessLimb 7 = .ok (.iaload, 1) := by decide +kernel
theorem dX0_guessLimb_8 : decode cX0_guessLimb 8 = .ok (.i2l, 1) := by decide +kernel
theorem dX0_guessLimb_9 : decode cX0_guessLimb 9 = .ok (.lstore_n 3, 1) := by decide +kernel
theorem dX0_guessLimb_10 : decode cX0_guessLimb 10 = .ok (.lload_n 3, 1) := by decide +kernel
theorem dX0_guessLimb_11 : decode cX0_guessLimb 11 = .ok (.lconst 1, 1) := by decide +kernel
theorem dX0_guessLimb_12 : decode cX0_guessLimb 12 = .ok (.lcmp, 1) := by decide +kernel
theorem dX0_guessLimb_13 : decode cX0_guessLimb 13 = .ok (.ifCond .ge 5, 3) := by decide +kernel
theorem dX0_guessLimb_16 : decode cX0_guessLimb 16 = .ok (.lconst 0, 1) := by decide +kernel
theorem dX0_guessLimb_17 : decode cX0_guessLimb 17 = .ok (.lreturn, 1) := by decide +kernel
theorem dX0_guessLimb_18 : decode cX0_guessLimb 18 = .ok (.aload_n 0, 1) := by decide +kernel
theorem dX0_guessLimb_19 : decode cX0_guessLimb 19 = .ok (.getfield 9, 3) := by decide +kernel
theorem dX0_guessLimb_22 : decode cX0_guessLimb 22 = .ok (.iload_n 1, 1) := by decide +kernel
theorem dX0_guessLimb_23 : decode cX0_guessLimb 23 = .ok (.iload_n 2, 1) := by decide +kernel
theorem dX0_guessLimb_24 : decode cX0_guessLimb 24 = .ok (.iadd, 1) := by decide +kernel
theorem dX0_guessLimb_25 : decode cX0_guessLimb 25 = .ok (.iaload, 1) := by decide +kernel
theorem dX0_guessLimb_26 : decode cX0_guessLimb 26 = .ok (.i2l, 1) := by decide +kernel
theorem dX0_guessLimb_27 : decode cX0_guessLimb 27 = .ok (.bipush 25, 2) := by decide +kernel
theorem dX0_guessLimb_29 : decode cX0_guessLimb 29 = .ok (.lshl, 1) := by decide +kernel
theorem dX0_guessLimb_30 : decode cX0_guessLimb 30 = .ok (.aload_n 0, 1) := by decide +kernel
theorem dX0_guessLimb_31 : decode cX0_guessLimb 31 = .ok (.getfield 9, 3) := by decide +kernel
theorem dX0_guessLimb_34 : decode cX0_guessLimb 34 = .ok (.iload_n 1, 1) := by decide +kernel
theorem dX0_guessLimb_35 : decode cX0_guessLimb 35 = .ok (.iload_n 2, 1) := by decide +kernel
theorem dX0_guessLimb_36 : decode cX0_guessLimb 36 = .ok (.iadd, 1) := by decide +kernel
theorem dX0_guessLimb_37 : decode cX0_guessLimb 37 = .ok (.iconst 1, 1) := by decide +kernel
theorem dX0_guessLimb_38 : decode cX0_guessLimb 38 = .ok (.isub, 1) := by decide +kernel
theorem dX0_guessLimb_39 : decode cX0_guessLimb 39 = .ok (.iaload, 1) := by decide +kernel
theorem dX0_guessLimb_40 : decode cX0_guessLimb 40 = .ok (.i2l, 1) := by decide +kernel
theorem dX0_guessLimb_41 : decode cX0_guessLimb 41 = .ok (.lor, 1) := by decide +kernel
theorem dX0_guessLimb_42 : decode cX0_guessLimb 42 = .ok (.lstore 5, 2) := by decide +kernel
theorem dX0_guessLimb_44 : decode cX0_guessLimb 44 = .ok (.lload 5, 2) := by decide +kernel
theorem dX0_guessLimb_46 : decode cX0_guessLimb 46 = .ok (.lload_n 3, 1) := by decide +kernel
theorem dX0_guessLimb_47 : decode cX0_guessLimb 47 = .ok (.ldiv, 1) := by decide +kernel
theorem dX0_guessLimb_48 : decode cX0_guessLimb 48 = .ok (.lstore 7, 2) := by decide +kernel
theorem dX0_guessLimb_50 : decode cX0_guessLimb 50 = .ok (.lload 5, 2) := by decide +kernel
theorem dX0_guessLimb_52 : decode cX0_guessLimb 52 = .ok (.lload 7, 2) := by decide +kernel
theorem dX0_guessLimb_54 : decode cX0_guessLimb 54 = .ok (.lload_n 3, 1) := by decide +kernel
theorem dX0_guessLimb_55 : decode cX0_guessLimb 55 = .ok (.lmul, 1) := by decide +kernel
theorem dX0_guessLimb_56 : decode cX0_guessLimb 56 = .ok (.lsub, 1) := by decide +kernel
theorem dX0_guessLimb_57 : decode cX0_guessLimb 57 = .ok (.lstore 9, 2) := by decide +kernel
theorem dX0_guessLimb_59 : decode cX0_guessLimb 59 = .ok (.iconst 0, 1) := by decide +kernel
theorem dX0_guessLimb_60 : decode cX0_guessLimb 60 = .ok (.istore 11, 2) := by decide +kernel
theorem dX0_guessLimb_62 : decode cX0_guessLimb 62 = .ok (.iload 11, 2) := by decide +kernel
theorem dX0_guessLimb_64 : decode cX0_guessLimb 64 = .ok (.iconst 2, 1) := by decide +kernel
theorem dX0_guessLimb_65 : decode cX0_guessLimb 65 = .ok (.if_icmp .ge 79, 3) := by decide +kernel
theorem dX0_guessLimb_68 : decode cX0_guessLimb 68 = .ok (.lload 9, 2) := by decide +kernel
theorem dX0_guessLimb_70 : decode cX0_guessLimb 70 = .ok (.ldc2_w 79, 3) := by decide +kernel
theorem dX0_guessLimb_73 : decode cX0_guessLimb 73 = .ok (.lcmp, 1) := by decide +kernel
theorem dX0_guessLimb_74 : decode cX0_guessLimb 74 = .ok (.ifCond .ge 70, 3) := by decide +kernel
theorem dX0_guessLimb_77 : decode cX0_guessLimb 77 = .ok (.lload 9, 2) := by decide +kernel
theorem dX0_guessLimb_79 : decode cX0_guessLimb 79 = .ok (.bipush 25, 2) := by decide +kernel
theorem dX0_guessLimb_81 : decode cX0_guessLimb 81 = .ok (.lshl, 1) := by decide +kernel
theorem dX0_guessLimb_82 : decode cX0_guessLimb 82 = .ok (.aload_n 0, 1) := by decide +kernel
theorem dX0_guessLimb_83 : decode cX0_guessLimb 83 = .ok (.getfield 9, 3) := by decide +kernel
theorem dX0_guessLimb_86 : decode cX0_guessLimb 86 = .ok (.iload_n 1, 1) := by decide +kernel
theorem dX0_guessLimb_87 : decode cX0_guessLimb 87 = .ok (.iload_n 2, 1) := by decide +kernel
theorem dX0_guessLimb_88 : decode cX0_guessLimb 88 = .ok (.iadd, 1) := by decide +kernel
theorem dX0_guessLimb_89 : decode cX0_guessLimb 89 = .ok (.iconst 2, 1) := by decide +kernel
theorem dX0_guessLimb_90 : decode cX0_guessLimb 90 = .ok (.isub, 1) := by decide +kernel
theorem dX0_guessLimb_91 : decode cX0_guessLimb 91 = .ok (.iaload, 1) := by decide +kernel
theorem dX0_guessLimb_92 : decode cX0_guessLimb 92 = .ok (.i2l, 1) := by decide +kernel
theorem dX0_guessLimb_93 : decode cX0_guessLimb 93 = .ok (.lor, 1) := by decide +kernel
theorem dX0_guessLimb_94 : decode cX0_guessLimb 94 = .ok (.lstore 12, 2) := by decide +kernel
theorem dX0_guessLimb_96 : decode cX0_guessLimb 96 = .ok (.lload 7, 2) := by decide +kernel
theorem dX0_guessLimb_98 : decode cX0_guessLimb 98 = .ok (.ldc2_w 79, 3) := by decide +kernel
theorem dX0_guessLimb_101 : decode cX0_guessLimb 101 = .ok (.lcmp, 1) := by decide +kernel
theorem dX0_guessLimb_102 : decode cX0_guessLimb 102 = .ok (.ifCond .ge 24, 3) := by decide +kernel
theorem dX0_guessLimb_105 : decode cX0_guessLimb 105 = .ok (.lload 7, 2) := by decide +kernel
theorem dX0_guessLimb_107 : decode cX0_guessLimb 107 = .ok (.aload_n 0, 1) := by decide +kernel
theorem dX0_guessLimb_108 : decode cX0_guessLimb 108 = .ok (.getfield 15, 3) := by decide +kernel
theorem dX0_guessLimb_111 : decode cX0_guessLimb 111 = .ok (.iload_n 2, 1) := by decide +kernel
theorem dX0_guessLimb_112 : decode cX0_guessLimb 112 = .ok (.iconst 2, 1) := by decide +kernel
theorem dX0_guessLimb_113 : decode cX0_guessLimb 113 = .ok (.isub, 1) := by decide +kernel
theorem dX0_guessLimb_114 : decode cX0_guessLimb 114 = .ok (.iaload, 1) := by decide +kernel
theorem dX0_guessLimb_115 : decode cX0_guessLimb 115 = .ok (.i2l, 1) := by decide +kernel
theorem dX0_guessLimb_116 : decode cX0_guessLimb 116 = .ok (.lmul, 1) := by decide +kernel
theorem dX0_guessLimb_117 : decode cX0_guessLimb 117 = .ok (.lload 12, 2) := by decide +kernel
theorem dX0_guessLimb_119 : decode cX0_guessLimb 119 = .ok (.lcmp, 1) := by decide +kernel
theorem dX0_guessLimb_120 : decode cX0_guessLimb 120 = .ok (.ifCond .gt 6, 3) := by decide +kernel
theorem dX0_guessLimb_123 : decode cX0_guessLimb 123 = .ok (.goto 21, 3) := by decide +kernel
theorem dX0_guessLimb_126 : decode cX0_guessLimb 126 = .ok (.lload 7, 2) := by decide +kernel
theorem dX0_guessLimb_128 : decode cX0_guessLimb 128 = .ok (.lconst 1, 1) := by decide +kernel
theorem dX0_guessLimb_129 : decode cX0_guessLimb 129 = .ok (.lsub, 1) := by decide +kernel
theorem dX0_guessLimb_130 : decode cX0_guessLimb 130 = .ok (.lstore 7, 2) := by decide +kernel
theorem dX0_guessLimb_132 : decode cX0_guessLimb 132 = .ok (.lload 9, 2) := by decide +kernel
theorem dX0_guessLimb_134 : decode cX0_guessLimb 134 = .ok (.lload_n 3, 1) := by decide +kernel
theorem dX0_guessLimb_135 : decode cX0_guessLimb 135 = .ok (.ladd, 1) := by decide +kernel
theorem dX0_guessLimb_136 : decode cX0_guessLimb 136 = .ok (.lstore 9, 2) := by decide +kernel
theorem dX0_guessLimb_138 : decode cX0_guessLimb 138 = .ok (.iinc 11 1, 3) := by decide +kernel
theorem dX0_guessLimb_141 : decode cX0_guessLimb 141 = .ok (.goto (-79), 3) := by decide +kernel
theorem dX0_guessLimb_144 : decode cX0_guessLimb 144 = .ok (.lload 7, 2) := by decide +kernel
theorem dX0_guessLimb_146 : decode cX0_guessLimb 146 = .ok (.lreturn, 1) := by decide +kernel
theorem dX0_takeAway_0 : decode cX0_takeAway 0 = .ok (.lconst 0, 1) := by decide +kernel
theorem dX0_takeAway_1 : decode cX0_takeAway 1 = .ok (.lstore 5, 2) := by decide +kernel
theorem dX0_takeAway_3 : decode cX0_takeAway 3 = .ok (.iconst 0, 1) := by decide +kernel
theorem dX0_takeAway_4 : decode cX0_takeAway 4 = .ok (.istore 7, 2) := by decide +kernel
theorem dX0_takeAway_6 : decode cX0_takeAway 6 = .ok (.iload 7, 2) := by decide +kernel
theorem dX0_takeAway_8 : decode cX0_takeAway 8 = .ok (.iload_n 2, 1) := by decide +kernel
theorem dX0_takeAway_9 : decode cX0_takeAway 9 = .ok (.if_icmp .ge 58, 3) := by decide +kernel
theorem dX0_takeAway_12 : decode cX0_takeAway 12 = .ok (.lload 5, 2) := by decide +kernel
theorem dX0_takeAway_14 : decode cX0_takeAway 14 = .ok (.aload_n 0, 1) := by decide +kernel
theorem dX0_takeAway_15 : decode cX0_takeAway 15 = .ok (.getfield 9, 3) := by decide +kernel
theorem dX0_takeAway_18 : decode cX0_takeAway 18 = .ok (.iload_n 1, 1) := by decide +kernel
theorem dX0_takeAway_19 : decode cX0_takeAway 19 = .ok (.iload 7, 2) := by decide +kernel
theorem dX0_takeAway_21 : decode cX0_takeAway 21 = .ok (.iadd, 1) := by decide +kernel
theorem dX0_takeAway_22 : decode cX0_takeAway 22 = .ok (.iaload, 1) := by decide +kernel
theorem dX0_takeAway_23 : decode cX0_takeAway 23 = .ok (.i2l, 1) := by decide +kernel
theorem dX0_takeAway_24 : decode cX0_takeAway 24 = .ok (.lload_n 3, 1) := by decide +kernel
theorem dX0_takeAway_25 : decode cX0_takeAway 25 = .ok (.aload_n 0, 1) := by decide +kernel
theorem dX0_takeAway_26 : decode cX0_takeAway 26 = .ok (.getfield 15, 3) := by decide +kernel
theorem dX0_takeAway_29 : decode cX0_takeAway 29 = .ok (.iload 7, 2) := by decide +kernel
theorem dX0_takeAway_31 : decode cX0_takeAway 31 = .ok (.iaload, 1) := by decide +kernel
theorem dX0_takeAway_32 : decode cX0_takeAway 32 = .ok (.i2l, 1) := by decide +kernel
theorem dX0_takeAway_33 : decode cX0_takeAway 33 = .ok (.lmul, 1) := by decide +kernel
theorem dX0_takeAway_34 : decode cX0_takeAway 34 = .ok (.lsub, 1) := by decide +kernel
theorem dX0_takeAway_35 : decode cX0_takeAway 35 = .ok (.ladd, 1) := by decide +kernel
theorem dX0_takeAway_36 : decode cX0_takeAway 36 = .ok (.lstore 5, 2) := by decide +kernel
theorem dX0_takeAway_38 : decode cX0_takeAway 38 = .ok (.aload_n 0, 1) := by decide +kernel
theorem dX0_takeAway_39 : decode cX0_takeAway 39 = .ok (.getfield 9, 3) := by decide +kernel
theorem dX0_takeAway_42 : decode cX0_takeAway 42 = .ok (.iload_n 1, 1) := by decide +kernel
theorem dX0_takeAway_43 : decode cX0_takeAway 43 = .ok (.iload 7, 2) := by decide +kernel
theorem dX0_takeAway_45 : decode cX0_takeAway 45 = .ok (.iadd, 1) := by decide +kernel
theorem dX0_takeAway_46 : decode cX0_takeAway 46 = .ok (.lload 5, 2) := by decide +kernel
theorem dX0_takeAway_48 : decode cX0_takeAway 48 = .ok (.ldc2_w 65, 3) := by decide +kernel
theorem dX0_takeAway_51 : decode cX0_takeAway 51 = .ok (.land, 1) := by decide +kernel
theorem dX0_takeAway_52 : decode cX0_takeAway 52 = .ok (.l2i, 1) := by decide +kernel
theorem dX0_takeAway_53 : decode cX0_takeAway 53 = .ok (.iastore, 1) := by decide +kernel
theorem dX0_takeAway_54 : decode cX0_takeAway 54 = .ok (.lload 5, 2) := by decide +kernel
theorem dX0_takeAway_56 : decode cX0_takeAway 56 = .ok (.bipush 25, 2) := by decide +kernel
theorem dX0_takeAway_58 : decode cX0_takeAway 58 = .ok (.lshr, 1) := by decide +kernel
theorem dX0_takeAway_59 : decode cX0_takeAway 59 = .ok (.lstore 5, 2) := by decide +kernel
theorem dX0_takeAway_61 : decode cX0_takeAway 61 = .ok (.iinc 7 1, 3) := by decide +kernel
theorem dX0_takeAway_64 : decode cX0_takeAway 64 = .ok (.goto (-58), 3) := by decide +kernel
theorem dX0_takeAway_67 : decode cX0_takeAway 67 = .ok (.lload 5, 2) := by decide +kernel
theorem dX0_takeAway_69 : decode cX0_takeAway 69 = .ok (.aload_n 0, 1) := by decide +kernel
theorem dX0_takeAway_70 : decode cX0_takeAway 70 = .ok (.getfield 9, 3) := by decide +kernel
theorem dX0_takeAway_73 : decode cX0_takeAway 73 = .ok (.iload_n 1, 1) := by decide +kernel
theorem dX0_takeAway_74 : decode cX0_takeAway 74 = .ok (.iload_n 2, 1) := by decide +kernel
theorem dX0_takeAway_75 : decode cX0_takeAway 75 = .ok (.iadd, 1) := by decide +kernel
theorem dX0_takeAway_76 : decode cX0_takeAway 76 = .ok (.iaload, 1) := by decide +kernel
theorem dX0_takeAway_77 : decode cX0_takeAway 77 = .ok (.i2l, 1) := by decide +kernel
theorem dX0_takeAway_78 : decode cX0_takeAway 78 = .ok (.ladd, 1) := by decide +kernel
theorem dX0_takeAway_79 : decode cX0_takeAway 79 = .ok (.lconst 0, 1) := by decide +kernel
theorem dX0_takeAway_80 : decode cX0_takeAway 80 = .ok (.lcmp, 1) := by decide +kernel
theorem dX0_takeAway_81 : decode cX0_takeAway 81 = .ok (.ifCond .lt 7, 3) := by decide +kernel
theorem dX0_takeAway_84 : decode cX0_takeAway 84 = .ok (.iconst 1, 1) := by decide +kernel
theorem dX0_takeAway_85 : decode cX0_takeAway 85 = .ok (.goto 4, 3) := by decide +kernel
theorem dX0_takeAway_88 : decode cX0_takeAway 88 = .ok (.iconst 0, 1) := by decide +kernel
theorem dX0_takeAway_89 : decode cX0_takeAway 89 = .ok (.ireturn, 1) := by decide +kernel
theorem dX0_giveBack_0 : decode cX0_giveBack 0 = .ok (.iconst 0, 1) := by decide +kernel
theorem dX0_giveBack_1 : decode cX0_giveBack 1 = .ok (.istore_n 3, 1) := by decide +kernel
theorem dX0_giveBack_2 : decode cX0_giveBack 2 = .ok (.iconst 0, 1) := by decide +kernel
theorem dX0_giveBack_3 : decode cX0_giveBack 3 = .ok (.istore 4, 2) := by decide +kernel
theorem dX0_giveBack_5 : decode cX0_giveBack 5 = .ok (.iload 4, 2) := by decide +kernel
theorem dX0_giveBack_7 : decode cX0_giveBack 7 = .ok (.iload_n 2, 1) := by decide +kernel
theorem dX0_giveBack_8 : decode cX0_giveBack 8 = .ok (.if_icmp .ge 47, 3) := by decide +kernel
theorem dX0_giveBack_11 : decode cX0_giveBack 11 = .ok (.iload_n 3, 1) := by decide +kernel
theorem dX0_giveBack_12 : decode cX0_giveBack 12 = .ok (.aload_n 0, 1) := by decide +kernel
theorem dX0_giveBack_13 : decode cX0_giveBack 13 = .ok (.getfield 9, 3) := by decide +kernel
theorem dX0_giveBack_16 : decode cX0_giveBack 16 = .ok (.iload_n 1, 1) := by decide +kernel
theorem dX0_giveBack_17 : decode cX0_giveBack 17 = .ok (.iload 4, 2) := by decide +kernel
theorem dX0_giveBack_19 : decode cX0_giveBack 19 = .ok (.iadd, 1) := by decide +kernel
theorem dX0_giveBack_20 : decode cX0_giveBack 20 = .ok (.iaload, 1) := by decide +kernel
theorem dX0_giveBack_21 : decode cX0_giveBack 21 = .ok (.aload_n 0, 1) := by decide +kernel
theorem dX0_giveBack_22 : decode cX0_giveBack 22 = .ok (.getfield 15, 3) := by decide +kernel
theorem dX0_giveBack_25 : decode cX0_giveBack 25 = .ok (.iload 4, 2) := by decide +kernel
theorem dX0_giveBack_27 : decode cX0_giveBack 27 = .ok (.iaload, 1) := by decide +kernel
theorem dX0_giveBack_28 : decode cX0_giveBack 28 = .ok (.iadd, 1) := by decide +kernel
theorem dX0_giveBack_29 : decode cX0_giveBack 29 = .ok (.iadd, 1) := by decide +kernel
theorem dX0_giveBack_30 : decode cX0_giveBack 30 = .ok (.istore_n 3, 1) := by decide +kernel
theorem dX0_giveBack_31 : decode cX0_giveBack 31 = .ok (.aload_n 0, 1) := by decide +kernel
theorem dX0_giveBack_32 : decode cX0_giveBack 32 = .ok (.getfield 9, 3) := by decide +kernel
theorem dX0_giveBack_35 : decode cX0_giveBack 35 = .ok (.iload_n 1, 1) := by decide +kernel
theorem dX0_giveBack_36 : decode cX0_giveBack 36 = .ok (.iload 4, 2) := by decide +kernel
theorem dX0_giveBack_38 : decode cX0_giveBack 38 = .ok (.iadd, 1) := by decide +kernel
theorem dX0_giveBack_39 : decode cX0_giveBack 39 = .ok (.iload_n 3, 1) := by decide +kernel
theorem dX0_giveBack_40 : decode cX0_giveBack 40 = .ok (.ldc 81, 2) := by decide +kernel
theorem dX0_giveBack_42 : decode cX0_giveBack 42 = .ok (.iand, 1) := by decide +kernel
theorem dX0_giveBack_43 : decode cX0_giveBack 43 = .ok (.iastore, 1) := by decide +kernel
theorem dX0_giveBack_44 : decode cX0_giveBack 44 = .ok (.iload_n 3, 1) := by decide +kernel
theorem dX0_giveBack_45 : decode cX0_giveBack 45 = .ok (.bipush 25, 2) := by decide +kernel
theorem dX0_giveBack_47 : decode cX0_giveBack 47 = .ok (.ishr, 1) := by decide +kernel
theorem dX0_giveBack_48 : decode cX0_giveBack 48 = .ok (.istore_n 3, 1) := by decide +kernel
theorem dX0_giveBack_49 : decode cX0_giveBack 49 = .ok (.iinc 4 1, 3) := by decide +kernel
theorem dX0_giveBack_52 : decode cX0_giveBack 52 = .ok (.goto (-47), 3) := by decide +kernel
theorem dX0_giveBack_55 : decode cX0_giveBack 55 = .ok (.return_, 1) := by decide +kernel
theorem dX1_init_0 : decode cX1_init 0 = .ok (.aload_n 0, 1) := by decide +kernel
theorem dX1_init_1 : decode cX1_init 1 = .ok (.invokespecial 3, 3) := by decide +kernel
theorem dX1_init_4 : decode cX1_init 4 = .ok (.aload_n 0, 1) := by decide +kernel
theorem dX1_init_5 : decode cX1_init 5 = .ok (.sipush 144, 3) := by decide +kernel
theorem dX1_init_8 : decode cX1_init 8 = .ok (.anewarray 9, 3) := by decide +kernel
theorem dX1_init_11 : decode cX1_init 11 = .ok (.putfield 11, 3) := by decide +kernel
theorem dX1_init_14 : decode cX1_init 14 = .ok (.aload_n 0, 1) := by decide +kernel
theorem dX1_init_15 : decode cX1_init 15 = .ok (.new 9, 3) := by decide +kernel
theorem dX1_init_18 : decode cX1_init 18 = .ok (.dup, 1) := by decide +kernel
theorem dX1_init_19 : decode cX1_init 19 = .ok (.bipush 65, 2) := by decide +kernel
theorem dX1_init_21 : decode cX1_init 21 = .ok (.invokespecial 17, 3) := by decide +kernel
theorem dX1_init_24 : decode cX1_init 24 = .ok (.putfield 20, 3) := by decide +kernel
theorem dX1_init_27 : decode cX1_init 27 = .ok (.aload_n 0, 1) := by decide +kernel
theorem dX1_init_28 : decode cX1_init 28 = .ok (.new 9, 3) := by decide +kernel
theorem dX1_init_31 : decode cX1_init 31 = .ok (.dup, 1) := by decide +kernel
theorem dX1_init_32 : decode cX1_init 32 = .ok (.bipush 65, 2) := by decide +kernel
theorem dX1_init_34 : decode cX1_init 34 = .ok (.invokespecial 17, 3) := by decide +kernel
theorem dX1_init_37 : decode cX1_init 37 = .ok (.putfield 24, 3) := by decide +kernel
theorem dX1_init_40 : decode cX1_init 40 = .ok (.aload_n 0, 1) := by decide +kernel
theorem dX1_init_41 : decode cX1_init 41 = .ok (.aload_n 1, 1) := by decide +kernel
theorem dX1_init_42 : decode cX1_init 42 = .ok (.putfield 27, 3) := by decide +kernel
theorem dX1_init_45 : decode cX1_init 45 = .ok (.iconst 0, 1) := by decide +kernel
theorem dX1_init_46 : decode cX1_init 46 = .ok (.istore_n 2, 1) := by decide +kernel
theorem dX1_init_47 : decode cX1_init 47 = .ok (.iload_n 2, 1) := by decide +kernel
theorem dX1_init_48 : decode cX1_init 48 = .ok (.aload_n 0, 1) := by decide +kernel
theorem dX1_init_49 : decode cX1_init 49 = .ok (.getfield 11, 3) := by decide +kernel
theorem dX1_init_52 : decode cX1_init 52 = .ok (.arraylength, 1) := by decide +kernel
theorem dX1_init_53 : decode cX1_init 53 = .ok (.if_icmp .ge 24, 3) := by decide +kernel
theorem dX1_init_56 : decode cX1_init 56 = .ok (.aload_n 0, 1) := by decide +kernel
theorem dX1_init_57 : decode cX1_init 57 = .ok (.getfield 11, 3) := by decide +kernel
theorem dX1_init_60 : decode cX1_init 60 = .ok (.iload_n 2, 1) := by decide +kernel
theorem dX1_init_61 : decode cX1_init 61 = .ok (.new 9, 3) := by decide +kernel
theorem dX1_init_64 : decode cX1_init 64 = .ok (.dup, 1) := by decide +kernel
theorem dX1_init_65 : decode cX1_init 65 = .ok (.bipush 34, 2) := by decide +kernel
theorem dX1_init_67 : decode cX1_init 67 = .ok (.invokespecial 17, 3) := by decide +kernel
theorem dX1_init_70 : decode cX1_init 70 = .ok (.aastore, 1) := by decide +kernel
theorem dX1_init_71 : decode cX1_init 71 = .ok (.iinc 2 1, 3) := by decide +kernel
theorem dX1_init_74 : decode cX1_init 74 = .ok (.goto (-27), 3) := by decide +kernel
theorem dX1_init_77 : decode cX1_init 77 = .ok (.return_, 1) := by decide +kernel
theorem dX1_solve_0 : decode cX1_solve 0 = .ok (.aload_n 0, 1) := by decide +kernel
theorem dX1_solve_1 : decode cX1_solve 1 = .ok (.aload_n 1, 1) := by decide +kernel
theorem dX1_solve_2 : decode cX1_solve 2 = .ok (.iload_n 2, 1) := by decide +kernel
theorem dX1_solve_3 : decode cX1_solve 3 = .ok (.invokevirtual 31, 3) := by decide +kernel
theorem dX1_solve_6 : decode cX1_solve 6 = .ok (.iconst 0, 1) := by decide +kernel
theorem dX1_solve_7 : decode cX1_solve 7 = .ok (.istore 4, 2) := by decide +kernel
theorem dX1_solve_9 : decode cX1_solve 9 = .ok (.iconst 0, 1) := by decide +kernel
theorem dX1_solve_10 : decode cX1_solve 10 = .ok (.istore 5, 2) := by decide +kernel
theorem dX1_solve_12 : decode cX1_solve 12 = .ok (.iload 5, 2) := by decide +kernel
theorem dX1_solve_14 : decode cX1_solve 14 = .ok (.iload_n 2, 1) := by decide +kernel
theorem dX1_solve_15 : decode cX1_solve 15 = .ok (.if_icmp .ge 64, 3) := by decide +kernel
theorem dX1_solve_18 : decode cX1_solve 18 = .ok (.aload_n 0, 1) := by decide +kernel
theorem dX1_solve_19 : decode cX1_solve 19 = .ok (.iload 5, 2) := by decide +kernel
theorem dX1_solve_21 : decode cX1_solve 21 = .ok (.iload_n 2, 1) := by decide +kernel
theorem dX1_solve_22 : decode cX1_solve 22 = .ok (.invokevirtual 35, 3) := by decide +kernel
theorem dX1_solve_25 : decode cX1_solve 25 = .ok (.istore 6, 2) := by decide +kernel
theorem dX1_solve_27 : decode cX1_solve 27 = .ok (.iload 6, 2) := by decide +kernel
theorem dX1_solve_29 : decode cX1_solve 29 = .ok (.ifCond .ge 9, 3) := by decide +kernel
theorem dX1_solve_32 : decode cX1_solve 32 = .ok (.aload_n 3, 1) := by decide +kernel
theorem dX1_solve_33 : decode cX1_solve 33 = .ok (.lconst 0, 1) := by decide +kernel
theorem dX1_solve_34 : decode cX1_solve 34 = .ok (.invokevirtual 39, 3) := by decide +kernel
theorem dX1_solve_37 : decode cX1_solve 37 = .ok (.return_, 1) := by decide +kernel
theorem dX1_solve_38 : decode cX1_solve 38 = .ok (.iload 6, 2) := by decide +kernel
theorem dX1_solve_40 : decode cX1_solve 40 = .ok (.iload 5, 2) := by decide +kernel
theorem dX1_solve_42 : decode cX1_solve 42 = .ok (.if_icmp .eq 24, 3) := by decide +kernel
theorem dX1_solve_45 : decode cX1_solve 45 = .ok (.aload_n 0, 1) := by decide +kernel
theorem dX1_solve_46 : decode cX1_solve 46 = .ok (.iload 6, 2) := by decide +kernel
theorem dX1_solve_48 : decode cX1_solve 48 = .ok (.iload 5, 2) := by decide +kernel
theorem dX1_solve_50 : decode cX1_solve 50 = .ok (.iload_n 2, 1) := by decide +kernel
theorem dX1_solve_51 : decode cX1_solve 51 = .ok (.invokevirtual 43, 3) := by decide +kernel
theorem dX1_solve_54 : decode cX1_solve 54 = .ok (.iload 4, 2) := by decide +kernel
theorem dX1_solve_56 : decode cX1_solve 56 = .ok (.ifCond .ne 7, 3) := by decide +kernel
theorem dX1_solve_59 : decode cX1_solve 59 = .ok (.iconst 1, 1) := by decide +kernel
theorem dX1_solve_60 : decode cX1_solve 60 = .ok (.goto 4, 3) := by decide +kernel
theorem dX1_solve_63 : decode cX1_solve 63 = .ok (.iconst 0, 1) := by decide +kernel
theorem dX1_solve_64 : decode cX1_solve 64 = .ok (.istore 4, 2) := by decide +kernel
theorem dX1_solve_66 : decode cX1_solve 66 = .ok (.aload_n 0, 1) := by decide +kernel
theorem dX1_solve_67 : decode cX1_solve 67 = .ok (.iload 5, 2) := by decide +kernel
theorem dX1_solve_69 : decode cX1_solve 69 = .ok (.iload_n 2, 1) := by decide +kernel
theorem dX1_solve_70 : decode cX1_solve 70 = .ok (.invokevirtual 47, 3) := by decide +kernel
theorem dX1_solve_73 : decode cX1_solve 73 = .ok (.iinc 5 1, 3) := by decide +kernel
theorem dX1_solve_76 : decode cX1_solve 76 = .ok (.goto (-64), 3) := by decide +kernel
theorem dX1_solve_79 : decode cX1_solve 79 = .ok (.aload_n 3, 1) := by decide +kernel
theorem dX1_solve_80 : decode cX1_solve 80 = .ok (.aload_n 0, 1) := by decide +kernel
theorem dX1_solve_81 : decode cX1_solve 81 = .ok (.iload_n 2, 1) := by decide +kernel
theorem dX1_solve_82 : decode cX1_solve 82 = .ok (.iconst 1, 1) := by decide +kernel
theorem dX1_solve_83 : decode cX1_solve 83 = .ok (.isub, 1) := by decide +kernel
theorem dX1_solve_84 : decode cX1_solve 84 = .ok (.iload_n 2, 1) := by decide +kernel
theorem dX1_solve_85 : decode cX1_solve 85 = .ok (.iconst 1, 1) := by decide +kernel
theorem dX1_solve_86 : decode cX1_solve 86 = .ok (.isub, 1) := by decide +kernel
theorem dX1_solve_87 : decode cX1_solve 87 = .ok (.invokevirtual 51, 3) := by decide +kernel
theorem dX1_solve_90 : decode cX1_solve 90 = .ok (.invokevirtual 55, 3) := by decide +kernel
theorem dX1_solve_93 : decode cX1_solve 93 = .ok (.iload 4, 2) := by decide +kernel
theorem dX1_solve_95 : decode cX1_solve 95 = .ok (.ifCond .eq 7, 3) := by decide +kernel
theorem dX1_solve_98 : decode cX1_solve 98 = .ok (.aload_n 3, 1) := by decide +kernel
theorem dX1_solve_99 : decode cX1_solve 99 = .ok (.invokevirtual 59, 3) := by decide +kernel
theorem dX1_solve_102 : decode cX1_solve 102 = .ok (.return_, 1) := by decide +kernel
theorem dX1_cell_0 : decode cX1_cell 0 = .ok (.aload_n 0, 1) := by decide +kernel
theorem dX1_cell_1 : decode cX1_cell 1 = .ok (.getfield 11, 3) := by decide +kernel
theorem dX1_cell_4 : decode cX1_cell 4 = .ok (.iload_n 1, 1) := by decide +kernel
theorem dX1_cell_5 : decode cX1_cell 5 = .ok (.bipush 12, 2) := by decide +kernel
theorem dX1_cell_7 : decode cX1_cell 7 = .ok (.imul, 1) := by decide +kernel
theorem dX1_cell_8 : decode cX1_cell 8 = .ok (.iload_n 2, 1) := by decide +kernel
theorem dX1_cell_9 : decode cX1_cell 9 = .ok (.iadd, 1) := by decide +kernel
theorem dX1_cell_10 : decode cX1_cell 10 = .ok (.aaload, 1) := by decide +kernel
theorem dX1_cell_11 : decode cX1_cell 11 = .ok (.areturn, 1) := by decide +kernel
theorem dX1_load_0 : decode cX1_load 0 = .ok (.iconst 0, 1) := by decide +kernel
theorem dX1_load_1 : decode cX1_load 1 = .ok (.istore_n 3, 1) := by decide +kernel
theorem dX1_load_2 : decode cX1_load 2 = .ok (.iload_n 3, 1) := by decide +kernel
theorem dX1_load_3 : decode cX1_load 3 = .ok (.iload_n 2, 1) := by decide +kernel
theorem dX1_load_4 : decode cX1_load 4 = .ok (.if_icmp .ge 40, 3) := by decide +kernel
theorem dX1_load_7 : decode cX1_load 7 = .ok (.iconst 0, 1) := by decide +kernel
theorem dX1_load_8 : decode cX1_load 8 = .ok (.istore 4, 2) := by decide +kernel
theorem dX1_load_10 : decode cX1_load 10 = .ok (.iload 4, 2) := by decide +kernel
theorem dX1_load_12 : decode cX1_load 12 = .ok (.iload_n 2, 1) := by decide +kernel
theorem dX1_load_13 : decode cX1_load 13 = .ok (.if_icmp .ge 25, 3) := by decide +kernel
theorem dX1_load_16 : decode cX1_load 16 = .ok (.aload_n 0, 1) := by decide +kernel
theorem dX1_load_17 : decode cX1_load 17 = .ok (.iload_n 3, 1) := by decide +kernel
theorem dX1_load_18 : decode cX1_load 18 = .ok (.iload 4, 2) := by decide +kernel
theorem dX1_load_20 : decode cX1_load 20 = .ok (.invokevirtual 51, 3) := by decide +kernel
theorem dX1_load_23 : decode cX1_load 23 = .ok (.aload_n 1, 1) := by decide +kernel
theorem dX1_load_24 : decode cX1_load 24 = .ok (.iload_n 3, 1) := by decide +kernel
theorem dX1_load_25 : decode cX1_load 25 = .ok (.aaload, 1) := by decide +kernel
theorem dX1_load_26 : decode cX1_load 26 = .ok (.iload 4, 2) := by decide +kernel
theorem dX1_load_28 : decode cX1_load 28 = .ok (.laload, 1) := by decide +kernel
theorem dX1_load_29 : decode cX1_load 29 = .ok (.invokevirtual 39, 3) := by decide +kernel
theorem dX1_load_32 : decode cX1_load 32 = .ok (.iinc 4 1, 3) := by decide +kernel
theorem dX1_load_35 : decode cX1_load 35 = .ok (.goto (-25), 3) := by decide +kernel
theorem dX1_load_38 : decode cX1_load 38 = .ok (.iinc 3 1, 3) := by decide +kernel
theorem dX1_load_41 : decode cX1_load 41 = .ok (.goto (-39), 3) := by decide +kernel
theorem dX1_load_44 : decode cX1_load 44 = .ok (.return_, 1) := by decide +kernel
theorem dX1_pivotRow_0 : decode cX1_pivotRow 0 = .ok (.iload_n 1, 1) := by decide +kernel
theorem dX1_pivotRow_1 : decode cX1_pivotRow 1 = .ok (.istore_n 3, 1) := by decide +kernel
theorem dX1_pivotRow_2 : decode cX1_pivotRow 2 = .ok (.iload_n 3, 1) := by decide +kernel
theorem dX1_pivotRow_3 : decode cX1_pivotRow 3 = .ok (.iload_n 2, 1) := by decide +kernel
theorem dX1_pivotRow_4 : decode cX1_pivotRow 4 = .ok (.if_icmp .ge 23, 3) := by decide +kernel
theorem dX1_pivotRow_7 : decode cX1_pivotRow 7 = .ok (.aload_n 0, 1) := by decide +kernel
theorem dX1_pivotRow_8 : decode cX1_pivotRow 8 = .ok (.iload_n 3, 1) := by decide +kernel
theorem dX1_pivotRow_9 : decode cX1_pivotRow 9 = .ok (.iload_n 1, 1) := by decide +kernel
theorem dX1_pivotRow_10 : decode cX1_pivotRow 10 = .ok (.invokevirtual 51, 3) := by decide +kernel
theorem dX1_pivotRow_13 : decode cX1_pivotRow 13 = .ok (.invokevirtual 62, 3) := by decide +kernel
theorem dX1_pivotRow_16 : decode cX1_pivotRow 16 = .ok (.ifCond .ne 5, 3) := by decide +kernel
theorem dX1_pivotRow_19 : decode cX1_pivotRow 19 = .ok (.iload_n 3, 1) := by decide +kernel
theorem dX1_pivotRow_20 : decode cX1_pivotRow 20 = .ok (.ireturn, 1) := by decide +kernel
theorem dX1_pivotRow_21 : decode cX1_pivotRow 21 = .ok (.iinc 3 1, 3) := by decide +kernel
theorem dX1_pivotRow_24 : decode cX1_pivotRow 24 = .ok (.goto (-22), 3) := by decide +kernel
theorem dX1_pivotRow_27 : decode cX1_pivotRow 27 = .ok (.iconst (-1), 1) := by decide +kernel
theorem dX1_pivotRow_28 : decode cX1_pivotRow 28 = .ok (.ireturn, 1) := by decide +kernel
theorem dX1_swapRows_0 : decode cX1_swapRows 0 = .ok (.iconst 0, 1) := by decide +kernel
theorem dX1_swapRows_1 : decode cX1_swapRows 1 = .ok (.istore 4, 2) := by decide +kernel
theorem dX1_swapRows_3 : decode cX1_swapRows 3 = .ok (.iload 4, 2) := by decide +kernel
theorem dX1_swapRows_5 : decode cX1_swapRows 5 = .ok (.iload_n 3, 1) := by decide +kernel
theorem dX1_swapRows_6 : decode cX1_swapRows 6 = .ok (.if_icmp .ge 51, 3) := by decide +kernel
theorem dX1_swapRows_9 : decode cX1_swapRows 9 = .ok (.aload_n 0, 1) := by decide +kernel
theorem dX1_swapRows_10 : decode cX1_swapRows 10 = .ok (.iload_n 1, 1) := by decide +kernel
theorem dX1_swapRows_11 : decode cX1_swapRows 11 = .ok (.iload 4, 2) := by decide +kernel
theorem dX1_swapRows_13 : decode cX1_swapRows 13 = .ok (.invokevirtual 51, 3) := by decide +kernel
theorem dX1_swapRows_16 : decode cX1_swapRows 16 = .ok (.astore 5, 2) := by decide +kernel
theorem dX1_swapRows_18 : decode cX1_swapRows 18 = .ok (.aload_n 0, 1) := by decide +kernel
theorem dX1_swapRows_19 : decode cX1_swapRows 19 = .ok (.getfield 11, 3) := by decide +kernel
theorem dX1_swapRows_22 : decode cX1_swapRows 22 = .ok (.iload_n 1, 1) := by decide +kernel
theorem dX1_swapRows_23 : decode cX1_swapRows 23 = .ok (.bipush 12, 2) := by decide +kernel
theorem dX1_swapRows_25 : decode cX1_swapRows 25 = .ok (.imul, 1) := by decide +kernel
theorem dX1_swapRows_26 : decode cX1_swapRows 26 = .ok (.iload 4, 2) := by decide +kernel
theorem dX1_swapRows_28 : decode cX1_swapRows 28 = .ok (.iadd, 1) := by decide +kernel
theorem dX1_swapRows_29 : decode cX1_swapRows 29 = .ok (.aload_n 0, 1) := by decide +kernel
theorem dX1_swapRows_30 : decode cX1_swapRows 30 = .ok (.iload_n 2, 1) := by decide +kernel
theorem dX1_swapRows_31 : decode cX1_swapRows 31 = .ok (.iload 4, 2) := by decide +kernel
theorem dX1_swapRows_33 : decode cX1_swapRows 33 = .ok (.invokevirtual 51, 3) := by decide +kernel
theorem dX1_swapRows_36 : decode cX1_swapRows 36 = .ok (.aastore, 1) := by decide +kernel
theorem dX1_swapRows_37 : decode cX1_swapRows 37 = .ok (.aload_n 0, 1) := by decide +kernel
theorem dX1_swapRows_38 : decode cX1_swapRows 38 = .ok (.getfield 11, 3) := by decide +kernel
theorem dX1_swapRows_41 : decode cX1_swapRows 41 = .ok (.iload_n 2, 1) := by decide +kernel
theorem dX1_swapRows_42 : decode cX1_swapRows 42 = .ok (.bipush 12, 2) := by decide +kernel
theorem dX1_swapRows_44 : decode cX1_swapRows 44 = .ok (.imul, 1) := by decide +kernel
theorem dX1_swapRows_45 : decode cX1_swapRows 45 = .ok (.iload 4, 2) := by decide +kernel
theorem dX1_swapRows_47 : decode cX1_swapRows 47 = .ok (.iadd, 1) := by decide +kernel
theorem dX1_swapRows_48 : decode cX1_swapRows 48 = .ok (.aload 5, 2) := by decide +kernel
theorem dX1_swapRows_50 : decode cX1_swapRows 50 = .ok (.aastore, 1) := by decide +kernel
theorem dX1_swapRows_51 : decode cX1_swapRows 51 = .ok (.iinc 4 1, 3) := by decide +kernel
theorem dX1_swapRows_54 : decode cX1_swapRows 54 = .ok (.goto (-51), 3) := by decide +kernel
theorem dX1_swapRows_57 : decode cX1_swapRows 57 = .ok (.return_, 1) := by decide +kernel
theorem dX1_clearBelow_0 : decode cX1_clearBelow 0 = .ok (.iload_n 1, 1) := by decide +kernel
theorem dX1_clearBelow_1 : decode cX1_clearBelow 1 = .ok (.iconst 1, 1) := by decide +kernel
theorem dX1_clearBelow_2 : decode cX1_clearBelow 2 = .ok (.iadd, 1) := by decide +kernel
theorem dX1_clearBelow_3 : decode cX1_clearBelow 3 = .ok (.istore_n 3, 1) := by decide +kernel
theorem dX1_clearBelow_4 : decode cX1_clearBelow 4 = .ok (.iload_n 3, 1) := by decide +kernel
theorem dX1_clearBelow_5 : decode cX1_clearBelow 5 = .ok (.iload_n 2, 1) := by decide +kernel
theorem dX1_clearBelow_6 : decode cX1_clearBelow 6 = .ok (.if_icmp .ge 34, 3) := by decide +kernel
theorem dX1_clearBelow_9 : decode cX1_clearBelow 9 = .ok (.iload_n 1, 1) := by decide +kernel
theorem dX1_clearBelow_10 : decode cX1_clearBelow 10 = .ok (.iconst 1, 1) := by decide +kernel
theorem dX1_clearBelow_11 : decode cX1_clearBelow 11 = .ok (.iadd, 1) := by decide +kernel
theorem dX1_clearBelow_12 : decode cX1_clearBelow 12 = .ok (.istore 4, 2) := by decide +kernel
theorem dX1_clearBelow_14 : decode cX1_clearBelow 14 = .ok (.iload 4, 2) := by decide +kernel
theorem dX1_clearBelow_16 : decode cX1_clearBelow 16 = .ok (.iload_n 2, 1) := by decide +kernel
theorem dX1_clearBelow_17 : decode cX1_clearBelow 17 = .ok (.if_icmp .ge 17, 3) := by decide +kernel
theorem dX1_clearBelow_20 : decode cX1_clearBelow 20 = .ok (.aload_n 0, 1) := by decide +kernel
theorem dX1_clearBelow_21 : decode cX1_clearBelow 21 = .ok (.iload_n 3, 1) := by decide +kernel
theorem dX1_clearBelow_22 : decode cX1_clearBelow 22 = .ok (.iload 4, 2) := by decide +kernel
theorem dX1_clearBelow_24 : decode cX1_clearBelow 24 = .ok (.iload_n 1, 1) := by decide +kernel
theorem dX1_clearBelow_25 : decode cX1_clearBelow 25 = .ok (.invokevirtual 66, 3) := by decide +kernel
theorem dX1_clearBelow_28 : decode cX1_clearBelow 28 = .ok (.iinc 4 1, 3) := by decide +kernel
theorem dX1_clearBelow_31 : decode cX1_clearBelow 31 = .ok (.goto (-17), 3) := by decide +kernel
theorem dX1_clearBelow_34 : decode cX1_clearBelow 34 = .ok (.iinc 3 1, 3) := by decide +kernel
theorem dX1_clearBelow_37 : decode cX1_clearBelow 37 = .ok (.goto (-33), 3) := by decide +kernel
theorem dX1_clearBelow_40 : decode cX1_clearBelow 40 = .ok (.return_, 1) := by decide +kernel
theorem dX1_reduce_0 : decode cX1_reduce 0 = .ok (.aload_n 0, 1) := by decide +kernel
theorem dX1_reduce_1 : decode cX1_reduce 1 = .ok (.iload_n 1, 1) := by decide +kernel
theorem dX1_reduce_2 : decode cX1_reduce 2 = .ok (.iload_n 2, 1) := by decide +kernel
theorem dX1_reduce_3 : decode cX1_reduce 3 = .ok (.invokevirtual 51, 3) := by decide +kernel
theorem dX1_reduce_6 : decode cX1_reduce 6 = .ok (.astore 4, 2) := by decide +kernel
theorem dX1_reduce_8 : decode cX1_reduce 8 = .ok (.aload_n 0, 1) := by decide +kernel
theorem dX1_reduce_9 : decode cX1_reduce 9 = .ok (.getfield 20, 3) := by decide +kernel
theorem dX1_reduce_12 : decode cX1_reduce 12 = .ok (.aload 4, 2) := by decide +kernel
theorem dX1_reduce_14 : decode cX1_reduce 14 = .ok (.aload_n 0, 1) := by decide +kernel
theorem dX1_reduce_15 : decode cX1_reduce 15 = .ok (.iload_n 3, 1) := by decide +kernel
theorem dX1_reduce_16 : decode cX1_reduce 16 = .ok (.iload_n 3, 1) := by decide +kernel
theorem dX1_reduce_17 : decode cX1_reduce 17 = .ok (.invokevirtual 51, 3) := by decide +kernel
theorem dX1_reduce_20 : decode cX1_reduce 20 = .ok (.invokevirtual 69, 3) := by decide +kernel
theorem dX1_reduce_23 : decode cX1_reduce 23 = .ok (.pop, 1) := by decide +kernel
theorem dX1_reduce_24 : decode cX1_reduce 24 = .ok (.aload_n 0, 1) := by decide +kernel
theorem dX1_reduce_25 : decode cX1_reduce 25 = .ok (.getfield 24, 3) := by decide +kernel
theorem dX1_reduce_28 : decode cX1_reduce 28 = .ok (.aload_n 0, 1) := by decide +kernel
theorem dX1_reduce_29 : decode cX1_reduce 29 = .ok (.iload_n 1, 1) := by decide +kernel
theorem dX1_reduce_30 : decode cX1_reduce 30 = .ok (.iload_n 3, 1) := by decide +kernel
theorem dX1_reduce_31 : decode cX1_reduce 31 = .ok (.invokevirtual 51, 3) := by decide +kernel
theorem dX1_reduce_34 : decode cX1_reduce 34 = .ok (.aload_n 0, 1) := by decide +kernel
theorem dX1_reduce_35 : decode cX1_reduce 35 = .ok (.iload_n 3, 1) := by decide +kernel
theorem dX1_reduce_36 : decode cX1_reduce 36 = .ok (.iload_n 2, 1) := by decide +kernel
theorem dX1_reduce_37 : decode cX1_reduce 37 = .ok (.invokevirtual 51, 3) := by decide +kernel
theorem dX1_reduce_40 : decode cX1_reduce 40 = .ok (.invokevirtual 69, 3) := by decide +kernel
theorem dX1_reduce_43 : decode cX1_reduce 43 = .ok (.pop, 1) := by decide +kernel
theorem dX1_reduce_44 : decode cX1_reduce 44 = .ok (.aload_n 0, 1) := by decide +kernel
theorem dX1_reduce_45 : decode cX1_reduce 45 = .ok (.getfield 20, 3) := by decide +kernel
theorem dX1_reduce_48 : decode cX1_reduce 48 = .ok (.aload_n 0, 1) := by decide +kernel
theorem dX1_reduce_49 : decode cX1_reduce 49 = .ok (.getfield 20, 3) := by decide +kernel
theorem dX1_reduce_52 : decode cX1_reduce 52 = .ok (.aload_n 0, 1) := by decide +kernel
theorem dX1_reduce_53 : decode cX1_reduce 53 = .ok (.getfield 24, 3) := by decide +kernel
theorem dX1_reduce_56 : decode cX1_reduce 56 = .ok (.aload_n 0, 1) := by decide +kernel
theorem dX1_reduce_57 : decode cX1_reduce 57 = .ok (.getfield 24, 3) := by decide +kernel
theorem dX1_reduce_60 : decode cX1_reduce 60 = .ok (.getfield 73, 3) := by decide +kernel
theorem dX1_reduce_63 : decode cX1_reduce 63 = .ok (.ifCond .ne 7, 3) := by decide +kernel
theorem dX1_reduce_66 : decode cX1_reduce 66 = .ok (.iconst 1, 1) := by decide +kernel
theorem dX1_reduce_67 : decode cX1_reduce 67 = .ok (.goto 4, 3) := by decide +kernel
theorem dX1_reduce_70 : decode cX1_reduce 70 = .ok (.iconst 0, 1) := by decide +kernel
theorem dX1_reduce_71 : decode cX1_reduce 71 = .ok (.invokevirtual 77, 3) := by decide +kernel
theorem dX1_reduce_74 : decode cX1_reduce 74 = .ok (.iload_n 3, 1) := by decide +kernel
theorem dX1_reduce_75 : decode cX1_reduce 75 = .ok (.ifCond .ne 15, 3) := by decide +kernel
theorem dX1_reduce_78 : decode cX1_reduce 78 = .ok (.aload 4, 2) := by decide +kernel
theorem dX1_reduce_80 : decode cX1_reduce 80 = .ok (.aload_n 0, 1) := by decide +kernel
theorem dX1_reduce_81 : decode cX1_reduce 81 = .ok (.getfield 20, 3) := by decide +kernel
theorem dX1_reduce_84 : decode cX1_reduce 84 = .ok (.invokevirtual 55, 3) := by decide +kernel
theorem dX1_reduce_87 : decode cX1_reduce 87 = .ok (.goto 26, 3) := by decide +kernel
theorem dX1_reduce_90 : decode cX1_reduce 90 = .ok (.aload_n 0, 1) := by decide +kernel
theorem dX1_reduce_91 : decode cX1_reduce 91 = .ok (.getfield 27, 3) := by decide +kernel
theorem dX1_reduce_94 : decode cX1_reduce 94 = .ok (.aload_n 0, 1) := by decide +kernel
theorem dX1_reduce_95 : decode cX1_reduce 95 = .ok (.getfield 20, 3) := by decide +kernel
theorem dX1_reduce_98 : decode cX1_reduce 98 = .ok (.aload_n 0, 1) := by decide +kernel
theorem dX1_reduce_99 : decode cX1_reduce 99 = .ok (.iload_n 3, 1) := by decide +kernel
theorem dX1_reduce_100 : decode cX1_reduce 100 = .ok (.iconst 1, 1) := by decide +kernel
theorem dX1_reduce_101 : decode cX1_reduce 101 = .ok (.isub, 1) := by decide +kernel
theorem dX1_reduce_102 : decode cX1_reduce 102 = .ok (.iload_n 3, 1) := by decide +kernel
theorem dX1_reduce_103 : decode cX1_reduce 103 = .ok (.iconst 1, 1) := by decide +kernel
theorem dX1_reduce_104 : decode cX1_reduce 104 = .ok (.isub, 1) := by decide +kernel
theorem dX1_reduce_105 : decode cX1_reduce 105 = .ok (.invokevirtual 51, 3) := by decide +kernel
theorem dX1_reduce_108 : decode cX1_reduce 108 = .ok (.aload 4, 2) := by decide +kernel
theorem dX1_reduce_110 : decode cX1_reduce 110 = .ok (.invokevirtual 81, 3) := by decide +kernel
theorem dX1_reduce_113 : decode cX1_reduce 113 = .ok (.return_, 1) := by decide +kernel
end
section
theorem dX3_init_0 : decode cX3_init 0 = .ok (.aload_n 0, 1) := by decide +kernel
theorem dX3_init_1 : decode cX3_init 1 = .ok (.invokespecial 3, 3) := by decide +kernel
theorem dX3_init_4 : decode cX3_init 4 = .ok (.aload_n 0, 1) := by decide +kernel
theorem dX3_init_5 : decode cX3_init 5 = .ok (.sipush 160, 3) := by decide +kernel
theorem dX3_init_8 : decode cX3_init 8 = .ok (.anewarray 9, 3) := by decide +kernel
theorem dX3_init_11 : decode cX3_init 11 = .ok (.putfield 11, 3) := by decide +kernel
theorem dX3_init_14 : decode cX3_init 14 = .ok (.aload_n 0, 1) := by decide +kernel
theorem dX3_init_15 : decode cX3_init 15 = .ok (.iconst 0, 1) := by decide +kernel
theorem dX3_init_16 : decode cX3_init 16 = .ok (.putfield 15, 3) := by decide +kernel
theorem dX3_init_19 : decode cX3_init 19 = .ok (.aload_n 0, 1) := by decide +kernel
theorem dX3_init_20 : decode cX3_init 20 = .ok (.bipush 12, 2) := by decide +kernel
theorem dX3_init_22 : decode cX3_init 22 = .ok (.bipush 12, 2) := by decide +kernel
theorem dX3_init_24 : decode cX3_init 24 = .ok (.multianewarray 19 2, 4) := by decide +kernel
theorem dX3_init_28 : decode cX3_init 28 = .ok (.putfield 21, 3) := by decide +kernel
theorem dX3_init_31 : decode cX3_init 31 = .ok (.aload_n 0, 1) := by decide +kernel
theorem dX3_init_32 : decode cX3_init 32 = .ok (.new 9, 3) := by decide +kernel
theorem dX3_init_35 : decode cX3_init 35 = .ok (.dup, 1) := by decide +kernel
theorem dX3_init_36 : decode cX3_init 36 = .ok (.bipush 65, 2) := by decide +kernel
theorem dX3_init_38 : decode cX3_init 38 = .ok (.invokespecial 24, 3) := by decide +kernel
theorem dX3_init_41 : decode cX3_init 41 = .ok (.putfield 27, 3) := by decide +kernel
theorem dX3_init_44 : decode cX3_init 44 = .ok (.aload_n 0, 1) := by decide +kernel
theorem dX3_init_45 : decode cX3_init 45 = .ok (.new 9, 3) := by decide +kernel
theorem dX3_init_48 : decode cX3_init 48 = .ok (.dup, 1) := by decide +kernel
theorem dX3_init_49 : decode cX3_init 49 = .ok (.bipush 65, 2) := by decide +kernel
theorem dX3_init_51 : decode cX3_init 51 = .ok (.invokespecial 24, 3) := by decide +kernel
theorem dX3_init_54 : decode cX3_init 54 = .ok (.putfield 31, 3) := by decide +kernel
theorem dX3_init_57 : decode cX3_init 57 = .ok (.aload_n 0, 1) := by decide +kernel
theorem dX3_init_58 : decode cX3_init 58 = .ok (.new 34, 3) := by decide +kernel
theorem dX3_init_61 : decode cX3_init 61 = .ok (.dup, 1) := by decide +kernel
theorem dX3_init_62 : decode cX3_init 62 = .ok (.invokespecial 36, 3) := by decide +kernel
theorem dX3_init_65 : decode cX3_init 65 = .ok (.putfield 37, 3) := by decide +kernel
theorem dX3_init_68 : decode cX3_init 68 = .ok (.aload_n 0, 1) := by decide +kernel
theorem dX3_init_69 : decode cX3_init 69 = .ok (.aconst_null, 1) := by decide +kernel
theorem dX3_init_70 : decode cX3_init 70 = .ok (.putfield 41, 3) := by decide +kernel
theorem dX3_init_73 : decode cX3_init 73 = .ok (.return_, 1) := by decide +kernel
theorem dX3_value_0 : decode cX3_value 0 = .ok (.aload_n 0, 1) := by decide +kernel
theorem dX3_value_1 : decode cX3_value 1 = .ok (.invokevirtual 45, 3) := by decide +kernel
theorem dX3_value_4 : decode cX3_value 4 = .ok (.ifCond .eq 5, 3) := by decide +kernel
theorem dX3_value_7 : decode cX3_value 7 = .ok (.iconst (-1), 1) := by decide +kernel
theorem dX3_value_8 : decode cX3_value 8 = .ok (.ireturn, 1) := by decide +kernel
theorem dX3_value_9 : decode cX3_value 9 = .ok (.aload_n 0, 1) := by decide +kernel
theorem dX3_value_10 : decode cX3_value 10 = .ok (.getfield 27, 3) := by decide +kernel
theorem dX3_value_13 : decode cX3_value 13 = .ok (.lload_n 1, 1) := by decide +kernel
theorem dX3_value_14 : decode cX3_value 14 = .ok (.invokevirtual 49, 3) := by decide +kernel
theorem dX3_value_17 : decode cX3_value 17 = .ok (.aload_n 0, 1) := by decide +kernel
theorem dX3_value_18 : decode cX3_value 18 = .ok (.aload_n 0, 1) := by decide +kernel
theorem dX3_value_19 : decode cX3_value 19 = .ok (.getfield 27, 3) := by decide +kernel
theorem dX3_value_22 : decode cX3_value 22 = .ok (.invokevirtual 53, 3) := by decide +kernel
theorem dX3_value_25 : decode cX3_value 25 = .ok (.ireturn, 1) := by decide +kernel
theorem dX3_add_0 : decode cX3_add 0 = .ok (.aload_n 0, 1) := by decide +kernel
theorem dX3_add_1 : decode cX3_add 1 = .ok (.iload_n 1, 1) := by decide +kernel
theorem dX3_add_2 : decode cX3_add 2 = .ok (.invokevirtual 57, 3) := by decide +kernel
theorem dX3_add_5 : decode cX3_add 5 = .ok (.astore_n 3, 1) := by decide +kernel
theorem dX3_add_6 : decode cX3_add 6 = .ok (.aload_n 0, 1) := by decide +kernel
theorem dX3_add_7 : decode cX3_add 7 = .ok (.iload_n 2, 1) := by decide +kernel
theorem dX3_add_8 : decode cX3_add 8 = .ok (.invokevirtual 57, 3) := by decide +kernel
theorem dX3_add_11 : decode cX3_add 11 = .ok (.astore 4, 2) := by decide +kernel
theorem dX3_add_13 : decode cX3_add 13 = .ok (.aload_n 0, 1) := by decide +kernel
theorem dX3_add_14 : decode cX3_add 14 = .ok (.invokevirtual 45, 3) := by decide +kernel
theorem dX3_add_17 : decode cX3_add 17 = .ok (.ifCond .eq 5, 3) := by decide +kernel
theorem dX3_add_20 : decode cX3_add 20 = .ok (.iconst (-1), 1) := by decide +kernel
theorem dX3_add_21 : decode cX3_add 21 = .ok (.ireturn, 1) := by decide +kernel
theorem dX3_add_22 : decode cX3_add 22 = .ok (.aload_n 0, 1) := by decide +kernel
theorem dX3_add_23 : decode cX3_add 23 = .ok (.getfield 27, 3) := by decide +kernel
theorem dX3_add_26 : decode cX3_add 26 = .ok (.aload_n 3, 1) := by decide +kernel
theorem dX3_add_27 : decode cX3_add 27 = .ok (.aload 4, 2) := by decide +kernel
theorem dX3_add_29 : decode cX3_add 29 = .ok (.aload 4, 2) := by decide +kernel
theorem dX3_add_31 : decode cX3_add 31 = .ok (.getfield 61, 3) := by decide +kernel
theorem dX3_add_34 : decode cX3_add 34 = .ok (.invokevirtual 65, 3) := by decide +kernel
theorem dX3_add_37 : decode cX3_add 37 = .ok (.aload_n 0, 1) := by decide +kernel
theorem dX3_add_38 : decode cX3_add 38 = .ok (.aload_n 0, 1) := by decide +kernel
theorem dX3_add_39 : decode cX3_add 39 = .ok (.getfield 27, 3) := by decide +kernel
theorem dX3_add_42 : decode cX3_add 42 = .ok (.invokevirtual 53, 3) := by decide +kernel
theorem dX3_add_45 : decode cX3_add 45 = .ok (.ireturn, 1) := by decide +kernel
theorem dX3_times_0 : decode cX3_times 0 = .ok (.aload_n 0, 1) := by decide +kernel
theorem dX3_times_1 : decode cX3_times 1 = .ok (.iload_n 1, 1) := by decide +kernel
theorem dX3_times_2 : decode cX3_times 2 = .ok (.invokevirtual 57, 3) := by decide +kernel
theorem dX3_times_5 : decode cX3_times 5 = .ok (.astore_n 3, 1) := by decide +kernel
theorem dX3_times_6 : decode cX3_times 6 = .ok (.aload_n 0, 1) := by decide +kernel
theorem dX3_times_7 : decode cX3_times 7 = .ok (.iload_n 2, 1) := by decide +kernel
theorem dX3_times_8 : decode cX3_times 8 = .ok (.invokevirtual 57, 3) := by decide +kernel
theorem dX3_times_11 : decode cX3_times 11 = .ok (.astore 4, 2) := by decide +kernel
theorem dX3_times_13 : decode cX3_times 13 = .ok (.aload_n 0, 1) := by decide +kernel
theorem dX3_times_14 : decode cX3_times 14 = .ok (.invokevirtual 45, 3) := by decide +kernel
theorem dX3_times_17 : decode cX3_times 17 = .ok (.ifCond .ne 16, 3) := by decide +kernel
theorem dX3_times_20 : decode cX3_times 20 = .ok (.aload_n 0, 1) := by decide +kernel
theorem dX3_times_21 : decode cX3_times 21 = .ok (.getfield 27, 3) := by decide +kernel
theorem dX3_times_24 : decode cX3_times 24 = .ok (.aload_n 3, 1) := by decide +kernel
theorem dX3_times_25 : decode cX3_times 25 = .ok (.aload 4, 2) := by decide +kernel
theorem dX3_times_27 : decode cX3_times 27 = .ok (.invokevirtual 69, 3) := by decide +kernel
theorem dX3_times_30 : decode cX3_times 30 = .ok (.ifCond .ne 5, 3) := by decide +kernel
theorem dX3_times_33 : decode cX3_times 33 = .ok (.iconst (-1), 1) := by decide +kernel
theorem dX3_times_34 : decode cX3_times 34 = .ok (.ireturn, 1) := by decide +kernel
theorem dX3_times_35 : decode cX3_times 35 = .ok (.aload_n 0, 1) := by decide +kernel
theorem dX3_times_36 : decode cX3_times 36 = .ok (.aload_n 0, 1) := by decide +kernel
theorem dX3_times_37 : decode cX3_times 37 = .ok (.getfield 27, 3) := by decide +kernel
theorem dX3_times_40 : decode cX3_times 40 = .ok (.invokevirtual 53, 3) := by decide +kernel
theorem dX3_times_43 : decode cX3_times 43 = .ok (.ireturn, 1) := by decide +kernel
theorem dX3_over_0 : decode cX3_over 0 = .ok (.aload_n 0, 1) := by decide +kernel
theorem dX3_over_1 : decode cX3_over 1 = .ok (.iload_n 1, 1) := by decide +kernel
theorem dX3_over_2 : decode cX3_over 2 = .ok (.invokevirtual 57, 3) := by decide +kernel
theorem dX3_over_5 : decode cX3_over 5 = .ok (.astore_n 3, 1) := by decide +kernel
theorem dX3_over_6 : decode cX3_over 6 = .ok (.aload_n 0, 1) := by decide +kernel
theorem dX3_over_7 : decode cX3_over 7 = .ok (.iload_n 2, 1) := by decide +kernel
theorem dX3_over_8 : decode cX3_over 8 = .ok (.invokevirtual 57, 3) := by decide +kernel
theorem dX3_over_11 : decode cX3_over 11 = .ok (.astore 4, 2) := by decide +kernel
theorem dX3_over_13 : decode cX3_over 13 = .ok (.aload 4, 2) := by decide +kernel
theorem dX3_over_15 : decode cX3_over 15 = .ok (.invokevirtual 73, 3) := by decide +kernel
theorem dX3_over_18 : decode cX3_over 18 = .ok (.ifCond .eq 13, 3) := by decide +kernel
theorem dX3_over_21 : decode cX3_over 21 = .ok (.new 76, 3) := by decide +kernel
theorem dX3_over_24 : decode cX3_over 24 = .ok (.dup, 1) := by decide +kernel
theorem dX3_over_25 : decode cX3_over 25 = .ok (.ldc 78, 2) := by decide +kernel
theorem dX3_over_27 : decode cX3_over 27 = .ok (.invokespecial 80, 3) := by decide +kernel
theorem dX3_over_30 : decode cX3_over 30 = .ok (.athrow, 1) := by decide +kernel
theorem dX3_over_31 : decode cX3_over 31 = .ok (.aload_n 0, 1) := by decide +kernel
theorem dX3_over_32 : decode cX3_over 32 = .ok (.invokevirtual 45, 3) := by decide +kernel
theorem dX3_over_35 : decode cX3_over 35 = .ok (.ifCond .eq 5, 3) := by decide +kernel
theorem dX3_over_38 : decode cX3_over 38 = .ok (.iconst (-1), 1) := by decide +kernel
theorem dX3_over_39 : decode cX3_over 39 = .ok (.ireturn, 1) := by decide +kernel
theorem dX3_over_40 : decode cX3_over 40 = .ok (.aload_n 0, 1) := by decide +kernel
theorem dX3_over_41 : decode cX3_over 41 = .ok (.getfield 37, 3) := by decide +kernel
theorem dX3_over_44 : decode cX3_over 44 = .ok (.aload_n 3, 1) := by decide +kernel
theorem dX3_over_45 : decode cX3_over 45 = .ok (.aload 4, 2) := by decide +kernel
theorem dX3_over_47 : decode cX3_over 47 = .ok (.aload_n 0, 1) := by decide +kernel
theorem dX3_over_48 : decode cX3_over 48 = .ok (.getfield 27, 3) := by decide +kernel
theorem dX3_over_51 : decode cX3_over 51 = .ok (.invokevirtual 83, 3) := by decide +kernel
theorem dX3_over_54 : decode cX3_over 54 = .ok (.aload_n 0, 1) := by decide +kernel
theorem dX3_over_55 : decode cX3_over 55 = .ok (.aload_n 0, 1) := by decide +kernel
theorem dX3_over_56 : decode cX3_over 56 = .ok (.getfield 27, 3) := by decide +kernel
theorem dX3_over_59 : decode cX3_over 59 = .ok (.invokevirtual 53, 3) := by decide +kernel
theorem dX3_over_62 : decode cX3_over 62 = .ok (.ireturn, 1) := by decide +kernel
theorem dX3_power_0 : decode cX3_power 0 = .ok (.aload_n 0, 1) := by decide +kernel
theorem dX3_power_1 : decode cX3_power 1 = .ok (.iload_n 1, 1) := by decide +kernel
theorem dX3_power_2 : decode cX3_power 2 = .ok (.invokevirtual 57, 3) := by decide +kernel
theorem dX3_power_5 : decode cX3_power 5 = .ok (.astore_n 3, 1) := by decide +kernel
theorem dX3_power_6 : decode cX3_power 6 = .ok (.iload_n 2, 1) := by decide +kernel
theorem dX3_power_7 : decode cX3_power 7 = .ok (.ifCond .lt 16, 3) := by decide +kernel
theorem dX3_power_10 : decode cX3_power 10 = .ok (.iload_n 2, 1) := by decide +kernel
theorem dX3_power_11 : decode cX3_power 11 = .ok (.ldc 87, 2) := by decide +kernel
theorem dX3_power_13 : decode cX3_power 13 = .ok (.if_icmp .gt 10, 3) := by decide +kernel
theorem dX3_power_16 : decode cX3_power 16 = .ok (.aload_n 0, 1) := by decide +kernel
theorem dX3_power_17 : decode cX3_power 17 = .ok (.invokevirtual 45, 3) := by decide +kernel
theorem dX3_power_20 : decode cX3_power 20 = .ok (.ifCond .eq 5, 3) := by decide +kernel
theorem dX3_power_23 : decode cX3_power 23 = .ok (.iconst (-1), 1) := by decide +kernel
theorem dX3_power_24 : decode cX3_power 24 = .ok (.ireturn, 1) := by decide +kernel
theorem dX3_power_25 : decode cX3_power 25 = .ok (.aload_n 0, 1) := by decide +kernel
theorem dX3_power_26 : decode cX3_power 26 = .ok (.getfield 27, 3) := by decide +kernel
theorem dX3_power_29 : decode cX3_power 29 = .ok (.lconst 1, 1) := by decide +kernel
theorem dX3_power_30 : decode cX3_power 30 = .ok (.invokevirtual 49, 3) := by decide +kernel
theorem dX3_power_33 : decode cX3_power 33 = .ok (.iload_n 2, 1) := by decide +kernel
theorem dX3_power_34 : decode cX3_power 34 = .ok (.invokestatic 88, 3) := by decide +kernel
theorem dX3_power_37 : decode cX3_power 37 = .ok (.istore 4, 2) := by decide +kernel
theorem dX3_power_39 : decode cX3_power 39 = .ok (.iload 4, 2) := by decide +kernel
theorem dX3_power_41 : decode cX3_power 41 = .ok (.ifCond .lt 69, 3) := by decide +kernel
theorem dX3_power_44 : decode cX3_power 44 = .ok (.aload_n 0, 1) := by decide +kernel
theorem dX3_power_45 : decode cX3_power 45 = .ok (.getfield 31, 3) := by decide +kernel
theorem dX3_power_48 : decode cX3_power 48 = .ok (.aload_n 0, 1) := by decide +kernel
theorem dX3_power_49 : decode cX3_power 49 = .ok (.getfield 27, 3) := by decide +kernel
theorem dX3_power_52 : decode cX3_power 52 = .ok (.aload_n 0, 1) := by decide +kernel
theorem dX3_power_53 : decode cX3_power 53 = .ok (.getfield 27, 3) := by decide +kernel
theorem dX3_power_56 : decode cX3_power 56 = .ok (.invokevirtual 69, 3) := by decide +kernel
theorem dX3_power_59 : decode cX3_power 59 = .ok (.ifCond .ne 5, 3) := by decide +kernel
theorem dX3_power_62 : decode cX3_power 62 = .ok (.iconst (-1), 1) := by decide +kernel
theorem dX3_power_63 : decode cX3_power 63 = .ok (.ireturn, 1) := by decide +kernel
theorem dX3_power_64 : decode cX3_power 64 = .ok (.iload_n 2, 1) := by decide +kernel
theorem dX3_power_65 : decode cX3_power 65 = .ok (.iload 4, 2) := by decide +kernel
theorem dX3_power_67 : decode cX3_power 67 = .ok (.ishr, 1) := by decide +kernel
theorem dX3_power_68 : decode cX3_power 68 = .ok (.iconst 1, 1) := by decide +kernel
theorem dX3_power_69 : decode cX3_power 69 = .ok (.iand, 1) := by decide +kernel
theorem dX3_power_70 : decode cX3_power 70 = .ok (.ifCond .ne 17, 3) := by decide +kernel
theorem dX3_power_73 : decode cX3_power 73 = .ok (.aload_n 0, 1) := by decide +kernel
theorem dX3_power_74 : decode cX3_power 74 = .ok (.getfield 27, 3) := by decide +kernel
theorem dX3_power_77 : decode cX3_power 77 = .ok (.aload_n 0, 1) := by decide +kernel
theorem dX3_power_78 : decode cX3_power 78 = .ok (.getfield 31, 3) := by decide +kernel
theorem dX3_power_81 : decode cX3_power 81 = .ok (.invokevirtual 92, 3) := by decide +kernel
theorem dX3_power_84 : decode cX3_power 84 = .ok (.goto 20, 3) := by decide +kernel
theorem dX3_power_87 : decode cX3_power 87 = .ok (.aload_n 0, 1) := by decide +kernel
theorem dX3_power_88 : decode cX3_power 88 = .ok (.getfield 27, 3) := by decide +kernel
theorem dX3_power_91 : decode cX3_power 91 = .ok (.aload_n 0, 1) := by decide +kernel
theorem dX3_power_92 : decode cX3_power 92 = .ok (.getfield 31, 3) := by decide +kernel
theorem dX3_power_95 : decode cX3_power 95 = .ok (.aload_n 3, 1) := by decide +kernel
theorem dX3_power_96 : decode cX3_power 96 = .ok (.invokevirtual 69, 3) := by decide +kernel
theorem dX3_power_99 : decode cX3_power 99 = .ok (.ifCond .ne 5, 3) := by decide +kernel
theorem dX3_power_102 : decode cX3_power 102 = .ok (.iconst (-1), 1) := by decide +kernel
theorem dX3_power_103 : decode cX3_power 103 = .ok (.ireturn, 1) := by decide +kernel
theorem dX3_power_104 : decode cX3_power 104 = .ok (.iinc 4 (-1), 3) := by decide +kernel
theorem dX3_power_107 : decode cX3_power 107 = .ok (.goto (-68), 3) := by decide +kernel
theorem dX3_power_110 : decode cX3_power 110 = .ok (.aload_n 0, 1) := by decide +kernel
theorem dX3_power_111 : decode cX3_power 111 = .ok (.aload_n 0, 1) := by decide +kernel
theorem dX3_power_112 : decode cX3_power 112 = .ok (.getfield 27, 3) := by decide +kernel
theorem dX3_power_115 : decode cX3_power 115 = .ok (.invokevirtual 53, 3) := by decide +kernel
theorem dX3_power_118 : decode cX3_power 118 = .ok (.ireturn, 1) := by decide +kernel
theorem dX3_binomial_0 : decode cX3_binomial 0 = .ok (.iload_n 1, 1) := by decide +kernel
theorem dX3_binomial_1 : decode cX3_binomial 1 = .ok (.ifCond .lt 17, 3) := by decide +kernel
theorem dX3_binomial_4 : decode cX3_binomial 4 = .ok (.iload_n 1, 1) := by decide +kernel
theorem dX3_binomial_5 : decode cX3_binomial 5 = .ok (.sipush 4000, 3) := by decide +kernel
theorem dX3_binomial_8 : decode cX3_binomial 8 = .ok (.if_icmp .gt 10, 3) := by decide +kernel
theorem dX3_binomial_11 : decode cX3_binomial 11 = .ok (.aload_n 0, 1) := by decide +kernel
theorem dX3_binomial_12 : decode cX3_binomial 12 = .ok (.invokevirtual 45, 3) := by decide +kernel
theorem dX3_binomial_15 : decode cX3_binomial 15 = .ok (.ifCond .eq 5, 3) := by decide +kernel
theorem dX3_binomial_18 : decode cX3_binomial 18 = .ok (.iconst (-1), 1) := by decide +kernel
theorem dX3_binomial_19 : decode cX3_binomial 19 = .ok (.ireturn, 1) := by decide +kernel
theorem dX3_binomial_20 : decode cX3_binomial 20 = .ok (.aload_n 0, 1) := by decide +kernel
theorem dX3_binomial_21 : decode cX3_binomial 21 = .ok (.getfield 27, 3) := by decide +kernel
theorem dX3_binomial_24 : decode cX3_binomial 24 = .ok (.iload_n 2, 1) := by decide +kernel
theorem dX3_binomial_25 : decode cX3_binomial 25 = .ok (.ifCond .lt 8, 3) := by decide +kernel
theorem dX3_binomial_28 : decode cX3_binomial 28 = .ok (.iload_n 2, 1) := by decide +kernel
theorem dX3_binomial_29 : decode cX3_binomial 29 = .ok (.iload_n 1, 1) := by decide +kernel
theorem dX3_binomial_30 : decode cX3_binomial 30 = .ok (.if_icmp .le 7, 3) := by decide +kernel
theorem dX3_binomial_33 : decode cX3_binomial 33 = .ok (.lconst 0, 1) := by decide +kernel
theorem dX3_binomial_34 : decode cX3_binomial 34 = .ok (.goto 4, 3) := by decide +kernel
theorem dX3_binomial_37 : decode cX3_binomial 37 = .ok (.lconst 1, 1) := by decide +kernel
theorem dX3_binomial_38 : decode cX3_binomial 38 = .ok (.invokevirtual 49, 3) := by decide +kernel
theorem dX3_binomial_41 : decode cX3_binomial 41 = .ok (.iload_n 2, 1) := by decide +kernel
theorem dX3_binomial_42 : decode cX3_binomial 42 = .ok (.iload_n 1, 1) := by decide +kernel
theorem dX3_binomial_43 : decode cX3_binomial 43 = .ok (.iload_n 2, 1) := by decide +kernel
theorem dX3_binomial_44 : decode cX3_binomial 44 = .ok (.isub, 1) := by decide +kernel
theorem dX3_binomial_45 : decode cX3_binomial 45 = .ok (.invokestatic 96, 3) := by decide +kernel
theorem dX3_binomial_48 : decode cX3_binomial 48 = .ok (.istore_n 3, 1) := by decide +kernel
theorem dX3_binomial_49 : decode cX3_binomial 49 = .ok (.iconst 1, 1) := by decide +kernel
theorem dX3_binomial_50 : decode cX3_binomial 50 = .ok (.istore 4, 2) := by decide +kernel
theorem dX3_binomial_52 : decode cX3_binomial 52 = .ok (.iload 4, 2) := by decide +kernel
theorem dX3_binomial_54 : decode cX3_binomial 54 = .ok (.iload_n 3, 1) := by decide +kernel
theorem dX3_binomial_55 : decode cX3_binomial 55 = .ok (.if_icmp .gt 42, 3) := by decide +kernel
theorem dX3_binomial_58 : decode cX3_binomial 58 = .ok (.aload_n 0, 1) := by decide +kernel
theorem dX3_binomial_59 : decode cX3_binomial 59 = .ok (.getfield 27, 3) := by decide +kernel
theorem dX3_binomial_62 : decode cX3_binomial 62 = .ok (.invokevirtual 102, 3) := by decide +kernel
theorem dX3_binomial_65 : decode cX3_binomial 65 = .ok (.ifCond .eq 32, 3) := by decide +kernel
theorem dX3_binomial_68 : decode cX3_binomial 68 = .ok (.aload_n 0, 1) := by decide +kernel
theorem dX3_binomial_69 : decode cX3_binomial 69 = .ok (.getfield 27, 3) := by decide +kernel
theorem dX3_binomial_72 : decode cX3_binomial 72 = .ok (.iload_n 1, 1) := by decide +kernel
theorem dX3_binomial_73 : decode cX3_binomial 73 = .ok (.iload 4, 2) := by decide +kernel
theorem dX3_binomial_75 : decode cX3_binomial 75 = .ok (.isub, 1) := by decide +kernel
theorem dX3_binomial_76 : decode cX3_binomial 76 = .ok (.iconst 1, 1) := by decide +kernel
theorem dX3_binomial_77 : decode cX3_binomial 77 = .ok (.iadd, 1) := by decide +kernel
theorem dX3_binomial_78 : decode cX3_binomial 78 = .ok (.invokevirtual 105, 3) := by decide +kernel
theorem dX3_binomial_81 : decode cX3_binomial 81 = .ok (.aload_n 0, 1) := by decide +kernel
theorem dX3_binomial_82 : decode cX3_binomial 82 = .ok (.getfield 27, 3) := by decide +kernel
theorem dX3_binomial_85 : decode cX3_binomial 85 = .ok (.iload 4, 2) := by decide +kernel
theorem dX3_binomial_87 : decode cX3_binomial 87 = .ok (.invokevirtual 108, 3) := by decide +kernel
theorem dX3_binomial_90 : decode cX3_binomial 90 = .ok (.pop, 1) := by decide +kernel
theorem dX3_binomial_91 : decode cX3_binomial 91 = .ok (.iinc 4 1, 3) := by decide +kernel
theorem dX3_binomial_94 : decode cX3_binomial 94 = .ok (.goto (-42), 3) := by decide +kernel
theorem dX3_binomial_97 : decode cX3_binomial 97 = .ok (.aload_n 0, 1) := by decide +kernel
theorem dX3_binomial_98 : decode cX3_binomial 98 = .ok (.aload_n 0, 1) := by decide +kernel
theorem dX3_binomial_99 : decode cX3_binomial 99 = .ok (.getfield 27, 3) := by decide +kernel
theorem dX3_binomial_102 : decode cX3_binomial 102 = .ok (.invokevirtual 53, 3) := by decide +kernel
theorem dX3_binomial_105 : decode cX3_binomial 105 = .ok (.ireturn, 1) := by decide +kernel
theorem dX3_factorial_0 : decode cX3_factorial 0 = .ok (.iload_n 1, 1) := by decide +kernel
theorem dX3_factorial_1 : decode cX3_factorial 1 = .ok (.ifCond .lt 17, 3) := by decide +kernel
theorem dX3_factorial_4 : decode cX3_factorial 4 = .ok (.iload_n 1, 1) := by decide +kernel
theorem dX3_factorial_5 : decode cX3_factorial 5 = .ok (.sipush 1600, 3) := by decide +kernel
theorem dX3_factorial_8 : decode cX3_factorial 8 = .ok (.if_icmp .gt 10, 3) := by decide +kernel
theorem dX3_factorial_11 : decode cX3_factorial 11 = .ok (.aload_n 0, 1) := by decide +kernel
theorem dX3_factorial_12 : decode cX3_factorial 12 = .ok (.invokevirtual 45, 3) := by decide +kernel
theorem dX3_factorial_15 : decode cX3_factorial 15 = .ok (.ifCond .eq 5, 3) := by decide +kernel
theorem dX3_factorial_18 : decode cX3_factorial 18 = .ok (.iconst (-1), 1) := by decide +kernel
theorem dX3_factorial_19 : decode cX3_factorial 19 = .ok (.ireturn, 1) := by decide +kernel
theorem dX3_factorial_20 : decode cX3_factorial 20 = .ok (.aload_n 0, 1) := by decide +kernel
theorem dX3_factorial_21 : decode cX3_factorial 21 = .ok (.getfield 27, 3) := by decide +kernel
theorem dX3_factorial_24 : decode cX3_factorial 24 = .ok (.lconst 1, 1) := by decide +kernel
theorem dX3_factorial_25 : decode cX3_factorial 25 = .ok (.invokevirtual 49, 3) := by decide +kernel
theorem dX3_factorial_28 : decode cX3_factorial 28 = .ok (.iconst 2, 1) := by decide +kernel
theorem dX3_factorial_29 : decode cX3_factorial 29 = .ok (.istore_n 2, 1) := by decide +kernel
theorem dX3_factorial_30 : decode cX3_factorial 30 = .ok (.iload_n 2, 1) := by decide +kernel
theorem dX3_factorial_31 : decode cX3_factorial 31 = .ok (.iload_n 1, 1) := by decide +kernel
theorem dX3_factorial_32 : decode cX3_factorial 32 = .ok (.if_icmp .gt 27, 3) := by decide +kernel
theorem dX3_factorial_35 : decode cX3_factorial 35 = .ok (.aload_n 0, 1) := by decide +kernel
theorem dX3_factorial_36 : decode cX3_factorial 36 = .ok (.getfield 27, 3) := by decide +kernel
theorem dX3_factorial_39 : decode cX3_factorial 39 = .ok (.invokevirtual 102, 3) := by decide +kernel
theorem dX3_factorial_42 : decode cX3_factorial 42 = .ok (.ifCond .eq 17, 3) := by decide +kernel
theorem dX3_factorial_45 : decode cX3_factorial 45 = .ok (.aload_n 0, 1) := by decide +kernel
theorem dX3_factorial_46 : decode cX3_factorial 46 = .ok (.getfield 27, 3) := by decide +kernel
theorem dX3_factorial_49 : decode cX3_factorial 49 = .ok (.iload_n 2, 1) := by decide +kernel
theorem dX3_factorial_50 : decode cX3_factorial 50 = .ok (.invokevirtual 105, 3) := by decide +kernel
theorem dX3_factorial_53 : decode cX3_factorial 53 = .ok (.iinc 2 1, 3) := by decide +kernel
theorem dX3_factorial_56 : decode cX3_factorial 56 = .ok (.goto (-26), 3) := by decide +kernel
theorem dX3_factorial_59 : decode cX3_factorial 59 = .ok (.aload_n 0, 1) := by decide +kernel
theorem dX3_factorial_60 : decode cX3_factorial 60 = .ok (.aload_n 0, 1) := by decide +kernel
theorem dX3_factorial_61 : decode cX3_factorial 61 = .ok (.getfield 27, 3) := by decide +kernel
theorem dX3_factorial_64 : decode cX3_factorial 64 = .ok (.invokevirtual 53, 3) := by decide +kernel
theorem dX3_factorial_67 : decode cX3_factorial 67 = .ok (.ireturn, 1) := by decide +kernel
theorem dX3_order_0 : decode cX3_order 0 = .ok (.aload_n 0, 1) := by decide +kernel
theorem dX3_order_1 : decode cX3_order 1 = .ok (.iload_n 1, 1) := by decide +kernel
theorem dX3_order_2 : decode cX3_order 2 = .ok (.invokevirtual 57, 3) := by decide +kernel
theorem dX3_order_5 : decode cX3_order 5 = .ok (.astore_n 3, 1) := by decide +kernel
theorem dX3_order_6 : decode cX3_order 6 = .ok (.aload_n 0, 1) := by decide +kernel
theorem dX3_order_7 : decode cX3_order 7 = .ok (.iload_n 2, 1) := by decide +kernel
theorem dX3_order_8 : decode cX3_order 8 = .ok (.invokevirtual 57, 3) := by decide +kernel
theorem dX3_order_11 : decode cX3_order 11 = .ok (.astore 4, 2) := by decide +kernel
theorem dX3_order_13 : decode cX3_order 13 = .ok (.aload_n 3, 1) := by decide +kernel
theorem dX3_order_14 : decode cX3_order 14 = .ok (.getfield 61, 3) := by decide +kernel
theorem dX3_order_17 : decode cX3_order 17 = .ok (.aload 4, 2) := by decide +kernel
theorem dX3_order_19 : decode cX3_order 19 = .ok (.getfield 61, 3) := by decide +kernel
theorem dX3_order_22 : decode cX3_order 22 = .ok (.if_icmp .eq 16, 3) := by decide +kernel
theorem dX3_order_25 : decode cX3_order 25 = .ok (.aload_n 3, 1) := by decide +kernel
theorem dX3_order_26 : decode cX3_order 26 = .ok (.getfield 61, 3) := by decide +kernel
theorem dX3_order_29 : decode cX3_order 29 = .ok (.ifCond .eq 7, 3) := by decide +kernel
theorem dX3_order_32 : decode cX3_order 32 = .ok (.iconst (-1), 1) := by decide +kernel
theorem dX3_order_33 : decode cX3_order 33 = .ok (.goto 4, 3) := by decide +kernel
theorem dX3_order_36 : decode cX3_order 36 = .ok (.iconst 1, 1) := by decide +kernel
theorem dX3_order_37 : decode cX3_order 37 = .ok (.ireturn, 1) := by decide +kernel
theorem dX3_order_38 : decode cX3_order 38 = .ok (.aload_n 3, 1) := by decide +kernel
theorem dX3_order_39 : decode cX3_order 39 = .ok (.aload 4, 2) := by decide +kernel
theorem dX3_order_41 : decode cX3_order 41 = .ok (.invokevirtual 111, 3) := by decide +kernel
theorem dX3_order_44 : decode cX3_order 44 = .ok (.istore 5, 2) := by decide +kernel
theorem dX3_order_46 : decode cX3_order 46 = .ok (.aload_n 3, 1) := by decide +kernel
theorem dX3_order_47 : decode cX3_order 47 = .ok (.getfield 61, 3) := by decide +kernel
theorem dX3_order_50 : decode cX3_order 50 = .ok (.ifCond .eq 9, 3) := by decide +kernel
theorem dX3_order_53 : decode cX3_order 53 = .ok (.iload 5, 2) := by decide +kernel
theorem dX3_order_55 : decode cX3_order 55 = .ok (.ineg, 1) := by decide +kernel
theorem dX3_order_56 : decode cX3_order 56 = .ok (.goto 5, 3) := by decide +kernel
theorem dX3_order_59 : decode cX3_order 59 = .ok (.iload 5, 2) := by decide +kernel
theorem dX3_order_61 : decode cX3_order 61 = .ok (.ireturn, 1) := by decide +kernel
theorem dX3_digit_0 : decode cX3_digit 0 = .ok (.aload_n 0, 1) := by decide +kernel
theorem dX3_digit_1 : decode cX3_digit 1 = .ok (.iload_n 1, 1) := by decide +kernel
theorem dX3_digit_2 : decode cX3_digit 2 = .ok (.invokevirtual 57, 3) := by decide +kernel
theorem dX3_digit_5 : decode cX3_digit 5 = .ok (.astore_n 3, 1) := by decide +kernel
theorem dX3_digit_6 : decode cX3_digit 6 = .ok (.iload_n 2, 1) := by decide +kernel
theorem dX3_digit_7 : decode cX3_digit 7 = .ok (.ifCond .lt 10, 3) := by decide +kernel
theorem dX3_digit_10 : decode cX3_digit 10 = .ok (.iload_n 2, 1) := by decide +kernel
theorem dX3_digit_11 : decode cX3_digit 11 = .ok (.sipush 482, 3) := by decide +kernel
theorem dX3_digit_14 : decode cX3_digit 14 = .ok (.if_icmp .lt 13, 3) := by decide +kernel
theorem dX3_digit_17 : decode cX3_digit 17 = .ok (.new 114, 3) := by decide +kernel
theorem dX3_digit_20 : decode cX3_digit 20 = .ok (.dup, 1) := by decide +kernel
theorem dX3_digit_21 : decode cX3_digit 21 = .ok (.ldc 116, 2) := by decide +kernel
theorem dX3_digit_23 : decode cX3_digit 23 = .ok (.invokespecial 118, 3) := by decide +kernel
theorem dX3_digit_26 : decode cX3_digit 26 = .ok (.athrow, 1) := by decide +kernel
theorem dX3_digit_27 : decode cX3_digit 27 = .ok (.aload_n 0, 1) := by decide +kernel
theorem dX3_digit_28 : decode cX3_digit 28 = .ok (.getfield 27, 3) := by decide +kernel
theorem dX3_digit_31 : decode cX3_digit 31 = .ok (.aload_n 3, 1) := by decide +kernel
theorem dX3_digit_32 : decode cX3_digit 32 = .ok (.invokevirtual 92, 3) := by decide +kernel
theorem dX3_digit_35 : decode cX3_digit 35 = .ok (.aload_n 0, 1) := by decide +kernel
theorem dX3_digit_36 : decode cX3_digit 36 = .ok (.getfield 27, 3) := by decide +kernel
theorem dX3_digit_39 : decode cX3_digit 39 = .ok (.iload_n 2, 1) := by decide +kernel
theorem dX3_digit_40 : decode cX3_digit 40 = .ok (.invokevirtual 119, 3) := by decide +kernel
theorem dX3_digit_43 : decode cX3_digit 43 = .ok (.iload_n 2, 1) := by decide +kernel
theorem dX3_digit_44 : decode cX3_digit 44 = .ok (.ifCond .le 23, 3) := by decide +kernel
theorem dX3_digit_47 : decode cX3_digit 47 = .ok (.aload_n 0, 1) := by decide +kernel
theorem dX3_digit_48 : decode cX3_digit 48 = .ok (.getfield 27, 3) := by decide +kernel
theorem dX3_digit_51 : decode cX3_digit 51 = .ok (.invokevirtual 73, 3) := by decide +kernel
theorem dX3_digit_54 : decode cX3_digit 54 = .ok (.ifCond .eq 13, 3) := by decide +kernel
theorem dX3_digit_57 : decode cX3_digit 57 = .ok (.new 114, 3) := by decide +kernel
theorem dX3_digit_60 : decode cX3_digit 60 = .ok (.dup, 1) := by decide +kernel
theorem dX3_digit_61 : decode cX3_digit 61 = .ok (.ldc 116, 2) := by decide +kernel
theorem dX3_digit_63 : decode cX3_digit 63 = .ok (.invokespecial 118, 3) := by decide +kernel
theorem dX3_digit_66 : decode cX3_digit 66 = .ok (.athrow, 1) := by decide +kernel
theorem dX3_digit_67 : decode cX3_digit 67 = .ok (.aload_n 0, 1) := by decide +kernel
theorem dX3_digit_68 : decode cX3_digit 68 = .ok (.getfield 27, 3) := by decide +kernel
theorem dX3_digit_71 : decode cX3_digit 71 = .ok (.bipush 10, 2) := by decide +kernel
theorem dX3_digit_73 : decode cX3_digit 73 = .ok (.invokevirtual 108, 3) := by decide +kernel
theorem dX3_digit_76 : decode cX3_digit 76 = .ok (.ireturn, 1) := by decide +kernel
theorem dX3_entry_0 : decode cX3_entry 0 = .ok (.iload_n 1, 1) := by decide +kernel
theorem dX3_entry_1 : decode cX3_entry 1 = .ok (.ifCond .lt 19, 3) := by decide +kernel
theorem dX3_entry_4 : decode cX3_entry 4 = .ok (.iload_n 1, 1) := by decide +kernel
theorem dX3_entry_5 : decode cX3_entry 5 = .ok (.bipush 12, 2) := by decide +kernel
theorem dX3_entry_7 : decode cX3_entry 7 = .ok (.if_icmp .ge 13, 3) := by decide +kernel
theorem dX3_entry_10 : decode cX3_entry 10 = .ok (.iload_n 2, 1) := by decide +kernel
theorem dX3_entry_11 : decode cX3_entry 11 = .ok (.ifCond .lt 9, 3) := by decide +kernel
theorem dX3_entry_14 : decode cX3_entry 14 = .ok (.iload_n 2, 1) := by decide +kernel
theorem dX3_entry_15 : decode cX3_entry 15 = .ok (.bipush 12, 2) := by decide +kernel
theorem dX3_entry_17 : decode cX3_entry 17 = .ok (.if_icmp .lt 5, 3) := by decide +kernel
theorem dX3_entry_20 : decode cX3_entry 20 = .ok (.iconst 0, 1) := by decide +kernel
theorem dX3_entry_21 : decode cX3_entry 21 = .ok (.ireturn, 1) := by decide +kernel
theorem dX3_entry_22 : decode cX3_entry 22 = .ok (.aload_n 0, 1) := by decide +kernel
theorem dX3_entry_23 : decode cX3_entry 23 = .ok (.getfield 21, 3) := by decide +kernel
theorem dX3_entry_26 : decode cX3_entry 26 = .ok (.iload_n 1, 1) := by decide +kernel
theorem dX3_entry_27 : decode cX3_entry 27 = .ok (.aaload, 1) := by decide +kernel
theorem dX3_entry_28 : decode cX3_entry 28 = .ok (.iload_n 2, 1) := by decide +kernel
theorem dX3_entry_29 : decode cX3_entry 29 = .ok (.lload_n 3, 1) := by decide +kernel
theorem dX3_entry_30 : decode cX3_entry 30 = .ok (.lastore, 1) := by decide +kernel
theorem dX3_entry_31 : decode cX3_entry 31 = .ok (.iconst 1, 1) := by decide +kernel
theorem dX3_entry_32 : decode cX3_entry 32 = .ok (.ireturn, 1) := by decide +kernel
theorem dX3_determinant_0 : decode cX3_determinant 0 = .ok (.iload_n 1, 1) := by decide +kernel
theorem dX3_determinant_1 : decode cX3_determinant 1 = .ok (.ifCond .lt 16, 3) := by decide +kernel
theorem dX3_determinant_4 : decode cX3_determinant 4 = .ok (.iload_n 1, 1) := by decide +kernel
theorem dX3_determinant_5 : decode cX3_determinant 5 = .ok (.bipush 12, 2) := by decide +kernel
theorem dX3_determinant_7 : decode cX3_determinant 7 = .ok (.if_icmp .gt 10, 3) := by decide +kernel
theorem dX3_determinant_10 : decode cX3_determinant 10 = .ok (.aload_n 0, 1) := by decide +kernel
theorem dX3_determinant_11 : decode cX3_determinant 11 = .ok (.invokevirtual 45, 3) := by decide +kernel
theorem dX3_determinant_14 : decode cX3_determinant 14 = .ok (.ifCond .eq 5, 3) := by decide +kernel
theorem dX3_determinant_17 : decode cX3_determinant 17 = .ok (.iconst (-1), 1) := by decide +kernel
theorem dX3_determinant_18 : decode cX3_determinant 18 = .ok (.ireturn, 1) := by decide +kernel
theorem dX3_determinant_19 : decode cX3_determinant 19 = .ok (.iload_n 1, 1) := by decide +kernel
theorem dX3_determinant_20 : decode cX3_determinant 20 = .ok (.ifCond .ne 20, 3) := by decide +kernel
theorem dX3_determinant_23 : decode cX3_determinant 23 = .ok (.aload_n 0, 1) := by decide +kernel
theorem dX3_determinant_24 : decode cX3_determinant 24 = .ok (.getfield 27, 3) := by decide +kernel
theorem dX3_determinant_27 : decode cX3_determinant 27 = .ok (.lconst 1, 1) := by decide +kernel
theorem dX3_determinant_28 : decode cX3_determinant 28 = .ok (.invokevirtual 49, 3) := by decide +kernel
theorem dX3_determinant_31 : decode cX3_determinant 31 = .ok (.aload_n 0, 1) := by decide +kernel
theorem dX3_determinant_32 : decode cX3_determinant 32 = .ok (.aload_n 0, 1) := by decide +kernel
theorem dX3_determinant_33 : decode cX3_determinant 33 = .ok (.getfield 27, 3) := by decide +kernel
theorem dX3_determinant_36 : decode cX3_determinant 36 = .ok (.invokevirtual 53, 3) := by decide +kernel
theorem dX3_determinant_39 : decode cX3_determinant 39 = .ok (.ireturn, 1) := by decide +kernel
theorem dX3_determinant_40 : decode cX3_determinant 40 = .ok (.aload_n 0, 1) := by decide +kernel
theorem dX3_determinant_41 : decode cX3_determinant 41 = .ok (.getfield 41, 3) := by decide +kernel
theorem dX3_determinant_44 : decode cX3_determinant 44 = .ok (.ifnonnull 18, 3) := by decide +kernel
theorem dX3_determinant_47 : decode cX3_determinant 47 = .ok (.aload_n 0, 1) := by decide +kernel
theorem dX3_determinant_48 : decode cX3_determinant 48 = .ok (.new 122, 3) := by decide +kernel
theorem dX3_determinant_51 : decode cX3_determinant 51 = .ok (.dup, 1) := by decide +kernel
theorem dX3_determinant_52 : decode cX3_determinant 52 = .ok (.aload_n 0, 1) := by decide +kernel
theorem dX3_determinant_53 : decode cX3_determinant 53 = .ok (.getfield 37, 3) := by decide +kernel
theorem dX3_determinant_56 : decode cX3_determinant 56 = .ok (.invokespecial 124, 3) := by decide +kernel
theorem dX3_determinant_59 : decode cX3_determinant 59 = .ok (.putfield 41, 3) := by decide +kernel
theorem dX3_determinant_62 : decode cX3_determinant 62 = .ok (.aload_n 0, 1) := by decide +kernel
theorem dX3_determinant_63 : decode cX3_determinant 63 = .ok (.getfield 41, 3) := by decide +kernel
theorem dX3_determinant_66 : decode cX3_determinant 66 = .ok (.aload_n 0, 1) := by decide +kernel
theorem dX3_determinant_67 : decode cX3_determinant 67 = .ok (.getfield 21, 3) := by decide +kernel
theorem dX3_determinant_70 : decode cX3_determinant 70 = .ok (.iload_n 1, 1) := by decide +kernel
theorem dX3_determinant_71 : decode cX3_determinant 71 = .ok (.aload_n 0, 1) := by decide +kernel
theorem dX3_determinant_72 : decode cX3_determinant 72 = .ok (.getfield 27, 3) := by decide +kernel
theorem dX3_determinant_75 : decode cX3_determinant 75 = .ok (.invokevirtual 127, 3) := by decide +kernel
theorem dX3_determinant_78 : decode cX3_determinant 78 = .ok (.aload_n 0, 1) := by decide +kernel
theorem dX3_determinant_79 : decode cX3_determinant 79 = .ok (.aload_n 0, 1) := by decide +kernel
theorem dX3_determinant_80 : decode cX3_determinant 80 = .ok (.getfield 27, 3) := by decide +kernel
theorem dX3_determinant_83 : decode cX3_determinant 83 = .ok (.invokevirtual 53, 3) := by decide +kernel
theorem dX3_determinant_86 : decode cX3_determinant 86 = .ok (.ireturn, 1) := by decide +kernel
theorem dX3_residue_0 : decode cX3_residue 0 = .ok (.aload_n 0, 1) := by decide +kernel
theorem dX3_residue_1 : decode cX3_residue 1 = .ok (.iload_n 1, 1) := by decide +kernel
theorem dX3_residue_2 : decode cX3_residue 2 = .ok (.invokevirtual 57, 3) := by decide +kernel
theorem dX3_residue_5 : decode cX3_residue 5 = .ok (.astore 4, 2) := by decide +kernel
theorem dX3_residue_7 : decode cX3_residue 7 = .ok (.lload_n 2, 1) := by decide +kernel
theorem dX3_residue_8 : decode cX3_residue 8 = .ok (.lconst 0, 1) := by decide +kernel
theorem dX3_residue_9 : decode cX3_residue 9 = .ok (.lcmp, 1) := by decide +kernel
theorem dX3_residue_10 : decode cX3_residue 10 = .ok (.ifCond .ne 13, 3) := by decide +kernel
theorem dX3_residue_13 : decode cX3_residue 13 = .ok (.new 76, 3) := by decide +kernel
theorem dX3_residue_16 : decode cX3_residue 16 = .ok (.dup, 1) := by decide +kernel
theorem dX3_residue_17 : decode cX3_residue 17 = .ok (.ldc 131, 2) := by decide +kernel
theorem dX3_residue_19 : decode cX3_residue 19 = .ok (.invokespecial 80, 3) := by decide +kernel
theorem dX3_residue_22 : decode cX3_residue 22 = .ok (.athrow, 1) := by decide +kernel
theorem dX3_residue_23 : decode cX3_residue 23 = .ok (.lload_n 2, 1) := by decide +kernel
theorem dX3_residue_24 : decode cX3_residue 24 = .ok (.lconst 0, 1) := by decide +kernel
theorem dX3_residue_25 : decode cX3_residue 25 = .ok (.lcmp, 1) := by decide +kernel
theorem dX3_residue_26 : decode cX3_residue 26 = .ok (.ifCond .ge 7, 3) := by decide +kernel
theorem dX3_residue_29 : decode cX3_residue 29 = .ok (.lload_n 2, 1) := by decide +kernel
theorem dX3_residue_30 : decode cX3_residue 30 = .ok (.goto 5, 3) := by decide +kernel
theorem dX3_residue_33 : decode cX3_residue 33 = .ok (.lload_n 2, 1) := by decide +kernel
theorem dX3_residue_34 : decode cX3_residue 34 = .ok (.lneg, 1) := by decide +kernel
theorem dX3_residue_35 : decode cX3_residue 35 = .ok (.lstore 5, 2) := by decide +kernel
theorem dX3_residue_37 : decode cX3_residue 37 = .ok (.aload 4, 2) := by decide +kernel
theorem dX3_residue_39 : decode cX3_residue 39 = .ok (.lload 5, 2) := by decide +kernel
theorem dX3_residue_41 : decode cX3_residue 41 = .ok (.invokevirtual 133, 3) := by decide +kernel
theorem dX3_residue_44 : decode cX3_residue 44 = .ok (.lstore 7, 2) := by decide +kernel
theorem dX3_residue_46 : decode cX3_residue 46 = .ok (.lload 7, 2) := by decide +kernel
theorem dX3_residue_48 : decode cX3_residue 48 = .ok (.lconst 0, 1) := by decide +kernel
theorem dX3_residue_49 : decode cX3_residue 49 = .ok (.lcmp, 1) := by decide +kernel
theorem dX3_residue_50 : decode cX3_residue 50 = .ok (.ifCond .ne 5, 3) := by decide +kernel
theorem dX3_residue_53 : decode cX3_residue 53 = .ok (.lconst 0, 1) := by decide +kernel
theorem dX3_residue_54 : decode cX3_residue 54 = .ok (.lreturn, 1) := by decide +kernel
theorem dX3_residue_55 : decode cX3_residue 55 = .ok (.aload 4, 2) := by decide +kernel
theorem dX3_residue_57 : decode cX3_residue 57 = .ok (.getfield 61, 3) := by decide +kernel
theorem dX3_residue_60 : decode cX3_residue 60 = .ok (.ifCond .eq 11, 3) := by decide +kernel
theorem dX3_residue_63 : decode cX3_residue 63 = .ok (.lload 7, 2) := by decide +kernel
theorem dX3_residue_65 : decode cX3_residue 65 = .ok (.lload 5, 2) := by decide +kernel
theorem dX3_residue_67 : decode cX3_residue 67 = .ok (.lsub, 1) := by decide +kernel
theorem dX3_residue_68 : decode cX3_residue 68 = .ok (.goto 6, 3) := by decide +kernel
theorem dX3_residue_71 : decode cX3_residue 71 = .ok (.lload 7, 2) := by decide +kernel
theorem dX3_residue_73 : decode cX3_residue 73 = .ok (.lneg, 1) := by decide +kernel
theorem dX3_residue_74 : decode cX3_residue 74 = .ok (.lreturn, 1) := by decide +kernel
theorem dX3_kept_0 : decode cX3_kept 0 = .ok (.aload_n 0, 1) := by decide +kernel
theorem dX3_kept_1 : decode cX3_kept 1 = .ok (.getfield 15, 3) := by decide +kernel
theorem dX3_kept_4 : decode cX3_kept 4 = .ok (.ireturn, 1) := by decide +kernel
theorem dX3_isFull_0 : decode cX3_isFull 0 = .ok (.aload_n 0, 1) := by decide +kernel
theorem dX3_isFull_1 : decode cX3_isFull 1 = .ok (.getfield 15, 3) := by decide +kernel
theorem dX3_isFull_4 : decode cX3_isFull 4 = .ok (.sipush 160, 3) := by decide +kernel
theorem dX3_isFull_7 : decode cX3_isFull 7 = .ok (.if_icmp .lt 7, 3) := by decide +kernel
theorem dX3_isFull_10 : decode cX3_isFull 10 = .ok (.iconst 1, 1) := by decide +kernel
theorem dX3_isFull_11 : decode cX3_isFull 11 = .ok (.goto 4, 3) := by decide +kernel
theorem dX3_isFull_14 : decode cX3_isFull 14 = .ok (.iconst 0, 1) := by decide +kernel
theorem dX3_isFull_15 : decode cX3_isFull 15 = .ok (.ireturn, 1) := by decide +kernel
theorem dX3_known_0 : decode cX3_known 0 = .ok (.iload_n 1, 1) := by decide +kernel
theorem dX3_known_1 : decode cX3_known 1 = .ok (.ifCond .lt 11, 3) := by decide +kernel
theorem dX3_known_4 : decode cX3_known 4 = .ok (.iload_n 1, 1) := by decide +kernel
theorem dX3_known_5 : decode cX3_known 5 = .ok (.aload_n 0, 1) := by decide +kernel
theorem dX3_known_6 : decode cX3_known 6 = .ok (.getfield 15, 3) := by decide +kernel
theorem dX3_known_9 : decode cX3_known 9 = .ok (.if_icmp .lt 13, 3) := by decide +kernel
theorem dX3_known_12 : decode cX3_known 12 = .ok (.new 114, 3) := by decide +kernel
theorem dX3_known_15 : decode cX3_known 15 = .ok (.dup, 1) := by decide +kernel
theorem dX3_known_16 : decode cX3_known 16 = .ok (.ldc 137, 2) := by decide +kernel
theorem dX3_known_18 : decode cX3_known 18 = .ok (.invokespecial 118, 3) := by decide +kernel
theorem dX3_known_21 : decode cX3_known 21 = .ok (.athrow, 1) := by decide +kernel
theorem dX3_known_22 : decode cX3_known 22 = .ok (.aload_n 0, 1) := by decide +kernel
theorem dX3_known_23 : decode cX3_known 23 = .ok (.getfield 11, 3) := by decide +kernel
theorem dX3_known_26 : decode cX3_known 26 = .ok (.iload_n 1, 1) := by decide +kernel
theorem dX3_known_27 : decode cX3_known 27 = .ok (.aaload, 1) := by decide +kernel
theorem dX3_known_28 : decode cX3_known 28 = .ok (.areturn, 1) := by decide +kernel
theorem dX3_keep_0 : decode cX3_keep 0 = .ok (.aload_n 0, 1) := by decide +kernel
theorem dX3_keep_1 : decode cX3_keep 1 = .ok (.invokevirtual 45, 3) := by decide +kernel
theorem dX3_keep_4 : decode cX3_keep 4 = .ok (.ifCond .ne 10, 3) := by decide +kernel
theorem dX3_keep_7 : decode cX3_keep 7 = .ok (.aload_n 1, 1) := by decide +kernel
theorem dX3_keep_8 : decode cX3_keep 8 = .ok (.invokevirtual 102, 3) := by decide +kernel
theorem dX3_keep_11 : decode cX3_keep 11 = .ok (.ifCond .ne 5, 3) := by decide +kernel
theorem dX3_keep_14 : decode cX3_keep 14 = .ok (.iconst (-1), 1) := by decide +kernel
theorem dX3_keep_15 : decode cX3_keep 15 = .ok (.ireturn, 1) := by decide +kernel
theorem dX3_keep_16 : decode cX3_keep 16 = .ok (.new 9, 3) := by decide +kernel
theorem dX3_keep_19 : decode cX3_keep 19 = .ok (.dup, 1) := by decide +kernel
theorem dX3_keep_20 : decode cX3_keep 20 = .ok (.aload_n 1, 1) := by decide +kernel
theorem dX3_keep_21 : decode cX3_keep 21 = .ok (.getfield 139, 3) := by decide +kernel
theorem dX3_keep_24 : decode cX3_keep 24 = .ok (.invokespecial 24, 3) := by decide +kernel
theorem dX3_keep_27 : decode cX3_keep 27 = .ok (.astore_n 2, 1) := by decide +kernel
theorem dX3_keep_28 : decode cX3_keep 28 = .ok (.aload_n 2, 1) := by decide +kernel
theorem dX3_keep_29 : decode cX3_keep 29 = .ok (.aload_n 1, 1) := by decide +kernel
theorem dX3_keep_30 : decode cX3_keep 30 = .ok (.invokevirtual 92, 3) := by decide +kernel
theorem dX3_keep_33 : decode cX3_keep 33 = .ok (.aload_n 0, 1) := by decide +kernel
theorem dX3_keep_34 : decode cX3_keep 34 = .ok (.getfield 11, 3) := by decide +kernel
theorem dX3_keep_37 : decode cX3_keep 37 = .ok (.aload_n 0, 1) := by decide +kernel
theorem dX3_keep_38 : decode cX3_keep 38 = .ok (.getfield 15, 3) := by decide +kernel
theorem dX3_keep_41 : decode cX3_keep 41 = .ok (.aload_n 2, 1) := by decide +kernel
theorem dX3_keep_42 : decode cX3_keep 42 = .ok (.aastore, 1) := by decide +kernel
theorem dX3_keep_43 : decode cX3_keep 43 = .ok (.aload_n 0, 1) := by decide +kernel
theorem dX3_keep_44 : decode cX3_keep 44 = .ok (.dup, 1) := by decide +kernel
theorem dX3_keep_45 : decode cX3_keep 45 = .ok (.getfield 15, 3) := by decide +kernel
theorem dX3_keep_48 : decode cX3_keep 48 = .ok (.iconst 1, 1) := by decide +kernel
theorem dX3_keep_49 : decode cX3_keep 49 = .ok (.iadd, 1) := by decide +kernel
theorem dX3_keep_50 : decode cX3_keep 50 = .ok (.putfield 15, 3) := by decide +kernel
theorem dX3_keep_53 : decode cX3_keep 53 = .ok (.aload_n 0, 1) := by decide +kernel
theorem dX3_keep_54 : decode cX3_keep 54 = .ok (.getfield 15, 3) := by decide +kernel
theorem dX3_keep_57 : decode cX3_keep 57 = .ok (.iconst 1, 1) := by decide +kernel
theorem dX3_keep_58 : decode cX3_keep 58 = .ok (.isub, 1) := by decide +kernel
theorem dX3_keep_59 : decode cX3_keep 59 = .ok (.ireturn, 1) := by decide +kernel
theorem dX3_highestBit_0 : decode cX3_highestBit 0 = .ok (.bipush 31, 2) := by decide +kernel
theorem dX3_highestBit_2 : decode cX3_highestBit 2 = .ok (.iload_n 0, 1) := by decide +kernel
theorem dX3_highestBit_3 : decode cX3_highestBit 3 = .ok (.invokestatic 142, 3) := by decide +kernel
theorem dX3_highestBit_6 : decode cX3_highestBit 6 = .ok (.isub, 1) := by decide +kernel
theorem dX3_highestBit_7 : decode cX3_highestBit 7 = .ok (.ireturn, 1) := by decide +kernel
theorem dJx00060_init_a7421_0 : decode cJx00060_init_a7421 0 = .ok (.aload_n 0, 1) := by decide +kernel
theorem dJx00060_init_a7421_1 : decode cJx00060_init_a7421 1 = .ok (.aload_n 1, 1) := by decide +kernel
theorem dJx00060_init_a7421_2 : decode cJx00060_init_a7421 2 = .ok (.invokespecial 7, 3) := by decide +kernel
theorem dJx00060_init_a7421_5 : decode cJx00060_init_a7421 5 = .ok (.return_, 1) := by decide +kernel
theorem dJ6_numberOfLeadingZeros_0f7a4_0 : decode cJ6_numberOfLeadingZeros_0f7a4 0 = .ok (.iload_n 0, 1) := by decide +kernel
theorem dJ6_numberOfLeadingZeros_0f7a4_1 : decode cJ6_numberOfLeadingZeros_0f7a4 1 = .ok (.ifCond .gt 14, 3) := by decide +kernel
theorem dJ6_numberOfLeadingZeros_0f7a4_4 : decode cJ6_numberOfLeadingZeros_0f7a4 4 = .ok (.iload_n 0, 1) := by decide +kernel
theorem dJ6_numberOfLeadingZeros_0f7a4_5 : decode cJ6_numberOfLeadingZeros_0f7a4 5 = .ok (.ifCond .ne 8, 3) := by decide +kernel
theorem dJ6_numberOfLeadingZeros_0f7a4_8 : decode cJ6_numberOfLeadingZeros_0f7a4 8 = .ok (.bipush 32, 2) := by decide +kernel
theorem dJ6_numberOfLeadingZeros_0f7a4_10 : decode cJ6_numberOfLeadingZeros_0f7a4 10 = .ok (.goto 4, 3) := by decide +kernel
theorem dJ6_numberOfLeadingZeros_0f7a4_13 : decode cJ6_numberOfLeadingZeros_0f7a4 13 = .ok (.iconst 0, 1) := by decide +kernel
theorem dJ6_numberOfLeadingZeros_0f7a4_14 : decode cJ6_numberOfLeadingZeros_0f7a4 14 = .ok (.ireturn, 1) := by decide +kernel
theorem dJ6_numberOfLeadingZeros_0f7a4_15 : decode cJ6_numberOfLeadingZeros_0f7a4 15 = .ok (.bipush 31, 2) := by decide +kernel
theorem dJ6_numberOfLeadingZeros_0f7a4_17 : decode cJ6_numberOfLeadingZeros_0f7a4 17 = .ok (.istore_n 1, 1) := by decide +kernel
theorem dJ6_numberOfLeadingZeros_0f7a4_18 : decode cJ6_numberOfLeadingZeros_0f7a4 18 = .ok (.iload_n 0, 1) := by decide +kernel
theorem dJ6_numberOfLeadingZeros_0f7a4_19 : decode cJ6_numberOfLeadingZeros_0f7a4 19 = .ok (.ldc_w 264, 3) := by decide +kernel
theorem dJ6_numberOfLeadingZeros_0f7a4_22 : decode cJ6_numberOfLeadingZeros_0f7a4 22 = .ok (.if_icmp .lt 11, 3) := by decide +kernel
theorem dJ6_numberOfLeadingZeros_0f7a4_25 : decode cJ6_numberOfLeadingZeros_0f7a4 25 = .ok (.iinc 1 (-16), 3) := by decide +kernel
theorem dJ6_numberOfLeadingZeros_0f7a4_28 : decode cJ6_numberOfLeadingZeros_0f7a4 28 = .ok (.iload_n 0, 1) := by decide +kernel
theorem dJ6_numberOfLeadingZeros_0f7a4_29 : decode cJ6_numberOfLeadingZeros_0f7a4 29 = .ok (.bipush 16, 2) := by decide +kernel
theorem dJ6_numberOfLeadingZeros_0f7a4_31 : decode cJ6_numberOfLeadingZeros_0f7a4 31 = .ok (.iushr, 1) := by decide +kernel
theorem dJ6_numberOfLeadingZeros_0f7a4_32 : decode cJ6_numberOfLeadingZeros_0f7a4 32 = .ok (.istore_n 0, 1) := by decide +kernel
theorem dJ6_numberOfLeadingZeros_0f7a4_33 : decode cJ6_numberOfLeadingZeros_0f7a4 33 = .ok (.iload_n 0, 1) := by decide +kernel
theorem dJ6_numberOfLeadingZeros_0f7a4_34 : decode cJ6_numberOfLeadingZeros_0f7a4 34 = .ok (.sipush 256, 3) := by decide +kernel
theorem dJ6_numberOfLeadingZeros_0f7a4_37 : decode cJ6_numberOfLeadingZeros_0f7a4 37 = .ok (.if_icmp .lt 11, 3) := by decide +kernel
theorem dJ6_numberOfLeadingZeros_0f7a4_40 : decode cJ6_numberOfLeadingZeros_0f7a4 40 = .ok (.iinc 1 (-8), 3) := by decide +kernel
theorem dJ6_numberOfLeadingZeros_0f7a4_43 : decode cJ6_numberOfLeadingZeros_0f7a4 43 = .ok (.iload_n 0, 1) := by decide +kernel
theorem dJ6_numberOfLeadingZeros_0f7a4_44 : decode cJ6_numberOfLeadingZeros_0f7a4 44 = .ok (.bipush 8, 2) := by decide +kernel
theorem dJ6_numberOfLeadingZeros_0f7a4_46 : decode cJ6_numberOfLeadingZeros_0f7a4 46 = .ok (.iushr, 1) := by decide +kernel
theorem dJ6_numberOfLeadingZeros_0f7a4_47 : decode cJ6_numberOfLeadingZeros_0f7a4 47 = .ok (.istore_n 0, 1) := by decide +kernel
theorem dJ6_numberOfLeadingZeros_0f7a4_48 : decode cJ6_numberOfLeadingZeros_0f7a4 48 = .ok (.iload_n 0, 1) := by decide +kernel
theorem dJ6_numberOfLeadingZeros_0f7a4_49 : decode cJ6_numberOfLeadingZeros_0f7a4 49 = .ok (.bipush 16, 2) := by decide +kernel
theorem dJ6_numberOfLeadingZeros_0f7a4_51 : decode cJ6_numberOfLeadingZeros_0f7a4 51 = .ok (.if_icmp .lt 10, 3) := by decide +kernel
theorem dJ6_numberOfLeadingZeros_0f7a4_54 : decode cJ6_numberOfLeadingZeros_0f7a4 54 = .ok (.iinc 1 (-4), 3) := by decide +kernel
theorem dJ6_numberOfLeadingZeros_0f7a4_57 : decode cJ6_numberOfLeadingZeros_0f7a4 57 = .ok (.iload_n 0, 1) := by decide +kernel
theorem dJ6_numberOfLeadingZeros_0f7a4_58 : decode cJ6_numberOfLeadingZeros_0f7a4 58 = .ok (.iconst 4, 1) := by decide +kernel
theorem dJ6_numberOfLeadingZeros_0f7a4_59 : decode cJ6_numberOfLeadingZeros_0f7a4 59 = .ok (.iushr, 1) := by decide +kernel
theorem dJ6_numberOfLeadingZeros_0f7a4_60 : decode cJ6_numberOfLeadingZeros_0f7a4 60 = .ok (.istore_n 0, 1) := by decide +kernel
theorem dJ6_numberOfLeadingZeros_0f7a4_61 : decode cJ6_numberOfLeadingZeros_0f7a4 61 = .ok (.iload_n 0, 1) := by decide +kernel
theorem dJ6_numberOfLeadingZeros_0f7a4_62 : decode cJ6_numberOfLeadingZeros_0f7a4 62 = .ok (.iconst 4, 1) := by decide +kernel
theorem dJ6_numberOfLeadingZeros_0f7a4_63 : decode cJ6_numberOfLeadingZeros_0f7a4 63 = .ok (.if_icmp .lt 10, 3) := by decide +kernel
theorem dJ6_numberOfLeadingZeros_0f7a4_66 : decode cJ6_numberOfLeadingZeros_0f7a4 66 = .ok (.iinc 1 (-2), 3) := by decide +kernel
theorem dJ6_numberOfLeadingZeros_0f7a4_69 : decode cJ6_numberOfLeadingZeros_0f7a4 69 = .ok (.iload_n 0, 1) := by decide +kernel
theorem dJ6_numberOfLeadingZeros_0f7a4_70 : decode cJ6_numberOfLeadingZeros_0f7a4 70 = .ok (.iconst 2, 1) := by decide +kernel
theorem dJ6_numberOfLeadingZeros_0f7a4_71 : decode cJ6_numberOfLeadingZeros_0f7a4 71 = .ok (.iushr, 1) := by decide +kernel
theorem dJ6_numberOfLeadingZeros_0f7a4_72 : decode cJ6_numberOfLeadingZeros_0f7a4 72 = .ok (.istore_n 0, 1) := by decide +kernel
theorem dJ6_numberOfLeadingZeros_0f7a4_73 : decode cJ6_numberOfLeadingZeros_0f7a4 73 = .ok (.iload_n 1, 1) := by decide +kernel
theorem dJ6_numberOfLeadingZeros_0f7a4_74 : decode cJ6_numberOfLeadingZeros_0f7a4 74 = .ok (.iload_n 0, 1) := by decide +kernel
theorem dJ6_numberOfLeadingZeros_0f7a4_75 : decode cJ6_numberOfLeadingZeros_0f7a4 75 = .ok (.iconst 1, 1) := by decide +kernel
theorem dJ6_numberOfLeadingZeros_0f7a4_76 : decode cJ6_numberOfLeadingZeros_0f7a4 76 = .ok (.iushr, 1) := by decide +kernel
theorem dJ6_numberOfLeadingZeros_0f7a4_77 : decode cJ6_numberOfLeadingZeros_0f7a4 77 = .ok (.isub, 1) := by decide +kernel
theorem dJ6_numberOfLeadingZeros_0f7a4_78 : decode cJ6_numberOfLeadingZeros_0f7a4 78 = .ok (.ireturn, 1) := by decide +kernel
theorem dJ9_max_7cf53_0 : decode cJ9_max_7cf53 0 = .ok (.iload_n 0, 1) := by decide +kernel
theorem dJ9_max_7cf53_1 : decode cJ9_max_7cf53 1 = .ok (.iload_n 1, 1) := by decide +kernel
theorem dJ9_max_7cf53_2 : decode cJ9_max_7cf53 2 = .ok (.if_icmp .lt 7, 3) := by decide +kernel
theorem dJ9_max_7cf53_5 : decode cJ9_max_7cf53 5 = .ok (.iload_n 0, 1) := by decide +kernel
theorem dJ9_max_7cf53_6 : decode cJ9_max_7cf53 6 = .ok (.goto 4, 3) := by decide +kernel
theorem dJ9_max_7cf53_9 : decode cJ9_max_7cf53 9 = .ok (.iload_n 1, 1) := by decide +kernel
theorem dJ9_max_7cf53_10 : decode cJ9_max_7cf53 10 = .ok (.ireturn, 1) := by decide +kernel
theorem dJ9_min_7cf53_0 : decode cJ9_min_7cf53 0 = .ok (.iload_n 0, 1) := by decide +kernel
theorem dJ9_min_7cf53_1 : decode cJ9_min_7cf53 1 = .ok (.iload_n 1, 1) := by decide +kernel
theorem dJ9_min_7cf53_2 : decode cJ9_min_7cf53 2 = .ok (.if_icmp .gt 7, 3) := by decide +kernel
theorem dJ9_min_7cf53_5 : decode cJ9_min_7cf53 5 = .ok (.iload_n 0, 1) := by decide +kernel
theorem dJ9_min_7cf53_6 : decode cJ9_min_7cf53 6 = .ok (.goto 4, 3) := by decide +kernel
theorem dJ9_min_7cf53_9 : decode cJ9_min_7cf53 9 = .ok (.iload_n 1, 1) := by decide +kernel
theorem dJ9_min_7cf53_10 : decode cJ9_min_7cf53 10 = .ok (.ireturn, 1) := by decide +kernel
end
section
theorem dX4_init_0 : decode cX4_init 0 = .ok (.aload_n 0, 1) := by decide +kernel
theorem dX4_init_1 : decode cX4_init 1 = .ok (.invokespecial 1, 3) := by decide +kernel
theorem dX4_init_4 : decode cX4_init 4 = .ok (.aload_n 0, 1) := by decide +kernel
theorem dX4_init_5 : decode cX4_init 5 = .ok (.sipush 16640, 3) := by decide +kernel
theorem dX4_init_8 : decode cX4_init 8 = .ok (.newarray .int, 2) := by decide +kernel
theorem dX4_init_10 : decode cX4_init 10 = .ok (.putfield 7, 3) := by decide +kernel
theorem dX4_init_13 : decode cX4_init 13 = .ok (.aload_n 0, 1) := by decide +kernel
theorem dX4_init_14 : decode cX4_init 14 = .ok (.sipush 160, 3) := by decide +kernel
theorem dX4_init_17 : decode cX4_init 17 = .ok (.newarray .int, 2) := by decide +kernel
theorem dX4_init_19 : decode cX4_init 19 = .ok (.putfield 13, 3) := by decide +kernel
theorem dX4_init_22 : decode cX4_init 22 = .ok (.aload_n 0, 1) := by decide +kernel
theorem dX4_init_23 : decode cX4_init 23 = .ok (.sipush 160, 3) := by decide +kernel
theorem dX4_init_26 : decode cX4_init 26 = .ok (.newarray .boolean, 2) := by decide +kernel
theorem dX4_init_28 : decode cX4_init 28 = .ok (.putfield 16, 3) := by decide +kernel
theorem dX4_init_31 : decode cX4_init 31 = .ok (.aload_n 0, 1) := by decide +kernel
theorem dX4_init_32 : decode cX4_init 32 = .ok (.sipush 144, 3) := by decide +kernel
theorem dX4_init_35 : decode cX4_init 35 = .ok (.newarray .long, 2) := by decide +kernel
theorem dX4_init_37 : decode cX4_init 37 = .ok (.putfield 20, 3) := by decide +kernel
theorem dX4_init_40 : decode cX4_init 40 = .ok (.aload_n 0, 1) := by decide +kernel
theorem dX4_init_41 : decode cX4_init 41 = .ok (.sipush 220, 3) := by decide +kernel
theorem dX4_init_44 : decode cX4_init 44 = .ok (.newarray .int, 2) := by decide +kernel
theorem dX4_init_46 : decode cX4_init 46 = .ok (.putfield 24, 3) := by decide +kernel
theorem dX4_init_49 : decode cX4_init 49 = .ok (.aload_n 0, 1) := by decide +kernel
theorem dX4_init_50 : decode cX4_init 50 = .ok (.sipush 220, 3) := by decide +kernel
theorem dX4_init_53 : decode cX4_init 53 = .ok (.newarray .int, 2) := by decide +kernel
theorem dX4_init_55 : decode cX4_init 55 = .ok (.putfield 27, 3) := by decide +kernel
theorem dX4_init_58 : decode cX4_init 58 = .ok (.aload_n 0, 1) := by decide +kernel
theorem dX4_init_59 : decode cX4_init 59 = .ok (.sipush 220, 3) := by decide +kernel
theorem dX4_init_62 : decode cX4_init 62 = .ok (.newarray .int, 2) := by decide +kernel
theorem dX4_init_64 : decode cX4_init 64 = .ok (.putfield 30, 3) := by decide +kernel
theorem dX4_init_67 : decode cX4_init 67 = .ok (.aload_n 0, 1) := by decide +kernel
theorem dX4_init_68 : decode cX4_init 68 = .ok (.ldc 33, 2) := by decide +kernel
theorem dX4_init_70 : decode cX4_init 70 = .ok (.newarray .int, 2) := by decide +kernel
theorem dX4_init_72 : decode cX4_init 72 = .ok (.putfield 34, 3) := by decide +kernel
theorem dX4_init_75 : decode cX4_init 75 = .ok (.aload_n 0, 1) := by decide +kernel
theorem dX4_init_76 : decode cX4_init 76 = .ok (.sipush 4096, 3) := by decide +kernel
theorem dX4_init_79 : decode cX4_init 79 = .ok (.newarray .boolean, 2) := by decide +kernel
theorem dX4_init_81 : decode cX4_init 81 = .ok (.putfield 37, 3) := by decide +kernel
theorem dX4_init_84 : decode cX4_init 84 = .ok (.aload_n 0, 1) := by decide +kernel
theorem dX4_init_85 : decode cX4_init 85 = .ok (.bipush 60, 2) := by decide +kernel
theorem dX4_init_87 : decode cX4_init 87 = .ok (.newarray .int, 2) := by decide +kernel
theorem dX4_init_89 : decode cX4_init 89 = .ok (.putfield 40, 3) := by decide +kernel
theorem dX4_init_92 : decode cX4_init 92 = .ok (.aload_n 0, 1) := by decide +kernel
theorem dX4_init_93 : decode cX4_init 93 = .ok (.bipush 60, 2) := by decide +kernel
theorem dX4_init_95 : decode cX4_init 95 = .ok (.newarray .int, 2) := by decide +kernel
theorem dX4_init_97 : decode cX4_init 97 = .ok (.putfield 43, 3) := by decide +kernel
theorem dX4_init_100 : decode cX4_init 100 = .ok (.aload_n 0, 1) := by decide +kernel
theorem dX4_init_101 : decode cX4_init 101 = .ok (.bipush 60, 2) := by decide +kernel
theorem dX4_init_103 : decode cX4_init 103 = .ok (.newarray .int, 2) := by decide +kernel
theorem dX4_init_105 : decode cX4_init 105 = .ok (.putfield 46, 3) := by decide +kernel
theorem dX4_init_108 : decode cX4_init 108 = .ok (.return_, 1) := by decide +kernel
theorem dX4_thrown_0 : decode cX4_thrown 0 = .ok (.aload_n 0, 1) := by decide +kernel
theorem dX4_thrown_1 : decode cX4_thrown 1 = .ok (.getfield 49, 3) := by decide +kernel
theorem dX4_thrown_4 : decode cX4_thrown 4 = .ok (.ireturn, 1) := by decide +kernel
theorem dX4_isKnown_0 : decode cX4_isKnown 0 = .ok (.iload_n 1, 1) := by decide +kernel
theorem dX4_isKnown_1 : decode cX4_isKnown 1 = .ok (.ifCond .lt 15, 3) := by decide +kernel
theorem dX4_isKnown_4 : decode cX4_isKnown 4 = .ok (.iload_n 1, 1) := by decide +kernel
theorem dX4_isKnown_5 : decode cX4_isKnown 5 = .ok (.aload_n 0, 1) := by decide +kernel
theorem dX4_isKnown_6 : decode cX4_isKnown 6 = .ok (.getfield 53, 3) := by decide +kernel
theorem dX4_isKnown_9 : decode cX4_isKnown 9 = .ok (.if_icmp .ge 7, 3) := by decide +kernel
theorem dX4_isKnown_12 : decode cX4_isKnown 12 = .ok (.iconst 1, 1) := by decide +kernel
theorem dX4_isKnown_13 : decode cX4_isKnown 13 = .ok (.goto 4, 3) := by decide +kernel
theorem dX4_isKnown_16 : decode cX4_isKnown 16 = .ok (.iconst 0, 1) := by decide +kernel
theorem dX4_isKnown_17 : decode cX4_isKnown 17 = .ok (.ireturn, 1) := by decide +kernel
theorem dX4_areKnown_0 : decode cX4_areKnown 0 = .ok (.aload_n 0, 1) := by decide +kernel
theorem dX4_areKnown_1 : decode cX4_areKnown 1 = .ok (.aload_n 0, 1) := by decide +kernel
theorem dX4_areKnown_2 : decode cX4_areKnown 2 = .ok (.iload_n 1, 1) := by decide +kernel
theorem dX4_areKnown_3 : decode cX4_areKnown 3 = .ok (.invokevirtual 56, 3) := by decide +kernel
theorem dX4_areKnown_6 : decode cX4_areKnown 6 = .ok (.ifCond .eq 15, 3) := by decide +kernel
theorem dX4_areKnown_9 : decode cX4_areKnown 9 = .ok (.aload_n 0, 1) := by decide +kernel
theorem dX4_areKnown_10 : decode cX4_areKnown 10 = .ok (.iload_n 2, 1) := by decide +kernel
theorem dX4_areKnown_11 : decode cX4_areKnown 11 = .ok (.invokevirtual 56, 3) := by decide +kernel
theorem dX4_areKnown_14 : decode cX4_areKnown 14 = .ok (.ifCond .eq 7, 3) := by decide +kernel
theorem dX4_areKnown_17 : decode cX4_areKnown 17 = .ok (.iconst 0, 1) := by decide +kernel
theorem dX4_areKnown_18 : decode cX4_areKnown 18 = .ok (.goto 4, 3) := by decide +kernel
theorem dX4_areKnown_21 : decode cX4_areKnown 21 = .ok (.iconst 1, 1) := by decide +kernel
theorem dX4_areKnown_22 : decode cX4_areKnown 22 = .ok (.putfield 49, 3) := by decide +kernel
theorem dX4_areKnown_25 : decode cX4_areKnown 25 = .ok (.aload_n 0, 1) := by decide +kernel
theorem dX4_areKnown_26 : decode cX4_areKnown 26 = .ok (.getfield 49, 3) := by decide +kernel
theorem dX4_areKnown_29 : decode cX4_areKnown 29 = .ok (.ifCond .ne 7, 3) := by decide +kernel
theorem dX4_areKnown_32 : decode cX4_areKnown 32 = .ok (.iconst 1, 1) := by decide +kernel
theorem dX4_areKnown_33 : decode cX4_areKnown 33 = .ok (.goto 4, 3) := by decide +kernel
theorem dX4_areKnown_36 : decode cX4_areKnown 36 = .ok (.iconst 0, 1) := by decide +kernel
theorem dX4_areKnown_37 : decode cX4_areKnown 37 = .ok (.ireturn, 1) := by decide +kernel
theorem dX4_sizeOf_0 : decode cX4_sizeOf 0 = .ok (.iload_n 1, 1) := by decide +kernel
theorem dX4_sizeOf_1 : decode cX4_sizeOf 1 = .ok (.istore_n 2, 1) := by decide +kernel
theorem dX4_sizeOf_2 : decode cX4_sizeOf 2 = .ok (.iload_n 2, 1) := by decide +kernel
theorem dX4_sizeOf_3 : decode cX4_sizeOf 3 = .ok (.ifCond .le 17, 3) := by decide +kernel
theorem dX4_sizeOf_6 : decode cX4_sizeOf 6 = .ok (.aload_n 0, 1) := by decide +kernel
theorem dX4_sizeOf_7 : decode cX4_sizeOf 7 = .ok (.iload_n 2, 1) := by decide +kernel
theorem dX4_sizeOf_8 : decode cX4_sizeOf 8 = .ok (.iconst 1, 1) := by decide +kernel
theorem dX4_sizeOf_9 : decode cX4_sizeOf 9 = .ok (.isub, 1) := by decide +kernel
theorem dX4_sizeOf_10 : decode cX4_sizeOf 10 = .ok (.iaload, 1) := by decide +kernel
theorem dX4_sizeOf_11 : decode cX4_sizeOf 11 = .ok (.ifCond .ne 9, 3) := by decide +kernel
theorem dX4_sizeOf_14 : decode cX4_sizeOf 14 = .ok (.iinc 2 (-1), 3) := by decide +kernel
theorem dX4_sizeOf_17 : decode cX4_sizeOf 17 = .ok (.goto (-15), 3) := by decide +kernel
theorem dX4_sizeOf_20 : decode cX4_sizeOf 20 = .ok (.iload_n 2, 1) := by decide +kernel
theorem dX4_sizeOf_21 : decode cX4_sizeOf 21 = .ok (.ireturn, 1) := by decide +kernel
theorem dX4_clear_0 : decode cX4_clear 0 = .ok (.iconst 0, 1) := by decide +kernel
theorem dX4_clear_1 : decode cX4_clear 1 = .ok (.istore_n 2, 1) := by decide +kernel
theorem dX4_clear_2 : decode cX4_clear 2 = .ok (.iload_n 2, 1) := by decide +kernel
theorem dX4_clear_3 : decode cX4_clear 3 = .ok (.sipush 220, 3) := by decide +kernel
theorem dX4_clear_6 : decode cX4_clear 6 = .ok (.if_icmp .ge 13, 3) := by decide +kernel
theorem dX4_clear_9 : decode cX4_clear 9 = .ok (.aload_n 1, 1) := by decide +kernel
theorem dX4_clear_10 : decode cX4_clear 10 = .ok (.iload_n 2, 1) := by decide +kernel
theorem dX4_clear_11 : decode cX4_clear 11 = .ok (.iconst 0, 1) := by decide +kernel
theorem dX4_clear_12 : decode cX4_clear 12 = .ok (.iastore, 1) := by decide +kernel
theorem dX4_clear_13 : decode cX4_clear 13 = .ok (.iinc 2 1, 3) := by decide +kernel
theorem dX4_clear_16 : decode cX4_clear 16 = .ok (.goto (-14), 3) := by decide +kernel
theorem dX4_clear_19 : decode cX4_clear 19 = .ok (.return_, 1) := by decide +kernel
theorem dX4_load_0 : decode cX4_load 0 = .ok (.aload_n 0, 1) := by decide +kernel
theorem dX4_load_1 : decode cX4_load 1 = .ok (.aload_n 0, 1) := by decide +kernel
theorem dX4_load_2 : decode cX4_load 2 = .ok (.getfield 24, 3) := by decide +kernel
theorem dX4_load_5 : decode cX4_load 5 = .ok (.invokevirtual 60, 3) := by decide +kernel
theorem dX4_load_8 : decode cX4_load 8 = .ok (.iconst 0, 1) := by decide +kernel
theorem dX4_load_9 : decode cX4_load 9 = .ok (.istore_n 2, 1) := by decide +kernel
theorem dX4_load_10 : decode cX4_load 10 = .ok (.iload_n 2, 1) := by decide +kernel
theorem dX4_load_11 : decode cX4_load 11 = .ok (.aload_n 0, 1) := by decide +kernel
theorem dX4_load_12 : decode cX4_load 12 = .ok (.getfield 13, 3) := by decide +kernel
theorem dX4_load_15 : decode cX4_load 15 = .ok (.iload_n 1, 1) := by decide +kernel
theorem dX4_load_16 : decode cX4_load 16 = .ok (.iaload, 1) := by decide +kernel
theorem dX4_load_17 : decode cX4_load 17 = .ok (.if_icmp .ge 26, 3) := by decide +kernel
theorem dX4_load_20 : decode cX4_load 20 = .ok (.aload_n 0, 1) := by decide +kernel
theorem dX4_load_21 : decode cX4_load 21 = .ok (.getfield 24, 3) := by decide +kernel
theorem dX4_load_24 : decode cX4_load 24 = .ok (.iload_n 2, 1) := by decide +kernel
theorem dX4_load_25 : decode cX4_load 25 = .ok (.aload_n 0, 1) := by decide +kernel
theorem dX4_load_26 : decode cX4_load 26 = .ok (.getfield 7, 3) := by decide +kernel
theorem dX4_load_29 : decode cX4_load 29 = .ok (.bipush 104, 2) := by decide +kernel
theorem dX4_load_31 : decode cX4_load 31 = .ok (.iload_n 1, 1) := by decide +kernel
theorem dX4_load_32 : decode cX4_load 32 = .ok (.imul, 1) := by decide +kernel
theorem dX4_load_33 : decode cX4_load 33 = .ok (.iload_n 2, 1) := by decide +kernel
theorem dX4_load_34 : decode cX4_load 34 = .ok (.iadd, 1) := by decide +kernel
theorem dX4_load_35 : decode cX4_load 35 = .ok (.iaload, 1) := by decide +kernel
theorem dX4_load_36 : decode cX4_load 36 = .ok (.iastore, 1) := by decide +kernel
theorem dX4_load_37 : decode cX4_load 37 = .ok (.iinc 2 1, 3) := by decide +kernel
theorem dX4_load_40 : decode cX4_load 40 = .ok (.goto (-30), 3) := by decide +kernel
theorem dX4_load_43 : decode cX4_load 43 = .ok (.aload_n 0, 1) := by decide +kernel
theorem dX4_load_44 : decode cX4_load 44 = .ok (.aload_n 0, 1) := by decide +kernel
theorem dX4_load_45 : decode cX4_load 45 = .ok (.getfield 13, 3) := by decide +kernel
theorem dX4_load_48 : decode cX4_load 48 = .ok (.iload_n 1, 1) := by decide +kernel
theorem dX4_load_49 : decode cX4_load 49 = .ok (.iaload, 1) := by decide +kernel
theorem dX4_load_50 : decode cX4_load 50 = .ok (.putfield 64, 3) := by decide +kernel
theorem dX4_load_53 : decode cX4_load 53 = .ok (.return_, 1) := by decide +kernel
theorem dX4_loadOther_0 : decode cX4_loadOther 0 = .ok (.aload_n 0, 1) := by decide +kernel
theorem dX4_loadOther_1 : decode cX4_loadOther 1 = .ok (.aload_n 0, 1) := by decide +kernel
theorem dX4_loadOther_2 : decode cX4_loadOther 2 = .ok (.getfield 27, 3) := by decide +kernel
theorem dX4_loadOther_5 : decode cX4_loadOther 5 = .ok (.invokevirtual 60, 3) := by decide +kernel
theorem dX4_loadOther_8 : decode cX4_loadOther 8 = .ok (.iconst 0, 1) := by decide +kernel
theorem dX4_loadOther_9 : decode cX4_loadOther 9 = .ok (.istore_n 2, 1) := by decide +kernel
theorem dX4_loadOther_10 : decode cX4_loadOther 10 = .ok (.iload_n 2, 1) := by decide +kernel
theorem dX4_loadOther_11 : decode cX4_loadOther 11 = .ok (.aload_n 0, 1) := by decide +kernel
theorem dX4_loadOther_12 : decode cX4_loadOther 12 = .ok (.getfield 13, 3) := by decide +kernel
theorem dX4_loadOther_15 : decode cX4_loadOther 15 = .ok (.iload_n 1, 1) := by decide +kernel
theorem dX4_loadOther_16 : decode cX4_loadOther 16 = .ok (.iaload, 1) := by decide +kernel
theorem dX4_loadOther_17 : decode cX4_loadOther 17 = .ok (.if_icmp .ge 26, 3) := by decide +kernel
theorem dX4_loadOther_20 : decode cX4_loadOther 20 = .ok (.aload_n 0, 1) := by decide +kernel
theorem dX4_loadOther_21 : decode cX4_loadOther 21 = .ok (.getfield 27, 3) := by decide +kernel
theorem dX4_loadOther_24 : decode cX4_loadOther 24 = .ok (.iload_n 2, 1) := by decide +kernel
theorem dX4_loadOther_25 : decode cX4_loadOther 25 = .ok (.aload_n 0, 1) := by decide +kernel
theorem dX4_loadOther_26 : decode cX4_loadOther 26 = .ok (.getfield 7, 3) := by decide +kernel
theorem dX4_loadOther_29 : decode cX4_loadOther 29 = .ok (.bipush 104, 2) := by decide +kernel
theorem dX4_loadOther_31 : decode cX4_loadOther 31 = .ok (.iload_n 1, 1) := by decide +kernel
theorem dX4_loadOther_32 : decode cX4_loadOther 32 = .ok (.imul, 1) := by decide +kernel
theorem dX4_loadOther_33 : decode cX4_loadOther 33 = .ok (.iload_n 2, 1) := by decide +kernel
theorem dX4_loadOther_34 : decode cX4_loadOther 34 = .ok (.iadd, 1) := by decide +kernel
theorem dX4_loadOther_35 : decode cX4_loadOther 35 = .ok (.iaload, 1) := by decide +kernel
theorem dX4_loadOther_36 : decode cX4_loadOther 36 = .ok (.iastore, 1) := by decide +kernel
theorem dX4_loadOther_37 : decode cX4_loadOther 37 = .ok (.iinc 2 1, 3) := by decide +kernel
theorem dX4_loadOther_40 : decode cX4_loadOther 40 = .ok (.goto (-30), 3) := by decide +kernel
theorem dX4_loadOther_43 : decode cX4_loadOther 43 = .ok (.aload_n 0, 1) := by decide +kernel
theorem dX4_loadOther_44 : decode cX4_loadOther 44 = .ok (.aload_n 0, 1) := by decide +kernel
theorem dX4_loadOther_45 : decode cX4_loadOther 45 = .ok (.getfield 13, 3) := by decide +kernel
theorem dX4_loadOther_48 : decode cX4_loadOther 48 = .ok (.iload_n 1, 1) := by decide +kernel
theorem dX4_loadOther_49 : decode cX4_loadOther 49 = .ok (.iaload, 1) := by decide +kernel
theorem dX4_loadOther_50 : decode cX4_loadOther 50 = .ok (.putfield 67, 3) := by decide +kernel
theorem dX4_loadOther_53 : decode cX4_loadOther 53 = .ok (.return_, 1) := by decide +kernel
theorem dX4_loadLong_0 : decode cX4_loadLong 0 = .ok (.aload_n 0, 1) := by decide +kernel
theorem dX4_loadLong_1 : decode cX4_loadLong 1 = .ok (.aload_n 0, 1) := by decide +kernel
theorem dX4_loadLong_2 : decode cX4_loadLong 2 = .ok (.getfield 24, 3) := by decide +kernel
theorem dX4_loadLong_5 : decode cX4_loadLong 5 = .ok (.invokevirtual 60, 3) := by decide +kernel
theorem dX4_loadLong_8 : decode cX4_loadLong 8 = .ok (.lload_n 1, 1) := by decide +kernel
theorem dX4_loadLong_9 : decode cX4_loadLong 9 = .ok (.lconst 0, 1) := by decide +kernel
theorem dX4_loadLong_10 : decode cX4_loadLong 10 = .ok (.lcmp, 1) := by decide +kernel
theorem dX4_loadLong_11 : decode cX4_loadLong 11 = .ok (.ifCond .ge 8, 3) := by decide +kernel
theorem dX4_loadLong_14 : decode cX4_loadLong 14 = .ok (.lload_n 1, 1) := by decide +kernel
theorem dX4_loadLong_15 : decode cX4_loadLong 15 = .ok (.lneg, 1) := by decide +kernel
theorem dX4_loadLong_16 : decode cX4_loadLong 16 = .ok (.goto 4, 3) := by decide +kernel
theorem dX4_loadLong_19 : decode cX4_loadLong 19 = .ok (.lload_n 1, 1) := by decide +kernel
theorem dX4_loadLong_20 : decode cX4_loadLong 20 = .ok (.lstore_n 3, 1) := by decide +kernel
theorem dX4_loadLong_21 : decode cX4_loadLong 21 = .ok (.iconst 0, 1) := by decide +kernel
theorem dX4_loadLong_22 : decode cX4_loadLong 22 = .ok (.istore 5, 2) := by decide +kernel
theorem dX4_loadLong_24 : decode cX4_loadLong 24 = .ok (.iload 5, 2) := by decide +kernel
theorem dX4_loadLong_26 : decode cX4_loadLong 26 = .ok (.iconst 4, 1) := by decide +kernel
theorem dX4_loadLong_27 : decode cX4_loadLong 27 = .ok (.if_icmp .ge 28, 3) := by decide +kernel
theorem dX4_loadLong_30 : decode cX4_loadLong 30 = .ok (.aload_n 0, 1) := by decide +kernel
theorem dX4_loadLong_31 : decode cX4_loadLong 31 = .ok (.getfield 24, 3) := by decide +kernel
theorem dX4_loadLong_34 : decode cX4_loadLong 34 = .ok (.iload 5, 2) := by decide +kernel
theorem dX4_loadLong_36 : decode cX4_loadLong 36 = .ok (.lload_n 3, 1) := by decide +kernel
theorem dX4_loadLong_37 : decode cX4_loadLong 37 = .ok (.bipush 16, 2) := by decide +kernel
theorem dX4_loadLong_39 : decode cX4_loadLong 39 = .ok (.iload 5, 2) := by decide +kernel
theorem dX4_loadLong_41 : decode cX4_loadLong 41 = .ok (.imul, 1) := by decide +kernel
theorem dX4_loadLong_42 : decode cX4_loadLong 42 = .ok (.lushr, 1) := by decide +kernel
theorem dX4_loadLong_43 : decode cX4_loadLong 43 = .ok (.ldc2_w 70, 3) := by decide +kernel
theorem dX4_loadLong_46 : decode cX4_loadLong 46 = .ok (.land, 1) := by decide +kernel
theorem dX4_loadLong_47 : decode cX4_loadLong 47 = .ok (.l2i, 1) := by decide +kernel
theorem dX4_loadLong_48 : decode cX4_loadLong 48 = .ok (.iastore, 1) := by decide +kernel
theorem dX4_loadLong_49 : decode cX4_loadLong 49 = .ok (.iinc 5 1, 3) := by decide +kernel
theorem dX4_loadLong_52 : decode cX4_loadLong 52 = .ok (.goto (-28), 3) := by decide +kernel
theorem dX4_loadLong_55 : decode cX4_loadLong 55 = .ok (.aload_n 0, 1) := by decide +kernel
theorem dX4_loadLong_56 : decode cX4_loadLong 56 = .ok (.aload_n 0, 1) := by decide +kernel
theorem dX4_loadLong_57 : decode cX4_loadLong 57 = .ok (.getfield 24, 3) := by decide +kernel
theorem dX4_loadLong_60 : decode cX4_loadLong 60 = .ok (.iconst 4, 1) := by decide +kernel
theorem dX4_loadLong_61 : decode cX4_loadLong 61 = .ok (.invokestatic 72, 3) := by decide +kernel
theorem dX4_loadLong_64 : decode cX4_loadLong 64 = .ok (.putfield 64, 3) := by decide +kernel
theorem dX4_loadLong_67 : decode cX4_loadLong 67 = .ok (.return_, 1) := by decide +kernel
theorem dX4_isTooWide_0 : decode cX4_isTooWide 0 = .ok (.aload_n 0, 1) := by decide +kernel
theorem dX4_isTooWide_1 : decode cX4_isTooWide 1 = .ok (.getfield 64, 3) := by decide +kernel
theorem dX4_isTooWide_4 : decode cX4_isTooWide 4 = .ok (.bipush 100, 2) := by decide +kernel
theorem dX4_isTooWide_6 : decode cX4_isTooWide 6 = .ok (.if_icmp .le 7, 3) := by decide +kernel
theorem dX4_isTooWide_9 : decode cX4_isTooWide 9 = .ok (.iconst 1, 1) := by decide +kernel
theorem dX4_isTooWide_10 : decode cX4_isTooWide 10 = .ok (.goto 4, 3) := by decide +kernel
theorem dX4_isTooWide_13 : decode cX4_isTooWide 13 = .ok (.iconst 0, 1) := by decide +kernel
theorem dX4_isTooWide_14 : decode cX4_isTooWide 14 = .ok (.ireturn, 1) := by decide +kernel
theorem dX4_keep_0 : decode cX4_keep 0 = .ok (.aload_n 0, 1) := by decide +kernel
theorem dX4_keep_1 : decode cX4_keep 1 = .ok (.getfield 53, 3) := by decide +kernel
theorem dX4_keep_4 : decode cX4_keep 4 = .ok (.sipush 160, 3) := by decide +kernel
theorem dX4_keep_7 : decode cX4_keep 7 = .ok (.if_icmp .eq 10, 3) := by decide +kernel
theorem dX4_keep_10 : decode cX4_keep 10 = .ok (.aload_n 0, 1) := by decide +kernel
theorem dX4_keep_11 : decode cX4_keep 11 = .ok (.invokevirtual 76, 3) := by decide +kernel
theorem dX4_keep_14 : decode cX4_keep 14 = .ok (.ifCond .eq 5, 3) := by decide +kernel
theorem dX4_keep_17 : decode cX4_keep 17 = .ok (.iconst (-1), 1) := by decide +kernel
theorem dX4_keep_18 : decode cX4_keep 18 = .ok (.ireturn, 1) := by decide +kernel
theorem dX4_keep_19 : decode cX4_keep 19 = .ok (.iconst 0, 1) := by decide +kernel
theorem dX4_keep_20 : decode cX4_keep 20 = .ok (.istore_n 2, 1) := by decide +kernel
theorem dX4_keep_21 : decode cX4_keep 21 = .ok (.iload_n 2, 1) := by decide +kernel
theorem dX4_keep_22 : decode cX4_keep 22 = .ok (.aload_n 0, 1) := by decide +kernel
theorem dX4_keep_23 : decode cX4_keep 23 = .ok (.getfield 64, 3) := by decide +kernel
theorem dX4_keep_26 : decode cX4_keep 26 = .ok (.if_icmp .ge 29, 3) := by decide +kernel
theorem dX4_keep_29 : decode cX4_keep 29 = .ok (.aload_n 0, 1) := by decide +kernel
theorem dX4_keep_30 : decode cX4_keep 30 = .ok (.getfield 7, 3) := by decide +kernel
theorem dX4_keep_33 : decode cX4_keep 33 = .ok (.bipush 104, 2) := by decide +kernel
theorem dX4_keep_35 : decode cX4_keep 35 = .ok (.aload_n 0, 1) := by decide +kernel
theorem dX4_keep_36 : decode cX4_keep 36 = .ok (.getfield 53, 3) := by decide +kernel
theorem dX4_keep_39 : decode cX4_keep 39 = .ok (.imul, 1) := by decide +kernel
theorem dX4_keep_40 : decode cX4_keep 40 = .ok (.iload_n 2, 1) := by decide +kernel
theorem dX4_keep_41 : decode cX4_keep 41 = .ok (.iadd, 1) := by decide +kernel
theorem dX4_keep_42 : decode cX4_keep 42 = .ok (.aload_n 0, 1) := by decide +kernel
theorem dX4_keep_43 : decode cX4_keep 43 = .ok (.getfield 24, 3) := by decide +kernel
theorem dX4_keep_46 : decode cX4_keep 46 = .ok (.iload_n 2, 1) := by decide +kernel
theorem dX4_keep_47 : decode cX4_keep 47 = .ok (.iaload, 1) := by decide +kernel
theorem dX4_keep_48 : decode cX4_keep 48 = .ok (.iastore, 1) := by decide +kernel
theorem dX4_keep_49 : decode cX4_keep 49 = .ok (.iinc 2 1, 3) := by decide +kernel
theorem dX4_keep_52 : decode cX4_keep 52 = .ok (.goto (-31), 3) := by decide +kernel
theorem dX4_keep_55 : decode cX4_keep 55 = .ok (.aload_n 0, 1) := by decide +kernel
theorem dX4_keep_56 : decode cX4_keep 56 = .ok (.getfield 13, 3) := by decide +kernel
theorem dX4_keep_59 : decode cX4_keep 59 = .ok (.aload_n 0, 1) := by decide +kernel
theorem dX4_keep_60 : decode cX4_keep 60 = .ok (.getfield 53, 3) := by decide +kernel
theorem dX4_keep_63 : decode cX4_keep 63 = .ok (.aload_n 0, 1) := by decide +kernel
theorem dX4_keep_64 : decode cX4_keep 64 = .ok (.getfield 64, 3) := by decide +kernel
theorem dX4_keep_67 : decode cX4_keep 67 = .ok (.iastore, 1) := by decide +kernel
theorem dX4_keep_68 : decode cX4_keep 68 = .ok (.aload_n 0, 1) := by decide +kernel
theorem dX4_keep_69 : decode cX4_keep 69 = .ok (.getfield 16, 3) := by decide +kernel
theorem dX4_keep_72 : decode cX4_keep 72 = .ok (.aload_n 0, 1) := by decide +kernel
theorem dX4_keep_73 : decode cX4_keep 73 = .ok (.getfield 53, 3) := by decide +kernel
theorem dX4_keep_76 : decode cX4_keep 76 = .ok (.iload_n 1, 1) := by decide +kernel
theorem dX4_keep_77 : decode cX4_keep 77 = .ok (.ifCond .eq 14, 3) := by decide +kernel
theorem dX4_keep_80 : decode cX4_keep 80 = .ok (.aload_n 0, 1) := by decide +kernel
theorem dX4_keep_81 : decode cX4_keep 81 = .ok (.getfield 64, 3) := by decide +kernel
theorem dX4_keep_84 : decode cX4_keep 84 = .ok (.ifCond .le 7, 3) := by decide +kernel
theorem dX4_keep_87 : decode cX4_keep 87 = .ok (.iconst 1, 1) := by decide +kernel
theorem dX4_keep_88 : decode cX4_keep 88 = .ok (.goto 4, 3) := by decide +kernel
theorem dX4_keep_91 : decode cX4_keep 91 = .ok (.iconst 0, 1) := by decide +kernel
theorem dX4_keep_92 : decode cX4_keep 92 = .ok (.bastore, 1) := by decide +kernel
theorem dX4_keep_93 : decode cX4_keep 93 = .ok (.aload_n 0, 1) := by decide +kernel
theorem dX4_keep_94 : decode cX4_keep 94 = .ok (.dup, 1) := by decide +kernel
theorem dX4_keep_95 : decode cX4_keep 95 = .ok (.getfield 53, 3) := by decide +kernel
theorem dX4_keep_98 : decode cX4_keep 98 = .ok (.iconst 1, 1) := by decide +kernel
theorem dX4_keep_99 : decode cX4_keep 99 = .ok (.iadd, 1) := by decide +kernel
theorem dX4_keep_100 : decode cX4_keep 100 = .ok (.putfield 53, 3) := by decide +kernel
theorem dX4_keep_103 : decode cX4_keep 103 = .ok (.aload_n 0, 1) := by decide +kernel
theorem dX4_keep_104 : decode cX4_keep 104 = .ok (.getfield 53, 3) := by decide +kernel
theorem dX4_keep_107 : decode cX4_keep 107 = .ok (.iconst 1, 1) := by decide +kernel
theorem dX4_keep_108 : decode cX4_keep 108 = .ok (.isub, 1) := by decide +kernel
theorem dX4_keep_109 : decode cX4_keep 109 = .ok (.ireturn, 1) := by decide +kernel
theorem dX4_compare_0 : decode cX4_compare 0 = .ok (.aload_n 0, 1) := by decide +kernel
theorem dX4_compare_1 : decode cX4_compare 1 = .ok (.getfield 64, 3) := by decide +kernel
theorem dX4_compare_4 : decode cX4_compare 4 = .ok (.aload_n 0, 1) := by decide +kernel
theorem dX4_compare_5 : decode cX4_compare 5 = .ok (.getfield 67, 3) := by decide +kernel
theorem dX4_compare_8 : decode cX4_compare 8 = .ok (.if_icmp .eq 20, 3) := by decide +kernel
theorem dX4_compare_11 : decode cX4_compare 11 = .ok (.aload_n 0, 1) := by decide +kernel
theorem dX4_compare_12 : decode cX4_compare 12 = .ok (.getfield 64, 3) := by decide +kernel
theorem dX4_compare_15 : decode cX4_compare 15 = .ok (.aload_n 0, 1) := by decide +kernel
theorem dX4_compare_16 : decode cX4_compare 16 = .ok (.getfield 67, 3) := by decide +kernel
theorem dX4_compare_19 : decode cX4_compare 19 = .ok (.if_icmp .ge 7, 3) := by decide +kernel
theorem dX4_compare_22 : decode cX4_compare 22 = .ok (.iconst (-1), 1) := by decide +kernel
theorem dX4_compare_23 : decode cX4_compare 23 = .ok (.goto 4, 3) := by decide +kernel
theorem dX4_compare_26 : decode cX4_compare 26 = .ok (.iconst 1, 1) := by decide +kernel
theorem dX4_compare_27 : decode cX4_compare 27 = .ok (.ireturn, 1) := by decide +kernel
theorem dX4_compare_28 : decode cX4_compare 28 = .ok (.aload_n 0, 1) := by decide +kernel
theorem dX4_compare_29 : decode cX4_compare 29 = .ok (.getfield 64, 3) := by decide +kernel
theorem dX4_compare_32 : decode cX4_compare 32 = .ok (.iconst 1, 1) := by decide +kernel
theorem dX4_compare_33 : decode cX4_compare 33 = .ok (.isub, 1) := by decide +kernel
theorem dX4_compare_34 : decode cX4_compare 34 = .ok (.istore_n 1, 1) := by decide +kernel
theorem dX4_compare_35 : decode cX4_compare 35 = .ok (.iload_n 1, 1) := by decide +kernel
theorem dX4_compare_36 : decode cX4_compare 36 = .ok (.ifCond .lt 45, 3) := by decide +kernel
theorem dX4_compare_39 : decode cX4_compare 39 = .ok (.aload_n 0, 1) := by decide +kernel
theorem dX4_compare_40 : decode cX4_compare 40 = .ok (.getfield 24, 3) := by decide +kernel
theorem dX4_compare_43 : decode cX4_compare 43 = .ok (.iload_n 1, 1) := by decide +kernel
theorem dX4_compare_44 : decode cX4_compare 44 = .ok (.iaload, 1) := by decide +kernel
theorem dX4_compare_45 : decode cX4_compare 45 = .ok (.aload_n 0, 1) := by decide +kernel
theorem dX4_compare_46 : decode cX4_compare 46 = .ok (.getfield 27, 3) := by decide +kernel
theorem dX4_compare_49 : decode cX4_compare 49 = .ok (.iload_n 1, 1) := by decide +kernel
theorem dX4_compare_50 : decode cX4_compare 50 = .ok (.iaload, 1) := by decide +kernel
theorem dX4_compare_51 : decode cX4_compare 51 = .ok (.if_icmp .eq 24, 3) := by decide +kernel
theorem dX4_compare_54 : decode cX4_compare 54 = .ok (.aload_n 0, 1) := by decide +kernel
theorem dX4_compare_55 : decode cX4_compare 55 = .ok (.getfield 24, 3) := by decide +kernel
theorem dX4_compare_58 : decode cX4_compare 58 = .ok (.iload_n 1, 1) := by decide +kernel
theorem dX4_compare_59 : decode cX4_compare 59 = .ok (.iaload, 1) := by decide +kernel
theorem dX4_compare_60 : decode cX4_compare 60 = .ok (.aload_n 0, 1) := by decide +kernel
theorem dX4_compare_61 : decode cX4_compare 61 = .ok (.getfield 27, 3) := by decide +kernel
theorem dX4_compare_64 : decode cX4_compare 64 = .ok (.iload_n 1, 1) := by decide +kernel
theorem dX4_compare_65 : decode cX4_compare 65 = .ok (.iaload, 1) := by decide +kernel
theorem dX4_compare_66 : decode cX4_compare 66 = .ok (.if_icmp .ge 7, 3) := by decide +kernel
theorem dX4_compare_69 : decode cX4_compare 69 = .ok (.iconst (-1), 1) := by decide +kernel
theorem dX4_compare_70 : decode cX4_compare 70 = .ok (.goto 4, 3) := by decide +kernel
theorem dX4_compare_73 : decode cX4_compare 73 = .ok (.iconst 1, 1) := by decide +kernel
theorem dX4_compare_74 : decode cX4_compare 74 = .ok (.ireturn, 1) := by decide +kernel
theorem dX4_compare_75 : decode cX4_compare 75 = .ok (.iinc 1 (-1), 3) := by decide +kernel
theorem dX4_compare_78 : decode cX4_compare 78 = .ok (.goto (-43), 3) := by decide +kernel
theorem dX4_compare_81 : decode cX4_compare 81 = .ok (.iconst 0, 1) := by decide +kernel
theorem dX4_compare_82 : decode cX4_compare 82 = .ok (.ireturn, 1) := by decide +kernel
theorem dX4_grow_0 : decode cX4_grow 0 = .ok (.iconst 0, 1) := by decide +kernel
theorem dX4_grow_1 : decode cX4_grow 1 = .ok (.istore_n 1, 1) := by decide +kernel
theorem dX4_grow_2 : decode cX4_grow 2 = .ok (.aload_n 0, 1) := by decide +kernel
theorem dX4_grow_3 : decode cX4_grow 3 = .ok (.getfield 64, 3) := by decide +kernel
theorem dX4_grow_6 : decode cX4_grow 6 = .ok (.aload_n 0, 1) := by decide +kernel
theorem dX4_grow_7 : decode cX4_grow 7 = .ok (.getfield 67, 3) := by decide +kernel
theorem dX4_grow_10 : decode cX4_grow 10 = .ok (.if_icmp .le 10, 3) := by decide +kernel
theorem dX4_grow_13 : decode cX4_grow 13 = .ok (.aload_n 0, 1) := by decide +kernel
theorem dX4_grow_14 : decode cX4_grow 14 = .ok (.getfield 64, 3) := by decide +kernel
theorem dX4_grow_17 : decode cX4_grow 17 = .ok (.goto 7, 3) := by decide +kernel
theorem dX4_grow_20 : decode cX4_grow 20 = .ok (.aload_n 0, 1) := by decide +kernel
theorem dX4_grow_21 : decode cX4_grow 21 = .ok (.getfield 67, 3) := by decide +kernel
theorem dX4_grow_24 : decode cX4_grow 24 = .ok (.istore_n 2, 1) := by decide +kernel
theorem dX4_grow_25 : decode cX4_grow 25 = .ok (.iconst 0, 1) := by decide +kernel
theorem dX4_grow_26 : decode cX4_grow 26 = .ok (.istore_n 3, 1) := by decide +kernel
theorem dX4_grow_27 : decode cX4_grow 27 = .ok (.iload_n 3, 1) := by decide +kernel
theorem dX4_grow_28 : decode cX4_grow 28 = .ok (.iload_n 2, 1) := by decide +kernel
theorem dX4_grow_29 : decode cX4_grow 29 = .ok (.if_icmp .gt 43, 3) := by decide +kernel
theorem dX4_grow_32 : decode cX4_grow 32 = .ok (.aload_n 0, 1) := by decide +kernel
theorem dX4_grow_33 : decode cX4_grow 33 = .ok (.getfield 24, 3) := by decide +kernel
theorem dX4_grow_36 : decode cX4_grow 36 = .ok (.iload_n 3, 1) := by decide +kernel
theorem dX4_grow_37 : decode cX4_grow 37 = .ok (.iaload, 1) := by decide +kernel
theorem dX4_grow_38 : decode cX4_grow 38 = .ok (.aload_n 0, 1) := by decide +kernel
theorem dX4_grow_39 : decode cX4_grow 39 = .ok (.getfield 27, 3) := by decide +kernel
theorem dX4_grow_42 : decode cX4_grow 42 = .ok (.iload_n 3, 1) := by decide +kernel
theorem dX4_grow_43 : decode cX4_grow 43 = .ok (.iaload, 1) := by decide +kernel
theorem dX4_grow_44 : decode cX4_grow 44 = .ok (.iadd, 1) := by decide +kernel
theorem dX4_grow_45 : decode cX4_grow 45 = .ok (.iload_n 1, 1) := by decide +kernel
theorem dX4_grow_46 : decode cX4_grow 46 = .ok (.iadd, 1) := by decide +kernel
theorem dX4_grow_47 : decode cX4_grow 47 = .ok (.istore 4, 2) := by decide +kernel
theorem dX4_grow_49 : decode cX4_grow 49 = .ok (.aload_n 0, 1) := by decide +kernel
theorem dX4_grow_50 : decode cX4_grow 50 = .ok (.getfield 24, 3) := by decide +kernel
theorem dX4_grow_53 : decode cX4_grow 53 = .ok (.iload_n 3, 1) := by decide +kernel
theorem dX4_grow_54 : decode cX4_grow 54 = .ok (.iload 4, 2) := by decide +kernel
theorem dX4_grow_56 : decode cX4_grow 56 = .ok (.ldc 80, 2) := by decide +kernel
theorem dX4_grow_58 : decode cX4_grow 58 = .ok (.iand, 1) := by decide +kernel
theorem dX4_grow_59 : decode cX4_grow 59 = .ok (.iastore, 1) := by decide +kernel
theorem dX4_grow_60 : decode cX4_grow 60 = .ok (.iload 4, 2) := by decide +kernel
theorem dX4_grow_62 : decode cX4_grow 62 = .ok (.bipush 16, 2) := by decide +kernel
theorem dX4_grow_64 : decode cX4_grow 64 = .ok (.ishr, 1) := by decide +kernel
theorem dX4_grow_65 : decode cX4_grow 65 = .ok (.istore_n 1, 1) := by decide +kernel
theorem dX4_grow_66 : decode cX4_grow 66 = .ok (.iinc 3 1, 3) := by decide +kernel
theorem dX4_grow_69 : decode cX4_grow 69 = .ok (.goto (-42), 3) := by decide +kernel
theorem dX4_grow_72 : decode cX4_grow 72 = .ok (.aload_n 0, 1) := by decide +kernel
theorem dX4_grow_73 : decode cX4_grow 73 = .ok (.aload_n 0, 1) := by decide +kernel
theorem dX4_grow_74 : decode cX4_grow 74 = .ok (.getfield 24, 3) := by decide +kernel
theorem dX4_grow_77 : decode cX4_grow 77 = .ok (.iload_n 2, 1) := by decide +kernel
theorem dX4_grow_78 : decode cX4_grow 78 = .ok (.iconst 1, 1) := by decide +kernel
theorem dX4_grow_79 : decode cX4_grow 79 = .ok (.iadd, 1) := by decide +kernel
theorem dX4_grow_80 : decode cX4_grow 80 = .ok (.invokestatic 72, 3) := by decide +kernel
theorem dX4_grow_83 : decode cX4_grow 83 = .ok (.putfield 64, 3) := by decide +kernel
theorem dX4_grow_86 : decode cX4_grow 86 = .ok (.return_, 1) := by decide +kernel
theorem dX4_shrink_0 : decode cX4_shrink 0 = .ok (.iconst 0, 1) := by decide +kernel
theorem dX4_shrink_1 : decode cX4_shrink 1 = .ok (.istore_n 2, 1) := by decide +kernel
theorem dX4_shrink_2 : decode cX4_shrink 2 = .ok (.aload_n 0, 1) := by decide +kernel
theorem dX4_shrink_3 : decode cX4_shrink 3 = .ok (.getfield 64, 3) := by decide +kernel
theorem dX4_shrink_6 : decode cX4_shrink 6 = .ok (.aload_n 0, 1) := by decide +kernel
theorem dX4_shrink_7 : decode cX4_shrink 7 = .ok (.getfield 67, 3) := by decide +kernel
theorem dX4_shrink_10 : decode cX4_shrink 10 = .ok (.if_icmp .le 10, 3) := by decide +kernel
theorem dX4_shrink_13 : decode cX4_shrink 13 = .ok (.aload_n 0, 1) := by decide +kernel
theorem dX4_shrink_14 : decode cX4_shrink 14 = .ok (.getfield 64, 3) := by decide +kernel
theorem dX4_shrink_17 : decode cX4_shrink 17 = .ok (.goto 7, 3) := by decide +kernel
theorem dX4_shrink_20 : decode cX4_shrink 20 = .ok (.aload_n 0, 1) := by decide +kernel
theorem dX4_shrink_21 : decode cX4_shrink 21 = .ok (.getfield 67, 3) := by decide +kernel
theorem dX4_shrink_24 : decode cX4_shrink 24 = .ok (.istore_n 3, 1) := by decide +kernel
theorem dX4_shrink_25 : decode cX4_shrink 25 = .ok (.iconst 0, 1) := by decide +kernel
theorem dX4_shrink_26 : decode cX4_shrink 26 = .ok (.istore 4, 2) := by decide +kernel
theorem dX4_shrink_28 : decode cX4_shrink 28 = .ok (.iload 4, 2) := by decide +kernel
theorem dX4_shrink_30 : decode cX4_shrink 30 = .ok (.iload_n 3, 1) := by decide +kernel
theorem dX4_shrink_31 : decode cX4_shrink 31 = .ok (.if_icmp .ge 73, 3) := by decide +kernel
theorem dX4_shrink_34 : decode cX4_shrink 34 = .ok (.iload_n 1, 1) := by decide +kernel
theorem dX4_shrink_35 : decode cX4_shrink 35 = .ok (.ifCond .eq 21, 3) := by decide +kernel
theorem dX4_shrink_38 : decode cX4_shrink 38 = .ok (.aload_n 0, 1) := by decide +kernel
theorem dX4_shrink_39 : decode cX4_shrink 39 = .ok (.getfield 27, 3) := by decide +kernel
theorem dX4_shrink_42 : decode cX4_shrink 42 = .ok (.iload 4, 2) := by decide +kernel
theorem dX4_shrink_44 : decode cX4_shrink 44 = .ok (.iaload, 1) := by decide +kernel
theorem dX4_shrink_45 : decode cX4_shrink 45 = .ok (.aload_n 0, 1) := by decide +kernel
theorem dX4_shrink_46 : decode cX4_shrink 46 = .ok (.getfield 24, 3) := by decide +kernel
theorem dX4_shrink_49 : decode cX4_shrink 49 = .ok (.iload 4, 2) := by decide +kernel
theorem dX4_shrink_51 : decode cX4_shrink 51 = .ok (.iaload, 1) := by decide +kernel
theorem dX4_shrink_52 : decode cX4_shrink 52 = .ok (.isub, 1) := by decide +kernel
theorem dX4_shrink_53 : decode cX4_shrink 53 = .ok (.goto 18, 3) := by decide +kernel
theorem dX4_shrink_56 : decode cX4_shrink 56 = .ok (.aload_n 0, 1) := by decide +kernel
theorem dX4_shrink_57 : decode cX4_shrink 57 = .ok (.getfield 24, 3) := by decide +kernel
theorem dX4_shrink_60 : decode cX4_shrink 60 = .ok (.iload 4, 2) := by decide +kernel
theorem dX4_shrink_62 : decode cX4_shrink 62 = .ok (.iaload, 1) := by decide +kernel
theorem dX4_shrink_63 : decode cX4_shrink 63 = .ok (.aload_n 0, 1) := by decide +kernel
theorem dX4_shrink_64 : decode cX4_shrink 64 = .ok (.getfield 27, 3) := by decide +kernel
theorem dX4_shrink_67 : decode cX4_shrink 67 = .ok (.iload 4, 2) := by decide +kernel
theorem dX4_shrink_69 : decode cX4_shrink 69 = .ok (.iaload, 1) := by decide +kernel
theorem dX4_shrink_70 : decode cX4_shrink 70 = .ok (.isub, 1) := by decide +kernel
theorem dX4_shrink_71 : decode cX4_shrink 71 = .ok (.iload_n 2, 1) := by decide +kernel
theorem dX4_shrink_72 : decode cX4_shrink 72 = .ok (.isub, 1) := by decide +kernel
theorem dX4_shrink_73 : decode cX4_shrink 73 = .ok (.istore 5, 2) := by decide +kernel
theorem dX4_shrink_75 : decode cX4_shrink 75 = .ok (.aload_n 0, 1) := by decide +kernel
theorem dX4_shrink_76 : decode cX4_shrink 76 = .ok (.getfield 24, 3) := by decide +kernel
theorem dX4_shrink_79 : decode cX4_shrink 79 = .ok (.iload 4, 2) := by decide +kernel
theorem dX4_shrink_81 : decode cX4_shrink 81 = .ok (.iload 5, 2) := by decide +kernel
theorem dX4_shrink_83 : decode cX4_shrink 83 = .ok (.ldc 80, 2) := by decide +kernel
theorem dX4_shrink_85 : decode cX4_shrink 85 = .ok (.iand, 1) := by decide +kernel
theorem dX4_shrink_86 : decode cX4_shrink 86 = .ok (.iastore, 1) := by decide +kernel
theorem dX4_shrink_87 : decode cX4_shrink 87 = .ok (.iload 5, 2) := by decide +kernel
theorem dX4_shrink_89 : decode cX4_shrink 89 = .ok (.ifCond .ge 7, 3) := by decide +kernel
theorem dX4_shrink_92 : decode cX4_shrink 92 = .ok (.iconst 1, 1) := by decide +kernel
theorem dX4_shrink_93 : decode cX4_shrink 93 = .ok (.goto 4, 3) := by decide +kernel
theorem dX4_shrink_96 : decode cX4_shrink 96 = .ok (.iconst 0, 1) := by decide +kernel
theorem dX4_shrink_97 : decode cX4_shrink 97 = .ok (.istore_n 2, 1) := by decide +kernel
theorem dX4_shrink_98 : decode cX4_shrink 98 = .ok (.iinc 4 1, 3) := by decide +kernel
theorem dX4_shrink_101 : decode cX4_shrink 101 = .ok (.goto (-73), 3) := by decide +kernel
theorem dX4_shrink_104 : decode cX4_shrink 104 = .ok (.aload_n 0, 1) := by decide +kernel
theorem dX4_shrink_105 : decode cX4_shrink 105 = .ok (.aload_n 0, 1) := by decide +kernel
theorem dX4_shrink_106 : decode cX4_shrink 106 = .ok (.getfield 24, 3) := by decide +kernel
theorem dX4_shrink_109 : decode cX4_shrink 109 = .ok (.iload_n 3, 1) := by decide +kernel
theorem dX4_shrink_110 : decode cX4_shrink 110 = .ok (.invokestatic 72, 3) := by decide +kernel
theorem dX4_shrink_113 : decode cX4_shrink 113 = .ok (.putfield 64, 3) := by decide +kernel
theorem dX4_shrink_116 : decode cX4_shrink 116 = .ok (.return_, 1) := by decide +kernel
theorem dX4_multiply_0 : decode cX4_multiply 0 = .ok (.aload_n 0, 1) := by decide +kernel
theorem dX4_multiply_1 : decode cX4_multiply 1 = .ok (.aload_n 0, 1) := by decide +kernel
theorem dX4_multiply_2 : decode cX4_multiply 2 = .ok (.getfield 30, 3) := by decide +kernel
theorem dX4_multiply_5 : decode cX4_multiply 5 = .ok (.invokevirtual 60, 3) := by decide +kernel
theorem dX4_multiply_8 : decode cX4_multiply 8 = .ok (.iconst 0, 1) := by decide +kernel
theorem dX4_multiply_9 : decode cX4_multiply 9 = .ok (.istore_n 1, 1) := by decide +kernel
theorem dX4_multiply_10 : decode cX4_multiply 10 = .ok (.iload_n 1, 1) := by decide +kernel
theorem dX4_multiply_11 : decode cX4_multiply 11 = .ok (.aload_n 0, 1) := by decide +kernel
theorem dX4_multiply_12 : decode cX4_multiply 12 = .ok (.getfield 64, 3) := by decide +kernel
theorem dX4_multiply_15 : decode cX4_multiply 15 = .ok (.if_icmp .ge 95, 3) := by decide +kernel
theorem dX4_multiply_18 : decode cX4_multiply 18 = .ok (.iconst 0, 1) := by decide +kernel
theorem dX4_multiply_19 : decode cX4_multiply 19 = .ok (.istore_n 2, 1) := by decide +kernel
theorem dX4_multiply_20 : decode cX4_multiply 20 = .ok (.iconst 0, 1) := by decide +kernel
theorem dX4_multiply_21 : decode cX4_multiply 21 = .ok (.istore_n 3, 1) := by decide +kernel
theorem dX4_multiply_22 : decode cX4_multiply 22 = .ok (.iload_n 3, 1) := by decide +kernel
theorem dX4_multiply_23 : decode cX4_multiply 23 = .ok (.aload_n 0, 1) := by decide +kernel
theorem dX4_multiply_24 : decode cX4_multiply 24 = .ok (.getfield 67, 3) := by decide +kernel
theorem dX4_multiply_27 : decode cX4_multiply 27 = .ok (.if_icmp .lt 7, 3) := by decide +kernel
theorem dX4_multiply_30 : decode cX4_multiply 30 = .ok (.iload_n 2, 1) := by decide +kernel
theorem dX4_multiply_31 : decode cX4_multiply 31 = .ok (.ifCond .le 73, 3) := by decide +kernel
theorem dX4_multiply_34 : decode cX4_multiply 34 = .ok (.aload_n 0, 1) := by decide +kernel
theorem dX4_multiply_35 : decode cX4_multiply 35 = .ok (.getfield 24, 3) := by decide +kernel
theorem dX4_multiply_38 : decode cX4_multiply 38 = .ok (.iload_n 1, 1) := by decide +kernel
theorem dX4_multiply_39 : decode cX4_multiply 39 = .ok (.iaload, 1) := by decide +kernel
theorem dX4_multiply_40 : decode cX4_multiply 40 = .ok (.i2l, 1) := by decide +kernel
theorem dX4_multiply_41 : decode cX4_multiply 41 = .ok (.iload_n 3, 1) := by decide +kernel
theorem dX4_multiply_42 : decode cX4_multiply 42 = .ok (.aload_n 0, 1) := by decide +kernel
theorem dX4_multiply_43 : decode cX4_multiply 43 = .ok (.getfield 67, 3) := by decide +kernel
theorem dX4_multiply_46 : decode cX4_multiply 46 = .ok (.if_icmp .ge 12, 3) := by decide +kernel
theorem dX4_multiply_49 : decode cX4_multiply 49 = .ok (.aload_n 0, 1) := by decide +kernel
theorem dX4_multiply_50 : decode cX4_multiply 50 = .ok (.getfield 27, 3) := by decide +kernel
theorem dX4_multiply_53 : decode cX4_multiply 53 = .ok (.iload_n 3, 1) := by decide +kernel
theorem dX4_multiply_54 : decode cX4_multiply 54 = .ok (.iaload, 1) := by decide +kernel
theorem dX4_multiply_55 : decode cX4_multiply 55 = .ok (.goto 4, 3) := by decide +kernel
theorem dX4_multiply_58 : decode cX4_multiply 58 = .ok (.iconst 0, 1) := by decide +kernel
theorem dX4_multiply_59 : decode cX4_multiply 59 = .ok (.i2l, 1) := by decide +kernel
theorem dX4_multiply_60 : decode cX4_multiply 60 = .ok (.lmul, 1) := by decide +kernel
theorem dX4_multiply_61 : decode cX4_multiply 61 = .ok (.aload_n 0, 1) := by decide +kernel
theorem dX4_multiply_62 : decode cX4_multiply 62 = .ok (.getfield 30, 3) := by decide +kernel
theorem dX4_multiply_65 : decode cX4_multiply 65 = .ok (.iload_n 1, 1) := by decide +kernel
theorem dX4_multiply_66 : decode cX4_multiply 66 = .ok (.iload_n 3, 1) := by decide +kernel
theorem dX4_multiply_67 : decode cX4_multiply 67 = .ok (.iadd, 1) := by decide +kernel
theorem dX4_multiply_68 : decode cX4_multiply 68 = .ok (.iaload, 1) := by decide +kernel
theorem dX4_multiply_69 : decode cX4_multiply 69 = .ok (.i2l, 1) := by decide +kernel
theorem dX4_multiply_70 : decode cX4_multiply 70 = .ok (.ladd, 1) := by decide +kernel
theorem dX4_multiply_71 : decode cX4_multiply 71 = .ok (.iload_n 2, 1) := by decide +kernel
theorem dX4_multiply_72 : decode cX4_multiply 72 = .ok (.i2l, 1) := by decide +kernel
theorem dX4_multiply_73 : decode cX4_multiply 73 = .ok (.ladd, 1) := by decide +kernel
theorem dX4_multiply_74 : decode cX4_multiply 74 = .ok (.lstore 4, 2) := by decide +kernel
theorem dX4_multiply_76 : decode cX4_multiply 76 = .ok (.aload_n 0, 1) := by decide +kernel
theorem dX4_multiply_77 : decode cX4_multiply 77 = .ok (.getfield 30, 3) := by decide +kernel
theorem dX4_multiply_80 : decode cX4_multiply 80 = .ok (.iload_n 1, 1) := by decide +kernel
theorem dX4_multiply_81 : decode cX4_multiply 81 = .ok (.iload_n 3, 1) := by decide +kernel
theorem dX4_multiply_82 : decode cX4_multiply 82 = .ok (.iadd, 1) := by decide +kernel
theorem dX4_multiply_83 : decode cX4_multiply 83 = .ok (.lload 4, 2) := by decide +kernel
theorem dX4_multiply_85 : decode cX4_multiply 85 = .ok (.ldc2_w 70, 3) := by decide +kernel
theorem dX4_multiply_88 : decode cX4_multiply 88 = .ok (.land, 1) := by decide +kernel
theorem dX4_multiply_89 : decode cX4_multiply 89 = .ok (.l2i, 1) := by decide +kernel
theorem dX4_multiply_90 : decode cX4_multiply 90 = .ok (.iastore, 1) := by decide +kernel
theorem dX4_multiply_91 : decode cX4_multiply 91 = .ok (.lload 4, 2) := by decide +kernel
theorem dX4_multiply_93 : decode cX4_multiply 93 = .ok (.bipush 16, 2) := by decide +kernel
theorem dX4_multiply_95 : decode cX4_multiply 95 = .ok (.lshr, 1) := by decide +kernel
theorem dX4_multiply_96 : decode cX4_multiply 96 = .ok (.l2i, 1) := by decide +kernel
theorem dX4_multiply_97 : decode cX4_multiply 97 = .ok (.istore_n 2, 1) := by decide +kernel
theorem dX4_multiply_98 : decode cX4_multiply 98 = .ok (.iinc 3 1, 3) := by decide +kernel
theorem dX4_multiply_101 : decode cX4_multiply 101 = .ok (.goto (-79), 3) := by decide +kernel
theorem dX4_multiply_104 : decode cX4_multiply 104 = .ok (.iinc 1 1, 3) := by decide +kernel
theorem dX4_multiply_107 : decode cX4_multiply 107 = .ok (.goto (-97), 3) := by decide +kernel
theorem dX4_multiply_110 : decode cX4_multiply 110 = .ok (.iconst 0, 1) := by decide +kernel
theorem dX4_multiply_111 : decode cX4_multiply 111 = .ok (.istore_n 1, 1) := by decide +kernel
theorem dX4_multiply_112 : decode cX4_multiply 112 = .ok (.iload_n 1, 1) := by decide +kernel
theorem dX4_multiply_113 : decode cX4_multiply 113 = .ok (.sipush 220, 3) := by decide +kernel
theorem dX4_multiply_116 : decode cX4_multiply 116 = .ok (.if_icmp .ge 21, 3) := by decide +kernel
theorem dX4_multiply_119 : decode cX4_multiply 119 = .ok (.aload_n 0, 1) := by decide +kernel
theorem dX4_multiply_120 : decode cX4_multiply 120 = .ok (.getfield 24, 3) := by decide +kernel
theorem dX4_multiply_123 : decode cX4_multiply 123 = .ok (.iload_n 1, 1) := by decide +kernel
theorem dX4_multiply_124 : decode cX4_multiply 124 = .ok (.aload_n 0, 1) := by decide +kernel
theorem dX4_multiply_125 : decode cX4_multiply 125 = .ok (.getfield 30, 3) := by decide +kernel
theorem dX4_multiply_128 : decode cX4_multiply 128 = .ok (.iload_n 1, 1) := by decide +kernel
theorem dX4_multiply_129 : decode cX4_multiply 129 = .ok (.iaload, 1) := by decide +kernel
theorem dX4_multiply_130 : decode cX4_multiply 130 = .ok (.iastore, 1) := by decide +kernel
theorem dX4_multiply_131 : decode cX4_multiply 131 = .ok (.iinc 1 1, 3) := by decide +kernel
theorem dX4_multiply_134 : decode cX4_multiply 134 = .ok (.goto (-22), 3) := by decide +kernel
theorem dX4_multiply_137 : decode cX4_multiply 137 = .ok (.aload_n 0, 1) := by decide +kernel
theorem dX4_multiply_138 : decode cX4_multiply 138 = .ok (.aload_n 0, 1) := by decide +kernel
theorem dX4_multiply_139 : decode cX4_multiply 139 = .ok (.getfield 24, 3) := by decide +kernel
theorem dX4_multiply_142 : decode cX4_multiply 142 = .ok (.sipush 220, 3) := by decide +kernel
theorem dX4_multiply_145 : decode cX4_multiply 145 = .ok (.invokestatic 72, 3) := by decide +kernel
theorem dX4_multiply_148 : decode cX4_multiply 148 = .ok (.putfield 64, 3) := by decide +kernel
theorem dX4_multiply_151 : decode cX4_multiply 151 = .ok (.return_, 1) := by decide +kernel
theorem dX4_multiplyBy_0 : decode cX4_multiplyBy 0 = .ok (.iconst 0, 1) := by decide +kernel
theorem dX4_multiplyBy_1 : decode cX4_multiplyBy 1 = .ok (.istore_n 2, 1) := by decide +kernel
theorem dX4_multiplyBy_2 : decode cX4_multiplyBy 2 = .ok (.iconst 0, 1) := by decide +kernel
theorem dX4_multiplyBy_3 : decode cX4_multiplyBy 3 = .ok (.istore_n 3, 1) := by decide +kernel
theorem dX4_multiplyBy_4 : decode cX4_multiplyBy 4 = .ok (.iload_n 3, 1) := by decide +kernel
theorem dX4_multiplyBy_5 : decode cX4_multiplyBy 5 = .ok (.aload_n 0, 1) := by decide +kernel
theorem dX4_multiplyBy_6 : decode cX4_multiplyBy 6 = .ok (.getfield 64, 3) := by decide +kernel
theorem dX4_multiplyBy_9 : decode cX4_multiplyBy 9 = .ok (.iconst 1, 1) := by decide +kernel
theorem dX4_multiplyBy_10 : decode cX4_multiplyBy 10 = .ok (.iadd, 1) := by decide +kernel
theorem dX4_multiplyBy_11 : decode cX4_multiplyBy 11 = .ok (.if_icmp .ge 38, 3) := by decide +kernel
theorem dX4_multiplyBy_14 : decode cX4_multiplyBy 14 = .ok (.aload_n 0, 1) := by decide +kernel
theorem dX4_multiplyBy_15 : decode cX4_multiplyBy 15 = .ok (.getfield 24, 3) := by decide +kernel
theorem dX4_multiplyBy_18 : decode cX4_multiplyBy 18 = .ok (.iload_n 3, 1) := by decide +kernel
theorem dX4_multiplyBy_19 : decode cX4_multiplyBy 19 = .ok (.iaload, 1) := by decide +kernel
theorem dX4_multiplyBy_20 : decode cX4_multiplyBy 20 = .ok (.iload_n 1, 1) := by decide +kernel
theorem dX4_multiplyBy_21 : decode cX4_multiplyBy 21 = .ok (.imul, 1) := by decide +kernel
theorem dX4_multiplyBy_22 : decode cX4_multiplyBy 22 = .ok (.iload_n 2, 1) := by decide +kernel
theorem dX4_multiplyBy_23 : decode cX4_multiplyBy 23 = .ok (.iadd, 1) := by decide +kernel
theorem dX4_multiplyBy_24 : decode cX4_multiplyBy 24 = .ok (.istore 4, 2) := by decide +kernel
theorem dX4_multiplyBy_26 : decode cX4_multiplyBy 26 = .ok (.aload_n 0, 1) := by decide +kernel
theorem dX4_multiplyBy_27 : decode cX4_multiplyBy 27 = .ok (.getfield 24, 3) := by decide +kernel
theorem dX4_multiplyBy_30 : decode cX4_multiplyBy 30 = .ok (.iload_n 3, 1) := by decide +kernel
theorem dX4_multiplyBy_31 : decode cX4_multiplyBy 31 = .ok (.iload 4, 2) := by decide +kernel
theorem dX4_multiplyBy_33 : decode cX4_multiplyBy 33 = .ok (.ldc 80, 2) := by decide +kernel
theorem dX4_multiplyBy_35 : decode cX4_multiplyBy 35 = .ok (.iand, 1) := by decide +kernel
theorem dX4_multiplyBy_36 : decode cX4_multiplyBy 36 = .ok (.iastore, 1) := by decide +kernel
theorem dX4_multiplyBy_37 : decode cX4_multiplyBy 37 = .ok (.iload 4, 2) := by decide +kernel
theorem dX4_multiplyBy_39 : decode cX4_multiplyBy 39 = .ok (.bipush 16, 2) := by decide +kernel
theorem dX4_multiplyBy_41 : decode cX4_multiplyBy 41 = .ok (.iushr, 1) := by decide +kernel
theorem dX4_multiplyBy_42 : decode cX4_multiplyBy 42 = .ok (.istore_n 2, 1) := by decide +kernel
theorem dX4_multiplyBy_43 : decode cX4_multiplyBy 43 = .ok (.iinc 3 1, 3) := by decide +kernel
theorem dX4_multiplyBy_46 : decode cX4_multiplyBy 46 = .ok (.goto (-42), 3) := by decide +kernel
theorem dX4_multiplyBy_49 : decode cX4_multiplyBy 49 = .ok (.aload_n 0, 1) := by decide +kernel
theorem dX4_multiplyBy_50 : decode cX4_multiplyBy 50 = .ok (.aload_n 0, 1) := by decide +kernel
theorem dX4_multiplyBy_51 : decode cX4_multiplyBy 51 = .ok (.getfield 24, 3) := by decide +kernel
theorem dX4_multiplyBy_54 : decode cX4_multiplyBy 54 = .ok (.aload_n 0, 1) := by decide +kernel
theorem dX4_multiplyBy_55 : decode cX4_multiplyBy 55 = .ok (.getfield 64, 3) := by decide +kernel
theorem dX4_multiplyBy_58 : decode cX4_multiplyBy 58 = .ok (.iconst 1, 1) := by decide +kernel
theorem dX4_multiplyBy_59 : decode cX4_multiplyBy 59 = .ok (.iadd, 1) := by decide +kernel
theorem dX4_multiplyBy_60 : decode cX4_multiplyBy 60 = .ok (.invokestatic 72, 3) := by decide +kernel
theorem dX4_multiplyBy_63 : decode cX4_multiplyBy 63 = .ok (.putfield 64, 3) := by decide +kernel
theorem dX4_multiplyBy_66 : decode cX4_multiplyBy 66 = .ok (.return_, 1) := by decide +kernel
theorem dX4_divideBy_0 : decode cX4_divideBy 0 = .ok (.iconst 0, 1) := by decide +kernel
theorem dX4_divideBy_1 : decode cX4_divideBy 1 = .ok (.istore_n 2, 1) := by decide +kernel
theorem dX4_divideBy_2 : decode cX4_divideBy 2 = .ok (.aload_n 0, 1) := by decide +kernel
theorem dX4_divideBy_3 : decode cX4_divideBy 3 = .ok (.getfield 64, 3) := by decide +kernel
theorem dX4_divideBy_6 : decode cX4_divideBy 6 = .ok (.iconst 1, 1) := by decide +kernel
theorem dX4_divideBy_7 : decode cX4_divideBy 7 = .ok (.isub, 1) := by decide +kernel
theorem dX4_divideBy_8 : decode cX4_divideBy 8 = .ok (.istore_n 3, 1) := by decide +kernel
theorem dX4_divideBy_9 : decode cX4_divideBy 9 = .ok (.iload_n 3, 1) := by decide +kernel
theorem dX4_divideBy_10 : decode cX4_divideBy 10 = .ok (.ifCond .lt 37, 3) := by decide +kernel
theorem dX4_divideBy_13 : decode cX4_divideBy 13 = .ok (.iload_n 2, 1) := by decide +kernel
theorem dX4_divideBy_14 : decode cX4_divideBy 14 = .ok (.bipush 16, 2) := by decide +kernel
theorem dX4_divideBy_16 : decode cX4_divideBy 16 = .ok (.ishl, 1) := by decide +kernel
theorem dX4_divideBy_17 : decode cX4_divideBy 17 = .ok (.aload_n 0, 1) := by decide +kernel
theorem dX4_divideBy_18 : decode cX4_divideBy 18 = .ok (.getfield 24, 3) := by decide +kernel
theorem dX4_divideBy_21 : decode cX4_divideBy 21 = .ok (.iload_n 3, 1) := by decide +kernel
theorem dX4_divideBy_22 : decode cX4_divideBy 22 = .ok (.iaload, 1) := by decide +kernel
theorem dX4_divideBy_23 : decode cX4_divideBy 23 = .ok (.ior, 1) := by decide +kernel
theorem dX4_divideBy_24 : decode cX4_divideBy 24 = .ok (.istore 4, 2) := by decide +kernel
theorem dX4_divideBy_26 : decode cX4_divideBy 26 = .ok (.aload_n 0, 1) := by decide +kernel
theorem dX4_divideBy_27 : decode cX4_divideBy 27 = .ok (.getfield 24, 3) := by decide +kernel
theorem dX4_divideBy_30 : decode cX4_divideBy 30 = .ok (.iload_n 3, 1) := by decide +kernel
theorem dX4_divideBy_31 : decode cX4_divideBy 31 = .ok (.iload 4, 2) := by decide +kernel
theorem dX4_divideBy_33 : decode cX4_divideBy 33 = .ok (.iload_n 1, 1) := by decide +kernel
theorem dX4_divideBy_34 : decode cX4_divideBy 34 = .ok (.idiv, 1) := by decide +kernel
theorem dX4_divideBy_35 : decode cX4_divideBy 35 = .ok (.iastore, 1) := by decide +kernel
theorem dX4_divideBy_36 : decode cX4_divideBy 36 = .ok (.iload 4, 2) := by decide +kernel
theorem dX4_divideBy_38 : decode cX4_divideBy 38 = .ok (.iload_n 1, 1) := by decide +kernel
theorem dX4_divideBy_39 : decode cX4_divideBy 39 = .ok (.irem, 1) := by decide +kernel
theorem dX4_divideBy_40 : decode cX4_divideBy 40 = .ok (.istore_n 2, 1) := by decide +kernel
theorem dX4_divideBy_41 : decode cX4_divideBy 41 = .ok (.iinc 3 (-1), 3) := by decide +kernel
theorem dX4_divideBy_44 : decode cX4_divideBy 44 = .ok (.goto (-35), 3) := by decide +kernel
theorem dX4_divideBy_47 : decode cX4_divideBy 47 = .ok (.aload_n 0, 1) := by decide +kernel
theorem dX4_divideBy_48 : decode cX4_divideBy 48 = .ok (.aload_n 0, 1) := by decide +kernel
theorem dX4_divideBy_49 : decode cX4_divideBy 49 = .ok (.getfield 24, 3) := by decide +kernel
theorem dX4_divideBy_52 : decode cX4_divideBy 52 = .ok (.aload_n 0, 1) := by decide +kernel
theorem dX4_divideBy_53 : decode cX4_divideBy 53 = .ok (.getfield 64, 3) := by decide +kernel
theorem dX4_divideBy_56 : decode cX4_divideBy 56 = .ok (.invokestatic 72, 3) := by decide +kernel
theorem dX4_divideBy_59 : decode cX4_divideBy 59 = .ok (.putfield 64, 3) := by decide +kernel
theorem dX4_divideBy_62 : decode cX4_divideBy 62 = .ok (.iload_n 2, 1) := by decide +kernel
theorem dX4_divideBy_63 : decode cX4_divideBy 63 = .ok (.ireturn, 1) := by decide +kernel
theorem dX4_divide_0 : decode cX4_divide 0 = .ok (.aload_n 0, 1) := by decide +kernel
theorem dX4_divide_1 : decode cX4_divide 1 = .ok (.aload_n 0, 1) := by decide +kernel
theorem dX4_divide_2 : decode cX4_divide 2 = .ok (.getfield 30, 3) := by decide +kernel
theorem dX4_divide_5 : decode cX4_divide 5 = .ok (.invokevirtual 60, 3) := by decide +kernel
theorem dX4_divide_8 : decode cX4_divide 8 = .ok (.bipush 16, 2) := by decide +kernel
theorem dX4_divide_10 : decode cX4_divide 10 = .ok (.aload_n 0, 1) := by decide +kernel
theorem dX4_divide_11 : decode cX4_divide 11 = .ok (.getfield 64, 3) := by decide +kernel
theorem dX4_divide_14 : decode cX4_divide 14 = .ok (.imul, 1) := by decide +kernel
theorem dX4_divide_15 : decode cX4_divide 15 = .ok (.iconst 1, 1) := by decide +kernel
theorem dX4_divide_16 : decode cX4_divide 16 = .ok (.isub, 1) := by decide +kernel
theorem dX4_divide_17 : decode cX4_divide 17 = .ok (.istore_n 1, 1) := by decide +kernel
theorem dX4_divide_18 : decode cX4_divide 18 = .ok (.iload_n 1, 1) := by decide +kernel
theorem dX4_divide_19 : decode cX4_divide 19 = .ok (.ifCond .lt 187, 3) := by decide +kernel
theorem dX4_divide_22 : decode cX4_divide 22 = .ok (.aload_n 0, 1) := by decide +kernel
theorem dX4_divide_23 : decode cX4_divide 23 = .ok (.getfield 24, 3) := by decide +kernel
theorem dX4_divide_26 : decode cX4_divide 26 = .ok (.iload_n 1, 1) := by decide +kernel
theorem dX4_divide_27 : decode cX4_divide 27 = .ok (.bipush 16, 2) := by decide +kernel
theorem dX4_divide_29 : decode cX4_divide 29 = .ok (.idiv, 1) := by decide +kernel
theorem dX4_divide_30 : decode cX4_divide 30 = .ok (.iaload, 1) := by decide +kernel
theorem dX4_divide_31 : decode cX4_divide 31 = .ok (.iload_n 1, 1) := by decide +kernel
theorem dX4_divide_32 : decode cX4_divide 32 = .ok (.bipush 16, 2) := by decide +kernel
theorem dX4_divide_34 : decode cX4_divide 34 = .ok (.irem, 1) := by decide +kernel
theorem dX4_divide_35 : decode cX4_divide 35 = .ok (.ishr, 1) := by decide +kernel
theorem dX4_divide_36 : decode cX4_divide 36 = .ok (.iconst 1, 1) := by decide +kernel
theorem dX4_divide_37 : decode cX4_divide 37 = .ok (.iand, 1) := by decide +kernel
theorem dX4_divide_38 : decode cX4_divide 38 = .ok (.istore_n 2, 1) := by decide +kernel
theorem dX4_divide_39 : decode cX4_divide 39 = .ok (.iconst 0, 1) := by decide +kernel
theorem dX4_divide_40 : decode cX4_divide 40 = .ok (.istore_n 3, 1) := by decide +kernel
theorem dX4_divide_41 : decode cX4_divide 41 = .ok (.iload_n 3, 1) := by decide +kernel
theorem dX4_divide_42 : decode cX4_divide 42 = .ok (.aload_n 0, 1) := by decide +kernel
theorem dX4_divide_43 : decode cX4_divide 43 = .ok (.getfield 67, 3) := by decide +kernel
theorem dX4_divide_46 : decode cX4_divide 46 = .ok (.if_icmp .gt 38, 3) := by decide +kernel
theorem dX4_divide_49 : decode cX4_divide 49 = .ok (.iconst 2, 1) := by decide +kernel
theorem dX4_divide_50 : decode cX4_divide 50 = .ok (.aload_n 0, 1) := by decide +kernel
theorem dX4_divide_51 : decode cX4_divide 51 = .ok (.getfield 30, 3) := by decide +kernel
theorem dX4_divide_54 : decode cX4_divide 54 = .ok (.iload_n 3, 1) := by decide +kernel
theorem dX4_divide_55 : decode cX4_divide 55 = .ok (.iaload, 1) := by decide +kernel
theorem dX4_divide_56 : decode cX4_divide 56 = .ok (.imul, 1) := by decide +kernel
theorem dX4_divide_57 : decode cX4_divide 57 = .ok (.iload_n 2, 1) := by decide +kernel
theorem dX4_divide_58 : decode cX4_divide 58 = .ok (.iadd, 1) := by decide +kernel
theorem dX4_divide_59 : decode cX4_divide 59 = .ok (.istore 4, 2) := by decide +kernel
theorem dX4_divide_61 : decode cX4_divide 61 = .ok (.aload_n 0, 1) := by decide +kernel
theorem dX4_divide_62 : decode cX4_divide 62 = .ok (.getfield 30, 3) := by decide +kernel
theorem dX4_divide_65 : decode cX4_divide 65 = .ok (.iload_n 3, 1) := by decide +kernel
theorem dX4_divide_66 : decode cX4_divide 66 = .ok (.iload 4, 2) := by decide +kernel
theorem dX4_divide_68 : decode cX4_divide 68 = .ok (.ldc 80, 2) := by decide +kernel
theorem dX4_divide_70 : decode cX4_divide 70 = .ok (.iand, 1) := by decide +kernel
theorem dX4_divide_71 : decode cX4_divide 71 = .ok (.iastore, 1) := by decide +kernel
theorem dX4_divide_72 : decode cX4_divide 72 = .ok (.iload 4, 2) := by decide +kernel
theorem dX4_divide_74 : decode cX4_divide 74 = .ok (.bipush 16, 2) := by decide +kernel
theorem dX4_divide_76 : decode cX4_divide 76 = .ok (.ishr, 1) := by decide +kernel
theorem dX4_divide_77 : decode cX4_divide 77 = .ok (.istore_n 2, 1) := by decide +kernel
theorem dX4_divide_78 : decode cX4_divide 78 = .ok (.iinc 3 1, 3) := by decide +kernel
theorem dX4_divide_81 : decode cX4_divide 81 = .ok (.goto (-40), 3) := by decide +kernel
theorem dX4_divide_84 : decode cX4_divide 84 = .ok (.aload_n 0, 1) := by decide +kernel
theorem dX4_divide_85 : decode cX4_divide 85 = .ok (.invokevirtual 81, 3) := by decide +kernel
theorem dX4_divide_88 : decode cX4_divide 88 = .ok (.istore_n 3, 1) := by decide +kernel
theorem dX4_divide_89 : decode cX4_divide 89 = .ok (.iconst 0, 1) := by decide +kernel
theorem dX4_divide_90 : decode cX4_divide 90 = .ok (.istore 4, 2) := by decide +kernel
theorem dX4_divide_92 : decode cX4_divide 92 = .ok (.iconst 0, 1) := by decide +kernel
theorem dX4_divide_93 : decode cX4_divide 93 = .ok (.istore 5, 2) := by decide +kernel
theorem dX4_divide_95 : decode cX4_divide 95 = .ok (.iload 5, 2) := by decide +kernel
theorem dX4_divide_97 : decode cX4_divide 97 = .ok (.aload_n 0, 1) := by decide +kernel
theorem dX4_divide_98 : decode cX4_divide 98 = .ok (.getfield 67, 3) := by decide +kernel
theorem dX4_divide_101 : decode cX4_divide 101 = .ok (.if_icmp .gt 57, 3) := by decide +kernel
theorem dX4_divide_104 : decode cX4_divide 104 = .ok (.iload_n 3, 1) := by decide +kernel
theorem dX4_divide_105 : decode cX4_divide 105 = .ok (.ifCond .eq 53, 3) := by decide +kernel
theorem dX4_divide_108 : decode cX4_divide 108 = .ok (.aload_n 0, 1) := by decide +kernel
theorem dX4_divide_109 : decode cX4_divide 109 = .ok (.getfield 30, 3) := by decide +kernel
theorem dX4_divide_112 : decode cX4_divide 112 = .ok (.iload 5, 2) := by decide +kernel
theorem dX4_divide_114 : decode cX4_divide 114 = .ok (.iaload, 1) := by decide +kernel
theorem dX4_divide_115 : decode cX4_divide 115 = .ok (.aload_n 0, 1) := by decide +kernel
theorem dX4_divide_116 : decode cX4_divide 116 = .ok (.getfield 27, 3) := by decide +kernel
theorem dX4_divide_119 : decode cX4_divide 119 = .ok (.iload 5, 2) := by decide +kernel
theorem dX4_divide_121 : decode cX4_divide 121 = .ok (.iaload, 1) := by decide +kernel
theorem dX4_divide_122 : decode cX4_divide 122 = .ok (.isub, 1) := by decide +kernel
theorem dX4_divide_123 : decode cX4_divide 123 = .ok (.iload 4, 2) := by decide +kernel
theorem dX4_divide_125 : decode cX4_divide 125 = .ok (.isub, 1) := by decide +kernel
theorem dX4_divide_126 : decode cX4_divide 126 = .ok (.istore 6, 2) := by decide +kernel
theorem dX4_divide_128 : decode cX4_divide 128 = .ok (.aload_n 0, 1) := by decide +kernel
theorem dX4_divide_129 : decode cX4_divide 129 = .ok (.getfield 30, 3) := by decide +kernel
theorem dX4_divide_132 : decode cX4_divide 132 = .ok (.iload 5, 2) := by decide +kernel
theorem dX4_divide_134 : decode cX4_divide 134 = .ok (.iload 6, 2) := by decide +kernel
theorem dX4_divide_136 : decode cX4_divide 136 = .ok (.ldc 80, 2) := by decide +kernel
theorem dX4_divide_138 : decode cX4_divide 138 = .ok (.iand, 1) := by decide +kernel
theorem dX4_divide_139 : decode cX4_divide 139 = .ok (.iastore, 1) := by decide +kernel
theorem dX4_divide_140 : decode cX4_divide 140 = .ok (.iload 6, 2) := by decide +kernel
theorem dX4_divide_142 : decode cX4_divide 142 = .ok (.ifCond .ge 7, 3) := by decide +kernel
theorem dX4_divide_145 : decode cX4_divide 145 = .ok (.iconst 1, 1) := by decide +kernel
theorem dX4_divide_146 : decode cX4_divide 146 = .ok (.goto 4, 3) := by decide +kernel
theorem dX4_divide_149 : decode cX4_divide 149 = .ok (.iconst 0, 1) := by decide +kernel
theorem dX4_divide_150 : decode cX4_divide 150 = .ok (.istore 4, 2) := by decide +kernel
theorem dX4_divide_152 : decode cX4_divide 152 = .ok (.iinc 5 1, 3) := by decide +kernel
theorem dX4_divide_155 : decode cX4_divide 155 = .ok (.goto (-60), 3) := by decide +kernel
theorem dX4_divide_158 : decode cX4_divide 158 = .ok (.aload_n 0, 1) := by decide +kernel
theorem dX4_divide_159 : decode cX4_divide 159 = .ok (.getfield 24, 3) := by decide +kernel
theorem dX4_divide_162 : decode cX4_divide 162 = .ok (.iload_n 1, 1) := by decide +kernel
theorem dX4_divide_163 : decode cX4_divide 163 = .ok (.bipush 16, 2) := by decide +kernel
theorem dX4_divide_165 : decode cX4_divide 165 = .ok (.idiv, 1) := by decide +kernel
theorem dX4_divide_166 : decode cX4_divide 166 = .ok (.aload_n 0, 1) := by decide +kernel
theorem dX4_divide_167 : decode cX4_divide 167 = .ok (.getfield 24, 3) := by decide +kernel
theorem dX4_divide_170 : decode cX4_divide 170 = .ok (.iload_n 1, 1) := by decide +kernel
theorem dX4_divide_171 : decode cX4_divide 171 = .ok (.bipush 16, 2) := by decide +kernel
theorem dX4_divide_173 : decode cX4_divide 173 = .ok (.idiv, 1) := by decide +kernel
theorem dX4_divide_174 : decode cX4_divide 174 = .ok (.iaload, 1) := by decide +kernel
theorem dX4_divide_175 : decode cX4_divide 175 = .ok (.iconst 1, 1) := by decide +kernel
theorem dX4_divide_176 : decode cX4_divide 176 = .ok (.iload_n 1, 1) := by decide +kernel
theorem dX4_divide_177 : decode cX4_divide 177 = .ok (.bipush 16, 2) := by decide +kernel
theorem dX4_divide_179 : decode cX4_divide 179 = .ok (.irem, 1) := by decide +kernel
theorem dX4_divide_180 : decode cX4_divide 180 = .ok (.ishl, 1) := by decide +kernel
theorem dX4_divide_181 : decode cX4_divide 181 = .ok (.iconst (-1), 1) := by decide +kernel
theorem dX4_divide_182 : decode cX4_divide 182 = .ok (.ixor, 1) := by decide +kernel
theorem dX4_divide_183 : decode cX4_divide 183 = .ok (.iand, 1) := by decide +kernel
theorem dX4_divide_184 : decode cX4_divide 184 = .ok (.iload_n 3, 1) := by decide +kernel
theorem dX4_divide_185 : decode cX4_divide 185 = .ok (.ifCond .eq 12, 3) := by decide +kernel
theorem dX4_divide_188 : decode cX4_divide 188 = .ok (.iconst 1, 1) := by decide +kernel
theorem dX4_divide_189 : decode cX4_divide 189 = .ok (.iload_n 1, 1) := by decide +kernel
theorem dX4_divide_190 : decode cX4_divide 190 = .ok (.bipush 16, 2) := by decide +kernel
theorem dX4_divide_192 : decode cX4_divide 192 = .ok (.irem, 1) := by decide +kernel
theorem dX4_divide_193 : decode cX4_divide 193 = .ok (.ishl, 1) := by decide +kernel
theorem dX4_divide_194 : decode cX4_divide 194 = .ok (.goto 4, 3) := by decide +kernel
theorem dX4_divide_197 : decode cX4_divide 197 = .ok (.iconst 0, 1) := by decide +kernel
theorem dX4_divide_198 : decode cX4_divide 198 = .ok (.ior, 1) := by decide +kernel
theorem dX4_divide_199 : decode cX4_divide 199 = .ok (.iastore, 1) := by decide +kernel
theorem dX4_divide_200 : decode cX4_divide 200 = .ok (.iinc 1 (-1), 3) := by decide +kernel
theorem dX4_divide_203 : decode cX4_divide 203 = .ok (.goto (-185), 3) := by decide +kernel
theorem dX4_divide_206 : decode cX4_divide 206 = .ok (.aload_n 0, 1) := by decide +kernel
theorem dX4_divide_207 : decode cX4_divide 207 = .ok (.aload_n 0, 1) := by decide +kernel
theorem dX4_divide_208 : decode cX4_divide 208 = .ok (.getfield 24, 3) := by decide +kernel
theorem dX4_divide_211 : decode cX4_divide 211 = .ok (.aload_n 0, 1) := by decide +kernel
theorem dX4_divide_212 : decode cX4_divide 212 = .ok (.getfield 64, 3) := by decide +kernel
theorem dX4_divide_215 : decode cX4_divide 215 = .ok (.invokestatic 72, 3) := by decide +kernel
theorem dX4_divide_218 : decode cX4_divide 218 = .ok (.putfield 64, 3) := by decide +kernel
theorem dX4_divide_221 : decode cX4_divide 221 = .ok (.return_, 1) := by decide +kernel
theorem dX4_reaches_0 : decode cX4_reaches 0 = .ok (.aload_n 0, 1) := by decide +kernel
theorem dX4_reaches_1 : decode cX4_reaches 1 = .ok (.getfield 67, 3) := by decide +kernel
theorem dX4_reaches_4 : decode cX4_reaches 4 = .ok (.istore_n 1, 1) := by decide +kernel
theorem dX4_reaches_5 : decode cX4_reaches 5 = .ok (.iload_n 1, 1) := by decide +kernel
theorem dX4_reaches_6 : decode cX4_reaches 6 = .ok (.ifCond .lt 45, 3) := by decide +kernel
theorem dX4_reaches_9 : decode cX4_reaches 9 = .ok (.aload_n 0, 1) := by decide +kernel
theorem dX4_reaches_10 : decode cX4_reaches 10 = .ok (.getfield 30, 3) := by decide +kernel
theorem dX4_reaches_13 : decode cX4_reaches 13 = .ok (.iload_n 1, 1) := by decide +kernel
theorem dX4_reaches_14 : decode cX4_reaches 14 = .ok (.iaload, 1) := by decide +kernel
theorem dX4_reaches_15 : decode cX4_reaches 15 = .ok (.aload_n 0, 1) := by decide +kernel
theorem dX4_reaches_16 : decode cX4_reaches 16 = .ok (.getfield 27, 3) := by decide +kernel
theorem dX4_reaches_19 : decode cX4_reaches 19 = .ok (.iload_n 1, 1) := by decide +kernel
theorem dX4_reaches_20 : decode cX4_reaches 20 = .ok (.iaload, 1) := by decide +kernel
theorem dX4_reaches_21 : decode cX4_reaches 21 = .ok (.if_icmp .eq 24, 3) := by decide +kernel
theorem dX4_reaches_24 : decode cX4_reaches 24 = .ok (.aload_n 0, 1) := by decide +kernel
theorem dX4_reaches_25 : decode cX4_reaches 25 = .ok (.getfield 30, 3) := by decide +kernel
theorem dX4_reaches_28 : decode cX4_reaches 28 = .ok (.iload_n 1, 1) := by decide +kernel
theorem dX4_reaches_29 : decode cX4_reaches 29 = .ok (.iaload, 1) := by decide +kernel
theorem dX4_reaches_30 : decode cX4_reaches 30 = .ok (.aload_n 0, 1) := by decide +kernel
theorem dX4_reaches_31 : decode cX4_reaches 31 = .ok (.getfield 27, 3) := by decide +kernel
theorem dX4_reaches_34 : decode cX4_reaches 34 = .ok (.iload_n 1, 1) := by decide +kernel
theorem dX4_reaches_35 : decode cX4_reaches 35 = .ok (.iaload, 1) := by decide +kernel
theorem dX4_reaches_36 : decode cX4_reaches 36 = .ok (.if_icmp .le 7, 3) := by decide +kernel
theorem dX4_reaches_39 : decode cX4_reaches 39 = .ok (.iconst 1, 1) := by decide +kernel
theorem dX4_reaches_40 : decode cX4_reaches 40 = .ok (.goto 4, 3) := by decide +kernel
theorem dX4_reaches_43 : decode cX4_reaches 43 = .ok (.iconst 0, 1) := by decide +kernel
theorem dX4_reaches_44 : decode cX4_reaches 44 = .ok (.ireturn, 1) := by decide +kernel
theorem dX4_reaches_45 : decode cX4_reaches 45 = .ok (.iinc 1 (-1), 3) := by decide +kernel
theorem dX4_reaches_48 : decode cX4_reaches 48 = .ok (.goto (-43), 3) := by decide +kernel
theorem dX4_reaches_51 : decode cX4_reaches 51 = .ok (.iconst 1, 1) := by decide +kernel
theorem dX4_reaches_52 : decode cX4_reaches 52 = .ok (.ireturn, 1) := by decide +kernel
theorem dX4_value_0 : decode cX4_value 0 = .ok (.aload_n 0, 1) := by decide +kernel
theorem dX4_value_1 : decode cX4_value 1 = .ok (.iconst 0, 1) := by decide +kernel
theorem dX4_value_2 : decode cX4_value 2 = .ok (.putfield 49, 3) := by decide +kernel
theorem dX4_value_5 : decode cX4_value 5 = .ok (.aload_n 0, 1) := by decide +kernel
theorem dX4_value_6 : decode cX4_value 6 = .ok (.lload_n 1, 1) := by decide +kernel
theorem dX4_value_7 : decode cX4_value 7 = .ok (.invokevirtual 84, 3) := by decide +kernel
theorem dX4_value_10 : decode cX4_value 10 = .ok (.aload_n 0, 1) := by decide +kernel
theorem dX4_value_11 : decode cX4_value 11 = .ok (.lload_n 1, 1) := by decide +kernel
theorem dX4_value_12 : decode cX4_value 12 = .ok (.lconst 0, 1) := by decide +kernel
theorem dX4_value_13 : decode cX4_value 13 = .ok (.lcmp, 1) := by decide +kernel
theorem dX4_value_14 : decode cX4_value 14 = .ok (.ifCond .ge 7, 3) := by decide +kernel
theorem dX4_value_17 : decode cX4_value 17 = .ok (.iconst 1, 1) := by decide +kernel
theorem dX4_value_18 : decode cX4_value 18 = .ok (.goto 4, 3) := by decide +kernel
theorem dX4_value_21 : decode cX4_value 21 = .ok (.iconst 0, 1) := by decide +kernel
theorem dX4_value_22 : decode cX4_value 22 = .ok (.invokevirtual 88, 3) := by decide +kernel
theorem dX4_value_25 : decode cX4_value 25 = .ok (.ireturn, 1) := by decide +kernel
theorem dX4_add_0 : decode cX4_add 0 = .ok (.aload_n 0, 1) := by decide +kernel
theorem dX4_add_1 : decode cX4_add 1 = .ok (.iload_n 1, 1) := by decide +kernel
theorem dX4_add_2 : decode cX4_add 2 = .ok (.iload_n 2, 1) := by decide +kernel
theorem dX4_add_3 : decode cX4_add 3 = .ok (.invokevirtual 92, 3) := by decide +kernel
theorem dX4_add_6 : decode cX4_add 6 = .ok (.ifCond .ne 5, 3) := by decide +kernel
theorem dX4_add_9 : decode cX4_add 9 = .ok (.iconst 0, 1) := by decide +kernel
theorem dX4_add_10 : decode cX4_add 10 = .ok (.ireturn, 1) := by decide +kernel
theorem dX4_add_11 : decode cX4_add 11 = .ok (.aload_n 0, 1) := by decide +kernel
theorem dX4_add_12 : decode cX4_add 12 = .ok (.iload_n 1, 1) := by decide +kernel
theorem dX4_add_13 : decode cX4_add 13 = .ok (.invokevirtual 96, 3) := by decide +kernel
theorem dX4_add_16 : decode cX4_add 16 = .ok (.aload_n 0, 1) := by decide +kernel
theorem dX4_add_17 : decode cX4_add 17 = .ok (.iload_n 2, 1) := by decide +kernel
theorem dX4_add_18 : decode cX4_add 18 = .ok (.invokevirtual 100, 3) := by decide +kernel
theorem dX4_add_21 : decode cX4_add 21 = .ok (.aload_n 0, 1) := by decide +kernel
theorem dX4_add_22 : decode cX4_add 22 = .ok (.getfield 16, 3) := by decide +kernel
theorem dX4_add_25 : decode cX4_add 25 = .ok (.iload_n 1, 1) := by decide +kernel
theorem dX4_add_26 : decode cX4_add 26 = .ok (.baload, 1) := by decide +kernel
theorem dX4_add_27 : decode cX4_add 27 = .ok (.istore_n 3, 1) := by decide +kernel
theorem dX4_add_28 : decode cX4_add 28 = .ok (.aload_n 0, 1) := by decide +kernel
theorem dX4_add_29 : decode cX4_add 29 = .ok (.getfield 16, 3) := by decide +kernel
theorem dX4_add_32 : decode cX4_add 32 = .ok (.iload_n 1, 1) := by decide +kernel
theorem dX4_add_33 : decode cX4_add 33 = .ok (.baload, 1) := by decide +kernel
theorem dX4_add_34 : decode cX4_add 34 = .ok (.aload_n 0, 1) := by decide +kernel
theorem dX4_add_35 : decode cX4_add 35 = .ok (.getfield 16, 3) := by decide +kernel
theorem dX4_add_38 : decode cX4_add 38 = .ok (.iload_n 2, 1) := by decide +kernel
theorem dX4_add_39 : decode cX4_add 39 = .ok (.baload, 1) := by decide +kernel
theorem dX4_add_40 : decode cX4_add 40 = .ok (.if_icmp .ne 10, 3) := by decide +kernel
theorem dX4_add_43 : decode cX4_add 43 = .ok (.aload_n 0, 1) := by decide +kernel
theorem dX4_add_44 : decode cX4_add 44 = .ok (.invokevirtual 103, 3) := by decide +kernel
theorem dX4_add_47 : decode cX4_add 47 = .ok (.goto 44, 3) := by decide +kernel
theorem dX4_add_50 : decode cX4_add 50 = .ok (.aload_n 0, 1) := by decide +kernel
theorem dX4_add_51 : decode cX4_add 51 = .ok (.invokevirtual 106, 3) := by decide +kernel
theorem dX4_add_54 : decode cX4_add 54 = .ok (.ifCond .ge 7, 3) := by decide +kernel
theorem dX4_add_57 : decode cX4_add 57 = .ok (.iconst 1, 1) := by decide +kernel
theorem dX4_add_58 : decode cX4_add 58 = .ok (.goto 4, 3) := by decide +kernel
theorem dX4_add_61 : decode cX4_add 61 = .ok (.iconst 0, 1) := by decide +kernel
theorem dX4_add_62 : decode cX4_add 62 = .ok (.istore 4, 2) := by decide +kernel
theorem dX4_add_64 : decode cX4_add 64 = .ok (.iload 4, 2) := by decide +kernel
theorem dX4_add_66 : decode cX4_add 66 = .ok (.ifCond .eq 12, 3) := by decide +kernel
theorem dX4_add_69 : decode cX4_add 69 = .ok (.aload_n 0, 1) := by decide +kernel
theorem dX4_add_70 : decode cX4_add 70 = .ok (.getfield 16, 3) := by decide +kernel
theorem dX4_add_73 : decode cX4_add 73 = .ok (.iload_n 2, 1) := by decide +kernel
theorem dX4_add_74 : decode cX4_add 74 = .ok (.baload, 1) := by decide +kernel
theorem dX4_add_75 : decode cX4_add 75 = .ok (.goto 9, 3) := by decide +kernel
theorem dX4_add_78 : decode cX4_add 78 = .ok (.aload_n 0, 1) := by decide +kernel
theorem dX4_add_79 : decode cX4_add 79 = .ok (.getfield 16, 3) := by decide +kernel
theorem dX4_add_82 : decode cX4_add 82 = .ok (.iload_n 1, 1) := by decide +kernel
theorem dX4_add_83 : decode cX4_add 83 = .ok (.baload, 1) := by decide +kernel
theorem dX4_add_84 : decode cX4_add 84 = .ok (.istore_n 3, 1) := by decide +kernel
theorem dX4_add_85 : decode cX4_add 85 = .ok (.aload_n 0, 1) := by decide +kernel
theorem dX4_add_86 : decode cX4_add 86 = .ok (.iload 4, 2) := by decide +kernel
theorem dX4_add_88 : decode cX4_add 88 = .ok (.invokevirtual 110, 3) := by decide +kernel
theorem dX4_add_91 : decode cX4_add 91 = .ok (.aload_n 0, 1) := by decide +kernel
theorem dX4_add_92 : decode cX4_add 92 = .ok (.iload_n 3, 1) := by decide +kernel
theorem dX4_add_93 : decode cX4_add 93 = .ok (.invokevirtual 88, 3) := by decide +kernel
theorem dX4_add_96 : decode cX4_add 96 = .ok (.ireturn, 1) := by decide +kernel
theorem dX4_times_0 : decode cX4_times 0 = .ok (.aload_n 0, 1) := by decide +kernel
theorem dX4_times_1 : decode cX4_times 1 = .ok (.iload_n 1, 1) := by decide +kernel
theorem dX4_times_2 : decode cX4_times 2 = .ok (.iload_n 2, 1) := by decide +kernel
theorem dX4_times_3 : decode cX4_times 3 = .ok (.invokevirtual 92, 3) := by decide +kernel
theorem dX4_times_6 : decode cX4_times 6 = .ok (.ifCond .ne 5, 3) := by decide +kernel
theorem dX4_times_9 : decode cX4_times 9 = .ok (.iconst 0, 1) := by decide +kernel
theorem dX4_times_10 : decode cX4_times 10 = .ok (.ireturn, 1) := by decide +kernel
theorem dX4_times_11 : decode cX4_times 11 = .ok (.aload_n 0, 1) := by decide +kernel
theorem dX4_times_12 : decode cX4_times 12 = .ok (.iload_n 1, 1) := by decide +kernel
theorem dX4_times_13 : decode cX4_times 13 = .ok (.invokevirtual 96, 3) := by decide +kernel
theorem dX4_times_16 : decode cX4_times 16 = .ok (.aload_n 0, 1) := by decide +kernel
theorem dX4_times_17 : decode cX4_times 17 = .ok (.iload_n 2, 1) := by decide +kernel
theorem dX4_times_18 : decode cX4_times 18 = .ok (.invokevirtual 100, 3) := by decide +kernel
theorem dX4_times_21 : decode cX4_times 21 = .ok (.aload_n 0, 1) := by decide +kernel
theorem dX4_times_22 : decode cX4_times 22 = .ok (.invokevirtual 114, 3) := by decide +kernel
theorem dX4_times_25 : decode cX4_times 25 = .ok (.aload_n 0, 1) := by decide +kernel
theorem dX4_times_26 : decode cX4_times 26 = .ok (.aload_n 0, 1) := by decide +kernel
theorem dX4_times_27 : decode cX4_times 27 = .ok (.getfield 16, 3) := by decide +kernel
theorem dX4_times_30 : decode cX4_times 30 = .ok (.iload_n 1, 1) := by decide +kernel
theorem dX4_times_31 : decode cX4_times 31 = .ok (.baload, 1) := by decide +kernel
theorem dX4_times_32 : decode cX4_times 32 = .ok (.aload_n 0, 1) := by decide +kernel
theorem dX4_times_33 : decode cX4_times 33 = .ok (.getfield 16, 3) := by decide +kernel
theorem dX4_times_36 : decode cX4_times 36 = .ok (.iload_n 2, 1) := by decide +kernel
theorem dX4_times_37 : decode cX4_times 37 = .ok (.baload, 1) := by decide +kernel
theorem dX4_times_38 : decode cX4_times 38 = .ok (.if_icmp .eq 7, 3) := by decide +kernel
theorem dX4_times_41 : decode cX4_times 41 = .ok (.iconst 1, 1) := by decide +kernel
theorem dX4_times_42 : decode cX4_times 42 = .ok (.goto 4, 3) := by decide +kernel
theorem dX4_times_45 : decode cX4_times 45 = .ok (.iconst 0, 1) := by decide +kernel
theorem dX4_times_46 : decode cX4_times 46 = .ok (.invokevirtual 88, 3) := by decide +kernel
theorem dX4_times_49 : decode cX4_times 49 = .ok (.ireturn, 1) := by decide +kernel
theorem dX4_over_0 : decode cX4_over 0 = .ok (.aload_n 0, 1) := by decide +kernel
theorem dX4_over_1 : decode cX4_over 1 = .ok (.iload_n 1, 1) := by decide +kernel
theorem dX4_over_2 : decode cX4_over 2 = .ok (.iload_n 2, 1) := by decide +kernel
theorem dX4_over_3 : decode cX4_over 3 = .ok (.invokevirtual 92, 3) := by decide +kernel
theorem dX4_over_6 : decode cX4_over 6 = .ok (.ifCond .ne 5, 3) := by decide +kernel
theorem dX4_over_9 : decode cX4_over 9 = .ok (.iconst 0, 1) := by decide +kernel
theorem dX4_over_10 : decode cX4_over 10 = .ok (.ireturn, 1) := by decide +kernel
theorem dX4_over_11 : decode cX4_over 11 = .ok (.aload_n 0, 1) := by decide +kernel
theorem dX4_over_12 : decode cX4_over 12 = .ok (.aload_n 0, 1) := by decide +kernel
theorem dX4_over_13 : decode cX4_over 13 = .ok (.getfield 13, 3) := by decide +kernel
theorem dX4_over_16 : decode cX4_over 16 = .ok (.iload_n 2, 1) := by decide +kernel
theorem dX4_over_17 : decode cX4_over 17 = .ok (.iaload, 1) := by decide +kernel
theorem dX4_over_18 : decode cX4_over 18 = .ok (.ifCond .ne 7, 3) := by decide +kernel
theorem dX4_over_21 : decode cX4_over 21 = .ok (.iconst 2, 1) := by decide +kernel
theorem dX4_over_22 : decode cX4_over 22 = .ok (.goto 4, 3) := by decide +kernel
theorem dX4_over_25 : decode cX4_over 25 = .ok (.iconst 0, 1) := by decide +kernel
theorem dX4_over_26 : decode cX4_over 26 = .ok (.putfield 49, 3) := by decide +kernel
theorem dX4_over_29 : decode cX4_over 29 = .ok (.aload_n 0, 1) := by decide +kernel
theorem dX4_over_30 : decode cX4_over 30 = .ok (.getfield 49, 3) := by decide +kernel
theorem dX4_over_33 : decode cX4_over 33 = .ok (.ifCond .le 5, 3) := by decide +kernel
theorem dX4_over_36 : decode cX4_over 36 = .ok (.iconst 0, 1) := by decide +kernel
theorem dX4_over_37 : decode cX4_over 37 = .ok (.ireturn, 1) := by decide +kernel
theorem dX4_over_38 : decode cX4_over 38 = .ok (.aload_n 0, 1) := by decide +kernel
theorem dX4_over_39 : decode cX4_over 39 = .ok (.iload_n 1, 1) := by decide +kernel
theorem dX4_over_40 : decode cX4_over 40 = .ok (.invokevirtual 96, 3) := by decide +kernel
theorem dX4_over_43 : decode cX4_over 43 = .ok (.aload_n 0, 1) := by decide +kernel
theorem dX4_over_44 : decode cX4_over 44 = .ok (.iload_n 2, 1) := by decide +kernel
theorem dX4_over_45 : decode cX4_over 45 = .ok (.invokevirtual 100, 3) := by decide +kernel
theorem dX4_over_48 : decode cX4_over 48 = .ok (.aload_n 0, 1) := by decide +kernel
theorem dX4_over_49 : decode cX4_over 49 = .ok (.invokevirtual 117, 3) := by decide +kernel
theorem dX4_over_52 : decode cX4_over 52 = .ok (.aload_n 0, 1) := by decide +kernel
theorem dX4_over_53 : decode cX4_over 53 = .ok (.aload_n 0, 1) := by decide +kernel
theorem dX4_over_54 : decode cX4_over 54 = .ok (.getfield 16, 3) := by decide +kernel
theorem dX4_over_57 : decode cX4_over 57 = .ok (.iload_n 1, 1) := by decide +kernel
theorem dX4_over_58 : decode cX4_over 58 = .ok (.baload, 1) := by decide +kernel
theorem dX4_over_59 : decode cX4_over 59 = .ok (.aload_n 0, 1) := by decide +kernel
theorem dX4_over_60 : decode cX4_over 60 = .ok (.getfield 16, 3) := by decide +kernel
theorem dX4_over_63 : decode cX4_over 63 = .ok (.iload_n 2, 1) := by decide +kernel
theorem dX4_over_64 : decode cX4_over 64 = .ok (.baload, 1) := by decide +kernel
theorem dX4_over_65 : decode cX4_over 65 = .ok (.if_icmp .eq 7, 3) := by decide +kernel
theorem dX4_over_68 : decode cX4_over 68 = .ok (.iconst 1, 1) := by decide +kernel
theorem dX4_over_69 : decode cX4_over 69 = .ok (.goto 4, 3) := by decide +kernel
theorem dX4_over_72 : decode cX4_over 72 = .ok (.iconst 0, 1) := by decide +kernel
theorem dX4_over_73 : decode cX4_over 73 = .ok (.invokevirtual 88, 3) := by decide +kernel
theorem dX4_over_76 : decode cX4_over 76 = .ok (.ireturn, 1) := by decide +kernel
theorem dX4_power_0 : decode cX4_power 0 = .ok (.aload_n 0, 1) := by decide +kernel
theorem dX4_power_1 : decode cX4_power 1 = .ok (.iload_n 1, 1) := by decide +kernel
theorem dX4_power_2 : decode cX4_power 2 = .ok (.iload_n 1, 1) := by decide +kernel
theorem dX4_power_3 : decode cX4_power 3 = .ok (.invokevirtual 92, 3) := by decide +kernel
theorem dX4_power_6 : decode cX4_power 6 = .ok (.ifCond .ne 5, 3) := by decide +kernel
theorem dX4_power_9 : decode cX4_power 9 = .ok (.iconst 0, 1) := by decide +kernel
theorem dX4_power_10 : decode cX4_power 10 = .ok (.ireturn, 1) := by decide +kernel
theorem dX4_power_11 : decode cX4_power 11 = .ok (.iload_n 2, 1) := by decide +kernel
theorem dX4_power_12 : decode cX4_power 12 = .ok (.ifCond .lt 9, 3) := by decide +kernel
theorem dX4_power_15 : decode cX4_power 15 = .ok (.iload_n 2, 1) := by decide +kernel
theorem dX4_power_16 : decode cX4_power 16 = .ok (.ldc 120, 2) := by decide +kernel
theorem dX4_power_18 : decode cX4_power 18 = .ok (.if_icmp .le 5, 3) := by decide +kernel
theorem dX4_power_21 : decode cX4_power 21 = .ok (.iconst (-1), 1) := by decide +kernel
theorem dX4_power_22 : decode cX4_power 22 = .ok (.ireturn, 1) := by decide +kernel
theorem dX4_power_23 : decode cX4_power 23 = .ok (.aload_n 0, 1) := by decide +kernel
theorem dX4_power_24 : decode cX4_power 24 = .ok (.iload_n 1, 1) := by decide +kernel
theorem dX4_power_25 : decode cX4_power 25 = .ok (.invokevirtual 96, 3) := by decide +kernel
theorem dX4_power_28 : decode cX4_power 28 = .ok (.aload_n 0, 1) := by decide +kernel
theorem dX4_power_29 : decode cX4_power 29 = .ok (.getfield 13, 3) := by decide +kernel
theorem dX4_power_32 : decode cX4_power 32 = .ok (.iload_n 1, 1) := by decide +kernel
theorem dX4_power_33 : decode cX4_power 33 = .ok (.iaload, 1) := by decide +kernel
theorem dX4_power_34 : decode cX4_power 34 = .ok (.ifCond .eq 23, 3) := by decide +kernel
theorem dX4_power_37 : decode cX4_power 37 = .ok (.aload_n 0, 1) := by decide +kernel
theorem dX4_power_38 : decode cX4_power 38 = .ok (.getfield 13, 3) := by decide +kernel
theorem dX4_power_41 : decode cX4_power 41 = .ok (.iload_n 1, 1) := by decide +kernel
theorem dX4_power_42 : decode cX4_power 42 = .ok (.iaload, 1) := by decide +kernel
theorem dX4_power_43 : decode cX4_power 43 = .ok (.iconst 1, 1) := by decide +kernel
theorem dX4_power_44 : decode cX4_power 44 = .ok (.if_icmp .ne 17, 3) := by decide +kernel
theorem dX4_power_47 : decode cX4_power 47 = .ok (.aload_n 0, 1) := by decide +kernel
theorem dX4_power_48 : decode cX4_power 48 = .ok (.getfield 24, 3) := by decide +kernel
theorem dX4_power_51 : decode cX4_power 51 = .ok (.iconst 0, 1) := by decide +kernel
theorem dX4_power_52 : decode cX4_power 52 = .ok (.iaload, 1) := by decide +kernel
theorem dX4_power_53 : decode cX4_power 53 = .ok (.iconst 1, 1) := by decide +kernel
theorem dX4_power_54 : decode cX4_power 54 = .ok (.if_icmp .ne 7, 3) := by decide +kernel
theorem dX4_power_57 : decode cX4_power 57 = .ok (.iconst 1, 1) := by decide +kernel
theorem dX4_power_58 : decode cX4_power 58 = .ok (.goto 4, 3) := by decide +kernel
theorem dX4_power_61 : decode cX4_power 61 = .ok (.iconst 0, 1) := by decide +kernel
theorem dX4_power_62 : decode cX4_power 62 = .ok (.istore_n 3, 1) := by decide +kernel
theorem dX4_power_63 : decode cX4_power 63 = .ok (.iload_n 3, 1) := by decide +kernel
theorem dX4_power_64 : decode cX4_power 64 = .ok (.ifCond .ne 7, 3) := by decide +kernel
theorem dX4_power_67 : decode cX4_power 67 = .ok (.iload_n 2, 1) := by decide +kernel
theorem dX4_power_68 : decode cX4_power 68 = .ok (.ifCond .ne 38, 3) := by decide +kernel
theorem dX4_power_71 : decode cX4_power 71 = .ok (.iload_n 2, 1) := by decide +kernel
theorem dX4_power_72 : decode cX4_power 72 = .ok (.ifCond .ne 8, 3) := by decide +kernel
theorem dX4_power_75 : decode cX4_power 75 = .ok (.aload_n 0, 1) := by decide +kernel
theorem dX4_power_76 : decode cX4_power 76 = .ok (.lconst 1, 1) := by decide +kernel
theorem dX4_power_77 : decode cX4_power 77 = .ok (.invokevirtual 84, 3) := by decide +kernel
theorem dX4_power_80 : decode cX4_power 80 = .ok (.aload_n 0, 1) := by decide +kernel
theorem dX4_power_81 : decode cX4_power 81 = .ok (.aload_n 0, 1) := by decide +kernel
theorem dX4_power_82 : decode cX4_power 82 = .ok (.getfield 16, 3) := by decide +kernel
theorem dX4_power_85 : decode cX4_power 85 = .ok (.iload_n 1, 1) := by decide +kernel
theorem dX4_power_86 : decode cX4_power 86 = .ok (.baload, 1) := by decide +kernel
theorem dX4_power_87 : decode cX4_power 87 = .ok (.ifCond .eq 14, 3) := by decide +kernel
theorem dX4_power_90 : decode cX4_power 90 = .ok (.iload_n 2, 1) := by decide +kernel
theorem dX4_power_91 : decode cX4_power 91 = .ok (.iconst 2, 1) := by decide +kernel
theorem dX4_power_92 : decode cX4_power 92 = .ok (.irem, 1) := by decide +kernel
theorem dX4_power_93 : decode cX4_power 93 = .ok (.iconst 1, 1) := by decide +kernel
theorem dX4_power_94 : decode cX4_power 94 = .ok (.if_icmp .ne 7, 3) := by decide +kernel
theorem dX4_power_97 : decode cX4_power 97 = .ok (.iconst 1, 1) := by decide +kernel
theorem dX4_power_98 : decode cX4_power 98 = .ok (.goto 4, 3) := by decide +kernel
theorem dX4_power_101 : decode cX4_power 101 = .ok (.iconst 0, 1) := by decide +kernel
theorem dX4_power_102 : decode cX4_power 102 = .ok (.invokevirtual 88, 3) := by decide +kernel
theorem dX4_power_105 : decode cX4_power 105 = .ok (.ireturn, 1) := by decide +kernel
theorem dX4_power_106 : decode cX4_power 106 = .ok (.aload_n 0, 1) := by decide +kernel
theorem dX4_power_107 : decode cX4_power 107 = .ok (.iload_n 1, 1) := by decide +kernel
theorem dX4_power_108 : decode cX4_power 108 = .ok (.invokevirtual 100, 3) := by decide +kernel
theorem dX4_power_111 : decode cX4_power 111 = .ok (.iconst 1, 1) := by decide +kernel
theorem dX4_power_112 : decode cX4_power 112 = .ok (.istore 4, 2) := by decide +kernel
theorem dX4_power_114 : decode cX4_power 114 = .ok (.iload 4, 2) := by decide +kernel
theorem dX4_power_116 : decode cX4_power 116 = .ok (.iload_n 2, 1) := by decide +kernel
theorem dX4_power_117 : decode cX4_power 117 = .ok (.if_icmp .ge 20, 3) := by decide +kernel
theorem dX4_power_120 : decode cX4_power 120 = .ok (.aload_n 0, 1) := by decide +kernel
theorem dX4_power_121 : decode cX4_power 121 = .ok (.invokevirtual 76, 3) := by decide +kernel
theorem dX4_power_124 : decode cX4_power 124 = .ok (.ifCond .ne 13, 3) := by decide +kernel
theorem dX4_power_127 : decode cX4_power 127 = .ok (.aload_n 0, 1) := by decide +kernel
theorem dX4_power_128 : decode cX4_power 128 = .ok (.invokevirtual 114, 3) := by decide +kernel
theorem dX4_power_131 : decode cX4_power 131 = .ok (.iinc 4 1, 3) := by decide +kernel
theorem dX4_power_134 : decode cX4_power 134 = .ok (.goto (-20), 3) := by decide +kernel
theorem dX4_power_137 : decode cX4_power 137 = .ok (.aload_n 0, 1) := by decide +kernel
theorem dX4_power_138 : decode cX4_power 138 = .ok (.aload_n 0, 1) := by decide +kernel
theorem dX4_power_139 : decode cX4_power 139 = .ok (.getfield 16, 3) := by decide +kernel
theorem dX4_power_142 : decode cX4_power 142 = .ok (.iload_n 1, 1) := by decide +kernel
theorem dX4_power_143 : decode cX4_power 143 = .ok (.baload, 1) := by decide +kernel
theorem dX4_power_144 : decode cX4_power 144 = .ok (.ifCond .eq 14, 3) := by decide +kernel
theorem dX4_power_147 : decode cX4_power 147 = .ok (.iload_n 2, 1) := by decide +kernel
theorem dX4_power_148 : decode cX4_power 148 = .ok (.iconst 2, 1) := by decide +kernel
theorem dX4_power_149 : decode cX4_power 149 = .ok (.irem, 1) := by decide +kernel
theorem dX4_power_150 : decode cX4_power 150 = .ok (.iconst 1, 1) := by decide +kernel
theorem dX4_power_151 : decode cX4_power 151 = .ok (.if_icmp .ne 7, 3) := by decide +kernel
theorem dX4_power_154 : decode cX4_power 154 = .ok (.iconst 1, 1) := by decide +kernel
theorem dX4_power_155 : decode cX4_power 155 = .ok (.goto 4, 3) := by decide +kernel
theorem dX4_power_158 : decode cX4_power 158 = .ok (.iconst 0, 1) := by decide +kernel
theorem dX4_power_159 : decode cX4_power 159 = .ok (.invokevirtual 88, 3) := by decide +kernel
theorem dX4_power_162 : decode cX4_power 162 = .ok (.ireturn, 1) := by decide +kernel
theorem dX4_binomial_0 : decode cX4_binomial 0 = .ok (.aload_n 0, 1) := by decide +kernel
theorem dX4_binomial_1 : decode cX4_binomial 1 = .ok (.iconst 0, 1) := by decide +kernel
theorem dX4_binomial_2 : decode cX4_binomial 2 = .ok (.putfield 49, 3) := by decide +kernel
theorem dX4_binomial_5 : decode cX4_binomial 5 = .ok (.iload_n 1, 1) := by decide +kernel
theorem dX4_binomial_6 : decode cX4_binomial 6 = .ok (.ifCond .lt 10, 3) := by decide +kernel
theorem dX4_binomial_9 : decode cX4_binomial 9 = .ok (.iload_n 1, 1) := by decide +kernel
theorem dX4_binomial_10 : decode cX4_binomial 10 = .ok (.sipush 4000, 3) := by decide +kernel
theorem dX4_binomial_13 : decode cX4_binomial 13 = .ok (.if_icmp .le 5, 3) := by decide +kernel
theorem dX4_binomial_16 : decode cX4_binomial 16 = .ok (.iconst (-1), 1) := by decide +kernel
theorem dX4_binomial_17 : decode cX4_binomial 17 = .ok (.ireturn, 1) := by decide +kernel
theorem dX4_binomial_18 : decode cX4_binomial 18 = .ok (.aload_n 0, 1) := by decide +kernel
theorem dX4_binomial_19 : decode cX4_binomial 19 = .ok (.iload_n 2, 1) := by decide +kernel
theorem dX4_binomial_20 : decode cX4_binomial 20 = .ok (.ifCond .lt 8, 3) := by decide +kernel
theorem dX4_binomial_23 : decode cX4_binomial 23 = .ok (.iload_n 2, 1) := by decide +kernel
theorem dX4_binomial_24 : decode cX4_binomial 24 = .ok (.iload_n 1, 1) := by decide +kernel
theorem dX4_binomial_25 : decode cX4_binomial 25 = .ok (.if_icmp .le 7, 3) := by decide +kernel
theorem dX4_binomial_28 : decode cX4_binomial 28 = .ok (.lconst 0, 1) := by decide +kernel
theorem dX4_binomial_29 : decode cX4_binomial 29 = .ok (.goto 4, 3) := by decide +kernel
theorem dX4_binomial_32 : decode cX4_binomial 32 = .ok (.lconst 1, 1) := by decide +kernel
theorem dX4_binomial_33 : decode cX4_binomial 33 = .ok (.invokevirtual 84, 3) := by decide +kernel
theorem dX4_binomial_36 : decode cX4_binomial 36 = .ok (.iload_n 2, 1) := by decide +kernel
theorem dX4_binomial_37 : decode cX4_binomial 37 = .ok (.iload_n 1, 1) := by decide +kernel
theorem dX4_binomial_38 : decode cX4_binomial 38 = .ok (.iload_n 2, 1) := by decide +kernel
theorem dX4_binomial_39 : decode cX4_binomial 39 = .ok (.isub, 1) := by decide +kernel
theorem dX4_binomial_40 : decode cX4_binomial 40 = .ok (.if_icmp .ge 7, 3) := by decide +kernel
theorem dX4_binomial_43 : decode cX4_binomial 43 = .ok (.iload_n 2, 1) := by decide +kernel
theorem dX4_binomial_44 : decode cX4_binomial 44 = .ok (.goto 6, 3) := by decide +kernel
theorem dX4_binomial_47 : decode cX4_binomial 47 = .ok (.iload_n 1, 1) := by decide +kernel
theorem dX4_binomial_48 : decode cX4_binomial 48 = .ok (.iload_n 2, 1) := by decide +kernel
theorem dX4_binomial_49 : decode cX4_binomial 49 = .ok (.isub, 1) := by decide +kernel
theorem dX4_binomial_50 : decode cX4_binomial 50 = .ok (.istore_n 3, 1) := by decide +kernel
theorem dX4_binomial_51 : decode cX4_binomial 51 = .ok (.iconst 1, 1) := by decide +kernel
theorem dX4_binomial_52 : decode cX4_binomial 52 = .ok (.istore 4, 2) := by decide +kernel
theorem dX4_binomial_54 : decode cX4_binomial 54 = .ok (.iload 4, 2) := by decide +kernel
theorem dX4_binomial_56 : decode cX4_binomial 56 = .ok (.iload_n 3, 1) := by decide +kernel
theorem dX4_binomial_57 : decode cX4_binomial 57 = .ok (.if_icmp .gt 44, 3) := by decide +kernel
theorem dX4_binomial_60 : decode cX4_binomial 60 = .ok (.aload_n 0, 1) := by decide +kernel
theorem dX4_binomial_61 : decode cX4_binomial 61 = .ok (.getfield 64, 3) := by decide +kernel
theorem dX4_binomial_64 : decode cX4_binomial 64 = .ok (.ifCond .le 37, 3) := by decide +kernel
theorem dX4_binomial_67 : decode cX4_binomial 67 = .ok (.aload_n 0, 1) := by decide +kernel
theorem dX4_binomial_68 : decode cX4_binomial 68 = .ok (.invokevirtual 76, 3) := by decide +kernel
theorem dX4_binomial_71 : decode cX4_binomial 71 = .ok (.ifCond .ne 30, 3) := by decide +kernel
theorem dX4_binomial_74 : decode cX4_binomial 74 = .ok (.aload_n 0, 1) := by decide +kernel
theorem dX4_binomial_75 : decode cX4_binomial 75 = .ok (.iload_n 1, 1) := by decide +kernel
theorem dX4_binomial_76 : decode cX4_binomial 76 = .ok (.iload_n 3, 1) := by decide +kernel
theorem dX4_binomial_77 : decode cX4_binomial 77 = .ok (.isub, 1) := by decide +kernel
theorem dX4_binomial_78 : decode cX4_binomial 78 = .ok (.iload 4, 2) := by decide +kernel
theorem dX4_binomial_80 : decode cX4_binomial 80 = .ok (.iadd, 1) := by decide +kernel
theorem dX4_binomial_81 : decode cX4_binomial 81 = .ok (.invokevirtual 121, 3) := by decide +kernel
theorem dX4_binomial_84 : decode cX4_binomial 84 = .ok (.aload_n 0, 1) := by decide +kernel
theorem dX4_binomial_85 : decode cX4_binomial 85 = .ok (.iload 4, 2) := by decide +kernel
theorem dX4_binomial_87 : decode cX4_binomial 87 = .ok (.invokevirtual 124, 3) := by decide +kernel
theorem dX4_binomial_90 : decode cX4_binomial 90 = .ok (.ifCond .eq 5, 3) := by decide +kernel
theorem dX4_binomial_93 : decode cX4_binomial 93 = .ok (.iconst (-1), 1) := by decide +kernel
theorem dX4_binomial_94 : decode cX4_binomial 94 = .ok (.ireturn, 1) := by decide +kernel
theorem dX4_binomial_95 : decode cX4_binomial 95 = .ok (.iinc 4 1, 3) := by decide +kernel
theorem dX4_binomial_98 : decode cX4_binomial 98 = .ok (.goto (-44), 3) := by decide +kernel
theorem dX4_binomial_101 : decode cX4_binomial 101 = .ok (.aload_n 0, 1) := by decide +kernel
theorem dX4_binomial_102 : decode cX4_binomial 102 = .ok (.iconst 0, 1) := by decide +kernel
theorem dX4_binomial_103 : decode cX4_binomial 103 = .ok (.invokevirtual 88, 3) := by decide +kernel
theorem dX4_binomial_106 : decode cX4_binomial 106 = .ok (.ireturn, 1) := by decide +kernel
theorem dX4_factorial_0 : decode cX4_factorial 0 = .ok (.aload_n 0, 1) := by decide +kernel
theorem dX4_factorial_1 : decode cX4_factorial 1 = .ok (.iconst 0, 1) := by decide +kernel
theorem dX4_factorial_2 : decode cX4_factorial 2 = .ok (.putfield 49, 3) := by decide +kernel
theorem dX4_factorial_5 : decode cX4_factorial 5 = .ok (.iload_n 1, 1) := by decide +kernel
theorem dX4_factorial_6 : decode cX4_factorial 6 = .ok (.ifCond .ge 5, 3) := by decide +kernel
theorem dX4_factorial_9 : decode cX4_factorial 9 = .ok (.iconst (-1), 1) := by decide +kernel
theorem dX4_factorial_10 : decode cX4_factorial 10 = .ok (.ireturn, 1) := by decide +kernel
theorem dX4_factorial_11 : decode cX4_factorial 11 = .ok (.aload_n 0, 1) := by decide +kernel
theorem dX4_factorial_12 : decode cX4_factorial 12 = .ok (.lconst 1, 1) := by decide +kernel
theorem dX4_factorial_13 : decode cX4_factorial 13 = .ok (.invokevirtual 84, 3) := by decide +kernel
theorem dX4_factorial_16 : decode cX4_factorial 16 = .ok (.iconst 2, 1) := by decide +kernel
theorem dX4_factorial_17 : decode cX4_factorial 17 = .ok (.istore_n 2, 1) := by decide +kernel
theorem dX4_factorial_18 : decode cX4_factorial 18 = .ok (.iload_n 2, 1) := by decide +kernel
theorem dX4_factorial_19 : decode cX4_factorial 19 = .ok (.iload_n 1, 1) := by decide +kernel
theorem dX4_factorial_20 : decode cX4_factorial 20 = .ok (.if_icmp .gt 21, 3) := by decide +kernel
theorem dX4_factorial_23 : decode cX4_factorial 23 = .ok (.aload_n 0, 1) := by decide +kernel
theorem dX4_factorial_24 : decode cX4_factorial 24 = .ok (.invokevirtual 76, 3) := by decide +kernel
theorem dX4_factorial_27 : decode cX4_factorial 27 = .ok (.ifCond .ne 14, 3) := by decide +kernel
theorem dX4_factorial_30 : decode cX4_factorial 30 = .ok (.aload_n 0, 1) := by decide +kernel
theorem dX4_factorial_31 : decode cX4_factorial 31 = .ok (.iload_n 2, 1) := by decide +kernel
theorem dX4_factorial_32 : decode cX4_factorial 32 = .ok (.invokevirtual 121, 3) := by decide +kernel
theorem dX4_factorial_35 : decode cX4_factorial 35 = .ok (.iinc 2 1, 3) := by decide +kernel
theorem dX4_factorial_38 : decode cX4_factorial 38 = .ok (.goto (-20), 3) := by decide +kernel
theorem dX4_factorial_41 : decode cX4_factorial 41 = .ok (.aload_n 0, 1) := by decide +kernel
theorem dX4_factorial_42 : decode cX4_factorial 42 = .ok (.iconst 0, 1) := by decide +kernel
theorem dX4_factorial_43 : decode cX4_factorial 43 = .ok (.invokevirtual 88, 3) := by decide +kernel
theorem dX4_factorial_46 : decode cX4_factorial 46 = .ok (.ireturn, 1) := by decide +kernel
theorem dX4_order_0 : decode cX4_order 0 = .ok (.aload_n 0, 1) := by decide +kernel
theorem dX4_order_1 : decode cX4_order 1 = .ok (.iload_n 1, 1) := by decide +kernel
theorem dX4_order_2 : decode cX4_order 2 = .ok (.iload_n 2, 1) := by decide +kernel
theorem dX4_order_3 : decode cX4_order 3 = .ok (.invokevirtual 92, 3) := by decide +kernel
theorem dX4_order_6 : decode cX4_order 6 = .ok (.ifCond .ne 5, 3) := by decide +kernel
theorem dX4_order_9 : decode cX4_order 9 = .ok (.iconst 0, 1) := by decide +kernel
theorem dX4_order_10 : decode cX4_order 10 = .ok (.ireturn, 1) := by decide +kernel
theorem dX4_order_11 : decode cX4_order 11 = .ok (.aload_n 0, 1) := by decide +kernel
theorem dX4_order_12 : decode cX4_order 12 = .ok (.getfield 16, 3) := by decide +kernel
theorem dX4_order_15 : decode cX4_order 15 = .ok (.iload_n 1, 1) := by decide +kernel
theorem dX4_order_16 : decode cX4_order 16 = .ok (.baload, 1) := by decide +kernel
theorem dX4_order_17 : decode cX4_order 17 = .ok (.aload_n 0, 1) := by decide +kernel
theorem dX4_order_18 : decode cX4_order 18 = .ok (.getfield 16, 3) := by decide +kernel
theorem dX4_order_21 : decode cX4_order 21 = .ok (.iload_n 2, 1) := by decide +kernel
theorem dX4_order_22 : decode cX4_order 22 = .ok (.baload, 1) := by decide +kernel
theorem dX4_order_23 : decode cX4_order 23 = .ok (.if_icmp .eq 18, 3) := by decide +kernel
theorem dX4_order_26 : decode cX4_order 26 = .ok (.aload_n 0, 1) := by decide +kernel
theorem dX4_order_27 : decode cX4_order 27 = .ok (.getfield 16, 3) := by decide +kernel
theorem dX4_order_30 : decode cX4_order 30 = .ok (.iload_n 1, 1) := by decide +kernel
theorem dX4_order_31 : decode cX4_order 31 = .ok (.baload, 1) := by decide +kernel
theorem dX4_order_32 : decode cX4_order 32 = .ok (.ifCond .eq 7, 3) := by decide +kernel
theorem dX4_order_35 : decode cX4_order 35 = .ok (.iconst (-1), 1) := by decide +kernel
theorem dX4_order_36 : decode cX4_order 36 = .ok (.goto 4, 3) := by decide +kernel
theorem dX4_order_39 : decode cX4_order 39 = .ok (.iconst 1, 1) := by decide +kernel
theorem dX4_order_40 : decode cX4_order 40 = .ok (.ireturn, 1) := by decide +kernel
theorem dX4_order_41 : decode cX4_order 41 = .ok (.aload_n 0, 1) := by decide +kernel
theorem dX4_order_42 : decode cX4_order 42 = .ok (.iload_n 1, 1) := by decide +kernel
theorem dX4_order_43 : decode cX4_order 43 = .ok (.invokevirtual 96, 3) := by decide +kernel
theorem dX4_order_46 : decode cX4_order 46 = .ok (.aload_n 0, 1) := by decide +kernel
theorem dX4_order_47 : decode cX4_order 47 = .ok (.iload_n 2, 1) := by decide +kernel
theorem dX4_order_48 : decode cX4_order 48 = .ok (.invokevirtual 100, 3) := by decide +kernel
theorem dX4_order_51 : decode cX4_order 51 = .ok (.aload_n 0, 1) := by decide +kernel
theorem dX4_order_52 : decode cX4_order 52 = .ok (.getfield 16, 3) := by decide +kernel
theorem dX4_order_55 : decode cX4_order 55 = .ok (.iload_n 1, 1) := by decide +kernel
theorem dX4_order_56 : decode cX4_order 56 = .ok (.baload, 1) := by decide +kernel
theorem dX4_order_57 : decode cX4_order 57 = .ok (.ifCond .eq 11, 3) := by decide +kernel
theorem dX4_order_60 : decode cX4_order 60 = .ok (.aload_n 0, 1) := by decide +kernel
theorem dX4_order_61 : decode cX4_order 61 = .ok (.invokevirtual 106, 3) := by decide +kernel
theorem dX4_order_64 : decode cX4_order 64 = .ok (.ineg, 1) := by decide +kernel
theorem dX4_order_65 : decode cX4_order 65 = .ok (.goto 7, 3) := by decide +kernel
theorem dX4_order_68 : decode cX4_order 68 = .ok (.aload_n 0, 1) := by decide +kernel
theorem dX4_order_69 : decode cX4_order 69 = .ok (.invokevirtual 106, 3) := by decide +kernel
theorem dX4_order_72 : decode cX4_order 72 = .ok (.ireturn, 1) := by decide +kernel
theorem dX4_digit_0 : decode cX4_digit 0 = .ok (.aload_n 0, 1) := by decide +kernel
theorem dX4_digit_1 : decode cX4_digit 1 = .ok (.iload_n 1, 1) := by decide +kernel
theorem dX4_digit_2 : decode cX4_digit 2 = .ok (.iload_n 1, 1) := by decide +kernel
theorem dX4_digit_3 : decode cX4_digit 3 = .ok (.invokevirtual 92, 3) := by decide +kernel
theorem dX4_digit_6 : decode cX4_digit 6 = .ok (.ifCond .ne 5, 3) := by decide +kernel
theorem dX4_digit_9 : decode cX4_digit 9 = .ok (.iconst 0, 1) := by decide +kernel
theorem dX4_digit_10 : decode cX4_digit 10 = .ok (.ireturn, 1) := by decide +kernel
theorem dX4_digit_11 : decode cX4_digit 11 = .ok (.aload_n 0, 1) := by decide +kernel
theorem dX4_digit_12 : decode cX4_digit 12 = .ok (.iload_n 1, 1) := by decide +kernel
theorem dX4_digit_13 : decode cX4_digit 13 = .ok (.invokevirtual 96, 3) := by decide +kernel
theorem dX4_digit_16 : decode cX4_digit 16 = .ok (.aload_n 0, 1) := by decide +kernel
theorem dX4_digit_17 : decode cX4_digit 17 = .ok (.bipush 10, 2) := by decide +kernel
theorem dX4_digit_19 : decode cX4_digit 19 = .ok (.invokevirtual 124, 3) := by decide +kernel
theorem dX4_digit_22 : decode cX4_digit 22 = .ok (.istore_n 3, 1) := by decide +kernel
theorem dX4_digit_23 : decode cX4_digit 23 = .ok (.iconst 0, 1) := by decide +kernel
theorem dX4_digit_24 : decode cX4_digit 24 = .ok (.istore 4, 2) := by decide +kernel
theorem dX4_digit_26 : decode cX4_digit 26 = .ok (.iload 4, 2) := by decide +kernel
theorem dX4_digit_28 : decode cX4_digit 28 = .ok (.iload_n 2, 1) := by decide +kernel
theorem dX4_digit_29 : decode cX4_digit 29 = .ok (.if_icmp .ge 33, 3) := by decide +kernel
theorem dX4_digit_32 : decode cX4_digit 32 = .ok (.aload_n 0, 1) := by decide +kernel
theorem dX4_digit_33 : decode cX4_digit 33 = .ok (.getfield 64, 3) := by decide +kernel
theorem dX4_digit_36 : decode cX4_digit 36 = .ok (.ifCond .le 26, 3) := by decide +kernel
theorem dX4_digit_39 : decode cX4_digit 39 = .ok (.aload_n 0, 1) := by decide +kernel
theorem dX4_digit_40 : decode cX4_digit 40 = .ok (.bipush 10, 2) := by decide +kernel
theorem dX4_digit_42 : decode cX4_digit 42 = .ok (.invokevirtual 124, 3) := by decide +kernel
theorem dX4_digit_45 : decode cX4_digit 45 = .ok (.istore_n 3, 1) := by decide +kernel
theorem dX4_digit_46 : decode cX4_digit 46 = .ok (.iload 4, 2) := by decide +kernel
theorem dX4_digit_48 : decode cX4_digit 48 = .ok (.iload_n 2, 1) := by decide +kernel
theorem dX4_digit_49 : decode cX4_digit 49 = .ok (.iconst 1, 1) := by decide +kernel
theorem dX4_digit_50 : decode cX4_digit 50 = .ok (.isub, 1) := by decide +kernel
theorem dX4_digit_51 : decode cX4_digit 51 = .ok (.if_icmp .ne 5, 3) := by decide +kernel
theorem dX4_digit_54 : decode cX4_digit 54 = .ok (.iload_n 3, 1) := by decide +kernel
theorem dX4_digit_55 : decode cX4_digit 55 = .ok (.ireturn, 1) := by decide +kernel
theorem dX4_digit_56 : decode cX4_digit 56 = .ok (.iinc 4 1, 3) := by decide +kernel
theorem dX4_digit_59 : decode cX4_digit 59 = .ok (.goto (-33), 3) := by decide +kernel
theorem dX4_digit_62 : decode cX4_digit 62 = .ok (.aload_n 0, 1) := by decide +kernel
theorem dX4_digit_63 : decode cX4_digit 63 = .ok (.iload_n 2, 1) := by decide +kernel
theorem dX4_digit_64 : decode cX4_digit 64 = .ok (.ifCond .ne 7, 3) := by decide +kernel
theorem dX4_digit_67 : decode cX4_digit 67 = .ok (.iconst 0, 1) := by decide +kernel
theorem dX4_digit_68 : decode cX4_digit 68 = .ok (.goto 4, 3) := by decide +kernel
theorem dX4_digit_71 : decode cX4_digit 71 = .ok (.iconst 1, 1) := by decide +kernel
theorem dX4_digit_72 : decode cX4_digit 72 = .ok (.putfield 49, 3) := by decide +kernel
theorem dX4_digit_75 : decode cX4_digit 75 = .ok (.iload_n 2, 1) := by decide +kernel
theorem dX4_digit_76 : decode cX4_digit 76 = .ok (.ifCond .ne 7, 3) := by decide +kernel
theorem dX4_digit_79 : decode cX4_digit 79 = .ok (.iload_n 3, 1) := by decide +kernel
theorem dX4_digit_80 : decode cX4_digit 80 = .ok (.goto 4, 3) := by decide +kernel
theorem dX4_digit_83 : decode cX4_digit 83 = .ok (.iconst 0, 1) := by decide +kernel
theorem dX4_digit_84 : decode cX4_digit 84 = .ok (.ireturn, 1) := by decide +kernel
theorem dX4_residue_0 : decode cX4_residue 0 = .ok (.aload_n 0, 1) := by decide +kernel
theorem dX4_residue_1 : decode cX4_residue 1 = .ok (.iload_n 1, 1) := by decide +kernel
theorem dX4_residue_2 : decode cX4_residue 2 = .ok (.iload_n 1, 1) := by decide +kernel
theorem dX4_residue_3 : decode cX4_residue 3 = .ok (.invokevirtual 92, 3) := by decide +kernel
theorem dX4_residue_6 : decode cX4_residue 6 = .ok (.ifCond .ne 5, 3) := by decide +kernel
theorem dX4_residue_9 : decode cX4_residue 9 = .ok (.lconst 0, 1) := by decide +kernel
theorem dX4_residue_10 : decode cX4_residue 10 = .ok (.lreturn, 1) := by decide +kernel
theorem dX4_residue_11 : decode cX4_residue 11 = .ok (.aload_n 0, 1) := by decide +kernel
theorem dX4_residue_12 : decode cX4_residue 12 = .ok (.lload_n 2, 1) := by decide +kernel
theorem dX4_residue_13 : decode cX4_residue 13 = .ok (.lconst 0, 1) := by decide +kernel
theorem dX4_residue_14 : decode cX4_residue 14 = .ok (.lcmp, 1) := by decide +kernel
theorem dX4_residue_15 : decode cX4_residue 15 = .ok (.ifCond .ne 7, 3) := by decide +kernel
theorem dX4_residue_18 : decode cX4_residue 18 = .ok (.iconst 2, 1) := by decide +kernel
theorem dX4_residue_19 : decode cX4_residue 19 = .ok (.goto 4, 3) := by decide +kernel
theorem dX4_residue_22 : decode cX4_residue 22 = .ok (.iconst 0, 1) := by decide +kernel
theorem dX4_residue_23 : decode cX4_residue 23 = .ok (.putfield 49, 3) := by decide +kernel
theorem dX4_residue_26 : decode cX4_residue 26 = .ok (.aload_n 0, 1) := by decide +kernel
theorem dX4_residue_27 : decode cX4_residue 27 = .ok (.getfield 49, 3) := by decide +kernel
theorem dX4_residue_30 : decode cX4_residue 30 = .ok (.ifCond .le 5, 3) := by decide +kernel
theorem dX4_residue_33 : decode cX4_residue 33 = .ok (.lconst 0, 1) := by decide +kernel
theorem dX4_residue_34 : decode cX4_residue 34 = .ok (.lreturn, 1) := by decide +kernel
theorem dX4_residue_35 : decode cX4_residue 35 = .ok (.lload_n 2, 1) := by decide +kernel
theorem dX4_residue_36 : decode cX4_residue 36 = .ok (.lconst 0, 1) := by decide +kernel
theorem dX4_residue_37 : decode cX4_residue 37 = .ok (.lcmp, 1) := by decide +kernel
theorem dX4_residue_38 : decode cX4_residue 38 = .ok (.ifCond .ge 8, 3) := by decide +kernel
theorem dX4_residue_41 : decode cX4_residue 41 = .ok (.lload_n 2, 1) := by decide +kernel
theorem dX4_residue_42 : decode cX4_residue 42 = .ok (.lneg, 1) := by decide +kernel
theorem dX4_residue_43 : decode cX4_residue 43 = .ok (.goto 4, 3) := by decide +kernel
theorem dX4_residue_46 : decode cX4_residue 46 = .ok (.lload_n 2, 1) := by decide +kernel
theorem dX4_residue_47 : decode cX4_residue 47 = .ok (.lstore 4, 2) := by decide +kernel
theorem dX4_residue_49 : decode cX4_residue 49 = .ok (.lconst 0, 1) := by decide +kernel
theorem dX4_residue_50 : decode cX4_residue 50 = .ok (.lstore 6, 2) := by decide +kernel
theorem dX4_residue_52 : decode cX4_residue 52 = .ok (.bipush 16, 2) := by decide +kernel
theorem dX4_residue_54 : decode cX4_residue 54 = .ok (.aload_n 0, 1) := by decide +kernel
theorem dX4_residue_55 : decode cX4_residue 55 = .ok (.getfield 13, 3) := by decide +kernel
theorem dX4_residue_58 : decode cX4_residue 58 = .ok (.iload_n 1, 1) := by decide +kernel
theorem dX4_residue_59 : decode cX4_residue 59 = .ok (.iaload, 1) := by decide +kernel
theorem dX4_residue_60 : decode cX4_residue 60 = .ok (.imul, 1) := by decide +kernel
theorem dX4_residue_61 : decode cX4_residue 61 = .ok (.iconst 1, 1) := by decide +kernel
theorem dX4_residue_62 : decode cX4_residue 62 = .ok (.isub, 1) := by decide +kernel
theorem dX4_residue_63 : decode cX4_residue 63 = .ok (.istore 8, 2) := by decide +kernel
theorem dX4_residue_65 : decode cX4_residue 65 = .ok (.iload 8, 2) := by decide +kernel
theorem dX4_residue_67 : decode cX4_residue 67 = .ok (.ifCond .lt 63, 3) := by decide +kernel
theorem dX4_residue_70 : decode cX4_residue 70 = .ok (.lload 6, 2) := by decide +kernel
theorem dX4_residue_72 : decode cX4_residue 72 = .ok (.iconst 1, 1) := by decide +kernel
theorem dX4_residue_73 : decode cX4_residue 73 = .ok (.lshl, 1) := by decide +kernel
theorem dX4_residue_74 : decode cX4_residue 74 = .ok (.aload_n 0, 1) := by decide +kernel
theorem dX4_residue_75 : decode cX4_residue 75 = .ok (.getfield 7, 3) := by decide +kernel
theorem dX4_residue_78 : decode cX4_residue 78 = .ok (.bipush 104, 2) := by decide +kernel
theorem dX4_residue_80 : decode cX4_residue 80 = .ok (.iload_n 1, 1) := by decide +kernel
theorem dX4_residue_81 : decode cX4_residue 81 = .ok (.imul, 1) := by decide +kernel
theorem dX4_residue_82 : decode cX4_residue 82 = .ok (.iload 8, 2) := by decide +kernel
theorem dX4_residue_84 : decode cX4_residue 84 = .ok (.bipush 16, 2) := by decide +kernel
theorem dX4_residue_86 : decode cX4_residue 86 = .ok (.idiv, 1) := by decide +kernel
theorem dX4_residue_87 : decode cX4_residue 87 = .ok (.iadd, 1) := by decide +kernel
theorem dX4_residue_88 : decode cX4_residue 88 = .ok (.iaload, 1) := by decide +kernel
theorem dX4_residue_89 : decode cX4_residue 89 = .ok (.iload 8, 2) := by decide +kernel
theorem dX4_residue_91 : decode cX4_residue 91 = .ok (.bipush 16, 2) := by decide +kernel
theorem dX4_residue_93 : decode cX4_residue 93 = .ok (.irem, 1) := by decide +kernel
theorem dX4_residue_94 : decode cX4_residue 94 = .ok (.ishr, 1) := by decide +kernel
theorem dX4_residue_95 : decode cX4_residue 95 = .ok (.iconst 1, 1) := by decide +kernel
theorem dX4_residue_96 : decode cX4_residue 96 = .ok (.iand, 1) := by decide +kernel
theorem dX4_residue_97 : decode cX4_residue 97 = .ok (.i2l, 1) := by decide +kernel
theorem dX4_residue_98 : decode cX4_residue 98 = .ok (.lor, 1) := by decide +kernel
theorem dX4_residue_99 : decode cX4_residue 99 = .ok (.lstore 6, 2) := by decide +kernel
theorem dX4_residue_101 : decode cX4_residue 101 = .ok (.lload 6, 2) := by decide +kernel
theorem dX4_residue_103 : decode cX4_residue 103 = .ok (.ldc2_w 128, 3) := by decide +kernel
theorem dX4_residue_106 : decode cX4_residue 106 = .ok (.ladd, 1) := by decide +kernel
theorem dX4_residue_107 : decode cX4_residue 107 = .ok (.lload 4, 2) := by decide +kernel
theorem dX4_residue_109 : decode cX4_residue 109 = .ok (.ldc2_w 128, 3) := by decide +kernel
theorem dX4_residue_112 : decode cX4_residue 112 = .ok (.ladd, 1) := by decide +kernel
theorem dX4_residue_113 : decode cX4_residue 113 = .ok (.lcmp, 1) := by decide +kernel
theorem dX4_residue_114 : decode cX4_residue 114 = .ok (.ifCond .lt 10, 3) := by decide +kernel
theorem dX4_residue_117 : decode cX4_residue 117 = .ok (.lload 6, 2) := by decide +kernel
theorem dX4_residue_119 : decode cX4_residue 119 = .ok (.lload 4, 2) := by decide +kernel
theorem dX4_residue_121 : decode cX4_residue 121 = .ok (.lsub, 1) := by decide +kernel
theorem dX4_residue_122 : decode cX4_residue 122 = .ok (.lstore 6, 2) := by decide +kernel
theorem dX4_residue_124 : decode cX4_residue 124 = .ok (.iinc 8 (-1), 3) := by decide +kernel
theorem dX4_residue_127 : decode cX4_residue 127 = .ok (.goto (-62), 3) := by decide +kernel
theorem dX4_residue_130 : decode cX4_residue 130 = .ok (.aload_n 0, 1) := by decide +kernel
theorem dX4_residue_131 : decode cX4_residue 131 = .ok (.getfield 16, 3) := by decide +kernel
theorem dX4_residue_134 : decode cX4_residue 134 = .ok (.iload_n 1, 1) := by decide +kernel
theorem dX4_residue_135 : decode cX4_residue 135 = .ok (.baload, 1) := by decide +kernel
theorem dX4_residue_136 : decode cX4_residue 136 = .ok (.ifCond .eq 18, 3) := by decide +kernel
theorem dX4_residue_139 : decode cX4_residue 139 = .ok (.lload 6, 2) := by decide +kernel
theorem dX4_residue_141 : decode cX4_residue 141 = .ok (.lconst 0, 1) := by decide +kernel
theorem dX4_residue_142 : decode cX4_residue 142 = .ok (.lcmp, 1) := by decide +kernel
theorem dX4_residue_143 : decode cX4_residue 143 = .ok (.ifCond .eq 11, 3) := by decide +kernel
theorem dX4_residue_146 : decode cX4_residue 146 = .ok (.lload 4, 2) := by decide +kernel
theorem dX4_residue_148 : decode cX4_residue 148 = .ok (.lload 6, 2) := by decide +kernel
theorem dX4_residue_150 : decode cX4_residue 150 = .ok (.lsub, 1) := by decide +kernel
theorem dX4_residue_151 : decode cX4_residue 151 = .ok (.goto 5, 3) := by decide +kernel
theorem dX4_residue_154 : decode cX4_residue 154 = .ok (.lload 6, 2) := by decide +kernel
theorem dX4_residue_156 : decode cX4_residue 156 = .ok (.lreturn, 1) := by decide +kernel
theorem dX4_kept_0 : decode cX4_kept 0 = .ok (.aload_n 0, 1) := by decide +kernel
theorem dX4_kept_1 : decode cX4_kept 1 = .ok (.iconst 0, 1) := by decide +kernel
theorem dX4_kept_2 : decode cX4_kept 2 = .ok (.putfield 49, 3) := by decide +kernel
theorem dX4_kept_5 : decode cX4_kept 5 = .ok (.aload_n 0, 1) := by decide +kernel
theorem dX4_kept_6 : decode cX4_kept 6 = .ok (.getfield 53, 3) := by decide +kernel
theorem dX4_kept_9 : decode cX4_kept 9 = .ok (.ireturn, 1) := by decide +kernel
theorem dX4_entry_0 : decode cX4_entry 0 = .ok (.aload_n 0, 1) := by decide +kernel
theorem dX4_entry_1 : decode cX4_entry 1 = .ok (.iconst 0, 1) := by decide +kernel
theorem dX4_entry_2 : decode cX4_entry 2 = .ok (.putfield 49, 3) := by decide +kernel
theorem dX4_entry_5 : decode cX4_entry 5 = .ok (.iload_n 1, 1) := by decide +kernel
theorem dX4_entry_6 : decode cX4_entry 6 = .ok (.ifCond .lt 19, 3) := by decide +kernel
theorem dX4_entry_9 : decode cX4_entry 9 = .ok (.iload_n 1, 1) := by decide +kernel
theorem dX4_entry_10 : decode cX4_entry 10 = .ok (.bipush 12, 2) := by decide +kernel
theorem dX4_entry_12 : decode cX4_entry 12 = .ok (.if_icmp .ge 13, 3) := by decide +kernel
theorem dX4_entry_15 : decode cX4_entry 15 = .ok (.iload_n 2, 1) := by decide +kernel
theorem dX4_entry_16 : decode cX4_entry 16 = .ok (.ifCond .lt 9, 3) := by decide +kernel
theorem dX4_entry_19 : decode cX4_entry 19 = .ok (.iload_n 2, 1) := by decide +kernel
theorem dX4_entry_20 : decode cX4_entry 20 = .ok (.bipush 12, 2) := by decide +kernel
theorem dX4_entry_22 : decode cX4_entry 22 = .ok (.if_icmp .lt 5, 3) := by decide +kernel
theorem dX4_entry_25 : decode cX4_entry 25 = .ok (.iconst 0, 1) := by decide +kernel
theorem dX4_entry_26 : decode cX4_entry 26 = .ok (.ireturn, 1) := by decide +kernel
theorem dX4_entry_27 : decode cX4_entry 27 = .ok (.aload_n 0, 1) := by decide +kernel
theorem dX4_entry_28 : decode cX4_entry 28 = .ok (.getfield 20, 3) := by decide +kernel
theorem dX4_entry_31 : decode cX4_entry 31 = .ok (.bipush 12, 2) := by decide +kernel
theorem dX4_entry_33 : decode cX4_entry 33 = .ok (.iload_n 1, 1) := by decide +kernel
theorem dX4_entry_34 : decode cX4_entry 34 = .ok (.imul, 1) := by decide +kernel
theorem dX4_entry_35 : decode cX4_entry 35 = .ok (.iload_n 2, 1) := by decide +kernel
theorem dX4_entry_36 : decode cX4_entry 36 = .ok (.iadd, 1) := by decide +kernel
theorem dX4_entry_37 : decode cX4_entry 37 = .ok (.lload_n 3, 1) := by decide +kernel
theorem dX4_entry_38 : decode cX4_entry 38 = .ok (.lastore, 1) := by decide +kernel
theorem dX4_entry_39 : decode cX4_entry 39 = .ok (.iconst 1, 1) := by decide +kernel
theorem dX4_entry_40 : decode cX4_entry 40 = .ok (.ireturn, 1) := by decide +kernel
theorem dX4_bits_0 : decode cX4_bits 0 = .ok (.iconst 0, 1) := by decide +kernel
theorem dX4_bits_1 : decode cX4_bits 1 = .ok (.istore_n 1, 1) := by decide +kernel
theorem dX4_bits_2 : decode cX4_bits 2 = .ok (.iconst 0, 1) := by decide +kernel
theorem dX4_bits_3 : decode cX4_bits 3 = .ok (.istore_n 2, 1) := by decide +kernel
theorem dX4_bits_4 : decode cX4_bits 4 = .ok (.iload_n 2, 1) := by decide +kernel
theorem dX4_bits_5 : decode cX4_bits 5 = .ok (.bipush 12, 2) := by decide +kernel
theorem dX4_bits_7 : decode cX4_bits 7 = .ok (.if_icmp .ge 17, 3) := by decide +kernel
theorem dX4_bits_10 : decode cX4_bits 10 = .ok (.iload_n 1, 1) := by decide +kernel
theorem dX4_bits_11 : decode cX4_bits 11 = .ok (.iload_n 0, 1) := by decide +kernel
theorem dX4_bits_12 : decode cX4_bits 12 = .ok (.iload_n 2, 1) := by decide +kernel
theorem dX4_bits_13 : decode cX4_bits 13 = .ok (.ishr, 1) := by decide +kernel
theorem dX4_bits_14 : decode cX4_bits 14 = .ok (.iconst 1, 1) := by decide +kernel
theorem dX4_bits_15 : decode cX4_bits 15 = .ok (.iand, 1) := by decide +kernel
theorem dX4_bits_16 : decode cX4_bits 16 = .ok (.iadd, 1) := by decide +kernel
theorem dX4_bits_17 : decode cX4_bits 17 = .ok (.istore_n 1, 1) := by decide +kernel
theorem dX4_bits_18 : decode cX4_bits 18 = .ok (.iinc 2 1, 3) := by decide +kernel
theorem dX4_bits_21 : decode cX4_bits 21 = .ok (.goto (-17), 3) := by decide +kernel
theorem dX4_bits_24 : decode cX4_bits 24 = .ok (.iload_n 1, 1) := by decide +kernel
theorem dX4_bits_25 : decode cX4_bits 25 = .ok (.ireturn, 1) := by decide +kernel
theorem dX4_product_0 : decode cX4_product 0 = .ok (.iconst 0, 1) := by decide +kernel
theorem dX4_product_1 : decode cX4_product 1 = .ok (.istore 5, 2) := by decide +kernel
theorem dX4_product_3 : decode cX4_product 3 = .ok (.iload 5, 2) := by decide +kernel
theorem dX4_product_5 : decode cX4_product 5 = .ok (.bipush 60, 2) := by decide +kernel
theorem dX4_product_7 : decode cX4_product 7 = .ok (.if_icmp .ge 15, 3) := by decide +kernel
theorem dX4_product_10 : decode cX4_product 10 = .ok (.aload 4, 2) := by decide +kernel
theorem dX4_product_12 : decode cX4_product 12 = .ok (.iload 5, 2) := by decide +kernel
theorem dX4_product_14 : decode cX4_product 14 = .ok (.iconst 0, 1) := by decide +kernel
theorem dX4_product_15 : decode cX4_product 15 = .ok (.iastore, 1) := by decide +kernel
theorem dX4_product_16 : decode cX4_product 16 = .ok (.iinc 5 1, 3) := by decide +kernel
theorem dX4_product_19 : decode cX4_product 19 = .ok (.goto (-16), 3) := by decide +kernel
theorem dX4_product_22 : decode cX4_product 22 = .ok (.lload_n 1, 1) := by decide +kernel
theorem dX4_product_23 : decode cX4_product 23 = .ok (.lconst 0, 1) := by decide +kernel
theorem dX4_product_24 : decode cX4_product 24 = .ok (.lcmp, 1) := by decide +kernel
theorem dX4_product_25 : decode cX4_product 25 = .ok (.ifCond .ge 8, 3) := by decide +kernel
theorem dX4_product_28 : decode cX4_product 28 = .ok (.lload_n 1, 1) := by decide +kernel
theorem dX4_product_29 : decode cX4_product 29 = .ok (.lneg, 1) := by decide +kernel
theorem dX4_product_30 : decode cX4_product 30 = .ok (.goto 4, 3) := by decide +kernel
theorem dX4_product_33 : decode cX4_product 33 = .ok (.lload_n 1, 1) := by decide +kernel
theorem dX4_product_34 : decode cX4_product 34 = .ok (.lstore 5, 2) := by decide +kernel
theorem dX4_product_36 : decode cX4_product 36 = .ok (.iconst 0, 1) := by decide +kernel
theorem dX4_product_37 : decode cX4_product 37 = .ok (.istore 7, 2) := by decide +kernel
theorem dX4_product_39 : decode cX4_product 39 = .ok (.iload 7, 2) := by decide +kernel
theorem dX4_product_41 : decode cX4_product 41 = .ok (.iconst 4, 1) := by decide +kernel
theorem dX4_product_42 : decode cX4_product 42 = .ok (.if_icmp .ge 95, 3) := by decide +kernel
theorem dX4_product_45 : decode cX4_product 45 = .ok (.lload 5, 2) := by decide +kernel
theorem dX4_product_47 : decode cX4_product 47 = .ok (.bipush 16, 2) := by decide +kernel
theorem dX4_product_49 : decode cX4_product 49 = .ok (.iload 7, 2) := by decide +kernel
theorem dX4_product_51 : decode cX4_product 51 = .ok (.imul, 1) := by decide +kernel
theorem dX4_product_52 : decode cX4_product 52 = .ok (.lushr, 1) := by decide +kernel
theorem dX4_product_53 : decode cX4_product 53 = .ok (.ldc2_w 70, 3) := by decide +kernel
theorem dX4_product_56 : decode cX4_product 56 = .ok (.land, 1) := by decide +kernel
theorem dX4_product_57 : decode cX4_product 57 = .ok (.lstore 8, 2) := by decide +kernel
theorem dX4_product_59 : decode cX4_product 59 = .ok (.lconst 0, 1) := by decide +kernel
theorem dX4_product_60 : decode cX4_product 60 = .ok (.lstore 10, 2) := by decide +kernel
theorem dX4_product_62 : decode cX4_product 62 = .ok (.iconst 0, 1) := by decide +kernel
theorem dX4_product_63 : decode cX4_product 63 = .ok (.istore 12, 2) := by decide +kernel
theorem dX4_product_65 : decode cX4_product 65 = .ok (.iload 12, 2) := by decide +kernel
theorem dX4_product_67 : decode cX4_product 67 = .ok (.bipush 52, 2) := by decide +kernel
theorem dX4_product_69 : decode cX4_product 69 = .ok (.if_icmp .ge 62, 3) := by decide +kernel
theorem dX4_product_72 : decode cX4_product 72 = .ok (.lload 8, 2) := by decide +kernel
theorem dX4_product_74 : decode cX4_product 74 = .ok (.aload_n 0, 1) := by decide +kernel
theorem dX4_product_75 : decode cX4_product 75 = .ok (.getfield 34, 3) := by decide +kernel
theorem dX4_product_78 : decode cX4_product 78 = .ok (.bipush 52, 2) := by decide +kernel
theorem dX4_product_80 : decode cX4_product 80 = .ok (.iload_n 3, 1) := by decide +kernel
theorem dX4_product_81 : decode cX4_product 81 = .ok (.imul, 1) := by decide +kernel
theorem dX4_product_82 : decode cX4_product 82 = .ok (.iload 12, 2) := by decide +kernel
theorem dX4_product_84 : decode cX4_product 84 = .ok (.iadd, 1) := by decide +kernel
theorem dX4_product_85 : decode cX4_product 85 = .ok (.iaload, 1) := by decide +kernel
theorem dX4_product_86 : decode cX4_product 86 = .ok (.i2l, 1) := by decide +kernel
theorem dX4_product_87 : decode cX4_product 87 = .ok (.lmul, 1) := by decide +kernel
theorem dX4_product_88 : decode cX4_product 88 = .ok (.aload 4, 2) := by decide +kernel
theorem dX4_product_90 : decode cX4_product 90 = .ok (.iload 7, 2) := by decide +kernel
theorem dX4_product_92 : decode cX4_product 92 = .ok (.iload 12, 2) := by decide +kernel
theorem dX4_product_94 : decode cX4_product 94 = .ok (.iadd, 1) := by decide +kernel
theorem dX4_product_95 : decode cX4_product 95 = .ok (.iaload, 1) := by decide +kernel
theorem dX4_product_96 : decode cX4_product 96 = .ok (.i2l, 1) := by decide +kernel
theorem dX4_product_97 : decode cX4_product 97 = .ok (.ladd, 1) := by decide +kernel
theorem dX4_product_98 : decode cX4_product 98 = .ok (.lload 10, 2) := by decide +kernel
theorem dX4_product_100 : decode cX4_product 100 = .ok (.ladd, 1) := by decide +kernel
theorem dX4_product_101 : decode cX4_product 101 = .ok (.lstore 13, 2) := by decide +kernel
theorem dX4_product_103 : decode cX4_product 103 = .ok (.aload 4, 2) := by decide +kernel
theorem dX4_product_105 : decode cX4_product 105 = .ok (.iload 7, 2) := by decide +kernel
theorem dX4_product_107 : decode cX4_product 107 = .ok (.iload 12, 2) := by decide +kernel
theorem dX4_product_109 : decode cX4_product 109 = .ok (.iadd, 1) := by decide +kernel
theorem dX4_product_110 : decode cX4_product 110 = .ok (.lload 13, 2) := by decide +kernel
theorem dX4_product_112 : decode cX4_product 112 = .ok (.ldc2_w 70, 3) := by decide +kernel
theorem dX4_product_115 : decode cX4_product 115 = .ok (.land, 1) := by decide +kernel
theorem dX4_product_116 : decode cX4_product 116 = .ok (.l2i, 1) := by decide +kernel
theorem dX4_product_117 : decode cX4_product 117 = .ok (.iastore, 1) := by decide +kernel
theorem dX4_product_118 : decode cX4_product 118 = .ok (.lload 13, 2) := by decide +kernel
theorem dX4_product_120 : decode cX4_product 120 = .ok (.bipush 16, 2) := by decide +kernel
theorem dX4_product_122 : decode cX4_product 122 = .ok (.lshr, 1) := by decide +kernel
theorem dX4_product_123 : decode cX4_product 123 = .ok (.lstore 10, 2) := by decide +kernel
theorem dX4_product_125 : decode cX4_product 125 = .ok (.iinc 12 1, 3) := by decide +kernel
theorem dX4_product_128 : decode cX4_product 128 = .ok (.goto (-63), 3) := by decide +kernel
theorem dX4_product_131 : decode cX4_product 131 = .ok (.iinc 7 1, 3) := by decide +kernel
theorem dX4_product_134 : decode cX4_product 134 = .ok (.goto (-95), 3) := by decide +kernel
theorem dX4_product_137 : decode cX4_product 137 = .ok (.return_, 1) := by decide +kernel
theorem dX4_addTo_0 : decode cX4_addTo 0 = .ok (.iconst 0, 1) := by decide +kernel
theorem dX4_addTo_1 : decode cX4_addTo 1 = .ok (.istore_n 3, 1) := by decide +kernel
theorem dX4_addTo_2 : decode cX4_addTo 2 = .ok (.iconst 0, 1) := by decide +kernel
theorem dX4_addTo_3 : decode cX4_addTo 3 = .ok (.istore 4, 2) := by decide +kernel
theorem dX4_addTo_5 : decode cX4_addTo 5 = .ok (.iload 4, 2) := by decide +kernel
theorem dX4_addTo_7 : decode cX4_addTo 7 = .ok (.bipush 60, 2) := by decide +kernel
theorem dX4_addTo_9 : decode cX4_addTo 9 = .ok (.if_icmp .ge 37, 3) := by decide +kernel
theorem dX4_addTo_12 : decode cX4_addTo 12 = .ok (.aload_n 1, 1) := by decide +kernel
theorem dX4_addTo_13 : decode cX4_addTo 13 = .ok (.iload 4, 2) := by decide +kernel
theorem dX4_addTo_15 : decode cX4_addTo 15 = .ok (.iaload, 1) := by decide +kernel
theorem dX4_addTo_16 : decode cX4_addTo 16 = .ok (.aload_n 2, 1) := by decide +kernel
theorem dX4_addTo_17 : decode cX4_addTo 17 = .ok (.iload 4, 2) := by decide +kernel
theorem dX4_addTo_19 : decode cX4_addTo 19 = .ok (.iaload, 1) := by decide +kernel
theorem dX4_addTo_20 : decode cX4_addTo 20 = .ok (.iadd, 1) := by decide +kernel
theorem dX4_addTo_21 : decode cX4_addTo 21 = .ok (.iload_n 3, 1) := by decide +kernel
theorem dX4_addTo_22 : decode cX4_addTo 22 = .ok (.iadd, 1) := by decide +kernel
theorem dX4_addTo_23 : decode cX4_addTo 23 = .ok (.istore 5, 2) := by decide +kernel
theorem dX4_addTo_25 : decode cX4_addTo 25 = .ok (.aload_n 1, 1) := by decide +kernel
theorem dX4_addTo_26 : decode cX4_addTo 26 = .ok (.iload 4, 2) := by decide +kernel
theorem dX4_addTo_28 : decode cX4_addTo 28 = .ok (.iload 5, 2) := by decide +kernel
theorem dX4_addTo_30 : decode cX4_addTo 30 = .ok (.ldc 80, 2) := by decide +kernel
theorem dX4_addTo_32 : decode cX4_addTo 32 = .ok (.iand, 1) := by decide +kernel
theorem dX4_addTo_33 : decode cX4_addTo 33 = .ok (.iastore, 1) := by decide +kernel
theorem dX4_addTo_34 : decode cX4_addTo 34 = .ok (.iload 5, 2) := by decide +kernel
theorem dX4_addTo_36 : decode cX4_addTo 36 = .ok (.bipush 16, 2) := by decide +kernel
theorem dX4_addTo_38 : decode cX4_addTo 38 = .ok (.ishr, 1) := by decide +kernel
theorem dX4_addTo_39 : decode cX4_addTo 39 = .ok (.istore_n 3, 1) := by decide +kernel
theorem dX4_addTo_40 : decode cX4_addTo 40 = .ok (.iinc 4 1, 3) := by decide +kernel
theorem dX4_addTo_43 : decode cX4_addTo 43 = .ok (.goto (-38), 3) := by decide +kernel
theorem dX4_addTo_46 : decode cX4_addTo 46 = .ok (.return_, 1) := by decide +kernel
theorem dX4_minorOf_0 : decode cX4_minorOf 0 = .ok (.iload_n 1, 1) := by decide +kernel
theorem dX4_minorOf_1 : decode cX4_minorOf 1 = .ok (.invokestatic 130, 3) := by decide +kernel
theorem dX4_minorOf_4 : decode cX4_minorOf 4 = .ok (.iconst 1, 1) := by decide +kernel
theorem dX4_minorOf_5 : decode cX4_minorOf 5 = .ok (.isub, 1) := by decide +kernel
theorem dX4_minorOf_6 : decode cX4_minorOf 6 = .ok (.istore_n 2, 1) := by decide +kernel
theorem dX4_minorOf_7 : decode cX4_minorOf 7 = .ok (.iconst 0, 1) := by decide +kernel
theorem dX4_minorOf_8 : decode cX4_minorOf 8 = .ok (.istore_n 3, 1) := by decide +kernel
theorem dX4_minorOf_9 : decode cX4_minorOf 9 = .ok (.iload_n 3, 1) := by decide +kernel
theorem dX4_minorOf_10 : decode cX4_minorOf 10 = .ok (.bipush 60, 2) := by decide +kernel
theorem dX4_minorOf_12 : decode cX4_minorOf 12 = .ok (.if_icmp .ge 23, 3) := by decide +kernel
theorem dX4_minorOf_15 : decode cX4_minorOf 15 = .ok (.aload_n 0, 1) := by decide +kernel
theorem dX4_minorOf_16 : decode cX4_minorOf 16 = .ok (.getfield 43, 3) := by decide +kernel
theorem dX4_minorOf_19 : decode cX4_minorOf 19 = .ok (.iload_n 3, 1) := by decide +kernel
theorem dX4_minorOf_20 : decode cX4_minorOf 20 = .ok (.iconst 0, 1) := by decide +kernel
theorem dX4_minorOf_21 : decode cX4_minorOf 21 = .ok (.iastore, 1) := by decide +kernel
theorem dX4_minorOf_22 : decode cX4_minorOf 22 = .ok (.aload_n 0, 1) := by decide +kernel
theorem dX4_minorOf_23 : decode cX4_minorOf 23 = .ok (.getfield 46, 3) := by decide +kernel
theorem dX4_minorOf_26 : decode cX4_minorOf 26 = .ok (.iload_n 3, 1) := by decide +kernel
theorem dX4_minorOf_27 : decode cX4_minorOf 27 = .ok (.iconst 0, 1) := by decide +kernel
theorem dX4_minorOf_28 : decode cX4_minorOf 28 = .ok (.iastore, 1) := by decide +kernel
theorem dX4_minorOf_29 : decode cX4_minorOf 29 = .ok (.iinc 3 1, 3) := by decide +kernel
theorem dX4_minorOf_32 : decode cX4_minorOf 32 = .ok (.goto (-23), 3) := by decide +kernel
theorem dX4_minorOf_35 : decode cX4_minorOf 35 = .ok (.iconst 0, 1) := by decide +kernel
theorem dX4_minorOf_36 : decode cX4_minorOf 36 = .ok (.istore_n 3, 1) := by decide +kernel
theorem dX4_minorOf_37 : decode cX4_minorOf 37 = .ok (.iconst 0, 1) := by decide +kernel
theorem dX4_minorOf_38 : decode cX4_minorOf 38 = .ok (.istore 4, 2) := by decide +kernel
theorem dX4_minorOf_40 : decode cX4_minorOf 40 = .ok (.iload 4, 2) := by decide +kernel
theorem dX4_minorOf_42 : decode cX4_minorOf 42 = .ok (.bipush 12, 2) := by decide +kernel
theorem dX4_minorOf_44 : decode cX4_minorOf 44 = .ok (.if_icmp .ge 135, 3) := by decide +kernel
theorem dX4_minorOf_47 : decode cX4_minorOf 47 = .ok (.iload_n 1, 1) := by decide +kernel
theorem dX4_minorOf_48 : decode cX4_minorOf 48 = .ok (.iload 4, 2) := by decide +kernel
theorem dX4_minorOf_50 : decode cX4_minorOf 50 = .ok (.ishr, 1) := by decide +kernel
theorem dX4_minorOf_51 : decode cX4_minorOf 51 = .ok (.iconst 1, 1) := by decide +kernel
theorem dX4_minorOf_52 : decode cX4_minorOf 52 = .ok (.iand, 1) := by decide +kernel
theorem dX4_minorOf_53 : decode cX4_minorOf 53 = .ok (.ifCond .ne 6, 3) := by decide +kernel
theorem dX4_minorOf_56 : decode cX4_minorOf 56 = .ok (.goto 117, 3) := by decide +kernel
theorem dX4_minorOf_59 : decode cX4_minorOf 59 = .ok (.iload_n 1, 1) := by decide +kernel
theorem dX4_minorOf_60 : decode cX4_minorOf 60 = .ok (.iconst 1, 1) := by decide +kernel
theorem dX4_minorOf_61 : decode cX4_minorOf 61 = .ok (.iload 4, 2) := by decide +kernel
theorem dX4_minorOf_63 : decode cX4_minorOf 63 = .ok (.ishl, 1) := by decide +kernel
theorem dX4_minorOf_64 : decode cX4_minorOf 64 = .ok (.iconst (-1), 1) := by decide +kernel
theorem dX4_minorOf_65 : decode cX4_minorOf 65 = .ok (.ixor, 1) := by decide +kernel
theorem dX4_minorOf_66 : decode cX4_minorOf 66 = .ok (.iand, 1) := by decide +kernel
theorem dX4_minorOf_67 : decode cX4_minorOf 67 = .ok (.istore 5, 2) := by decide +kernel
theorem dX4_minorOf_69 : decode cX4_minorOf 69 = .ok (.aload_n 0, 1) := by decide +kernel
theorem dX4_minorOf_70 : decode cX4_minorOf 70 = .ok (.getfield 20, 3) := by decide +kernel
theorem dX4_minorOf_73 : decode cX4_minorOf 73 = .ok (.bipush 12, 2) := by decide +kernel
theorem dX4_minorOf_75 : decode cX4_minorOf 75 = .ok (.iload_n 2, 1) := by decide +kernel
theorem dX4_minorOf_76 : decode cX4_minorOf 76 = .ok (.imul, 1) := by decide +kernel
theorem dX4_minorOf_77 : decode cX4_minorOf 77 = .ok (.iload 4, 2) := by decide +kernel
theorem dX4_minorOf_79 : decode cX4_minorOf 79 = .ok (.iadd, 1) := by decide +kernel
theorem dX4_minorOf_80 : decode cX4_minorOf 80 = .ok (.laload, 1) := by decide +kernel
theorem dX4_minorOf_81 : decode cX4_minorOf 81 = .ok (.lstore 6, 2) := by decide +kernel
theorem dX4_minorOf_83 : decode cX4_minorOf 83 = .ok (.aload_n 0, 1) := by decide +kernel
theorem dX4_minorOf_84 : decode cX4_minorOf 84 = .ok (.lload 6, 2) := by decide +kernel
theorem dX4_minorOf_86 : decode cX4_minorOf 86 = .ok (.iload 5, 2) := by decide +kernel
theorem dX4_minorOf_88 : decode cX4_minorOf 88 = .ok (.aload_n 0, 1) := by decide +kernel
theorem dX4_minorOf_89 : decode cX4_minorOf 89 = .ok (.getfield 40, 3) := by decide +kernel
theorem dX4_minorOf_92 : decode cX4_minorOf 92 = .ok (.invokevirtual 133, 3) := by decide +kernel
theorem dX4_minorOf_95 : decode cX4_minorOf 95 = .ok (.lload 6, 2) := by decide +kernel
theorem dX4_minorOf_97 : decode cX4_minorOf 97 = .ok (.lconst 0, 1) := by decide +kernel
theorem dX4_minorOf_98 : decode cX4_minorOf 98 = .ok (.lcmp, 1) := by decide +kernel
theorem dX4_minorOf_99 : decode cX4_minorOf 99 = .ok (.ifCond .ge 7, 3) := by decide +kernel
theorem dX4_minorOf_102 : decode cX4_minorOf 102 = .ok (.iconst 1, 1) := by decide +kernel
theorem dX4_minorOf_103 : decode cX4_minorOf 103 = .ok (.goto 4, 3) := by decide +kernel
theorem dX4_minorOf_106 : decode cX4_minorOf 106 = .ok (.iconst 0, 1) := by decide +kernel
theorem dX4_minorOf_107 : decode cX4_minorOf 107 = .ok (.aload_n 0, 1) := by decide +kernel
theorem dX4_minorOf_108 : decode cX4_minorOf 108 = .ok (.getfield 37, 3) := by decide +kernel
theorem dX4_minorOf_111 : decode cX4_minorOf 111 = .ok (.iload 5, 2) := by decide +kernel
theorem dX4_minorOf_113 : decode cX4_minorOf 113 = .ok (.baload, 1) := by decide +kernel
theorem dX4_minorOf_114 : decode cX4_minorOf 114 = .ok (.if_icmp .eq 7, 3) := by decide +kernel
theorem dX4_minorOf_117 : decode cX4_minorOf 117 = .ok (.iconst 1, 1) := by decide +kernel
theorem dX4_minorOf_118 : decode cX4_minorOf 118 = .ok (.goto 4, 3) := by decide +kernel
theorem dX4_minorOf_121 : decode cX4_minorOf 121 = .ok (.iconst 0, 1) := by decide +kernel
theorem dX4_minorOf_122 : decode cX4_minorOf 122 = .ok (.iload_n 2, 1) := by decide +kernel
theorem dX4_minorOf_123 : decode cX4_minorOf 123 = .ok (.iload_n 3, 1) := by decide +kernel
theorem dX4_minorOf_124 : decode cX4_minorOf 124 = .ok (.isub, 1) := by decide +kernel
theorem dX4_minorOf_125 : decode cX4_minorOf 125 = .ok (.iconst 2, 1) := by decide +kernel
theorem dX4_minorOf_126 : decode cX4_minorOf 126 = .ok (.irem, 1) := by decide +kernel
theorem dX4_minorOf_127 : decode cX4_minorOf 127 = .ok (.iconst 1, 1) := by decide +kernel
theorem dX4_minorOf_128 : decode cX4_minorOf 128 = .ok (.if_icmp .ne 7, 3) := by decide +kernel
theorem dX4_minorOf_131 : decode cX4_minorOf 131 = .ok (.iconst 1, 1) := by decide +kernel
theorem dX4_minorOf_132 : decode cX4_minorOf 132 = .ok (.goto 4, 3) := by decide +kernel
theorem dX4_minorOf_135 : decode cX4_minorOf 135 = .ok (.iconst 0, 1) := by decide +kernel
theorem dX4_minorOf_136 : decode cX4_minorOf 136 = .ok (.if_icmp .eq 7, 3) := by decide +kernel
theorem dX4_minorOf_139 : decode cX4_minorOf 139 = .ok (.iconst 1, 1) := by decide +kernel
theorem dX4_minorOf_140 : decode cX4_minorOf 140 = .ok (.goto 4, 3) := by decide +kernel
theorem dX4_minorOf_143 : decode cX4_minorOf 143 = .ok (.iconst 0, 1) := by decide +kernel
theorem dX4_minorOf_144 : decode cX4_minorOf 144 = .ok (.istore 8, 2) := by decide +kernel
theorem dX4_minorOf_146 : decode cX4_minorOf 146 = .ok (.aload_n 0, 1) := by decide +kernel
theorem dX4_minorOf_147 : decode cX4_minorOf 147 = .ok (.iload 8, 2) := by decide +kernel
theorem dX4_minorOf_149 : decode cX4_minorOf 149 = .ok (.ifCond .eq 10, 3) := by decide +kernel
theorem dX4_minorOf_152 : decode cX4_minorOf 152 = .ok (.aload_n 0, 1) := by decide +kernel
theorem dX4_minorOf_153 : decode cX4_minorOf 153 = .ok (.getfield 46, 3) := by decide +kernel
theorem dX4_minorOf_156 : decode cX4_minorOf 156 = .ok (.goto 7, 3) := by decide +kernel
theorem dX4_minorOf_159 : decode cX4_minorOf 159 = .ok (.aload_n 0, 1) := by decide +kernel
theorem dX4_minorOf_160 : decode cX4_minorOf 160 = .ok (.getfield 43, 3) := by decide +kernel
theorem dX4_minorOf_163 : decode cX4_minorOf 163 = .ok (.aload_n 0, 1) := by decide +kernel
theorem dX4_minorOf_164 : decode cX4_minorOf 164 = .ok (.getfield 40, 3) := by decide +kernel
theorem dX4_minorOf_167 : decode cX4_minorOf 167 = .ok (.invokevirtual 137, 3) := by decide +kernel
theorem dX4_minorOf_170 : decode cX4_minorOf 170 = .ok (.iinc 3 1, 3) := by decide +kernel
theorem dX4_minorOf_173 : decode cX4_minorOf 173 = .ok (.iinc 4 1, 3) := by decide +kernel
theorem dX4_minorOf_176 : decode cX4_minorOf 176 = .ok (.goto (-136), 3) := by decide +kernel
theorem dX4_minorOf_179 : decode cX4_minorOf 179 = .ok (.bipush 59, 2) := by decide +kernel
theorem dX4_minorOf_181 : decode cX4_minorOf 181 = .ok (.istore 4, 2) := by decide +kernel
theorem dX4_minorOf_183 : decode cX4_minorOf 183 = .ok (.iload 4, 2) := by decide +kernel
theorem dX4_minorOf_185 : decode cX4_minorOf 185 = .ok (.ifCond .lt 26, 3) := by decide +kernel
theorem dX4_minorOf_188 : decode cX4_minorOf 188 = .ok (.aload_n 0, 1) := by decide +kernel
theorem dX4_minorOf_189 : decode cX4_minorOf 189 = .ok (.getfield 43, 3) := by decide +kernel
theorem dX4_minorOf_192 : decode cX4_minorOf 192 = .ok (.iload 4, 2) := by decide +kernel
theorem dX4_minorOf_194 : decode cX4_minorOf 194 = .ok (.iaload, 1) := by decide +kernel
theorem dX4_minorOf_195 : decode cX4_minorOf 195 = .ok (.aload_n 0, 1) := by decide +kernel
theorem dX4_minorOf_196 : decode cX4_minorOf 196 = .ok (.getfield 46, 3) := by decide +kernel
theorem dX4_minorOf_199 : decode cX4_minorOf 199 = .ok (.iload 4, 2) := by decide +kernel
theorem dX4_minorOf_201 : decode cX4_minorOf 201 = .ok (.iaload, 1) := by decide +kernel
theorem dX4_minorOf_202 : decode cX4_minorOf 202 = .ok (.if_icmp .ne 9, 3) := by decide +kernel
theorem dX4_minorOf_205 : decode cX4_minorOf 205 = .ok (.iinc 4 (-1), 3) := by decide +kernel
theorem dX4_minorOf_208 : decode cX4_minorOf 208 = .ok (.goto (-25), 3) := by decide +kernel
theorem dX4_minorOf_211 : decode cX4_minorOf 211 = .ok (.aload_n 0, 1) := by decide +kernel
theorem dX4_minorOf_212 : decode cX4_minorOf 212 = .ok (.getfield 37, 3) := by decide +kernel
theorem dX4_minorOf_215 : decode cX4_minorOf 215 = .ok (.iload_n 1, 1) := by decide +kernel
theorem dX4_minorOf_216 : decode cX4_minorOf 216 = .ok (.iload 4, 2) := by decide +kernel
theorem dX4_minorOf_218 : decode cX4_minorOf 218 = .ok (.ifCond .lt 24, 3) := by decide +kernel
theorem dX4_minorOf_221 : decode cX4_minorOf 221 = .ok (.aload_n 0, 1) := by decide +kernel
theorem dX4_minorOf_222 : decode cX4_minorOf 222 = .ok (.getfield 43, 3) := by decide +kernel
theorem dX4_minorOf_225 : decode cX4_minorOf 225 = .ok (.iload 4, 2) := by decide +kernel
theorem dX4_minorOf_227 : decode cX4_minorOf 227 = .ok (.iaload, 1) := by decide +kernel
theorem dX4_minorOf_228 : decode cX4_minorOf 228 = .ok (.aload_n 0, 1) := by decide +kernel
theorem dX4_minorOf_229 : decode cX4_minorOf 229 = .ok (.getfield 46, 3) := by decide +kernel
theorem dX4_minorOf_232 : decode cX4_minorOf 232 = .ok (.iload 4, 2) := by decide +kernel
theorem dX4_minorOf_234 : decode cX4_minorOf 234 = .ok (.iaload, 1) := by decide +kernel
theorem dX4_minorOf_235 : decode cX4_minorOf 235 = .ok (.if_icmp .ge 7, 3) := by decide +kernel
theorem dX4_minorOf_238 : decode cX4_minorOf 238 = .ok (.iconst 1, 1) := by decide +kernel
theorem dX4_minorOf_239 : decode cX4_minorOf 239 = .ok (.goto 4, 3) := by decide +kernel
theorem dX4_minorOf_242 : decode cX4_minorOf 242 = .ok (.iconst 0, 1) := by decide +kernel
theorem dX4_minorOf_243 : decode cX4_minorOf 243 = .ok (.bastore, 1) := by decide +kernel
theorem dX4_minorOf_244 : decode cX4_minorOf 244 = .ok (.iconst 0, 1) := by decide +kernel
theorem dX4_minorOf_245 : decode cX4_minorOf 245 = .ok (.istore 5, 2) := by decide +kernel
theorem dX4_minorOf_247 : decode cX4_minorOf 247 = .ok (.iconst 0, 1) := by decide +kernel
theorem dX4_minorOf_248 : decode cX4_minorOf 248 = .ok (.istore 6, 2) := by decide +kernel
theorem dX4_minorOf_250 : decode cX4_minorOf 250 = .ok (.iload 6, 2) := by decide +kernel
theorem dX4_minorOf_252 : decode cX4_minorOf 252 = .ok (.bipush 52, 2) := by decide +kernel
theorem dX4_minorOf_254 : decode cX4_minorOf 254 = .ok (.if_icmp .ge 85, 3) := by decide +kernel
theorem dX4_minorOf_257 : decode cX4_minorOf 257 = .ok (.aload_n 0, 1) := by decide +kernel
theorem dX4_minorOf_258 : decode cX4_minorOf 258 = .ok (.getfield 37, 3) := by decide +kernel
theorem dX4_minorOf_261 : decode cX4_minorOf 261 = .ok (.iload_n 1, 1) := by decide +kernel
theorem dX4_minorOf_262 : decode cX4_minorOf 262 = .ok (.baload, 1) := by decide +kernel
theorem dX4_minorOf_263 : decode cX4_minorOf 263 = .ok (.ifCond .eq 21, 3) := by decide +kernel
theorem dX4_minorOf_266 : decode cX4_minorOf 266 = .ok (.aload_n 0, 1) := by decide +kernel
theorem dX4_minorOf_267 : decode cX4_minorOf 267 = .ok (.getfield 46, 3) := by decide +kernel
theorem dX4_minorOf_270 : decode cX4_minorOf 270 = .ok (.iload 6, 2) := by decide +kernel
theorem dX4_minorOf_272 : decode cX4_minorOf 272 = .ok (.iaload, 1) := by decide +kernel
theorem dX4_minorOf_273 : decode cX4_minorOf 273 = .ok (.aload_n 0, 1) := by decide +kernel
theorem dX4_minorOf_274 : decode cX4_minorOf 274 = .ok (.getfield 43, 3) := by decide +kernel
theorem dX4_minorOf_277 : decode cX4_minorOf 277 = .ok (.iload 6, 2) := by decide +kernel
theorem dX4_minorOf_279 : decode cX4_minorOf 279 = .ok (.iaload, 1) := by decide +kernel
theorem dX4_minorOf_280 : decode cX4_minorOf 280 = .ok (.isub, 1) := by decide +kernel
theorem dX4_minorOf_281 : decode cX4_minorOf 281 = .ok (.goto 18, 3) := by decide +kernel
theorem dX4_minorOf_284 : decode cX4_minorOf 284 = .ok (.aload_n 0, 1) := by decide +kernel
theorem dX4_minorOf_285 : decode cX4_minorOf 285 = .ok (.getfield 43, 3) := by decide +kernel
theorem dX4_minorOf_288 : decode cX4_minorOf 288 = .ok (.iload 6, 2) := by decide +kernel
theorem dX4_minorOf_290 : decode cX4_minorOf 290 = .ok (.iaload, 1) := by decide +kernel
theorem dX4_minorOf_291 : decode cX4_minorOf 291 = .ok (.aload_n 0, 1) := by decide +kernel
theorem dX4_minorOf_292 : decode cX4_minorOf 292 = .ok (.getfield 46, 3) := by decide +kernel
theorem dX4_minorOf_295 : decode cX4_minorOf 295 = .ok (.iload 6, 2) := by decide +kernel
theorem dX4_minorOf_297 : decode cX4_minorOf 297 = .ok (.iaload, 1) := by decide +kernel
theorem dX4_minorOf_298 : decode cX4_minorOf 298 = .ok (.isub, 1) := by decide +kernel
theorem dX4_minorOf_299 : decode cX4_minorOf 299 = .ok (.iload 5, 2) := by decide +kernel
theorem dX4_minorOf_301 : decode cX4_minorOf 301 = .ok (.isub, 1) := by decide +kernel
theorem dX4_minorOf_302 : decode cX4_minorOf 302 = .ok (.istore 7, 2) := by decide +kernel
theorem dX4_minorOf_304 : decode cX4_minorOf 304 = .ok (.aload_n 0, 1) := by decide +kernel
theorem dX4_minorOf_305 : decode cX4_minorOf 305 = .ok (.getfield 34, 3) := by decide +kernel
theorem dX4_minorOf_308 : decode cX4_minorOf 308 = .ok (.bipush 52, 2) := by decide +kernel
theorem dX4_minorOf_310 : decode cX4_minorOf 310 = .ok (.iload_n 1, 1) := by decide +kernel
theorem dX4_minorOf_311 : decode cX4_minorOf 311 = .ok (.imul, 1) := by decide +kernel
theorem dX4_minorOf_312 : decode cX4_minorOf 312 = .ok (.iload 6, 2) := by decide +kernel
theorem dX4_minorOf_314 : decode cX4_minorOf 314 = .ok (.iadd, 1) := by decide +kernel
theorem dX4_minorOf_315 : decode cX4_minorOf 315 = .ok (.iload 7, 2) := by decide +kernel
theorem dX4_minorOf_317 : decode cX4_minorOf 317 = .ok (.ldc 80, 2) := by decide +kernel
theorem dX4_minorOf_319 : decode cX4_minorOf 319 = .ok (.iand, 1) := by decide +kernel
theorem dX4_minorOf_320 : decode cX4_minorOf 320 = .ok (.iastore, 1) := by decide +kernel
theorem dX4_minorOf_321 : decode cX4_minorOf 321 = .ok (.iload 7, 2) := by decide +kernel
theorem dX4_minorOf_323 : decode cX4_minorOf 323 = .ok (.ifCond .ge 7, 3) := by decide +kernel
theorem dX4_minorOf_326 : decode cX4_minorOf 326 = .ok (.iconst 1, 1) := by decide +kernel
theorem dX4_minorOf_327 : decode cX4_minorOf 327 = .ok (.goto 4, 3) := by decide +kernel
theorem dX4_minorOf_330 : decode cX4_minorOf 330 = .ok (.iconst 0, 1) := by decide +kernel
theorem dX4_minorOf_331 : decode cX4_minorOf 331 = .ok (.istore 5, 2) := by decide +kernel
theorem dX4_minorOf_333 : decode cX4_minorOf 333 = .ok (.iinc 6 1, 3) := by decide +kernel
theorem dX4_minorOf_336 : decode cX4_minorOf 336 = .ok (.goto (-86), 3) := by decide +kernel
theorem dX4_minorOf_339 : decode cX4_minorOf 339 = .ok (.return_, 1) := by decide +kernel
theorem dX4_determinant_0 : decode cX4_determinant 0 = .ok (.aload_n 0, 1) := by decide +kernel
theorem dX4_determinant_1 : decode cX4_determinant 1 = .ok (.iconst 0, 1) := by decide +kernel
theorem dX4_determinant_2 : decode cX4_determinant 2 = .ok (.putfield 49, 3) := by decide +kernel
theorem dX4_determinant_5 : decode cX4_determinant 5 = .ok (.iload_n 1, 1) := by decide +kernel
theorem dX4_determinant_6 : decode cX4_determinant 6 = .ok (.ifCond .lt 9, 3) := by decide +kernel
theorem dX4_determinant_9 : decode cX4_determinant 9 = .ok (.iload_n 1, 1) := by decide +kernel
theorem dX4_determinant_10 : decode cX4_determinant 10 = .ok (.bipush 12, 2) := by decide +kernel
theorem dX4_determinant_12 : decode cX4_determinant 12 = .ok (.if_icmp .le 5, 3) := by decide +kernel
theorem dX4_determinant_15 : decode cX4_determinant 15 = .ok (.iconst (-1), 1) := by decide +kernel
theorem dX4_determinant_16 : decode cX4_determinant 16 = .ok (.ireturn, 1) := by decide +kernel
theorem dX4_determinant_17 : decode cX4_determinant 17 = .ok (.iconst 0, 1) := by decide +kernel
theorem dX4_determinant_18 : decode cX4_determinant 18 = .ok (.istore_n 2, 1) := by decide +kernel
theorem dX4_determinant_19 : decode cX4_determinant 19 = .ok (.iload_n 2, 1) := by decide +kernel
theorem dX4_determinant_20 : decode cX4_determinant 20 = .ok (.bipush 52, 2) := by decide +kernel
theorem dX4_determinant_22 : decode cX4_determinant 22 = .ok (.if_icmp .ge 24, 3) := by decide +kernel
theorem dX4_determinant_25 : decode cX4_determinant 25 = .ok (.aload_n 0, 1) := by decide +kernel
theorem dX4_determinant_26 : decode cX4_determinant 26 = .ok (.getfield 34, 3) := by decide +kernel
theorem dX4_determinant_29 : decode cX4_determinant 29 = .ok (.iload_n 2, 1) := by decide +kernel
theorem dX4_determinant_30 : decode cX4_determinant 30 = .ok (.iload_n 2, 1) := by decide +kernel
theorem dX4_determinant_31 : decode cX4_determinant 31 = .ok (.ifCond .ne 7, 3) := by decide +kernel
theorem dX4_determinant_34 : decode cX4_determinant 34 = .ok (.iconst 1, 1) := by decide +kernel
theorem dX4_determinant_35 : decode cX4_determinant 35 = .ok (.goto 4, 3) := by decide +kernel
theorem dX4_determinant_38 : decode cX4_determinant 38 = .ok (.iconst 0, 1) := by decide +kernel
theorem dX4_determinant_39 : decode cX4_determinant 39 = .ok (.iastore, 1) := by decide +kernel
theorem dX4_determinant_40 : decode cX4_determinant 40 = .ok (.iinc 2 1, 3) := by decide +kernel
theorem dX4_determinant_43 : decode cX4_determinant 43 = .ok (.goto (-24), 3) := by decide +kernel
theorem dX4_determinant_46 : decode cX4_determinant 46 = .ok (.aload_n 0, 1) := by decide +kernel
theorem dX4_determinant_47 : decode cX4_determinant 47 = .ok (.getfield 37, 3) := by decide +kernel
theorem dX4_determinant_50 : decode cX4_determinant 50 = .ok (.iconst 0, 1) := by decide +kernel
theorem dX4_determinant_51 : decode cX4_determinant 51 = .ok (.iconst 0, 1) := by decide +kernel
theorem dX4_determinant_52 : decode cX4_determinant 52 = .ok (.bastore, 1) := by decide +kernel
theorem dX4_determinant_53 : decode cX4_determinant 53 = .ok (.iconst 1, 1) := by decide +kernel
theorem dX4_determinant_54 : decode cX4_determinant 54 = .ok (.istore_n 2, 1) := by decide +kernel
theorem dX4_determinant_55 : decode cX4_determinant 55 = .ok (.iload_n 2, 1) := by decide +kernel
theorem dX4_determinant_56 : decode cX4_determinant 56 = .ok (.iconst 1, 1) := by decide +kernel
theorem dX4_determinant_57 : decode cX4_determinant 57 = .ok (.iload_n 1, 1) := by decide +kernel
theorem dX4_determinant_58 : decode cX4_determinant 58 = .ok (.ishl, 1) := by decide +kernel
theorem dX4_determinant_59 : decode cX4_determinant 59 = .ok (.if_icmp .ge 14, 3) := by decide +kernel
theorem dX4_determinant_62 : decode cX4_determinant 62 = .ok (.aload_n 0, 1) := by decide +kernel
theorem dX4_determinant_63 : decode cX4_determinant 63 = .ok (.iload_n 2, 1) := by decide +kernel
theorem dX4_determinant_64 : decode cX4_determinant 64 = .ok (.invokevirtual 141, 3) := by decide +kernel
theorem dX4_determinant_67 : decode cX4_determinant 67 = .ok (.iinc 2 1, 3) := by decide +kernel
theorem dX4_determinant_70 : decode cX4_determinant 70 = .ok (.goto (-15), 3) := by decide +kernel
theorem dX4_determinant_73 : decode cX4_determinant 73 = .ok (.iconst 1, 1) := by decide +kernel
theorem dX4_determinant_74 : decode cX4_determinant 74 = .ok (.iload_n 1, 1) := by decide +kernel
theorem dX4_determinant_75 : decode cX4_determinant 75 = .ok (.ishl, 1) := by decide +kernel
theorem dX4_determinant_76 : decode cX4_determinant 76 = .ok (.iconst 1, 1) := by decide +kernel
theorem dX4_determinant_77 : decode cX4_determinant 77 = .ok (.isub, 1) := by decide +kernel
theorem dX4_determinant_78 : decode cX4_determinant 78 = .ok (.istore_n 2, 1) := by decide +kernel
theorem dX4_determinant_79 : decode cX4_determinant 79 = .ok (.aload_n 0, 1) := by decide +kernel
theorem dX4_determinant_80 : decode cX4_determinant 80 = .ok (.aload_n 0, 1) := by decide +kernel
theorem dX4_determinant_81 : decode cX4_determinant 81 = .ok (.getfield 24, 3) := by decide +kernel
theorem dX4_determinant_84 : decode cX4_determinant 84 = .ok (.invokevirtual 60, 3) := by decide +kernel
theorem dX4_determinant_87 : decode cX4_determinant 87 = .ok (.iconst 0, 1) := by decide +kernel
theorem dX4_determinant_88 : decode cX4_determinant 88 = .ok (.istore_n 3, 1) := by decide +kernel
theorem dX4_determinant_89 : decode cX4_determinant 89 = .ok (.iload_n 3, 1) := by decide +kernel
theorem dX4_determinant_90 : decode cX4_determinant 90 = .ok (.bipush 52, 2) := by decide +kernel
theorem dX4_determinant_92 : decode cX4_determinant 92 = .ok (.if_icmp .ge 26, 3) := by decide +kernel
theorem dX4_determinant_95 : decode cX4_determinant 95 = .ok (.aload_n 0, 1) := by decide +kernel
theorem dX4_determinant_96 : decode cX4_determinant 96 = .ok (.getfield 24, 3) := by decide +kernel
theorem dX4_determinant_99 : decode cX4_determinant 99 = .ok (.iload_n 3, 1) := by decide +kernel
theorem dX4_determinant_100 : decode cX4_determinant 100 = .ok (.aload_n 0, 1) := by decide +kernel
theorem dX4_determinant_101 : decode cX4_determinant 101 = .ok (.getfield 34, 3) := by decide +kernel
theorem dX4_determinant_104 : decode cX4_determinant 104 = .ok (.bipush 52, 2) := by decide +kernel
theorem dX4_determinant_106 : decode cX4_determinant 106 = .ok (.iload_n 2, 1) := by decide +kernel
theorem dX4_determinant_107 : decode cX4_determinant 107 = .ok (.imul, 1) := by decide +kernel
theorem dX4_determinant_108 : decode cX4_determinant 108 = .ok (.iload_n 3, 1) := by decide +kernel
theorem dX4_determinant_109 : decode cX4_determinant 109 = .ok (.iadd, 1) := by decide +kernel
theorem dX4_determinant_110 : decode cX4_determinant 110 = .ok (.iaload, 1) := by decide +kernel
theorem dX4_determinant_111 : decode cX4_determinant 111 = .ok (.iastore, 1) := by decide +kernel
theorem dX4_determinant_112 : decode cX4_determinant 112 = .ok (.iinc 3 1, 3) := by decide +kernel
theorem dX4_determinant_115 : decode cX4_determinant 115 = .ok (.goto (-26), 3) := by decide +kernel
theorem dX4_determinant_118 : decode cX4_determinant 118 = .ok (.aload_n 0, 1) := by decide +kernel
theorem dX4_determinant_119 : decode cX4_determinant 119 = .ok (.aload_n 0, 1) := by decide +kernel
theorem dX4_determinant_120 : decode cX4_determinant 120 = .ok (.getfield 24, 3) := by decide +kernel
theorem dX4_determinant_123 : decode cX4_determinant 123 = .ok (.bipush 52, 2) := by decide +kernel
theorem dX4_determinant_125 : decode cX4_determinant 125 = .ok (.invokestatic 72, 3) := by decide +kernel
theorem dX4_determinant_128 : decode cX4_determinant 128 = .ok (.putfield 64, 3) := by decide +kernel
theorem dX4_determinant_131 : decode cX4_determinant 131 = .ok (.aload_n 0, 1) := by decide +kernel
theorem dX4_determinant_132 : decode cX4_determinant 132 = .ok (.aload_n 0, 1) := by decide +kernel
theorem dX4_determinant_133 : decode cX4_determinant 133 = .ok (.getfield 37, 3) := by decide +kernel
theorem dX4_determinant_136 : decode cX4_determinant 136 = .ok (.iload_n 2, 1) := by decide +kernel
theorem dX4_determinant_137 : decode cX4_determinant 137 = .ok (.baload, 1) := by decide +kernel
theorem dX4_determinant_138 : decode cX4_determinant 138 = .ok (.invokevirtual 88, 3) := by decide +kernel
theorem dX4_determinant_141 : decode cX4_determinant 141 = .ok (.ireturn, 1) := by decide +kernel
end
section
theorem dL_add_0 : decode cL_add 0 = .ok (.aload_n 3, 1) := by decide +kernel
theorem dL_add_1 : decode cL_add 1 = .ok (.iconst 0, 1) := by decide +kernel
theorem dL_add_2 : decode cL_add 2 = .ok (.aload_n 0, 1) := by decide +kernel
theorem dL_add_3 : decode cL_add 3 = .ok (.iload_n 1, 1) := by decide +kernel
theorem dL_add_4 : decode cL_add 4 = .ok (.iload_n 2, 1) := by decide +kernel
theorem dL_add_5 : decode cL_add 5 = .ok (.invokevirtual 7, 3) := by decide +kernel
theorem dL_add_8 : decode cL_add 8 = .ok (.i2l, 1) := by decide +kernel
theorem dL_add_9 : decode cL_add 9 = .ok (.lastore, 1) := by decide +kernel
theorem dL_add_10 : decode cL_add 10 = .ok (.goto 7, 3) := by decide +kernel
theorem dL_add_13 : decode cL_add 13 = .ok (.astore 4, 2) := by decide +kernel
theorem dL_add_15 : decode cL_add 15 = .ok (.iconst 1, 1) := by decide +kernel
theorem dL_add_16 : decode cL_add 16 = .ok (.ireturn, 1) := by decide +kernel
theorem dL_add_17 : decode cL_add 17 = .ok (.iconst 0, 1) := by decide +kernel
theorem dL_add_18 : decode cL_add 18 = .ok (.ireturn, 1) := by decide +kernel
theorem dL_times_0 : decode cL_times 0 = .ok (.aload_n 3, 1) := by decide +kernel
theorem dL_times_1 : decode cL_times 1 = .ok (.iconst 0, 1) := by decide +kernel
theorem dL_times_2 : decode cL_times 2 = .ok (.aload_n 0, 1) := by decide +kernel
theorem dL_times_3 : decode cL_times 3 = .ok (.iload_n 1, 1) := by decide +kernel
theorem dL_times_4 : decode cL_times 4 = .ok (.iload_n 2, 1) := by decide +kernel
theorem dL_times_5 : decode cL_times 5 = .ok (.invokevirtual 15, 3) := by decide +kernel
theorem dL_times_8 : decode cL_times 8 = .ok (.i2l, 1) := by decide +kernel
theorem dL_times_9 : decode cL_times 9 = .ok (.lastore, 1) := by decide +kernel
theorem dL_times_10 : decode cL_times 10 = .ok (.goto 7, 3) := by decide +kernel
theorem dL_times_13 : decode cL_times 13 = .ok (.astore 4, 2) := by decide +kernel
theorem dL_times_15 : decode cL_times 15 = .ok (.iconst 1, 1) := by decide +kernel
theorem dL_times_16 : decode cL_times 16 = .ok (.ireturn, 1) := by decide +kernel
theorem dL_times_17 : decode cL_times 17 = .ok (.iconst 0, 1) := by decide +kernel
theorem dL_times_18 : decode cL_times 18 = .ok (.ireturn, 1) := by decide +kernel
theorem dL_over_0 : decode cL_over 0 = .ok (.aload_n 3, 1) := by decide +kernel
theorem dL_over_1 : decode cL_over 1 = .ok (.iconst 0, 1) := by decide +kernel
theorem dL_over_2 : decode cL_over 2 = .ok (.aload_n 0, 1) := by decide +kernel
theorem dL_over_3 : decode cL_over 3 = .ok (.iload_n 1, 1) := by decide +kernel
theorem dL_over_4 : decode cL_over 4 = .ok (.iload_n 2, 1) := by decide +kernel
theorem dL_over_5 : decode cL_over 5 = .ok (.invokevirtual 18, 3) := by decide +kernel
theorem dL_over_8 : decode cL_over 8 = .ok (.i2l, 1) := by decide +kernel
theorem dL_over_9 : decode cL_over 9 = .ok (.lastore, 1) := by decide +kernel
theorem dL_over_10 : decode cL_over 10 = .ok (.goto 11, 3) := by decide +kernel
theorem dL_over_13 : decode cL_over 13 = .ok (.astore 4, 2) := by decide +kernel
theorem dL_over_15 : decode cL_over 15 = .ok (.iconst 1, 1) := by decide +kernel
theorem dL_over_16 : decode cL_over 16 = .ok (.ireturn, 1) := by decide +kernel
theorem dL_over_17 : decode cL_over 17 = .ok (.astore 4, 2) := by decide +kernel
theorem dL_over_19 : decode cL_over 19 = .ok (.iconst 2, 1) := by decide +kernel
theorem dL_over_20 : decode cL_over 20 = .ok (.ireturn, 1) := by decide +kernel
theorem dL_over_21 : decode cL_over 21 = .ok (.iconst 0, 1) := by decide +kernel
theorem dL_over_22 : decode cL_over 22 = .ok (.ireturn, 1) := by decide +kernel
theorem dL_power_0 : decode cL_power 0 = .ok (.aload_n 3, 1) := by decide +kernel
theorem dL_power_1 : decode cL_power 1 = .ok (.iconst 0, 1) := by decide +kernel
theorem dL_power_2 : decode cL_power 2 = .ok (.aload_n 0, 1) := by decide +kernel
theorem dL_power_3 : decode cL_power 3 = .ok (.iload_n 1, 1) := by decide +kernel
theorem dL_power_4 : decode cL_power 4 = .ok (.iload_n 2, 1) := by decide +kernel
theorem dL_power_5 : decode cL_power 5 = .ok (.invokevirtual 23, 3) := by decide +kernel
theorem dL_power_8 : decode cL_power 8 = .ok (.i2l, 1) := by decide +kernel
theorem dL_power_9 : decode cL_power 9 = .ok (.lastore, 1) := by decide +kernel
theorem dL_power_10 : decode cL_power 10 = .ok (.goto 7, 3) := by decide +kernel
theorem dL_power_13 : decode cL_power 13 = .ok (.astore 4, 2) := by decide +kernel
theorem dL_power_15 : decode cL_power 15 = .ok (.iconst 1, 1) := by decide +kernel
theorem dL_power_16 : decode cL_power 16 = .ok (.ireturn, 1) := by decide +kernel
theorem dL_power_17 : decode cL_power 17 = .ok (.iconst 0, 1) := by decide +kernel
theorem dL_power_18 : decode cL_power 18 = .ok (.ireturn, 1) := by decide +kernel
theorem dL_order_0 : decode cL_order 0 = .ok (.aload_n 3, 1) := by decide +kernel
theorem dL_order_1 : decode cL_order 1 = .ok (.iconst 0, 1) := by decide +kernel
theorem dL_order_2 : decode cL_order 2 = .ok (.aload_n 0, 1) := by decide +kernel
theorem dL_order_3 : decode cL_order 3 = .ok (.iload_n 1, 1) := by decide +kernel
theorem dL_order_4 : decode cL_order 4 = .ok (.iload_n 2, 1) := by decide +kernel
theorem dL_order_5 : decode cL_order 5 = .ok (.invokevirtual 26, 3) := by decide +kernel
theorem dL_order_8 : decode cL_order 8 = .ok (.i2l, 1) := by decide +kernel
theorem dL_order_9 : decode cL_order 9 = .ok (.lastore, 1) := by decide +kernel
theorem dL_order_10 : decode cL_order 10 = .ok (.goto 7, 3) := by decide +kernel
theorem dL_order_13 : decode cL_order 13 = .ok (.astore 4, 2) := by decide +kernel
theorem dL_order_15 : decode cL_order 15 = .ok (.iconst 1, 1) := by decide +kernel
theorem dL_order_16 : decode cL_order 16 = .ok (.ireturn, 1) := by decide +kernel
theorem dL_order_17 : decode cL_order 17 = .ok (.iconst 0, 1) := by decide +kernel
theorem dL_order_18 : decode cL_order 18 = .ok (.ireturn, 1) := by decide +kernel
theorem dL_digit_0 : decode cL_digit 0 = .ok (.aload_n 3, 1) := by decide +kernel
theorem dL_digit_1 : decode cL_digit 1 = .ok (.iconst 0, 1) := by decide +kernel
theorem dL_digit_2 : decode cL_digit 2 = .ok (.aload_n 0, 1) := by decide +kernel
theorem dL_digit_3 : decode cL_digit 3 = .ok (.iload_n 1, 1) := by decide +kernel
theorem dL_digit_4 : decode cL_digit 4 = .ok (.iload_n 2, 1) := by decide +kernel
theorem dL_digit_5 : decode cL_digit 5 = .ok (.invokevirtual 29, 3) := by decide +kernel
theorem dL_digit_8 : decode cL_digit 8 = .ok (.i2l, 1) := by decide +kernel
theorem dL_digit_9 : decode cL_digit 9 = .ok (.lastore, 1) := by decide +kernel
theorem dL_digit_10 : decode cL_digit 10 = .ok (.goto 7, 3) := by decide +kernel
theorem dL_digit_13 : decode cL_digit 13 = .ok (.astore 4, 2) := by decide +kernel
theorem dL_digit_15 : decode cL_digit 15 = .ok (.iconst 1, 1) := by decide +kernel
theorem dL_digit_16 : decode cL_digit 16 = .ok (.ireturn, 1) := by decide +kernel
theorem dL_digit_17 : decode cL_digit 17 = .ok (.iconst 0, 1) := by decide +kernel
theorem dL_digit_18 : decode cL_digit 18 = .ok (.ireturn, 1) := by decide +kernel
theorem dL_residue_0 : decode cL_residue 0 = .ok (.aload 4, 2) := by decide +kernel
theorem dL_residue_2 : decode cL_residue 2 = .ok (.iconst 0, 1) := by decide +kernel
theorem dL_residue_3 : decode cL_residue 3 = .ok (.aload_n 0, 1) := by decide +kernel
theorem dL_residue_4 : decode cL_residue 4 = .ok (.iload_n 1, 1) := by decide +kernel
theorem dL_residue_5 : decode cL_residue 5 = .ok (.lload_n 2, 1) := by decide +kernel
theorem dL_residue_6 : decode cL_residue 6 = .ok (.invokevirtual 32, 3) := by decide +kernel
theorem dL_residue_9 : decode cL_residue 9 = .ok (.lastore, 1) := by decide +kernel
theorem dL_residue_10 : decode cL_residue 10 = .ok (.goto 11, 3) := by decide +kernel
theorem dL_residue_13 : decode cL_residue 13 = .ok (.astore 5, 2) := by decide +kernel
theorem dL_residue_15 : decode cL_residue 15 = .ok (.iconst 1, 1) := by decide +kernel
theorem dL_residue_16 : decode cL_residue 16 = .ok (.ireturn, 1) := by decide +kernel
theorem dL_residue_17 : decode cL_residue 17 = .ok (.astore 5, 2) := by decide +kernel
theorem dL_residue_19 : decode cL_residue 19 = .ok (.iconst 2, 1) := by decide +kernel
theorem dL_residue_20 : decode cL_residue 20 = .ok (.ireturn, 1) := by decide +kernel
theorem dL_residue_21 : decode cL_residue 21 = .ok (.iconst 0, 1) := by decide +kernel
theorem dL_residue_22 : decode cL_residue 22 = .ok (.ireturn, 1) := by decide +kernel
theorem dL_law_0 : decode cL_law 0 = .ok (.new 8, 3) := by decide +kernel
theorem dL_law_3 : decode cL_law 3 = .ok (.dup, 1) := by decide +kernel
theorem dL_law_4 : decode cL_law 4 = .ok (.invokespecial 36, 3) := by decide +kernel
theorem dL_law_7 : decode cL_law 7 = .ok (.astore_n 1, 1) := by decide +kernel
theorem dL_law_8 : decode cL_law 8 = .ok (.new 37, 3) := by decide +kernel
theorem dL_law_11 : decode cL_law 11 = .ok (.dup, 1) := by decide +kernel
theorem dL_law_12 : decode cL_law 12 = .ok (.invokespecial 39, 3) := by decide +kernel
theorem dL_law_15 : decode cL_law 15 = .ok (.astore_n 2, 1) := by decide +kernel
theorem dL_law_16 : decode cL_law 16 = .ok (.iconst 1, 1) := by decide +kernel
theorem dL_law_17 : decode cL_law 17 = .ok (.newarray .long, 2) := by decide +kernel
theorem dL_law_19 : decode cL_law 19 = .ok (.astore_n 3, 1) := by decide +kernel
theorem dL_law_20 : decode cL_law 20 = .ok (.iconst 0, 1) := by decide +kernel
theorem dL_law_21 : decode cL_law 21 = .ok (.istore 4, 2) := by decide +kernel
theorem dL_law_23 : decode cL_law 23 = .ok (.iload 4, 2) := by decide +kernel
theorem dL_law_25 : decode cL_law 25 = .ok (.aload_n 0, 1) := by decide +kernel
theorem dL_law_26 : decode cL_law 26 = .ok (.arraylength, 1) := by decide +kernel
theorem dL_law_27 : decode cL_law 27 = .ok (.iconst 5, 1) := by decide +kernel
theorem dL_law_28 : decode cL_law 28 = .ok (.isub, 1) := by decide +kernel
theorem dL_law_29 : decode cL_law 29 = .ok (.if_icmp .gt 826, 3) := by decide +kernel
theorem dL_law_32 : decode cL_law 32 = .ok (.aload_n 0, 1) := by decide +kernel
theorem dL_law_33 : decode cL_law 33 = .ok (.iload 4, 2) := by decide +kernel
theorem dL_law_35 : decode cL_law 35 = .ok (.iaload, 1) := by decide +kernel
theorem dL_law_36 : decode cL_law 36 = .ok (.bipush 15, 2) := by decide +kernel
theorem dL_law_38 : decode cL_law 38 = .ok (.iand, 1) := by decide +kernel
theorem dL_law_39 : decode cL_law 39 = .ok (.tableswitch 810 0 12 #[65, 122, 190, 258, 326, 394, 431, 456, 524, 592, 673, 698, 797], 65) := by decide +kernel
theorem dL_law_104 : decode cL_law 104 = .ok (.aload_n 1, 1) := by decide +kernel
theorem dL_law_105 : decode cL_law 105 = .ok (.aload_n 0, 1) := by decide +kernel
theorem dL_law_106 : decode cL_law 106 = .ok (.iload 4, 2) := by decide +kernel
theorem dL_law_108 : decode cL_law 108 = .ok (.iconst 1, 1) := by decide +kernel
theorem dL_law_109 : decode cL_law 109 = .ok (.iadd, 1) := by decide +kernel
theorem dL_law_110 : decode cL_law 110 = .ok (.iaload, 1) := by decide +kernel
theorem dL_law_111 : decode cL_law 111 = .ok (.i2l, 1) := by decide +kernel
theorem dL_law_112 : decode cL_law 112 = .ok (.bipush 32, 2) := by decide +kernel
theorem dL_law_114 : decode cL_law 114 = .ok (.lshl, 1) := by decide +kernel
theorem dL_law_115 : decode cL_law 115 = .ok (.aload_n 0, 1) := by decide +kernel
theorem dL_law_116 : decode cL_law 116 = .ok (.iload 4, 2) := by decide +kernel
theorem dL_law_118 : decode cL_law 118 = .ok (.iconst 2, 1) := by decide +kernel
theorem dL_law_119 : decode cL_law 119 = .ok (.iadd, 1) := by decide +kernel
theorem dL_law_120 : decode cL_law 120 = .ok (.iaload, 1) := by decide +kernel
theorem dL_law_121 : decode cL_law 121 = .ok (.i2l, 1) := by decide +kernel
theorem dL_law_122 : decode cL_law 122 = .ok (.ldc2_w 40, 3) := by decide +kernel
theorem dL_law_125 : decode cL_law 125 = .ok (.land, 1) := by decide +kernel
theorem dL_law_126 : decode cL_law 126 = .ok (.lor, 1) := by decide +kernel
theorem dL_law_127 : decode cL_law 127 = .ok (.invokevirtual 42, 3) := by decide +kernel
theorem dL_law_130 : decode cL_law 130 = .ok (.aload_n 2, 1) := by decide +kernel
theorem dL_law_131 : decode cL_law 131 = .ok (.aload_n 0, 1) := by decide +kernel
theorem dL_law_132 : decode cL_law 132 = .ok (.iload 4, 2) := by decide +kernel
theorem dL_law_134 : decode cL_law 134 = .ok (.iconst 1, 1) := by decide +kernel
theorem dL_law_135 : decode cL_law 135 = .ok (.iadd, 1) := by decide +kernel
theorem dL_law_136 : decode cL_law 136 = .ok (.iaload, 1) := by decide +kernel
theorem dL_law_137 : decode cL_law 137 = .ok (.i2l, 1) := by decide +kernel
theorem dL_law_138 : decode cL_law 138 = .ok (.bipush 32, 2) := by decide +kernel
theorem dL_law_140 : decode cL_law 140 = .ok (.lshl, 1) := by decide +kernel
theorem dL_law_141 : decode cL_law 141 = .ok (.aload_n 0, 1) := by decide +kernel
theorem dL_law_142 : decode cL_law 142 = .ok (.iload 4, 2) := by decide +kernel
theorem dL_law_144 : decode cL_law 144 = .ok (.iconst 2, 1) := by decide +kernel
theorem dL_law_145 : decode cL_law 145 = .ok (.iadd, 1) := by decide +kernel
theorem dL_law_146 : decode cL_law 146 = .ok (.iaload, 1) := by decide +kernel
theorem dL_law_147 : decode cL_law 147 = .ok (.i2l, 1) := by decide +kernel
theorem dL_law_148 : decode cL_law 148 = .ok (.ldc2_w 40, 3) := by decide +kernel
theorem dL_law_151 : decode cL_law 151 = .ok (.land, 1) := by decide +kernel
theorem dL_law_152 : decode cL_law 152 = .ok (.lor, 1) := by decide +kernel
theorem dL_law_153 : decode cL_law 153 = .ok (.invokevirtual 46, 3) := by decide +kernel
theorem dL_law_156 : decode cL_law 156 = .ok (.if_icmp .eq 693, 3) := by decide +kernel
theorem dL_law_159 : decode cL_law 159 = .ok (.iconst 0, 1) := by decide +kernel
theorem dL_law_160 : decode cL_law 160 = .ok (.ireturn, 1) := by decide +kernel
theorem dL_law_161 : decode cL_law 161 = .ok (.aload_n 1, 1) := by decide +kernel
theorem dL_law_162 : decode cL_law 162 = .ok (.aload_n 0, 1) := by decide +kernel
theorem dL_law_163 : decode cL_law 163 = .ok (.iload 4, 2) := by decide +kernel
theorem dL_law_165 : decode cL_law 165 = .ok (.iconst 1, 1) := by decide +kernel
theorem dL_law_166 : decode cL_law 166 = .ok (.iadd, 1) := by decide +kernel
theorem dL_law_167 : decode cL_law 167 = .ok (.iaload, 1) := by decide +kernel
theorem dL_law_168 : decode cL_law 168 = .ok (.aload_n 0, 1) := by decide +kernel
theorem dL_law_169 : decode cL_law 169 = .ok (.iload 4, 2) := by decide +kernel
theorem dL_law_171 : decode cL_law 171 = .ok (.iconst 2, 1) := by decide +kernel
theorem dL_law_172 : decode cL_law 172 = .ok (.iadd, 1) := by decide +kernel
theorem dL_law_173 : decode cL_law 173 = .ok (.iaload, 1) := by decide +kernel
theorem dL_law_174 : decode cL_law 174 = .ok (.aload_n 3, 1) := by decide +kernel
theorem dL_law_175 : decode cL_law 175 = .ok (.invokestatic 47, 3) := by decide +kernel
theorem dL_law_178 : decode cL_law 178 = .ok (.istore 5, 2) := by decide +kernel
theorem dL_law_180 : decode cL_law 180 = .ok (.aload_n 2, 1) := by decide +kernel
theorem dL_law_181 : decode cL_law 181 = .ok (.aload_n 0, 1) := by decide +kernel
theorem dL_law_182 : decode cL_law 182 = .ok (.iload 4, 2) := by decide +kernel
theorem dL_law_184 : decode cL_law 184 = .ok (.iconst 1, 1) := by decide +kernel
theorem dL_law_185 : decode cL_law 185 = .ok (.iadd, 1) := by decide +kernel
theorem dL_law_186 : decode cL_law 186 = .ok (.iaload, 1) := by decide +kernel
theorem dL_law_187 : decode cL_law 187 = .ok (.aload_n 0, 1) := by decide +kernel
theorem dL_law_188 : decode cL_law 188 = .ok (.iload 4, 2) := by decide +kernel
theorem dL_law_190 : decode cL_law 190 = .ok (.iconst 2, 1) := by decide +kernel
theorem dL_law_191 : decode cL_law 191 = .ok (.iadd, 1) := by decide +kernel
theorem dL_law_192 : decode cL_law 192 = .ok (.iaload, 1) := by decide +kernel
theorem dL_law_193 : decode cL_law 193 = .ok (.invokevirtual 52, 3) := by decide +kernel
theorem dL_law_196 : decode cL_law 196 = .ok (.istore 6, 2) := by decide +kernel
theorem dL_law_198 : decode cL_law 198 = .ok (.aload_n 2, 1) := by decide +kernel
theorem dL_law_199 : decode cL_law 199 = .ok (.invokevirtual 53, 3) := by decide +kernel
theorem dL_law_202 : decode cL_law 202 = .ok (.iload 5, 2) := by decide +kernel
theorem dL_law_204 : decode cL_law 204 = .ok (.if_icmp .eq 5, 3) := by decide +kernel
theorem dL_law_207 : decode cL_law 207 = .ok (.iconst 0, 1) := by decide +kernel
theorem dL_law_208 : decode cL_law 208 = .ok (.ireturn, 1) := by decide +kernel
theorem dL_law_209 : decode cL_law 209 = .ok (.iload 5, 2) := by decide +kernel
theorem dL_law_211 : decode cL_law 211 = .ok (.ifCond .ne 15, 3) := by decide +kernel
theorem dL_law_214 : decode cL_law 214 = .ok (.aload_n 3, 1) := by decide +kernel
theorem dL_law_215 : decode cL_law 215 = .ok (.iconst 0, 1) := by decide +kernel
theorem dL_law_216 : decode cL_law 216 = .ok (.laload, 1) := by decide +kernel
theorem dL_law_217 : decode cL_law 217 = .ok (.iload 6, 2) := by decide +kernel
theorem dL_law_219 : decode cL_law 219 = .ok (.i2l, 1) := by decide +kernel
theorem dL_law_220 : decode cL_law 220 = .ok (.lcmp, 1) := by decide +kernel
theorem dL_law_221 : decode cL_law 221 = .ok (.ifCond .eq 5, 3) := by decide +kernel
theorem dL_law_224 : decode cL_law 224 = .ok (.iconst 0, 1) := by decide +kernel
theorem dL_law_225 : decode cL_law 225 = .ok (.ireturn, 1) := by decide +kernel
theorem dL_law_226 : decode cL_law 226 = .ok (.goto 623, 3) := by decide +kernel
theorem dL_law_229 : decode cL_law 229 = .ok (.aload_n 1, 1) := by decide +kernel
theorem dL_law_230 : decode cL_law 230 = .ok (.aload_n 0, 1) := by decide +kernel
theorem dL_law_231 : decode cL_law 231 = .ok (.iload 4, 2) := by decide +kernel
theorem dL_law_233 : decode cL_law 233 = .ok (.iconst 1, 1) := by decide +kernel
theorem dL_law_234 : decode cL_law 234 = .ok (.iadd, 1) := by decide +kernel
theorem dL_law_235 : decode cL_law 235 = .ok (.iaload, 1) := by decide +kernel
theorem dL_law_236 : decode cL_law 236 = .ok (.aload_n 0, 1) := by decide +kernel
theorem dL_law_237 : decode cL_law 237 = .ok (.iload 4, 2) := by decide +kernel
theorem dL_law_239 : decode cL_law 239 = .ok (.iconst 2, 1) := by decide +kernel
theorem dL_law_240 : decode cL_law 240 = .ok (.iadd, 1) := by decide +kernel
theorem dL_law_241 : decode cL_law 241 = .ok (.iaload, 1) := by decide +kernel
theorem dL_law_242 : decode cL_law 242 = .ok (.aload_n 3, 1) := by decide +kernel
theorem dL_law_243 : decode cL_law 243 = .ok (.invokestatic 57, 3) := by decide +kernel
theorem dL_law_246 : decode cL_law 246 = .ok (.istore 5, 2) := by decide +kernel
theorem dL_law_248 : decode cL_law 248 = .ok (.aload_n 2, 1) := by decide +kernel
theorem dL_law_249 : decode cL_law 249 = .ok (.aload_n 0, 1) := by decide +kernel
theorem dL_law_250 : decode cL_law 250 = .ok (.iload 4, 2) := by decide +kernel
theorem dL_law_252 : decode cL_law 252 = .ok (.iconst 1, 1) := by decide +kernel
theorem dL_law_253 : decode cL_law 253 = .ok (.iadd, 1) := by decide +kernel
theorem dL_law_254 : decode cL_law 254 = .ok (.iaload, 1) := by decide +kernel
theorem dL_law_255 : decode cL_law 255 = .ok (.aload_n 0, 1) := by decide +kernel
theorem dL_law_256 : decode cL_law 256 = .ok (.iload 4, 2) := by decide +kernel
theorem dL_law_258 : decode cL_law 258 = .ok (.iconst 2, 1) := by decide +kernel
theorem dL_law_259 : decode cL_law 259 = .ok (.iadd, 1) := by decide +kernel
theorem dL_law_260 : decode cL_law 260 = .ok (.iaload, 1) := by decide +kernel
theorem dL_law_261 : decode cL_law 261 = .ok (.invokevirtual 59, 3) := by decide +kernel
theorem dL_law_264 : decode cL_law 264 = .ok (.istore 6, 2) := by decide +kernel
theorem dL_law_266 : decode cL_law 266 = .ok (.aload_n 2, 1) := by decide +kernel
theorem dL_law_267 : decode cL_law 267 = .ok (.invokevirtual 53, 3) := by decide +kernel
theorem dL_law_270 : decode cL_law 270 = .ok (.iload 5, 2) := by decide +kernel
theorem dL_law_272 : decode cL_law 272 = .ok (.if_icmp .eq 5, 3) := by decide +kernel
theorem dL_law_275 : decode cL_law 275 = .ok (.iconst 0, 1) := by decide +kernel
theorem dL_law_276 : decode cL_law 276 = .ok (.ireturn, 1) := by decide +kernel
theorem dL_law_277 : decode cL_law 277 = .ok (.iload 5, 2) := by decide +kernel
theorem dL_law_279 : decode cL_law 279 = .ok (.ifCond .ne 15, 3) := by decide +kernel
theorem dL_law_282 : decode cL_law 282 = .ok (.aload_n 3, 1) := by decide +kernel
theorem dL_law_283 : decode cL_law 283 = .ok (.iconst 0, 1) := by decide +kernel
theorem dL_law_284 : decode cL_law 284 = .ok (.laload, 1) := by decide +kernel
theorem dL_law_285 : decode cL_law 285 = .ok (.iload 6, 2) := by decide +kernel
theorem dL_law_287 : decode cL_law 287 = .ok (.i2l, 1) := by decide +kernel
theorem dL_law_288 : decode cL_law 288 = .ok (.lcmp, 1) := by decide +kernel
theorem dL_law_289 : decode cL_law 289 = .ok (.ifCond .eq 5, 3) := by decide +kernel
theorem dL_law_292 : decode cL_law 292 = .ok (.iconst 0, 1) := by decide +kernel
theorem dL_law_293 : decode cL_law 293 = .ok (.ireturn, 1) := by decide +kernel
theorem dL_law_294 : decode cL_law 294 = .ok (.goto 555, 3) := by decide +kernel
theorem dL_law_297 : decode cL_law 297 = .ok (.aload_n 1, 1) := by decide +kernel
theorem dL_law_298 : decode cL_law 298 = .ok (.aload_n 0, 1) := by decide +kernel
theorem dL_law_299 : decode cL_law 299 = .ok (.iload 4, 2) := by decide +kernel
theorem dL_law_301 : decode cL_law 301 = .ok (.iconst 1, 1) := by decide +kernel
theorem dL_law_302 : decode cL_law 302 = .ok (.iadd, 1) := by decide +kernel
theorem dL_law_303 : decode cL_law 303 = .ok (.iaload, 1) := by decide +kernel
theorem dL_law_304 : decode cL_law 304 = .ok (.aload_n 0, 1) := by decide +kernel
theorem dL_law_305 : decode cL_law 305 = .ok (.iload 4, 2) := by decide +kernel
theorem dL_law_307 : decode cL_law 307 = .ok (.iconst 2, 1) := by decide +kernel
theorem dL_law_308 : decode cL_law 308 = .ok (.iadd, 1) := by decide +kernel
theorem dL_law_309 : decode cL_law 309 = .ok (.iaload, 1) := by decide +kernel
theorem dL_law_310 : decode cL_law 310 = .ok (.aload_n 3, 1) := by decide +kernel
theorem dL_law_311 : decode cL_law 311 = .ok (.invokestatic 60, 3) := by decide +kernel
theorem dL_law_314 : decode cL_law 314 = .ok (.istore 5, 2) := by decide +kernel
theorem dL_law_316 : decode cL_law 316 = .ok (.aload_n 2, 1) := by decide +kernel
theorem dL_law_317 : decode cL_law 317 = .ok (.aload_n 0, 1) := by decide +kernel
theorem dL_law_318 : decode cL_law 318 = .ok (.iload 4, 2) := by decide +kernel
theorem dL_law_320 : decode cL_law 320 = .ok (.iconst 1, 1) := by decide +kernel
theorem dL_law_321 : decode cL_law 321 = .ok (.iadd, 1) := by decide +kernel
theorem dL_law_322 : decode cL_law 322 = .ok (.iaload, 1) := by decide +kernel
theorem dL_law_323 : decode cL_law 323 = .ok (.aload_n 0, 1) := by decide +kernel
theorem dL_law_324 : decode cL_law 324 = .ok (.iload 4, 2) := by decide +kernel
theorem dL_law_326 : decode cL_law 326 = .ok (.iconst 2, 1) := by decide +kernel
theorem dL_law_327 : decode cL_law 327 = .ok (.iadd, 1) := by decide +kernel
theorem dL_law_328 : decode cL_law 328 = .ok (.iaload, 1) := by decide +kernel
theorem dL_law_329 : decode cL_law 329 = .ok (.invokevirtual 62, 3) := by decide +kernel
theorem dL_law_332 : decode cL_law 332 = .ok (.istore 6, 2) := by decide +kernel
theorem dL_law_334 : decode cL_law 334 = .ok (.aload_n 2, 1) := by decide +kernel
theorem dL_law_335 : decode cL_law 335 = .ok (.invokevirtual 53, 3) := by decide +kernel
theorem dL_law_338 : decode cL_law 338 = .ok (.iload 5, 2) := by decide +kernel
theorem dL_law_340 : decode cL_law 340 = .ok (.if_icmp .eq 5, 3) := by decide +kernel
theorem dL_law_343 : decode cL_law 343 = .ok (.iconst 0, 1) := by decide +kernel
theorem dL_law_344 : decode cL_law 344 = .ok (.ireturn, 1) := by decide +kernel
theorem dL_law_345 : decode cL_law 345 = .ok (.iload 5, 2) := by decide +kernel
theorem dL_law_347 : decode cL_law 347 = .ok (.ifCond .ne 15, 3) := by decide +kernel
theorem dL_law_350 : decode cL_law 350 = .ok (.aload_n 3, 1) := by decide +kernel
theorem dL_law_351 : decode cL_law 351 = .ok (.iconst 0, 1) := by decide +kernel
theorem dL_law_352 : decode cL_law 352 = .ok (.laload, 1) := by decide +kernel
theorem dL_law_353 : decode cL_law 353 = .ok (.iload 6, 2) := by decide +kernel
theorem dL_law_355 : decode cL_law 355 = .ok (.i2l, 1) := by decide +kernel
theorem dL_law_356 : decode cL_law 356 = .ok (.lcmp, 1) := by decide +kernel
theorem dL_law_357 : decode cL_law 357 = .ok (.ifCond .eq 5, 3) := by decide +kernel
theorem dL_law_360 : decode cL_law 360 = .ok (.iconst 0, 1) := by decide +kernel
theorem dL_law_361 : decode cL_law 361 = .ok (.ireturn, 1) := by decide +kernel
theorem dL_law_362 : decode cL_law 362 = .ok (.goto 487, 3) := by decide +kernel
theorem dL_law_365 : decode cL_law 365 = .ok (.aload_n 1, 1) := by decide +kernel
theorem dL_law_366 : decode cL_law 366 = .ok (.aload_n 0, 1) := by decide +kernel
theorem dL_law_367 : decode cL_law 367 = .ok (.iload 4, 2) := by decide +kernel
theorem dL_law_369 : decode cL_law 369 = .ok (.iconst 1, 1) := by decide +kernel
theorem dL_law_370 : decode cL_law 370 = .ok (.iadd, 1) := by decide +kernel
theorem dL_law_371 : decode cL_law 371 = .ok (.iaload, 1) := by decide +kernel
theorem dL_law_372 : decode cL_law 372 = .ok (.aload_n 0, 1) := by decide +kernel
theorem dL_law_373 : decode cL_law 373 = .ok (.iload 4, 2) := by decide +kernel
theorem dL_law_375 : decode cL_law 375 = .ok (.iconst 2, 1) := by decide +kernel
theorem dL_law_376 : decode cL_law 376 = .ok (.iadd, 1) := by decide +kernel
theorem dL_law_377 : decode cL_law 377 = .ok (.iaload, 1) := by decide +kernel
theorem dL_law_378 : decode cL_law 378 = .ok (.aload_n 3, 1) := by decide +kernel
theorem dL_law_379 : decode cL_law 379 = .ok (.invokestatic 63, 3) := by decide +kernel
theorem dL_law_382 : decode cL_law 382 = .ok (.istore 5, 2) := by decide +kernel
theorem dL_law_384 : decode cL_law 384 = .ok (.aload_n 2, 1) := by decide +kernel
theorem dL_law_385 : decode cL_law 385 = .ok (.aload_n 0, 1) := by decide +kernel
theorem dL_law_386 : decode cL_law 386 = .ok (.iload 4, 2) := by decide +kernel
theorem dL_law_388 : decode cL_law 388 = .ok (.iconst 1, 1) := by decide +kernel
theorem dL_law_389 : decode cL_law 389 = .ok (.iadd, 1) := by decide +kernel
theorem dL_law_390 : decode cL_law 390 = .ok (.iaload, 1) := by decide +kernel
theorem dL_law_391 : decode cL_law 391 = .ok (.aload_n 0, 1) := by decide +kernel
theorem dL_law_392 : decode cL_law 392 = .ok (.iload 4, 2) := by decide +kernel
theorem dL_law_394 : decode cL_law 394 = .ok (.iconst 2, 1) := by decide +kernel
theorem dL_law_395 : decode cL_law 395 = .ok (.iadd, 1) := by decide +kernel
theorem dL_law_396 : decode cL_law 396 = .ok (.iaload, 1) := by decide +kernel
theorem dL_law_397 : decode cL_law 397 = .ok (.invokevirtual 65, 3) := by decide +kernel
theorem dL_law_400 : decode cL_law 400 = .ok (.istore 6, 2) := by decide +kernel
theorem dL_law_402 : decode cL_law 402 = .ok (.aload_n 2, 1) := by decide +kernel
theorem dL_law_403 : decode cL_law 403 = .ok (.invokevirtual 53, 3) := by decide +kernel
theorem dL_law_406 : decode cL_law 406 = .ok (.iload 5, 2) := by decide +kernel
theorem dL_law_408 : decode cL_law 408 = .ok (.if_icmp .eq 5, 3) := by decide +kernel
theorem dL_law_411 : decode cL_law 411 = .ok (.iconst 0, 1) := by decide +kernel
theorem dL_law_412 : decode cL_law 412 = .ok (.ireturn, 1) := by decide +kernel
theorem dL_law_413 : decode cL_law 413 = .ok (.iload 5, 2) := by decide +kernel
theorem dL_law_415 : decode cL_law 415 = .ok (.ifCond .ne 15, 3) := by decide +kernel
theorem dL_law_418 : decode cL_law 418 = .ok (.aload_n 3, 1) := by decide +kernel
theorem dL_law_419 : decode cL_law 419 = .ok (.iconst 0, 1) := by decide +kernel
theorem dL_law_420 : decode cL_law 420 = .ok (.laload, 1) := by decide +kernel
theorem dL_law_421 : decode cL_law 421 = .ok (.iload 6, 2) := by decide +kernel
theorem dL_law_423 : decode cL_law 423 = .ok (.i2l, 1) := by decide +kernel
theorem dL_law_424 : decode cL_law 424 = .ok (.lcmp, 1) := by decide +kernel
theorem dL_law_425 : decode cL_law 425 = .ok (.ifCond .eq 5, 3) := by decide +kernel
theorem dL_law_428 : decode cL_law 428 = .ok (.iconst 0, 1) := by decide +kernel
theorem dL_law_429 : decode cL_law 429 = .ok (.ireturn, 1) := by decide +kernel
theorem dL_law_430 : decode cL_law 430 = .ok (.goto 419, 3) := by decide +kernel
theorem dL_law_433 : decode cL_law 433 = .ok (.aload_n 1, 1) := by decide +kernel
theorem dL_law_434 : decode cL_law 434 = .ok (.aload_n 0, 1) := by decide +kernel
theorem dL_law_435 : decode cL_law 435 = .ok (.iload 4, 2) := by decide +kernel
theorem dL_law_437 : decode cL_law 437 = .ok (.iconst 1, 1) := by decide +kernel
theorem dL_law_438 : decode cL_law 438 = .ok (.iadd, 1) := by decide +kernel
theorem dL_law_439 : decode cL_law 439 = .ok (.iaload, 1) := by decide +kernel
theorem dL_law_440 : decode cL_law 440 = .ok (.aload_n 0, 1) := by decide +kernel
theorem dL_law_441 : decode cL_law 441 = .ok (.iload 4, 2) := by decide +kernel
theorem dL_law_443 : decode cL_law 443 = .ok (.iconst 2, 1) := by decide +kernel
theorem dL_law_444 : decode cL_law 444 = .ok (.iadd, 1) := by decide +kernel
theorem dL_law_445 : decode cL_law 445 = .ok (.iaload, 1) := by decide +kernel
theorem dL_law_446 : decode cL_law 446 = .ok (.invokevirtual 66, 3) := by decide +kernel
theorem dL_law_449 : decode cL_law 449 = .ok (.aload_n 2, 1) := by decide +kernel
theorem dL_law_450 : decode cL_law 450 = .ok (.aload_n 0, 1) := by decide +kernel
theorem dL_law_451 : decode cL_law 451 = .ok (.iload 4, 2) := by decide +kernel
theorem dL_law_453 : decode cL_law 453 = .ok (.iconst 1, 1) := by decide +kernel
theorem dL_law_454 : decode cL_law 454 = .ok (.iadd, 1) := by decide +kernel
theorem dL_law_455 : decode cL_law 455 = .ok (.iaload, 1) := by decide +kernel
theorem dL_law_456 : decode cL_law 456 = .ok (.aload_n 0, 1) := by decide +kernel
theorem dL_law_457 : decode cL_law 457 = .ok (.iload 4, 2) := by decide +kernel
theorem dL_law_459 : decode cL_law 459 = .ok (.iconst 2, 1) := by decide +kernel
theorem dL_law_460 : decode cL_law 460 = .ok (.iadd, 1) := by decide +kernel
theorem dL_law_461 : decode cL_law 461 = .ok (.iaload, 1) := by decide +kernel
theorem dL_law_462 : decode cL_law 462 = .ok (.invokevirtual 69, 3) := by decide +kernel
theorem dL_law_465 : decode cL_law 465 = .ok (.if_icmp .eq 384, 3) := by decide +kernel
theorem dL_law_468 : decode cL_law 468 = .ok (.iconst 0, 1) := by decide +kernel
theorem dL_law_469 : decode cL_law 469 = .ok (.ireturn, 1) := by decide +kernel
theorem dL_law_470 : decode cL_law 470 = .ok (.aload_n 1, 1) := by decide +kernel
theorem dL_law_471 : decode cL_law 471 = .ok (.aload_n 0, 1) := by decide +kernel
theorem dL_law_472 : decode cL_law 472 = .ok (.iload 4, 2) := by decide +kernel
theorem dL_law_474 : decode cL_law 474 = .ok (.iconst 1, 1) := by decide +kernel
theorem dL_law_475 : decode cL_law 475 = .ok (.iadd, 1) := by decide +kernel
theorem dL_law_476 : decode cL_law 476 = .ok (.iaload, 1) := by decide +kernel
theorem dL_law_477 : decode cL_law 477 = .ok (.invokevirtual 70, 3) := by decide +kernel
theorem dL_law_480 : decode cL_law 480 = .ok (.aload_n 2, 1) := by decide +kernel
theorem dL_law_481 : decode cL_law 481 = .ok (.aload_n 0, 1) := by decide +kernel
theorem dL_law_482 : decode cL_law 482 = .ok (.iload 4, 2) := by decide +kernel
theorem dL_law_484 : decode cL_law 484 = .ok (.iconst 1, 1) := by decide +kernel
theorem dL_law_485 : decode cL_law 485 = .ok (.iadd, 1) := by decide +kernel
theorem dL_law_486 : decode cL_law 486 = .ok (.iaload, 1) := by decide +kernel
theorem dL_law_487 : decode cL_law 487 = .ok (.invokevirtual 74, 3) := by decide +kernel
theorem dL_law_490 : decode cL_law 490 = .ok (.if_icmp .eq 359, 3) := by decide +kernel
theorem dL_law_493 : decode cL_law 493 = .ok (.iconst 0, 1) := by decide +kernel
theorem dL_law_494 : decode cL_law 494 = .ok (.ireturn, 1) := by decide +kernel
theorem dL_law_495 : decode cL_law 495 = .ok (.aload_n 1, 1) := by decide +kernel
theorem dL_law_496 : decode cL_law 496 = .ok (.aload_n 0, 1) := by decide +kernel
theorem dL_law_497 : decode cL_law 497 = .ok (.iload 4, 2) := by decide +kernel
theorem dL_law_499 : decode cL_law 499 = .ok (.iconst 1, 1) := by decide +kernel
theorem dL_law_500 : decode cL_law 500 = .ok (.iadd, 1) := by decide +kernel
theorem dL_law_501 : decode cL_law 501 = .ok (.iaload, 1) := by decide +kernel
theorem dL_law_502 : decode cL_law 502 = .ok (.aload_n 0, 1) := by decide +kernel
theorem dL_law_503 : decode cL_law 503 = .ok (.iload 4, 2) := by decide +kernel
theorem dL_law_505 : decode cL_law 505 = .ok (.iconst 2, 1) := by decide +kernel
theorem dL_law_506 : decode cL_law 506 = .ok (.iadd, 1) := by decide +kernel
theorem dL_law_507 : decode cL_law 507 = .ok (.iaload, 1) := by decide +kernel
theorem dL_law_508 : decode cL_law 508 = .ok (.aload_n 3, 1) := by decide +kernel
theorem dL_law_509 : decode cL_law 509 = .ok (.invokestatic 75, 3) := by decide +kernel
theorem dL_law_512 : decode cL_law 512 = .ok (.istore 5, 2) := by decide +kernel
theorem dL_law_514 : decode cL_law 514 = .ok (.aload_n 2, 1) := by decide +kernel
theorem dL_law_515 : decode cL_law 515 = .ok (.aload_n 0, 1) := by decide +kernel
theorem dL_law_516 : decode cL_law 516 = .ok (.iload 4, 2) := by decide +kernel
theorem dL_law_518 : decode cL_law 518 = .ok (.iconst 1, 1) := by decide +kernel
theorem dL_law_519 : decode cL_law 519 = .ok (.iadd, 1) := by decide +kernel
theorem dL_law_520 : decode cL_law 520 = .ok (.iaload, 1) := by decide +kernel
theorem dL_law_521 : decode cL_law 521 = .ok (.aload_n 0, 1) := by decide +kernel
theorem dL_law_522 : decode cL_law 522 = .ok (.iload 4, 2) := by decide +kernel
theorem dL_law_524 : decode cL_law 524 = .ok (.iconst 2, 1) := by decide +kernel
theorem dL_law_525 : decode cL_law 525 = .ok (.iadd, 1) := by decide +kernel
theorem dL_law_526 : decode cL_law 526 = .ok (.iaload, 1) := by decide +kernel
theorem dL_law_527 : decode cL_law 527 = .ok (.invokevirtual 77, 3) := by decide +kernel
theorem dL_law_530 : decode cL_law 530 = .ok (.istore 6, 2) := by decide +kernel
theorem dL_law_532 : decode cL_law 532 = .ok (.aload_n 2, 1) := by decide +kernel
theorem dL_law_533 : decode cL_law 533 = .ok (.invokevirtual 53, 3) := by decide +kernel
theorem dL_law_536 : decode cL_law 536 = .ok (.iload 5, 2) := by decide +kernel
theorem dL_law_538 : decode cL_law 538 = .ok (.if_icmp .eq 5, 3) := by decide +kernel
theorem dL_law_541 : decode cL_law 541 = .ok (.iconst 0, 1) := by decide +kernel
theorem dL_law_542 : decode cL_law 542 = .ok (.ireturn, 1) := by decide +kernel
theorem dL_law_543 : decode cL_law 543 = .ok (.iload 5, 2) := by decide +kernel
theorem dL_law_545 : decode cL_law 545 = .ok (.ifCond .ne 15, 3) := by decide +kernel
theorem dL_law_548 : decode cL_law 548 = .ok (.aload_n 3, 1) := by decide +kernel
theorem dL_law_549 : decode cL_law 549 = .ok (.iconst 0, 1) := by decide +kernel
theorem dL_law_550 : decode cL_law 550 = .ok (.laload, 1) := by decide +kernel
theorem dL_law_551 : decode cL_law 551 = .ok (.iload 6, 2) := by decide +kernel
theorem dL_law_553 : decode cL_law 553 = .ok (.i2l, 1) := by decide +kernel
theorem dL_law_554 : decode cL_law 554 = .ok (.lcmp, 1) := by decide +kernel
theorem dL_law_555 : decode cL_law 555 = .ok (.ifCond .eq 5, 3) := by decide +kernel
theorem dL_law_558 : decode cL_law 558 = .ok (.iconst 0, 1) := by decide +kernel
theorem dL_law_559 : decode cL_law 559 = .ok (.ireturn, 1) := by decide +kernel
theorem dL_law_560 : decode cL_law 560 = .ok (.goto 289, 3) := by decide +kernel
theorem dL_law_563 : decode cL_law 563 = .ok (.aload_n 1, 1) := by decide +kernel
theorem dL_law_564 : decode cL_law 564 = .ok (.aload_n 0, 1) := by decide +kernel
theorem dL_law_565 : decode cL_law 565 = .ok (.iload 4, 2) := by decide +kernel
theorem dL_law_567 : decode cL_law 567 = .ok (.iconst 1, 1) := by decide +kernel
theorem dL_law_568 : decode cL_law 568 = .ok (.iadd, 1) := by decide +kernel
theorem dL_law_569 : decode cL_law 569 = .ok (.iaload, 1) := by decide +kernel
theorem dL_law_570 : decode cL_law 570 = .ok (.aload_n 0, 1) := by decide +kernel
theorem dL_law_571 : decode cL_law 571 = .ok (.iload 4, 2) := by decide +kernel
theorem dL_law_573 : decode cL_law 573 = .ok (.iconst 2, 1) := by decide +kernel
theorem dL_law_574 : decode cL_law 574 = .ok (.iadd, 1) := by decide +kernel
theorem dL_law_575 : decode cL_law 575 = .ok (.iaload, 1) := by decide +kernel
theorem dL_law_576 : decode cL_law 576 = .ok (.aload_n 3, 1) := by decide +kernel
theorem dL_law_577 : decode cL_law 577 = .ok (.invokestatic 78, 3) := by decide +kernel
theorem dL_law_580 : decode cL_law 580 = .ok (.istore 5, 2) := by decide +kernel
theorem dL_law_582 : decode cL_law 582 = .ok (.aload_n 2, 1) := by decide +kernel
theorem dL_law_583 : decode cL_law 583 = .ok (.aload_n 0, 1) := by decide +kernel
theorem dL_law_584 : decode cL_law 584 = .ok (.iload 4, 2) := by decide +kernel
theorem dL_law_586 : decode cL_law 586 = .ok (.iconst 1, 1) := by decide +kernel
theorem dL_law_587 : decode cL_law 587 = .ok (.iadd, 1) := by decide +kernel
theorem dL_law_588 : decode cL_law 588 = .ok (.iaload, 1) := by decide +kernel
theorem dL_law_589 : decode cL_law 589 = .ok (.aload_n 0, 1) := by decide +kernel
theorem dL_law_590 : decode cL_law 590 = .ok (.iload 4, 2) := by decide +kernel
theorem dL_law_592 : decode cL_law 592 = .ok (.iconst 2, 1) := by decide +kernel
theorem dL_law_593 : decode cL_law 593 = .ok (.iadd, 1) := by decide +kernel
theorem dL_law_594 : decode cL_law 594 = .ok (.iaload, 1) := by decide +kernel
theorem dL_law_595 : decode cL_law 595 = .ok (.invokevirtual 80, 3) := by decide +kernel
theorem dL_law_598 : decode cL_law 598 = .ok (.istore 6, 2) := by decide +kernel
theorem dL_law_600 : decode cL_law 600 = .ok (.aload_n 2, 1) := by decide +kernel
theorem dL_law_601 : decode cL_law 601 = .ok (.invokevirtual 53, 3) := by decide +kernel
theorem dL_law_604 : decode cL_law 604 = .ok (.iload 5, 2) := by decide +kernel
theorem dL_law_606 : decode cL_law 606 = .ok (.if_icmp .eq 5, 3) := by decide +kernel
theorem dL_law_609 : decode cL_law 609 = .ok (.iconst 0, 1) := by decide +kernel
theorem dL_law_610 : decode cL_law 610 = .ok (.ireturn, 1) := by decide +kernel
theorem dL_law_611 : decode cL_law 611 = .ok (.iload 5, 2) := by decide +kernel
theorem dL_law_613 : decode cL_law 613 = .ok (.ifCond .ne 15, 3) := by decide +kernel
theorem dL_law_616 : decode cL_law 616 = .ok (.aload_n 3, 1) := by decide +kernel
theorem dL_law_617 : decode cL_law 617 = .ok (.iconst 0, 1) := by decide +kernel
theorem dL_law_618 : decode cL_law 618 = .ok (.laload, 1) := by decide +kernel
theorem dL_law_619 : decode cL_law 619 = .ok (.iload 6, 2) := by decide +kernel
theorem dL_law_621 : decode cL_law 621 = .ok (.i2l, 1) := by decide +kernel
theorem dL_law_622 : decode cL_law 622 = .ok (.lcmp, 1) := by decide +kernel
theorem dL_law_623 : decode cL_law 623 = .ok (.ifCond .eq 5, 3) := by decide +kernel
theorem dL_law_626 : decode cL_law 626 = .ok (.iconst 0, 1) := by decide +kernel
theorem dL_law_627 : decode cL_law 627 = .ok (.ireturn, 1) := by decide +kernel
theorem dL_law_628 : decode cL_law 628 = .ok (.goto 221, 3) := by decide +kernel
theorem dL_law_631 : decode cL_law 631 = .ok (.aload_n 1, 1) := by decide +kernel
theorem dL_law_632 : decode cL_law 632 = .ok (.aload_n 0, 1) := by decide +kernel
theorem dL_law_633 : decode cL_law 633 = .ok (.iload 4, 2) := by decide +kernel
theorem dL_law_635 : decode cL_law 635 = .ok (.iconst 1, 1) := by decide +kernel
theorem dL_law_636 : decode cL_law 636 = .ok (.iadd, 1) := by decide +kernel
theorem dL_law_637 : decode cL_law 637 = .ok (.iaload, 1) := by decide +kernel
theorem dL_law_638 : decode cL_law 638 = .ok (.aload_n 0, 1) := by decide +kernel
theorem dL_law_639 : decode cL_law 639 = .ok (.iload 4, 2) := by decide +kernel
theorem dL_law_641 : decode cL_law 641 = .ok (.iconst 2, 1) := by decide +kernel
theorem dL_law_642 : decode cL_law 642 = .ok (.iadd, 1) := by decide +kernel
theorem dL_law_643 : decode cL_law 643 = .ok (.iaload, 1) := by decide +kernel
theorem dL_law_644 : decode cL_law 644 = .ok (.aload_n 0, 1) := by decide +kernel
theorem dL_law_645 : decode cL_law 645 = .ok (.iload 4, 2) := by decide +kernel
theorem dL_law_647 : decode cL_law 647 = .ok (.iconst 3, 1) := by decide +kernel
theorem dL_law_648 : decode cL_law 648 = .ok (.iadd, 1) := by decide +kernel
theorem dL_law_649 : decode cL_law 649 = .ok (.iaload, 1) := by decide +kernel
theorem dL_law_650 : decode cL_law 650 = .ok (.i2l, 1) := by decide +kernel
theorem dL_law_651 : decode cL_law 651 = .ok (.bipush 32, 2) := by decide +kernel
theorem dL_law_653 : decode cL_law 653 = .ok (.lshl, 1) := by decide +kernel
theorem dL_law_654 : decode cL_law 654 = .ok (.aload_n 0, 1) := by decide +kernel
theorem dL_law_655 : decode cL_law 655 = .ok (.iload 4, 2) := by decide +kernel
theorem dL_law_657 : decode cL_law 657 = .ok (.iconst 4, 1) := by decide +kernel
theorem dL_law_658 : decode cL_law 658 = .ok (.iadd, 1) := by decide +kernel
theorem dL_law_659 : decode cL_law 659 = .ok (.iaload, 1) := by decide +kernel
theorem dL_law_660 : decode cL_law 660 = .ok (.i2l, 1) := by decide +kernel
theorem dL_law_661 : decode cL_law 661 = .ok (.ldc2_w 40, 3) := by decide +kernel
theorem dL_law_664 : decode cL_law 664 = .ok (.land, 1) := by decide +kernel
theorem dL_law_665 : decode cL_law 665 = .ok (.lor, 1) := by decide +kernel
theorem dL_law_666 : decode cL_law 666 = .ok (.invokevirtual 81, 3) := by decide +kernel
theorem dL_law_669 : decode cL_law 669 = .ok (.aload_n 2, 1) := by decide +kernel
theorem dL_law_670 : decode cL_law 670 = .ok (.aload_n 0, 1) := by decide +kernel
theorem dL_law_671 : decode cL_law 671 = .ok (.iload 4, 2) := by decide +kernel
theorem dL_law_673 : decode cL_law 673 = .ok (.iconst 1, 1) := by decide +kernel
theorem dL_law_674 : decode cL_law 674 = .ok (.iadd, 1) := by decide +kernel
theorem dL_law_675 : decode cL_law 675 = .ok (.iaload, 1) := by decide +kernel
theorem dL_law_676 : decode cL_law 676 = .ok (.aload_n 0, 1) := by decide +kernel
theorem dL_law_677 : decode cL_law 677 = .ok (.iload 4, 2) := by decide +kernel
theorem dL_law_679 : decode cL_law 679 = .ok (.iconst 2, 1) := by decide +kernel
theorem dL_law_680 : decode cL_law 680 = .ok (.iadd, 1) := by decide +kernel
theorem dL_law_681 : decode cL_law 681 = .ok (.iaload, 1) := by decide +kernel
theorem dL_law_682 : decode cL_law 682 = .ok (.aload_n 0, 1) := by decide +kernel
theorem dL_law_683 : decode cL_law 683 = .ok (.iload 4, 2) := by decide +kernel
theorem dL_law_685 : decode cL_law 685 = .ok (.iconst 3, 1) := by decide +kernel
theorem dL_law_686 : decode cL_law 686 = .ok (.iadd, 1) := by decide +kernel
theorem dL_law_687 : decode cL_law 687 = .ok (.iaload, 1) := by decide +kernel
theorem dL_law_688 : decode cL_law 688 = .ok (.i2l, 1) := by decide +kernel
theorem dL_law_689 : decode cL_law 689 = .ok (.bipush 32, 2) := by decide +kernel
theorem dL_law_691 : decode cL_law 691 = .ok (.lshl, 1) := by decide +kernel
theorem dL_law_692 : decode cL_law 692 = .ok (.aload_n 0, 1) := by decide +kernel
theorem dL_law_693 : decode cL_law 693 = .ok (.iload 4, 2) := by decide +kernel
theorem dL_law_695 : decode cL_law 695 = .ok (.iconst 4, 1) := by decide +kernel
theorem dL_law_696 : decode cL_law 696 = .ok (.iadd, 1) := by decide +kernel
theorem dL_law_697 : decode cL_law 697 = .ok (.iaload, 1) := by decide +kernel
theorem dL_law_698 : decode cL_law 698 = .ok (.i2l, 1) := by decide +kernel
theorem dL_law_699 : decode cL_law 699 = .ok (.ldc2_w 40, 3) := by decide +kernel
theorem dL_law_702 : decode cL_law 702 = .ok (.land, 1) := by decide +kernel
theorem dL_law_703 : decode cL_law 703 = .ok (.lor, 1) := by decide +kernel
theorem dL_law_704 : decode cL_law 704 = .ok (.invokevirtual 85, 3) := by decide +kernel
theorem dL_law_707 : decode cL_law 707 = .ok (.if_icmp .eq 142, 3) := by decide +kernel
theorem dL_law_710 : decode cL_law 710 = .ok (.iconst 0, 1) := by decide +kernel
theorem dL_law_711 : decode cL_law 711 = .ok (.ireturn, 1) := by decide +kernel
theorem dL_law_712 : decode cL_law 712 = .ok (.aload_n 1, 1) := by decide +kernel
theorem dL_law_713 : decode cL_law 713 = .ok (.aload_n 0, 1) := by decide +kernel
theorem dL_law_714 : decode cL_law 714 = .ok (.iload 4, 2) := by decide +kernel
theorem dL_law_716 : decode cL_law 716 = .ok (.iconst 1, 1) := by decide +kernel
theorem dL_law_717 : decode cL_law 717 = .ok (.iadd, 1) := by decide +kernel
theorem dL_law_718 : decode cL_law 718 = .ok (.iaload, 1) := by decide +kernel
theorem dL_law_719 : decode cL_law 719 = .ok (.invokevirtual 86, 3) := by decide +kernel
theorem dL_law_722 : decode cL_law 722 = .ok (.aload_n 2, 1) := by decide +kernel
theorem dL_law_723 : decode cL_law 723 = .ok (.aload_n 0, 1) := by decide +kernel
theorem dL_law_724 : decode cL_law 724 = .ok (.iload 4, 2) := by decide +kernel
theorem dL_law_726 : decode cL_law 726 = .ok (.iconst 1, 1) := by decide +kernel
theorem dL_law_727 : decode cL_law 727 = .ok (.iadd, 1) := by decide +kernel
theorem dL_law_728 : decode cL_law 728 = .ok (.iaload, 1) := by decide +kernel
theorem dL_law_729 : decode cL_law 729 = .ok (.invokevirtual 89, 3) := by decide +kernel
theorem dL_law_732 : decode cL_law 732 = .ok (.if_icmp .eq 117, 3) := by decide +kernel
theorem dL_law_735 : decode cL_law 735 = .ok (.iconst 0, 1) := by decide +kernel
theorem dL_law_736 : decode cL_law 736 = .ok (.ireturn, 1) := by decide +kernel
theorem dL_law_737 : decode cL_law 737 = .ok (.aload_n 1, 1) := by decide +kernel
theorem dL_law_738 : decode cL_law 738 = .ok (.aload_n 0, 1) := by decide +kernel
theorem dL_law_739 : decode cL_law 739 = .ok (.iload 4, 2) := by decide +kernel
theorem dL_law_741 : decode cL_law 741 = .ok (.iconst 1, 1) := by decide +kernel
theorem dL_law_742 : decode cL_law 742 = .ok (.iadd, 1) := by decide +kernel
theorem dL_law_743 : decode cL_law 743 = .ok (.iaload, 1) := by decide +kernel
theorem dL_law_744 : decode cL_law 744 = .ok (.aload_n 0, 1) := by decide +kernel
theorem dL_law_745 : decode cL_law 745 = .ok (.iload 4, 2) := by decide +kernel
theorem dL_law_747 : decode cL_law 747 = .ok (.iconst 2, 1) := by decide +kernel
theorem dL_law_748 : decode cL_law 748 = .ok (.iadd, 1) := by decide +kernel
theorem dL_law_749 : decode cL_law 749 = .ok (.iaload, 1) := by decide +kernel
theorem dL_law_750 : decode cL_law 750 = .ok (.i2l, 1) := by decide +kernel
theorem dL_law_751 : decode cL_law 751 = .ok (.bipush 32, 2) := by decide +kernel
theorem dL_law_753 : decode cL_law 753 = .ok (.lshl, 1) := by decide +kernel
theorem dL_law_754 : decode cL_law 754 = .ok (.aload_n 0, 1) := by decide +kernel
theorem dL_law_755 : decode cL_law 755 = .ok (.iload 4, 2) := by decide +kernel
theorem dL_law_757 : decode cL_law 757 = .ok (.iconst 3, 1) := by decide +kernel
theorem dL_law_758 : decode cL_law 758 = .ok (.iadd, 1) := by decide +kernel
theorem dL_law_759 : decode cL_law 759 = .ok (.iaload, 1) := by decide +kernel
theorem dL_law_760 : decode cL_law 760 = .ok (.i2l, 1) := by decide +kernel
theorem dL_law_761 : decode cL_law 761 = .ok (.ldc2_w 40, 3) := by decide +kernel
theorem dL_law_764 : decode cL_law 764 = .ok (.land, 1) := by decide +kernel
theorem dL_law_765 : decode cL_law 765 = .ok (.lor, 1) := by decide +kernel
theorem dL_law_766 : decode cL_law 766 = .ok (.aload_n 3, 1) := by decide +kernel
theorem dL_law_767 : decode cL_law 767 = .ok (.invokestatic 90, 3) := by decide +kernel
theorem dL_law_770 : decode cL_law 770 = .ok (.istore 5, 2) := by decide +kernel
theorem dL_law_772 : decode cL_law 772 = .ok (.aload_n 2, 1) := by decide +kernel
theorem dL_law_773 : decode cL_law 773 = .ok (.aload_n 0, 1) := by decide +kernel
theorem dL_law_774 : decode cL_law 774 = .ok (.iload 4, 2) := by decide +kernel
theorem dL_law_776 : decode cL_law 776 = .ok (.iconst 1, 1) := by decide +kernel
theorem dL_law_777 : decode cL_law 777 = .ok (.iadd, 1) := by decide +kernel
theorem dL_law_778 : decode cL_law 778 = .ok (.iaload, 1) := by decide +kernel
theorem dL_law_779 : decode cL_law 779 = .ok (.aload_n 0, 1) := by decide +kernel
theorem dL_law_780 : decode cL_law 780 = .ok (.iload 4, 2) := by decide +kernel
theorem dL_law_782 : decode cL_law 782 = .ok (.iconst 2, 1) := by decide +kernel
theorem dL_law_783 : decode cL_law 783 = .ok (.iadd, 1) := by decide +kernel
theorem dL_law_784 : decode cL_law 784 = .ok (.iaload, 1) := by decide +kernel
theorem dL_law_785 : decode cL_law 785 = .ok (.i2l, 1) := by decide +kernel
theorem dL_law_786 : decode cL_law 786 = .ok (.bipush 32, 2) := by decide +kernel
theorem dL_law_788 : decode cL_law 788 = .ok (.lshl, 1) := by decide +kernel
theorem dL_law_789 : decode cL_law 789 = .ok (.aload_n 0, 1) := by decide +kernel
theorem dL_law_790 : decode cL_law 790 = .ok (.iload 4, 2) := by decide +kernel
theorem dL_law_792 : decode cL_law 792 = .ok (.iconst 3, 1) := by decide +kernel
theorem dL_law_793 : decode cL_law 793 = .ok (.iadd, 1) := by decide +kernel
theorem dL_law_794 : decode cL_law 794 = .ok (.iaload, 1) := by decide +kernel
theorem dL_law_795 : decode cL_law 795 = .ok (.i2l, 1) := by decide +kernel
theorem dL_law_796 : decode cL_law 796 = .ok (.ldc2_w 40, 3) := by decide +kernel
theorem dL_law_799 : decode cL_law 799 = .ok (.land, 1) := by decide +kernel
theorem dL_law_800 : decode cL_law 800 = .ok (.lor, 1) := by decide +kernel
theorem dL_law_801 : decode cL_law 801 = .ok (.invokevirtual 93, 3) := by decide +kernel
theorem dL_law_804 : decode cL_law 804 = .ok (.lstore 6, 2) := by decide +kernel
theorem dL_law_806 : decode cL_law 806 = .ok (.aload_n 2, 1) := by decide +kernel
theorem dL_law_807 : decode cL_law 807 = .ok (.invokevirtual 53, 3) := by decide +kernel
theorem dL_law_810 : decode cL_law 810 = .ok (.iload 5, 2) := by decide +kernel
theorem dL_law_812 : decode cL_law 812 = .ok (.if_icmp .eq 5, 3) := by decide +kernel
theorem dL_law_815 : decode cL_law 815 = .ok (.iconst 0, 1) := by decide +kernel
theorem dL_law_816 : decode cL_law 816 = .ok (.ireturn, 1) := by decide +kernel
theorem dL_law_817 : decode cL_law 817 = .ok (.iload 5, 2) := by decide +kernel
theorem dL_law_819 : decode cL_law 819 = .ok (.ifCond .ne 14, 3) := by decide +kernel
theorem dL_law_822 : decode cL_law 822 = .ok (.aload_n 3, 1) := by decide +kernel
theorem dL_law_823 : decode cL_law 823 = .ok (.iconst 0, 1) := by decide +kernel
theorem dL_law_824 : decode cL_law 824 = .ok (.laload, 1) := by decide +kernel
theorem dL_law_825 : decode cL_law 825 = .ok (.lload 6, 2) := by decide +kernel
theorem dL_law_827 : decode cL_law 827 = .ok (.lcmp, 1) := by decide +kernel
theorem dL_law_828 : decode cL_law 828 = .ok (.ifCond .eq 5, 3) := by decide +kernel
theorem dL_law_831 : decode cL_law 831 = .ok (.iconst 0, 1) := by decide +kernel
theorem dL_law_832 : decode cL_law 832 = .ok (.ireturn, 1) := by decide +kernel
theorem dL_law_833 : decode cL_law 833 = .ok (.goto 16, 3) := by decide +kernel
theorem dL_law_836 : decode cL_law 836 = .ok (.aload_n 1, 1) := by decide +kernel
theorem dL_law_837 : decode cL_law 837 = .ok (.invokevirtual 94, 3) := by decide +kernel
theorem dL_law_840 : decode cL_law 840 = .ok (.aload_n 2, 1) := by decide +kernel
theorem dL_law_841 : decode cL_law 841 = .ok (.invokevirtual 97, 3) := by decide +kernel
theorem dL_law_844 : decode cL_law 844 = .ok (.if_icmp .eq 5, 3) := by decide +kernel
theorem dL_law_847 : decode cL_law 847 = .ok (.iconst 0, 1) := by decide +kernel
theorem dL_law_848 : decode cL_law 848 = .ok (.ireturn, 1) := by decide +kernel
theorem dL_law_849 : decode cL_law 849 = .ok (.iinc 4 5, 3) := by decide +kernel
theorem dL_law_852 : decode cL_law 852 = .ok (.goto (-829), 3) := by decide +kernel
theorem dL_law_855 : decode cL_law 855 = .ok (.iconst 1, 1) := by decide +kernel
theorem dL_law_856 : decode cL_law 856 = .ok (.ireturn, 1) := by decide +kernel
end
section
/-! the world as a map from addresses to cells: a contract speaks of the whole map, and what it doesn't name stays -/
abbrev hm_M : Type := Nat → Option va_E
def hm_P (D : va_G) (cl : List vw_C) (M : hm_M) (H : Heap) : Prop := ∀ (a : Nat) (e : va_E), M a = some e → va_at D cl (a, e) H
def hm_up (M : hm_M) (a : Nat) (e : va_E) : hm_M := fun j => if j = a then some e else M j
theorem hm_up_self (M : hm_M) (a : Nat) (e : va_E) : hm_up M a e a = some e := by simp [hm_up]
theorem hm_up_ne (M : hm_M) {a j : Nat} (e : va_E) (h : j ≠ a) : hm_up M a e j = M j := by simp [hm_up, h]
theorem hm_up_up (M : hm_M) (a : Nat) (e e' : va_E) : hm_up (hm_up M a e) a e' = hm_up M a e' := by
  funext j
  by_cases h : j = a <;> simp [hm_up, h]
theorem hm_up_comm (M : hm_M) {a b : Nat} (e e' : va_E) (h : a ≠ b) : hm_up (hm_up M a e) b e' = hm_up (hm_up M b e') a e := by
  funext j
  by_cases h1 : j = a
  · subst h1; simp [hm_up, h]
  · by_cases h2 : j = b
    · subst h2; simp [hm_up, h1]
    · simp [hm_up, h1, h2]
theorem hm_up_id {M : hm_M} {a : Nat} {e : va_E} (h : M a = some e) : hm_up M a e = M := by
  funext j
  by_cases h1 : j = a
  · subst h1; simp [hm_up, h]
  · simp [hm_up, h1]
/-- the cells that a method may change: the map's, and new ones -/
def hm_A (M : hm_M) (sz : Nat) : Nat → Prop := fun q => (∃ e : va_E, M q = some e) ∨ sz ≤ q
def hm_V (D : va_G) (cl : List vw_C) (A : Nat → Prop) (H0 : Heap) (M : hm_M) (H : Heap) (locs : List Loc) : Prop :=
  hm_P D cl M H ∧ (∀ (a : Nat) (e : va_E), M a = some e → A a) ∧ va_S A H0 H locs
theorem hm_one {D : va_G} {cl : List vw_C} {M : hm_M} {H : Heap} {a : Nat} {e : va_E} (h : hm_P D cl M H) (he : M a = some e) : va_P D cl [(a, e)] H := by
  intro k q hk
  have := List.mem_of_getElem? hk
  simp at this
  subst this
  exact h a e he
theorem hm_D1 {A : Nat → Prop} {a : Nat} {e : va_E} (h : A a) : va_D A [(a, e)] := by
  refine ⟨fun i j p q hi hj _ => ?_, fun k q hk => ?_⟩
  · have h1 := (List.getElem?_eq_some_iff.mp hi).1
    have h2 := (List.getElem?_eq_some_iff.mp hj).1
    simp at h1 h2
    omega
  · have := List.mem_of_getElem? hk
    simp at this
    subst this
    exact h
theorem hm_list {D : va_G} {cl : List vw_C} {A : Nat → Prop} {H0 H : Heap} {M : hm_M} {locs : List Loc} (hV : hm_V D cl A H0 M H locs) : ∃ ws : va_W, va_P D cl ws H ∧ va_D A ws ∧ ∀ (a : Nat) (e : va_E), M a = some e ↔ (a, e) ∈ ws := by
  have key : ∀ n : Nat, ∃ ws : va_W, va_D A ws ∧ ∀ (a : Nat) (e : va_E), (a < n ∧ M a = some e) ↔ (a, e) ∈ ws := by
    intro n
    induction n with
    | zero => exact ⟨[], ⟨fun i j p q h => by simp at h, fun k q h => by simp at h⟩, fun a e => by simp⟩
    | succ n ih =>
      obtain ⟨ws, hD, hi⟩ := ih
      cases hM : M n with
      | none =>
        refine ⟨ws, hD, fun a e => ?_⟩
        rw [← hi a e]
        constructor
        · rintro ⟨h1, h2⟩
          refine ⟨?_, h2⟩
          rcases Nat.lt_succ_iff_lt_or_eq.mp h1 with q | q
          · exact q
          · subst q; rw [hM] at h2; cases h2
        · rintro ⟨h1, h2⟩
          exact ⟨Nat.lt_succ_of_lt h1, h2⟩
      | some e0 =>
        refine ⟨ws ++ [(n, e0)], va_D.app hD (hm_D1 (hV.2.1 n e0 hM)) (fun i j p q hp hq hpq => ?_), fun a e => ?_⟩
        · have h1 := (hi p.1 p.2).2 (List.mem_of_getElem? hp)
          have h2 := List.mem_of_getElem? hq
          simp at h2
          subst h2
          have h3 := h1.1
          simp at hpq
          omega
        · rw [List.mem_append, ← hi a e]
          constructor
          · rintro ⟨h1, h2⟩
            rcases Nat.lt_succ_iff_lt_or_eq.mp h1 with q | q
            · exact Or.inl ⟨q, h2⟩
            · subst q
              rw [hM] at h2
              cases h2
              exact Or.inr (List.mem_singleton.mpr rfl)
          · rintro (⟨h1, h2⟩ | h)
            · exact ⟨Nat.lt_succ_of_lt h1, h2⟩
            · simp at h
              obtain ⟨h1, h2⟩ := h
              subst h1; subst h2
              exact ⟨Nat.lt_succ_self _, hM⟩
  obtain ⟨ws, hD, hi⟩ := key H.size
  refine ⟨ws, fun k q hk => ?_, hD, fun a e => ?_⟩
  · have h1 := (hi q.1 q.2).2 (List.mem_of_getElem? hk)
    exact hV.1 q.1 q.2 h1.2
  · rw [← hi a e]
    exact ⟨fun h => ⟨(hV.1 a e h).lt, h⟩, fun h => h.2⟩
theorem hm_of {D : va_G} {cl : List vw_C} {A : Nat → Prop} {H0 H : Heap} {M : hm_M} {locs : List Loc} {ws : va_W} (hP : va_P D cl ws H) (hD : va_D A ws) (hS : va_S A H0 H locs) (h : ∀ (a : Nat) (e : va_E), M a = some e → (a, e) ∈ ws) : hm_V D cl A H0 M H locs := by
  refine ⟨fun a e ha => ?_, fun a e ha => ?_, hS⟩
  · obtain ⟨k, hk⟩ := List.getElem?_of_mem (h a e ha)
    exact hP k _ hk
  · obtain ⟨k, hk⟩ := List.getElem?_of_mem (h a e ha)
    exact hD.2 k _ hk
theorem hm_in_set {M : hm_M} {ws : va_W} {a k : Nat} {e0 e1 : va_E} (hi : ∀ (b : Nat) (e : va_E), M b = some e ↔ (b, e) ∈ ws) (hk : ws[k]? = some (a, e0)) : ∀ (b : Nat) (e : va_E), hm_up M a e1 b = some e → (b, e) ∈ ws.set k (a, e1) := by
  intro b e h
  have hl := (List.getElem?_eq_some_iff.mp hk).1
  by_cases hb : b = a
  · subst hb
    rw [hm_up_self] at h
    cases h
    exact List.mem_of_getElem? (List.getElem?_set_self hl)
  · rw [hm_up_ne _ _ hb] at h
    obtain ⟨j, hj⟩ := List.getElem?_of_mem ((hi b e).1 h)
    have hjk : k ≠ j := by
      intro q
      subst q
      rw [hk] at hj
      cases hj
      exact hb rfl
    exact List.mem_of_getElem? ((List.getElem?_set_ne hjk).trans hj)
theorem hm_in_push {M : hm_M} {ws : va_W} {a : Nat} {e1 : va_E} (hi : ∀ (b : Nat) (e : va_E), M b = some e ↔ (b, e) ∈ ws) : ∀ (b : Nat) (e : va_E), hm_up M a e1 b = some e → (b, e) ∈ ws ++ [(a, e1)] := by
  intro b e h
  by_cases hb : b = a
  · subst hb
    rw [hm_up_self] at h
    cases h
    exact List.mem_append_right _ (List.mem_singleton.mpr rfl)
  · rw [hm_up_ne _ _ hb] at h
    exact List.mem_append_left _ ((hi b e).1 h)
theorem hm_fresh {A : Nat → Prop} {M : hm_M} {ws : va_W} {q : Nat} {e1 : va_E} (hi : ∀ (b : Nat) (e : va_E), M b = some e ↔ (b, e) ∈ ws) (hD : va_D A (ws ++ [(q, e1)])) : M q = none := by
  cases hM : M q with
  | none => rfl
  | some e =>
    obtain ⟨j, hj⟩ := List.getElem?_of_mem ((hi q e).1 hM)
    have hl := (List.getElem?_eq_some_iff.mp hj).1
    have h1 : (ws ++ [(q, e1)])[j]? = some (q, e) := by rw [List.getElem?_append_left hl]; exact hj
    have h2 : (ws ++ [(q, e1)])[ws.length]? = some (q, e1) := by rw [List.getElem?_append_right (Nat.le_refl _), Nat.sub_self]; rfl
    have := hD.1 j ws.length _ _ h1 h2 rfl
    omega
theorem hm_tyP {D : va_G} {cl : List vw_C} {tys : List (ClassId × FieldType)} {s : State} {t0 : Nat} {cA cI : ClassId} {ty : FieldType} (hK : va_K D cl tys s) (ht : tys[t0]? = some (cI, ty)) (hK' : va_K D cl (tys ++ [(cA, ty)]) s) : cA = cI := by
  have h1 := (hK.2 t0 _ ht).2
  have h2 := (hK'.2 tys.length (cA, ty) (by rw [List.getElem?_append_right (Nat.le_refl _), Nat.sub_self]; rfl)).2
  cases ty with
  | object C =>
    obtain ⟨_, _, _, _, _, h3⟩ := h1
    obtain ⟨_, _, _, _, _, h4⟩ := h2
    exact Option.some.inj (h4.symm.trans h3)
  | _ => exact Option.some.inj (Eq.trans (Eq.symm h2) h1)
section HM1
variable {p : Program} {l : Launch} {e : Env} {R : Room} {s : State} {m : MethodId} {args : Array Value} {below : List Frame} {meth : Method} {c : Code} {H : Heap} {locs : List Loc} {cells slots : Nat} {Q : State → Prop}
variable {cc : ByteArray} {pc : Nat} {ls : Array Slot} {rest : List Value} {D : va_G} {cl : List vw_C} {A : Nat → Prop} {a : Nat} {tys : List (ClassId × FieldType)} {M : hm_M} {H0 : Heap}
theorem hm_get (hexec : p.tables.exec = Jvm.exec) (hb : c.code = cc) {own ref C : String} {T : u_T} {N ci index : Nat} {Ts : List Cond} (hts : ∀ w ∈ Ts, w.before args s = true) (hin : ∀ w ∈ u_ws C T N, w ∈ Ts) (hown : s.vm.findClass own = some m.cls) (hK : va_K D cl tys s) (hV : hm_V D cl A H0 M H locs) {fs : List Value} (he : M a = some (.inr (ci, fs))) (hc : cl[ci]? = some (C, T, N)) (k : Nat) (hk : k < N) (hlink : (Cond.fieldLink own index ref (T k).2.1 (T k).2.2.1).before args s = true) (hsame : ∀ x, s.fieldFound? (T k).1 (T k).2.1 (T k).2.2.1 = some x → s.fieldFound? ref (T k).2.1 (T k).2.2.1 = some x) {v : Value} (hv : fs[k]? = some v) (hdg : decode cc pc = .ok (.getfield index, 3))
    (kk : W p l e R s m args below meth c H locs cells slots Q (F0 m (pc + 3) ls (v :: rest))) : W p l e R s m args below meth c H locs cells slots Q (F0 m pc ls (.ref a :: rest)) :=
  va_get hexec hb hts hin hown hK (hm_one hV.1 he) 0 rfl hc k hk hlink hsame hv hdg kk
theorem hm_getN (hexec : p.tables.exec = Jvm.exec) (hb : c.code = cc) {own ref C host : String} {T : u_T} {N ci index : Nat} {Ts : List Cond} (hts : ∀ w ∈ Ts, w.before args s = true) (hin : ∀ w ∈ u_ws C T N, w ∈ Ts) (hown : s.vm.findClass own = some m.cls) (hK : va_K D cl tys s) (hV : hm_V D cl A H0 M H locs) {fs : List Value} (he : M a = some (.inr (ci, fs))) (hc : cl[ci]? = some (C, T, N)) (k : Nat) (hk : k < N) (hlink : (Cond.fieldLinkNest own index ref (T k).2.1 (T k).2.2.1 host).before args s = true) (hsame : ∀ x, s.fieldFound? (T k).1 (T k).2.1 (T k).2.2.1 = some x → s.fieldFound? ref (T k).2.1 (T k).2.2.1 = some x) {v : Value} (hv : fs[k]? = some v) (hdg : decode cc pc = .ok (.getfield index, 3))
    (kk : W p l e R s m args below meth c H locs cells slots Q (F0 m (pc + 3) ls (v :: rest))) : W p l e R s m args below meth c H locs cells slots Q (F0 m pc ls (.ref a :: rest)) :=
  va_getN hexec hb hts hin hown hK (hm_one hV.1 he) 0 rfl hc k hk hlink hsame hv hdg kk
theorem hm_put (hexec : p.tables.exec = Jvm.exec) (hb : c.code = cc) {own ref C : String} {T : u_T} {N ci index : Nat} {Ts : List Cond} (hts : ∀ w ∈ Ts, w.before args s = true) (hin : ∀ w ∈ u_ws C T N, w ∈ Ts) (ty0 : Nat → FieldType) (hty : ∀ k, k < N → parseFieldDescriptor (T k).2.2.1 = some (ty0 k)) (hnm : ∀ a, a < N → ∀ b, b < N → a ≠ b → (T a).2.1 ≠ (T b).2.1) (hown : s.vm.findClass own = some m.cls) (hK : va_K D cl tys s) (hV : hm_V D cl A H0 M H locs) {fs : List Value} (he : M a = some (.inr (ci, fs))) (hc : cl[ci]? = some (C, T, N)) (k : Nat) (hk : k < N) (hlink : (Cond.fieldLink own index ref (T k).2.1 (T k).2.2.1).before args s = true) (hsame : ∀ x, s.fieldFound? (T k).1 (T k).2.1 (T k).2.2.1 = some x → s.fieldFound? ref (T k).2.1 (T k).2.2.1 = some x) (hfin : (T k).2.2.2 = false) {ty : FieldType} {v : Value} (hd : parseFieldDescriptor (T k).2.2.1 = some ty) (hn : narrow ty v = v) (hfit : fits ty v = true) (hl : k < fs.length)
    (hdg : decode cc pc = .ok (.putfield index, 3)) (kk : ∀ (H1 : Heap) (locs1 : List Loc), hm_V D cl A H0 (hm_up M a (.inr (ci, fs.set k v))) H1 locs1 → W p l e R s m args below meth c H1 locs1 cells slots Q (F0 m (pc + 3) ls rest)) : W p l e R s m args below meth c H locs cells slots Q (F0 m pc ls (v :: .ref a :: rest)) := by
  obtain ⟨ws, hP, hD, hi⟩ := hm_list hV
  obtain ⟨q0, hq⟩ := List.getElem?_of_mem ((hi a _).1 he)
  exact va_put hexec hb hts hin ty0 hty hnm hown hK hP hD hV.2.2 q0 hq hc k hk hlink hsame hfin hd hn hfit hl hdg (fun H1 locs1 hP1 hD1 hS1 => kk H1 locs1 (hm_of hP1 hD1 hS1 (hm_in_set hi hq)))
theorem hm_putN (hexec : p.tables.exec = Jvm.exec) (hb : c.code = cc) {own ref C host : String} {T : u_T} {N ci index : Nat} {Ts : List Cond} (hts : ∀ w ∈ Ts, w.before args s = true) (hin : ∀ w ∈ u_ws C T N, w ∈ Ts) (ty0 : Nat → FieldType) (hty : ∀ k, k < N → parseFieldDescriptor (T k).2.2.1 = some (ty0 k)) (hnm : ∀ a, a < N → ∀ b, b < N → a ≠ b → (T a).2.1 ≠ (T b).2.1) (hown : s.vm.findClass own = some m.cls) (hK : va_K D cl tys s) (hV : hm_V D cl A H0 M H locs) {fs : List Value} (he : M a = some (.inr (ci, fs))) (hc : cl[ci]? = some (C, T, N)) (k : Nat) (hk : k < N) (hlink : (Cond.fieldLinkNest own index ref (T k).2.1 (T k).2.2.1 host).before args s = true) (hsame : ∀ x, s.fieldFound? (T k).1 (T k).2.1 (T k).2.2.1 = some x → s.fieldFound? ref (T k).2.1 (T k).2.2.1 = some x) (hfin : (T k).2.2.2 = false) {ty : FieldType} {v : Value} (hd : parseFieldDescriptor (T k).2.2.1 = some ty) (hn : narrow ty v = v) (hfit : fits ty v = true) (hl : k < fs.length)
    (hdg : decode cc pc = .ok (.putfield index, 3)) (kk : ∀ (H1 : Heap) (locs1 : List Loc), hm_V D cl A H0 (hm_up M a (.inr (ci, fs.set k v))) H1 locs1 → W p l e R s m args below meth c H1 locs1 cells slots Q (F0 m (pc + 3) ls rest)) : W p l e R s m args below meth c H locs cells slots Q (F0 m pc ls (v :: .ref a :: rest)) := by
  obtain ⟨ws, hP, hD, hi⟩ := hm_list hV
  obtain ⟨q0, hq⟩ := List.getElem?_of_mem ((hi a _).1 he)
  exact va_putN hexec hb hts hin ty0 hty hnm hown hK hP hD hV.2.2 q0 hq hc k hk hlink hsame hfin hd hn hfit hl hdg (fun H1 locs1 hP1 hD1 hS1 => kk H1 locs1 (hm_of hP1 hD1 hS1 (hm_in_set hi hq)))
theorem hm_putF (hexec : p.tables.exec = Jvm.exec) (hb : c.code = cc) {own ref C : String} {T : u_T} {N ci index : Nat} {Ts : List Cond} (hts : ∀ w ∈ Ts, w.before args s = true) (hin : ∀ w ∈ u_ws C T N, w ∈ Ts) (ty0 : Nat → FieldType) (hty : ∀ k, k < N → parseFieldDescriptor (T k).2.2.1 = some (ty0 k)) (hnm : ∀ a, a < N → ∀ b, b < N → a ≠ b → (T a).2.1 ≠ (T b).2.1) (hown : s.vm.findClass own = some m.cls) (hK : va_K D cl tys s) (hV : hm_V D cl A H0 M H locs) {fs : List Value} (he : M a = some (.inr (ci, fs))) (hc : cl[ci]? = some (C, T, N)) (k : Nat) (hk : k < N) (hlink : (Cond.fieldLink own index ref (T k).2.1 (T k).2.2.1).before args s = true) (hsame : ∀ x, s.fieldFound? (T k).1 (T k).2.1 (T k).2.2.1 = some x → s.fieldFound? ref (T k).2.1 (T k).2.2.1 = some x) (hfin : (T k).2.2.2 = true) (hin2 : meth.name = "<init>") (hdecl : (T k).1 = own) {ty : FieldType} {v : Value} (hd : parseFieldDescriptor (T k).2.2.1 = some ty) (hn : narrow ty v = v) (hfit : fits ty v = true) (hl : k < fs.length)
    (hdg : decode cc pc = .ok (.putfield index, 3)) (kk : ∀ (H1 : Heap) (locs1 : List Loc), hm_V D cl A H0 (hm_up M a (.inr (ci, fs.set k v))) H1 locs1 → W p l e R s m args below meth c H1 locs1 cells slots Q (F0 m (pc + 3) ls rest)) : W p l e R s m args below meth c H locs cells slots Q (F0 m pc ls (v :: .ref a :: rest)) := by
  obtain ⟨ws, hP, hD, hi⟩ := hm_list hV
  obtain ⟨q0, hq⟩ := List.getElem?_of_mem ((hi a _).1 he)
  exact va_putF hexec hb hts hin ty0 hty hnm hown hK hP hD hV.2.2 q0 hq hc k hk hlink hsame hfin hin2 hdecl hd hn hfit hl hdg (fun H1 locs1 hP1 hD1 hS1 => kk H1 locs1 (hm_of hP1 hD1 hS1 (hm_in_set hi hq)))
theorem hm_iald (hexec : p.tables.exec = Jvm.exec) (hb : c.code = cc) (hK : va_K D cl tys s) (hV : hm_V D cl A H0 M H locs) (t0 : Nat) {cA : ClassId} {n : Nat} {f : Nat → Int32} (ha : M a = some (.inl (cA, n, .inl f))) (ht : tys[t0]? = some (cA, .int)) {i : Int32} (hin : vp_in i n) (hdg : decode cc pc = .ok (.iaload, 1))
    (kk : W p l e R s m args below meth c H locs cells slots Q (F0 m (pc + 1) ls (.int (f i.toNatClampNeg) :: rest))) : W p l e R s m args below meth c H locs cells slots Q (F0 m pc ls (.int i :: .ref a :: rest)) :=
  va_iald hexec hb hK (hm_one hV.1 ha) 0 t0 rfl ht hin hdg kk
theorem hm_lald (hexec : p.tables.exec = Jvm.exec) (hb : c.code = cc) (hK : va_K D cl tys s) (hV : hm_V D cl A H0 M H locs) (t0 : Nat) {cA : ClassId} {n : Nat} {f : Nat → Int64} (ha : M a = some (.inl (cA, n, .inr (.inl f)))) (ht : tys[t0]? = some (cA, .long)) {i : Int32} (hin : vp_in i n) (hdg : decode cc pc = .ok (.laload, 1))
    (kk : W p l e R s m args below meth c H locs cells slots Q (F0 m (pc + 1) ls (.long (f i.toNatClampNeg) :: rest))) : W p l e R s m args below meth c H locs cells slots Q (F0 m pc ls (.int i :: .ref a :: rest)) :=
  va_lald hexec hb hK (hm_one hV.1 ha) 0 t0 rfl ht hin hdg kk
theorem hm_aldq (hexec : p.tables.exec = Jvm.exec) (hb : c.code = cc) (hK : va_K D cl tys s) (hV : hm_V D cl A H0 M H locs) (t0 : Nat) {cA : ClassId} {C : String} {n : Nat} {f : Nat → Option Nat} (ha : M a = some (.inl (cA, n, .inr (.inr (.inr (.inr f)))))) (ht : tys[t0]? = some (cA, .object C)) {i : Int32} (hin : vp_in i n) (hdg : decode cc pc = .ok (.aaload, 1))
    (kk : W p l e R s m args below meth c H locs cells slots Q (F0 m (pc + 1) ls (va_rf (f i.toNatClampNeg) :: rest))) : W p l e R s m args below meth c H locs cells slots Q (F0 m pc ls (.int i :: .ref a :: rest)) :=
  va_aldq hexec hb hK (hm_one hV.1 ha) 0 t0 rfl ht hin hdg kk
theorem hm_alen (hexec : p.tables.exec = Jvm.exec) (hb : c.code = cc) (hK : va_K D cl tys s) (hV : hm_V D cl A H0 M H locs) (t0 : Nat) {cA : ClassId} {x : vp_A} (ha : M a = some (.inl (cA, x))) {ty : FieldType} (ht : tys[t0]? = some (cA, ty)) {v : Int32} (hv : Int32.ofNat x.1 = v) (hdg : decode cc pc = .ok (.arraylength, 1))
    (kk : W p l e R s m args below meth c H locs cells slots Q (F0 m (pc + 1) ls (.int v :: rest))) : W p l e R s m args below meth c H locs cells slots Q (F0 m pc ls (.ref a :: rest)) :=
  va_alen hexec hb hK (hm_one hV.1 ha) 0 t0 rfl ht hv hdg kk
theorem hm_iast (hexec : p.tables.exec = Jvm.exec) (hb : c.code = cc) (hK : va_K D cl tys s) (hV : hm_V D cl A H0 M H locs) (t0 : Nat) {cA : ClassId} {n : Nat} {f : Nat → Int32} (ha : M a = some (.inl (cA, n, .inl f))) (ht : tys[t0]? = some (cA, .int)) {i : Int32} {x : Int32} (hin : vp_in i n) (hdg : decode cc pc = .ok (.iastore, 1))
    (kk : ∀ (H1 : Heap) (locs1 : List Loc), hm_V D cl A H0 (hm_up M a (.inl (cA, n, .inl (upd f i.toNatClampNeg x)))) H1 locs1 → W p l e R s m args below meth c H1 locs1 cells slots Q (F0 m (pc + 1) ls rest)) : W p l e R s m args below meth c H locs cells slots Q (F0 m pc ls (.int x :: .int i :: .ref a :: rest)) := by
  obtain ⟨ws, hP, hD, hi⟩ := hm_list hV
  obtain ⟨q0, hq⟩ := List.getElem?_of_mem ((hi a _).1 ha)
  exact va_iast hexec hb hK hP hD hV.2.2 q0 t0 hq ht hin hdg (fun H1 locs1 hP1 hD1 hS1 => kk H1 locs1 (hm_of hP1 hD1 hS1 (hm_in_set hi hq)))
theorem hm_last (hexec : p.tables.exec = Jvm.exec) (hb : c.code = cc) (hK : va_K D cl tys s) (hV : hm_V D cl A H0 M H locs) (t0 : Nat) {cA : ClassId} {n : Nat} {f : Nat → Int64} (ha : M a = some (.inl (cA, n, .inr (.inl f)))) (ht : tys[t0]? = some (cA, .long)) {i : Int32} {x : Int64} (hin : vp_in i n) (hdg : decode cc pc = .ok (.lastore, 1))
    (kk : ∀ (H1 : Heap) (locs1 : List Loc), hm_V D cl A H0 (hm_up M a (.inl (cA, n, .inr (.inl (vp_updL f i.toNatClampNeg x))))) H1 locs1 → W p l e R s m args below meth c H1 locs1 cells slots Q (F0 m (pc + 1) ls rest)) : W p l e R s m args below meth c H locs cells slots Q (F0 m pc ls (.long x :: .int i :: .ref a :: rest)) := by
  obtain ⟨ws, hP, hD, hi⟩ := hm_list hV
  obtain ⟨q0, hq⟩ := List.getElem?_of_mem ((hi a _).1 ha)
  exact va_last hexec hb hK hP hD hV.2.2 q0 t0 hq ht hin hdg (fun H1 locs1 hP1 hD1 hS1 => kk H1 locs1 (hm_of hP1 hD1 hS1 (hm_in_set hi hq)))
theorem hm_astq (hexec : p.tables.exec = Jvm.exec) (hb : c.code = cc) (hK : va_K D cl tys s) (hV : hm_V D cl A H0 M H locs) (t0 ci : Nat) {cA : ClassId} {r : vw_C} {n v : Nat} {vs : List Value} {f : Nat → Option Nat} (ha : M a = some (.inl (cA, n, .inr (.inr (.inr (.inr f)))))) (ht : tys[t0]? = some (cA, .object r.1)) (hv : M v = some (.inr (ci, vs))) (hc : cl[ci]? = some r) {i : Int32} (hin : vp_in i n) (hdg : decode cc pc = .ok (.aastore, 1))
    (kk : ∀ (H1 : Heap) (locs1 : List Loc), hm_V D cl A H0 (hm_up M a (.inl (cA, n, .inr (.inr (.inr (.inr (va_up f i.toNatClampNeg (some v)))))))) H1 locs1 → W p l e R s m args below meth c H1 locs1 cells slots Q (F0 m (pc + 1) ls rest)) : W p l e R s m args below meth c H locs cells slots Q (F0 m pc ls (.ref v :: .int i :: .ref a :: rest)) := by
  obtain ⟨ws, hP, hD, hi⟩ := hm_list hV
  obtain ⟨q0, hq⟩ := List.getElem?_of_mem ((hi a _).1 ha)
  obtain ⟨q1, hq1⟩ := List.getElem?_of_mem ((hi v _).1 hv)
  exact va_astq hexec hb hK hP hD hV.2.2 q0 t0 q1 ci hq ht hq1 hc hin hdg (fun H1 locs1 hP1 hD1 hS1 => kk H1 locs1 (hm_of hP1 hD1 hS1 (hm_in_set hi hq)))
theorem hm_new (hexec : p.tables.exec = Jvm.exec) (hb : c.code = cc) {own C : String} {T : u_T} {N ci index : Nat} {Ts : List Cond} (hts : ∀ w ∈ Ts, w.before args s = true) (hin : ∀ w ∈ u_ws C T N, w ∈ Ts) (ty : Nat → FieldType) (hty : ∀ k, k < N → parseFieldDescriptor (T k).2.2.1 = some (ty k)) (hown : s.vm.findClass own = some m.cls) (hcl : (Cond.classLink own index C).before args s = true) (hinst : (Cond.instantiable C N).before args s = true) (hini : (Cond.initialized C).before args s = true)
    (hK : va_K D cl tys s) (hV : hm_V D cl A H0 M H locs) (hA : ∀ q, H0.size ≤ q → A q) (hc : cl[ci]? = some (C, T, N)) {fs : List Value} (hfs : ∀ j, j < N → defaultValue (ty j) = vp_V fs j) (hcells : cells + 1 ≤ R.cells) (hslots : slots + N ≤ R.slots) (hdg : decode cc pc = .ok (.new index, 3))
    (kk : ∀ (q : Nat) (H1 : Heap), M q = none → hm_V D cl A H0 (hm_up M q (.inr (ci, fs))) H1 locs → W p l e R s m args below meth c H1 locs (cells + 1) (slots + N) Q (F0 m (pc + 3) ls (.ref q :: rest))) : W p l e R s m args below meth c H locs cells slots Q (F0 m pc ls rest) := by
  obtain ⟨ws, hP, hD, hi⟩ := hm_list hV
  exact va_new hexec hb hts hin ty hty hown hcl hinst hini hK hP hD hV.2.2 hA hc hfs hcells hslots hdg (fun q H1 hP1 hD1 hS1 => kk q H1 (hm_fresh hi hD1) (hm_of hP1 hD1 hS1 (hm_in_push hi)))
theorem hm_newa (hexec : p.tables.exec = Jvm.exec) (hb : c.code = cc) {atype : ArrayType} (harr : (Cond.arrayClass (newarray.typeOf atype)).before args s = true) {ty : FieldType} (hty : newarray.typeOf atype = ty) (hK : va_K D cl tys s) (hV : hm_V D cl A H0 M H locs) (hA : ∀ q, H0.size ≤ q → A q) (t0 : Nat) {cI : ClassId} (ht : tys[t0]? = some (cI, ty))
    {n : Int32} {N' : Nat} {a0 : vp_A} (ha : ∀ cA : ClassId, vp_cell cA a0 = arrV cA N' (fun _ => defaultValue ty)) (hn : ¬ n < 0) (hN : n.toNatClampNeg = N') (hbytes : N' * componentBytes ty ≤ 536870912) (hcells : cells + 1 ≤ R.cells) (hslots : slots + N' ≤ R.slots) (hdg : decode cc pc = .ok (.newarray atype, 2))
    (kk : ∀ (q : Nat) (H1 : Heap), M q = none → hm_V D cl A H0 (hm_up M q (.inl (cI, a0))) H1 locs → W p l e R s m args below meth c H1 locs (cells + 1) (slots + N') Q (F0 m (pc + 2) ls (.ref q :: rest))) : W p l e R s m args below meth c H locs cells slots Q (F0 m pc ls (.int n :: rest)) := by
  obtain ⟨ws, hP, hD, hi⟩ := hm_list hV
  refine va_newa hexec hb harr hty hK hP hD hV.2.2 hA ha hn hN hbytes hcells hslots hdg (fun q cA H1 hK1 hP1 hD1 hS1 => ?_)
  have hcA := hm_tyP hK ht hK1
  subst hcA
  exact kk q H1 (hm_fresh hi hD1) (hm_of hP1 hD1 hS1 (hm_in_push hi))
theorem hm_newq (hexec : p.tables.exec = Jvm.exec) (hb : c.code = cc) {own C : String} {index : Nat} (hown : s.vm.findClass own = some m.cls) (hclink : (Cond.classLink own index C).before args s = true) (hover : va_AO C s) (hK : va_K D cl tys s) (hV : hm_V D cl A H0 M H locs) (hA : ∀ q, H0.size ≤ q → A q) (t0 : Nat) {cI : ClassId} (ht : tys[t0]? = some (cI, .object C))
    {n : Int32} {N' : Nat} (hn : ¬ n < 0) (hN : n.toNatClampNeg = N') (hbytes : N' * 4 ≤ 536870912) (hcells : cells + 1 ≤ R.cells) (hslots : slots + N' ≤ R.slots) (hdg : decode cc pc = .ok (.anewarray index, 3))
    (kk : ∀ (q : Nat) (H1 : Heap), M q = none → hm_V D cl A H0 (hm_up M q (.inl (cI, N', .inr (.inr (.inr (.inr (fun _ => none))))))) H1 locs → W p l e R s m args below meth c H1 locs (cells + 1) (slots + N') Q (F0 m (pc + 3) ls (.ref q :: rest))) : W p l e R s m args below meth c H locs cells slots Q (F0 m pc ls (.int n :: rest)) := by
  obtain ⟨ws, hP, hD, hi⟩ := hm_list hV
  refine va_newq hexec hb hown hclink hover hK hP hD hV.2.2 hA hn hN hbytes hcells hslots hdg (fun q cA H1 hK1 hP1 hD1 hS1 => ?_)
  have hcA := hm_tyP hK ht hK1
  subst hcA
  exact kk q H1 (hm_fresh hi hD1) (hm_of hP1 hD1 hS1 (hm_in_push hi))
end HM1
/-! what every contract has: the tables (classes, arrays, nest words), its start, its end -/
abbrev hm_E : Type := va_G × (ClassId × ClassId × ClassId × ClassId × ClassId)
abbrev hm_tys (E : hm_E) : List (ClassId × FieldType) := [(E.2.1, .int), (E.2.2.1, .long), (E.2.2.2.1, .boolean), (E.2.2.2.2.1, .object RX2), (E.2.2.2.2.2, .array .long)]
def hm_nF : List (String × Nat × String × String) := [(RX0, 18, "length", "I"), (RX0, 28, "limbs", "[I"), (RX0, 35, "negative", "Z"), (RX3, 139, "length", "I"), (RX3, 61, "negative", "Z"), (RX1, 73, "negative", "Z")]
def hm_nM : List (String × Nat × MethodName) := [(RX3, 36, yX0_init), (RX0, 47, yX2_finish), (RX0, 51, yX3_highestBit), (RX0, 62, yX2_limbAt)]
def hm_K (E : hm_E) (U : State) : Prop := va_K E.1 vwCl (hm_tys E) U ∧ (∀ q ∈ hm_nF, va_Nw (.fieldLinkNest q.1 q.2.1 RX2 q.2.2.1 q.2.2.2 RX3) U) ∧ ∀ q ∈ hm_nM, va_Nw (.methodLinkNest q.1 q.2.1 q.2.2 RX3) U
theorem hm_K.moved {E : hm_E} {s U : State} (hW : s.WarmedH U.vm) (h : hm_K E s) : hm_K E U := ⟨va_K.moved hW.alike h.1, fun q hq => va_Nw.warmF hW (h.2.1 q hq), fun q hq => va_Nw.warmM hW (h.2.2 q hq)⟩
theorem hm_K.same {E : hm_E} {u U : State} (hv : u.vm = U.vm) (h : hm_K E u) : hm_K E U := ⟨va_K.moved (by rw [hv]; exact Vm.Alike.refl U.vm) h.1, fun q hq => va_Nw.same rfl hv (h.2.1 q hq), fun q hq => va_Nw.same rfl hv (h.2.2 q hq)⟩
abbrev hm_I (E : hm_E) (n : Nat) (f : Nat → Int32) : va_E := .inl (E.2.1, n, .inl f)
abbrev hm_J (E : hm_E) (n : Nat) (f : Nat → Int64) : va_E := .inl (E.2.2.1, n, .inr (.inl f))
abbrev hm_Z (E : hm_E) (n : Nat) (f : Nat → Int32) : va_E := .inl (E.2.2.2.1, n, .inl f)
abbrev hm_Q (E : hm_E) (n : Nat) (f : Nat → Option Nat) : va_E := .inl (E.2.2.2.2.1, n, .inr (.inr (.inr (.inr f))))
abbrev hm_QJ (E : hm_E) (n : Nat) (f : Nat → Option Nat) : va_E := .inl (E.2.2.2.2.2, n, .inr (.inr (.inr (.inr f))))
abbrev hm_W (la : Nat) (ln ng : Int32) : va_E := .inr (4, [.ref la, .int ln, .int ng])
def hm_Pc (E : hm_E) (M : hm_M) (sz : Nat) (av : List Value) : Array Value → State → Prop := va_Pc av (fun U => U.heap.size = sz ∧ hm_P E.1 vwCl M U.heap ∧ hm_K E U)
def hm_B (E : hm_E) (M : hm_M) (sz : Nat) : hm_M → State → Prop := fun M' t => hm_P E.1 vwCl M' t.heap ∧ ∀ (a : Nat) (e : va_E), M' a = some e → hm_A M sz a
abbrev hm_Cv (l : Launch) (E : hm_E) (y : MethodName) (ws : List Cond) (rm : Room) (av : List Value) (M : hm_M) (post : hm_M → Prop) : Prop := ∀ sz : Nat, Met l y ws rm (hm_Pc E M sz av) (va_Qv post (hm_B E M sz) (hm_A M sz)) rm.cells rm.slots (hm_A M sz)
abbrev hm_Ci (l : Launch) (E : hm_E) (y : MethodName) (ws : List Cond) (rm : Room) (av : List Value) (M : hm_M) (post : Int32 → hm_M → Prop) : Prop := ∀ sz : Nat, Met l y ws rm (hm_Pc E M sz av) (va_Qi post (hm_B E M sz) (hm_A M sz)) rm.cells rm.slots (hm_A M sz)
abbrev hm_Cl (l : Launch) (E : hm_E) (y : MethodName) (ws : List Cond) (rm : Room) (av : List Value) (M : hm_M) (post : Int64 → hm_M → Prop) : Prop := ∀ sz : Nat, Met l y ws rm (hm_Pc E M sz av) (va_Ql post (hm_B E M sz) (hm_A M sz)) rm.cells rm.slots (hm_A M sz)
abbrev hm_Cr (l : Launch) (E : hm_E) (y : MethodName) (ws : List Cond) (rm : Room) (av : List Value) (M : hm_M) (post : Nat → hm_M → Prop) : Prop := ∀ sz : Nat, Met l y ws rm (hm_Pc E M sz av) (va_Qr (fun _ : hm_M => True) (fun M' a t => post a M' ∧ hm_B E M sz M' t) (hm_A M sz)) rm.cells rm.slots (hm_A M sz)
theorem hm_blind {E : hm_E} {M : hm_M} {sz : Nat} {av : List Value} : FrameBlind (hm_Pc E M sz av) := fun _ U g mk q => by
  obtain ⟨q0, q1, qP, qK⟩ := q
  exact ⟨q0, q1, qP, hm_K.same (u := U) rfl qK⟩
theorem hm_preV {E : hm_E} {M : hm_M} {s : State} {H H0 : Heap} {A : Nat → Prop} {locs : List Loc} {C : String} {b ci : Nat} {fs : List Value} {T : u_T} {N : Nat} {As : List Value} (hK : hm_K E s) (hV : hm_V E.1 vwCl A H0 M H locs) (he : M b = some (.inr (ci, fs))) (hc : vwCl[ci]? = some (C, T, N)) : PreV s H C b (hm_Pc E M H.size (.ref b :: As)) As :=
  ⟨hm_blind, va_recv hK.1 (hm_one hV.1 he) hc (q0 := 0) rfl, fun U hU hW => ⟨rfl, by rw [hU], by rw [hU]; exact hV.1, hm_K.moved hW hK⟩⟩
theorem hm_preS {E : hm_E} {M : hm_M} {s : State} {H H0 : Heap} {A : Nat → Prop} {locs : List Loc} {As : List Value} (hK : hm_K E s) (hV : hm_V E.1 vwCl A H0 M H locs) : PreS s H (hm_Pc E M H.size As) As :=
  ⟨hm_blind, fun U hU hW => ⟨rfl, by rw [hU], by rw [hU]; exact hV.1, hm_K.moved hW hK⟩⟩
theorem hm_sub {D : va_G} {cl : List vw_C} {A : Nat → Prop} {H0 H : Heap} {M : hm_M} {locs : List Loc} (hV : hm_V D cl A H0 M H locs) (hA : ∀ q, H0.size ≤ q → A q) {q : Nat} (h : hm_A M H.size q) : A q := by
  rcases h with ⟨e, h⟩ | h
  · exact hV.2.1 q e h
  · exact hA q (Nat.le_trans hV.2.2.1 h)
section HM2
variable {p : Program} {l : Launch} {e : Env} {R : Room} {s : State} {m : MethodId} {args : Array Value} {below : List Frame} {meth : Method} {c : Code} {H : Heap} {locs : List Loc} {cells slots : Nat} {Q : State → Prop}
variable {pc : Nat} {ls : Array Slot} {rest st0 : List Value} {a : Array Value} {A : Nat → Prop} {H0 : Heap} {mc ms : Nat} {E : hm_E} {M : hm_M}
theorem hm_callv {post : hm_M → Prop} (hr : va_Run p l e R s m args below meth c H locs cells slots mc ms (F0 m pc ls st0) rest (va_Qv post (hm_B E M H.size) (hm_A M H.size) a) (hm_A M H.size)) (hV : hm_V E.1 vwCl A H0 M H locs) (hA : ∀ q, H0.size ≤ q → A q)
    (kk : ∀ (M1 : hm_M) (H1 : Heap) (locs1 : List Loc), post M1 → hm_V E.1 vwCl A H0 M1 H1 locs1 → W p l e R s m args below meth c H1 locs1 (cells + mc) (slots + ms) Q (F0 m (pc + 3) ls rest)) : W p l e R s m args below meth c H locs cells slots Q (F0 m pc ls st0) :=
  va_callv hr hV.2.2 (fun q _ h => hm_sub hV hA h) (fun q h => hm_sub hV hA h) (fun u t H1 locs1 ht _ hp hB _ _ hS => kk u H1 locs1 hp ⟨by rw [← ht]; exact hB.1, fun a e h => hm_sub hV hA (hB.2 a e h), hS⟩)
theorem hm_calli {post : Int32 → hm_M → Prop} (hr : va_Run p l e R s m args below meth c H locs cells slots mc ms (F0 m pc ls st0) rest (va_Qi post (hm_B E M H.size) (hm_A M H.size) a) (hm_A M H.size)) (hV : hm_V E.1 vwCl A H0 M H locs) (hA : ∀ q, H0.size ≤ q → A q)
    (kk : ∀ (r : Int32) (M1 : hm_M) (H1 : Heap) (locs1 : List Loc), post r M1 → hm_V E.1 vwCl A H0 M1 H1 locs1 → W p l e R s m args below meth c H1 locs1 (cells + mc) (slots + ms) Q (F0 m (pc + 3) ls (.int r :: rest))) : W p l e R s m args below meth c H locs cells slots Q (F0 m pc ls st0) :=
  va_calli hr hV.2.2 (fun q _ h => hm_sub hV hA h) (fun q h => hm_sub hV hA h) (fun r u t H1 locs1 ht _ hp hB _ _ hS => kk r u H1 locs1 hp ⟨by rw [← ht]; exact hB.1, fun a e h => hm_sub hV hA (hB.2 a e h), hS⟩)
theorem hm_calll {post : Int64 → hm_M → Prop} (hr : va_Run p l e R s m args below meth c H locs cells slots mc ms (F0 m pc ls st0) rest (va_Ql post (hm_B E M H.size) (hm_A M H.size) a) (hm_A M H.size)) (hV : hm_V E.1 vwCl A H0 M H locs) (hA : ∀ q, H0.size ≤ q → A q)
    (kk : ∀ (r : Int64) (M1 : hm_M) (H1 : Heap) (locs1 : List Loc), post r M1 → hm_V E.1 vwCl A H0 M1 H1 locs1 → W p l e R s m args below meth c H1 locs1 (cells + mc) (slots + ms) Q (F0 m (pc + 3) ls (.long r :: rest))) : W p l e R s m args below meth c H locs cells slots Q (F0 m pc ls st0) :=
  va_calll hr hV.2.2 (fun q _ h => hm_sub hV hA h) (fun q h => hm_sub hV hA h) (fun r u t H1 locs1 ht _ hp hB _ _ hS => kk r u H1 locs1 hp ⟨by rw [← ht]; exact hB.1, fun a e h => hm_sub hV hA (hB.2 a e h), hS⟩)
theorem hm_callr {post : Nat → hm_M → Prop} (hr : va_Run p l e R s m args below meth c H locs cells slots mc ms (F0 m pc ls st0) rest (va_Qr (fun _ : hm_M => True) (fun M' a t => post a M' ∧ hm_B E M H.size M' t) (hm_A M H.size) a) (hm_A M H.size)) (hV : hm_V E.1 vwCl A H0 M H locs) (hA : ∀ q, H0.size ≤ q → A q)
    (kk : ∀ (r : Nat) (M1 : hm_M) (H1 : Heap) (locs1 : List Loc), post r M1 → hm_V E.1 vwCl A H0 M1 H1 locs1 → W p l e R s m args below meth c H1 locs1 (cells + mc) (slots + ms) Q (F0 m (pc + 3) ls (.ref r :: rest))) : W p l e R s m args below meth c H locs cells slots Q (F0 m pc ls st0) :=
  va_callr hr hV.2.2 (fun q _ h => hm_sub hV hA h) (fun q h => hm_sub hV hA h) (fun u r t H1 locs1 ht _ _ hB _ _ hS => kk r u H1 locs1 hB.1 ⟨by rw [← ht]; exact hB.2.1, fun a e h => hm_sub hV hA (hB.2.2 a e h), hS⟩)
end HM2
/-- the start of a body -/
theorem hm_start {E : hm_E} {M : hm_M} {sz : Nat} {av : List Value} {args : Array Value} {s : State} (h : hm_Pc E M sz av args s) : args = av.toArray ∧ hm_A M s.heap.size = hm_A M sz ∧ (∀ q, s.heap.size ≤ q → hm_A M sz q) ∧ hm_K E s ∧ hm_V E.1 vwCl (hm_A M sz) s.heap M s.heap [] := by
  obtain ⟨h0, h1, hP, hK⟩ := h
  subst h1
  exact ⟨h0, rfl, fun q h => Or.inr h, hK, hP, fun a e h => Or.inl ⟨e, h⟩, va_S.rf⟩
/-- and its end -/
theorem hm_end {E : hm_E} {M M1 : hm_M} {sz : Nat} {s t : State} {H : Heap} {locs : List Loc} (hV : hm_V E.1 vwCl (hm_A M sz) s.heap M1 H locs) (ht : t.heap = H) : hm_B E M sz M1 t ∧ va_F (hm_A M sz) s t := ⟨⟨by rw [ht]; exact hV.1, hV.2.1⟩, hV.2.2.F ht⟩
theorem hm_u0 {M : hm_M} {a : Nat} {e e' : va_E} : hm_up (hm_up M a e) a e' = hm_up M a e' := hm_up_up M a e e'
theorem hm_u1 {M : hm_M} {a b : Nat} {e e' x : va_E} (h : b ≠ a) : hm_up (hm_up (hm_up M a e) b x) a e' = hm_up (hm_up M a e') b x := by
  rw [hm_up_comm _ _ _ h, hm_up_up]
theorem hm_u2 {M : hm_M} {a b c : Nat} {e e' x y : va_E} (h : b ≠ a) (h2 : c ≠ a) : hm_up (hm_up (hm_up (hm_up M a e) b x) c y) a e' = hm_up (hm_up (hm_up M a e') b x) c y := by
  rw [hm_up_comm _ _ _ h2, hm_u1 h]
theorem hm_u3 {M : hm_M} {a b c d : Nat} {e e' x y z : va_E} (h : b ≠ a) (h2 : c ≠ a) (h3 : d ≠ a) : hm_up (hm_up (hm_up (hm_up (hm_up M a e) b x) c y) d z) a e' = hm_up (hm_up (hm_up (hm_up M a e') b x) c y) d z := by
  rw [hm_up_comm _ _ _ h3, hm_u2 h h2]
/-- an object and an array are apart -/
theorem hm_oa {M : hm_M} {a b : Nat} {x : Nat × List Value} {y : ClassId × vp_A} (h1 : M a = some (.inr x)) (h2 : M b = some (.inl y)) : a ≠ b := by
  intro q
  subst q
  rw [h1] at h2
  cases h2
theorem hm_nn {M : hm_M} {a b : Nat} {x : va_E} (h1 : M a = some x) (h2 : M b = none) : a ≠ b := by
  intro q
  subst q
  rw [h1] at h2
  cases h2
section HM3
variable {p : Program} {l : Launch} {e : Env} {R : Room} {s : State} {m : MethodId} {args : Array Value} {below : List Frame} {meth : Method} {c : Code} {H : Heap} {locs : List Loc} {cells slots : Nat} {Q : State → Prop}
variable {cc : ByteArray} {pc : Nat} {ls : Array Slot} {rest : List Value} {D : va_G} {cl : List vw_C} {A : Nat → Prop} {a : Nat} {tys : List (ClassId × FieldType)} {M : hm_M} {H0 : Heap}
theorem hm_gen {rm : Room} {g : JFrame} (hR : R = rm) (k : ∀ Qf : State → Prop, Qf = Q → W p l e rm s m args below meth c H locs cells slots Qf g) : W p l e R s m args below meth c H locs cells slots Q g := by subst hR; exact k Q rfl
theorem hm_topi {x y : Int32} (h : x = y) (k : W p l e R s m args below meth c H locs cells slots Q (F0 m pc ls (.int y :: rest))) : W p l e R s m args below meth c H locs cells slots Q (F0 m pc ls (.int x :: rest)) := by rw [h]; exact k
theorem hm_topl {x y : Int64} (h : x = y) (k : W p l e R s m args below meth c H locs cells slots Q (F0 m pc ls (.long y :: rest))) : W p l e R s m args below meth c H locs cells slots Q (F0 m pc ls (.long x :: rest)) := by rw [h]; exact k
theorem hm_reft {x : Option Nat} {y : Nat} (h : x = some y) (k : W p l e R s m args below meth c H locs cells slots Q (F0 m pc ls (.ref y :: rest))) : W p l e R s m args below meth c H locs cells slots Q (F0 m pc ls (va_rf x :: rest)) := by rw [h]; exact k
theorem hm_ialdN (hexec : p.tables.exec = Jvm.exec) (hb : c.code = cc) (hK : va_K D cl tys s) (hV : hm_V D cl A H0 M H locs) (t0 : Nat) {cA : ClassId} {n : Nat} {f : Nat → Int32} (ha : M a = some (.inl (cA, n, .inl f))) (ht : tys[t0]? = some (cA, .int)) {k : Nat} (hk : k < n) (hn : n < 2 ^ 31) (hdg : decode cc pc = .ok (.iaload, 1))
    (kk : W p l e R s m args below meth c H locs cells slots Q (F0 m (pc + 1) ls (.int (f k) :: rest))) : W p l e R s m args below meth c H locs cells slots Q (F0 m pc ls (.int (nI k) :: .ref a :: rest)) :=
  hm_iald hexec hb hK hV t0 ha ht (vp_in_nI hk hn) hdg (by rw [nI_clamp (Nat.lt_trans hk hn)]; exact kk)
theorem hm_laldN (hexec : p.tables.exec = Jvm.exec) (hb : c.code = cc) (hK : va_K D cl tys s) (hV : hm_V D cl A H0 M H locs) (t0 : Nat) {cA : ClassId} {n : Nat} {f : Nat → Int64} (ha : M a = some (.inl (cA, n, .inr (.inl f)))) (ht : tys[t0]? = some (cA, .long)) {k : Nat} (hk : k < n) (hn : n < 2 ^ 31) (hdg : decode cc pc = .ok (.laload, 1))
    (kk : W p l e R s m args below meth c H locs cells slots Q (F0 m (pc + 1) ls (.long (f k) :: rest))) : W p l e R s m args below meth c H locs cells slots Q (F0 m pc ls (.int (nI k) :: .ref a :: rest)) :=
  hm_lald hexec hb hK hV t0 ha ht (vp_in_nI hk hn) hdg (by rw [nI_clamp (Nat.lt_trans hk hn)]; exact kk)
theorem hm_aldqN (hexec : p.tables.exec = Jvm.exec) (hb : c.code = cc) (hK : va_K D cl tys s) (hV : hm_V D cl A H0 M H locs) (t0 : Nat) {cA : ClassId} {C : String} {n : Nat} {f : Nat → Option Nat} (ha : M a = some (.inl (cA, n, .inr (.inr (.inr (.inr f)))))) (ht : tys[t0]? = some (cA, .object C)) {k : Nat} (hk : k < n) (hn : n < 2 ^ 31) (hdg : decode cc pc = .ok (.aaload, 1))
    (kk : W p l e R s m args below meth c H locs cells slots Q (F0 m (pc + 1) ls (va_rf (f k) :: rest))) : W p l e R s m args below meth c H locs cells slots Q (F0 m pc ls (.int (nI k) :: .ref a :: rest)) :=
  hm_aldq hexec hb hK hV t0 ha ht (vp_in_nI hk hn) hdg (by rw [nI_clamp (Nat.lt_trans hk hn)]; exact kk)
theorem hm_iastN (hexec : p.tables.exec = Jvm.exec) (hb : c.code = cc) (hK : va_K D cl tys s) (hV : hm_V D cl A H0 M H locs) (t0 : Nat) {cA : ClassId} {n : Nat} {f : Nat → Int32} (ha : M a = some (.inl (cA, n, .inl f))) (ht : tys[t0]? = some (cA, .int)) {x : Int32} {k : Nat} (hk : k < n) (hn : n < 2 ^ 31) (hdg : decode cc pc = .ok (.iastore, 1))
    (kk : ∀ (H1 : Heap) (locs1 : List Loc), hm_V D cl A H0 (hm_up M a (.inl (cA, n, .inl (upd f k x)))) H1 locs1 → W p l e R s m args below meth c H1 locs1 cells slots Q (F0 m (pc + 1) ls rest)) : W p l e R s m args below meth c H locs cells slots Q (F0 m pc ls (.int x :: .int (nI k) :: .ref a :: rest)) :=
  hm_iast hexec hb hK hV t0 ha ht (vp_in_nI hk hn) hdg (by rw [nI_clamp (Nat.lt_trans hk hn)]; exact kk)
theorem hm_lastN (hexec : p.tables.exec = Jvm.exec) (hb : c.code = cc) (hK : va_K D cl tys s) (hV : hm_V D cl A H0 M H locs) (t0 : Nat) {cA : ClassId} {n : Nat} {f : Nat → Int64} (ha : M a = some (.inl (cA, n, .inr (.inl f)))) (ht : tys[t0]? = some (cA, .long)) {x : Int64} {k : Nat} (hk : k < n) (hn : n < 2 ^ 31) (hdg : decode cc pc = .ok (.lastore, 1))
    (kk : ∀ (H1 : Heap) (locs1 : List Loc), hm_V D cl A H0 (hm_up M a (.inl (cA, n, .inr (.inl (vp_updL f k x))))) H1 locs1 → W p l e R s m args below meth c H1 locs1 cells slots Q (F0 m (pc + 1) ls rest)) : W p l e R s m args below meth c H locs cells slots Q (F0 m pc ls (.long x :: .int (nI k) :: .ref a :: rest)) :=
  hm_last hexec hb hK hV t0 ha ht (vp_in_nI hk hn) hdg (by rw [nI_clamp (Nat.lt_trans hk hn)]; exact kk)
theorem hm_astqN (hexec : p.tables.exec = Jvm.exec) (hb : c.code = cc) (hK : va_K D cl tys s) (hV : hm_V D cl A H0 M H locs) (t0 ci : Nat) {cA : ClassId} {r : vw_C} {n v : Nat} {vs : List Value} {f : Nat → Option Nat} (ha : M a = some (.inl (cA, n, .inr (.inr (.inr (.inr f)))))) (ht : tys[t0]? = some (cA, .object r.1)) (hv : M v = some (.inr (ci, vs))) (hc : cl[ci]? = some r) {k : Nat} (hk : k < n) (hn : n < 2 ^ 31) (hdg : decode cc pc = .ok (.aastore, 1))
    (kk : ∀ (H1 : Heap) (locs1 : List Loc), hm_V D cl A H0 (hm_up M a (.inl (cA, n, .inr (.inr (.inr (.inr (va_up f k (some v)))))))) H1 locs1 → W p l e R s m args below meth c H1 locs1 cells slots Q (F0 m (pc + 1) ls rest)) : W p l e R s m args below meth c H locs cells slots Q (F0 m pc ls (.ref v :: .int (nI k) :: .ref a :: rest)) :=
  hm_astq hexec hb hK hV t0 ci ha ht hv hc (vp_in_nI hk hn) hdg (by rw [nI_clamp (Nat.lt_trans hk hn)]; exact kk)
theorem hm_zaldN (hexec : p.tables.exec = Jvm.exec) (hb : c.code = cc) (hK : va_K D cl tys s) (hV : hm_V D cl A H0 M H locs) (t0 : Nat) {cA : ClassId} {n : Nat} {f : Nat → Int32} (ha : M a = some (.inl (cA, n, .inl f))) (ht : tys[t0]? = some (cA, .boolean)) {k : Nat} (hk : k < n) (hn : n < 2 ^ 31) (hdg : decode cc pc = .ok (.baload, 1))
    (kk : W p l e R s m args below meth c H locs cells slots Q (F0 m (pc + 1) ls (.int (f k) :: rest))) : W p l e R s m args below meth c H locs cells slots Q (F0 m pc ls (.int (nI k) :: .ref a :: rest)) :=
  va_zald hexec hb hK (hm_one hV.1 ha) 0 t0 rfl ht (vp_in_nI hk hn) hdg (by rw [nI_clamp (Nat.lt_trans hk hn)]; exact kk)
theorem hm_zastN (hexec : p.tables.exec = Jvm.exec) (hb : c.code = cc) (hK : va_K D cl tys s) (hV : hm_V D cl A H0 M H locs) (t0 : Nat) {cA : ClassId} {n : Nat} {f : Nat → Int32} (ha : M a = some (.inl (cA, n, .inl f))) (ht : tys[t0]? = some (cA, .boolean)) {x : Int32} {k : Nat} (hk : k < n) (hn : n < 2 ^ 31) (hz : vp_nar .boolean x = x) (hdg : decode cc pc = .ok (.bastore, 1))
    (kk : ∀ (H1 : Heap) (locs1 : List Loc), hm_V D cl A H0 (hm_up M a (.inl (cA, n, .inl (upd f k x)))) H1 locs1 → W p l e R s m args below meth c H1 locs1 cells slots Q (F0 m (pc + 1) ls rest)) : W p l e R s m args below meth c H locs cells slots Q (F0 m pc ls (.int x :: .int (nI k) :: .ref a :: rest)) := by
  obtain ⟨ws, hP, hD, hi⟩ := hm_list hV
  obtain ⟨q0, hq⟩ := List.getElem?_of_mem ((hi a _).1 ha)
  refine va_zast hexec hb hK hP hD hV.2.2 q0 t0 hq ht (vp_in_nI hk hn) hdg (fun H1 locs1 hP1 hD1 hS1 => kk H1 locs1 ?_)
  rw [nI_clamp (Nat.lt_trans hk hn), hz] at hP1 hD1
  exact hm_of hP1 hD1 hS1 (hm_in_set hi hq)
end HM3
end
section
/-! determinants of whole numbers, without fractions: a sum, a row put in another's place, the determinant by its last row and column, and the elimination's cells (Bareiss) -/
def dt_s : Nat → (Nat → Int) → Int
  | 0, _ => 0
  | n + 1, f => dt_s n f + f n
theorem dt_s_congr {n : Nat} {f g : Nat → Int} (h : ∀ r, r < n → f r = g r) : dt_s n f = dt_s n g := by
  induction n with
  | zero => rfl
  | succ n ih => rw [dt_s, dt_s, ih (fun r hr => h r (Nat.lt_succ_of_lt hr)), h n (Nat.lt_succ_self n)]
theorem dt_s_lin {n : Nat} (a : Int) (f g : Nat → Int) : dt_s n (fun r => a * f r + g r) = a * dt_s n f + dt_s n g := by
  induction n with
  | zero => simp [dt_s]
  | succ n ih => simp only [dt_s]; rw [ih]; grind
theorem dt_s_zero {n : Nat} {f : Nat → Int} (h : ∀ r, r < n → f r = 0) : dt_s n f = 0 := by
  induction n with
  | zero => rfl
  | succ n ih => rw [dt_s, ih (fun r hr => h r (Nat.lt_succ_of_lt hr)), h n (Nat.lt_succ_self n)]; rfl
theorem dt_s_one {n : Nat} {f : Nat → Int} {s : Nat} (hs : s < n) (h : ∀ r, r < n → r ≠ s → f r = 0) : dt_s n f = f s := by
  induction n with
  | zero => omega
  | succ n ih =>
    rw [dt_s]
    by_cases e : s = n
    · subst e
      rw [dt_s_zero (fun r hr => h r (by omega) (by omega))]; omega
    · rw [ih (by omega) (fun r hr hn => h r (by omega) hn), h n (by omega) (by omega)]; omega
theorem dt_s_two {n : Nat} {f : Nat → Int} {a b : Nat} (ha : a < n) (hb : b < n) (hab : a < b) (h : ∀ r, r < n → r ≠ a → r ≠ b → f r = 0) : dt_s n f = f a + f b := by
  induction n with
  | zero => omega
  | succ n ih =>
    rw [dt_s]
    by_cases e : b = n
    · subst e
      rw [dt_s_one (s := a) (by omega) (fun r hr hn => h r (by omega) hn (by omega))]
    · rw [ih (by omega) (by omega) (fun r hr h1 h2 => h r (by omega) h1 h2), h n (by omega) (by omega) (by omega)]; omega
/-- the matrix with the row v in the place r -/
def dt_r (M : Nat → Nat → Int) (r : Nat) (v : Nat → Int) : Nat → Nat → Int := fun i => if i = r then v else M i
theorem dt_r_at (M : Nat → Nat → Int) (r : Nat) (v : Nat → Int) : dt_r M r v r = v := by simp [dt_r]
theorem dt_r_ne (M : Nat → Nat → Int) {r i : Nat} (v : Nat → Int) (h : i ≠ r) : dt_r M r v i = M i := by simp [dt_r, h]
theorem dt_r_rr (M : Nat → Nat → Int) (r : Nat) (v w : Nat → Int) : dt_r (dt_r M r v) r w = dt_r M r w := by
  funext i
  by_cases h : i = r <;> simp [dt_r, h]
theorem dt_r_comm (M : Nat → Nat → Int) {r s : Nat} (v w : Nat → Int) (h : r ≠ s) : dt_r (dt_r M r v) s w = dt_r (dt_r M s w) r v := by
  funext i
  by_cases h1 : i = r
  · subst h1; simp [dt_r, h]
  · by_cases h2 : i = s
    · subst h2; simp [dt_r, h1]
    · simp [dt_r, h1, h2]
theorem dt_r_self (M : Nat → Nat → Int) (r : Nat) : dt_r M r (M r) = M := by
  funext i
  by_cases h : i = r
  · subst h; simp [dt_r]
  · simp [dt_r, h]
/-- the determinant of the first n rows and columns -/
def dt_D : Nat → (Nat → Nat → Int) → Int
  | 0, _ => 1
  | k + 1, M => dt_D k M * M k k - dt_s k (fun r => dt_D k (dt_r M r (M k)) * M r k)
theorem dt_D_congr {n : Nat} {M N : Nat → Nat → Int} (h : ∀ i, i < n → ∀ j, j < n → M i j = N i j) : dt_D n M = dt_D n N := by
  induction n generalizing M N with
  | zero => rfl
  | succ k ih =>
    rw [dt_D, dt_D, ih (fun i hi j hj => h i (by omega) j (by omega)), h k (by omega) k (by omega)]
    congr 1
    refine dt_s_congr (fun r hr => ?_)
    rw [h r (by omega) k (by omega)]
    congr 1
    refine ih (fun i hi j hj => ?_)
    by_cases e : i = r
    · subst e; rw [dt_r_at, dt_r_at]; exact h k (by omega) j (by omega)
    · rw [dt_r_ne _ _ e, dt_r_ne _ _ e]; exact h i (by omega) j (by omega)
theorem dt_D_last (k : Nat) (M : Nat → Nat → Int) (u : Nat → Int) : dt_D (k + 1) (dt_r M k u) = dt_D k M * u k - dt_s k (fun r => dt_D k (dt_r M r u) * M r k) := by
  rw [dt_D, dt_r_at]
  congr 1
  · congr 1
    exact dt_D_congr (fun i hi j hj => by rw [dt_r_ne _ _ (by omega)])
  · refine dt_s_congr (fun r hr => ?_)
    rw [dt_r_ne M u (show r ≠ k by omega)]
    congr 1
    refine dt_D_congr (fun i hi j hj => ?_)
    by_cases e : i = r
    · subst e; rw [dt_r_at, dt_r_at]
    · rw [dt_r_ne _ _ e, dt_r_ne _ _ e, dt_r_ne _ _ (by omega)]
theorem dt_D_in (k : Nat) (M : Nat → Nat → Int) {s : Nat} (hs : s < k) (u : Nat → Int) : dt_D (k + 1) (dt_r M s u) = dt_D k (dt_r M s u) * M k k - dt_s k (fun r => if r = s then dt_D k (dt_r M s (M k)) * u k else dt_D k (dt_r (dt_r M r (M k)) s u) * M r k) := by
  rw [dt_D, dt_r_ne M u (show k ≠ s by omega)]
  congr 1
  refine dt_s_congr (fun r hr => ?_)
  by_cases e : r = s
  · subst e
    rw [if_pos rfl, dt_r_rr, dt_r_at]
  · rw [if_neg e, dt_r_comm M u (M k) (Ne.symm e), dt_r_ne M u e]
/-- it is linear in each row -/
theorem dt_D_lin {n : Nat} (M : Nat → Nat → Int) {s : Nat} (hs : s < n) (a : Int) (v w : Nat → Int) : dt_D n (dt_r M s (fun j => a * v j + w j)) = a * dt_D n (dt_r M s v) + dt_D n (dt_r M s w) := by
  induction n generalizing M s with
  | zero => omega
  | succ k ih =>
    by_cases e : s = k
    · subst e
      rw [dt_D_last, dt_D_last, dt_D_last]
      have h1 : dt_s s (fun r => dt_D s (dt_r M r (fun j => a * v j + w j)) * M r s) = a * dt_s s (fun r => dt_D s (dt_r M r v) * M r s) + dt_s s (fun r => dt_D s (dt_r M r w) * M r s) := by
        rw [← dt_s_lin]
        refine dt_s_congr (fun r hr => ?_)
        rw [ih M hr]; grind
      rw [h1]; grind
    · have hs' : s < k := by omega
      rw [dt_D_in k M hs', dt_D_in k M hs', dt_D_in k M hs', ih M hs']
      have h1 : dt_s k (fun r => if r = s then dt_D k (dt_r M s (M k)) * (a * v k + w k) else dt_D k (dt_r (dt_r M r (M k)) s (fun j => a * v j + w j)) * M r k)
          = a * dt_s k (fun r => if r = s then dt_D k (dt_r M s (M k)) * v k else dt_D k (dt_r (dt_r M r (M k)) s v) * M r k) + dt_s k (fun r => if r = s then dt_D k (dt_r M s (M k)) * w k else dt_D k (dt_r (dt_r M r (M k)) s w) * M r k) := by
        rw [← dt_s_lin]
        refine dt_s_congr (fun r hr => ?_)
        by_cases h : r = s
        · simp only [if_pos h]; grind
        · simp only [if_neg h]; rw [ih _ hs']; grind
      rw [h1]; grind
theorem dt_D_add {n : Nat} (M : Nat → Nat → Int) {s : Nat} (hs : s < n) (v w : Nat → Int) : dt_D n (dt_r M s (fun j => v j + w j)) = dt_D n (dt_r M s v) + dt_D n (dt_r M s w) := by
  have h := dt_D_lin M hs 1 v w
  rw [Int.one_mul] at h
  rw [← h]
  congr 2
  funext j; rw [Int.one_mul]
theorem dt_D_null {n : Nat} (M : Nat → Nat → Int) {s : Nat} (hs : s < n) : dt_D n (dt_r M s (fun _ => 0)) = 0 := by
  have h := dt_D_add M hs (fun _ => 0) (fun _ => 0)
  simp only [Int.add_zero] at h
  omega
/-- it is 0 where two rows are the same -/
theorem dt_D_alt {n : Nat} {M : Nat → Nat → Int} {a b : Nat} (hab : a < b) (hb : b < n) (h : M a = M b) : dt_D n M = 0 := by
  induction n generalizing M a b with
  | zero => omega
  | succ k ih =>
    rw [dt_D]
    by_cases e : b = k
    · subst e
      rw [dt_s_one (s := a) hab (fun r hr hn => ?_)]
      · rw [← h, dt_r_self, h]; omega
      · have h0 : dt_D b (dt_r M r (M b)) = 0 := by
          rcases Nat.lt_or_gt_of_ne hn with q | q
          · exact ih q hab (by rw [dt_r_at, dt_r_ne _ _ (by omega), h])
          · exact ih q hr (by rw [dt_r_at, dt_r_ne _ _ (by omega), h])
        rw [h0]; omega
    · have hb' : b < k := by omega
      rw [ih hab hb' h, dt_s_two (a := a) (b := b) (by omega) hb' hab (fun r hr h1 h2 => by
        rw [ih (M := dt_r M r (M k)) hab hb' (by rw [dt_r_ne _ _ (Ne.symm h1), dt_r_ne _ _ (Ne.symm h2), h])]; omega)]
      have hz : dt_D k (dt_r M a (M k)) + dt_D k (dt_r M b (M k)) = 0 := by
        have q0 : dt_D k (dt_r (dt_r M a (fun j => M k j + M a j)) b (fun j => M k j + M a j)) = 0 := ih hab hb' (by rw [dt_r_at, dt_r_ne _ _ (by omega), dt_r_at])
        rw [dt_D_add _ hb', dt_r_comm _ _ _ (show a ≠ b by omega), dt_r_comm _ _ _ (show a ≠ b by omega), dt_D_add _ (by omega), dt_D_add _ (by omega)] at q0
        have q1 : dt_D k (dt_r (dt_r M b (M k)) a (M k)) = 0 := ih hab hb' (by rw [dt_r_at, dt_r_ne _ _ (by omega), dt_r_at])
        have q2 : dt_D k (dt_r (dt_r M b (M a)) a (M a)) = 0 := ih hab hb' (by rw [dt_r_at, dt_r_ne _ _ (by omega), dt_r_at])
        have q3 : dt_r (dt_r M b (M k)) a (M a) = dt_r M b (M k) := by
          have := dt_r_self (dt_r M b (M k)) a
          rwa [dt_r_ne _ _ (show a ≠ b by omega)] at this
        have q4 : dt_r (dt_r M b (M a)) a (M k) = dt_r M a (M k) := by
          rw [h, dt_r_self]
        have e1 : (fun j => M k j) = M k := rfl
        have e2 : (fun j => M a j) = M a := rfl
        rw [q1, q2, q3, q4] at q0
        omega
      rw [h]
      have e3 : M a k = M b k := by rw [h]
      grind
theorem dt_D_alt' {n : Nat} {M : Nat → Nat → Int} {a b : Nat} (hab : a ≠ b) (ha : a < n) (hb : b < n) (h : M a = M b) : dt_D n M = 0 := by
  rcases Nat.lt_or_gt_of_ne hab with q | q
  · exact dt_D_alt q hb h
  · exact dt_D_alt q ha h.symm
theorem dt_D_sum {n : Nat} (M : Nat → Nat → Int) {r : Nat} (hr : r < n) (m : Nat) (x : Nat → Int) : dt_D n (dt_r M r (fun j => dt_s m (fun t => x t * M t j))) = dt_s m (fun t => x t * dt_D n (dt_r M r (M t))) := by
  induction m with
  | zero => simp only [dt_s]; exact dt_D_null M hr
  | succ m ih =>
    simp only [dt_s]
    rw [← ih]
    have h := dt_D_lin M hr (x m) (M m) (fun j => dt_s m (fun t => x t * M t j))
    have e1 : (fun j => dt_s m (fun t => x t * M t j) + x m * M m j) = (fun j => x m * M m j + dt_s m (fun t => x t * M t j)) := by funext j; omega
    rw [e1, h]; omega
/-- Cramer's rule -/
theorem dt_cramer {n : Nat} {M : Nat → Nat → Int} {x y : Nat → Int} (hx : ∀ j, j < n → dt_s n (fun t => x t * M t j) = y j) {r : Nat} (hr : r < n) : x r * dt_D n M = dt_D n (dt_r M r y) := by
  have h1 : dt_D n (dt_r M r y) = dt_D n (dt_r M r (fun j => dt_s n (fun t => x t * M t j))) := dt_D_congr (fun i hi j hj => by
    by_cases e : i = r
    · subst e; rw [dt_r_at, dt_r_at]; exact (hx j hj).symm
    · rw [dt_r_ne _ _ e, dt_r_ne _ _ e])
  rw [h1, dt_D_sum M hr, dt_s_one (s := r) hr (fun t ht hn => by
    rw [dt_D_alt' (M := dt_r M r (M t)) hn ht hr (by rw [dt_r_at, dt_r_ne _ _ hn])]; omega), dt_r_self]
/-- a cell of the elimination behind k steps -/
def dt_B (M : Nat → Nat → Int) (k i j : Nat) : Int := dt_D k M * M i j - dt_s k (fun r => dt_D k (dt_r M r (M i)) * M r j)
theorem dt_B_0 (M : Nat → Nat → Int) (i j : Nat) : dt_B M 0 i j = M i j := by simp [dt_B, dt_D, dt_s]
theorem dt_B_D (M : Nat → Nat → Int) (k : Nat) : dt_D (k + 1) M = dt_B M k k k := rfl
theorem dt_s_mulr {n : Nat} (a : Int) (f : Nat → Int) : dt_s n (fun r => a * f r) = a * dt_s n f := by
  have h := dt_s_lin (n := n) a f (fun _ => 0)
  rw [dt_s_zero (f := fun _ => 0) (fun _ _ => rfl)] at h
  simp only [Int.add_zero] at h
  exact h
/-- the step: what is divided by the pivot before is the next cell times it -/
theorem dt_step {M : Nat → Nat → Int} {k : Nat} (hp' : dt_D (k + 1) M ≠ 0) (hv : ∀ i j, j < k → dt_B M k i j = 0) (i j : Nat) :
    dt_D (k + 1) M * dt_B M k i j - dt_B M k i k * dt_B M k k j = dt_D k M * dt_B M (k + 1) i j := by
  have key : ∀ j, dt_D (k + 1) M * dt_B M k i j - dt_B M k i k * dt_B M k k j
      = dt_D k M * dt_D (k + 1) M * M i j - dt_s (k + 1) (fun r => (if r < k then dt_D (k + 1) M * dt_D k (dt_r M r (M i)) - dt_B M k i k * dt_D k (dt_r M r (M k)) else dt_B M k i k * dt_D k M) * M r j) := by
    intro j
    rw [dt_s]
    have h1 : dt_s k (fun r => (if r < k then dt_D (k + 1) M * dt_D k (dt_r M r (M i)) - dt_B M k i k * dt_D k (dt_r M r (M k)) else dt_B M k i k * dt_D k M) * M r j)
        = dt_D (k + 1) M * dt_s k (fun r => dt_D k (dt_r M r (M i)) * M r j) + dt_s k (fun r => (- dt_B M k i k) * (dt_D k (dt_r M r (M k)) * M r j)) := by
      rw [← dt_s_lin]
      refine dt_s_congr (fun r hr => ?_)
      rw [if_pos hr]; grind
    rw [h1, dt_s_mulr, if_neg (by omega)]
    generalize dt_B M k i k = z
    simp only [dt_B]
    grind
  have h0 : ∀ j, j < k + 1 → dt_s (k + 1) (fun r => (if r < k then dt_D (k + 1) M * dt_D k (dt_r M r (M i)) - dt_B M k i k * dt_D k (dt_r M r (M k)) else dt_B M k i k * dt_D k M) * M r j) = dt_D k M * dt_D (k + 1) M * M i j := by
    intro j hj
    have hk := key j
    have hz : dt_D (k + 1) M * dt_B M k i j - dt_B M k i k * dt_B M k k j = 0 := by
      by_cases e : j = k
      · subst e; rw [dt_B_D]; grind
      · rw [hv i j (by omega), hv k j (by omega)]; omega
    omega
  have hc : ∀ r, r < k + 1 → (if r < k then dt_D (k + 1) M * dt_D k (dt_r M r (M i)) - dt_B M k i k * dt_D k (dt_r M r (M k)) else dt_B M k i k * dt_D k M) = dt_D k M * dt_D (k + 1) (dt_r M r (M i)) := by
    intro r hr
    have h1 := dt_cramer (n := k + 1) (M := M) h0 hr
    have h2 : dt_D (k + 1) (dt_r M r (fun j => dt_D k M * dt_D (k + 1) M * M i j)) = dt_D k M * dt_D (k + 1) M * dt_D (k + 1) (dt_r M r (M i)) := by
      have h3 := dt_D_lin M hr (dt_D k M * dt_D (k + 1) M) (M i) (fun _ => 0)
      rw [dt_D_null M hr] at h3
      simp only [Int.add_zero] at h3
      exact h3
    rw [h2] at h1
    refine Int.eq_of_mul_eq_mul_right hp' ?_
    rw [h1]; grind
  rw [key j, dt_s_congr (g := fun r => dt_D k M * (dt_D (k + 1) (dt_r M r (M i)) * M r j)) (fun r hr => by rw [hc r hr]; grind), dt_s_mulr]
  simp only [dt_B]
  grind
theorem dt_van {M : Nat → Nat → Int} {k : Nat} (hp : dt_D k M ≠ 0) (hp' : dt_D (k + 1) M ≠ 0) (hv : ∀ i j, j < k → dt_B M k i j = 0) : ∀ i j, j < k + 1 → dt_B M (k + 1) i j = 0 := by
  intro i j hj
  have h := dt_step hp' hv i j
  have hz : dt_D (k + 1) M * dt_B M k i j - dt_B M k i k * dt_B M k k j = 0 := by
    by_cases e : j = k
    · subst e; rw [dt_B_D]; grind
    · rw [hv i j (by omega), hv k j (by omega)]; omega
  rw [hz] at h
  rcases Int.mul_eq_zero.mp h.symm with q | q
  · exact absurd q hp
  · exact q
/-- how large they get -/
def dt_f : Nat → Nat
  | 0 => 1
  | n + 1 => (n + 1) * dt_f n
theorem dt_s_le {n : Nat} {f : Nat → Int} {c : Nat} (h : ∀ r, r < n → (f r).natAbs ≤ c) : (dt_s n f).natAbs ≤ n * c := by
  induction n with
  | zero => simp [dt_s]
  | succ n ih =>
    have h1 := ih (fun r hr => h r (by omega))
    have h2 := h n (by omega)
    have h3 := Int.natAbs_add_le (dt_s n f) (f n)
    rw [dt_s, Nat.succ_mul]
    omega
theorem dt_D_le {n : Nat} {M : Nat → Nat → Int} {b : Nat} (h : ∀ i j, i < n → j < n → (M i j).natAbs ≤ b) : (dt_D n M).natAbs ≤ dt_f n * b ^ n := by
  induction n generalizing M with
  | zero => simp [dt_D, dt_f]
  | succ k ih =>
    have h1 : (dt_D k M * M k k).natAbs ≤ dt_f k * b ^ k * b := by
      rw [Int.natAbs_mul]
      exact Nat.mul_le_mul (ih (fun i j hi hj => h i j (by omega) (by omega))) (h k k (by omega) (by omega))
    have h2 : (dt_s k (fun r => dt_D k (dt_r M r (M k)) * M r k)).natAbs ≤ k * (dt_f k * b ^ k * b) := by
      refine dt_s_le (fun r hr => ?_)
      rw [Int.natAbs_mul]
      refine Nat.mul_le_mul (ih (fun i j hi hj => ?_)) (h r k (by omega) (by omega))
      by_cases e : i = r
      · subst e; rw [dt_r_at]; exact h k j (by omega) (by omega)
      · rw [dt_r_ne _ _ e]; exact h i j (by omega) (by omega)
    have h3 := Int.natAbs_sub_le (dt_D k M * M k k) (dt_s k (fun r => dt_D k (dt_r M r (M k)) * M r k))
    rw [dt_D, dt_f, Nat.pow_succ]
    have e1 : (k + 1) * dt_f k * (b ^ k * b) = k * (dt_f k * b ^ k * b) + dt_f k * b ^ k * b := by
      rw [Nat.add_mul, Nat.one_mul, Nat.add_mul]
      congr 1
      · rw [Nat.mul_assoc, Nat.mul_assoc]
      · rw [Nat.mul_assoc]
    rw [e1]
    omega
theorem dt_B_le {M : Nat → Nat → Int} {b k i j : Nat} (h : ∀ r c, (M r c).natAbs ≤ b) : (dt_B M k i j).natAbs ≤ dt_f (k + 1) * b ^ (k + 1) := by
  have h1 : (dt_D k M * M i j).natAbs ≤ dt_f k * b ^ k * b := by
    rw [Int.natAbs_mul]
    exact Nat.mul_le_mul (dt_D_le (fun i j _ _ => h i j)) (h i j)
  have h2 : (dt_s k (fun r => dt_D k (dt_r M r (M i)) * M r j)).natAbs ≤ k * (dt_f k * b ^ k * b) := by
    refine dt_s_le (fun r hr => ?_)
    rw [Int.natAbs_mul]
    refine Nat.mul_le_mul (dt_D_le (fun i' j' hi hj => ?_)) (h r j)
    by_cases e : i' = r
    · subst e; rw [dt_r_at]; exact h i j'
    · rw [dt_r_ne _ _ e]; exact h i' j'
  have h3 := Int.natAbs_sub_le (dt_D k M * M i j) (dt_s k (fun r => dt_D k (dt_r M r (M i)) * M r j))
  rw [dt_B, dt_f, Nat.pow_succ]
  have e1 : (k + 1) * dt_f k * (b ^ k * b) = k * (dt_f k * b ^ k * b) + dt_f k * b ^ k * b := by
    rw [Nat.add_mul, Nat.one_mul, Nat.add_mul]
    congr 1
    · rw [Nat.mul_assoc, Nat.mul_assoc]
    · rw [Nat.mul_assoc]
  rw [e1]
  omega
/-- a cell knows of the rows above the step, and of its own row -/
theorem dt_B_congr {M N : Nat → Nat → Int} {k i i' j : Nat} (h : ∀ r, r < k → M r = N r) (hi : M i = N i') : dt_B M k i j = dt_B N k i' j := by
  rw [dt_B, dt_B, hi, dt_D_congr (M := M) (N := N) (fun r hr c _ => by rw [h r hr])]
  congr 1
  refine dt_s_congr (fun r hr => ?_)
  rw [h r hr]
  congr 1
  refine dt_D_congr (fun a ha c _ => ?_)
  by_cases e : a = r
  · subst e; rw [dt_r_at, dt_r_at]
  · rw [dt_r_ne _ _ e, dt_r_ne _ _ e, h a ha]
end
section
/-! numbers by their limbs, the lowest first -/
def nu_v (B : Nat) (d : Nat → Nat) : Nat → Nat
  | 0 => 0
  | n + 1 => nu_v B d n + d n * B ^ n
/-- how many limbs are in use among the first t -/
def nu_k (d : Nat → Nat) : Nat → Nat
  | 0 => 0
  | t + 1 => if d t = 0 then nu_k d t else t + 1
theorem nu_k_le (d : Nat → Nat) (t : Nat) : nu_k d t ≤ t := by
  induction t with
  | zero => exact Nat.le_refl 0
  | succ t ih => rw [nu_k]; split <;> omega
theorem nu_v_k (B : Nat) (d : Nat → Nat) (t : Nat) : nu_v B d (nu_k d t) = nu_v B d t := by
  induction t with
  | zero => rfl
  | succ t ih =>
    rw [nu_k]
    split
    · next h => rw [ih, nu_v, h, Nat.zero_mul, Nat.add_zero]
    · rfl
theorem nu_k_top (d : Nat → Nat) (t : Nat) (h : 0 < nu_k d t) : d (nu_k d t - 1) ≠ 0 := by
  induction t with
  | zero => exact absurd h (by simp [nu_k])
  | succ t ih =>
    rw [nu_k] at h ⊢
    split
    · next q => rw [if_pos q] at h; exact ih h
    · next q => exact q
theorem nu_v_lt {B : Nat} {d : Nat → Nat} {n : Nat} (h : ∀ j, j < n → d j < B) : nu_v B d n < B ^ n := by
  induction n with
  | zero => exact Nat.one_pos
  | succ n ih =>
    have h1 := ih (fun j hj => h j (by omega))
    have h2 : d n + 1 ≤ B := h n (by omega)
    have h3 : (d n + 1) * B ^ n ≤ B * B ^ n := Nat.mul_le_mul_right _ h2
    rw [nu_v, Nat.pow_succ, Nat.mul_comm (B ^ n) B]
    rw [Nat.add_mul, Nat.one_mul] at h3
    omega
theorem nu_v_congr {B : Nat} {d e : Nat → Nat} {n : Nat} (h : ∀ j, j < n → d j = e j) : nu_v B d n = nu_v B e n := by
  induction n with
  | zero => rfl
  | succ n ih => rw [nu_v, nu_v, ih (fun j hj => h j (by omega)), h n (by omega)]
theorem nu_v_low {B : Nat} {d : Nat → Nat} {n : Nat} (h : 0 < n) (h2 : d (n - 1) ≠ 0) : B ^ (n - 1) ≤ nu_v B d n := by
  obtain ⟨m, rfl⟩ : ∃ m, n = m + 1 := ⟨n - 1, by omega⟩
  rw [nu_v, Nat.add_sub_cancel] at *
  have h3 : 1 * B ^ m ≤ d m * B ^ m := Nat.mul_le_mul_right _ (Nat.one_le_iff_ne_zero.mpr h2)
  omega
end
section
theorem wb_tb (n : Nat) : (lN n).toBitVec = BitVec.ofNat 64 n := rfl
theorem wb_inj {a b : Int64} (h : a.toBitVec = b.toBitVec) : a = b := Int64.toBitVec_inj.mp h
theorem wb_tn {n : Nat} (h : n < 2 ^ 64) : (lN n).toBitVec.toNat = n := by rw [wb_tb, BitVec.toNat_ofNat, Nat.mod_eq_of_lt h]
theorem wb_of (x : Int64) : ∃ n, n < 2 ^ 64 ∧ x = lN n := ⟨x.toBitVec.toNat, x.toBitVec.isLt, wb_inj (by rw [wb_tb]; simp)⟩
theorem wb_of32 (x : Int32) : ∃ n, n < 2 ^ 32 ∧ x = nI n := ⟨x.toBitVec.toNat, x.toBitVec.isLt, Int32.toBitVec_inj.mp (by show _ = BitVec.ofNat 32 _; simp)⟩
theorem wb_c : ∀ k, k < 64 → ((nI k).toInt64 &&& 63) = lN k := by decide +kernel
theorem wb_cu : ∀ k, k < 64 → ((nI k).toInt64.toUInt64 &&& Int64.toUInt64 63) = UInt64.ofNat k := by decide +kernel
theorem wb_sm : ∀ k, k < 64 → (BitVec.ofNat 64 k).smod 64 = BitVec.ofNat 64 k := by decide +kernel
theorem wb_pw {a b : Nat} (h : a ≤ b) : 2 ^ b = 2 ^ a * 2 ^ (b - a) := by rw [← Nat.pow_add]; congr 1; omega
theorem wb_lt2 {a b : Nat} (h : a < b) : 2 ^ a < 2 ^ b := Nat.pow_lt_pow_right (by decide) h
theorem wb_mod (n : Nat) : lN n = lN (n % 2 ^ 64) := wb_inj (by rw [wb_tb, wb_tb]; apply BitVec.eq_of_toNat_eq; rw [BitVec.toNat_ofNat, BitVec.toNat_ofNat, Nat.mod_mod])
theorem wb_shr {n k : Nat} (hn : n < 2 ^ 64) (hk : k < 64) : ((lN n).toUInt64 >>> ((nI k).toInt64.toUInt64 &&& Int64.toUInt64 63)).toInt64 = lN (n / 2 ^ k) := by
  rw [wb_cu k hk]
  apply wb_inj
  apply BitVec.eq_of_toNat_eq
  show ((lN n).toUInt64 >>> UInt64.ofNat k).toNat = (BitVec.ofNat 64 _).toNat
  have h1 : (UInt64.ofNat k).toNat = k := by
    show (BitVec.ofNat 64 k).toNat = k
    rw [BitVec.toNat_ofNat, Nat.mod_eq_of_lt (by omega)]
  have h2 : (lN n).toUInt64.toNat = n := wb_tn hn
  rw [UInt64.toNat_shiftRight, h1, h2, Nat.mod_eq_of_lt hk, Nat.shiftRight_eq_div_pow, BitVec.toNat_ofNat, Nat.mod_eq_of_lt (Nat.lt_of_le_of_lt (Nat.div_le_self _ _) hn)]
theorem wb_shl (n : Nat) {k : Nat} (hk : k < 64) : lN n <<< ((nI k).toInt64 &&& 63) = lN (n * 2 ^ k) := by
  rw [wb_c k hk]
  apply wb_inj
  rw [Int64.toBitVec_shiftLeft, wb_tb, wb_tb, wb_tb, wb_sm k hk]
  apply BitVec.eq_of_toNat_eq
  rw [BitVec.shiftLeft_eq', BitVec.toNat_shiftLeft, BitVec.toNat_ofNat, BitVec.toNat_ofNat, BitVec.toNat_ofNat, Nat.mod_eq_of_lt (show k < 2 ^ 64 by omega), Nat.shiftLeft_eq, Nat.mul_mod, Nat.mod_mod, ← Nat.mul_mod]
theorem wb_and {a b : Nat} (ha : a < 2 ^ 64) (hb : b < 2 ^ 64) : lN a &&& lN b = lN (a &&& b) := by
  apply wb_inj
  rw [Int64.toBitVec_and, wb_tb, wb_tb, wb_tb]
  apply BitVec.eq_of_toNat_eq
  rw [BitVec.toNat_and, BitVec.toNat_ofNat, BitVec.toNat_ofNat, BitVec.toNat_ofNat, Nat.mod_eq_of_lt ha, Nat.mod_eq_of_lt hb, Nat.mod_eq_of_lt (Nat.and_lt_two_pow _ hb)]
theorem wb_or {a b : Nat} (ha : a < 2 ^ 64) (hb : b < 2 ^ 64) : lN a ||| lN b = lN (a ||| b) := by
  apply wb_inj
  rw [Int64.toBitVec_or, wb_tb, wb_tb, wb_tb]
  apply BitVec.eq_of_toNat_eq
  rw [BitVec.toNat_or, BitVec.toNat_ofNat, BitVec.toNat_ofNat, BitVec.toNat_ofNat, Nat.mod_eq_of_lt ha, Nat.mod_eq_of_lt hb, Nat.mod_eq_of_lt (Nat.or_lt_two_pow ha hb)]
theorem wb_mask {n k : Nat} (hn : n < 2 ^ 64) (hk : k < 64) : lN n &&& lN (2 ^ k - 1) = lN (n % 2 ^ k) := by
  rw [wb_and hn (by have := wb_lt2 hk; omega), Nat.and_two_pow_sub_one_eq_mod]
theorem wb_a1 {n : Nat} (hn : n < 2 ^ 64) : lN n &&& 1 = lN (n % 2) := wb_mask (k := 1) hn (by decide)
/-! ints and longs by whole numbers of any sign -/
def iZ (z : Int) : Int32 := Int32.ofInt z
def lZ (z : Int) : Int64 := Int64.ofInt z
theorem iZ_nI (n : Nat) : nI n = iZ n := by
  apply Int32.toBitVec_inj.mp
  show BitVec.ofNat 32 n = BitVec.ofInt 32 n
  simp
theorem lZ_lN (n : Nat) : lN n = lZ n := by
  apply Int64.toBitVec_inj.mp
  show BitVec.ofNat 64 n = BitVec.ofInt 64 n
  simp
theorem iZ_add (a b : Int) : iZ a + iZ b = iZ (a + b) := by
  apply Int32.toBitVec_inj.mp
  rw [Int32.toBitVec_add]
  show BitVec.ofInt 32 a + BitVec.ofInt 32 b = BitVec.ofInt 32 (a + b)
  rw [BitVec.ofInt_add]
theorem iZ_mul (a b : Int) : iZ a * iZ b = iZ (a * b) := by
  apply Int32.toBitVec_inj.mp
  rw [Int32.toBitVec_mul]
  show BitVec.ofInt 32 a * BitVec.ofInt 32 b = BitVec.ofInt 32 (a * b)
  rw [BitVec.ofInt_mul]
theorem lZ_add (a b : Int) : lZ a + lZ b = lZ (a + b) := by
  apply Int64.toBitVec_inj.mp
  rw [Int64.toBitVec_add]
  show BitVec.ofInt 64 a + BitVec.ofInt 64 b = BitVec.ofInt 64 (a + b)
  rw [BitVec.ofInt_add]
theorem lZ_mul (a b : Int) : lZ a * lZ b = lZ (a * b) := by
  apply Int64.toBitVec_inj.mp
  rw [Int64.toBitVec_mul]
  show BitVec.ofInt 64 a * BitVec.ofInt 64 b = BitVec.ofInt 64 (a * b)
  rw [BitVec.ofInt_mul]
theorem lZ_neg (a : Int) : -lZ a = lZ (-a) := by
  apply Int64.toBitVec_inj.mp
  rw [Int64.toBitVec_neg]
  show -BitVec.ofInt 64 a = BitVec.ofInt 64 (-a)
  rw [BitVec.ofInt_neg]
theorem iZ_neg (a : Int) : -iZ a = iZ (-a) := by
  apply Int32.toBitVec_inj.mp
  rw [Int32.toBitVec_neg]
  show -BitVec.ofInt 32 a = BitVec.ofInt 32 (-a)
  rw [BitVec.ofInt_neg]
theorem lZ_sub (a b : Int) : lZ a - lZ b = lZ (a - b) := by
  rw [Int64.sub_eq_add_neg, lZ_neg, lZ_add]; rfl
theorem iZ_sub (a b : Int) : iZ a - iZ b = iZ (a - b) := by
  rw [Int32.sub_eq_add_neg, iZ_neg, iZ_add]; rfl
theorem iZ_toInt {z : Int} (h1 : -2147483648 ≤ z) (h2 : z < 2147483648) : (iZ z).toInt = z := by
  show (Int32.ofInt z).toInt = z
  rw [Int32.toInt_ofInt]
  simp only [Int32.size]
  rw [Int.bmod_eq_of_le (by omega) (by omega)]
theorem lZ_toInt {z : Int} (h1 : -9223372036854775808 ≤ z) (h2 : z < 9223372036854775808) : (lZ z).toInt = z := by
  show (Int64.ofInt z).toInt = z
  rw [Int64.toInt_ofInt]
  simp only [Int64.size]
  rw [Int.bmod_eq_of_le (by omega) (by omega)]
theorem lZ_of (x : Int64) : x = lZ x.toInt := by
  show x = Int64.ofInt x.toInt
  exact (Int64.ofInt_toInt x).symm
theorem iZ_of (x : Int32) : x = iZ x.toInt := by
  show x = Int32.ofInt x.toInt
  exact (Int32.ofInt_toInt x).symm
theorem iZ_lZ {z : Int} (h1 : -2147483648 ≤ z) (h2 : z < 2147483648) : (iZ z).toInt64 = lZ z := by
  apply Int64.toInt_inj.mp
  rw [Int32.toInt_toInt64, iZ_toInt h1 h2, lZ_toInt (by omega) (by omega)]
theorem nI_lZ {n : Nat} (h : n < 2147483648) : (nI n).toInt64 = lZ n := by rw [iZ_nI, iZ_lZ (by omega) (by omega)]
theorem lZ_i (z : Int) : (lZ z).toInt32 = iZ z := by
  show (Int64.ofInt z).toInt32 = Int32.ofInt z
  apply Int32.toInt_inj.mp
  rw [Int64.toInt_toInt32, Int64.toInt_ofInt, Int32.toInt_ofInt]
  simp only [Int64.size, Int32.size]
  rw [Int.bmod_bmod_of_dvd (by decide)]
theorem lZ_nI (n : Nat) : (lZ n).toInt32 = nI n := by rw [lZ_i, iZ_nI]
theorem lZ_lt {a b : Int} (ha : -9223372036854775808 ≤ a) (ha2 : a < 9223372036854775808) (hb : -9223372036854775808 ≤ b) (hb2 : b < 9223372036854775808) : lZ a < lZ b ↔ a < b := by
  rw [Int64.lt_iff_toInt_lt, lZ_toInt ha ha2, lZ_toInt hb hb2]
theorem lZ_le {a b : Int} (ha : -9223372036854775808 ≤ a) (ha2 : a < 9223372036854775808) (hb : -9223372036854775808 ≤ b) (hb2 : b < 9223372036854775808) : lZ a ≤ lZ b ↔ a ≤ b := by
  rw [Int64.le_iff_toInt_le, lZ_toInt ha ha2, lZ_toInt hb hb2]
theorem lZ_eq {a b : Int} (ha : -9223372036854775808 ≤ a) (ha2 : a < 9223372036854775808) (hb : -9223372036854775808 ≤ b) (hb2 : b < 9223372036854775808) : lZ a = lZ b ↔ a = b := by
  rw [← Int64.toInt_inj, lZ_toInt ha ha2, lZ_toInt hb hb2]
/-- the lowest 25 bits -/
theorem iZ_mask (z : Int) : iZ z &&& 33554431 = nI (z % 33554432).toNat := by
  rw [pk_and (iZ z) (m := 33554431) 25 (by decide)]
  congr 1
  show (BitVec.ofInt 32 z).toNat % 2 ^ 25 = _
  rw [BitVec.toNat_ofInt]
  omega
theorem lZ_mask (z : Int) : lZ z &&& 33554431 = lZ (z % 33554432) := by
  apply Int64.toBitVec_inj.mp
  apply BitVec.eq_of_toNat_eq
  rw [Int64.toBitVec_and, BitVec.toNat_and]
  show (BitVec.ofInt 64 z).toNat &&& (33554431 : Int64).toBitVec.toNat = (BitVec.ofInt 64 (z % 33554432)).toNat
  rw [show (33554431 : Int64).toBitVec.toNat = 2 ^ 25 - 1 from by decide, Nat.and_two_pow_sub_one_eq_mod, BitVec.toNat_ofInt, BitVec.toNat_ofInt]
  omega
theorem lZ_mask' (z : Int) : lZ z &&& 33554431 = lZ ((z % 33554432).toNat : Nat) := by
  rw [lZ_mask]; congr 1; omega
theorem iZ_shr {z : Int} (h1 : -2147483648 ≤ z) (h2 : z < 2147483648) : iZ z >>> (25 &&& 31) = iZ (z / 33554432) := by
  apply Int32.toInt_inj.mp
  rw [pk_shr _ _ 25 (by decide), iZ_toInt h1 h2, iZ_toInt (by omega) (by omega), Int.shiftRight_eq_div_pow]
  rfl
theorem lZ_shr {z : Int} (h1 : -9223372036854775808 ≤ z) (h2 : z < 9223372036854775808) : lZ z >>> ((25 : Int32).toInt64 &&& 63) = lZ (z / 33554432) := by
  apply Int64.toInt_inj.mp
  have h3 : (lZ z >>> ((25 : Int32).toInt64 &&& 63)).toInt = (lZ z).toInt >>> 25 := by
    show ((lZ z).toBitVec.sshiftRight (((25 : Int32).toInt64 &&& 63).toBitVec.smod 64).toNat).toInt = _
    rw [show (((25 : Int32).toInt64 &&& 63).toBitVec.smod 64).toNat = 25 from by decide, BitVec.toInt_sshiftRight]
    rfl
  rw [h3, lZ_toInt h1 h2, lZ_toInt (by omega) (by omega), Int.shiftRight_eq_div_pow]
  rfl
theorem lN_ushr {n : Nat} (h : n < 2 ^ 64) : ((lN n).toUInt64 >>> ((25 : Int32).toInt64.toUInt64 &&& Int64.toUInt64 63)).toInt64 = lN (n / 33554432) := wb_shr (k := 25) h (by decide)
theorem lN_mask {n : Nat} (h : n < 2 ^ 64) : lN n &&& 33554431 = lN (n % 33554432) := wb_mask (k := 25) h (by decide)
theorem lN_or {a b : Nat} (h : b < 33554432) (ha : a < 2 ^ 39) : lN a <<< ((25 : Int32).toInt64 &&& 63) ||| lN b = lN (a * 33554432 + b) := by
  have h1 : lN a <<< ((25 : Int32).toInt64 &&& 63) = lN (a * 2 ^ 25) := wb_shl a (k := 25) (by decide)
  rw [h1, wb_or (by omega) (by omega), Nat.mul_comm a (2 ^ 25), ← Nat.two_pow_add_eq_or_of_lt (i := 25) h, Nat.mul_comm]
/-! carries: columns x, limb by limb -/
def ch_c (B : Int) (x : Nat → Int) : Nat → Int
  | 0 => 0
  | i + 1 => (x i + ch_c B x i) / B
def ch_e (B : Int) (x : Nat → Int) (i : Nat) : Nat := ((x i + ch_c B x i) % B).toNat
def ch_s (B : Int) (x : Nat → Int) : Nat → Int
  | 0 => 0
  | n + 1 => ch_s B x n + x n * B ^ n
theorem ch_e_lt {B : Int} {x : Nat → Int} (hB : 0 < B) (i : Nat) : (ch_e B x i : Int) < B := by
  have h1 := Int.emod_nonneg (x i + ch_c B x i) (Int.ne_of_gt hB)
  have h2 := Int.emod_lt_of_pos (x i + ch_c B x i) hB
  rw [ch_e]
  omega
theorem ch_sum {B : Nat} (hB : 0 < B) (x : Nat → Int) (n : Nat) : ch_s B x n = (nu_v B (ch_e B x) n : Int) + ch_c B x n * (B : Int) ^ n := by
  induction n with
  | zero => simp [ch_s, nu_v, ch_c]
  | succ n ih =>
    rw [ch_s, ih, nu_v, ch_c]
    have h1 := Int.emod_nonneg (x n + ch_c B x n) (show (B : Int) ≠ 0 by omega)
    have h2 : (ch_e B x n : Int) = (x n + ch_c B x n) % B := by rw [ch_e]; omega
    have h3 := Int.mul_ediv_add_emod (x n + ch_c B x n) B
    rw [Int.natCast_add, Int.natCast_mul, h2, Int.natCast_pow, Int.pow_succ]
    generalize (x n + ch_c B x n) / B = q at *
    generalize (x n + ch_c B x n) % B = r at *
    generalize (B : Int) ^ n = P at *
    have h4 : x n = B * q + r - ch_c B x n := by omega
    rw [h4]
    grind
theorem ch_s_congr {B : Int} {x y : Nat → Int} {n : Nat} (h : ∀ i, i < n → x i = y i) : ch_s B x n = ch_s B y n := by
  induction n with
  | zero => rfl
  | succ n ih => rw [ch_s, ch_s, ih (fun i hi => h i (by omega)), h n (by omega)]
theorem ch_s_add {B : Int} (x y : Nat → Int) (a : Int) (n : Nat) : ch_s B (fun i => x i + a * y i) n = ch_s B x n + a * ch_s B y n := by
  induction n with
  | zero => simp [ch_s]
  | succ n ih => simp only [ch_s]; rw [ih]; grind
theorem ch_s_nu (B : Nat) (d : Nat → Nat) (n : Nat) : ch_s B (fun i => (d i : Int)) n = (nu_v B d n : Int) := by
  induction n with
  | zero => rfl
  | succ n ih => rw [ch_s, nu_v, ih, Int.natCast_add, Int.natCast_mul, Int.natCast_pow]
/-- a limb is written, the lower ones are new already -/
theorem nu_up (e d : Nat → Nat) (i : Nat) : upd (fun j => nI (if j < i then e j else d j)) i (nI (e i)) = fun j => nI (if j < i + 1 then e j else d j) := by
  funext j
  by_cases h : j = i
  · subst h; simp [upd]
  · simp only [upd, h, if_false]
    congr 1
    by_cases h2 : j < i
    · rw [if_pos h2, if_pos (by omega)]
    · rw [if_neg h2, if_neg (by omega)]
theorem nu_up0 (e d : Nat → Nat) : (fun j => nI (d j)) = fun j => nI (if j < 0 then e j else d j) := by
  funext j; rw [if_neg (Nat.not_lt_zero j)]
/-- the digits of a number -/
theorem nu_dig {B : Nat} (hB : 0 < B) (u n : Nat) : nu_v B (fun j => u / B ^ j % B) n = u % B ^ n := by
  induction n with
  | zero => rw [nu_v, Nat.pow_zero, Nat.mod_one]
  | succ n ih => rw [nu_v, ih, Nat.mul_comm (u / B ^ n % B), ← Nat.mod_mul, ← Nat.pow_succ]
end
section
abbrev wd_X2_isZero : List Cond := .code yX2_isZero cX2_isZero 1 (some .boolean) :: hm_ws
abbrev rm_X2_isZero : Room := { frames := 0, cells := 0, slots := 0, locals := 0 }

set_option maxHeartbeats 4000000 in
set_option maxRecDepth 100000 in
/-- isZero(): has it no limbs -/
theorem c_X2_isZero (l : Launch) (E : hm_E) {M : hm_M} {w la k : Nat} {g : Int32} (hw : M w = some (hm_W la (nI k) g)) (hk : k < 2 ^ 31) : hm_Ci l E yX2_isZero wd_X2_isZero rm_X2_isZero [.ref w] M (fun r M1 => r = (if k = 0 then 1 else 0) ∧ M1 = M) := by
  intro sz
  refine Met.ofW (cc := cX2_isZero) (maxL := 1) (ret := (some .boolean)) (by decide) rfl ?_
  intro p e s m args below meth c s₁ B hml hv
  obtain ⟨rfl, hAe, hA, hK, hV⟩ := hm_start hv
  have hx := B.exec
  have hb := B.bytes
  have hr := B.returns
  have hts := atoms_spec (ws := wd_X2_isZero) B.pre
  have hws : ∀ w ∈ hm_ws, w.before _ s = true := fun w h => hts w (List.mem_cons_of_mem _ h)
  have hown : s.vm.findClass RX2 = some m.cls := findClass_of_methodNamed B.named
  have hlocks := B.notSynchronized
  have fl9 := hws _ kw_73
  have hl := lv_entry ([.ref w]) (n := 1) (Nat.le_of_ble_eq_true rfl)
  rw [lg_entry_eq]
  generalize (lg_sl ([.ref w]) ++ List.replicate (1 - (lg_sl ([.ref w])).length) Slot.unset).toArray = ls at hl ⊢
  have hl : lv_has ls 1 [(0, .ref w)] := hl
  refine hm_gen (rm := rm_X2_isZero) rfl (fun Qf hQf => ?_)
  refine lv_aload_n hx hb dX2_isZero_0 rfl (lv_at hl 0 rfl) ?_
  refine hm_get (ci := 4) (v := .int (nI k)) (C := RX2) (T := TX2) (N := 3) hx hb hws kin_X2 hown hK.1 hV hw rfl 1 (by decide) fl9 (fun _ h9 => h9) rfl dX2_isZero_1 ?_
  refine lv_if_ne (tgt := 11) hx hb dX2_isZero_4 (by decide) (fun c4 => ?_) (fun c4 => ?_)
  · have hc : k ≠ 0 := fun q => c4 (by rw [q]; rfl)
    refine lv_iconst (v := 0) hx hb dX2_isZero_11 (by decide) ?_
    rw [hQf]
    exact W.zret hx hb hr (rfl) (fun t ht hW => ⟨⟨_, _, rfl, ⟨by rw [if_neg hc], rfl⟩, (hm_end hV ht).1⟩, (hm_end hV ht).2⟩) hV.2.2.2.2 dX2_isZero_12
  · have hc : k = 0 := (nI_eq hk (by omega)).mp c4
    refine lv_iconst (v := 1) hx hb dX2_isZero_7 (by decide) ?_
    refine lv_goto (tgt := 12) hx hb dX2_isZero_8 (by decide) ?_
    rw [hQf]
    exact W.zret hx hb hr (rfl) (fun t ht hW => ⟨⟨_, _, rfl, ⟨by rw [if_pos hc], rfl⟩, (hm_end hV ht).1⟩, (hm_end hV ht).2⟩) hV.2.2.2.2 dX2_isZero_12

abbrev wd_X2_fits : List Cond := .code yX2_fits cX2_fits 1 (some .boolean) :: hm_ws
abbrev rm_X2_fits : Room := { frames := 0, cells := 0, slots := 0, locals := 0 }

set_option maxHeartbeats 4000000 in
set_option maxRecDepth 100000 in
/-- fits(): 64 limbs at most -/
theorem c_X2_fits (l : Launch) (E : hm_E) {M : hm_M} {w la k : Nat} {g : Int32} (hw : M w = some (hm_W la (nI k) g)) (hk : k < 2 ^ 31) : hm_Ci l E yX2_fits wd_X2_fits rm_X2_fits [.ref w] M (fun r M1 => r = (if k ≤ 64 then 1 else 0) ∧ M1 = M) := by
  intro sz
  refine Met.ofW (cc := cX2_fits) (maxL := 1) (ret := (some .boolean)) (by decide) rfl ?_
  intro p e s m args below meth c s₁ B hml hv
  obtain ⟨rfl, hAe, hA, hK, hV⟩ := hm_start hv
  have hx := B.exec
  have hb := B.bytes
  have hr := B.returns
  have hts := atoms_spec (ws := wd_X2_fits) B.pre
  have hws : ∀ w ∈ hm_ws, w.before _ s = true := fun w h => hts w (List.mem_cons_of_mem _ h)
  have hown : s.vm.findClass RX2 = some m.cls := findClass_of_methodNamed B.named
  have hlocks := B.notSynchronized
  have fl9 := hws _ kw_73
  have hl := lv_entry ([.ref w]) (n := 1) (Nat.le_of_ble_eq_true rfl)
  rw [lg_entry_eq]
  generalize (lg_sl ([.ref w]) ++ List.replicate (1 - (lg_sl ([.ref w])).length) Slot.unset).toArray = ls at hl ⊢
  have hl : lv_has ls 1 [(0, .ref w)] := hl
  refine hm_gen (rm := rm_X2_fits) rfl (fun Qf hQf => ?_)
  refine lv_aload_n hx hb dX2_fits_0 rfl (lv_at hl 0 rfl) ?_
  refine hm_get (ci := 4) (v := .int (nI k)) (C := RX2) (T := TX2) (N := 3) hx hb hws kin_X2 hown hK.1 hV hw rfl 1 (by decide) fl9 (fun _ h9 => h9) rfl dX2_fits_1 ?_
  refine lv_bipush (v := 64) hx hb dX2_fits_4 (by decide) ?_
  refine lv_icmp_gt (tgt := 13) hx hb dX2_fits_6 (by decide) (fun c6 => ?_) (fun c6 => ?_)
  · have hc : ¬ k ≤ 64 := fun q => absurd c6 (Int32.not_lt.mpr (nI_le (b := 64) q (by omega)))
    refine lv_iconst (v := 0) hx hb dX2_fits_13 (by decide) ?_
    rw [hQf]
    exact W.zret hx hb hr (rfl) (fun t ht hW => ⟨⟨_, _, rfl, ⟨by rw [if_neg hc], rfl⟩, (hm_end hV ht).1⟩, (hm_end hV ht).2⟩) hV.2.2.2.2 dX2_fits_14
  · have hc : k ≤ 64 := (nI_leI (b := 64) hk (by omega)).mp (Int32.not_lt.mp c6)
    refine lv_iconst (v := 1) hx hb dX2_fits_9 (by decide) ?_
    refine lv_goto (tgt := 14) hx hb dX2_fits_10 (by decide) ?_
    rw [hQf]
    exact W.zret hx hb hr (rfl) (fun t ht hW => ⟨⟨_, _, rfl, ⟨by rw [if_pos hc], rfl⟩, (hm_end hV ht).1⟩, (hm_end hV ht).2⟩) hV.2.2.2.2 dX2_fits_14

abbrev wd_X2_limbAt : List Cond := .code yX2_limbAt cX2_limbAt 2 (some .int) :: hm_ws
abbrev rm_X2_limbAt : Room := { frames := 0, cells := 0, slots := 0, locals := 0 }

set_option maxHeartbeats 4000000 in
set_option maxRecDepth 100000 in
/-- limbAt(i): the limb, or 0 beyond -/
theorem c_X2_limbAt (l : Launch) (E : hm_E) {M : hm_M} {w la n k i : Nat} {g : Int32} {d : Nat → Nat} (hw : M w = some (hm_W la (nI k) g)) (ha : M la = some (hm_I E n (fun j => nI (d j)))) (hk : k ≤ n) (hn : n < 2 ^ 31) (hi : i < 2 ^ 31) : hm_Ci l E yX2_limbAt wd_X2_limbAt rm_X2_limbAt [.ref w, .int (nI i)] M (fun r M1 => r = nI (if i < k then d i else 0) ∧ M1 = M) := by
  intro sz
  refine Met.ofW (cc := cX2_limbAt) (maxL := 2) (ret := (some .int)) (by decide) rfl ?_
  intro p e s m args below meth c s₁ B hml hv
  obtain ⟨rfl, hAe, hA, hK, hV⟩ := hm_start hv
  have hx := B.exec
  have hb := B.bytes
  have hr := B.returns
  have hts := atoms_spec (ws := wd_X2_limbAt) B.pre
  have hws : ∀ w ∈ hm_ws, w.before _ s = true := fun w h => hts w (List.mem_cons_of_mem _ h)
  have hown : s.vm.findClass RX2 = some m.cls := findClass_of_methodNamed B.named
  have hlocks := B.notSynchronized
  have fl9 := hws _ kw_73
  have fl25 := hws _ kw_71
  have hl := lv_entry ([.ref w, .int (nI i)]) (n := 2) (Nat.le_of_ble_eq_true rfl)
  rw [lg_entry_eq]
  generalize (lg_sl ([.ref w, .int (nI i)]) ++ List.replicate (2 - (lg_sl ([.ref w, .int (nI i)])).length) Slot.unset).toArray = ls at hl ⊢
  have hl : lv_has ls 2 [(0, .ref w), (1, .int (nI i))] := hl
  refine hm_gen (rm := rm_X2_limbAt) rfl (fun Qf hQf => ?_)
  refine lv_iload_n hx hb dX2_limbAt_0 rfl (lv_at hl 1 rfl) ?_
  refine lv_if_lt (tgt := 21) hx hb dX2_limbAt_1 (by decide) (fun c1 => ?_) (fun c1 => ?_)
  · exact absurd c1 (nI_pos hi)
  · refine lv_iload_n hx hb dX2_limbAt_4 rfl (lv_at hl 1 rfl) ?_
    refine lv_aload_n hx hb dX2_limbAt_5 rfl (lv_at hl 0 rfl) ?_
    refine hm_get (ci := 4) (v := .int (nI k)) (C := RX2) (T := TX2) (N := 3) hx hb hws kin_X2 hown hK.1 hV hw rfl 1 (by decide) fl9 (fun _ h9 => h9) rfl dX2_limbAt_6 ?_
    refine lv_icmp_ge (tgt := 21) hx hb dX2_limbAt_9 (by decide) (fun c9 => ?_) (fun c9 => ?_)
    · have hc : ¬ i < k := fun q => absurd c9 (nI_ge q (by omega))
      refine lv_iconst (v := 0) hx hb dX2_limbAt_21 (by decide) ?_
      rw [hQf]
      exact W.iret hx hb hr (fun t ht hW => ⟨⟨_, _, rfl, ⟨by rw [if_neg hc]; rfl, rfl⟩, (hm_end hV ht).1⟩, (hm_end hV ht).2⟩) hV.2.2.2.2 dX2_limbAt_22
    · have hc : i < k := by
        rcases Nat.lt_or_ge i k with q | q
        · exact q
        · exact absurd (nI_le q hi) c9
      refine lv_aload_n hx hb dX2_limbAt_12 rfl (lv_at hl 0 rfl) ?_
      refine hm_get (ci := 4) (v := .ref la) (C := RX2) (T := TX2) (N := 3) hx hb hws kin_X2 hown hK.1 hV hw rfl 0 (by decide) fl25 (fun _ h9 => h9) rfl dX2_limbAt_13 ?_
      refine lv_iload_n hx hb dX2_limbAt_16 rfl (lv_at hl 1 rfl) ?_
      refine hm_ialdN hx hb hK.1 hV 0 ha rfl (k := i) (by omega) (by omega) dX2_limbAt_17 ?_
      refine lv_goto (tgt := 22) hx hb dX2_limbAt_18 (by decide) ?_
      rw [hQf]
      exact W.iret hx hb hr (fun t ht hW => ⟨⟨_, _, rfl, ⟨by rw [if_pos hc], rfl⟩, (hm_end hV ht).1⟩, (hm_end hV ht).2⟩) hV.2.2.2.2 dX2_limbAt_22

abbrev wd_X2_finish : List Cond := .code yX2_finish cX2_finish 3 none :: hm_ws
abbrev rm_X2_finish : Room := { frames := 0, cells := 0, slots := 0, locals := 0 }

set_option maxHeartbeats 4000000 in
set_option maxRecDepth 100000 in
/-- finish(top, sign): the limbs in use, the sign -/
theorem c_X2_finish (l : Launch) (E : hm_E) {M : hm_M} {w la n t : Nat} {k0 g0 sg : Int32} {d : Nat → Nat} (hw : M w = some (hm_W la k0 g0)) (ha : M la = some (hm_I E n (fun j => nI (d j)))) (ht : t ≤ n) (hn : n < 2 ^ 31) (hd : ∀ j, j < t → d j < 2 ^ 31) : hm_Cv l E yX2_finish wd_X2_finish rm_X2_finish [.ref w, .int (nI t), .int sg] M (fun M1 => M1 = hm_up M w (hm_W la (nI (nu_k d t)) (if sg = 0 then 0 else if nu_k d t = 0 then 0 else 1))) := by
  intro sz
  refine Met.ofW (cc := cX2_finish) (maxL := 3) (ret := none) (by decide) rfl ?_
  intro p e s m args below meth c s₁ B hml hv
  obtain ⟨rfl, hAe, hA, hK, hV⟩ := hm_start hv
  have hx := B.exec
  have hb := B.bytes
  have hr := B.returns
  have hts := atoms_spec (ws := wd_X2_finish) B.pre
  have hws : ∀ w ∈ hm_ws, w.before _ s = true := fun w h => hts w (List.mem_cons_of_mem _ h)
  have hown : s.vm.findClass RX2 = some m.cls := findClass_of_methodNamed B.named
  have hlocks := B.notSynchronized
  have fl9 := hws _ kw_73
  have fl25 := hws _ kw_71
  have fl15 := hws _ kw_76
  have hl := lv_entry ([.ref w, .int (nI t), .int sg]) (n := 3) (Nat.le_of_ble_eq_true rfl)
  rw [lg_entry_eq]
  generalize (lg_sl ([.ref w, .int (nI t), .int sg]) ++ List.replicate (3 - (lg_sl ([.ref w, .int (nI t), .int sg])).length) Slot.unset).toArray = ls at hl ⊢
  have hl : lv_has ls 3 [(0, .ref w), (1, .int (nI t)), (2, .int sg)] := hl
  refine hm_gen (rm := rm_X2_finish) rfl (fun Qf hQf => ?_)
  have h_w_la : w ≠ la := hm_oa hw ha
  refine lv_aload_n hx hb dX2_finish_0 rfl (lv_at hl 0 rfl) ?_
  refine lv_iload_n hx hb dX2_finish_1 rfl (lv_at hl 1 rfl) ?_
  refine hm_put (ci := 4) (v := .int (nI t)) (ty := .int) (C := RX2) (T := TX2) (N := 3) hx hb hws kin_X2 tyX2 tyX2_ok nmX2 hown hK.1 hV hw rfl 1 (by decide) fl9 (fun _ h9 => h9) rfl (by decide +kernel) rfl rfl (Nat.le_of_ble_eq_true rfl) dX2_finish_2 (fun H locs hV => ?_)
  have hV : hm_V E.1 vwCl (hm_A M sz) s.heap (hm_up M w (.inr (4, [.ref la, .int (nI t), .int g0]))) H locs := hV
  have tail : ∀ (k : Nat), k = nu_k d t → ∀ (ls : Array Slot) (H : Heap) (locs : List Loc), lv_has ls 3 [(0, .ref w), (1, .int (nI t)), (2, .int sg)] → hm_V E.1 vwCl (hm_A M sz) s.heap (hm_up M w (.inr (4, [.ref la, .int (nI k), .int g0]))) H locs → W p l e rm_X2_finish s m [.ref w, .int (nI t), .int sg].toArray below meth c H locs 0 0 Qf (F0 m 39 ls []) := by
    intro k hk ls H locs hl hV
    have hkt : k ≤ t := by rw [hk]; exact nu_k_le d t
    refine lv_aload_n hx hb dX2_finish_39 rfl (lv_at hl 0 rfl) ?_
    refine lv_iload_n hx hb dX2_finish_40 rfl (lv_at hl 2 rfl) ?_
    refine lv_if_eq (tgt := 55) hx hb dX2_finish_41 (by decide) (fun c41 => ?_) (fun c41 => ?_)
    · refine lv_iconst (v := 0) hx hb dX2_finish_55 (by decide) ?_
      refine hm_put (ci := 4) (v := .int 0) (ty := .boolean) (C := RX2) (T := TX2) (N := 3) hx hb hws kin_X2 tyX2 tyX2_ok nmX2 hown hK.1 hV (hm_up_self _ _ _) rfl 2 (by decide) fl15 (fun _ h9 => h9) rfl (by decide +kernel) rfl rfl (Nat.le_of_ble_eq_true rfl) dX2_finish_56 (fun H locs hV => ?_)
      rw [hm_u0] at hV
      have hV : hm_V E.1 vwCl (hm_A M sz) s.heap (hm_up M w (.inr (4, [.ref la, .int (nI k), .int 0]))) H locs := hV
      rw [hQf]
      exact W.vret hx hb hr (fun t ht hW => ⟨⟨_, rfl, by rw [← hk, if_pos c41], (hm_end hV ht).1⟩, (hm_end hV ht).2⟩) hV.2.2.2.2 dX2_finish_59
    · refine lv_aload_n hx hb dX2_finish_44 rfl (lv_at hl 0 rfl) ?_
      refine hm_get (ci := 4) (v := .int (nI k)) (C := RX2) (T := TX2) (N := 3) hx hb hws kin_X2 hown hK.1 hV (hm_up_self _ _ _) rfl 1 (by decide) fl9 (fun _ h9 => h9) rfl dX2_finish_45 ?_
      refine lv_if_le (tgt := 55) hx hb dX2_finish_48 (by decide) (fun c48 => ?_) (fun c48 => ?_)
      · have hc : k = 0 := by
          rcases Nat.eq_zero_or_pos k with q | q
          · exact q
          · exact absurd c48 (nI_nle q (by omega))
        refine lv_iconst (v := 0) hx hb dX2_finish_55 (by decide) ?_
        refine hm_put (ci := 4) (v := .int 0) (ty := .boolean) (C := RX2) (T := TX2) (N := 3) hx hb hws kin_X2 tyX2 tyX2_ok nmX2 hown hK.1 hV (hm_up_self _ _ _) rfl 2 (by decide) fl15 (fun _ h9 => h9) rfl (by decide +kernel) rfl rfl (Nat.le_of_ble_eq_true rfl) dX2_finish_56 (fun H locs hV => ?_)
        rw [hm_u0] at hV
        have hV : hm_V E.1 vwCl (hm_A M sz) s.heap (hm_up M w (.inr (4, [.ref la, .int (nI k), .int 0]))) H locs := hV
        rw [hQf]
        exact W.vret hx hb hr (fun t ht hW => ⟨⟨_, rfl, by rw [← hk, if_neg c41, if_pos hc], (hm_end hV ht).1⟩, (hm_end hV ht).2⟩) hV.2.2.2.2 dX2_finish_59
      · have hc : k ≠ 0 := fun q => c48 (by rw [q]; exact Int32.le_refl _)
        refine lv_iconst (v := 1) hx hb dX2_finish_51 (by decide) ?_
        refine lv_goto (tgt := 56) hx hb dX2_finish_52 (by decide) ?_
        refine hm_put (ci := 4) (v := .int 1) (ty := .boolean) (C := RX2) (T := TX2) (N := 3) hx hb hws kin_X2 tyX2 tyX2_ok nmX2 hown hK.1 hV (hm_up_self _ _ _) rfl 2 (by decide) fl15 (fun _ h9 => h9) rfl (by decide +kernel) rfl rfl (Nat.le_of_ble_eq_true rfl) dX2_finish_56 (fun H locs hV => ?_)
        rw [hm_u0] at hV
        have hV : hm_V E.1 vwCl (hm_A M sz) s.heap (hm_up M w (.inr (4, [.ref la, .int (nI k), .int 1]))) H locs := hV
        rw [hQf]
        exact W.vret hx hb hr (fun t ht hW => ⟨⟨_, rfl, by rw [← hk, if_neg c41, if_neg hc], (hm_end hV ht).1⟩, (hm_end hV ht).2⟩) hV.2.2.2.2 dX2_finish_59
  have loop : ∀ (f : Nat) (k : Nat), k ≤ t → nu_k d k = nu_k d t → k < f → ∀ (ls : Array Slot) (H : Heap) (locs : List Loc), lv_has ls 3 [(0, .ref w), (1, .int (nI t)), (2, .int sg)] → hm_V E.1 vwCl (hm_A M sz) s.heap (hm_up M w (.inr (4, [.ref la, .int (nI k), .int g0]))) H locs → W p l e rm_X2_finish s m [.ref w, .int (nI t), .int sg].toArray below meth c H locs 0 0 Qf (F0 m 5 ls []) := by
    intro f
    induction f with
    | zero => intro k hk he hf; exact absurd hf (Nat.not_lt_zero _)
    | succ f ih =>
      intro k hk he hf ls H locs hl hV
      refine lv_aload_n hx hb dX2_finish_5 rfl (lv_at hl 0 rfl) ?_
      refine hm_get (ci := 4) (v := .int (nI k)) (C := RX2) (T := TX2) (N := 3) hx hb hws kin_X2 hown hK.1 hV (hm_up_self _ _ _) rfl 1 (by decide) fl9 (fun _ h9 => h9) rfl dX2_finish_6 ?_
      refine lv_if_le (tgt := 39) hx hb dX2_finish_9 (by decide) (fun c9 => ?_) (fun c9 => ?_)
      · have hc : k = 0 := by
          rcases Nat.eq_zero_or_pos k with q | q
          · exact q
          · exact absurd c9 (nI_nle q (by omega))
        exact tail k (by rw [← he, hc]; rfl) ls H locs (lv_sub hl [0, 1, 2] rfl) hV
      · obtain ⟨j, rfl⟩ : ∃ j, k = j + 1 := ⟨k - 1, by
          have : k ≠ 0 := fun q => c9 (by rw [q]; exact Int32.le_refl _)
          omega⟩
        refine lv_aload_n hx hb dX2_finish_12 rfl (lv_at hl 0 rfl) ?_
        refine hm_get (ci := 4) (v := .ref la) (C := RX2) (T := TX2) (N := 3) hx hb hws kin_X2 hown hK.1 hV (hm_up_self _ _ _) rfl 0 (by decide) fl25 (fun _ h9 => h9) rfl dX2_finish_13 ?_
        refine lv_aload_n hx hb dX2_finish_16 rfl (lv_at hl 0 rfl) ?_
        refine hm_get (ci := 4) (v := .int (nI (j + 1))) (C := RX2) (T := TX2) (N := 3) hx hb hws kin_X2 hown hK.1 hV (hm_up_self _ _ _) rfl 1 (by decide) fl9 (fun _ h9 => h9) rfl dX2_finish_17 ?_
        refine lv_iconst (v := 1) hx hb dX2_finish_20 (by decide) ?_
        refine lv_isub hx hb dX2_finish_21 ?_
        refine hm_topi (show ((nI (j + 1)) - 1) = nI j from nI_pred j) ?_
        refine hm_ialdN hx hb hK.1 hV 0 ((hm_up_ne _ _ (Ne.symm h_w_la)).trans ha) rfl (k := j) (by omega) (by omega) dX2_finish_22 ?_
        refine lv_if_ne (tgt := 39) hx hb dX2_finish_23 (by decide) (fun c23 => ?_) (fun c23 => ?_)
        · have hc : d j ≠ 0 := fun q => c23 (by rw [q]; rfl)
          exact tail (j + 1) (by rw [← he, nu_k, if_neg hc]) ls H locs (lv_sub hl [0, 1, 2] rfl) hV
        · have hc : d j = 0 := (nI_eq (hd j (by omega)) (by omega)).mp c23
          refine lv_aload_n hx hb dX2_finish_26 rfl (lv_at hl 0 rfl) ?_
          refine lv_dup hx hb dX2_finish_27 rfl ?_
          refine hm_get (ci := 4) (v := .int (nI (j + 1))) (C := RX2) (T := TX2) (N := 3) hx hb hws kin_X2 hown hK.1 hV (hm_up_self _ _ _) rfl 1 (by decide) fl9 (fun _ h9 => h9) rfl dX2_finish_28 ?_
          refine lv_iconst (v := 1) hx hb dX2_finish_31 (by decide) ?_
          refine lv_isub hx hb dX2_finish_32 ?_
          refine hm_topi (show ((nI (j + 1)) - 1) = nI j from nI_pred j) ?_
          refine hm_put (ci := 4) (v := .int (nI j)) (ty := .int) (C := RX2) (T := TX2) (N := 3) hx hb hws kin_X2 tyX2 tyX2_ok nmX2 hown hK.1 hV (hm_up_self _ _ _) rfl 1 (by decide) fl9 (fun _ h9 => h9) rfl (by decide +kernel) rfl rfl (Nat.le_of_ble_eq_true rfl) dX2_finish_33 (fun H locs hV => ?_)
          rw [hm_u0] at hV
          have hV : hm_V E.1 vwCl (hm_A M sz) s.heap (hm_up M w (.inr (4, [.ref la, .int (nI j), .int g0]))) H locs := hV
          refine lv_goto (tgt := 5) hx hb dX2_finish_36 (by decide) ?_
          exact ih j (by omega) (by rw [← he, nu_k, if_pos hc]) (by omega) ls H locs (lv_sub hl [0, 1, 2] rfl) hV
  exact loop (t + 1) t (Nat.le_refl t) rfl (Nat.lt_succ_self t) ls H locs (lv_sub hl [0, 1, 2] rfl) hV
end
section
/-- limbs d, k of them in use, and the sign g, are the number z, in a row of n -/
def wn_ok (n : Nat) (d : Nat → Nat) (k : Nat) (g : Int32) (z : Int) : Prop := k ≤ n ∧ (∀ j, j < n → d j < 33554432) ∧ (0 < k → d (k - 1) ≠ 0) ∧ nu_v 33554432 d k = z.natAbs ∧ g = (if z < 0 then 1 else 0)
theorem wn_fin {n top : Nat} {d : Nat → Nat} {sg : Int32} (ht : top ≤ n) (hd : ∀ j, j < n → d j < 33554432) : wn_ok n d (nu_k d top) (if sg = 0 then 0 else if nu_k d top = 0 then 0 else 1) (if sg = 0 then (nu_v 33554432 d top : Int) else -(nu_v 33554432 d top : Int)) := by
  refine ⟨Nat.le_trans (nu_k_le d top) ht, hd, nu_k_top d top, ?_, ?_⟩
  · rw [nu_v_k]
    split <;> omega
  · by_cases h : sg = 0
    · rw [if_pos h, if_pos h, if_neg (by omega)]
    · rw [if_neg h, if_neg h]
      by_cases h2 : nu_k d top = 0
      · have h3 := nu_v_k 33554432 d top
        rw [h2] at h3
        have h4 : nu_v 33554432 d 0 = 0 := rfl
        rw [if_pos h2, if_neg (by omega)]
      · have h3 := nu_v_low (B := 33554432) (d := d) (n := nu_k d top) (by omega) (nu_k_top d top (by omega))
        have h4 : 0 < 33554432 ^ (nu_k d top - 1) := Nat.pow_pos (by decide)
        rw [nu_v_k] at h3
        rw [if_neg h2, if_pos (by omega)]
/-- the number at w is z now: its row la and itself have changed, nothing else -/
def wn_post (E : hm_E) (M : hm_M) (w la n : Nat) (z : Int) (M1 : hm_M) : Prop := ∃ (d : Nat → Nat) (k : Nat) (g : Int32), M1 = hm_up (hm_up M la (hm_I E n (fun j => nI (d j)))) w (hm_W la (nI k) g) ∧ wn_ok n d k g z
theorem am_neg {v : Int64} (h : v < 0) : -v = lN v.toInt.natAbs := by
  have h1 : v.toInt < 0 := by
    have := Int64.lt_iff_toInt_lt.mp h
    simpa using this
  rw [lZ_lN]
  conv => lhs; rw [lZ_of v, lZ_neg]
  congr 1
  omega
theorem am_pos {v : Int64} (h : 0 ≤ v) : v = lN v.toInt.natAbs := by
  have h1 : 0 ≤ v.toInt := by
    have := Int64.le_iff_toInt_le.mp h
    simpa using this
  rw [lZ_lN]
  conv => lhs; rw [lZ_of v]
  congr 1
  omega
theorem am_le (v : Int64) : v.toInt.natAbs ≤ 9223372036854775808 := by
  have h1 := Int64.le_toInt v
  have h2 := Int64.toInt_lt v
  omega
theorem nu_if {B : Nat} {e d : Nat → Nat} {t : Nat} : nu_v B (fun j => if j < t then e j else d j) t = nu_v B e t := nu_v_congr (fun j hj => by rw [if_pos hj])
theorem nu_ifd {n t : Nat} {e d : Nat → Nat} {b : Nat} (he : ∀ j, j < t → e j < b) (hd : ∀ j, j < n → d j < b) : ∀ j, j < n → (if j < t then e j else d j) < b := fun j hj => by
  split
  · next h => exact he j h
  · exact hd j hj

abbrev wd_X2_setLong : List Cond := .code yX2_setLong cX2_setLong 7 none :: hm_ws
abbrev rm_X2_setLong : Room := { frames := 1, cells := 0, slots := 0, locals := 22 }

set_option maxHeartbeats 4000000 in
set_option maxRecDepth 100000 in
/-- setLong(v) -/
theorem c_X2_setLong (l : Launch) (E : hm_E) {M : hm_M} {w la n : Nat} {k0 g0 : Int32} {d : Nat → Nat} {v : Int64} (hw : M w = some (hm_W la k0 g0)) (ha : M la = some (hm_I E n (fun j => nI (d j)))) (hd : ∀ j, j < n → d j < 33554432) (h3 : 3 ≤ n) (hn : n < 1000) : hm_Cv l E yX2_setLong wd_X2_setLong rm_X2_setLong [.ref w, .long v] M (wn_post E M w la n v.toInt) := by
  intro sz
  refine Met.ofW (cc := cX2_setLong) (maxL := 7) (ret := none) (by decide) rfl ?_
  intro p e s m args below meth c s₁ B hml hv
  obtain ⟨rfl, hAe, hA, hK, hV⟩ := hm_start hv
  have hx := B.exec
  have hb := B.bytes
  have hr := B.returns
  have hts := atoms_spec (ws := wd_X2_setLong) B.pre
  have hws : ∀ w ∈ hm_ws, w.before _ s = true := fun w h => hts w (List.mem_cons_of_mem _ h)
  have hown : s.vm.findClass RX2 = some m.cls := findClass_of_methodNamed B.named
  have hlocks := B.notSynchronized
  have fl25 := hws _ kw_71
  have ld32 := hws _ kw_139
  have hl := lv_entry ([.ref w, .long v]) (n := 7) (Nat.le_of_ble_eq_true rfl)
  rw [lg_entry_eq]
  generalize (lg_sl ([.ref w, .long v]) ++ List.replicate (7 - (lg_sl ([.ref w, .long v])).length) Slot.unset).toArray = ls at hl ⊢
  have hl : lv_has ls 7 [(0, .ref w), (1, .long v)] := hl
  refine hm_gen (rm := rm_X2_setLong) rfl (fun Qf hQf => ?_)
  have h_w_la : w ≠ la := hm_oa hw ha
  have hu := am_le v
  refine lv_iconst (v := 3) hx hb dX2_setLong_0 (by decide) ?_
  refine lv_aload_n hx hb dX2_setLong_1 rfl (lv_at hl 0 rfl) ?_
  refine hm_get (ci := 4) (v := .ref la) (C := RX2) (T := TX2) (N := 3) hx hb hws kin_X2 hown hK.1 hV hw rfl 0 (by decide) fl25 (fun _ h9 => h9) rfl dX2_setLong_2 ?_
  refine hm_alen (v := nI n) hx hb hK.1 hV 0 ha rfl rfl dX2_setLong_5 ?_
  refine va_mmin hx hb (by rw [hml]; exact hl.1.symm) hown (hws _ kw_136) (hws _ kw_137) (hws _ kw_39) (hws _ kw_138) (Nat.le_of_ble_eq_true rfl) (Nat.le_of_ble_eq_true rfl) (Nat.zero_le _) (Nat.zero_le _) dX2_setLong_6 ?_
  refine hm_topi (show (if nI n < 3 then nI n else 3) = nI 3 from if_neg (by rw [Int32.not_lt]; exact nI_le h3 (by omega))) ?_
  refine lv_istore_n (lv' := [(3, .int (nI 3)), (0, .ref w), (1, .long v)]) hx hb dX2_setLong_9 rfl hl (by decide) rfl (fun ls hl => ?_)
  refine lv_lload_n hx hb dX2_setLong_10 rfl (lv_at hl 2 rfl) ?_
  refine lv_lconst (v := 0) hx hb dX2_setLong_11 (by decide) ?_
  refine W.lcmp hx hb dX2_setLong_12 ?_
  have body : ∀ (ls : Array Slot) (H : Heap) (locs : List Loc), lv_has ls 7 [(3, .int (nI 3)), (0, .ref w), (1, .long v)] → hm_V E.1 vwCl (hm_A M sz) s.heap (M) H locs → W p l e rm_X2_setLong s m [.ref w, .long v].toArray below meth c H locs 0 0 Qf (F0 m 22 ls [.long (lN (v.toInt.natAbs / 33554432 ^ 0))]) := by
    intro   ls H locs hl hV
    refine lv_lstore (lv' := [(4, .long (lN (v.toInt.natAbs / 33554432 ^ 0))), (3, .int (nI 3)), (0, .ref w), (1, .long v)]) hx hb dX2_setLong_22 hl (by decide) rfl (fun ls hl => ?_)
    refine lv_iconst (v := 0) hx hb dX2_setLong_24 (by decide) ?_
    refine lv_istore (lv' := [(6, .int 0), (4, .long (lN (v.toInt.natAbs / 33554432 ^ 0))), (3, .int (nI 3)), (0, .ref w), (1, .long v)]) hx hb dX2_setLong_25 hl (by decide) rfl (fun ls hl => ?_)
    have hV : hm_V E.1 vwCl (hm_A M sz) s.heap (hm_up M la (hm_I E n (fun j => nI (if j < 0 then v.toInt.natAbs / 33554432 ^ j % 33554432 else d j)))) H locs := by rw [hm_up_id ((ha).trans (congrArg (fun f9 => some (hm_I E n f9)) (nu_up0 (fun j => v.toInt.natAbs / 33554432 ^ j % 33554432) d)))]; exact hV
    have loop : ∀ (f : Nat) (i : Nat), i ≤ 3 → 3 - i < f → ∀ (ls : Array Slot) (H : Heap) (locs : List Loc), lv_has ls 7 [(0, .ref w), (1, .long v), (3, .int (nI 3)), (4, .long (lN (v.toInt.natAbs / 33554432 ^ i))), (6, .int (nI i))] → hm_V E.1 vwCl (hm_A M sz) s.heap (hm_up M la (hm_I E n (fun j => nI (if j < i then v.toInt.natAbs / 33554432 ^ j % 33554432 else d j)))) H locs → W p l e rm_X2_setLong s m [.ref w, .long v].toArray below meth c H locs 0 0 Qf (F0 m 27 ls []) := by
      intro f
      induction f with
      | zero => intro i hi hf; exact absurd hf (Nat.not_lt_zero _)
      | succ f ih =>
        intro i hi hf ls H locs hl hV
        have hq : v.toInt.natAbs / 33554432 ^ i < 2 ^ 64 := Nat.lt_of_le_of_lt (Nat.div_le_self _ _) (by omega)
        refine lv_iload hx hb dX2_setLong_27 (lv_at hl 4 rfl) ?_
        refine lv_iload_n hx hb dX2_setLong_29 rfl (lv_at hl 2 rfl) ?_
        refine lv_icmp_ge (tgt := 60) hx hb dX2_setLong_30 (by decide) (fun c30 => ?_) (fun c30 => ?_)
        · have hi3 : i = 3 := by
            rcases Nat.lt_or_ge i 3 with q | q
            · exact absurd c30 (nI_ge q (by omega))
            · omega
          subst hi3
          refine lv_aload_n hx hb dX2_setLong_60 rfl (lv_at hl 0 rfl) ?_
          refine lv_iload_n hx hb dX2_setLong_61 rfl (lv_at hl 2 rfl) ?_
          refine lv_lload_n hx hb dX2_setLong_62 rfl (lv_at hl 1 rfl) ?_
          refine lv_lconst (v := 0) hx hb dX2_setLong_63 (by decide) ?_
          refine W.lcmp hx hb dX2_setLong_64 ?_
          refine lv_if_ge (tgt := 72) hx hb dX2_setLong_65 (by decide) (fun c65 => ?_) (fun c65 => ?_)
          · refine lv_iconst (v := 0) hx hb dX2_setLong_72 (by decide) ?_
            refine hm_callv (va_runV (As := [.int (nI 3), .int 0]) (rest := []) ⟨hx, hb, hml, hown, hts⟩ (c_X2_finish l E (d := (fun j => if j < 3 then v.toInt.natAbs / 33554432 ^ j % 33554432 else d j)) (t := 3) (sg := 0) ((hm_up_ne _ _ h_w_la).trans hw) (hm_up_self _ _ _) (h3) (by omega) (fun j hj => by show (if j < 3 then _ else _) < _; rw [if_pos hj]; have := Nat.mod_lt (v.toInt.natAbs / 33554432 ^ j) (show 0 < 33554432 by decide); omega) H.size) (cwV 2 hts (hm_gV kw_140 kw_142 kw_1 kw_38 kw_143) rfl rfl rfl (by decide +kernel) ⟨Nat.le_of_ble_eq_true rfl, Nat.le_of_ble_eq_true rfl⟩) (hm_preV hK hV ((hm_up_ne _ _ h_w_la).trans hw) rfl) rfl rfl hl.1 rfl (lv_room (Nat.le_of_ble_eq_true rfl)) dX2_setLong_73 ⟨Nat.le_of_ble_eq_true rfl, Nat.le_of_ble_eq_true rfl⟩) hV hA (fun M1 H locs hp hV => ?_)
            subst hp
            have hV : hm_V E.1 vwCl (hm_A M sz) s.heap (hm_up (hm_up M la (hm_I E n (fun j => nI (if j < 3 then v.toInt.natAbs / 33554432 ^ j % 33554432 else d j)))) w (.inr (4, [.ref la, .int (nI (nu_k (fun j => if j < 3 then v.toInt.natAbs / 33554432 ^ j % 33554432 else d j) 3)), .int (if 0 = 0 then 0 else if nu_k (fun j => if j < 3 then v.toInt.natAbs / 33554432 ^ j % 33554432 else d j) 3 = 0 then 0 else 1)]))) H locs := hV
            have hfin := wn_fin (n := n) (top := 3) (d := (fun j => if j < 3 then v.toInt.natAbs / 33554432 ^ j % 33554432 else d j)) (sg := 0) h3 (nu_ifd (fun j _ => Nat.mod_lt _ (by decide)) hd)
            rw [nu_if, nu_dig (by decide), Nat.mod_eq_of_lt (by omega : v.toInt.natAbs < 33554432 ^ 3)] at hfin
            have hv0 : 0 ≤ v.toInt := by have := Int64.le_iff_toInt_le.mp ((lg_cmp_ge v 0).mp c65); simpa using this
            rw [show (if (0 : Int32) = 0 then (v.toInt.natAbs : Int) else -(v.toInt.natAbs : Int)) = v.toInt from by rw [if_pos rfl]; omega] at hfin
            rw [hQf]
            exact W.vret hx hb hr (fun t ht hW => ⟨⟨_, rfl, ⟨_, _, _, rfl, hfin⟩, (hm_end hV ht).1⟩, (hm_end hV ht).2⟩) hV.2.2.2.2 dX2_setLong_76
          · refine lv_iconst (v := 1) hx hb dX2_setLong_68 (by decide) ?_
            refine lv_goto (tgt := 73) hx hb dX2_setLong_69 (by decide) ?_
            refine hm_callv (va_runV (As := [.int (nI 3), .int 1]) (rest := []) ⟨hx, hb, hml, hown, hts⟩ (c_X2_finish l E (d := (fun j => if j < 3 then v.toInt.natAbs / 33554432 ^ j % 33554432 else d j)) (t := 3) (sg := 1) ((hm_up_ne _ _ h_w_la).trans hw) (hm_up_self _ _ _) (h3) (by omega) (fun j hj => by show (if j < 3 then _ else _) < _; rw [if_pos hj]; have := Nat.mod_lt (v.toInt.natAbs / 33554432 ^ j) (show 0 < 33554432 by decide); omega) H.size) (cwV 2 hts (hm_gV kw_140 kw_142 kw_1 kw_38 kw_143) rfl rfl rfl (by decide +kernel) ⟨Nat.le_of_ble_eq_true rfl, Nat.le_of_ble_eq_true rfl⟩) (hm_preV hK hV ((hm_up_ne _ _ h_w_la).trans hw) rfl) rfl rfl hl.1 rfl (lv_room (Nat.le_of_ble_eq_true rfl)) dX2_setLong_73 ⟨Nat.le_of_ble_eq_true rfl, Nat.le_of_ble_eq_true rfl⟩) hV hA (fun M1 H locs hp hV => ?_)
            subst hp
            have hV : hm_V E.1 vwCl (hm_A M sz) s.heap (hm_up (hm_up M la (hm_I E n (fun j => nI (if j < 3 then v.toInt.natAbs / 33554432 ^ j % 33554432 else d j)))) w (.inr (4, [.ref la, .int (nI (nu_k (fun j => if j < 3 then v.toInt.natAbs / 33554432 ^ j % 33554432 else d j) 3)), .int (if 1 = 0 then 0 else if nu_k (fun j => if j < 3 then v.toInt.natAbs / 33554432 ^ j % 33554432 else d j) 3 = 0 then 0 else 1)]))) H locs := hV
            have hfin := wn_fin (n := n) (top := 3) (d := (fun j => if j < 3 then v.toInt.natAbs / 33554432 ^ j % 33554432 else d j)) (sg := 1) h3 (nu_ifd (fun j _ => Nat.mod_lt _ (by decide)) hd)
            rw [nu_if, nu_dig (by decide), Nat.mod_eq_of_lt (by omega : v.toInt.natAbs < 33554432 ^ 3)] at hfin
            have hv0 : v.toInt < 0 := by
              have h8 : ¬ (0 : Int64) ≤ v := fun q => c65 ((lg_cmp_ge v 0).mpr q)
              have := Int64.lt_iff_toInt_lt.mp (Int64.not_le.mp h8); simpa using this
            rw [show (if (1 : Int32) = 0 then (v.toInt.natAbs : Int) else -(v.toInt.natAbs : Int)) = v.toInt from by rw [if_neg (by decide)]; omega] at hfin
            rw [hQf]
            exact W.vret hx hb hr (fun t ht hW => ⟨⟨_, rfl, ⟨_, _, _, rfl, hfin⟩, (hm_end hV ht).1⟩, (hm_end hV ht).2⟩) hV.2.2.2.2 dX2_setLong_76
        · have hi3 : i < 3 := by
            rcases Nat.lt_or_ge i 3 with q | q
            · exact q
            · exact absurd (nI_le q (by omega)) c30
          refine lv_aload_n hx hb dX2_setLong_33 rfl (lv_at hl 0 rfl) ?_
          refine hm_get (ci := 4) (v := .ref la) (C := RX2) (T := TX2) (N := 3) hx hb hws kin_X2 hown hK.1 hV ((hm_up_ne _ _ h_w_la).trans hw) rfl 0 (by decide) fl25 (fun _ h9 => h9) rfl dX2_setLong_34 ?_
          refine lv_iload hx hb dX2_setLong_37 (lv_at hl 4 rfl) ?_
          refine lv_lload hx hb dX2_setLong_39 (lv_at hl 3 rfl) ?_
          refine lv_ldc2 (v := 33554431) hx hb hown ld32 dX2_setLong_41 ?_
          refine lv_land hx hb dX2_setLong_44 ?_
          refine hm_topl (show ((lN (v.toInt.natAbs / 33554432 ^ i)) &&& 33554431) = lN (v.toInt.natAbs / 33554432 ^ i % 33554432) from lN_mask hq) ?_
          refine lv_l2i hx hb dX2_setLong_45 rfl ?_
          refine hm_topi (show ((lN (v.toInt.natAbs / 33554432 ^ i % 33554432)).toInt32) = nI (v.toInt.natAbs / 33554432 ^ i % 33554432) from lN_i _) ?_
          refine hm_iastN hx hb hK.1 hV 0 (hm_up_self _ _ _) rfl (k := i) (by omega) (by omega) dX2_setLong_46 (fun H locs hV => ?_)
          rw [show (upd (fun j => nI (if j < i then v.toInt.natAbs / 33554432 ^ j % 33554432 else d j)) i (nI (v.toInt.natAbs / 33554432 ^ i % 33554432))) = (fun j => nI (if j < i + 1 then v.toInt.natAbs / 33554432 ^ j % 33554432 else d j)) from nu_up (fun j => v.toInt.natAbs / 33554432 ^ j % 33554432) d i] at hV
          rw [hm_u0] at hV
          have hV : hm_V E.1 vwCl (hm_A M sz) s.heap (hm_up M la (hm_I E n (fun j => nI (if j < i + 1 then v.toInt.natAbs / 33554432 ^ j % 33554432 else d j)))) H locs := hV
          refine lv_lload hx hb dX2_setLong_47 (lv_at hl 3 rfl) ?_
          refine lv_bipush (v := 25) hx hb dX2_setLong_49 (by decide) ?_
          refine lv_lushr hx hb dX2_setLong_51 rfl ?_
          refine hm_topl (show (((lN (v.toInt.natAbs / 33554432 ^ i)).toUInt64 >>> ((25 : Int32).toInt64.toUInt64 &&& Int64.toUInt64 63)).toInt64) = lN (v.toInt.natAbs / 33554432 ^ (i + 1)) from (lN_ushr hq).trans (by rw [Nat.div_div_eq_div_mul, ← Nat.pow_succ])) ?_
          refine lv_lstore (lv' := [(4, .long (lN (v.toInt.natAbs / 33554432 ^ (i + 1)))), (0, .ref w), (1, .long v), (3, .int (nI 3)), (6, .int (nI i))]) hx hb dX2_setLong_52 hl (by decide) rfl (fun ls hl => ?_)
          refine lv_iinc (v := (nI (i + 1))) (lv' := [(6, .int (nI (i + 1))), (4, .long (lN (v.toInt.natAbs / 33554432 ^ (i + 1)))), (0, .ref w), (1, .long v), (3, .int (nI 3))]) hx hb dX2_setLong_54 hl (k := 4) rfl (nI_1 i) (by decide) rfl (fun ls hl => ?_)
          refine lv_goto (tgt := 27) hx hb dX2_setLong_57 (by decide) ?_
          exact ih (i + 1) (by omega) (by omega) ls H locs (lv_sub hl [2, 3, 4, 1, 0] rfl) hV
    exact loop 4 0 (by omega) (by omega) ls H locs (lv_sub hl [3, 4, 2, 1, 0] rfl) hV
  refine lv_if_ge (tgt := 21) hx hb dX2_setLong_13 (by decide) (fun c13 => ?_) (fun c13 => ?_)
  · refine lv_lload_n hx hb dX2_setLong_21 rfl (lv_at hl 2 rfl) ?_
    have hv0 : (0 : Int64) ≤ v := (lg_cmp_ge v 0).mp c13
    refine hm_topl (show v = lN (v.toInt.natAbs / 33554432 ^ 0) from (am_pos hv0).trans (by rw [Nat.pow_zero, Nat.div_one])) ?_
    exact body  ls s.heap [] (lv_sub hl [0, 1, 2] rfl) hV
  · refine lv_lload_n hx hb dX2_setLong_16 rfl (lv_at hl 2 rfl) ?_
    refine lv_lneg hx hb dX2_setLong_17 ?_
    refine lv_goto (tgt := 22) hx hb dX2_setLong_18 (by decide) ?_
    have hv0 : v < 0 := by
      have h8 : ¬ (0 : Int64) ≤ v := fun q => c13 ((lg_cmp_ge v 0).mpr q)
      exact Int64.not_le.mp h8
    refine hm_topl (show (-v) = lN (v.toInt.natAbs / 33554432 ^ 0) from (am_neg hv0).trans (by rw [Nat.pow_zero, Nat.div_one])) ?_
    exact body  ls s.heap [] (lv_sub hl [0, 1, 2] rfl) hV
end
