theorem vr_outer (c : ClassId) (N h0 : Nat) : ∀ i : Nat, Jvm.Free.Multi.outerC c N h0 i = arrV c N (fun j => va_rf (if j < i then some (h0 + 1 + j) else none))
  | 0 => by
    show ({ cls := c, slots := Array.replicate N .null, vm := .none } : Cell) = _
    rw [arrV_new]
    refine congrArg (arrV c N) (funext fun j => ?_)
    simp [va_rf]
  | i + 1 => by
    show (Jvm.Free.Multi.outerC c N h0 i).setSlot i (.ref (h0 + 1 + i)) = _
    rw [vr_outer c N h0 i, arrV_store]
    refine congrArg (arrV c N) (funext fun j => ?_)
    by_cases e : j = i
    · subst e
      simp [updV, va_rf]
    · by_cases h : j < i
      · simp [updV, e, h, Nat.lt_succ_of_lt h]
      · simp [updV, e, h, show ¬ j < i + 1 by omega]
def hm_mu (M : hm_M) (q n : Nat) (c0 c1 : va_E) : hm_M := fun a => if a = q then some c0 else if q < a ∧ a ≤ q + n then some c1 else M a
theorem hm_mu_q (M : hm_M) (q n : Nat) (c0 c1 : va_E) : hm_mu M q n c0 c1 q = some c0 := if_pos rfl
theorem hm_mu_r (M : hm_M) (q n : Nat) (c0 c1 : va_E) {j : Nat} (h : j < n) : hm_mu M q n c0 c1 (q + 1 + j) = some c1 := by
  unfold hm_mu
  rw [if_neg (by omega), if_pos (by omega)]
theorem hm_mu_o {M : hm_M} {q n : Nat} {c0 c1 e : va_E} {a : Nat} (h : ∀ b, q ≤ b → M b = none) (ha : M a = some e) : hm_mu M q n c0 c1 a = some e := by
  have : a < q := by
    rcases Nat.lt_or_ge a q with r | r
    · exact r
    · rw [h a r] at ha; cases ha
  unfold hm_mu
  rw [if_neg (by omega), if_neg (by omega)]; exact ha
section MNA
variable {p : Program} {l : Launch} {e : Env} {R : Room} {s : State} {m : MethodId} {args : Array Value} {below : List Frame} {meth : Method} {c : Code} {H : Heap} {locs : List Loc} {cells slots : Nat} {Q : State → Prop}
variable {cc : ByteArray} {pc : Nat} {ls : Array Slot} {rest : List Value} {A : Nat → Prop} {M : hm_M} {H0 : Heap} {E : hm_E}
theorem hm_mna (hexec : p.tables.exec = Jvm.exec) (hb : c.code = cc) {own : String} {index : Nat} (hown : s.vm.findClass own = some m.cls) (hclink : (Cond.classLink own index "[[J").before args s = true) (hover : va_AOA .long s) (harr : (Cond.arrayClass .long).before args s = true) (hK : va_K E.1 vwCl (hm_tys E) s) (hV : hm_V E.1 vwCl A H0 M H locs) (hA : ∀ q, H0.size ≤ q → A q) (hcells : cells + (1 + 12) ≤ R.cells) (hslots : slots + (12 + 12 * 12) ≤ R.slots) (hdg : decode cc pc = .ok (.multianewarray index 2, 4))
    (kk : ∀ (q : Nat) (H1 : Heap), (∀ a, q ≤ a → M a = none) → hm_V E.1 vwCl A H0 (hm_mu M q 12 (hm_QJ E 12 (fun j => some (q + 1 + j))) (hm_J E 12 (fun _ => 0))) H1 locs → W p l e R s m args below meth c H1 locs (cells + 1 + 12) (slots + 12 + 12 * 12) Q (F0 m (pc + 4) ls (.ref q :: rest))) : W p l e R s m args below meth c H locs cells slots Q (F0 m pc ls (.int 12 :: .int 12 :: rest)) := by
  intro T hT Xs
  have h12 : (12 : Int32).toNatClampNeg = 12 := by decide
  obtain ⟨vm₁, cA, comp, -, fA, fC, hO, -, X', step⟩ := Xs.multianewarray2F (n := 12) (k := 12) (ty := .long) hexec hown hclink (va_AOA.use hover) harr (g := F0 m pc ls (.int 12 :: .int 12 :: rest)) rfl (by rw [hb]; exact hdg) rfl (by decide) (by decide) (by decide) (by decide) (by decide) rfl rfl (by rw [h12]; exact hcells) (by rw [h12]; exact hslots)
  rw [h12] at X' step
  have eC : comp = E.2.2.1 := Option.some.inj (fC.symm.trans ((hK.2 1 _ rfl).2 : s.vm.findClass ("[" ++ FieldType.long.toString) = some E.2.2.1))
  have eA : cA = E.2.2.2.2.2 := Option.some.inj (fA.symm.trans ((hK.2 4 _ rfl).2 : s.vm.findClass ("[" ++ (FieldType.array .long).toString) = some E.2.2.2.2.2))
  subst eC; subst eA
  generalize hF : Jvm.Free.Multi.fill (T.setVm vm₁) E.2.2.2.2.2 E.2.2.1 12 12 (defaultValue .long) 12 = F at X' step
  have hTh : (T.setVm vm₁).heap = H := hT
  obtain ⟨f1, f2, -, -⟩ := Jvm.Free.Multi.fill_facts (T.setVm vm₁) E.2.2.2.2.2 E.2.2.1 12 12 (defaultValue .long) 12
  rw [hF, hTh] at f1 f2
  have hold : ∀ x : Nat, x < H.size → F.heap[x]? = H[x]? := fun x hx => by
    have := Jvm.Free.Multi.fill_old (T.setVm vm₁) E.2.2.2.2.2 E.2.2.1 12 12 (defaultValue .long) (a := x) (by rw [hTh]; exact hx) 12
    rw [hF, hTh] at this
    exact this
  have hrow : ∀ j : Nat, j < 12 → F.heap[H.size + 1 + j]? = some (vp_cell E.2.2.1 (12, .inr (.inl (fun _ => 0)))) := fun j hj => by
    have := Jvm.Free.Multi.fill_inner (T.setVm vm₁) E.2.2.2.2.2 E.2.2.1 12 12 (defaultValue .long) 12 j hj
    rw [hF, hTh] at this
    rw [this]
    first | (congr 1; done) | (congr 1; exact arrV_new _ _ _)
  have hout : F.heap[H.size]? = some (vp_cell E.2.2.2.2.2 (12, .inr (.inr (.inr (.inr (fun i => some (H.size + 1 + i))))))) := by
    rw [f2, vr_outer, vp_cell_q]
    exact congrArg some (arrV_cong (fun j hj => by rw [if_pos hj]))
  have hnone : ∀ a, H.size ≤ a → M a = none := fun a ha => by
    cases q : M a with
    | none => rfl
    | some x => have := (hV.1 a x q).lt; exact absurd this (Nat.not_lt.mpr ha)
  have hS1 : H.size ≤ F.heap.size := by rw [f1]; omega
  have hV1 : hm_V E.1 vwCl A H0 (hm_mu M H.size 12 (hm_QJ E 12 (fun j => some (H.size + 1 + j))) (hm_J E 12 (fun _ => 0))) F.heap locs := by
    refine ⟨fun a x ha => ?_, fun a x ha => ?_, Nat.le_trans hV.2.2.1 hS1, fun q h1 h2 => (hold q (Nat.lt_of_lt_of_le h1 hV.2.2.1)).trans (hV.2.2.2.1 q h1 h2), hV.2.2.2.2⟩
    · unfold hm_mu at ha
      by_cases e1 : a = H.size
      · rw [if_pos e1] at ha; cases ha; subst e1; exact hout
      · rw [if_neg e1] at ha
        by_cases e2 : H.size < a ∧ a ≤ H.size + 12
        · rw [if_pos e2] at ha; cases ha
          have := hrow (a - H.size - 1) (by omega)
          rw [show H.size + 1 + (a - H.size - 1) = a by omega] at this
          exact this
        · rw [if_neg e2] at ha
          exact (hV.1 a x ha).kept (hold a (hV.1 a x ha).lt)
    · unfold hm_mu at ha
      by_cases e1 : a = H.size
      · exact hA a (by rw [e1]; exact hV.2.2.1)
      · rw [if_neg e1] at ha
        by_cases e2 : H.size < a ∧ a ≤ H.size + 12
        · exact hA a (Nat.le_trans hV.2.2.1 (by omega))
        · rw [if_neg e2] at ha
          exact hV.2.1 a x ha
  obtain ⟨t, a1, b1⟩ := kk H.size F.heap hnone hV1 F rfl X'
  refine ⟨t, step t ?_, b1⟩
  have e : T.heap.size = H.size := by rw [hT]
  rw [e]
  exact a1
end MNA
section Rows
variable {p : Program} {l : Launch} {e : Env} {R : Room} {s : State} {m : MethodId} {args : Array Value} {below : List Frame} {meth : Method} {c : Code} {H : Heap} {locs : List Loc} {cells slots : Nat} {Q : State → Prop}
variable {pc : Nat} {ls : Array Slot} {rest : List Value}
theorem vx_catch {own name : String} {E : String} {ce : Cell} {q : Addr} (hown : s.vm.findClass own = some m.cls) (pre : List ExceptionTableEntry) (x : ExceptionTableEntry) (suf : List ExceptionTableEntry) (hsplit : c.exceptionTable.toList = pre ++ x :: suf)
    (hpass : ∀ z ∈ pre, covers z pc = false ∨ (z.catchType ≠ 0 ∧ ∃ nm : String, (Cond.classLink own z.catchType nm).before args s = true ∧ va_Nc E nm s)) (hx : covers x pc = true) (h0 : x.catchType ≠ 0)
    (hlink : (Cond.classLink own x.catchType name).before args s = true) (hcast : (Cond.castable E name).before args s = true) (hcell : H[q]? = some ce) (hv : ce.vm = .none) (hcl : s.vm.findClass E = some ce.cls)
    (kk : W p l e R s m args below meth c H locs cells slots Q (F0 m x.handlerPc ls [.ref q])) : vx_W p l e R s m args below meth c H locs cells slots Q (F0 m pc ls rest) q := by
  intro T hT X
  have hpl : e.platform.magicAccessors = ({} : Platform).magicAccessors := by rw [X.admits.platform]
  obtain ⟨c3, c4, hc3, hc4, hasg⟩ := Cond.castable_spec hcast
  cases Option.some.inj (hc3.symm.trans hcl)
  obtain ⟨c5, hc5, hcl5⟩ := Cond.classLink_spec hown hlink e.platform hpl
  cases Option.some.inj (hc4.symm.trans hc5)
  obtain ⟨vm', X', st⟩ := X.thenCaughtThrough q (g := F0 m pc ls rest) rfl (Steps.refl _) (by rw [hT]; exact hcell) (by rw [hv]; rfl) (by obtain ⟨k9, h9, -⟩ := Vm.findClass_spec hcl; exact ⟨k9, h9⟩) pre x suf hsplit
    (fun z hz => by
      rcases hpass z hz with h | ⟨hz0, nm, hl1, hn1⟩
      · exact Or.inl h
      · obtain ⟨c6, hc6, hcl6⟩ := Cond.classLink_spec hown hl1 e.platform hpl
        obtain ⟨a8, b8, h1, h2, h3⟩ := hn1
        cases Option.some.inj (h1.symm.trans hcl)
        cases Option.some.inj (h2.symm.trans hc6)
        exact Or.inr ⟨hz0, _, hcl6, h3⟩) hx (Or.inr ⟨h0, c4, hcl5, hasg⟩)
  obtain ⟨t, a1, b1⟩ := kk (T.setVm vm') hT X'
  exact ⟨t, st.trans a1, b1⟩
end Rows
theorem hm_u4 {M : hm_M} {a0 a1 a2 a3 a4 : Nat} {e e' y1 y2 y3 y4 : va_E} (h1 : a1 ≠ a0) (h2 : a2 ≠ a0) (h3 : a3 ≠ a0) (h4 : a4 ≠ a0) : hm_up (hm_up (hm_up (hm_up (hm_up (hm_up M a0 e) a1 y1) a2 y2) a3 y3) a4 y4) a0 e' = hm_up (hm_up (hm_up (hm_up (hm_up M a0 e') a1 y1) a2 y2) a3 y3) a4 y4 := by
  rw [hm_up_comm _ _ _ h4, hm_u3 h1 h2 h3]
theorem hm_u5 {M : hm_M} {a0 a1 a2 a3 a4 a5 : Nat} {e e' y1 y2 y3 y4 y5 : va_E} (h1 : a1 ≠ a0) (h2 : a2 ≠ a0) (h3 : a3 ≠ a0) (h4 : a4 ≠ a0) (h5 : a5 ≠ a0) : hm_up (hm_up (hm_up (hm_up (hm_up (hm_up (hm_up M a0 e) a1 y1) a2 y2) a3 y3) a4 y4) a5 y5) a0 e' = hm_up (hm_up (hm_up (hm_up (hm_up (hm_up M a0 e') a1 y1) a2 y2) a3 y3) a4 y4) a5 y5 := by
  rw [hm_up_comm _ _ _ h5, hm_u4 h1 h2 h3 h4]
theorem hm_u6 {M : hm_M} {a0 a1 a2 a3 a4 a5 a6 : Nat} {e e' y1 y2 y3 y4 y5 y6 : va_E} (h1 : a1 ≠ a0) (h2 : a2 ≠ a0) (h3 : a3 ≠ a0) (h4 : a4 ≠ a0) (h5 : a5 ≠ a0) (h6 : a6 ≠ a0) : hm_up (hm_up (hm_up (hm_up (hm_up (hm_up (hm_up (hm_up M a0 e) a1 y1) a2 y2) a3 y3) a4 y4) a5 y5) a6 y6) a0 e' = hm_up (hm_up (hm_up (hm_up (hm_up (hm_up (hm_up M a0 e') a1 y1) a2 y2) a3 y3) a4 y4) a5 y5) a6 y6 := by
  rw [hm_up_comm _ _ _ h6, hm_u5 h1 h2 h3 h4 h5]
theorem hm_u7 {M : hm_M} {a0 a1 a2 a3 a4 a5 a6 a7 : Nat} {e e' y1 y2 y3 y4 y5 y6 y7 : va_E} (h1 : a1 ≠ a0) (h2 : a2 ≠ a0) (h3 : a3 ≠ a0) (h4 : a4 ≠ a0) (h5 : a5 ≠ a0) (h6 : a6 ≠ a0) (h7 : a7 ≠ a0) : hm_up (hm_up (hm_up (hm_up (hm_up (hm_up (hm_up (hm_up (hm_up M a0 e) a1 y1) a2 y2) a3 y3) a4 y4) a5 y5) a6 y6) a7 y7) a0 e' = hm_up (hm_up (hm_up (hm_up (hm_up (hm_up (hm_up (hm_up M a0 e') a1 y1) a2 y2) a3 y3) a4 y4) a5 y5) a6 y6) a7 y7 := by
  rw [hm_up_comm _ _ _ h7, hm_u6 h1 h2 h3 h4 h5 h6]
theorem hm_u8 {M : hm_M} {a0 a1 a2 a3 a4 a5 a6 a7 a8 : Nat} {e e' y1 y2 y3 y4 y5 y6 y7 y8 : va_E} (h1 : a1 ≠ a0) (h2 : a2 ≠ a0) (h3 : a3 ≠ a0) (h4 : a4 ≠ a0) (h5 : a5 ≠ a0) (h6 : a6 ≠ a0) (h7 : a7 ≠ a0) (h8 : a8 ≠ a0) : hm_up (hm_up (hm_up (hm_up (hm_up (hm_up (hm_up (hm_up (hm_up (hm_up M a0 e) a1 y1) a2 y2) a3 y3) a4 y4) a5 y5) a6 y6) a7 y7) a8 y8) a0 e' = hm_up (hm_up (hm_up (hm_up (hm_up (hm_up (hm_up (hm_up (hm_up M a0 e') a1 y1) a2 y2) a3 y3) a4 y4) a5 y5) a6 y6) a7 y7) a8 y8 := by
  rw [hm_up_comm _ _ _ h8, hm_u7 h1 h2 h3 h4 h5 h6 h7]
theorem hm_u9 {M : hm_M} {a0 a1 a2 a3 a4 a5 a6 a7 a8 a9 : Nat} {e e' y1 y2 y3 y4 y5 y6 y7 y8 y9 : va_E} (h1 : a1 ≠ a0) (h2 : a2 ≠ a0) (h3 : a3 ≠ a0) (h4 : a4 ≠ a0) (h5 : a5 ≠ a0) (h6 : a6 ≠ a0) (h7 : a7 ≠ a0) (h8 : a8 ≠ a0) (h9 : a9 ≠ a0) : hm_up (hm_up (hm_up (hm_up (hm_up (hm_up (hm_up (hm_up (hm_up (hm_up (hm_up M a0 e) a1 y1) a2 y2) a3 y3) a4 y4) a5 y5) a6 y6) a7 y7) a8 y8) a9 y9) a0 e' = hm_up (hm_up (hm_up (hm_up (hm_up (hm_up (hm_up (hm_up (hm_up (hm_up M a0 e') a1 y1) a2 y2) a3 y3) a4 y4) a5 y5) a6 y6) a7 y7) a8 y8) a9 y9 := by
  rw [hm_up_comm _ _ _ h9, hm_u8 h1 h2 h3 h4 h5 h6 h7 h8]
theorem hm_u10 {M : hm_M} {a0 a1 a2 a3 a4 a5 a6 a7 a8 a9 a10 : Nat} {e e' y1 y2 y3 y4 y5 y6 y7 y8 y9 y10 : va_E} (h1 : a1 ≠ a0) (h2 : a2 ≠ a0) (h3 : a3 ≠ a0) (h4 : a4 ≠ a0) (h5 : a5 ≠ a0) (h6 : a6 ≠ a0) (h7 : a7 ≠ a0) (h8 : a8 ≠ a0) (h9 : a9 ≠ a0) (h10 : a10 ≠ a0) : hm_up (hm_up (hm_up (hm_up (hm_up (hm_up (hm_up (hm_up (hm_up (hm_up (hm_up (hm_up M a0 e) a1 y1) a2 y2) a3 y3) a4 y4) a5 y5) a6 y6) a7 y7) a8 y8) a9 y9) a10 y10) a0 e' = hm_up (hm_up (hm_up (hm_up (hm_up (hm_up (hm_up (hm_up (hm_up (hm_up (hm_up M a0 e') a1 y1) a2 y2) a3 y3) a4 y4) a5 y5) a6 y6) a7 y7) a8 y8) a9 y9) a10 y10 := by
  rw [hm_up_comm _ _ _ h10, hm_u9 h1 h2 h3 h4 h5 h6 h7 h8 h9]
theorem hm_u11 {M : hm_M} {a0 a1 a2 a3 a4 a5 a6 a7 a8 a9 a10 a11 : Nat} {e e' y1 y2 y3 y4 y5 y6 y7 y8 y9 y10 y11 : va_E} (h1 : a1 ≠ a0) (h2 : a2 ≠ a0) (h3 : a3 ≠ a0) (h4 : a4 ≠ a0) (h5 : a5 ≠ a0) (h6 : a6 ≠ a0) (h7 : a7 ≠ a0) (h8 : a8 ≠ a0) (h9 : a9 ≠ a0) (h10 : a10 ≠ a0) (h11 : a11 ≠ a0) : hm_up (hm_up (hm_up (hm_up (hm_up (hm_up (hm_up (hm_up (hm_up (hm_up (hm_up (hm_up (hm_up M a0 e) a1 y1) a2 y2) a3 y3) a4 y4) a5 y5) a6 y6) a7 y7) a8 y8) a9 y9) a10 y10) a11 y11) a0 e' = hm_up (hm_up (hm_up (hm_up (hm_up (hm_up (hm_up (hm_up (hm_up (hm_up (hm_up (hm_up M a0 e') a1 y1) a2 y2) a3 y3) a4 y4) a5 y5) a6 y6) a7 y7) a8 y8) a9 y9) a10 y10) a11 y11 := by
  rw [hm_up_comm _ _ _ h11, hm_u10 h1 h2 h3 h4 h5 h6 h7 h8 h9 h10]
theorem hm_u12 {M : hm_M} {a0 a1 a2 a3 a4 a5 a6 a7 a8 a9 a10 a11 a12 : Nat} {e e' y1 y2 y3 y4 y5 y6 y7 y8 y9 y10 y11 y12 : va_E} (h1 : a1 ≠ a0) (h2 : a2 ≠ a0) (h3 : a3 ≠ a0) (h4 : a4 ≠ a0) (h5 : a5 ≠ a0) (h6 : a6 ≠ a0) (h7 : a7 ≠ a0) (h8 : a8 ≠ a0) (h9 : a9 ≠ a0) (h10 : a10 ≠ a0) (h11 : a11 ≠ a0) (h12 : a12 ≠ a0) : hm_up (hm_up (hm_up (hm_up (hm_up (hm_up (hm_up (hm_up (hm_up (hm_up (hm_up (hm_up (hm_up (hm_up M a0 e) a1 y1) a2 y2) a3 y3) a4 y4) a5 y5) a6 y6) a7 y7) a8 y8) a9 y9) a10 y10) a11 y11) a12 y12) a0 e' = hm_up (hm_up (hm_up (hm_up (hm_up (hm_up (hm_up (hm_up (hm_up (hm_up (hm_up (hm_up (hm_up M a0 e') a1 y1) a2 y2) a3 y3) a4 y4) a5 y5) a6 y6) a7 y7) a8 y8) a9 y9) a10 y10) a11 y11) a12 y12 := by
  rw [hm_up_comm _ _ _ h12, hm_u11 h1 h2 h3 h4 h5 h6 h7 h8 h9 h10 h11]
