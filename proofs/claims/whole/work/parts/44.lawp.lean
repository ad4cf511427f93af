/-! the law's world: the class's cells and the answer's row beside the model's -/
theorem hm_ja (A B C : hm_M) : hm_j (hm_j A B) C = hm_j A (hm_j B C) := by
  funext a
  simp only [hm_j]
  cases A a <;> rfl
theorem hm_da {A B C : hm_M} (h1 : hm_dj A B) (h2 : hm_dj (hm_j A B) C) : hm_dj A (hm_j B C) := by
  intro a e h
  have q1 := h1 a e h
  have q2 := h2 a e (hm_jl h)
  simp only [hm_j, q1, q2]
theorem hm_db {A B C : hm_M} (h : hm_dj A (hm_j B C)) : hm_dj A B := by
  intro a e q
  have := h a e q
  cases hB : B a with
  | none => rfl
  | some x => rw [hm_jl hB] at this; cases this
theorem hm_dd {A B C : hm_M} (h1 : hm_dj A B) (h2 : hm_dj (hm_j A B) C) : hm_dj B C := fun a e h => h2 a e (hm_jr h1 h)
theorem hm_dc {A B C : hm_M} (h : hm_dj A (hm_j B C)) (h2 : hm_dj B C) : hm_dj (hm_j A B) C := by
  intro a e q
  rcases hm_jc q with r | r
  · have := h a e r
    cases hC : C a with
    | none => rfl
    | some x => rw [hm_jr h2 hC] at this; cases this
  · exact h2 a e r
def lw_X (E : hm_E) (MX : hm_M) (x ot cnt : Nat) (nums : Nat → Int) (t : Nat → Nat → Int64) (f : Nat → Int64) : Prop := ∃ Mx No : hm_M, MX = hm_j Mx No ∧ hm_dj Mx No ∧ xp E Mx x cnt nums t ∧ No ot = some (hm_J E 1 f)
theorem lw_X.n {E : hm_E} {MX : hm_M} {x ot cnt : Nat} {Z nums : Nat → Int} {t : Nat → Nat → Int64} {f : Nat → Int64} (h : lw_X E MX x ot cnt Z t f) (hz : ∀ j, j < cnt → Z j = nums j) : lw_X E MX x ot cnt nums t f := by
  obtain ⟨Mx, No, h1, h2, h3, h4⟩ := h
  exact ⟨Mx, No, h1, h2, xp_n h3 hz, h4⟩
/-- behind both calls: the states agree, and so do the answers -/
def lw_T (E : hm_E) (x ot : Nat) (A : Nat → Nat) (t : Nat → Nat → Int64) (MX Mm : hm_M) (r5 : Int32) (r6 : Int64) : Prop := ∃ (cnt : Nat) (nums : Nat → Int) (f : Nat → Int64), lw_X E MX x ot cnt nums t f ∧ mq E Mm A r5 cnt nums t ∧ (r5 = 0 → f 0 = r6)
section LT
variable {E : hm_E} {x ot : Nat} {A : Nat → Nat} {t : Nat → Nat → Int64} {M1 Mx1 No Mm : hm_M} {f : Nat → Int64} {cnt c1 c2 : Nat} {nums n1 n2 : Nat → Int} {oz : Option Int} {v r : Int32}
theorem lw_good (hkp : kp cnt nums oz v c1 n1) (hkp2 : kp cnt nums oz r c2 n2) (hd1 : hm_dj Mx1 (hm_up No ot (hm_J E 1 (vp_updL f 0 v.toInt64)))) (hM1 : M1 = hm_j Mx1 (hm_up No ot (hm_J E 1 (vp_updL f 0 v.toInt64)))) (hxp : xp E Mx1 x c1 n1 t) (hmq : mq E Mm A 0 c2 n2 t) : lw_T E x ot A t M1 Mm 0 r.toInt64 := by
  obtain ⟨e1, e2, e3⟩ := kp_one hkp hkp2 (fun _ _ => rfl)
  subst e1; subst e2
  exact ⟨c1, n2, _, ⟨Mx1, _, hM1, hd1, xp_n hxp e3, hm_up_self _ _ _⟩, hmq, fun _ => by simp [vp_updL]⟩
theorem lw_same {w : Int64} (hd1 : hm_dj Mx1 (hm_up No ot (hm_J E 1 (vp_updL f 0 w)))) (hM1 : M1 = hm_j Mx1 (hm_up No ot (hm_J E 1 (vp_updL f 0 w)))) (hxp : xp E Mx1 x cnt nums t) (hmq : mq E Mm A 0 cnt nums t) : lw_T E x ot A t M1 Mm 0 w :=
  ⟨cnt, nums, _, ⟨Mx1, _, hM1, hd1, hxp, hm_up_self _ _ _⟩, hmq, fun _ => by simp [vp_updL]⟩
theorem lw_bad {th : Int32} {w : Int64} (hth : ¬ th = 0) (ho : No ot = some (hm_J E 1 f)) (hd1 : hm_dj Mx1 No) (hM1 : M1 = hm_j Mx1 No) (hxp : xp E Mx1 x cnt nums t) (hmq : mq E Mm A th cnt nums t) : lw_T E x ot A t M1 Mm th w :=
  ⟨cnt, nums, f, ⟨Mx1, No, hM1, hd1, hxp, ho⟩, hmq, fun h => absurd h hth⟩
end LT
theorem lw_inj {cnt i j : Nat} {a : Int32} (hc : cnt ≤ 160) (hi : i < cnt) (hj : j < cnt) (h1 : a = nI i) (h2 : a = nI j) : i = j := (nI_eq (by omega) (by omega)).mp (h1.symm.trans h2)
theorem lw_kn {cnt i : Nat} {a : Int32} (hi : i < cnt) (h : a = nI i) : kn cnt a := ⟨i, hi, h⟩
theorem lw_cmp (x : Int64) : lg_cmp x x = 0 := by simp [lg_cmp]
theorem lw_a2 (a : Nat) : nI a + 2 = nI (a + 2) := nI_add a 2
theorem lw_a3 (a : Nat) : nI a + 3 = nI (a + 3) := nI_add a 3
theorem lw_a4 (a : Nat) : nI a + 4 = nI (a + 4) := nI_add a 4
theorem lw_and15 (x : Int32) : ∃ n, n < 16 ∧ x &&& 15 = nI n := by
  have h : (x &&& 15).toBitVec.toNat < 16 := by
    have : (x &&& 15).toBitVec = x.toBitVec &&& 15#32 := rfl
    rw [this, BitVec.toNat_and]
    exact Nat.lt_of_le_of_lt Nat.and_le_right (by decide)
  exact ⟨(x &&& 15).toBitVec.toNat, h, Int32.toBitVec_inj.mp (by show _ = BitVec.ofNat 32 _; simp)⟩
theorem lw_len {k L : Nat} (hL : L ≤ 2560) : (nI L - 5 < nI (5 * k)) → k ≤ 512 → L < 5 * k + 5 := by
  intro h hk
  rw [iZ_nI, iZ_nI, show (5 : Int32) = iZ 5 from by decide, iZ_sub, Int32.lt_iff_toInt_lt, iZ_toInt (by omega) (by omega), iZ_toInt (by omega) (by omega)] at h
  omega
theorem lw_len2 {k L : Nat} (hL : L ≤ 2560) : (¬ nI L - 5 < nI (5 * k)) → k ≤ 512 → 5 * k + 5 ≤ L := by
  intro h hk
  rw [iZ_nI, iZ_nI, show (5 : Int32) = iZ 5 from by decide, iZ_sub, Int32.lt_iff_toInt_lt, iZ_toInt (by omega) (by omega), iZ_toInt (by omega) (by omega)] at h
  omega
section LSL
variable {p : Program} {l : Launch} {e : Env} {R : Room} {s : State} {m : MethodId} {args : Array Value} {below : List Frame} {meth : Method} {c : Code} {H : Heap} {locs : List Loc} {cells slots : Nat} {Q : State → Prop}
variable {cc : ByteArray} {pc : Nat} {ls : Array Slot} {rest : List Value} {A : Nat → Prop} {H0 : Heap}
theorem lw_sld (hexec : p.tables.exec = Jvm.exec) (hb : c.code = cc) {b L j : Nat} {xs : Nat → Int32} (hX : va_X b L xs s H0) (hbl : b < H0.size) (hbA : ¬ A b) (hS : va_S A H0 H locs) {i v : Int32} (hi : i = nI j) (hj : j < L) (hL : L ≤ 2560) (hv : xs j = v) (hdg : decode cc pc = .ok (.iaload, 1))
    (kk : W p l e R s m args below meth c H locs cells slots Q (F0 m (pc + 1) ls (.int v :: rest))) : W p l e R s m args below meth c H locs cells slots Q (F0 m pc ls (.int i :: .ref b :: rest)) := by
  subst hi; subst hv
  exact va_sld hexec hb hX hbl hbA hS (vp_in_nI hj (by omega)) hdg (by rw [nI_clamp (by omega)]; exact kk)
end LSL
def lw_B (p : Program) (l : Launch) (s : State) (m : MethodId) (c : Code) (b L : Nat) (xs : Nat → Int32) (E : hm_E) (M : hm_M) (sz : Nat) : Prop := p.tables.exec = Jvm.exec ∧ c.code = cL_law ∧ c.maxLocals = 8 ∧ s.vm.findClass RL = some m.cls ∧ (∀ w ∈ hm_ws, w.before [Value.ref b].toArray s = true) ∧ va_X b L xs s s.heap ∧ b < s.heap.size ∧ ¬ hm_A M sz b ∧ hm_K E s ∧ hm_Y (hm_A M sz) s ∧ (∀ q, s.heap.size ≤ q → hm_A M sz q) ∧ l.stackTraces = false ∧ L ≤ 2560
def lw_N (p : Program) (l : Launch) (e : Env) (s : State) (m : MethodId) (below : List Frame) (meth : Method) (c : Code) (b : Nat) (E : hm_E) (M : hm_M) (sz x ot : Nat) (A : Nat → Nat) (k : Nat) (Qf : State → Prop) : Prop := ∀ (MX Mm : hm_M) (f : Nat → Int64) (cnt : Nat) (nums : Nat → Int) (t : Nat → Nat → Int64) (th : Int32) (ls : Array Slot) (H : Heap) (locs : List Loc), hm_dj MX Mm → hm_V E.1 vwCl (hm_A M sz) s.heap (hm_j MX Mm) H locs → lw_X E MX x ot cnt nums t f → mq E Mm A th cnt nums t → lv_has ls 8 [(0, .ref b), (1, .ref x), (2, .ref (A 0)), (3, .ref ot), (4, .int (nI (5 * k)))] → W p l e room_1 s m [Value.ref b].toArray below meth c H locs (36 + 296 * (k + 1)) (235642 + 5679 * (k + 1)) Qf (F0 m 849 ls [])
