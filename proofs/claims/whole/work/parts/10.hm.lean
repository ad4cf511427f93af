/-! the world as a map from addresses to cells: a contract speaks of the whole map, and what it doesn't name stays -/
abbrev hm_M : Type := Nat → Option va_E
def hm_P (D : va_G) (cl : List vw_C) (M : hm_M) (H : Heap) : Prop := ∀ (a : Nat) (e : va_E), M a = some e → va_at D cl (a, e) H
def hm_up (M : hm_M) (a : Nat) (e : va_E) : hm_M := fun j => if j = a then some e else M j
theorem hm_up_self (M : hm_M) (a : Nat) (e : va_E) : hm_up M a e a = some e := by simp [hm_up]
theorem hm_up_ne (M : hm_M) {a j : Nat} (e : va_E) (h : j ≠ a) : hm_up M a e j = M j := by simp [hm_up, h]
theorem hm_up_up (M : hm_M) (a : Nat) (e e' : va_E) : hm_up (hm_up M a e) a e' = hm_up M a e' := by
  funext j
  by_cases h : j = a <;> simp [hm_up, h]
theorem hm_up_comm (M : hm_M) {a b : Nat} (e e' : va_E) (h : a ≠ b) : hm_up (hm_up M a e) b e' = hm_up (hm_up M b e') a e := by
  funext j
  by_cases h1 : j = a
  · subst h1; simp [hm_up, h]
  · by_cases h2 : j = b
    · subst h2; simp [hm_up, h1]
    · simp [hm_up, h1, h2]
theorem hm_up_id {M : hm_M} {a : Nat} {e : va_E} (h : M a = some e) : hm_up M a e = M := by
  funext j
  by_cases h1 : j = a
  · subst h1; simp [hm_up, h]
  · simp [hm_up, h1]
/-- the cells that a method may change: the map's, and new ones -/
def hm_A (M : hm_M) (sz : Nat) : Nat → Prop := fun q => (∃ e : va_E, M q = some e) ∨ sz ≤ q
def hm_V (D : va_G) (cl : List vw_C) (A : Nat → Prop) (H0 : Heap) (M : hm_M) (H : Heap) (locs : List Loc) : Prop :=
  hm_P D cl M H ∧ (∀ (a : Nat) (e : va_E), M a = some e → A a) ∧ va_S A H0 H locs
theorem hm_one {D : va_G} {cl : List vw_C} {M : hm_M} {H : Heap} {a : Nat} {e : va_E} (h : hm_P D cl M H) (he : M a = some e) : va_P D cl [(a, e)] H := by
  intro k q hk
  have := List.mem_of_getElem? hk
  simp at this
  subst this
  exact h a e he
theorem hm_D1 {A : Nat → Prop} {a : Nat} {e : va_E} (h : A a) : va_D A [(a, e)] := by
  refine ⟨fun i j p q hi hj _ => ?_, fun k q hk => ?_⟩
  · have h1 := (List.getElem?_eq_some_iff.mp hi).1
    have h2 := (List.getElem?_eq_some_iff.mp hj).1
    simp at h1 h2
    omega
  · have := List.mem_of_getElem? hk
    simp at this
    subst this
    exact h
theorem hm_list {D : va_G} {cl : List vw_C} {A : Nat → Prop} {H0 H : Heap} {M : hm_M} {locs : List Loc} (hV : hm_V D cl A H0 M H locs) : ∃ ws : va_W, va_P D cl ws H ∧ va_D A ws ∧ ∀ (a : Nat) (e : va_E), M a = some e ↔ (a, e) ∈ ws := by
  have key : ∀ n : Nat, ∃ ws : va_W, va_D A ws ∧ ∀ (a : Nat) (e : va_E), (a < n ∧ M a = some e) ↔ (a, e) ∈ ws := by
    intro n
    induction n with
    | zero => exact ⟨[], ⟨fun i j p q h => by simp at h, fun k q h => by simp at h⟩, fun a e => by simp⟩
    | succ n ih =>
      obtain ⟨ws, hD, hi⟩ := ih
      cases hM : M n with
      | none =>
        refine ⟨ws, hD, fun a e => ?_⟩
        rw [← hi a e]
        constructor
        · rintro ⟨h1, h2⟩
          refine ⟨?_, h2⟩
          rcases Nat.lt_succ_iff_lt_or_eq.mp h1 with q | q
          · exact q
          · subst q; rw [hM] at h2; cases h2
        · rintro ⟨h1, h2⟩
          exact ⟨Nat.lt_succ_of_lt h1, h2⟩
      | some e0 =>
        refine ⟨ws ++ [(n, e0)], va_D.app hD (hm_D1 (hV.2.1 n e0 hM)) (fun i j p q hp hq hpq => ?_), fun a e => ?_⟩
        · have h1 := (hi p.1 p.2).2 (List.mem_of_getElem? hp)
          have h2 := List.mem_of_getElem? hq
          simp at h2
          subst h2
          have h3 := h1.1
          simp at hpq
          omega
        · rw [List.mem_append, ← hi a e]
          constructor
          · rintro ⟨h1, h2⟩
            rcases Nat.lt_succ_iff_lt_or_eq.mp h1 with q | q
            · exact Or.inl ⟨q, h2⟩
            · subst q
              rw [hM] at h2
              cases h2
              exact Or.inr (List.mem_singleton.mpr rfl)
          · rintro (⟨h1, h2⟩ | h)
            · exact ⟨Nat.lt_succ_of_lt h1, h2⟩
            · simp at h
              obtain ⟨h1, h2⟩ := h
              subst h1; subst h2
              exact ⟨Nat.lt_succ_self _, hM⟩
  obtain ⟨ws, hD, hi⟩ := key H.size
  refine ⟨ws, fun k q hk => ?_, hD, fun a e => ?_⟩
  · have h1 := (hi q.1 q.2).2 (List.mem_of_getElem? hk)
    exact hV.1 q.1 q.2 h1.2
  · rw [← hi a e]
    exact ⟨fun h => ⟨(hV.1 a e h).lt, h⟩, fun h => h.2⟩
theorem hm_of {D : va_G} {cl : List vw_C} {A : Nat → Prop} {H0 H : Heap} {M : hm_M} {locs : List Loc} {ws : va_W} (hP : va_P D cl ws H) (hD : va_D A ws) (hS : va_S A H0 H locs) (h : ∀ (a : Nat) (e : va_E), M a = some e → (a, e) ∈ ws) : hm_V D cl A H0 M H locs := by
  refine ⟨fun a e ha => ?_, fun a e ha => ?_, hS⟩
  · obtain ⟨k, hk⟩ := List.getElem?_of_mem (h a e ha)
    exact hP k _ hk
  · obtain ⟨k, hk⟩ := List.getElem?_of_mem (h a e ha)
    exact hD.2 k _ hk
theorem hm_in_set {M : hm_M} {ws : va_W} {a k : Nat} {e0 e1 : va_E} (hi : ∀ (b : Nat) (e : va_E), M b = some e ↔ (b, e) ∈ ws) (hk : ws[k]? = some (a, e0)) : ∀ (b : Nat) (e : va_E), hm_up M a e1 b = some e → (b, e) ∈ ws.set k (a, e1) := by
  intro b e h
  have hl := (List.getElem?_eq_some_iff.mp hk).1
  by_cases hb : b = a
  · subst hb
    rw [hm_up_self] at h
    cases h
    exact List.mem_of_getElem? (List.getElem?_set_self hl)
  · rw [hm_up_ne _ _ hb] at h
    obtain ⟨j, hj⟩ := List.getElem?_of_mem ((hi b e).1 h)
    have hjk : k ≠ j := by
      intro q
      subst q
      rw [hk] at hj
      cases hj
      exact hb rfl
    exact List.mem_of_getElem? ((List.getElem?_set_ne hjk).trans hj)
theorem hm_in_push {M : hm_M} {ws : va_W} {a : Nat} {e1 : va_E} (hi : ∀ (b : Nat) (e : va_E), M b = some e ↔ (b, e) ∈ ws) : ∀ (b : Nat) (e : va_E), hm_up M a e1 b = some e → (b, e) ∈ ws ++ [(a, e1)] := by
  intro b e h
  by_cases hb : b = a
  · subst hb
    rw [hm_up_self] at h
    cases h
    exact List.mem_append_right _ (List.mem_singleton.mpr rfl)
  · rw [hm_up_ne _ _ hb] at h
    exact List.mem_append_left _ ((hi b e).1 h)
theorem hm_fresh {A : Nat → Prop} {M : hm_M} {ws : va_W} {q : Nat} {e1 : va_E} (hi : ∀ (b : Nat) (e : va_E), M b = some e ↔ (b, e) ∈ ws) (hD : va_D A (ws ++ [(q, e1)])) : M q = none := by
  cases hM : M q with
  | none => rfl
  | some e =>
    obtain ⟨j, hj⟩ := List.getElem?_of_mem ((hi q e).1 hM)
    have hl := (List.getElem?_eq_some_iff.mp hj).1
    have h1 : (ws ++ [(q, e1)])[j]? = some (q, e) := by rw [List.getElem?_append_left hl]; exact hj
    have h2 : (ws ++ [(q, e1)])[ws.length]? = some (q, e1) := by rw [List.getElem?_append_right (Nat.le_refl _), Nat.sub_self]; rfl
    have := hD.1 j ws.length _ _ h1 h2 rfl
    omega
theorem hm_tyP {D : va_G} {cl : List vw_C} {tys : List (ClassId × FieldType)} {s : State} {t0 : Nat} {cA cI : ClassId} {ty : FieldType} (hK : va_K D cl tys s) (ht : tys[t0]? = some (cI, ty)) (hK' : va_K D cl (tys ++ [(cA, ty)]) s) : cA = cI := by
  have h1 := (hK.2 t0 _ ht).2
  have h2 := (hK'.2 tys.length (cA, ty) (by rw [List.getElem?_append_right (Nat.le_refl _), Nat.sub_self]; rfl)).2
  cases ty with
  | object C =>
    obtain ⟨_, _, _, _, _, h3⟩ := h1
    obtain ⟨_, _, _, _, _, h4⟩ := h2
    exact Option.some.inj (h4.symm.trans h3)
  | _ => exact Option.some.inj (Eq.trans (Eq.symm h2) h1)
section HM1
variable {p : Program} {l : Launch} {e : Env} {R : Room} {s : State} {m : MethodId} {args : Array Value} {below : List Frame} {meth : Method} {c : Code} {H : Heap} {locs : List Loc} {cells slots : Nat} {Q : State → Prop}
variable {cc : ByteArray} {pc : Nat} {ls : Array Slot} {rest : List Value} {D : va_G} {cl : List vw_C} {A : Nat → Prop} {a : Nat} {tys : List (ClassId × FieldType)} {M : hm_M} {H0 : Heap}
theorem hm_get (hexec : p.tables.exec = Jvm.exec) (hb : c.code = cc) {own ref C : String} {T : u_T} {N ci index : Nat} {Ts : List Cond} (hts : ∀ w ∈ Ts, w.before args s = true) (hin : ∀ w ∈ u_ws C T N, w ∈ Ts) (hown : s.vm.findClass own = some m.cls) (hK : va_K D cl tys s) (hV : hm_V D cl A H0 M H locs) {fs : List Value} (he : M a = some (.inr (ci, fs))) (hc : cl[ci]? = some (C, T, N)) (k : Nat) (hk : k < N) (hlink : (Cond.fieldLink own index ref (T k).2.1 (T k).2.2.1).before args s = true) (hsame : ∀ x, s.fieldFound? (T k).1 (T k).2.1 (T k).2.2.1 = some x → s.fieldFound? ref (T k).2.1 (T k).2.2.1 = some x) {v : Value} (hv : fs[k]? = some v) (hdg : decode cc pc = .ok (.getfield index, 3))
    (kk : W p l e R s m args below meth c H locs cells slots Q (F0 m (pc + 3) ls (v :: rest))) : W p l e R s m args below meth c H locs cells slots Q (F0 m pc ls (.ref a :: rest)) :=
  va_get hexec hb hts hin hown hK (hm_one hV.1 he) 0 rfl hc k hk hlink hsame hv hdg kk
theorem hm_getN (hexec : p.tables.exec = Jvm.exec) (hb : c.code = cc) {own ref C host : String} {T : u_T} {N ci index : Nat} {Ts : List Cond} (hts : ∀ w ∈ Ts, w.before args s = true) (hin : ∀ w ∈ u_ws C T N, w ∈ Ts) (hown : s.vm.findClass own = some m.cls) (hK : va_K D cl tys s) (hV : hm_V D cl A H0 M H locs) {fs : List Value} (he : M a = some (.inr (ci, fs))) (hc : cl[ci]? = some (C, T, N)) (k : Nat) (hk : k < N) (hlink : (Cond.fieldLinkNest own index ref (T k).2.1 (T k).2.2.1 host).before args s = true) (hsame : ∀ x, s.fieldFound? (T k).1 (T k).2.1 (T k).2.2.1 = some x → s.fieldFound? ref (T k).2.1 (T k).2.2.1 = some x) {v : Value} (hv : fs[k]? = some v) (hdg : decode cc pc = .ok (.getfield index, 3))
    (kk : W p l e R s m args below meth c H locs cells slots Q (F0 m (pc + 3) ls (v :: rest))) : W p l e R s m args below meth c H locs cells slots Q (F0 m pc ls (.ref a :: rest)) :=
  va_getN hexec hb hts hin hown hK (hm_one hV.1 he) 0 rfl hc k hk hlink hsame hv hdg kk
theorem hm_put (hexec : p.tables.exec = Jvm.exec) (hb : c.code = cc) {own ref C : String} {T : u_T} {N ci index : Nat} {Ts : List Cond} (hts : ∀ w ∈ Ts, w.before args s = true) (hin : ∀ w ∈ u_ws C T N, w ∈ Ts) (ty0 : Nat → FieldType) (hty : ∀ k, k < N → parseFieldDescriptor (T k).2.2.1 = some (ty0 k)) (hnm : ∀ a, a < N → ∀ b, b < N → a ≠ b → (T a).2.1 ≠ (T b).2.1) (hown : s.vm.findClass own = some m.cls) (hK : va_K D cl tys s) (hV : hm_V D cl A H0 M H locs) {fs : List Value} (he : M a = some (.inr (ci, fs))) (hc : cl[ci]? = some (C, T, N)) (k : Nat) (hk : k < N) (hlink : (Cond.fieldLink own index ref (T k).2.1 (T k).2.2.1).before args s = true) (hsame : ∀ x, s.fieldFound? (T k).1 (T k).2.1 (T k).2.2.1 = some x → s.fieldFound? ref (T k).2.1 (T k).2.2.1 = some x) (hfin : (T k).2.2.2 = false) {ty : FieldType} {v : Value} (hd : parseFieldDescriptor (T k).2.2.1 = some ty) (hn : narrow ty v = v) (hfit : fits ty v = true) (hl : k < fs.length)
    (hdg : decode cc pc = .ok (.putfield index, 3)) (kk : ∀ (H1 : Heap) (locs1 : List Loc), hm_V D cl A H0 (hm_up M a (.inr (ci, fs.set k v))) H1 locs1 → W p l e R s m args below meth c H1 locs1 cells slots Q (F0 m (pc + 3) ls rest)) : W p l e R s m args below meth c H locs cells slots Q (F0 m pc ls (v :: .ref a :: rest)) := by
  obtain ⟨ws, hP, hD, hi⟩ := hm_list hV
  obtain ⟨q0, hq⟩ := List.getElem?_of_mem ((hi a _).1 he)
  exact va_put hexec hb hts hin ty0 hty hnm hown hK hP hD hV.2.2 q0 hq hc k hk hlink hsame hfin hd hn hfit hl hdg (fun H1 locs1 hP1 hD1 hS1 => kk H1 locs1 (hm_of hP1 hD1 hS1 (hm_in_set hi hq)))
theorem hm_putN (hexec : p.tables.exec = Jvm.exec) (hb : c.code = cc) {own ref C host : String} {T : u_T} {N ci index : Nat} {Ts : List Cond} (hts : ∀ w ∈ Ts, w.before args s = true) (hin : ∀ w ∈ u_ws C T N, w ∈ Ts) (ty0 : Nat → FieldType) (hty : ∀ k, k < N → parseFieldDescriptor (T k).2.2.1 = some (ty0 k)) (hnm : ∀ a, a < N → ∀ b, b < N → a ≠ b → (T a).2.1 ≠ (T b).2.1) (hown : s.vm.findClass own = some m.cls) (hK : va_K D cl tys s) (hV : hm_V D cl A H0 M H locs) {fs : List Value} (he : M a = some (.inr (ci, fs))) (hc : cl[ci]? = some (C, T, N)) (k : Nat) (hk : k < N) (hlink : (Cond.fieldLinkNest own index ref (T k).2.1 (T k).2.2.1 host).before args s = true) (hsame : ∀ x, s.fieldFound? (T k).1 (T k).2.1 (T k).2.2.1 = some x → s.fieldFound? ref (T k).2.1 (T k).2.2.1 = some x) (hfin : (T k).2.2.2 = false) {ty : FieldType} {v : Value} (hd : parseFieldDescriptor (T k).2.2.1 = some ty) (hn : narrow ty v = v) (hfit : fits ty v = true) (hl : k < fs.length)
    (hdg : decode cc pc = .ok (.putfield index, 3)) (kk : ∀ (H1 : Heap) (locs1 : List Loc), hm_V D cl A H0 (hm_up M a (.inr (ci, fs.set k v))) H1 locs1 → W p l e R s m args below meth c H1 locs1 cells slots Q (F0 m (pc + 3) ls rest)) : W p l e R s m args below meth c H locs cells slots Q (F0 m pc ls (v :: .ref a :: rest)) := by
  obtain ⟨ws, hP, hD, hi⟩ := hm_list hV
  obtain ⟨q0, hq⟩ := List.getElem?_of_mem ((hi a _).1 he)
  exact va_putN hexec hb hts hin ty0 hty hnm hown hK hP hD hV.2.2 q0 hq hc k hk hlink hsame hfin hd hn hfit hl hdg (fun H1 locs1 hP1 hD1 hS1 => kk H1 locs1 (hm_of hP1 hD1 hS1 (hm_in_set hi hq)))
theorem hm_putF (hexec : p.tables.exec = Jvm.exec) (hb : c.code = cc) {own ref C : String} {T : u_T} {N ci index : Nat} {Ts : List Cond} (hts : ∀ w ∈ Ts, w.before args s = true) (hin : ∀ w ∈ u_ws C T N, w ∈ Ts) (ty0 : Nat → FieldType) (hty : ∀ k, k < N → parseFieldDescriptor (T k).2.2.1 = some (ty0 k)) (hnm : ∀ a, a < N → ∀ b, b < N → a ≠ b → (T a).2.1 ≠ (T b).2.1) (hown : s.vm.findClass own = some m.cls) (hK : va_K D cl tys s) (hV : hm_V D cl A H0 M H locs) {fs : List Value} (he : M a = some (.inr (ci, fs))) (hc : cl[ci]? = some (C, T, N)) (k : Nat) (hk : k < N) (hlink : (Cond.fieldLink own index ref (T k).2.1 (T k).2.2.1).before args s = true) (hsame : ∀ x, s.fieldFound? (T k).1 (T k).2.1 (T k).2.2.1 = some x → s.fieldFound? ref (T k).2.1 (T k).2.2.1 = some x) (hfin : (T k).2.2.2 = true) (hin2 : meth.name = "<init>") (hdecl : (T k).1 = own) {ty : FieldType} {v : Value} (hd : parseFieldDescriptor (T k).2.2.1 = some ty) (hn : narrow ty v = v) (hfit : fits ty v = true) (hl : k < fs.length)
    (hdg : decode cc pc = .ok (.putfield index, 3)) (kk : ∀ (H1 : Heap) (locs1 : List Loc), hm_V D cl A H0 (hm_up M a (.inr (ci, fs.set k v))) H1 locs1 → W p l e R s m args below meth c H1 locs1 cells slots Q (F0 m (pc + 3) ls rest)) : W p l e R s m args below meth c H locs cells slots Q (F0 m pc ls (v :: .ref a :: rest)) := by
  obtain ⟨ws, hP, hD, hi⟩ := hm_list hV
  obtain ⟨q0, hq⟩ := List.getElem?_of_mem ((hi a _).1 he)
  exact va_putF hexec hb hts hin ty0 hty hnm hown hK hP hD hV.2.2 q0 hq hc k hk hlink hsame hfin hin2 hdecl hd hn hfit hl hdg (fun H1 locs1 hP1 hD1 hS1 => kk H1 locs1 (hm_of hP1 hD1 hS1 (hm_in_set hi hq)))
theorem hm_iald (hexec : p.tables.exec = Jvm.exec) (hb : c.code = cc) (hK : va_K D cl tys s) (hV : hm_V D cl A H0 M H locs) (t0 : Nat) {cA : ClassId} {n : Nat} {f : Nat → Int32} (ha : M a = some (.inl (cA, n, .inl f))) (ht : tys[t0]? = some (cA, .int)) {i : Int32} (hin : vp_in i n) (hdg : decode cc pc = .ok (.iaload, 1))
    (kk : W p l e R s m args below meth c H locs cells slots Q (F0 m (pc + 1) ls (.int (f i.toNatClampNeg) :: rest))) : W p l e R s m args below meth c H locs cells slots Q (F0 m pc ls (.int i :: .ref a :: rest)) :=
  va_iald hexec hb hK (hm_one hV.1 ha) 0 t0 rfl ht hin hdg kk
theorem hm_lald (hexec : p.tables.exec = Jvm.exec) (hb : c.code = cc) (hK : va_K D cl tys s) (hV : hm_V D cl A H0 M H locs) (t0 : Nat) {cA : ClassId} {n : Nat} {f : Nat → Int64} (ha : M a = some (.inl (cA, n, .inr (.inl f)))) (ht : tys[t0]? = some (cA, .long)) {i : Int32} (hin : vp_in i n) (hdg : decode cc pc = .ok (.laload, 1))
    (kk : W p l e R s m args below meth c H locs cells slots Q (F0 m (pc + 1) ls (.long (f i.toNatClampNeg) :: rest))) : W p l e R s m args below meth c H locs cells slots Q (F0 m pc ls (.int i :: .ref a :: rest)) :=
  va_lald hexec hb hK (hm_one hV.1 ha) 0 t0 rfl ht hin hdg kk
theorem hm_aldq (hexec : p.tables.exec = Jvm.exec) (hb : c.code = cc) (hK : va_K D cl tys s) (hV : hm_V D cl A H0 M H locs) (t0 : Nat) {cA : ClassId} {C : String} {n : Nat} {f : Nat → Option Nat} (ha : M a = some (.inl (cA, n, .inr (.inr (.inr (.inr f)))))) (ht : tys[t0]? = some (cA, .object C)) {i : Int32} (hin : vp_in i n) (hdg : decode cc pc = .ok (.aaload, 1))
    (kk : W p l e R s m args below meth c H locs cells slots Q (F0 m (pc + 1) ls (va_rf (f i.toNatClampNeg) :: rest))) : W p l e R s m args below meth c H locs cells slots Q (F0 m pc ls (.int i :: .ref a :: rest)) :=
  va_aldq hexec hb hK (hm_one hV.1 ha) 0 t0 rfl ht hin hdg kk
theorem hm_alen (hexec : p.tables.exec = Jvm.exec) (hb : c.code = cc) (hK : va_K D cl tys s) (hV : hm_V D cl A H0 M H locs) (t0 : Nat) {cA : ClassId} {x : vp_A} (ha : M a = some (.inl (cA, x))) {ty : FieldType} (ht : tys[t0]? = some (cA, ty)) {v : Int32} (hv : Int32.ofNat x.1 = v) (hdg : decode cc pc = .ok (.arraylength, 1))
    (kk : W p l e R s m args below meth c H locs cells slots Q (F0 m (pc + 1) ls (.int v :: rest))) : W p l e R s m args below meth c H locs cells slots Q (F0 m pc ls (.ref a :: rest)) :=
  va_alen hexec hb hK (hm_one hV.1 ha) 0 t0 rfl ht hv hdg kk
theorem hm_iast (hexec : p.tables.exec = Jvm.exec) (hb : c.code = cc) (hK : va_K D cl tys s) (hV : hm_V D cl A H0 M H locs) (t0 : Nat) {cA : ClassId} {n : Nat} {f : Nat → Int32} (ha : M a = some (.inl (cA, n, .inl f))) (ht : tys[t0]? = some (cA, .int)) {i : Int32} {x : Int32} (hin : vp_in i n) (hdg : decode cc pc = .ok (.iastore, 1))
    (kk : ∀ (H1 : Heap) (locs1 : List Loc), hm_V D cl A H0 (hm_up M a (.inl (cA, n, .inl (upd f i.toNatClampNeg x)))) H1 locs1 → W p l e R s m args below meth c H1 locs1 cells slots Q (F0 m (pc + 1) ls rest)) : W p l e R s m args below meth c H locs cells slots Q (F0 m pc ls (.int x :: .int i :: .ref a :: rest)) := by
  obtain ⟨ws, hP, hD, hi⟩ := hm_list hV
  obtain ⟨q0, hq⟩ := List.getElem?_of_mem ((hi a _).1 ha)
  exact va_iast hexec hb hK hP hD hV.2.2 q0 t0 hq ht hin hdg (fun H1 locs1 hP1 hD1 hS1 => kk H1 locs1 (hm_of hP1 hD1 hS1 (hm_in_set hi hq)))
theorem hm_last (hexec : p.tables.exec = Jvm.exec) (hb : c.code = cc) (hK : va_K D cl tys s) (hV : hm_V D cl A H0 M H locs) (t0 : Nat) {cA : ClassId} {n : Nat} {f : Nat → Int64} (ha : M a = some (.inl (cA, n, .inr (.inl f)))) (ht : tys[t0]? = some (cA, .long)) {i : Int32} {x : Int64} (hin : vp_in i n) (hdg : decode cc pc = .ok (.lastore, 1))
    (kk : ∀ (H1 : Heap) (locs1 : List Loc), hm_V D cl A H0 (hm_up M a (.inl (cA, n, .inr (.inl (vp_updL f i.toNatClampNeg x))))) H1 locs1 → W p l e R s m args below meth c H1 locs1 cells slots Q (F0 m (pc + 1) ls rest)) : W p l e R s m args below meth c H locs cells slots Q (F0 m pc ls (.long x :: .int i :: .ref a :: rest)) := by
  obtain ⟨ws, hP, hD, hi⟩ := hm_list hV
  obtain ⟨q0, hq⟩ := List.getElem?_of_mem ((hi a _).1 ha)
  exact va_last hexec hb hK hP hD hV.2.2 q0 t0 hq ht hin hdg (fun H1 locs1 hP1 hD1 hS1 => kk H1 locs1 (hm_of hP1 hD1 hS1 (hm_in_set hi hq)))
theorem hm_astq (hexec : p.tables.exec = Jvm.exec) (hb : c.code = cc) (hK : va_K D cl tys s) (hV : hm_V D cl A H0 M H locs) (t0 ci : Nat) {cA : ClassId} {r : vw_C} {n v : Nat} {vs : List Value} {f : Nat → Option Nat} (ha : M a = some (.inl (cA, n, .inr (.inr (.inr (.inr f)))))) (ht : tys[t0]? = some (cA, .object r.1)) (hv : M v = some (.inr (ci, vs))) (hc : cl[ci]? = some r) {i : Int32} (hin : vp_in i n) (hdg : decode cc pc = .ok (.aastore, 1))
    (kk : ∀ (H1 : Heap) (locs1 : List Loc), hm_V D cl A H0 (hm_up M a (.inl (cA, n, .inr (.inr (.inr (.inr (va_up f i.toNatClampNeg (some v)))))))) H1 locs1 → W p l e R s m args below meth c H1 locs1 cells slots Q (F0 m (pc + 1) ls rest)) : W p l e R s m args below meth c H locs cells slots Q (F0 m pc ls (.ref v :: .int i :: .ref a :: rest)) := by
  obtain ⟨ws, hP, hD, hi⟩ := hm_list hV
  obtain ⟨q0, hq⟩ := List.getElem?_of_mem ((hi a _).1 ha)
  obtain ⟨q1, hq1⟩ := List.getElem?_of_mem ((hi v _).1 hv)
  exact va_astq hexec hb hK hP hD hV.2.2 q0 t0 q1 ci hq ht hq1 hc hin hdg (fun H1 locs1 hP1 hD1 hS1 => kk H1 locs1 (hm_of hP1 hD1 hS1 (hm_in_set hi hq)))
theorem hm_new (hexec : p.tables.exec = Jvm.exec) (hb : c.code = cc) {own C : String} {T : u_T} {N ci index : Nat} {Ts : List Cond} (hts : ∀ w ∈ Ts, w.before args s = true) (hin : ∀ w ∈ u_ws C T N, w ∈ Ts) (ty : Nat → FieldType) (hty : ∀ k, k < N → parseFieldDescriptor (T k).2.2.1 = some (ty k)) (hown : s.vm.findClass own = some m.cls) (hcl : (Cond.classLink own index C).before args s = true) (hinst : (Cond.instantiable C N).before args s = true) (hini : (Cond.initialized C).before args s = true)
    (hK : va_K D cl tys s) (hV : hm_V D cl A H0 M H locs) (hA : ∀ q, H0.size ≤ q → A q) (hc : cl[ci]? = some (C, T, N)) {fs : List Value} (hfs : ∀ j, j < N → defaultValue (ty j) = vp_V fs j) (hcells : cells + 1 ≤ R.cells) (hslots : slots + N ≤ R.slots) (hdg : decode cc pc = .ok (.new index, 3))
    (kk : ∀ (q : Nat) (H1 : Heap), M q = none → hm_V D cl A H0 (hm_up M q (.inr (ci, fs))) H1 locs → W p l e R s m args below meth c H1 locs (cells + 1) (slots + N) Q (F0 m (pc + 3) ls (.ref q :: rest))) : W p l e R s m args below meth c H locs cells slots Q (F0 m pc ls rest) := by
  obtain ⟨ws, hP, hD, hi⟩ := hm_list hV
  exact va_new hexec hb hts hin ty hty hown hcl hinst hini hK hP hD hV.2.2 hA hc hfs hcells hslots hdg (fun q H1 hP1 hD1 hS1 => kk q H1 (hm_fresh hi hD1) (hm_of hP1 hD1 hS1 (hm_in_push hi)))
theorem hm_newa (hexec : p.tables.exec = Jvm.exec) (hb : c.code = cc) {atype : ArrayType} (harr : (Cond.arrayClass (newarray.typeOf atype)).before args s = true) {ty : FieldType} (hty : newarray.typeOf atype = ty) (hK : va_K D cl tys s) (hV : hm_V D cl A H0 M H locs) (hA : ∀ q, H0.size ≤ q → A q) (t0 : Nat) {cI : ClassId} (ht : tys[t0]? = some (cI, ty))
    {n : Int32} {N' : Nat} {a0 : vp_A} (ha : ∀ cA : ClassId, vp_cell cA a0 = arrV cA N' (fun _ => defaultValue ty)) (hn : ¬ n < 0) (hN : n.toNatClampNeg = N') (hbytes : N' * componentBytes ty ≤ 536870912) (hcells : cells + 1 ≤ R.cells) (hslots : slots + N' ≤ R.slots) (hdg : decode cc pc = .ok (.newarray atype, 2))
    (kk : ∀ (q : Nat) (H1 : Heap), M q = none → hm_V D cl A H0 (hm_up M q (.inl (cI, a0))) H1 locs → W p l e R s m args below meth c H1 locs (cells + 1) (slots + N') Q (F0 m (pc + 2) ls (.ref q :: rest))) : W p l e R s m args below meth c H locs cells slots Q (F0 m pc ls (.int n :: rest)) := by
  obtain ⟨ws, hP, hD, hi⟩ := hm_list hV
  refine va_newa hexec hb harr hty hK hP hD hV.2.2 hA ha hn hN hbytes hcells hslots hdg (fun q cA H1 hK1 hP1 hD1 hS1 => ?_)
  have hcA := hm_tyP hK ht hK1
  subst hcA
  exact kk q H1 (hm_fresh hi hD1) (hm_of hP1 hD1 hS1 (hm_in_push hi))
theorem hm_newq (hexec : p.tables.exec = Jvm.exec) (hb : c.code = cc) {own C : String} {index : Nat} (hown : s.vm.findClass own = some m.cls) (hclink : (Cond.classLink own index C).before args s = true) (hover : va_AO C s) (hK : va_K D cl tys s) (hV : hm_V D cl A H0 M H locs) (hA : ∀ q, H0.size ≤ q → A q) (t0 : Nat) {cI : ClassId} (ht : tys[t0]? = some (cI, .object C))
    {n : Int32} {N' : Nat} (hn : ¬ n < 0) (hN : n.toNatClampNeg = N') (hbytes : N' * 4 ≤ 536870912) (hcells : cells + 1 ≤ R.cells) (hslots : slots + N' ≤ R.slots) (hdg : decode cc pc = .ok (.anewarray index, 3))
    (kk : ∀ (q : Nat) (H1 : Heap), M q = none → hm_V D cl A H0 (hm_up M q (.inl (cI, N', .inr (.inr (.inr (.inr (fun _ => none))))))) H1 locs → W p l e R s m args below meth c H1 locs (cells + 1) (slots + N') Q (F0 m (pc + 3) ls (.ref q :: rest))) : W p l e R s m args below meth c H locs cells slots Q (F0 m pc ls (.int n :: rest)) := by
  obtain ⟨ws, hP, hD, hi⟩ := hm_list hV
  refine va_newq hexec hb hown hclink hover hK hP hD hV.2.2 hA hn hN hbytes hcells hslots hdg (fun q cA H1 hK1 hP1 hD1 hS1 => ?_)
  have hcA := hm_tyP hK ht hK1
  subst hcA
  exact kk q H1 (hm_fresh hi hD1) (hm_of hP1 hD1 hS1 (hm_in_push hi))
end HM1
/-! what every contract has: the tables (classes, arrays, nest words), its start, its end -/
abbrev hm_E : Type := va_G × (ClassId × ClassId × ClassId × ClassId × ClassId)
abbrev hm_tys (E : hm_E) : List (ClassId × FieldType) := [(E.2.1, .int), (E.2.2.1, .long), (E.2.2.2.1, .boolean), (E.2.2.2.2.1, .object RX2), (E.2.2.2.2.2, .array .long)]
def hm_nF : List (String × Nat × String × String) := [(RX0, 18, "length", "I"), (RX0, 28, "limbs", "[I"), (RX0, 35, "negative", "Z"), (RX3, 139, "length", "I"), (RX3, 61, "negative", "Z"), (RX1, 73, "negative", "Z")]
def hm_nM : List (String × Nat × MethodName) := [(RX3, 36, yX0_init), (RX0, 47, yX2_finish), (RX0, 51, yX3_highestBit), (RX0, 62, yX2_limbAt)]
def hm_K (E : hm_E) (U : State) : Prop := va_K E.1 vwCl (hm_tys E) U ∧ (∀ q ∈ hm_nF, va_Nw (.fieldLinkNest q.1 q.2.1 RX2 q.2.2.1 q.2.2.2 RX3) U) ∧ ∀ q ∈ hm_nM, va_Nw (.methodLinkNest q.1 q.2.1 q.2.2 RX3) U
theorem hm_K.moved {E : hm_E} {s U : State} (hW : s.WarmedH U.vm) (h : hm_K E s) : hm_K E U := ⟨va_K.moved hW.alike h.1, fun q hq => va_Nw.warmF hW (h.2.1 q hq), fun q hq => va_Nw.warmM hW (h.2.2 q hq)⟩
theorem hm_K.same {E : hm_E} {u U : State} (hv : u.vm = U.vm) (h : hm_K E u) : hm_K E U := ⟨va_K.moved (by rw [hv]; exact Vm.Alike.refl U.vm) h.1, fun q hq => va_Nw.same rfl hv (h.2.1 q hq), fun q hq => va_Nw.same rfl hv (h.2.2 q hq)⟩
abbrev hm_I (E : hm_E) (n : Nat) (f : Nat → Int32) : va_E := .inl (E.2.1, n, .inl f)
abbrev hm_J (E : hm_E) (n : Nat) (f : Nat → Int64) : va_E := .inl (E.2.2.1, n, .inr (.inl f))
abbrev hm_Z (E : hm_E) (n : Nat) (f : Nat → Int32) : va_E := .inl (E.2.2.2.1, n, .inl f)
abbrev hm_Q (E : hm_E) (n : Nat) (f : Nat → Option Nat) : va_E := .inl (E.2.2.2.2.1, n, .inr (.inr (.inr (.inr f))))
abbrev hm_QJ (E : hm_E) (n : Nat) (f : Nat → Option Nat) : va_E := .inl (E.2.2.2.2.2, n, .inr (.inr (.inr (.inr f))))
abbrev hm_W (la : Nat) (ln ng : Int32) : va_E := .inr (4, [.ref la, .int ln, .int ng])
def hm_Pc (E : hm_E) (M : hm_M) (sz : Nat) (av : List Value) : Array Value → State → Prop := va_Pc av (fun U => U.heap.size = sz ∧ hm_P E.1 vwCl M U.heap ∧ hm_K E U)
def hm_B (E : hm_E) (M : hm_M) (sz : Nat) : hm_M → State → Prop := fun M' t => hm_P E.1 vwCl M' t.heap ∧ ∀ (a : Nat) (e : va_E), M' a = some e → hm_A M sz a
abbrev hm_Cv (l : Launch) (E : hm_E) (y : MethodName) (ws : List Cond) (rm : Room) (av : List Value) (M : hm_M) (post : hm_M → Prop) : Prop := ∀ sz : Nat, Met l y ws rm (hm_Pc E M sz av) (va_Qv post (hm_B E M sz) (hm_A M sz)) rm.cells rm.slots (hm_A M sz)
abbrev hm_Ci (l : Launch) (E : hm_E) (y : MethodName) (ws : List Cond) (rm : Room) (av : List Value) (M : hm_M) (post : Int32 → hm_M → Prop) : Prop := ∀ sz : Nat, Met l y ws rm (hm_Pc E M sz av) (va_Qi post (hm_B E M sz) (hm_A M sz)) rm.cells rm.slots (hm_A M sz)
abbrev hm_Cl (l : Launch) (E : hm_E) (y : MethodName) (ws : List Cond) (rm : Room) (av : List Value) (M : hm_M) (post : Int64 → hm_M → Prop) : Prop := ∀ sz : Nat, Met l y ws rm (hm_Pc E M sz av) (va_Ql post (hm_B E M sz) (hm_A M sz)) rm.cells rm.slots (hm_A M sz)
abbrev hm_Cr (l : Launch) (E : hm_E) (y : MethodName) (ws : List Cond) (rm : Room) (av : List Value) (M : hm_M) (post : Nat → hm_M → Prop) : Prop := ∀ sz : Nat, Met l y ws rm (hm_Pc E M sz av) (va_Qr (fun _ : hm_M => True) (fun M' a t => post a M' ∧ hm_B E M sz M' t) (hm_A M sz)) rm.cells rm.slots (hm_A M sz)
theorem hm_blind {E : hm_E} {M : hm_M} {sz : Nat} {av : List Value} : FrameBlind (hm_Pc E M sz av) := fun _ U g mk q => by
  obtain ⟨q0, q1, qP, qK⟩ := q
  exact ⟨q0, q1, qP, hm_K.same (u := U) rfl qK⟩
theorem hm_preV {E : hm_E} {M : hm_M} {s : State} {H H0 : Heap} {A : Nat → Prop} {locs : List Loc} {C : String} {b ci : Nat} {fs : List Value} {T : u_T} {N : Nat} {As : List Value} (hK : hm_K E s) (hV : hm_V E.1 vwCl A H0 M H locs) (he : M b = some (.inr (ci, fs))) (hc : vwCl[ci]? = some (C, T, N)) : PreV s H C b (hm_Pc E M H.size (.ref b :: As)) As :=
  ⟨hm_blind, va_recv hK.1 (hm_one hV.1 he) hc (q0 := 0) rfl, fun U hU hW => ⟨rfl, by rw [hU], by rw [hU]; exact hV.1, hm_K.moved hW hK⟩⟩
theorem hm_preS {E : hm_E} {M : hm_M} {s : State} {H H0 : Heap} {A : Nat → Prop} {locs : List Loc} {As : List Value} (hK : hm_K E s) (hV : hm_V E.1 vwCl A H0 M H locs) : PreS s H (hm_Pc E M H.size As) As :=
  ⟨hm_blind, fun U hU hW => ⟨rfl, by rw [hU], by rw [hU]; exact hV.1, hm_K.moved hW hK⟩⟩
theorem hm_sub {D : va_G} {cl : List vw_C} {A : Nat → Prop} {H0 H : Heap} {M : hm_M} {locs : List Loc} (hV : hm_V D cl A H0 M H locs) (hA : ∀ q, H0.size ≤ q → A q) {q : Nat} (h : hm_A M H.size q) : A q := by
  rcases h with ⟨e, h⟩ | h
  · exact hV.2.1 q e h
  · exact hA q (Nat.le_trans hV.2.2.1 h)
section HM2
variable {p : Program} {l : Launch} {e : Env} {R : Room} {s : State} {m : MethodId} {args : Array Value} {below : List Frame} {meth : Method} {c : Code} {H : Heap} {locs : List Loc} {cells slots : Nat} {Q : State → Prop}
variable {pc : Nat} {ls : Array Slot} {rest st0 : List Value} {a : Array Value} {A : Nat → Prop} {H0 : Heap} {mc ms : Nat} {E : hm_E} {M : hm_M}
theorem hm_callv {post : hm_M → Prop} (hr : va_Run p l e R s m args below meth c H locs cells slots mc ms (F0 m pc ls st0) rest (va_Qv post (hm_B E M H.size) (hm_A M H.size) a) (hm_A M H.size)) (hV : hm_V E.1 vwCl A H0 M H locs) (hA : ∀ q, H0.size ≤ q → A q)
    (kk : ∀ (M1 : hm_M) (H1 : Heap) (locs1 : List Loc), post M1 → hm_V E.1 vwCl A H0 M1 H1 locs1 → W p l e R s m args below meth c H1 locs1 (cells + mc) (slots + ms) Q (F0 m (pc + 3) ls rest)) : W p l e R s m args below meth c H locs cells slots Q (F0 m pc ls st0) :=
  va_callv hr hV.2.2 (fun q _ h => hm_sub hV hA h) (fun q h => hm_sub hV hA h) (fun u t H1 locs1 ht _ hp hB _ _ hS => kk u H1 locs1 hp ⟨by rw [← ht]; exact hB.1, fun a e h => hm_sub hV hA (hB.2 a e h), hS⟩)
theorem hm_calli {post : Int32 → hm_M → Prop} (hr : va_Run p l e R s m args below meth c H locs cells slots mc ms (F0 m pc ls st0) rest (va_Qi post (hm_B E M H.size) (hm_A M H.size) a) (hm_A M H.size)) (hV : hm_V E.1 vwCl A H0 M H locs) (hA : ∀ q, H0.size ≤ q → A q)
    (kk : ∀ (r : Int32) (M1 : hm_M) (H1 : Heap) (locs1 : List Loc), post r M1 → hm_V E.1 vwCl A H0 M1 H1 locs1 → W p l e R s m args below meth c H1 locs1 (cells + mc) (slots + ms) Q (F0 m (pc + 3) ls (.int r :: rest))) : W p l e R s m args below meth c H locs cells slots Q (F0 m pc ls st0) :=
  va_calli hr hV.2.2 (fun q _ h => hm_sub hV hA h) (fun q h => hm_sub hV hA h) (fun r u t H1 locs1 ht _ hp hB _ _ hS => kk r u H1 locs1 hp ⟨by rw [← ht]; exact hB.1, fun a e h => hm_sub hV hA (hB.2 a e h), hS⟩)
theorem hm_calll {post : Int64 → hm_M → Prop} (hr : va_Run p l e R s m args below meth c H locs cells slots mc ms (F0 m pc ls st0) rest (va_Ql post (hm_B E M H.size) (hm_A M H.size) a) (hm_A M H.size)) (hV : hm_V E.1 vwCl A H0 M H locs) (hA : ∀ q, H0.size ≤ q → A q)
    (kk : ∀ (r : Int64) (M1 : hm_M) (H1 : Heap) (locs1 : List Loc), post r M1 → hm_V E.1 vwCl A H0 M1 H1 locs1 → W p l e R s m args below meth c H1 locs1 (cells + mc) (slots + ms) Q (F0 m (pc + 3) ls (.long r :: rest))) : W p l e R s m args below meth c H locs cells slots Q (F0 m pc ls st0) :=
  va_calll hr hV.2.2 (fun q _ h => hm_sub hV hA h) (fun q h => hm_sub hV hA h) (fun r u t H1 locs1 ht _ hp hB _ _ hS => kk r u H1 locs1 hp ⟨by rw [← ht]; exact hB.1, fun a e h => hm_sub hV hA (hB.2 a e h), hS⟩)
theorem hm_callr {post : Nat → hm_M → Prop} (hr : va_Run p l e R s m args below meth c H locs cells slots mc ms (F0 m pc ls st0) rest (va_Qr (fun _ : hm_M => True) (fun M' a t => post a M' ∧ hm_B E M H.size M' t) (hm_A M H.size) a) (hm_A M H.size)) (hV : hm_V E.1 vwCl A H0 M H locs) (hA : ∀ q, H0.size ≤ q → A q)
    (kk : ∀ (r : Nat) (M1 : hm_M) (H1 : Heap) (locs1 : List Loc), post r M1 → hm_V E.1 vwCl A H0 M1 H1 locs1 → W p l e R s m args below meth c H1 locs1 (cells + mc) (slots + ms) Q (F0 m (pc + 3) ls (.ref r :: rest))) : W p l e R s m args below meth c H locs cells slots Q (F0 m pc ls st0) :=
  va_callr hr hV.2.2 (fun q _ h => hm_sub hV hA h) (fun q h => hm_sub hV hA h) (fun u r t H1 locs1 ht _ _ hB _ _ hS => kk r u H1 locs1 hB.1 ⟨by rw [← ht]; exact hB.2.1, fun a e h => hm_sub hV hA (hB.2.2 a e h), hS⟩)
end HM2
/-- the start of a body -/
theorem hm_start {E : hm_E} {M : hm_M} {sz : Nat} {av : List Value} {args : Array Value} {s : State} (h : hm_Pc E M sz av args s) : args = av.toArray ∧ hm_A M s.heap.size = hm_A M sz ∧ (∀ q, s.heap.size ≤ q → hm_A M sz q) ∧ hm_K E s ∧ hm_V E.1 vwCl (hm_A M sz) s.heap M s.heap [] := by
  obtain ⟨h0, h1, hP, hK⟩ := h
  subst h1
  exact ⟨h0, rfl, fun q h => Or.inr h, hK, hP, fun a e h => Or.inl ⟨e, h⟩, va_S.rf⟩
/-- and its end -/
theorem hm_end {E : hm_E} {M M1 : hm_M} {sz : Nat} {s t : State} {H : Heap} {locs : List Loc} (hV : hm_V E.1 vwCl (hm_A M sz) s.heap M1 H locs) (ht : t.heap = H) : hm_B E M sz M1 t ∧ va_F (hm_A M sz) s t := ⟨⟨by rw [ht]; exact hV.1, hV.2.1⟩, hV.2.2.F ht⟩
theorem hm_u0 {M : hm_M} {a : Nat} {e e' : va_E} : hm_up (hm_up M a e) a e' = hm_up M a e' := hm_up_up M a e e'
theorem hm_u1 {M : hm_M} {a b : Nat} {e e' x : va_E} (h : b ≠ a) : hm_up (hm_up (hm_up M a e) b x) a e' = hm_up (hm_up M a e') b x := by
  rw [hm_up_comm _ _ _ h, hm_up_up]
theorem hm_u2 {M : hm_M} {a b c : Nat} {e e' x y : va_E} (h : b ≠ a) (h2 : c ≠ a) : hm_up (hm_up (hm_up (hm_up M a e) b x) c y) a e' = hm_up (hm_up (hm_up M a e') b x) c y := by
  rw [hm_up_comm _ _ _ h2, hm_u1 h]
theorem hm_u3 {M : hm_M} {a b c d : Nat} {e e' x y z : va_E} (h : b ≠ a) (h2 : c ≠ a) (h3 : d ≠ a) : hm_up (hm_up (hm_up (hm_up (hm_up M a e) b x) c y) d z) a e' = hm_up (hm_up (hm_up (hm_up M a e') b x) c y) d z := by
  rw [hm_up_comm _ _ _ h3, hm_u2 h h2]
/-- two addresses are apart (a name of its own: omega splits no case over it) -/
def hm_ap (a b : Nat) : Prop := a ≠ b
/-- an object and an array are apart -/
theorem hm_oa {M : hm_M} {a b : Nat} {x : Nat × List Value} {y : ClassId × vp_A} (h1 : M a = some (.inr x)) (h2 : M b = some (.inl y)) : a ≠ b := by
  intro q
  subst q
  rw [h1] at h2
  cases h2
theorem hm_nn {M : hm_M} {a b : Nat} {x : va_E} (h1 : M a = some x) (h2 : M b = none) : a ≠ b := by
  intro q
  subst q
  rw [h1] at h2
  cases h2
section HM3
variable {p : Program} {l : Launch} {e : Env} {R : Room} {s : State} {m : MethodId} {args : Array Value} {below : List Frame} {meth : Method} {c : Code} {H : Heap} {locs : List Loc} {cells slots : Nat} {Q : State → Prop}
variable {cc : ByteArray} {pc : Nat} {ls : Array Slot} {rest : List Value} {D : va_G} {cl : List vw_C} {A : Nat → Prop} {a : Nat} {tys : List (ClassId × FieldType)} {M : hm_M} {H0 : Heap}
theorem hm_gen {rm : Room} {g : JFrame} (hR : R = rm) (k : ∀ Qf : State → Prop, Qf = Q → W p l e rm s m args below meth c H locs cells slots Qf g) : W p l e R s m args below meth c H locs cells slots Q g := by subst hR; exact k Q rfl
theorem hm_topi {x y : Int32} (h : x = y) (k : W p l e R s m args below meth c H locs cells slots Q (F0 m pc ls (.int y :: rest))) : W p l e R s m args below meth c H locs cells slots Q (F0 m pc ls (.int x :: rest)) := by rw [h]; exact k
theorem hm_topl {x y : Int64} (h : x = y) (k : W p l e R s m args below meth c H locs cells slots Q (F0 m pc ls (.long y :: rest))) : W p l e R s m args below meth c H locs cells slots Q (F0 m pc ls (.long x :: rest)) := by rw [h]; exact k
theorem hm_reft {x : Option Nat} {y : Nat} (h : x = some y) (k : W p l e R s m args below meth c H locs cells slots Q (F0 m pc ls (.ref y :: rest))) : W p l e R s m args below meth c H locs cells slots Q (F0 m pc ls (va_rf x :: rest)) := by rw [h]; exact k
theorem hm_ialdN (hexec : p.tables.exec = Jvm.exec) (hb : c.code = cc) (hK : va_K D cl tys s) (hV : hm_V D cl A H0 M H locs) (t0 : Nat) {cA : ClassId} {n : Nat} {f : Nat → Int32} (ha : M a = some (.inl (cA, n, .inl f))) (ht : tys[t0]? = some (cA, .int)) {k : Nat} (hk : k < n) (hn : n < 2 ^ 31) (hdg : decode cc pc = .ok (.iaload, 1))
    (kk : W p l e R s m args below meth c H locs cells slots Q (F0 m (pc + 1) ls (.int (f k) :: rest))) : W p l e R s m args below meth c H locs cells slots Q (F0 m pc ls (.int (nI k) :: .ref a :: rest)) :=
  hm_iald hexec hb hK hV t0 ha ht (vp_in_nI hk hn) hdg (by rw [nI_clamp (Nat.lt_trans hk hn)]; exact kk)
theorem hm_laldN (hexec : p.tables.exec = Jvm.exec) (hb : c.code = cc) (hK : va_K D cl tys s) (hV : hm_V D cl A H0 M H locs) (t0 : Nat) {cA : ClassId} {n : Nat} {f : Nat → Int64} (ha : M a = some (.inl (cA, n, .inr (.inl f)))) (ht : tys[t0]? = some (cA, .long)) {k : Nat} (hk : k < n) (hn : n < 2 ^ 31) (hdg : decode cc pc = .ok (.laload, 1))
    (kk : W p l e R s m args below meth c H locs cells slots Q (F0 m (pc + 1) ls (.long (f k) :: rest))) : W p l e R s m args below meth c H locs cells slots Q (F0 m pc ls (.int (nI k) :: .ref a :: rest)) :=
  hm_lald hexec hb hK hV t0 ha ht (vp_in_nI hk hn) hdg (by rw [nI_clamp (Nat.lt_trans hk hn)]; exact kk)
theorem hm_aldqN (hexec : p.tables.exec = Jvm.exec) (hb : c.code = cc) (hK : va_K D cl tys s) (hV : hm_V D cl A H0 M H locs) (t0 : Nat) {cA : ClassId} {C : String} {n : Nat} {f : Nat → Option Nat} (ha : M a = some (.inl (cA, n, .inr (.inr (.inr (.inr f)))))) (ht : tys[t0]? = some (cA, .object C)) {k : Nat} (hk : k < n) (hn : n < 2 ^ 31) (hdg : decode cc pc = .ok (.aaload, 1))
    (kk : W p l e R s m args below meth c H locs cells slots Q (F0 m (pc + 1) ls (va_rf (f k) :: rest))) : W p l e R s m args below meth c H locs cells slots Q (F0 m pc ls (.int (nI k) :: .ref a :: rest)) :=
  hm_aldq hexec hb hK hV t0 ha ht (vp_in_nI hk hn) hdg (by rw [nI_clamp (Nat.lt_trans hk hn)]; exact kk)
theorem hm_iastN (hexec : p.tables.exec = Jvm.exec) (hb : c.code = cc) (hK : va_K D cl tys s) (hV : hm_V D cl A H0 M H locs) (t0 : Nat) {cA : ClassId} {n : Nat} {f : Nat → Int32} (ha : M a = some (.inl (cA, n, .inl f))) (ht : tys[t0]? = some (cA, .int)) {x : Int32} {k : Nat} (hk : k < n) (hn : n < 2 ^ 31) (hdg : decode cc pc = .ok (.iastore, 1))
    (kk : ∀ (H1 : Heap) (locs1 : List Loc), hm_V D cl A H0 (hm_up M a (.inl (cA, n, .inl (upd f k x)))) H1 locs1 → W p l e R s m args below meth c H1 locs1 cells slots Q (F0 m (pc + 1) ls rest)) : W p l e R s m args below meth c H locs cells slots Q (F0 m pc ls (.int x :: .int (nI k) :: .ref a :: rest)) :=
  hm_iast hexec hb hK hV t0 ha ht (vp_in_nI hk hn) hdg (by rw [nI_clamp (Nat.lt_trans hk hn)]; exact kk)
theorem hm_lastN (hexec : p.tables.exec = Jvm.exec) (hb : c.code = cc) (hK : va_K D cl tys s) (hV : hm_V D cl A H0 M H locs) (t0 : Nat) {cA : ClassId} {n : Nat} {f : Nat → Int64} (ha : M a = some (.inl (cA, n, .inr (.inl f)))) (ht : tys[t0]? = some (cA, .long)) {x : Int64} {k : Nat} (hk : k < n) (hn : n < 2 ^ 31) (hdg : decode cc pc = .ok (.lastore, 1))
    (kk : ∀ (H1 : Heap) (locs1 : List Loc), hm_V D cl A H0 (hm_up M a (.inl (cA, n, .inr (.inl (vp_updL f k x))))) H1 locs1 → W p l e R s m args below meth c H1 locs1 cells slots Q (F0 m (pc + 1) ls rest)) : W p l e R s m args below meth c H locs cells slots Q (F0 m pc ls (.long x :: .int (nI k) :: .ref a :: rest)) :=
  hm_last hexec hb hK hV t0 ha ht (vp_in_nI hk hn) hdg (by rw [nI_clamp (Nat.lt_trans hk hn)]; exact kk)
theorem hm_astqN (hexec : p.tables.exec = Jvm.exec) (hb : c.code = cc) (hK : va_K D cl tys s) (hV : hm_V D cl A H0 M H locs) (t0 ci : Nat) {cA : ClassId} {r : vw_C} {n v : Nat} {vs : List Value} {f : Nat → Option Nat} (ha : M a = some (.inl (cA, n, .inr (.inr (.inr (.inr f)))))) (ht : tys[t0]? = some (cA, .object r.1)) (hv : M v = some (.inr (ci, vs))) (hc : cl[ci]? = some r) {k : Nat} (hk : k < n) (hn : n < 2 ^ 31) (hdg : decode cc pc = .ok (.aastore, 1))
    (kk : ∀ (H1 : Heap) (locs1 : List Loc), hm_V D cl A H0 (hm_up M a (.inl (cA, n, .inr (.inr (.inr (.inr (va_up f k (some v)))))))) H1 locs1 → W p l e R s m args below meth c H1 locs1 cells slots Q (F0 m (pc + 1) ls rest)) : W p l e R s m args below meth c H locs cells slots Q (F0 m pc ls (.ref v :: .int (nI k) :: .ref a :: rest)) :=
  hm_astq hexec hb hK hV t0 ci ha ht hv hc (vp_in_nI hk hn) hdg (by rw [nI_clamp (Nat.lt_trans hk hn)]; exact kk)
theorem hm_zaldN (hexec : p.tables.exec = Jvm.exec) (hb : c.code = cc) (hK : va_K D cl tys s) (hV : hm_V D cl A H0 M H locs) (t0 : Nat) {cA : ClassId} {n : Nat} {f : Nat → Int32} (ha : M a = some (.inl (cA, n, .inl f))) (ht : tys[t0]? = some (cA, .boolean)) {k : Nat} (hk : k < n) (hn : n < 2 ^ 31) (hdg : decode cc pc = .ok (.baload, 1))
    (kk : W p l e R s m args below meth c H locs cells slots Q (F0 m (pc + 1) ls (.int (f k) :: rest))) : W p l e R s m args below meth c H locs cells slots Q (F0 m pc ls (.int (nI k) :: .ref a :: rest)) :=
  va_zald hexec hb hK (hm_one hV.1 ha) 0 t0 rfl ht (vp_in_nI hk hn) hdg (by rw [nI_clamp (Nat.lt_trans hk hn)]; exact kk)
theorem hm_zastN (hexec : p.tables.exec = Jvm.exec) (hb : c.code = cc) (hK : va_K D cl tys s) (hV : hm_V D cl A H0 M H locs) (t0 : Nat) {cA : ClassId} {n : Nat} {f : Nat → Int32} (ha : M a = some (.inl (cA, n, .inl f))) (ht : tys[t0]? = some (cA, .boolean)) {x : Int32} {k : Nat} (hk : k < n) (hn : n < 2 ^ 31) (hz : vp_nar .boolean x = x) (hdg : decode cc pc = .ok (.bastore, 1))
    (kk : ∀ (H1 : Heap) (locs1 : List Loc), hm_V D cl A H0 (hm_up M a (.inl (cA, n, .inl (upd f k x)))) H1 locs1 → W p l e R s m args below meth c H1 locs1 cells slots Q (F0 m (pc + 1) ls rest)) : W p l e R s m args below meth c H locs cells slots Q (F0 m pc ls (.int x :: .int (nI k) :: .ref a :: rest)) := by
  obtain ⟨ws, hP, hD, hi⟩ := hm_list hV
  obtain ⟨q0, hq⟩ := List.getElem?_of_mem ((hi a _).1 ha)
  refine va_zast hexec hb hK hP hD hV.2.2 q0 t0 hq ht (vp_in_nI hk hn) hdg (fun H1 locs1 hP1 hD1 hS1 => kk H1 locs1 ?_)
  rw [nI_clamp (Nat.lt_trans hk hn), hz] at hP1 hD1
  exact hm_of hP1 hD1 hS1 (hm_in_set hi hq)
end HM3
