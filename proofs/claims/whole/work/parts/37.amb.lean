/-! what the makers of arrays and the throwers ask beside: classes of arrays, the throwables' statics, texts, words that the tables alone decide -/
def va_AOA (t : FieldType) (U : State) : Prop := (Cond.arrayOver (.array t)).before #[] U = true
theorem va_AOA.use {t : FieldType} {A : Array Value} {U : State} (h : va_AOA t U) : (Cond.arrayOver (.array t)).before A U = true := h
theorem va_AOA.moved {t : FieldType} {u U : State} (hvm : u.vm.Alike U.vm) (h : va_AOA t u) : va_AOA t U := over_moved (a := #[]) (a' := #[]) hvm h
def xAI : String := "java/lang/ArrayIndexOutOfBoundsException"
def xAR : String := "java/lang/ArithmeticException"
def hm_dw : List String := ["java/lang/IndexOutOfBoundsException", "java/lang/RuntimeException", "java/lang/Exception", "java/lang/Throwable"]
def hm_st : List (Nat × String) := [(137, "no number has this handle"), (78, "the divisor is 0"), (116, "no such digit"), (131, "the modulus is 0")]
def hm_Y (A : Nat → Prop) (U : State) : Prop :=
  (va_AO RX2 U ∧ va_AOA .long U) ∧ (vx_Zq Bundle.tN "UNASSIGNED_STACK" Bundle.steD A U U.heap ∧ vx_Zq Bundle.tN "SUPPRESSED_SENTINEL" Bundle.listD A U U.heap) ∧ (∀ n ∈ hm_dw, va_Nw (.declares (Bundle.initS n)) U) ∧ (va_Nw (.castable xAI xAI) U ∧ va_Nw (.castable xAR xAR) U) ∧ (∀ q ∈ hm_st, ∃ a, vk_R RX3 q.1 q.2 a U) ∧ va_Nc xAR xAI U
theorem hm_Y.go {A B : Nat → Prop} {s U : State} {H : Heap} {locs : List Loc} (hW : s.WarmedH U.vm) (hU : U.heap = H) (hS : va_S A s.heap H locs) (hAB : ∀ q, B q → A q) (h : hm_Y A s) : hm_Y B U := by
  obtain ⟨⟨h1, h2⟩, ⟨h3, h4⟩, h5, ⟨h6, h7⟩, h8, h9⟩ := h
  refine ⟨⟨va_AO.moved hW.alike h1, va_AOA.moved hW.alike h2⟩, ⟨?_, ?_⟩, fun n hn => va_tabs rfl (rfl : (s.setVm U.vm).vm = U.vm) (by rw [Cond.declares_setVm hW.alike]; exact h5 n hn), ⟨va_Nw.warmC hW h6, va_Nw.warmC hW h7⟩, fun q hq => ?_, va_Nc.moved hW.alike h9⟩
  · rw [hU]; exact ((h3.kept hS.2.1).moved hW.alike).narrow hAB
  · rw [hU]; exact ((h4.kept hS.2.1).moved hW.alike).narrow hAB
  · obtain ⟨a, ha⟩ := h8 q hq
    exact ⟨a, vk_R.warm hW ha⟩
theorem hm_Y.same {A : Nat → Prop} {u U : State} (hv : u.vm = U.vm) (hh : u.heap = U.heap) (h : hm_Y A u) : hm_Y A U := by
  have hW : u.WarmedH U.vm := by rw [← hv]; exact State.WarmedH.refl u
  exact hm_Y.go hW hh.symm (H := u.heap) (locs := []) va_S.rf (fun _ q => q) h
def hm_PcX (E : hm_E) (M : hm_M) (sz : Nat) (av : List Value) : Array Value → State → Prop := va_Pc av (fun U => U.heap.size = sz ∧ hm_P E.1 vwCl M U.heap ∧ hm_K E U ∧ hm_Y (hm_A M sz) U)
def hm_XQ (E : hm_E) (M : hm_M) (sz : Nat) (pth : String → hm_M → Prop) : String → State → State → Prop := vx_X (S := hm_M) (fun _ => True) (fun Ex M1 t => pth Ex M1 ∧ hm_B E M sz M1 t) (hm_A M sz)
abbrev hm_XCv (l : Launch) (E : hm_E) (y : MethodName) (ws : List Cond) (rm : Room) (av : List Value) (M : hm_M) (post : hm_M → Prop) : Prop := ∀ sz : Nat, Met l y ws rm (hm_PcX E M sz av) (va_Qv post (hm_B E M sz) (hm_A M sz)) rm.cells rm.slots (hm_A M sz)
abbrev hm_XCi (l : Launch) (E : hm_E) (y : MethodName) (ws : List Cond) (rm : Room) (av : List Value) (M : hm_M) (post : Int32 → hm_M → Prop) : Prop := ∀ sz : Nat, Met l y ws rm (hm_PcX E M sz av) (va_Qi post (hm_B E M sz) (hm_A M sz)) rm.cells rm.slots (hm_A M sz)
abbrev hm_TCi (l : Launch) (E : hm_E) (y : MethodName) (ws : List Cond) (rm : Room) (av : List Value) (M : hm_M) (post : Int32 → hm_M → Prop) (pth : String → hm_M → Prop) : Prop := ∀ sz : Nat, vx_Met l y ws rm (hm_PcX E M sz av) (va_Qi post (hm_B E M sz) (hm_A M sz)) (hm_XQ E M sz pth) rm.cells rm.slots (hm_A M sz)
abbrev hm_TCl (l : Launch) (E : hm_E) (y : MethodName) (ws : List Cond) (rm : Room) (av : List Value) (M : hm_M) (post : Int64 → hm_M → Prop) (pth : String → hm_M → Prop) : Prop := ∀ sz : Nat, vx_Met l y ws rm (hm_PcX E M sz av) (va_Ql post (hm_B E M sz) (hm_A M sz)) (hm_XQ E M sz pth) rm.cells rm.slots (hm_A M sz)
abbrev hm_TCr (l : Launch) (E : hm_E) (y : MethodName) (ws : List Cond) (rm : Room) (av : List Value) (M : hm_M) (post : Nat → hm_M → Prop) (pth : String → hm_M → Prop) : Prop := ∀ sz : Nat, vx_Met l y ws rm (hm_PcX E M sz av) (va_Qr (fun _ : hm_M => True) (fun M' a t => post a M' ∧ hm_B E M sz M' t) (hm_A M sz)) (hm_XQ E M sz pth) rm.cells rm.slots (hm_A M sz)
theorem hm_blindX {E : hm_E} {M : hm_M} {sz : Nat} {av : List Value} : FrameBlind (hm_PcX E M sz av) := fun _ U g mk q => by
  obtain ⟨q0, q1, qP, qK, qY⟩ := q
  exact ⟨q0, q1, qP, hm_K.same (u := U) rfl qK, hm_Y.same (u := U) rfl rfl qY⟩
theorem hm_subY {E : hm_E} {M : hm_M} {s U : State} {H : Heap} {A : Nat → Prop} {locs : List Loc} (hV : hm_V E.1 vwCl A s.heap M H locs) (hA : ∀ q, s.heap.size ≤ q → A q) (hY : hm_Y A s) (hU : U.heap = H) (hW : s.WarmedH U.vm) : hm_Y (hm_A M H.size) U := hm_Y.go hW hU hV.2.2 (fun _ h => hm_sub hV hA h) hY
theorem hm_preVX {E : hm_E} {M : hm_M} {s : State} {H : Heap} {A : Nat → Prop} {locs : List Loc} {C : String} {b ci : Nat} {fs : List Value} {T : u_T} {N : Nat} {As : List Value} (hK : hm_K E s) (hV : hm_V E.1 vwCl A s.heap M H locs) (hA : ∀ q, s.heap.size ≤ q → A q) (hY : hm_Y A s) (he : M b = some (.inr (ci, fs))) (hc : vwCl[ci]? = some (C, T, N)) : PreV s H C b (hm_PcX E M H.size (.ref b :: As)) As :=
  ⟨hm_blindX, va_recv hK.1 (hm_one hV.1 he) hc (q0 := 0) rfl, fun U hU hW => ⟨rfl, by rw [hU], by rw [hU]; exact hV.1, hm_K.moved hW hK, hm_subY hV hA hY hU hW⟩⟩
theorem hm_preSX {E : hm_E} {M : hm_M} {s : State} {H : Heap} {A : Nat → Prop} {locs : List Loc} {As : List Value} (hK : hm_K E s) (hV : hm_V E.1 vwCl A s.heap M H locs) (hA : ∀ q, s.heap.size ≤ q → A q) (hY : hm_Y A s) : PreS s H (hm_PcX E M H.size As) As :=
  ⟨hm_blindX, fun U hU hW => ⟨rfl, by rw [hU], by rw [hU]; exact hV.1, hm_K.moved hW hK, hm_subY hV hA hY hU hW⟩⟩
theorem hm_startX {E : hm_E} {M : hm_M} {sz : Nat} {av : List Value} {args : Array Value} {s : State} (h : hm_PcX E M sz av args s) : args = av.toArray ∧ hm_A M s.heap.size = hm_A M sz ∧ (∀ q, s.heap.size ≤ q → hm_A M sz q) ∧ hm_K E s ∧ hm_V E.1 vwCl (hm_A M sz) s.heap M s.heap [] ∧ hm_Y (hm_A M sz) s := by
  obtain ⟨h0, h1, hP, hK, hY⟩ := h
  subst h1
  exact ⟨h0, rfl, fun q h => Or.inr h, hK, ⟨hP, fun a e h => Or.inl ⟨e, h⟩, va_S.rf⟩, hY⟩
section VXR
variable {p : Program} {l : Launch} {e : Env} {R : Room} {s : State} {m : MethodId} {args : Array Value} {below : List Frame} {meth : Method} {c : Code} {H : Heap} {locs : List Loc} {cells slots : Nat} {Q : State → Prop}
variable {mc ms : Nat} {free : Addr → Prop} {A0 A1 : Nat → Prop} {H0 : Heap} {a : Array Value} {pc : Nat} {ls : Array Slot} {st0 rest : List Value}
theorem vx_callr {S SX : Type} {post : S → Prop} {px : SX → Prop} {B : S → Nat → State → Prop} {BX : String → SX → State → Prop} {AX : Nat → Prop} (hr : vx_Run p l e R s m args below meth c H locs cells slots mc ms (F0 m pc ls st0) rest (va_Qr post B A1 a) (vx_X px BX AX) free) (hS : va_S A0 H0 H locs) (hA : ∀ q, q < H.size → A1 q → A0 q) (hf : ∀ q, free q → A0 q) (hAX : ∀ q, q < H.size → AX q → A0 q)
    (kx : ∀ (E : String) (ce : Cell) (q9 : Addr) (u : SX) (t : State) (H1 : Heap) (locs1 : List Loc), t.heap = H1 → s.vm.Alike t.vm → px u → BX E u t → H.size ≤ H1.size → (∀ q : Nat, q < H.size → ¬ AX q → H1[q]? = H[q]?) → va_S A0 H0 H1 locs1 → H1[q9]? = some ce → ce.vm = .none → s.vm.findClass E = some ce.cls → vx_W p l e R s m args below meth c H1 locs1 (cells + mc) (slots + ms) Q (F0 m pc ls rest) q9)
    (kk : ∀ (u : S) (r : Nat) (t : State) (H1 : Heap) (locs1 : List Loc), t.heap = H1 → s.vm.Alike t.vm → post u → B u r t → H.size ≤ H1.size → (∀ q : Nat, q < H.size → ¬ A1 q → H1[q]? = H[q]?) → va_S A0 H0 H1 locs1 → W p l e R s m args below meth c H1 locs1 (cells + mc) (slots + ms) Q (F0 m (pc + 3) ls (.ref r :: rest))) : W p l e R s m args below meth c H locs cells slots Q (F0 m pc ls st0) := by
  intro T hT X
  rcases hr T hT X with ⟨v, st₀, t, T', L, h0, X', hL, e1, e2, ⟨⟨u, r, hv, hp, hb⟩, hF⟩, st⟩ | ⟨q, st₀, t, T', L, E, ce, h0, X', hL, e1, e2, ⟨u, hp, hb, hF⟩, hce, hcv, hcl, st⟩
  · cases hv
    obtain ⟨k1, k2, k3⟩ := vx_keep h0 e1 hS hA hf hL hF
    obtain ⟨t2, a1, b1⟩ := kk u r t T'.heap (locs ++ L) e1.symm (by rw [← e2]; exact X'.warmed.alike) hp hb k1 k2 k3 T' rfl X'
    exact ⟨t2, st t2 a1, b1⟩
  · obtain ⟨k1, k2, k3⟩ := vx_keep h0 e1 hS hAX hf hL hF
    obtain ⟨t2, a1, b1⟩ := kx E ce q u t T'.heap (locs ++ L) e1.symm (by rw [← e2]; exact X'.warmed.alike) hp hb k1 k2 k3 (by rw [e1]; exact hce) hcv hcl T' rfl X'
    exact ⟨t2, st.trans a1, b1⟩
variable {E : hm_E} {M : hm_M} {A : Nat → Prop} {pth : String → hm_M → Prop}
/-- a call that may throw -/
theorem hm_tcallr {post : Nat → hm_M → Prop} (hr : vx_Run p l e R s m args below meth c H locs cells slots mc ms (F0 m pc ls st0) rest (va_Qr (fun _ : hm_M => True) (fun M' a t => post a M' ∧ hm_B E M H.size M' t) (hm_A M H.size) a) (hm_XQ E M H.size pth) (hm_A M H.size)) (hV : hm_V E.1 vwCl A H0 M H locs) (hA : ∀ q, H0.size ≤ q → A q)
    (kx : ∀ (Ex : String) (ce : Cell) (q9 : Addr) (M1 : hm_M) (H1 : Heap) (locs1 : List Loc), pth Ex M1 → hm_V E.1 vwCl A H0 M1 H1 locs1 → H1[q9]? = some ce → ce.vm = .none → s.vm.findClass Ex = some ce.cls → vx_W p l e R s m args below meth c H1 locs1 (cells + mc) (slots + ms) Q (F0 m pc ls rest) q9)
    (kk : ∀ (r : Nat) (M1 : hm_M) (H1 : Heap) (locs1 : List Loc), post r M1 → hm_V E.1 vwCl A H0 M1 H1 locs1 → W p l e R s m args below meth c H1 locs1 (cells + mc) (slots + ms) Q (F0 m (pc + 3) ls (.ref r :: rest))) : W p l e R s m args below meth c H locs cells slots Q (F0 m pc ls st0) :=
  vx_callr hr hV.2.2 (fun q _ h => hm_sub hV hA h) (fun q h => hm_sub hV hA h) (fun q _ h => hm_sub hV hA h)
    (fun Ex ce q9 u t H1 locs1 ht _ _ hB _ _ hS h1 h2 h3 => kx Ex ce q9 u H1 locs1 hB.1 ⟨by rw [← ht]; exact hB.2.1, fun a e h => hm_sub hV hA (hB.2.2 a e h), hS⟩ h1 h2 h3)
    (fun u r t H1 locs1 ht _ _ hB _ _ hS => kk r u H1 locs1 hB.1 ⟨by rw [← ht]; exact hB.2.1, fun a e h => hm_sub hV hA (hB.2.2 a e h), hS⟩)
end VXR
/-- not caught: out with what the caller promises of a throw -/
theorem hm_tout {p : Program} {l : Launch} {e : Env} {R : Room} {s : State} {m : MethodId} {args : Array Value} {below : List Frame} {meth : Method} {c : Code} {H : Heap} {locs : List Loc} {cells slots sz mc ms pc : Nat} {E : hm_E} {M M1 : hm_M} {Qc : Array Value → State → Outcome → State → Prop} {pth : String → hm_M → Prop} {Ex : String} {ce : Cell} {q9 : Addr} {ls : Array Slot} {rest : List Value}
    (ht : ∀ x ∈ c.exceptionTable.toList, False) (hlocks : meth.locks = false) (hV : hm_V E.1 vwCl (hm_A M sz) s.heap M1 H locs) (hp : pth Ex M1) (h1 : H[q9]? = some ce) (h2 : ce.vm = .none) (h3 : s.vm.findClass Ex = some ce.cls) (hc : cells ≤ mc) (hs : slots ≤ ms) :
    vx_W p l e R s m args below meth c H locs cells slots (vx_MQ below Qc (hm_XQ E M sz pth) args s mc ms (hm_A M sz)) (F0 m pc ls rest) q9 :=
  vx_out (fun x hx => (ht x hx).elim) hlocks h1 h2 h3 (fun t hh _ => ⟨M1, trivial, ⟨hp, (hm_end hV hh).1⟩, (hm_end hV hh).2⟩) hV.2.2.2.2 hc hs
/-! the words of a throw -/
abbrev hm_nAI : List String := ["java/lang/IndexOutOfBoundsException", "java/lang/RuntimeException", "java/lang/Exception"]
abbrev hm_nAR : List String := ["java/lang/RuntimeException", "java/lang/Exception"]
