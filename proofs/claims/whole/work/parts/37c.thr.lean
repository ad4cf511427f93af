section THR
variable {p : Program} {l : Launch} {e : Env} {R : Room} {s : State} {m : MethodId} {args : Array Value} {below : List Frame} {meth : Method} {c : Code} {H : Heap} {locs : List Loc} {cells slots : Nat} {Qc : Array Value → State → Outcome → State → Prop}
variable {cc : ByteArray} {pc : Nat} {ls : Array Slot} {rest : List Value} {M M1 : hm_M} {E : hm_E} {sz mc ms : Nat} {pth : String → hm_M → Prop} {is : Nat} {text : String}
theorem hm_thx {Ex : String} (hV : hm_V E.1 vwCl (hm_A M sz) s.heap M1 H locs) (hp : pth Ex M1) : ∀ t : State, s.vm.Alike t.vm → H.size ≤ t.heap.size → (∀ q : Nat, q < H.size → t.heap[q]? = H[q]?) → hm_XQ E M sz pth Ex s t := fun t _ h2 h3 =>
  ⟨M1, trivial, ⟨hp, fun a e h => (hV.1 a e h).kept (h3 a (hV.1 a e h).lt), hV.2.1⟩, Nat.le_trans hV.2.2.1 h2, fun q h4 h5 => by rw [h3 q (Nat.lt_of_lt_of_le h4 hV.2.2.1)]; exact hV.2.2.2.1 q h4 h5⟩
theorem hm_thrAI (hexec : p.tables.exec = Jvm.exec) (hb : c.code = cc) (hl : l.stackTraces = false) (hown : s.vm.findClass RX3 = some m.cls) (hws : ∀ w ∈ hm_ws, w.before args s = true) (hY : hm_Y (hm_A M sz) s) (hV : hm_V E.1 vwCl (hm_A M sz) s.heap M1 H locs) (hst : (is, text) ∈ hm_st) (hsize : ls.size = c.maxLocals)
    (d0 : decode cc pc = .ok (.new 114, 3)) (d3 : decode cc (pc + 3) = .ok (.dup, 1)) (d4 : decode cc (pc + 4) = .ok (.ldc is, 2)) (d6 : decode cc (pc + 6) = .ok (.invokespecial 118, 3)) (d9 : decode cc (pc + 9) = .ok (.athrow, 1)) (ht : ∀ x ∈ c.exceptionTable.toList, False)
    (hRf : 6 < R.frames) (hRl : (rest.map fun v => v.category).sum + 95 ≤ R.locals) (hRc : cells + 1 ≤ R.cells) (hRs : slots + 6 ≤ R.slots) (hlocks : meth.locks = false) (hp : pth xAI M1) (hc : cells + 1 ≤ mc) (hs : slots + 6 ≤ ms) :
    W p l e R s m args below meth c H locs cells slots (vx_MQ below Qc (hm_XQ E M sz pth) args s mc ms (hm_A M sz)) (F0 m pc ls rest) := by
  obtain ⟨sa, hsa⟩ := hY.2.2.2.2.1 _ hst
  exact vx_throwS (names := hm_nAI) (A := hm_A M sz) hexec hb hl hown (by decide) (by decide) (hws _ hm_k114) (hws _ hm_kAI) hsa (hm_wAI hws hY) hm_aAI3 hY.2.1.1 hY.2.1.2 hV.2.2 hsize d0 d3 d4 d6 d9 (fun x hx => (ht x hx).elim) hRf hRl hRc hRs hlocks (hm_thx hV hp) hV.2.2.2.2 hc hs
theorem hm_thrAR (hexec : p.tables.exec = Jvm.exec) (hb : c.code = cc) (hl : l.stackTraces = false) (hown : s.vm.findClass RX3 = some m.cls) (hws : ∀ w ∈ hm_ws, w.before args s = true) (hY : hm_Y (hm_A M sz) s) (hV : hm_V E.1 vwCl (hm_A M sz) s.heap M1 H locs) (hst : (is, text) ∈ hm_st) (hsize : ls.size = c.maxLocals)
    (d0 : decode cc pc = .ok (.new 76, 3)) (d3 : decode cc (pc + 3) = .ok (.dup, 1)) (d4 : decode cc (pc + 4) = .ok (.ldc is, 2)) (d6 : decode cc (pc + 6) = .ok (.invokespecial 80, 3)) (d9 : decode cc (pc + 9) = .ok (.athrow, 1)) (ht : ∀ x ∈ c.exceptionTable.toList, False)
    (hRf : 6 < R.frames) (hRl : (rest.map fun v => v.category).sum + 95 ≤ R.locals) (hRc : cells + 1 ≤ R.cells) (hRs : slots + 6 ≤ R.slots) (hlocks : meth.locks = false) (hp : pth xAR M1) (hc : cells + 1 ≤ mc) (hs : slots + 6 ≤ ms) :
    W p l e R s m args below meth c H locs cells slots (vx_MQ below Qc (hm_XQ E M sz pth) args s mc ms (hm_A M sz)) (F0 m pc ls rest) := by
  obtain ⟨sa, hsa⟩ := hY.2.2.2.2.1 _ hst
  exact vx_throwS (names := hm_nAR) (A := hm_A M sz) hexec hb hl hown (by decide) (by decide) (hws _ hm_k76) (hws _ hm_kAR) hsa (hm_wAR hws hY) hm_aAR3 hY.2.1.1 hY.2.1.2 hV.2.2 hsize d0 d3 d4 d6 d9 (fun x hx => (ht x hx).elim) (Nat.lt_trans (by decide) hRf) (Nat.le_trans (Nat.add_le_add_left (by decide) _) hRl) hRc hRs hlocks (hm_thx hV hp) hV.2.2.2.2 hc hs
end THR
/-! the object by its numbers -/
def xp (E : hm_E) (M : hm_M) (x cnt : Nat) (nums : Nat → Int) (t : Nat → Nat → Int64) : Prop := ∃ (A ad rw : Nat → Nat) (el : Bool) (z : Nat → Int), A 0 = x ∧ xw E M A ad rw cnt el z t ∧ ∀ j, j < cnt → z (200 + j) = nums j
theorem xp_of {E : hm_E} {M : hm_M} {A ad rw : Nat → Nat} {cnt : Nat} {el : Bool} {z z0 : Nat → Int} {t : Nat → Nat → Int64} (hk : xw E M A ad rw cnt el z t) (h : ∀ i, 200 ≤ i → z i = z0 i) : xp E M (A 0) cnt (fun j => z0 (200 + j)) t := ⟨A, ad, rw, el, z, rfl, hk, fun j _ => h _ (by omega)⟩
theorem hm_nrm {M : hm_M} {q r : Nat} {a b x d : va_E} (h : r ≠ q) : hm_up (hm_up (hm_up (hm_up M q a) r b) r x) q d = hm_up (hm_up M r x) q d := by
  rw [hm_up_up, hm_up_comm _ _ _ (Ne.symm h), hm_up_up]
theorem wn_bd {n k : Nat} {d : Nat → Nat} {g : Int32} {z : Int} (h : wn_ok n d k g z) : k ≤ 64 ↔ z.natAbs < bigN := by rw [← bigN_25]; exact wn_len h
