section HMT
variable {p : Program} {l : Launch} {e : Env} {R : Room} {s : State} {m : MethodId} {args : Array Value} {below : List Frame} {meth : Method} {c : Code} {H : Heap} {locs : List Loc} {cells slots : Nat} {Q : State → Prop}
variable {pc : Nat} {ls : Array Slot} {rest st0 : List Value} {a : Array Value} {A : Nat → Prop} {H0 : Heap} {mc ms : Nat} {E : hm_E} {M N : hm_M} {pth : String → hm_M → Prop}
/-- a call that may throw, and knows one of two worlds -/
theorem hm_ftcalli {post : Int32 → hm_M → Prop} (hr : vx_Run p l e R s m args below meth c H locs cells slots mc ms (F0 m pc ls st0) rest (va_Qi post (hm_B E M H.size) (hm_A M H.size) a) (hm_XQ E M H.size pth) (hm_A M H.size)) (hV : hm_V E.1 vwCl A H0 (hm_j M N) H locs) (hd : hm_dj M N) (hA : ∀ q, H0.size ≤ q → A q)
    (kx : ∀ (Ex : String) (ce : Cell) (q9 : Addr) (M1 : hm_M) (H1 : Heap) (locs1 : List Loc), pth Ex M1 → hm_dj M1 N → hm_V E.1 vwCl A H0 (hm_j M1 N) H1 locs1 → H1[q9]? = some ce → ce.vm = .none → s.vm.findClass Ex = some ce.cls → vx_W p l e R s m args below meth c H1 locs1 (cells + mc) (slots + ms) Q (F0 m pc ls rest) q9)
    (kk : ∀ (r : Int32) (M1 : hm_M) (H1 : Heap) (locs1 : List Loc), post r M1 → hm_dj M1 N → hm_V E.1 vwCl A H0 (hm_j M1 N) H1 locs1 → W p l e R s m args below meth c H1 locs1 (cells + mc) (slots + ms) Q (F0 m (pc + 3) ls (.int r :: rest))) : W p l e R s m args below meth c H locs cells slots Q (F0 m pc ls st0) :=
  vx_calli hr hV.2.2 (fun q _ h => hm_sub (hm_fst hV) hA h) (fun q h => hm_sub (hm_fst hV) hA h) (fun q _ h => hm_sub (hm_fst hV) hA h)
    (fun Ex ce q9 u t H1 locs1 ht _ _ hB _ hk hS h1 h2 h3 => kx Ex ce q9 u H1 locs1 hB.1 (hm_fj hV hA hd ht hB.2 hk hS).1 (hm_fj hV hA hd ht hB.2 hk hS).2 h1 h2 h3)
    (fun r u t H1 locs1 ht _ hp hB _ hk hS => kk r u H1 locs1 hp (hm_fj hV hA hd ht hB hk hS).1 (hm_fj hV hA hd ht hB hk hS).2)
theorem hm_ftcalll {post : Int64 → hm_M → Prop} (hr : vx_Run p l e R s m args below meth c H locs cells slots mc ms (F0 m pc ls st0) rest (va_Ql post (hm_B E M H.size) (hm_A M H.size) a) (hm_XQ E M H.size pth) (hm_A M H.size)) (hV : hm_V E.1 vwCl A H0 (hm_j M N) H locs) (hd : hm_dj M N) (hA : ∀ q, H0.size ≤ q → A q)
    (kx : ∀ (Ex : String) (ce : Cell) (q9 : Addr) (M1 : hm_M) (H1 : Heap) (locs1 : List Loc), pth Ex M1 → hm_dj M1 N → hm_V E.1 vwCl A H0 (hm_j M1 N) H1 locs1 → H1[q9]? = some ce → ce.vm = .none → s.vm.findClass Ex = some ce.cls → vx_W p l e R s m args below meth c H1 locs1 (cells + mc) (slots + ms) Q (F0 m pc ls rest) q9)
    (kk : ∀ (r : Int64) (M1 : hm_M) (H1 : Heap) (locs1 : List Loc), post r M1 → hm_dj M1 N → hm_V E.1 vwCl A H0 (hm_j M1 N) H1 locs1 → W p l e R s m args below meth c H1 locs1 (cells + mc) (slots + ms) Q (F0 m (pc + 3) ls (.long r :: rest))) : W p l e R s m args below meth c H locs cells slots Q (F0 m pc ls st0) :=
  vx_calll hr hV.2.2 (fun q _ h => hm_sub (hm_fst hV) hA h) (fun q h => hm_sub (hm_fst hV) hA h) (fun q _ h => hm_sub (hm_fst hV) hA h)
    (fun Ex ce q9 u t H1 locs1 ht _ _ hB _ hk hS h1 h2 h3 => kx Ex ce q9 u H1 locs1 hB.1 (hm_fj hV hA hd ht hB.2 hk hS).1 (hm_fj hV hA hd ht hB.2 hk hS).2 h1 h2 h3)
    (fun r u t H1 locs1 ht _ hp hB _ hk hS => kk r u H1 locs1 hp (hm_fj hV hA hd ht hB hk hS).1 (hm_fj hV hA hd ht hB hk hS).2)
end HMT
theorem hm_jur {M N : hm_M} {o : Nat} {e0 e : va_E} (hd : hm_dj M N) (ho : N o = some e0) : hm_up (hm_j M N) o e = hm_j M (hm_up N o e) := by
  have hM : M o = none := by
    cases q : M o with
    | none => rfl
    | some x => rw [hd o x q] at ho; cases ho
  funext b
  by_cases q : b = o
  · subst q; simp [hm_up, hm_j, hM]
  · simp [hm_up, hm_j, q]
theorem hm_dju {M N : hm_M} {o : Nat} {e0 e : va_E} (hd : hm_dj M N) (ho : N o = some e0) : hm_dj M (hm_up N o e) := by
  intro a x h
  by_cases q : a = o
  · subst q; rw [hd a x h] at ho; cases ho
  · rw [hm_up_ne _ _ q]; exact hd a x h
theorem hm_Ve {D : va_G} {cl : List vw_C} {A : Nat → Prop} {H0 H : Heap} {M N : hm_M} {locs : List Loc} (h : M = N) (hV : hm_V D cl A H0 M H locs) : hm_V D cl A H0 N H locs := by rw [← h]; exact hV
theorem kp_n {cnt c1 : Nat} {Z nums n1 : Nat → Int} {oz : Option Int} {r : Int32} (h : kp cnt Z oz r c1 n1) (hz : ∀ j, j < cnt → Z j = nums j) : kp cnt nums oz r c1 n1 := by
  rcases h with ⟨y, a1, a2, a3, a4, a5, a6, a7⟩ | ⟨a1, a2, a3, a4⟩
  · exact Or.inl ⟨y, a1, a2, a3, a4, a5, a6, fun j hj => (a7 j hj).trans (hz j hj)⟩
  · exact Or.inr ⟨a1, a2, a3, fun j hj => (a4 j hj).trans (hz j hj)⟩
theorem xp_n {E : hm_E} {M : hm_M} {x cnt : Nat} {Z nums : Nat → Int} {t : Nat → Nat → Int64} (h : xp E M x cnt Z t) (hz : ∀ j, j < cnt → Z j = nums j) : xp E M x cnt nums t := by
  obtain ⟨A, ad, rw, el, z, h1, h2, h3⟩ := h
  exact ⟨A, ad, rw, el, z, h1, h2, fun j hj => (h3 j hj).trans (hz j hj)⟩
theorem kw_307 : Cond.codeWith yL_add cL_add 5 (some .int) [(0, 10, 13, 13)] ∈ hm_ws := List.mem_filter.mpr ⟨List.mem_of_getElem? (i := 307) rfl, rfl⟩
theorem kw_397 : Cond.codeWith yL_times cL_times 5 (some .int) [(0, 10, 13, 13)] ∈ hm_ws := List.mem_filter.mpr ⟨List.mem_of_getElem? (i := 397) rfl, rfl⟩
set_option maxRecDepth 100000 in
theorem kw_405 : Cond.codeWith yL_over cL_over 5 (some .int) [(0, 10, 13, 13), (0, 10, 17, 21)] ∈ hm_ws := List.mem_filter.mpr ⟨List.mem_of_getElem? (i := 405) rfl, rfl⟩
set_option maxRecDepth 100000 in
theorem kw_431 : Cond.codeWith yL_power cL_power 5 (some .int) [(0, 10, 13, 13)] ∈ hm_ws := List.mem_filter.mpr ⟨List.mem_of_getElem? (i := 431) rfl, rfl⟩
set_option maxRecDepth 100000 in
theorem kw_440 : Cond.codeWith yL_order cL_order 5 (some .int) [(0, 10, 13, 13)] ∈ hm_ws := List.mem_filter.mpr ⟨List.mem_of_getElem? (i := 440) rfl, rfl⟩
set_option maxRecDepth 100000 in
theorem kw_448 : Cond.codeWith yL_digit cL_digit 5 (some .int) [(0, 10, 13, 13)] ∈ hm_ws := List.mem_filter.mpr ⟨List.mem_of_getElem? (i := 448) rfl, rfl⟩
set_option maxRecDepth 100000 in
theorem kw_462 : Cond.codeWith yL_residue cL_residue 6 (some .int) [(0, 10, 13, 13), (0, 10, 17, 21)] ∈ hm_ws := List.mem_filter.mpr ⟨List.mem_of_getElem? (i := 462) rfl, rfl⟩
