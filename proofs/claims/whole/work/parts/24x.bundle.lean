/-! the object's picture: its own cells, the divider's rows, the table, and its numbers by place (0 result, 1 spare, 2 first, 3 second, 4 .. 147 cells, 200 and on: those that are kept) -/
def wn_cp (i n : Nat) : Prop := (i < 4 → n = 65) ∧ (4 ≤ i → i < 200 → n = 34) ∧ (200 ≤ i → n ≤ 64)
def wn_at (E : hm_E) (M : hm_M) (w la i : Nat) (z : Int) : Prop := ∃ (n : Nat) (d : Nat → Nat) (k : Nat) (g : Int32), wn_cp i n ∧ M w = some (hm_W la (nI k) g) ∧ M la = some (hm_I E n (fun j => nI (d j))) ∧ wn_ok n d k g z
def xi (el : Bool) (cnt i : Nat) : Prop := i < 2 ∨ (el = true ∧ i < 148) ∨ (200 ≤ i ∧ i < 200 + cnt)
def xw_obj (E : hm_E) (M : hm_M) (A ad : Nat → Nat) (cnt : Nat) (el : Bool) (t : Nat → Nat → Int64) : Prop := M (A 0) = some (.inr (5, [.ref (A 1), .int (nI cnt), .ref (A 2), .ref (ad 0), .ref (ad 1), .ref (A 3), if el = true then .ref (A 6) else .null])) ∧ M (A 1) = some (hm_Q E 160 (fun j => if j < cnt then some (ad (200 + j)) else none)) ∧ M (A 2) = some (hm_QJ E 12 (fun j => some (A (8 + j)))) ∧ (∀ j, j < 12 → M (A (8 + j)) = some (hm_J E 12 (t j))) ∧ (∀ i j, i < 12 → j < 12 → i ≠ j → hm_ap (A (8 + i)) (A (8 + j))) ∧ cnt ≤ 160
def xw_dv (E : hm_E) (M : hm_M) (A : Nat → Nat) : Prop := M (A 3) = some (.inr (2, [.ref (A 4), .ref (A 5)])) ∧ (∃ r : Nat → Nat, (∀ j, j < 66 → r j < 33554432) ∧ M (A 4) = some (hm_I E 66 (fun j => nI (r j)))) ∧ (∃ v : Nat → Nat, (∀ j, j < 66 → v j < 33554432) ∧ M (A 5) = some (hm_I E 66 (fun j => nI (v j)))) ∧ hm_ap (A 5) (A 4)
def xw_el (E : hm_E) (M : hm_M) (A ad : Nat → Nat) (el : Bool) : Prop := el = true → M (A 6) = some (.inr (3, [.ref (A 7), .ref (ad 2), .ref (ad 3), .ref (A 3)])) ∧ M (A 7) = some (hm_Q E 144 (fun j => if j < 144 then some (ad (4 + j)) else none))
def xw_nu (E : hm_E) (M : hm_M) (ad rw : Nat → Nat) (cnt : Nat) (el : Bool) (z : Nat → Int) : Prop := ∀ i, xi el cnt i → wn_at E M (ad i) (rw i) i (z i)
def xw_ap (A ad rw : Nat → Nat) (cnt : Nat) (el : Bool) : Prop := (∀ i j, xi el cnt i → xi el cnt j → i ≠ j → hm_ap (ad i) (ad j) ∧ hm_ap (rw i) (rw j)) ∧ ∀ i, xi el cnt i → hm_ap (rw i) (A 4) ∧ hm_ap (rw i) (A 5)
def xw (E : hm_E) (M : hm_M) (A ad rw : Nat → Nat) (cnt : Nat) (el : Bool) (z : Nat → Int) (t : Nat → Nat → Int64) : Prop := xw_obj E M A ad cnt el t ∧ xw_dv E M A ∧ xw_el E M A ad el ∧ xw_nu E M ad rw cnt el z ∧ xw_ap A ad rw cnt el
section XW
variable {E : hm_E} {M M1 : hm_M} {A ad rw : Nat → Nat} {cnt : Nat} {el : Bool} {z : Nat → Int} {t : Nat → Nat → Int64}
theorem hm_cc {a b : Nat} {x y : va_E} (h1 : M a = some x) (h2 : M b = some y) (h : x ≠ y) : a ≠ b := by
  intro q
  subst q
  rw [h1] at h2
  exact h (Option.some.inj h2)
theorem hm_two {a w la : Nat} {c x y : va_E} (h : M a = some c) (h1 : a ≠ w) (h2 : a ≠ la) : hm_up (hm_up M la x) w y a = some c := by
  rw [hm_up_ne _ _ h1, hm_up_ne _ _ h2]; exact h
theorem xw_x (hk : xw E M A ad rw cnt el z t) : M (A 0) = some (.inr (5, [.ref (A 1), .int (nI cnt), .ref (A 2), .ref (ad 0), .ref (ad 1), .ref (A 3), if el = true then .ref (A 6) else .null])) := hk.1.1
theorem xw_xt (hk : xw E M A ad rw cnt true z t) : M (A 0) = some (.inr (5, [.ref (A 1), .int (nI cnt), .ref (A 2), .ref (ad 0), .ref (ad 1), .ref (A 3), .ref (A 6)])) := hk.1.1
theorem xw_xf (hk : xw E M A ad rw cnt false z t) : M (A 0) = some (.inr (5, [.ref (A 1), .int (nI cnt), .ref (A 2), .ref (ad 0), .ref (ad 1), .ref (A 3), .null])) := hk.1.1
theorem xw_na (hk : xw E M A ad rw cnt el z t) : M (A 1) = some (hm_Q E 160 (fun j => if j < cnt then some (ad (200 + j)) else none)) := hk.1.2.1
theorem xw_ta (hk : xw E M A ad rw cnt el z t) : M (A 2) = some (hm_QJ E 12 (fun j => some (A (8 + j)))) := hk.1.2.2.1
theorem xw_tr (hk : xw E M A ad rw cnt el z t) {j : Nat} (hj : j < 12) : M (A (8 + j)) = some (hm_J E 12 (t j)) := hk.1.2.2.2.1 j hj
theorem xw_cn (hk : xw E M A ad rw cnt el z t) : cnt ≤ 160 := hk.1.2.2.2.2.2
theorem xw_d (hk : xw E M A ad rw cnt el z t) : M (A 3) = some (.inr (2, [.ref (A 4), .ref (A 5)])) := hk.2.1.1
theorem xw_e (hk : xw E M A ad rw cnt true z t) : M (A 6) = some (.inr (3, [.ref (A 7), .ref (ad 2), .ref (ad 3), .ref (A 3)])) := (hk.2.2.1 rfl).1
theorem xw_ce (hk : xw E M A ad rw cnt true z t) : M (A 7) = some (hm_Q E 144 (fun j => if j < 144 then some (ad (4 + j)) else none)) := (hk.2.2.1 rfl).2
theorem xw_at (hk : xw E M A ad rw cnt el z t) {i : Nat} (hi : xi el cnt i) : wn_at E M (ad i) (rw i) i (z i) := hk.2.2.2.1 i hi
theorem xw_aa (hk : xw E M A ad rw cnt el z t) {i j : Nat} (hi : xi el cnt i) (hj : xi el cnt j) (h : i ≠ j) : hm_ap (ad i) (ad j) := (hk.2.2.2.2.1 i j hi hj h).1
theorem xw_rr (hk : xw E M A ad rw cnt el z t) {i j : Nat} (hi : xi el cnt i) (hj : xi el cnt j) (h : i ≠ j) : hm_ap (rw i) (rw j) := (hk.2.2.2.2.1 i j hi hj h).2
theorem xw_r4 (hk : xw E M A ad rw cnt el z t) {i : Nat} (hi : xi el cnt i) : hm_ap (rw i) (A 4) := (hk.2.2.2.2.2 i hi).1
theorem xw_r5 (hk : xw E M A ad rw cnt el z t) {i : Nat} (hi : xi el cnt i) : hm_ap (rw i) (A 5) := (hk.2.2.2.2.2 i hi).2
/-- a number set anew -/
theorem xw_set {i n : Nat} {z' : Int} (hk : xw E M A ad rw cnt el z t) (hi : xi el cnt i) (hn : wn_cp i n) (hp : wn_post E M (ad i) (rw i) n z' M1) : xw E M1 A ad rw cnt el (fun j => if j = i then z' else z j) t := by
  obtain ⟨d, k, g, rfl, hok⟩ := hp
  obtain ⟨n0, d0, k0, g0, hn0, hw0, ha0, ho0⟩ := xw_at hk hi
  obtain ⟨⟨h1, h2, h3, h4, h5, h6⟩, ⟨h7, ⟨r, hr, h8⟩, ⟨v, hv, h9⟩, h10⟩, h11, h12, h13, h14⟩ := hk
  refine ⟨⟨hm_two h1 (hm_cc h1 hw0 (by simp)) (hm_cc h1 ha0 (by simp)), hm_two h2 (hm_cc h2 hw0 (by simp)) (hm_cc h2 ha0 (by simp)), hm_two h3 (hm_cc h3 hw0 (by simp)) (hm_cc h3 ha0 (by simp)), fun j hj => hm_two (h4 j hj) (hm_cc (h4 j hj) hw0 (by simp)) (hm_cc (h4 j hj) ha0 (by simp)), h5, h6⟩, ⟨hm_two h7 (hm_cc h7 hw0 (by simp)) (hm_cc h7 ha0 (by simp)), ⟨r, hr, hm_two h8 (hm_cc h8 hw0 (by simp)) (Ne.symm (h14 i hi).1)⟩, ⟨v, hv, hm_two h9 (hm_cc h9 hw0 (by simp)) (Ne.symm (h14 i hi).2)⟩, h10⟩, fun he => ⟨hm_two (h11 he).1 (hm_cc (h11 he).1 hw0 (by simp)) (hm_cc (h11 he).1 ha0 (by simp)), hm_two (h11 he).2 (hm_cc (h11 he).2 hw0 (by simp)) (hm_cc (h11 he).2 ha0 (by simp))⟩, fun j hj => ?_, h13, h14⟩
  by_cases e : j = i
  · subst e
    show wn_at _ _ _ _ _ (if j = j then z' else z j)
    rw [if_pos rfl]
    exact ⟨n, d, k, g, hn, hm_up_self _ _ _, by rw [hm_up_ne _ _ (Ne.symm (hm_oa hw0 ha0)), hm_up_self], hok⟩
  · show wn_at _ _ _ _ _ (if j = i then z' else z j)
    rw [if_neg e]
    obtain ⟨nj, dj, kj, gj, hnj, hwj, haj, hoj⟩ := h12 j hj
    exact ⟨nj, dj, kj, gj, hnj, hm_two hwj (h13 j i hj hi e).1 (hm_oa hwj ha0), hm_two haj (Ne.symm (hm_oa hw0 haj)) (h13 j i hj hi e).2, hoj⟩
/-- the divider's rows written anew -/
theorem xw_rows {r1 v1 : Nat → Nat} (hk : xw E M A ad rw cnt el z t) (hr1 : ∀ j, j < 66 → r1 j < 33554432) (hv1 : ∀ j, j < 66 → v1 j < 33554432) : xw E (hm_up (hm_up M (A 5) (hm_I E 66 (fun j => nI (v1 j)))) (A 4) (hm_I E 66 (fun j => nI (r1 j)))) A ad rw cnt el z t := by
  obtain ⟨⟨h1, h2, h3, h4, h5, h6⟩, ⟨h7, ⟨r, hr, h8⟩, ⟨v, hv, h9⟩, h10⟩, h11, h12, h13, h14⟩ := hk
  refine ⟨⟨hm_two h1 (hm_cc h1 h8 (by simp)) (hm_cc h1 h9 (by simp)), hm_two h2 (hm_cc h2 h8 (by simp)) (hm_cc h2 h9 (by simp)), hm_two h3 (hm_cc h3 h8 (by simp)) (hm_cc h3 h9 (by simp)), fun j hj => hm_two (h4 j hj) (hm_cc (h4 j hj) h8 (by simp)) (hm_cc (h4 j hj) h9 (by simp)), h5, h6⟩, ⟨hm_two h7 (hm_cc h7 h8 (by simp)) (hm_cc h7 h9 (by simp)), ⟨r1, hr1, hm_up_self _ _ _⟩, ⟨v1, hv1, by rw [hm_up_ne _ _ h10, hm_up_self]⟩, h10⟩, fun he => ⟨hm_two (h11 he).1 (hm_cc (h11 he).1 h8 (by simp)) (hm_cc (h11 he).1 h9 (by simp)), hm_two (h11 he).2 (hm_cc (h11 he).2 h8 (by simp)) (hm_cc (h11 he).2 h9 (by simp))⟩, fun j hj => ?_, h13, h14⟩
  obtain ⟨nj, dj, kj, gj, hnj, hwj, haj, hoj⟩ := h12 j hj
  exact ⟨nj, dj, kj, gj, hnj, hm_two hwj (hm_oa hwj h8) (hm_oa hwj h9), hm_two haj (h14 j hj).1 (h14 j hj).2, hoj⟩
/-- two places exchange their numbers -/
def xw_x2 (a b i : Nat) : Nat := if i = a then b else if i = b then a else i
theorem xw_x2_inv (a b i : Nat) : xw_x2 a b (xw_x2 a b i) = i := by
  unfold xw_x2
  by_cases h : i = a
  · subst h
    rw [if_pos rfl]
    by_cases h2 : b = i
    · rw [if_pos h2, h2]
    · rw [if_neg h2, if_pos rfl]
  · by_cases h2 : i = b
    · subst h2; rw [if_neg h, if_pos rfl, if_pos rfl]
    · rw [if_neg h, if_neg h2, if_neg h, if_neg h2]
theorem xw_x2_out {a b i : Nat} (ha : i ≠ a) (hb : i ≠ b) : xw_x2 a b i = i := by
  unfold xw_x2; rw [if_neg ha, if_neg hb]
theorem xi_x2 {cnt a b i : Nat} (ha : a < 144) (hb : b < 144) (hi : xi true cnt i) : xi true cnt (xw_x2 (4 + a) (4 + b) i) := by
  unfold xw_x2
  split
  · exact Or.inr (Or.inl ⟨rfl, by omega⟩)
  · split
    · exact Or.inr (Or.inl ⟨rfl, by omega⟩)
    · exact hi
theorem xw_swap {a b : Nat} (hk : xw E M A ad rw cnt true z t) (ha : a < 144) (hb : b < 144) : xw E (hm_up M (A 7) (hm_Q E 144 (va_up (va_up (fun j => if j < 144 then some (ad (4 + j)) else none) a (some (ad (4 + b)))) b (some (ad (4 + a)))))) A (fun i => ad (xw_x2 (4 + a) (4 + b) i)) (fun i => rw (xw_x2 (4 + a) (4 + b) i)) cnt true (fun i => z (xw_x2 (4 + a) (4 + b) i)) t := by
  obtain ⟨⟨h1, h2, h3, h4, h5, h6⟩, ⟨h7, ⟨r, hr, h8⟩, ⟨v, hv, h9⟩, h10⟩, h11, h12, h13, h14⟩ := hk
  have hc := (h11 rfl).2
  have he := (h11 rfl).1
  have q0 : ∀ i, i < 4 ∨ 148 ≤ i → xw_x2 (4 + a) (4 + b) i = i := fun i hi => xw_x2_out (by omega) (by omega)
  have up : ∀ {c : Nat} {x : va_E}, M c = some x → x ≠ hm_Q E 144 (fun j => if j < 144 then some (ad (4 + j)) else none) → ∀ y, hm_up M (A 7) y c = some x := fun hx hne y => by rw [hm_up_ne _ _ (hm_cc hx hc hne)]; exact hx
  refine ⟨⟨?_, ?_, up h3 (by simp) _, fun j hj => up (h4 j hj) (by simp) _, h5, h6⟩, ⟨up h7 (by simp) _, ⟨r, hr, up h8 (by simp) _⟩, ⟨v, hv, up h9 (by simp) _⟩, h10⟩, fun _ => ⟨?_, ?_⟩, fun i hi => ?_, fun i j hi hj hij => ?_, fun i hi => ?_⟩
  · show _ = (some (.inr (5, [.ref (A 1), .int (nI cnt), .ref (A 2), .ref (ad (xw_x2 (4 + a) (4 + b) 0)), .ref (ad (xw_x2 (4 + a) (4 + b) 1)), .ref (A 3), if true = true then .ref (A 6) else .null])) : Option va_E)
    rw [q0 0 (by omega), q0 1 (by omega)]; exact up h1 (by simp) _
  · have e1 : (fun j => if j < cnt then some (ad (xw_x2 (4 + a) (4 + b) (200 + j))) else none) = (fun j => if j < cnt then some (ad (200 + j)) else none) := by
      funext j; rw [q0 (200 + j) (by omega)]
    rw [e1]
    exact up h2 (by simp) _
  · show _ = (some (.inr (3, [.ref (A 7), .ref (ad (xw_x2 (4 + a) (4 + b) 2)), .ref (ad (xw_x2 (4 + a) (4 + b) 3)), .ref (A 3)])) : Option va_E)
    rw [q0 2 (by omega), q0 3 (by omega)]; exact up he (by simp) _
  · rw [hm_up_self]
    congr 2
    have e1 : va_up (va_up (fun j => if j < 144 then some (ad (4 + j)) else none) a (some (ad (4 + b)))) b (some (ad (4 + a))) = (fun j => if j < 144 then some (ad (xw_x2 (4 + a) (4 + b) (4 + j))) else none) := by
      funext j
      unfold va_up xw_x2
      by_cases hj : j = b
      · subst hj
        by_cases h : j = a
        · subst h; simp [ha]
        · simp [h, hb]
      · by_cases h : j = a
        · subst h; simp [hj, ha]
        · simp [hj, h]
    rw [e1]
  · obtain ⟨nj, dj, kj, gj, hnj, hwj, haj, hoj⟩ := h12 _ (xi_x2 ha hb hi)
    refine ⟨nj, dj, kj, gj, ?_, up hwj (by simp) _, up haj (by simp) _, hoj⟩
    unfold wn_cp at hnj ⊢
    by_cases e : i < 4 ∨ 148 ≤ i
    · rw [q0 i e] at hnj; exact hnj
    · have h9 : nj = 34 := by
        refine hnj.2.1 ?_ ?_ <;> (unfold xw_x2; split <;> (try split) <;> omega)
      exact ⟨fun h => absurd h (by omega), fun _ _ => h9, fun h => absurd h (by omega)⟩
  · refine h13 _ _ (xi_x2 ha hb hi) (xi_x2 ha hb hj) (fun e => hij ?_)
    have := congrArg (xw_x2 (4 + a) (4 + b)) e
    rwa [xw_x2_inv, xw_x2_inv] at this
  · exact h14 _ (xi_x2 ha hb hi)
end XW
