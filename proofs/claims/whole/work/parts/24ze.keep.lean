section XK
variable {E : hm_E} {M M1 : hm_M} {A ad rw : Nat → Nat} {cnt : Nat} {el : Bool} {z : Nat → Int} {t : Nat → Nat → Int64}
/-- one more number is kept -/
def xu (f : Nat → Nat) (i q : Nat) : Nat → Nat := fun j => if j = i then q else f j
theorem xu_at (f : Nat → Nat) (i q : Nat) : xu f i q i = q := if_pos rfl
theorem xu_ne (f : Nat → Nat) {i j : Nat} (q : Nat) (h : j ≠ i) : xu f i q j = f j := if_neg h
theorem hm_f4 {a q r x y : Nat} {c d1 d2 d3 d4 : va_E} (h : M a = some c) (h1 : M r = none) (h2 : M q = none) (h3 : a ≠ x) (h4 : a ≠ y) : hm_up (hm_up (hm_up (hm_up M r d1) q d2) x d3) y d4 a = some c := by
  rw [hm_up_ne _ _ h4, hm_up_ne _ _ h3, hm_up_ne _ _ (hm_nn h h2), hm_up_ne _ _ (hm_nn h h1)]; exact h
theorem xw_keep {q qr n k : Nat} {d : Nat → Nat} {g : Int32} {z' : Int} (hk : xw E M A ad rw cnt el z t) (hc : cnt < 160) (hq : M q = none) (hqr : M qr = none) (hqq : qr ≠ q) (hn : n ≤ 64) (ho : wn_ok n d k g z') :
    xw E (hm_up (hm_up (hm_up (hm_up M qr (hm_I E n (fun j => nI (d j)))) q (hm_W qr (nI k) g)) (A 1) (hm_Q E 160 (va_up (fun j => if j < cnt then some (ad (200 + j)) else none) cnt (some q)))) (A 0) (.inr (5, [.ref (A 1), .int (nI (cnt + 1)), .ref (A 2), .ref (ad 0), .ref (ad 1), .ref (A 3), if el = true then .ref (A 6) else .null]))) A (xu ad (200 + cnt) q) (xu rw (200 + cnt) qr) (cnt + 1) el (fun i => if i = 200 + cnt then z' else z i) t := by
  obtain ⟨⟨h1, h2, h3, h4, h5, h6⟩, ⟨h7, ⟨r, hr, h8⟩, ⟨v, hv, h9⟩, h10⟩, h11, h12, h13, h14⟩ := hk
  have n0 : A 1 ≠ A 0 := Ne.symm (hm_oa h1 h2)
  have u0 : ∀ {a : Nat} {c : va_E}, M a = some c → a ≠ A 1 → a ≠ A 0 → ∀ y x, hm_up (hm_up (hm_up (hm_up M qr (hm_I E n (fun j => nI (d j)))) q (hm_W qr (nI k) g)) (A 1) y) (A 0) x a = some c := fun h a1 a2 y x => hm_f4 h hqr hq a1 a2
  have hx0 : ∀ i, i < 200 → xu ad (200 + cnt) q i = ad i ∧ xu rw (200 + cnt) qr i = rw i := fun i hi => ⟨xu_ne _ _ (by omega), xu_ne _ _ (by omega)⟩
  have hqA1 : q ≠ A 1 := Ne.symm (hm_nn h2 hq)
  have hqA0 : q ≠ A 0 := Ne.symm (hm_nn h1 hq)
  have hrA1 : qr ≠ A 1 := Ne.symm (hm_nn h2 hqr)
  have hrA0 : qr ≠ A 0 := Ne.symm (hm_nn h1 hqr)
  have old : ∀ i, xi el (cnt + 1) i → i ≠ 200 + cnt → xi el cnt i := fun i hi hne => by
    rcases hi with hi | hi | hi
    · exact Or.inl hi
    · exact Or.inr (Or.inl hi)
    · exact Or.inr (Or.inr ⟨hi.1, by omega⟩)
  refine ⟨⟨?_, ?_, u0 h3 (hm_cc h3 h2 (by simp)) (Ne.symm (hm_oa h1 h3)) _ _, fun j hj => u0 (h4 j hj) (hm_cc (h4 j hj) h2 (by simp)) (Ne.symm (hm_oa h1 (h4 j hj))) _ _, h5, by omega⟩, ⟨u0 h7 (hm_oa h7 h2) (hm_cc h7 h1 (by simp)) _ _, ⟨r, hr, u0 h8 (hm_cc h8 h2 (by simp)) (Ne.symm (hm_oa h1 h8)) _ _⟩, ⟨v, hv, u0 h9 (hm_cc h9 h2 (by simp)) (Ne.symm (hm_oa h1 h9)) _ _⟩, h10⟩, fun he => ⟨?_, ?_⟩, fun i hi => ?_, fun i j hi hj hij => ?_, fun i hi => ?_⟩
  · rw [hm_up_self, (hx0 0 (by omega)).1, (hx0 1 (by omega)).1]
  · rw [hm_up_ne _ _ n0, hm_up_self]
    have e1 : va_up (fun j => if j < cnt then some (ad (200 + j)) else none) cnt (some q) = (fun j => if j < cnt + 1 then some (xu ad (200 + cnt) q (200 + j)) else none) := by
      funext j
      unfold va_up
      by_cases e : j = cnt
      · subst e; simp [xu]
      · by_cases e2 : j < cnt
        · simp [e, e2, xu, show j < cnt + 1 by omega]
        · simp [e, e2, show ¬ j < cnt + 1 by omega]
    rw [e1]
  · rw [(hx0 2 (by omega)).1, (hx0 3 (by omega)).1]
    exact u0 (h11 he).1 (hm_oa (h11 he).1 h2) (hm_cc (h11 he).1 h1 (by simp)) _ _
  · have e1 : (fun j => if j < 144 then some (xu ad (200 + cnt) q (4 + j)) else none) = fun j => if j < 144 then some (ad (4 + j)) else none := by
      funext j
      split
      · rw [xu_ne _ _ (by omega)]
      · rfl
    rw [e1]
    exact u0 (h11 he).2 (hm_cc (h11 he).2 h2 (by simp)) (Ne.symm (hm_oa h1 (h11 he).2)) _ _
  · by_cases e : i = 200 + cnt
    · subst e
      show wn_at _ _ _ _ _ (if 200 + cnt = 200 + cnt then z' else z (200 + cnt))
      rw [if_pos rfl, xu_at, xu_at]
      exact ⟨n, d, k, g, ⟨fun h => absurd h (by omega), fun _ h => absurd h (by omega), fun _ => hn⟩, by rw [hm_up_ne _ _ hqA0, hm_up_ne _ _ hqA1, hm_up_self], by rw [hm_up_ne _ _ hrA0, hm_up_ne _ _ hrA1, hm_up_ne _ _ hqq, hm_up_self], ho⟩
    · show wn_at _ _ _ _ _ (if i = 200 + cnt then z' else z i)
      rw [if_neg e, xu_ne _ _ e, xu_ne _ _ e]
      obtain ⟨nj, dj, kj, gj, hnj, hwj, haj, hoj⟩ := h12 i (old i hi e)
      exact ⟨nj, dj, kj, gj, hnj, u0 hwj (hm_oa hwj h2) (hm_cc hwj h1 (by simp)) _ _, u0 haj (hm_cc haj h2 (by simp)) (Ne.symm (hm_oa h1 haj)) _ _, hoj⟩
  · by_cases ei : i = 200 + cnt
    · have ej : j ≠ 200 + cnt := fun e => hij (ei.trans e.symm)
      obtain ⟨nj, dj, kj, gj, hnj, hwj, haj, hoj⟩ := h12 j (old j hj ej)
      rw [ei, xu_at, xu_at, xu_ne _ _ ej, xu_ne _ _ ej]
      exact ⟨Ne.symm (hm_nn hwj hq), Ne.symm (hm_nn haj hqr)⟩
    · by_cases ej : j = 200 + cnt
      · obtain ⟨nj, dj, kj, gj, hnj, hwj, haj, hoj⟩ := h12 i (old i hi ei)
        rw [ej, xu_at, xu_at, xu_ne _ _ ei, xu_ne _ _ ei]
        exact ⟨hm_nn hwj hq, hm_nn haj hqr⟩
      · rw [xu_ne _ _ ei, xu_ne _ _ ei, xu_ne _ _ ej, xu_ne _ _ ej]
        exact h13 i j (old i hi ei) (old j hj ej) hij
  · by_cases ei : i = 200 + cnt
    · rw [ei, xu_at]
      exact ⟨Ne.symm (hm_nn h8 hqr), Ne.symm (hm_nn h9 hqr)⟩
    · rw [xu_ne _ _ ei]
      exact h14 i (old i hi ei)
/-- a cell of the table written -/
theorem xw_entry {i j : Nat} {v : Int64} (hk : xw E M A ad rw cnt el z t) (hi : i < 12) : xw E (hm_up M (A (8 + i)) (hm_J E 12 (vp_updL (t i) j v))) A ad rw cnt el z (fun a b => if a = i ∧ b = j then v else t a b) := by
  obtain ⟨⟨h1, h2, h3, h4, h5, h6⟩, ⟨h7, ⟨r, hr, h8⟩, ⟨w, hw, h9⟩, h10⟩, h11, h12, h13, h14⟩ := hk
  have up : ∀ {c : Nat} {x : va_E}, M c = some x → x ≠ hm_J E 12 (t i) → ∀ y, hm_up M (A (8 + i)) y c = some x := fun hx hne y => by rw [hm_up_ne _ _ (hm_cc hx (h4 i hi) hne)]; exact hx
  refine ⟨⟨up h1 (by simp) _, up h2 (by simp) _, up h3 (by simp) _, fun a ha => ?_, h5, h6⟩, ⟨up h7 (by simp) _, ⟨r, hr, up h8 (by simp) _⟩, ⟨w, hw, up h9 (by simp) _⟩, h10⟩, fun he => ⟨up (h11 he).1 (by simp) _, up (h11 he).2 (by simp) _⟩, fun a ha => ?_, h13, h14⟩
  · by_cases e : a = i
    · subst e
      rw [hm_up_self]
      have e1 : vp_updL (t a) j v = fun b => if a = a ∧ b = j then v else t a b := by
        funext b
        by_cases q : b = j <;> simp [vp_updL, q]
      rw [e1]
    · rw [hm_up_ne _ _ (h5 a i ha hi e), h4 a ha]
      have e1 : t a = fun b => if a = i ∧ b = j then v else t a b := by
        funext b; rw [if_neg (fun q => e q.1)]
      exact congrArg (fun f9 => some (hm_J E 12 f9)) e1
  · obtain ⟨nj, dj, kj, gj, hnj, hwj, haj, hoj⟩ := h12 a ha
    exact ⟨nj, dj, kj, gj, hnj, up hwj (by simp) _, up haj (by simp) _, hoj⟩
/-! an elimination in the making: i of its cells are there -/
def el_new (E : hm_E) (M N : hm_M) (e0 ca dv : Nat) (ad rw : Nat → Nat) (i : Nat) : Prop :=
  N e0 = some (.inr (3, [.ref ca, .ref (ad 2), .ref (ad 3), .ref dv])) ∧ N ca = some (hm_Q E 144 (fun j => if j < i then some (ad (4 + j)) else none)) ∧ M ca = none ∧ (∀ j, 2 ≤ j → j < 4 + i → M (ad j) = none ∧ M (rw j) = none ∧ ∃ n, wn_cp j n ∧ N (ad j) = some (hm_W (rw j) (nI 0) 0) ∧ N (rw j) = some (hm_I E n (fun b => nI ((fun _ => 0) b)))) ∧ (∀ a b, 2 ≤ a → a < 4 + i → 2 ≤ b → b < 4 + i → a ≠ b → ad a ≠ ad b ∧ rw a ≠ rw b) ∧ (∀ a c, M a = some c → a ≠ e0 → N a = some c)
theorem el_new_go {N : hm_M} {e0 ca dv q la i : Nat} (hi : i < 144) (h : el_new E M N e0 ca dv ad rw i) (hq : N q = none) (hla : N la = none) (hql : la ≠ q) : el_new E M (hm_up (hm_up (hm_up N q (hm_W la (nI 0) 0)) la (hm_I E 34 (fun b => nI ((fun _ => 0) b)))) ca (hm_Q E 144 (va_up (fun j => if j < i then some (ad (4 + j)) else none) i (some q)))) e0 ca dv (xu ad (4 + i) q) (xu rw (4 + i) la) (i + 1) := by
  obtain ⟨h1, h2, h3, h4, h5, h6⟩ := h
  have old : ∀ {a : Nat} {c : va_E}, N a = some c → a ≠ ca → ∀ x y w, hm_up (hm_up (hm_up N q x) la y) ca w a = some c := fun ha hne x y w => by
    rw [hm_up_ne _ _ hne, hm_up_ne _ _ (hm_nn ha hla), hm_up_ne _ _ (hm_nn ha hq)]; exact ha
  have hqc : q ≠ ca := Ne.symm (hm_nn h2 hq)
  have hlc : la ≠ ca := Ne.symm (hm_nn h2 hla)
  have hMq : M q = none := by
    cases e : M q with
    | none => rfl
    | some x =>
      by_cases e2 : q = e0
      · rw [e2, h1] at hq; cases hq
      · rw [h6 q x e e2] at hq; cases hq
  have hMl : M la = none := by
    cases e : M la with
    | none => rfl
    | some x =>
      by_cases e2 : la = e0
      · rw [e2, h1] at hla; cases hla
      · rw [h6 la x e e2] at hla; cases hla
  refine ⟨?_, ?_, h3, fun j hj1 hj2 => ?_, fun a b ha1 ha2 hb1 hb2 hab => ?_, fun a c ha hne => ?_⟩
  · rw [xu_ne _ _ (by omega), xu_ne _ _ (by omega)]
    exact old h1 (hm_oa h1 h2) _ _ _
  · rw [hm_up_self]
    have e1 : va_up (fun j => if j < i then some (ad (4 + j)) else none) i (some q) = (fun j => if j < i + 1 then some (xu ad (4 + i) q (4 + j)) else none) := by
      funext j
      unfold va_up
      by_cases e : j = i
      · subst e; simp [xu]
      · by_cases e2 : j < i
        · simp [e, e2, xu, show j < i + 1 by omega]
        · simp [e, e2, show ¬ j < i + 1 by omega]
    rw [e1]
  · by_cases e : j = 4 + i
    · subst e
      rw [xu_at, xu_at]
      exact ⟨hMq, hMl, 34, wn_cp34 (by omega) (by omega), by rw [hm_up_ne _ _ hqc, hm_up_ne _ _ (Ne.symm hql), hm_up_self], by rw [hm_up_ne _ _ hlc, hm_up_self]⟩
    · rw [xu_ne _ _ e, xu_ne _ _ e]
      obtain ⟨k1, k2, n, k3, k4, k5⟩ := h4 j hj1 (by omega)
      exact ⟨k1, k2, n, k3, old k4 (hm_oa k4 h2) _ _ _, old k5 (hm_cc k5 h2 (by simp)) _ _ _⟩
  · by_cases ea : a = 4 + i
    · have eb : b ≠ 4 + i := fun e => hab (ea.trans e.symm)
      obtain ⟨k1, k2, n, k3, k4, k5⟩ := h4 b hb1 (by omega)
      rw [ea, xu_at, xu_at, xu_ne _ _ eb, xu_ne _ _ eb]
      exact ⟨Ne.symm (hm_nn k4 hq), Ne.symm (hm_nn k5 hla)⟩
    · obtain ⟨k1, k2, n, k3, k4, k5⟩ := h4 a ha1 (by omega)
      by_cases eb : b = 4 + i
      · rw [eb, xu_at, xu_at, xu_ne _ _ ea, xu_ne _ _ ea]
        exact ⟨hm_nn k4 hq, hm_nn k5 hla⟩
      · rw [xu_ne _ _ ea, xu_ne _ _ ea, xu_ne _ _ eb, xu_ne _ _ eb]
        exact h5 a b ha1 (by omega) hb1 (by omega) hab
  · have h9 := h6 a c ha hne
    refine old h9 (fun e => ?_) _ _ _
    subst e
    rw [h3] at ha
    cases ha
theorem wn_nil (n : Nat) : wn_ok n (fun _ => 0) 0 0 0 := ⟨Nat.zero_le n, fun _ _ => (show 0 < 33554432 by decide), fun h => absurd h (by decide), rfl, rfl⟩
/-- the object has its elimination now -/
theorem xw_true {N : hm_M} {e0 ca : Nat} {ad2 rw2 : Nat → Nat} (hk : xw E M A ad rw cnt false z t) (he0 : M e0 = none) (h : el_new E M N e0 ca (A 3) ad2 rw2 144) :
    xw E (hm_up N (A 0) (.inr (5, [.ref (A 1), .int (nI cnt), .ref (A 2), .ref (ad 0), .ref (ad 1), .ref (A 3), .ref e0]))) (xu (xu A 6 e0) 7 ca) (fun i => if 2 ≤ i ∧ i < 148 then ad2 i else ad i) (fun i => if 2 ≤ i ∧ i < 148 then rw2 i else rw i) cnt true (fun i => if 2 ≤ i ∧ i < 148 then 0 else z i) t := by
  obtain ⟨⟨h1, h2, h3, h4, h5, h6⟩, ⟨h7, ⟨r, hr, h8⟩, ⟨v, hv, h9⟩, h10⟩, h11, h12, h13, h14⟩ := hk
  obtain ⟨g1, g2, g3, g4, g5, g6⟩ := h
  have old : ∀ {a : Nat} {c : va_E}, M a = some c → a ≠ A 0 → ∀ x, hm_up N (A 0) x a = some c := fun ha hne x => by
    rw [hm_up_ne _ _ hne]; exact g6 _ _ ha (hm_nn ha he0)
  have new : ∀ {a : Nat} {c : va_E}, M a = none → N a = some c → ∀ x, hm_up N (A 0) x a = some c := fun ha hc x => by
    rw [hm_up_ne _ _ (Ne.symm (hm_nn h1 ha))]; exact hc
  have aA : ∀ i, i ≠ 6 → i ≠ 7 → xu (xu A 6 e0) 7 ca i = A i := fun i h6 h7 => by rw [xu_ne _ _ h7, xu_ne _ _ h6]
  have a6 : xu (xu A 6 e0) 7 ca 6 = e0 := by rw [xu_ne _ _ (by decide), xu_at]
  have a7 : xu (xu A 6 e0) 7 ca 7 = ca := xu_at _ _ _
  have xo : ∀ i, xi true cnt i → ¬ (2 ≤ i ∧ i < 148) → xi false cnt i := fun i hi hn => by
    rcases hi with hi | hi | hi
    · exact Or.inl hi
    · exact Or.inl (by omega)
    · exact Or.inr (Or.inr hi)
  refine ⟨⟨?_, ?_, ?_, fun j hj => ?_, fun i j hi hj hij => ?_, h6⟩, ⟨?_, ⟨r, hr, ?_⟩, ⟨v, hv, ?_⟩, ?_⟩, fun _ => ⟨?_, ?_⟩, fun i hi => ?_, fun i j hi hj hij => ?_, fun i hi => ?_⟩
  · rw [aA 0 (by decide) (by decide), aA 1 (by decide) (by decide), aA 2 (by decide) (by decide), aA 3 (by decide) (by decide), a6, hm_up_self]
    rfl
  · rw [aA 1 (by decide) (by decide)]
    have e1 : (fun j => if j < cnt then some (if 2 ≤ 200 + j ∧ 200 + j < 148 then ad2 (200 + j) else ad (200 + j)) else none) = (fun j => if j < cnt then some (ad (200 + j)) else none) := by
      funext j; rw [if_neg (show ¬ (2 ≤ 200 + j ∧ 200 + j < 148) by omega)]
    rw [e1]
    exact old h2 (Ne.symm (hm_oa h1 h2)) _
  · rw [aA 2 (by decide) (by decide)]
    have e1 : (fun j => some (xu (xu A 6 e0) 7 ca (8 + j))) = (fun j => some (A (8 + j))) := by
      funext j; rw [aA _ (by omega) (by omega)]
    rw [e1]
    exact old h3 (Ne.symm (hm_oa h1 h3)) _
  · rw [aA _ (by omega) (by omega)]; exact old (h4 j hj) (Ne.symm (hm_oa h1 (h4 j hj))) _
  · rw [aA _ (by omega) (by omega), aA _ (by omega) (by omega)]; exact h5 i j hi hj hij
  · rw [aA 3 (by decide) (by decide), aA 4 (by decide) (by decide), aA 5 (by decide) (by decide)]; exact old h7 (hm_cc h7 h1 (by simp)) _
  · rw [aA 4 (by decide) (by decide)]; exact old h8 (Ne.symm (hm_oa h1 h8)) _
  · rw [aA 5 (by decide) (by decide)]; exact old h9 (Ne.symm (hm_oa h1 h9)) _
  · rw [aA 4 (by decide) (by decide), aA 5 (by decide) (by decide)]; exact h10
  · rw [a6, a7, aA 3 (by decide) (by decide)]
    exact new he0 g1 _
  · rw [a7]
    have e1 : (fun j => if j < 144 then some (if 2 ≤ 4 + j ∧ 4 + j < 148 then ad2 (4 + j) else ad (4 + j)) else none) = (fun j => if j < 144 then some (ad2 (4 + j)) else none) := by
      funext j
      split
      · rw [if_pos (by omega)]
      · rfl
    rw [e1]
    exact new g3 g2 _
  · by_cases e : 2 ≤ i ∧ i < 148
    · show wn_at _ _ (if 2 ≤ i ∧ i < 148 then ad2 i else ad i) (if 2 ≤ i ∧ i < 148 then rw2 i else rw i) _ (if 2 ≤ i ∧ i < 148 then 0 else z i)
      rw [if_pos e, if_pos e, if_pos e]
      obtain ⟨k1, k2, n, k3, k4, k5⟩ := g4 i e.1 (by omega)
      exact ⟨n, fun _ => 0, 0, 0, k3, new k1 k4 _, new k2 k5 _, wn_nil n⟩
    · show wn_at _ _ (if 2 ≤ i ∧ i < 148 then ad2 i else ad i) (if 2 ≤ i ∧ i < 148 then rw2 i else rw i) _ (if 2 ≤ i ∧ i < 148 then 0 else z i)
      rw [if_neg e, if_neg e, if_neg e]
      obtain ⟨nj, dj, kj, gj, hnj, hwj, haj, hoj⟩ := h12 i (xo i hi e)
      exact ⟨nj, dj, kj, gj, hnj, old hwj (hm_cc hwj h1 (by simp)) _, old haj (Ne.symm (hm_oa h1 haj)) _, hoj⟩
  · show hm_ap (if 2 ≤ i ∧ i < 148 then ad2 i else ad i) (if 2 ≤ j ∧ j < 148 then ad2 j else ad j) ∧ hm_ap (if 2 ≤ i ∧ i < 148 then rw2 i else rw i) (if 2 ≤ j ∧ j < 148 then rw2 j else rw j)
    by_cases ei : 2 ≤ i ∧ i < 148
    · obtain ⟨k1, k2, n, k3, k4, k5⟩ := g4 i ei.1 (by omega)
      by_cases ej : 2 ≤ j ∧ j < 148
      · rw [if_pos ei, if_pos ei, if_pos ej, if_pos ej]
        exact g5 i j ei.1 (by omega) ej.1 (by omega) hij
      · rw [if_pos ei, if_pos ei, if_neg ej, if_neg ej]
        obtain ⟨nj, dj, kj, gj, hnj, hwj, haj, hoj⟩ := h12 j (xo j hj ej)
        exact ⟨Ne.symm (hm_nn hwj k1), Ne.symm (hm_nn haj k2)⟩
    · obtain ⟨ni, di, ki, gi, hni, hwi, hai, hoi⟩ := h12 i (xo i hi ei)
      by_cases ej : 2 ≤ j ∧ j < 148
      · rw [if_neg ei, if_neg ei, if_pos ej, if_pos ej]
        obtain ⟨k1, k2, n, k3, k4, k5⟩ := g4 j ej.1 (by omega)
        exact ⟨hm_nn hwi k1, hm_nn hai k2⟩
      · rw [if_neg ei, if_neg ei, if_neg ej, if_neg ej]
        exact h13 i j (xo i hi ei) (xo j hj ej) hij
  · show hm_ap (if 2 ≤ i ∧ i < 148 then rw2 i else rw i) _ ∧ hm_ap (if 2 ≤ i ∧ i < 148 then rw2 i else rw i) _
    rw [aA 4 (by decide) (by decide), aA 5 (by decide) (by decide)]
    by_cases ei : 2 ≤ i ∧ i < 148
    · rw [if_pos ei]
      obtain ⟨k1, k2, n, k3, k4, k5⟩ := g4 i ei.1 (by omega)
      exact ⟨Ne.symm (hm_nn h8 k2), Ne.symm (hm_nn h9 k2)⟩
    · rw [if_neg ei]
      exact h14 i (xo i hi ei)
end XK
