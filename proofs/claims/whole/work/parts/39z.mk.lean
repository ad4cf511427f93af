/-! pictures made of their cells -/
theorem xp_mk {E : hm_E} {M : hm_M} {x nu tb dv r v w0 l0 w1 l1 : Nat} (hx : M x = some (.inr (5, [.ref nu, .int (nI 0), .ref tb, .ref w0, .ref w1, .ref dv, .null]))) (hnu : M nu = some (hm_Q E 160 (fun _ => none))) (htb : M tb = some (hm_QJ E 12 (fun j => some (tb + 1 + j)))) (hrow : ∀ j, j < 12 → M (tb + 1 + j) = some (hm_J E 12 (fun _ => 0))) (hdv : M dv = some (.inr (2, [.ref r, .ref v]))) (hr : M r = some (hm_I E 66 (fun j => nI ((fun _ => 0) j)))) (hv : M v = some (hm_I E 66 (fun j => nI ((fun _ => 0) j)))) (hw0 : M w0 = some (hm_W l0 (nI 0) 0)) (hl0 : M l0 = some (hm_I E 65 (fun j => nI ((fun _ => 0) j)))) (hw1 : M w1 = some (hm_W l1 (nI 0) 0)) (hl1 : M l1 = some (hm_I E 65 (fun j => nI ((fun _ => 0) j)))) (hww : hm_ap w0 w1) (hll : hm_ap l0 l1) (hvr : hm_ap v r) (h0r : hm_ap l0 r) (h0v : hm_ap l0 v) (h1r : hm_ap l1 r) (h1v : hm_ap l1 v) : xp E M x 0 (fun _ => 0) (fun _ _ => 0) := by
  obtain ⟨A, hA⟩ : ∃ A : Nat → Nat, A = fun i => if i = 0 then x else if i = 1 then nu else if i = 2 then tb else if i = 3 then dv else if i = 4 then r else if i = 5 then v else tb + 1 + (i - 8) := ⟨_, rfl⟩
  have a0 : A 0 = x := by rw [hA]; rfl
  have a1 : A 1 = nu := by rw [hA]; rfl
  have a2 : A 2 = tb := by rw [hA]; rfl
  have a3 : A 3 = dv := by rw [hA]; rfl
  have a4 : A 4 = r := by rw [hA]; rfl
  have a5 : A 5 = v := by rw [hA]; rfl
  have a8 : ∀ j, A (8 + j) = tb + 1 + j := fun j => by
    rw [hA]
    show (if 8 + j = 0 then x else if 8 + j = 1 then nu else if 8 + j = 2 then tb else if 8 + j = 3 then dv else if 8 + j = 4 then r else if 8 + j = 5 then v else tb + 1 + (8 + j - 8)) = _
    rw [if_neg (by omega), if_neg (by omega), if_neg (by omega), if_neg (by omega), if_neg (by omega), if_neg (by omega)]
    omega
  have hf : (fun j => some (A (8 + j))) = fun j => some (tb + 1 + j) := by funext j; rw [a8]
  have hq : (fun j => if j < 0 then some ((fun i => if i = 0 then w0 else w1) (200 + j)) else none) = (fun _ => (none : Option Nat)) := by funext j; rw [if_neg (Nat.not_lt_zero j)]
  have wc : ∀ i, i < 2 → wn_cp i 65 := fun i hi => wn_cp65 (by omega)
  refine ⟨A, fun i => if i = 0 then w0 else w1, fun i => if i = 0 then l0 else l1, false, fun _ => 0, a0, ⟨⟨?_, ?_, ?_, fun j hj => ?_, fun i j hi hj hij => ?_, by omega⟩, ⟨?_, ⟨fun _ => 0, fun _ _ => (show 0 < 33554432 by decide), ?_⟩, ⟨fun _ => 0, fun _ _ => (show 0 < 33554432 by decide), ?_⟩, ?_⟩, fun h => absurd h (by decide), fun i hi => ?_, fun i j hi hj hij => ?_, fun i hi => ?_⟩, fun j hj => absurd hj (Nat.not_lt_zero j)⟩
  · rw [a0, a1, a2, a3]; exact hx
  · rw [a1, hq]; exact hnu
  · rw [a2, hf]; exact htb
  · rw [a8]; exact hrow j hj
  · rw [a8, a8]; show tb + 1 + i ≠ tb + 1 + j; omega
  · rw [a3, a4, a5]; exact hdv
  · rw [a4]; exact hr
  · rw [a5]; exact hv
  · rw [a5, a4]; exact hvr
  · rcases hi with hi | ⟨h, -⟩ | hi
    · rcases (show i = 0 ∨ i = 1 by omega) with e | e
      · subst e; exact ⟨65, fun _ => 0, 0, 0, wc 0 (by omega), hw0, hl0, wn_nil 65⟩
      · subst e; exact ⟨65, fun _ => 0, 0, 0, wc 1 (by omega), hw1, hl1, wn_nil 65⟩
    · cases h
    · omega
  · have hi2 : i < 2 := by
      rcases hi with hi | ⟨h, -⟩ | hi
      · exact hi
      · cases h
      · omega
    have hj2 : j < 2 := by
      rcases hj with hj | ⟨h, -⟩ | hj
      · exact hj
      · cases h
      · omega
    rcases (show i = 0 ∧ j = 1 ∨ i = 1 ∧ j = 0 by omega) with ⟨e1, e2⟩ | ⟨e1, e2⟩
    · subst e1; subst e2; exact ⟨hww, hll⟩
    · subst e1; subst e2; exact ⟨Ne.symm hww, Ne.symm hll⟩
  · have hi2 : i < 2 := by
      rcases hi with hi | ⟨h, -⟩ | hi
      · exact hi
      · cases h
      · omega
    rw [a4, a5]
    rcases (show i = 0 ∨ i = 1 by omega) with e | e
    · subst e; exact ⟨h0r, h0v⟩
    · subst e; exact ⟨h1r, h1v⟩
def aL (l : List Nat) (i : Nat) : Nat := l.getD i 0
theorem md_mk {E : hm_E} {M : hm_M} {A : Nat → Nat} (h0 : M (A 0) = some (mo A 0 0 0 0)) (h1 : M (A 1) = some (hm_I E 16640 (fun j => nI ((fun _ => 0) j)))) (h2 : M (A 2) = some (hm_I E 160 (fun j => nI ((fun _ => 0) j)))) (h3 : M (A 3) = some (hm_Z E 160 (fun _ => 0))) (h4 : M (A 4) = some (hm_J E 144 (fun _ => 0))) (h5 : M (A 5) = some (hm_I E 220 (fun j => nI ((fun _ => 0) j)))) (h6 : M (A 6) = some (hm_I E 220 (fun j => nI ((fun _ => 0) j)))) (h7 : M (A 7) = some (hm_I E 220 (fun j => nI ((fun _ => 0) j)))) (h8 : M (A 8) = some (hm_I E 212992 (fun j => nI ((fun _ => 0) j)))) (h9 : M (A 9) = some (hm_Z E 4096 (fun _ => 0))) (h10 : M (A 10) = some (hm_I E 60 (fun j => nI ((fun _ => 0) j)))) (h11 : M (A 11) = some (hm_I E 60 (fun j => nI ((fun _ => 0) j)))) (h12 : M (A 12) = some (hm_I E 60 (fun j => nI ((fun _ => 0) j)))) (hap : ∀ i j, i < j → j < 13 → hm_ap (A i) (A j)) : mq E M A 0 0 (fun _ => 0) (fun _ _ => 0) := by
  have G : ∀ i x, M (A i) = some x → (fun i => (M (A i)).getD (mo A 0 0 0 0)) i = x := fun i x h => by
    show (M (A i)).getD _ = x
    rw [h]; rfl
  refine ⟨0, 0, fun j => nI ((fun _ => 0) j), fun j => nI ((fun _ => 0) j), fun i => (M (A i)).getD (mo A 0 0 0 0), ⟨fun i hi => ?_, fun i j hi hj hij => ?_⟩, ⟨G 0 _ h0, by omega⟩, ⟨fun _ => 0, fun _ => 0, fun _ => 0, G 1 _ h1, G 2 _ h2, G 3 _ h3, fun j hj => absurd hj (Nat.not_lt_zero j), fun _ _ => rfl⟩, G 4 _ h4, G 5 _ h5, G 6 _ h6, ⟨_, G 7 _ h7⟩, ⟨fun _ => 0, fun _ => 0, G 8 _ h8, G 9 _ h9, fun _ => (show 0 < 65536 by decide)⟩, _, _, _, G 10 _ h10, G 11 _ h11, G 12 _ h12⟩
  · rcases (show i = 0 ∨ i = 1 ∨ i = 2 ∨ i = 3 ∨ i = 4 ∨ i = 5 ∨ i = 6 ∨ i = 7 ∨ i = 8 ∨ i = 9 ∨ i = 10 ∨ i = 11 ∨ i = 12 by omega) with e | e | e | e | e | e | e | e | e | e | e | e | e <;> subst e
    · exact h0.trans (congrArg some (G 0 _ h0).symm)
    · exact h1.trans (congrArg some (G 1 _ h1).symm)
    · exact h2.trans (congrArg some (G 2 _ h2).symm)
    · exact h3.trans (congrArg some (G 3 _ h3).symm)
    · exact h4.trans (congrArg some (G 4 _ h4).symm)
    · exact h5.trans (congrArg some (G 5 _ h5).symm)
    · exact h6.trans (congrArg some (G 6 _ h6).symm)
    · exact h7.trans (congrArg some (G 7 _ h7).symm)
    · exact h8.trans (congrArg some (G 8 _ h8).symm)
    · exact h9.trans (congrArg some (G 9 _ h9).symm)
    · exact h10.trans (congrArg some (G 10 _ h10).symm)
    · exact h11.trans (congrArg some (G 11 _ h11).symm)
    · exact h12.trans (congrArg some (G 12 _ h12).symm)
  · rcases Nat.lt_or_gt_of_ne hij with q | q
    · exact hap i j q hj
    · exact Ne.symm (hap j i q hi)
theorem el_new_dn {E : hm_E} {M N : hm_M} {e0 ca dv i : Nat} {ad rw : Nat → Nat} {x : va_E} (he : M e0 = none) (h : el_new E (hm_up M e0 x) N e0 ca dv ad rw i) : el_new E M N e0 ca dv ad rw i := by
  obtain ⟨h1, h2, h3, h4, h5, h6⟩ := h
  have dn : ∀ a, hm_up M e0 x a = none → M a = none := fun a ha => by
    by_cases e : a = e0
    · rw [e]; exact he
    · rw [hm_up_ne _ _ e] at ha; exact ha
  refine ⟨h1, h2, dn _ h3, fun j a b => ?_, h5, fun a c ha hne => h6 a c (by rw [hm_up_ne _ _ hne]; exact ha) hne⟩
  obtain ⟨k1, k2, k3⟩ := h4 j a b
  exact ⟨dn _ k1, dn _ k2, k3⟩
