/-! pure rows for the elimination -/
theorem wn_cp65 {i : Nat} (h : i < 4) : wn_cp i 65 := ⟨fun _ => rfl, fun h1 => absurd h1 (by omega), fun h1 => absurd h1 (by omega)⟩
theorem wn_cp34 {i : Nat} (h : 4 ≤ i) (h2 : i < 200) : wn_cp i 34 := ⟨fun h1 => absurd h1 (by omega), fun _ _ => rfl, fun h1 => absurd h1 (by omega)⟩
theorem xw_set2 {E : hm_E} {M M1 : hm_M} {A ad rw : Nat → Nat} {cnt : Nat} {el : Bool} {z : Nat → Int} {t : Nat → Nat → Int64} {i n : Nat} {z' : Int} (hk : xw E M A ad rw cnt el z t) (hi : xi el cnt i) (hn : wn_cp i n) (hp : wn_post E M (ad i) (rw i) n z' M1) : ∃ z1 : Nat → Int, z1 i = z' ∧ (∀ j, j ≠ i → z1 j = z j) ∧ xw E M1 A ad rw cnt el z1 t := ⟨_, if_pos rfl, fun j hj => if_neg hj, xw_set hk hi hn hp⟩
theorem wn_zero {n k : Nat} {d : Nat → Nat} {g : Int32} {z : Int} (h : wn_ok n d k g z) : k = 0 ↔ z = 0 := by
  have h1 := wn_len (b := 0) h
  rw [Nat.pow_zero] at h1
  constructor
  · intro e; have := h1.mp (by omega); omega
  · intro e; have := h1.mpr (by omega); omega
theorem wn_neg {E : hm_E} {M : hm_M} {w la n k : Nat} {d : Nat → Nat} {g : Int32} {z : Int} (ha : M la = some (hm_I E n (fun j => nI (d j)))) (h : wn_ok n d k g z) : wn_post E M w la n (-z) (hm_up M w (hm_W la (nI k) (if g = 0 then if k = 0 then 0 else 1 else 0))) := by
  refine ⟨d, k, _, by rw [hm_up_id ha], h.1, h.2.1, h.2.2.1, by rw [h.2.2.2.1]; omega, ?_⟩
  have h0 := wn_zero h
  rw [h.2.2.2.2]
  by_cases e : z < 0
  · rw [if_pos e, if_neg (by decide), if_neg (by omega)]
  · rw [if_neg e, if_pos rfl]
    by_cases e2 : k = 0
    · rw [if_pos e2, if_neg (by have := h0.mp e2; omega)]
    · rw [if_neg e2, if_pos (by
        rcases Int.lt_or_le 0 z with q | q
        · omega
        · exact absurd (h0.mpr (by omega)) e2)]
theorem nI_p1 {k : Nat} (h : 0 < k) : nI k - 1 = nI (k - 1) := by
  obtain ⟨j, rfl⟩ : ∃ j, k = j + 1 := ⟨k - 1, by omega⟩
  exact nI_pred j
theorem nI_rc (r c : Nat) : nI r * 12 + nI c = nI (r * 12 + c) := by
  rw [show (12 : Int32) = nI 12 from rfl, pk_mul, nI_add]
theorem el_mul {a b : Int} (ha : a.natAbs < 33554432 ^ 32) (hb : b.natAbs < 33554432 ^ 32) : (a * b).natAbs < 33554432 ^ 64 := by
  rw [Int.natAbs_mul, show (64 : Nat) = 32 + 32 from rfl, Nat.pow_add]
  exact Nat.mul_lt_mul'' ha hb
theorem el_mk {a b : Int} {k : Nat} (ha : a.natAbs < 33554432 ^ k) (hb : b.natAbs < 33554432 ^ 32) : (a * b).natAbs < 33554432 ^ (k + 32) := by
  rw [Int.natAbs_mul, Nat.pow_add]
  exact Nat.mul_lt_mul'' ha hb
theorem dz_mul {a b : Int} (ha : a ≠ 0) : dz (a * b) a = b := by
  rw [dz, Int.natAbs_mul, Nat.mul_comm a.natAbs, Nat.mul_div_cancel _ (by omega)]
  by_cases h0 : b = 0
  · subst h0; simp
  · rcases Int.lt_or_gt_of_ne ha with p | p <;> rcases Int.lt_or_gt_of_ne h0 with q | q
    · have := Int.mul_pos_of_neg_of_neg p q
      simp [show ¬ a * b < 0 by omega, p]; omega
    · have := Int.mul_neg_of_neg_of_pos p q
      simp [this, p]; omega
    · have := Int.mul_neg_of_pos_of_neg p q
      simp [this, show ¬ a < 0 by omega]; omega
    · have := Int.mul_pos p q
      simp [show ¬ a * b < 0 by omega, show ¬ a < 0 by omega]; omega
theorem el_f : ∀ m, m ≤ 12 → dt_f m * (9223372036854775808 : Nat) ^ m < 33554432 ^ 32 := by
  intro m hm
  rcases (show m = 0 ∨ m = 1 ∨ m = 2 ∨ m = 3 ∨ m = 4 ∨ m = 5 ∨ m = 6 ∨ m = 7 ∨ m = 8 ∨ m = 9 ∨ m = 10 ∨ m = 11 ∨ m = 12 by omega) with h | h | h | h | h | h | h | h | h | h | h | h | h <;> subst h <;> decide +kernel
theorem el_le {P : Nat → Nat → Int} (hP : ∀ r c, (P r c).natAbs ≤ 9223372036854775808) {k : Nat} (hk : k + 1 ≤ 12) (i j : Nat) : (dt_B P k i j).natAbs < 33554432 ^ 32 := Nat.lt_of_le_of_lt (dt_B_le hP) (el_f _ hk)
/-- the cells on the way through one step: before (r, c) they have been reduced -/
def el_in (P : Nat → Nat → Int) (n k r c : Nat) (z y : Nat → Int) : Prop := (∀ a b, k + 1 ≤ a → a < n → k + 1 ≤ b → b < n → y (4 + (a * 12 + b)) = if a < r ∨ (a = r ∧ b < c) then dt_B P (k + 1) a b else dt_B P k a b) ∧ (∀ b, k ≤ b → b < n → y (4 + (k * 12 + b)) = dt_B P k k b) ∧ (∀ a, k ≤ a → a < n → y (4 + (a * 12 + k)) = dt_B P k a k) ∧ (0 < k → y (4 + ((k - 1) * 12 + (k - 1))) = dt_D k P) ∧ ∀ i, 148 ≤ i → y i = z i
theorem el_go {P : Nat → Nat → Int} {n k r c : Nat} {z y y' : Nat → Int} (hn : n ≤ 12) (hr : k < r) (hrn : r < n) (hc : k < c) (hcn : c < n) (h : el_in P n k r c z y) (h1 : y' (4 + (r * 12 + c)) = dt_B P (k + 1) r c) (h2 : ∀ i, i ≠ 4 + (r * 12 + c) → i ≠ 2 → i ≠ 3 → y' i = y i) : el_in P n k r (c + 1) z y' := by
  obtain ⟨e1, e2, e3, e4, e5⟩ := h
  refine ⟨fun a b ha han hb hbn => ?_, fun b hb hbn => ?_, fun a ha han => ?_, fun hk => ?_, fun i hi => ?_⟩
  · by_cases e : a = r ∧ b = c
    · obtain ⟨rfl, rfl⟩ := e
      rw [h1, if_pos (Or.inr ⟨rfl, by omega⟩)]
    · rw [h2 _ (by omega) (by omega) (by omega), e1 a b ha han hb hbn]
      by_cases q : a < r ∨ (a = r ∧ b < c)
      · rw [if_pos q, if_pos (by omega)]
      · rw [if_neg q, if_neg (by omega)]
  · rw [h2 _ (by omega) (by omega) (by omega)]; exact e2 b hb hbn
  · rw [h2 _ (by omega) (by omega) (by omega)]; exact e3 a ha han
  · rw [h2 _ (by omega) (by omega) (by omega)]; exact e4 hk
  · rw [h2 _ (by omega) (by omega) (by omega)]; exact e5 i hi
theorem el_row {P : Nat → Nat → Int} {n k r : Nat} {z y : Nat → Int} (h : el_in P n k r n z y) : el_in P n k (r + 1) (k + 1) z y := by
  obtain ⟨e1, e2, e3, e4, e5⟩ := h
  refine ⟨fun a b ha han hb hbn => ?_, e2, e3, e4, e5⟩
  rw [e1 a b ha han hb hbn]
  by_cases q : a < r ∨ (a = r ∧ b < n)
  · rw [if_pos q, if_pos (by omega)]
  · rw [if_neg q, if_neg (by omega)]
/-- the state of the elimination before step k -/
def el_st (P : Nat → Nat → Int) (n k : Nat) (y : Nat → Int) : Prop := (∀ r c, k ≤ r → r < n → k ≤ c → c < n → y (4 + (r * 12 + c)) = dt_B P k r c) ∧ (0 < k → y (4 + ((k - 1) * 12 + (k - 1))) = dt_D k P) ∧ dt_D k P ≠ 0 ∧ ∀ i j, j < k → dt_B P k i j = 0
theorem el_begin {P : Nat → Nat → Int} {n k : Nat} {y : Nat → Int} (hk : k < n) (h : el_st P n k y) : el_in P n k (k + 1) (k + 1) y y := by
  refine ⟨fun a b ha han hb hbn => ?_, fun b hb hbn => h.1 k b (by omega) (by omega) hb hbn, fun a ha han => h.1 a k ha han (by omega) (by omega), h.2.1, fun _ _ => rfl⟩
  rw [h.1 a b (by omega) han (by omega) hbn, if_neg (by omega)]
theorem el_end {P : Nat → Nat → Int} {n k r : Nat} {z y : Nat → Int} (hk : k < n) (hr : n ≤ r) (h : el_st P n k z) (hD : dt_D (k + 1) P ≠ 0) (h1 : el_in P n k r (k + 1) z y) : el_st P n (k + 1) y := by
  refine ⟨fun a b ha han hb hbn => ?_, fun _ => ?_, hD, dt_van h.2.2.1 hD h.2.2.2⟩
  · rw [h1.1 a b ha han hb hbn, if_pos (by omega)]
  · rw [Nat.add_sub_cancel, h1.2.1 k (by omega) hk]; rfl
theorem el_swap {P : Nat → Nat → Int} {n k p : Nat} {y y' : Nat → Int} (hkp : k < p) (hpn : p < n) (hn : n ≤ 12) (h : el_st P n k y) (h1 : ∀ r c, r < 12 → c < n → y' (4 + (r * 12 + c)) = y (4 + (xw_x2 p k r * 12 + c))) : el_st (dt_r (dt_r P p (P k)) k (P p)) n k y' := by
  have hl : ∀ r, r < k → dt_r (dt_r P p (P k)) k (P p) r = P r := fun r hr => by rw [dt_r_ne _ _ (by omega), dt_r_ne _ _ (by omega)]
  have hs : ∀ r, dt_r (dt_r P p (P k)) k (P p) r = P (xw_x2 p k r) := fun r => by
    unfold xw_x2
    by_cases e : r = k
    · subst e; rw [dt_r_at, if_neg (by omega), if_pos rfl]
    · rw [dt_r_ne _ _ e]
      by_cases e2 : r = p
      · subst e2; rw [dt_r_at, if_pos rfl]
      · rw [dt_r_ne _ _ e2, if_neg e2, if_neg e]
  have hD : dt_D k (dt_r (dt_r P p (P k)) k (P p)) = dt_D k P := dt_D_congr (fun i hi j _ => by rw [hl i hi])
  refine ⟨fun r c hr hrn hc hcn => ?_, fun hk => ?_, by rw [hD]; exact h.2.2.1, fun i j hj => ?_⟩
  · rw [h1 r c (by omega) hcn, h.1 _ c (by unfold xw_x2; split <;> (try split) <;> omega) (by unfold xw_x2; split <;> (try split) <;> omega) hc hcn]
    exact (dt_B_congr hl (hs r)).symm
  · rw [h1 _ _ (by omega) (by omega), xw_x2_out (by omega) (by omega), hD]; exact h.2.1 hk
  · rw [dt_B_congr hl (hs i)]; exact h.2.2.2 _ j hj
