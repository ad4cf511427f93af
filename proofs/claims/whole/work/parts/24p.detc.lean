/-! rows exchanged; a row of one 1; the expansion by the last row; columns; no pivot: the determinant is 0 -/
theorem dt_D_swap {n : Nat} (M : Nat → Nat → Int) {a b : Nat} (hab : a ≠ b) (ha : a < n) (hb : b < n) : dt_D n (dt_r (dt_r M a (M b)) b (M a)) = -dt_D n M := by
  have h0 : ∀ w : Nat → Int, dt_D n (dt_r (dt_r M a w) b w) = 0 := fun w => dt_D_alt' hab ha hb (by rw [dt_r_at, dt_r_ne _ _ hab, dt_r_at])
  have h1 := h0 (fun j => M a j + M b j)
  rw [dt_D_add _ hb, dt_r_comm _ _ _ hab, dt_r_comm _ _ _ hab, dt_D_add _ ha, dt_D_add _ ha, dt_r_comm _ _ _ (Ne.symm hab), dt_r_comm _ _ _ (Ne.symm hab), dt_r_comm _ _ _ (Ne.symm hab), dt_r_comm _ _ _ (Ne.symm hab), h0 (M a), h0 (M b), dt_r_self M a, dt_r_self M b] at h1
  omega
def dt_e : Nat → Int
  | 0 => 1
  | n + 1 => -dt_e n
def dt_u (c : Nat) : Nat → Int := fun j => if j = c then 1 else 0
def dt_c (M : Nat → Nat → Int) (c : Nat) : Nat → Nat → Int := fun i j => M i (if j < c then j else j + 1)
theorem dt_c_r (M : Nat → Nat → Int) (c r s : Nat) : dt_r (dt_c M c) r (dt_c M c s) = dt_c (dt_r M r (M s)) c := by
  funext i j
  by_cases e : i = r
  · subst e; simp [dt_r, dt_c]
  · simp [dt_r, dt_c, e]
theorem dt_unit {k : Nat} (M : Nat → Nat → Int) {c : Nat} (hc : c ≤ k) : dt_D (k + 1) (dt_r M k (dt_u c)) = dt_e (k - c) * dt_D k (dt_c M c) := by
  induction k generalizing M c with
  | zero =>
    have h0 : c = 0 := by omega
    subst h0
    rw [dt_D_last]
    simp [dt_D, dt_s, dt_u, dt_e]
  | succ k ih =>
    rw [dt_D_last]
    by_cases e : c = k + 1
    · subst e
      rw [dt_s_zero (fun r hr => by
        rw [show dt_D (k + 1) (dt_r M r (dt_u (k + 1))) = dt_D (k + 1) (dt_r M r (fun _ => 0)) from dt_D_congr (fun i hi j hj => by
          by_cases q : i = r
          · subst q; rw [dt_r_at, dt_r_at, dt_u, if_neg (by omega)]
          · rw [dt_r_ne _ _ q, dt_r_ne _ _ q]), dt_D_null M hr]; omega), Nat.sub_self, dt_e, dt_u, if_pos rfl]
      rw [show dt_D (k + 1) (dt_c M (k + 1)) = dt_D (k + 1) M from dt_D_congr (fun i hi j hj => by rw [dt_c, if_pos hj])]
      omega
    · have hck : c ≤ k := by omega
      rw [dt_s, show dt_u c (k + 1) = 0 from if_neg (by omega), ih M hck]
      have h1 : dt_s k (fun r => dt_D (k + 1) (dt_r M r (dt_u c)) * M r (k + 1)) = dt_s k (fun r => (-dt_e (k - c)) * (dt_D k (dt_r (dt_c M c) r (dt_c M c k)) * dt_c M c r k)) := by
        refine dt_s_congr (fun r hr => ?_)
        have h2 := dt_D_swap (n := k + 1) (dt_r M r (dt_u c)) (a := r) (b := k) (by omega) (by omega) (by omega)
        rw [dt_r_rr, dt_r_at, dt_r_ne M (dt_u c) (show k ≠ r by omega), ih _ hck] at h2
        rw [dt_c_r, show dt_c M c r k = M r (k + 1) by rw [dt_c, if_neg (by omega)]]
        generalize M r (k + 1) = x at *
        generalize dt_D (k + 1) (dt_r M r (dt_u c)) = y at *
        generalize dt_D k (dt_c (dt_r M r (M k)) c) = z at *
        have h3 : y = -(dt_e (k - c) * z) := by omega
        rw [h3]; grind
      rw [h1, dt_s_mulr, show k + 1 - c = (k - c) + 1 by omega, dt_e]
      have h4 : dt_D (k + 1) (dt_c M c) = dt_D k (dt_c M c) * dt_c M c k k - dt_s k (fun r => dt_D k (dt_r (dt_c M c) r (dt_c M c k)) * dt_c M c r k) := rfl
      rw [h4, show dt_c M c k k = M k (k + 1) by rw [dt_c, if_neg (by omega)]]
      grind
theorem dt_D_sumr {n : Nat} (M : Nat → Nat → Int) {r : Nat} (hr : r < n) (m : Nat) (x : Nat → Int) (U : Nat → Nat → Int) : dt_D n (dt_r M r (fun j => dt_s m (fun t => x t * U t j))) = dt_s m (fun t => x t * dt_D n (dt_r M r (U t))) := by
  induction m with
  | zero => simp only [dt_s]; exact dt_D_null M hr
  | succ m ih =>
    simp only [dt_s]
    rw [← ih]
    have h := dt_D_lin M hr (x m) (U m) (fun j => dt_s m (fun t => x t * U t j))
    have e1 : (fun j => dt_s m (fun t => x t * U t j) + x m * U m j) = (fun j => x m * U m j + dt_s m (fun t => x t * U t j)) := by funext j; omega
    rw [e1, h]; omega
theorem dt_row {n : Nat} (M : Nat → Nat → Int) {r : Nat} (hr : r < n) (v : Nat → Int) : dt_D n (dt_r M r v) = dt_s n (fun c => v c * dt_D n (dt_r M r (dt_u c))) := by
  rw [← dt_D_sumr M hr n v dt_u]
  refine dt_D_congr (fun i hi j hj => ?_)
  by_cases q : i = r
  · subst q
    rw [dt_r_at, dt_r_at, dt_s_one (s := j) hj (fun t ht hn => by rw [dt_u, if_neg (Ne.symm hn)]; omega), dt_u, if_pos rfl]; omega
  · rw [dt_r_ne _ _ q, dt_r_ne _ _ q]
/-- the expansion by the last row -/
theorem dt_lap {k : Nat} (M : Nat → Nat → Int) : dt_D (k + 1) M = dt_s (k + 1) (fun c => M k c * (dt_e (k - c) * dt_D k (dt_c M c))) := by
  have h := dt_row M (Nat.lt_succ_self k) (M k)
  rw [dt_r_self] at h
  rw [h]
  exact dt_s_congr (fun c hc => by rw [dt_unit M (by omega)])
def dt_w (M : Nat → Nat → Int) (c : Nat) (v : Nat → Int) : Nat → Nat → Int := fun i j => if j = c then v i else M i j
theorem dt_w_c (M : Nat → Nat → Int) {c b : Nat} (v : Nat → Int) (h : b ≠ c) : dt_c (dt_w M c v) b = dt_w (dt_c M b) (if c < b then c else c - 1) v := by
  funext i j
  simp only [dt_c, dt_w]
  split <;> split <;> split <;> first | rfl | (split <;> first | rfl | omega) | omega
theorem dt_w_c0 (M : Nat → Nat → Int) (c : Nat) (v : Nat → Int) : dt_c (dt_w M c v) c = dt_c M c := by
  funext i j
  simp only [dt_c, dt_w]
  split <;> (rw [if_neg (by omega)])
theorem dt_D_clin {n : Nat} (M : Nat → Nat → Int) {s : Nat} (hs : s < n) (a : Int) (v w : Nat → Int) : dt_D n (dt_w M s (fun i => a * v i + w i)) = a * dt_D n (dt_w M s v) + dt_D n (dt_w M s w) := by
  induction n generalizing M s with
  | zero => omega
  | succ k ih =>
    rw [dt_lap, dt_lap, dt_lap, ← dt_s_lin]
    refine dt_s_congr (fun c hc => ?_)
    by_cases e : c = s
    · subst e
      rw [dt_w_c0, dt_w_c0, dt_w_c0]
      simp only [dt_w, if_true]
      grind
    · rw [dt_w_c _ _ e, dt_w_c _ _ e, dt_w_c _ _ e, ih _ (by split <;> omega)]
      have q : ∀ u : Nat → Int, dt_w M s u k c = M k c := fun u => by rw [dt_w, if_neg e]
      rw [q, q, q]
      grind
theorem dt_D_cadd {n : Nat} (M : Nat → Nat → Int) {s : Nat} (hs : s < n) (v w : Nat → Int) : dt_D n (dt_w M s (fun j => v j + w j)) = dt_D n (dt_w M s v) + dt_D n (dt_w M s w) := by
  have h := dt_D_clin M hs 1 v w
  rw [Int.one_mul] at h
  rw [← h]
  congr 2
  funext j; rw [Int.one_mul]
theorem dt_D_cnull {n : Nat} (M : Nat → Nat → Int) {s : Nat} (hs : s < n) : dt_D n (dt_w M s (fun _ => 0)) = 0 := by
  have h := dt_D_cadd M hs (fun _ => 0) (fun _ => 0)
  simp only [Int.add_zero] at h
  omega
theorem dt_cadj {n : Nat} {M : Nat → Nat → Int} {a : Nat} (ha : a + 1 < n) (h : ∀ i, i < n → M i a = M i (a + 1)) : dt_D n M = 0 := by
  induction n generalizing M a with
  | zero => omega
  | succ k ih =>
    rw [dt_lap, dt_s_two (a := a) (b := a + 1) (by omega) (by omega) (by omega) (fun c hc h1 h2 => ?_)]
    · rw [show k - a = k - (a + 1) + 1 by omega, dt_e, h k (by omega), show dt_D k (dt_c M a) = dt_D k (dt_c M (a + 1)) from dt_D_congr (fun i hi j hj => by
        simp only [dt_c]
        by_cases q : j = a
        · subst q; rw [if_neg (by omega), if_pos (by omega)]; exact (h i (by omega)).symm
        · by_cases q2 : j < a
          · rw [if_pos q2, if_pos (by omega)]
          · rw [if_neg q2, if_neg (by omega)])]
      grind
    · have h3 : dt_D k (dt_c M c) = 0 := by
        rcases Nat.lt_or_ge c a with q | q
        · obtain ⟨a', rfl⟩ : ∃ a', a = a' + 1 := ⟨a - 1, by omega⟩
          refine ih (a := a') (by omega) (fun i hi => ?_)
          simp only [dt_c]
          rw [if_neg (by omega), if_neg (by omega)]
          exact h i (by omega)
        · refine ih (a := a) (by omega) (fun i hi => ?_)
          simp only [dt_c]
          rw [if_pos (by omega), if_pos (by omega)]
          exact h i (by omega)
      rw [h3]; grind
theorem dt_w_comm (M : Nat → Nat → Int) {a b : Nat} (v w : Nat → Int) (h : a ≠ b) : dt_w (dt_w M a v) b w = dt_w (dt_w M b w) a v := by
  funext i j
  simp only [dt_w]
  split <;> split <;> first | rfl | omega
theorem dt_w_self (M : Nat → Nat → Int) (c : Nat) : dt_w M c (fun i => M i c) = M := by
  funext i j
  simp only [dt_w]
  split
  · next e => rw [e]
  · rfl
theorem dt_cswap {n : Nat} (M : Nat → Nat → Int) {a : Nat} (ha : a + 1 < n) : dt_D n (dt_w (dt_w M a (fun i => M i (a + 1))) (a + 1) (fun i => M i a)) = -dt_D n M := by
  have hab : a ≠ a + 1 := by omega
  have ha1 : a < n := by omega
  have h0 : ∀ w : Nat → Int, dt_D n (dt_w (dt_w M a w) (a + 1) w) = 0 := fun w => dt_cadj ha (fun i _ => by simp only [dt_w]; rw [if_neg hab, if_pos trivial, if_pos trivial])
  have h1 := h0 (fun j => M j a + M j (a + 1))
  rw [dt_D_cadd _ ha, dt_w_comm _ _ _ hab, dt_w_comm _ _ _ hab, dt_D_cadd _ ha1, dt_D_cadd _ ha1, dt_w_comm _ _ _ (Ne.symm hab), dt_w_comm _ _ _ (Ne.symm hab), dt_w_comm _ _ _ (Ne.symm hab), dt_w_comm _ _ _ (Ne.symm hab), h0, h0, dt_w_self M a, dt_w_self M (a + 1)] at h1
  omega
theorem dt_calt {n : Nat} (d : Nat) {M : Nat → Nat → Int} {a : Nat} (hb : a + 1 + d < n) (h : ∀ i, i < n → M i a = M i (a + 1 + d)) : dt_D n M = 0 := by
  induction d generalizing M with
  | zero => exact dt_cadj hb h
  | succ d ih =>
    have h1 := dt_cswap M (a := a + 1 + d) (by omega)
    rw [ih (by omega) (fun i hi => by
      simp only [dt_w]
      rw [if_neg (by omega), if_neg (by omega), if_neg (by omega), if_pos trivial]
      exact h i hi)] at h1
    omega
theorem dt_D_csum {n : Nat} (M : Nat → Nat → Int) {s : Nat} (hs : s < n) (m : Nat) (x : Nat → Int) (U : Nat → Nat → Int) : dt_D n (dt_w M s (fun i => dt_s m (fun t => x t * U i t))) = dt_s m (fun t => x t * dt_D n (dt_w M s (fun i => U i t))) := by
  induction m with
  | zero => simp only [dt_s]; exact dt_D_cnull M hs
  | succ m ih =>
    simp only [dt_s]
    rw [← ih]
    have h := dt_D_clin M hs (x m) (fun i => U i m) (fun i => dt_s m (fun t => x t * U i t))
    have e1 : (fun i => dt_s m (fun t => x t * U i t) + x m * U i m) = (fun i => x m * U i m + dt_s m (fun t => x t * U i t)) := by funext j; omega
    rw [e1, h]; omega
theorem dt_s_swap (m n : Nat) (f : Nat → Nat → Int) : dt_s m (fun a => dt_s n (fun b => f a b)) = dt_s n (fun b => dt_s m (fun a => f a b)) := by
  induction m with
  | zero => simp only [dt_s]; exact (dt_s_zero (fun _ _ => rfl)).symm
  | succ m ih =>
    simp only [dt_s]
    rw [ih]
    have h := dt_s_lin (n := n) 1 (fun b => dt_s m (fun a => f a b)) (f m)
    simp only [Int.one_mul] at h
    exact h.symm
theorem dt_s_mull {n : Nat} (a : Int) (f : Nat → Int) : dt_s n (fun r => f r * a) = dt_s n f * a := by
  have h : (fun r => f r * a) = (fun r => a * f r) := by funext r; exact Int.mul_comm _ _
  rw [h, dt_s_mulr, Int.mul_comm]
theorem dt_B_low {M : Nat → Nat → Int} {k i : Nat} (hi : i < k) (j : Nat) : dt_B M k i j = 0 := by
  rw [dt_B, dt_s_one (s := i) hi (fun r hr hn => by rw [dt_D_alt' (M := dt_r M r (M i)) hn hr hi (by rw [dt_r_at, dt_r_ne _ _ (Ne.symm hn)])]; omega), dt_r_self]
  omega
/-- no pivot in a column: the determinant is 0 -/
theorem dt_nopiv {n k : Nat} {M : Nat → Nat → Int} (hD : dt_D k M ≠ 0) (hk : k < n) (h : ∀ i, k ≤ i → i < n → dt_B M k i k = 0) : dt_D n M = 0 := by
  have hc : ∀ i, i < n → dt_D k M * M i k = dt_s k (fun c => dt_s k (fun r => dt_D k (dt_r M r (dt_u c)) * M r k) * M i c) := by
    intro i hi
    have h0 : dt_B M k i k = 0 := by
      rcases Nat.lt_or_ge i k with q | q
      · exact dt_B_low q k
      · exact h i q hi
    rw [dt_B] at h0
    have h1 : dt_s k (fun r => dt_D k (dt_r M r (M i)) * M r k) = dt_s k (fun c => dt_s k (fun r => dt_D k (dt_r M r (dt_u c)) * M r k) * M i c) := by
      have e1 : dt_s k (fun r => dt_D k (dt_r M r (M i)) * M r k) = dt_s k (fun r => dt_s k (fun c => (M i c * dt_D k (dt_r M r (dt_u c))) * M r k)) := dt_s_congr (fun r hr => by rw [dt_row M hr (M i), dt_s_mull])
      rw [e1, dt_s_swap]
      refine dt_s_congr (fun c hc => ?_)
      rw [← dt_s_mull]
      exact dt_s_congr (fun r hr => by grind)
    rw [← h1]; omega
  have h2 := dt_D_clin M hk (dt_D k M) (fun i => M i k) (fun _ => 0)
  rw [dt_D_cnull M hk, dt_w_self] at h2
  have h3 : dt_D n (dt_w M k (fun i => dt_D k M * M i k + 0)) = dt_D n (dt_w M k (fun i => dt_s k (fun c => dt_s k (fun r => dt_D k (dt_r M r (dt_u c)) * M r k) * M i c))) := dt_D_congr (fun i hi j hj => by
    simp only [dt_w]
    split
    · rw [hc i hi]; omega
    · rfl)
  rw [h3, dt_D_csum M hk k (fun c => dt_s k (fun r => dt_D k (dt_r M r (dt_u c)) * M r k)) M, dt_s_zero (fun c hc => by
    rw [dt_calt (M := dt_w M k (fun i => M i c)) (a := c) (k - c - 1) (by omega) (fun i hi => by
      simp only [dt_w]
      rw [if_neg (by omega), if_pos (by omega)])]; omega)] at h2
  rcases Int.mul_eq_zero.mp (show dt_D k M * dt_D n M = 0 by omega) with q | q
  · exact absurd q hD
  · exact q
