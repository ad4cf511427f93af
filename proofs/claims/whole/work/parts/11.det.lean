/-! determinants of whole numbers, without fractions: a sum, a row put in another's place, the determinant by its last row and column, and the elimination's cells (Bareiss) -/
def dt_s : Nat → (Nat → Int) → Int
  | 0, _ => 0
  | n + 1, f => dt_s n f + f n
theorem dt_s_congr {n : Nat} {f g : Nat → Int} (h : ∀ r, r < n → f r = g r) : dt_s n f = dt_s n g := by
  induction n with
  | zero => rfl
  | succ n ih => rw [dt_s, dt_s, ih (fun r hr => h r (Nat.lt_succ_of_lt hr)), h n (Nat.lt_succ_self n)]
theorem dt_s_lin {n : Nat} (a : Int) (f g : Nat → Int) : dt_s n (fun r => a * f r + g r) = a * dt_s n f + dt_s n g := by
  induction n with
  | zero => simp [dt_s]
  | succ n ih => simp only [dt_s]; rw [ih]; grind
theorem dt_s_zero {n : Nat} {f : Nat → Int} (h : ∀ r, r < n → f r = 0) : dt_s n f = 0 := by
  induction n with
  | zero => rfl
  | succ n ih => rw [dt_s, ih (fun r hr => h r (Nat.lt_succ_of_lt hr)), h n (Nat.lt_succ_self n)]; rfl
theorem dt_s_one {n : Nat} {f : Nat → Int} {s : Nat} (hs : s < n) (h : ∀ r, r < n → r ≠ s → f r = 0) : dt_s n f = f s := by
  induction n with
  | zero => omega
  | succ n ih =>
    rw [dt_s]
    by_cases e : s = n
    · subst e
      rw [dt_s_zero (fun r hr => h r (by omega) (by omega))]; omega
    · rw [ih (by omega) (fun r hr hn => h r (by omega) hn), h n (by omega) (by omega)]; omega
theorem dt_s_two {n : Nat} {f : Nat → Int} {a b : Nat} (ha : a < n) (hb : b < n) (hab : a < b) (h : ∀ r, r < n → r ≠ a → r ≠ b → f r = 0) : dt_s n f = f a + f b := by
  induction n with
  | zero => omega
  | succ n ih =>
    rw [dt_s]
    by_cases e : b = n
    · subst e
      rw [dt_s_one (s := a) (by omega) (fun r hr hn => h r (by omega) hn (by omega))]
    · rw [ih (by omega) (by omega) (fun r hr h1 h2 => h r (by omega) h1 h2), h n (by omega) (by omega) (by omega)]; omega
/-- the matrix with the row v in the place r -/
def dt_r (M : Nat → Nat → Int) (r : Nat) (v : Nat → Int) : Nat → Nat → Int := fun i => if i = r then v else M i
theorem dt_r_at (M : Nat → Nat → Int) (r : Nat) (v : Nat → Int) : dt_r M r v r = v := by simp [dt_r]
theorem dt_r_ne (M : Nat → Nat → Int) {r i : Nat} (v : Nat → Int) (h : i ≠ r) : dt_r M r v i = M i := by simp [dt_r, h]
theorem dt_r_rr (M : Nat → Nat → Int) (r : Nat) (v w : Nat → Int) : dt_r (dt_r M r v) r w = dt_r M r w := by
  funext i
  by_cases h : i = r <;> simp [dt_r, h]
theorem dt_r_comm (M : Nat → Nat → Int) {r s : Nat} (v w : Nat → Int) (h : r ≠ s) : dt_r (dt_r M r v) s w = dt_r (dt_r M s w) r v := by
  funext i
  by_cases h1 : i = r
  · subst h1; simp [dt_r, h]
  · by_cases h2 : i = s
    · subst h2; simp [dt_r, h1]
    · simp [dt_r, h1, h2]
theorem dt_r_self (M : Nat → Nat → Int) (r : Nat) : dt_r M r (M r) = M := by
  funext i
  by_cases h : i = r
  · subst h; simp [dt_r]
  · simp [dt_r, h]
/-- the determinant of the first n rows and columns -/
def dt_D : Nat → (Nat → Nat → Int) → Int
  | 0, _ => 1
  | k + 1, M => dt_D k M * M k k - dt_s k (fun r => dt_D k (dt_r M r (M k)) * M r k)
theorem dt_D_congr {n : Nat} {M N : Nat → Nat → Int} (h : ∀ i, i < n → ∀ j, j < n → M i j = N i j) : dt_D n M = dt_D n N := by
  induction n generalizing M N with
  | zero => rfl
  | succ k ih =>
    rw [dt_D, dt_D, ih (fun i hi j hj => h i (by omega) j (by omega)), h k (by omega) k (by omega)]
    congr 1
    refine dt_s_congr (fun r hr => ?_)
    rw [h r (by omega) k (by omega)]
    congr 1
    refine ih (fun i hi j hj => ?_)
    by_cases e : i = r
    · subst e; rw [dt_r_at, dt_r_at]; exact h k (by omega) j (by omega)
    · rw [dt_r_ne _ _ e, dt_r_ne _ _ e]; exact h i (by omega) j (by omega)
theorem dt_D_last (k : Nat) (M : Nat → Nat → Int) (u : Nat → Int) : dt_D (k + 1) (dt_r M k u) = dt_D k M * u k - dt_s k (fun r => dt_D k (dt_r M r u) * M r k) := by
  rw [dt_D, dt_r_at]
  congr 1
  · congr 1
    exact dt_D_congr (fun i hi j hj => by rw [dt_r_ne _ _ (by omega)])
  · refine dt_s_congr (fun r hr => ?_)
    rw [dt_r_ne M u (show r ≠ k by omega)]
    congr 1
    refine dt_D_congr (fun i hi j hj => ?_)
    by_cases e : i = r
    · subst e; rw [dt_r_at, dt_r_at]
    · rw [dt_r_ne _ _ e, dt_r_ne _ _ e, dt_r_ne _ _ (by omega)]
theorem dt_D_in (k : Nat) (M : Nat → Nat → Int) {s : Nat} (hs : s < k) (u : Nat → Int) : dt_D (k + 1) (dt_r M s u) = dt_D k (dt_r M s u) * M k k - dt_s k (fun r => if r = s then dt_D k (dt_r M s (M k)) * u k else dt_D k (dt_r (dt_r M r (M k)) s u) * M r k) := by
  rw [dt_D, dt_r_ne M u (show k ≠ s by omega)]
  congr 1
  refine dt_s_congr (fun r hr => ?_)
  by_cases e : r = s
  · subst e
    rw [if_pos rfl, dt_r_rr, dt_r_at]
  · rw [if_neg e, dt_r_comm M u (M k) (Ne.symm e), dt_r_ne M u e]
/-- it is linear in each row -/
theorem dt_D_lin {n : Nat} (M : Nat → Nat → Int) {s : Nat} (hs : s < n) (a : Int) (v w : Nat → Int) : dt_D n (dt_r M s (fun j => a * v j + w j)) = a * dt_D n (dt_r M s v) + dt_D n (dt_r M s w) := by
  induction n generalizing M s with
  | zero => omega
  | succ k ih =>
    by_cases e : s = k
    · subst e
      rw [dt_D_last, dt_D_last, dt_D_last]
      have h1 : dt_s s (fun r => dt_D s (dt_r M r (fun j => a * v j + w j)) * M r s) = a * dt_s s (fun r => dt_D s (dt_r M r v) * M r s) + dt_s s (fun r => dt_D s (dt_r M r w) * M r s) := by
        rw [← dt_s_lin]
        refine dt_s_congr (fun r hr => ?_)
        rw [ih M hr]; grind
      rw [h1]; grind
    · have hs' : s < k := by omega
      rw [dt_D_in k M hs', dt_D_in k M hs', dt_D_in k M hs', ih M hs']
      have h1 : dt_s k (fun r => if r = s then dt_D k (dt_r M s (M k)) * (a * v k + w k) else dt_D k (dt_r (dt_r M r (M k)) s (fun j => a * v j + w j)) * M r k)
          = a * dt_s k (fun r => if r = s then dt_D k (dt_r M s (M k)) * v k else dt_D k (dt_r (dt_r M r (M k)) s v) * M r k) + dt_s k (fun r => if r = s then dt_D k (dt_r M s (M k)) * w k else dt_D k (dt_r (dt_r M r (M k)) s w) * M r k) := by
        rw [← dt_s_lin]
        refine dt_s_congr (fun r hr => ?_)
        by_cases h : r = s
        · simp only [if_pos h]; grind
        · simp only [if_neg h]; rw [ih _ hs']; grind
      rw [h1]; grind
theorem dt_D_add {n : Nat} (M : Nat → Nat → Int) {s : Nat} (hs : s < n) (v w : Nat → Int) : dt_D n (dt_r M s (fun j => v j + w j)) = dt_D n (dt_r M s v) + dt_D n (dt_r M s w) := by
  have h := dt_D_lin M hs 1 v w
  rw [Int.one_mul] at h
  rw [← h]
  congr 2
  funext j; rw [Int.one_mul]
theorem dt_D_null {n : Nat} (M : Nat → Nat → Int) {s : Nat} (hs : s < n) : dt_D n (dt_r M s (fun _ => 0)) = 0 := by
  have h := dt_D_add M hs (fun _ => 0) (fun _ => 0)
  simp only [Int.add_zero] at h
  omega
/-- it is 0 where two rows are the same -/
theorem dt_D_alt {n : Nat} {M : Nat → Nat → Int} {a b : Nat} (hab : a < b) (hb : b < n) (h : M a = M b) : dt_D n M = 0 := by
  induction n generalizing M a b with
  | zero => omega
  | succ k ih =>
    rw [dt_D]
    by_cases e : b = k
    · subst e
      rw [dt_s_one (s := a) hab (fun r hr hn => ?_)]
      · rw [← h, dt_r_self, h]; omega
      · have h0 : dt_D b (dt_r M r (M b)) = 0 := by
          rcases Nat.lt_or_gt_of_ne hn with q | q
          · exact ih q hab (by rw [dt_r_at, dt_r_ne _ _ (by omega), h])
          · exact ih q hr (by rw [dt_r_at, dt_r_ne _ _ (by omega), h])
        rw [h0]; omega
    · have hb' : b < k := by omega
      rw [ih hab hb' h, dt_s_two (a := a) (b := b) (by omega) hb' hab (fun r hr h1 h2 => by
        rw [ih (M := dt_r M r (M k)) hab hb' (by rw [dt_r_ne _ _ (Ne.symm h1), dt_r_ne _ _ (Ne.symm h2), h])]; omega)]
      have hz : dt_D k (dt_r M a (M k)) + dt_D k (dt_r M b (M k)) = 0 := by
        have q0 : dt_D k (dt_r (dt_r M a (fun j => M k j + M a j)) b (fun j => M k j + M a j)) = 0 := ih hab hb' (by rw [dt_r_at, dt_r_ne _ _ (by omega), dt_r_at])
        rw [dt_D_add _ hb', dt_r_comm _ _ _ (show a ≠ b by omega), dt_r_comm _ _ _ (show a ≠ b by omega), dt_D_add _ (by omega), dt_D_add _ (by omega)] at q0
        have q1 : dt_D k (dt_r (dt_r M b (M k)) a (M k)) = 0 := ih hab hb' (by rw [dt_r_at, dt_r_ne _ _ (by omega), dt_r_at])
        have q2 : dt_D k (dt_r (dt_r M b (M a)) a (M a)) = 0 := ih hab hb' (by rw [dt_r_at, dt_r_ne _ _ (by omega), dt_r_at])
        have q3 : dt_r (dt_r M b (M k)) a (M a) = dt_r M b (M k) := by
          have := dt_r_self (dt_r M b (M k)) a
          rwa [dt_r_ne _ _ (show a ≠ b by omega)] at this
        have q4 : dt_r (dt_r M b (M a)) a (M k) = dt_r M a (M k) := by
          rw [h, dt_r_self]
        have e1 : (fun j => M k j) = M k := rfl
        have e2 : (fun j => M a j) = M a := rfl
        rw [q1, q2, q3, q4] at q0
        omega
      rw [h]
      have e3 : M a k = M b k := by rw [h]
      grind
theorem dt_D_alt' {n : Nat} {M : Nat → Nat → Int} {a b : Nat} (hab : a ≠ b) (ha : a < n) (hb : b < n) (h : M a = M b) : dt_D n M = 0 := by
  rcases Nat.lt_or_gt_of_ne hab with q | q
  · exact dt_D_alt q hb h
  · exact dt_D_alt q ha h.symm
theorem dt_D_sum {n : Nat} (M : Nat → Nat → Int) {r : Nat} (hr : r < n) (m : Nat) (x : Nat → Int) : dt_D n (dt_r M r (fun j => dt_s m (fun t => x t * M t j))) = dt_s m (fun t => x t * dt_D n (dt_r M r (M t))) := by
  induction m with
  | zero => simp only [dt_s]; exact dt_D_null M hr
  | succ m ih =>
    simp only [dt_s]
    rw [← ih]
    have h := dt_D_lin M hr (x m) (M m) (fun j => dt_s m (fun t => x t * M t j))
    have e1 : (fun j => dt_s m (fun t => x t * M t j) + x m * M m j) = (fun j => x m * M m j + dt_s m (fun t => x t * M t j)) := by funext j; omega
    rw [e1, h]; omega
/-- Cramer's rule -/
theorem dt_cramer {n : Nat} {M : Nat → Nat → Int} {x y : Nat → Int} (hx : ∀ j, j < n → dt_s n (fun t => x t * M t j) = y j) {r : Nat} (hr : r < n) : x r * dt_D n M = dt_D n (dt_r M r y) := by
  have h1 : dt_D n (dt_r M r y) = dt_D n (dt_r M r (fun j => dt_s n (fun t => x t * M t j))) := dt_D_congr (fun i hi j hj => by
    by_cases e : i = r
    · subst e; rw [dt_r_at, dt_r_at]; exact (hx j hj).symm
    · rw [dt_r_ne _ _ e, dt_r_ne _ _ e])
  rw [h1, dt_D_sum M hr, dt_s_one (s := r) hr (fun t ht hn => by
    rw [dt_D_alt' (M := dt_r M r (M t)) hn ht hr (by rw [dt_r_at, dt_r_ne _ _ hn])]; omega), dt_r_self]
/-- a cell of the elimination behind k steps -/
def dt_B (M : Nat → Nat → Int) (k i j : Nat) : Int := dt_D k M * M i j - dt_s k (fun r => dt_D k (dt_r M r (M i)) * M r j)
theorem dt_B_0 (M : Nat → Nat → Int) (i j : Nat) : dt_B M 0 i j = M i j := by simp [dt_B, dt_D, dt_s]
theorem dt_B_D (M : Nat → Nat → Int) (k : Nat) : dt_D (k + 1) M = dt_B M k k k := rfl
theorem dt_s_mulr {n : Nat} (a : Int) (f : Nat → Int) : dt_s n (fun r => a * f r) = a * dt_s n f := by
  have h := dt_s_lin (n := n) a f (fun _ => 0)
  rw [dt_s_zero (f := fun _ => 0) (fun _ _ => rfl)] at h
  simp only [Int.add_zero] at h
  exact h
/-- the step: what is divided by the pivot before is the next cell times it -/
theorem dt_step {M : Nat → Nat → Int} {k : Nat} (hp' : dt_D (k + 1) M ≠ 0) (hv : ∀ i j, j < k → dt_B M k i j = 0) (i j : Nat) :
    dt_D (k + 1) M * dt_B M k i j - dt_B M k i k * dt_B M k k j = dt_D k M * dt_B M (k + 1) i j := by
  have key : ∀ j, dt_D (k + 1) M * dt_B M k i j - dt_B M k i k * dt_B M k k j
      = dt_D k M * dt_D (k + 1) M * M i j - dt_s (k + 1) (fun r => (if r < k then dt_D (k + 1) M * dt_D k (dt_r M r (M i)) - dt_B M k i k * dt_D k (dt_r M r (M k)) else dt_B M k i k * dt_D k M) * M r j) := by
    intro j
    rw [dt_s]
    have h1 : dt_s k (fun r => (if r < k then dt_D (k + 1) M * dt_D k (dt_r M r (M i)) - dt_B M k i k * dt_D k (dt_r M r (M k)) else dt_B M k i k * dt_D k M) * M r j)
        = dt_D (k + 1) M * dt_s k (fun r => dt_D k (dt_r M r (M i)) * M r j) + dt_s k (fun r => (- dt_B M k i k) * (dt_D k (dt_r M r (M k)) * M r j)) := by
      rw [← dt_s_lin]
      refine dt_s_congr (fun r hr => ?_)
      rw [if_pos hr]; grind
    rw [h1, dt_s_mulr, if_neg (by omega)]
    generalize dt_B M k i k = z
    simp only [dt_B]
    grind
  have h0 : ∀ j, j < k + 1 → dt_s (k + 1) (fun r => (if r < k then dt_D (k + 1) M * dt_D k (dt_r M r (M i)) - dt_B M k i k * dt_D k (dt_r M r (M k)) else dt_B M k i k * dt_D k M) * M r j) = dt_D k M * dt_D (k + 1) M * M i j := by
    intro j hj
    have hk := key j
    have hz : dt_D (k + 1) M * dt_B M k i j - dt_B M k i k * dt_B M k k j = 0 := by
      by_cases e : j = k
      · subst e; rw [dt_B_D]; grind
      · rw [hv i j (by omega), hv k j (by omega)]; omega
    omega
  have hc : ∀ r, r < k + 1 → (if r < k then dt_D (k + 1) M * dt_D k (dt_r M r (M i)) - dt_B M k i k * dt_D k (dt_r M r (M k)) else dt_B M k i k * dt_D k M) = dt_D k M * dt_D (k + 1) (dt_r M r (M i)) := by
    intro r hr
    have h1 := dt_cramer (n := k + 1) (M := M) h0 hr
    have h2 : dt_D (k + 1) (dt_r M r (fun j => dt_D k M * dt_D (k + 1) M * M i j)) = dt_D k M * dt_D (k + 1) M * dt_D (k + 1) (dt_r M r (M i)) := by
      have h3 := dt_D_lin M hr (dt_D k M * dt_D (k + 1) M) (M i) (fun _ => 0)
      rw [dt_D_null M hr] at h3
      simp only [Int.add_zero] at h3
      exact h3
    rw [h2] at h1
    refine Int.eq_of_mul_eq_mul_right hp' ?_
    rw [h1]; grind
  rw [key j, dt_s_congr (g := fun r => dt_D k M * (dt_D (k + 1) (dt_r M r (M i)) * M r j)) (fun r hr => by rw [hc r hr]; grind), dt_s_mulr]
  simp only [dt_B]
  grind
theorem dt_van {M : Nat → Nat → Int} {k : Nat} (hp : dt_D k M ≠ 0) (hp' : dt_D (k + 1) M ≠ 0) (hv : ∀ i j, j < k → dt_B M k i j = 0) : ∀ i j, j < k + 1 → dt_B M (k + 1) i j = 0 := by
  intro i j hj
  have h := dt_step hp' hv i j
  have hz : dt_D (k + 1) M * dt_B M k i j - dt_B M k i k * dt_B M k k j = 0 := by
    by_cases e : j = k
    · subst e; rw [dt_B_D]; grind
    · rw [hv i j (by omega), hv k j (by omega)]; omega
  rw [hz] at h
  rcases Int.mul_eq_zero.mp h.symm with q | q
  · exact absurd q hp
  · exact q
/-- how large they get -/
def dt_f : Nat → Nat
  | 0 => 1
  | n + 1 => (n + 1) * dt_f n
theorem dt_s_le {n : Nat} {f : Nat → Int} {c : Nat} (h : ∀ r, r < n → (f r).natAbs ≤ c) : (dt_s n f).natAbs ≤ n * c := by
  induction n with
  | zero => simp [dt_s]
  | succ n ih =>
    have h1 := ih (fun r hr => h r (by omega))
    have h2 := h n (by omega)
    have h3 := Int.natAbs_add_le (dt_s n f) (f n)
    rw [dt_s, Nat.succ_mul]
    omega
theorem dt_D_le {n : Nat} {M : Nat → Nat → Int} {b : Nat} (h : ∀ i j, i < n → j < n → (M i j).natAbs ≤ b) : (dt_D n M).natAbs ≤ dt_f n * b ^ n := by
  induction n generalizing M with
  | zero => simp [dt_D, dt_f]
  | succ k ih =>
    have h1 : (dt_D k M * M k k).natAbs ≤ dt_f k * b ^ k * b := by
      rw [Int.natAbs_mul]
      exact Nat.mul_le_mul (ih (fun i j hi hj => h i j (by omega) (by omega))) (h k k (by omega) (by omega))
    have h2 : (dt_s k (fun r => dt_D k (dt_r M r (M k)) * M r k)).natAbs ≤ k * (dt_f k * b ^ k * b) := by
      refine dt_s_le (fun r hr => ?_)
      rw [Int.natAbs_mul]
      refine Nat.mul_le_mul (ih (fun i j hi hj => ?_)) (h r k (by omega) (by omega))
      by_cases e : i = r
      · subst e; rw [dt_r_at]; exact h k j (by omega) (by omega)
      · rw [dt_r_ne _ _ e]; exact h i j (by omega) (by omega)
    have h3 := Int.natAbs_sub_le (dt_D k M * M k k) (dt_s k (fun r => dt_D k (dt_r M r (M k)) * M r k))
    rw [dt_D, dt_f, Nat.pow_succ]
    have e1 : (k + 1) * dt_f k * (b ^ k * b) = k * (dt_f k * b ^ k * b) + dt_f k * b ^ k * b := by
      rw [Nat.add_mul, Nat.one_mul, Nat.add_mul]
      congr 1
      · rw [Nat.mul_assoc, Nat.mul_assoc]
      · rw [Nat.mul_assoc]
    rw [e1]
    omega
theorem dt_B_le {M : Nat → Nat → Int} {b k i j : Nat} (h : ∀ r c, (M r c).natAbs ≤ b) : (dt_B M k i j).natAbs ≤ dt_f (k + 1) * b ^ (k + 1) := by
  have h1 : (dt_D k M * M i j).natAbs ≤ dt_f k * b ^ k * b := by
    rw [Int.natAbs_mul]
    exact Nat.mul_le_mul (dt_D_le (fun i j _ _ => h i j)) (h i j)
  have h2 : (dt_s k (fun r => dt_D k (dt_r M r (M i)) * M r j)).natAbs ≤ k * (dt_f k * b ^ k * b) := by
    refine dt_s_le (fun r hr => ?_)
    rw [Int.natAbs_mul]
    refine Nat.mul_le_mul (dt_D_le (fun i' j' hi hj => ?_)) (h r j)
    by_cases e : i' = r
    · subst e; rw [dt_r_at]; exact h i j'
    · rw [dt_r_ne _ _ e]; exact h i' j'
  have h3 := Int.natAbs_sub_le (dt_D k M * M i j) (dt_s k (fun r => dt_D k (dt_r M r (M i)) * M r j))
  rw [dt_B, dt_f, Nat.pow_succ]
  have e1 : (k + 1) * dt_f k * (b ^ k * b) = k * (dt_f k * b ^ k * b) + dt_f k * b ^ k * b := by
    rw [Nat.add_mul, Nat.one_mul, Nat.add_mul]
    congr 1
    · rw [Nat.mul_assoc, Nat.mul_assoc]
    · rw [Nat.mul_assoc]
  rw [e1]
  omega
/-- a cell knows of the rows above the step, and of its own row -/
theorem dt_B_congr {M N : Nat → Nat → Int} {k i i' j : Nat} (h : ∀ r, r < k → M r = N r) (hi : M i = N i') : dt_B M k i j = dt_B N k i' j := by
  rw [dt_B, dt_B, hi, dt_D_congr (M := M) (N := N) (fun r hr c _ => by rw [h r hr])]
  congr 1
  refine dt_s_congr (fun r hr => ?_)
  rw [h r hr]
  congr 1
  refine dt_D_congr (fun a ha c _ => ?_)
  by_cases e : a = r
  · subst e; rw [dt_r_at, dt_r_at]
  · rw [dt_r_ne _ _ e, dt_r_ne _ _ e, h a ha]
