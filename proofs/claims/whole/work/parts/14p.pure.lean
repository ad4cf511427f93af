/-- how large a carry gets -/
theorem ch_bd {x : Nat → Int} {l m : Int} (hl : l ≤ 0) (hm : 0 ≤ m) (h : ∀ i, 33554431 * l ≤ x i ∧ x i ≤ 33554431 * m) (i : Nat) : l ≤ ch_c 33554432 x i ∧ ch_c 33554432 x i ≤ m := by
  induction i with
  | zero => exact ⟨hl, hm⟩
  | succ i ih =>
    have h1 := h i
    rw [ch_c]
    omega
theorem ch_sum25 (x : Nat → Int) (n : Nat) : ch_s 33554432 x n = (nu_v 33554432 (ch_e 33554432 x) n : Int) + ch_c 33554432 x n * (33554432 : Int) ^ n := ch_sum (B := 33554432) (by decide) x n
theorem ch_e25 (x : Nat → Int) (i : Nat) : ch_e 33554432 x i < 33554432 := by
  have := ch_e_lt (B := 33554432) (x := x) (by decide) i
  omega
theorem ch_zero {S E c P : Int} (h1 : 0 ≤ S) (h2 : S < P) (h3 : 0 ≤ E) (h4 : E < P) (h : S = E + c * P) : c = 0 := by
  have hP : 0 < P := by omega
  rcases Int.lt_or_le c 1 with q | q
  · rcases Int.lt_or_le c 0 with r | r
    · have : c * P ≤ (-1) * P := Int.mul_le_mul_of_nonneg_right (by omega) (by omega)
      omega
    · omega
  · have : 1 * P ≤ c * P := Int.mul_le_mul_of_nonneg_right q (by omega)
    omega
/-- columns whose sum has no more limbs: nothing is carried on -/
theorem ch_fit {x : Nat → Int} {n S : Nat} (hS : ch_s 33554432 x n = (S : Int)) (hlt : S < 33554432 ^ n) : nu_v 33554432 (ch_e 33554432 x) n = S := by
  have h1 := ch_sum25 x n
  have h2 := nu_v_lt (B := 33554432) (d := ch_e 33554432 x) (n := n) (fun j _ => ch_e25 x j)
  have e1 : ((33554432 ^ n : Nat) : Int) = (33554432 : Int) ^ n := by rw [Int.natCast_pow]; rfl
  have h3 : ch_c 33554432 x n = 0 := ch_zero (S := S) (E := (nu_v 33554432 (ch_e 33554432 x) n : Int)) (P := (33554432 : Int) ^ n) (by omega) (by rw [← e1]; omega) (by omega) (by rw [← e1]; omega) (by rw [← hS]; exact h1)
  rw [h3, Int.zero_mul, Int.add_zero, hS] at h1
  omega
theorem ch_nu25 (d : Nat → Nat) (n : Nat) : ch_s 33554432 (fun i => (d i : Int)) n = (nu_v 33554432 d n : Int) := ch_s_nu 33554432 d n
theorem nu_scale (B : Nat) (d : Nat → Nat) (f n : Nat) : nu_v B (fun t => d t * f) n = nu_v B d n * f := by
  induction n with
  | zero => simp [nu_v]
  | succ n ih => rw [nu_v, nu_v, ih]; grind
theorem nu_ext (B : Nat) (d : Nat → Nat) {k m : Nat} (h : k ≤ m) : nu_v B (fun t => if t < k then d t else 0) m = nu_v B d k := by
  induction m with
  | zero => rw [show k = 0 by omega]; rfl
  | succ m ih =>
    by_cases q : k = m + 1
    · subst q
      exact nu_v_congr (fun j hj => by rw [if_pos hj])
    · rw [nu_v, ih (by omega), if_neg (by omega), Nat.zero_mul, Nat.add_zero]
/-- a product by a number below the base has one limb more at most -/
theorem mul_fit {z k f : Nat} (h : z < 33554432 ^ k) (hf : f < 33554432) : z * f < 33554432 ^ (k + 1) := by
  rw [Nat.pow_succ]
  rcases Nat.eq_zero_or_pos f with q | q
  · rw [q, Nat.mul_zero]; exact Nat.mul_pos (Nat.pow_pos (by decide)) (by decide)
  · have h1 : z * f < 33554432 ^ k * f := Nat.mul_lt_mul_of_pos_right h q
    have h2 : 33554432 ^ k * f ≤ 33554432 ^ k * 33554432 := Nat.mul_le_mul_left _ (by omega)
    omega
