/-! numbers by their limbs, the lowest first -/
def nu_v (B : Nat) (d : Nat → Nat) : Nat → Nat
  | 0 => 0
  | n + 1 => nu_v B d n + d n * B ^ n
/-- how many limbs are in use among the first t -/
def nu_k (d : Nat → Nat) : Nat → Nat
  | 0 => 0
  | t + 1 => if d t = 0 then nu_k d t else t + 1
theorem nu_k_le (d : Nat → Nat) (t : Nat) : nu_k d t ≤ t := by
  induction t with
  | zero => exact Nat.le_refl 0
  | succ t ih => rw [nu_k]; split <;> omega
theorem nu_v_k (B : Nat) (d : Nat → Nat) (t : Nat) : nu_v B d (nu_k d t) = nu_v B d t := by
  induction t with
  | zero => rfl
  | succ t ih =>
    rw [nu_k]
    split
    · next h => rw [ih, nu_v, h, Nat.zero_mul, Nat.add_zero]
    · rfl
theorem nu_k_top (d : Nat → Nat) (t : Nat) (h : 0 < nu_k d t) : d (nu_k d t - 1) ≠ 0 := by
  induction t with
  | zero => exact absurd h (by simp [nu_k])
  | succ t ih =>
    rw [nu_k] at h ⊢
    split
    · next q => rw [if_pos q] at h; exact ih h
    · next q => exact q
theorem nu_v_lt {B : Nat} {d : Nat → Nat} {n : Nat} (h : ∀ j, j < n → d j < B) : nu_v B d n < B ^ n := by
  induction n with
  | zero => exact Nat.one_pos
  | succ n ih =>
    have h1 := ih (fun j hj => h j (by omega))
    have h2 : d n + 1 ≤ B := h n (by omega)
    have h3 : (d n + 1) * B ^ n ≤ B * B ^ n := Nat.mul_le_mul_right _ h2
    rw [nu_v, Nat.pow_succ, Nat.mul_comm (B ^ n) B]
    rw [Nat.add_mul, Nat.one_mul] at h3
    omega
theorem nu_v_congr {B : Nat} {d e : Nat → Nat} {n : Nat} (h : ∀ j, j < n → d j = e j) : nu_v B d n = nu_v B e n := by
  induction n with
  | zero => rfl
  | succ n ih => rw [nu_v, nu_v, ih (fun j hj => h j (by omega)), h n (by omega)]
theorem nu_v_low {B : Nat} {d : Nat → Nat} {n : Nat} (h : 0 < n) (h2 : d (n - 1) ≠ 0) : B ^ (n - 1) ≤ nu_v B d n := by
  obtain ⟨m, rfl⟩ : ∃ m, n = m + 1 := ⟨n - 1, by omega⟩
  rw [nu_v, Nat.add_sub_cancel] at *
  have h3 : 1 * B ^ m ≤ d m * B ^ m := Nat.mul_le_mul_right _ (Nat.one_le_iff_ne_zero.mpr h2)
  omega
