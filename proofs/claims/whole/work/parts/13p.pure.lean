/-- one below: an index that counts down to -1 -/
def nP : Nat → Int32
  | 0 => -1
  | j + 1 => nI j
theorem nP_dec (j : Nat) : nI j + (-1) = nP j := by
  cases j with
  | zero => decide
  | succ j => exact pk_m1 j
theorem nP_sub (j : Nat) : nI j - 1 = nP j := by
  cases j with
  | zero => decide
  | succ j => exact nI_pred j
theorem wn_sg {z : Int} {g : Int32} {v : Nat} (hg : g = (if z < 0 then 1 else 0)) (hv : v = z.natAbs) : (if g = 0 then (v : Int) else -(v : Int)) = z := by
  subst hv
  by_cases h : z < 0
  · rw [if_pos h] at hg
    rw [if_neg (by rw [hg]; decide)]; omega
  · rw [if_neg h] at hg
    rw [if_pos hg]; omega
/-- the quotient towards 0 -/
def qz (z : Int) (q : Nat) : Int := if z < 0 then -((z.natAbs / q : Nat) : Int) else ((z.natAbs / q : Nat) : Int)
theorem qz_abs (z : Int) (q : Nat) : (qz z q).natAbs = z.natAbs / q := by rw [qz]; generalize z.natAbs / q = t; split <;> omega
theorem qz_qz (z : Int) (a b : Nat) : qz (qz z a) b = qz z (a * b) := by
  have h1 := qz_abs z a
  rw [qz, h1, Nat.div_div_eq_div_mul]
  by_cases h : z < 0
  · have h2 : qz z a = -((z.natAbs / a : Nat) : Int) := by rw [qz, if_pos h]
    have h3 : qz z (a * b) = -((z.natAbs / (a * b) : Nat) : Int) := by rw [qz, if_pos h]
    rw [h3]
    split
    · rfl
    · next h4 =>
      have h5 : z.natAbs / a = 0 := by omega
      have h6 : z.natAbs / (a * b) = 0 := by rw [← Nat.div_div_eq_div_mul, h5, Nat.zero_div]
      omega
  · have h2 : qz z a = ((z.natAbs / a : Nat) : Int) := by rw [qz, if_neg h]
    have h3 : qz z (a * b) = ((z.natAbs / (a * b) : Nat) : Int) := by rw [qz, if_neg h]
    rw [h3, if_neg (by omega)]
theorem qz_1 (z : Int) : qz z 1 = z := by rw [qz, Nat.div_one]; split <;> omega
theorem wn_qz {z : Int} {g : Int32} {v q : Nat} (hg : g = (if z < 0 then 1 else 0)) (hv : v = z.natAbs / q) : (if g = 0 then (v : Int) else -(v : Int)) = qz z q := by
  subst hv
  rw [qz]
  by_cases h : z < 0
  · rw [if_pos h] at hg
    rw [if_neg (by rw [hg]; decide), if_pos h]
  · rw [if_neg h] at hg
    rw [if_pos hg, if_neg h]
theorem wn_mul {z : Int} {g : Int32} {v f : Nat} (hg : g = (if z < 0 then 1 else 0)) (hv : v = z.natAbs * f) : (if g = 0 then (v : Int) else -(v : Int)) = z * f := by
  subst hv
  by_cases h : z < 0
  · rw [if_pos h] at hg
    rw [if_neg (by rw [hg]; decide), Int.natCast_mul, show ((z.natAbs : Nat) : Int) = -z by omega]
    grind
  · rw [if_neg h] at hg
    rw [if_pos hg, Int.natCast_mul, show ((z.natAbs : Nat) : Int) = z by omega]
/-- a digit of a number -/
theorem nu_at {B : Nat} {d : Nat → Nat} {k : Nat} (hd : ∀ j, j < k → d j < B) {i : Nat} (hi : i < k) : nu_v B d k / B ^ i % B = d i := by
  induction k with
  | zero => omega
  | succ k ih =>
    have hB : 0 < B := Nat.lt_of_le_of_lt (Nat.zero_le _) (hd i hi)
    rw [nu_v]
    by_cases e : i = k
    · subst e
      have h1 := nu_v_lt (B := B) (d := d) (n := i) (fun j hj => hd j (by omega))
      rw [Nat.add_mul_div_right _ _ (Nat.pow_pos hB), Nat.div_eq_of_lt h1, Nat.zero_add, Nat.mod_eq_of_lt (hd i hi)]
    · have hik : i < k := by omega
      obtain ⟨m, rfl⟩ : ∃ m, k = i + 1 + m := ⟨k - (i + 1), by omega⟩
      have e1 : d (i + 1 + m) * B ^ (i + 1 + m) = (d (i + 1 + m) * B ^ m * B) * B ^ i := by
        rw [Nat.pow_add, Nat.pow_succ]; grind
      rw [e1, Nat.add_mul_div_right _ _ (Nat.pow_pos hB), Nat.add_mul_mod_self_right]
      exact ih (fun j hj => hd j (by omega)) hik
/-- one step of the division by a small number: the limb of the quotient, and the rest -/
theorem dv_step {B V i q : Nat} (hB : 0 < B) (hq : 0 < q) : ((V / B ^ (i + 1)) % q * B + V / B ^ i % B) / q = V / q / B ^ i % B ∧ ((V / B ^ (i + 1)) % q * B + V / B ^ i % B) % q = V / B ^ i % q := by
  have e1 : V / B ^ (i + 1) = V / B ^ i / B := by rw [Nat.pow_succ, Nat.div_div_eq_div_mul]
  have e2 : V / q / B ^ i = V / B ^ i / q := by rw [Nat.div_div_eq_div_mul, Nat.div_div_eq_div_mul, Nat.mul_comm]
  rw [e1, e2]
  generalize V / B ^ i = Y
  have h1 := Nat.div_add_mod Y B
  have h2 := Nat.div_add_mod (Y / B) q
  have e3 : Y = (Y / B % q * B + Y % B) + q * (Y / B / q * B) := by
    have : Y / B * B = (Y / B / q * q + Y / B % q) * B := by rw [Nat.mul_comm (Y / B / q) q, h2]
    rw [Nat.add_mul] at this
    have h3 : Y = Y / B * B + Y % B := by rw [Nat.mul_comm]; omega
    have h4 : Y / B / q * q * B = q * (Y / B / q * B) := by grind
    omega
  have hlt : (Y / B % q * B + Y % B) / q < B := by
    rw [Nat.div_lt_iff_lt_mul hq]
    have h5 : Y / B % q + 1 ≤ q := Nat.mod_lt _ hq
    have h6 := Nat.mod_lt Y hB
    have h7 : (Y / B % q + 1) * B ≤ q * B := Nat.mul_le_mul_right _ h5
    rw [Nat.add_mul, Nat.one_mul] at h7
    rw [Nat.mul_comm B q]
    omega
  constructor
  · have e4 : Y / q = (Y / B % q * B + Y % B) / q + Y / B / q * B := by
      conv => lhs; rw [e3]
      rw [Nat.add_mul_div_left _ _ hq]
    rw [e4, Nat.add_mul_mod_self_right, Nat.mod_eq_of_lt hlt]
  · conv => rhs; rw [e3]
    rw [Nat.add_mul_mod_self_left]
/-- a limb is written, the higher ones (below k) are new already -/
theorem nu_dn (e d : Nat → Nat) (i k : Nat) (hi : i < k) : upd (fun j => nI (if i + 1 ≤ j ∧ j < k then e j else d j)) i (nI (e i)) = fun j => nI (if i ≤ j ∧ j < k then e j else d j) := by
  funext j
  by_cases h : j = i
  · subst h; simp [upd, hi]
  · simp only [upd, h, if_false]
    congr 1
    by_cases h2 : i + 1 ≤ j ∧ j < k
    · rw [if_pos h2, if_pos (by omega)]
    · rw [if_neg h2, if_neg (by omega)]
theorem nu_dn0 (e d : Nat → Nat) (k : Nat) : (fun j => nI (d j)) = fun j => nI (if k ≤ j ∧ j < k then e j else d j) := by
  funext j; rw [if_neg (by omega)]
theorem nu_if2 {B : Nat} {e d : Nat → Nat} {t : Nat} : nu_v B (fun j => if 0 ≤ j ∧ j < t then e j else d j) t = nu_v B e t := nu_v_congr (fun j hj => by rw [if_pos ⟨Nat.zero_le j, hj⟩])
/-- the highest limbs that differ decide -/
theorem nu_less {B : Nat} {d e : Nat → Nat} {k i : Nat} (hd : ∀ j, j < k → d j < B) (hi : i < k) (h : ∀ j, i < j → j < k → d j = e j) (hlt : d i < e i) : nu_v B d k < nu_v B e k := by
  induction k with
  | zero => omega
  | succ k ih =>
    rw [nu_v, nu_v]
    by_cases q : i = k
    · subst q
      have h1 := nu_v_lt (B := B) (d := d) (n := i) (fun j hj => hd j (by omega))
      have h2 : (d i + 1) * B ^ i ≤ e i * B ^ i := Nat.mul_le_mul_right _ hlt
      rw [Nat.add_mul, Nat.one_mul] at h2
      omega
    · have h1 := ih (fun j hj => hd j (by omega)) (by omega) (fun j h1 h2 => h j h1 (by omega))
      rw [h k (by omega) (by omega)]
      omega
/-- more limbs, the larger number -/
theorem nu_longer {B : Nat} {d e : Nat → Nat} {k m : Nat} (hB : 0 < B) (hd : ∀ j, j < k → d j < B) (hm : k < m) (ht : e (m - 1) ≠ 0) : nu_v B d k < nu_v B e m := by
  have h1 := nu_v_lt hd
  have h2 := nu_v_low (B := B) (d := e) (n := m) (by omega) ht
  have h3 : B ^ k ≤ B ^ (m - 1) := Nat.pow_le_pow_right hB (by omega)
  omega
/-- how many limbs a number has -/
theorem wn_len {n k b : Nat} {d : Nat → Nat} {g : Int32} {z : Int} (h : wn_ok n d k g z) : (k ≤ b ↔ z.natAbs < 33554432 ^ b) := by
  obtain ⟨h1, h2, h3, h4, h5⟩ := h
  constructor
  · intro q
    have := nu_v_lt (B := 33554432) (d := d) (n := k) (fun j hj => h2 j (by omega))
    have h6 : 33554432 ^ k ≤ 33554432 ^ b := Nat.pow_le_pow_right (by decide) q
    omega
  · intro q
    rcases Nat.lt_or_ge b k with r | r
    · have h7 := nu_v_low (B := 33554432) (d := d) (n := k) (by omega) (h3 (by omega))
      have h8 : 33554432 ^ b ≤ 33554432 ^ (k - 1) := Nat.pow_le_pow_right (by decide) (by omega)
      omega
    · exact r
