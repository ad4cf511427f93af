/-! the rest by a modulus, bit by bit, written below 0 -/
theorem rz_step {R mo b : Nat} (hR : R < mo) (hb : b ≤ 1) : (if (if mo ≤ 2 * R then 2 * R - mo else 2 * R) + b = mo then 0 else (if mo ≤ 2 * R then 2 * R - mo else 2 * R) + b) = (2 * R + b) % mo := by
  by_cases h : mo ≤ 2 * R
  · rw [if_pos h, if_neg (by omega), Nat.mod_eq_sub_mod (by omega), Nat.mod_eq_of_lt (by omega)]
    omega
  · rw [if_neg h]
    by_cases h2 : 2 * R + b = mo
    · rw [if_pos h2, h2, Nat.mod_self]
    · rw [if_neg h2, Nat.mod_eq_of_lt (by omega)]
theorem rz_mod (Y mo b : Nat) : (2 * (Y % mo) + b) % mo = (2 * Y + b) % mo := by
  rw [Nat.add_mod, Nat.mul_mod, Nat.mod_mod, ← Nat.mul_mod, ← Nat.add_mod]
theorem rz_bit (x b : Nat) (hb : b < 25) : x % 33554432 / 2 ^ b % 2 = x / 2 ^ b % 2 := by
  have e1 : 33554432 = 2 ^ b * 2 ^ (25 - b) := by rw [← Nat.pow_add, show b + (25 - b) = 25 by omega]
  rw [e1, Nat.mod_mul_right_div_self]
  have e2 : 2 ^ (25 - b) = 2 * 2 ^ (24 - b) := by rw [← Nat.pow_succ', show (24 - b).succ = 25 - b by omega]
  rw [e2, Nat.mod_mul_right_mod]
theorem rz_half (V P b : Nat) : V / (P * 2 ^ b) = 2 * (V / (P * 2 ^ (b + 1))) + V / P / 2 ^ b % 2 := by
  rw [← Nat.div_div_eq_div_mul, ← Nat.div_div_eq_div_mul, Nat.pow_succ, ← Nat.div_div_eq_div_mul]
  have := Nat.div_add_mod (V / P / 2 ^ b) 2
  omega
theorem s_l25 : ∀ n, n < 32 → ((nI n &&& 31).toBitVec.smod 32).toNat = n := by decide +kernel
theorem nI_bit {n b : Nat} (hn : n < 2 ^ 31) (hb : b < 32) : nI n >>> (nI b &&& 31) = nI (n / 2 ^ b) := pk_shrN hn _ b (s_l25 b hb)
theorem nI_odd {n : Nat} (hn : n < 2 ^ 31) : nI n &&& 1 = nI (n % 2) := pk_andN (by omega) (m := 1) 1 (by decide)
