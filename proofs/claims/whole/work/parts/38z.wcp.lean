theorem bc_cstep {n i : Nat} (h : i < n) : bc n i * (n - i) / (i + 1) = bc n (i + 1) := by
  have h1 := bc_next (n := n) (k := i) (by omega)
  rw [Nat.mul_comm (bc n i), ← h1]
  exact Nat.mul_div_cancel_left _ (by omega)
theorem qz_nat (a q : Nat) : qz ((a : Nat) : Int) q = ((a / q : Nat) : Int) := by
  rw [qz, if_neg (by omega), Int.natAbs_natCast]
theorem st_neg {n : Nat} {b : Int32} (hn : n ≤ 4000) (h : b < 0 ∨ nI n < b) : (if nI n - b < b then nI n - b else b) < 0 := by
  have hb1 := Int32.le_toInt b
  have hb2 := Int32.toInt_lt b
  rcases h with h | h
  · by_cases q : nI n - b < b
    · rw [if_pos q]; exact Int32.lt_trans q h
    · rw [if_neg q]; exact h
  · have h1 : (n : Int) < b.toInt := by
      have := Int32.lt_iff_toInt_lt.mp h
      rwa [nI_toInt (by omega)] at this
    have e : nI n - b = iZ ((n : Int) - b.toInt) := by
      conv => lhs; rw [iZ_of b, iZ_nI, iZ_sub]
    have ht : (nI n - b).toInt = (n : Int) - b.toInt := by rw [e, iZ_toInt (by omega) (by omega)]
    have h2 : nI n - b < 0 := by
      rw [Int32.lt_iff_toInt_lt, ht]
      show _ < (0 : Int)
      omega
    have h3 : nI n - b < b := by
      rw [Int32.lt_iff_toInt_lt, ht]
      omega
    rw [if_pos h3]; exact h2
theorem big_482 : bigN ≤ 10 ^ 482 := by decide +kernel
theorem hasD_482 {v n : Nat} (hv : v < bigN) (hn : n < 2 ^ 31) (h : 482 ≤ n) : ¬ hasD v (nI n) := hasD_no hn (by omega) (Nat.lt_of_lt_of_le (Nat.lt_of_lt_of_le hv big_482) (ten_mono h))
theorem qz_abs0 (z : Int) (q : Nat) : qz z q = 0 ↔ z.natAbs / q = 0 := by
  have := qz_abs z q
  omega
theorem rs_cl {x : Int} {mo : Nat} (hm : 0 < mo) (hm2 : mo ≤ 9223372036854775808) : (x.natAbs % mo = 0 → (0 : Int64) = lZ (x % (mo : Int))) ∧ (x < 0 → x.natAbs % mo ≠ 0 → lZ (-((x.natAbs % mo : Nat) : Int)) - lZ (-(mo : Int)) = lZ (x % (mo : Int))) ∧ (¬ x < 0 → -lZ (-((x.natAbs % mo : Nat) : Int)) = lZ (x % (mo : Int))) := by
  obtain ⟨h1, h2⟩ := rs_end (x := x) hm hm2
  have hR : x.natAbs % mo < mo := Nat.mod_lt _ hm
  refine ⟨fun h => ?_, fun h h' => ?_, fun h => ?_⟩
  · rw [← h2 (fun q => q.2 h), h]; rfl
  · rw [← h1 ⟨h, h'⟩, lN_sub (by omega), lZ_sub, lZ_lN]
    congr 1
    omega
  · rw [← h2 (fun q => h q.1), lZ_neg, lZ_lN]
    congr 1
    omega
theorem lZ_r0 {R : Nat} (hR : R < 9223372036854775808) : lZ (-(R : Int)) = 0 ↔ R = 0 := by
  rw [show (0 : Int64) = lZ 0 from rfl, lZ_eq (by omega) (by omega) (by decide) (by decide)]
  omega
theorem bd_neg {v : Int64} (h : v < 0) : v = lZ (-((v.toInt.natAbs : Nat) : Int)) := by
  have h1 : v.toInt < 0 := by have := Int64.lt_iff_toInt_lt.mp h; simpa using this
  conv => lhs; rw [lZ_of v]
  congr 1
  omega
theorem bd_pos {v : Int64} (h : 0 ≤ v) : -v = lZ (-((v.toInt.natAbs : Nat) : Int)) := by
  have h1 : 0 ≤ v.toInt := by have := Int64.le_iff_toInt_le.mp h; simpa using this
  conv => lhs; rw [lZ_of v, lZ_neg]
  congr 1
  omega
theorem pw_two (x : Int) (m : Nat) : x ^ m * x ^ m = x ^ (2 * m) := by rw [← Int.pow_add, show m + m = 2 * m by omega]
theorem pw_halve {n j : Nat} : n / 2 ^ j = 2 * (n / 2 ^ (j + 1)) + n / 2 ^ j % 2 := dv_half n j
theorem pw_le {n j : Nat} : 2 * (n / 2 ^ (j + 1)) ≤ n := by
  have h1 := dv_half n j
  have h2 : n / 2 ^ j ≤ n := Nat.div_le_self _ _
  omega
theorem pw_big {x : Int} {a b : Nat} (h : a ≤ b) (hb : bigN ≤ (x ^ a).natAbs) : bigN ≤ (x ^ b).natAbs := by
  rw [pw_abs] at *; exact pw_wide h hb
