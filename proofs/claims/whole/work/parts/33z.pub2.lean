theorem kp_wide {cnt c1 : Nat} {nums n1 : Nat → Int} {z z' : Int} {r : Int32} (h : kp cnt nums (some z) r c1 n1) (hz : bigN ≤ z.natAbs) (hz' : bigN ≤ z'.natAbs) : kp cnt nums (some z') r c1 n1 := by
  rcases h with ⟨y, a1, a2, a3, -⟩ | ⟨-, a2⟩
  · cases a1; omega
  · exact Or.inr ⟨Or.inr (Or.inr ⟨z', rfl, hz'⟩), a2⟩
theorem kp_none {cnt : Nat} {nums : Nat → Int} : kp cnt nums none (-1) cnt nums := Or.inr ⟨Or.inr (Or.inl rfl), rfl, rfl, fun _ _ => rfl⟩
theorem iPos {a : Int32} (h : 0 ≤ a) : ∃ n, n < 2 ^ 31 ∧ a = nI n := nI_of (Int32.not_lt.mpr h)
theorem iCase (a : Int32) : a < 0 ∨ ∃ n, n < 2 ^ 31 ∧ a = nI n := by
  by_cases h : a < 0
  · exact Or.inl h
  · exact Or.inr (nI_of h)
def spF (a : Int32) : Option Int := if a < 0 then none else some ((fc a.toNatClampNeg : Nat) : Int)
theorem spF_n {n : Nat} (hn : n < 2 ^ 31) : spF (nI n) = some ((fc n : Nat) : Int) := by
  rw [spF, if_neg (nI_pos hn), nI_clamp hn]
theorem spF_neg {a : Int32} (h : a < 0) : spF a = none := if_pos h
theorem big_sg {v : Nat} (hv : v < 65536 ^ 220) (h : 100 < sg v) : bigN ≤ v := by
  rcases Nat.lt_or_ge v bigN with q | q
  · exact absurd (big100 q) (by omega)
  · exact q
theorem sg_big {v : Nat} (hv : v < 65536 ^ 220) (h : sg v ≤ 100) : v < bigN := (sg_le hv).mp h
theorem fc_next {j : Nat} (h : fc j < bigN) : j < 1601 ∧ fc j * (j + 1) < 65536 ^ 220 := by
  have h1 : j < 1601 := by
    rcases Nat.lt_or_ge j 1601 with q | q
    · exact q
    · exact absurd (fc_wide q) (by omega)
  refine ⟨h1, Nat.lt_of_lt_of_le (s_mul1 (n := 100) (j + 1) h (by omega)) (w16_le (by decide))⟩
def spB (a b : Int32) : Option Int := if a < 0 ∨ 4000 < a then none else if b < 0 ∨ a < b then some 0 else some ((bc a.toNatClampNeg b.toNatClampNeg : Nat) : Int)
theorem spB_n {n k : Nat} (hn : n ≤ 4000) (hk : k ≤ n) : spB (nI n) (nI k) = some ((bc n k : Nat) : Int) := by
  rw [spB, if_neg, if_neg, nI_clamp (by omega), nI_clamp (by omega)]
  · rintro (h | h)
    · exact nI_pos (by omega) h
    · exact nI_nlt hk (by omega) h
  · rintro (h | h)
    · exact nI_pos (by omega) h
    · exact nI_nlt (a := 4000) hn (by omega) h
theorem spB_0 {n : Nat} {b : Int32} (hn : n ≤ 4000) (hb : b < 0 ∨ nI n < b) : spB (nI n) b = some 0 := by
  rw [spB, if_neg, if_pos hb]
  rintro (h | h)
  · exact nI_pos (by omega) h
  · exact nI_nlt (a := 4000) hn (by omega) h
theorem bc_mid {n k f : Nat} (hk : k ≤ n) (hf : f = k ∨ f = n - k) : bc n k = bc n f := by
  rcases hf with h | h
  · rw [h]
  · rw [h]; exact bc_sym hk
/-- a step of the choices: no rest -/
theorem bc_step (N i : Nat) : bc (N + i) i * (N + (i + 1)) % (i + 1) = 0 ∧ bc (N + i) i * (N + (i + 1)) / (i + 1) = bc (N + (i + 1)) (i + 1) := by
  have h : (i + 1) * bc (N + (i + 1)) (i + 1) = (N + i + 1) * bc (N + i) i := bc_up (N + i) i
  have h2 : bc (N + i) i * (N + (i + 1)) = (i + 1) * bc (N + (i + 1)) (i + 1) := by
    rw [h, Nat.mul_comm]; rfl
  rw [h2]
  exact ⟨Nat.mul_mod_right _ _, Nat.mul_div_cancel_left _ (by omega)⟩
def spP (x : Int) (b : Int32) : Option Int := if b < 0 ∨ 1000000 < b then none else some (x ^ b.toNatClampNeg)
theorem spP_n {x : Int} {n : Nat} (hn : n ≤ 1000000) : spP x (nI n) = some (x ^ n) := by
  rw [spP, if_neg, nI_clamp (by omega)]
  rintro (h | h)
  · exact nI_pos (by omega) h
  · exact nI_nlt (a := 1000000) hn (by omega) h
theorem pw_unit {v n : Nat} (hv : v ≤ 1) (hn : 0 < n) : v ^ n = v := by
  rcases (show v = 0 ∨ v = 1 by omega) with h | h
  · rw [h, Nat.zero_pow hn]
  · rw [h, Nat.one_pow]
theorem pw_z {x : Int} {n m : Nat} {g : Int32} (hg : (g = 0 ∧ ¬ (x < 0 ∧ n % 2 = 1)) ∨ (g = 1 ∧ (x < 0 ∧ n % 2 = 1))) (hm : m = x.natAbs ^ n) : x ^ n = (if g = 0 then (m : Int) else -(m : Int)) := by
  obtain ⟨h1, h2⟩ := pw_sign x n
  rcases hg with ⟨h, h'⟩ | ⟨h, h'⟩
  · rw [h, if_pos rfl, hm]; exact h2 h'
  · rw [h, if_neg (by decide), hm]; exact h1 h'
theorem one_sg {v : Nat} (hv : v < bigN) : (sg v = 0 ∨ (sg v = 1 ∧ dg v 0 = 1)) ↔ v ≤ 1 := by
  have h0 := sg_0 (big220 hv)
  have h1 := sg_le (b := 1) (big220 hv)
  rw [Nat.pow_one] at h1
  have hd : v < 65536 → dg v 0 = v := fun h => by rw [dg, Nat.pow_zero, Nat.div_one, Nat.mod_eq_of_lt h]
  constructor
  · rintro (h | ⟨h, h'⟩)
    · have := h0.mp h; omega
    · have h3 := h1.mp (by omega)
      rw [hd h3] at h'; omega
  · intro h
    rcases (show v = 0 ∨ v = 1 by omega) with e | e
    · exact Or.inl (h0.mpr e)
    · refine Or.inr ⟨?_, by rw [hd (by omega)]; exact e⟩
      have h2 := h1.mpr (by omega)
      have h3 : sg v ≠ 0 := fun q => by have := h0.mp q; omega
      omega
theorem nI_rem2 {n : Nat} (hn : n < 2 ^ 31) : nI n - nI n / 2 * 2 = nI (n % 2) := pk_rem (d := 2) hn (by decide) (by decide)
/-! unsigned longs -/
theorem us_lt {a b : Nat} (ha : a < 2 ^ 64) (hb : b < 2 ^ 64) : lN a + (-9223372036854775808) < lN b + (-9223372036854775808) ↔ a < b := by
  have h : ∀ x, x < 2 ^ 64 → lN x + (-9223372036854775808) = lZ ((x : Int) - 9223372036854775808) := fun x _ => by
    rw [lZ_lN, show (-9223372036854775808 : Int64) = lZ (-9223372036854775808) from rfl, lZ_add]
    congr 1
  rw [h a ha, h b hb, lZ_lt (by omega) (by omega) (by omega) (by omega)]
  omega
theorem sh_or1 {a b : Nat} (ha : a < 2 ^ 63) (hb : b < 2) : lN a <<< ((1 : Int32).toInt64 &&& 63) ||| lN b = lN (2 * a + b) := by
  have h1 : lN a <<< ((1 : Int32).toInt64 &&& 63) = lN (a * 2 ^ 1) := wb_shl a (k := 1) (by decide)
  rw [h1, wb_or (by omega) (by omega), Nat.mul_comm a (2 ^ 1), ← Nat.two_pow_add_eq_or_of_lt (i := 1) hb]
theorem rs_step {R mo b : Nat} (hR : R < mo) (hb : b < 2) : (if mo ≤ 2 * R + b then 2 * R + b - mo else 2 * R + b) = (2 * R + b) % mo := by
  split
  · next h => rw [Nat.mod_eq_sub_mod h, Nat.mod_eq_of_lt (by omega)]
  · next h => rw [Nat.mod_eq_of_lt (by omega)]
theorem rs_next (v mo q : Nat) : (2 * (v / 2 ^ (q + 1) % mo) + v / 2 ^ q % 2) % mo = v / 2 ^ q % mo := by
  rw [rz_mod, ← dv_half]
theorem cv_bit2 {v q : Nat} : nI (dg v (q / 16)) >>> (nI (q % 16) &&& 31) &&& 1 = nI (v / 2 ^ q % 2) := by
  have h := dg_lt v (q / 16)
  rw [nI_bit (by omega) (by omega), nI_odd (Nat.lt_of_le_of_lt (Nat.div_le_self _ _) (by omega)), dg_bit]
theorem rs_end {x : Int} {mo : Nat} (hm : 0 < mo) (hm2 : mo ≤ 9223372036854775808) : (x < 0 ∧ x.natAbs % mo ≠ 0 → lN mo - lN (x.natAbs % mo) = lZ (x % (mo : Int))) ∧ (¬ (x < 0 ∧ x.natAbs % mo ≠ 0) → lN (x.natAbs % mo) = lZ (x % (mo : Int))) := by
  have h1 : x.natAbs % mo < mo := Nat.mod_lt _ hm
  have h2 := Nat.div_add_mod x.natAbs mo
  constructor
  · rintro ⟨h3, h4⟩
    rw [lN_sub (by omega), lZ_lN]
    congr 1
    have h5 : x = (mo : Int) * (-(x.natAbs / mo : Nat) - 1) + ((mo - x.natAbs % mo : Nat) : Int) := by
      have : (x.natAbs : Int) = (mo : Int) * (x.natAbs / mo : Nat) + (x.natAbs % mo : Nat) := by exact_mod_cast h2.symm
      have h6 : x = -(x.natAbs : Int) := by omega
      have h7 : ((mo - x.natAbs % mo : Nat) : Int) = (mo : Int) - (x.natAbs % mo : Nat) := by omega
      rw [h7]
      generalize ((x.natAbs / mo : Nat) : Int) = qq at *
      generalize ((x.natAbs % mo : Nat) : Int) = rr at *
      have h8 : (mo : Int) * (-qq - 1) = -((mo : Int) * qq) - mo := by grind
      omega
    have h9 : (mo : Int) * (-(x.natAbs / mo : Nat) - 1) + ((mo - x.natAbs % mo : Nat) : Int) = ((mo - x.natAbs % mo : Nat) : Int) + (mo : Int) * (-(x.natAbs / mo : Nat) - 1) := Int.add_comm _ _
    conv => rhs; rw [h5, h9, Int.add_mul_emod_self_left]
    rw [Int.emod_eq_of_lt (by omega) (by omega)]
  · intro h3
    rw [lZ_lN]
    congr 1
    rcases Int.lt_or_le x 0 with q | q
    · have h4 : x.natAbs % mo = 0 := Classical.byContradiction (fun h => h3 ⟨q, h⟩)
      rw [h4]
      have h6 : ((mo * (x.natAbs / mo) : Nat) : Int) = (x.natAbs : Int) := by omega
      rw [Int.natCast_mul] at h6
      have h5 : (mo : Int) ∣ x := ⟨-((x.natAbs / mo : Nat) : Int), by rw [Int.mul_neg]; omega⟩
      rw [Int.emod_eq_zero_of_dvd h5]; rfl
    · have h4 : x = (x.natAbs : Int) := by omega
      conv => rhs; rw [h4]
      exact (Int.natCast_emod _ _)
theorem pow10 {v k : Nat} : v / 10 ^ k / 10 = v / 10 ^ (k + 1) := by rw [Nat.div_div_eq_div_mul, ← Nat.pow_succ]
