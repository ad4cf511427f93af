def g49 : Nat := 65536 ^ 49
theorem g49_52 : 13 * g49 < 65536 ^ 52 := by decide +kernel
theorem g49_60 : 13 * g49 < 65536 ^ 60 := by decide +kernel
theorem g49_mul {x m : Nat} (hx : x ≤ 9223372036854775808) (hm : m < 65536 ^ 45) : x * m ≤ g49 := by
  have h1 : x < 65536 ^ 4 := by
    have : (9223372036854775808 : Nat) < 65536 ^ 4 := by decide
    omega
  exact Nat.le_of_lt (mul_lt16 h1 hm)
theorem dg_one (i : Nat) : dg 1 i = (if i = 0 then 1 else 0) := by
  by_cases h : i = 0
  · subst h; rw [if_pos rfl]; decide
  · rw [if_neg h]; exact dg_hi (k := 1) (by decide) (by omega)
def spD (t : Nat → Nat → Int64) (a : Int32) : Option Int := if a < 0 ∨ 12 < a then none else some (dt_D a.toNatClampNeg (fun r c => (t r c).toInt))
theorem spD_n {t : Nat → Nat → Int64} {n : Nat} (hn : n ≤ 12) : spD t (nI n) = some (dt_D n (fun r c => (t r c).toInt)) := by
  rw [spD, if_neg, nI_clamp (by omega)]
  rintro (h | h)
  · exact nI_pos (by omega) h
  · exact nI_nlt (a := 12) hn (by omega) h
theorem mr_one {T : Nat → Nat → Int} {mi : Nat → Nat} {mb : Nat → Int32} (h : ∀ j, j < 52 → mi j = dg 1 j) (hb : mb 0 = 0) : mr_ok T mi mb 1 := by
  intro a ha
  have : a = 0 := by omega
  subst this
  rw [mnr_0]
  exact ⟨fun j hj => by rw [Nat.mul_zero, Nat.zero_add, h j hj]; rfl, by rw [hb]; rfl⟩
theorem t_abs (t : Nat → Nat → Int64) (r c : Nat) : ((t r c).toInt).natAbs ≤ 9223372036854775808 := am_le (t r c)
theorem z_abs (z : Int) : z = (if (if z < 0 then (1 : Int32) else 0) = 0 then (z.natAbs : Int) else -(z.natAbs : Int)) := by
  by_cases h : z < 0
  · rw [if_pos h, if_neg (by decide)]; omega
  · rw [if_neg h, if_pos rfl]; omega
