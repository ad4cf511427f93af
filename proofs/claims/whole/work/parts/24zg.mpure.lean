/-! pure rows for the reference's methods -/
def kn (cnt : Nat) (a : Int32) : Prop := ∃ j, j < cnt ∧ a = nI j
theorem kn_y {cnt : Nat} {a : Int32} (hc : cnt ≤ 160) (h1 : ¬ a < 0) (h2 : ¬ nI cnt ≤ a) : kn cnt a := by
  rcases pk_ix a (n := cnt) (by omega) with h | h | h
  · exact absurd h h1
  · exact absurd h h2
  · exact h
theorem kn_n1 {cnt : Nat} {a : Int32} (hc : cnt ≤ 160) (h : a < 0) : ¬ kn cnt a := by
  rintro ⟨j, hj, rfl⟩; exact nI_pos (by omega) h
theorem kn_n2 {cnt : Nat} {a : Int32} (hc : cnt ≤ 160) (h : nI cnt ≤ a) : ¬ kn cnt a := by
  rintro ⟨j, hj, rfl⟩; exact nI_ge hj (by omega) h
theorem clr_up (f : Nat → Int32) (i : Nat) : upd (fun j => if j < i then nI 0 else f j) i 0 = fun j => if j < i + 1 then nI 0 else f j := by
  funext j
  by_cases h : j = i
  · subst h; simp [upd]; rfl
  · simp only [upd, h, if_false]
    by_cases h2 : j < i
    · rw [if_pos h2, if_pos (by omega)]
    · rw [if_neg h2, if_neg (by omega)]
theorem clr_0 (f : Nat → Int32) : f = fun j => if j < 0 then nI 0 else f j := by
  funext j; rw [if_neg (Nat.not_lt_zero j)]
theorem nI_104 (a i : Nat) : 104 * nI a + nI i = nI (104 * a + i) := by
  rw [show (104 : Int32) = nI 104 from rfl, pk_mul, nI_add]
theorem nI_16 (i : Nat) : 16 * nI i = nI (16 * i) := by
  rw [show (16 : Int32) = nI 16 from rfl, pk_mul]
theorem ld16 {v i : Nat} (hv : v < 2 ^ 64) (hi : i < 4) : (((lN v).toUInt64 >>> ((nI (16 * i)).toInt64.toUInt64 &&& Int64.toUInt64 63)).toInt64 &&& 65535).toInt32 = nI (dg v i) := by
  rw [wb_shr hv (by omega), show (65535 : Int64) = lN (2 ^ 16 - 1) from rfl, wb_mask (Nat.lt_of_le_of_lt (Nat.div_le_self _ _) hv) (by decide), lN_i, dg, two16]
theorem dg_row (v : Nat) (hv : v < 65536 ^ 220) : (fun j => nI (if j < sg v then dg v j else 0)) = fun j => nI (dg v j) := by
  funext j
  by_cases h : j < sg v
  · rw [if_pos h]
  · rw [if_neg h, dg_sg hv (by omega)]
theorem dg_row4 (v : Nat) (hv : v < 2 ^ 64) : (fun j => nI (if j < 4 then dg v j else dg 0 j)) = fun j => nI (dg v j) := by
  funext j
  by_cases h : j < 4
  · rw [if_pos h]
  · rw [if_neg h, dg_0, dg_hi (k := 4) (show v < 65536 ^ 4 from hv) (by omega)]
theorem dg_row0 : (fun j => nI (dg 0 j)) = fun j => nI (if j < 0 then dg 0 j else 0) := by
  funext j; rw [dg_0, if_neg (Nat.not_lt_zero j)]
theorem big220 {v : Nat} (h : v < bigN) : v < 65536 ^ 220 := Nat.lt_of_lt_of_le h (w16_le (show 100 ≤ 220 by decide))
theorem big100 {v : Nat} (h : v < bigN) : sg v ≤ 100 := (sg_le (big220 h)).mpr h
theorem c16_b0 {x : Nat → Int} (h : ∀ i, -65535 ≤ x i ∧ x i ≤ 65535) (i : Nat) : -1 ≤ ch_c 65536 x i ∧ ch_c 65536 x i ≤ 0 := by
  induction i with
  | zero => exact ⟨show (-1 : Int) ≤ 0 by decide, show (0 : Int) ≤ 0 by decide⟩
  | succ i ih =>
    have h1 := h i
    rw [ch_c]
    omega
theorem sg_max1 {v u n : Nat} (hv : v < 65536 ^ 220) (hu : u < 65536 ^ 220) (h1 : sg v ≤ n) (h2 : sg u ≤ n) : v < 65536 ^ (n + 1) ∧ u < 65536 ^ (n + 1) ∧ v + u < 65536 ^ (n + 1) := by
  have a1 := (sg_le hv).mp h1
  have a2 := (sg_le hu).mp h2
  rw [w16_1]
  omega
theorem s_mul1 {v n : Nat} (f : Nat) (hv : v < 65536 ^ n) (hf : f < 65536) : v * f < 65536 ^ (n + 1) := by
  rw [w16_1]
  rcases Nat.eq_zero_or_pos f with q | q
  · rw [q, Nat.mul_zero]; exact Nat.mul_pos (w16_pos n) (by decide)
  · have h1 : v * f < 65536 ^ n * f := Nat.mul_lt_mul_of_pos_right hv q
    have h2 : 65536 ^ n * f ≤ 65536 ^ n * 65536 := Nat.mul_le_mul_left _ (by omega)
    omega
theorem c16_m {x : Nat → Int} {f : Nat} (h : ∀ i, 0 ≤ x i ∧ x i ≤ 65535 * (f : Int)) (i : Nat) : 0 ≤ ch_c 65536 x i ∧ ch_c 65536 x i ≤ f := c16_bd (l := 0) (m := (f : Int)) (by omega) (by omega) (fun i => ⟨by have := (h i).1; omega, (h i).2⟩) i
theorem nI_or16 {a b : Nat} (hb : b < 65536) (ha : a < 16384) : nI a <<< (16 &&& 31) ||| nI b = nI (a * 65536 + b) := by
  rw [pk_shlN _ 16 (by decide) (by omega)]
  apply Int32.toBitVec_inj.mp
  apply BitVec.eq_of_toNat_eq
  rw [Int32.toBitVec_or, BitVec.toNat_or, pk_tn (by omega), pk_tn (by omega), pk_tn (by omega), Nat.mul_comm a (2 ^ 16), ← Nat.two_pow_add_eq_or_of_lt (i := 16) hb, Nat.mul_comm]
theorem cmp3_lt {a b : Nat} (h : a < b) : (-1 : Int32) = (if a < b then -1 else if a = b then 0 else 1) := by rw [if_pos h]
/-- amounts by their digits, from the top -/
theorem dg_less {v u k i : Nat} (hv : v < 65536 ^ k) (hu : u < 65536 ^ k) (hi : i < k) (h : ∀ j, i < j → j < k → dg v j = dg u j) (hlt : dg v i < dg u i) : v < u := by
  have := nu_less (B := 65536) (d := dg v) (e := dg u) (k := k) (i := i) (fun j _ => dg_lt v j) hi h hlt
  rwa [dg_w hv, dg_w hu] at this
theorem dg_eq {v u k : Nat} (hv : v < 65536 ^ k) (hu : u < 65536 ^ k) (h : ∀ j, j < k → dg v j = dg u j) : v = u := by
  rw [← dg_w hv, ← dg_w hu]; exact nu_v_congr h
theorem sg_less {v u : Nat} (hv : v < 65536 ^ 220) (hu : u < 65536 ^ 220) (h : sg v < sg u) : v < u := by
  rcases Nat.lt_or_ge v u with q | q
  · exact q
  · exact absurd (sg_mono q hv) (by omega)
