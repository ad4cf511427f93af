theorem wb_tb (n : Nat) : (lN n).toBitVec = BitVec.ofNat 64 n := rfl
theorem wb_inj {a b : Int64} (h : a.toBitVec = b.toBitVec) : a = b := Int64.toBitVec_inj.mp h
theorem wb_tn {n : Nat} (h : n < 2 ^ 64) : (lN n).toBitVec.toNat = n := by rw [wb_tb, BitVec.toNat_ofNat, Nat.mod_eq_of_lt h]
theorem wb_of (x : Int64) : ∃ n, n < 2 ^ 64 ∧ x = lN n := ⟨x.toBitVec.toNat, x.toBitVec.isLt, wb_inj (by rw [wb_tb]; simp)⟩
theorem wb_of32 (x : Int32) : ∃ n, n < 2 ^ 32 ∧ x = nI n := ⟨x.toBitVec.toNat, x.toBitVec.isLt, Int32.toBitVec_inj.mp (by show _ = BitVec.ofNat 32 _; simp)⟩
theorem wb_c : ∀ k, k < 64 → ((nI k).toInt64 &&& 63) = lN k := by decide +kernel
theorem wb_cu : ∀ k, k < 64 → ((nI k).toInt64.toUInt64 &&& Int64.toUInt64 63) = UInt64.ofNat k := by decide +kernel
theorem wb_sm : ∀ k, k < 64 → (BitVec.ofNat 64 k).smod 64 = BitVec.ofNat 64 k := by decide +kernel
theorem wb_pw {a b : Nat} (h : a ≤ b) : 2 ^ b = 2 ^ a * 2 ^ (b - a) := by rw [← Nat.pow_add]; congr 1; omega
theorem wb_lt2 {a b : Nat} (h : a < b) : 2 ^ a < 2 ^ b := Nat.pow_lt_pow_right (by decide) h
theorem wb_mod (n : Nat) : lN n = lN (n % 2 ^ 64) := wb_inj (by rw [wb_tb, wb_tb]; apply BitVec.eq_of_toNat_eq; rw [BitVec.toNat_ofNat, BitVec.toNat_ofNat, Nat.mod_mod])
theorem wb_shr {n k : Nat} (hn : n < 2 ^ 64) (hk : k < 64) : ((lN n).toUInt64 >>> ((nI k).toInt64.toUInt64 &&& Int64.toUInt64 63)).toInt64 = lN (n / 2 ^ k) := by
  rw [wb_cu k hk]
  apply wb_inj
  apply BitVec.eq_of_toNat_eq
  show ((lN n).toUInt64 >>> UInt64.ofNat k).toNat = (BitVec.ofNat 64 _).toNat
  have h1 : (UInt64.ofNat k).toNat = k := by
    show (BitVec.ofNat 64 k).toNat = k
    rw [BitVec.toNat_ofNat, Nat.mod_eq_of_lt (by omega)]
  have h2 : (lN n).toUInt64.toNat = n := wb_tn hn
  rw [UInt64.toNat_shiftRight, h1, h2, Nat.mod_eq_of_lt hk, Nat.shiftRight_eq_div_pow, BitVec.toNat_ofNat, Nat.mod_eq_of_lt (Nat.lt_of_le_of_lt (Nat.div_le_self _ _) hn)]
theorem wb_shl (n : Nat) {k : Nat} (hk : k < 64) : lN n <<< ((nI k).toInt64 &&& 63) = lN (n * 2 ^ k) := by
  rw [wb_c k hk]
  apply wb_inj
  rw [Int64.toBitVec_shiftLeft, wb_tb, wb_tb, wb_tb, wb_sm k hk]
  apply BitVec.eq_of_toNat_eq
  rw [BitVec.shiftLeft_eq', BitVec.toNat_shiftLeft, BitVec.toNat_ofNat, BitVec.toNat_ofNat, BitVec.toNat_ofNat, Nat.mod_eq_of_lt (show k < 2 ^ 64 by omega), Nat.shiftLeft_eq, Nat.mul_mod, Nat.mod_mod, ← Nat.mul_mod]
theorem wb_and {a b : Nat} (ha : a < 2 ^ 64) (hb : b < 2 ^ 64) : lN a &&& lN b = lN (a &&& b) := by
  apply wb_inj
  rw [Int64.toBitVec_and, wb_tb, wb_tb, wb_tb]
  apply BitVec.eq_of_toNat_eq
  rw [BitVec.toNat_and, BitVec.toNat_ofNat, BitVec.toNat_ofNat, BitVec.toNat_ofNat, Nat.mod_eq_of_lt ha, Nat.mod_eq_of_lt hb, Nat.mod_eq_of_lt (Nat.and_lt_two_pow _ hb)]
theorem wb_or {a b : Nat} (ha : a < 2 ^ 64) (hb : b < 2 ^ 64) : lN a ||| lN b = lN (a ||| b) := by
  apply wb_inj
  rw [Int64.toBitVec_or, wb_tb, wb_tb, wb_tb]
  apply BitVec.eq_of_toNat_eq
  rw [BitVec.toNat_or, BitVec.toNat_ofNat, BitVec.toNat_ofNat, BitVec.toNat_ofNat, Nat.mod_eq_of_lt ha, Nat.mod_eq_of_lt hb, Nat.mod_eq_of_lt (Nat.or_lt_two_pow ha hb)]
theorem wb_mask {n k : Nat} (hn : n < 2 ^ 64) (hk : k < 64) : lN n &&& lN (2 ^ k - 1) = lN (n % 2 ^ k) := by
  rw [wb_and hn (by have := wb_lt2 hk; omega), Nat.and_two_pow_sub_one_eq_mod]
theorem wb_a1 {n : Nat} (hn : n < 2 ^ 64) : lN n &&& 1 = lN (n % 2) := wb_mask (k := 1) hn (by decide)
/-! ints and longs by whole numbers of any sign -/
def iZ (z : Int) : Int32 := Int32.ofInt z
def lZ (z : Int) : Int64 := Int64.ofInt z
theorem iZ_nI (n : Nat) : nI n = iZ n := by
  apply Int32.toBitVec_inj.mp
  show BitVec.ofNat 32 n = BitVec.ofInt 32 n
  simp
theorem lZ_lN (n : Nat) : lN n = lZ n := by
  apply Int64.toBitVec_inj.mp
  show BitVec.ofNat 64 n = BitVec.ofInt 64 n
  simp
theorem iZ_add (a b : Int) : iZ a + iZ b = iZ (a + b) := by
  apply Int32.toBitVec_inj.mp
  rw [Int32.toBitVec_add]
  show BitVec.ofInt 32 a + BitVec.ofInt 32 b = BitVec.ofInt 32 (a + b)
  rw [BitVec.ofInt_add]
theorem iZ_mul (a b : Int) : iZ a * iZ b = iZ (a * b) := by
  apply Int32.toBitVec_inj.mp
  rw [Int32.toBitVec_mul]
  show BitVec.ofInt 32 a * BitVec.ofInt 32 b = BitVec.ofInt 32 (a * b)
  rw [BitVec.ofInt_mul]
theorem lZ_add (a b : Int) : lZ a + lZ b = lZ (a + b) := by
  apply Int64.toBitVec_inj.mp
  rw [Int64.toBitVec_add]
  show BitVec.ofInt 64 a + BitVec.ofInt 64 b = BitVec.ofInt 64 (a + b)
  rw [BitVec.ofInt_add]
theorem lZ_mul (a b : Int) : lZ a * lZ b = lZ (a * b) := by
  apply Int64.toBitVec_inj.mp
  rw [Int64.toBitVec_mul]
  show BitVec.ofInt 64 a * BitVec.ofInt 64 b = BitVec.ofInt 64 (a * b)
  rw [BitVec.ofInt_mul]
theorem lZ_neg (a : Int) : -lZ a = lZ (-a) := by
  apply Int64.toBitVec_inj.mp
  rw [Int64.toBitVec_neg]
  show -BitVec.ofInt 64 a = BitVec.ofInt 64 (-a)
  rw [BitVec.ofInt_neg]
theorem iZ_neg (a : Int) : -iZ a = iZ (-a) := by
  apply Int32.toBitVec_inj.mp
  rw [Int32.toBitVec_neg]
  show -BitVec.ofInt 32 a = BitVec.ofInt 32 (-a)
  rw [BitVec.ofInt_neg]
theorem lZ_sub (a b : Int) : lZ a - lZ b = lZ (a - b) := by
  rw [Int64.sub_eq_add_neg, lZ_neg, lZ_add]; rfl
theorem iZ_sub (a b : Int) : iZ a - iZ b = iZ (a - b) := by
  rw [Int32.sub_eq_add_neg, iZ_neg, iZ_add]; rfl
theorem iZ_toInt {z : Int} (h1 : -2147483648 ≤ z) (h2 : z < 2147483648) : (iZ z).toInt = z := by
  show (Int32.ofInt z).toInt = z
  rw [Int32.toInt_ofInt]
  simp only [Int32.size]
  rw [Int.bmod_eq_of_le (by omega) (by omega)]
theorem lZ_toInt {z : Int} (h1 : -9223372036854775808 ≤ z) (h2 : z < 9223372036854775808) : (lZ z).toInt = z := by
  show (Int64.ofInt z).toInt = z
  rw [Int64.toInt_ofInt]
  simp only [Int64.size]
  rw [Int.bmod_eq_of_le (by omega) (by omega)]
theorem lZ_of (x : Int64) : x = lZ x.toInt := by
  show x = Int64.ofInt x.toInt
  exact (Int64.ofInt_toInt x).symm
theorem iZ_of (x : Int32) : x = iZ x.toInt := by
  show x = Int32.ofInt x.toInt
  exact (Int32.ofInt_toInt x).symm
theorem iZ_lZ {z : Int} (h1 : -2147483648 ≤ z) (h2 : z < 2147483648) : (iZ z).toInt64 = lZ z := by
  apply Int64.toInt_inj.mp
  rw [Int32.toInt_toInt64, iZ_toInt h1 h2, lZ_toInt (by omega) (by omega)]
theorem nI_lZ {n : Nat} (h : n < 2147483648) : (nI n).toInt64 = lZ n := by rw [iZ_nI, iZ_lZ (by omega) (by omega)]
theorem lZ_i (z : Int) : (lZ z).toInt32 = iZ z := by
  show (Int64.ofInt z).toInt32 = Int32.ofInt z
  apply Int32.toInt_inj.mp
  rw [Int64.toInt_toInt32, Int64.toInt_ofInt, Int32.toInt_ofInt]
  simp only [Int64.size, Int32.size]
  rw [Int.bmod_bmod_of_dvd (by decide)]
theorem lZ_nI (n : Nat) : (lZ n).toInt32 = nI n := by rw [lZ_i, iZ_nI]
theorem lZ_lt {a b : Int} (ha : -9223372036854775808 ≤ a) (ha2 : a < 9223372036854775808) (hb : -9223372036854775808 ≤ b) (hb2 : b < 9223372036854775808) : lZ a < lZ b ↔ a < b := by
  rw [Int64.lt_iff_toInt_lt, lZ_toInt ha ha2, lZ_toInt hb hb2]
theorem lZ_le {a b : Int} (ha : -9223372036854775808 ≤ a) (ha2 : a < 9223372036854775808) (hb : -9223372036854775808 ≤ b) (hb2 : b < 9223372036854775808) : lZ a ≤ lZ b ↔ a ≤ b := by
  rw [Int64.le_iff_toInt_le, lZ_toInt ha ha2, lZ_toInt hb hb2]
theorem lZ_eq {a b : Int} (ha : -9223372036854775808 ≤ a) (ha2 : a < 9223372036854775808) (hb : -9223372036854775808 ≤ b) (hb2 : b < 9223372036854775808) : lZ a = lZ b ↔ a = b := by
  rw [← Int64.toInt_inj, lZ_toInt ha ha2, lZ_toInt hb hb2]
/-- the lowest 25 bits -/
theorem iZ_mask (z : Int) : iZ z &&& 33554431 = nI (z % 33554432).toNat := by
  rw [pk_and (iZ z) (m := 33554431) 25 (by decide)]
  congr 1
  show (BitVec.ofInt 32 z).toNat % 2 ^ 25 = _
  rw [BitVec.toNat_ofInt]
  omega
theorem lZ_mask (z : Int) : lZ z &&& 33554431 = lZ (z % 33554432) := by
  apply Int64.toBitVec_inj.mp
  apply BitVec.eq_of_toNat_eq
  rw [Int64.toBitVec_and, BitVec.toNat_and]
  show (BitVec.ofInt 64 z).toNat &&& (33554431 : Int64).toBitVec.toNat = (BitVec.ofInt 64 (z % 33554432)).toNat
  rw [show (33554431 : Int64).toBitVec.toNat = 2 ^ 25 - 1 from by decide, Nat.and_two_pow_sub_one_eq_mod, BitVec.toNat_ofInt, BitVec.toNat_ofInt]
  omega
theorem lZ_mask' (z : Int) : lZ z &&& 33554431 = lZ ((z % 33554432).toNat : Nat) := by
  rw [lZ_mask]; congr 1; omega
theorem iZ_shr {z : Int} (h1 : -2147483648 ≤ z) (h2 : z < 2147483648) : iZ z >>> (25 &&& 31) = iZ (z / 33554432) := by
  apply Int32.toInt_inj.mp
  rw [pk_shr _ _ 25 (by decide), iZ_toInt h1 h2, iZ_toInt (by omega) (by omega), Int.shiftRight_eq_div_pow]
  rfl
theorem lZ_shr {z : Int} (h1 : -9223372036854775808 ≤ z) (h2 : z < 9223372036854775808) : lZ z >>> ((25 : Int32).toInt64 &&& 63) = lZ (z / 33554432) := by
  apply Int64.toInt_inj.mp
  have h3 : (lZ z >>> ((25 : Int32).toInt64 &&& 63)).toInt = (lZ z).toInt >>> 25 := by
    show ((lZ z).toBitVec.sshiftRight (((25 : Int32).toInt64 &&& 63).toBitVec.smod 64).toNat).toInt = _
    rw [show (((25 : Int32).toInt64 &&& 63).toBitVec.smod 64).toNat = 25 from by decide, BitVec.toInt_sshiftRight]
    rfl
  rw [h3, lZ_toInt h1 h2, lZ_toInt (by omega) (by omega), Int.shiftRight_eq_div_pow]
  rfl
theorem lN_ushr {n : Nat} (h : n < 2 ^ 64) : ((lN n).toUInt64 >>> ((25 : Int32).toInt64.toUInt64 &&& Int64.toUInt64 63)).toInt64 = lN (n / 33554432) := wb_shr (k := 25) h (by decide)
theorem lN_mask {n : Nat} (h : n < 2 ^ 64) : lN n &&& 33554431 = lN (n % 33554432) := wb_mask (k := 25) h (by decide)
theorem lN_or {a b : Nat} (h : b < 33554432) (ha : a < 2 ^ 39) : lN a <<< ((25 : Int32).toInt64 &&& 63) ||| lN b = lN (a * 33554432 + b) := by
  have h1 : lN a <<< ((25 : Int32).toInt64 &&& 63) = lN (a * 2 ^ 25) := wb_shl a (k := 25) (by decide)
  rw [h1, wb_or (by omega) (by omega), Nat.mul_comm a (2 ^ 25), ← Nat.two_pow_add_eq_or_of_lt (i := 25) h, Nat.mul_comm]
/-! carries: columns x, limb by limb -/
def ch_c (B : Int) (x : Nat → Int) : Nat → Int
  | 0 => 0
  | i + 1 => (x i + ch_c B x i) / B
def ch_e (B : Int) (x : Nat → Int) (i : Nat) : Nat := ((x i + ch_c B x i) % B).toNat
def ch_s (B : Int) (x : Nat → Int) : Nat → Int
  | 0 => 0
  | n + 1 => ch_s B x n + x n * B ^ n
theorem ch_e_lt {B : Int} {x : Nat → Int} (hB : 0 < B) (i : Nat) : (ch_e B x i : Int) < B := by
  have h1 := Int.emod_nonneg (x i + ch_c B x i) (Int.ne_of_gt hB)
  have h2 := Int.emod_lt_of_pos (x i + ch_c B x i) hB
  rw [ch_e]
  omega
theorem ch_sum {B : Nat} (hB : 0 < B) (x : Nat → Int) (n : Nat) : ch_s B x n = (nu_v B (ch_e B x) n : Int) + ch_c B x n * (B : Int) ^ n := by
  induction n with
  | zero => simp [ch_s, nu_v, ch_c]
  | succ n ih =>
    rw [ch_s, ih, nu_v, ch_c]
    have h1 := Int.emod_nonneg (x n + ch_c B x n) (show (B : Int) ≠ 0 by omega)
    have h2 : (ch_e B x n : Int) = (x n + ch_c B x n) % B := by rw [ch_e]; omega
    have h3 := Int.mul_ediv_add_emod (x n + ch_c B x n) B
    rw [Int.natCast_add, Int.natCast_mul, h2, Int.natCast_pow, Int.pow_succ]
    generalize (x n + ch_c B x n) / B = q at *
    generalize (x n + ch_c B x n) % B = r at *
    generalize (B : Int) ^ n = P at *
    have h4 : x n = B * q + r - ch_c B x n := by omega
    rw [h4]
    grind
theorem ch_s_congr {B : Int} {x y : Nat → Int} {n : Nat} (h : ∀ i, i < n → x i = y i) : ch_s B x n = ch_s B y n := by
  induction n with
  | zero => rfl
  | succ n ih => rw [ch_s, ch_s, ih (fun i hi => h i (by omega)), h n (by omega)]
theorem ch_s_add {B : Int} (x y : Nat → Int) (a : Int) (n : Nat) : ch_s B (fun i => x i + a * y i) n = ch_s B x n + a * ch_s B y n := by
  induction n with
  | zero => simp [ch_s]
  | succ n ih => simp only [ch_s]; rw [ih]; grind
theorem ch_s_nu (B : Nat) (d : Nat → Nat) (n : Nat) : ch_s B (fun i => (d i : Int)) n = (nu_v B d n : Int) := by
  induction n with
  | zero => rfl
  | succ n ih => rw [ch_s, nu_v, ih, Int.natCast_add, Int.natCast_mul, Int.natCast_pow]
/-- a limb is written, the lower ones are new already -/
theorem nu_up (e d : Nat → Nat) (i : Nat) : upd (fun j => nI (if j < i then e j else d j)) i (nI (e i)) = fun j => nI (if j < i + 1 then e j else d j) := by
  funext j
  by_cases h : j = i
  · subst h; simp [upd]
  · simp only [upd, h, if_false]
    congr 1
    by_cases h2 : j < i
    · rw [if_pos h2, if_pos (by omega)]
    · rw [if_neg h2, if_neg (by omega)]
theorem nu_up0 (e d : Nat → Nat) : (fun j => nI (d j)) = fun j => nI (if j < 0 then e j else d j) := by
  funext j; rw [if_neg (Nat.not_lt_zero j)]
/-- the digits of a number -/
theorem nu_dig {B : Nat} (hB : 0 < B) (u n : Nat) : nu_v B (fun j => u / B ^ j % B) n = u % B ^ n := by
  induction n with
  | zero => rw [nu_v, Nat.pow_zero, Nat.mod_one]
  | succ n ih => rw [nu_v, ih, Nat.mul_comm (u / B ^ n % B), ← Nat.mod_mul, ← Nat.pow_succ]
