/-! pure rows for the minors -/
def mr_ok (T : Nat → Nat → Int) (mi : Nat → Nat) (mb : Nat → Int32) (s : Nat) : Prop := ∀ a, a < s → (∀ j, j < 52 → mi (52 * a + j) = dg (mnr T a).natAbs j) ∧ mb a = (if mnr T a < 0 then 1 else 0)
theorem el_f11 : ∀ m, m ≤ 11 → dt_f m * (9223372036854775808 : Nat) ^ m < 65536 ^ 45 := by
  intro m hm
  rcases (show m = 0 ∨ m = 1 ∨ m = 2 ∨ m = 3 ∨ m = 4 ∨ m = 5 ∨ m = 6 ∨ m = 7 ∨ m = 8 ∨ m = 9 ∨ m = 10 ∨ m = 11 by omega) with h | h | h | h | h | h | h | h | h | h | h | h <;> subst h <;> decide +kernel
theorem mnr_le11 {T : Nat → Nat → Int} (hT : ∀ r c, (T r c).natAbs ≤ 9223372036854775808) {s : Nat} (hs : pcn s 12 ≤ 11) : (mnr T s).natAbs < 65536 ^ 45 := by
  have h1 : (mnr T s).natAbs ≤ dt_f (pcn s 12) * 9223372036854775808 ^ (pcn s 12) := dt_D_le (fun i j _ _ => hT _ _)
  exact Nat.lt_of_le_of_lt h1 (el_f11 _ hs)
theorem pcn_pos {s N : Nat} (h : 0 < s) (hN : s < 2 ^ N) : 0 < pcn s N := by
  induction N with
  | zero => rw [Nat.pow_zero] at hN; omega
  | succ N ih =>
    rw [pcn]
    rcases Nat.lt_or_ge s (2 ^ N) with q | q
    · have := ih q; omega
    · have h1 : s / 2 ^ N % 2 = 1 := by
        have h2 : s / 2 ^ N < 2 := Nat.div_lt_of_lt_mul (by rw [← Nat.pow_succ]; exact hN)
        have h3 : 0 < s / 2 ^ N := Nat.div_pos q (Nat.pow_pos (by decide))
        omega
      omega
theorem st_and {s j : Nat} (hs : s < 4096) (hj : j < 12) (hb : s / 2 ^ j % 2 = 1) : nI s &&& (nI (2 ^ j) ^^^ (-1)) = nI (s - 2 ^ j) := by
  have h := bs_set (w := s) (p := j) (g := 0) (by omega) (by omega) (by decide)
  have h0 : ∀ x : Int32, x ||| nI (0 * 2 ^ j) = x := fun x => by
    rw [Nat.zero_mul]
    apply Int32.toBitVec_inj.mp
    rw [Int32.toBitVec_or]
    show x.toBitVec ||| 0#32 = x.toBitVec
    simp
  rw [h0, Nat.zero_mul, Nat.add_zero] at h
  rw [h]
  congr 1
  have e1 := Nat.div_add_mod s (2 ^ j)
  have e2 : s / 2 ^ (j + 1) = s / 2 ^ j / 2 := by rw [Nat.pow_succ, Nat.div_div_eq_div_mul]
  rw [e2, Nat.pow_succ]
  obtain ⟨y, hy⟩ : ∃ y, s / 2 ^ j = 2 * y + 1 := ⟨s / 2 ^ j / 2, by omega⟩
  rw [hy] at e1 ⊢
  rw [show (2 * y + 1) / 2 = y by omega]
  generalize s % 2 ^ j = lo at *
  generalize 2 ^ j = P at *
  have e3 : P * (2 * y + 1) = y * (P * 2) + P := by grind
  omega
theorem st_lt {s j : Nat} (hs : 0 < s) (hb : s / 2 ^ j % 2 = 1) : s - 2 ^ j < s := by
  have : 0 < 2 ^ j := Nat.pow_pos (by decide)
  omega
theorem sg3 {x m : Int} {c : Nat} {y1 yb y2 y3 y4 : Int32} (h1 : y1 = (if x < 0 then 1 else 0)) (hb : yb = (if m < 0 then 1 else 0)) (h2 : y2 = (if y1 = yb then 0 else 1)) (h3 : y3 = (if c % 2 = 1 then 1 else 0)) (h4 : y4 = (if y2 = y3 then 0 else 1)) : x * (dt_e c * m) = (if y4 = 0 then ((x.natAbs * m.natAbs : Nat) : Int) else -((x.natAbs * m.natAbs : Nat) : Int)) := by
  have hp := wn_prod h1 hb
  have e : x * (dt_e c * m) = dt_e c * (x * m) := by rw [← Int.mul_assoc, Int.mul_comm x, Int.mul_assoc]
  rw [e, ← hp, dt_e_par]
  generalize ((x.natAbs * m.natAbs : Nat) : Int) = P
  by_cases c1 : y1 = yb
  · rw [if_pos c1] at h2 ⊢
    by_cases c2 : c % 2 = 1
    · rw [if_pos c2] at h3 ⊢
      rw [h2, h3, if_neg (by decide)] at h4
      rw [h4, if_neg (by decide)]; omega
    · rw [if_neg c2] at h3 ⊢
      rw [h2, h3, if_pos rfl] at h4
      rw [h4, if_pos rfl]; omega
  · rw [if_neg c1] at h2 ⊢
    by_cases c2 : c % 2 = 1
    · rw [if_pos c2] at h3 ⊢
      rw [h2, h3, if_pos rfl] at h4
      rw [h4, if_pos rfl]; omega
    · rw [if_neg c2] at h3 ⊢
      rw [h2, h3, if_neg (by decide)] at h4
      rw [h4, if_neg (by decide)]; omega
theorem ld16L {v i : Nat} (hv : v < 2 ^ 64) (hi : i < 4) : ((lN v).toUInt64 >>> ((nI (16 * i)).toInt64.toUInt64 &&& Int64.toUInt64 63)).toInt64 &&& 65535 = lZ ((dg v i : Nat) : Int) := by
  rw [wb_shr hv (by omega), show (65535 : Int64) = lN (2 ^ 16 - 1) from rfl, wb_mask (Nat.lt_of_le_of_lt (Nat.div_le_self _ _) hv) (by decide), dg, two16, ← lZ_lN]
theorem nI_52 (a b : Nat) : 52 * nI a + nI b = nI (52 * a + b) := by
  rw [show (52 : Int32) = nI 52 from rfl, pk_mul, nI_add]
theorem shl12 : ∀ p, p ≤ 12 → (1 : Int32) <<< (nI p &&& 31) = nI (2 ^ p) := by decide +kernel
theorem bit_at {s j : Nat} (hs : s < 4096) (hj : j < 12) : nI s >>> (nI j &&& 31) &&& 1 = nI (s / 2 ^ j % 2) := by
  rw [nI_bit (by omega) (by omega), nI_odd (Nat.lt_of_le_of_lt (Nat.div_le_self _ _) (by omega))]
theorem clr60 (f : Nat → Int32) (i : Nat) : upd (fun j => if j < i then nI 0 else f j) i 0 = fun j => if j < i + 1 then nI 0 else f j := clr_up f i
theorem mnr_p {p q : Nat} {z : Int} (h : (p : Int) - (q : Int) = z) : (z < 0 ↔ p < q) ∧ z.natAbs = (if p < q then q - p else p - q) := by
  constructor
  · omega
  · split <;> omega
/-- a row of minors written -/
theorem mr_put {T : Nat → Nat → Int} {mi : Nat → Nat} {mb : Nat → Int32} {s d : Nat} {y : Int32} {E9 : Nat → Nat} (h : mr_ok T mi mb s) (hd : d = (mnr T s).natAbs) (hE : ∀ j, j < 52 → E9 j = dg d j) (hy : y = (if mnr T s < 0 then 1 else 0)) : mr_ok T (fun a => if 52 * s ≤ a ∧ a < 52 * s + 52 then E9 (a - 52 * s) else mi a) (upd mb s y) (s + 1) := by
  intro a ha
  by_cases q : a = s
  · subst q
    refine ⟨fun j hj => ?_, by simp [upd]; exact hy⟩
    show (if 52 * a ≤ 52 * a + j ∧ 52 * a + j < 52 * a + 52 then E9 (52 * a + j - 52 * a) else mi (52 * a + j)) = _
    rw [if_pos (by omega), Nat.add_sub_cancel_left, hE j hj, hd]
  · obtain ⟨h1, h2⟩ := h a (by omega)
    refine ⟨fun j hj => ?_, by simp only [upd, q, if_false]; exact h2⟩
    show (if 52 * s ≤ 52 * a + j ∧ 52 * a + j < 52 * s + 52 then _ else mi (52 * a + j)) = _
    rw [if_neg (by omega)]
    exact h1 j hj
