/-! what a call that makes a number asks: kept, or nothing -/
def bigN : Nat := 65536 ^ 100
theorem bigN_25 : 33554432 ^ 64 = bigN := w1600
theorem bigN_16 : 65536 ^ 100 = bigN := rfl
def kp (cnt : Nat) (nums : Nat → Int) (oz : Option Int) (r : Int32) (cnt1 : Nat) (nums1 : Nat → Int) : Prop :=
  (∃ z, oz = some z ∧ cnt < 160 ∧ z.natAbs < bigN ∧ r = nI cnt ∧ cnt1 = cnt + 1 ∧ nums1 cnt = z ∧ ∀ j, j < cnt → nums1 j = nums j) ∨
  ((160 ≤ cnt ∨ oz = none ∨ ∃ z, oz = some z ∧ bigN ≤ z.natAbs) ∧ r = -1 ∧ cnt1 = cnt ∧ ∀ j, j < cnt → nums1 j = nums j)
theorem kp_one {cnt c1 c2 : Nat} {nums nums' n1 n2 : Nat → Int} {oz : Option Int} {r r' : Int32} (h : kp cnt nums oz r c1 n1) (h' : kp cnt nums' oz r' c2 n2) (hn : ∀ j, j < cnt → nums j = nums' j) : r = r' ∧ c1 = c2 ∧ ∀ j, j < c1 → n1 j = n2 j := by
  rcases h with ⟨z, a1, a2, a3, a4, a5, a6, a7⟩ | ⟨a1, a2, a3, a4⟩ <;> rcases h' with ⟨y, b1, b2, b3, b4, b5, b6, b7⟩ | ⟨b1, b2, b3, b4⟩
  · have hz : z = y := Option.some.inj (a1.symm.trans b1)
    refine ⟨a4.trans b4.symm, a5.trans b5.symm, fun j hj => ?_⟩
    rcases Nat.lt_or_ge j cnt with q | q
    · rw [a7 j q, b7 j q, hn j q]
    · have : j = cnt := by omega
      subst this
      rw [a6, b6, hz]
  · rcases b1 with b1 | b1 | ⟨y, b1, b5⟩
    · omega
    · rw [a1] at b1; cases b1
    · have hz : z = y := Option.some.inj (a1.symm.trans b1)
      subst hz; omega
  · rcases a1 with a1 | a1 | ⟨z, a1, a5⟩
    · omega
    · rw [b1] at a1; cases a1
    · have hz : z = y := Option.some.inj (a1.symm.trans b1)
      subst hz; omega
  · exact ⟨a2.trans b2.symm, a3.trans b3.symm, fun j hj => by rw [a4 j (by omega), b4 j (by omega), hn j (by omega)]⟩
/-! choices -/
def bc : Nat → Nat → Nat
  | _, 0 => 1
  | 0, _ + 1 => 0
  | n + 1, k + 1 => bc n k + bc n (k + 1)
theorem bc_0 (n : Nat) : bc n 0 = 1 := by cases n <;> rfl
theorem bc_s (n k : Nat) : bc (n + 1) (k + 1) = bc n k + bc n (k + 1) := rfl
theorem bc_gt {n k : Nat} (h : n < k) : bc n k = 0 := by
  induction n generalizing k with
  | zero => obtain ⟨j, rfl⟩ : ∃ j, k = j + 1 := ⟨k - 1, by omega⟩; rfl
  | succ n ih =>
    obtain ⟨j, rfl⟩ : ∃ j, k = j + 1 := ⟨k - 1, by omega⟩
    rw [bc_s, ih (by omega), ih (by omega)]
theorem bc_nn (n : Nat) : bc n n = 1 := by
  induction n with
  | zero => rfl
  | succ n ih => rw [bc_s, ih, bc_gt (Nat.lt_succ_self n)]
theorem bc_up (n k : Nat) : (k + 1) * bc (n + 1) (k + 1) = (n + 1) * bc n k := by
  induction n generalizing k with
  | zero =>
    cases k with
    | zero => rfl
    | succ k => rw [bc_s, bc_gt (n := 0) (by omega), bc_gt (n := 0) (by omega)]; rfl
  | succ n ih =>
    cases k with
    | zero =>
      have h := ih 0
      rw [bc_0] at h ⊢
      rw [bc_s, bc_0]
      omega
    | succ k =>
      have h1 := ih k
      have h2 := ih (k + 1)
      rw [bc_s (n + 1) (k + 1)]
      have h3 : bc (n + 1) (k + 1) = bc n k + bc n (k + 1) := bc_s n k
      generalize bc (n + 1) (k + 1) = a at *
      generalize bc (n + 1) (k + 1 + 1) = b at *
      generalize bc n k = x at *
      generalize bc n (k + 1) = y at *
      have e1 : (k + 1 + 1) * (a + b) = (k + 1) * a + a + (k + 1 + 1) * b := by grind
      rw [e1, h1, h2, h3]
      grind
theorem bc_next {n k : Nat} (h : k ≤ n) : (k + 1) * bc n (k + 1) = (n - k) * bc n k := by
  have h1 := bc_up n k
  rw [bc_s] at h1
  obtain ⟨d, rfl⟩ : ∃ d, n = k + d := ⟨n - k, by omega⟩
  rw [Nat.add_sub_cancel_left]
  generalize bc (k + d) k = x at *
  generalize bc (k + d) (k + 1) = y at *
  have e1 : (k + 1) * (x + y) = (k + 1) * x + (k + 1) * y := by grind
  have e2 : (k + d + 1) * x = (k + 1) * x + d * x := by grind
  omega
theorem bc_sym {n k : Nat} (h : k ≤ n) : bc n k = bc n (n - k) := by
  induction n generalizing k with
  | zero => rw [show k = 0 by omega]
  | succ n ih =>
    cases k with
    | zero => rw [bc_0, Nat.sub_zero, bc_nn]
    | succ k =>
      rcases Nat.lt_or_ge k n with q | q
      · rw [bc_s, show n + 1 - (k + 1) = (n - k - 1) + 1 by omega, bc_s, ih (show k ≤ n by omega), ih (show k + 1 ≤ n by omega), show n - (k + 1) = n - k - 1 by omega, show n - k - 1 + 1 = n - k by omega]
        omega
      · rw [show k = n by omega, bc_nn, Nat.sub_self, bc_0]
theorem bc_grow {n i : Nat} (h : 2 * i + 1 ≤ n) : bc n i ≤ bc n (i + 1) := by
  have h1 := bc_next (n := n) (k := i) (by omega)
  have h2 : (i + 1) * bc n i ≤ (n - i) * bc n i := Nat.mul_le_mul_right _ (by omega)
  rw [← h1] at h2
  exact Nat.le_of_mul_le_mul_left h2 (by omega)
theorem bc_mono {n i s : Nat} (hi : i ≤ s) (hs : 2 * s ≤ n) : bc n i ≤ bc n s := by
  obtain ⟨d, rfl⟩ : ∃ d, s = i + d := ⟨s - i, by omega⟩
  clear hi
  induction d with
  | zero => exact Nat.le_refl _
  | succ d ih => exact Nat.le_trans (ih (by omega)) (bc_grow (by omega))
theorem bc_diag {N i d : Nat} : bc (N + i) i ≤ bc (N + (i + d)) (i + d) := by
  induction d with
  | zero => exact Nat.le_refl _
  | succ d ih =>
    refine Nat.le_trans ih ?_
    show _ ≤ bc (N + (i + d) + 1) (i + d + 1)
    rw [bc_s]
    exact Nat.le_add_right _ _
theorem bc_pos {n k : Nat} (h : k ≤ n) : 0 < bc n k := by
  obtain ⟨d, rfl⟩ : ∃ d, n = d + k := ⟨n - k, by omega⟩
  have := bc_diag (N := d) (i := 0) (d := k)
  rw [bc_0, Nat.zero_add] at this
  omega
/-! factorials -/
def fc : Nat → Nat
  | 0 => 1
  | n + 1 => fc n * (n + 1)
theorem fc_pos (n : Nat) : 0 < fc n := by
  induction n with
  | zero => decide
  | succ n ih => rw [fc]; exact Nat.mul_pos ih (by omega)
theorem fc_mono {a b : Nat} (h : a ≤ b) : fc a ≤ fc b := by
  obtain ⟨d, rfl⟩ : ∃ d, b = a + d := ⟨b - a, by omega⟩
  clear h
  induction d with
  | zero => exact Nat.le_refl _
  | succ d ih =>
    refine Nat.le_trans ih ?_
    show _ ≤ fc (a + d) * (a + d + 1)
    exact Nat.le_mul_of_pos_right _ (by omega)
theorem fc_big (n : Nat) : 2 ^ n ≤ fc (n + 1) := by
  induction n with
  | zero => decide
  | succ n ih =>
    rw [fc, Nat.pow_succ]
    exact Nat.mul_le_mul ih (by omega)
theorem fc_wide {n : Nat} (h : 1601 ≤ n) : bigN ≤ fc n := by
  have h1 := fc_big 1600
  have h2 := fc_mono h
  have h3 : bigN = 2 ^ 1600 := by decide +kernel
  rw [h3]
  exact Nat.le_trans h1 h2
/-! powers -/
theorem pw_mono {x a b : Nat} (h : a ≤ b) (hx : 1 < x ^ a) : x ^ a ≤ x ^ b := by
  rcases Nat.eq_zero_or_pos x with q | q
  · subst q
    cases a with
    | zero => exact absurd hx (by decide)
    | succ a => rw [Nat.zero_pow (Nat.succ_pos a)] at hx; omega
  · exact Nat.pow_le_pow_right q h
theorem pw_wide {x a b : Nat} (h : a ≤ b) (hx : bigN ≤ x ^ a) : bigN ≤ x ^ b :=
  Nat.le_trans hx (pw_mono h (Nat.lt_of_lt_of_le (by decide +kernel) hx))
theorem pw_abs (x : Int) (n : Nat) : (x ^ n).natAbs = x.natAbs ^ n := Int.natAbs_pow x n
theorem pw_sign (x : Int) (n : Nat) : (x < 0 ∧ n % 2 = 1 → x ^ n = -((x.natAbs ^ n : Nat) : Int)) ∧ (¬ (x < 0 ∧ n % 2 = 1) → x ^ n = ((x.natAbs ^ n : Nat) : Int)) := by
  rcases Int.lt_or_le x 0 with q | q
  · have hx : x = -(x.natAbs : Int) := by omega
    have key : ∀ m : Nat, x ^ (2 * m) = ((x.natAbs ^ (2 * m) : Nat) : Int) := fun m => by
      rw [Int.pow_mul, Nat.pow_mul, Int.natCast_pow]
      congr 1
      rw [Int.pow_succ, Int.pow_succ, Int.pow_zero, Int.one_mul, Nat.pow_two, Int.natCast_mul]
      rw [← Int.natAbs_mul_self]
      rw [Int.natCast_mul]
    have hd : n = 2 * (n / 2) + n % 2 := by omega
    constructor
    · intro h
      rw [hd, h.2, Int.pow_succ, Nat.pow_succ, key, Int.natCast_mul]
      have : x = -(x.natAbs : Int) := hx
      generalize (x.natAbs ^ (2 * (n / 2)) : Nat) = P
      generalize hy : (x.natAbs : Int) = y at *
      rw [this]
      rw [Int.mul_neg]
    · intro h
      have : n % 2 = 0 := by omega
      rw [hd, this]
      exact key _
  · have hx : x = (x.natAbs : Int) := by omega
    refine ⟨fun h => absurd h.1 (by omega), fun _ => ?_⟩
    rw [Int.natCast_pow, ← hx]
