/-! sets of columns as numbers: how many below j, and which is the c-th -/
def pcn (s : Nat) : Nat → Nat
  | 0 => 0
  | j + 1 => pcn s j + s / 2 ^ j % 2
def clm (s : Nat) : Nat → Nat → Nat
  | 0, _ => 0
  | j + 1, c => if s / 2 ^ j % 2 = 1 ∧ pcn s j = c then j else clm s j c
theorem pcn_mono {s i j : Nat} (h : i ≤ j) : pcn s i ≤ pcn s j := by
  obtain ⟨d, rfl⟩ : ∃ d, j = i + d := ⟨j - i, by omega⟩
  clear h
  induction d with
  | zero => exact Nat.le_refl _
  | succ d ih => exact Nat.le_trans ih (by show _ ≤ pcn s (i + d) + _; omega)
theorem pcn_le (s j : Nat) : pcn s j ≤ j := by
  induction j with
  | zero => exact Nat.le_refl _
  | succ j ih =>
    have : s / 2 ^ j % 2 < 2 := Nat.mod_lt _ (by decide)
    rw [pcn]; omega
theorem clm_at {s j N : Nat} (hj : j < N) (hb : s / 2 ^ j % 2 = 1) : clm s N (pcn s j) = j := by
  induction N with
  | zero => omega
  | succ N ih =>
    rw [clm]
    rcases Nat.lt_or_ge j N with q | q
    · have h1 := pcn_mono (s := s) (show j + 1 ≤ N from q)
      rw [pcn, hb] at h1
      rw [if_neg (by omega)]
      exact ih q
    · have : j = N := by omega
      subst this
      rw [if_pos ⟨hb, rfl⟩]
theorem clm_ex {s c N : Nat} (hc : c < pcn s N) : ∃ j, j < N ∧ s / 2 ^ j % 2 = 1 ∧ pcn s j = c := by
  induction N with
  | zero => exact absurd hc (Nat.not_lt_zero _)
  | succ N ih =>
    rw [pcn] at hc
    rcases Nat.lt_or_ge c (pcn s N) with q | q
    · obtain ⟨j, h1, h2, h3⟩ := ih q
      exact ⟨j, by omega, h2, h3⟩
    · have : s / 2 ^ N % 2 < 2 := Nat.mod_lt _ (by decide)
      exact ⟨N, by omega, by omega, by omega⟩
/-- a set without one of its columns -/
theorem st_bit {s j : Nat} (hb : s / 2 ^ j % 2 = 1) (i : Nat) : (s - 2 ^ j) / 2 ^ i % 2 = if i = j then 0 else s / 2 ^ i % 2 := by
  have hs : s = 2 ^ j * (s / 2 ^ j) + s % 2 ^ j := (Nat.div_add_mod s (2 ^ j)).symm
  have hlt : s % 2 ^ j < 2 ^ j := Nat.mod_lt _ (Nat.pow_pos (by decide))
  obtain ⟨y, hy⟩ : ∃ y, s / 2 ^ j = 2 * y + 1 := ⟨s / 2 ^ j / 2, by omega⟩
  rw [hy] at hs
  generalize s % 2 ^ j = lo at *
  have e0 : s - 2 ^ j = 2 ^ j * (2 * y) + lo := by
    rw [hs, Nat.mul_add, Nat.mul_one]; omega
  rw [e0, hs]
  have hp : 0 < 2 ^ j := Nat.pow_pos (by decide)
  rcases Nat.lt_trichotomy i j with q | q | q
  · rw [if_neg (by omega)]
    have e1 : 2 ^ j = 2 ^ i * (2 * 2 ^ (j - i - 1)) := by rw [← Nat.pow_succ', ← Nat.pow_add]; congr 1; omega
    have f : ∀ w : Nat, (2 ^ j * w + lo) / 2 ^ i % 2 = lo / 2 ^ i % 2 := fun w => by
      rw [e1, show 2 ^ i * (2 * 2 ^ (j - i - 1)) * w + lo = lo + 2 ^ i * (2 * (2 ^ (j - i - 1) * w)) by grind, Nat.add_mul_div_left _ _ (Nat.pow_pos (by decide)), Nat.add_mul_mod_self_left]
    rw [f, f]
  · subst q
    rw [if_pos rfl, Nat.mul_add_div hp, Nat.div_eq_of_lt hlt]
    omega
  · rw [if_neg (by omega)]
    have e1 : 2 ^ i = 2 ^ j * (2 * 2 ^ (i - j - 1)) := by rw [← Nat.pow_succ', ← Nat.pow_add]; congr 1; omega
    have f : ∀ w : Nat, w < 2 → (2 ^ j * (2 * y + w) + lo) / 2 ^ i = y / 2 ^ (i - j - 1) := fun w hw => by
      rw [e1, ← Nat.div_div_eq_div_mul, Nat.mul_add_div hp, Nat.div_eq_of_lt hlt, Nat.add_zero, ← Nat.div_div_eq_div_mul, show (2 * y + w) / 2 = y by omega]
    rw [f 1 (by decide)]
    have := f 0 (by decide)
    rw [Nat.add_zero] at this
    rw [this]
theorem st_pcn {s j : Nat} (hb : s / 2 ^ j % 2 = 1) (i : Nat) : pcn (s - 2 ^ j) i = if i ≤ j then pcn s i else pcn s i - 1 := by
  induction i with
  | zero => rw [if_pos (Nat.zero_le j)]; rfl
  | succ i ih =>
    rw [pcn, ih, st_bit hb, pcn]
    rcases Nat.lt_trichotomy i j with q | q | q
    · rw [if_pos (by omega), if_neg (by omega), if_pos (by omega)]
    · subst q
      rw [if_pos (Nat.le_refl i), if_pos rfl, if_neg (by omega), hb]
      omega
    · have h1 := pcn_mono (s := s) (show j + 1 ≤ i from q)
      rw [pcn, hb] at h1
      rw [if_neg (by omega), if_neg (by omega), if_neg (by omega)]
      omega
theorem st_clm {s j c N : Nat} (hj : j < N) (hb : s / 2 ^ j % 2 = 1) (hc : c < pcn (s - 2 ^ j) N) : clm (s - 2 ^ j) N c = clm s N (if c < pcn s j then c else c + 1) := by
  obtain ⟨i, h1, h2, h3⟩ := clm_ex hc
  have h4 := clm_at h1 h2
  rw [h3] at h4
  rw [h4]
  rw [st_bit hb] at h2
  have hij : i ≠ j := fun e => by rw [if_pos e] at h2; omega
  rw [if_neg hij] at h2
  rw [st_pcn hb] at h3
  have h5 := clm_at h1 h2
  rcases Nat.lt_or_ge i j with q | q
  · rw [if_pos (by omega)] at h3
    have h6 := pcn_mono (s := s) (show i + 1 ≤ j from q)
    rw [pcn, h2] at h6
    rw [if_pos (by omega), ← h3]
    exact h5.symm
  · rw [if_neg (by omega)] at h3
    have h6 := pcn_mono (s := s) (show j + 1 ≤ i by omega)
    rw [pcn, hb] at h6
    rw [if_neg (by omega), show c + 1 = pcn s i by omega]
    exact h5.symm
/-- the minor of the first rows over a set of columns -/
def mnr (T : Nat → Nat → Int) (s : Nat) : Int := dt_D (pcn s 12) (fun r c => T r (clm s 12 c))
theorem mnr_0 (T : Nat → Nat → Int) : mnr T 0 = 1 := by
  have h : ∀ j, pcn 0 j = 0 := fun j => by
    induction j with
    | zero => rfl
    | succ j ih => rw [pcn, ih, Nat.zero_div]
  rw [mnr, h]; rfl
def mnt (T : Nat → Nat → Int) (s k c : Nat) : Int := T k (clm s 12 c) * (dt_e (k - c) * mnr T (s - 2 ^ clm s 12 c))
theorem mnr_lap {T : Nat → Nat → Int} {s k : Nat} (hk : pcn s 12 = k + 1) : mnr T s = dt_s (k + 1) (mnt T s k) := by
  rw [mnr, hk, dt_lap]
  refine dt_s_congr (fun c hc => ?_)
  obtain ⟨j, h1, h2, h3⟩ := clm_ex (s := s) (c := c) (N := 12) (by omega)
  have h4 : clm s 12 c = j := by rw [← h3]; exact clm_at h1 h2
  rw [mnt, h4]
  congr 2
  rw [mnr]
  have h5 : pcn (s - 2 ^ j) 12 = k := by rw [st_pcn h2, if_neg (by omega), hk]; rfl
  rw [h5]
  refine dt_D_congr (fun r hr c' hc' => ?_)
  show T r (clm s 12 (if c' < c then c' else c' + 1)) = T r (clm (s - 2 ^ j) 12 c')
  rw [st_clm h1 h2 (by omega), h3]
theorem mnt_at {T : Nat → Nat → Int} {s k j : Nat} (hj : j < 12) (hb : s / 2 ^ j % 2 = 1) : mnt T s k (pcn s j) = T k j * (dt_e (k - pcn s j) * mnr T (s - 2 ^ j)) := by
  rw [mnt, clm_at hj hb]
theorem mns_s {T : Nat → Nat → Int} {s k j : Nat} (hj : j < 12) : dt_s (pcn s (j + 1)) (mnt T s k) = dt_s (pcn s j) (mnt T s k) + (if s / 2 ^ j % 2 = 1 then T k j * (dt_e (k - pcn s j) * mnr T (s - 2 ^ j)) else 0) := by
  rw [pcn]
  by_cases h : s / 2 ^ j % 2 = 1
  · rw [if_pos h, h, ← mnt_at hj h]; rfl
  · have : s / 2 ^ j % 2 < 2 := Nat.mod_lt _ (by decide)
    rw [if_neg h, show s / 2 ^ j % 2 = 0 by omega, Int.add_zero, Nat.add_zero]
theorem mnr_le {T : Nat → Nat → Int} (hT : ∀ r c, (T r c).natAbs ≤ 9223372036854775808) (s : Nat) : (mnr T s).natAbs < 65536 ^ 50 := by
  have h1 : (mnr T s).natAbs ≤ dt_f (pcn s 12) * 9223372036854775808 ^ (pcn s 12) := dt_D_le (fun i j _ _ => hT _ _)
  have h2 := el_f _ (pcn_le s 12)
  have h3 : (33554432 : Nat) ^ 32 = 65536 ^ 50 := by decide +kernel
  rw [← h3]
  exact Nat.lt_of_le_of_lt h1 h2
theorem pcn_all {n j : Nat} (hj : j ≤ n) : pcn (2 ^ n - 1) j = j := by
  induction j with
  | zero => rfl
  | succ j ih =>
    rw [pcn, ih (by omega)]
    have : (2 ^ n - 1) / 2 ^ j % 2 = 1 := by
      have h := Nat.testBit_two_pow_sub_one n j
      rw [Nat.testBit_eq_decide_div_mod_eq] at h
      simp [show j < n by omega] at h
      exact h
    rw [this]
theorem pcn_hi {n j : Nat} (hj : n ≤ j) : pcn (2 ^ n - 1) j = n := by
  obtain ⟨d, rfl⟩ : ∃ d, j = n + d := ⟨j - n, by omega⟩
  clear hj
  induction d with
  | zero => exact pcn_all (Nat.le_refl n)
  | succ d ih =>
    show pcn (2 ^ n - 1) (n + d) + (2 ^ n - 1) / 2 ^ (n + d) % 2 = n
    have h1 : 2 ^ n ≤ 2 ^ (n + d) := Nat.pow_le_pow_right (by decide) (by omega)
    have h2 : 0 < 2 ^ n := Nat.pow_pos (by decide)
    rw [ih, Nat.div_eq_of_lt (by omega)]
    rfl
theorem mnr_all {T : Nat → Nat → Int} {n : Nat} (hn : n ≤ 12) : mnr T (2 ^ n - 1) = dt_D n T := by
  rw [mnr, pcn_hi hn]
  refine dt_D_congr (fun r hr c hc => ?_)
  have hb : (2 ^ n - 1) / 2 ^ c % 2 = 1 := by
    have h := Nat.testBit_two_pow_sub_one n c
    rw [Nat.testBit_eq_decide_div_mod_eq] at h
    simp [hc] at h
    exact h
  have h1 := clm_at (s := 2 ^ n - 1) (j := c) (N := 12) (by omega) hb
  rw [pcn_all (by omega)] at h1
  show T r (clm (2 ^ n - 1) 12 c) = T r c
  rw [h1]
theorem dt_e_par (n : Nat) : dt_e n = if n % 2 = 1 then -1 else 1 := by
  induction n with
  | zero => rfl
  | succ n ih =>
    have : dt_e (n + 1) = -dt_e n := rfl
    rw [this, ih]
    by_cases h : n % 2 = 1
    · rw [if_pos h, if_neg (by omega)]; rfl
    · rw [if_neg h, if_pos (by omega)]
