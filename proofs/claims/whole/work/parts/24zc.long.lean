/-! a limb written, and what the number becomes -/
theorem nu_set {B : Nat} (d : Nat → Nat) {p n : Nat} (x : Nat) (hp : p < n) : nu_v B (fun t => if t = p then x else d t) n + d p * B ^ p = nu_v B d n + x * B ^ p := by
  induction n with
  | zero => omega
  | succ n ih =>
    rw [nu_v, nu_v]
    rcases Nat.lt_or_ge p n with q | q
    · have := ih q
      rw [if_neg (by omega)]
      omega
    · have e : p = n := by omega
      subst e
      rw [if_pos rfl, nu_v_congr (d := fun t => if t = p then x else d t) (e := d) (fun j hj => by rw [if_neg (by omega)])]
      omega
theorem upd_nI (d : Nat → Nat) (p x : Nat) : upd (fun j => nI (d j)) p (nI x) = fun j => nI (if j = p then x else d j) := by
  funext j
  by_cases h : j = p
  · subst h; simp [upd]
  · simp [upd, h]
/-- a step in a row of a product -/
theorem mp_step {d : Nat → Nat} {n i j w u cy P v : Nat} (hij : i + j < n) (hv : v = w * dg u j + d (i + j) + cy) (h : nu_v 65536 d n + cy * 65536 ^ (i + j) = P + w * 65536 ^ i * (u % 65536 ^ j)) : nu_v 65536 (fun t => if t = i + j then v % 65536 else d t) n + v / 65536 * 65536 ^ (i + (j + 1)) = P + w * 65536 ^ i * (u % 65536 ^ (j + 1)) := by
  have h1 := nu_set (B := 65536) d (v % 65536) hij
  have h2 : u % 65536 ^ (j + 1) = u % 65536 ^ j + 65536 ^ j * dg u j := by rw [Nat.pow_succ, Nat.mod_mul]; rfl
  have h3 : v = 65536 * (v / 65536) + v % 65536 := (Nat.div_add_mod v 65536).symm
  rw [h2, show i + (j + 1) = i + j + 1 by omega, Nat.pow_succ]
  rw [Nat.pow_add] at *
  generalize nu_v 65536 (fun t => if t = i + j then v % 65536 else d t) n = X at *
  generalize nu_v 65536 d n = Y at *
  generalize v / 65536 = q at *
  generalize v % 65536 = r at *
  generalize d (i + j) = a at *
  generalize dg u j = b at *
  generalize u % 65536 ^ j = c at *
  generalize (65536 : Nat) ^ i = S at *
  generalize (65536 : Nat) ^ j = T at *
  have h4 : 65536 * q + r = w * b + a + cy := by omega
  have h5 : (65536 * q + r) * (S * T) = (w * b + a + cy) * (S * T) := by rw [h4]
  have e1 : (65536 * q + r) * (S * T) = q * (S * T * 65536) + r * (S * T) := by grind
  have e2 : (w * b + a + cy) * (S * T) = w * S * (T * b) + a * (S * T) + cy * (S * T) := by grind
  have e3 : w * S * (c + T * b) = w * S * c + w * S * (T * b) := by grind
  omega
theorem mp_v {w b a cy : Nat} (hw : w < 65536) (hb : b < 65536) (ha : a < 65536) (hc : cy < 65536) : w * b + a + cy < 4294967296 := by
  have h1 : w * b ≤ 65535 * 65535 := Nat.mul_le_mul (by omega) (by omega)
  omega
/-- behind the last limb of a factor nothing is carried but into one more -/
theorem mp_end {X cy i j w u P k : Nat} (h : X + cy * 65536 ^ (i + j) = P + w * 65536 ^ i * (u % 65536 ^ j)) (hP : P < 65536 ^ i * 65536 ^ k) (hPu : P + 65536 ^ i * w * u < 65536 ^ (i + 1 + k)) (hj : k + 1 ≤ j) (hu : u < 65536 ^ k) : cy = 0 := by
  rcases Nat.eq_zero_or_pos cy with q | q
  · exact q
  · have h1 : 1 * 65536 ^ (i + j) ≤ cy * 65536 ^ (i + j) := Nat.mul_le_mul_right _ q
    have h2 : 65536 ^ (i + 1 + k) ≤ 65536 ^ (i + j) := w16_le (by omega)
    have h3 : u % 65536 ^ j = u := Nat.mod_eq_of_lt (Nat.lt_of_lt_of_le hu (w16_le (by omega)))
    rw [h3, Nat.mul_comm w] at h
    omega
/-- the rows that are through -/
theorem mp_row (v u i : Nat) : v % 65536 ^ (i + 1) * u = v % 65536 ^ i * u + dg v i * 65536 ^ i * u := by
  rw [Nat.pow_succ, Nat.mod_mul, Nat.add_mul]
  show _ + 65536 ^ i * dg v i * u = _
  rw [Nat.mul_comm (65536 ^ i)]
theorem mp_lt {v u i k : Nat} (hu : u < 65536 ^ k) : v % 65536 ^ i * u < 65536 ^ (i + k) := by
  rw [Nat.pow_add]
  have h1 : v % 65536 ^ i < 65536 ^ i := Nat.mod_lt _ (w16_pos i)
  rcases Nat.eq_zero_or_pos u with q | q
  · rw [q, Nat.mul_zero]; exact Nat.mul_pos (w16_pos i) (w16_pos k)
  · have h2 : v % 65536 ^ i * u < 65536 ^ i * u := Nat.mul_lt_mul_of_pos_right h1 q
    have h3 : 65536 ^ i * u ≤ 65536 ^ i * 65536 ^ k := Nat.mul_le_mul_left _ (by omega)
    omega
theorem mul_lt16 {v u a b : Nat} (hv : v < 65536 ^ a) (hu : u < 65536 ^ b) : v * u < 65536 ^ (a + b) := by
  have := mp_lt (v := v) (i := a) hu
  rwa [Nat.mod_eq_of_lt hv] at this
/-! long division, bit by bit -/
theorem two16 (j : Nat) : (65536 : Nat) ^ j = 2 ^ (16 * j) := by rw [Nat.pow_mul]
theorem dg_bit (v q : Nat) : dg v (q / 16) / 2 ^ (q % 16) % 2 = v / 2 ^ q % 2 := by
  have h : q = 16 * (q / 16) + q % 16 := by omega
  have hp : q % 16 < 16 := Nat.mod_lt _ (by decide)
  generalize q / 16 = a at *
  generalize q % 16 = p at *
  subst h
  rw [dg, two16, Nat.pow_add, ← Nat.div_div_eq_div_mul]
  generalize v / 2 ^ (16 * a) = x
  have e : 65536 = 2 ^ p * 2 ^ (16 - p) := by rw [← Nat.pow_add, show p + (16 - p) = 16 by omega]
  rw [e, Nat.mod_mul_right_div_self]
  have e2 : 2 ^ (16 - p) = 2 * 2 ^ (15 - p) := by rw [← Nat.pow_succ']; congr 1; omega
  rw [e2, Nat.mod_mul_right_mod]
def dvN (v u b : Nat) : Nat := v / 2 ^ b / u * 2 ^ b + v % 2 ^ b
def dvR (v u b : Nat) : Nat := v / 2 ^ b % u
theorem dv_half (v b : Nat) : v / 2 ^ b = 2 * (v / 2 ^ (b + 1)) + v / 2 ^ b % 2 := by
  rw [Nat.pow_succ, ← Nat.div_div_eq_div_mul]; omega
theorem dv_bit (v u b : Nat) : dvN v u (b + 1) / 2 ^ b % 2 = v / 2 ^ b % 2 := by
  unfold dvN
  have h1 : v % 2 ^ (b + 1) = v % 2 ^ b + 2 ^ b * (v / 2 ^ b % 2) := by rw [Nat.pow_succ, Nat.mod_mul]
  rw [h1]
  have hp : 0 < 2 ^ b := Nat.pow_pos (by decide)
  have hlt : v % 2 ^ b < 2 ^ b := Nat.mod_lt _ hp
  generalize v / 2 ^ (b + 1) / u = Q
  rw [Nat.pow_succ]
  generalize hP : 2 ^ b = P at *
  generalize v % P = lo at *
  have hc : v / P % 2 < 2 := Nat.mod_lt _ (by decide)
  generalize v / P % 2 = cc at *
  rw [show Q * (P * 2) + (lo + P * cc) = lo + P * (2 * Q + cc) by grind, Nat.add_mul_div_left _ _ hp, Nat.div_eq_of_lt hlt]
  omega
theorem dv_rest {v u b : Nat} (hu : 0 < u) : 2 * dvR v u (b + 1) + v / 2 ^ b % 2 < 2 * u ∧ dvR v u b = (if u ≤ 2 * dvR v u (b + 1) + v / 2 ^ b % 2 then 2 * dvR v u (b + 1) + v / 2 ^ b % 2 - u else 2 * dvR v u (b + 1) + v / 2 ^ b % 2) ∧ v / 2 ^ b / u = 2 * (v / 2 ^ (b + 1) / u) + (if u ≤ 2 * dvR v u (b + 1) + v / 2 ^ b % 2 then 1 else 0) := by
  unfold dvR
  have h1 := dv_half v b
  have hc : v / 2 ^ b % 2 < 2 := Nat.mod_lt _ (by decide)
  generalize v / 2 ^ b % 2 = cc at *
  generalize hx : v / 2 ^ b = x at *
  generalize v / 2 ^ (b + 1) = y at *
  have h2 := Nat.div_add_mod y u
  have h3 : y % u < u := Nat.mod_lt _ hu
  generalize y / u = Q at *
  generalize y % u = r at *
  have h4 : x = u * (2 * Q) + (2 * r + cc) := by rw [h1, ← h2]; grind
  refine ⟨by omega, ?_, ?_⟩
  · rw [h4, Nat.mul_add_mod]
    split
    · next g => rw [Nat.mod_eq_sub_mod g, Nat.mod_eq_of_lt (by omega)]
    · next g => rw [Nat.mod_eq_of_lt (by omega)]
  · rw [h4, Nat.mul_add_div hu]
    split
    · next g => rw [Nat.div_eq_sub_div hu g, Nat.div_eq_of_lt (show 2 * r + cc - u < u by omega)]
    · next g => rw [Nat.div_eq_of_lt (by omega)]
/-- a limb as the bits above, at, and below p -/
theorem bs_set {w p g : Nat} (hw : w < 65536) (hp : p < 16) (hg : g < 2) : nI w &&& (nI (2 ^ p) ^^^ (-1)) ||| nI (g * 2 ^ p) = nI (w / 2 ^ (p + 1) * 2 ^ (p + 1) + g * 2 ^ p + w % 2 ^ p) := by
  have h2p : 2 ^ p < 2 ^ 16 := Nat.pow_lt_pow_right (by decide) hp
  have hgp : g * 2 ^ p < 2 ^ 32 := by
    have : g * 2 ^ p ≤ 1 * 2 ^ p := Nat.mul_le_mul_right _ (by omega)
    omega
  have hlo : w % 2 ^ p < 2 ^ p := Nat.mod_lt _ (Nat.pow_pos (by decide))
  have hv : w / 2 ^ (p + 1) * 2 ^ (p + 1) + g * 2 ^ p + w % 2 ^ p < 2 ^ 32 := by
    have h1 : w / 2 ^ (p + 1) * 2 ^ (p + 1) ≤ w := Nat.div_mul_le_self _ _
    have : g * 2 ^ p ≤ 1 * 2 ^ p := Nat.mul_le_mul_right _ (by omega)
    omega
  apply Int32.toBitVec_inj.mp
  apply BitVec.eq_of_getLsbD_eq
  intro i hi
  rw [Int32.toBitVec_or, Int32.toBitVec_and, Int32.toBitVec_xor]
  show (((BitVec.ofNat 32 w) &&& ((BitVec.ofNat 32 (2 ^ p)) ^^^ (-1 : Int32).toBitVec)) ||| (BitVec.ofNat 32 (g * 2 ^ p))).getLsbD i = (BitVec.ofNat 32 _).getLsbD i
  have hm1 : (-1 : Int32).toBitVec = BitVec.allOnes 32 := by decide
  rw [hm1, BitVec.getLsbD_or, BitVec.getLsbD_and, BitVec.getLsbD_xor, BitVec.getLsbD_ofNat, BitVec.getLsbD_ofNat, BitVec.getLsbD_ofNat, BitVec.getLsbD_ofNat, BitVec.getLsbD_allOnes]
  simp only [hi, decide_true, Bool.true_and, Nat.testBit_two_pow]
  have e1 : w / 2 ^ (p + 1) * 2 ^ (p + 1) + g * 2 ^ p + w % 2 ^ p = 2 ^ p * (2 * (w / 2 ^ (p + 1)) + g) + w % 2 ^ p := by
    rw [Nat.pow_succ]
    generalize w / (2 ^ p * 2) = h
    generalize w % 2 ^ p = lo
    generalize 2 ^ p = P
    grind
  rw [e1, Nat.testBit_two_pow_mul_add _ hlo]
  have e2 : g * 2 ^ p = 2 ^ p * g + 0 := by rw [Nat.mul_comm, Nat.add_zero]
  rw [e2, Nat.testBit_two_pow_mul_add _ (Nat.pow_pos (by decide))]
  rcases Nat.lt_trichotomy i p with q | q | q
  · rw [if_pos q, if_pos q, Nat.testBit_mod_two_pow]
    simp [q, Nat.ne_of_gt q]
  · subst q
    rw [if_neg (Nat.lt_irrefl i), if_neg (Nat.lt_irrefl i), Nat.sub_self]
    simp
  · rw [if_neg (by omega), if_neg (by omega)]
    have e3 : (2 * (w / 2 ^ (p + 1)) + g).testBit (i - p) = w.testBit i := by
      obtain ⟨d, rfl⟩ : ∃ d, i = p + 1 + d := ⟨i - p - 1, by omega⟩
      rw [show p + 1 + d - p = d + 1 by omega, Nat.testBit_succ, show (2 * (w / 2 ^ (p + 1)) + g) / 2 = w / 2 ^ (p + 1) by omega, Nat.testBit_div_two_pow, Nat.add_comm]
    have e4 : g.testBit (i - p) = false := by
      apply Nat.testBit_lt_two_pow
      have : 2 ^ 1 ≤ 2 ^ (i - p) := Nat.pow_le_pow_right (by decide) (by omega)
      omega
    rw [e3, e4]
    simp [Nat.ne_of_lt q]
/-- one bit of the quotient goes into its limb -/
theorem dv_limb {v u b : Nat} (hu : 0 < u) (j : Nat) : dg (dvN v u b) j = (if j = b / 16 then dg (dvN v u (b + 1)) j / 2 ^ (b % 16 + 1) * 2 ^ (b % 16 + 1) + (if u ≤ 2 * dvR v u (b + 1) + v / 2 ^ b % 2 then 1 else 0) * 2 ^ (b % 16) + dg (dvN v u (b + 1)) j % 2 ^ (b % 16) else dg (dvN v u (b + 1)) j) := by
  have hq := (dv_rest (v := v) (b := b) hu).2.2
  generalize hg : (if u ≤ 2 * dvR v u (b + 1) + v / 2 ^ b % 2 then 1 else 0) = g at *
  have hg2 : g < 2 := by rw [← hg]; split <;> omega
  have h1 : v % 2 ^ (b + 1) = v % 2 ^ b + 2 ^ b * (v / 2 ^ b % 2) := by rw [Nat.pow_succ, Nat.mod_mul]
  have hlt : v % 2 ^ b < 2 ^ b := Nat.mod_lt _ (Nat.pow_pos (by decide))
  have hc : v / 2 ^ b % 2 < 2 := Nat.mod_lt _ (by decide)
  have e1 : dvN v u b = (2 * (v / 2 ^ (b + 1) / u) + g) * 2 ^ b + v % 2 ^ b := by unfold dvN; rw [hq]
  have e2 : dvN v u (b + 1) = (2 * (v / 2 ^ (b + 1) / u) + v / 2 ^ b % 2) * 2 ^ b + v % 2 ^ b := by
    unfold dvN
    rw [h1, Nat.pow_succ]
    generalize v / (2 ^ b * 2) / u = Q
    generalize v / 2 ^ b % 2 = cc
    generalize v % 2 ^ b = lo
    generalize 2 ^ b = P
    grind
  rw [e1, e2]
  generalize v / 2 ^ (b + 1) / u = Q at *
  generalize v / 2 ^ b % 2 = cc at *
  generalize v % 2 ^ b = lo at *
  have hb : b = 16 * (b / 16) + b % 16 := by omega
  have hp : b % 16 < 16 := Nat.mod_lt _ (by decide)
  generalize b / 16 = a at *
  generalize b % 16 = p at *
  subst hb
  clear e1 e2 hq h1 hg
  unfold dg
  rw [two16]
  rcases Nat.lt_trichotomy j a with q | q | q
  · rw [if_neg (by omega)]
    -- below: both have the same low part
    have hs : 2 ^ (16 * a + p) = 2 ^ (16 * j) * (65536 * 2 ^ (16 * a + p - 16 * j - 16)) := by
      rw [show (65536 : Nat) = 2 ^ 16 by decide, ← Nat.pow_add, ← Nat.pow_add]; congr 1; omega
    rw [hs]
    generalize 2 ^ (16 * a + p - 16 * j - 16) = R
    have hp0 : 0 < 2 ^ (16 * j) := Nat.pow_pos (by decide)
    generalize 2 ^ (16 * j) = S at *
    have f : ∀ y : Nat, (y * (S * (65536 * R)) + lo) / S % 65536 = lo / S % 65536 := fun y => by
      rw [show y * (S * (65536 * R)) + lo = lo + S * (65536 * (R * y)) by grind, Nat.add_mul_div_left _ _ hp0, Nat.add_mul_mod_self_left]
    rw [f, f]
  · subst q
    rw [if_pos rfl, Nat.pow_add]
    have hp0 : 0 < 2 ^ (16 * j) := Nat.pow_pos (by decide)
    rw [Nat.pow_add] at hlt
    generalize 2 ^ (16 * j) = S at *
    have hlo : lo / S < 2 ^ p := Nat.div_lt_of_lt_mul hlt
    have f : ∀ y : Nat, (y * (S * 2 ^ p) + lo) / S = y * 2 ^ p + lo / S := fun y => by
      rw [show y * (S * 2 ^ p) + lo = lo + S * (y * 2 ^ p) by grind, Nat.add_mul_div_left _ _ hp0, Nat.add_comm]
    rw [f, f]
    generalize lo / S = x at *
    have hP0 : 0 < 2 ^ p := Nat.pow_pos (by decide)
    have eB : 65536 = 2 ^ p * (2 * 2 ^ (15 - p)) := by rw [← Nat.pow_succ', ← Nat.pow_add]; rw [show p + (15 - p + 1) = 16 by omega]
    -- the limb of y * 2^p + x
    have g1 : ∀ y : Nat, (y * 2 ^ p + x) % 65536 = y % (2 * 2 ^ (15 - p)) * 2 ^ p + x := fun y => by
      rw [eB, Nat.mod_mul, Nat.mul_comm y, Nat.mul_add_mod, Nat.mod_eq_of_lt hlo, Nat.mul_add_div hP0, Nat.div_eq_of_lt hlo, Nat.add_zero, Nat.add_comm, Nat.mul_comm]
    rw [g1, g1, Nat.mod_mul, Nat.mod_mul]
    have m1 : ∀ z w : Nat, w < 2 → (2 * z + w) % 2 = w ∧ (2 * z + w) / 2 = z := fun z w hw => by omega
    rw [(m1 Q g hg2).1, (m1 Q g hg2).2, (m1 Q cc hc).1, (m1 Q cc hc).2]
    generalize Q % 2 ^ (15 - p) = t
    rw [Nat.pow_succ, ← Nat.div_div_eq_div_mul]
    generalize 2 ^ p = P at *
    have d1 : ((cc + 2 * t) * P + x) / P = cc + 2 * t := by
      rw [Nat.mul_comm, Nat.mul_add_div hP0, Nat.div_eq_of_lt hlo, Nat.add_zero]
    have d2 : ((cc + 2 * t) * P + x) % P = x := by
      rw [Nat.mul_comm, Nat.mul_add_mod, Nat.mod_eq_of_lt hlo]
    rw [d1, d2, show (cc + 2 * t) / 2 = t by omega]
    grind
  · rw [if_neg (by omega)]
    -- above: both have the same quotient
    have hs : 2 ^ (16 * j) = 2 ^ (16 * a + p) * (2 * 2 ^ (16 * j - (16 * a + p) - 1)) := by
      rw [← Nat.pow_succ', ← Nat.pow_add]; congr 1; omega
    rw [hs]
    have hp0 : 0 < 2 ^ (16 * a + p) := Nat.pow_pos (by decide)
    generalize 2 ^ (16 * a + p) = S at *
    generalize 2 ^ (16 * j - (16 * a + p) - 1) = R
    have f : ∀ w : Nat, w < 2 → ((2 * Q + w) * S + lo) / (S * (2 * R)) = Q / R := fun w hw => by
      rw [← Nat.div_div_eq_div_mul, Nat.mul_comm, Nat.mul_add_div hp0, Nat.div_eq_of_lt hlt, Nat.add_zero, ← Nat.div_div_eq_div_mul, show (2 * Q + w) / 2 = Q by omega]
    rw [f g hg2, f cc hc]
