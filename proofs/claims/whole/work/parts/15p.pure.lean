/-- a row that may be the one that is written: at the limb that comes next it is as it was -/
theorem hm_alias {E : hm_E} {M : hm_M} {la lx n m i : Nat} {d b e : Nat → Nat} (ha : M la = some (hm_I E n (fun j => nI (d j)))) (hx : M lx = some (hm_I E m (fun j => nI (b j)))) (hd : ∀ j, j < n → d j < 33554432) (hb : ∀ j, j < m → b j < 33554432) :
    ∃ b1 : Nat → Nat, hm_up M la (hm_I E n (fun j => nI (if j < i then e j else d j))) lx = some (hm_I E m (fun j => nI (b1 j))) ∧ (i < m → b1 i = b i) := by
  by_cases q : lx = la
  · subst q
    rw [ha] at hx
    have h1 := Option.some.inj hx
    have h2 : (n, (Sum.inl (fun j => nI (d j)) : (Nat → Int32) ⊕ _)) = (m, Sum.inl (fun j => nI (b j))) := congrArg Prod.snd (Sum.inl.inj h1)
    have h3 : n = m := congrArg Prod.fst h2
    have h4 : (fun j => nI (d j)) = (fun j => nI (b j)) := Sum.inl.inj (congrArg Prod.snd h2)
    subst h3
    refine ⟨fun j => if j < i then e j else d j, hm_up_self _ _ _, fun hi => ?_⟩
    show (if i < i then e i else d i) = b i
    rw [if_neg (Nat.lt_irrefl i)]
    have h5 : nI (d i) = nI (b i) := congrFun h4 i
    have h6 := hd i hi
    have h7 := hb i hi
    exact (nI_eq (by omega) (by omega)).mp h5
  · exact ⟨b, (hm_up_ne _ _ q).trans hx, fun _ => rfl⟩
theorem mx_nI {a b : Nat} (ha : a < 2 ^ 31) (hb : b < 2 ^ 31) : (if nI a < nI b then nI b else nI a) = nI (max a b) := by
  by_cases h : a < b
  · rw [if_pos ((nI_ltI ha hb).mpr h), Nat.max_eq_right (by omega)]
  · rw [if_neg (fun q => h ((nI_ltI ha hb).mp q)), Nat.max_eq_left (by omega)]
theorem pow_max (a b : Nat) {x y : Nat} (hx : x < 33554432 ^ a) (hy : y < 33554432 ^ b) : x + y < 33554432 ^ (max a b + 1) := by
  have h1 : 33554432 ^ a ≤ 33554432 ^ (max a b) := Nat.pow_le_pow_right (by decide) (Nat.le_max_left a b)
  have h2 : 33554432 ^ b ≤ 33554432 ^ (max a b) := Nat.pow_le_pow_right (by decide) (Nat.le_max_right a b)
  rw [Nat.pow_succ]
  omega
theorem wn_lt {n k : Nat} {d : Nat → Nat} {g : Int32} {z : Int} (h : wn_ok n d k g z) : z.natAbs < 33554432 ^ k := (wn_len h).mp (Nat.le_refl k)
/-! products, column by column -/
def cv (a b : Nat → Nat) : Nat → Nat → Nat
  | 0, _ => 0
  | k + 1, c => cv a b k c + (if k ≤ c then a k * b (c - k) else 0)
theorem cv_zero {a b : Nat → Nat} {k c : Nat} (h : ∀ t, t < k → t ≤ c → b (c - t) = 0) : cv a b k c = 0 := by
  induction k with
  | zero => rfl
  | succ k ih =>
    rw [cv, ih (fun t ht => h t (by omega))]
    split
    · next q => rw [h k (by omega) q, Nat.mul_zero]
    · rfl
theorem cv_up {a b : Nat → Nat} {i k c : Nat} (hi : i ≤ k) (h : ∀ t, i ≤ t → t < k → c < t) : cv a b k c = cv a b i c := by
  induction k with
  | zero => rw [show i = 0 by omega]
  | succ k ih =>
    by_cases q : i = k + 1
    · rw [q]
    · rw [cv, ih (by omega) (fun t h1 h2 => h t h1 (by omega)), if_neg (by have := h k (by omega) (by omega); omega), Nat.add_zero]
theorem cv_le {a b : Nat → Nat} {k : Nat} (c : Nat) (ha : ∀ t, t < k → a t ≤ 33554431) (hb : ∀ t, b t ≤ 33554431) : cv a b k c ≤ k * (33554431 * 33554431) := by
  induction k with
  | zero => exact Nat.le_of_eq (by simp [cv])
  | succ k ih =>
    have h1 := ih (fun t ht => ha t (by omega))
    have h2 : (if k ≤ c then a k * b (c - k) else 0) ≤ 33554431 * 33554431 := by
      split
      · exact Nat.mul_le_mul (ha k (by omega)) (hb _)
      · omega
    rw [cv, Nat.add_mul, Nat.one_mul]
    omega
theorem nu_add (B : Nat) (d e : Nat → Nat) (n : Nat) : nu_v B (fun t => d t + e t) n = nu_v B d n + nu_v B e n := by
  induction n with
  | zero => rfl
  | succ n ih => rw [nu_v, nu_v, nu_v, ih]; grind
theorem nu_nil (B : Nat) (n : Nat) {d : Nat → Nat} (h : ∀ j, j < n → d j = 0) : nu_v B d n = 0 := by
  induction n with
  | zero => rfl
  | succ n ih => rw [nu_v, ih (fun j hj => h j (by omega)), h n (by omega), Nat.zero_mul]
theorem nu_shift (B : Nat) (b : Nat → Nat) (e k r : Nat) : nu_v B (fun c => if k ≤ c then e * b (c - k) else 0) (k + r) = e * B ^ k * nu_v B b r := by
  induction r with
  | zero => rw [Nat.add_zero, nu_v, Nat.mul_zero]; exact nu_nil B k (fun j hj => by rw [if_neg (by omega)])
  | succ r ih =>
    rw [← Nat.add_assoc, nu_v, ih, nu_v, if_pos (by omega), show k + r - k = r by omega, Nat.pow_add]
    grind
theorem cv_sum (B : Nat) {a b : Nat → Nat} {m : Nat} (hb : ∀ t, m ≤ t → b t = 0) {k N : Nat} (hN : k + m ≤ N) : nu_v B (cv a b k) N = nu_v B a k * nu_v B b m := by
  induction k with
  | zero => rw [nu_v, Nat.zero_mul]; exact nu_nil B N (fun _ _ => rfl)
  | succ k ih =>
    have e1 : nu_v B (cv a b (k + 1)) N = nu_v B (fun c => cv a b k c + (if k ≤ c then a k * b (c - k) else 0)) N := nu_v_congr (fun _ _ => rfl)
    have e2 : nu_v B b (N - k) = nu_v B b m := by
      have h1 := nu_ext B b (k := m) (m := N - k) (by omega)
      rw [← h1]
      refine nu_v_congr (fun j _ => ?_)
      split
      · rfl
      · next q => exact hb j (by omega)
    rw [e1, nu_add, ih (by omega), nu_v]
    have h2 := nu_shift B b (a k) k (N - k)
    rw [show k + (N - k) = N by omega, e2] at h2
    rw [h2, Nat.add_mul]
theorem nP_lt {h i : Nat} (hh : h < 2 ^ 31) (hi : i < 2 ^ 31) : nP h < nI i ↔ h ≤ i := by
  cases h with
  | zero =>
    refine ⟨fun _ => Nat.zero_le i, fun _ => ?_⟩
    rw [Int32.lt_iff_toInt_lt, nI_toInt hi]
    show (-1 : Int32).toInt < (i : Int)
    have : (-1 : Int32).toInt = -1 := by decide
    omega
  | succ h =>
    show nI h < nI i ↔ h + 1 ≤ i
    rw [nI_ltI (by omega) hi]; omega
theorem mn_nP {c k : Nat} (hc : c < 1000) (hk : k < 1000) : (if nP k < nI c then nP k else nI c) = nP (min (c + 1) k) := by
  by_cases h : k ≤ c
  · rw [if_pos ((nP_lt (by omega) (by omega)).mpr h), Nat.min_eq_right (by omega)]
  · rw [if_neg (fun q => h ((nP_lt (by omega) (by omega)).mp q)), Nat.min_eq_left (by omega)]; rfl
theorem mx_lo {c k : Nat} (hc : c < 1000) (hk : k < 1000) : (if (0 : Int32) < nI c - nI k + 1 then nI c - nI k + 1 else 0) = nI (c + 1 - k) := by
  have e1 : nI c - nI k + 1 = iZ ((c : Int) - k + 1) := by
    rw [iZ_nI, iZ_nI, iZ_sub, show (1 : Int32) = iZ 1 from rfl, iZ_add]
  have e2 : (0 : Int32) < iZ ((c : Int) - k + 1) ↔ 0 < (c : Int) - k + 1 := by
    rw [Int32.lt_iff_toInt_lt, iZ_toInt (by omega) (by omega)]
    show (0 : Int32).toInt < _ ↔ _
    rw [show (0 : Int32).toInt = 0 from by decide]
  rw [e1]
  by_cases h : k < c + 1
  · rw [if_pos (e2.mpr (by omega)), iZ_nI]
    congr 1
    omega
  · rw [if_neg (fun q => by have := e2.mp q; omega), show c + 1 - k = 0 by omega]; rfl
theorem wn_prod {za zb : Int} {ga gb : Int32} (h1 : ga = (if za < 0 then 1 else 0)) (h2 : gb = (if zb < 0 then 1 else 0)) : (if ga = gb then ((za.natAbs * zb.natAbs : Nat) : Int) else -((za.natAbs * zb.natAbs : Nat) : Int)) = za * zb := by
  rw [Int.natCast_mul]
  by_cases p : za < 0 <;> by_cases q : zb < 0
  · rw [if_pos p] at h1; rw [if_pos q] at h2
    rw [if_pos (by rw [h1, h2]), show (za.natAbs : Int) = -za by omega, show (zb.natAbs : Int) = -zb by omega]; grind
  · rw [if_pos p] at h1; rw [if_neg q] at h2
    rw [if_neg (by rw [h1, h2]; decide), show (za.natAbs : Int) = -za by omega, show (zb.natAbs : Int) = zb by omega]; grind
  · rw [if_neg p] at h1; rw [if_pos q] at h2
    rw [if_neg (by rw [h1, h2]; decide), show (za.natAbs : Int) = za by omega, show (zb.natAbs : Int) = -zb by omega]; grind
  · rw [if_neg p] at h1; rw [if_neg q] at h2
    rw [if_pos (by rw [h1, h2]), show (za.natAbs : Int) = za by omega, show (zb.natAbs : Int) = zb by omega]
theorem wide_prod {a b x y : Nat} (hx : 33554432 ^ (a - 1) ≤ x) (hy : 33554432 ^ (b - 1) ≤ y) (ha : 0 < a) (hb : 0 < b) (h : 66 ≤ a + b) : 33554432 ^ 64 ≤ x * y := by
  have h1 : 33554432 ^ (a - 1) * 33554432 ^ (b - 1) ≤ x * y := Nat.mul_le_mul hx hy
  rw [← Nat.pow_add] at h1
  have h2 : 33554432 ^ 64 ≤ 33554432 ^ (a - 1 + (b - 1)) := Nat.pow_le_pow_right (by decide) (by omega)
  exact Nat.le_trans h2 h1
