/-! long division: the guess at a limb -/
theorem kn_init {lead v2 u2 high q V R P Vl Rl : Nat} (hV : V = (lead * 33554432 + v2) * P + Vl) (hR : R = (high * 33554432 + u2) * P + Rl) (hRl : Rl < P) (hu : u2 < 33554432) (hq : q * V ≤ R) : q * lead ≤ high := by
  rcases Nat.lt_or_ge high (q * lead) with h | h
  · exfalso
    have h1 : (high + 1) * (33554432 * P) ≤ q * lead * (33554432 * P) := Nat.mul_le_mul_right _ h
    have h2 : q * V = q * lead * (33554432 * P) + q * v2 * P + q * Vl := by rw [hV]; grind
    have h3 : R = high * (33554432 * P) + u2 * P + Rl := by rw [hR]; grind
    have h4 : (u2 + 1) * P ≤ 33554432 * P := Nat.mul_le_mul_right _ hu
    rw [Nat.add_mul, Nat.one_mul] at h1 h4
    generalize q * lead * (33554432 * P) = a1 at *
    generalize high * (33554432 * P) = a2 at *
    generalize q * v2 * P = a3 at *
    generalize q * Vl = a4 at *
    generalize u2 * P = a5 at *
    omega
  · exact h
theorem kn_dec {g l lead v2 u2 high V R P Vl Rl : Nat} (hV : V = (lead * 33554432 + v2) * P + Vl) (hR : R = (high * 33554432 + u2) * P + Rl) (hRl : Rl < P) (hl : g * lead + l = high) (ht : l * 33554432 + u2 < g * v2) : R < g * V := by
  obtain ⟨y, hy⟩ : ∃ y, y = l * 33554432 + u2 := ⟨_, rfl⟩
  rw [← hy] at ht
  have h1 : (y + 1) * P ≤ g * v2 * P := Nat.mul_le_mul_right _ ht
  have h2 : g * V = g * lead * (33554432 * P) + g * v2 * P + g * Vl := by rw [hV]; grind
  have h3 : R = g * lead * (33554432 * P) + y * P + Rl := by rw [hR, ← hl, hy]; grind
  rw [Nat.add_mul, Nat.one_mul] at h1
  clear hV hR hl ht hy
  generalize g * lead * (33554432 * P) = a1 at *
  generalize g * v2 * P = a2 at *
  generalize g * Vl = a3 at *
  generalize y * P = a4 at *
  omega
theorem kn_hi {g l lead v2 u2 high V R P Vl Rl : Nat} (hV : V = (lead * 33554432 + v2) * P + Vl) (hR : R = (high * 33554432 + u2) * P + Rl) (hVl : Vl < P) (hl : g * lead + l = high) (ht : g * v2 ≤ l * 33554432 + u2) (hg : g ≤ 33554432) (hlead : 1 ≤ lead) : g ≤ R / V + 1 := by
  obtain ⟨y, hy⟩ : ∃ y, y = l * 33554432 + u2 := ⟨_, rfl⟩
  rw [← hy] at ht
  have h1 : g * v2 * P ≤ y * P := Nat.mul_le_mul_right _ ht
  have h2 : g * V = g * lead * (33554432 * P) + g * v2 * P + g * Vl := by rw [hV]; grind
  have h3 : R = g * lead * (33554432 * P) + y * P + Rl := by rw [hR, ← hl, hy]; grind
  have h4 : g * Vl ≤ 33554432 * Vl := Nat.mul_le_mul_right _ hg
  have h5 : 1 * (33554432 * P) ≤ lead * (33554432 * P) := Nat.mul_le_mul_right _ hlead
  have h6 : V = lead * (33554432 * P) + v2 * P + Vl := by rw [hV]; grind
  clear hV hR hl ht hy
  have hV0 : 0 < V := by
    generalize lead * (33554432 * P) = b1 at *
    generalize v2 * P = b2 at *
    omega
  have h7 : g * V < R + V := by
    generalize g * lead * (33554432 * P) = a1 at *
    generalize g * v2 * P = a2 at *
    generalize y * P = a4 at *
    generalize lead * (33554432 * P) = a5 at *
    generalize v2 * P = a6 at *
    generalize g * Vl = a3 at *
    generalize g * V = a7 at *
    omega
  rcases Nat.eq_zero_or_pos g with q | q
  · rw [q]; exact Nat.zero_le _
  · obtain ⟨t, rfl⟩ : ∃ t, g = t + 1 := ⟨g - 1, by omega⟩
    have h8 : t * V ≤ R := by rw [Nat.add_mul, Nat.one_mul] at h7; exact Nat.le_of_lt (Nat.lt_of_add_lt_add_right h7)
    exact Nat.succ_le_succ ((Nat.le_div_iff_mul_le hV0).mpr h8)
theorem kn_B {g lead v2 u2 high V R P Vl Rl : Nat} (hV : V = (lead * 33554432 + v2) * P + Vl) (hR : R = (high * 33554432 + u2) * P + Rl) (hVl : Vl < P) (hv2 : v2 < 33554432) (hl : g * lead ≤ high) (hg : g ≤ 33554433) (hlead : 16777216 ≤ lead) : g ≤ R / V + 2 := by
  have h6 : V = lead * (33554432 * P) + v2 * P + Vl := by rw [hV]; grind
  have h7 : (v2 + 1) * P ≤ 33554432 * P := Nat.mul_le_mul_right _ hv2
  have h5 : 1 * (33554432 * P) ≤ lead * (33554432 * P) := Nat.mul_le_mul_right _ (by omega)
  rw [Nat.add_mul, Nat.one_mul] at h7
  have hV0 : 0 < V := by
    generalize lead * (33554432 * P) = b1 at *
    generalize v2 * P = b2 at *
    omega
  have h8 : V ≤ (lead + 1) * (33554432 * P) := by
    rw [Nat.add_mul, Nat.one_mul]
    generalize lead * (33554432 * P) = b1 at *
    generalize v2 * P = b2 at *
    omega
  rcases Nat.lt_or_ge g 2 with q | q
  · exact Nat.le_trans (Nat.le_of_lt q) (Nat.le_add_left _ _)
  · obtain ⟨t, rfl⟩ : ∃ t, g = t + 2 := ⟨g - 2, by omega⟩
    have h9 : t * V ≤ t * ((lead + 1) * (33554432 * P)) := Nat.mul_le_mul_left _ h8
    have h10 : t * (lead + 1) ≤ high := by
      have : t * (lead + 1) = t * lead + t := by grind
      have : (t + 2) * lead = t * lead + 2 * lead := by grind
      generalize t * lead = c1 at *
      omega
    have h11 : t * (lead + 1) * (33554432 * P) ≤ high * (33554432 * P) := Nat.mul_le_mul_right _ h10
    have h12 : R = high * (33554432 * P) + u2 * P + Rl := by rw [hR]; grind
    have h13 : t * ((lead + 1) * (33554432 * P)) = t * (lead + 1) * (33554432 * P) := by grind
    have h14 : t * V ≤ R := by
      rw [h13] at h9
      generalize t * (lead + 1) * (33554432 * P) = a1 at *
      generalize high * (33554432 * P) = a2 at *
      generalize u2 * P = a3 at *
      generalize t * V = a4 at *
      omega
    exact Nat.add_le_add_right ((Nat.le_div_iff_mul_le hV0).mpr h14) 2
/-- what of a row is a window from 'at' on -/
def nu_w (r : Nat → Nat) (a : Nat) : Nat → Nat := fun j => r (a + j)
/-- a number cut behind its lowest m limbs -/
theorem nu_cut (B : Nat) (d : Nat → Nat) (m r : Nat) : nu_v B d (m + r) = nu_v B (nu_w d m) r * B ^ m + nu_v B d m := by
  induction r with
  | zero => simp [nu_v]
  | succ r ih =>
    rw [← Nat.add_assoc, nu_v, ih, nu_v, nu_w, Nat.pow_add]
    grind
theorem nu_2 (B : Nat) (d : Nat → Nat) : nu_v B d 2 = d 1 * B + d 0 := by
  rw [nu_v, nu_v, nu_v]; grind
theorem nu_3 (B : Nat) (d : Nat → Nat) : nu_v B d 3 = (d 2 * B + d 1) * B + d 0 := by
  rw [nu_v, nu_v, nu_v, nu_v]; grind
theorem ch_two {T E c k P : Int} (h1 : 0 ≤ T) (h2 : T < P) (h3 : 0 ≤ E) (h4 : E < P) (h : T + k * P = E + c * P) : c = k ∧ E = T := by
  have h5 : c - k = 0 := ch_zero (S := T) (E := E) (c := c - k) (P := P) h1 h2 h3 h4 (by rw [Int.sub_mul]; omega)
  have h6 : c = k := by omega
  subst h6
  exact ⟨rfl, by omega⟩
theorem nu_win (e r : Nat → Nat) (a i : Nat) : upd (fun j => nI (if a ≤ j ∧ j < a + i then e (j - a) else r j)) (a + i) (nI (e i)) = fun j => nI (if a ≤ j ∧ j < a + (i + 1) then e (j - a) else r j) := by
  funext j
  by_cases h : j = a + i
  · subst h; simp [upd]
  · simp only [upd, h, if_false]
    congr 1
    by_cases h2 : a ≤ j ∧ j < a + i
    · rw [if_pos h2, if_pos (by omega)]
    · rw [if_neg h2, if_neg (by omega)]
theorem nu_win0 (e r : Nat → Nat) (a : Nat) : (fun j => nI (r j)) = fun j => nI (if a ≤ j ∧ j < a + 0 then e (j - a) else r j) := by
  funext j; rw [if_neg (by omega)]
theorem sh_bd {x : Nat → Int} {q : Int} (hp : 0 < q) (h : ∀ i, 0 ≤ x i ∧ x i ≤ 33554431 * q) (i : Nat) : 0 ≤ ch_c 33554432 x i ∧ ch_c 33554432 x i < q := by
  induction i with
  | zero => exact ⟨Int.le_refl 0, hp⟩
  | succ i ih =>
    have h1 := h i
    rw [ch_c]
    omega
theorem sh_or {cr : Int} {a sh : Nat} (h0 : 0 ≤ cr) (h1 : cr < (2 ^ sh : Nat)) (hs : sh ≤ 24) (ha : a < 33554432) : lZ cr ||| lN (a * 2 ^ sh) = lZ (((a * 2 ^ sh : Nat) : Int) + cr) := by
  obtain ⟨n, rfl⟩ : ∃ n : Nat, cr = n := ⟨cr.toNat, by omega⟩
  have h2 : 2 ^ sh ≤ 16777216 := Nat.pow_le_pow_right (n := 2) (by decide) (show sh ≤ 24 from hs)
  have h3 : a * 2 ^ sh ≤ 33554432 * 16777216 := Nat.mul_le_mul (by omega) h2
  have h4 : n < 2 ^ sh := by omega
  rw [← lZ_lN, wb_or (by omega) (by omega), Nat.or_comm, Nat.mul_comm a, ← Nat.two_pow_add_eq_or_of_lt h4, lZ_lN]
  congr 1
