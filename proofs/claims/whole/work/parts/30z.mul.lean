theorem lN_m16 (n : Nat) : lZ (n : Int) &&& 65535 = lZ ((n % 65536 : Nat) : Int) := by
  rw [lZ_m16]; congr 1
theorem lN_s16 {n : Nat} (h : n < 9223372036854775808) : lZ (n : Int) >>> ((16 : Int32).toInt64 &&& 63) = lZ ((n / 65536 : Nat) : Int) := by
  rw [lZ_s16 (by omega) (by omega)]; congr 1
theorem iZ_u16 {z : Int} (h0 : 0 ≤ z) (h1 : z < 2147483648) : ((iZ z).toUInt32 >>> ((16 : Int32).toUInt32 &&& Int32.toUInt32 31)).toInt32 = iZ (z / 65536) := by
  obtain ⟨n, rfl⟩ : ∃ n : Nat, z = (n : Int) := ⟨z.toNat, by omega⟩
  rw [← iZ_nI, pk_ushrN (by omega) _ 16 (by decide), iZ_nI]
  congr 1
theorem shl1 : ∀ p, p < 16 → (1 : Int32) <<< (nI p &&& 31) = nI (2 ^ p) := by decide +kernel
theorem cv_bit {v u q : Nat} : nI (dg (dvN v u (q + 1)) (q / 16)) >>> (nI (q % 16) &&& 31) &&& 1 = nI (v / 2 ^ q % 2) := by
  have h := dg_lt (dvN v u (q + 1)) (q / 16)
  rw [nI_bit (by omega) (by omega), nI_odd (Nat.lt_of_le_of_lt (Nat.div_le_self _ _) (by omega)), dg_bit, dv_bit]
theorem s_one {c : Int} (n : Nat) : ch_s 65536 (fun i => if i = 0 then c else 0) (n + 1) = c := by
  induction n with
  | zero => simp [ch_s]
  | succ n ih => rw [ch_s, ih, if_neg (by omega)]; omega
theorem s_dbl {R n : Nat} (c : Nat) (hR : R < 65536 ^ (n + 1)) : ch_s 65536 (fun i => (if i = 0 then (c : Int) else 0) + 2 * (dg R i : Int)) (n + 1) = ((2 * R + c : Nat) : Int) := by
  have h := ch_s_add (B := 65536) (fun i => if i = 0 then (c : Int) else 0) (fun i => (dg R i : Int)) 2 (n + 1)
  rw [s_one, c16_nu, dg_w hR] at h
  rw [h]
  omega
theorem dv_b {v u q : Nat} (hu : 0 < u) (hv : v < 65536 ^ 220) : dvN v u (16 * sg v) = v ∧ dvR v u (16 * sg v) = 0 := by
  have h : v < 2 ^ (16 * sg v) := by rw [← two16]; exact sg_lt hv
  unfold dvN dvR
  rw [Nat.div_eq_of_lt h, Nat.zero_div, Nat.zero_mul, Nat.zero_add, Nat.mod_eq_of_lt h, Nat.zero_mod]
  exact ⟨rfl, rfl⟩
theorem dv_0 {v u : Nat} : dvN v u 0 = v / u := by
  unfold dvN; rw [Nat.pow_zero, Nat.div_one, Nat.mod_one, Nat.mul_one, Nat.add_zero]
theorem dv_R {v u q : Nat} (hu : 0 < u) (hu2 : u < 65536 ^ 220) : dvR v u (q + 1) < u ∧ dvR v u (q + 1) < 65536 ^ (sg u + 1) ∧ 2 * dvR v u (q + 1) + v / 2 ^ q % 2 < 65536 ^ (sg u + 1) ∧ u < 65536 ^ (sg u + 1) := by
  have h1 : dvR v u (q + 1) < u := Nat.mod_lt _ hu
  have h2 := sg_lt hu2
  have h3 := (dv_rest (v := v) (b := q) hu).1
  rw [w16_1]
  omega
theorem dv_put {v u q g : Nat} (hu : 0 < u) (hg : g = (if u ≤ 2 * dvR v u (q + 1) + v / 2 ^ q % 2 then 1 else 0)) : upd (fun j => nI (dg (dvN v u (q + 1)) j)) (q / 16) (nI (dg (dvN v u (q + 1)) (q / 16)) &&& (nI (2 ^ (q % 16)) ^^^ (-1)) ||| nI (g * 2 ^ (q % 16))) = fun j => nI (dg (dvN v u q) j) := by
  have hg2 : g < 2 := by rw [hg]; split <;> omega
  rw [bs_set (dg_lt _ _) (Nat.mod_lt _ (by decide)) hg2, upd_nI]
  funext j
  rw [dv_limb (v := v) (u := u) (b := q) hu j, ← hg]
  by_cases h : j = q / 16
  · subst h; rw [if_pos rfl]
  · rw [if_neg h, if_neg h]
