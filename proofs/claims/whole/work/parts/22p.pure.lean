/-- the quotient of two, towards 0 -/
def dz (za zb : Int) : Int := if decide (za < 0) = decide (zb < 0) then ((za.natAbs / zb.natAbs : Nat) : Int) else -((za.natAbs / zb.natAbs : Nat) : Int)
theorem dz_sg {za zb : Int} {ga gb : Int32} {v : Nat} (h1 : ga = (if za < 0 then 1 else 0)) (h2 : gb = (if zb < 0 then 1 else 0)) (hv : v = za.natAbs / zb.natAbs) : (ga = gb → (v : Int) = dz za zb) ∧ (¬ ga = gb → -(v : Int) = dz za zb) := by
  subst hv
  by_cases p : za < 0 <;> by_cases q : zb < 0
  · rw [if_pos p] at h1; rw [if_pos q] at h2
    refine ⟨fun _ => ?_, fun h => absurd (by rw [h1, h2]) h⟩
    rw [dz, if_pos (by simp [p, q])]
  · rw [if_pos p] at h1; rw [if_neg q] at h2
    refine ⟨fun h => absurd h (by rw [h1, h2]; decide), fun _ => ?_⟩
    rw [dz, if_neg (by simp [p, q])]
  · rw [if_neg p] at h1; rw [if_pos q] at h2
    refine ⟨fun h => absurd h (by rw [h1, h2]; decide), fun _ => ?_⟩
    rw [dz, if_neg (by simp [p, q])]
  · rw [if_neg p] at h1; rw [if_neg q] at h2
    refine ⟨fun _ => ?_, fun h => absurd (by rw [h1, h2]) h⟩
    rw [dz, if_pos (by simp [p, q])]
theorem nu_lowd (B : Nat) (d : Nat → Nat) (j s : Nat) : nu_v B (nu_w d j) (s + 1) = nu_v B (nu_w d (j + 1)) s * B + d j := by
  have h := nu_cut B (nu_w d j) 1 s
  rw [Nat.add_comm 1 s, Nat.pow_one] at h
  rw [h]
  have e1 : nu_w (nu_w d j) 1 = nu_w d (j + 1) := by funext t; simp [nu_w, Nat.add_assoc]
  rw [e1, nu_v, nu_v, Nat.pow_zero, Nat.mul_one, Nat.zero_add]
  rfl
/-- the shifted divisor: its highest limb has its highest bit set, it has no limb more -/
theorem kn_norm {k h sh z : Nat} {d e : Nat → Nat} (hk : 0 < k) (hd : ∀ j, j < k → d j < 33554432) (hz : nu_v 33554432 d k = z) (h1 : 2 ^ h ≤ d (k - 1)) (h2 : d (k - 1) < 2 ^ (h + 1)) (hs : h + sh = 24) (he : ∀ j, j < k + 1 → e j < 33554432) (hE : nu_v 33554432 e (k + 1) = z * 2 ^ sh) : nu_v 33554432 e k = z * 2 ^ sh ∧ 16777216 ≤ e (k - 1) ∧ z * 2 ^ sh < 33554432 ^ k := by
  obtain ⟨m, rfl⟩ : ∃ m, k = m + 1 := ⟨k - 1, by omega⟩
  simp only [Nat.add_sub_cancel] at h1 h2 ⊢
  have hlow := nu_v_lt (B := 33554432) (d := d) (n := m) (fun j hj => hd j (by omega))
  have elow := nu_v_lt (B := 33554432) (d := e) (n := m) (fun j hj => he j (by omega))
  obtain ⟨P, hP⟩ : ∃ P, P = 33554432 ^ m := ⟨_, rfl⟩
  have hz' : z = nu_v 33554432 d m + d m * P := by rw [← hz, nu_v, hP]
  have e24 : 2 ^ h * 2 ^ sh = 16777216 := by rw [← Nat.pow_add, hs]
  have e25 : 2 ^ (h + 1) * 2 ^ sh = 33554432 := by rw [← Nat.pow_add, show h + 1 + sh = 25 by omega]
  have hs0 : 0 < 2 ^ sh := Nat.pow_pos (by decide)
  rw [← hP] at hlow elow
  have up : z * 2 ^ sh < 33554432 * P := by
    have a1 : z < 2 ^ (h + 1) * P := by
      have : (d m + 1) * P ≤ 2 ^ (h + 1) * P := Nat.mul_le_mul_right _ h2
      rw [Nat.add_mul, Nat.one_mul] at this
      omega
    have a2 : z * 2 ^ sh < 2 ^ (h + 1) * P * 2 ^ sh := Nat.mul_lt_mul_of_pos_right a1 hs0
    have a3 : 2 ^ (h + 1) * P * 2 ^ sh = 33554432 * P := by rw [Nat.mul_right_comm, e25]
    omega
  have lo : 16777216 * P ≤ z * 2 ^ sh := by
    have a1 : 2 ^ h * P ≤ z := by
      have : 2 ^ h * P ≤ d m * P := Nat.mul_le_mul_right _ h1
      omega
    have a2 : 2 ^ h * P * 2 ^ sh ≤ z * 2 ^ sh := Nat.mul_le_mul_right _ a1
    have a3 : 2 ^ h * P * 2 ^ sh = 16777216 * P := by rw [Nat.mul_right_comm, e24]
    omega
  have eP : 33554432 ^ (m + 1) = 33554432 * P := by rw [Nat.pow_succ, hP, Nat.mul_comm]
  rw [nu_v, eP] at hE
  have htop : e (m + 1) = 0 := by
    rcases Nat.eq_zero_or_pos (e (m + 1)) with q | q
    · exact q
    · have : 1 * (33554432 * P) ≤ e (m + 1) * (33554432 * P) := Nat.mul_le_mul_right _ q
      omega
  rw [htop, Nat.zero_mul, Nat.add_zero] at hE
  refine ⟨hE, ?_, by rw [eP]; exact up⟩
  rw [nu_v, ← hP] at hE
  rcases Nat.lt_or_ge (e m) 16777216 with q | q
  · have : (e m + 1) * P ≤ 16777216 * P := Nat.mul_le_mul_right _ q
    rw [Nat.add_mul, Nat.one_mul] at this
    omega
  · exact q
/-- a fact put aside (omega doesn't look at it) -/
def hid (p : Prop) : Prop := p
theorem dv_kb0 {n k : Nat} {d : Nat → Nat} {g : Int32} {z : Int} (h : wn_ok n d k g z) (hz : z ≠ 0) : 0 < k := by
  obtain ⟨h1, h2, h3, h4, h5⟩ := h
  rcases Nat.eq_zero_or_pos k with e | e
  · rw [e] at h4
    have : nu_v 33554432 d 0 = 0 := rfl
    omega
  · exact e
theorem dv_zero {na nb ka kb : Nat} {da db : Nat → Nat} {ga gb : Int32} {za zb : Int} (hoa : wn_ok na da ka ga za) (hob : wn_ok nb db kb gb zb) (hlt : ka < kb) : dz za zb = 0 := by
  have hza := wn_lt hoa
  obtain ⟨h1, h2, h3, h4, h5⟩ := hob
  have h7 : 33554432 ^ ka ≤ 33554432 ^ (kb - 1) := Nat.pow_le_pow_right (by decide) (by omega)
  have h6 := nu_v_low (B := 33554432) (d := db) (n := kb) (by omega) (h3 (by omega))
  have h8 : za.natAbs / zb.natAbs = 0 := Nat.div_eq_of_lt (by omega)
  rw [dz, h8]; split <;> rfl
theorem dv_main {na nb ka kb tp sh : Nat} {da db u e : Nat → Nat} {ga gb : Int32} {za zb : Int} (hoa : wn_ok na da ka ga za) (hob : wn_ok nb db kb gb zb) (hz : zb ≠ 0) (hge : kb ≤ ka) (htp : tp = ka - kb + 1) (hub : ∀ j, j < ka + 1 → u j < 33554432) (huU : nu_v 33554432 u (ka + 1) = za.natAbs * 2 ^ sh) (heV : nu_v 33554432 e kb = zb.natAbs * 2 ^ sh) :
    ∃ U V, nu_v 33554432 e kb = V ∧ 0 < V ∧ U / V = za.natAbs / zb.natAbs ∧ U < V * 33554432 ^ tp ∧ (∀ j, j < ka + 1 → U / 33554432 ^ j % 33554432 = u j) ∧ nu_v 33554432 (nu_w u tp) kb = U / 33554432 ^ tp % V := by
  have hkb0 := dv_kb0 hob hz
  have hza := wn_lt hoa
  obtain ⟨hob1, hob2, hob3, hob4, hob5⟩ := hob
  have hs0 : 0 < 2 ^ sh := Nat.pow_pos (by decide)
  have hzb1 : 0 < zb.natAbs := by omega
  have h6 := nu_v_low (B := 33554432) (d := db) (n := kb) hkb0 (hob3 hkb0)
  rw [hob4] at h6
  clear hob3 hz
  have h7 : 33554432 ^ (kb - 1) * 33554432 ^ tp = 33554432 ^ ka := by rw [← Nat.pow_add]; congr 1; omega
  have h8 : 33554432 ^ (kb - 1) * 33554432 ^ tp ≤ zb.natAbs * 33554432 ^ tp := Nat.mul_le_mul_right _ h6
  have h9 : za.natAbs < zb.natAbs * 33554432 ^ tp := Nat.lt_of_lt_of_le (by rw [h7]; exact hza) h8
  have h10 : za.natAbs * 2 ^ sh < zb.natAbs * 33554432 ^ tp * 2 ^ sh := Nat.mul_lt_mul_of_pos_right h9 hs0
  rw [Nat.mul_right_comm] at h10
  have hV0 : 0 < zb.natAbs * 2 ^ sh := Nat.mul_pos hzb1 hs0
  refine ⟨za.natAbs * 2 ^ sh, zb.natAbs * 2 ^ sh, heV, hV0, Nat.mul_div_mul_right _ _ hs0, h10, fun j hj => by rw [← huU]; exact nu_at hub hj, ?_⟩
  generalize zb.natAbs * 2 ^ sh = V at *
  generalize za.natAbs * 2 ^ sh = U at *
  have h1 := nu_cut 33554432 u tp kb
  rw [show tp + kb = ka + 1 by omega, huU] at h1
  have h2 := nu_v_lt (B := 33554432) (d := u) (n := tp) (fun j hj => hub j (by omega))
  have h3 : U / 33554432 ^ tp = nu_v 33554432 (nu_w u tp) kb := by
    rw [h1, Nat.add_comm, Nat.add_mul_div_right _ _ (Nat.pow_pos (by decide)), Nat.div_eq_of_lt h2, Nat.zero_add]
  have h4 : U / 33554432 ^ tp < V := (Nat.div_lt_iff_lt_mul (Nat.pow_pos (by decide))).mpr h10
  rw [← h3, Nat.mod_eq_of_lt h4]
