/-! limbs of 16 bits: a number's digits, and how many there are -/
theorem iZ_m16 (z : Int) : iZ z &&& 65535 = nI (z % 65536).toNat := by
  rw [pk_and (iZ z) (m := 65535) 16 (by decide)]
  congr 1
  show (BitVec.ofInt 32 z).toNat % 2 ^ 16 = _
  rw [BitVec.toNat_ofInt]
  omega
theorem iZ_s16 {z : Int} (h1 : -2147483648 ≤ z) (h2 : z < 2147483648) : iZ z >>> (16 &&& 31) = iZ (z / 65536) := by
  apply Int32.toInt_inj.mp
  rw [pk_shr _ _ 16 (by decide), iZ_toInt h1 h2, iZ_toInt (by omega) (by omega), Int.shiftRight_eq_div_pow]
  rfl
theorem lZ_m16 (z : Int) : lZ z &&& 65535 = lZ ((z % 65536).toNat : Nat) := by
  apply Int64.toBitVec_inj.mp
  apply BitVec.eq_of_toNat_eq
  rw [Int64.toBitVec_and, BitVec.toNat_and]
  show (BitVec.ofInt 64 z).toNat &&& (65535 : Int64).toBitVec.toNat = (BitVec.ofInt 64 ((z % 65536).toNat : Nat)).toNat
  rw [show (65535 : Int64).toBitVec.toNat = 2 ^ 16 - 1 from by decide, Nat.and_two_pow_sub_one_eq_mod, BitVec.toNat_ofInt, BitVec.toNat_ofInt]
  omega
theorem lZ_s16 {z : Int} (h1 : -9223372036854775808 ≤ z) (h2 : z < 9223372036854775808) : lZ z >>> ((16 : Int32).toInt64 &&& 63) = lZ (z / 65536) := by
  apply Int64.toInt_inj.mp
  have h3 : (lZ z >>> ((16 : Int32).toInt64 &&& 63)).toInt = (lZ z).toInt >>> 16 := by
    show ((lZ z).toBitVec.sshiftRight (((16 : Int32).toInt64 &&& 63).toBitVec.smod 64).toNat).toInt = _
    rw [show (((16 : Int32).toInt64 &&& 63).toBitVec.smod 64).toNat = 16 from by decide, BitVec.toInt_sshiftRight]
    rfl
  rw [h3, lZ_toInt h1 h2, lZ_toInt (by omega) (by omega), Int.shiftRight_eq_div_pow]
  rfl
def dg (v j : Nat) : Nat := v / 65536 ^ j % 65536
def sg (v : Nat) : Nat := nu_k (dg v) 220
theorem dg_lt (v j : Nat) : dg v j < 65536 := Nat.mod_lt _ (by decide)
theorem dg_0 (j : Nat) : dg 0 j = 0 := by rw [dg, Nat.zero_div]
theorem dg_v (v n : Nat) : nu_v 65536 (dg v) n = v % 65536 ^ n := nu_dig (by decide) v n
theorem dg_w {v n : Nat} (h : v < 65536 ^ n) : nu_v 65536 (dg v) n = v := by rw [dg_v, Nat.mod_eq_of_lt h]
theorem dg_of {d : Nat → Nat} {n v j : Nat} (h : ∀ j, j < n → d j < 65536) (hv : nu_v 65536 d n = v) (hj : j < n) : d j = dg v j := by
  rw [dg, ← hv]; exact (nu_at h hj).symm
theorem dg_hi {v k j : Nat} (h : v < 65536 ^ k) (hj : k ≤ j) : dg v j = 0 := by
  have h1 : 65536 ^ k ≤ 65536 ^ j := Nat.pow_le_pow_right (by decide) hj
  rw [dg, Nat.div_eq_of_lt (Nat.lt_of_lt_of_le h h1)]
theorem sg_220 (v : Nat) : sg v ≤ 220 := nu_k_le _ _
theorem sg_le {v b : Nat} (h : v < 65536 ^ 220) : sg v ≤ b ↔ v < 65536 ^ b := by
  constructor
  · intro q
    have h1 : nu_v 65536 (dg v) (sg v) = v := by rw [sg, nu_v_k, dg_w h]
    have h2 := nu_v_lt (B := 65536) (d := dg v) (n := sg v) (fun j _ => dg_lt v j)
    rw [h1] at h2
    exact Nat.lt_of_lt_of_le h2 (Nat.pow_le_pow_right (by decide) q)
  · intro q
    rcases Nat.lt_or_ge b (sg v) with r | r
    · exact absurd (dg_hi q (show b ≤ sg v - 1 by omega)) (nu_k_top (dg v) 220 (by show 0 < sg v; omega))
    · exact r
theorem sg_lt {v : Nat} (h : v < 65536 ^ 220) : v < 65536 ^ sg v := (sg_le h).mp (Nat.le_refl _)
theorem dg_sg {v j : Nat} (h : v < 65536 ^ 220) (hj : sg v ≤ j) : dg v j = 0 := dg_hi (sg_lt h) hj
theorem sg_top {v : Nat} (h : 0 < sg v) : dg v (sg v - 1) ≠ 0 := nu_k_top (dg v) 220 h
theorem sg_k {v m : Nat} (h : v < 65536 ^ m) (hm : m ≤ 220) : nu_k (dg v) m = sg v := by
  unfold sg
  obtain ⟨r, hr⟩ : ∃ r, 220 = m + r := ⟨220 - m, by omega⟩
  rw [hr]
  clear hr hm
  induction r with
  | zero => rfl
  | succ r ih =>
    show _ = nu_k (dg v) (m + r + 1)
    rw [nu_k, if_pos (dg_hi h (by omega))]
    exact ih
theorem sg_0 {v : Nat} (h : v < 65536 ^ 220) : sg v = 0 ↔ v = 0 := by
  have := sg_le (b := 0) h
  rw [Nat.pow_zero] at this
  omega
theorem sg_z : sg 0 = 0 := (sg_0 (by decide +kernel)).mpr rfl
theorem sg_mono {v u : Nat} (h : v ≤ u) (hu : u < 65536 ^ 220) : sg v ≤ sg u := (sg_le (Nat.lt_of_le_of_lt h hu)).mpr (Nat.lt_of_le_of_lt h (sg_lt hu))
theorem w1600 : 33554432 ^ 64 = 65536 ^ 100 := by decide +kernel
theorem w16_le {a b : Nat} (h : a ≤ b) : 65536 ^ a ≤ 65536 ^ b := Nat.pow_le_pow_right (by decide) h
theorem w16_pos (a : Nat) : 0 < 65536 ^ a := Nat.pow_pos (by decide)
theorem w16_1 (a : Nat) : 65536 ^ (a + 1) = 65536 ^ a * 65536 := Nat.pow_succ _ _
/-- how large a carry gets -/
theorem c16_bd {x : Nat → Int} {l m : Int} (hl : l ≤ 0) (hm : 0 ≤ m) (h : ∀ i, 65535 * l ≤ x i ∧ x i ≤ 65535 * m) (i : Nat) : l ≤ ch_c 65536 x i ∧ ch_c 65536 x i ≤ m := by
  induction i with
  | zero => exact ⟨hl, hm⟩
  | succ i ih =>
    have h1 := h i
    rw [ch_c]
    omega
theorem c16_e (x : Nat → Int) (i : Nat) : ch_e 65536 x i < 65536 := by
  have := ch_e_lt (B := 65536) (x := x) (by decide) i
  omega
theorem c16_fit {x : Nat → Int} {n S : Nat} (hS : ch_s 65536 x n = (S : Int)) (hlt : S < 65536 ^ n) : nu_v 65536 (ch_e 65536 x) n = S := by
  have h1 : ch_s 65536 x n = (nu_v 65536 (ch_e 65536 x) n : Int) + ch_c 65536 x n * (65536 : Int) ^ n := ch_sum (B := 65536) (by decide) x n
  have h2 := nu_v_lt (B := 65536) (d := ch_e 65536 x) (n := n) (fun j _ => c16_e x j)
  have e1 : ((65536 ^ n : Nat) : Int) = (65536 : Int) ^ n := by rw [Int.natCast_pow]; rfl
  have h3 : ch_c 65536 x n = 0 := ch_zero (S := S) (E := (nu_v 65536 (ch_e 65536 x) n : Int)) (P := (65536 : Int) ^ n) (by omega) (by rw [← e1]; omega) (by omega) (by rw [← e1]; omega) (by rw [← hS]; exact h1)
  rw [h3, Int.zero_mul, Int.add_zero, hS] at h1
  omega
theorem c16_dg {x : Nat → Int} {n S j : Nat} (hS : ch_s 65536 x n = (S : Int)) (hlt : S < 65536 ^ n) (hj : j < n) : ch_e 65536 x j = dg S j :=
  dg_of (fun j _ => c16_e x j) (c16_fit hS hlt) hj
theorem c16_nu (d : Nat → Nat) (n : Nat) : ch_s 65536 (fun i => (d i : Int)) n = (nu_v 65536 d n : Int) := ch_s_nu 65536 d n
/-- the new limbs, and above them the old ones, which are 0 -/
theorem c16_all {x : Nat → Int} {n S v : Nat} (hS : ch_s 65536 x n = (S : Int)) (hlt : S < 65536 ^ n) (hv : v < 65536 ^ n) : (fun j => nI (if j < n then ch_e 65536 x j else dg v j)) = fun j => nI (dg S j) := by
  funext j
  by_cases h : j < n
  · rw [if_pos h, c16_dg hS hlt h]
  · rw [if_neg h, dg_hi hv (by omega), dg_hi hlt (by omega)]
theorem s_add {v u n : Nat} (hv : v < 65536 ^ n) (hu : u < 65536 ^ n) : ch_s 65536 (fun i => (dg v i : Int) + (dg u i : Int)) n = ((v + u : Nat) : Int) := by
  have h := ch_s_add (B := 65536) (fun i => (dg v i : Int)) (fun i => (dg u i : Int)) 1 n
  rw [c16_nu, c16_nu, dg_w hv, dg_w hu] at h
  rw [show (fun i => (dg v i : Int) + (dg u i : Int)) = (fun i => (dg v i : Int) + 1 * (dg u i : Int)) from by funext i; omega, h]
  omega
theorem s_sub {v u n : Nat} (hv : v < 65536 ^ n) (hu : u < 65536 ^ n) (h : u ≤ v) : ch_s 65536 (fun i => (dg v i : Int) - (dg u i : Int)) n = ((v - u : Nat) : Int) := by
  have h := ch_s_add (B := 65536) (fun i => (dg v i : Int)) (fun i => (dg u i : Int)) (-1) n
  rw [c16_nu, c16_nu, dg_w hv, dg_w hu] at h
  rw [show (fun i => (dg v i : Int) - (dg u i : Int)) = (fun i => (dg v i : Int) + (-1) * (dg u i : Int)) from by funext i; omega, h]
  omega
theorem s_mul {v n : Nat} (f : Nat) (hv : v < 65536 ^ n) : ch_s 65536 (fun i => (dg v i : Int) * (f : Int)) n = ((v * f : Nat) : Int) := by
  have h := ch_s_add (B := 65536) (fun _ => 0) (fun i => (dg v i : Int)) (f : Int) n
  rw [c16_nu, dg_w hv] at h
  have h0 : ch_s 65536 (fun _ => (0 : Int)) n = 0 := by
    have := c16_nu (fun _ => 0) n
    rw [nu_nil 65536 n (fun _ _ => rfl)] at this
    exact this
  rw [h0] at h
  rw [show (fun i => (dg v i : Int) * (f : Int)) = (fun i => 0 + (f : Int) * (dg v i : Int)) from by funext i; rw [Int.zero_add, Int.mul_comm], h]
  rw [Int.zero_add, Int.natCast_mul, Int.mul_comm]
/-! cells that agree where it counts -/
theorem arrV_cong {cI : ClassId} {n : Nat} {f g : Nat → Value} (h : ∀ j, j < n → f j = g j) : arrV cI n f = arrV cI n g := by
  unfold arrV
  have : (fun j : Fin n => f j.val) = (fun j : Fin n => g j.val) := funext fun j => h j.val j.isLt
  rw [this]
theorem hm_rpI {D : va_G} {cl : List vw_C} {A : Nat → Prop} {H0 H : Heap} {M : hm_M} {locs : List Loc} {a n : Nat} {cA : ClassId} {f : Nat → Int32} (g : Nat → Int32) (hV : hm_V D cl A H0 M H locs) (ha : M a = some (.inl (cA, n, .inl f))) (h : ∀ j, j < n → f j = g j) : hm_V D cl A H0 (hm_up M a (.inl (cA, n, .inl g))) H locs := by
  refine ⟨fun b e hb => ?_, fun b e hb => ?_, hV.2.2⟩
  · by_cases q : b = a
    · subst q
      rw [hm_up_self] at hb
      cases hb
      have h1 : H[b]? = some (vp_cell cA (n, .inl f)) := hV.1 b _ ha
      show H[b]? = some (vp_cell cA (n, .inl g))
      rw [h1, vp_cell_i, vp_cell_i, arrV_cong (fun j hj => by rw [h j hj])]
    · rw [hm_up_ne _ _ q] at hb
      exact hV.1 b e hb
  · by_cases q : b = a
    · subst q; exact hV.2.1 b _ ha
    · rw [hm_up_ne _ _ q] at hb
      exact hV.2.1 b e hb
/-! two worlds side by side -/
def hm_j (M N : hm_M) : hm_M := fun a => match M a with | some e => some e | none => N a
def hm_dj (M N : hm_M) : Prop := ∀ (a : Nat) (e : va_E), M a = some e → N a = none
theorem hm_jl {M N : hm_M} {a : Nat} {e : va_E} (h : M a = some e) : hm_j M N a = some e := by simp [hm_j, h]
theorem hm_jr {M N : hm_M} {a : Nat} {e : va_E} (hd : hm_dj M N) (h : N a = some e) : hm_j M N a = some e := by
  cases q : M a with
  | none => simp [hm_j, q, h]
  | some x => rw [hd a x q] at h; cases h
theorem hm_jc {M N : hm_M} {a : Nat} {e : va_E} (h : hm_j M N a = some e) : M a = some e ∨ N a = some e := by
  unfold hm_j at h
  cases q : M a with
  | none => rw [q] at h; exact Or.inr h
  | some x => rw [q] at h; exact Or.inl h
theorem hm_fst {D : va_G} {cl : List vw_C} {A : Nat → Prop} {H0 H : Heap} {M N : hm_M} {locs : List Loc} (hV : hm_V D cl A H0 (hm_j M N) H locs) : hm_V D cl A H0 M H locs :=
  ⟨fun a e h => hV.1 a e (hm_jl h), fun a e h => hV.2.1 a e (hm_jl h), hV.2.2⟩
theorem hm_swp {M N : hm_M} (hd : hm_dj M N) : hm_j M N = hm_j N M := by
  funext a
  cases q : M a with
  | none => cases r : N a <;> simp [hm_j, q, r]
  | some x => have := hd a x q; simp [hm_j, q, this]
theorem hm_dsy {M N : hm_M} (hd : hm_dj M N) : hm_dj N M := by
  intro a e h
  cases q : M a with
  | none => rfl
  | some x => rw [hd a x q] at h; cases h
theorem hm_ju {M N : hm_M} {a : Nat} {e : va_E} : hm_up (hm_j M N) a e = hm_j (hm_up M a e) N := by
  funext b
  by_cases q : b = a
  · subst q; simp [hm_up, hm_j]
  · simp [hm_up, hm_j, q]
theorem hm_fj {E : hm_E} {M M1 N : hm_M} {A : Nat → Prop} {H0 H H1 : Heap} {locs locs1 : List Loc} {t : State} (hV : hm_V E.1 vwCl A H0 (hm_j M N) H locs) (hA : ∀ q, H0.size ≤ q → A q) (hd : hm_dj M N) (ht : t.heap = H1) (hB : hm_B E M H.size M1 t) (hk : ∀ q : Nat, q < H.size → ¬ hm_A M H.size q → H1[q]? = H[q]?) (hS : va_S A H0 H1 locs1) : hm_dj M1 N ∧ hm_V E.1 vwCl A H0 (hm_j M1 N) H1 locs1 := by
  have hlt : ∀ (a : Nat) (e : va_E), N a = some e → a < H.size ∧ ¬ hm_A M H.size a := fun a e h => by
    have h1 : a < H.size := (hV.1 a e (hm_jr hd h)).lt
    refine ⟨h1, fun h2 => ?_⟩
    rcases h2 with ⟨x, h2⟩ | h2
    · rw [hd a x h2] at h; cases h
    · omega
  have hd1 : hm_dj M1 N := fun a e h => by
    cases q : N a with
    | none => rfl
    | some x => exact absurd (hB.2 a e h) (hlt a x q).2
  refine ⟨hd1, fun a e h => ?_, fun a e h => ?_, hS⟩
  · rcases hm_jc h with h | h
    · rw [← ht]; exact hB.1 a e h
    · exact (hV.1 a e (hm_jr hd h)).kept (hk a (hlt a e h).1 (hlt a e h).2)
  · rcases hm_jc h with h | h
    · exact hm_sub (hm_fst hV) hA (hB.2 a e h)
    · exact hV.2.1 a e (hm_jr hd h)
section HMF
variable {p : Program} {l : Launch} {e : Env} {R : Room} {s : State} {m : MethodId} {args : Array Value} {below : List Frame} {meth : Method} {c : Code} {H : Heap} {locs : List Loc} {cells slots : Nat} {Q : State → Prop}
variable {pc : Nat} {ls : Array Slot} {rest st0 : List Value} {a : Array Value} {A : Nat → Prop} {H0 : Heap} {mc ms : Nat} {E : hm_E} {M N : hm_M}
/-- a call that knows one of two worlds: the other stays -/
theorem hm_fcallv {post : hm_M → Prop} (hr : va_Run p l e R s m args below meth c H locs cells slots mc ms (F0 m pc ls st0) rest (va_Qv post (hm_B E M H.size) (hm_A M H.size) a) (hm_A M H.size)) (hV : hm_V E.1 vwCl A H0 (hm_j M N) H locs) (hd : hm_dj M N) (hA : ∀ q, H0.size ≤ q → A q)
    (kk : ∀ (M1 : hm_M) (H1 : Heap) (locs1 : List Loc), post M1 → hm_dj M1 N → hm_V E.1 vwCl A H0 (hm_j M1 N) H1 locs1 → W p l e R s m args below meth c H1 locs1 (cells + mc) (slots + ms) Q (F0 m (pc + 3) ls rest)) : W p l e R s m args below meth c H locs cells slots Q (F0 m pc ls st0) :=
  va_callv hr hV.2.2 (fun q _ h => hm_sub (hm_fst hV) hA h) (fun q h => hm_sub (hm_fst hV) hA h) (fun u t H1 locs1 ht _ hp hB _ hk hS => kk u H1 locs1 hp (hm_fj hV hA hd ht hB hk hS).1 (hm_fj hV hA hd ht hB hk hS).2)
theorem hm_fcalli {post : Int32 → hm_M → Prop} (hr : va_Run p l e R s m args below meth c H locs cells slots mc ms (F0 m pc ls st0) rest (va_Qi post (hm_B E M H.size) (hm_A M H.size) a) (hm_A M H.size)) (hV : hm_V E.1 vwCl A H0 (hm_j M N) H locs) (hd : hm_dj M N) (hA : ∀ q, H0.size ≤ q → A q)
    (kk : ∀ (r : Int32) (M1 : hm_M) (H1 : Heap) (locs1 : List Loc), post r M1 → hm_dj M1 N → hm_V E.1 vwCl A H0 (hm_j M1 N) H1 locs1 → W p l e R s m args below meth c H1 locs1 (cells + mc) (slots + ms) Q (F0 m (pc + 3) ls (.int r :: rest))) : W p l e R s m args below meth c H locs cells slots Q (F0 m pc ls st0) :=
  va_calli hr hV.2.2 (fun q _ h => hm_sub (hm_fst hV) hA h) (fun q h => hm_sub (hm_fst hV) hA h) (fun r u t H1 locs1 ht _ hp hB _ hk hS => kk r u H1 locs1 hp (hm_fj hV hA hd ht hB hk hS).1 (hm_fj hV hA hd ht hB hk hS).2)
theorem hm_fcalll {post : Int64 → hm_M → Prop} (hr : va_Run p l e R s m args below meth c H locs cells slots mc ms (F0 m pc ls st0) rest (va_Ql post (hm_B E M H.size) (hm_A M H.size) a) (hm_A M H.size)) (hV : hm_V E.1 vwCl A H0 (hm_j M N) H locs) (hd : hm_dj M N) (hA : ∀ q, H0.size ≤ q → A q)
    (kk : ∀ (r : Int64) (M1 : hm_M) (H1 : Heap) (locs1 : List Loc), post r M1 → hm_dj M1 N → hm_V E.1 vwCl A H0 (hm_j M1 N) H1 locs1 → W p l e R s m args below meth c H1 locs1 (cells + mc) (slots + ms) Q (F0 m (pc + 3) ls (.long r :: rest))) : W p l e R s m args below meth c H locs cells slots Q (F0 m pc ls st0) :=
  va_calll hr hV.2.2 (fun q _ h => hm_sub (hm_fst hV) hA h) (fun q h => hm_sub (hm_fst hV) hA h) (fun r u t H1 locs1 ht _ hp hB _ hk hS => kk r u H1 locs1 hp (hm_fj hV hA hd ht hB hk hS).1 (hm_fj hV hA hd ht hB hk hS).2)
end HMF
