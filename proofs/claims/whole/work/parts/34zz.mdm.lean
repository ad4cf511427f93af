section MD2
variable {E : hm_E} {M : hm_M} {A : Nat → Nat} {th : Int32} {cnt k ko : Nat} {nums : Nat → Int} {t : Nat → Nat → Int64} {X O : Nat → Int32}
theorem md_u8 (hk : md E M A th cnt k ko nums t X O) {mi : Nat → Nat} (h : ∀ j, mi j < 65536) : md E (hm_up M (A 8) (hm_I E 212992 (fun j => nI (mi j)))) A th cnt k ko nums t X O := by
  obtain ⟨C, hc, h0, h1, h5, h6, h7, h8, ⟨mi0, mb, h9, h10, h11⟩, h12⟩ := hk
  exact ⟨_, md_up hc (by decide) _, h0, h1, h5, h6, h7, h8, ⟨mi, mb, if_pos rfl, h10, h⟩, h12⟩
theorem md_u9 (hk : md E M A th cnt k ko nums t X O) (mb : Nat → Int32) : md E (hm_up M (A 9) (hm_Z E 4096 mb)) A th cnt k ko nums t X O := by
  obtain ⟨C, hc, h0, h1, h5, h6, h7, h8, ⟨mi0, mb0, h9, h10, h11⟩, h12⟩ := hk
  exact ⟨_, md_up hc (by decide) _, h0, h1, h5, h6, h7, h8, ⟨mi0, mb, h9, if_pos rfl, h11⟩, h12⟩
theorem md_u10 (hk : md E M A th cnt k ko nums t X O) (f : Nat → Int32) : md E (hm_up M (A 10) (hm_I E 60 f)) A th cnt k ko nums t X O := by
  obtain ⟨C, hc, h0, h1, h5, h6, h7, h8, h9, f0, g0, e0, h10, h11, h12⟩ := hk
  exact ⟨_, md_up hc (by decide) _, h0, h1, h5, h6, h7, h8, h9, f, g0, e0, if_pos rfl, h11, h12⟩
theorem md_u11 (hk : md E M A th cnt k ko nums t X O) (f : Nat → Int32) : md E (hm_up M (A 11) (hm_I E 60 f)) A th cnt k ko nums t X O := by
  obtain ⟨C, hc, h0, h1, h5, h6, h7, h8, h9, f0, g0, e0, h10, h11, h12⟩ := hk
  exact ⟨_, md_up hc (by decide) _, h0, h1, h5, h6, h7, h8, h9, f0, f, e0, h10, if_pos rfl, h12⟩
theorem md_u12 (hk : md E M A th cnt k ko nums t X O) (f : Nat → Int32) : md E (hm_up M (A 12) (hm_I E 60 f)) A th cnt k ko nums t X O := by
  obtain ⟨C, hc, h0, h1, h5, h6, h7, h8, h9, f0, g0, e0, h10, h11, h12⟩ := hk
  exact ⟨_, md_up hc (by decide) _, h0, h1, h5, h6, h7, h8, h9, f0, g0, f, h10, h11, if_pos rfl⟩
end MD2
/-- has the number a digit at this place -/
def hasD (v : Nat) (b : Int32) : Prop := ∃ n, n < 2 ^ 31 ∧ b = nI n ∧ (n = 0 ∨ 10 ^ n ≤ v)
theorem hasD_neg {v : Nat} {b : Int32} (h : b < 0) : ¬ hasD v b := by
  rintro ⟨n, hn, rfl, -⟩; exact nI_pos hn h
theorem hasD_no {v n : Nat} (hn : n < 2 ^ 31) (h0 : n ≠ 0) (h : v < 10 ^ n) : ¬ hasD v (nI n) := by
  rintro ⟨m, hm, e, h2⟩
  have : n = m := (nI_eq hn hm).mp e
  subst this
  omega
theorem ten_mono {a b : Nat} (h : a ≤ b) : 10 ^ a ≤ 10 ^ b := Nat.pow_le_pow_right (by decide) h
