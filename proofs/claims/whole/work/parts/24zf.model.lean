/-! the reference's picture: A 0 itself, A 1 limbs, A 2 sizes, A 3 below, A 4 table, A 5 work, A 6 other, A 7 rest, A 8 minors, A 9 minorBelow, A 10 up, A 11 plus, A 12 minus -/
abbrev mo (A : Nat → Nat) (th : Int32) (cnt k ko : Nat) : va_E := .inr (6, [.int th, .int (nI cnt), .ref (A 1), .ref (A 2), .ref (A 3), .ref (A 4), .ref (A 5), .int (nI k), .ref (A 6), .int (nI ko), .ref (A 7), .ref (A 8), .ref (A 9), .ref (A 10), .ref (A 11), .ref (A 12)])
def mn_ok (cnt : Nat) (L S : Nat → Nat) (B : Nat → Int32) (nums : Nat → Int) : Prop := (∀ j, j < cnt → (nums j).natAbs < bigN ∧ S j = sg (nums j).natAbs ∧ B j = (if nums j < 0 then 1 else 0) ∧ ∀ b, b < 104 → L (104 * j + b) = dg (nums j).natAbs b) ∧ ∀ j, 104 * cnt ≤ j → L j = 0
def md0 (M : hm_M) (A : Nat → Nat) (C : Nat → va_E) : Prop := (∀ i, i < 13 → M (A i) = some (C i)) ∧ ∀ i j, i < 13 → j < 13 → i ≠ j → hm_ap (A i) (A j)
theorem md_up {M : hm_M} {A : Nat → Nat} {C : Nat → va_E} (h : md0 M A C) {i : Nat} (hi : i < 13) (e : va_E) : md0 (hm_up M (A i) e) A (fun j => if j = i then e else C j) := by
  refine ⟨fun j hj => ?_, h.2⟩
  by_cases q : j = i
  · subst q; rw [hm_up_self]; exact congrArg some (if_pos rfl).symm
  · rw [hm_up_ne _ _ (h.2 j i hj hi q)]; exact (h.1 j hj).trans (congrArg some (if_neg q).symm)
def md (E : hm_E) (M : hm_M) (A : Nat → Nat) (th : Int32) (cnt k ko : Nat) (nums : Nat → Int) (t : Nat → Nat → Int64) (X O : Nat → Int32) : Prop :=
  ∃ C : Nat → va_E, md0 M A C ∧ (C 0 = mo A th cnt k ko ∧ cnt ≤ 160) ∧ (∃ (L S : Nat → Nat) (B : Nat → Int32), C 1 = hm_I E 16640 (fun j => nI (L j)) ∧ C 2 = hm_I E 160 (fun j => nI (S j)) ∧ C 3 = hm_Z E 160 B ∧ mn_ok cnt L S B nums) ∧ C 4 = hm_J E 144 (fun j => t (j / 12) (j % 12)) ∧ C 5 = hm_I E 220 X ∧ C 6 = hm_I E 220 O ∧ (∃ f, C 7 = hm_I E 220 f) ∧ (∃ (mi : Nat → Nat) (mb : Nat → Int32), C 8 = hm_I E 212992 (fun j => nI (mi j)) ∧ C 9 = hm_Z E 4096 mb ∧ ∀ j, mi j < 65536) ∧ ∃ f g h, C 10 = hm_I E 60 f ∧ C 11 = hm_I E 60 g ∧ C 12 = hm_I E 60 h
section MD
variable {E : hm_E} {M : hm_M} {A : Nat → Nat} {th : Int32} {cnt k ko : Nat} {nums : Nat → Int} {t : Nat → Nat → Int64} {X O : Nat → Int32}
theorem md_ap (hk : md E M A th cnt k ko nums t X O) {i j : Nat} (hi : i < 13) (hj : j < 13) (h : i ≠ j) : hm_ap (A i) (A j) := by
  obtain ⟨C, hc, -⟩ := hk; exact hc.2 i j hi hj h
theorem md_x (hk : md E M A th cnt k ko nums t X O) : M (A 0) = some (mo A th cnt k ko) := by
  obtain ⟨C, hc, h0, -⟩ := hk; rw [← h0.1]; exact hc.1 0 (by decide)
theorem md_c (hk : md E M A th cnt k ko nums t X O) : cnt ≤ 160 := by
  obtain ⟨C, hc, h0, -⟩ := hk; exact h0.2
theorem md_n (hk : md E M A th cnt k ko nums t X O) : ∃ (L S : Nat → Nat) (B : Nat → Int32), M (A 1) = some (hm_I E 16640 (fun j => nI (L j))) ∧ M (A 2) = some (hm_I E 160 (fun j => nI (S j))) ∧ M (A 3) = some (hm_Z E 160 B) ∧ mn_ok cnt L S B nums := by
  obtain ⟨C, hc, -, ⟨L, S, B, h1, h2, h3, h4⟩, -⟩ := hk
  exact ⟨L, S, B, by rw [← h1]; exact hc.1 1 (by decide), by rw [← h2]; exact hc.1 2 (by decide), by rw [← h3]; exact hc.1 3 (by decide), h4⟩
theorem md_t (hk : md E M A th cnt k ko nums t X O) : M (A 4) = some (hm_J E 144 (fun j => t (j / 12) (j % 12))) := by
  obtain ⟨C, hc, -, -, h4, -⟩ := hk; rw [← h4]; exact hc.1 4 (by decide)
theorem md_w (hk : md E M A th cnt k ko nums t X O) : M (A 5) = some (hm_I E 220 X) := by
  obtain ⟨C, hc, -, -, -, h5, -⟩ := hk; rw [← h5]; exact hc.1 5 (by decide)
theorem md_o (hk : md E M A th cnt k ko nums t X O) : M (A 6) = some (hm_I E 220 O) := by
  obtain ⟨C, hc, -, -, -, -, h6, -⟩ := hk; rw [← h6]; exact hc.1 6 (by decide)
theorem md_r (hk : md E M A th cnt k ko nums t X O) : ∃ f, M (A 7) = some (hm_I E 220 f) := by
  obtain ⟨C, hc, -, -, -, -, -, ⟨f, h7⟩, -⟩ := hk; exact ⟨f, by rw [← h7]; exact hc.1 7 (by decide)⟩
theorem md_m (hk : md E M A th cnt k ko nums t X O) : ∃ (mi : Nat → Nat) (mb : Nat → Int32), M (A 8) = some (hm_I E 212992 (fun j => nI (mi j))) ∧ M (A 9) = some (hm_Z E 4096 mb) ∧ ∀ j, mi j < 65536 := by
  obtain ⟨C, hc, -, -, -, -, -, -, ⟨mi, mb, h8, h9, hm⟩, -⟩ := hk
  exact ⟨mi, mb, by rw [← h8]; exact hc.1 8 (by decide), by rw [← h9]; exact hc.1 9 (by decide), hm⟩
theorem md_s (hk : md E M A th cnt k ko nums t X O) : ∃ f g h, M (A 10) = some (hm_I E 60 f) ∧ M (A 11) = some (hm_I E 60 g) ∧ M (A 12) = some (hm_I E 60 h) := by
  obtain ⟨C, hc, -, -, -, -, -, -, -, f, g, h, h10, h11, h12⟩ := hk
  exact ⟨f, g, h, by rw [← h10]; exact hc.1 10 (by decide), by rw [← h11]; exact hc.1 11 (by decide), by rw [← h12]; exact hc.1 12 (by decide)⟩
/-- its own fields written -/
theorem md_ux (hk : md E M A th cnt k ko nums t X O) (th1 : Int32) (k1 ko1 : Nat) : md E (hm_up M (A 0) (mo A th1 cnt k1 ko1)) A th1 cnt k1 ko1 nums t X O := by
  obtain ⟨C, hc, h0, ⟨L, S, B, h1, h2, h3, h4⟩, h5, h6, h7, h8, ⟨mi, mb, h9, h10, h11⟩, f, g, h, h12, h13, h14⟩ := hk
  exact ⟨_, md_up hc (by decide) _, ⟨if_pos rfl, h0.2⟩, ⟨L, S, B, h1, h2, h3, h4⟩, h5, h6, h7, h8, ⟨mi, mb, h9, h10, h11⟩, f, g, h, h12, h13, h14⟩
theorem md_uw (hk : md E M A th cnt k ko nums t X O) (Y : Nat → Int32) : md E (hm_up M (A 5) (hm_I E 220 Y)) A th cnt k ko nums t Y O := by
  obtain ⟨C, hc, h0, h1, h5, h6, h7, h8, h9, h10⟩ := hk
  exact ⟨_, md_up hc (by decide) _, h0, h1, h5, if_pos rfl, h7, h8, h9, h10⟩
theorem md_uo (hk : md E M A th cnt k ko nums t X O) (Y : Nat → Int32) : md E (hm_up M (A 6) (hm_I E 220 Y)) A th cnt k ko nums t X Y := by
  obtain ⟨C, hc, h0, h1, h5, h6, h7, h8, h9, h10⟩ := hk
  exact ⟨_, md_up hc (by decide) _, h0, h1, h5, h6, if_pos rfl, h8, h9, h10⟩
theorem md_ur (hk : md E M A th cnt k ko nums t X O) (Y : Nat → Int32) : md E (hm_up M (A 7) (hm_I E 220 Y)) A th cnt k ko nums t X O := by
  obtain ⟨C, hc, h0, h1, h5, h6, h7, h8, h9, h10⟩ := hk
  exact ⟨_, md_up hc (by decide) _, h0, h1, h5, h6, h7, ⟨Y, if_pos rfl⟩, h9, h10⟩
theorem md_ut (hk : md E M A th cnt k ko nums t X O) {i j : Nat} {v : Int64} (hi : i < 12) (hj : j < 12) : md E (hm_up M (A 4) (hm_J E 144 (vp_updL (fun j => t (j / 12) (j % 12)) (12 * i + j) v))) A th cnt k ko nums (fun a b => if a = i ∧ b = j then v else t a b) X O := by
  obtain ⟨C, hc, h0, h1, h5, h6, h7, h8, h9, h10⟩ := hk
  refine ⟨_, md_up hc (by decide) _, h0, h1, ?_, h6, h7, h8, h9, h10⟩
  show (if 4 = 4 then _ else _) = _
  rw [if_pos rfl]
  have e1 : vp_updL (fun j => t (j / 12) (j % 12)) (12 * i + j) v = fun b => if b / 12 = i ∧ b % 12 = j then v else t (b / 12) (b % 12) := by
    funext b
    by_cases q : b = 12 * i + j
    · have : b / 12 = i ∧ b % 12 = j := by omega
      simp [vp_updL, q, this]
      omega
    · have : ¬ (b / 12 = i ∧ b % 12 = j) := by omega
      simp [vp_updL, q, this]
  rw [e1]
/-- one more number kept -/
theorem md_keep {L S : Nat → Nat} {B : Nat → Int32} {v : Nat} {z : Int} (hk : md E M A th cnt k ko nums t X O) (hn : mn_ok cnt L S B nums) (hc : cnt < 160) (hv : v < bigN) (hz : z.natAbs = v) :
    md E (hm_up (hm_up (hm_up (hm_up M (A 1) (hm_I E 16640 (fun j => nI (if 104 * cnt ≤ j ∧ j < 104 * cnt + sg v then dg v (j - 104 * cnt) else L j)))) (A 2) (hm_I E 160 (upd (fun j => nI (S j)) cnt (nI (sg v))))) (A 3) (hm_Z E 160 (upd B cnt (if z < 0 then 1 else 0)))) (A 0) (mo A th (cnt + 1) k ko)) A th (cnt + 1) k ko (fun j => if j = cnt then z else nums j) t X O := by
  obtain ⟨C, hc0, h0, -, h5, h6, h7, h8, h9, h10⟩ := hk
  have hv2 : v < 65536 ^ 220 := Nat.lt_of_lt_of_le hv (w16_le (show 100 ≤ 220 by decide))
  have hs : sg v ≤ 100 := (sg_le hv2).mpr hv
  refine ⟨_, md_up (md_up (md_up (md_up hc0 (i := 1) (by decide) _) (i := 2) (by decide) _) (i := 3) (by decide) _) (i := 0) (by decide) _, ⟨if_pos rfl, by omega⟩, ⟨fun j => if 104 * cnt ≤ j ∧ j < 104 * cnt + sg v then dg v (j - 104 * cnt) else L j, fun j => if j = cnt then sg v else S j, upd B cnt (if z < 0 then 1 else 0), rfl, ?_, rfl, fun j hj => ?_, fun j hj => ?_⟩, h5, h6, h7, h8, h9, h10⟩
  · show hm_I E 160 (upd (fun j => nI (S j)) cnt (nI (sg v))) = _
    rw [upd_nI]
  · by_cases q : j = cnt
    · subst q
      refine ⟨?_, ?_, ?_, fun b hb => ?_⟩
      · show (if j = j then z else nums j).natAbs < bigN
        rw [if_pos rfl, hz]; exact hv
      · show (if j = j then sg v else S j) = sg (if j = j then z else nums j).natAbs
        rw [if_pos rfl, if_pos rfl, hz]
      · simp [upd]
      · show (if 104 * j ≤ 104 * j + b ∧ 104 * j + b < 104 * j + sg v then dg v (104 * j + b - 104 * j) else L (104 * j + b)) = dg (if j = j then z else nums j).natAbs b
        rw [if_pos (rfl : j = j), hz]
        by_cases q2 : b < sg v
        · rw [if_pos (by omega), Nat.add_sub_cancel_left]
        · rw [if_neg (by omega), hn.2 _ (by omega), dg_sg hv2 (by omega)]
    · obtain ⟨n1, n2, n3, n4⟩ := hn.1 j (by omega)
      refine ⟨?_, ?_, ?_, fun b hb => ?_⟩
      · show (if j = cnt then z else nums j).natAbs < bigN
        rw [if_neg q]; exact n1
      · show (if j = cnt then sg v else S j) = sg (if j = cnt then z else nums j).natAbs
        rw [if_neg q, if_neg q]; exact n2
      · show upd B cnt (if z < 0 then 1 else 0) j = (if (if j = cnt then z else nums j) < 0 then 1 else 0)
        rw [if_neg q]
        simp only [upd, q, if_false]
        exact n3
      · show (if 104 * cnt ≤ 104 * j + b ∧ 104 * j + b < 104 * cnt + sg v then _ else L (104 * j + b)) = dg (if j = cnt then z else nums j).natAbs b
        rw [if_neg q, if_neg (by omega)]
        exact n4 b hb
  · show (if 104 * cnt ≤ j ∧ j < 104 * cnt + sg v then _ else L j) = 0
    rw [if_neg (by omega)]
    exact hn.2 j (by omega)
end MD
