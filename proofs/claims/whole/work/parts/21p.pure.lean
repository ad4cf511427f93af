/-- what behind a guess is left: the rest of the division, whether the guess was right or one too many -/
theorem kn_right {r v : Nat → Nat} {ps sn gs V R : Nat} {X : Nat → Int} (hX : X = fun i => ((r (ps + i) : Nat) : Int) - (gs : Int) * ((v i : Nat) : Int)) (hVe : V = nu_v 33554432 v sn) (hRe : R = nu_v 33554432 (nu_w r ps) (sn + 1)) (hV0 : 0 < V) (hvb : ∀ j, j < sn → v j < 33554432) :
    (gs = R / V → ch_c 33554432 X sn + ((r (ps + sn) : Nat) : Int) = 0 ∧ nu_v 33554432 (ch_e 33554432 X) sn = R % V) ∧
    (gs = R / V + 1 → ch_c 33554432 X sn + ((r (ps + sn) : Nat) : Int) = -1 ∧ nu_v 33554432 (ch_e 33554432 X) sn + V = R % V + 33554432 ^ sn) := by
  have hVP : V < 33554432 ^ sn := by rw [hVe]; exact nu_v_lt hvb
  have h1 := ch_sum25 X sn
  have e0 : ch_s 33554432 X sn = (nu_v 33554432 (nu_w r ps) sn : Int) - (gs : Int) * (V : Int) := by
    have e1 : X = fun i => ((nu_w r ps i : Nat) : Int) + (-(gs : Int)) * ((v i : Nat) : Int) := by
      rw [hX]; funext i; show _ = ((r (ps + i) : Nat) : Int) + _; grind
    rw [e1, ch_s_add, ch_nu25, ch_nu25, ← hVe]; grind
  have e2 : (R : Int) = (nu_v 33554432 (nu_w r ps) sn : Int) + ((r (ps + sn) : Nat) : Int) * (33554432 : Int) ^ sn := by
    rw [hRe, nu_v, Int.natCast_add, Int.natCast_mul, Int.natCast_pow]; rfl
  have hE := nu_v_lt (B := 33554432) (d := ch_e 33554432 X) (n := sn) (fun j _ => ch_e25 X j)
  have e3 : ((33554432 ^ sn : Nat) : Int) = (33554432 : Int) ^ sn := by rw [Int.natCast_pow]; rfl
  have hdm := Nat.div_add_mod R V
  have hml := Nat.mod_lt R hV0
  have key : (R : Int) - (gs : Int) * (V : Int) = (nu_v 33554432 (ch_e 33554432 X) sn : Int) + (ch_c 33554432 X sn + ((r (ps + sn) : Nat) : Int)) * (33554432 : Int) ^ sn := by
    rw [e2, Int.add_mul]; omega
  have e4 : (R : Int) = (V : Int) * ((R / V : Nat) : Int) + ((R % V : Nat) : Int) := by
    rw [← Int.natCast_mul, ← Int.natCast_add, hdm]
  constructor
  · intro hg
    have h5 : (R : Int) - (gs : Int) * (V : Int) = ((R % V : Nat) : Int) := by rw [hg, e4]; grind
    have h6 := ch_two (T := ((R % V : Nat) : Int)) (k := 0) (E := (nu_v 33554432 (ch_e 33554432 X) sn : Int)) (c := ch_c 33554432 X sn + ((r (ps + sn) : Nat) : Int)) (P := (33554432 : Int) ^ sn) (by omega) (by rw [← e3]; omega) (by omega) (by rw [← e3]; omega) (by rw [← key, h5]; grind)
    exact ⟨h6.1, by omega⟩
  · intro hg
    have h5 : (R : Int) - (gs : Int) * (V : Int) = ((R % V : Nat) : Int) - (V : Int) := by rw [hg, e4, Int.natCast_add]; grind
    have h6 := ch_two (T := ((R % V : Nat) : Int) - (V : Int) + (33554432 : Int) ^ sn) (k := -1) (E := (nu_v 33554432 (ch_e 33554432 X) sn : Int)) (c := ch_c 33554432 X sn + ((r (ps + sn) : Nat) : Int)) (P := (33554432 : Int) ^ sn) (by rw [← e3]; omega) (by rw [← e3]; omega) (by omega) (by rw [← e3]; omega) (by rw [← key, h5]; grind)
    refine ⟨h6.1, ?_⟩
    have h7 := h6.2
    rw [← e3] at h7
    omega
theorem kn_back {e v : Nat → Nat} {sn V T : Nat} {X : Nat → Int} (hX : X = fun i => ((e i + v i : Nat) : Int)) (hVe : V = nu_v 33554432 v sn) (hT : nu_v 33554432 e sn + V = T + 33554432 ^ sn) (hlt : T < 33554432 ^ sn) : nu_v 33554432 (ch_e 33554432 X) sn = T := by
  have h1 := ch_sum25 X sn
  have e0 : ch_s 33554432 X sn = ((nu_v 33554432 e sn + V : Nat) : Int) := by
    rw [hX, ch_nu25, nu_add, ← hVe]
  have hE := nu_v_lt (B := 33554432) (d := ch_e 33554432 X) (n := sn) (fun j _ => ch_e25 X j)
  have e3 : ((33554432 ^ sn : Nat) : Int) = (33554432 : Int) ^ sn := by rw [Int.natCast_pow]; rfl
  rw [e0, hT] at h1
  have h6 := ch_two (T := (T : Int)) (k := 1) (E := (nu_v 33554432 (ch_e 33554432 X) sn : Int)) (c := ch_c 33554432 X sn) (P := (33554432 : Int) ^ sn) (by omega) (by rw [← e3]; omega) (by omega) (by rw [← e3]; omega) (by rw [← h1, Int.natCast_add, e3]; grind)
  omega
theorem win_v {e r : Nat → Nat} {ps sn : Nat} : nu_v 33554432 (nu_w (fun j => if ps ≤ j ∧ j < ps + sn then e (j - ps) else r j) ps) sn = nu_v 33554432 e sn := nu_v_congr (fun j hj => by
  show (if ps ≤ ps + j ∧ ps + j < ps + sn then e (ps + j - ps) else r (ps + j)) = e j
  rw [if_pos (by omega), Nat.add_sub_cancel_left])
theorem win_lt {e r : Nat → Nat} {ps sn : Nat} (he : ∀ j, e j < 33554432) (hr : ∀ j, j < 66 → r j < 33554432) : ∀ j, j < 66 → (if ps ≤ j ∧ j < ps + sn then e (j - ps) else r j) < 33554432 := fun j hj => by
  split
  · exact he _
  · exact hr j hj
