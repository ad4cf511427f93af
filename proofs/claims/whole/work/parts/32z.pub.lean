/-! pure rows for the reference's public methods -/
def mq (E : hm_E) (M : hm_M) (A : Nat → Nat) (th : Int32) (cnt : Nat) (nums : Nat → Int) (t : Nat → Nat → Int64) : Prop := ∃ (k ko : Nat) (X O : Nat → Int32), md E M A th cnt k ko nums t X O
theorem sn_add {x y : Int} {ga gb : Int32} (ha : ga = (if x < 0 then 1 else 0)) (hb : gb = (if y < 0 then 1 else 0)) (h : ga = gb) : x + y = (if ga = 0 then ((x.natAbs + y.natAbs : Nat) : Int) else -((x.natAbs + y.natAbs : Nat) : Int)) := by
  by_cases h1 : x < 0 <;> by_cases h2 : y < 0
  · rw [if_pos h1] at ha; rw [ha, if_neg (by decide)]; omega
  · rw [if_pos h1] at ha; rw [if_neg h2] at hb; rw [ha, hb] at h; exact absurd h (by decide)
  · rw [if_neg h1] at ha; rw [if_pos h2] at hb; rw [ha, hb] at h; exact absurd h (by decide)
  · rw [if_neg h1] at ha; rw [ha, if_pos rfl]; omega
theorem sn_sub {x y : Int} {ga gb : Int32} (ha : ga = (if x < 0 then 1 else 0)) (hb : gb = (if y < 0 then 1 else 0)) (h : ¬ ga = gb) : (x.natAbs < y.natAbs → x + y = (if gb = 0 then ((y.natAbs - x.natAbs : Nat) : Int) else -((y.natAbs - x.natAbs : Nat) : Int))) ∧ (¬ x.natAbs < y.natAbs → x + y = (if ga = 0 then ((x.natAbs - y.natAbs : Nat) : Int) else -((x.natAbs - y.natAbs : Nat) : Int))) := by
  by_cases h1 : x < 0 <;> by_cases h2 : y < 0
  · rw [if_pos h1] at ha; rw [if_pos h2] at hb; exact absurd (ha.trans hb.symm) h
  · rw [if_pos h1] at ha; rw [if_neg h2] at hb
    rw [ha, hb]
    exact ⟨fun _ => by rw [if_pos rfl]; omega, fun _ => by rw [if_neg (by decide)]; omega⟩
  · rw [if_neg h1] at ha; rw [if_pos h2] at hb
    rw [ha, hb]
    exact ⟨fun _ => by rw [if_neg (by decide)]; omega, fun _ => by rw [if_pos rfl]; omega⟩
  · rw [if_neg h1] at ha; rw [if_neg h2] at hb; exact absurd (ha.trans hb.symm) h
theorem sn_mul {x y : Int} {ga gb : Int32} (ha : ga = (if x < 0 then 1 else 0)) (hb : gb = (if y < 0 then 1 else 0)) : (ga = gb → x * y = (if (0 : Int32) = 0 then ((x.natAbs * y.natAbs : Nat) : Int) else -((x.natAbs * y.natAbs : Nat) : Int))) ∧ (¬ ga = gb → x * y = (if (1 : Int32) = 0 then ((x.natAbs * y.natAbs : Nat) : Int) else -((x.natAbs * y.natAbs : Nat) : Int))) := by
  have h := wn_prod ha hb
  exact ⟨fun e => by rw [if_pos rfl, ← h, if_pos e], fun e => by rw [if_neg (by decide), ← h, if_neg e]⟩
theorem sn_dz {x y : Int} {ga gb : Int32} (ha : ga = (if x < 0 then 1 else 0)) (hb : gb = (if y < 0 then 1 else 0)) : (ga = gb → dz x y = (if (0 : Int32) = 0 then ((x.natAbs / y.natAbs : Nat) : Int) else -((x.natAbs / y.natAbs : Nat) : Int))) ∧ (¬ ga = gb → dz x y = (if (1 : Int32) = 0 then ((x.natAbs / y.natAbs : Nat) : Int) else -((x.natAbs / y.natAbs : Nat) : Int))) := by
  obtain ⟨h1, h2⟩ := dz_sg ha hb rfl
  exact ⟨fun e => by rw [if_pos rfl]; exact (h1 e).symm, fun e => by rw [if_neg (by decide)]; exact (h2 e).symm⟩
def cmpZ (x y : Int) : Int32 := if x < y then -1 else if x = y then 0 else 1
theorem sn_ord {x y : Int} {ga gb : Int32} (ha : ga = (if x < 0 then 1 else 0)) (hb : gb = (if y < 0 then 1 else 0)) (h : ga = gb) : (ga = 0 → (if x.natAbs < y.natAbs then (-1 : Int32) else if x.natAbs = y.natAbs then 0 else 1) = cmpZ x y) ∧ (¬ ga = 0 → -(if x.natAbs < y.natAbs then (-1 : Int32) else if x.natAbs = y.natAbs then 0 else 1) = cmpZ x y) := by
  unfold cmpZ
  by_cases h1 : x < 0 <;> by_cases h2 : y < 0
  · rw [if_pos h1] at ha
    refine ⟨fun e => by rw [ha] at e; exact absurd e (by decide), fun _ => ?_⟩
    rcases Int.lt_trichotomy x y with q | q | q
    · rw [if_neg (by omega), if_neg (by omega), if_pos q]
    · rw [if_neg (by omega), if_pos (by omega), if_neg (by omega), if_pos q]; rfl
    · rw [if_pos (by omega), if_neg (by omega), if_neg (by omega)]; rfl
  · rw [if_pos h1] at ha; rw [if_neg h2] at hb; rw [ha, hb] at h; exact absurd h (by decide)
  · rw [if_neg h1] at ha; rw [if_pos h2] at hb; rw [ha, hb] at h; exact absurd h (by decide)
  · rw [if_neg h1] at ha
    refine ⟨fun _ => ?_, fun e => absurd ha e⟩
    rcases Int.lt_trichotomy x y with q | q | q
    · rw [if_pos (by omega), if_pos q]
    · rw [if_neg (by omega), if_pos (by omega), if_neg (by omega), if_pos q]
    · rw [if_neg (by omega), if_neg (by omega), if_neg (by omega), if_neg (by omega)]
theorem sn_dif {x y : Int} {ga gb : Int32} (ha : ga = (if x < 0 then 1 else 0)) (hb : gb = (if y < 0 then 1 else 0)) (h : ¬ ga = gb) : (ga = 0 → (1 : Int32) = cmpZ x y) ∧ (¬ ga = 0 → (-1 : Int32) = cmpZ x y) := by
  unfold cmpZ
  by_cases h1 : x < 0 <;> by_cases h2 : y < 0
  · rw [if_pos h1] at ha; rw [if_pos h2] at hb; exact absurd (ha.trans hb.symm) h
  · rw [if_pos h1] at ha
    exact ⟨fun e => by rw [ha] at e; exact absurd e (by decide), fun _ => by rw [if_pos (by omega)]⟩
  · rw [if_neg h1] at ha
    exact ⟨fun _ => by rw [if_neg (by omega), if_neg (by omega)], fun e => absurd ha e⟩
  · rw [if_neg h1] at ha; rw [if_neg h2] at hb; exact absurd (ha.trans hb.symm) h
theorem cmp_neg {v u : Nat} {r : Int32} (h : r = (if v < u then -1 else if v = u then 0 else 1)) : (0 ≤ r → ¬ v < u) ∧ (¬ 0 ≤ r → v < u) := by
  constructor
  · intro h1 h2; rw [h, if_pos h2] at h1; exact absurd h1 (by decide)
  · intro h1
    by_cases h2 : v < u
    · exact h2
    · exfalso; apply h1; rw [h, if_neg h2]; split <;> decide
theorem ix12 {x : Int32} (h0 : ¬ x < 0) (h1 : ¬ 12 ≤ x) : ∃ j, j < 12 ∧ x = nI j := by
  rcases pk_ix x (n := 12) (by decide) with h | h | h
  · exact absurd h h0
  · exact absurd h h1
  · exact h
theorem nI_12 (a b : Nat) : 12 * nI a + nI b = nI (12 * a + b) := by
  rw [show (12 : Int32) = nI 12 from rfl, pk_mul, nI_add]
