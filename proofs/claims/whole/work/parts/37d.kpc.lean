theorem kp_c {cnt c1 : Nat} {z z1 : Nat → Int} {v v1 : Int} {n1 : Nat → Int} {r : Int32} (h : kp cnt (fun j => z1 (200 + j)) (some v1) r c1 n1) (hz : ∀ j, j < cnt → z1 (200 + j) = z (200 + j)) (hv : v1 = v) : kp cnt (fun j => z (200 + j)) (some v) r c1 n1 := by
  subst hv
  rcases h with ⟨y, a1, a2, a3, a4, a5, a6, a7⟩ | ⟨a1, a2, a3, a4⟩
  · exact Or.inl ⟨y, a1, a2, a3, a4, a5, a6, fun j hj => (a7 j hj).trans (hz j hj)⟩
  · exact Or.inr ⟨a1, a2, a3, fun j hj => (a4 j hj).trans (hz j hj)⟩
