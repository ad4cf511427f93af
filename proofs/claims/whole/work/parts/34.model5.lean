abbrev wd_X4_factorial : List Cond := .code yX4_factorial cX4_factorial 3 (some .int) :: hm_ws
abbrev rm_X4_factorial : Room := { frames := 2, cells := 0, slots := 0, locals := 47 }

set_option maxHeartbeats 4000000 in
set_option maxRecDepth 100000 in
/-- factorial(n) -/
theorem c_X4_factorial (l : Launch) (E : hm_E) {M : hm_M} {A : Nat → Nat} {th : Int32} {cnt k ko : Nat} {nums : Nat → Int} {t : Nat → Nat → Int64} {X O : Nat → Int32} {a : Int32} (hk : md E M A th cnt k ko nums t X O)  : hm_Ci l E yX4_factorial wd_X4_factorial rm_X4_factorial [.ref (A 0), .int a] M (fun r M1 => ∃ cnt1 nums1, kp cnt nums (spF a) r cnt1 nums1 ∧ mq E M1 A 0 cnt1 nums1 t) := by
  intro sz
  refine Met.ofW (cc := cX4_factorial) (maxL := 3) (ret := (some .int)) (by decide) rfl ?_
  intro p e s m args below meth c s₁ B hml hv
  obtain ⟨rfl, hAe, hA, hK, hV⟩ := hm_start hv
  have hx := B.exec
  have hb := B.bytes
  have hr := B.returns
  have hts := atoms_spec (ws := wd_X4_factorial) B.pre
  have hws : ∀ w ∈ hm_ws, w.before _ s = true := fun w h => hts w (List.mem_cons_of_mem _ h)
  have hown : s.vm.findClass RX4 = some m.cls := findClass_of_methodNamed B.named
  have hlocks := B.notSynchronized
  have fl49 := hws _ kw_479
  have hl := lv_entry ([.ref (A 0), .int a]) (n := 3) (Nat.le_of_ble_eq_true rfl)
  rw [lg_entry_eq]
  generalize (lg_sl ([.ref (A 0), .int a]) ++ List.replicate (3 - (lg_sl ([.ref (A 0), .int a])).length) Slot.unset).toArray = ls at hl ⊢
  have hl : lv_has ls 3 [(0, .ref (A 0)), (1, .int a)] := hl
  refine hm_gen (rm := rm_X4_factorial) rfl (fun Qf hQf => ?_)
  refine lv_aload_n hx hb dX4_factorial_0 rfl (lv_at hl 0 rfl) ?_
  refine lv_iconst (v := 0) hx hb dX4_factorial_1 (by decide) ?_
  refine hm_put (ci := 6) (v := .int 0) (ty := .int) (C := RX4) (T := TX4) (N := 16) hx hb hws kin_X4 tyX4 tyX4_ok nmX4 hown hK.1 hV (md_x hk) rfl 0 (by decide) fl49 (fun _ h9 => h9) rfl (by decide +kernel) rfl rfl (Nat.le_of_ble_eq_true rfl) dX4_factorial_2 (fun H locs hV => ?_)
  have hV : hm_V E.1 vwCl (hm_A M sz) s.heap (hm_up M (A 0) (.inr (6, [.int 0, .int (nI cnt), .ref (A 1), .ref (A 2), .ref (A 3), .ref (A 4), .ref (A 5), .int (nI k), .ref (A 6), .int (nI ko), .ref (A 7), .ref (A 8), .ref (A 9), .ref (A 10), .ref (A 11), .ref (A 12)]))) H locs := hV
  obtain ⟨N0, hN0⟩ : ∃ N9 : hm_M, N9 = hm_up M (A 0) (.inr (6, [.int 0, .int (nI cnt), .ref (A 1), .ref (A 2), .ref (A 3), .ref (A 4), .ref (A 5), .int (nI k), .ref (A 6), .int (nI ko), .ref (A 7), .ref (A 8), .ref (A 9), .ref (A 10), .ref (A 11), .ref (A 12)])) := ⟨_, rfl⟩
  have hk : md E (hm_up M (A 0) (.inr (6, [.int 0, .int (nI cnt), .ref (A 1), .ref (A 2), .ref (A 3), .ref (A 4), .ref (A 5), .int (nI k), .ref (A 6), .int (nI ko), .ref (A 7), .ref (A 8), .ref (A 9), .ref (A 10), .ref (A 11), .ref (A 12)]))) A 0 cnt k ko nums t X O := md_ux hk 0 k ko
  rw [← hN0] at hk hV
  refine lv_iload_n hx hb dX4_factorial_5 rfl (lv_at hl 1 rfl) ?_
  refine lv_if_ge (tgt := 11) hx hb dX4_factorial_6 (by decide) (fun c6 => ?_) (fun c6 => ?_)
  · obtain ⟨n, hn, rfl⟩ := iPos c6
    rw [spF_n hn] at hQf
    have hl : lv_has ls 3 [(0, .ref (A 0)), (1, .int (nI n))] := hl
    refine lv_aload_n hx hb dX4_factorial_11 rfl (lv_at hl 0 rfl) ?_
    refine lv_lconst (v := 1) hx hb dX4_factorial_12 (by decide) ?_
    refine hm_callv (va_runV (As := [.long 1]) (rest := []) ⟨hx, hb, hml, hown, hts⟩ (c_X4_loadLong l E (v := 1) hk H.size) (cwV 1 hts (hm_gV kw_537 kw_539 kw_17 kw_41 kw_540) rfl rfl rfl (by decide +kernel) ⟨Nat.le_of_ble_eq_true rfl, Nat.le_of_ble_eq_true rfl⟩) (hm_preV hK hV (md_x hk) rfl) rfl rfl hl.1 rfl (lv_room (Nat.le_of_ble_eq_true rfl)) dX4_factorial_13 ⟨Nat.le_of_ble_eq_true rfl, Nat.le_of_ble_eq_true rfl⟩) hV hA (fun M1 H locs hp hV => ?_)
    have hk := hp
    rw [show (1 : Int64).toInt.natAbs = 1 from by decide] at hk
    refine lv_iconst (v := 2) hx hb dX4_factorial_16 (by decide) ?_
    refine lv_istore_n (lv' := [(2, .int 2), (0, .ref (A 0)), (1, .int (nI n))]) hx hb dX4_factorial_17 rfl hl (by decide) rfl (fun ls hl => ?_)
    have fin : ∀ (N : hm_M) (v : Nat), (md E N A 0 cnt (sg v) ko nums t (fun j => nI (dg v j)) O) → (v < 65536 ^ 220) → (hid (v = fc n ∨ (bigN ≤ v ∧ bigN ≤ fc n))) → ∀ (ls : Array Slot) (H : Heap) (locs : List Loc), lv_has ls 3 [(0, .ref (A 0))] → hm_V E.1 vwCl (hm_A M sz) s.heap (N) H locs → W p l e rm_X4_factorial s m [.ref (A 0), .int (nI n)].toArray below meth c H locs 0 0 Qf (F0 m 41 ls []) := by
      intro N v hk hv2 hz ls H locs hl hV
      refine lv_aload_n hx hb dX4_factorial_41 rfl (lv_at hl 0 rfl) ?_
      refine lv_iconst (v := 0) hx hb dX4_factorial_42 (by decide) ?_
      refine hm_calli (va_runV (As := [.int 0]) (rest := []) ⟨hx, hb, hml, hown, hts⟩ (c_X4_keep l E (v := v) (z := (v : Int)) (g := 0) hk hv2 (show _ = _ from by rw [if_pos rfl]) H.size) (cwV 1 hts (hm_gV kw_549 kw_551 kw_19 kw_41 kw_552) rfl rfl rfl (by decide +kernel) ⟨Nat.le_of_ble_eq_true rfl, Nat.le_of_ble_eq_true rfl⟩) (hm_preV hK hV (md_x hk) rfl) rfl rfl hl.1 rfl (lv_room (Nat.le_of_ble_eq_true rfl)) dX4_factorial_43 ⟨Nat.le_of_ble_eq_true rfl, Nat.le_of_ble_eq_true rfl⟩) hV hA (fun r43 M1 H locs hp hV => ?_)
      obtain ⟨cnt1, nums1, hkp, hk⟩ := hp
      have hkp2 : kp cnt nums (some ((fc n : Nat) : Int)) r43 cnt1 nums1 := by
        rcases (show v = fc n ∨ (bigN ≤ v ∧ bigN ≤ fc n) from hz) with h9 | h9
        · rw [← h9]; exact hkp
        · exact kp_wide hkp (by rw [Int.natAbs_natCast]; exact h9.1) (by rw [Int.natAbs_natCast]; exact h9.2)
      rw [hQf]
      exact W.iret hx hb hr (fun t9 ht hW => ⟨⟨_, M1, rfl, ⟨cnt1, nums1, hkp2, _, _, _, _, hk⟩, (hm_end hV ht).1⟩, (hm_end hV ht).2⟩) hV.2.2.2.2 dX4_factorial_46
    have loop : ∀ (fu : Nat) (N : hm_M) (j : Nat), (1 ≤ j) → (j ≤ n ∨ j = 1) → (md E N A 0 cnt (sg (fc j)) ko nums t (fun b9 => nI (dg (fc j) b9)) O) → (fc j < 65536 ^ 220) → (j < 1602) → n + 1 - j < fu → ∀ (ls : Array Slot) (H : Heap) (locs : List Loc), lv_has ls 3 [(0, .ref (A 0)), (1, .int (nI n)), (2, .int (nI (j + 1)))] → hm_V E.1 vwCl (hm_A M sz) s.heap (N) H locs → W p l e rm_X4_factorial s m [.ref (A 0), .int (nI n)].toArray below meth c H locs 0 0 Qf (F0 m 18 ls []) := by
      intro fu
      induction fu with
      | zero => intro N j hj hjn hk hv2 hj2 hfu; exact absurd hfu (Nat.not_lt_zero _)
      | succ fu ih_loop =>
        intro N j hj hjn hk hv2 hj2 hfu ls H locs hl hV
        refine lv_iload_n hx hb dX4_factorial_18 rfl (lv_at hl 2 rfl) ?_
        refine lv_iload_n hx hb dX4_factorial_19 rfl (lv_at hl 1 rfl) ?_
        refine lv_icmp_gt (tgt := 41) hx hb dX4_factorial_20 (by decide) (fun c20 => ?_) (fun c20 => ?_)
        · have hnj : n < j + 1 := (nI_ltI (by omega) (by omega)).mp c20
          exact fin _ (fc j) hk hv2 (Or.inl (by
            rcases (show j = n ∨ (j = 1 ∧ n = 0) by omega) with h9 | h9
            · rw [h9]
            · rw [h9.1, h9.2]; rfl)) ls H locs (lv_sub hl [0] rfl) hV
        · have hnj : j < n := by
            rcases Nat.lt_or_ge n (j + 1) with q | q
            · exact absurd (nI_lt q (by omega)) c20
            · omega
          refine lv_aload_n hx hb dX4_factorial_23 rfl (lv_at hl 0 rfl) ?_
          refine hm_calli (va_runV (As := []) (rest := []) ⟨hx, hb, hml, hown, hts⟩ (c_X4_isTooWide l E hk (sg_220 _) H.size) (cwV 0 hts (hm_gV kw_553 kw_555 kw_20 kw_41 kw_556) rfl rfl rfl (by decide +kernel) ⟨Nat.le_of_ble_eq_true rfl, Nat.le_of_ble_eq_true rfl⟩) (hm_preV hK hV (md_x hk) rfl) rfl rfl hl.1 rfl (lv_room (Nat.le_of_ble_eq_true rfl)) dX4_factorial_24 ⟨Nat.le_of_ble_eq_true rfl, Nat.le_of_ble_eq_true rfl⟩) hV hA (fun r24 M1 H locs hp hV => ?_)
          obtain ⟨hr24, hM1⟩ := hp
          rw [← hM1] at hk
          refine lv_if_ne (tgt := 41) hx hb dX4_factorial_27 (by decide) (fun c27 => ?_) (fun c27 => ?_)
          · have hw : bigN ≤ fc j := by
              rcases hr24 with h9 | h9
              · exact absurd h9.1 c27
              · exact big_sg hv2 h9.2
            exact fin _ (fc j) hk hv2 (Or.inr ⟨hw, Nat.le_trans hw (fc_mono (by omega))⟩) ls H locs (lv_sub hl [0] rfl) hV
          · have hw : fc j < bigN := by
              rcases hr24 with h9 | h9
              · exact sg_big hv2 h9.2
              · rw [h9.1] at c27; exact absurd c27 (by decide)
            obtain ⟨hj3, hv3⟩ := fc_next hw
            refine lv_aload_n hx hb dX4_factorial_30 rfl (lv_at hl 0 rfl) ?_
            refine lv_iload_n hx hb dX4_factorial_31 rfl (lv_at hl 2 rfl) ?_
            refine hm_callv (va_runV (As := [.int (nI (j + 1))]) (rest := []) ⟨hx, hb, hml, hown, hts⟩ (c_X4_multiplyBy l E (f0 := j + 1) hk hw (by omega) H.size) (cwV 1 hts (hm_gV kw_619 kw_621 kw_31 kw_41 kw_622) rfl rfl rfl (by decide +kernel) ⟨Nat.le_of_ble_eq_true rfl, Nat.le_of_ble_eq_true rfl⟩) (hm_preV hK hV (md_x hk) rfl) rfl rfl hl.1 rfl (lv_room (Nat.le_of_ble_eq_true rfl)) dX4_factorial_32 ⟨Nat.le_of_ble_eq_true rfl, Nat.le_of_ble_eq_true rfl⟩) hV hA (fun M1 H locs hp hV => ?_)
            have hk := hp
            refine lv_iinc (v := (nI (j + 1 + 1))) (lv' := [(2, .int (nI (j + 1 + 1))), (0, .ref (A 0)), (1, .int (nI n))]) hx hb dX4_factorial_35 hl (k := 2) rfl (nI_1 (j + 1)) (by decide) rfl (fun ls hl => ?_)
            refine lv_goto (tgt := 18) hx hb dX4_factorial_38 (by decide) ?_
            exact ih_loop _ (j + 1) (by omega) (by omega) hk hv3 (by omega) (by omega) ls H locs (lv_sub hl [1, 2, 0] rfl) hV
    exact loop (n + 2) _ 1 (by omega) (Or.inr rfl) hk (by decide +kernel) (by omega) (by omega) ls H locs (lv_sub hl [1, 2, 0] rfl) hV
  · have hneg : a < 0 := Int32.not_le.mp c6
    rw [spF_neg hneg] at hQf
    refine lv_iconst (v := (-1)) hx hb dX4_factorial_9 (by decide) ?_
    rw [hQf]
    exact W.iret hx hb hr (fun t9 ht hW => ⟨⟨_, N0, rfl, ⟨cnt, nums, kp_none, _, _, _, _, hk⟩, (hm_end hV ht).1⟩, (hm_end hV ht).2⟩) hV.2.2.2.2 dX4_factorial_10

abbrev wd_X4_binomial : List Cond := .code yX4_binomial cX4_binomial 5 (some .int) :: hm_ws
abbrev rm_X4_binomial : Room := { frames := 2, cells := 0, slots := 0, locals := 47 }

set_option maxHeartbeats 4000000 in
set_option maxRecDepth 100000 in
/-- binomial(n, k) -/
theorem c_X4_binomial (l : Launch) (E : hm_E) {M : hm_M} {A : Nat → Nat} {th : Int32} {cnt k ko : Nat} {nums : Nat → Int} {t : Nat → Nat → Int64} {X O : Nat → Int32} {a b : Int32} (hk : md E M A th cnt k ko nums t X O)  : hm_Ci l E yX4_binomial wd_X4_binomial rm_X4_binomial [.ref (A 0), .int a, .int b] M (fun r M1 => ∃ cnt1 nums1, kp cnt nums (spB a b) r cnt1 nums1 ∧ mq E M1 A 0 cnt1 nums1 t) := by
  intro sz
  refine Met.ofW (cc := cX4_binomial) (maxL := 5) (ret := (some .int)) (by decide) rfl ?_
  intro p e s m args below meth c s₁ B hml hv
  obtain ⟨rfl, hAe, hA, hK, hV⟩ := hm_start hv
  have hx := B.exec
  have hb := B.bytes
  have hr := B.returns
  have hts := atoms_spec (ws := wd_X4_binomial) B.pre
  have hws : ∀ w ∈ hm_ws, w.before _ s = true := fun w h => hts w (List.mem_cons_of_mem _ h)
  have hown : s.vm.findClass RX4 = some m.cls := findClass_of_methodNamed B.named
  have hlocks := B.notSynchronized
  have fl49 := hws _ kw_479
  have fl64 := hws _ kw_486
  have hl := lv_entry ([.ref (A 0), .int a, .int b]) (n := 5) (Nat.le_of_ble_eq_true rfl)
  rw [lg_entry_eq]
  generalize (lg_sl ([.ref (A 0), .int a, .int b]) ++ List.replicate (5 - (lg_sl ([.ref (A 0), .int a, .int b])).length) Slot.unset).toArray = ls at hl ⊢
  have hl : lv_has ls 5 [(0, .ref (A 0)), (1, .int a), (2, .int b)] := hl
  refine hm_gen (rm := rm_X4_binomial) rfl (fun Qf hQf => ?_)
  refine lv_aload_n hx hb dX4_binomial_0 rfl (lv_at hl 0 rfl) ?_
  refine lv_iconst (v := 0) hx hb dX4_binomial_1 (by decide) ?_
  refine hm_put (ci := 6) (v := .int 0) (ty := .int) (C := RX4) (T := TX4) (N := 16) hx hb hws kin_X4 tyX4 tyX4_ok nmX4 hown hK.1 hV (md_x hk) rfl 0 (by decide) fl49 (fun _ h9 => h9) rfl (by decide +kernel) rfl rfl (Nat.le_of_ble_eq_true rfl) dX4_binomial_2 (fun H locs hV => ?_)
  have hV : hm_V E.1 vwCl (hm_A M sz) s.heap (hm_up M (A 0) (.inr (6, [.int 0, .int (nI cnt), .ref (A 1), .ref (A 2), .ref (A 3), .ref (A 4), .ref (A 5), .int (nI k), .ref (A 6), .int (nI ko), .ref (A 7), .ref (A 8), .ref (A 9), .ref (A 10), .ref (A 11), .ref (A 12)]))) H locs := hV
  obtain ⟨N0, hN0⟩ : ∃ N9 : hm_M, N9 = hm_up M (A 0) (.inr (6, [.int 0, .int (nI cnt), .ref (A 1), .ref (A 2), .ref (A 3), .ref (A 4), .ref (A 5), .int (nI k), .ref (A 6), .int (nI ko), .ref (A 7), .ref (A 8), .ref (A 9), .ref (A 10), .ref (A 11), .ref (A 12)])) := ⟨_, rfl⟩
  have hk : md E (hm_up M (A 0) (.inr (6, [.int 0, .int (nI cnt), .ref (A 1), .ref (A 2), .ref (A 3), .ref (A 4), .ref (A 5), .int (nI k), .ref (A 6), .int (nI ko), .ref (A 7), .ref (A 8), .ref (A 9), .ref (A 10), .ref (A 11), .ref (A 12)]))) A 0 cnt k ko nums t X O := md_ux hk 0 k ko
  rw [← hN0] at hk hV
  have no : (a < 0 ∨ 4000 < a) → ∀ (ls : Array Slot) (H : Heap) (locs : List Loc), lv_has ls 5 [(0, .ref (A 0)), (1, .int a), (2, .int b)] → hm_V E.1 vwCl (hm_A M sz) s.heap (N0) H locs → W p l e rm_X4_binomial s m [.ref (A 0), .int a, .int b].toArray below meth c H locs 0 0 Qf (F0 m 16 ls []) := by
    intro  hno ls H locs hl hV
    rw [show spB a b = none from if_pos hno] at hQf
    refine lv_iconst (v := (-1)) hx hb dX4_binomial_16 (by decide) ?_
    rw [hQf]
    exact W.iret hx hb hr (fun t9 ht hW => ⟨⟨_, N0, rfl, ⟨cnt, nums, kp_none, _, _, _, _, hk⟩, (hm_end hV ht).1⟩, (hm_end hV ht).2⟩) hV.2.2.2.2 dX4_binomial_17
  refine lv_iload_n hx hb dX4_binomial_5 rfl (lv_at hl 1 rfl) ?_
  refine lv_if_lt (tgt := 16) hx hb dX4_binomial_6 (by decide) (fun c6 => ?_) (fun c6 => ?_)
  · exact no (Or.inl c6) ls H locs (lv_sub hl [0, 1, 2] rfl) hV
  · refine lv_iload_n hx hb dX4_binomial_9 rfl (lv_at hl 1 rfl) ?_
    refine lv_sipush (v := 4000) hx hb dX4_binomial_10 (by decide) ?_
    refine lv_icmp_le (tgt := 18) hx hb dX4_binomial_13 (by decide) (fun c13 => ?_) (fun c13 => ?_)
    · obtain ⟨n, hn, rfl⟩ := nI_of2 (M := 4000) (n := 4000) rfl c6 c13
      have hl : lv_has ls 5 [(0, .ref (A 0)), (1, .int (nI n)), (2, .int b)] := hl
      refine lv_aload_n hx hb dX4_binomial_18 rfl (lv_at hl 0 rfl) ?_
      have zero : (b < 0 ∨ nI n < b) → ∀ (ls : Array Slot) (H : Heap) (locs : List Loc), lv_has ls 5 [(0, .ref (A 0)), (1, .int (nI n)), (2, .int b)] → hm_V E.1 vwCl (hm_A M sz) s.heap (N0) H locs → W p l e rm_X4_binomial s m [.ref (A 0), .int (nI n), .int b].toArray below meth c H locs 0 0 Qf (F0 m 28 ls [.ref (A 0)]) := by
        intro  hb0 ls H locs hl hV
        rw [spB_0 hn hb0] at hQf
        refine lv_lconst (v := 0) hx hb dX4_binomial_28 (by decide) ?_
        refine lv_goto (tgt := 33) hx hb dX4_binomial_29 (by decide) ?_
        refine hm_callv (va_runV (As := [.long 0]) (rest := []) ⟨hx, hb, hml, hown, hts⟩ (c_X4_loadLong l E (v := 0) hk H.size) (cwV 1 hts (hm_gV kw_537 kw_539 kw_17 kw_41 kw_540) rfl rfl rfl (by decide +kernel) ⟨Nat.le_of_ble_eq_true rfl, Nat.le_of_ble_eq_true rfl⟩) (hm_preV hK hV (md_x hk) rfl) rfl rfl hl.1 rfl (lv_room (Nat.le_of_ble_eq_true rfl)) dX4_binomial_33 ⟨Nat.le_of_ble_eq_true rfl, Nat.le_of_ble_eq_true rfl⟩) hV hA (fun M1 H locs hp hV => ?_)
        have hk := hp
        rw [show (0 : Int64).toInt.natAbs = 0 from by decide] at hk
        have zfin : ∀ (ls : Array Slot) (H : Heap) (locs : List Loc), lv_has ls 5 [(0, .ref (A 0))] → hm_V E.1 vwCl (hm_A M sz) s.heap (M1) H locs → W p l e rm_X4_binomial s m [.ref (A 0), .int (nI n), .int b].toArray below meth c H locs 0 0 Qf (F0 m 101 ls []) := by
          intro   ls H locs hl hV
          refine lv_aload_n hx hb dX4_binomial_101 rfl (lv_at hl 0 rfl) ?_
          refine lv_iconst (v := 0) hx hb dX4_binomial_102 (by decide) ?_
          refine hm_calli (va_runV (As := [.int 0]) (rest := []) ⟨hx, hb, hml, hown, hts⟩ (c_X4_keep l E (v := 0) (z := 0) (g := 0) hk (by decide +kernel) (show _ = _ from rfl) H.size) (cwV 1 hts (hm_gV kw_549 kw_551 kw_19 kw_41 kw_552) rfl rfl rfl (by decide +kernel) ⟨Nat.le_of_ble_eq_true rfl, Nat.le_of_ble_eq_true rfl⟩) (hm_preV hK hV (md_x hk) rfl) rfl rfl hl.1 rfl (lv_room (Nat.le_of_ble_eq_true rfl)) dX4_binomial_103 ⟨Nat.le_of_ble_eq_true rfl, Nat.le_of_ble_eq_true rfl⟩) hV hA (fun r103 M1 H locs hp hV => ?_)
          obtain ⟨cnt1, nums1, hkp, hk⟩ := hp
          rw [hQf]
          exact W.iret hx hb hr (fun t9 ht hW => ⟨⟨_, M1, rfl, ⟨cnt1, nums1, hkp, _, _, _, _, hk⟩, (hm_end hV ht).1⟩, (hm_end hV ht).2⟩) hV.2.2.2.2 dX4_binomial_106
        have zloop : ∀ (y : Int32), ∀ (ls : Array Slot) (H : Heap) (locs : List Loc), lv_has ls 5 [(0, .ref (A 0)), (1, .int (nI n)), (2, .int b)] → hm_V E.1 vwCl (hm_A M sz) s.heap (M1) H locs → W p l e rm_X4_binomial s m [.ref (A 0), .int (nI n), .int b].toArray below meth c H locs 0 0 Qf (F0 m 50 ls [.int y]) := by
          intro y  ls H locs hl hV
          refine lv_istore_n (lv' := [(3, .int y), (0, .ref (A 0)), (1, .int (nI n)), (2, .int b)]) hx hb dX4_binomial_50 rfl hl (by decide) rfl (fun ls hl => ?_)
          refine lv_iconst (v := 1) hx hb dX4_binomial_51 (by decide) ?_
          refine lv_istore (lv' := [(4, .int 1), (3, .int y), (0, .ref (A 0)), (1, .int (nI n)), (2, .int b)]) hx hb dX4_binomial_52 hl (by decide) rfl (fun ls hl => ?_)
          refine lv_iload hx hb dX4_binomial_54 (lv_at hl 0 rfl) ?_
          refine lv_iload_n hx hb dX4_binomial_56 rfl (lv_at hl 1 rfl) ?_
          refine lv_icmp_gt (tgt := 101) hx hb dX4_binomial_57 (by decide) (fun c57 => ?_) (fun c57 => ?_)
          · exact zfin  ls H locs (lv_sub hl [2] rfl) hV
          · refine lv_aload_n hx hb dX4_binomial_60 rfl (lv_at hl 2 rfl) ?_
            refine hm_get (ci := 6) (v := .int (nI (sg 0))) (C := RX4) (T := TX4) (N := 16) hx hb hws kin_X4 hown hK.1 hV (md_x hk) rfl 7 (by decide) fl64 (fun _ h9 => h9) rfl dX4_binomial_61 ?_
            refine lv_if_le (tgt := 101) hx hb dX4_binomial_64 (by decide) (fun c64 => ?_) (fun c64 => ?_)
            · exact zfin  ls H locs (lv_sub hl [2] rfl) hV
            · exact absurd (by rw [sg_z]; exact Int32.le_refl _) c64
        refine lv_iload_n hx hb dX4_binomial_36 rfl (lv_at hl 2 rfl) ?_
        refine lv_iload_n hx hb dX4_binomial_37 rfl (lv_at hl 1 rfl) ?_
        refine lv_iload_n hx hb dX4_binomial_38 rfl (lv_at hl 2 rfl) ?_
        refine lv_isub hx hb dX4_binomial_39 ?_
        refine lv_icmp_ge (tgt := 47) hx hb dX4_binomial_40 (by decide) (fun c40 => ?_) (fun c40 => ?_)
        · refine lv_iload_n hx hb dX4_binomial_47 rfl (lv_at hl 1 rfl) ?_
          refine lv_iload_n hx hb dX4_binomial_48 rfl (lv_at hl 2 rfl) ?_
          refine lv_isub hx hb dX4_binomial_49 ?_
          exact zloop _ ls H locs (lv_sub hl [0, 1, 2] rfl) hV
        · refine lv_iload_n hx hb dX4_binomial_43 rfl (lv_at hl 2 rfl) ?_
          refine lv_goto (tgt := 50) hx hb dX4_binomial_44 (by decide) ?_
          exact zloop _ ls H locs (lv_sub hl [0, 1, 2] rfl) hV
      refine lv_iload_n hx hb dX4_binomial_19 rfl (lv_at hl 2 rfl) ?_
      refine lv_if_lt (tgt := 28) hx hb dX4_binomial_20 (by decide) (fun c20 => ?_) (fun c20 => ?_)
      · exact zero (Or.inl c20) ls H locs (lv_sub hl [0, 1, 2] rfl) hV
      · refine lv_iload_n hx hb dX4_binomial_23 rfl (lv_at hl 2 rfl) ?_
        refine lv_iload_n hx hb dX4_binomial_24 rfl (lv_at hl 1 rfl) ?_
        refine lv_icmp_le (tgt := 32) hx hb dX4_binomial_25 (by decide) (fun c25 => ?_) (fun c25 => ?_)
        · obtain ⟨kk, hkk, rfl⟩ := nI_of c20
          have hkn : kk ≤ n := (nI_leI (by omega) (by omega)).mp c25
          rw [spB_n hn hkn] at hQf
          have hl : lv_has ls 5 [(0, .ref (A 0)), (1, .int (nI n)), (2, .int (nI kk))] := hl
          refine lv_lconst (v := 1) hx hb dX4_binomial_32 (by decide) ?_
          refine hm_callv (va_runV (As := [.long 1]) (rest := []) ⟨hx, hb, hml, hown, hts⟩ (c_X4_loadLong l E (v := 1) hk H.size) (cwV 1 hts (hm_gV kw_537 kw_539 kw_17 kw_41 kw_540) rfl rfl rfl (by decide +kernel) ⟨Nat.le_of_ble_eq_true rfl, Nat.le_of_ble_eq_true rfl⟩) (hm_preV hK hV (md_x hk) rfl) rfl rfl hl.1 rfl (lv_room (Nat.le_of_ble_eq_true rfl)) dX4_binomial_33 ⟨Nat.le_of_ble_eq_true rfl, Nat.le_of_ble_eq_true rfl⟩) hV hA (fun M1 H locs hp hV => ?_)
          have hk := hp
          rw [show (1 : Int64).toInt.natAbs = 1 from by decide] at hk
          have few : ∀ (f0 : Nat), (f0 = kk ∨ f0 = n - kk) → (2 * f0 ≤ n) → ∀ (ls : Array Slot) (H : Heap) (locs : List Loc), lv_has ls 5 [(0, .ref (A 0)), (1, .int (nI n)), (2, .int (nI kk))] → hm_V E.1 vwCl (hm_A M sz) s.heap (M1) H locs → W p l e rm_X4_binomial s m [.ref (A 0), .int (nI n), .int (nI kk)].toArray below meth c H locs 0 0 Qf (F0 m 50 ls [.int (nI f0)]) := by
            intro f0 hf1 hf2 ls H locs hl hV
            have hbe := bc_mid hkn hf1
            rw [hbe] at hQf
            obtain ⟨D, hD⟩ : ∃ D, D = n - f0 := ⟨_, rfl⟩
            have hDn : D + f0 = n := by omega
            have fin : ∀ (N : hm_M) (v : Nat), (md E N A 0 cnt (sg v) ko nums t (fun j => nI (dg v j)) O) → (v < 65536 ^ 220) → (hid (v = bc n f0 ∨ (bigN ≤ v ∧ bigN ≤ bc n f0))) → ∀ (ls : Array Slot) (H : Heap) (locs : List Loc), lv_has ls 5 [(0, .ref (A 0))] → hm_V E.1 vwCl (hm_A M sz) s.heap (N) H locs → W p l e rm_X4_binomial s m [.ref (A 0), .int (nI n), .int (nI kk)].toArray below meth c H locs 0 0 Qf (F0 m 101 ls []) := by
              intro N v hk hv2 hz ls H locs hl hV
              refine lv_aload_n hx hb dX4_binomial_101 rfl (lv_at hl 0 rfl) ?_
              refine lv_iconst (v := 0) hx hb dX4_binomial_102 (by decide) ?_
              refine hm_calli (va_runV (As := [.int 0]) (rest := []) ⟨hx, hb, hml, hown, hts⟩ (c_X4_keep l E (v := v) (z := (v : Int)) (g := 0) hk hv2 (show _ = _ from by rw [if_pos rfl]) H.size) (cwV 1 hts (hm_gV kw_549 kw_551 kw_19 kw_41 kw_552) rfl rfl rfl (by decide +kernel) ⟨Nat.le_of_ble_eq_true rfl, Nat.le_of_ble_eq_true rfl⟩) (hm_preV hK hV (md_x hk) rfl) rfl rfl hl.1 rfl (lv_room (Nat.le_of_ble_eq_true rfl)) dX4_binomial_103 ⟨Nat.le_of_ble_eq_true rfl, Nat.le_of_ble_eq_true rfl⟩) hV hA (fun r103 M1 H locs hp hV => ?_)
              obtain ⟨cnt1, nums1, hkp, hk⟩ := hp
              have hkp2 : kp cnt nums (some ((bc n f0 : Nat) : Int)) r103 cnt1 nums1 := by
                rcases (show v = bc n f0 ∨ (bigN ≤ v ∧ bigN ≤ bc n f0) from hz) with h9 | h9
                · rw [← h9]; exact hkp
                · exact kp_wide hkp (by rw [Int.natAbs_natCast]; exact h9.1) (by rw [Int.natAbs_natCast]; exact h9.2)
              rw [hQf]
              exact W.iret hx hb hr (fun t9 ht hW => ⟨⟨_, M1, rfl, ⟨cnt1, nums1, hkp2, _, _, _, _, hk⟩, (hm_end hV ht).1⟩, (hm_end hV ht).2⟩) hV.2.2.2.2 dX4_binomial_106
            refine lv_istore_n (lv' := [(3, .int (nI f0)), (0, .ref (A 0)), (1, .int (nI n)), (2, .int (nI kk))]) hx hb dX4_binomial_50 rfl hl (by decide) rfl (fun ls hl => ?_)
            refine lv_iconst (v := 1) hx hb dX4_binomial_51 (by decide) ?_
            refine lv_istore (lv' := [(4, .int 1), (3, .int (nI f0)), (0, .ref (A 0)), (1, .int (nI n)), (2, .int (nI kk))]) hx hb dX4_binomial_52 hl (by decide) rfl (fun ls hl => ?_)
            have loop : ∀ (fu : Nat) (N : hm_M) (i : Nat), (i ≤ f0) → (md E N A 0 cnt (sg (bc (D + i) i)) ko nums t (fun j => nI (dg (bc (D + i) i) j)) O) → (bc (D + i) i < 65536 ^ 220) → f0 - i < fu → ∀ (ls : Array Slot) (H : Heap) (locs : List Loc), lv_has ls 5 [(0, .ref (A 0)), (1, .int (nI n)), (2, .int (nI kk)), (3, .int (nI f0)), (4, .int (nI (i + 1)))] → hm_V E.1 vwCl (hm_A M sz) s.heap (N) H locs → W p l e rm_X4_binomial s m [.ref (A 0), .int (nI n), .int (nI kk)].toArray below meth c H locs 0 0 Qf (F0 m 54 ls []) := by
              intro fu
              induction fu with
              | zero => intro N i hi hk hv2 hfu; exact absurd hfu (Nat.not_lt_zero _)
              | succ fu ih_loop =>
                intro N i hi hk hv2 hfu ls H locs hl hV
                refine lv_iload hx hb dX4_binomial_54 (lv_at hl 4 rfl) ?_
                refine lv_iload_n hx hb dX4_binomial_56 rfl (lv_at hl 3 rfl) ?_
                refine lv_icmp_gt (tgt := 101) hx hb dX4_binomial_57 (by decide) (fun c57 => ?_) (fun c57 => ?_)
                · have hif : i = f0 := by
                    have := (nI_ltI (by omega) (by omega)).mp c57
                    omega
                  exact fin _ _ hk hv2 (Or.inl (by rw [hif, hDn])) ls H locs (lv_sub hl [0] rfl) hV
                · have hif : i < f0 := by
                    rcases Nat.lt_or_ge f0 (i + 1) with q | q
                    · exact absurd (nI_lt q (by omega)) c57
                    · omega
                  have hpos := bc_pos (n := D + i) (k := i) (by omega)
                  have hsg := sg_220 (bc (D + i) i)
                  have hsg0 : sg (bc (D + i) i) ≠ 0 := fun h9 => by have := (sg_0 hv2).mp h9; omega
                  refine lv_aload_n hx hb dX4_binomial_60 rfl (lv_at hl 0 rfl) ?_
                  refine hm_get (ci := 6) (v := .int (nI (sg (bc (D + i) i)))) (C := RX4) (T := TX4) (N := 16) hx hb hws kin_X4 hown hK.1 hV (md_x hk) rfl 7 (by decide) fl64 (fun _ h9 => h9) rfl dX4_binomial_61 ?_
                  refine lv_if_le (tgt := 101) hx hb dX4_binomial_64 (by decide) (fun c64 => ?_) (fun c64 => ?_)
                  · exact absurd c64 (nI_nle (by omega) (by omega))
                  · refine lv_aload_n hx hb dX4_binomial_67 rfl (lv_at hl 0 rfl) ?_
                    refine hm_calli (va_runV (As := []) (rest := []) ⟨hx, hb, hml, hown, hts⟩ (c_X4_isTooWide l E hk (sg_220 _) H.size) (cwV 0 hts (hm_gV kw_553 kw_555 kw_20 kw_41 kw_556) rfl rfl rfl (by decide +kernel) ⟨Nat.le_of_ble_eq_true rfl, Nat.le_of_ble_eq_true rfl⟩) (hm_preV hK hV (md_x hk) rfl) rfl rfl hl.1 rfl (lv_room (Nat.le_of_ble_eq_true rfl)) dX4_binomial_68 ⟨Nat.le_of_ble_eq_true rfl, Nat.le_of_ble_eq_true rfl⟩) hV hA (fun r68 M1 H locs hp hV => ?_)
                    obtain ⟨hr68, hM1⟩ := hp
                    rw [← hM1] at hk
                    refine lv_if_ne (tgt := 101) hx hb dX4_binomial_71 (by decide) (fun c71 => ?_) (fun c71 => ?_)
                    · have hw : bigN ≤ bc (D + i) i := by
                        rcases hr68 with h9 | h9
                        · exact absurd h9.1 c71
                        · exact big_sg hv2 h9.2
                      exact fin _ _ hk hv2 (Or.inr ⟨hw, Nat.le_trans hw (by
                        obtain ⟨d9, hd9⟩ : ∃ d9, f0 = i + d9 := ⟨f0 - i, by omega⟩
                        rw [← hDn, hd9]; exact bc_diag)⟩) ls H locs (lv_sub hl [0] rfl) hV
                    · have hw : bc (D + i) i < bigN := by
                        rcases hr68 with h9 | h9
                        · exact sg_big hv2 h9.2
                        · rw [h9.1] at c71; exact absurd c71 (by decide)
                      obtain ⟨hst1, hst2⟩ := bc_step D i
                      have hv3 : bc (D + i) i * (D + (i + 1)) < 65536 ^ 220 := Nat.lt_of_lt_of_le (s_mul1 (n := 100) (D + (i + 1)) hw (by omega)) (w16_le (by decide))
                      refine lv_aload_n hx hb dX4_binomial_74 rfl (lv_at hl 0 rfl) ?_
                      refine lv_iload_n hx hb dX4_binomial_75 rfl (lv_at hl 1 rfl) ?_
                      refine lv_iload_n hx hb dX4_binomial_76 rfl (lv_at hl 3 rfl) ?_
                      refine lv_isub hx hb dX4_binomial_77 ?_
                      refine hm_topi (show ((nI n) - (nI f0)) = nI D from by rw [pk_sub (by omega), ← hD]) ?_
                      refine lv_iload hx hb dX4_binomial_78 (lv_at hl 4 rfl) ?_
                      refine lv_iadd hx hb dX4_binomial_80 ?_
                      refine hm_topi (show ((nI D) + (nI (i + 1))) = nI (D + (i + 1)) from nI_add _ _) ?_
                      refine hm_callv (va_runV (As := [.int (nI (D + (i + 1)))]) (rest := []) ⟨hx, hb, hml, hown, hts⟩ (c_X4_multiplyBy l E (f0 := D + (i + 1)) hk hw (by omega) H.size) (cwV 1 hts (hm_gV kw_619 kw_621 kw_31 kw_41 kw_622) rfl rfl rfl (by decide +kernel) ⟨Nat.le_of_ble_eq_true rfl, Nat.le_of_ble_eq_true rfl⟩) (hm_preV hK hV (md_x hk) rfl) rfl rfl hl.1 rfl (lv_room (Nat.le_of_ble_eq_true rfl)) dX4_binomial_81 ⟨Nat.le_of_ble_eq_true rfl, Nat.le_of_ble_eq_true rfl⟩) hV hA (fun M1 H locs hp hV => ?_)
                      have hk := hp
                      refine lv_aload_n hx hb dX4_binomial_84 rfl (lv_at hl 0 rfl) ?_
                      refine lv_iload hx hb dX4_binomial_85 (lv_at hl 4 rfl) ?_
                      refine hm_calli (va_runV (As := [.int (nI (i + 1))]) (rest := []) ⟨hx, hb, hml, hown, hts⟩ (c_X4_divideBy l E (q := i + 1) hk hv3 (by omega) (by omega) H.size) (cwV 1 hts (hm_gV kw_623 kw_625 kw_32 kw_41 kw_626) rfl rfl rfl (by decide +kernel) ⟨Nat.le_of_ble_eq_true rfl, Nat.le_of_ble_eq_true rfl⟩) (hm_preV hK hV (md_x hk) rfl) rfl rfl hl.1 rfl (lv_room (Nat.le_of_ble_eq_true rfl)) dX4_binomial_87 ⟨Nat.le_of_ble_eq_true rfl, Nat.le_of_ble_eq_true rfl⟩) hV hA (fun r87 M1 H locs hp hV => ?_)
                      obtain ⟨hr87, hk⟩ := hp
                      rw [hst1] at hr87
                      rw [hst2] at hk
                      refine lv_if_eq (tgt := 95) hx hb dX4_binomial_90 (by decide) (fun c90 => ?_) (fun c90 => ?_)
                      · refine lv_iinc (v := (nI (i + 1 + 1))) (lv' := [(4, .int (nI (i + 1 + 1))), (0, .ref (A 0)), (1, .int (nI n)), (2, .int (nI kk)), (3, .int (nI f0))]) hx hb dX4_binomial_95 hl (k := 4) rfl (nI_1 (i + 1)) (by decide) rfl (fun ls hl => ?_)
                        refine lv_goto (tgt := 54) hx hb dX4_binomial_98 (by decide) ?_
                        exact ih_loop _ (i + 1) (by omega) hk (by rw [← hst2]; exact Nat.lt_of_le_of_lt (Nat.div_le_self _ _) hv3) (by omega) ls H locs (lv_sub hl [1, 2, 3, 4, 0] rfl) hV
                      · exact absurd hr87 c90
            exact loop (f0 + 1) _ 0 (Nat.zero_le _) (by rw [show bc (D + 0) 0 = 1 from bc_0 _]; exact hk) (by rw [show bc (D + 0) 0 = 1 from bc_0 _]; decide +kernel) (by omega) ls H locs (lv_sub hl [2, 3, 4, 1, 0] rfl) hV
          refine lv_iload_n hx hb dX4_binomial_36 rfl (lv_at hl 2 rfl) ?_
          refine lv_iload_n hx hb dX4_binomial_37 rfl (lv_at hl 1 rfl) ?_
          refine lv_iload_n hx hb dX4_binomial_38 rfl (lv_at hl 2 rfl) ?_
          refine lv_isub hx hb dX4_binomial_39 ?_
          refine hm_topi (show ((nI n) - (nI kk)) = nI (n - kk) from pk_sub hkn) ?_
          refine lv_icmp_ge (tgt := 47) hx hb dX4_binomial_40 (by decide) (fun c40 => ?_) (fun c40 => ?_)
          · have hle : n - kk ≤ kk := (nI_leI (by omega) (by omega)).mp c40
            refine lv_iload_n hx hb dX4_binomial_47 rfl (lv_at hl 1 rfl) ?_
            refine lv_iload_n hx hb dX4_binomial_48 rfl (lv_at hl 2 rfl) ?_
            refine lv_isub hx hb dX4_binomial_49 ?_
            refine hm_topi (show ((nI n) - (nI kk)) = nI (n - kk) from pk_sub hkn) ?_
            exact few (n - kk) (Or.inr rfl) (by omega) ls H locs (lv_sub hl [0, 1, 2] rfl) hV
          · have hle : kk ≤ n - kk := by
              rcases Nat.lt_or_ge kk (n - kk) with q | q
              · omega
              · exact absurd (nI_le q (by omega)) c40
            refine lv_iload_n hx hb dX4_binomial_43 rfl (lv_at hl 2 rfl) ?_
            refine lv_goto (tgt := 50) hx hb dX4_binomial_44 (by decide) ?_
            exact few kk (Or.inl rfl) (by omega) ls H locs (lv_sub hl [0, 1, 2] rfl) hV
        · exact zero (Or.inr (Int32.not_le.mp c25)) ls H locs (lv_sub hl [0, 1, 2] rfl) hV
    · exact no (Or.inr (Int32.not_le.mp c13)) ls H locs (lv_sub hl [0, 1, 2] rfl) hV

abbrev wd_X4_power : List Cond := .code yX4_power cX4_power 5 (some .int) :: hm_ws
abbrev rm_X4_power : Room := { frames := 2, cells := 0, slots := 0, locals := 47 }

set_option maxHeartbeats 4000000 in
set_option maxRecDepth 100000 in
/-- power(a, n) -/
theorem c_X4_power (l : Launch) (E : hm_E) {M : hm_M} {A : Nat → Nat} {th : Int32} {cnt k ko : Nat} {nums : Nat → Int} {t : Nat → Nat → Int64} {X O : Nat → Int32} {a b : Int32} (hk : md E M A th cnt k ko nums t X O)  : hm_Ci l E yX4_power wd_X4_power rm_X4_power [.ref (A 0), .int a, .int b] M (fun r M1 => (¬ (kn cnt a ∧ kn cnt a) ∧ r = 0 ∧ mq E M1 A 1 cnt nums t) ∨ (∃ i, i < cnt ∧ a = nI i ∧ ∃ cnt1 nums1, kp cnt nums (spP (nums i) b) r cnt1 nums1 ∧ mq E M1 A 0 cnt1 nums1 t)) := by
  intro sz
  refine Met.ofW (cc := cX4_power) (maxL := 5) (ret := (some .int)) (by decide) rfl ?_
  intro p e s m args below meth c s₁ B hml hv
  obtain ⟨rfl, hAe, hA, hK, hV⟩ := hm_start hv
  have hx := B.exec
  have hb := B.bytes
  have hr := B.returns
  have hts := atoms_spec (ws := wd_X4_power) B.pre
  have hws : ∀ w ∈ hm_ws, w.before _ s = true := fun w h => hts w (List.mem_cons_of_mem _ h)
  have hown : s.vm.findClass RX4 = some m.cls := findClass_of_methodNamed B.named
  have hlocks := B.notSynchronized
  have fl13 := hws _ kw_482
  have fl24 := hws _ kw_485
  have fl16 := hws _ kw_483
  have ld120 := hws _ kw_614
  have hl := lv_entry ([.ref (A 0), .int a, .int b]) (n := 5) (Nat.le_of_ble_eq_true rfl)
  rw [lg_entry_eq]
  generalize (lg_sl ([.ref (A 0), .int a, .int b]) ++ List.replicate (5 - (lg_sl ([.ref (A 0), .int a, .int b])).length) Slot.unset).toArray = ls at hl ⊢
  have hl : lv_has ls 5 [(0, .ref (A 0)), (1, .int a), (2, .int b)] := hl
  refine hm_gen (rm := rm_X4_power) rfl (fun Qf hQf => ?_)
  refine lv_aload_n hx hb dX4_power_0 rfl (lv_at hl 0 rfl) ?_
  refine lv_iload_n hx hb dX4_power_1 rfl (lv_at hl 1 rfl) ?_
  refine lv_iload_n hx hb dX4_power_2 rfl (lv_at hl 1 rfl) ?_
  refine hm_calli (va_runV (As := [.int a, .int a]) (rest := []) ⟨hx, hb, hml, hown, hts⟩ (c_X4_areKnown l E hk s.heap.size) (cwV 2 hts (hm_gV kw_561 kw_563 kw_21 kw_41 kw_564) rfl rfl rfl (by decide +kernel) ⟨Nat.le_of_ble_eq_true rfl, Nat.le_of_ble_eq_true rfl⟩) (hm_preV hK hV (md_x hk) rfl) rfl rfl hl.1 rfl (lv_room (Nat.le_of_ble_eq_true rfl)) dX4_power_3 ⟨Nat.le_of_ble_eq_true rfl, Nat.le_of_ble_eq_true rfl⟩) hV hA (fun r3 M1 H locs hp hV => ?_)
  refine lv_if_ne (tgt := 11) hx hb dX4_power_6 (by decide) (fun c6 => ?_) (fun c6 => ?_)
  · have hp2 : kn cnt a ∧ kn cnt a ∧ md E M1 A 0 cnt k ko nums t X O := by
      rcases hp with h9 | h9
      · exact h9.2
      · exact absurd h9.1 c6
    obtain ⟨⟨ia, hia, rfl⟩, hkb, hk⟩ := hp2
    have hcn := md_c hk
    have hl : lv_has ls 5 [(0, .ref (A 0)), (1, .int (nI ia)), (2, .int b)] := hl
    have no : (b < 0 ∨ 1000000 < b) → ∀ (ls : Array Slot) (H : Heap) (locs : List Loc), lv_has ls 5 [(0, .ref (A 0)), (1, .int (nI ia)), (2, .int b)] → hm_V E.1 vwCl (hm_A M sz) s.heap (M1) H locs → W p l e rm_X4_power s m [.ref (A 0), .int (nI ia), .int b].toArray below meth c H locs 0 0 Qf (F0 m 21 ls []) := by
      intro  hno ls H locs hl hV
      have hsp : ∀ y, spP y b = none := fun y => if_pos hno
      refine lv_iconst (v := (-1)) hx hb dX4_power_21 (by decide) ?_
      rw [hQf]
      exact W.iret hx hb hr (fun t9 ht hW => ⟨⟨_, M1, rfl, Or.inr ⟨ia, hia, rfl, cnt, nums, by rw [hsp]; exact kp_none, _, _, _, _, hk⟩, (hm_end hV ht).1⟩, (hm_end hV ht).2⟩) hV.2.2.2.2 dX4_power_22
    refine lv_iload_n hx hb dX4_power_11 rfl (lv_at hl 2 rfl) ?_
    refine lv_if_lt (tgt := 21) hx hb dX4_power_12 (by decide) (fun c12 => ?_) (fun c12 => ?_)
    · exact no (Or.inl c12) ls H locs (lv_sub hl [0, 1, 2] rfl) hV
    · refine lv_iload_n hx hb dX4_power_15 rfl (lv_at hl 2 rfl) ?_
      refine lv_ldc (v := 1000000) hx hb hown ld120 dX4_power_16 ?_
      refine lv_icmp_le (tgt := 23) hx hb dX4_power_18 (by decide) (fun c18 => ?_) (fun c18 => ?_)
      · obtain ⟨n, hnn, rfl⟩ := nI_of2 (M := 1000000) (n := 1000000) rfl c12 c18
        have hl : lv_has ls 5 [(0, .ref (A 0)), (1, .int (nI ia)), (2, .int (nI n))] := hl
        refine lv_aload_n hx hb dX4_power_23 rfl (lv_at hl 0 rfl) ?_
        refine lv_iload_n hx hb dX4_power_24 rfl (lv_at hl 1 rfl) ?_
        refine hm_callv (va_runV (As := [.int (nI ia)]) (rest := []) ⟨hx, hb, hml, hown, hts⟩ (c_X4_load l E hk hia H.size) (cwV 1 hts (hm_gV kw_569 kw_571 kw_23 kw_41 kw_572) rfl rfl rfl (by decide +kernel) ⟨Nat.le_of_ble_eq_true rfl, Nat.le_of_ble_eq_true rfl⟩) (hm_preV hK hV (md_x hk) rfl) rfl rfl hl.1 rfl (lv_room (Nat.le_of_ble_eq_true rfl)) dX4_power_25 ⟨Nat.le_of_ble_eq_true rfl, Nat.le_of_ble_eq_true rfl⟩) hV hA (fun M1 H locs hp hV => ?_)
        have hk := hp
        obtain ⟨L, S, Bl, hL, hS, hB3, hn⟩ := md_n hk
        obtain ⟨hwa, hSa, hBa, -⟩ := hn.1 ia (by omega)
        have hone := one_sg hwa
        have hsg := sg_220 (nums ia).natAbs
        have hd0 := dg_lt (nums ia).natAbs 0
        have e1 : ∀ (N : hm_M) (v : Nat) (k9 : Nat) (ko : Nat) (O : Nat → Int32), (md E N A 0 cnt (sg v) ko nums t (fun j => nI (dg v j)) O) → (v < 65536 ^ 220) → (hid (v = (nums ia).natAbs ^ n ∨ (bigN ≤ v ∧ bigN ≤ (nums ia).natAbs ^ n))) → ∀ (ls : Array Slot) (H : Heap) (locs : List Loc), lv_has ls 5 [(0, .ref (A 0)), (1, .int (nI ia)), (2, .int (nI n))] → hm_V E.1 vwCl (hm_A M sz) s.heap (N) H locs → W p l e rm_X4_power s m [.ref (A 0), .int (nI ia), .int (nI n)].toArray below meth c H locs 0 0 Qf (F0 m 80 ls []) := by
          intro N v k9 ko O hk hv2 hz ls H locs hl hV
          clear hn hBa hL hS hB3 hSa
          obtain ⟨L, S, Bl, hL, hS, hB3, hn⟩ := md_n hk
          obtain ⟨-, -, hBa, -⟩ := hn.1 ia hia
          have e1k : ∀ (g : Int32), ((g = 0 ∧ ¬ (nums ia < 0 ∧ n % 2 = 1)) ∨ (g = 1 ∧ (nums ia < 0 ∧ n % 2 = 1))) → ∀ (ls : Array Slot) (H : Heap) (locs : List Loc), lv_has ls 5 [(0, .ref (A 0)), (1, .int (nI ia)), (2, .int (nI n))] → hm_V E.1 vwCl (hm_A M sz) s.heap (N) H locs → W p l e rm_X4_power s m [.ref (A 0), .int (nI ia), .int (nI n)].toArray below meth c H locs 0 0 Qf (F0 m 102 ls [.int g, .ref (A 0)]) := by
            intro g hg ls H locs hl hV
            refine hm_calli (va_runV (As := [.int g]) (rest := []) ⟨hx, hb, hml, hown, hts⟩ (c_X4_keep l E (v := v) (z := if g = 0 then (v : Int) else -(v : Int)) (g := g) hk hv2 (show _ = _ from rfl) H.size) (cwV 1 hts (hm_gV kw_549 kw_551 kw_19 kw_41 kw_552) rfl rfl rfl (by decide +kernel) ⟨Nat.le_of_ble_eq_true rfl, Nat.le_of_ble_eq_true rfl⟩) (hm_preV hK hV (md_x hk) rfl) rfl rfl hl.1 rfl (lv_room (Nat.le_of_ble_eq_true rfl)) dX4_power_102 ⟨Nat.le_of_ble_eq_true rfl, Nat.le_of_ble_eq_true rfl⟩) hV hA (fun r102 M1 H locs hp hV => ?_)
            obtain ⟨cnt1, nums1, hkp, hk⟩ := hp
            have hkp2 : kp cnt nums (spP (nums ia) (nI n)) r102 cnt1 nums1 := by
              rw [spP_n hnn]
              rcases (show v = (nums ia).natAbs ^ n ∨ (bigN ≤ v ∧ bigN ≤ (nums ia).natAbs ^ n) from hz) with h9 | h9
              · rw [pw_z hg h9]; exact hkp
              · exact kp_wide hkp (by split <;> omega) (by rw [pw_abs]; exact h9.2)
            rw [hQf]
            exact W.iret hx hb hr (fun t9 ht hW => ⟨⟨_, M1, rfl, Or.inr ⟨ia, hia, rfl, cnt1, nums1, hkp2, _, _, _, _, hk⟩, (hm_end hV ht).1⟩, (hm_end hV ht).2⟩) hV.2.2.2.2 dX4_power_105
          refine lv_aload_n hx hb dX4_power_80 rfl (lv_at hl 0 rfl) ?_
          refine lv_aload_n hx hb dX4_power_81 rfl (lv_at hl 0 rfl) ?_
          refine hm_get (ci := 6) (v := .ref (A 3)) (C := RX4) (T := TX4) (N := 16) hx hb hws kin_X4 hown hK.1 hV (md_x hk) rfl 4 (by decide) fl16 (fun _ h9 => h9) rfl dX4_power_82 ?_
          refine lv_iload_n hx hb dX4_power_85 rfl (lv_at hl 1 rfl) ?_
          refine hm_zaldN hx hb hK.1 hV 2 hB3 rfl (k := ia) (by omega) (by omega) dX4_power_86 ?_
          refine lv_if_eq (tgt := 101) hx hb dX4_power_87 (by decide) (fun c87 => ?_) (fun c87 => ?_)
          · have hng : ¬ nums ia < 0 := fun h9 => by rw [hBa, if_pos h9] at c87; exact absurd c87 (by decide)
            refine lv_iconst (v := 0) hx hb dX4_power_101 (by decide) ?_
            exact e1k 0 (Or.inl ⟨rfl, fun h9 => hng h9.1⟩) ls H locs (lv_sub hl [0, 1, 2] rfl) hV
          · have hng : nums ia < 0 := Classical.byContradiction (fun h9 => c87 (by rw [hBa, if_neg h9]))
            refine lv_iload_n hx hb dX4_power_90 rfl (lv_at hl 2 rfl) ?_
            refine lv_iconst (v := 2) hx hb dX4_power_91 (by decide) ?_
            refine lv_irem hx hb dX4_power_92 (by decide) ?_
            refine hm_topi (show ((nI n) - (nI n) / 2 * 2) = nI (n % 2) from nI_rem2 (by omega)) ?_
            refine lv_iconst (v := 1) hx hb dX4_power_93 (by decide) ?_
            refine lv_icmp_ne (tgt := 101) hx hb dX4_power_94 (by decide) (fun c94 => ?_) (fun c94 => ?_)
            · refine lv_iconst (v := 0) hx hb dX4_power_101 (by decide) ?_
              exact e1k 0 (Or.inl ⟨rfl, fun h9 => c94 (by rw [h9.2]; rfl)⟩) ls H locs (lv_sub hl [0, 1, 2] rfl) hV
            · refine lv_iconst (v := 1) hx hb dX4_power_97 (by decide) ?_
              refine lv_goto (tgt := 102) hx hb dX4_power_98 (by decide) ?_
              exact e1k 1 (Or.inr ⟨rfl, hng, (nI_eq (b := 1) (by omega) (by omega)).mp c94⟩) ls H locs (lv_sub hl [0, 1, 2] rfl) hV
        have e2 : ∀ (N : hm_M) (v : Nat) (k9 : Nat) (ko : Nat) (O : Nat → Int32), (md E N A 0 cnt (sg v) ko nums t (fun j => nI (dg v j)) O) → (v < 65536 ^ 220) → (hid (v = (nums ia).natAbs ^ n ∨ (bigN ≤ v ∧ bigN ≤ (nums ia).natAbs ^ n))) → ∀ (ls : Array Slot) (H : Heap) (locs : List Loc), lv_has ls 5 [(0, .ref (A 0)), (1, .int (nI ia)), (2, .int (nI n))] → hm_V E.1 vwCl (hm_A M sz) s.heap (N) H locs → W p l e rm_X4_power s m [.ref (A 0), .int (nI ia), .int (nI n)].toArray below meth c H locs 0 0 Qf (F0 m 137 ls []) := by
          intro N v k9 ko O hk hv2 hz ls H locs hl hV
          clear hn hBa hL hS hB3 hSa
          obtain ⟨L, S, Bl, hL, hS, hB3, hn⟩ := md_n hk
          obtain ⟨-, -, hBa, -⟩ := hn.1 ia hia
          have e2k : ∀ (g : Int32), ((g = 0 ∧ ¬ (nums ia < 0 ∧ n % 2 = 1)) ∨ (g = 1 ∧ (nums ia < 0 ∧ n % 2 = 1))) → ∀ (ls : Array Slot) (H : Heap) (locs : List Loc), lv_has ls 5 [(0, .ref (A 0)), (1, .int (nI ia)), (2, .int (nI n))] → hm_V E.1 vwCl (hm_A M sz) s.heap (N) H locs → W p l e rm_X4_power s m [.ref (A 0), .int (nI ia), .int (nI n)].toArray below meth c H locs 0 0 Qf (F0 m 159 ls [.int g, .ref (A 0)]) := by
            intro g hg ls H locs hl hV
            refine hm_calli (va_runV (As := [.int g]) (rest := []) ⟨hx, hb, hml, hown, hts⟩ (c_X4_keep l E (v := v) (z := if g = 0 then (v : Int) else -(v : Int)) (g := g) hk hv2 (show _ = _ from rfl) H.size) (cwV 1 hts (hm_gV kw_549 kw_551 kw_19 kw_41 kw_552) rfl rfl rfl (by decide +kernel) ⟨Nat.le_of_ble_eq_true rfl, Nat.le_of_ble_eq_true rfl⟩) (hm_preV hK hV (md_x hk) rfl) rfl rfl hl.1 rfl (lv_room (Nat.le_of_ble_eq_true rfl)) dX4_power_159 ⟨Nat.le_of_ble_eq_true rfl, Nat.le_of_ble_eq_true rfl⟩) hV hA (fun r159 M1 H locs hp hV => ?_)
            obtain ⟨cnt1, nums1, hkp, hk⟩ := hp
            have hkp2 : kp cnt nums (spP (nums ia) (nI n)) r159 cnt1 nums1 := by
              rw [spP_n hnn]
              rcases (show v = (nums ia).natAbs ^ n ∨ (bigN ≤ v ∧ bigN ≤ (nums ia).natAbs ^ n) from hz) with h9 | h9
              · rw [pw_z hg h9]; exact hkp
              · exact kp_wide hkp (by split <;> omega) (by rw [pw_abs]; exact h9.2)
            rw [hQf]
            exact W.iret hx hb hr (fun t9 ht hW => ⟨⟨_, M1, rfl, Or.inr ⟨ia, hia, rfl, cnt1, nums1, hkp2, _, _, _, _, hk⟩, (hm_end hV ht).1⟩, (hm_end hV ht).2⟩) hV.2.2.2.2 dX4_power_162
          refine lv_aload_n hx hb dX4_power_137 rfl (lv_at hl 0 rfl) ?_
          refine lv_aload_n hx hb dX4_power_138 rfl (lv_at hl 0 rfl) ?_
          refine hm_get (ci := 6) (v := .ref (A 3)) (C := RX4) (T := TX4) (N := 16) hx hb hws kin_X4 hown hK.1 hV (md_x hk) rfl 4 (by decide) fl16 (fun _ h9 => h9) rfl dX4_power_139 ?_
          refine lv_iload_n hx hb dX4_power_142 rfl (lv_at hl 1 rfl) ?_
          refine hm_zaldN hx hb hK.1 hV 2 hB3 rfl (k := ia) (by omega) (by omega) dX4_power_143 ?_
          refine lv_if_eq (tgt := 158) hx hb dX4_power_144 (by decide) (fun c144 => ?_) (fun c144 => ?_)
          · have hng : ¬ nums ia < 0 := fun h9 => by rw [hBa, if_pos h9] at c144; exact absurd c144 (by decide)
            refine lv_iconst (v := 0) hx hb dX4_power_158 (by decide) ?_
            exact e2k 0 (Or.inl ⟨rfl, fun h9 => hng h9.1⟩) ls H locs (lv_sub hl [0, 1, 2] rfl) hV
          · have hng : nums ia < 0 := Classical.byContradiction (fun h9 => c144 (by rw [hBa, if_neg h9]))
            refine lv_iload_n hx hb dX4_power_147 rfl (lv_at hl 2 rfl) ?_
            refine lv_iconst (v := 2) hx hb dX4_power_148 (by decide) ?_
            refine lv_irem hx hb dX4_power_149 (by decide) ?_
            refine hm_topi (show ((nI n) - (nI n) / 2 * 2) = nI (n % 2) from nI_rem2 (by omega)) ?_
            refine lv_iconst (v := 1) hx hb dX4_power_150 (by decide) ?_
            refine lv_icmp_ne (tgt := 158) hx hb dX4_power_151 (by decide) (fun c151 => ?_) (fun c151 => ?_)
            · refine lv_iconst (v := 0) hx hb dX4_power_158 (by decide) ?_
              exact e2k 0 (Or.inl ⟨rfl, fun h9 => c151 (by rw [h9.2]; rfl)⟩) ls H locs (lv_sub hl [0, 1, 2] rfl) hV
            · refine lv_iconst (v := 1) hx hb dX4_power_154 (by decide) ?_
              refine lv_goto (tgt := 159) hx hb dX4_power_155 (by decide) ?_
              exact e2k 1 (Or.inr ⟨rfl, hng, (nI_eq (b := 1) (by omega) (by omega)).mp c151⟩) ls H locs (lv_sub hl [0, 1, 2] rfl) hV
        have un : ∀ (y : Int32), ((y = 1 ∧ (nums ia).natAbs ≤ 1) ∨ (y = 0 ∧ ¬ (nums ia).natAbs ≤ 1)) → ∀ (ls : Array Slot) (H : Heap) (locs : List Loc), lv_has ls 5 [(0, .ref (A 0)), (1, .int (nI ia)), (2, .int (nI n))] → hm_V E.1 vwCl (hm_A M sz) s.heap (M1) H locs → W p l e rm_X4_power s m [.ref (A 0), .int (nI ia), .int (nI n)].toArray below meth c H locs 0 0 Qf (F0 m 62 ls [.int y]) := by
          intro y hy ls H locs hl hV
          have small : ((nums ia).natAbs ≤ 1 ∨ n = 0) → ∀ (ls : Array Slot) (H : Heap) (locs : List Loc), lv_has ls 5 [(0, .ref (A 0)), (1, .int (nI ia)), (2, .int (nI n))] → hm_V E.1 vwCl (hm_A M sz) s.heap (M1) H locs → W p l e rm_X4_power s m [.ref (A 0), .int (nI ia), .int (nI n)].toArray below meth c H locs 0 0 Qf (F0 m 71 ls []) := by
            intro  hs ls H locs hl hV
            refine lv_iload_n hx hb dX4_power_71 rfl (lv_at hl 2 rfl) ?_
            refine lv_if_ne (tgt := 80) hx hb dX4_power_72 (by decide) (fun c72 => ?_) (fun c72 => ?_)
            · have hn0 : n ≠ 0 := fun h9 => c72 (by rw [h9]; rfl)
              exact e1 _ _ 0 ko O hk (big220 hwa) (Or.inl (pw_unit (by omega) (by omega)).symm) ls H locs (lv_sub hl [0, 1, 2] rfl) hV
            · have hn0 : n = 0 := (nI_eq (b := 0) (by omega) (by omega)).mp c72
              refine lv_aload_n hx hb dX4_power_75 rfl (lv_at hl 0 rfl) ?_
              refine lv_lconst (v := 1) hx hb dX4_power_76 (by decide) ?_
              refine hm_callv (va_runV (As := [.long 1]) (rest := []) ⟨hx, hb, hml, hown, hts⟩ (c_X4_loadLong l E (v := 1) hk H.size) (cwV 1 hts (hm_gV kw_537 kw_539 kw_17 kw_41 kw_540) rfl rfl rfl (by decide +kernel) ⟨Nat.le_of_ble_eq_true rfl, Nat.le_of_ble_eq_true rfl⟩) (hm_preV hK hV (md_x hk) rfl) rfl rfl hl.1 rfl (lv_room (Nat.le_of_ble_eq_true rfl)) dX4_power_77 ⟨Nat.le_of_ble_eq_true rfl, Nat.le_of_ble_eq_true rfl⟩) hV hA (fun M1 H locs hp hV => ?_)
              have hk := hp
              rw [show (1 : Int64).toInt.natAbs = 1 from by decide] at hk
              exact e1 _ 1 0 ko O hk (by decide +kernel) (Or.inl (by rw [hn0, Nat.pow_zero])) ls H locs (lv_sub hl [0, 1, 2] rfl) hV
          refine lv_istore_n (lv' := [(3, .int y), (0, .ref (A 0)), (1, .int (nI ia)), (2, .int (nI n))]) hx hb dX4_power_62 rfl hl (by decide) rfl (fun ls hl => ?_)
          refine lv_iload_n hx hb dX4_power_63 rfl (lv_at hl 0 rfl) ?_
          refine lv_if_ne (tgt := 71) hx hb dX4_power_64 (by decide) (fun c64 => ?_) (fun c64 => ?_)
          · have h1 : (nums ia).natAbs ≤ 1 := by
              rcases hy with h9 | h9
              · exact h9.2
              · exact absurd h9.1 c64
            exact small (Or.inl h1) ls H locs (lv_sub hl [1, 2, 3] rfl) hV
          · have h1 : ¬ (nums ia).natAbs ≤ 1 := by
              rcases hy with h9 | h9
              · rw [h9.1] at c64; exact absurd c64 (by decide)
              · exact h9.2
            refine lv_iload_n hx hb dX4_power_67 rfl (lv_at hl 3 rfl) ?_
            refine lv_if_ne (tgt := 106) hx hb dX4_power_68 (by decide) (fun c68 => ?_) (fun c68 => ?_)
            · have hn0 : 0 < n := by
                rcases Nat.eq_zero_or_pos n with q | q
                · rw [q] at c68; exact absurd rfl c68
                · exact q
              refine lv_aload_n hx hb dX4_power_106 rfl (lv_at hl 1 rfl) ?_
              refine lv_iload_n hx hb dX4_power_107 rfl (lv_at hl 2 rfl) ?_
              refine hm_callv (va_runV (As := [.int (nI ia)]) (rest := []) ⟨hx, hb, hml, hown, hts⟩ (c_X4_loadOther l E hk hia H.size) (cwV 1 hts (hm_gV kw_573 kw_575 kw_24 kw_41 kw_576) rfl rfl rfl (by decide +kernel) ⟨Nat.le_of_ble_eq_true rfl, Nat.le_of_ble_eq_true rfl⟩) (hm_preV hK hV (md_x hk) rfl) rfl rfl hl.1 rfl (lv_room (Nat.le_of_ble_eq_true rfl)) dX4_power_108 ⟨Nat.le_of_ble_eq_true rfl, Nat.le_of_ble_eq_true rfl⟩) hV hA (fun M1 H locs hp hV => ?_)
              have hk := hp
              refine lv_iconst (v := 1) hx hb dX4_power_111 (by decide) ?_
              refine lv_istore (lv' := [(4, .int 1), (3, .int y), (0, .ref (A 0)), (1, .int (nI ia)), (2, .int (nI n))]) hx hb dX4_power_112 hl (by decide) rfl (fun ls hl => ?_)
              have loop : ∀ (fu : Nat) (N : hm_M) (j : Nat), (1 ≤ j) → (j ≤ n) → (md E N A 0 cnt (sg ((nums ia).natAbs ^ j)) (sg (nums ia).natAbs) nums t (fun b9 => nI (dg ((nums ia).natAbs ^ j) b9)) (fun j => nI (dg (nums ia).natAbs j))) → ((nums ia).natAbs ^ j < 65536 ^ 220) → n - j < fu → ∀ (ls : Array Slot) (H : Heap) (locs : List Loc), lv_has ls 5 [(0, .ref (A 0)), (1, .int (nI ia)), (2, .int (nI n)), (4, .int (nI j))] → hm_V E.1 vwCl (hm_A M sz) s.heap (N) H locs → W p l e rm_X4_power s m [.ref (A 0), .int (nI ia), .int (nI n)].toArray below meth c H locs 0 0 Qf (F0 m 114 ls []) := by
                intro fu
                induction fu with
                | zero => intro N j hj hjn hk hv2 hfu; exact absurd hfu (Nat.not_lt_zero _)
                | succ fu ih_loop =>
                  intro N j hj hjn hk hv2 hfu ls H locs hl hV
                  refine lv_iload hx hb dX4_power_114 (lv_at hl 3 rfl) ?_
                  refine lv_iload_n hx hb dX4_power_116 rfl (lv_at hl 2 rfl) ?_
                  refine lv_icmp_ge (tgt := 137) hx hb dX4_power_117 (by decide) (fun c117 => ?_) (fun c117 => ?_)
                  · have hjn2 : j = n := by
                      rcases Nat.lt_or_ge j n with q | q
                      · exact absurd c117 (nI_ge (a := j) (b := n) q (by omega))
                      · omega
                    exact e2 _ _ 0 _ _ hk hv2 (Or.inl (by rw [hjn2])) ls H locs (lv_sub hl [0, 1, 2] rfl) hV
                  · have hjn2 : j < n := by
                      rcases Nat.lt_or_ge j n with q | q
                      · exact q
                      · exact absurd (nI_le (a := n) (b := j) q (by omega)) c117
                    refine lv_aload_n hx hb dX4_power_120 rfl (lv_at hl 0 rfl) ?_
                    refine hm_calli (va_runV (As := []) (rest := []) ⟨hx, hb, hml, hown, hts⟩ (c_X4_isTooWide l E hk (sg_220 _) H.size) (cwV 0 hts (hm_gV kw_553 kw_555 kw_20 kw_41 kw_556) rfl rfl rfl (by decide +kernel) ⟨Nat.le_of_ble_eq_true rfl, Nat.le_of_ble_eq_true rfl⟩) (hm_preV hK hV (md_x hk) rfl) rfl rfl hl.1 rfl (lv_room (Nat.le_of_ble_eq_true rfl)) dX4_power_121 ⟨Nat.le_of_ble_eq_true rfl, Nat.le_of_ble_eq_true rfl⟩) hV hA (fun r121 M1 H locs hp hV => ?_)
                    obtain ⟨hr121, hM1⟩ := hp
                    rw [← hM1] at hk
                    refine lv_if_ne (tgt := 137) hx hb dX4_power_124 (by decide) (fun c124 => ?_) (fun c124 => ?_)
                    · have hw : bigN ≤ (nums ia).natAbs ^ j := by
                        rcases hr121 with h9 | h9
                        · exact absurd h9.1 c124
                        · exact big_sg hv2 h9.2
                      exact e2 _ _ 0 _ _ hk hv2 (Or.inr ⟨hw, pw_wide hjn hw⟩) ls H locs (lv_sub hl [0, 1, 2] rfl) hV
                    · have hw : (nums ia).natAbs ^ j < bigN := by
                        rcases hr121 with h9 | h9
                        · exact sg_big hv2 h9.2
                        · rw [h9.1] at c124; exact absurd c124 (by decide)
                      refine lv_aload_n hx hb dX4_power_127 rfl (lv_at hl 0 rfl) ?_
                      refine hm_callv (va_runV (As := []) (rest := []) ⟨hx, hb, hml, hown, hts⟩ (c_X4_multiply l E hk hw hwa H.size) (cwV 0 hts (hm_gV kw_594 kw_596 kw_28 kw_41 kw_597) rfl rfl rfl (by decide +kernel) ⟨Nat.le_of_ble_eq_true rfl, Nat.le_of_ble_eq_true rfl⟩) (hm_preV hK hV (md_x hk) rfl) rfl rfl hl.1 rfl (lv_room (Nat.le_of_ble_eq_true rfl)) dX4_power_128 ⟨Nat.le_of_ble_eq_true rfl, Nat.le_of_ble_eq_true rfl⟩) hV hA (fun M1 H locs hp hV => ?_)
                      have hk := hp
                      rw [← Nat.pow_succ] at hk
                      refine lv_iinc (v := (nI (j + 1))) (lv' := [(4, .int (nI (j + 1))), (0, .ref (A 0)), (1, .int (nI ia)), (2, .int (nI n))]) hx hb dX4_power_131 hl (k := 3) rfl (nI_1 j) (by decide) rfl (fun ls hl => ?_)
                      refine lv_goto (tgt := 114) hx hb dX4_power_134 (by decide) ?_
                      exact ih_loop _ (j + 1) (by omega) (by omega) hk (by rw [Nat.pow_succ]; exact Nat.lt_of_lt_of_le (mul_lt16 (show _ < 65536 ^ 100 from hw) (show _ < 65536 ^ 100 from hwa)) (w16_le (by decide))) (by omega) ls H locs (lv_sub hl [1, 2, 3, 0] rfl) hV
              exact loop (n + 1) _ 1 (by omega) (by omega) (by rw [Nat.pow_one]; exact hk) (by rw [Nat.pow_one]; exact big220 hwa) (by omega) ls H locs (lv_sub hl [2, 3, 4, 0] rfl) hV
            · have hn0 : n = 0 := (nI_eq (b := 0) (by omega) (by omega)).mp c68
              exact small (Or.inr hn0) ls H locs (lv_sub hl [1, 2, 3] rfl) hV
        refine lv_aload_n hx hb dX4_power_28 rfl (lv_at hl 0 rfl) ?_
        refine hm_get (ci := 6) (v := .ref (A 2)) (C := RX4) (T := TX4) (N := 16) hx hb hws kin_X4 hown hK.1 hV (md_x hk) rfl 3 (by decide) fl13 (fun _ h9 => h9) rfl dX4_power_29 ?_
        refine lv_iload_n hx hb dX4_power_32 rfl (lv_at hl 1 rfl) ?_
        refine hm_ialdN hx hb hK.1 hV 0 hS rfl (k := ia) (by omega) (by omega) dX4_power_33 ?_
        refine hm_topi (show (nI (S ia)) = nI (sg (nums ia).natAbs) from by rw [hSa]) ?_
        refine lv_if_eq (tgt := 57) hx hb dX4_power_34 (by decide) (fun c34 => ?_) (fun c34 => ?_)
        · have h0 : sg (nums ia).natAbs = 0 := (nI_eq (b := 0) (by omega) (by omega)).mp c34
          refine lv_iconst (v := 1) hx hb dX4_power_57 (by decide) ?_
          refine lv_goto (tgt := 62) hx hb dX4_power_58 (by decide) ?_
          exact un 1 (Or.inl ⟨rfl, hone.mp (Or.inl h0)⟩) ls H locs (lv_sub hl [0, 1, 2] rfl) hV
        · have h0 : sg (nums ia).natAbs ≠ 0 := fun h9 => c34 (by rw [h9]; rfl)
          refine lv_aload_n hx hb dX4_power_37 rfl (lv_at hl 0 rfl) ?_
          refine hm_get (ci := 6) (v := .ref (A 2)) (C := RX4) (T := TX4) (N := 16) hx hb hws kin_X4 hown hK.1 hV (md_x hk) rfl 3 (by decide) fl13 (fun _ h9 => h9) rfl dX4_power_38 ?_
          refine lv_iload_n hx hb dX4_power_41 rfl (lv_at hl 1 rfl) ?_
          refine hm_ialdN hx hb hK.1 hV 0 hS rfl (k := ia) (by omega) (by omega) dX4_power_42 ?_
          refine hm_topi (show (nI (S ia)) = nI (sg (nums ia).natAbs) from by rw [hSa]) ?_
          refine lv_iconst (v := 1) hx hb dX4_power_43 (by decide) ?_
          refine lv_icmp_ne (tgt := 61) hx hb dX4_power_44 (by decide) (fun c44 => ?_) (fun c44 => ?_)
          · have h1 : sg (nums ia).natAbs ≠ 1 := fun h9 => c44 (by rw [h9]; rfl)
            refine lv_iconst (v := 0) hx hb dX4_power_61 (by decide) ?_
            exact un 0 (Or.inr ⟨rfl, fun h9 => by rcases hone.mpr h9 with h8 | h8 <;> omega⟩) ls H locs (lv_sub hl [0, 1, 2] rfl) hV
          · have h1 : sg (nums ia).natAbs = 1 := (nI_eq (b := 1) (by omega) (by omega)).mp c44
            refine lv_aload_n hx hb dX4_power_47 rfl (lv_at hl 0 rfl) ?_
            refine hm_get (ci := 6) (v := .ref (A 5)) (C := RX4) (T := TX4) (N := 16) hx hb hws kin_X4 hown hK.1 hV (md_x hk) rfl 6 (by decide) fl24 (fun _ h9 => h9) rfl dX4_power_48 ?_
            refine lv_iconst (v := 0) hx hb dX4_power_51 (by decide) ?_
            refine hm_ialdN hx hb hK.1 hV 0 (md_w hk) rfl (k := 0) (by omega) (by omega) dX4_power_52 ?_
            refine lv_iconst (v := 1) hx hb dX4_power_53 (by decide) ?_
            refine lv_icmp_ne (tgt := 61) hx hb dX4_power_54 (by decide) (fun c54 => ?_) (fun c54 => ?_)
            · have h2 : dg (nums ia).natAbs 0 ≠ 1 := fun h9 => c54 (by rw [h9]; rfl)
              refine lv_iconst (v := 0) hx hb dX4_power_61 (by decide) ?_
              exact un 0 (Or.inr ⟨rfl, fun h9 => by rcases hone.mpr h9 with h8 | h8 <;> omega⟩) ls H locs (lv_sub hl [0, 1, 2] rfl) hV
            · have h2 : dg (nums ia).natAbs 0 = 1 := (nI_eq (b := 1) (by omega) (by omega)).mp c54
              refine lv_iconst (v := 1) hx hb dX4_power_57 (by decide) ?_
              refine lv_goto (tgt := 62) hx hb dX4_power_58 (by decide) ?_
              exact un 1 (Or.inl ⟨rfl, hone.mp (Or.inr ⟨h1, h2⟩)⟩) ls H locs (lv_sub hl [0, 1, 2] rfl) hV
      · exact no (Or.inr (Int32.not_le.mp c18)) ls H locs (lv_sub hl [0, 1, 2] rfl) hV
  · have hp2 : ¬ (kn cnt a ∧ kn cnt a) ∧ md E M1 A 1 cnt k ko nums t X O := by
      rcases hp with h9 | h9
      · rw [h9.1] at c6; exact absurd c6 (by decide)
      · exact h9.2
    obtain ⟨hkn, hk⟩ := hp2
    refine lv_iconst (v := 0) hx hb dX4_power_9 (by decide) ?_
    rw [hQf]
    exact W.iret hx hb hr (fun t9 ht hW => ⟨⟨_, M1, rfl, Or.inl ⟨hkn, rfl, _, _, _, _, hk⟩, (hm_end hV ht).1⟩, (hm_end hV ht).2⟩) hV.2.2.2.2 dX4_power_10
