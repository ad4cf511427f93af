abbrev wd_X4_value : List Cond := .code yX4_value cX4_value 3 (some .int) :: hm_ws
abbrev rm_X4_value : Room := { frames := 2, cells := 0, slots := 0, locals := 47 }

set_option maxHeartbeats 4000000 in
set_option maxRecDepth 100000 in
/-- value(v) -/
theorem c_X4_value (l : Launch) (E : hm_E) {M : hm_M} {A : Nat → Nat} {th : Int32} {cnt k ko : Nat} {nums : Nat → Int} {t : Nat → Nat → Int64} {X O : Nat → Int32} {v : Int64} (hk : md E M A th cnt k ko nums t X O)  : hm_Ci l E yX4_value wd_X4_value rm_X4_value [.ref (A 0), .long v] M (fun r M1 => ∃ cnt1 nums1, kp cnt nums (some v.toInt) r cnt1 nums1 ∧ mq E M1 A 0 cnt1 nums1 t) := by
  intro sz
  refine Met.ofW (cc := cX4_value) (maxL := 3) (ret := (some .int)) (by decide) rfl ?_
  intro p e s m args below meth c s₁ B hml hv
  obtain ⟨rfl, hAe, hA, hK, hV⟩ := hm_start hv
  have hx := B.exec
  have hb := B.bytes
  have hr := B.returns
  have hts := atoms_spec (ws := wd_X4_value) B.pre
  have hws : ∀ w ∈ hm_ws, w.before _ s = true := fun w h => hts w (List.mem_cons_of_mem _ h)
  have hown : s.vm.findClass RX4 = some m.cls := findClass_of_methodNamed B.named
  have hlocks := B.notSynchronized
  have fl49 := hws _ kw_479
  have hl := lv_entry ([.ref (A 0), .long v]) (n := 3) (Nat.le_of_ble_eq_true rfl)
  rw [lg_entry_eq]
  generalize (lg_sl ([.ref (A 0), .long v]) ++ List.replicate (3 - (lg_sl ([.ref (A 0), .long v])).length) Slot.unset).toArray = ls at hl ⊢
  have hl : lv_has ls 3 [(0, .ref (A 0)), (1, .long v)] := hl
  refine hm_gen (rm := rm_X4_value) rfl (fun Qf hQf => ?_)
  have hu := am_le v
  have hu2 : v.toInt.natAbs < 65536 ^ 220 := Nat.lt_of_lt_of_le (show v.toInt.natAbs < 65536 ^ 4 by omega) (w16_le (by decide))
  refine lv_aload_n hx hb dX4_value_0 rfl (lv_at hl 0 rfl) ?_
  refine lv_iconst (v := 0) hx hb dX4_value_1 (by decide) ?_
  refine hm_put (ci := 6) (v := .int 0) (ty := .int) (C := RX4) (T := TX4) (N := 16) hx hb hws kin_X4 tyX4 tyX4_ok nmX4 hown hK.1 hV (md_x hk) rfl 0 (by decide) fl49 (fun _ h9 => h9) rfl (by decide +kernel) rfl rfl (Nat.le_of_ble_eq_true rfl) dX4_value_2 (fun H locs hV => ?_)
  have hV : hm_V E.1 vwCl (hm_A M sz) s.heap (hm_up M (A 0) (.inr (6, [.int 0, .int (nI cnt), .ref (A 1), .ref (A 2), .ref (A 3), .ref (A 4), .ref (A 5), .int (nI k), .ref (A 6), .int (nI ko), .ref (A 7), .ref (A 8), .ref (A 9), .ref (A 10), .ref (A 11), .ref (A 12)]))) H locs := hV
  obtain ⟨N0, hN0⟩ : ∃ N9 : hm_M, N9 = hm_up M (A 0) (.inr (6, [.int 0, .int (nI cnt), .ref (A 1), .ref (A 2), .ref (A 3), .ref (A 4), .ref (A 5), .int (nI k), .ref (A 6), .int (nI ko), .ref (A 7), .ref (A 8), .ref (A 9), .ref (A 10), .ref (A 11), .ref (A 12)])) := ⟨_, rfl⟩
  have hk : md E (hm_up M (A 0) (.inr (6, [.int 0, .int (nI cnt), .ref (A 1), .ref (A 2), .ref (A 3), .ref (A 4), .ref (A 5), .int (nI k), .ref (A 6), .int (nI ko), .ref (A 7), .ref (A 8), .ref (A 9), .ref (A 10), .ref (A 11), .ref (A 12)]))) A 0 cnt k ko nums t X O := md_ux hk 0 k ko
  rw [← hN0] at hk hV
  refine lv_aload_n hx hb dX4_value_5 rfl (lv_at hl 0 rfl) ?_
  refine lv_lload_n hx hb dX4_value_6 rfl (lv_at hl 1 rfl) ?_
  refine hm_callv (va_runV (As := [.long v]) (rest := []) ⟨hx, hb, hml, hown, hts⟩ (c_X4_loadLong l E hk H.size) (cwV 1 hts (hm_gV kw_537 kw_539 kw_17 kw_41 kw_540) rfl rfl rfl (by decide +kernel) ⟨Nat.le_of_ble_eq_true rfl, Nat.le_of_ble_eq_true rfl⟩) (hm_preV hK hV (md_x hk) rfl) rfl rfl hl.1 rfl (lv_room (Nat.le_of_ble_eq_true rfl)) dX4_value_7 ⟨Nat.le_of_ble_eq_true rfl, Nat.le_of_ble_eq_true rfl⟩) hV hA (fun M1 H locs hp hV => ?_)
  have hk := hp
  refine lv_aload_n hx hb dX4_value_10 rfl (lv_at hl 0 rfl) ?_
  refine lv_lload_n hx hb dX4_value_11 rfl (lv_at hl 1 rfl) ?_
  refine lv_lconst (v := 0) hx hb dX4_value_12 (by decide) ?_
  refine W.lcmp hx hb dX4_value_13 ?_
  refine lv_if_ge (tgt := 21) hx hb dX4_value_14 (by decide) (fun c14 => ?_) (fun c14 => ?_)
  · have hv0 : 0 ≤ v.toInt := by have := Int64.le_iff_toInt_le.mp ((lg_cmp_ge v 0).mp c14); simpa using this
    refine lv_iconst (v := 0) hx hb dX4_value_21 (by decide) ?_
    refine hm_calli (va_runV (As := [.int 0]) (rest := []) ⟨hx, hb, hml, hown, hts⟩ (c_X4_keep l E (v := v.toInt.natAbs) (z := v.toInt) (g := 0) hk (hu2) (show _ = _ from by rw [if_pos rfl]; omega) H.size) (cwV 1 hts (hm_gV kw_549 kw_551 kw_19 kw_41 kw_552) rfl rfl rfl (by decide +kernel) ⟨Nat.le_of_ble_eq_true rfl, Nat.le_of_ble_eq_true rfl⟩) (hm_preV hK hV (md_x hk) rfl) rfl rfl hl.1 rfl (lv_room (Nat.le_of_ble_eq_true rfl)) dX4_value_22 ⟨Nat.le_of_ble_eq_true rfl, Nat.le_of_ble_eq_true rfl⟩) hV hA (fun r22 M1 H locs hp hV => ?_)
    obtain ⟨cnt1, nums1, hkp, hk⟩ := hp
    rw [hQf]
    exact W.iret hx hb hr (fun t9 ht hW => ⟨⟨_, M1, rfl, ⟨cnt1, nums1, hkp, _, _, _, _, hk⟩, (hm_end hV ht).1⟩, (hm_end hV ht).2⟩) hV.2.2.2.2 dX4_value_25
  · have hv0 : v.toInt < 0 := by
      have h8 : ¬ (0 : Int64) ≤ v := fun q => c14 ((lg_cmp_ge v 0).mpr q)
      have := Int64.lt_iff_toInt_lt.mp (Int64.not_le.mp h8); simpa using this
    refine lv_iconst (v := 1) hx hb dX4_value_17 (by decide) ?_
    refine lv_goto (tgt := 22) hx hb dX4_value_18 (by decide) ?_
    refine hm_calli (va_runV (As := [.int 1]) (rest := []) ⟨hx, hb, hml, hown, hts⟩ (c_X4_keep l E (v := v.toInt.natAbs) (z := v.toInt) (g := 1) hk (hu2) (show _ = _ from by rw [if_neg (by decide)]; omega) H.size) (cwV 1 hts (hm_gV kw_549 kw_551 kw_19 kw_41 kw_552) rfl rfl rfl (by decide +kernel) ⟨Nat.le_of_ble_eq_true rfl, Nat.le_of_ble_eq_true rfl⟩) (hm_preV hK hV (md_x hk) rfl) rfl rfl hl.1 rfl (lv_room (Nat.le_of_ble_eq_true rfl)) dX4_value_22 ⟨Nat.le_of_ble_eq_true rfl, Nat.le_of_ble_eq_true rfl⟩) hV hA (fun r22 M1 H locs hp hV => ?_)
    obtain ⟨cnt1, nums1, hkp, hk⟩ := hp
    rw [hQf]
    exact W.iret hx hb hr (fun t9 ht hW => ⟨⟨_, M1, rfl, ⟨cnt1, nums1, hkp, _, _, _, _, hk⟩, (hm_end hV ht).1⟩, (hm_end hV ht).2⟩) hV.2.2.2.2 dX4_value_25

abbrev wd_X4_add : List Cond := .code yX4_add cX4_add 5 (some .int) :: hm_ws
abbrev rm_X4_add : Room := { frames := 2, cells := 0, slots := 0, locals := 47 }

set_option maxHeartbeats 4000000 in
set_option maxRecDepth 100000 in
/-- add(a, b) -/
theorem c_X4_add (l : Launch) (E : hm_E) {M : hm_M} {A : Nat → Nat} {th : Int32} {cnt k ko : Nat} {nums : Nat → Int} {t : Nat → Nat → Int64} {X O : Nat → Int32} {a b : Int32} (hk : md E M A th cnt k ko nums t X O)  : hm_Ci l E yX4_add wd_X4_add rm_X4_add [.ref (A 0), .int a, .int b] M (fun r M1 => (¬ (kn cnt a ∧ kn cnt b) ∧ r = 0 ∧ mq E M1 A 1 cnt nums t) ∨ (∃ i j, i < cnt ∧ j < cnt ∧ a = nI i ∧ b = nI j ∧ ∃ cnt1 nums1, kp cnt nums (some (nums i + nums j)) r cnt1 nums1 ∧ mq E M1 A 0 cnt1 nums1 t)) := by
  intro sz
  refine Met.ofW (cc := cX4_add) (maxL := 5) (ret := (some .int)) (by decide) rfl ?_
  intro p e s m args below meth c s₁ B hml hv
  obtain ⟨rfl, hAe, hA, hK, hV⟩ := hm_start hv
  have hx := B.exec
  have hb := B.bytes
  have hr := B.returns
  have hts := atoms_spec (ws := wd_X4_add) B.pre
  have hws : ∀ w ∈ hm_ws, w.before _ s = true := fun w h => hts w (List.mem_cons_of_mem _ h)
  have hown : s.vm.findClass RX4 = some m.cls := findClass_of_methodNamed B.named
  have hlocks := B.notSynchronized
  have fl16 := hws _ kw_483
  have hl := lv_entry ([.ref (A 0), .int a, .int b]) (n := 5) (Nat.le_of_ble_eq_true rfl)
  rw [lg_entry_eq]
  generalize (lg_sl ([.ref (A 0), .int a, .int b]) ++ List.replicate (5 - (lg_sl ([.ref (A 0), .int a, .int b])).length) Slot.unset).toArray = ls at hl ⊢
  have hl : lv_has ls 5 [(0, .ref (A 0)), (1, .int a), (2, .int b)] := hl
  refine hm_gen (rm := rm_X4_add) rfl (fun Qf hQf => ?_)
  refine lv_aload_n hx hb dX4_add_0 rfl (lv_at hl 0 rfl) ?_
  refine lv_iload_n hx hb dX4_add_1 rfl (lv_at hl 1 rfl) ?_
  refine lv_iload_n hx hb dX4_add_2 rfl (lv_at hl 2 rfl) ?_
  refine hm_calli (va_runV (As := [.int a, .int b]) (rest := []) ⟨hx, hb, hml, hown, hts⟩ (c_X4_areKnown l E hk s.heap.size) (cwV 2 hts (hm_gV kw_561 kw_563 kw_21 kw_41 kw_564) rfl rfl rfl (by decide +kernel) ⟨Nat.le_of_ble_eq_true rfl, Nat.le_of_ble_eq_true rfl⟩) (hm_preV hK hV (md_x hk) rfl) rfl rfl hl.1 rfl (lv_room (Nat.le_of_ble_eq_true rfl)) dX4_add_3 ⟨Nat.le_of_ble_eq_true rfl, Nat.le_of_ble_eq_true rfl⟩) hV hA (fun r3 M1 H locs hp hV => ?_)
  refine lv_if_ne (tgt := 11) hx hb dX4_add_6 (by decide) (fun c6 => ?_) (fun c6 => ?_)
  · have hp2 : kn cnt a ∧ kn cnt b ∧ md E M1 A 0 cnt k ko nums t X O := by
      rcases hp with h9 | h9
      · exact h9.2
      · exact absurd h9.1 c6
    obtain ⟨⟨ia, hia, rfl⟩, hkb, hk⟩ := hp2
    have hcn := md_c hk
    obtain ⟨ib, hib, rfl⟩ := hkb
    have hl : lv_has ls 5 [(0, .ref (A 0)), (1, .int (nI ia)), (2, .int (nI ib))] := hl
    refine lv_aload_n hx hb dX4_add_11 rfl (lv_at hl 0 rfl) ?_
    refine lv_iload_n hx hb dX4_add_12 rfl (lv_at hl 1 rfl) ?_
    refine hm_callv (va_runV (As := [.int (nI ia)]) (rest := []) ⟨hx, hb, hml, hown, hts⟩ (c_X4_load l E hk hia H.size) (cwV 1 hts (hm_gV kw_569 kw_571 kw_23 kw_41 kw_572) rfl rfl rfl (by decide +kernel) ⟨Nat.le_of_ble_eq_true rfl, Nat.le_of_ble_eq_true rfl⟩) (hm_preV hK hV (md_x hk) rfl) rfl rfl hl.1 rfl (lv_room (Nat.le_of_ble_eq_true rfl)) dX4_add_13 ⟨Nat.le_of_ble_eq_true rfl, Nat.le_of_ble_eq_true rfl⟩) hV hA (fun M1 H locs hp hV => ?_)
    have hk := hp
    refine lv_aload_n hx hb dX4_add_16 rfl (lv_at hl 0 rfl) ?_
    refine lv_iload_n hx hb dX4_add_17 rfl (lv_at hl 2 rfl) ?_
    refine hm_callv (va_runV (As := [.int (nI ib)]) (rest := []) ⟨hx, hb, hml, hown, hts⟩ (c_X4_loadOther l E hk hib H.size) (cwV 1 hts (hm_gV kw_573 kw_575 kw_24 kw_41 kw_576) rfl rfl rfl (by decide +kernel) ⟨Nat.le_of_ble_eq_true rfl, Nat.le_of_ble_eq_true rfl⟩) (hm_preV hK hV (md_x hk) rfl) rfl rfl hl.1 rfl (lv_room (Nat.le_of_ble_eq_true rfl)) dX4_add_18 ⟨Nat.le_of_ble_eq_true rfl, Nat.le_of_ble_eq_true rfl⟩) hV hA (fun M1 H locs hp hV => ?_)
    have hk := hp
    obtain ⟨L, S, Bl, hL, hS, hB3, hn⟩ := md_n hk
    obtain ⟨hwa, hSa, hBa, -⟩ := hn.1 ia (by omega)
    obtain ⟨hwb, hSb, hBb, -⟩ := hn.1 ib (by omega)
    refine lv_aload_n hx hb dX4_add_21 rfl (lv_at hl 0 rfl) ?_
    refine hm_get (ci := 6) (v := .ref (A 3)) (C := RX4) (T := TX4) (N := 16) hx hb hws kin_X4 hown hK.1 hV (md_x hk) rfl 4 (by decide) fl16 (fun _ h9 => h9) rfl dX4_add_22 ?_
    refine lv_iload_n hx hb dX4_add_25 rfl (lv_at hl 1 rfl) ?_
    refine hm_zaldN hx hb hK.1 hV 2 hB3 rfl (k := ia) (by omega) (by omega) dX4_add_26 ?_
    refine lv_istore_n (lv' := [(3, .int (Bl ia)), (0, .ref (A 0)), (1, .int (nI ia)), (2, .int (nI ib))]) hx hb dX4_add_27 rfl hl (by decide) rfl (fun ls hl => ?_)
    refine lv_aload_n hx hb dX4_add_28 rfl (lv_at hl 1 rfl) ?_
    refine hm_get (ci := 6) (v := .ref (A 3)) (C := RX4) (T := TX4) (N := 16) hx hb hws kin_X4 hown hK.1 hV (md_x hk) rfl 4 (by decide) fl16 (fun _ h9 => h9) rfl dX4_add_29 ?_
    refine lv_iload_n hx hb dX4_add_32 rfl (lv_at hl 2 rfl) ?_
    refine hm_zaldN hx hb hK.1 hV 2 hB3 rfl (k := ia) (by omega) (by omega) dX4_add_33 ?_
    refine lv_aload_n hx hb dX4_add_34 rfl (lv_at hl 1 rfl) ?_
    refine hm_get (ci := 6) (v := .ref (A 3)) (C := RX4) (T := TX4) (N := 16) hx hb hws kin_X4 hown hK.1 hV (md_x hk) rfl 4 (by decide) fl16 (fun _ h9 => h9) rfl dX4_add_35 ?_
    refine lv_iload_n hx hb dX4_add_38 rfl (lv_at hl 3 rfl) ?_
    refine hm_zaldN hx hb hK.1 hV 2 hB3 rfl (k := ib) (by omega) (by omega) dX4_add_39 ?_
    refine lv_icmp_ne (tgt := 50) hx hb dX4_add_40 (by decide) (fun c40 => ?_) (fun c40 => ?_)
    · refine lv_aload_n hx hb dX4_add_50 rfl (lv_at hl 1 rfl) ?_
      refine hm_calli (va_runV (As := []) (rest := []) ⟨hx, hb, hml, hown, hts⟩ (c_X4_compare l E hk (big220 hwa) (big220 hwb) H.size) (cwV 0 hts (hm_gV kw_582 kw_584 kw_26 kw_41 kw_585) rfl rfl rfl (by decide +kernel) ⟨Nat.le_of_ble_eq_true rfl, Nat.le_of_ble_eq_true rfl⟩) (hm_preV hK hV (md_x hk) rfl) rfl rfl hl.1 rfl (lv_room (Nat.le_of_ble_eq_true rfl)) dX4_add_51 ⟨Nat.le_of_ble_eq_true rfl, Nat.le_of_ble_eq_true rfl⟩) hV hA (fun r51 M1 H locs hp hV => ?_)
      obtain ⟨hr51, hM1⟩ := hp
      rw [hM1] at hV
      obtain ⟨hcm1, hcm2⟩ := cmp_neg hr51
      obtain ⟨hs1, hs2⟩ := sn_sub hBa hBb c40
      refine lv_if_ge (tgt := 61) hx hb dX4_add_54 (by decide) (fun c54 => ?_) (fun c54 => ?_)
      · have hc9 : ¬ (nums ia).natAbs < (nums ib).natAbs := hcm1 c54
        refine lv_iconst (v := 0) hx hb dX4_add_61 (by decide) ?_
        refine lv_istore (lv' := [(4, .int 0), (3, .int (Bl ia)), (0, .ref (A 0)), (1, .int (nI ia)), (2, .int (nI ib))]) hx hb dX4_add_62 hl (by decide) rfl (fun ls hl => ?_)
        refine lv_iload hx hb dX4_add_64 (lv_at hl 0 rfl) ?_
        refine lv_if_eq (tgt := 78) hx hb dX4_add_66 (by decide) (fun c66 => ?_) (fun c66 => ?_)
        · refine lv_aload_n hx hb dX4_add_78 rfl (lv_at hl 2 rfl) ?_
          refine hm_get (ci := 6) (v := .ref (A 3)) (C := RX4) (T := TX4) (N := 16) hx hb hws kin_X4 hown hK.1 hV (md_x hk) rfl 4 (by decide) fl16 (fun _ h9 => h9) rfl dX4_add_79 ?_
          refine lv_iload_n hx hb dX4_add_82 rfl (lv_at hl 3 rfl) ?_
          refine hm_zaldN hx hb hK.1 hV 2 hB3 rfl (k := ia) (by omega) (by omega) dX4_add_83 ?_
          refine lv_istore_n (lv' := [(3, .int (Bl ia)), (4, .int 0), (0, .ref (A 0)), (1, .int (nI ia)), (2, .int (nI ib))]) hx hb dX4_add_84 rfl hl (by decide) rfl (fun ls hl => ?_)
          refine lv_aload_n hx hb dX4_add_85 rfl (lv_at hl 2 rfl) ?_
          refine lv_iload hx hb dX4_add_86 (lv_at hl 1 rfl) ?_
          refine hm_callv (va_runV (As := [.int 0]) (rest := []) ⟨hx, hb, hml, hown, hts⟩ (c_X4_shrink l E (tb := 0) (d0 := (nums ia).natAbs - (nums ib).natAbs) hk hwa hwb (Or.inl ⟨rfl, by omega, rfl⟩) H.size) (cwV 1 hts (hm_gV kw_586 kw_588 kw_27 kw_41 kw_589) rfl rfl rfl (by decide +kernel) ⟨Nat.le_of_ble_eq_true rfl, Nat.le_of_ble_eq_true rfl⟩) (hm_preV hK hV (md_x hk) rfl) rfl rfl hl.1 rfl (lv_room (Nat.le_of_ble_eq_true rfl)) dX4_add_88 ⟨Nat.le_of_ble_eq_true rfl, Nat.le_of_ble_eq_true rfl⟩) hV hA (fun M1 H locs hp hV => ?_)
          have hk := hp
          refine lv_aload_n hx hb dX4_add_91 rfl (lv_at hl 2 rfl) ?_
          refine lv_iload_n hx hb dX4_add_92 rfl (lv_at hl 0 rfl) ?_
          refine hm_calli (va_runV (As := [.int (Bl ia)]) (rest := []) ⟨hx, hb, hml, hown, hts⟩ (c_X4_keep l E (v := (nums ia).natAbs - (nums ib).natAbs) (z := nums ia + nums ib) (g := (Bl ia)) hk (Nat.lt_of_le_of_lt (Nat.sub_le _ _) (big220 hwa)) (show _ = _ from hs2 hc9) H.size) (cwV 1 hts (hm_gV kw_549 kw_551 kw_19 kw_41 kw_552) rfl rfl rfl (by decide +kernel) ⟨Nat.le_of_ble_eq_true rfl, Nat.le_of_ble_eq_true rfl⟩) (hm_preV hK hV (md_x hk) rfl) rfl rfl hl.1 rfl (lv_room (Nat.le_of_ble_eq_true rfl)) dX4_add_93 ⟨Nat.le_of_ble_eq_true rfl, Nat.le_of_ble_eq_true rfl⟩) hV hA (fun r93 M1 H locs hp hV => ?_)
          obtain ⟨cnt1, nums1, hkp, hk⟩ := hp
          rw [hQf]
          exact W.iret hx hb hr (fun t9 ht hW => ⟨⟨_, M1, rfl, Or.inr ⟨ia, ib, hia, hib, rfl, rfl, cnt1, nums1, hkp, _, _, _, _, hk⟩, (hm_end hV ht).1⟩, (hm_end hV ht).2⟩) hV.2.2.2.2 dX4_add_96
        · exact absurd rfl c66
      · have hc9 : (nums ia).natAbs < (nums ib).natAbs := hcm2 c54
        refine lv_iconst (v := 1) hx hb dX4_add_57 (by decide) ?_
        refine lv_goto (tgt := 62) hx hb dX4_add_58 (by decide) ?_
        refine lv_istore (lv' := [(4, .int 1), (3, .int (Bl ia)), (0, .ref (A 0)), (1, .int (nI ia)), (2, .int (nI ib))]) hx hb dX4_add_62 hl (by decide) rfl (fun ls hl => ?_)
        refine lv_iload hx hb dX4_add_64 (lv_at hl 0 rfl) ?_
        refine lv_if_eq (tgt := 78) hx hb dX4_add_66 (by decide) (fun c66 => ?_) (fun c66 => ?_)
        · exact absurd c66 (by decide)
        · refine lv_aload_n hx hb dX4_add_69 rfl (lv_at hl 2 rfl) ?_
          refine hm_get (ci := 6) (v := .ref (A 3)) (C := RX4) (T := TX4) (N := 16) hx hb hws kin_X4 hown hK.1 hV (md_x hk) rfl 4 (by decide) fl16 (fun _ h9 => h9) rfl dX4_add_70 ?_
          refine lv_iload_n hx hb dX4_add_73 rfl (lv_at hl 4 rfl) ?_
          refine hm_zaldN hx hb hK.1 hV 2 hB3 rfl (k := ib) (by omega) (by omega) dX4_add_74 ?_
          refine lv_goto (tgt := 84) hx hb dX4_add_75 (by decide) ?_
          refine lv_istore_n (lv' := [(3, .int (Bl ib)), (4, .int 1), (0, .ref (A 0)), (1, .int (nI ia)), (2, .int (nI ib))]) hx hb dX4_add_84 rfl hl (by decide) rfl (fun ls hl => ?_)
          refine lv_aload_n hx hb dX4_add_85 rfl (lv_at hl 2 rfl) ?_
          refine lv_iload hx hb dX4_add_86 (lv_at hl 1 rfl) ?_
          refine hm_callv (va_runV (As := [.int 1]) (rest := []) ⟨hx, hb, hml, hown, hts⟩ (c_X4_shrink l E (tb := 1) (d0 := (nums ib).natAbs - (nums ia).natAbs) hk hwa hwb (Or.inr ⟨rfl, by omega, rfl⟩) H.size) (cwV 1 hts (hm_gV kw_586 kw_588 kw_27 kw_41 kw_589) rfl rfl rfl (by decide +kernel) ⟨Nat.le_of_ble_eq_true rfl, Nat.le_of_ble_eq_true rfl⟩) (hm_preV hK hV (md_x hk) rfl) rfl rfl hl.1 rfl (lv_room (Nat.le_of_ble_eq_true rfl)) dX4_add_88 ⟨Nat.le_of_ble_eq_true rfl, Nat.le_of_ble_eq_true rfl⟩) hV hA (fun M1 H locs hp hV => ?_)
          have hk := hp
          refine lv_aload_n hx hb dX4_add_91 rfl (lv_at hl 2 rfl) ?_
          refine lv_iload_n hx hb dX4_add_92 rfl (lv_at hl 0 rfl) ?_
          refine hm_calli (va_runV (As := [.int (Bl ib)]) (rest := []) ⟨hx, hb, hml, hown, hts⟩ (c_X4_keep l E (v := (nums ib).natAbs - (nums ia).natAbs) (z := nums ia + nums ib) (g := (Bl ib)) hk (Nat.lt_of_le_of_lt (Nat.sub_le _ _) (big220 hwb)) (show _ = _ from hs1 hc9) H.size) (cwV 1 hts (hm_gV kw_549 kw_551 kw_19 kw_41 kw_552) rfl rfl rfl (by decide +kernel) ⟨Nat.le_of_ble_eq_true rfl, Nat.le_of_ble_eq_true rfl⟩) (hm_preV hK hV (md_x hk) rfl) rfl rfl hl.1 rfl (lv_room (Nat.le_of_ble_eq_true rfl)) dX4_add_93 ⟨Nat.le_of_ble_eq_true rfl, Nat.le_of_ble_eq_true rfl⟩) hV hA (fun r93 M1 H locs hp hV => ?_)
          obtain ⟨cnt1, nums1, hkp, hk⟩ := hp
          rw [hQf]
          exact W.iret hx hb hr (fun t9 ht hW => ⟨⟨_, M1, rfl, Or.inr ⟨ia, ib, hia, hib, rfl, rfl, cnt1, nums1, hkp, _, _, _, _, hk⟩, (hm_end hV ht).1⟩, (hm_end hV ht).2⟩) hV.2.2.2.2 dX4_add_96
    · have hsame : Bl ia = Bl ib := c40
      refine lv_aload_n hx hb dX4_add_43 rfl (lv_at hl 1 rfl) ?_
      refine hm_callv (va_runV (As := []) (rest := []) ⟨hx, hb, hml, hown, hts⟩ (c_X4_grow l E hk hwa hwb H.size) (cwV 0 hts (hm_gV kw_577 kw_579 kw_25 kw_41 kw_580) rfl rfl rfl (by decide +kernel) ⟨Nat.le_of_ble_eq_true rfl, Nat.le_of_ble_eq_true rfl⟩) (hm_preV hK hV (md_x hk) rfl) rfl rfl hl.1 rfl (lv_room (Nat.le_of_ble_eq_true rfl)) dX4_add_44 ⟨Nat.le_of_ble_eq_true rfl, Nat.le_of_ble_eq_true rfl⟩) hV hA (fun M1 H locs hp hV => ?_)
      have hk := hp
      refine lv_goto (tgt := 91) hx hb dX4_add_47 (by decide) ?_
      refine lv_aload_n hx hb dX4_add_91 rfl (lv_at hl 1 rfl) ?_
      refine lv_iload_n hx hb dX4_add_92 rfl (lv_at hl 0 rfl) ?_
      refine hm_calli (va_runV (As := [.int (Bl ia)]) (rest := []) ⟨hx, hb, hml, hown, hts⟩ (c_X4_keep l E (v := (nums ia).natAbs + (nums ib).natAbs) (z := nums ia + nums ib) (g := (Bl ia)) hk (Nat.lt_of_lt_of_le (sg_max1 (big220 hwa) (big220 hwb) (big100 hwa) (big100 hwb)).2.2 (w16_le (by decide))) (show _ = _ from sn_add hBa hBb hsame) H.size) (cwV 1 hts (hm_gV kw_549 kw_551 kw_19 kw_41 kw_552) rfl rfl rfl (by decide +kernel) ⟨Nat.le_of_ble_eq_true rfl, Nat.le_of_ble_eq_true rfl⟩) (hm_preV hK hV (md_x hk) rfl) rfl rfl hl.1 rfl (lv_room (Nat.le_of_ble_eq_true rfl)) dX4_add_93 ⟨Nat.le_of_ble_eq_true rfl, Nat.le_of_ble_eq_true rfl⟩) hV hA (fun r93 M1 H locs hp hV => ?_)
      obtain ⟨cnt1, nums1, hkp, hk⟩ := hp
      rw [hQf]
      exact W.iret hx hb hr (fun t9 ht hW => ⟨⟨_, M1, rfl, Or.inr ⟨ia, ib, hia, hib, rfl, rfl, cnt1, nums1, hkp, _, _, _, _, hk⟩, (hm_end hV ht).1⟩, (hm_end hV ht).2⟩) hV.2.2.2.2 dX4_add_96
  · have hp2 : ¬ (kn cnt a ∧ kn cnt b) ∧ md E M1 A 1 cnt k ko nums t X O := by
      rcases hp with h9 | h9
      · rw [h9.1] at c6; exact absurd c6 (by decide)
      · exact h9.2
    obtain ⟨hkn, hk⟩ := hp2
    refine lv_iconst (v := 0) hx hb dX4_add_9 (by decide) ?_
    rw [hQf]
    exact W.iret hx hb hr (fun t9 ht hW => ⟨⟨_, M1, rfl, Or.inl ⟨hkn, rfl, _, _, _, _, hk⟩, (hm_end hV ht).1⟩, (hm_end hV ht).2⟩) hV.2.2.2.2 dX4_add_10

abbrev wd_X4_times : List Cond := .code yX4_times cX4_times 3 (some .int) :: hm_ws
abbrev rm_X4_times : Room := { frames := 2, cells := 0, slots := 0, locals := 47 }

set_option maxHeartbeats 4000000 in
set_option maxRecDepth 100000 in
/-- times(a, b) -/
theorem c_X4_times (l : Launch) (E : hm_E) {M : hm_M} {A : Nat → Nat} {th : Int32} {cnt k ko : Nat} {nums : Nat → Int} {t : Nat → Nat → Int64} {X O : Nat → Int32} {a b : Int32} (hk : md E M A th cnt k ko nums t X O)  : hm_Ci l E yX4_times wd_X4_times rm_X4_times [.ref (A 0), .int a, .int b] M (fun r M1 => (¬ (kn cnt a ∧ kn cnt b) ∧ r = 0 ∧ mq E M1 A 1 cnt nums t) ∨ (∃ i j, i < cnt ∧ j < cnt ∧ a = nI i ∧ b = nI j ∧ ∃ cnt1 nums1, kp cnt nums (some (nums i * nums j)) r cnt1 nums1 ∧ mq E M1 A 0 cnt1 nums1 t)) := by
  intro sz
  refine Met.ofW (cc := cX4_times) (maxL := 3) (ret := (some .int)) (by decide) rfl ?_
  intro p e s m args below meth c s₁ B hml hv
  obtain ⟨rfl, hAe, hA, hK, hV⟩ := hm_start hv
  have hx := B.exec
  have hb := B.bytes
  have hr := B.returns
  have hts := atoms_spec (ws := wd_X4_times) B.pre
  have hws : ∀ w ∈ hm_ws, w.before _ s = true := fun w h => hts w (List.mem_cons_of_mem _ h)
  have hown : s.vm.findClass RX4 = some m.cls := findClass_of_methodNamed B.named
  have hlocks := B.notSynchronized
  have fl16 := hws _ kw_483
  have hl := lv_entry ([.ref (A 0), .int a, .int b]) (n := 3) (Nat.le_of_ble_eq_true rfl)
  rw [lg_entry_eq]
  generalize (lg_sl ([.ref (A 0), .int a, .int b]) ++ List.replicate (3 - (lg_sl ([.ref (A 0), .int a, .int b])).length) Slot.unset).toArray = ls at hl ⊢
  have hl : lv_has ls 3 [(0, .ref (A 0)), (1, .int a), (2, .int b)] := hl
  refine hm_gen (rm := rm_X4_times) rfl (fun Qf hQf => ?_)
  refine lv_aload_n hx hb dX4_times_0 rfl (lv_at hl 0 rfl) ?_
  refine lv_iload_n hx hb dX4_times_1 rfl (lv_at hl 1 rfl) ?_
  refine lv_iload_n hx hb dX4_times_2 rfl (lv_at hl 2 rfl) ?_
  refine hm_calli (va_runV (As := [.int a, .int b]) (rest := []) ⟨hx, hb, hml, hown, hts⟩ (c_X4_areKnown l E hk s.heap.size) (cwV 2 hts (hm_gV kw_561 kw_563 kw_21 kw_41 kw_564) rfl rfl rfl (by decide +kernel) ⟨Nat.le_of_ble_eq_true rfl, Nat.le_of_ble_eq_true rfl⟩) (hm_preV hK hV (md_x hk) rfl) rfl rfl hl.1 rfl (lv_room (Nat.le_of_ble_eq_true rfl)) dX4_times_3 ⟨Nat.le_of_ble_eq_true rfl, Nat.le_of_ble_eq_true rfl⟩) hV hA (fun r3 M1 H locs hp hV => ?_)
  refine lv_if_ne (tgt := 11) hx hb dX4_times_6 (by decide) (fun c6 => ?_) (fun c6 => ?_)
  · have hp2 : kn cnt a ∧ kn cnt b ∧ md E M1 A 0 cnt k ko nums t X O := by
      rcases hp with h9 | h9
      · exact h9.2
      · exact absurd h9.1 c6
    obtain ⟨⟨ia, hia, rfl⟩, hkb, hk⟩ := hp2
    have hcn := md_c hk
    obtain ⟨ib, hib, rfl⟩ := hkb
    have hl : lv_has ls 3 [(0, .ref (A 0)), (1, .int (nI ia)), (2, .int (nI ib))] := hl
    refine lv_aload_n hx hb dX4_times_11 rfl (lv_at hl 0 rfl) ?_
    refine lv_iload_n hx hb dX4_times_12 rfl (lv_at hl 1 rfl) ?_
    refine hm_callv (va_runV (As := [.int (nI ia)]) (rest := []) ⟨hx, hb, hml, hown, hts⟩ (c_X4_load l E hk hia H.size) (cwV 1 hts (hm_gV kw_569 kw_571 kw_23 kw_41 kw_572) rfl rfl rfl (by decide +kernel) ⟨Nat.le_of_ble_eq_true rfl, Nat.le_of_ble_eq_true rfl⟩) (hm_preV hK hV (md_x hk) rfl) rfl rfl hl.1 rfl (lv_room (Nat.le_of_ble_eq_true rfl)) dX4_times_13 ⟨Nat.le_of_ble_eq_true rfl, Nat.le_of_ble_eq_true rfl⟩) hV hA (fun M1 H locs hp hV => ?_)
    have hk := hp
    refine lv_aload_n hx hb dX4_times_16 rfl (lv_at hl 0 rfl) ?_
    refine lv_iload_n hx hb dX4_times_17 rfl (lv_at hl 2 rfl) ?_
    refine hm_callv (va_runV (As := [.int (nI ib)]) (rest := []) ⟨hx, hb, hml, hown, hts⟩ (c_X4_loadOther l E hk hib H.size) (cwV 1 hts (hm_gV kw_573 kw_575 kw_24 kw_41 kw_576) rfl rfl rfl (by decide +kernel) ⟨Nat.le_of_ble_eq_true rfl, Nat.le_of_ble_eq_true rfl⟩) (hm_preV hK hV (md_x hk) rfl) rfl rfl hl.1 rfl (lv_room (Nat.le_of_ble_eq_true rfl)) dX4_times_18 ⟨Nat.le_of_ble_eq_true rfl, Nat.le_of_ble_eq_true rfl⟩) hV hA (fun M1 H locs hp hV => ?_)
    have hk := hp
    obtain ⟨L, S, Bl, hL, hS, hB3, hn⟩ := md_n hk
    obtain ⟨hwa, hSa, hBa, -⟩ := hn.1 ia (by omega)
    obtain ⟨hwb, hSb, hBb, -⟩ := hn.1 ib (by omega)
    refine lv_aload_n hx hb dX4_times_21 rfl (lv_at hl 0 rfl) ?_
    refine hm_callv (va_runV (As := []) (rest := []) ⟨hx, hb, hml, hown, hts⟩ (c_X4_multiply l E hk hwa hwb H.size) (cwV 0 hts (hm_gV kw_594 kw_596 kw_28 kw_41 kw_597) rfl rfl rfl (by decide +kernel) ⟨Nat.le_of_ble_eq_true rfl, Nat.le_of_ble_eq_true rfl⟩) (hm_preV hK hV (md_x hk) rfl) rfl rfl hl.1 rfl (lv_room (Nat.le_of_ble_eq_true rfl)) dX4_times_22 ⟨Nat.le_of_ble_eq_true rfl, Nat.le_of_ble_eq_true rfl⟩) hV hA (fun M1 H locs hp hV => ?_)
    have hk := hp
    clear hn hBa hBb hL hS hB3
    obtain ⟨L, S, Bl, hL, hS, hB3, hn⟩ := md_n hk
    obtain ⟨-, -, hBa, -⟩ := hn.1 ia hia
    obtain ⟨-, -, hBb, -⟩ := hn.1 ib hib
    obtain ⟨hs1, hs2⟩ := sn_mul hBa hBb
    refine lv_aload_n hx hb dX4_times_25 rfl (lv_at hl 0 rfl) ?_
    refine lv_aload_n hx hb dX4_times_26 rfl (lv_at hl 0 rfl) ?_
    refine hm_get (ci := 6) (v := .ref (A 3)) (C := RX4) (T := TX4) (N := 16) hx hb hws kin_X4 hown hK.1 hV (md_x hk) rfl 4 (by decide) fl16 (fun _ h9 => h9) rfl dX4_times_27 ?_
    refine lv_iload_n hx hb dX4_times_30 rfl (lv_at hl 1 rfl) ?_
    refine hm_zaldN hx hb hK.1 hV 2 hB3 rfl (k := ia) (by omega) (by omega) dX4_times_31 ?_
    refine lv_aload_n hx hb dX4_times_32 rfl (lv_at hl 0 rfl) ?_
    refine hm_get (ci := 6) (v := .ref (A 3)) (C := RX4) (T := TX4) (N := 16) hx hb hws kin_X4 hown hK.1 hV (md_x hk) rfl 4 (by decide) fl16 (fun _ h9 => h9) rfl dX4_times_33 ?_
    refine lv_iload_n hx hb dX4_times_36 rfl (lv_at hl 2 rfl) ?_
    refine hm_zaldN hx hb hK.1 hV 2 hB3 rfl (k := ib) (by omega) (by omega) dX4_times_37 ?_
    refine lv_icmp_eq (tgt := 45) hx hb dX4_times_38 (by decide) (fun c38 => ?_) (fun c38 => ?_)
    · refine lv_iconst (v := 0) hx hb dX4_times_45 (by decide) ?_
      refine hm_calli (va_runV (As := [.int 0]) (rest := []) ⟨hx, hb, hml, hown, hts⟩ (c_X4_keep l E (v := ((nums ia).natAbs * (nums ib).natAbs)) (z := nums ia * nums ib) (g := 0) hk (Nat.lt_of_lt_of_le (mul_lt16 (show (nums ia).natAbs < 65536 ^ 100 from hwa) (show (nums ib).natAbs < 65536 ^ 100 from hwb)) (w16_le (by decide))) (show _ = _ from hs1 c38) H.size) (cwV 1 hts (hm_gV kw_549 kw_551 kw_19 kw_41 kw_552) rfl rfl rfl (by decide +kernel) ⟨Nat.le_of_ble_eq_true rfl, Nat.le_of_ble_eq_true rfl⟩) (hm_preV hK hV (md_x hk) rfl) rfl rfl hl.1 rfl (lv_room (Nat.le_of_ble_eq_true rfl)) dX4_times_46 ⟨Nat.le_of_ble_eq_true rfl, Nat.le_of_ble_eq_true rfl⟩) hV hA (fun r46 M1 H locs hp hV => ?_)
      obtain ⟨cnt1, nums1, hkp, hk⟩ := hp
      rw [hQf]
      exact W.iret hx hb hr (fun t9 ht hW => ⟨⟨_, M1, rfl, Or.inr ⟨ia, ib, hia, hib, rfl, rfl, cnt1, nums1, hkp, _, _, _, _, hk⟩, (hm_end hV ht).1⟩, (hm_end hV ht).2⟩) hV.2.2.2.2 dX4_times_49
    · refine lv_iconst (v := 1) hx hb dX4_times_41 (by decide) ?_
      refine lv_goto (tgt := 46) hx hb dX4_times_42 (by decide) ?_
      refine hm_calli (va_runV (As := [.int 1]) (rest := []) ⟨hx, hb, hml, hown, hts⟩ (c_X4_keep l E (v := ((nums ia).natAbs * (nums ib).natAbs)) (z := nums ia * nums ib) (g := 1) hk (Nat.lt_of_lt_of_le (mul_lt16 (show (nums ia).natAbs < 65536 ^ 100 from hwa) (show (nums ib).natAbs < 65536 ^ 100 from hwb)) (w16_le (by decide))) (show _ = _ from hs2 c38) H.size) (cwV 1 hts (hm_gV kw_549 kw_551 kw_19 kw_41 kw_552) rfl rfl rfl (by decide +kernel) ⟨Nat.le_of_ble_eq_true rfl, Nat.le_of_ble_eq_true rfl⟩) (hm_preV hK hV (md_x hk) rfl) rfl rfl hl.1 rfl (lv_room (Nat.le_of_ble_eq_true rfl)) dX4_times_46 ⟨Nat.le_of_ble_eq_true rfl, Nat.le_of_ble_eq_true rfl⟩) hV hA (fun r46 M1 H locs hp hV => ?_)
      obtain ⟨cnt1, nums1, hkp, hk⟩ := hp
      rw [hQf]
      exact W.iret hx hb hr (fun t9 ht hW => ⟨⟨_, M1, rfl, Or.inr ⟨ia, ib, hia, hib, rfl, rfl, cnt1, nums1, hkp, _, _, _, _, hk⟩, (hm_end hV ht).1⟩, (hm_end hV ht).2⟩) hV.2.2.2.2 dX4_times_49
  · have hp2 : ¬ (kn cnt a ∧ kn cnt b) ∧ md E M1 A 1 cnt k ko nums t X O := by
      rcases hp with h9 | h9
      · rw [h9.1] at c6; exact absurd c6 (by decide)
      · exact h9.2
    obtain ⟨hkn, hk⟩ := hp2
    refine lv_iconst (v := 0) hx hb dX4_times_9 (by decide) ?_
    rw [hQf]
    exact W.iret hx hb hr (fun t9 ht hW => ⟨⟨_, M1, rfl, Or.inl ⟨hkn, rfl, _, _, _, _, hk⟩, (hm_end hV ht).1⟩, (hm_end hV ht).2⟩) hV.2.2.2.2 dX4_times_10

abbrev wd_X4_over : List Cond := .code yX4_over cX4_over 3 (some .int) :: hm_ws
abbrev rm_X4_over : Room := { frames := 2, cells := 0, slots := 0, locals := 48 }

set_option maxHeartbeats 4000000 in
set_option maxRecDepth 100000 in
/-- over(a, b) -/
theorem c_X4_over (l : Launch) (E : hm_E) {M : hm_M} {A : Nat → Nat} {th : Int32} {cnt k ko : Nat} {nums : Nat → Int} {t : Nat → Nat → Int64} {X O : Nat → Int32} {a b : Int32} (hk : md E M A th cnt k ko nums t X O)  : hm_Ci l E yX4_over wd_X4_over rm_X4_over [.ref (A 0), .int a, .int b] M (fun r M1 => (¬ (kn cnt a ∧ kn cnt b) ∧ r = 0 ∧ mq E M1 A 1 cnt nums t) ∨ (∃ i j, i < cnt ∧ j < cnt ∧ a = nI i ∧ b = nI j ∧ nums j = 0 ∧ r = 0 ∧ mq E M1 A 2 cnt nums t) ∨ (∃ i j, i < cnt ∧ j < cnt ∧ a = nI i ∧ b = nI j ∧ nums j ≠ 0 ∧ ∃ cnt1 nums1, kp cnt nums (some (dz (nums i) (nums j))) r cnt1 nums1 ∧ mq E M1 A 0 cnt1 nums1 t)) := by
  intro sz
  refine Met.ofW (cc := cX4_over) (maxL := 3) (ret := (some .int)) (by decide) rfl ?_
  intro p e s m args below meth c s₁ B hml hv
  obtain ⟨rfl, hAe, hA, hK, hV⟩ := hm_start hv
  have hx := B.exec
  have hb := B.bytes
  have hr := B.returns
  have hts := atoms_spec (ws := wd_X4_over) B.pre
  have hws : ∀ w ∈ hm_ws, w.before _ s = true := fun w h => hts w (List.mem_cons_of_mem _ h)
  have hown : s.vm.findClass RX4 = some m.cls := findClass_of_methodNamed B.named
  have hlocks := B.notSynchronized
  have fl13 := hws _ kw_482
  have fl49 := hws _ kw_479
  have fl16 := hws _ kw_483
  have hl := lv_entry ([.ref (A 0), .int a, .int b]) (n := 3) (Nat.le_of_ble_eq_true rfl)
  rw [lg_entry_eq]
  generalize (lg_sl ([.ref (A 0), .int a, .int b]) ++ List.replicate (3 - (lg_sl ([.ref (A 0), .int a, .int b])).length) Slot.unset).toArray = ls at hl ⊢
  have hl : lv_has ls 3 [(0, .ref (A 0)), (1, .int a), (2, .int b)] := hl
  refine hm_gen (rm := rm_X4_over) rfl (fun Qf hQf => ?_)
  refine lv_aload_n hx hb dX4_over_0 rfl (lv_at hl 0 rfl) ?_
  refine lv_iload_n hx hb dX4_over_1 rfl (lv_at hl 1 rfl) ?_
  refine lv_iload_n hx hb dX4_over_2 rfl (lv_at hl 2 rfl) ?_
  refine hm_calli (va_runV (As := [.int a, .int b]) (rest := []) ⟨hx, hb, hml, hown, hts⟩ (c_X4_areKnown l E hk s.heap.size) (cwV 2 hts (hm_gV kw_561 kw_563 kw_21 kw_41 kw_564) rfl rfl rfl (by decide +kernel) ⟨Nat.le_of_ble_eq_true rfl, Nat.le_of_ble_eq_true rfl⟩) (hm_preV hK hV (md_x hk) rfl) rfl rfl hl.1 rfl (lv_room (Nat.le_of_ble_eq_true rfl)) dX4_over_3 ⟨Nat.le_of_ble_eq_true rfl, Nat.le_of_ble_eq_true rfl⟩) hV hA (fun r3 M1 H locs hp hV => ?_)
  refine lv_if_ne (tgt := 11) hx hb dX4_over_6 (by decide) (fun c6 => ?_) (fun c6 => ?_)
  · have hp2 : kn cnt a ∧ kn cnt b ∧ md E M1 A 0 cnt k ko nums t X O := by
      rcases hp with h9 | h9
      · exact h9.2
      · exact absurd h9.1 c6
    obtain ⟨⟨ia, hia, rfl⟩, hkb, hk⟩ := hp2
    have hcn := md_c hk
    obtain ⟨ib, hib, rfl⟩ := hkb
    have hl : lv_has ls 3 [(0, .ref (A 0)), (1, .int (nI ia)), (2, .int (nI ib))] := hl
    obtain ⟨L, S, Bl, hL, hS, hB3, hn⟩ := md_n hk
    obtain ⟨hwb, hSb, hBb, -⟩ := hn.1 ib (by omega)
    refine lv_aload_n hx hb dX4_over_11 rfl (lv_at hl 0 rfl) ?_
    refine lv_aload_n hx hb dX4_over_12 rfl (lv_at hl 0 rfl) ?_
    refine hm_get (ci := 6) (v := .ref (A 2)) (C := RX4) (T := TX4) (N := 16) hx hb hws kin_X4 hown hK.1 hV (md_x hk) rfl 3 (by decide) fl13 (fun _ h9 => h9) rfl dX4_over_13 ?_
    refine lv_iload_n hx hb dX4_over_16 rfl (lv_at hl 2 rfl) ?_
    refine hm_ialdN hx hb hK.1 hV 0 hS rfl (k := ib) (by omega) (by omega) dX4_over_17 ?_
    refine hm_topi (show (nI (S ib)) = nI (sg (nums ib).natAbs) from by rw [hSb]) ?_
    refine lv_if_ne (tgt := 25) hx hb dX4_over_18 (by decide) (fun c18 => ?_) (fun c18 => ?_)
    · have hz0 : nums ib ≠ 0 := fun h9 => c18 (by rw [h9]; exact congrArg nI sg_z)
      refine lv_iconst (v := 0) hx hb dX4_over_25 (by decide) ?_
      refine hm_put (ci := 6) (v := .int 0) (ty := .int) (C := RX4) (T := TX4) (N := 16) hx hb hws kin_X4 tyX4 tyX4_ok nmX4 hown hK.1 hV (md_x hk) rfl 0 (by decide) fl49 (fun _ h9 => h9) rfl (by decide +kernel) rfl rfl (Nat.le_of_ble_eq_true rfl) dX4_over_26 (fun H locs hV => ?_)
      have hV : hm_V E.1 vwCl (hm_A M sz) s.heap (hm_up M1 (A 0) (.inr (6, [.int 0, .int (nI cnt), .ref (A 1), .ref (A 2), .ref (A 3), .ref (A 4), .ref (A 5), .int (nI k), .ref (A 6), .int (nI ko), .ref (A 7), .ref (A 8), .ref (A 9), .ref (A 10), .ref (A 11), .ref (A 12)]))) H locs := hV
      obtain ⟨N0, hN0⟩ : ∃ N9 : hm_M, N9 = hm_up M1 (A 0) (.inr (6, [.int 0, .int (nI cnt), .ref (A 1), .ref (A 2), .ref (A 3), .ref (A 4), .ref (A 5), .int (nI k), .ref (A 6), .int (nI ko), .ref (A 7), .ref (A 8), .ref (A 9), .ref (A 10), .ref (A 11), .ref (A 12)])) := ⟨_, rfl⟩
      have hk : md E (hm_up M1 (A 0) (.inr (6, [.int 0, .int (nI cnt), .ref (A 1), .ref (A 2), .ref (A 3), .ref (A 4), .ref (A 5), .int (nI k), .ref (A 6), .int (nI ko), .ref (A 7), .ref (A 8), .ref (A 9), .ref (A 10), .ref (A 11), .ref (A 12)]))) A 0 cnt k ko nums t X O := md_ux hk 0 k ko
      rw [← hN0] at hk hV
      refine lv_aload_n hx hb dX4_over_29 rfl (lv_at hl 0 rfl) ?_
      refine hm_get (ci := 6) (v := .int 0) (C := RX4) (T := TX4) (N := 16) hx hb hws kin_X4 hown hK.1 hV (md_x hk) rfl 0 (by decide) fl49 (fun _ h9 => h9) rfl dX4_over_30 ?_
      refine lv_if_le (tgt := 38) hx hb dX4_over_33 (by decide) (fun c33 => ?_) (fun c33 => ?_)
      · clear hn hBb hL hS hB3 hSb hwb
        refine lv_aload_n hx hb dX4_over_38 rfl (lv_at hl 0 rfl) ?_
        refine lv_iload_n hx hb dX4_over_39 rfl (lv_at hl 1 rfl) ?_
        refine hm_callv (va_runV (As := [.int (nI ia)]) (rest := []) ⟨hx, hb, hml, hown, hts⟩ (c_X4_load l E hk hia H.size) (cwV 1 hts (hm_gV kw_569 kw_571 kw_23 kw_41 kw_572) rfl rfl rfl (by decide +kernel) ⟨Nat.le_of_ble_eq_true rfl, Nat.le_of_ble_eq_true rfl⟩) (hm_preV hK hV (md_x hk) rfl) rfl rfl hl.1 rfl (lv_room (Nat.le_of_ble_eq_true rfl)) dX4_over_40 ⟨Nat.le_of_ble_eq_true rfl, Nat.le_of_ble_eq_true rfl⟩) hV hA (fun M1 H locs hp hV => ?_)
        have hk := hp
        refine lv_aload_n hx hb dX4_over_43 rfl (lv_at hl 0 rfl) ?_
        refine lv_iload_n hx hb dX4_over_44 rfl (lv_at hl 2 rfl) ?_
        refine hm_callv (va_runV (As := [.int (nI ib)]) (rest := []) ⟨hx, hb, hml, hown, hts⟩ (c_X4_loadOther l E hk hib H.size) (cwV 1 hts (hm_gV kw_573 kw_575 kw_24 kw_41 kw_576) rfl rfl rfl (by decide +kernel) ⟨Nat.le_of_ble_eq_true rfl, Nat.le_of_ble_eq_true rfl⟩) (hm_preV hK hV (md_x hk) rfl) rfl rfl hl.1 rfl (lv_room (Nat.le_of_ble_eq_true rfl)) dX4_over_45 ⟨Nat.le_of_ble_eq_true rfl, Nat.le_of_ble_eq_true rfl⟩) hV hA (fun M1 H locs hp hV => ?_)
        have hk := hp
        obtain ⟨L, S, Bl, hL, hS, hB3, hn⟩ := md_n hk
        obtain ⟨hwa, hSa, hBa, -⟩ := hn.1 ia (by omega)
        obtain ⟨hwb, hSb, hBb, -⟩ := hn.1 ib (by omega)
        refine lv_aload_n hx hb dX4_over_48 rfl (lv_at hl 0 rfl) ?_
        refine hm_callv (va_runV (As := []) (rest := []) ⟨hx, hb, hml, hown, hts⟩ (c_X4_divide l E hk hwa hwb (by omega) H.size) (cwV 0 hts (hm_gV kw_602 kw_604 kw_29 kw_41 kw_605) rfl rfl rfl (by decide +kernel) ⟨Nat.le_of_ble_eq_true rfl, Nat.le_of_ble_eq_true rfl⟩) (hm_preV hK hV (md_x hk) rfl) rfl rfl hl.1 rfl (lv_room (Nat.le_of_ble_eq_true rfl)) dX4_over_49 ⟨Nat.le_of_ble_eq_true rfl, Nat.le_of_ble_eq_true rfl⟩) hV hA (fun M1 H locs hp hV => ?_)
        have hk := hp
        clear hn hBa hBb hL hS hB3
        obtain ⟨L, S, Bl, hL, hS, hB3, hn⟩ := md_n hk
        obtain ⟨-, -, hBa, -⟩ := hn.1 ia hia
        obtain ⟨-, -, hBb, -⟩ := hn.1 ib hib
        obtain ⟨hs1, hs2⟩ := sn_dz hBa hBb
        refine lv_aload_n hx hb dX4_over_52 rfl (lv_at hl 0 rfl) ?_
        refine lv_aload_n hx hb dX4_over_53 rfl (lv_at hl 0 rfl) ?_
        refine hm_get (ci := 6) (v := .ref (A 3)) (C := RX4) (T := TX4) (N := 16) hx hb hws kin_X4 hown hK.1 hV (md_x hk) rfl 4 (by decide) fl16 (fun _ h9 => h9) rfl dX4_over_54 ?_
        refine lv_iload_n hx hb dX4_over_57 rfl (lv_at hl 1 rfl) ?_
        refine hm_zaldN hx hb hK.1 hV 2 hB3 rfl (k := ia) (by omega) (by omega) dX4_over_58 ?_
        refine lv_aload_n hx hb dX4_over_59 rfl (lv_at hl 0 rfl) ?_
        refine hm_get (ci := 6) (v := .ref (A 3)) (C := RX4) (T := TX4) (N := 16) hx hb hws kin_X4 hown hK.1 hV (md_x hk) rfl 4 (by decide) fl16 (fun _ h9 => h9) rfl dX4_over_60 ?_
        refine lv_iload_n hx hb dX4_over_63 rfl (lv_at hl 2 rfl) ?_
        refine hm_zaldN hx hb hK.1 hV 2 hB3 rfl (k := ib) (by omega) (by omega) dX4_over_64 ?_
        refine lv_icmp_eq (tgt := 72) hx hb dX4_over_65 (by decide) (fun c65 => ?_) (fun c65 => ?_)
        · refine lv_iconst (v := 0) hx hb dX4_over_72 (by decide) ?_
          refine hm_calli (va_runV (As := [.int 0]) (rest := []) ⟨hx, hb, hml, hown, hts⟩ (c_X4_keep l E (v := ((nums ia).natAbs / (nums ib).natAbs)) (z := dz (nums ia) (nums ib)) (g := 0) hk (Nat.lt_of_le_of_lt (Nat.div_le_self _ _) (big220 hwa)) (show _ = _ from hs1 c65) H.size) (cwV 1 hts (hm_gV kw_549 kw_551 kw_19 kw_41 kw_552) rfl rfl rfl (by decide +kernel) ⟨Nat.le_of_ble_eq_true rfl, Nat.le_of_ble_eq_true rfl⟩) (hm_preV hK hV (md_x hk) rfl) rfl rfl hl.1 rfl (lv_room (Nat.le_of_ble_eq_true rfl)) dX4_over_73 ⟨Nat.le_of_ble_eq_true rfl, Nat.le_of_ble_eq_true rfl⟩) hV hA (fun r73 M1 H locs hp hV => ?_)
          obtain ⟨cnt1, nums1, hkp, hk⟩ := hp
          rw [hQf]
          exact W.iret hx hb hr (fun t9 ht hW => ⟨⟨_, M1, rfl, Or.inr (Or.inr ⟨ia, ib, hia, hib, rfl, rfl, hz0, cnt1, nums1, hkp, _, _, _, _, hk⟩), (hm_end hV ht).1⟩, (hm_end hV ht).2⟩) hV.2.2.2.2 dX4_over_76
        · refine lv_iconst (v := 1) hx hb dX4_over_68 (by decide) ?_
          refine lv_goto (tgt := 73) hx hb dX4_over_69 (by decide) ?_
          refine hm_calli (va_runV (As := [.int 1]) (rest := []) ⟨hx, hb, hml, hown, hts⟩ (c_X4_keep l E (v := ((nums ia).natAbs / (nums ib).natAbs)) (z := dz (nums ia) (nums ib)) (g := 1) hk (Nat.lt_of_le_of_lt (Nat.div_le_self _ _) (big220 hwa)) (show _ = _ from hs2 c65) H.size) (cwV 1 hts (hm_gV kw_549 kw_551 kw_19 kw_41 kw_552) rfl rfl rfl (by decide +kernel) ⟨Nat.le_of_ble_eq_true rfl, Nat.le_of_ble_eq_true rfl⟩) (hm_preV hK hV (md_x hk) rfl) rfl rfl hl.1 rfl (lv_room (Nat.le_of_ble_eq_true rfl)) dX4_over_73 ⟨Nat.le_of_ble_eq_true rfl, Nat.le_of_ble_eq_true rfl⟩) hV hA (fun r73 M1 H locs hp hV => ?_)
          obtain ⟨cnt1, nums1, hkp, hk⟩ := hp
          rw [hQf]
          exact W.iret hx hb hr (fun t9 ht hW => ⟨⟨_, M1, rfl, Or.inr (Or.inr ⟨ia, ib, hia, hib, rfl, rfl, hz0, cnt1, nums1, hkp, _, _, _, _, hk⟩), (hm_end hV ht).1⟩, (hm_end hV ht).2⟩) hV.2.2.2.2 dX4_over_76
      · exact absurd (Int32.le_refl 0) c33
    · have hz0 : nums ib = 0 := by
        have h9 := (nI_eq (b := 0) (by have := sg_220 (nums ib).natAbs; omega) (by omega)).mp c18
        have := (sg_0 (big220 hwb)).mp h9
        omega
      refine lv_iconst (v := 2) hx hb dX4_over_21 (by decide) ?_
      refine lv_goto (tgt := 26) hx hb dX4_over_22 (by decide) ?_
      refine hm_put (ci := 6) (v := .int 2) (ty := .int) (C := RX4) (T := TX4) (N := 16) hx hb hws kin_X4 tyX4 tyX4_ok nmX4 hown hK.1 hV (md_x hk) rfl 0 (by decide) fl49 (fun _ h9 => h9) rfl (by decide +kernel) rfl rfl (Nat.le_of_ble_eq_true rfl) dX4_over_26 (fun H locs hV => ?_)
      have hV : hm_V E.1 vwCl (hm_A M sz) s.heap (hm_up M1 (A 0) (.inr (6, [.int 2, .int (nI cnt), .ref (A 1), .ref (A 2), .ref (A 3), .ref (A 4), .ref (A 5), .int (nI k), .ref (A 6), .int (nI ko), .ref (A 7), .ref (A 8), .ref (A 9), .ref (A 10), .ref (A 11), .ref (A 12)]))) H locs := hV
      refine lv_aload_n hx hb dX4_over_29 rfl (lv_at hl 0 rfl) ?_
      refine hm_get (ci := 6) (v := .int 2) (C := RX4) (T := TX4) (N := 16) hx hb hws kin_X4 hown hK.1 hV (hm_up_self _ _ _) rfl 0 (by decide) fl49 (fun _ h9 => h9) rfl dX4_over_30 ?_
      refine lv_if_le (tgt := 38) hx hb dX4_over_33 (by decide) (fun c33 => ?_) (fun c33 => ?_)
      · exact absurd c33 (by decide)
      · refine lv_iconst (v := 0) hx hb dX4_over_36 (by decide) ?_
        rw [hQf]
        exact W.iret hx hb hr (fun t9 ht hW => ⟨⟨_, (hm_up M1 (A 0) (.inr (6, [.int 2, .int (nI cnt), .ref (A 1), .ref (A 2), .ref (A 3), .ref (A 4), .ref (A 5), .int (nI k), .ref (A 6), .int (nI ko), .ref (A 7), .ref (A 8), .ref (A 9), .ref (A 10), .ref (A 11), .ref (A 12)]))), rfl, Or.inr (Or.inl ⟨ia, ib, hia, hib, rfl, rfl, hz0, rfl, _, _, _, _, md_ux hk 2 k ko⟩), (hm_end hV ht).1⟩, (hm_end hV ht).2⟩) hV.2.2.2.2 dX4_over_37
  · have hp2 : ¬ (kn cnt a ∧ kn cnt b) ∧ md E M1 A 1 cnt k ko nums t X O := by
      rcases hp with h9 | h9
      · rw [h9.1] at c6; exact absurd c6 (by decide)
      · exact h9.2
    obtain ⟨hkn, hk⟩ := hp2
    refine lv_iconst (v := 0) hx hb dX4_over_9 (by decide) ?_
    rw [hQf]
    exact W.iret hx hb hr (fun t9 ht hW => ⟨⟨_, M1, rfl, Or.inl ⟨hkn, rfl, _, _, _, _, hk⟩, (hm_end hV ht).1⟩, (hm_end hV ht).2⟩) hV.2.2.2.2 dX4_over_10

abbrev wd_X4_order : List Cond := .code yX4_order cX4_order 3 (some .int) :: hm_ws
abbrev rm_X4_order : Room := { frames := 2, cells := 0, slots := 0, locals := 44 }

set_option maxHeartbeats 4000000 in
set_option maxRecDepth 100000 in
/-- order(a, b) -/
theorem c_X4_order (l : Launch) (E : hm_E) {M : hm_M} {A : Nat → Nat} {th : Int32} {cnt k ko : Nat} {nums : Nat → Int} {t : Nat → Nat → Int64} {X O : Nat → Int32} {a b : Int32} (hk : md E M A th cnt k ko nums t X O)  : hm_Ci l E yX4_order wd_X4_order rm_X4_order [.ref (A 0), .int a, .int b] M (fun r M1 => (¬ (kn cnt a ∧ kn cnt b) ∧ r = 0 ∧ mq E M1 A 1 cnt nums t) ∨ (∃ i j, i < cnt ∧ j < cnt ∧ a = nI i ∧ b = nI j ∧ r = cmpZ (nums i) (nums j) ∧ mq E M1 A 0 cnt nums t)) := by
  intro sz
  refine Met.ofW (cc := cX4_order) (maxL := 3) (ret := (some .int)) (by decide) rfl ?_
  intro p e s m args below meth c s₁ B hml hv
  obtain ⟨rfl, hAe, hA, hK, hV⟩ := hm_start hv
  have hx := B.exec
  have hb := B.bytes
  have hr := B.returns
  have hts := atoms_spec (ws := wd_X4_order) B.pre
  have hws : ∀ w ∈ hm_ws, w.before _ s = true := fun w h => hts w (List.mem_cons_of_mem _ h)
  have hown : s.vm.findClass RX4 = some m.cls := findClass_of_methodNamed B.named
  have hlocks := B.notSynchronized
  have fl16 := hws _ kw_483
  have hl := lv_entry ([.ref (A 0), .int a, .int b]) (n := 3) (Nat.le_of_ble_eq_true rfl)
  rw [lg_entry_eq]
  generalize (lg_sl ([.ref (A 0), .int a, .int b]) ++ List.replicate (3 - (lg_sl ([.ref (A 0), .int a, .int b])).length) Slot.unset).toArray = ls at hl ⊢
  have hl : lv_has ls 3 [(0, .ref (A 0)), (1, .int a), (2, .int b)] := hl
  refine hm_gen (rm := rm_X4_order) rfl (fun Qf hQf => ?_)
  refine lv_aload_n hx hb dX4_order_0 rfl (lv_at hl 0 rfl) ?_
  refine lv_iload_n hx hb dX4_order_1 rfl (lv_at hl 1 rfl) ?_
  refine lv_iload_n hx hb dX4_order_2 rfl (lv_at hl 2 rfl) ?_
  refine hm_calli (va_runV (As := [.int a, .int b]) (rest := []) ⟨hx, hb, hml, hown, hts⟩ (c_X4_areKnown l E hk s.heap.size) (cwV 2 hts (hm_gV kw_561 kw_563 kw_21 kw_41 kw_564) rfl rfl rfl (by decide +kernel) ⟨Nat.le_of_ble_eq_true rfl, Nat.le_of_ble_eq_true rfl⟩) (hm_preV hK hV (md_x hk) rfl) rfl rfl hl.1 rfl (lv_room (Nat.le_of_ble_eq_true rfl)) dX4_order_3 ⟨Nat.le_of_ble_eq_true rfl, Nat.le_of_ble_eq_true rfl⟩) hV hA (fun r3 M1 H locs hp hV => ?_)
  refine lv_if_ne (tgt := 11) hx hb dX4_order_6 (by decide) (fun c6 => ?_) (fun c6 => ?_)
  · have hp2 : kn cnt a ∧ kn cnt b ∧ md E M1 A 0 cnt k ko nums t X O := by
      rcases hp with h9 | h9
      · exact h9.2
      · exact absurd h9.1 c6
    obtain ⟨⟨ia, hia, rfl⟩, hkb, hk⟩ := hp2
    have hcn := md_c hk
    obtain ⟨ib, hib, rfl⟩ := hkb
    have hl : lv_has ls 3 [(0, .ref (A 0)), (1, .int (nI ia)), (2, .int (nI ib))] := hl
    obtain ⟨L, S, Bl, hL, hS, hB3, hn⟩ := md_n hk
    obtain ⟨hwa, hSa, hBa, -⟩ := hn.1 ia (by omega)
    obtain ⟨hwb, hSb, hBb, -⟩ := hn.1 ib (by omega)
    refine lv_aload_n hx hb dX4_order_11 rfl (lv_at hl 0 rfl) ?_
    refine hm_get (ci := 6) (v := .ref (A 3)) (C := RX4) (T := TX4) (N := 16) hx hb hws kin_X4 hown hK.1 hV (md_x hk) rfl 4 (by decide) fl16 (fun _ h9 => h9) rfl dX4_order_12 ?_
    refine lv_iload_n hx hb dX4_order_15 rfl (lv_at hl 1 rfl) ?_
    refine hm_zaldN hx hb hK.1 hV 2 hB3 rfl (k := ia) (by omega) (by omega) dX4_order_16 ?_
    refine lv_aload_n hx hb dX4_order_17 rfl (lv_at hl 0 rfl) ?_
    refine hm_get (ci := 6) (v := .ref (A 3)) (C := RX4) (T := TX4) (N := 16) hx hb hws kin_X4 hown hK.1 hV (md_x hk) rfl 4 (by decide) fl16 (fun _ h9 => h9) rfl dX4_order_18 ?_
    refine lv_iload_n hx hb dX4_order_21 rfl (lv_at hl 2 rfl) ?_
    refine hm_zaldN hx hb hK.1 hV 2 hB3 rfl (k := ib) (by omega) (by omega) dX4_order_22 ?_
    refine lv_icmp_eq (tgt := 41) hx hb dX4_order_23 (by decide) (fun c23 => ?_) (fun c23 => ?_)
    · have hsame : Bl ia = Bl ib := c23
      obtain ⟨hs1, hs2⟩ := sn_ord hBa hBb hsame
      have hBa0 := hBa
      clear hn hBa hBb hL hS hB3 hSa hSb hwa hwb
      refine lv_aload_n hx hb dX4_order_41 rfl (lv_at hl 0 rfl) ?_
      refine lv_iload_n hx hb dX4_order_42 rfl (lv_at hl 1 rfl) ?_
      refine hm_callv (va_runV (As := [.int (nI ia)]) (rest := []) ⟨hx, hb, hml, hown, hts⟩ (c_X4_load l E hk hia H.size) (cwV 1 hts (hm_gV kw_569 kw_571 kw_23 kw_41 kw_572) rfl rfl rfl (by decide +kernel) ⟨Nat.le_of_ble_eq_true rfl, Nat.le_of_ble_eq_true rfl⟩) (hm_preV hK hV (md_x hk) rfl) rfl rfl hl.1 rfl (lv_room (Nat.le_of_ble_eq_true rfl)) dX4_order_43 ⟨Nat.le_of_ble_eq_true rfl, Nat.le_of_ble_eq_true rfl⟩) hV hA (fun M1 H locs hp hV => ?_)
      have hk := hp
      refine lv_aload_n hx hb dX4_order_46 rfl (lv_at hl 0 rfl) ?_
      refine lv_iload_n hx hb dX4_order_47 rfl (lv_at hl 2 rfl) ?_
      refine hm_callv (va_runV (As := [.int (nI ib)]) (rest := []) ⟨hx, hb, hml, hown, hts⟩ (c_X4_loadOther l E hk hib H.size) (cwV 1 hts (hm_gV kw_573 kw_575 kw_24 kw_41 kw_576) rfl rfl rfl (by decide +kernel) ⟨Nat.le_of_ble_eq_true rfl, Nat.le_of_ble_eq_true rfl⟩) (hm_preV hK hV (md_x hk) rfl) rfl rfl hl.1 rfl (lv_room (Nat.le_of_ble_eq_true rfl)) dX4_order_48 ⟨Nat.le_of_ble_eq_true rfl, Nat.le_of_ble_eq_true rfl⟩) hV hA (fun M1 H locs hp hV => ?_)
      have hk := hp
      obtain ⟨L, S, Bl, hL, hS, hB3, hn⟩ := md_n hk
      obtain ⟨hwa, hSa, hBa, -⟩ := hn.1 ia (by omega)
      obtain ⟨hwb, hSb, hBb, -⟩ := hn.1 ib (by omega)
      rw [hBa0.trans hBa.symm] at hs1 hs2
      refine lv_aload_n hx hb dX4_order_51 rfl (lv_at hl 0 rfl) ?_
      refine hm_get (ci := 6) (v := .ref (A 3)) (C := RX4) (T := TX4) (N := 16) hx hb hws kin_X4 hown hK.1 hV (md_x hk) rfl 4 (by decide) fl16 (fun _ h9 => h9) rfl dX4_order_52 ?_
      refine lv_iload_n hx hb dX4_order_55 rfl (lv_at hl 1 rfl) ?_
      refine hm_zaldN hx hb hK.1 hV 2 hB3 rfl (k := ia) (by omega) (by omega) dX4_order_56 ?_
      refine lv_if_eq (tgt := 68) hx hb dX4_order_57 (by decide) (fun c57 => ?_) (fun c57 => ?_)
      · refine lv_aload_n hx hb dX4_order_68 rfl (lv_at hl 0 rfl) ?_
        refine hm_calli (va_runV (As := []) (rest := []) ⟨hx, hb, hml, hown, hts⟩ (c_X4_compare l E hk (big220 hwa) (big220 hwb) H.size) (cwV 0 hts (hm_gV kw_582 kw_584 kw_26 kw_41 kw_585) rfl rfl rfl (by decide +kernel) ⟨Nat.le_of_ble_eq_true rfl, Nat.le_of_ble_eq_true rfl⟩) (hm_preV hK hV (md_x hk) rfl) rfl rfl hl.1 rfl (lv_room (Nat.le_of_ble_eq_true rfl)) dX4_order_69 ⟨Nat.le_of_ble_eq_true rfl, Nat.le_of_ble_eq_true rfl⟩) hV hA (fun r69 M1 H locs hp hV => ?_)
        obtain ⟨hr9, hM1⟩ := hp
        rw [← hM1] at hk
        subst hr9
        rw [hQf]
        exact W.iret hx hb hr (fun t9 ht hW => ⟨⟨_, M1, rfl, Or.inr ⟨ia, ib, hia, hib, rfl, rfl, hs1 c57, _, _, _, _, hk⟩, (hm_end hV ht).1⟩, (hm_end hV ht).2⟩) hV.2.2.2.2 dX4_order_72
      · refine lv_aload_n hx hb dX4_order_60 rfl (lv_at hl 0 rfl) ?_
        refine hm_calli (va_runV (As := []) (rest := []) ⟨hx, hb, hml, hown, hts⟩ (c_X4_compare l E hk (big220 hwa) (big220 hwb) H.size) (cwV 0 hts (hm_gV kw_582 kw_584 kw_26 kw_41 kw_585) rfl rfl rfl (by decide +kernel) ⟨Nat.le_of_ble_eq_true rfl, Nat.le_of_ble_eq_true rfl⟩) (hm_preV hK hV (md_x hk) rfl) rfl rfl hl.1 rfl (lv_room (Nat.le_of_ble_eq_true rfl)) dX4_order_61 ⟨Nat.le_of_ble_eq_true rfl, Nat.le_of_ble_eq_true rfl⟩) hV hA (fun r61 M1 H locs hp hV => ?_)
        obtain ⟨hr9, hM1⟩ := hp
        rw [← hM1] at hk
        subst hr9
        refine lv_ineg hx hb dX4_order_64 ?_
        refine lv_goto (tgt := 72) hx hb dX4_order_65 (by decide) ?_
        rw [hQf]
        exact W.iret hx hb hr (fun t9 ht hW => ⟨⟨_, M1, rfl, Or.inr ⟨ia, ib, hia, hib, rfl, rfl, hs2 c57, _, _, _, _, hk⟩, (hm_end hV ht).1⟩, (hm_end hV ht).2⟩) hV.2.2.2.2 dX4_order_72
    · obtain ⟨hs1, hs2⟩ := sn_dif hBa hBb c23
      refine lv_aload_n hx hb dX4_order_26 rfl (lv_at hl 0 rfl) ?_
      refine hm_get (ci := 6) (v := .ref (A 3)) (C := RX4) (T := TX4) (N := 16) hx hb hws kin_X4 hown hK.1 hV (md_x hk) rfl 4 (by decide) fl16 (fun _ h9 => h9) rfl dX4_order_27 ?_
      refine lv_iload_n hx hb dX4_order_30 rfl (lv_at hl 1 rfl) ?_
      refine hm_zaldN hx hb hK.1 hV 2 hB3 rfl (k := ia) (by omega) (by omega) dX4_order_31 ?_
      refine lv_if_eq (tgt := 39) hx hb dX4_order_32 (by decide) (fun c32 => ?_) (fun c32 => ?_)
      · refine lv_iconst (v := 1) hx hb dX4_order_39 (by decide) ?_
        rw [hQf]
        exact W.iret hx hb hr (fun t9 ht hW => ⟨⟨_, M1, rfl, Or.inr ⟨ia, ib, hia, hib, rfl, rfl, hs1 c32, _, _, _, _, hk⟩, (hm_end hV ht).1⟩, (hm_end hV ht).2⟩) hV.2.2.2.2 dX4_order_40
      · refine lv_iconst (v := (-1)) hx hb dX4_order_35 (by decide) ?_
        refine lv_goto (tgt := 40) hx hb dX4_order_36 (by decide) ?_
        rw [hQf]
        exact W.iret hx hb hr (fun t9 ht hW => ⟨⟨_, M1, rfl, Or.inr ⟨ia, ib, hia, hib, rfl, rfl, hs2 c32, _, _, _, _, hk⟩, (hm_end hV ht).1⟩, (hm_end hV ht).2⟩) hV.2.2.2.2 dX4_order_40
  · have hp2 : ¬ (kn cnt a ∧ kn cnt b) ∧ md E M1 A 1 cnt k ko nums t X O := by
      rcases hp with h9 | h9
      · rw [h9.1] at c6; exact absurd c6 (by decide)
      · exact h9.2
    obtain ⟨hkn, hk⟩ := hp2
    refine lv_iconst (v := 0) hx hb dX4_order_9 (by decide) ?_
    rw [hQf]
    exact W.iret hx hb hr (fun t9 ht hW => ⟨⟨_, M1, rfl, Or.inl ⟨hkn, rfl, _, _, _, _, hk⟩, (hm_end hV ht).1⟩, (hm_end hV ht).2⟩) hV.2.2.2.2 dX4_order_10

abbrev wd_X4_kept : List Cond := .code yX4_kept cX4_kept 1 (some .int) :: hm_ws
abbrev rm_X4_kept : Room := { frames := 0, cells := 0, slots := 0, locals := 0 }

set_option maxHeartbeats 4000000 in
set_option maxRecDepth 100000 in
/-- kept() -/
theorem c_X4_kept (l : Launch) (E : hm_E) {M : hm_M} {A : Nat → Nat} {th : Int32} {cnt k ko : Nat} {nums : Nat → Int} {t : Nat → Nat → Int64} {X O : Nat → Int32} (hk : md E M A th cnt k ko nums t X O)  : hm_Ci l E yX4_kept wd_X4_kept rm_X4_kept [.ref (A 0)] M (fun r M1 => r = nI cnt ∧ mq E M1 A 0 cnt nums t) := by
  intro sz
  refine Met.ofW (cc := cX4_kept) (maxL := 1) (ret := (some .int)) (by decide) rfl ?_
  intro p e s m args below meth c s₁ B hml hv
  obtain ⟨rfl, hAe, hA, hK, hV⟩ := hm_start hv
  have hx := B.exec
  have hb := B.bytes
  have hr := B.returns
  have hts := atoms_spec (ws := wd_X4_kept) B.pre
  have hws : ∀ w ∈ hm_ws, w.before _ s = true := fun w h => hts w (List.mem_cons_of_mem _ h)
  have hown : s.vm.findClass RX4 = some m.cls := findClass_of_methodNamed B.named
  have hlocks := B.notSynchronized
  have fl49 := hws _ kw_479
  have fl53 := hws _ kw_480
  have hl := lv_entry ([.ref (A 0)]) (n := 1) (Nat.le_of_ble_eq_true rfl)
  rw [lg_entry_eq]
  generalize (lg_sl ([.ref (A 0)]) ++ List.replicate (1 - (lg_sl ([.ref (A 0)])).length) Slot.unset).toArray = ls at hl ⊢
  have hl : lv_has ls 1 [(0, .ref (A 0))] := hl
  refine hm_gen (rm := rm_X4_kept) rfl (fun Qf hQf => ?_)
  refine lv_aload_n hx hb dX4_kept_0 rfl (lv_at hl 0 rfl) ?_
  refine lv_iconst (v := 0) hx hb dX4_kept_1 (by decide) ?_
  refine hm_put (ci := 6) (v := .int 0) (ty := .int) (C := RX4) (T := TX4) (N := 16) hx hb hws kin_X4 tyX4 tyX4_ok nmX4 hown hK.1 hV (md_x hk) rfl 0 (by decide) fl49 (fun _ h9 => h9) rfl (by decide +kernel) rfl rfl (Nat.le_of_ble_eq_true rfl) dX4_kept_2 (fun H locs hV => ?_)
  have hV : hm_V E.1 vwCl (hm_A M sz) s.heap (hm_up M (A 0) (.inr (6, [.int 0, .int (nI cnt), .ref (A 1), .ref (A 2), .ref (A 3), .ref (A 4), .ref (A 5), .int (nI k), .ref (A 6), .int (nI ko), .ref (A 7), .ref (A 8), .ref (A 9), .ref (A 10), .ref (A 11), .ref (A 12)]))) H locs := hV
  refine lv_aload_n hx hb dX4_kept_5 rfl (lv_at hl 0 rfl) ?_
  refine hm_get (ci := 6) (v := .int (nI cnt)) (C := RX4) (T := TX4) (N := 16) hx hb hws kin_X4 hown hK.1 hV (hm_up_self _ _ _) rfl 1 (by decide) fl53 (fun _ h9 => h9) rfl dX4_kept_6 ?_
  rw [hQf]
  exact W.iret hx hb hr (fun t9 ht hW => ⟨⟨_, (hm_up M (A 0) (.inr (6, [.int 0, .int (nI cnt), .ref (A 1), .ref (A 2), .ref (A 3), .ref (A 4), .ref (A 5), .int (nI k), .ref (A 6), .int (nI ko), .ref (A 7), .ref (A 8), .ref (A 9), .ref (A 10), .ref (A 11), .ref (A 12)]))), rfl, ⟨rfl, _, _, _, _, md_ux hk 0 k ko⟩, (hm_end hV ht).1⟩, (hm_end hV ht).2⟩) hV.2.2.2.2 dX4_kept_9

abbrev wd_X4_entry : List Cond := .code yX4_entry cX4_entry 5 (some .boolean) :: hm_ws
abbrev rm_X4_entry : Room := { frames := 0, cells := 0, slots := 0, locals := 0 }

set_option maxHeartbeats 4000000 in
set_option maxRecDepth 100000 in
/-- entry(i, j, v) -/
theorem c_X4_entry (l : Launch) (E : hm_E) {M : hm_M} {A : Nat → Nat} {th : Int32} {cnt k ko : Nat} {nums : Nat → Int} {t : Nat → Nat → Int64} {X O : Nat → Int32} {a b : Int32} {v : Int64} (hk : md E M A th cnt k ko nums t X O)  : hm_Ci l E yX4_entry wd_X4_entry rm_X4_entry [.ref (A 0), .int a, .int b, .long v] M (fun r M1 => (r = 0 ∧ (¬ ∃ i j, i < 12 ∧ j < 12 ∧ a = nI i ∧ b = nI j) ∧ mq E M1 A 0 cnt nums t) ∨ (r = 1 ∧ ∃ i j, i < 12 ∧ j < 12 ∧ a = nI i ∧ b = nI j ∧ mq E M1 A 0 cnt nums (fun x y => if x = i ∧ y = j then v else t x y))) := by
  intro sz
  refine Met.ofW (cc := cX4_entry) (maxL := 5) (ret := (some .boolean)) (by decide) rfl ?_
  intro p e s m args below meth c s₁ B hml hv
  obtain ⟨rfl, hAe, hA, hK, hV⟩ := hm_start hv
  have hx := B.exec
  have hb := B.bytes
  have hr := B.returns
  have hts := atoms_spec (ws := wd_X4_entry) B.pre
  have hws : ∀ w ∈ hm_ws, w.before _ s = true := fun w h => hts w (List.mem_cons_of_mem _ h)
  have hown : s.vm.findClass RX4 = some m.cls := findClass_of_methodNamed B.named
  have hlocks := B.notSynchronized
  have fl49 := hws _ kw_479
  have fl20 := hws _ kw_484
  have hl := lv_entry ([.ref (A 0), .int a, .int b, .long v]) (n := 5) (Nat.le_of_ble_eq_true rfl)
  rw [lg_entry_eq]
  generalize (lg_sl ([.ref (A 0), .int a, .int b, .long v]) ++ List.replicate (5 - (lg_sl ([.ref (A 0), .int a, .int b, .long v])).length) Slot.unset).toArray = ls at hl ⊢
  have hl : lv_has ls 5 [(0, .ref (A 0)), (1, .int a), (2, .int b), (3, .long v)] := hl
  refine hm_gen (rm := rm_X4_entry) rfl (fun Qf hQf => ?_)
  refine lv_aload_n hx hb dX4_entry_0 rfl (lv_at hl 0 rfl) ?_
  refine lv_iconst (v := 0) hx hb dX4_entry_1 (by decide) ?_
  refine hm_put (ci := 6) (v := .int 0) (ty := .int) (C := RX4) (T := TX4) (N := 16) hx hb hws kin_X4 tyX4 tyX4_ok nmX4 hown hK.1 hV (md_x hk) rfl 0 (by decide) fl49 (fun _ h9 => h9) rfl (by decide +kernel) rfl rfl (Nat.le_of_ble_eq_true rfl) dX4_entry_2 (fun H locs hV => ?_)
  have hV : hm_V E.1 vwCl (hm_A M sz) s.heap (hm_up M (A 0) (.inr (6, [.int 0, .int (nI cnt), .ref (A 1), .ref (A 2), .ref (A 3), .ref (A 4), .ref (A 5), .int (nI k), .ref (A 6), .int (nI ko), .ref (A 7), .ref (A 8), .ref (A 9), .ref (A 10), .ref (A 11), .ref (A 12)]))) H locs := hV
  obtain ⟨N0, hN0⟩ : ∃ N9 : hm_M, N9 = hm_up M (A 0) (.inr (6, [.int 0, .int (nI cnt), .ref (A 1), .ref (A 2), .ref (A 3), .ref (A 4), .ref (A 5), .int (nI k), .ref (A 6), .int (nI ko), .ref (A 7), .ref (A 8), .ref (A 9), .ref (A 10), .ref (A 11), .ref (A 12)])) := ⟨_, rfl⟩
  have hk : md E (hm_up M (A 0) (.inr (6, [.int 0, .int (nI cnt), .ref (A 1), .ref (A 2), .ref (A 3), .ref (A 4), .ref (A 5), .int (nI k), .ref (A 6), .int (nI ko), .ref (A 7), .ref (A 8), .ref (A 9), .ref (A 10), .ref (A 11), .ref (A 12)]))) A 0 cnt k ko nums t X O := md_ux hk 0 k ko
  rw [← hN0] at hk hV
  have no : (¬ ∃ i j, i < 12 ∧ j < 12 ∧ a = nI i ∧ b = nI j) → ∀ (ls : Array Slot) (H : Heap) (locs : List Loc), lv_has ls 5 [(0, .ref (A 0)), (1, .int a), (2, .int b), (3, .long v)] → hm_V E.1 vwCl (hm_A M sz) s.heap (N0) H locs → W p l e rm_X4_entry s m [.ref (A 0), .int a, .int b, .long v].toArray below meth c H locs 0 0 Qf (F0 m 25 ls []) := by
    intro  hno ls H locs hl hV
    refine lv_iconst (v := 0) hx hb dX4_entry_25 (by decide) ?_
    rw [hQf]
    exact W.zret hx hb hr (rfl) (fun t9 ht hW => ⟨⟨_, N0, rfl, Or.inl ⟨rfl, hno, _, _, _, _, hk⟩, (hm_end hV ht).1⟩, (hm_end hV ht).2⟩) hV.2.2.2.2 dX4_entry_26
  refine lv_iload_n hx hb dX4_entry_5 rfl (lv_at hl 1 rfl) ?_
  refine lv_if_lt (tgt := 25) hx hb dX4_entry_6 (by decide) (fun c6 => ?_) (fun c6 => ?_)
  · exact no (by rintro ⟨i, j, hi, hj, rfl, rfl⟩; exact nI_pos (by omega) c6) ls H locs (lv_sub hl [0, 1, 2, 3] rfl) hV
  · refine lv_iload_n hx hb dX4_entry_9 rfl (lv_at hl 1 rfl) ?_
    refine lv_bipush (v := 12) hx hb dX4_entry_10 (by decide) ?_
    refine lv_icmp_ge (tgt := 25) hx hb dX4_entry_12 (by decide) (fun c12 => ?_) (fun c12 => ?_)
    · exact no (by rintro ⟨i, j, hi, hj, rfl, rfl⟩; exact nI_ge (b := 12) hi (by omega) c12) ls H locs (lv_sub hl [0, 1, 2, 3] rfl) hV
    · refine lv_iload_n hx hb dX4_entry_15 rfl (lv_at hl 2 rfl) ?_
      refine lv_if_lt (tgt := 25) hx hb dX4_entry_16 (by decide) (fun c16 => ?_) (fun c16 => ?_)
      · exact no (by rintro ⟨i, j, hi, hj, rfl, rfl⟩; exact nI_pos (by omega) c16) ls H locs (lv_sub hl [0, 1, 2, 3] rfl) hV
      · refine lv_iload_n hx hb dX4_entry_19 rfl (lv_at hl 2 rfl) ?_
        refine lv_bipush (v := 12) hx hb dX4_entry_20 (by decide) ?_
        refine lv_icmp_lt (tgt := 27) hx hb dX4_entry_22 (by decide) (fun c22 => ?_) (fun c22 => ?_)
        · obtain ⟨i, hi, rfl⟩ := ix12 c6 c12
          obtain ⟨j, hj, rfl⟩ := ix12 c16 (fun h9 => absurd c22 (Int32.not_lt.mpr h9))
          have hl : lv_has ls 5 [(0, .ref (A 0)), (1, .int (nI i)), (2, .int (nI j)), (3, .long v)] := hl
          refine lv_aload_n hx hb dX4_entry_27 rfl (lv_at hl 0 rfl) ?_
          refine hm_get (ci := 6) (v := .ref (A 4)) (C := RX4) (T := TX4) (N := 16) hx hb hws kin_X4 hown hK.1 hV (md_x hk) rfl 5 (by decide) fl20 (fun _ h9 => h9) rfl dX4_entry_28 ?_
          refine lv_bipush (v := 12) hx hb dX4_entry_31 (by decide) ?_
          refine lv_iload_n hx hb dX4_entry_33 rfl (lv_at hl 1 rfl) ?_
          refine lv_imul hx hb dX4_entry_34 ?_
          refine lv_iload_n hx hb dX4_entry_35 rfl (lv_at hl 2 rfl) ?_
          refine lv_iadd hx hb dX4_entry_36 ?_
          refine hm_topi (show ((12 * (nI i)) + (nI j)) = nI (12 * i + j) from nI_12 i j) ?_
          refine lv_lload_n hx hb dX4_entry_37 rfl (lv_at hl 3 rfl) ?_
          refine hm_lastN hx hb hK.1 hV 1 (md_t hk) rfl (k := (12 * i + j)) (by omega) (by omega) dX4_entry_38 (fun H locs hV => ?_)
          have hV : hm_V E.1 vwCl (hm_A M sz) s.heap (hm_up N0 (A 4) (hm_J E 144 (vp_updL (fun j => t (j / 12) (j % 12)) (12 * i + j) v))) H locs := hV
          refine lv_iconst (v := 1) hx hb dX4_entry_39 (by decide) ?_
          rw [hQf]
          exact W.zret hx hb hr (rfl) (fun t9 ht hW => ⟨⟨_, (hm_up N0 (A 4) (hm_J E 144 (vp_updL (fun j => t (j / 12) (j % 12)) (12 * i + j) v))), rfl, Or.inr ⟨rfl, i, j, hi, hj, rfl, rfl, _, _, _, _, md_ut hk hi hj⟩, (hm_end hV ht).1⟩, (hm_end hV ht).2⟩) hV.2.2.2.2 dX4_entry_40
        · exact no (by rintro ⟨i, j, hi, hj, rfl, rfl⟩; exact c22 (nI_lt (b := 12) hj (by omega))) ls H locs (lv_sub hl [0, 1, 2, 3] rfl) hV
