abbrev wd_X4_digit : List Cond := .code yX4_digit cX4_digit 5 (some .int) :: hm_ws
abbrev rm_X4_digit : Room := { frames := 2, cells := 0, slots := 0, locals := 46 }

set_option maxHeartbeats 4000000 in
set_option maxRecDepth 100000 in
/-- digit(a, i) -/
theorem c_X4_digit (l : Launch) (E : hm_E) {M : hm_M} {A : Nat → Nat} {th : Int32} {cnt k ko : Nat} {nums : Nat → Int} {t : Nat → Nat → Int64} {X O : Nat → Int32} {a b : Int32} (hk : md E M A th cnt k ko nums t X O)  : hm_Ci l E yX4_digit wd_X4_digit rm_X4_digit [.ref (A 0), .int a, .int b] M (fun r M1 => (¬ (kn cnt a ∧ kn cnt a) ∧ r = 0 ∧ mq E M1 A 1 cnt nums t) ∨ (∃ i, i < cnt ∧ a = nI i ∧ ((∃ n, (b = nI n ∧ n < 2 ^ 31) ∧ hasD (nums i).natAbs b ∧ r = nI ((nums i).natAbs / 10 ^ n % 10) ∧ mq E M1 A 0 cnt nums t) ∨ (¬ hasD (nums i).natAbs b ∧ r = 0 ∧ mq E M1 A 1 cnt nums t)))) := by
  intro sz
  refine Met.ofW (cc := cX4_digit) (maxL := 5) (ret := (some .int)) (by decide) rfl ?_
  intro p e s m args below meth c s₁ B hml hv
  obtain ⟨rfl, hAe, hA, hK, hV⟩ := hm_start hv
  have hx := B.exec
  have hb := B.bytes
  have hr := B.returns
  have hts := atoms_spec (ws := wd_X4_digit) B.pre
  have hws : ∀ w ∈ hm_ws, w.before _ s = true := fun w h => hts w (List.mem_cons_of_mem _ h)
  have hown : s.vm.findClass RX4 = some m.cls := findClass_of_methodNamed B.named
  have hlocks := B.notSynchronized
  have fl64 := hws _ kw_486
  have fl49 := hws _ kw_479
  have hl := lv_entry ([.ref (A 0), .int a, .int b]) (n := 5) (Nat.le_of_ble_eq_true rfl)
  rw [lg_entry_eq]
  generalize (lg_sl ([.ref (A 0), .int a, .int b]) ++ List.replicate (5 - (lg_sl ([.ref (A 0), .int a, .int b])).length) Slot.unset).toArray = ls at hl ⊢
  have hl : lv_has ls 5 [(0, .ref (A 0)), (1, .int a), (2, .int b)] := hl
  refine hm_gen (rm := rm_X4_digit) rfl (fun Qf hQf => ?_)
  refine lv_aload_n hx hb dX4_digit_0 rfl (lv_at hl 0 rfl) ?_
  refine lv_iload_n hx hb dX4_digit_1 rfl (lv_at hl 1 rfl) ?_
  refine lv_iload_n hx hb dX4_digit_2 rfl (lv_at hl 1 rfl) ?_
  refine hm_calli (va_runV (As := [.int a, .int a]) (rest := []) ⟨hx, hb, hml, hown, hts⟩ (c_X4_areKnown l E hk s.heap.size) (cwV 2 hts (hm_gV kw_561 kw_563 kw_21 kw_41 kw_564) rfl rfl rfl (by decide +kernel) ⟨Nat.le_of_ble_eq_true rfl, Nat.le_of_ble_eq_true rfl⟩) (hm_preV hK hV (md_x hk) rfl) rfl rfl hl.1 rfl (lv_room (Nat.le_of_ble_eq_true rfl)) dX4_digit_3 ⟨Nat.le_of_ble_eq_true rfl, Nat.le_of_ble_eq_true rfl⟩) hV hA (fun r3 M1 H locs hp hV => ?_)
  refine lv_if_ne (tgt := 11) hx hb dX4_digit_6 (by decide) (fun c6 => ?_) (fun c6 => ?_)
  · have hp2 : kn cnt a ∧ kn cnt a ∧ md E M1 A 0 cnt k ko nums t X O := by
      rcases hp with h9 | h9
      · exact h9.2
      · exact absurd h9.1 c6
    obtain ⟨⟨ia, hia, rfl⟩, hkb, hk⟩ := hp2
    have hcn := md_c hk
    have hl : lv_has ls 5 [(0, .ref (A 0)), (1, .int (nI ia)), (2, .int b)] := hl
    obtain ⟨L, S, Bl, hL, hS, hB3, hn⟩ := md_n hk
    obtain ⟨hwa, -, -, -⟩ := hn.1 ia hia
    clear hL hS hB3 hn
    refine lv_aload_n hx hb dX4_digit_11 rfl (lv_at hl 0 rfl) ?_
    refine lv_iload_n hx hb dX4_digit_12 rfl (lv_at hl 1 rfl) ?_
    refine hm_callv (va_runV (As := [.int (nI ia)]) (rest := []) ⟨hx, hb, hml, hown, hts⟩ (c_X4_load l E hk hia H.size) (cwV 1 hts (hm_gV kw_569 kw_571 kw_23 kw_41 kw_572) rfl rfl rfl (by decide +kernel) ⟨Nat.le_of_ble_eq_true rfl, Nat.le_of_ble_eq_true rfl⟩) (hm_preV hK hV (md_x hk) rfl) rfl rfl hl.1 rfl (lv_room (Nat.le_of_ble_eq_true rfl)) dX4_digit_13 ⟨Nat.le_of_ble_eq_true rfl, Nat.le_of_ble_eq_true rfl⟩) hV hA (fun M1 H locs hp hV => ?_)
    have hk := hp
    generalize hve : (nums ia).natAbs = v at hk hwa
    have hv2 := big220 hwa
    refine lv_aload_n hx hb dX4_digit_16 rfl (lv_at hl 0 rfl) ?_
    refine lv_bipush (v := 10) hx hb dX4_digit_17 (by decide) ?_
    refine hm_calli (va_runV (As := [.int 10]) (rest := []) ⟨hx, hb, hml, hown, hts⟩ (c_X4_divideBy l E (q := 10) hk hv2 (by decide) (by decide) H.size) (cwV 1 hts (hm_gV kw_623 kw_625 kw_32 kw_41 kw_626) rfl rfl rfl (by decide +kernel) ⟨Nat.le_of_ble_eq_true rfl, Nat.le_of_ble_eq_true rfl⟩) (hm_preV hK hV (md_x hk) rfl) rfl rfl hl.1 rfl (lv_room (Nat.le_of_ble_eq_true rfl)) dX4_digit_19 ⟨Nat.le_of_ble_eq_true rfl, Nat.le_of_ble_eq_true rfl⟩) hV hA (fun r19 M1 H locs hp hV => ?_)
    obtain ⟨hr19, hk⟩ := hp
    subst hr19
    refine lv_istore_n (lv' := [(3, .int (nI (v % 10))), (0, .ref (A 0)), (1, .int (nI ia)), (2, .int b)]) hx hb dX4_digit_22 rfl hl (by decide) rfl (fun ls hl => ?_)
    refine lv_iconst (v := 0) hx hb dX4_digit_23 (by decide) ?_
    refine lv_istore (lv' := [(4, .int 0), (3, .int (nI (v % 10))), (0, .ref (A 0)), (1, .int (nI ia)), (2, .int b)]) hx hb dX4_digit_24 hl (by decide) rfl (fun ls hl => ?_)
    have fin : ∀ (N : hm_M) (k9 : Nat) (X9 : Nat → Int32) (d9 : Int32), (md E N A 0 cnt k9 ko nums t X9 O) → ((b = 0 ∧ d9 = nI (v % 10)) ∨ (b ≠ 0 ∧ ¬ hasD v b)) → ∀ (ls : Array Slot) (H : Heap) (locs : List Loc), lv_has ls 5 [(0, .ref (A 0)), (1, .int (nI ia)), (2, .int b), (3, .int d9)] → hm_V E.1 vwCl (hm_A M sz) s.heap (N) H locs → W p l e rm_X4_digit s m [.ref (A 0), .int (nI ia), .int b].toArray below meth c H locs 0 0 Qf (F0 m 62 ls []) := by
      intro N k9 X9 d9 hk hz ls H locs hl hV
      refine lv_aload_n hx hb dX4_digit_62 rfl (lv_at hl 0 rfl) ?_
      refine lv_iload_n hx hb dX4_digit_63 rfl (lv_at hl 2 rfl) ?_
      refine lv_if_ne (tgt := 71) hx hb dX4_digit_64 (by decide) (fun c64 => ?_) (fun c64 => ?_)
      · have hz2 : ¬ hasD v b := by
          rcases hz with h9 | h9
          · exact absurd h9.1 c64
          · exact h9.2
        refine lv_iconst (v := 1) hx hb dX4_digit_71 (by decide) ?_
        refine hm_put (ci := 6) (v := .int 1) (ty := .int) (C := RX4) (T := TX4) (N := 16) hx hb hws kin_X4 tyX4 tyX4_ok nmX4 hown hK.1 hV (md_x hk) rfl 0 (by decide) fl49 (fun _ h9 => h9) rfl (by decide +kernel) rfl rfl (Nat.le_of_ble_eq_true rfl) dX4_digit_72 (fun H locs hV => ?_)
        have hV : hm_V E.1 vwCl (hm_A M sz) s.heap (hm_up N (A 0) (.inr (6, [.int 1, .int (nI cnt), .ref (A 1), .ref (A 2), .ref (A 3), .ref (A 4), .ref (A 5), .int (nI k9), .ref (A 6), .int (nI ko), .ref (A 7), .ref (A 8), .ref (A 9), .ref (A 10), .ref (A 11), .ref (A 12)]))) H locs := hV
        refine lv_iload_n hx hb dX4_digit_75 rfl (lv_at hl 2 rfl) ?_
        refine lv_if_ne (tgt := 83) hx hb dX4_digit_76 (by decide) (fun c76 => ?_) (fun c76 => ?_)
        · refine lv_iconst (v := 0) hx hb dX4_digit_83 (by decide) ?_
          rw [hQf]
          exact W.iret hx hb hr (fun t9 ht hW => ⟨⟨_, (hm_up N (A 0) (.inr (6, [.int 1, .int (nI cnt), .ref (A 1), .ref (A 2), .ref (A 3), .ref (A 4), .ref (A 5), .int (nI k9), .ref (A 6), .int (nI ko), .ref (A 7), .ref (A 8), .ref (A 9), .ref (A 10), .ref (A 11), .ref (A 12)]))), rfl, Or.inr ⟨ia, hia, rfl, Or.inr ⟨by rw [hve]; exact hz2, rfl, _, _, _, _, md_ux hk 1 k9 ko⟩⟩, (hm_end hV ht).1⟩, (hm_end hV ht).2⟩) hV.2.2.2.2 dX4_digit_84
        · exact absurd c76 c64
      · have hz2 : d9 = nI (v % 10) := by
          rcases hz with h9 | h9
          · exact h9.2
          · exact absurd c64 h9.1
        refine lv_iconst (v := 0) hx hb dX4_digit_67 (by decide) ?_
        refine lv_goto (tgt := 72) hx hb dX4_digit_68 (by decide) ?_
        refine hm_put (ci := 6) (v := .int 0) (ty := .int) (C := RX4) (T := TX4) (N := 16) hx hb hws kin_X4 tyX4 tyX4_ok nmX4 hown hK.1 hV (md_x hk) rfl 0 (by decide) fl49 (fun _ h9 => h9) rfl (by decide +kernel) rfl rfl (Nat.le_of_ble_eq_true rfl) dX4_digit_72 (fun H locs hV => ?_)
        have hV : hm_V E.1 vwCl (hm_A M sz) s.heap (hm_up N (A 0) (.inr (6, [.int 0, .int (nI cnt), .ref (A 1), .ref (A 2), .ref (A 3), .ref (A 4), .ref (A 5), .int (nI k9), .ref (A 6), .int (nI ko), .ref (A 7), .ref (A 8), .ref (A 9), .ref (A 10), .ref (A 11), .ref (A 12)]))) H locs := hV
        refine lv_iload_n hx hb dX4_digit_75 rfl (lv_at hl 2 rfl) ?_
        refine lv_if_ne (tgt := 83) hx hb dX4_digit_76 (by decide) (fun c76 => ?_) (fun c76 => ?_)
        · exact absurd c64 c76
        · refine lv_iload_n hx hb dX4_digit_79 rfl (lv_at hl 3 rfl) ?_
          refine lv_goto (tgt := 84) hx hb dX4_digit_80 (by decide) ?_
          rw [hQf]
          exact W.iret hx hb hr (fun t9 ht hW => ⟨⟨_, (hm_up N (A 0) (.inr (6, [.int 0, .int (nI cnt), .ref (A 1), .ref (A 2), .ref (A 3), .ref (A 4), .ref (A 5), .int (nI k9), .ref (A 6), .int (nI ko), .ref (A 7), .ref (A 8), .ref (A 9), .ref (A 10), .ref (A 11), .ref (A 12)]))), rfl, Or.inr ⟨ia, hia, rfl, Or.inl ⟨0, ⟨c64, by decide⟩, ⟨0, by decide, c64, Or.inl rfl⟩, by rw [hve, Nat.pow_zero, Nat.div_one]; exact hz2, _, _, _, _, md_ux hk 0 k9 ko⟩⟩, (hm_end hV ht).1⟩, (hm_end hV ht).2⟩) hV.2.2.2.2 dX4_digit_84
    rcases iCase b with hneg | ⟨n, hnn, hbn⟩
    · refine lv_iload hx hb dX4_digit_26 (lv_at hl 0 rfl) ?_
      refine lv_iload_n hx hb dX4_digit_28 rfl (lv_at hl 4 rfl) ?_
      refine lv_icmp_ge (tgt := 62) hx hb dX4_digit_29 (by decide) (fun c29 => ?_) (fun c29 => ?_)
      · exact fin _ _ _ _ hk (Or.inr ⟨fun h9 => by rw [h9] at hneg; exact absurd hneg (by decide), hasD_neg hneg⟩) ls H locs (lv_sub hl [2, 3, 4, 1] rfl) hV
      · exact absurd (Int32.le_of_lt hneg) c29
    · subst hbn
      have hl : lv_has ls 5 [(4, .int 0), (3, .int (nI (v % 10))), (0, .ref (A 0)), (1, .int (nI ia)), (2, .int (nI n))] := hl
      have loop : ∀ (fu : Nat) (N : hm_M) (j : Nat), (j < n ∨ (j = 0 ∧ n = 0)) → (md E N A 0 cnt (sg (v / 10 ^ (j + 1))) ko nums t (fun b9 => nI (dg (v / 10 ^ (j + 1)) b9)) O) → n - j < fu → ∀ (ls : Array Slot) (H : Heap) (locs : List Loc), lv_has ls 5 [(0, .ref (A 0)), (1, .int (nI ia)), (2, .int (nI n)), (3, .int (nI (v / 10 ^ j % 10))), (4, .int (nI j))] → hm_V E.1 vwCl (hm_A M sz) s.heap (N) H locs → W p l e rm_X4_digit s m [.ref (A 0), .int (nI ia), .int (nI n)].toArray below meth c H locs 0 0 Qf (F0 m 26 ls []) := by
        intro fu
        induction fu with
        | zero => intro N j hj hk hfu; exact absurd hfu (Nat.not_lt_zero _)
        | succ fu ih_loop =>
          intro N j hj hk hfu ls H locs hl hV
          have hvj : v / 10 ^ (j + 1) < 65536 ^ 220 := Nat.lt_of_le_of_lt (Nat.div_le_self _ _) hv2
          have hsg := sg_220 (v / 10 ^ (j + 1))
          refine lv_iload hx hb dX4_digit_26 (lv_at hl 4 rfl) ?_
          refine lv_iload_n hx hb dX4_digit_28 rfl (lv_at hl 2 rfl) ?_
          refine lv_icmp_ge (tgt := 62) hx hb dX4_digit_29 (by decide) (fun c29 => ?_) (fun c29 => ?_)
          · have hn0 : j = 0 ∧ n = 0 := by
              have := (nI_leI (by omega) (by omega)).mp c29
              omega
            exact fin _ _ _ _ hk (Or.inl ⟨by rw [hn0.2]; rfl, by rw [hn0.1, Nat.pow_zero, Nat.div_one]⟩) ls H locs (lv_sub hl [0, 1, 2, 3] rfl) hV
          · have hjn : j < n := by
              rcases Nat.lt_or_ge j n with q | q
              · exact q
              · exact absurd (nI_le q (by omega)) c29
            refine lv_aload_n hx hb dX4_digit_32 rfl (lv_at hl 0 rfl) ?_
            refine hm_get (ci := 6) (v := .int (nI (sg (v / 10 ^ (j + 1))))) (C := RX4) (T := TX4) (N := 16) hx hb hws kin_X4 hown hK.1 hV (md_x hk) rfl 7 (by decide) fl64 (fun _ h9 => h9) rfl dX4_digit_33 ?_
            refine lv_if_le (tgt := 62) hx hb dX4_digit_36 (by decide) (fun c36 => ?_) (fun c36 => ?_)
            · have h0 : v / 10 ^ (j + 1) = 0 := by
                have : sg (v / 10 ^ (j + 1)) = 0 := by
                  rcases Nat.eq_zero_or_pos (sg (v / 10 ^ (j + 1))) with q | q
                  · exact q
                  · exact absurd c36 (nI_nle q (by omega))
                exact (sg_0 hvj).mp this
              have hlt : v < 10 ^ n := by
                rcases Nat.lt_or_ge v (10 ^ (j + 1)) with q | q
                · exact Nat.lt_of_lt_of_le q (ten_mono (by omega))
                · have := Nat.div_pos q (Nat.pow_pos (by decide)); omega
              exact fin _ _ _ _ hk (Or.inr ⟨fun h9 => by have := (nI_eq (b := 0) hnn (by omega)).mp h9; omega, hasD_no hnn (by omega) hlt⟩) ls H locs (lv_sub hl [0, 1, 2, 3] rfl) hV
            · have h0 : v / 10 ^ (j + 1) ≠ 0 := fun h9 => c36 (by rw [h9, sg_z]; exact Int32.le_refl _)
              have hle : 10 ^ (j + 1) ≤ v := by
                rcases Nat.lt_or_ge v (10 ^ (j + 1)) with q | q
                · exact absurd (Nat.div_eq_of_lt q) h0
                · exact q
              refine lv_aload_n hx hb dX4_digit_39 rfl (lv_at hl 0 rfl) ?_
              refine lv_bipush (v := 10) hx hb dX4_digit_40 (by decide) ?_
              refine hm_calli (va_runV (As := [.int 10]) (rest := []) ⟨hx, hb, hml, hown, hts⟩ (c_X4_divideBy l E (q := 10) hk hvj (by decide) (by decide) H.size) (cwV 1 hts (hm_gV kw_623 kw_625 kw_32 kw_41 kw_626) rfl rfl rfl (by decide +kernel) ⟨Nat.le_of_ble_eq_true rfl, Nat.le_of_ble_eq_true rfl⟩) (hm_preV hK hV (md_x hk) rfl) rfl rfl hl.1 rfl (lv_room (Nat.le_of_ble_eq_true rfl)) dX4_digit_42 ⟨Nat.le_of_ble_eq_true rfl, Nat.le_of_ble_eq_true rfl⟩) hV hA (fun r42 M1 H locs hp hV => ?_)
              obtain ⟨hr42, hk⟩ := hp
              subst hr42
              rw [pow10] at hk
              refine lv_istore_n (lv' := [(3, .int (nI (v / 10 ^ (j + 1) % 10))), (0, .ref (A 0)), (1, .int (nI ia)), (2, .int (nI n)), (4, .int (nI j))]) hx hb dX4_digit_45 rfl hl (by decide) rfl (fun ls hl => ?_)
              refine lv_iload hx hb dX4_digit_46 (lv_at hl 4 rfl) ?_
              refine lv_iload_n hx hb dX4_digit_48 rfl (lv_at hl 3 rfl) ?_
              refine lv_iconst (v := 1) hx hb dX4_digit_49 (by decide) ?_
              refine lv_isub hx hb dX4_digit_50 ?_
              refine hm_topi (show ((nI n) - 1) = nI (n - 1) from nI_p1 (by omega)) ?_
              refine lv_icmp_ne (tgt := 56) hx hb dX4_digit_51 (by decide) (fun c51 => ?_) (fun c51 => ?_)
              · have hne : j ≠ n - 1 := fun h9 => c51 (by rw [h9])
                refine lv_iinc (v := (nI (j + 1))) (lv' := [(4, .int (nI (j + 1))), (3, .int (nI (v / 10 ^ (j + 1) % 10))), (0, .ref (A 0)), (1, .int (nI ia)), (2, .int (nI n))]) hx hb dX4_digit_56 hl (k := 4) rfl (nI_1 j) (by decide) rfl (fun ls hl => ?_)
                refine lv_goto (tgt := 26) hx hb dX4_digit_59 (by decide) ?_
                exact ih_loop _ (j + 1) (by omega) hk (by omega) ls H locs (lv_sub hl [2, 3, 4, 1, 0] rfl) hV
              · have hne : j + 1 = n := by
                  have := (nI_eq (by omega) (by omega)).mp c51
                  omega
                rw [hne] at hle
                refine lv_iload_n hx hb dX4_digit_54 rfl (lv_at hl 0 rfl) ?_
                rw [hQf]
                exact W.iret hx hb hr (fun t9 ht hW => ⟨⟨_, M1, rfl, Or.inr ⟨ia, hia, rfl, Or.inl ⟨n, ⟨rfl, hnn⟩, ⟨n, hnn, rfl, Or.inr (by rw [hve]; exact hle)⟩, by rw [hve, hne], _, _, _, _, hk⟩⟩, (hm_end hV ht).1⟩, (hm_end hV ht).2⟩) hV.2.2.2.2 dX4_digit_55
      rw [show (nI (v % 10)) = nI (v / 10 ^ 0 % 10) from by rw [Nat.pow_zero, Nat.div_one]] at hl
      have hl : lv_has ls 5 [(4, .int 0), (3, .int (nI (v / 10 ^ 0 % 10))), (0, .ref (A 0)), (1, .int (nI ia)), (2, .int (nI n))] := hl
      exact loop (n + 1) _ 0 (by omega) (by rw [Nat.zero_add, Nat.pow_one]; exact hk) (by omega) ls H locs (lv_sub hl [2, 3, 4, 1, 0] rfl) hV
  · have hp2 : ¬ (kn cnt a ∧ kn cnt a) ∧ md E M1 A 1 cnt k ko nums t X O := by
      rcases hp with h9 | h9
      · rw [h9.1] at c6; exact absurd c6 (by decide)
      · exact h9.2
    obtain ⟨hkn, hk⟩ := hp2
    refine lv_iconst (v := 0) hx hb dX4_digit_9 (by decide) ?_
    rw [hQf]
    exact W.iret hx hb hr (fun t9 ht hW => ⟨⟨_, M1, rfl, Or.inl ⟨hkn, rfl, _, _, _, _, hk⟩, (hm_end hV ht).1⟩, (hm_end hV ht).2⟩) hV.2.2.2.2 dX4_digit_10

abbrev wd_X4_residue : List Cond := .code yX4_residue cX4_residue 9 (some .long) :: hm_ws
abbrev rm_X4_residue : Room := { frames := 2, cells := 0, slots := 0, locals := 43 }

set_option maxHeartbeats 4000000 in
set_option maxRecDepth 100000 in
/-- residue(a, m) -/
theorem c_X4_residue (l : Launch) (E : hm_E) {M : hm_M} {A : Nat → Nat} {th : Int32} {cnt k ko : Nat} {nums : Nat → Int} {t : Nat → Nat → Int64} {X O : Nat → Int32} {a : Int32} {mm : Int64} (hk : md E M A th cnt k ko nums t X O)  : hm_Cl l E yX4_residue wd_X4_residue rm_X4_residue [.ref (A 0), .int a, .long mm] M (fun r M1 => (¬ (kn cnt a ∧ kn cnt a) ∧ r = 0 ∧ mq E M1 A 1 cnt nums t) ∨ (∃ i, i < cnt ∧ a = nI i ∧ ((mm = 0 ∧ r = 0 ∧ mq E M1 A 2 cnt nums t) ∨ (mm ≠ 0 ∧ r = lZ (nums i % (mm.toInt.natAbs : Int)) ∧ mq E M1 A 0 cnt nums t)))) := by
  intro sz
  refine Met.ofW (cc := cX4_residue) (maxL := 9) (ret := (some .long)) (by decide) rfl ?_
  intro p e s m args below meth c s₁ B hml hv
  obtain ⟨rfl, hAe, hA, hK, hV⟩ := hm_start hv
  have hx := B.exec
  have hb := B.bytes
  have hr := B.returns
  have hts := atoms_spec (ws := wd_X4_residue) B.pre
  have hws : ∀ w ∈ hm_ws, w.before _ s = true := fun w h => hts w (List.mem_cons_of_mem _ h)
  have hown : s.vm.findClass RX4 = some m.cls := findClass_of_methodNamed B.named
  have hlocks := B.notSynchronized
  have fl49 := hws _ kw_479
  have fl13 := hws _ kw_482
  have fl7 := hws _ kw_481
  have fl16 := hws _ kw_483
  have ld128 := hws _ kw_643
  have hl := lv_entry ([.ref (A 0), .int a, .long mm]) (n := 9) (Nat.le_of_ble_eq_true rfl)
  rw [lg_entry_eq]
  generalize (lg_sl ([.ref (A 0), .int a, .long mm]) ++ List.replicate (9 - (lg_sl ([.ref (A 0), .int a, .long mm])).length) Slot.unset).toArray = ls at hl ⊢
  have hl : lv_has ls 9 [(0, .ref (A 0)), (1, .int a), (2, .long mm)] := hl
  refine hm_gen (rm := rm_X4_residue) rfl (fun Qf hQf => ?_)
  refine lv_aload_n hx hb dX4_residue_0 rfl (lv_at hl 0 rfl) ?_
  refine lv_iload_n hx hb dX4_residue_1 rfl (lv_at hl 1 rfl) ?_
  refine lv_iload_n hx hb dX4_residue_2 rfl (lv_at hl 1 rfl) ?_
  refine hm_calli (va_runV (As := [.int a, .int a]) (rest := []) ⟨hx, hb, hml, hown, hts⟩ (c_X4_areKnown l E hk s.heap.size) (cwV 2 hts (hm_gV kw_561 kw_563 kw_21 kw_41 kw_564) rfl rfl rfl (by decide +kernel) ⟨Nat.le_of_ble_eq_true rfl, Nat.le_of_ble_eq_true rfl⟩) (hm_preV hK hV (md_x hk) rfl) rfl rfl hl.1 rfl (lv_room (Nat.le_of_ble_eq_true rfl)) dX4_residue_3 ⟨Nat.le_of_ble_eq_true rfl, Nat.le_of_ble_eq_true rfl⟩) hV hA (fun r3 M1 H locs hp hV => ?_)
  refine lv_if_ne (tgt := 11) hx hb dX4_residue_6 (by decide) (fun c6 => ?_) (fun c6 => ?_)
  · have hp2 : kn cnt a ∧ kn cnt a ∧ md E M1 A 0 cnt k ko nums t X O := by
      rcases hp with h9 | h9
      · exact h9.2
      · exact absurd h9.1 c6
    obtain ⟨⟨ia, hia, rfl⟩, hkb, hk⟩ := hp2
    have hcn := md_c hk
    have hl : lv_has ls 9 [(0, .ref (A 0)), (1, .int (nI ia)), (2, .long mm)] := hl
    have thr : ∀ (y : Int32), ((mm = 0 ∧ y = 2) ∨ (mm ≠ 0 ∧ y = 0)) → ∀ (ls : Array Slot) (H : Heap) (locs : List Loc), lv_has ls 9 [(0, .ref (A 0)), (1, .int (nI ia)), (2, .long mm)] → hm_V E.1 vwCl (hm_A M sz) s.heap (M1) H locs → W p l e rm_X4_residue s m [.ref (A 0), .int (nI ia), .long mm].toArray below meth c H locs 0 0 Qf (F0 m 23 ls [.int y, .ref (A 0)]) := by
      intro y hy ls H locs hl hV
      refine hm_put (ci := 6) (v := .int y) (ty := .int) (C := RX4) (T := TX4) (N := 16) hx hb hws kin_X4 tyX4 tyX4_ok nmX4 hown hK.1 hV (md_x hk) rfl 0 (by decide) fl49 (fun _ h9 => h9) rfl (by decide +kernel) rfl rfl (Nat.le_of_ble_eq_true rfl) dX4_residue_23 (fun H locs hV => ?_)
      have hV : hm_V E.1 vwCl (hm_A M sz) s.heap (hm_up M1 (A 0) (.inr (6, [.int y, .int (nI cnt), .ref (A 1), .ref (A 2), .ref (A 3), .ref (A 4), .ref (A 5), .int (nI k), .ref (A 6), .int (nI ko), .ref (A 7), .ref (A 8), .ref (A 9), .ref (A 10), .ref (A 11), .ref (A 12)]))) H locs := hV
      refine lv_aload_n hx hb dX4_residue_26 rfl (lv_at hl 0 rfl) ?_
      refine hm_get (ci := 6) (v := .int y) (C := RX4) (T := TX4) (N := 16) hx hb hws kin_X4 hown hK.1 hV (hm_up_self _ _ _) rfl 0 (by decide) fl49 (fun _ h9 => h9) rfl dX4_residue_27 ?_
      refine lv_if_le (tgt := 35) hx hb dX4_residue_30 (by decide) (fun c30 => ?_) (fun c30 => ?_)
      · have hy2 : mm ≠ 0 ∧ y = 0 := by
          rcases hy with h9 | h9
          · rw [h9.2] at c30; exact absurd c30 (by decide)
          · exact h9
        obtain ⟨hm0, rfl⟩ := hy2
        have hmo := am_le mm
        have hmp : 0 < mm.toInt.natAbs := by
          rcases Nat.eq_zero_or_pos mm.toInt.natAbs with q | q
          · exact absurd (by rw [lZ_of mm, show mm.toInt = 0 by omega]; rfl) hm0
          · exact q
        obtain ⟨N0, hN0⟩ : ∃ N9 : hm_M, N9 = hm_up M1 (A 0) (.inr (6, [.int 0, .int (nI cnt), .ref (A 1), .ref (A 2), .ref (A 3), .ref (A 4), .ref (A 5), .int (nI k), .ref (A 6), .int (nI ko), .ref (A 7), .ref (A 8), .ref (A 9), .ref (A 10), .ref (A 11), .ref (A 12)])) := ⟨_, rfl⟩
        have hk : md E (hm_up M1 (A 0) (.inr (6, [.int 0, .int (nI cnt), .ref (A 1), .ref (A 2), .ref (A 3), .ref (A 4), .ref (A 5), .int (nI k), .ref (A 6), .int (nI ko), .ref (A 7), .ref (A 8), .ref (A 9), .ref (A 10), .ref (A 11), .ref (A 12)]))) A 0 cnt k ko nums t X O := md_ux hk 0 k ko
        rw [← hN0] at hk hV
        obtain ⟨L, S, Bl, hL, hS, hB3, hn⟩ := md_n hk
        obtain ⟨hwa, hSa, hBa, hLa⟩ := hn.1 ia hia
        obtain ⟨he1, he2⟩ := rs_end (x := nums ia) hmp hmo
        generalize hmoe : mm.toInt.natAbs = mo at *
        generalize hve : (nums ia).natAbs = v at *
        have hv2 := big220 hwa
        have hv3 := big100 hwa
        have body : ∀ (ls : Array Slot) (H : Heap) (locs : List Loc), lv_has ls 9 [(0, .ref (A 0)), (1, .int (nI ia)), (2, .long mm)] → hm_V E.1 vwCl (hm_A M sz) s.heap (N0) H locs → W p l e rm_X4_residue s m [.ref (A 0), .int (nI ia), .long mm].toArray below meth c H locs 0 0 Qf (F0 m 47 ls [.long (lN mo)]) := by
          intro   ls H locs hl hV
          refine lv_lstore (lv' := [(4, .long (lN mo)), (0, .ref (A 0)), (1, .int (nI ia)), (2, .long mm)]) hx hb dX4_residue_47 hl (by decide) rfl (fun ls hl => ?_)
          refine lv_lconst (v := 0) hx hb dX4_residue_49 (by decide) ?_
          refine lv_lstore (lv' := [(6, .long 0), (4, .long (lN mo)), (0, .ref (A 0)), (1, .int (nI ia)), (2, .long mm)]) hx hb dX4_residue_50 hl (by decide) rfl (fun ls hl => ?_)
          refine lv_bipush (v := 16) hx hb dX4_residue_52 (by decide) ?_
          refine lv_aload_n hx hb dX4_residue_54 rfl (lv_at hl 2 rfl) ?_
          refine hm_get (ci := 6) (v := .ref (A 2)) (C := RX4) (T := TX4) (N := 16) hx hb hws kin_X4 hown hK.1 hV (md_x hk) rfl 3 (by decide) fl13 (fun _ h9 => h9) rfl dX4_residue_55 ?_
          refine lv_iload_n hx hb dX4_residue_58 rfl (lv_at hl 3 rfl) ?_
          refine hm_ialdN hx hb hK.1 hV 0 hS rfl (k := ia) (by omega) (by omega) dX4_residue_59 ?_
          refine hm_topi (show (nI (S ia)) = nI (sg v) from by rw [hSa]) ?_
          refine lv_imul hx hb dX4_residue_60 ?_
          refine hm_topi (show (16 * (nI (sg v))) = nI (16 * sg v) from nI_16 _) ?_
          refine lv_iconst (v := 1) hx hb dX4_residue_61 (by decide) ?_
          refine lv_isub hx hb dX4_residue_62 ?_
          refine hm_topi (show ((nI (16 * sg v)) - 1) = nP (16 * sg v) from nP_sub _) ?_
          refine lv_istore (lv' := [(8, .int (nP (16 * sg v))), (6, .long 0), (4, .long (lN mo)), (0, .ref (A 0)), (1, .int (nI ia)), (2, .long mm)]) hx hb dX4_residue_63 hl (by decide) rfl (fun ls hl => ?_)
          rw [show 0 = lN (v / 2 ^ (16 * sg v) % mo) from by rw [Nat.div_eq_of_lt (by rw [← two16]; exact sg_lt hv2), Nat.zero_mod]; rfl] at hl
          have hl : lv_has ls 9 [(8, .int (nP (16 * sg v))), (6, .long (lN (v / 2 ^ (16 * sg v) % mo))), (4, .long (lN mo)), (0, .ref (A 0)), (1, .int (nI ia)), (2, .long mm)] := hl
          have loop : ∀ (fu : Nat) (b : Nat), (b ≤ 16 * sg v) → b < fu → ∀ (ls : Array Slot) (H : Heap) (locs : List Loc), lv_has ls 9 [(0, .ref (A 0)), (1, .int (nI ia)), (2, .long mm), (4, .long (lN mo)), (6, .long (lN (v / 2 ^ b % mo))), (8, .int (nP b))] → hm_V E.1 vwCl (hm_A M sz) s.heap (N0) H locs → W p l e rm_X4_residue s m [.ref (A 0), .int (nI ia), .long mm].toArray below meth c H locs 0 0 Qf (F0 m 65 ls []) := by
            intro fu
            induction fu with
            | zero => intro b hb0 hfu; exact absurd hfu (Nat.not_lt_zero _)
            | succ fu ih_loop =>
              intro b hb0 hfu ls H locs hl hV
              refine lv_iload hx hb dX4_residue_65 (lv_at hl 5 rfl) ?_
              refine lv_if_lt (tgt := 130) hx hb dX4_residue_67 (by decide) (fun c67 => ?_) (fun c67 => ?_)
              · have hi0 : b = 0 := by
                  cases b with
                  | zero => rfl
                  | succ j => exact absurd c67 (nI_pos (by omega))
                rw [hi0] at hl
                rw [show (lN (v / 2 ^ 0 % mo)) = lN (v % mo) from by rw [Nat.pow_zero, Nat.div_one]] at hl
                have hl : lv_has ls 9 [(0, .ref (A 0)), (1, .int (nI ia)), (2, .long mm), (4, .long (lN mo)), (6, .long (lN (v % mo))), (8, .int (nP 0))] := hl
                have hvm : v % mo < mo := Nat.mod_lt _ hmp
                have plain : (¬ (nums ia < 0 ∧ v % mo ≠ 0)) → ∀ (ls : Array Slot) (H : Heap) (locs : List Loc), lv_has ls 9 [(0, .ref (A 0)), (1, .int (nI ia)), (2, .long mm), (4, .long (lN mo)), (6, .long (lN (v % mo))), (8, .int (nP 0))] → hm_V E.1 vwCl (hm_A M sz) s.heap (N0) H locs → W p l e rm_X4_residue s m [.ref (A 0), .int (nI ia), .long mm].toArray below meth c H locs 0 0 Qf (F0 m 154 ls []) := by
                  intro  hpl ls H locs hl hV
                  refine lv_lload hx hb dX4_residue_154 (lv_at hl 4 rfl) ?_
                  rw [hQf]
                  exact W.lret hx hb hr (fun t9 ht hW => ⟨⟨_, N0, rfl, Or.inr ⟨ia, hia, rfl, Or.inr ⟨hm0, he2 hpl, _, _, _, _, hk⟩⟩, (hm_end hV ht).1⟩, (hm_end hV ht).2⟩) hV.2.2.2.2 dX4_residue_156
                refine lv_aload_n hx hb dX4_residue_130 rfl (lv_at hl 0 rfl) ?_
                refine hm_get (ci := 6) (v := .ref (A 3)) (C := RX4) (T := TX4) (N := 16) hx hb hws kin_X4 hown hK.1 hV (md_x hk) rfl 4 (by decide) fl16 (fun _ h9 => h9) rfl dX4_residue_131 ?_
                refine lv_iload_n hx hb dX4_residue_134 rfl (lv_at hl 1 rfl) ?_
                refine hm_zaldN hx hb hK.1 hV 2 hB3 rfl (k := ia) (by omega) (by omega) dX4_residue_135 ?_
                refine lv_if_eq (tgt := 154) hx hb dX4_residue_136 (by decide) (fun c136 => ?_) (fun c136 => ?_)
                · exact plain (fun h9 => by rw [hBa, if_pos h9.1] at c136; exact absurd c136 (by decide)) ls H locs (lv_sub hl [0, 1, 2, 3, 4, 5] rfl) hV
                · have hng : nums ia < 0 := Classical.byContradiction (fun h9 => c136 (by rw [hBa, if_neg h9]))
                  refine lv_lload hx hb dX4_residue_139 (lv_at hl 4 rfl) ?_
                  refine lv_lconst (v := 0) hx hb dX4_residue_141 (by decide) ?_
                  refine W.lcmp hx hb dX4_residue_142 ?_
                  refine lv_if_eq (tgt := 154) hx hb dX4_residue_143 (by decide) (fun c143 => ?_) (fun c143 => ?_)
                  · have h0 : v % mo = 0 := (pk_lEQ (by omega) (by omega)).mp (show lN (v % mo) = lN 0 from (lg_cmp_eq _ _).mp c143)
                    exact plain (fun h9 => h9.2 h0) ls H locs (lv_sub hl [0, 1, 2, 3, 4, 5] rfl) hV
                  · have h0 : v % mo ≠ 0 := fun h9 => c143 ((lg_cmp_eq _ _).mpr (by rw [h9]; rfl))
                    refine lv_lload hx hb dX4_residue_146 (lv_at hl 3 rfl) ?_
                    refine lv_lload hx hb dX4_residue_148 (lv_at hl 4 rfl) ?_
                    refine lv_lsub hx hb dX4_residue_150 ?_
                    refine lv_goto (tgt := 156) hx hb dX4_residue_151 (by decide) ?_
                    rw [hQf]
                    exact W.lret hx hb hr (fun t9 ht hW => ⟨⟨_, N0, rfl, Or.inr ⟨ia, hia, rfl, Or.inr ⟨hm0, he1 ⟨hng, h0⟩, _, _, _, _, hk⟩⟩, (hm_end hV ht).1⟩, (hm_end hV ht).2⟩) hV.2.2.2.2 dX4_residue_156
              · obtain ⟨bt, rfl⟩ : ∃ j, b = j + 1 := by
                  cases b with
                  | zero => exact absurd (show nP 0 < 0 from by decide) c67
                  | succ j => exact ⟨j, rfl⟩
                have hcb : v / 2 ^ bt % 2 < 2 := Nat.mod_lt _ (by decide)
                have hR : v / 2 ^ (bt + 1) % mo < mo := Nat.mod_lt _ hmp
                have hst := rs_step hR hcb
                rw [rs_next] at hst
                have hl : lv_has ls 9 [(0, .ref (A 0)), (1, .int (nI ia)), (2, .long mm), (4, .long (lN mo)), (6, .long (lN (v / 2 ^ (bt + 1) % mo))), (8, .int (nI bt))] := hl
                refine lv_lload hx hb dX4_residue_70 (lv_at hl 4 rfl) ?_
                refine lv_iconst (v := 1) hx hb dX4_residue_72 (by decide) ?_
                refine lv_lshl hx hb dX4_residue_73 rfl ?_
                refine lv_aload_n hx hb dX4_residue_74 rfl (lv_at hl 0 rfl) ?_
                refine hm_get (ci := 6) (v := .ref (A 1)) (C := RX4) (T := TX4) (N := 16) hx hb hws kin_X4 hown hK.1 hV (md_x hk) rfl 2 (by decide) fl7 (fun _ h9 => h9) rfl dX4_residue_75 ?_
                refine lv_bipush (v := 104) hx hb dX4_residue_78 (by decide) ?_
                refine lv_iload_n hx hb dX4_residue_80 rfl (lv_at hl 1 rfl) ?_
                refine lv_imul hx hb dX4_residue_81 ?_
                refine lv_iload hx hb dX4_residue_82 (lv_at hl 5 rfl) ?_
                refine lv_bipush (v := 16) hx hb dX4_residue_84 (by decide) ?_
                refine lv_idiv hx hb dX4_residue_86 (by decide) ?_
                refine hm_topi (show ((nI bt) / 16) = nI (bt / 16) from pk_div (d := 16) (by omega) (by decide) (by decide)) ?_
                refine lv_iadd hx hb dX4_residue_87 ?_
                refine hm_topi (show ((104 * (nI ia)) + (nI (bt / 16))) = nI (104 * ia + bt / 16) from nI_104 _ _) ?_
                refine hm_ialdN hx hb hK.1 hV 0 hL rfl (k := (104 * ia + bt / 16)) (by omega) (by omega) dX4_residue_88 ?_
                refine hm_topi (show (nI (L (104 * ia + bt / 16))) = nI (dg v (bt / 16)) from by rw [hLa _ (by omega)]) ?_
                refine lv_iload hx hb dX4_residue_89 (lv_at hl 5 rfl) ?_
                refine lv_bipush (v := 16) hx hb dX4_residue_91 (by decide) ?_
                refine lv_irem hx hb dX4_residue_93 (by decide) ?_
                refine hm_topi (show ((nI bt) - (nI bt) / 16 * 16) = nI (bt % 16) from pk_rem (d := 16) (by omega) (by decide) (by decide)) ?_
                refine lv_ishr hx hb dX4_residue_94 ?_
                refine lv_iconst (v := 1) hx hb dX4_residue_95 (by decide) ?_
                refine lv_iand hx hb dX4_residue_96 ?_
                refine hm_topi (show (((nI (dg v (bt / 16))) >>> ((nI (bt % 16)) &&& 31)) &&& 1) = nI (v / 2 ^ bt % 2) from cv_bit2) ?_
                refine lv_i2l hx hb dX4_residue_97 rfl ?_
                refine hm_topl (show ((nI (v / 2 ^ bt % 2)).toInt64) = lN (v / 2 ^ bt % 2) from nI_l (by omega)) ?_
                refine lv_lor hx hb dX4_residue_98 ?_
                refine hm_topl (show (((lN (v / 2 ^ (bt + 1) % mo)) <<< ((1 : Int32).toInt64 &&& 63)) ||| (lN (v / 2 ^ bt % 2))) = lN (2 * (v / 2 ^ (bt + 1) % mo) + v / 2 ^ bt % 2) from sh_or1 (by omega) hcb) ?_
                refine lv_lstore (lv' := [(6, .long (lN (2 * (v / 2 ^ (bt + 1) % mo) + v / 2 ^ bt % 2))), (0, .ref (A 0)), (1, .int (nI ia)), (2, .long mm), (4, .long (lN mo)), (8, .int (nI bt))]) hx hb dX4_residue_99 hl (by decide) rfl (fun ls hl => ?_)
                refine lv_lload hx hb dX4_residue_101 (lv_at hl 0 rfl) ?_
                refine lv_ldc2 (v := (-9223372036854775808)) hx hb hown ld128 dX4_residue_103 ?_
                refine lv_ladd hx hb dX4_residue_106 ?_
                refine lv_lload hx hb dX4_residue_107 (lv_at hl 4 rfl) ?_
                refine lv_ldc2 (v := (-9223372036854775808)) hx hb hown ld128 dX4_residue_109 ?_
                refine lv_ladd hx hb dX4_residue_112 ?_
                refine W.lcmp hx hb dX4_residue_113 ?_
                refine lv_if_lt (tgt := 124) hx hb dX4_residue_114 (by decide) (fun c114 => ?_) (fun c114 => ?_)
                · have hlt : 2 * (v / 2 ^ (bt + 1) % mo) + v / 2 ^ bt % 2 < mo := (us_lt (by omega) (by omega)).mp ((lg_cmp_lt _ _).mp c114)
                  rw [if_neg (by omega)] at hst
                  rw [show (lN (2 * (v / 2 ^ (bt + 1) % mo) + v / 2 ^ bt % 2)) = lN (v / 2 ^ bt % mo) from by rw [hst]] at hl
                  have hl : lv_has ls 9 [(6, .long (lN (v / 2 ^ bt % mo))), (0, .ref (A 0)), (1, .int (nI ia)), (2, .long mm), (4, .long (lN mo)), (8, .int (nI bt))] := hl
                  refine lv_iinc (v := (nP bt)) (lv' := [(8, .int (nP bt)), (6, .long (lN (v / 2 ^ bt % mo))), (0, .ref (A 0)), (1, .int (nI ia)), (2, .long mm), (4, .long (lN mo))]) hx hb dX4_residue_124 hl (k := 5) rfl (nP_dec bt) (by decide) rfl (fun ls hl => ?_)
                  refine lv_goto (tgt := 65) hx hb dX4_residue_127 (by decide) ?_
                  exact ih_loop bt (by omega) (by omega) ls H locs (lv_sub hl [2, 3, 4, 5, 1, 0] rfl) hV
                · have hlt : mo ≤ 2 * (v / 2 ^ (bt + 1) % mo) + v / 2 ^ bt % 2 := by
                    rcases Nat.lt_or_ge (2 * (v / 2 ^ (bt + 1) % mo) + v / 2 ^ bt % 2) mo with q | q
                    · exact absurd ((lg_cmp_lt _ _).mpr ((us_lt (by omega) (by omega)).mpr q)) c114
                    · exact q
                  rw [if_pos hlt] at hst
                  refine lv_lload hx hb dX4_residue_117 (lv_at hl 0 rfl) ?_
                  refine lv_lload hx hb dX4_residue_119 (lv_at hl 4 rfl) ?_
                  refine lv_lsub hx hb dX4_residue_121 ?_
                  refine hm_topl (show ((lN (2 * (v / 2 ^ (bt + 1) % mo) + v / 2 ^ bt % 2)) - (lN mo)) = lN (v / 2 ^ bt % mo) from by rw [lN_sub hlt, hst]) ?_
                  refine lv_lstore (lv' := [(6, .long (lN (v / 2 ^ bt % mo))), (0, .ref (A 0)), (1, .int (nI ia)), (2, .long mm), (4, .long (lN mo)), (8, .int (nI bt))]) hx hb dX4_residue_122 hl (by decide) rfl (fun ls hl => ?_)
                  refine lv_iinc (v := (nP bt)) (lv' := [(8, .int (nP bt)), (6, .long (lN (v / 2 ^ bt % mo))), (0, .ref (A 0)), (1, .int (nI ia)), (2, .long mm), (4, .long (lN mo))]) hx hb dX4_residue_124 hl (k := 5) rfl (nP_dec bt) (by decide) rfl (fun ls hl => ?_)
                  refine lv_goto (tgt := 65) hx hb dX4_residue_127 (by decide) ?_
                  exact ih_loop bt (by omega) (by omega) ls H locs (lv_sub hl [2, 3, 4, 5, 1, 0] rfl) hV
          exact loop (16 * sg v + 1) (16 * sg v) (Nat.le_refl _) (by omega) ls H locs (lv_sub hl [3, 4, 5, 2, 1, 0] rfl) hV
        refine lv_lload_n hx hb dX4_residue_35 rfl (lv_at hl 2 rfl) ?_
        refine lv_lconst (v := 0) hx hb dX4_residue_36 (by decide) ?_
        refine W.lcmp hx hb dX4_residue_37 ?_
        refine lv_if_ge (tgt := 46) hx hb dX4_residue_38 (by decide) (fun c38 => ?_) (fun c38 => ?_)
        · refine lv_lload_n hx hb dX4_residue_46 rfl (lv_at hl 2 rfl) ?_
          have hv0 : (0 : Int64) ≤ mm := (lg_cmp_ge mm 0).mp c38
          refine hm_topl (show mm = lN mo from by rw [← hmoe]; exact am_pos hv0) ?_
          exact body  ls H locs (lv_sub hl [0, 1, 2] rfl) hV
        · refine lv_lload_n hx hb dX4_residue_41 rfl (lv_at hl 2 rfl) ?_
          refine lv_lneg hx hb dX4_residue_42 ?_
          refine lv_goto (tgt := 47) hx hb dX4_residue_43 (by decide) ?_
          have hv0 : mm < 0 := by
            have h8 : ¬ (0 : Int64) ≤ mm := fun q => c38 ((lg_cmp_ge mm 0).mpr q)
            exact Int64.not_le.mp h8
          refine hm_topl (show (-mm) = lN mo from by rw [← hmoe]; exact am_neg hv0) ?_
          exact body  ls H locs (lv_sub hl [0, 1, 2] rfl) hV
      · have hy2 : mm = 0 ∧ y = 2 := by
          rcases hy with h9 | h9
          · exact h9
          · rw [h9.2] at c30; exact absurd (Int32.le_refl 0) c30
        obtain ⟨hm0, rfl⟩ := hy2
        refine lv_lconst (v := 0) hx hb dX4_residue_33 (by decide) ?_
        rw [hQf]
        exact W.lret hx hb hr (fun t9 ht hW => ⟨⟨_, (hm_up M1 (A 0) (.inr (6, [.int 2, .int (nI cnt), .ref (A 1), .ref (A 2), .ref (A 3), .ref (A 4), .ref (A 5), .int (nI k), .ref (A 6), .int (nI ko), .ref (A 7), .ref (A 8), .ref (A 9), .ref (A 10), .ref (A 11), .ref (A 12)]))), rfl, Or.inr ⟨ia, hia, rfl, Or.inl ⟨hm0, rfl, _, _, _, _, md_ux hk 2 k ko⟩⟩, (hm_end hV ht).1⟩, (hm_end hV ht).2⟩) hV.2.2.2.2 dX4_residue_34
    refine lv_aload_n hx hb dX4_residue_11 rfl (lv_at hl 0 rfl) ?_
    refine lv_lload_n hx hb dX4_residue_12 rfl (lv_at hl 2 rfl) ?_
    refine lv_lconst (v := 0) hx hb dX4_residue_13 (by decide) ?_
    refine W.lcmp hx hb dX4_residue_14 ?_
    refine lv_if_ne (tgt := 22) hx hb dX4_residue_15 (by decide) (fun c15 => ?_) (fun c15 => ?_)
    · have hm0 : mm ≠ 0 := fun h9 => c15 ((lg_cmp_eq mm 0).mpr h9)
      refine lv_iconst (v := 0) hx hb dX4_residue_22 (by decide) ?_
      exact thr 0 (Or.inr ⟨hm0, rfl⟩) ls H locs (lv_sub hl [0, 1, 2] rfl) hV
    · have hm0 : mm = 0 := (lg_cmp_eq mm 0).mp c15
      refine lv_iconst (v := 2) hx hb dX4_residue_18 (by decide) ?_
      refine lv_goto (tgt := 23) hx hb dX4_residue_19 (by decide) ?_
      exact thr 2 (Or.inl ⟨hm0, rfl⟩) ls H locs (lv_sub hl [0, 1, 2] rfl) hV
  · have hp2 : ¬ (kn cnt a ∧ kn cnt a) ∧ md E M1 A 1 cnt k ko nums t X O := by
      rcases hp with h9 | h9
      · rw [h9.1] at c6; exact absurd c6 (by decide)
      · exact h9.2
    obtain ⟨hkn, hk⟩ := hp2
    refine lv_lconst (v := 0) hx hb dX4_residue_9 (by decide) ?_
    rw [hQf]
    exact W.lret hx hb hr (fun t9 ht hW => ⟨⟨_, M1, rfl, Or.inl ⟨hkn, rfl, _, _, _, _, hk⟩, (hm_end hV ht).1⟩, (hm_end hV ht).2⟩) hV.2.2.2.2 dX4_residue_10

abbrev wd_X4_bits : List Cond := .code yX4_bits cX4_bits 3 (some .int) :: hm_ws
abbrev rm_X4_bits : Room := { frames := 0, cells := 0, slots := 0, locals := 0 }

set_option maxHeartbeats 4000000 in
set_option maxRecDepth 100000 in
/-- bits(set) -/
theorem c_X4_bits (l : Launch) (E : hm_E) {M : hm_M} {st : Nat} (hs : st < 4096) : hm_Ci l E yX4_bits wd_X4_bits rm_X4_bits [.int (nI st)] M (fun r M1 => r = nI (pcn st 12) ∧ M1 = M) := by
  intro sz
  refine Met.ofW (cc := cX4_bits) (maxL := 3) (ret := (some .int)) (by decide) rfl ?_
  intro p e s m args below meth c s₁ B hml hv
  obtain ⟨rfl, hAe, hA, hK, hV⟩ := hm_start hv
  have hx := B.exec
  have hb := B.bytes
  have hr := B.returns
  have hts := atoms_spec (ws := wd_X4_bits) B.pre
  have hws : ∀ w ∈ hm_ws, w.before _ s = true := fun w h => hts w (List.mem_cons_of_mem _ h)
  have hown : s.vm.findClass RX4 = some m.cls := findClass_of_methodNamed B.named
  have hlocks := B.notSynchronized
  have hl := lv_entry ([.int (nI st)]) (n := 3) (Nat.le_of_ble_eq_true rfl)
  rw [lg_entry_eq]
  generalize (lg_sl ([.int (nI st)]) ++ List.replicate (3 - (lg_sl ([.int (nI st)])).length) Slot.unset).toArray = ls at hl ⊢
  have hl : lv_has ls 3 [(0, .int (nI st))] := hl
  refine hm_gen (rm := rm_X4_bits) rfl (fun Qf hQf => ?_)
  refine lv_iconst (v := 0) hx hb dX4_bits_0 (by decide) ?_
  refine lv_istore_n (lv' := [(1, .int 0), (0, .int (nI st))]) hx hb dX4_bits_1 rfl hl (by decide) rfl (fun ls hl => ?_)
  refine lv_iconst (v := 0) hx hb dX4_bits_2 (by decide) ?_
  refine lv_istore_n (lv' := [(2, .int 0), (1, .int 0), (0, .int (nI st))]) hx hb dX4_bits_3 rfl hl (by decide) rfl (fun ls hl => ?_)
  have loop : ∀ (fu : Nat) (j : Nat), (j ≤ 12) → 12 - j < fu → ∀ (ls : Array Slot) (H : Heap) (locs : List Loc), lv_has ls 3 [(0, .int (nI st)), (1, .int (nI (pcn st j))), (2, .int (nI j))] → hm_V E.1 vwCl (hm_A M sz) s.heap (M) H locs → W p l e rm_X4_bits s m [.int (nI st)].toArray below meth c H locs 0 0 Qf (F0 m 4 ls []) := by
    intro fu
    induction fu with
    | zero => intro j hj hfu; exact absurd hfu (Nat.not_lt_zero _)
    | succ fu ih_loop =>
      intro j hj hfu ls H locs hl hV
      refine lv_iload_n hx hb dX4_bits_4 rfl (lv_at hl 2 rfl) ?_
      refine lv_bipush (v := 12) hx hb dX4_bits_5 (by decide) ?_
      refine lv_icmp_ge (tgt := 24) hx hb dX4_bits_7 (by decide) (fun c7 => ?_) (fun c7 => ?_)
      · have hj2 : j = 12 := by
          rcases Nat.lt_or_ge j 12 with q | q
          · exact absurd c7 (nI_ge (a := j) (b := 12) q (by omega))
          · omega
        refine lv_iload_n hx hb dX4_bits_24 rfl (lv_at hl 1 rfl) ?_
        rw [hQf]
        exact W.iret hx hb hr (fun t9 ht hW => ⟨⟨_, M, rfl, ⟨by rw [hj2], rfl⟩, (hm_end hV ht).1⟩, (hm_end hV ht).2⟩) hV.2.2.2.2 dX4_bits_25
      · have hj2 : j < 12 := by
          rcases Nat.lt_or_ge j 12 with q | q
          · exact q
          · exact absurd (nI_le (a := 12) (b := j) q (by omega)) c7
        refine lv_iload_n hx hb dX4_bits_10 rfl (lv_at hl 1 rfl) ?_
        refine lv_iload_n hx hb dX4_bits_11 rfl (lv_at hl 0 rfl) ?_
        refine lv_iload_n hx hb dX4_bits_12 rfl (lv_at hl 2 rfl) ?_
        refine lv_ishr hx hb dX4_bits_13 ?_
        refine lv_iconst (v := 1) hx hb dX4_bits_14 (by decide) ?_
        refine lv_iand hx hb dX4_bits_15 ?_
        refine hm_topi (show (((nI st) >>> ((nI j) &&& 31)) &&& 1) = nI (st / 2 ^ j % 2) from bit_at hs hj2) ?_
        refine lv_iadd hx hb dX4_bits_16 ?_
        refine hm_topi (show ((nI (pcn st j)) + (nI (st / 2 ^ j % 2))) = nI (pcn st (j + 1)) from nI_add _ _) ?_
        refine lv_istore_n (lv' := [(1, .int (nI (pcn st (j + 1)))), (0, .int (nI st)), (2, .int (nI j))]) hx hb dX4_bits_17 rfl hl (by decide) rfl (fun ls hl => ?_)
        refine lv_iinc (v := (nI (j + 1))) (lv' := [(2, .int (nI (j + 1))), (1, .int (nI (pcn st (j + 1)))), (0, .int (nI st))]) hx hb dX4_bits_18 hl (k := 2) rfl (nI_1 j) (by decide) rfl (fun ls hl => ?_)
        refine lv_goto (tgt := 4) hx hb dX4_bits_21 (by decide) ?_
        exact ih_loop (j + 1) (by omega) (by omega) ls H locs (lv_sub hl [2, 1, 0] rfl) hV
  exact loop 13 0 (by omega) (by omega) ls s.heap [] (lv_sub hl [2, 1, 0] rfl) hV

abbrev wd_X4_product : List Cond := .code yX4_product cX4_product 15 none :: hm_ws
abbrev rm_X4_product : Room := { frames := 0, cells := 0, slots := 0, locals := 0 }

set_option maxHeartbeats 4000000 in
set_option maxRecDepth 100000 in
/-- product(v, set, to) -/
theorem c_X4_product (l : Launch) (E : hm_E) {M : hm_M} {A : Nat → Nat} {th : Int32} {cnt k ko : Nat} {nums : Nat → Int} {t : Nat → Nat → Int64} {X O : Nat → Int32} {v : Int64} {st m0 : Nat} {mi : Nat → Nat} {mb f10 : Nat → Int32} (hk : md E M A th cnt k ko nums t X O) (h8 : M (A 8) = some (hm_I E 212992 (fun j => nI (mi j)))) (h10 : M (A 10) = some (hm_I E 60 f10)) (hs : st < 4096) (hrow : ∀ j, j < 52 → mi (52 * st + j) = dg m0 j) (hm : m0 < 65536 ^ 51) : hm_Cv l E yX4_product wd_X4_product rm_X4_product [.ref (A 0), .long v, .int (nI st), .ref (A 10)] M (fun M1 => M1 = hm_up M (A 10) (hm_I E 60 (fun j => nI (dg (v.toInt.natAbs * m0) j)))) := by
  intro sz
  refine Met.ofW (cc := cX4_product) (maxL := 15) (ret := none) (by decide) rfl ?_
  intro p e s m args below meth c s₁ B hml hv
  obtain ⟨rfl, hAe, hA, hK, hV⟩ := hm_start hv
  have hx := B.exec
  have hb := B.bytes
  have hr := B.returns
  have hts := atoms_spec (ws := wd_X4_product) B.pre
  have hws : ∀ w ∈ hm_ws, w.before _ s = true := fun w h => hts w (List.mem_cons_of_mem _ h)
  have hown : s.vm.findClass RX4 = some m.cls := findClass_of_methodNamed B.named
  have hlocks := B.notSynchronized
  have fl34 := hws _ kw_490
  have ld70 := hws _ kw_545
  have hl := lv_entry ([.ref (A 0), .long v, .int (nI st), .ref (A 10)]) (n := 15) (Nat.le_of_ble_eq_true rfl)
  rw [lg_entry_eq]
  generalize (lg_sl ([.ref (A 0), .long v, .int (nI st), .ref (A 10)]) ++ List.replicate (15 - (lg_sl ([.ref (A 0), .long v, .int (nI st), .ref (A 10)])).length) Slot.unset).toArray = ls at hl ⊢
  have hl : lv_has ls 15 [(0, .ref (A 0)), (1, .long v), (3, .int (nI st)), (4, .ref (A 10))] := hl
  refine hm_gen (rm := rm_X4_product) rfl (fun Qf hQf => ?_)
  have hu := am_le v
  have hu2 : v.toInt.natAbs < 2 ^ 64 := by omega
  have hV : hm_V E.1 vwCl (hm_A M sz) s.heap (hm_up M (A 10) (hm_I E 60 (fun j => if j < 0 then nI 0 else f10 j))) s.heap [] := by rw [hm_up_id ((h10).trans (congrArg (fun f9 => some (hm_I E 60 f9)) (clr_0 f10)))]; exact hV
  refine lv_iconst (v := 0) hx hb dX4_product_0 (by decide) ?_
  refine lv_istore (lv' := [(5, .int 0), (0, .ref (A 0)), (1, .long v), (3, .int (nI st)), (4, .ref (A 10))]) hx hb dX4_product_1 hl (by decide) rfl (fun ls hl => ?_)
  have clr : ∀ (fu : Nat) (i : Nat), (i ≤ 60) → 60 - i < fu → ∀ (ls : Array Slot) (H : Heap) (locs : List Loc), lv_has ls 15 [(0, .ref (A 0)), (1, .long v), (3, .int (nI st)), (4, .ref (A 10)), (5, .int (nI i))] → hm_V E.1 vwCl (hm_A M sz) s.heap (hm_up M (A 10) (hm_I E 60 (fun j => if j < i then nI 0 else f10 j))) H locs → W p l e rm_X4_product s m [.ref (A 0), .long v, .int (nI st), .ref (A 10)].toArray below meth c H locs 0 0 Qf (F0 m 3 ls []) := by
    intro fu
    induction fu with
    | zero => intro i hi hfu; exact absurd hfu (Nat.not_lt_zero _)
    | succ fu ih_clr =>
      intro i hi hfu ls H locs hl hV
      refine lv_iload hx hb dX4_product_3 (lv_at hl 4 rfl) ?_
      refine lv_bipush (v := 60) hx hb dX4_product_5 (by decide) ?_
      refine lv_icmp_ge (tgt := 22) hx hb dX4_product_7 (by decide) (fun c7 => ?_) (fun c7 => ?_)
      · have hi2 : i = 60 := by
          rcases Nat.lt_or_ge i 60 with q | q
          · exact absurd c7 (nI_ge (a := i) (b := 60) q (by omega))
          · omega
        have hV := hm_rpI (fun j => nI (dg 0 j)) hV (hm_up_self _ _ _) (fun j hj => by rw [if_pos (by omega), dg_0])
        rw [hm_u0] at hV
        have hV : hm_V E.1 vwCl (hm_A M sz) s.heap (hm_up M (A 10) (hm_I E 60 (fun j => nI (dg 0 j)))) H locs := hV
        generalize hve : v.toInt.natAbs = av at hu hu2 hQf
        have body : ∀ (ls : Array Slot) (H : Heap) (locs : List Loc), lv_has ls 15 [(0, .ref (A 0)), (1, .long v), (3, .int (nI st)), (4, .ref (A 10))] → hm_V E.1 vwCl (hm_A M sz) s.heap (hm_up M (A 10) (hm_I E 60 (fun j => nI (dg 0 j)))) H locs → W p l e rm_X4_product s m [.ref (A 0), .long v, .int (nI st), .ref (A 10)].toArray below meth c H locs 0 0 Qf (F0 m 34 ls [.long (lN av)]) := by
          intro   ls H locs hl hV
          have hV : hm_V E.1 vwCl (hm_A M sz) s.heap (hm_up (hm_up M (A 10) (hm_I E 60 (fun j => nI (dg 0 j)))) (A 10) (hm_I E 60 (fun j => nI (dg (av % 65536 ^ 0 * m0) j)))) H locs := by rw [hm_up_id (((hm_up_self _ _ _)).trans (congrArg (fun f9 => some (hm_I E 60 f9)) (by rw [Nat.pow_zero, Nat.mod_one, Nat.zero_mul])))]; exact hV
          rw [hm_up_up] at hV
          refine lv_lstore (lv' := [(5, .long (lN av)), (0, .ref (A 0)), (1, .long v), (3, .int (nI st)), (4, .ref (A 10))]) hx hb dX4_product_34 hl (by decide) rfl (fun ls hl => ?_)
          refine lv_iconst (v := 0) hx hb dX4_product_36 (by decide) ?_
          refine lv_istore (lv' := [(7, .int 0), (5, .long (lN av)), (0, .ref (A 0)), (1, .long v), (3, .int (nI st)), (4, .ref (A 10))]) hx hb dX4_product_37 hl (by decide) rfl (fun ls hl => ?_)
          have outer : ∀ (fu : Nat) (i : Nat), (i ≤ 4) → 4 - i < fu → ∀ (ls : Array Slot) (H : Heap) (locs : List Loc), lv_has ls 15 [(0, .ref (A 0)), (1, .long v), (3, .int (nI st)), (4, .ref (A 10)), (5, .long (lN av)), (7, .int (nI i))] → hm_V E.1 vwCl (hm_A M sz) s.heap (hm_up M (A 10) (hm_I E 60 (fun j => nI (dg (av % 65536 ^ i * m0) j)))) H locs → W p l e rm_X4_product s m [.ref (A 0), .long v, .int (nI st), .ref (A 10)].toArray below meth c H locs 0 0 Qf (F0 m 39 ls []) := by
            intro fu
            induction fu with
            | zero => intro i hi hfu; exact absurd hfu (Nat.not_lt_zero _)
            | succ fu ih_outer =>
              intro i hi hfu ls H locs hl hV
              refine lv_iload hx hb dX4_product_39 (lv_at hl 5 rfl) ?_
              refine lv_iconst (v := 4) hx hb dX4_product_41 (by decide) ?_
              refine lv_icmp_ge (tgt := 137) hx hb dX4_product_42 (by decide) (fun c42 => ?_) (fun c42 => ?_)
              · have hi3 : i = 4 := by
                  rcases Nat.lt_or_ge i 4 with q | q
                  · exact absurd c42 (nI_ge (a := i) (b := 4) q (by omega))
                  · omega
                rw [hi3, Nat.mod_eq_of_lt (show av < 65536 ^ 4 from hu2)] at hV
                rw [hQf]
                exact W.vret hx hb hr (fun t9 ht hW => ⟨⟨(hm_up M (A 10) (hm_I E 60 (fun j => nI (dg (av * m0) j)))), rfl, rfl, (hm_end hV ht).1⟩, (hm_end hV ht).2⟩) hV.2.2.2.2 dX4_product_137
              · have hi3 : i < 4 := by
                  rcases Nat.lt_or_ge i 4 with q | q
                  · exact q
                  · exact absurd (nI_le (a := 4) (b := i) q (by omega)) c42
                have hwi := dg_lt av i
                have hPi : av % 65536 ^ i * m0 < 65536 ^ 60 := Nat.lt_of_lt_of_le (mp_lt hm) (w16_le (by omega))
                refine lv_lload hx hb dX4_product_45 (lv_at hl 4 rfl) ?_
                refine lv_bipush (v := 16) hx hb dX4_product_47 (by decide) ?_
                refine lv_iload hx hb dX4_product_49 (lv_at hl 5 rfl) ?_
                refine lv_imul hx hb dX4_product_51 ?_
                refine hm_topi (show (16 * (nI i)) = nI (16 * i) from nI_16 i) ?_
                refine lv_lushr hx hb dX4_product_52 rfl ?_
                refine lv_ldc2 (v := 65535) hx hb hown ld70 dX4_product_53 ?_
                refine lv_land hx hb dX4_product_56 ?_
                refine hm_topl (show ((((lN av).toUInt64 >>> ((nI (16 * i)).toInt64.toUInt64 &&& Int64.toUInt64 63)).toInt64) &&& 65535) = lZ ((dg av i : Nat) : Int) from ld16L hu2 hi3) ?_
                refine lv_lstore (lv' := [(8, .long (lZ ((dg av i : Nat) : Int))), (0, .ref (A 0)), (1, .long v), (3, .int (nI st)), (4, .ref (A 10)), (5, .long (lN av)), (7, .int (nI i))]) hx hb dX4_product_57 hl (by decide) rfl (fun ls hl => ?_)
                refine lv_lconst (v := 0) hx hb dX4_product_59 (by decide) ?_
                refine lv_lstore (lv' := [(10, .long 0), (8, .long (lZ ((dg av i : Nat) : Int))), (0, .ref (A 0)), (1, .long v), (3, .int (nI st)), (4, .ref (A 10)), (5, .long (lN av)), (7, .int (nI i))]) hx hb dX4_product_60 hl (by decide) rfl (fun ls hl => ?_)
                refine lv_iconst (v := 0) hx hb dX4_product_62 (by decide) ?_
                refine lv_istore (lv' := [(12, .int 0), (10, .long 0), (8, .long (lZ ((dg av i : Nat) : Int))), (0, .ref (A 0)), (1, .long v), (3, .int (nI st)), (4, .ref (A 10)), (5, .long (lN av)), (7, .int (nI i))]) hx hb dX4_product_63 hl (by decide) rfl (fun ls hl => ?_)
                rw [show 0 = lZ ((0 : Nat) : Int) from rfl] at hl
                have hl : lv_has ls 15 [(12, .int 0), (10, .long (lZ ((0 : Nat) : Int))), (8, .long (lZ ((dg av i : Nat) : Int))), (0, .ref (A 0)), (1, .long v), (3, .int (nI st)), (4, .ref (A 10)), (5, .long (lN av)), (7, .int (nI i))] := hl
                have inner : ∀ (fu : Nat) (d : Nat → Nat) (j : Nat) (cy : Nat), (j ≤ 52) → (cy < 65536) → (∀ a, a < 60 → d a < 65536) → (hid (nu_v 65536 d 60 + cy * 65536 ^ (i + j) = av % 65536 ^ i * m0 + dg av i * 65536 ^ i * (m0 % 65536 ^ j))) → 52 - j < fu → ∀ (ls : Array Slot) (H : Heap) (locs : List Loc), lv_has ls 15 [(0, .ref (A 0)), (1, .long v), (3, .int (nI st)), (4, .ref (A 10)), (5, .long (lN av)), (7, .int (nI i)), (8, .long (lZ ((dg av i : Nat) : Int))), (10, .long (lZ ((cy : Nat) : Int))), (12, .int (nI j))] → hm_V E.1 vwCl (hm_A M sz) s.heap (hm_up M (A 10) (hm_I E 60 (fun a => nI (d a)))) H locs → W p l e rm_X4_product s m [.ref (A 0), .long v, .int (nI st), .ref (A 10)].toArray below meth c H locs 0 0 Qf (F0 m 65 ls []) := by
                  intro fu
                  induction fu with
                  | zero => intro d j cy hj hcy hd he hfu; exact absurd hfu (Nat.not_lt_zero _)
                  | succ fu ih_inner =>
                    intro d j cy hj hcy hd he hfu ls H locs hl hV
                    refine lv_iload hx hb dX4_product_65 (lv_at hl 8 rfl) ?_
                    refine lv_bipush (v := 52) hx hb dX4_product_67 (by decide) ?_
                    refine lv_icmp_ge (tgt := 131) hx hb dX4_product_69 (by decide) (fun c69 => ?_) (fun c69 => ?_)
                    · have hj2 : j = 52 := by
                        rcases Nat.lt_or_ge j 52 with q | q
                        · exact absurd c69 (nI_ge (a := j) (b := 52) q (by omega))
                        · omega
                      have hcy0 : cy = 0 := mp_end (k := 51) he (by rw [← Nat.pow_add]; exact mp_lt hm) (by rw [Nat.mul_comm (65536 ^ i), ← mp_row]; exact mp_lt hm) (by omega) hm
                      have hval : nu_v 65536 d 60 = av % 65536 ^ (i + 1) * m0 := by
                        have h9 : nu_v 65536 d 60 + cy * 65536 ^ (i + j) = av % 65536 ^ i * m0 + dg av i * 65536 ^ i * (m0 % 65536 ^ j) := he
                        rw [hcy0, Nat.zero_mul, Nat.add_zero, Nat.mod_eq_of_lt (Nat.lt_of_lt_of_le hm (w16_le (show 51 ≤ j by omega)))] at h9
                        rw [h9, mp_row]
                      have hV := hm_rpI (fun j => nI (dg (av % 65536 ^ (i + 1) * m0) j)) hV (hm_up_self _ _ _) (fun a ha => by rw [dg_of hd hval ha])
                      rw [hm_u0] at hV
                      have hV : hm_V E.1 vwCl (hm_A M sz) s.heap (hm_up M (A 10) (hm_I E 60 (fun j => nI (dg (av % 65536 ^ (i + 1) * m0) j)))) H locs := hV
                      refine lv_iinc (v := (nI (i + 1))) (lv' := [(7, .int (nI (i + 1))), (0, .ref (A 0)), (1, .long v), (3, .int (nI st)), (4, .ref (A 10)), (5, .long (lN av)), (8, .long (lZ ((dg av i : Nat) : Int))), (10, .long (lZ ((cy : Nat) : Int))), (12, .int (nI j))]) hx hb dX4_product_131 hl (k := 5) rfl (nI_1 i) (by decide) rfl (fun ls hl => ?_)
                      refine lv_goto (tgt := 39) hx hb dX4_product_134 (by decide) ?_
                      exact ih_outer (i + 1) (by omega) (by omega) ls H locs (lv_sub hl [1, 2, 3, 4, 5, 0] rfl) hV
                    · have hj2 : j < 52 := by
                        rcases Nat.lt_or_ge j 52 with q | q
                        · exact q
                        · exact absurd (nI_le (a := 52) (b := j) q (by omega)) c69
                      have hij : i + j < 60 := by omega
                      have huj := dg_lt m0 j
                      have hdj := hd (i + j) hij
                      have hVV := mp_v hwi huj hdj hcy
                      refine lv_lload hx hb dX4_product_72 (lv_at hl 6 rfl) ?_
                      refine lv_aload_n hx hb dX4_product_74 rfl (lv_at hl 0 rfl) ?_
                      refine hm_get (ci := 6) (v := .ref (A 8)) (C := RX4) (T := TX4) (N := 16) hx hb hws kin_X4 hown hK.1 hV ((hm_up_ne _ _ (md_ap hk (i := 0) (j := 10) (by decide) (by decide) (by decide))).trans (md_x hk)) rfl 11 (by decide) fl34 (fun _ h9 => h9) rfl dX4_product_75 ?_
                      refine lv_bipush (v := 52) hx hb dX4_product_78 (by decide) ?_
                      refine lv_iload_n hx hb dX4_product_80 rfl (lv_at hl 2 rfl) ?_
                      refine lv_imul hx hb dX4_product_81 ?_
                      refine lv_iload hx hb dX4_product_82 (lv_at hl 8 rfl) ?_
                      refine lv_iadd hx hb dX4_product_84 ?_
                      refine hm_topi (show ((52 * (nI st)) + (nI j)) = nI (52 * st + j) from nI_52 _ _) ?_
                      refine hm_ialdN hx hb hK.1 hV 0 ((hm_up_ne _ _ (md_ap hk (i := 8) (j := 10) (by decide) (by decide) (by decide))).trans h8) rfl (k := (52 * st + j)) (by omega) (by omega) dX4_product_85 ?_
                      refine hm_topi (show (nI (mi (52 * st + j))) = nI (dg m0 j) from by rw [hrow j hj2]) ?_
                      refine lv_i2l hx hb dX4_product_86 rfl ?_
                      refine hm_topl (show ((nI (dg m0 j)).toInt64) = lZ ((dg m0 j : Nat) : Int) from nI_lZ (by omega)) ?_
                      refine lv_lmul hx hb dX4_product_87 ?_
                      refine hm_topl (show ((lZ ((dg av i : Nat) : Int)) * (lZ ((dg m0 j : Nat) : Int))) = lZ ((dg av i * dg m0 j : Nat) : Int) from (lZ_mul _ _).trans (by rw [Int.natCast_mul])) ?_
                      refine lv_aload hx hb dX4_product_88 (lv_at hl 3 rfl) ?_
                      refine lv_iload hx hb dX4_product_90 (lv_at hl 5 rfl) ?_
                      refine lv_iload hx hb dX4_product_92 (lv_at hl 8 rfl) ?_
                      refine lv_iadd hx hb dX4_product_94 ?_
                      refine hm_topi (show ((nI i) + (nI j)) = nI (i + j) from nI_add i j) ?_
                      refine hm_ialdN hx hb hK.1 hV 0 (hm_up_self _ _ _) rfl (k := (i + j)) (by omega) (by omega) dX4_product_95 ?_
                      refine lv_i2l hx hb dX4_product_96 rfl ?_
                      refine hm_topl (show ((nI (d (i + j))).toInt64) = lZ ((d (i + j) : Nat) : Int) from nI_lZ (by omega)) ?_
                      refine lv_ladd hx hb dX4_product_97 ?_
                      refine hm_topl (show ((lZ ((dg av i * dg m0 j : Nat) : Int)) + (lZ ((d (i + j) : Nat) : Int))) = lZ ((dg av i * dg m0 j + d (i + j) : Nat) : Int) from (lZ_add _ _).trans (by rw [Int.natCast_add (dg av i * dg m0 j)])) ?_
                      refine lv_lload hx hb dX4_product_98 (lv_at hl 7 rfl) ?_
                      refine lv_ladd hx hb dX4_product_100 ?_
                      refine hm_topl (show ((lZ ((dg av i * dg m0 j + d (i + j) : Nat) : Int)) + (lZ ((cy : Nat) : Int))) = lZ ((dg av i * dg m0 j + d (i + j) + cy : Nat) : Int) from (lZ_add _ _).trans (by rw [Int.natCast_add (dg av i * dg m0 j + d (i + j))])) ?_
                      refine lv_lstore (lv' := [(13, .long (lZ ((dg av i * dg m0 j + d (i + j) + cy : Nat) : Int))), (0, .ref (A 0)), (1, .long v), (3, .int (nI st)), (4, .ref (A 10)), (5, .long (lN av)), (7, .int (nI i)), (8, .long (lZ ((dg av i : Nat) : Int))), (10, .long (lZ ((cy : Nat) : Int))), (12, .int (nI j))]) hx hb dX4_product_101 hl (by decide) rfl (fun ls hl => ?_)
                      refine lv_aload hx hb dX4_product_103 (lv_at hl 4 rfl) ?_
                      refine lv_iload hx hb dX4_product_105 (lv_at hl 6 rfl) ?_
                      refine lv_iload hx hb dX4_product_107 (lv_at hl 9 rfl) ?_
                      refine lv_iadd hx hb dX4_product_109 ?_
                      refine hm_topi (show ((nI i) + (nI j)) = nI (i + j) from nI_add i j) ?_
                      refine lv_lload hx hb dX4_product_110 (lv_at hl 0 rfl) ?_
                      refine lv_ldc2 (v := 65535) hx hb hown ld70 dX4_product_112 ?_
                      refine lv_land hx hb dX4_product_115 ?_
                      refine hm_topl (show ((lZ ((dg av i * dg m0 j + d (i + j) + cy : Nat) : Int)) &&& 65535) = lZ (((dg av i * dg m0 j + d (i + j) + cy) % 65536 : Nat) : Int) from lN_m16 _) ?_
                      refine lv_l2i hx hb dX4_product_116 rfl ?_
                      refine hm_topi (show ((lZ (((dg av i * dg m0 j + d (i + j) + cy) % 65536 : Nat) : Int)).toInt32) = nI ((dg av i * dg m0 j + d (i + j) + cy) % 65536) from lZ_nI _) ?_
                      refine hm_iastN hx hb hK.1 hV 0 (hm_up_self _ _ _) rfl (k := (i + j)) (by omega) (by omega) dX4_product_117 (fun H locs hV => ?_)
                      rw [show (upd (fun a => nI (d a)) (i + j) (nI ((dg av i * dg m0 j + d (i + j) + cy) % 65536))) = (fun a => nI (if a = i + j then (dg av i * dg m0 j + d (i + j) + cy) % 65536 else d a)) from upd_nI d (i + j) ((dg av i * dg m0 j + d (i + j) + cy) % 65536)] at hV
                      rw [hm_u0] at hV
                      have hV : hm_V E.1 vwCl (hm_A M sz) s.heap (hm_up M (A 10) (hm_I E 60 (fun a => nI (if a = i + j then (dg av i * dg m0 j + d (i + j) + cy) % 65536 else d a)))) H locs := hV
                      refine lv_lload hx hb dX4_product_118 (lv_at hl 0 rfl) ?_
                      refine lv_bipush (v := 16) hx hb dX4_product_120 (by decide) ?_
                      refine lv_lshr hx hb dX4_product_122 rfl ?_
                      refine hm_topl (show ((lZ ((dg av i * dg m0 j + d (i + j) + cy : Nat) : Int)) >>> ((16 : Int32).toInt64 &&& 63)) = lZ (((dg av i * dg m0 j + d (i + j) + cy) / 65536 : Nat) : Int) from lN_s16 (by omega)) ?_
                      refine lv_lstore (lv' := [(10, .long (lZ (((dg av i * dg m0 j + d (i + j) + cy) / 65536 : Nat) : Int))), (13, .long (lZ ((dg av i * dg m0 j + d (i + j) + cy : Nat) : Int))), (0, .ref (A 0)), (1, .long v), (3, .int (nI st)), (4, .ref (A 10)), (5, .long (lN av)), (7, .int (nI i)), (8, .long (lZ ((dg av i : Nat) : Int))), (12, .int (nI j))]) hx hb dX4_product_123 hl (by decide) rfl (fun ls hl => ?_)
                      refine lv_iinc (v := (nI (j + 1))) (lv' := [(12, .int (nI (j + 1))), (10, .long (lZ (((dg av i * dg m0 j + d (i + j) + cy) / 65536 : Nat) : Int))), (13, .long (lZ ((dg av i * dg m0 j + d (i + j) + cy : Nat) : Int))), (0, .ref (A 0)), (1, .long v), (3, .int (nI st)), (4, .ref (A 10)), (5, .long (lN av)), (7, .int (nI i)), (8, .long (lZ ((dg av i : Nat) : Int)))]) hx hb dX4_product_125 hl (k := 9) rfl (nI_1 j) (by decide) rfl (fun ls hl => ?_)
                      refine lv_goto (tgt := 65) hx hb dX4_product_128 (by decide) ?_
                      exact ih_inner (fun a => if a = i + j then (dg av i * dg m0 j + d (i + j) + cy) % 65536 else d a) (j + 1) ((dg av i * dg m0 j + d (i + j) + cy) / 65536) (by omega) (by omega) (fun a ha => by
                        show (if a = i + j then _ else _) < _
                        split
                        · exact Nat.mod_lt _ (by decide)
                        · exact hd a ha) (mp_step hij rfl he) (by omega) ls H locs (lv_sub hl [3, 4, 5, 6, 7, 8, 9, 1, 0] rfl) hV
                have he0 : hid (nu_v 65536 (dg (av % 65536 ^ i * m0)) 60 + 0 * 65536 ^ (i + 0) = av % 65536 ^ i * m0 + dg av i * 65536 ^ i * (m0 % 65536 ^ 0)) := by
                  show _ = _
                  rw [dg_w hPi, Nat.pow_zero, Nat.mod_one, Nat.zero_mul, Nat.mul_zero]
                exact inner 53 (dg (av % 65536 ^ i * m0)) 0 0 (by omega) (by omega) (fun a _ => dg_lt _ a) he0 (by omega) ls H locs (lv_sub hl [3, 4, 5, 6, 7, 8, 2, 1, 0] rfl) hV
          exact outer 5 0 (by omega) (by omega) ls H locs (lv_sub hl [2, 3, 4, 5, 1, 0] rfl) hV
        refine lv_lload_n hx hb dX4_product_22 rfl (lv_at hl 1 rfl) ?_
        refine lv_lconst (v := 0) hx hb dX4_product_23 (by decide) ?_
        refine W.lcmp hx hb dX4_product_24 ?_
        refine lv_if_ge (tgt := 33) hx hb dX4_product_25 (by decide) (fun c25 => ?_) (fun c25 => ?_)
        · refine lv_lload_n hx hb dX4_product_33 rfl (lv_at hl 1 rfl) ?_
          have hv0 : (0 : Int64) ≤ v := (lg_cmp_ge v 0).mp c25
          refine hm_topl (show v = lN av from by rw [← hve]; exact am_pos hv0) ?_
          exact body  ls H locs (lv_sub hl [0, 1, 2, 3] rfl) hV
        · refine lv_lload_n hx hb dX4_product_28 rfl (lv_at hl 1 rfl) ?_
          refine lv_lneg hx hb dX4_product_29 ?_
          refine lv_goto (tgt := 34) hx hb dX4_product_30 (by decide) ?_
          have hv0 : v < 0 := by
            have h8 : ¬ (0 : Int64) ≤ v := fun q => c25 ((lg_cmp_ge v 0).mpr q)
            exact Int64.not_le.mp h8
          refine hm_topl (show (-v) = lN av from by rw [← hve]; exact am_neg hv0) ?_
          exact body  ls H locs (lv_sub hl [0, 1, 2, 3] rfl) hV
      · have hi2 : i < 60 := by
          rcases Nat.lt_or_ge i 60 with q | q
          · exact q
          · exact absurd (nI_le (a := 60) (b := i) q (by omega)) c7
        refine lv_aload hx hb dX4_product_10 (lv_at hl 3 rfl) ?_
        refine lv_iload hx hb dX4_product_12 (lv_at hl 4 rfl) ?_
        refine lv_iconst (v := 0) hx hb dX4_product_14 (by decide) ?_
        refine hm_iastN hx hb hK.1 hV 0 (hm_up_self _ _ _) rfl (k := i) (by omega) (by omega) dX4_product_15 (fun H locs hV => ?_)
        rw [show (upd (fun j => if j < i then nI 0 else f10 j) i 0) = (fun j => if j < i + 1 then nI 0 else f10 j) from clr_up f10 i] at hV
        rw [hm_u0] at hV
        have hV : hm_V E.1 vwCl (hm_A M sz) s.heap (hm_up M (A 10) (hm_I E 60 (fun j => if j < i + 1 then nI 0 else f10 j))) H locs := hV
        refine lv_iinc (v := (nI (i + 1))) (lv' := [(5, .int (nI (i + 1))), (0, .ref (A 0)), (1, .long v), (3, .int (nI st)), (4, .ref (A 10))]) hx hb dX4_product_16 hl (k := 4) rfl (nI_1 i) (by decide) rfl (fun ls hl => ?_)
        refine lv_goto (tgt := 3) hx hb dX4_product_19 (by decide) ?_
        exact ih_clr (i + 1) (by omega) (by omega) ls H locs (lv_sub hl [1, 2, 3, 4, 0] rfl) hV
  exact clr 61 0 (by omega) (by omega) ls s.heap [] (lv_sub hl [1, 2, 3, 4, 0] rfl) hV

abbrev wd_X4_addTo : List Cond := .code yX4_addTo cX4_addTo 6 none :: hm_ws
abbrev rm_X4_addTo : Room := { frames := 0, cells := 0, slots := 0, locals := 0 }

set_option maxHeartbeats 4000000 in
set_option maxRecDepth 100000 in
/-- addTo(sum, more) -/
theorem c_X4_addTo (l : Launch) (E : hm_E) {M : hm_M} {o la lb v u : Nat} (ha : M la = some (hm_I E 60 (fun j => nI (dg v j)))) (hb0 : M lb = some (hm_I E 60 (fun j => nI (dg u j)))) (h_lb_la : hm_ap lb la) (hva : v < 65536 ^ 60) (hua : u < 65536 ^ 60) (hs : v + u < 65536 ^ 60) : hm_Cv l E yX4_addTo wd_X4_addTo rm_X4_addTo [.ref o, .ref la, .ref lb] M (fun M1 => M1 = hm_up M la (hm_I E 60 (fun j => nI (dg (v + u) j)))) := by
  intro sz
  refine Met.ofW (cc := cX4_addTo) (maxL := 6) (ret := none) (by decide) rfl ?_
  intro p e s m args below meth c s₁ B hml hv
  obtain ⟨rfl, hAe, hA, hK, hV⟩ := hm_start hv
  have hx := B.exec
  have hb := B.bytes
  have hr := B.returns
  have hts := atoms_spec (ws := wd_X4_addTo) B.pre
  have hws : ∀ w ∈ hm_ws, w.before _ s = true := fun w h => hts w (List.mem_cons_of_mem _ h)
  have hown : s.vm.findClass RX4 = some m.cls := findClass_of_methodNamed B.named
  have hlocks := B.notSynchronized
  have ld80 := hws _ kw_581
  have hl := lv_entry ([.ref o, .ref la, .ref lb]) (n := 6) (Nat.le_of_ble_eq_true rfl)
  rw [lg_entry_eq]
  generalize (lg_sl ([.ref o, .ref la, .ref lb]) ++ List.replicate (6 - (lg_sl ([.ref o, .ref la, .ref lb])).length) Slot.unset).toArray = ls at hl ⊢
  have hl : lv_has ls 6 [(0, .ref o), (1, .ref la), (2, .ref lb)] := hl
  refine hm_gen (rm := rm_X4_addTo) rfl (fun Qf hQf => ?_)
  obtain ⟨xf, hxf⟩ : ∃ xf : Nat → Int, xf = fun i => (dg v i : Int) + (dg u i : Int) := ⟨_, rfl⟩
  have hxi : ∀ i, xf i = (dg v i : Int) + (dg u i : Int) := fun i => by rw [hxf]
  have hbd := c16_bd (x := xf) (l := 0) (m := 2) (by omega) (by omega) (fun i => by have := dg_lt v i; have := dg_lt u i; rw [hxi]; omega)
  have hS := s_add hva hua
  rw [← hxf] at hS
  have hV : hm_V E.1 vwCl (hm_A M sz) s.heap (hm_up M la (hm_I E 60 (fun j => nI (if j < 0 then ch_e 65536 xf j else dg v j)))) s.heap [] := by rw [hm_up_id ((ha).trans (congrArg (fun f9 => some (hm_I E 60 f9)) (nu_up0 (ch_e 65536 xf) (dg v))))]; exact hV
  refine lv_iconst (v := 0) hx hb dX4_addTo_0 (by decide) ?_
  refine lv_istore_n (lv' := [(3, .int 0), (0, .ref o), (1, .ref la), (2, .ref lb)]) hx hb dX4_addTo_1 rfl hl (by decide) rfl (fun ls hl => ?_)
  refine lv_iconst (v := 0) hx hb dX4_addTo_2 (by decide) ?_
  refine lv_istore (lv' := [(4, .int 0), (3, .int 0), (0, .ref o), (1, .ref la), (2, .ref lb)]) hx hb dX4_addTo_3 hl (by decide) rfl (fun ls hl => ?_)
  rw [show 0 = iZ (ch_c 65536 xf 0) from rfl] at hl
  have hl : lv_has ls 6 [(4, .int 0), (3, .int (iZ (ch_c 65536 xf 0))), (0, .ref o), (1, .ref la), (2, .ref lb)] := hl
  have loop : ∀ (fu : Nat) (i : Nat), (i ≤ 60) → 60 - i < fu → ∀ (ls : Array Slot) (H : Heap) (locs : List Loc), lv_has ls 6 [(0, .ref o), (1, .ref la), (2, .ref lb), (3, .int (iZ (ch_c 65536 xf i))), (4, .int (nI i))] → hm_V E.1 vwCl (hm_A M sz) s.heap (hm_up M la (hm_I E 60 (fun j => nI (if j < i then ch_e 65536 xf j else dg v j)))) H locs → W p l e rm_X4_addTo s m [.ref o, .ref la, .ref lb].toArray below meth c H locs 0 0 Qf (F0 m 5 ls []) := by
    intro fu
    induction fu with
    | zero => intro i hi hfu; exact absurd hfu (Nat.not_lt_zero _)
    | succ fu ih_loop =>
      intro i hi hfu ls H locs hl hV
      refine lv_iload hx hb dX4_addTo_5 (lv_at hl 4 rfl) ?_
      refine lv_bipush (v := 60) hx hb dX4_addTo_7 (by decide) ?_
      refine lv_icmp_ge (tgt := 46) hx hb dX4_addTo_9 (by decide) (fun c9 => ?_) (fun c9 => ?_)
      · have hi2 : i = 60 := by
          rcases Nat.lt_or_ge i 60 with q | q
          · exact absurd c9 (nI_ge (a := i) (b := 60) q (by omega))
          · omega
        rw [hi2, c16_all hS hs hva] at hV
        rw [hQf]
        exact W.vret hx hb hr (fun t9 ht hW => ⟨⟨(hm_up M la (hm_I E 60 (fun j => nI (dg (v + u) j)))), rfl, rfl, (hm_end hV ht).1⟩, (hm_end hV ht).2⟩) hV.2.2.2.2 dX4_addTo_46
      · have hi2 : i < 60 := by
          rcases Nat.lt_or_ge i 60 with q | q
          · exact q
          · exact absurd (nI_le (a := 60) (b := i) q (by omega)) c9
        have h1 := dg_lt v i
        have h2 := dg_lt u i
        have h3 := hbd i
        have h4 := hxi i
        refine lv_aload_n hx hb dX4_addTo_12 rfl (lv_at hl 1 rfl) ?_
        refine lv_iload hx hb dX4_addTo_13 (lv_at hl 4 rfl) ?_
        refine hm_ialdN hx hb hK.1 hV 0 (hm_up_self _ _ _) rfl (k := i) (by omega) (by omega) dX4_addTo_15 ?_
        refine lv_aload_n hx hb dX4_addTo_16 rfl (lv_at hl 2 rfl) ?_
        refine lv_iload hx hb dX4_addTo_17 (lv_at hl 4 rfl) ?_
        refine hm_ialdN hx hb hK.1 hV 0 ((hm_up_ne _ _ h_lb_la).trans hb0) rfl (k := i) (by omega) (by omega) dX4_addTo_19 ?_
        refine lv_iadd hx hb dX4_addTo_20 ?_
        refine hm_topi (show ((nI (if i < i then ch_e 65536 xf i else dg v i)) + (nI (dg u i))) = iZ (xf i) from by rw [if_neg (Nat.lt_irrefl i), iZ_nI, iZ_nI, iZ_add, hxi]) ?_
        refine lv_iload_n hx hb dX4_addTo_21 rfl (lv_at hl 3 rfl) ?_
        refine lv_iadd hx hb dX4_addTo_22 ?_
        refine hm_topi (show ((iZ (xf i)) + (iZ (ch_c 65536 xf i))) = iZ (xf i + ch_c 65536 xf i) from iZ_add _ _) ?_
        refine lv_istore (lv' := [(5, .int (iZ (xf i + ch_c 65536 xf i))), (0, .ref o), (1, .ref la), (2, .ref lb), (3, .int (iZ (ch_c 65536 xf i))), (4, .int (nI i))]) hx hb dX4_addTo_23 hl (by decide) rfl (fun ls hl => ?_)
        refine lv_aload_n hx hb dX4_addTo_25 rfl (lv_at hl 2 rfl) ?_
        refine lv_iload hx hb dX4_addTo_26 (lv_at hl 5 rfl) ?_
        refine lv_iload hx hb dX4_addTo_28 (lv_at hl 0 rfl) ?_
        refine lv_ldc (v := 65535) hx hb hown ld80 dX4_addTo_30 ?_
        refine lv_iand hx hb dX4_addTo_32 ?_
        refine hm_topi (show ((iZ (xf i + ch_c 65536 xf i)) &&& 65535) = nI (ch_e 65536 xf i) from iZ_m16 _) ?_
        refine hm_iastN hx hb hK.1 hV 0 (hm_up_self _ _ _) rfl (k := i) (by omega) (by omega) dX4_addTo_33 (fun H locs hV => ?_)
        rw [show (upd (fun j => nI (if j < i then ch_e 65536 xf j else dg v j)) i (nI (ch_e 65536 xf i))) = (fun j => nI (if j < i + 1 then ch_e 65536 xf j else dg v j)) from nu_up (ch_e 65536 xf) (dg v) i] at hV
        rw [hm_u0] at hV
        have hV : hm_V E.1 vwCl (hm_A M sz) s.heap (hm_up M la (hm_I E 60 (fun j => nI (if j < i + 1 then ch_e 65536 xf j else dg v j)))) H locs := hV
        refine lv_iload hx hb dX4_addTo_34 (lv_at hl 0 rfl) ?_
        refine lv_bipush (v := 16) hx hb dX4_addTo_36 (by decide) ?_
        refine lv_ishr hx hb dX4_addTo_38 ?_
        refine hm_topi (show ((iZ (xf i + ch_c 65536 xf i)) >>> (16 &&& 31)) = iZ (ch_c 65536 xf (i + 1)) from iZ_s16 (by omega) (by omega)) ?_
        refine lv_istore_n (lv' := [(3, .int (iZ (ch_c 65536 xf (i + 1)))), (5, .int (iZ (xf i + ch_c 65536 xf i))), (0, .ref o), (1, .ref la), (2, .ref lb), (4, .int (nI i))]) hx hb dX4_addTo_39 rfl hl (by decide) rfl (fun ls hl => ?_)
        refine lv_iinc (v := (nI (i + 1))) (lv' := [(4, .int (nI (i + 1))), (3, .int (iZ (ch_c 65536 xf (i + 1)))), (5, .int (iZ (xf i + ch_c 65536 xf i))), (0, .ref o), (1, .ref la), (2, .ref lb)]) hx hb dX4_addTo_40 hl (k := 5) rfl (nI_1 i) (by decide) rfl (fun ls hl => ?_)
        refine lv_goto (tgt := 5) hx hb dX4_addTo_43 (by decide) ?_
        exact ih_loop (i + 1) (by omega) (by omega) ls H locs (lv_sub hl [3, 4, 5, 1, 0] rfl) hV
  exact loop 61 0 (by omega) (by omega) ls s.heap [] (lv_sub hl [2, 3, 4, 1, 0] rfl) hV
