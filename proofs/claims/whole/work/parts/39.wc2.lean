
set_option maxHeartbeats 4000000 in
set_option maxRecDepth 100000 in
/-- numberOfLeadingZeros(0) -/
theorem c_nlz0 (l : Launch) (E : hm_E) {M : hm_M} : hm_Ci l E yJ6_numberOfLeadingZeros_0f7a4 wd_J6_numberOfLeadingZeros_0f7a4 rm_J6_numberOfLeadingZeros_0f7a4 [.int (nI 0)] M (fun r M1 => r = 32 ∧ M1 = M) := by
  intro sz
  refine Met.ofW (cc := cJ6_numberOfLeadingZeros_0f7a4) (maxL := 2) (ret := (some .int)) (by decide) rfl ?_
  intro p e s m args below meth c s₁ B hml hv
  obtain ⟨rfl, hAe, hA, hK, hV⟩ := hm_start hv
  have hx := B.exec
  have hb := B.bytes
  have hr := B.returns
  have hts := atoms_spec (ws := wd_J6_numberOfLeadingZeros_0f7a4) B.pre
  have hws : ∀ w ∈ hm_ws, w.before _ s = true := fun w h => hts w (List.mem_cons_of_mem _ h)
  have hown : s.vm.findClass RJ6 = some m.cls := findClass_of_methodNamed B.named
  have hlocks := B.notSynchronized
  have ld264 := hws _ kw_273
  have hl := lv_entry ([.int (nI 0)]) (n := 2) (Nat.le_of_ble_eq_true rfl)
  rw [lg_entry_eq]
  generalize (lg_sl ([.int (nI 0)]) ++ List.replicate (2 - (lg_sl ([.int (nI 0)])).length) Slot.unset).toArray = ls at hl ⊢
  have hl : lv_has ls 2 [(0, .int (nI 0))] := hl
  refine hm_gen (rm := rm_J6_numberOfLeadingZeros_0f7a4) rfl (fun Qf hQf => ?_)
  refine lv_iload_n hx hb dJ6_numberOfLeadingZeros_0f7a4_0 rfl (lv_at hl 0 rfl) ?_
  refine lv_if_gt (tgt := 15) hx hb dJ6_numberOfLeadingZeros_0f7a4_1 (by decide) (fun c1 => ?_) (fun c1 => ?_)
  · exact absurd c1 (by decide)
  · refine lv_iload_n hx hb dJ6_numberOfLeadingZeros_0f7a4_4 rfl (lv_at hl 0 rfl) ?_
    refine lv_if_ne (tgt := 13) hx hb dJ6_numberOfLeadingZeros_0f7a4_5 (by decide) (fun c5 => ?_) (fun c5 => ?_)
    · exact absurd rfl c5
    · refine lv_bipush (v := 32) hx hb dJ6_numberOfLeadingZeros_0f7a4_8 (by decide) ?_
      refine lv_goto (tgt := 14) hx hb dJ6_numberOfLeadingZeros_0f7a4_10 (by decide) ?_
      rw [hQf]
      exact W.iret hx hb hr (fun t9 ht hW => ⟨⟨_, M, rfl, ⟨rfl, rfl⟩, (hm_end hV ht).1⟩, (hm_end hV ht).2⟩) hV.2.2.2.2 dJ6_numberOfLeadingZeros_0f7a4_14

set_option maxHeartbeats 4000000 in
set_option maxRecDepth 100000 in
/-- highestBit(0) -/
theorem c_X3_highestBit0 (l : Launch) (E : hm_E) {M : hm_M} : hm_Ci l E yX3_highestBit wd_X3_highestBit rm_X3_highestBit [.int (nI 0)] M (fun r M1 => r = -1 ∧ M1 = M) := by
  intro sz
  refine Met.ofW (cc := cX3_highestBit) (maxL := 1) (ret := (some .int)) (by decide) rfl ?_
  intro p e s m args below meth c s₁ B hml hv
  obtain ⟨rfl, hAe, hA, hK, hV⟩ := hm_start hv
  have hx := B.exec
  have hb := B.bytes
  have hr := B.returns
  have hts := atoms_spec (ws := wd_X3_highestBit) B.pre
  have hws : ∀ w ∈ hm_ws, w.before _ s = true := fun w h => hts w (List.mem_cons_of_mem _ h)
  have hown : s.vm.findClass RX3 = some m.cls := findClass_of_methodNamed B.named
  have hlocks := B.notSynchronized
  have hl := lv_entry ([.int (nI 0)]) (n := 1) (Nat.le_of_ble_eq_true rfl)
  rw [lg_entry_eq]
  generalize (lg_sl ([.int (nI 0)]) ++ List.replicate (1 - (lg_sl ([.int (nI 0)])).length) Slot.unset).toArray = ls at hl ⊢
  have hl : lv_has ls 1 [(0, .int (nI 0))] := hl
  refine hm_gen (rm := rm_X3_highestBit) rfl (fun Qf hQf => ?_)
  refine lv_bipush (v := 31) hx hb dX3_highestBit_0 (by decide) ?_
  refine lv_iload_n hx hb dX3_highestBit_2 rfl (lv_at hl 0 rfl) ?_
  refine hm_calli (va_runS (As := [.int (nI 0)]) (rest := [.int 31]) ⟨hx, hb, hml, hown, hts⟩ (c_nlz0 l E s.heap.size) (va_cwS 1 hts (hm_gS kw_270 kw_271 kw_49 kw_272) rfl rfl rfl (by decide +kernel) ⟨Nat.le_of_ble_eq_true rfl, Nat.le_of_ble_eq_true rfl⟩) (hm_preS hK hV) rfl rfl hl.1 rfl (lv_room (Nat.le_of_ble_eq_true rfl)) dX3_highestBit_3 ⟨Nat.le_of_ble_eq_true rfl, Nat.le_of_ble_eq_true rfl⟩) hV hA (fun r3 M1 H locs hp hV => ?_)
  obtain ⟨hr3, hM1⟩ := hp
  rw [hM1] at hV
  subst hr3
  refine lv_isub hx hb dX3_highestBit_6 ?_
  rw [hQf]
  exact W.iret hx hb hr (fun t9 ht hW => ⟨⟨_, M, rfl, ⟨by decide, rfl⟩, (hm_end hV ht).1⟩, (hm_end hV ht).2⟩) hV.2.2.2.2 dX3_highestBit_7

abbrev wd_X3_digit : List Cond := .code yX3_digit cX3_digit 4 (some .int) :: hm_ws
abbrev rm_X3_digit : Room := { frames := 8, cells := 2, slots := 12, locals := 131 }

set_option maxHeartbeats 4000000 in
set_option maxRecDepth 100000 in
/-- digit(a, i) -/
theorem c_X3_digit (l : Launch) (hlt : l.stackTraces = false) (E : hm_E) {M : hm_M} {A ad rw : Nat → Nat} {cnt : Nat} {el : Bool} {z : Nat → Int} {t : Nat → Nat → Int64} {a b : Int32} (hk : xw E M A ad rw cnt el z t)  : hm_TCi l E yX3_digit wd_X3_digit rm_X3_digit [.ref (A 0), .int a, .int b] M (fun r M1 => ∃ i n, i < cnt ∧ a = nI i ∧ (b = nI n ∧ n < 2 ^ 31) ∧ hasD (z (200 + i)).natAbs b ∧ r = nI ((z (200 + i)).natAbs / 10 ^ n % 10) ∧ xp E M1 (A 0) cnt (fun j => z (200 + j)) t) (fun Ex M1 => Ex = xAI ∧ (¬ kn cnt a ∨ ∃ i, i < cnt ∧ a = nI i ∧ ¬ hasD (z (200 + i)).natAbs b) ∧ xp E M1 (A 0) cnt (fun j => z (200 + j)) t) := by
  intro sz
  refine vx_ofW (cc := cX3_digit) (maxL := 4) (ret := (some .int)) (by decide) rfl ?_
  intro p e s m args below meth c s₁ B hml htb hv
  obtain ⟨rfl, hAe, hA, hK, hV, hY⟩ := hm_startX hv
  have hx := B.exec
  have hb := B.bytes
  have hr := B.returns
  have hts := atoms_spec (ws := wd_X3_digit) B.pre
  have hws : ∀ w ∈ hm_ws, w.before _ s = true := fun w h => hts w (List.mem_cons_of_mem _ h)
  have hown : s.vm.findClass RX3 = some m.cls := findClass_of_methodNamed B.named
  have hlocks := B.notSynchronized
  have fl27 := hws _ kw_105
  have hl := lv_entry ([.ref (A 0), .int a, .int b]) (n := 4) (Nat.le_of_ble_eq_true rfl)
  rw [lg_entry_eq]
  generalize (lg_sl ([.ref (A 0), .int a, .int b]) ++ List.replicate (4 - (lg_sl ([.ref (A 0), .int a, .int b])).length) Slot.unset).toArray = ls at hl ⊢
  have hl : lv_has ls 4 [(0, .ref (A 0)), (1, .int a), (2, .int b)] := hl
  refine hm_gen (rm := rm_X3_digit) rfl (fun Qf hQf => ?_)
  refine lv_aload_n hx hb dX3_digit_0 rfl (lv_at hl 0 rfl) ?_
  refine lv_iload_n hx hb dX3_digit_1 rfl (lv_at hl 1 rfl) ?_
  refine hm_tcallr (vx_runV (As := [.int a]) (rest := []) ⟨hx, hb, hml, hown, hts⟩ (c_X3_known l hlt E hk s.heap.size) (cwV 1 hts (hm_gV kw_387 kw_389 kw_16 kw_37 kw_390) rfl rfl rfl (by decide +kernel) ⟨Nat.le_of_ble_eq_true rfl, Nat.le_of_ble_eq_true rfl⟩) (hm_preVX hK hV hA hY (xw_x hk) rfl) rfl rfl hl.1 rfl (lv_room (Nat.le_of_ble_eq_true rfl)) dX3_digit_2 ⟨Nat.le_of_ble_eq_true rfl, Nat.le_of_ble_eq_true rfl⟩) hV hA (fun Ex ce q9 M1 H locs hp hV h91 h92 h93 => ?_) (fun r2 M1 H locs hp hV => ?_)
  · rw [hQf]; exact hm_tout htb hlocks hV (⟨hp.1, Or.inl hp.2.1, by rw [hp.2.2]; exact xp_of hk (fun _ _ => rfl)⟩) h91 h92 h93 (Nat.le_of_ble_eq_true rfl) (Nat.le_of_ble_eq_true rfl)
  obtain ⟨⟨ia, hia, rfl, hr2⟩, hM1⟩ := hp
  rw [hM1] at hV
  subst hr2
  have hl : lv_has ls 4 [(0, .ref (A 0)), (1, .int (nI ia)), (2, .int b)] := hl
  have hcn := xw_cn hk
  obtain ⟨nA, dA, kA, gA, hnA, hwA, haA, hoA⟩ := xw_at hk (i := 200 + ia) (Or.inr (Or.inr ⟨by omega, by omega⟩))
  have eA : nA ≤ 64 := hnA.2.2 (by omega)
  have qA := hoA.1
  obtain ⟨nZ, dZ, kZ, gZ, hnZ, hwZ, haZ, hoZ⟩ := xw_at hk (i := 0) (Or.inl (by omega))
  have eZ : nZ = 65 := hnZ.1 (by omega)
  subst eZ
  have qZ := hoZ.1
  have hvA : (z (200 + ia)).natAbs < bigN := (wn_bd hoA).mp (by have := hoA.1; omega)
  have thr : ∀ (N : hm_M), (xp E N (A 0) cnt (fun j => z (200 + j)) t) → (¬ hasD (z (200 + ia)).natAbs b) → ∀ (ls : Array Slot) (H : Heap) (locs : List Loc), lv_has ls 4 [(0, .ref (A 0))] → hm_V E.1 vwCl (hm_A M sz) s.heap (N) H locs → W p l e rm_X3_digit s m [.ref (A 0), .int (nI ia), .int b].toArray below meth c H locs 1 6 Qf (F0 m 17 ls []) := by
    intro N hxp hno ls H locs hl hV
    rw [hQf]
    exact hm_thrAI hx hb hlt hown hws hY hV (List.mem_of_getElem? (i := 2) rfl) (hl.1.trans hml.symm) dX3_digit_17 dX3_digit_20 dX3_digit_21 dX3_digit_23 dX3_digit_26 htb (Nat.le_of_ble_eq_true rfl) (by show _ ≤ _; simp) (Nat.le_of_ble_eq_true rfl) (Nat.le_of_ble_eq_true rfl) hlocks (⟨rfl, Or.inr ⟨ia, hia, rfl, hno⟩, hxp⟩) (Nat.le_of_ble_eq_true rfl) (Nat.le_of_ble_eq_true rfl)
  refine lv_astore_n (lv' := [(3, .ref (ad (200 + ia))), (0, .ref (A 0)), (1, .int (nI ia)), (2, .int b)]) hx hb dX3_digit_5 rfl hl (by decide) rfl (fun ls hl => ?_)
  refine lv_iload_n hx hb dX3_digit_6 rfl (lv_at hl 3 rfl) ?_
  refine lv_if_lt (tgt := 17) hx hb dX3_digit_7 (by decide) (fun c7 => ?_) (fun c7 => ?_)
  · exact thr _ (xp_of hk (fun _ _ => rfl)) (hasD_neg c7) ls H locs (lv_sub hl [1] rfl) hV
  · obtain ⟨n, hn, rfl⟩ := nI_of c7
    have hl : lv_has ls 4 [(3, .ref (ad (200 + ia))), (0, .ref (A 0)), (1, .int (nI ia)), (2, .int (nI n))] := hl
    refine lv_iload_n hx hb dX3_digit_10 rfl (lv_at hl 3 rfl) ?_
    refine lv_sipush (v := 482) hx hb dX3_digit_11 (by decide) ?_
    refine lv_icmp_lt (tgt := 27) hx hb dX3_digit_14 (by decide) (fun c14 => ?_) (fun c14 => ?_)
    · have hn2 : n < 482 := (nI_ltI (b := 482) (by omega) (by omega)).mp c14
      refine lv_aload_n hx hb dX3_digit_27 rfl (lv_at hl 1 rfl) ?_
      refine hm_get (ci := 5) (v := .ref (ad 0)) (C := RX3) (T := TX3) (N := 7) hx hb hws kin_X3 hown hK.1 hV (xw_x hk) rfl 3 (by decide) fl27 (fun _ h9 => h9) rfl dX3_digit_28 ?_
      refine lv_aload_n hx hb dX3_digit_31 rfl (lv_at hl 0 rfl) ?_
      refine hm_callv (va_runV (As := [.ref (ad (200 + ia))]) (rest := []) ⟨hx, hb, hml, hown, hts⟩ (c_X2_copyFrom l E hwZ haZ hoZ.2.1 hwA haA hoA (by have := hoA.1; omega) (xw_rr hk (Or.inr (Or.inr ⟨by omega, by omega⟩)) (Or.inl (by omega)) (by omega)) (by omega) (by omega) H.size) (cwV 1 hts (hm_gV kw_152 kw_153 kw_154 kw_38 kw_155) rfl rfl rfl (by decide +kernel) ⟨Nat.le_of_ble_eq_true rfl, Nat.le_of_ble_eq_true rfl⟩) (hm_preV hK hV hwZ rfl) rfl rfl hl.1 rfl (lv_room (Nat.le_of_ble_eq_true rfl)) dX3_digit_32 ⟨Nat.le_of_ble_eq_true rfl, Nat.le_of_ble_eq_true rfl⟩) hV hA (fun M1 H locs hp hV => ?_)
      obtain ⟨z1, hz1, hz1o, hk⟩ := xw_set2 hk (i := 0) (Or.inl (by omega)) (wn_cp65 (by omega)) hp
      obtain ⟨nP, dP, kP, gP, hnP, hwP, haP, hoP⟩ := xw_at hk (i := 0) (Or.inl (by omega))
      have eP : nP = 65 := hnP.1 (by omega)
      subst eP
      have qP := hoP.1
      refine lv_aload_n hx hb dX3_digit_35 rfl (lv_at hl 1 rfl) ?_
      refine hm_get (ci := 5) (v := .ref (ad 0)) (C := RX3) (T := TX3) (N := 7) hx hb hws kin_X3 hown hK.1 hV (xw_x hk) rfl 3 (by decide) fl27 (fun _ h9 => h9) rfl dX3_digit_36 ?_
      refine lv_iload_n hx hb dX3_digit_39 rfl (lv_at hl 3 rfl) ?_
      refine hm_callv (va_runV (As := [.int (nI n)]) (rest := []) ⟨hx, hb, hml, hown, hts⟩ (c_X2_dropDigits l E (t := n) hwP haP hoP (by omega) (by omega) H.size) (cwV 1 hts (hm_gV kw_454 kw_455 kw_456 kw_38 kw_457) rfl rfl rfl (by decide +kernel) ⟨Nat.le_of_ble_eq_true rfl, Nat.le_of_ble_eq_true rfl⟩) (hm_preV hK hV hwP rfl) rfl rfl hl.1 rfl (lv_room (Nat.le_of_ble_eq_true rfl)) dX3_digit_40 ⟨Nat.le_of_ble_eq_true rfl, Nat.le_of_ble_eq_true rfl⟩) hV hA (fun M1 H locs hp hV => ?_)
      rw [hz1] at hp
      obtain ⟨z2, hz2, hz2o, hk⟩ := xw_set2 hk (i := 0) (Or.inl (by omega)) (wn_cp65 (by omega)) hp
      obtain ⟨nR, dR, kR, gR, hnR, hwR, haR, hoR⟩ := xw_at hk (i := 0) (Or.inl (by omega))
      have eR : nR = 65 := hnR.1 (by omega)
      subst eR
      have qR := hoR.1
      rw [hz2] at hoR
      have hzo : ∀ i, 200 ≤ i → z2 i = z i := fun i hi => by rw [hz2o i (by omega), hz1o i (by omega)]
      have hq := qz_abs (z (200 + ia)) (10 ^ n)
      have fin9 : ∀ (N : hm_M), (xw E N A ad rw cnt el z2 t) → (hasD (z (200 + ia)).natAbs (nI n)) → ∀ (ls : Array Slot) (H : Heap) (locs : List Loc), lv_has ls 4 [(0, .ref (A 0))] → hm_V E.1 vwCl (hm_A M sz) s.heap (N) H locs → W p l e rm_X3_digit s m [.ref (A 0), .int (nI ia), .int (nI n)].toArray below meth c H locs 1 6 Qf (F0 m 67 ls []) := by
        intro N hk hhas ls H locs hl hV
        obtain ⟨nU, dU, kU, gU, hnU, hwU, haU, hoU⟩ := xw_at hk (i := 0) (Or.inl (by omega))
        have eU : nU = 65 := hnU.1 (by omega)
        subst eU
        have qU := hoU.1
        rw [hz2] at hoU
        refine lv_aload_n hx hb dX3_digit_67 rfl (lv_at hl 0 rfl) ?_
        refine hm_get (ci := 5) (v := .ref (ad 0)) (C := RX3) (T := TX3) (N := 7) hx hb hws kin_X3 hown hK.1 hV (xw_x hk) rfl 3 (by decide) fl27 (fun _ h9 => h9) rfl dX3_digit_68 ?_
        refine lv_bipush (v := 10) hx hb dX3_digit_71 (by decide) ?_
        refine hm_calli (va_runV (As := [.int 10]) (rest := []) ⟨hx, hb, hml, hown, hts⟩ (c_X2_divideBy l E (q := 10) hwU haU hoU (by omega) (by decide) (by decide) H.size) (cwV 1 hts (hm_gV kw_169 kw_170 kw_171 kw_38 kw_172) rfl rfl rfl (by decide +kernel) ⟨Nat.le_of_ble_eq_true rfl, Nat.le_of_ble_eq_true rfl⟩) (hm_preV hK hV hwU rfl) rfl rfl hl.1 rfl (lv_room (Nat.le_of_ble_eq_true rfl)) dX3_digit_73 ⟨Nat.le_of_ble_eq_true rfl, Nat.le_of_ble_eq_true rfl⟩) hV hA (fun r73 M1 H locs hp hV => ?_)
        obtain ⟨hr73, hp⟩ := hp
        rw [hq] at hr73
        obtain ⟨z3, hz3, hz3o, hk⟩ := xw_set2 hk (i := 0) (Or.inl (by omega)) (wn_cp65 (by omega)) hp
        refine W.widen (k := 2) (n := 12) (Nat.le_of_ble_eq_true rfl) (Nat.le_of_ble_eq_true rfl) ?_
        rw [hQf]
        exact vx_ret (W.iret hx hb hr (fun t9 ht hW => ⟨⟨_, M1, rfl, ⟨ia, n, hia, rfl, ⟨rfl, hn⟩, hhas, hr73, xp_of hk (fun i hi => by rw [hz3o i (by omega)]; exact hzo i hi)⟩, (hm_end hV ht).1⟩, (hm_end hV ht).2⟩) hV.2.2.2.2 dX3_digit_76)
      refine lv_iload_n hx hb dX3_digit_43 rfl (lv_at hl 3 rfl) ?_
      refine lv_if_le (tgt := 67) hx hb dX3_digit_44 (by decide) (fun c44 => ?_) (fun c44 => ?_)
      · have hn0 : n = 0 := by
          rcases Nat.eq_zero_or_pos n with q | q
          · exact q
          · exact absurd c44 (nI_nle q (by omega))
        exact fin9 _ hk ⟨n, hn, rfl, Or.inl hn0⟩ ls H locs (lv_sub hl [1] rfl) hV
      · have hn0 : n ≠ 0 := fun h9 => c44 (by rw [h9]; exact Int32.le_refl _)
        refine lv_aload_n hx hb dX3_digit_47 rfl (lv_at hl 1 rfl) ?_
        refine hm_get (ci := 5) (v := .ref (ad 0)) (C := RX3) (T := TX3) (N := 7) hx hb hws kin_X3 hown hK.1 hV (xw_x hk) rfl 3 (by decide) fl27 (fun _ h9 => h9) rfl dX3_digit_48 ?_
        refine hm_calli (va_runV (As := []) (rest := []) ⟨hx, hb, hml, hown, hts⟩ (c_X2_isZero l E hwR (by have := hoR.1; omega) H.size) (cwV 0 hts (hm_gV kw_424 kw_224 kw_225 kw_38 kw_226) rfl rfl rfl (by decide +kernel) ⟨Nat.le_of_ble_eq_true rfl, Nat.le_of_ble_eq_true rfl⟩) (hm_preV hK hV hwR rfl) rfl rfl hl.1 rfl (lv_room (Nat.le_of_ble_eq_true rfl)) dX3_digit_51 ⟨Nat.le_of_ble_eq_true rfl, Nat.le_of_ble_eq_true rfl⟩) hV hA (fun r51 M1 H locs hp hV => ?_)
        obtain ⟨hr51, hM1⟩ := hp
        rw [← hM1] at hk
        have hzz := wn_zero hoR
        rw [qz_abs0] at hzz
        refine lv_if_eq (tgt := 67) hx hb dX3_digit_54 (by decide) (fun c54 => ?_) (fun c54 => ?_)
        · have hle : 10 ^ n ≤ (z (200 + ia)).natAbs := by
            rcases Nat.lt_or_ge (z (200 + ia)).natAbs (10 ^ n) with q | q
            · rw [hr51, if_pos (hzz.mpr (Nat.div_eq_of_lt q))] at c54; exact absurd c54 (by decide)
            · exact q
          exact fin9 _ hk ⟨n, hn, rfl, Or.inr hle⟩ ls H locs (lv_sub hl [1] rfl) hV
        · have hlt2 : (z (200 + ia)).natAbs < 10 ^ n := by
            rcases Nat.lt_or_ge (z (200 + ia)).natAbs (10 ^ n) with q | q
            · exact q
            · have h9 := Nat.div_pos q (Nat.pow_pos (by decide))
              rw [hr51, if_neg (fun h8 => by have := hzz.mp h8; omega)] at c54
              exact absurd rfl c54
          rw [hQf]
          exact hm_thrAI hx hb hlt hown hws hY hV (List.mem_of_getElem? (i := 2) rfl) (hl.1.trans hml.symm) dX3_digit_57 dX3_digit_60 dX3_digit_61 dX3_digit_63 dX3_digit_66 htb (Nat.le_of_ble_eq_true rfl) (by show _ ≤ _; simp) (Nat.le_of_ble_eq_true rfl) (Nat.le_of_ble_eq_true rfl) hlocks (⟨rfl, Or.inr ⟨ia, hia, rfl, hasD_no hn hn0 hlt2⟩, xp_of hk hzo⟩) (Nat.le_of_ble_eq_true rfl) (Nat.le_of_ble_eq_true rfl)
    · have hn2 : 482 ≤ n := by
        rcases Nat.lt_or_ge n 482 with q | q
        · exact absurd (nI_lt (b := 482) q (by omega)) c14
        · exact q
      exact thr _ (xp_of hk (fun _ _ => rfl)) (hasD_482 hvA hn hn2) ls H locs (lv_sub hl [1] rfl) hV

abbrev wd_X3_residue : List Cond := .code yX3_residue cX3_residue 9 (some .long) :: hm_ws
abbrev rm_X3_residue : Room := { frames := 8, cells := 2, slots := 12, locals := 131 }

set_option maxHeartbeats 4000000 in
set_option maxRecDepth 100000 in
/-- residue(a, m) -/
theorem c_X3_residue (l : Launch) (hlt : l.stackTraces = false) (E : hm_E) {M : hm_M} {A ad rw : Nat → Nat} {cnt : Nat} {el : Bool} {z : Nat → Int} {t : Nat → Nat → Int64} {a : Int32} {mm : Int64} (hk : xw E M A ad rw cnt el z t)  : hm_TCl l E yX3_residue wd_X3_residue rm_X3_residue [.ref (A 0), .int a, .long mm] M (fun r M1 => (∃ i, i < cnt ∧ a = nI i ∧ mm ≠ 0 ∧ r = lZ (z (200 + i) % (mm.toInt.natAbs : Int))) ∧ M1 = M) (fun Ex M1 => ((Ex = xAI ∧ ¬ kn cnt a) ∨ (Ex = xAR ∧ mm = 0 ∧ ∃ i, i < cnt ∧ a = nI i)) ∧ M1 = M) := by
  intro sz
  refine vx_ofW (cc := cX3_residue) (maxL := 9) (ret := (some .long)) (by decide) rfl ?_
  intro p e s m args below meth c s₁ B hml htb hv
  obtain ⟨rfl, hAe, hA, hK, hV, hY⟩ := hm_startX hv
  have hx := B.exec
  have hb := B.bytes
  have hr := B.returns
  have hts := atoms_spec (ws := wd_X3_residue) B.pre
  have hws : ∀ w ∈ hm_ws, w.before _ s = true := fun w h => hts w (List.mem_cons_of_mem _ h)
  have hown : s.vm.findClass RX3 = some m.cls := findClass_of_methodNamed B.named
  have hlocks := B.notSynchronized
  have hl := lv_entry ([.ref (A 0), .int a, .long mm]) (n := 9) (Nat.le_of_ble_eq_true rfl)
  rw [lg_entry_eq]
  generalize (lg_sl ([.ref (A 0), .int a, .long mm]) ++ List.replicate (9 - (lg_sl ([.ref (A 0), .int a, .long mm])).length) Slot.unset).toArray = ls at hl ⊢
  have hl : lv_has ls 9 [(0, .ref (A 0)), (1, .int a), (2, .long mm)] := hl
  refine hm_gen (rm := rm_X3_residue) rfl (fun Qf hQf => ?_)
  refine lv_aload_n hx hb dX3_residue_0 rfl (lv_at hl 0 rfl) ?_
  refine lv_iload_n hx hb dX3_residue_1 rfl (lv_at hl 1 rfl) ?_
  refine hm_tcallr (vx_runV (As := [.int a]) (rest := []) ⟨hx, hb, hml, hown, hts⟩ (c_X3_known l hlt E hk s.heap.size) (cwV 1 hts (hm_gV kw_387 kw_389 kw_16 kw_37 kw_390) rfl rfl rfl (by decide +kernel) ⟨Nat.le_of_ble_eq_true rfl, Nat.le_of_ble_eq_true rfl⟩) (hm_preVX hK hV hA hY (xw_x hk) rfl) rfl rfl hl.1 rfl (lv_room (Nat.le_of_ble_eq_true rfl)) dX3_residue_2 ⟨Nat.le_of_ble_eq_true rfl, Nat.le_of_ble_eq_true rfl⟩) hV hA (fun Ex ce q9 M1 H locs hp hV h91 h92 h93 => ?_) (fun r2 M1 H locs hp hV => ?_)
  · rw [hQf]; exact hm_tout htb hlocks hV (⟨Or.inl ⟨hp.1, hp.2.1⟩, hp.2.2⟩) h91 h92 h93 (Nat.le_of_ble_eq_true rfl) (Nat.le_of_ble_eq_true rfl)
  obtain ⟨⟨ia, hia, rfl, hr2⟩, hM1⟩ := hp
  rw [hM1] at hV
  subst hr2
  have hl : lv_has ls 9 [(0, .ref (A 0)), (1, .int (nI ia)), (2, .long mm)] := hl
  have hcn := xw_cn hk
  obtain ⟨nA, dA, kA, gA, hnA, hwA, haA, hoA⟩ := xw_at hk (i := 200 + ia) (Or.inr (Or.inr ⟨by omega, by omega⟩))
  have eA : nA ≤ 64 := hnA.2.2 (by omega)
  have qA := hoA.1
  refine lv_astore (lv' := [(4, .ref (ad (200 + ia))), (0, .ref (A 0)), (1, .int (nI ia)), (2, .long mm)]) hx hb dX3_residue_5 hl (by decide) rfl (fun ls hl => ?_)
  refine lv_lload_n hx hb dX3_residue_7 rfl (lv_at hl 3 rfl) ?_
  refine lv_lconst (v := 0) hx hb dX3_residue_8 (by decide) ?_
  refine W.lcmp hx hb dX3_residue_9 ?_
  refine lv_if_ne (tgt := 23) hx hb dX3_residue_10 (by decide) (fun c10 => ?_) (fun c10 => ?_)
  · have hm0 : mm ≠ 0 := fun h9 => c10 ((lg_cmp_eq mm 0).mpr h9)
    have hmo := am_le mm
    have hmp : 0 < mm.toInt.natAbs := by
      rcases Nat.eq_zero_or_pos mm.toInt.natAbs with q | q
      · exact absurd (by rw [lZ_of mm, show mm.toInt = 0 by omega]; rfl) hm0
      · exact q
    have hbn := bd_neg (v := mm)
    have hbp := bd_pos (v := mm)
    obtain ⟨he0, he1, he2⟩ := rs_cl (x := z (200 + ia)) hmp hmo
    generalize hmoe : mm.toInt.natAbs = mo at hmo hmp hbn hbp he0 he1 he2
    rw [hmoe] at hQf
    have hR : (z (200 + ia)).natAbs % mo < mo := Nat.mod_lt _ hmp
    have body : ∀ (ls : Array Slot) (H : Heap) (locs : List Loc), lv_has ls 9 [(4, .ref (ad (200 + ia))), (0, .ref (A 0)), (1, .int (nI ia)), (2, .long mm)] → hm_V E.1 vwCl (hm_A M sz) s.heap (M) H locs → W p l e rm_X3_residue s m [.ref (A 0), .int (nI ia), .long mm].toArray below meth c H locs 1 6 Qf (F0 m 35 ls [.long (lZ (-(mo : Int)))]) := by
      intro   ls H locs hl hV
      refine lv_lstore (lv' := [(5, .long (lZ (-(mo : Int)))), (4, .ref (ad (200 + ia))), (0, .ref (A 0)), (1, .int (nI ia)), (2, .long mm)]) hx hb dX3_residue_35 hl (by decide) rfl (fun ls hl => ?_)
      refine lv_aload hx hb dX3_residue_37 (lv_at hl 1 rfl) ?_
      refine lv_lload hx hb dX3_residue_39 (lv_at hl 0 rfl) ?_
      refine hm_calll (va_runV (As := [.long (lZ (-(mo : Int)))]) (rest := []) ⟨hx, hb, hml, hown, hts⟩ (c_X2_restBelowZero l E (mo := mo) hwA haA hoA (by omega) hmp hmo H.size) (cwV 1 hts (hm_gV kw_468 kw_469 kw_470 kw_38 kw_471) rfl rfl rfl (by decide +kernel) ⟨Nat.le_of_ble_eq_true rfl, Nat.le_of_ble_eq_true rfl⟩) (hm_preV hK hV hwA rfl) rfl rfl hl.1 rfl (lv_room (Nat.le_of_ble_eq_true rfl)) dX3_residue_41 ⟨Nat.le_of_ble_eq_true rfl, Nat.le_of_ble_eq_true rfl⟩) hV hA (fun r41 M1 H locs hp hV => ?_)
      obtain ⟨hr41, hM1⟩ := hp
      rw [hM1] at hV
      subst hr41
      refine W.widen (k := 2) (n := 12) (Nat.le_of_ble_eq_true rfl) (Nat.le_of_ble_eq_true rfl) ?_
      refine lv_lstore (lv' := [(7, .long (lZ (-(((z (200 + ia)).natAbs % mo : Nat) : Int)))), (5, .long (lZ (-(mo : Int)))), (4, .ref (ad (200 + ia))), (0, .ref (A 0)), (1, .int (nI ia)), (2, .long mm)]) hx hb dX3_residue_44 hl (by decide) rfl (fun ls hl => ?_)
      refine lv_lload hx hb dX3_residue_46 (lv_at hl 0 rfl) ?_
      refine lv_lconst (v := 0) hx hb dX3_residue_48 (by decide) ?_
      refine W.lcmp hx hb dX3_residue_49 ?_
      refine lv_if_ne (tgt := 55) hx hb dX3_residue_50 (by decide) (fun c50 => ?_) (fun c50 => ?_)
      · have hR0 : (z (200 + ia)).natAbs % mo ≠ 0 := fun h9 => c50 ((lg_cmp_eq _ _).mpr ((lZ_r0 (by omega)).mpr h9))
        refine lv_aload hx hb dX3_residue_55 (lv_at hl 2 rfl) ?_
        refine hm_getN (ci := 4) (v := .int gA) (C := RX2) (T := TX2) (N := 3) hx hb hws kin_X2 hown hK.1 hV hwA rfl 2 (by decide) (va_Nw.use rfl (hK.2.1 _ (List.mem_of_getElem? (i := 4) rfl))) (fun _ h9 => h9) rfl dX3_residue_57 ?_
        refine lv_if_eq (tgt := 71) hx hb dX3_residue_60 (by decide) (fun c60 => ?_) (fun c60 => ?_)
        · have hng : ¬ z (200 + ia) < 0 := fun h9 => by rw [hoA.2.2.2.2, if_pos h9] at c60; exact absurd c60 (by decide)
          refine lv_lload hx hb dX3_residue_71 (lv_at hl 0 rfl) ?_
          refine lv_lneg hx hb dX3_residue_73 ?_
          rw [hQf]
          exact vx_ret (W.lret hx hb hr (fun t9 ht hW => ⟨⟨_, M, rfl, ⟨⟨ia, hia, rfl, hm0, he2 hng⟩, rfl⟩, (hm_end hV ht).1⟩, (hm_end hV ht).2⟩) hV.2.2.2.2 dX3_residue_74)
        · have hng : z (200 + ia) < 0 := Classical.byContradiction (fun h9 => c60 (by rw [hoA.2.2.2.2, if_neg h9]))
          refine lv_lload hx hb dX3_residue_63 (lv_at hl 0 rfl) ?_
          refine lv_lload hx hb dX3_residue_65 (lv_at hl 1 rfl) ?_
          refine lv_lsub hx hb dX3_residue_67 ?_
          refine lv_goto (tgt := 74) hx hb dX3_residue_68 (by decide) ?_
          rw [hQf]
          exact vx_ret (W.lret hx hb hr (fun t9 ht hW => ⟨⟨_, M, rfl, ⟨⟨ia, hia, rfl, hm0, he1 hng hR0⟩, rfl⟩, (hm_end hV ht).1⟩, (hm_end hV ht).2⟩) hV.2.2.2.2 dX3_residue_74)
      · have hR0 : (z (200 + ia)).natAbs % mo = 0 := (lZ_r0 (by omega)).mp ((lg_cmp_eq _ _).mp c50)
        refine lv_lconst (v := 0) hx hb dX3_residue_53 (by decide) ?_
        rw [hQf]
        exact vx_ret (W.lret hx hb hr (fun t9 ht hW => ⟨⟨_, M, rfl, ⟨⟨ia, hia, rfl, hm0, he0 hR0⟩, rfl⟩, (hm_end hV ht).1⟩, (hm_end hV ht).2⟩) hV.2.2.2.2 dX3_residue_54)
    refine lv_lload_n hx hb dX3_residue_23 rfl (lv_at hl 3 rfl) ?_
    refine lv_lconst (v := 0) hx hb dX3_residue_24 (by decide) ?_
    refine W.lcmp hx hb dX3_residue_25 ?_
    refine lv_if_ge (tgt := 33) hx hb dX3_residue_26 (by decide) (fun c26 => ?_) (fun c26 => ?_)
    · refine lv_lload_n hx hb dX3_residue_33 rfl (lv_at hl 3 rfl) ?_
      refine lv_lneg hx hb dX3_residue_34 ?_
      have hv0 : (0 : Int64) ≤ mm := (lg_cmp_ge mm 0).mp c26
      refine hm_topl (show (-mm) = lZ (-(mo : Int)) from hbp hv0) ?_
      exact body  ls H locs (lv_sub hl [0, 1, 2, 3] rfl) hV
    · refine lv_lload_n hx hb dX3_residue_29 rfl (lv_at hl 3 rfl) ?_
      refine lv_goto (tgt := 35) hx hb dX3_residue_30 (by decide) ?_
      have hv0 : mm < 0 := by
        have h8 : ¬ (0 : Int64) ≤ mm := fun q => c26 ((lg_cmp_ge mm 0).mpr q)
        exact Int64.not_le.mp h8
      refine hm_topl (show mm = lZ (-(mo : Int)) from hbn hv0) ?_
      exact body  ls H locs (lv_sub hl [0, 1, 2, 3] rfl) hV
  · have hm0 : mm = 0 := (lg_cmp_eq mm 0).mp c10
    rw [hQf]
    exact hm_thrAR hx hb hlt hown hws hY hV (List.mem_of_getElem? (i := 3) rfl) (hl.1.trans hml.symm) dX3_residue_13 dX3_residue_16 dX3_residue_17 dX3_residue_19 dX3_residue_22 htb (Nat.le_of_ble_eq_true rfl) (by show _ ≤ _; simp) (Nat.le_of_ble_eq_true rfl) (Nat.le_of_ble_eq_true rfl) hlocks (⟨Or.inr ⟨rfl, hm0, ia, hia, rfl⟩, rfl⟩) (Nat.le_of_ble_eq_true rfl) (Nat.le_of_ble_eq_true rfl)

abbrev wd_X3_factorial : List Cond := .code yX3_factorial cX3_factorial 3 (some .int) :: hm_ws
abbrev rm_X3_factorial : Room := { frames := 3, cells := 2, slots := 67, locals := 82 }

set_option maxHeartbeats 4000000 in
set_option maxRecDepth 100000 in
/-- factorial(n) -/
theorem c_X3_factorial (l : Launch) (E : hm_E) {M : hm_M} {A ad rw : Nat → Nat} {cnt : Nat} {el : Bool} {z : Nat → Int} {t : Nat → Nat → Int64} {a : Int32} (hk : xw E M A ad rw cnt el z t)  : hm_Ci l E yX3_factorial wd_X3_factorial rm_X3_factorial [.ref (A 0), .int a] M (fun r M1 => ∃ cnt1 nums1, kp cnt (fun j => z (200 + j)) (spF a) r cnt1 nums1 ∧ xp E M1 (A 0) cnt1 nums1 t) := by
  intro sz
  refine Met.ofW (cc := cX3_factorial) (maxL := 3) (ret := (some .int)) (by decide) rfl ?_
  intro p e s m args below meth c s₁ B hml hv
  obtain ⟨rfl, hAe, hA, hK, hV⟩ := hm_start hv
  have hx := B.exec
  have hb := B.bytes
  have hr := B.returns
  have hts := atoms_spec (ws := wd_X3_factorial) B.pre
  have hws : ∀ w ∈ hm_ws, w.before _ s = true := fun w h => hts w (List.mem_cons_of_mem _ h)
  have hown : s.vm.findClass RX3 = some m.cls := findClass_of_methodNamed B.named
  have hlocks := B.notSynchronized
  have fl27 := hws _ kw_105
  have hl := lv_entry ([.ref (A 0), .int a]) (n := 3) (Nat.le_of_ble_eq_true rfl)
  rw [lg_entry_eq]
  generalize (lg_sl ([.ref (A 0), .int a]) ++ List.replicate (3 - (lg_sl ([.ref (A 0), .int a])).length) Slot.unset).toArray = ls at hl ⊢
  have hl : lv_has ls 3 [(0, .ref (A 0)), (1, .int a)] := hl
  refine hm_gen (rm := rm_X3_factorial) rfl (fun Qf hQf => ?_)
  have no : (160 ≤ cnt ∨ spF a = none ∨ ∃ y, spF a = some y ∧ bigN ≤ y.natAbs) → ∀ (ls : Array Slot) (H : Heap) (locs : List Loc), lv_has ls 3 [(0, .ref (A 0)), (1, .int a)] → hm_V E.1 vwCl (hm_A M sz) s.heap (M) H locs → W p l e rm_X3_factorial s m [.ref (A 0), .int a].toArray below meth c H locs 0 0 Qf (F0 m 18 ls []) := by
    intro  hno ls H locs hl hV
    refine lv_iconst (v := (-1)) hx hb dX3_factorial_18 (by decide) ?_
    refine W.widen (k := 2) (n := 67) (Nat.le_of_ble_eq_true rfl) (Nat.le_of_ble_eq_true rfl) ?_
    rw [hQf]
    exact W.iret hx hb hr (fun t9 ht hW => ⟨⟨_, M, rfl, ⟨cnt, (fun j => z (200 + j)), Or.inr ⟨hno, rfl, rfl, fun _ _ => rfl⟩, xp_of hk (fun _ _ => rfl)⟩, (hm_end hV ht).1⟩, (hm_end hV ht).2⟩) hV.2.2.2.2 dX3_factorial_19
  refine lv_iload_n hx hb dX3_factorial_0 rfl (lv_at hl 1 rfl) ?_
  refine lv_if_lt (tgt := 18) hx hb dX3_factorial_1 (by decide) (fun c1 => ?_) (fun c1 => ?_)
  · exact no (Or.inr (Or.inl (spF_neg c1))) ls s.heap [] (lv_sub hl [0, 1] rfl) hV
  · obtain ⟨n, hn, rfl⟩ := nI_of c1
    have hl : lv_has ls 3 [(0, .ref (A 0)), (1, .int (nI n))] := hl
    refine lv_iload_n hx hb dX3_factorial_4 rfl (lv_at hl 1 rfl) ?_
    refine lv_sipush (v := 1600) hx hb dX3_factorial_5 (by decide) ?_
    refine lv_icmp_gt (tgt := 18) hx hb dX3_factorial_8 (by decide) (fun c8 => ?_) (fun c8 => ?_)
    · have hn2 : 1600 < n := (nI_ltI (a := 1600) (by omega) (by omega)).mp c8
      exact no (Or.inr (Or.inr ⟨_, spF_n hn, by rw [Int.natAbs_natCast]; exact fc_wide (by omega)⟩)) ls s.heap [] (lv_sub hl [0, 1] rfl) hV
    · have hn2 : n ≤ 1600 := by
        rcases Nat.lt_or_ge 1600 n with q | q
        · exact absurd (nI_lt (a := 1600) q (by omega)) c8
        · exact q
      refine lv_aload_n hx hb dX3_factorial_11 rfl (lv_at hl 0 rfl) ?_
      refine hm_calli (va_runV (As := []) (rest := []) ⟨hx, hb, hml, hown, hts⟩ (c_X3_isFull l E (xw_x hk) (xw_cn hk) s.heap.size) (cwV 0 hts (hm_gV kw_128 kw_130 kw_0 kw_37 kw_131) rfl rfl rfl (by decide +kernel) ⟨Nat.le_of_ble_eq_true rfl, Nat.le_of_ble_eq_true rfl⟩) (hm_preV hK hV (xw_x hk) rfl) rfl rfl hl.1 rfl (lv_room (Nat.le_of_ble_eq_true rfl)) dX3_factorial_12 ⟨Nat.le_of_ble_eq_true rfl, Nat.le_of_ble_eq_true rfl⟩) hV hA (fun r12 M1 H locs hp hV => ?_)
      obtain ⟨hrf, hM1⟩ := hp
      rw [hM1] at hV
      refine lv_if_eq (tgt := 20) hx hb dX3_factorial_15 (by decide) (fun c15 => ?_) (fun c15 => ?_)
      · have hc1 : cnt < 160 := by
          rcases hrf with h9 | h9
          · rw [h9.1] at c15; exact absurd c15 (by decide)
          · exact h9.2
        rw [spF_n hn] at hQf
        obtain ⟨nZ, dZ, kZ, gZ, hnZ, hwZ, haZ, hoZ⟩ := xw_at hk (i := 0) (Or.inl (by omega))
        have eZ : nZ = 65 := hnZ.1 (by omega)
        subst eZ
        have qZ := hoZ.1
        refine lv_aload_n hx hb dX3_factorial_20 rfl (lv_at hl 0 rfl) ?_
        refine hm_get (ci := 5) (v := .ref (ad 0)) (C := RX3) (T := TX3) (N := 7) hx hb hws kin_X3 hown hK.1 hV (xw_x hk) rfl 3 (by decide) fl27 (fun _ h9 => h9) rfl dX3_factorial_21 ?_
        refine lv_lconst (v := 1) hx hb dX3_factorial_24 (by decide) ?_
        refine hm_callv (va_runV (As := [.long 1]) (rest := []) ⟨hx, hb, hml, hown, hts⟩ (c_X2_setLong l E (v := 1) hwZ haZ hoZ.2.1 (by omega) (by omega) H.size) (cwV 1 hts (hm_gV kw_132 kw_133 kw_134 kw_38 kw_135) rfl rfl rfl (by decide +kernel) ⟨Nat.le_of_ble_eq_true rfl, Nat.le_of_ble_eq_true rfl⟩) (hm_preV hK hV hwZ rfl) rfl rfl hl.1 rfl (lv_room (Nat.le_of_ble_eq_true rfl)) dX3_factorial_25 ⟨Nat.le_of_ble_eq_true rfl, Nat.le_of_ble_eq_true rfl⟩) hV hA (fun M1 H locs hp hV => ?_)
        rw [show (1 : Int64).toInt = ((fc 1 : Nat) : Int) from by decide] at hp
        obtain ⟨z1, hz1, hz1o, hk⟩ := xw_set2 hk (i := 0) (Or.inl (by omega)) (wn_cp65 (by omega)) hp
        refine lv_iconst (v := 2) hx hb dX3_factorial_28 (by decide) ?_
        refine lv_istore_n (lv' := [(2, .int 2), (0, .ref (A 0)), (1, .int (nI n))]) hx hb dX3_factorial_29 rfl hl (by decide) rfl (fun ls hl => ?_)
        have fin : ∀ (N : hm_M) (y : Nat → Int) (v : Nat), (xw E N A ad rw cnt el y t) → (∀ i, 200 ≤ i → y i = z i) → (y 0 = (v : Int)) → (hid (v = fc n ∨ (bigN ≤ v ∧ bigN ≤ fc n))) → ∀ (ls : Array Slot) (H : Heap) (locs : List Loc), lv_has ls 3 [(0, .ref (A 0))] → hm_V E.1 vwCl (hm_A M sz) s.heap (N) H locs → W p l e rm_X3_factorial s m [.ref (A 0), .int (nI n)].toArray below meth c H locs 0 0 Qf (F0 m 59 ls []) := by
          intro N y v hk hyo hy hz ls H locs hl hV
          refine lv_aload_n hx hb dX3_factorial_59 rfl (lv_at hl 0 rfl) ?_
          refine lv_aload_n hx hb dX3_factorial_60 rfl (lv_at hl 0 rfl) ?_
          refine hm_get (ci := 5) (v := .ref (ad 0)) (C := RX3) (T := TX3) (N := 7) hx hb hws kin_X3 hown hK.1 hV (xw_x hk) rfl 3 (by decide) fl27 (fun _ h9 => h9) rfl dX3_factorial_61 ?_
          refine hm_calli (va_runV (As := [.ref (ad 0)]) (rest := []) ⟨hx, hb, hml, hown, hts⟩ (c_X3_keep l E hk H.size) (cwV 1 hts (hm_gV kw_144 kw_146 kw_2 kw_37 kw_147) rfl rfl rfl (by decide +kernel) ⟨Nat.le_of_ble_eq_true rfl, Nat.le_of_ble_eq_true rfl⟩) (hm_preV hK hV (xw_x hk) rfl) rfl rfl hl.1 rfl (lv_room (Nat.le_of_ble_eq_true rfl)) dX3_factorial_64 ⟨Nat.le_of_ble_eq_true rfl, Nat.le_of_ble_eq_true rfl⟩) hV hA (fun r64 M1 H locs hp hV => ?_)
          obtain ⟨cnt1, nums1, hkp, hxp⟩ := hp
          have hkp1 := kp_c (v := (v : Int)) hkp (fun j _ => hyo _ (by omega)) hy
          have hkp2 : kp cnt (fun j => z (200 + j)) (some ((fc n : Nat) : Int)) r64 cnt1 nums1 := by
            rcases (show v = fc n ∨ (bigN ≤ v ∧ bigN ≤ fc n) from hz) with h9 | h9
            · rw [← h9]; exact hkp1
            · exact kp_wide hkp1 (by rw [Int.natAbs_natCast]; exact h9.1) (by rw [Int.natAbs_natCast]; exact h9.2)
          rw [hQf]
          exact W.iret hx hb hr (fun t9 ht hW => ⟨⟨_, M1, rfl, ⟨cnt1, nums1, hkp2, hxp⟩, (hm_end hV ht).1⟩, (hm_end hV ht).2⟩) hV.2.2.2.2 dX3_factorial_67
        have loop : ∀ (fu : Nat) (N : hm_M) (y : Nat → Int) (j : Nat), (1 ≤ j) → (j ≤ n ∨ j = 1) → (xw E N A ad rw cnt el y t) → (∀ i, 200 ≤ i → y i = z i) → (y 0 = ((fc j : Nat) : Int)) → n + 1 - j < fu → ∀ (ls : Array Slot) (H : Heap) (locs : List Loc), lv_has ls 3 [(0, .ref (A 0)), (1, .int (nI n)), (2, .int (nI (j + 1)))] → hm_V E.1 vwCl (hm_A M sz) s.heap (N) H locs → W p l e rm_X3_factorial s m [.ref (A 0), .int (nI n)].toArray below meth c H locs 0 0 Qf (F0 m 30 ls []) := by
          intro fu
          induction fu with
          | zero => intro N y j hj hjn hk hyo hy hfu; exact absurd hfu (Nat.not_lt_zero _)
          | succ fu ih_loop =>
            intro N y j hj hjn hk hyo hy hfu ls H locs hl hV
            obtain ⟨nY, dY, kY, gY, hnY, hwY, haY, hoY⟩ := xw_at hk (i := 0) (Or.inl (by omega))
            have eY : nY = 65 := hnY.1 (by omega)
            subst eY
            have qY := hoY.1
            rw [hy] at hoY
            have hbd := wn_bd hoY
            rw [Int.natAbs_natCast] at hbd
            refine lv_iload_n hx hb dX3_factorial_30 rfl (lv_at hl 2 rfl) ?_
            refine lv_iload_n hx hb dX3_factorial_31 rfl (lv_at hl 1 rfl) ?_
            refine lv_icmp_gt (tgt := 59) hx hb dX3_factorial_32 (by decide) (fun c32 => ?_) (fun c32 => ?_)
            · have hnj : n < j + 1 := (nI_ltI (by omega) (by omega)).mp c32
              exact fin _ y (fc j) hk hyo hy (Or.inl (by
                rcases (show j = n ∨ (j = 1 ∧ n = 0) by omega) with h9 | h9
                · rw [h9]
                · rw [h9.1, h9.2]; rfl)) ls H locs (lv_sub hl [0] rfl) hV
            · have hnj : j < n := by
                rcases Nat.lt_or_ge n (j + 1) with q | q
                · exact absurd (nI_lt q (by omega)) c32
                · omega
              refine lv_aload_n hx hb dX3_factorial_35 rfl (lv_at hl 0 rfl) ?_
              refine hm_get (ci := 5) (v := .ref (ad 0)) (C := RX3) (T := TX3) (N := 7) hx hb hws kin_X3 hown hK.1 hV (xw_x hk) rfl 3 (by decide) fl27 (fun _ h9 => h9) rfl dX3_factorial_36 ?_
              refine hm_calli (va_runV (As := []) (rest := []) ⟨hx, hb, hml, hown, hts⟩ (c_X2_fits l E hwY (by have := hoY.1; omega) H.size) (cwV 0 hts (hm_gV kw_148 kw_149 kw_150 kw_38 kw_151) rfl rfl rfl (by decide +kernel) ⟨Nat.le_of_ble_eq_true rfl, Nat.le_of_ble_eq_true rfl⟩) (hm_preV hK hV hwY rfl) rfl rfl hl.1 rfl (lv_room (Nat.le_of_ble_eq_true rfl)) dX3_factorial_39 ⟨Nat.le_of_ble_eq_true rfl, Nat.le_of_ble_eq_true rfl⟩) hV hA (fun r39 M1 H locs hp hV => ?_)
              obtain ⟨hr39, hM1⟩ := hp
              rw [hM1] at hV
              refine lv_if_eq (tgt := 59) hx hb dX3_factorial_42 (by decide) (fun c42 => ?_) (fun c42 => ?_)
              · have hw : bigN ≤ fc j := by
                  rcases Nat.lt_or_ge (fc j) bigN with q | q
                  · rw [hr39, if_pos (hbd.mpr q)] at c42; exact absurd c42 (by decide)
                  · exact q
                exact fin _ y (fc j) hk hyo hy (Or.inr ⟨hw, Nat.le_trans hw (fc_mono (by omega))⟩) ls H locs (lv_sub hl [0] rfl) hV
              · have hk64 : kY ≤ 64 := by
                  rcases Nat.lt_or_ge 64 kY with q | q
                  · rw [if_neg (by omega)] at hr39; exact absurd hr39 c42
                  · exact q
                refine lv_aload_n hx hb dX3_factorial_45 rfl (lv_at hl 0 rfl) ?_
                refine hm_get (ci := 5) (v := .ref (ad 0)) (C := RX3) (T := TX3) (N := 7) hx hb hws kin_X3 hown hK.1 hV (xw_x hk) rfl 3 (by decide) fl27 (fun _ h9 => h9) rfl dX3_factorial_46 ?_
                refine lv_iload_n hx hb dX3_factorial_49 rfl (lv_at hl 2 rfl) ?_
                refine hm_callv (va_runV (As := [.int (nI (j + 1))]) (rest := []) ⟨hx, hb, hml, hown, hts⟩ (c_X2_multiplyBy l E (f := j + 1) hwY haY hoY (by omega) (by omega) (by omega) H.size) (cwV 1 hts (hm_gV kw_161 kw_162 kw_163 kw_38 kw_164) rfl rfl rfl (by decide +kernel) ⟨Nat.le_of_ble_eq_true rfl, Nat.le_of_ble_eq_true rfl⟩) (hm_preV hK hV hwY rfl) rfl rfl hl.1 rfl (lv_room (Nat.le_of_ble_eq_true rfl)) dX3_factorial_50 ⟨Nat.le_of_ble_eq_true rfl, Nat.le_of_ble_eq_true rfl⟩) hV hA (fun M1 H locs hp hV => ?_)
                rw [← Int.natCast_mul] at hp
                obtain ⟨z3, hz3, hz3o, hk⟩ := xw_set2 hk (i := 0) (Or.inl (by omega)) (wn_cp65 (by omega)) hp
                refine lv_iinc (v := (nI (j + 1 + 1))) (lv' := [(2, .int (nI (j + 1 + 1))), (0, .ref (A 0)), (1, .int (nI n))]) hx hb dX3_factorial_53 hl (k := 2) rfl (nI_1 (j + 1)) (by decide) rfl (fun ls hl => ?_)
                refine lv_goto (tgt := 30) hx hb dX3_factorial_56 (by decide) ?_
                exact ih_loop _ z3 (j + 1) (by omega) (by omega) hk (fun i hi => by rw [hz3o i (by omega)]; exact hyo i hi) hz3 (by omega) ls H locs (lv_sub hl [1, 2, 0] rfl) hV
        exact loop (n + 2) _ z1 1 (by omega) (Or.inr rfl) hk (fun i hi => hz1o i (by omega)) hz1 (by omega) ls H locs (lv_sub hl [1, 2, 0] rfl) hV
      · have hc1 : 160 ≤ cnt := by
          rcases hrf with h9 | h9
          · exact h9.2
          · exact absurd h9.1 c15
        exact no (Or.inl hc1) ls H locs (lv_sub hl [0, 1] rfl) hV

abbrev wd_X3_binomial : List Cond := .code yX3_binomial cX3_binomial 5 (some .int) :: hm_ws
abbrev rm_X3_binomial : Room := { frames := 3, cells := 2, slots := 67, locals := 82 }

set_option maxHeartbeats 4000000 in
set_option maxRecDepth 100000 in
/-- binomial(n, k) -/
theorem c_X3_binomial (l : Launch) (E : hm_E) {M : hm_M} {A ad rw : Nat → Nat} {cnt : Nat} {el : Bool} {z : Nat → Int} {t : Nat → Nat → Int64} {a b : Int32} (hk : xw E M A ad rw cnt el z t)  : hm_Ci l E yX3_binomial wd_X3_binomial rm_X3_binomial [.ref (A 0), .int a, .int b] M (fun r M1 => ∃ cnt1 nums1, kp cnt (fun j => z (200 + j)) (spB a b) r cnt1 nums1 ∧ xp E M1 (A 0) cnt1 nums1 t) := by
  intro sz
  refine Met.ofW (cc := cX3_binomial) (maxL := 5) (ret := (some .int)) (by decide) rfl ?_
  intro p e s m args below meth c s₁ B hml hv
  obtain ⟨rfl, hAe, hA, hK, hV⟩ := hm_start hv
  have hx := B.exec
  have hb := B.bytes
  have hr := B.returns
  have hts := atoms_spec (ws := wd_X3_binomial) B.pre
  have hws : ∀ w ∈ hm_ws, w.before _ s = true := fun w h => hts w (List.mem_cons_of_mem _ h)
  have hown : s.vm.findClass RX3 = some m.cls := findClass_of_methodNamed B.named
  have hlocks := B.notSynchronized
  have fl27 := hws _ kw_105
  have hl := lv_entry ([.ref (A 0), .int a, .int b]) (n := 5) (Nat.le_of_ble_eq_true rfl)
  rw [lg_entry_eq]
  generalize (lg_sl ([.ref (A 0), .int a, .int b]) ++ List.replicate (5 - (lg_sl ([.ref (A 0), .int a, .int b])).length) Slot.unset).toArray = ls at hl ⊢
  have hl : lv_has ls 5 [(0, .ref (A 0)), (1, .int a), (2, .int b)] := hl
  refine hm_gen (rm := rm_X3_binomial) rfl (fun Qf hQf => ?_)
  have no : (160 ≤ cnt ∨ spB a b = none) → ∀ (ls : Array Slot) (H : Heap) (locs : List Loc), lv_has ls 5 [(0, .ref (A 0)), (1, .int a), (2, .int b)] → hm_V E.1 vwCl (hm_A M sz) s.heap (M) H locs → W p l e rm_X3_binomial s m [.ref (A 0), .int a, .int b].toArray below meth c H locs 0 0 Qf (F0 m 18 ls []) := by
    intro  hno ls H locs hl hV
    refine lv_iconst (v := (-1)) hx hb dX3_binomial_18 (by decide) ?_
    refine W.widen (k := 2) (n := 67) (Nat.le_of_ble_eq_true rfl) (Nat.le_of_ble_eq_true rfl) ?_
    rw [hQf]
    exact W.iret hx hb hr (fun t9 ht hW => ⟨⟨_, M, rfl, ⟨cnt, (fun j => z (200 + j)), Or.inr ⟨by
      rcases hno with h9 | h9
      · exact Or.inl h9
      · exact Or.inr (Or.inl h9), rfl, rfl, fun _ _ => rfl⟩, xp_of hk (fun _ _ => rfl)⟩, (hm_end hV ht).1⟩, (hm_end hV ht).2⟩) hV.2.2.2.2 dX3_binomial_19
  refine lv_iload_n hx hb dX3_binomial_0 rfl (lv_at hl 1 rfl) ?_
  refine lv_if_lt (tgt := 18) hx hb dX3_binomial_1 (by decide) (fun c1 => ?_) (fun c1 => ?_)
  · exact no (Or.inr (if_pos (Or.inl c1))) ls s.heap [] (lv_sub hl [0, 1, 2] rfl) hV
  · refine lv_iload_n hx hb dX3_binomial_4 rfl (lv_at hl 1 rfl) ?_
    refine lv_sipush (v := 4000) hx hb dX3_binomial_5 (by decide) ?_
    refine lv_icmp_gt (tgt := 18) hx hb dX3_binomial_8 (by decide) (fun c8 => ?_) (fun c8 => ?_)
    · exact no (Or.inr (if_pos (Or.inr c8))) ls s.heap [] (lv_sub hl [0, 1, 2] rfl) hV
    · obtain ⟨n, hn, rfl⟩ := nI_of2 (M := 4000) (n := 4000) rfl c1 (Int32.not_lt.mp c8)
      have hl : lv_has ls 5 [(0, .ref (A 0)), (1, .int (nI n)), (2, .int b)] := hl
      refine lv_aload_n hx hb dX3_binomial_11 rfl (lv_at hl 0 rfl) ?_
      refine hm_calli (va_runV (As := []) (rest := []) ⟨hx, hb, hml, hown, hts⟩ (c_X3_isFull l E (xw_x hk) (xw_cn hk) s.heap.size) (cwV 0 hts (hm_gV kw_128 kw_130 kw_0 kw_37 kw_131) rfl rfl rfl (by decide +kernel) ⟨Nat.le_of_ble_eq_true rfl, Nat.le_of_ble_eq_true rfl⟩) (hm_preV hK hV (xw_x hk) rfl) rfl rfl hl.1 rfl (lv_room (Nat.le_of_ble_eq_true rfl)) dX3_binomial_12 ⟨Nat.le_of_ble_eq_true rfl, Nat.le_of_ble_eq_true rfl⟩) hV hA (fun r12 M1 H locs hp hV => ?_)
      obtain ⟨hrf, hM1⟩ := hp
      rw [hM1] at hV
      refine lv_if_eq (tgt := 20) hx hb dX3_binomial_15 (by decide) (fun c15 => ?_) (fun c15 => ?_)
      · have hc1 : cnt < 160 := by
          rcases hrf with h9 | h9
          · rw [h9.1] at c15; exact absurd c15 (by decide)
          · exact h9.2
        obtain ⟨nZ, dZ, kZ, gZ, hnZ, hwZ, haZ, hoZ⟩ := xw_at hk (i := 0) (Or.inl (by omega))
        have eZ : nZ = 65 := hnZ.1 (by omega)
        subst eZ
        have qZ := hoZ.1
        refine lv_aload_n hx hb dX3_binomial_20 rfl (lv_at hl 0 rfl) ?_
        refine hm_get (ci := 5) (v := .ref (ad 0)) (C := RX3) (T := TX3) (N := 7) hx hb hws kin_X3 hown hK.1 hV (xw_x hk) rfl 3 (by decide) fl27 (fun _ h9 => h9) rfl dX3_binomial_21 ?_
        have zero : (b < 0 ∨ nI n < b) → ∀ (ls : Array Slot) (H : Heap) (locs : List Loc), lv_has ls 5 [(0, .ref (A 0)), (1, .int (nI n)), (2, .int b)] → hm_V E.1 vwCl (hm_A M sz) s.heap (M) H locs → W p l e rm_X3_binomial s m [.ref (A 0), .int (nI n), .int b].toArray below meth c H locs 0 0 Qf (F0 m 33 ls [.ref (ad 0)]) := by
          intro  hb0 ls H locs hl hV
          rw [spB_0 hn hb0] at hQf
          have hst := st_neg hn hb0
          refine lv_lconst (v := 0) hx hb dX3_binomial_33 (by decide) ?_
          refine lv_goto (tgt := 38) hx hb dX3_binomial_34 (by decide) ?_
          refine hm_callv (va_runV (As := [.long 0]) (rest := []) ⟨hx, hb, hml, hown, hts⟩ (c_X2_setLong l E (v := 0) hwZ haZ hoZ.2.1 (by omega) (by omega) H.size) (cwV 1 hts (hm_gV kw_132 kw_133 kw_134 kw_38 kw_135) rfl rfl rfl (by decide +kernel) ⟨Nat.le_of_ble_eq_true rfl, Nat.le_of_ble_eq_true rfl⟩) (hm_preV hK hV hwZ rfl) rfl rfl hl.1 rfl (lv_room (Nat.le_of_ble_eq_true rfl)) dX3_binomial_38 ⟨Nat.le_of_ble_eq_true rfl, Nat.le_of_ble_eq_true rfl⟩) hV hA (fun M1 H locs hp hV => ?_)
          rw [show (0 : Int64).toInt = 0 from by decide] at hp
          obtain ⟨z1, hz1, hz1o, hk⟩ := xw_set2 hk (i := 0) (Or.inl (by omega)) (wn_cp65 (by omega)) hp
          refine lv_iload_n hx hb dX3_binomial_41 rfl (lv_at hl 2 rfl) ?_
          refine lv_iload_n hx hb dX3_binomial_42 rfl (lv_at hl 1 rfl) ?_
          refine lv_iload_n hx hb dX3_binomial_43 rfl (lv_at hl 2 rfl) ?_
          refine lv_isub hx hb dX3_binomial_44 ?_
          refine va_mmin hx hb (by rw [hml]; exact hl.1.symm) hown (hws _ kw_160) (hws _ kw_137) (hws _ kw_39) (hws _ kw_138) (Nat.le_of_ble_eq_true rfl) (Nat.le_of_ble_eq_true rfl) (Nat.zero_le _) (Nat.zero_le _) dX3_binomial_45 ?_
          refine lv_istore_n (lv' := [(3, .int (if (nI n) - b < b then (nI n) - b else b)), (0, .ref (A 0)), (1, .int (nI n)), (2, .int b)]) hx hb dX3_binomial_48 rfl hl (by decide) rfl (fun ls hl => ?_)
          refine lv_iconst (v := 1) hx hb dX3_binomial_49 (by decide) ?_
          refine lv_istore (lv' := [(4, .int 1), (3, .int (if (nI n) - b < b then (nI n) - b else b)), (0, .ref (A 0)), (1, .int (nI n)), (2, .int b)]) hx hb dX3_binomial_50 hl (by decide) rfl (fun ls hl => ?_)
          refine lv_iload hx hb dX3_binomial_52 (lv_at hl 0 rfl) ?_
          refine lv_iload_n hx hb dX3_binomial_54 rfl (lv_at hl 1 rfl) ?_
          refine lv_icmp_gt (tgt := 97) hx hb dX3_binomial_55 (by decide) (fun c55 => ?_) (fun c55 => ?_)
          · refine lv_aload_n hx hb dX3_binomial_97 rfl (lv_at hl 2 rfl) ?_
            refine lv_aload_n hx hb dX3_binomial_98 rfl (lv_at hl 2 rfl) ?_
            refine hm_get (ci := 5) (v := .ref (ad 0)) (C := RX3) (T := TX3) (N := 7) hx hb hws kin_X3 hown hK.1 hV (xw_x hk) rfl 3 (by decide) fl27 (fun _ h9 => h9) rfl dX3_binomial_99 ?_
            refine hm_calli (va_runV (As := [.ref (ad 0)]) (rest := []) ⟨hx, hb, hml, hown, hts⟩ (c_X3_keep l E hk H.size) (cwV 1 hts (hm_gV kw_144 kw_146 kw_2 kw_37 kw_147) rfl rfl rfl (by decide +kernel) ⟨Nat.le_of_ble_eq_true rfl, Nat.le_of_ble_eq_true rfl⟩) (hm_preV hK hV (xw_x hk) rfl) rfl rfl hl.1 rfl (lv_room (Nat.le_of_ble_eq_true rfl)) dX3_binomial_102 ⟨Nat.le_of_ble_eq_true rfl, Nat.le_of_ble_eq_true rfl⟩) hV hA (fun r102 M1 H locs hp hV => ?_)
            obtain ⟨cnt1, nums1, hkp, hxp⟩ := hp
            rw [hQf]
            exact W.iret hx hb hr (fun t9 ht hW => ⟨⟨_, M1, rfl, ⟨cnt1, nums1, kp_c hkp (fun j _ => hz1o _ (by omega)) hz1, hxp⟩, (hm_end hV ht).1⟩, (hm_end hV ht).2⟩) hV.2.2.2.2 dX3_binomial_105
          · exact absurd (Int32.lt_trans hst (by decide)) c55
        refine lv_iload_n hx hb dX3_binomial_24 rfl (lv_at hl 2 rfl) ?_
        refine lv_if_lt (tgt := 33) hx hb dX3_binomial_25 (by decide) (fun c25 => ?_) (fun c25 => ?_)
        · exact zero (Or.inl c25) ls H locs (lv_sub hl [0, 1, 2] rfl) hV
        · refine lv_iload_n hx hb dX3_binomial_28 rfl (lv_at hl 2 rfl) ?_
          refine lv_iload_n hx hb dX3_binomial_29 rfl (lv_at hl 1 rfl) ?_
          refine lv_icmp_le (tgt := 37) hx hb dX3_binomial_30 (by decide) (fun c30 => ?_) (fun c30 => ?_)
          · obtain ⟨kk, hkk, rfl⟩ := nI_of c25
            have hkn : kk ≤ n := (nI_leI (by omega) (by omega)).mp c30
            rw [spB_n hn hkn] at hQf
            have hl : lv_has ls 5 [(0, .ref (A 0)), (1, .int (nI n)), (2, .int (nI kk))] := hl
            refine lv_lconst (v := 1) hx hb dX3_binomial_37 (by decide) ?_
            refine hm_callv (va_runV (As := [.long 1]) (rest := []) ⟨hx, hb, hml, hown, hts⟩ (c_X2_setLong l E (v := 1) hwZ haZ hoZ.2.1 (by omega) (by omega) H.size) (cwV 1 hts (hm_gV kw_132 kw_133 kw_134 kw_38 kw_135) rfl rfl rfl (by decide +kernel) ⟨Nat.le_of_ble_eq_true rfl, Nat.le_of_ble_eq_true rfl⟩) (hm_preV hK hV hwZ rfl) rfl rfl hl.1 rfl (lv_room (Nat.le_of_ble_eq_true rfl)) dX3_binomial_38 ⟨Nat.le_of_ble_eq_true rfl, Nat.le_of_ble_eq_true rfl⟩) hV hA (fun M1 H locs hp hV => ?_)
            rw [show (1 : Int64).toInt = ((1 : Nat) : Int) from by decide] at hp
            obtain ⟨z1, hz1, hz1o, hk⟩ := xw_set2 hk (i := 0) (Or.inl (by omega)) (wn_cp65 (by omega)) hp
            refine lv_iload_n hx hb dX3_binomial_41 rfl (lv_at hl 2 rfl) ?_
            refine lv_iload_n hx hb dX3_binomial_42 rfl (lv_at hl 1 rfl) ?_
            refine lv_iload_n hx hb dX3_binomial_43 rfl (lv_at hl 2 rfl) ?_
            refine lv_isub hx hb dX3_binomial_44 ?_
            refine hm_topi (show ((nI n) - (nI kk)) = nI (n - kk) from pk_sub hkn) ?_
            obtain ⟨f0, hf1, hf2, hf3⟩ : ∃ f0, (f0 = kk ∨ f0 = n - kk) ∧ 2 * f0 ≤ n ∧ (if nI (n - kk) < nI kk then nI (n - kk) else nI kk) = nI f0 := by
              rcases Nat.lt_or_ge (n - kk) kk with q | q
              · exact ⟨n - kk, Or.inr rfl, by omega, if_pos (nI_lt q (by omega))⟩
              · exact ⟨kk, Or.inl rfl, by omega, if_neg (nI_nlt q (by omega))⟩
            have hbe := bc_mid hkn hf1
            rw [hbe] at hQf
            refine va_mmin hx hb (by rw [hml]; exact hl.1.symm) hown (hws _ kw_160) (hws _ kw_137) (hws _ kw_39) (hws _ kw_138) (Nat.le_of_ble_eq_true rfl) (Nat.le_of_ble_eq_true rfl) (Nat.zero_le _) (Nat.zero_le _) dX3_binomial_45 ?_
            refine hm_topi (show (if nI (n - kk) < nI kk then nI (n - kk) else nI kk) = nI f0 from hf3) ?_
            refine lv_istore_n (lv' := [(3, .int (nI f0)), (0, .ref (A 0)), (1, .int (nI n)), (2, .int (nI kk))]) hx hb dX3_binomial_48 rfl hl (by decide) rfl (fun ls hl => ?_)
            refine lv_iconst (v := 1) hx hb dX3_binomial_49 (by decide) ?_
            refine lv_istore (lv' := [(4, .int 1), (3, .int (nI f0)), (0, .ref (A 0)), (1, .int (nI n)), (2, .int (nI kk))]) hx hb dX3_binomial_50 hl (by decide) rfl (fun ls hl => ?_)
            have fin : ∀ (N : hm_M) (y : Nat → Int) (v : Nat), (xw E N A ad rw cnt el y t) → (∀ i, 200 ≤ i → y i = z i) → (y 0 = (v : Int)) → (hid (v = bc n f0 ∨ (bigN ≤ v ∧ bigN ≤ bc n f0))) → ∀ (ls : Array Slot) (H : Heap) (locs : List Loc), lv_has ls 5 [(0, .ref (A 0))] → hm_V E.1 vwCl (hm_A M sz) s.heap (N) H locs → W p l e rm_X3_binomial s m [.ref (A 0), .int (nI n), .int (nI kk)].toArray below meth c H locs 0 0 Qf (F0 m 97 ls []) := by
              intro N y v hk hyo hy hz ls H locs hl hV
              refine lv_aload_n hx hb dX3_binomial_97 rfl (lv_at hl 0 rfl) ?_
              refine lv_aload_n hx hb dX3_binomial_98 rfl (lv_at hl 0 rfl) ?_
              refine hm_get (ci := 5) (v := .ref (ad 0)) (C := RX3) (T := TX3) (N := 7) hx hb hws kin_X3 hown hK.1 hV (xw_x hk) rfl 3 (by decide) fl27 (fun _ h9 => h9) rfl dX3_binomial_99 ?_
              refine hm_calli (va_runV (As := [.ref (ad 0)]) (rest := []) ⟨hx, hb, hml, hown, hts⟩ (c_X3_keep l E hk H.size) (cwV 1 hts (hm_gV kw_144 kw_146 kw_2 kw_37 kw_147) rfl rfl rfl (by decide +kernel) ⟨Nat.le_of_ble_eq_true rfl, Nat.le_of_ble_eq_true rfl⟩) (hm_preV hK hV (xw_x hk) rfl) rfl rfl hl.1 rfl (lv_room (Nat.le_of_ble_eq_true rfl)) dX3_binomial_102 ⟨Nat.le_of_ble_eq_true rfl, Nat.le_of_ble_eq_true rfl⟩) hV hA (fun r102 M1 H locs hp hV => ?_)
              obtain ⟨cnt1, nums1, hkp, hxp⟩ := hp
              have hkp1 := kp_c (v := (v : Int)) hkp (fun j _ => hyo _ (by omega)) hy
              have hkp2 : kp cnt (fun j => z (200 + j)) (some ((bc n f0 : Nat) : Int)) r102 cnt1 nums1 := by
                rcases (show v = bc n f0 ∨ (bigN ≤ v ∧ bigN ≤ bc n f0) from hz) with h9 | h9
                · rw [← h9]; exact hkp1
                · exact kp_wide hkp1 (by rw [Int.natAbs_natCast]; exact h9.1) (by rw [Int.natAbs_natCast]; exact h9.2)
              rw [hQf]
              exact W.iret hx hb hr (fun t9 ht hW => ⟨⟨_, M1, rfl, ⟨cnt1, nums1, hkp2, hxp⟩, (hm_end hV ht).1⟩, (hm_end hV ht).2⟩) hV.2.2.2.2 dX3_binomial_105
            have loop : ∀ (fu : Nat) (N : hm_M) (y : Nat → Int) (i : Nat), (i ≤ f0) → (xw E N A ad rw cnt el y t) → (∀ i, 200 ≤ i → y i = z i) → (y 0 = ((bc n i : Nat) : Int)) → f0 - i < fu → ∀ (ls : Array Slot) (H : Heap) (locs : List Loc), lv_has ls 5 [(0, .ref (A 0)), (1, .int (nI n)), (2, .int (nI kk)), (3, .int (nI f0)), (4, .int (nI (i + 1)))] → hm_V E.1 vwCl (hm_A M sz) s.heap (N) H locs → W p l e rm_X3_binomial s m [.ref (A 0), .int (nI n), .int (nI kk)].toArray below meth c H locs 0 0 Qf (F0 m 52 ls []) := by
              intro fu
              induction fu with
              | zero => intro N y i hi hk hyo hy hfu; exact absurd hfu (Nat.not_lt_zero _)
              | succ fu ih_loop =>
                intro N y i hi hk hyo hy hfu ls H locs hl hV
                obtain ⟨nY, dY, kY, gY, hnY, hwY, haY, hoY⟩ := xw_at hk (i := 0) (Or.inl (by omega))
                have eY : nY = 65 := hnY.1 (by omega)
                subst eY
                have qY := hoY.1
                rw [hy] at hoY
                have hbd := wn_bd hoY
                rw [Int.natAbs_natCast] at hbd
                refine lv_iload hx hb dX3_binomial_52 (lv_at hl 4 rfl) ?_
                refine lv_iload_n hx hb dX3_binomial_54 rfl (lv_at hl 3 rfl) ?_
                refine lv_icmp_gt (tgt := 97) hx hb dX3_binomial_55 (by decide) (fun c55 => ?_) (fun c55 => ?_)
                · have hif : i = f0 := by
                    have := (nI_ltI (by omega) (by omega)).mp c55
                    omega
                  exact fin _ y _ hk hyo hy (Or.inl (by rw [hif])) ls H locs (lv_sub hl [0] rfl) hV
                · have hif : i < f0 := by
                    rcases Nat.lt_or_ge f0 (i + 1) with q | q
                    · exact absurd (nI_lt q (by omega)) c55
                    · omega
                  refine lv_aload_n hx hb dX3_binomial_58 rfl (lv_at hl 0 rfl) ?_
                  refine hm_get (ci := 5) (v := .ref (ad 0)) (C := RX3) (T := TX3) (N := 7) hx hb hws kin_X3 hown hK.1 hV (xw_x hk) rfl 3 (by decide) fl27 (fun _ h9 => h9) rfl dX3_binomial_59 ?_
                  refine hm_calli (va_runV (As := []) (rest := []) ⟨hx, hb, hml, hown, hts⟩ (c_X2_fits l E hwY (by have := hoY.1; omega) H.size) (cwV 0 hts (hm_gV kw_148 kw_149 kw_150 kw_38 kw_151) rfl rfl rfl (by decide +kernel) ⟨Nat.le_of_ble_eq_true rfl, Nat.le_of_ble_eq_true rfl⟩) (hm_preV hK hV hwY rfl) rfl rfl hl.1 rfl (lv_room (Nat.le_of_ble_eq_true rfl)) dX3_binomial_62 ⟨Nat.le_of_ble_eq_true rfl, Nat.le_of_ble_eq_true rfl⟩) hV hA (fun r62 M1 H locs hp hV => ?_)
                  obtain ⟨hr62, hM1⟩ := hp
                  rw [hM1] at hV
                  refine lv_if_eq (tgt := 97) hx hb dX3_binomial_65 (by decide) (fun c65 => ?_) (fun c65 => ?_)
                  · have hw : bigN ≤ bc n i := by
                      rcases Nat.lt_or_ge (bc n i) bigN with q | q
                      · rw [hr62, if_pos (hbd.mpr q)] at c65; exact absurd c65 (by decide)
                      · exact q
                    exact fin _ y _ hk hyo hy (Or.inr ⟨hw, Nat.le_trans hw (bc_mono (by omega) hf2)⟩) ls H locs (lv_sub hl [0] rfl) hV
                  · have hk64 : kY ≤ 64 := by
                      rcases Nat.lt_or_ge 64 kY with q | q
                      · rw [if_neg (by omega)] at hr62; exact absurd hr62 c65
                      · exact q
                    refine lv_aload_n hx hb dX3_binomial_68 rfl (lv_at hl 0 rfl) ?_
                    refine hm_get (ci := 5) (v := .ref (ad 0)) (C := RX3) (T := TX3) (N := 7) hx hb hws kin_X3 hown hK.1 hV (xw_x hk) rfl 3 (by decide) fl27 (fun _ h9 => h9) rfl dX3_binomial_69 ?_
                    refine lv_iload_n hx hb dX3_binomial_72 rfl (lv_at hl 1 rfl) ?_
                    refine lv_iload hx hb dX3_binomial_73 (lv_at hl 4 rfl) ?_
                    refine lv_isub hx hb dX3_binomial_75 ?_
                    refine hm_topi (show ((nI n) - (nI (i + 1))) = nI (n - (i + 1)) from pk_sub (by omega)) ?_
                    refine lv_iconst (v := 1) hx hb dX3_binomial_76 (by decide) ?_
                    refine lv_iadd hx hb dX3_binomial_77 ?_
                    refine hm_topi (show ((nI (n - (i + 1))) + 1) = nI (n - i) from (nI_1 _).trans (by congr 1; omega)) ?_
                    refine hm_callv (va_runV (As := [.int (nI (n - i))]) (rest := []) ⟨hx, hb, hml, hown, hts⟩ (c_X2_multiplyBy l E (f := n - i) hwY haY hoY (by omega) (by omega) (by omega) H.size) (cwV 1 hts (hm_gV kw_161 kw_162 kw_163 kw_38 kw_164) rfl rfl rfl (by decide +kernel) ⟨Nat.le_of_ble_eq_true rfl, Nat.le_of_ble_eq_true rfl⟩) (hm_preV hK hV hwY rfl) rfl rfl hl.1 rfl (lv_room (Nat.le_of_ble_eq_true rfl)) dX3_binomial_78 ⟨Nat.le_of_ble_eq_true rfl, Nat.le_of_ble_eq_true rfl⟩) hV hA (fun M1 H locs hp hV => ?_)
                    rw [← Int.natCast_mul] at hp
                    obtain ⟨z3, hz3, hz3o, hk⟩ := xw_set2 hk (i := 0) (Or.inl (by omega)) (wn_cp65 (by omega)) hp
                    obtain ⟨nV, dV, kV, gV, hnV, hwV, haV, hoV⟩ := xw_at hk (i := 0) (Or.inl (by omega))
                    have eV : nV = 65 := hnV.1 (by omega)
                    subst eV
                    have qV := hoV.1
                    rw [hz3] at hoV
                    refine lv_aload_n hx hb dX3_binomial_81 rfl (lv_at hl 0 rfl) ?_
                    refine hm_get (ci := 5) (v := .ref (ad 0)) (C := RX3) (T := TX3) (N := 7) hx hb hws kin_X3 hown hK.1 hV (xw_x hk) rfl 3 (by decide) fl27 (fun _ h9 => h9) rfl dX3_binomial_82 ?_
                    refine lv_iload hx hb dX3_binomial_85 (lv_at hl 4 rfl) ?_
                    refine hm_calli (va_runV (As := [.int (nI (i + 1))]) (rest := []) ⟨hx, hb, hml, hown, hts⟩ (c_X2_divideBy l E (q := i + 1) hwV haV hoV (by omega) (by omega) (by omega) H.size) (cwV 1 hts (hm_gV kw_169 kw_170 kw_171 kw_38 kw_172) rfl rfl rfl (by decide +kernel) ⟨Nat.le_of_ble_eq_true rfl, Nat.le_of_ble_eq_true rfl⟩) (hm_preV hK hV hwV rfl) rfl rfl hl.1 rfl (lv_room (Nat.le_of_ble_eq_true rfl)) dX3_binomial_87 ⟨Nat.le_of_ble_eq_true rfl, Nat.le_of_ble_eq_true rfl⟩) hV hA (fun r87 M1 H locs hp hV => ?_)
                    obtain ⟨hr87, hp⟩ := hp
                    rw [qz_nat, bc_cstep (by omega)] at hp
                    obtain ⟨z4, hz4, hz4o, hk⟩ := xw_set2 hk (i := 0) (Or.inl (by omega)) (wn_cp65 (by omega)) hp
                    refine lv_pop hx hb dX3_binomial_90 rfl ?_
                    refine lv_iinc (v := (nI (i + 1 + 1))) (lv' := [(4, .int (nI (i + 1 + 1))), (0, .ref (A 0)), (1, .int (nI n)), (2, .int (nI kk)), (3, .int (nI f0))]) hx hb dX3_binomial_91 hl (k := 4) rfl (nI_1 (i + 1)) (by decide) rfl (fun ls hl => ?_)
                    refine lv_goto (tgt := 52) hx hb dX3_binomial_94 (by decide) ?_
                    exact ih_loop _ z4 (i + 1) (by omega) hk (fun i hi => by rw [hz4o i (by omega), hz3o i (by omega)]; exact hyo i hi) hz4 (by omega) ls H locs (lv_sub hl [1, 2, 3, 4, 0] rfl) hV
            exact loop (f0 + 1) _ z1 0 (Nat.zero_le _) hk (fun i hi => hz1o i (by omega)) (by rw [bc_0]; exact hz1) (by omega) ls H locs (lv_sub hl [2, 3, 4, 1, 0] rfl) hV
          · exact zero (Or.inr (Int32.not_le.mp c30)) ls H locs (lv_sub hl [0, 1, 2] rfl) hV
      · have hc1 : 160 ≤ cnt := by
          rcases hrf with h9 | h9
          · exact h9.2
          · exact absurd h9.1 c15
        exact no (Or.inl hc1) ls H locs (lv_sub hl [0, 1, 2] rfl) hV

abbrev wd_X3_power : List Cond := .code yX3_power cX3_power 5 (some .int) :: hm_ws
abbrev rm_X3_power : Room := { frames := 8, cells := 4, slots := 79, locals := 131 }

set_option maxHeartbeats 4000000 in
set_option maxRecDepth 100000 in
/-- power(a, n) -/
theorem c_X3_power (l : Launch) (hlt : l.stackTraces = false) (E : hm_E) {M : hm_M} {A ad rw : Nat → Nat} {cnt : Nat} {el : Bool} {z : Nat → Int} {t : Nat → Nat → Int64} {a b : Int32} (hk : xw E M A ad rw cnt el z t)  : hm_TCi l E yX3_power wd_X3_power rm_X3_power [.ref (A 0), .int a, .int b] M (fun r M1 => ∃ i, i < cnt ∧ a = nI i ∧ ∃ cnt1 nums1, kp cnt (fun j => z (200 + j)) (spP (z (200 + i)) b) r cnt1 nums1 ∧ xp E M1 (A 0) cnt1 nums1 t) (fun Ex M1 => Ex = xAI ∧ ¬ kn cnt a ∧ M1 = M) := by
  intro sz
  refine vx_ofW (cc := cX3_power) (maxL := 5) (ret := (some .int)) (by decide) rfl ?_
  intro p e s m args below meth c s₁ B hml htb hv
  obtain ⟨rfl, hAe, hA, hK, hV, hY⟩ := hm_startX hv
  have hx := B.exec
  have hb := B.bytes
  have hr := B.returns
  have hts := atoms_spec (ws := wd_X3_power) B.pre
  have hws : ∀ w ∈ hm_ws, w.before _ s = true := fun w h => hts w (List.mem_cons_of_mem _ h)
  have hown : s.vm.findClass RX3 = some m.cls := findClass_of_methodNamed B.named
  have hlocks := B.notSynchronized
  have fl27 := hws _ kw_105
  have fl31 := hws _ kw_106
  have ld87 := hws _ kw_436
  have hl := lv_entry ([.ref (A 0), .int a, .int b]) (n := 5) (Nat.le_of_ble_eq_true rfl)
  rw [lg_entry_eq]
  generalize (lg_sl ([.ref (A 0), .int a, .int b]) ++ List.replicate (5 - (lg_sl ([.ref (A 0), .int a, .int b])).length) Slot.unset).toArray = ls at hl ⊢
  have hl : lv_has ls 5 [(0, .ref (A 0)), (1, .int a), (2, .int b)] := hl
  refine hm_gen (rm := rm_X3_power) rfl (fun Qf hQf => ?_)
  refine lv_aload_n hx hb dX3_power_0 rfl (lv_at hl 0 rfl) ?_
  refine lv_iload_n hx hb dX3_power_1 rfl (lv_at hl 1 rfl) ?_
  refine hm_tcallr (vx_runV (As := [.int a]) (rest := []) ⟨hx, hb, hml, hown, hts⟩ (c_X3_known l hlt E hk s.heap.size) (cwV 1 hts (hm_gV kw_387 kw_389 kw_16 kw_37 kw_390) rfl rfl rfl (by decide +kernel) ⟨Nat.le_of_ble_eq_true rfl, Nat.le_of_ble_eq_true rfl⟩) (hm_preVX hK hV hA hY (xw_x hk) rfl) rfl rfl hl.1 rfl (lv_room (Nat.le_of_ble_eq_true rfl)) dX3_power_2 ⟨Nat.le_of_ble_eq_true rfl, Nat.le_of_ble_eq_true rfl⟩) hV hA (fun Ex ce q9 M1 H locs hp hV h91 h92 h93 => ?_) (fun r2 M1 H locs hp hV => ?_)
  · rw [hQf]; exact hm_tout htb hlocks hV (hp) h91 h92 h93 (Nat.le_of_ble_eq_true rfl) (Nat.le_of_ble_eq_true rfl)
  obtain ⟨⟨ia, hia, rfl, hr2⟩, hM1⟩ := hp
  rw [hM1] at hV
  subst hr2
  have hl : lv_has ls 5 [(0, .ref (A 0)), (1, .int (nI ia)), (2, .int b)] := hl
  have hcn := xw_cn hk
  refine lv_astore_n (lv' := [(3, .ref (ad (200 + ia))), (0, .ref (A 0)), (1, .int (nI ia)), (2, .int b)]) hx hb dX3_power_5 rfl hl (by decide) rfl (fun ls hl => ?_)
  have no : (160 ≤ cnt ∨ spP (z (200 + ia)) b = none) → ∀ (ls : Array Slot) (H : Heap) (locs : List Loc), lv_has ls 5 [(3, .ref (ad (200 + ia))), (0, .ref (A 0)), (1, .int (nI ia)), (2, .int b)] → hm_V E.1 vwCl (hm_A M sz) s.heap (M) H locs → W p l e rm_X3_power s m [.ref (A 0), .int (nI ia), .int b].toArray below meth c H locs 1 6 Qf (F0 m 23 ls []) := by
    intro  hno ls H locs hl hV
    refine lv_iconst (v := (-1)) hx hb dX3_power_23 (by decide) ?_
    refine W.widen (k := 4) (n := 79) (Nat.le_of_ble_eq_true rfl) (Nat.le_of_ble_eq_true rfl) ?_
    rw [hQf]
    exact vx_ret (W.iret hx hb hr (fun t9 ht hW => ⟨⟨_, M, rfl, ⟨ia, hia, rfl, cnt, (fun j => z (200 + j)), Or.inr ⟨by
      rcases hno with h9 | h9
      · exact Or.inl h9
      · exact Or.inr (Or.inl h9), rfl, rfl, fun _ _ => rfl⟩, xp_of hk (fun _ _ => rfl)⟩, (hm_end hV ht).1⟩, (hm_end hV ht).2⟩) hV.2.2.2.2 dX3_power_24)
  refine lv_iload_n hx hb dX3_power_6 rfl (lv_at hl 3 rfl) ?_
  refine lv_if_lt (tgt := 23) hx hb dX3_power_7 (by decide) (fun c7 => ?_) (fun c7 => ?_)
  · exact no (Or.inr (if_pos (Or.inl c7))) ls H locs (lv_sub hl [0, 1, 2, 3] rfl) hV
  · refine lv_iload_n hx hb dX3_power_10 rfl (lv_at hl 3 rfl) ?_
    refine lv_ldc (v := 1000000) hx hb hown ld87 dX3_power_11 ?_
    refine lv_icmp_gt (tgt := 23) hx hb dX3_power_13 (by decide) (fun c13 => ?_) (fun c13 => ?_)
    · exact no (Or.inr (if_pos (Or.inr c13))) ls H locs (lv_sub hl [0, 1, 2, 3] rfl) hV
    · obtain ⟨n, hnn, rfl⟩ := nI_of2 (M := 1000000) (n := 1000000) rfl c7 (Int32.not_lt.mp c13)
      have hl : lv_has ls 5 [(3, .ref (ad (200 + ia))), (0, .ref (A 0)), (1, .int (nI ia)), (2, .int (nI n))] := hl
      refine lv_aload_n hx hb dX3_power_16 rfl (lv_at hl 1 rfl) ?_
      refine hm_calli (va_runV (As := []) (rest := []) ⟨hx, hb, hml, hown, hts⟩ (c_X3_isFull l E (xw_x hk) (xw_cn hk) H.size) (cwV 0 hts (hm_gV kw_128 kw_130 kw_0 kw_37 kw_131) rfl rfl rfl (by decide +kernel) ⟨Nat.le_of_ble_eq_true rfl, Nat.le_of_ble_eq_true rfl⟩) (hm_preV hK hV (xw_x hk) rfl) rfl rfl hl.1 rfl (lv_room (Nat.le_of_ble_eq_true rfl)) dX3_power_17 ⟨Nat.le_of_ble_eq_true rfl, Nat.le_of_ble_eq_true rfl⟩) hV hA (fun r17 M1 H locs hp hV => ?_)
      obtain ⟨hrf, hM1⟩ := hp
      rw [hM1] at hV
      refine lv_if_eq (tgt := 25) hx hb dX3_power_20 (by decide) (fun c20 => ?_) (fun c20 => ?_)
      · have hc1 : cnt < 160 := by
          rcases hrf with h9 | h9
          · rw [h9.1] at c20; exact absurd c20 (by decide)
          · exact h9.2
        obtain ⟨xx, hxx⟩ : ∃ xx, xx = z (200 + ia) := ⟨_, rfl⟩
        have hsp := spP_n (x := xx) hnn
        obtain ⟨nZ, dZ, kZ, gZ, hnZ, hwZ, haZ, hoZ⟩ := xw_at hk (i := 0) (Or.inl (by omega))
        have eZ : nZ = 65 := hnZ.1 (by omega)
        subst eZ
        have qZ := hoZ.1
        refine lv_aload_n hx hb dX3_power_25 rfl (lv_at hl 1 rfl) ?_
        refine hm_get (ci := 5) (v := .ref (ad 0)) (C := RX3) (T := TX3) (N := 7) hx hb hws kin_X3 hown hK.1 hV (xw_x hk) rfl 3 (by decide) fl27 (fun _ h9 => h9) rfl dX3_power_26 ?_
        refine lv_lconst (v := 1) hx hb dX3_power_29 (by decide) ?_
        refine hm_callv (va_runV (As := [.long 1]) (rest := []) ⟨hx, hb, hml, hown, hts⟩ (c_X2_setLong l E (v := 1) hwZ haZ hoZ.2.1 (by omega) (by omega) H.size) (cwV 1 hts (hm_gV kw_132 kw_133 kw_134 kw_38 kw_135) rfl rfl rfl (by decide +kernel) ⟨Nat.le_of_ble_eq_true rfl, Nat.le_of_ble_eq_true rfl⟩) (hm_preV hK hV hwZ rfl) rfl rfl hl.1 rfl (lv_room (Nat.le_of_ble_eq_true rfl)) dX3_power_30 ⟨Nat.le_of_ble_eq_true rfl, Nat.le_of_ble_eq_true rfl⟩) hV hA (fun M1 H locs hp hV => ?_)
        rw [show (1 : Int64).toInt = 1 from by decide] at hp
        obtain ⟨z1, hz1, hz1o, hk⟩ := xw_set2 hk (i := 0) (Or.inl (by omega)) (wn_cp65 (by omega)) hp
        have wide : ∀ (N : hm_M) (y : Nat → Int), (xw E N A ad rw cnt el y t) → (∀ i, 200 ≤ i → y i = z i) → (bigN ≤ (xx ^ n).natAbs) → ∀ (ls : Array Slot) (H : Heap) (locs : List Loc), lv_has ls 5 [(0, .ref (A 0))] → hm_V E.1 vwCl (hm_A M sz) s.heap (N) H locs → W p l e rm_X3_power s m [.ref (A 0), .int (nI ia), .int (nI n)].toArray below meth c H locs 1 6 Qf (F0 m 62 ls []) := by
          intro N y hk hyo hw ls H locs hl hV
          refine lv_iconst (v := (-1)) hx hb dX3_power_62 (by decide) ?_
          refine W.widen (k := 4) (n := 79) (Nat.le_of_ble_eq_true rfl) (Nat.le_of_ble_eq_true rfl) ?_
          rw [hQf]
          exact vx_ret (W.iret hx hb hr (fun t9 ht hW => ⟨⟨_, N, rfl, ⟨ia, hia, rfl, cnt, (fun j => z (200 + j)), Or.inr ⟨Or.inr (Or.inr ⟨xx ^ n, by rw [← hxx]; exact hsp, hw⟩), rfl, rfl, fun _ _ => rfl⟩, xp_of hk hyo⟩, (hm_end hV ht).1⟩, (hm_end hV ht).2⟩) hV.2.2.2.2 dX3_power_63)
        have wide2 : ∀ (N : hm_M) (y : Nat → Int), (xw E N A ad rw cnt el y t) → (∀ i, 200 ≤ i → y i = z i) → (bigN ≤ (xx ^ n).natAbs) → ∀ (ls : Array Slot) (H : Heap) (locs : List Loc), lv_has ls 5 [(0, .ref (A 0))] → hm_V E.1 vwCl (hm_A M sz) s.heap (N) H locs → W p l e rm_X3_power s m [.ref (A 0), .int (nI ia), .int (nI n)].toArray below meth c H locs 1 6 Qf (F0 m 102 ls []) := by
          intro N y hk hyo hw ls H locs hl hV
          refine lv_iconst (v := (-1)) hx hb dX3_power_102 (by decide) ?_
          refine W.widen (k := 4) (n := 79) (Nat.le_of_ble_eq_true rfl) (Nat.le_of_ble_eq_true rfl) ?_
          rw [hQf]
          exact vx_ret (W.iret hx hb hr (fun t9 ht hW => ⟨⟨_, N, rfl, ⟨ia, hia, rfl, cnt, (fun j => z (200 + j)), Or.inr ⟨Or.inr (Or.inr ⟨xx ^ n, by rw [← hxx]; exact hsp, hw⟩), rfl, rfl, fun _ _ => rfl⟩, xp_of hk hyo⟩, (hm_end hV ht).1⟩, (hm_end hV ht).2⟩) hV.2.2.2.2 dX3_power_103)
        have loop : ∀ (fu : Nat) (N : hm_M) (y : Nat → Int) (b : Nat), (b ≤ 31) → (xw E N A ad rw cnt el y t) → (∀ i, 200 ≤ i → y i = z i) → (hid (y 0 = xx ^ (n / 2 ^ b))) → (hid ((y 0).natAbs < 33554432 ^ 64)) → b < fu → ∀ (ls : Array Slot) (H : Heap) (locs : List Loc), lv_has ls 5 [(0, .ref (A 0)), (2, .int (nI n)), (3, .ref (ad (200 + ia))), (4, .int (nP b))] → hm_V E.1 vwCl (hm_A M sz) s.heap (N) H locs → W p l e rm_X3_power s m [.ref (A 0), .int (nI ia), .int (nI n)].toArray below meth c H locs 1 6 Qf (F0 m 39 ls []) := by
          intro fu
          induction fu with
          | zero => intro N y b hb31 hk hyo hy hyb hfu; exact absurd hfu (Nat.not_lt_zero _)
          | succ fu ih_loop =>
            intro N y b hb31 hk hyo hy hyb hfu ls H locs hl hV
            obtain ⟨nY, dY, kY, gY, hnY, hwY, haY, hoY⟩ := xw_at hk (i := 0) (Or.inl (by omega))
            have eY : nY = 65 := hnY.1 (by omega)
            subst eY
            have qY := hoY.1
            obtain ⟨nS, dS, kS, gS, hnS, hwS, haS, hoS⟩ := xw_at hk (i := 1) (Or.inl (by omega))
            have eS : nS = 65 := hnS.1 (by omega)
            subst eS
            have qS := hoS.1
            obtain ⟨nG, dG, kG, gG, hnG, hwG, haG, hoG⟩ := xw_at hk (i := 200 + ia) (Or.inr (Or.inr ⟨by omega, by omega⟩))
            have eG : nG ≤ 64 := hnG.2.2 (by omega)
            have qG := hoG.1
            have hk64 : kY ≤ 64 := (wn_len hoY).mpr hyb
            refine lv_iload hx hb dX3_power_39 (lv_at hl 3 rfl) ?_
            refine lv_if_lt (tgt := 110) hx hb dX3_power_41 (by decide) (fun c41 => ?_) (fun c41 => ?_)
            · have hi0 : b = 0 := by
                cases b with
                | zero => rfl
                | succ j => exact absurd c41 (nI_pos (by omega))
              have hy9 : y 0 = xx ^ n := by
                have h9 : y 0 = xx ^ (n / 2 ^ b) := hy
                rw [h9, hi0, Nat.pow_zero, Nat.div_one]
              refine lv_aload_n hx hb dX3_power_110 rfl (lv_at hl 0 rfl) ?_
              refine lv_aload_n hx hb dX3_power_111 rfl (lv_at hl 0 rfl) ?_
              refine hm_get (ci := 5) (v := .ref (ad 0)) (C := RX3) (T := TX3) (N := 7) hx hb hws kin_X3 hown hK.1 hV (xw_x hk) rfl 3 (by decide) fl27 (fun _ h9 => h9) rfl dX3_power_112 ?_
              refine hm_calli (va_runV (As := [.ref (ad 0)]) (rest := []) ⟨hx, hb, hml, hown, hts⟩ (c_X3_keep l E hk H.size) (cwV 1 hts (hm_gV kw_144 kw_146 kw_2 kw_37 kw_147) rfl rfl rfl (by decide +kernel) ⟨Nat.le_of_ble_eq_true rfl, Nat.le_of_ble_eq_true rfl⟩) (hm_preV hK hV (xw_x hk) rfl) rfl rfl hl.1 rfl (lv_room (Nat.le_of_ble_eq_true rfl)) dX3_power_115 ⟨Nat.le_of_ble_eq_true rfl, Nat.le_of_ble_eq_true rfl⟩) hV hA (fun r115 M1 H locs hp hV => ?_)
              obtain ⟨cnt1, nums1, hkp, hxp⟩ := hp
              have hkp1 := kp_c hkp (fun j _ => hyo _ (by omega)) hy9
              rw [← hsp, hxx] at hkp1
              refine W.widen (k := 4) (n := 79) (Nat.le_of_ble_eq_true rfl) (Nat.le_of_ble_eq_true rfl) ?_
              rw [hQf]
              exact vx_ret (W.iret hx hb hr (fun t9 ht hW => ⟨⟨_, M1, rfl, ⟨ia, hia, rfl, cnt1, nums1, hkp1, hxp⟩, (hm_end hV ht).1⟩, (hm_end hV ht).2⟩) hV.2.2.2.2 dX3_power_118)
            · obtain ⟨j, rfl⟩ : ∃ j, b = j + 1 := by
                cases b with
                | zero => exact absurd (show nP 0 < 0 from by decide) c41
                | succ j => exact ⟨j, rfl⟩
              have hy9 : y 0 = xx ^ (n / 2 ^ (j + 1)) := hy
              have hhv := pw_halve (n := n) (j := j)
              have hle := pw_le (n := n) (j := j)
              have hdl : n / 2 ^ j ≤ n := Nat.div_le_self _ _
              have hl : lv_has ls 5 [(0, .ref (A 0)), (2, .int (nI n)), (3, .ref (ad (200 + ia))), (4, .int (nI j))] := hl
              refine lv_aload_n hx hb dX3_power_44 rfl (lv_at hl 0 rfl) ?_
              refine hm_get (ci := 5) (v := .ref (ad 1)) (C := RX3) (T := TX3) (N := 7) hx hb hws kin_X3 hown hK.1 hV (xw_x hk) rfl 4 (by decide) fl31 (fun _ h9 => h9) rfl dX3_power_45 ?_
              refine lv_aload_n hx hb dX3_power_48 rfl (lv_at hl 0 rfl) ?_
              refine hm_get (ci := 5) (v := .ref (ad 0)) (C := RX3) (T := TX3) (N := 7) hx hb hws kin_X3 hown hK.1 hV (xw_x hk) rfl 3 (by decide) fl27 (fun _ h9 => h9) rfl dX3_power_49 ?_
              refine lv_aload_n hx hb dX3_power_52 rfl (lv_at hl 0 rfl) ?_
              refine hm_get (ci := 5) (v := .ref (ad 0)) (C := RX3) (T := TX3) (N := 7) hx hb hws kin_X3 hown hK.1 hV (xw_x hk) rfl 3 (by decide) fl27 (fun _ h9 => h9) rfl dX3_power_53 ?_
              refine hm_calli (va_runV (As := [.ref (ad 0), .ref (ad 0)]) (rest := []) ⟨hx, hb, hml, hown, hts⟩ (c_X2_setProduct l E hwS haS hoS.2.1 hwY haY hoY hwY haY hoY hk64 hk64 (xw_rr hk (Or.inl (by omega)) (Or.inl (by omega)) (by omega)) (xw_rr hk (Or.inl (by omega)) (Or.inl (by omega)) (by omega)) (by omega) (by omega) H.size) (cwV 2 hts (hm_gV kw_402 kw_240 kw_241 kw_38 kw_242) rfl rfl rfl (by decide +kernel) ⟨Nat.le_of_ble_eq_true rfl, Nat.le_of_ble_eq_true rfl⟩) (hm_preV hK hV hwS rfl) rfl rfl hl.1 rfl (lv_room (Nat.le_of_ble_eq_true rfl)) dX3_power_56 ⟨Nat.le_of_ble_eq_true rfl, Nat.le_of_ble_eq_true rfl⟩) hV hA (fun r56 M1 H locs hp hV => ?_)
              rw [hy9, pw_two] at hp
              refine lv_if_ne (tgt := 64) hx hb dX3_power_59 (by decide) (fun c59 => ?_) (fun c59 => ?_)
              · have hp2 := hp.resolve_left (fun h9 => c59 h9.1)
                have hlt64 : (xx ^ (2 * (n / 2 ^ (j + 1)))).natAbs < 33554432 ^ 64 := by
                  rcases Nat.lt_or_ge (xx ^ (2 * (n / 2 ^ (j + 1)))).natAbs (33554432 ^ 64) with q | q
                  · exact q
                  · rw [if_neg (by omega)] at hp2; exact absurd hp2.1 c59
                have kh64 : hid ((xx ^ (2 * (n / 2 ^ (j + 1)))).natAbs < 33554432 ^ 64) := hlt64
                have hp := hp2.2
                clear hp2 hlt64
                obtain ⟨y1, hy1, hy1o, hk⟩ := xw_set2 hk (i := 1) (Or.inl (by omega)) (wn_cp65 (by omega)) hp
                obtain ⟨nV, dV, kV, gV, hnV, hwV, haV, hoV⟩ := xw_at hk (i := 0) (Or.inl (by omega))
                have eV : nV = 65 := hnV.1 (by omega)
                subst eV
                have qV := hoV.1
                obtain ⟨nP, dP, kP, gP, hnP, hwP, haP, hoP⟩ := xw_at hk (i := 1) (Or.inl (by omega))
                have eP : nP = 65 := hnP.1 (by omega)
                subst eP
                have qP := hoP.1
                obtain ⟨nQ, dQ, kQ, gQ, hnQ, hwQ, haQ, hoQ⟩ := xw_at hk (i := 200 + ia) (Or.inr (Or.inr ⟨by omega, by omega⟩))
                have eQ : nQ ≤ 64 := hnQ.2.2 (by omega)
                have qQ := hoQ.1
                rw [hy1] at hoP
                have hkP : kP ≤ 64 := (wn_len hoP).mpr kh64
                rw [hy1o (200 + ia) (by omega), hyo (200 + ia) (by omega), ← hxx] at hoQ
                have hkQ := hoQ.1
                refine lv_iload_n hx hb dX3_power_64 rfl (lv_at hl 1 rfl) ?_
                refine lv_iload hx hb dX3_power_65 (lv_at hl 3 rfl) ?_
                refine lv_ishr hx hb dX3_power_67 ?_
                refine lv_iconst (v := 1) hx hb dX3_power_68 (by decide) ?_
                refine lv_iand hx hb dX3_power_69 ?_
                refine hm_topi (show (((nI n) >>> ((nI j) &&& 31)) &&& 1) = nI (n / 2 ^ j % 2) from (congrArg (fun x9 => x9 &&& 1) (nI_bit (by omega) (by omega))).trans (nI_odd (by omega))) ?_
                refine lv_if_ne (tgt := 87) hx hb dX3_power_70 (by decide) (fun c70 => ?_) (fun c70 => ?_)
                · have hbit : n / 2 ^ j % 2 = 1 := by
                    have h9 : n / 2 ^ j % 2 ≠ 0 := fun h8 => c70 (by rw [h8]; rfl)
                    omega
                  rw [hbit] at hhv
                  refine lv_aload_n hx hb dX3_power_87 rfl (lv_at hl 0 rfl) ?_
                  refine hm_get (ci := 5) (v := .ref (ad 0)) (C := RX3) (T := TX3) (N := 7) hx hb hws kin_X3 hown hK.1 hV (xw_x hk) rfl 3 (by decide) fl27 (fun _ h9 => h9) rfl dX3_power_88 ?_
                  refine lv_aload_n hx hb dX3_power_91 rfl (lv_at hl 0 rfl) ?_
                  refine hm_get (ci := 5) (v := .ref (ad 1)) (C := RX3) (T := TX3) (N := 7) hx hb hws kin_X3 hown hK.1 hV (xw_x hk) rfl 4 (by decide) fl31 (fun _ h9 => h9) rfl dX3_power_92 ?_
                  refine lv_aload_n hx hb dX3_power_95 rfl (lv_at hl 2 rfl) ?_
                  refine hm_calli (va_runV (As := [.ref (ad 1), .ref (ad (200 + ia))]) (rest := []) ⟨hx, hb, hml, hown, hts⟩ (c_X2_setProduct l E hwV haV hoV.2.1 hwP haP hoP hwQ haQ hoQ hkP (by omega) (xw_rr hk (Or.inl (by omega)) (Or.inl (by omega)) (by omega)) (xw_rr hk (Or.inr (Or.inr ⟨by omega, by omega⟩)) (Or.inl (by omega)) (by omega)) (by omega) (by omega) H.size) (cwV 2 hts (hm_gV kw_402 kw_240 kw_241 kw_38 kw_242) rfl rfl rfl (by decide +kernel) ⟨Nat.le_of_ble_eq_true rfl, Nat.le_of_ble_eq_true rfl⟩) (hm_preV hK hV hwV rfl) rfl rfl hl.1 rfl (lv_room (Nat.le_of_ble_eq_true rfl)) dX3_power_96 ⟨Nat.le_of_ble_eq_true rfl, Nat.le_of_ble_eq_true rfl⟩) hV hA (fun r96 M1 H locs hp hV => ?_)
                  rw [show xx ^ (2 * (n / 2 ^ (j + 1))) * xx = xx ^ (n / 2 ^ j) from by rw [hhv]; exact (Int.pow_succ _ _).symm] at hp
                  refine lv_if_ne (tgt := 104) hx hb dX3_power_99 (by decide) (fun c99 => ?_) (fun c99 => ?_)
                  · have hp2 := hp.resolve_left (fun h9 => c99 h9.1)
                    have hlt64 : hid ((xx ^ (n / 2 ^ j)).natAbs < 33554432 ^ 64) := by
                      rcases Nat.lt_or_ge (xx ^ (n / 2 ^ j)).natAbs (33554432 ^ 64) with q | q
                      · exact q
                      · rw [if_neg (by omega)] at hp2; exact absurd hp2.1 c99
                    have hp := hp2.2
                    clear hp2
                    obtain ⟨y2, hy2, hy2o, hk⟩ := xw_set2 hk (i := 0) (Or.inl (by omega)) (wn_cp65 (by omega)) hp
                    refine lv_iinc (v := (nP j)) (lv' := [(4, .int (nP j)), (0, .ref (A 0)), (2, .int (nI n)), (3, .ref (ad (200 + ia)))]) hx hb dX3_power_104 hl (k := 3) rfl (nP_dec j) (by decide) rfl (fun ls hl => ?_)
                    refine lv_goto (tgt := 39) hx hb dX3_power_107 (by decide) ?_
                    exact ih_loop _ y2 j (by omega) hk (fun i hi => by rw [hy2o i (by omega), hy1o i (by omega)]; exact hyo i hi) hy2 (show _ < _ by rw [hy2]; exact hlt64) (by omega) ls H locs (lv_sub hl [1, 2, 3, 0] rfl) hV
                  · have hbig : bigN ≤ (xx ^ (n / 2 ^ j)).natAbs := by
                      rw [← bigN_25]
                      rcases hp with h9 | h9
                      · exact h9.2.2
                      · rcases Nat.lt_or_ge (xx ^ (n / 2 ^ j)).natAbs (33554432 ^ 64) with q | q
                        · rw [h9.1, if_pos q] at c99; exact absurd c99 (by decide)
                        · exact q
                    have hw := pw_big hdl hbig
                    rcases hp with ⟨-, hM1, -⟩ | ⟨-, hp⟩
                    · rw [← hM1] at hk
                      exact wide2 _ y1 hk (fun i hi => by rw [hy1o i (by omega)]; exact hyo i hi) hw ls H locs (lv_sub hl [0] rfl) hV
                    · obtain ⟨y2, hy2, hy2o, hk⟩ := xw_set2 hk (i := 0) (Or.inl (by omega)) (wn_cp65 (by omega)) hp
                      exact wide2 _ y2 hk (fun i hi => by rw [hy2o i (by omega), hy1o i (by omega)]; exact hyo i hi) hw ls H locs (lv_sub hl [0] rfl) hV
                · have hbit : n / 2 ^ j % 2 = 0 := (nI_eq (b := 0) (by omega) (by omega)).mp c70
                  rw [hbit, Nat.add_zero] at hhv
                  refine lv_aload_n hx hb dX3_power_73 rfl (lv_at hl 0 rfl) ?_
                  refine hm_get (ci := 5) (v := .ref (ad 0)) (C := RX3) (T := TX3) (N := 7) hx hb hws kin_X3 hown hK.1 hV (xw_x hk) rfl 3 (by decide) fl27 (fun _ h9 => h9) rfl dX3_power_74 ?_
                  refine lv_aload_n hx hb dX3_power_77 rfl (lv_at hl 0 rfl) ?_
                  refine hm_get (ci := 5) (v := .ref (ad 1)) (C := RX3) (T := TX3) (N := 7) hx hb hws kin_X3 hown hK.1 hV (xw_x hk) rfl 4 (by decide) fl31 (fun _ h9 => h9) rfl dX3_power_78 ?_
                  refine hm_callv (va_runV (As := [.ref (ad 1)]) (rest := []) ⟨hx, hb, hml, hown, hts⟩ (c_X2_copyFrom l E hwV haV hoV.2.1 hwP haP hoP (by omega) (xw_rr hk (Or.inl (by omega)) (Or.inl (by omega)) (by omega)) (by omega) (by omega) H.size) (cwV 1 hts (hm_gV kw_152 kw_153 kw_154 kw_38 kw_155) rfl rfl rfl (by decide +kernel) ⟨Nat.le_of_ble_eq_true rfl, Nat.le_of_ble_eq_true rfl⟩) (hm_preV hK hV hwV rfl) rfl rfl hl.1 rfl (lv_room (Nat.le_of_ble_eq_true rfl)) dX3_power_81 ⟨Nat.le_of_ble_eq_true rfl, Nat.le_of_ble_eq_true rfl⟩) hV hA (fun M1 H locs hp hV => ?_)
                  rw [← hhv] at hp kh64
                  obtain ⟨y2, hy2, hy2o, hk⟩ := xw_set2 hk (i := 0) (Or.inl (by omega)) (wn_cp65 (by omega)) hp
                  refine lv_goto (tgt := 104) hx hb dX3_power_84 (by decide) ?_
                  refine lv_iinc (v := (nP j)) (lv' := [(4, .int (nP j)), (0, .ref (A 0)), (2, .int (nI n)), (3, .ref (ad (200 + ia)))]) hx hb dX3_power_104 hl (k := 3) rfl (nP_dec j) (by decide) rfl (fun ls hl => ?_)
                  refine lv_goto (tgt := 39) hx hb dX3_power_107 (by decide) ?_
                  exact ih_loop _ y2 j (by omega) hk (fun i hi => by rw [hy2o i (by omega), hy1o i (by omega)]; exact hyo i hi) hy2 (show _ < _ by rw [hy2]; exact kh64) (by omega) ls H locs (lv_sub hl [1, 2, 3, 0] rfl) hV
              · have hbig : bigN ≤ (xx ^ (2 * (n / 2 ^ (j + 1)))).natAbs := by
                  rw [← bigN_25]
                  rcases hp with h9 | h9
                  · exact h9.2.2
                  · rcases Nat.lt_or_ge (xx ^ (2 * (n / 2 ^ (j + 1)))).natAbs (33554432 ^ 64) with q | q
                    · rw [h9.1, if_pos q] at c59; exact absurd c59 (by decide)
                    · exact q
                have hw := pw_big hle hbig
                rcases hp with ⟨-, hM1, -⟩ | ⟨-, hp⟩
                · rw [← hM1] at hk
                  exact wide _ y hk hyo hw ls H locs (lv_sub hl [0] rfl) hV
                · obtain ⟨y1, hy1, hy1o, hk⟩ := xw_set2 hk (i := 1) (Or.inl (by omega)) (wn_cp65 (by omega)) hp
                  exact wide _ y1 hk (fun i hi => by rw [hy1o i (by omega)]; exact hyo i hi) hw ls H locs (lv_sub hl [0] rfl) hV
        refine lv_iload_n hx hb dX3_power_33 rfl (lv_at hl 3 rfl) ?_
        rcases Nat.eq_zero_or_pos n with hn0 | hn0
        · subst hn0
          refine hm_calli (va_runS (As := [.int (nI 0)]) (rest := []) ⟨hx, hb, hml, hown, hts⟩ (c_X3_highestBit0 l E H.size) (va_cwS 1 hts (hm_gS kw_437 kw_268 kw_37 kw_269) rfl rfl rfl (by decide +kernel) ⟨Nat.le_of_ble_eq_true rfl, Nat.le_of_ble_eq_true rfl⟩) (hm_preS hK hV) rfl rfl hl.1 rfl (lv_room (Nat.le_of_ble_eq_true rfl)) dX3_power_34 ⟨Nat.le_of_ble_eq_true rfl, Nat.le_of_ble_eq_true rfl⟩) hV hA (fun r34 M1 H locs hp hV => ?_)
          obtain ⟨hr34, hM1⟩ := hp
          rw [← hM1] at hk
          subst hr34
          refine lv_istore (lv' := [(4, .int (-1)), (3, .ref (ad (200 + ia))), (0, .ref (A 0)), (1, .int (nI ia)), (2, .int (nI 0))]) hx hb dX3_power_37 hl (by decide) rfl (fun ls hl => ?_)
          have hl : lv_has ls 5 [(4, .int (nP 0)), (3, .ref (ad (200 + ia))), (0, .ref (A 0)), (1, .int (nI ia)), (2, .int (nI 0))] := hl
          exact loop 1 _ z1 0 (by omega) hk (fun i hi => hz1o i (by omega)) (show _ = _ by rw [hz1, Nat.zero_div, Int.pow_zero]) (show _ < _ by rw [hz1]; decide +kernel) (by omega) ls H locs (lv_sub hl [2, 4, 1, 0] rfl) hV
        · refine hm_calli (va_runS (As := [.int (nI n)]) (rest := []) ⟨hx, hb, hml, hown, hts⟩ (c_X3_highestBit l E hn0 (by omega) H.size) (va_cwS 1 hts (hm_gS kw_437 kw_268 kw_37 kw_269) rfl rfl rfl (by decide +kernel) ⟨Nat.le_of_ble_eq_true rfl, Nat.le_of_ble_eq_true rfl⟩) (hm_preS hK hV) rfl rfl hl.1 rfl (lv_room (Nat.le_of_ble_eq_true rfl)) dX3_power_34 ⟨Nat.le_of_ble_eq_true rfl, Nat.le_of_ble_eq_true rfl⟩) hV hA (fun r34 M1 H locs hp hV => ?_)
          obtain ⟨⟨hh, hh30, hr34, hh1, hh2⟩, hM1⟩ := hp
          rw [← hM1] at hk
          subst hr34
          refine lv_istore (lv' := [(4, .int (nI hh)), (3, .ref (ad (200 + ia))), (0, .ref (A 0)), (1, .int (nI ia)), (2, .int (nI n))]) hx hb dX3_power_37 hl (by decide) rfl (fun ls hl => ?_)
          have hl : lv_has ls 5 [(4, .int (nP (hh + 1))), (3, .ref (ad (200 + ia))), (0, .ref (A 0)), (1, .int (nI ia)), (2, .int (nI n))] := hl
          exact loop (hh + 2) _ z1 (hh + 1) (by omega) hk (fun i hi => hz1o i (by omega)) (show _ = _ by rw [hz1, Nat.div_eq_of_lt hh2, Int.pow_zero]) (show _ < _ by rw [hz1]; decide +kernel) (by omega) ls H locs (lv_sub hl [2, 4, 1, 0] rfl) hV
      · have hc1 : 160 ≤ cnt := by
          rcases hrf with h9 | h9
          · exact h9.2
          · exact absurd h9.1 c20
        exact no (Or.inl hc1) ls H locs (lv_sub hl [0, 1, 2, 3] rfl) hV
