abbrev wd_X1_reduce : List Cond := .code yX1_reduce cX1_reduce 5 none :: hm_ws
abbrev rm_X1_reduce : Room := { frames := 3, cells := 0, slots := 0, locals := 84 }

set_option maxHeartbeats 4000000 in
set_option maxRecDepth 100000 in
/-- reduce(row, column, step) -/
theorem c_X1_reduce (l : Launch) (E : hm_E) {M : hm_M} {A ad rw : Nat → Nat} {cnt : Nat} {z : Nat → Int} {t : Nat → Nat → Int64} {r co k T P L U : Nat} {pv q : Int} (hk : xw E M A ad rw cnt true z t) (hr0 : r < 12) (hc0 : co < 12) (hkr : k < r) (hkc : k < co) (hT : T = 4 + (r * 12 + co)) (hP : P = 4 + (k * 12 + k)) (hL : L = 4 + (r * 12 + k)) (hU : U = 4 + (k * 12 + co)) (bT : hid ((z T).natAbs < 33554432 ^ 32)) (bP : hid ((z P).natAbs < 33554432 ^ 32)) (bL : hid ((z L).natAbs < 33554432 ^ 32)) (bU : hid ((z U).natAbs < 33554432 ^ 32)) (hpv : 0 < k → z (4 + ((k - 1) * 12 + (k - 1))) = pv) (hpv0 : k = 0 → pv = 1) (hpvn : hid (pv ≠ 0)) (hdf : hid (z T * z P - z L * z U = pv * q)) (bq : hid (q.natAbs < 33554432 ^ 32)) : hm_Cv l E yX1_reduce wd_X1_reduce rm_X1_reduce [.ref (A 6), .int (nI r), .int (nI co), .int (nI k)] M (fun M1 => ∃ y, xw E M1 A ad rw cnt true y t ∧ y T = q ∧ ∀ i, i ≠ T → i ≠ 2 → i ≠ 3 → y i = z i) := by
  intro sz
  refine Met.ofW (cc := cX1_reduce) (maxL := 5) (ret := none) (by decide) rfl ?_
  intro p e s m args below meth c s₁ B hml hv
  obtain ⟨rfl, hAe, hA, hK, hV⟩ := hm_start hv
  have hx := B.exec
  have hb := B.bytes
  have hr := B.returns
  have hts := atoms_spec (ws := wd_X1_reduce) B.pre
  have hws : ∀ w ∈ hm_ws, w.before _ s = true := fun w h => hts w (List.mem_cons_of_mem _ h)
  have hown : s.vm.findClass RX1 = some m.cls := findClass_of_methodNamed B.named
  have hlocks := B.notSynchronized
  have fl20 := hws _ kw_194
  have fl24 := hws _ kw_195
  have fl27 := hws _ kw_196
  have hl := lv_entry ([.ref (A 6), .int (nI r), .int (nI co), .int (nI k)]) (n := 5) (Nat.le_of_ble_eq_true rfl)
  rw [lg_entry_eq]
  generalize (lg_sl ([.ref (A 6), .int (nI r), .int (nI co), .int (nI k)]) ++ List.replicate (5 - (lg_sl ([.ref (A 6), .int (nI r), .int (nI co), .int (nI k)])).length) Slot.unset).toArray = ls at hl ⊢
  have hl : lv_has ls 5 [(0, .ref (A 6)), (1, .int (nI r)), (2, .int (nI co)), (3, .int (nI k))] := hl
  refine hm_gen (rm := rm_X1_reduce) rfl (fun Qf hQf => ?_)
  refine lv_aload_n hx hb dX1_reduce_0 rfl (lv_at hl 0 rfl) ?_
  refine lv_iload_n hx hb dX1_reduce_1 rfl (lv_at hl 1 rfl) ?_
  refine lv_iload_n hx hb dX1_reduce_2 rfl (lv_at hl 2 rfl) ?_
  refine hm_callr (va_runV (As := [.int (nI r), .int (nI co)]) (rest := []) ⟨hx, hb, hml, hown, hts⟩ (c_X1_cell l E (r := r) (co := co) hk (by omega) (by omega) s.heap.size) (cwV 2 hts (hm_gV kw_214 kw_216 kw_5 kw_50 kw_217) rfl rfl rfl (by decide +kernel) ⟨Nat.le_of_ble_eq_true rfl, Nat.le_of_ble_eq_true rfl⟩) (hm_preV hK hV (xw_e hk) rfl) rfl rfl hl.1 rfl (lv_room (Nat.le_of_ble_eq_true rfl)) dX1_reduce_3 ⟨Nat.le_of_ble_eq_true rfl, Nat.le_of_ble_eq_true rfl⟩) hV hA (fun r3 M1 H locs hp hV => ?_)
  obtain ⟨hrl3, hM1⟩ := hp
  rw [hM1] at hV
  rw [← hT] at hrl3
  subst hrl3
  refine lv_astore (lv' := [(4, .ref (ad T)), (0, .ref (A 6)), (1, .int (nI r)), (2, .int (nI co)), (3, .int (nI k))]) hx hb dX1_reduce_6 hl (by decide) rfl (fun ls hl => ?_)
  refine lv_aload_n hx hb dX1_reduce_8 rfl (lv_at hl 1 rfl) ?_
  refine hm_get (ci := 3) (v := .ref (ad 2)) (C := RX1) (T := TX1) (N := 4) hx hb hws kin_X1 hown hK.1 hV (xw_e hk) rfl 1 (by decide) fl20 (fun _ h9 => h9) rfl dX1_reduce_9 ?_
  refine lv_aload hx hb dX1_reduce_12 (lv_at hl 0 rfl) ?_
  refine lv_aload_n hx hb dX1_reduce_14 rfl (lv_at hl 1 rfl) ?_
  refine lv_iload_n hx hb dX1_reduce_15 rfl (lv_at hl 4 rfl) ?_
  refine lv_iload_n hx hb dX1_reduce_16 rfl (lv_at hl 4 rfl) ?_
  refine hm_callr (va_runV (As := [.int (nI k), .int (nI k)]) (rest := [.ref (ad T), .ref (ad 2)]) ⟨hx, hb, hml, hown, hts⟩ (c_X1_cell l E (r := k) (co := k) hk (by omega) (by omega) H.size) (cwV 2 hts (hm_gV kw_214 kw_216 kw_5 kw_50 kw_217) rfl rfl rfl (by decide +kernel) ⟨Nat.le_of_ble_eq_true rfl, Nat.le_of_ble_eq_true rfl⟩) (hm_preV hK hV (xw_e hk) rfl) rfl rfl hl.1 rfl (lv_room (Nat.le_of_ble_eq_true rfl)) dX1_reduce_17 ⟨Nat.le_of_ble_eq_true rfl, Nat.le_of_ble_eq_true rfl⟩) hV hA (fun r17 M1 H locs hp hV => ?_)
  obtain ⟨hrl17, hM1⟩ := hp
  rw [hM1] at hV
  rw [← hP] at hrl17
  subst hrl17
  obtain ⟨nF, dF, kF, gF, hnF, hwF, haF, hoF⟩ := xw_at hk (i := 2) (Or.inr (Or.inl ⟨rfl, by omega⟩))
  have eF : nF = 65 := hnF.1 (by omega)
  subst eF
  have qF := hoF.1
  obtain ⟨nT, dT, kT, gT, hnT, hwT, haT, hoT⟩ := xw_at hk (i := T) (Or.inr (Or.inl ⟨rfl, by omega⟩))
  have eT : nT = 34 := hnT.2.1 (by omega) (by omega)
  subst eT
  have qT := hoT.1
  obtain ⟨nP, dP, kP, gP, hnP, hwP, haP, hoP⟩ := xw_at hk (i := P) (Or.inr (Or.inl ⟨rfl, by omega⟩))
  have eP : nP = 34 := hnP.2.1 (by omega) (by omega)
  subst eP
  have qP := hoP.1
  refine hm_calli (va_runV (As := [.ref (ad T), .ref (ad P)]) (rest := []) ⟨hx, hb, hml, hown, hts⟩ (c_X2_setProduct l E hwF haF hoF.2.1 hwT haT hoT hwP haP hoP (by omega) (by omega) (xw_rr hk (Or.inr (Or.inl ⟨rfl, by omega⟩)) (Or.inr (Or.inl ⟨rfl, by omega⟩)) (by omega)) (xw_rr hk (Or.inr (Or.inl ⟨rfl, by omega⟩)) (Or.inr (Or.inl ⟨rfl, by omega⟩)) (by omega)) (by omega) (by omega) H.size) (cwV 2 hts (hm_gV kw_239 kw_240 kw_241 kw_38 kw_242) rfl rfl rfl (by decide +kernel) ⟨Nat.le_of_ble_eq_true rfl, Nat.le_of_ble_eq_true rfl⟩) (hm_preV hK hV hwF rfl) rfl rfl hl.1 rfl (lv_room (Nat.le_of_ble_eq_true rfl)) dX1_reduce_20 ⟨Nat.le_of_ble_eq_true rfl, Nat.le_of_ble_eq_true rfl⟩) hV hA (fun r20 M1 H locs hp hV => ?_)
  have hp := (hp.resolve_left (fun h9 => absurd h9.2.2 (Nat.not_le_of_lt (el_mul bT bP)))).2
  obtain ⟨z1, hz1, hz1o, hk⟩ := xw_set2 hk (i := 2) (Or.inr (Or.inl ⟨rfl, by omega⟩)) (wn_cp65 (by omega)) hp
  refine lv_pop hx hb dX1_reduce_23 rfl ?_
  refine lv_aload_n hx hb dX1_reduce_24 rfl (lv_at hl 1 rfl) ?_
  refine hm_get (ci := 3) (v := .ref (ad 3)) (C := RX1) (T := TX1) (N := 4) hx hb hws kin_X1 hown hK.1 hV (xw_e hk) rfl 2 (by decide) fl24 (fun _ h9 => h9) rfl dX1_reduce_25 ?_
  refine lv_aload_n hx hb dX1_reduce_28 rfl (lv_at hl 1 rfl) ?_
  refine lv_iload_n hx hb dX1_reduce_29 rfl (lv_at hl 2 rfl) ?_
  refine lv_iload_n hx hb dX1_reduce_30 rfl (lv_at hl 4 rfl) ?_
  refine hm_callr (va_runV (As := [.int (nI r), .int (nI k)]) (rest := [.ref (ad 3)]) ⟨hx, hb, hml, hown, hts⟩ (c_X1_cell l E (r := r) (co := k) hk (by omega) (by omega) H.size) (cwV 2 hts (hm_gV kw_214 kw_216 kw_5 kw_50 kw_217) rfl rfl rfl (by decide +kernel) ⟨Nat.le_of_ble_eq_true rfl, Nat.le_of_ble_eq_true rfl⟩) (hm_preV hK hV (xw_e hk) rfl) rfl rfl hl.1 rfl (lv_room (Nat.le_of_ble_eq_true rfl)) dX1_reduce_31 ⟨Nat.le_of_ble_eq_true rfl, Nat.le_of_ble_eq_true rfl⟩) hV hA (fun r31 M1 H locs hp hV => ?_)
  obtain ⟨hrl31, hM1⟩ := hp
  rw [hM1] at hV
  rw [← hL] at hrl31
  subst hrl31
  refine lv_aload_n hx hb dX1_reduce_34 rfl (lv_at hl 1 rfl) ?_
  refine lv_iload_n hx hb dX1_reduce_35 rfl (lv_at hl 4 rfl) ?_
  refine lv_iload_n hx hb dX1_reduce_36 rfl (lv_at hl 3 rfl) ?_
  refine hm_callr (va_runV (As := [.int (nI k), .int (nI co)]) (rest := [.ref (ad L), .ref (ad 3)]) ⟨hx, hb, hml, hown, hts⟩ (c_X1_cell l E (r := k) (co := co) hk (by omega) (by omega) H.size) (cwV 2 hts (hm_gV kw_214 kw_216 kw_5 kw_50 kw_217) rfl rfl rfl (by decide +kernel) ⟨Nat.le_of_ble_eq_true rfl, Nat.le_of_ble_eq_true rfl⟩) (hm_preV hK hV (xw_e hk) rfl) rfl rfl hl.1 rfl (lv_room (Nat.le_of_ble_eq_true rfl)) dX1_reduce_37 ⟨Nat.le_of_ble_eq_true rfl, Nat.le_of_ble_eq_true rfl⟩) hV hA (fun r37 M1 H locs hp hV => ?_)
  obtain ⟨hrl37, hM1⟩ := hp
  rw [hM1] at hV
  rw [← hU] at hrl37
  subst hrl37
  obtain ⟨nS, dS, kS, gS, hnS, hwS, haS, hoS⟩ := xw_at hk (i := 3) (Or.inr (Or.inl ⟨rfl, by omega⟩))
  have eS : nS = 65 := hnS.1 (by omega)
  subst eS
  have qS := hoS.1
  obtain ⟨nL, dL, kL, gL, hnL, hwL, haL, hoL⟩ := xw_at hk (i := L) (Or.inr (Or.inl ⟨rfl, by omega⟩))
  have eL : nL = 34 := hnL.2.1 (by omega) (by omega)
  subst eL
  have qL := hoL.1
  obtain ⟨nU, dU, kU, gU, hnU, hwU, haU, hoU⟩ := xw_at hk (i := U) (Or.inr (Or.inl ⟨rfl, by omega⟩))
  have eU : nU = 34 := hnU.2.1 (by omega) (by omega)
  subst eU
  have qU := hoU.1
  rw [hz1o L (by omega)] at hoL
  rw [hz1o U (by omega)] at hoU
  refine hm_calli (va_runV (As := [.ref (ad L), .ref (ad U)]) (rest := []) ⟨hx, hb, hml, hown, hts⟩ (c_X2_setProduct l E hwS haS hoS.2.1 hwL haL hoL hwU haU hoU (by omega) (by omega) (xw_rr hk (Or.inr (Or.inl ⟨rfl, by omega⟩)) (Or.inr (Or.inl ⟨rfl, by omega⟩)) (by omega)) (xw_rr hk (Or.inr (Or.inl ⟨rfl, by omega⟩)) (Or.inr (Or.inl ⟨rfl, by omega⟩)) (by omega)) (by omega) (by omega) H.size) (cwV 2 hts (hm_gV kw_239 kw_240 kw_241 kw_38 kw_242) rfl rfl rfl (by decide +kernel) ⟨Nat.le_of_ble_eq_true rfl, Nat.le_of_ble_eq_true rfl⟩) (hm_preV hK hV hwS rfl) rfl rfl hl.1 rfl (lv_room (Nat.le_of_ble_eq_true rfl)) dX1_reduce_40 ⟨Nat.le_of_ble_eq_true rfl, Nat.le_of_ble_eq_true rfl⟩) hV hA (fun r40 M1 H locs hp hV => ?_)
  have hp := (hp.resolve_left (fun h9 => absurd h9.2.2 (Nat.not_le_of_lt (el_mul bL bU)))).2
  obtain ⟨z2, hz2, hz2o, hk⟩ := xw_set2 hk (i := 3) (Or.inr (Or.inl ⟨rfl, by omega⟩)) (wn_cp65 (by omega)) hp
  have kF : hid (z2 2 = z T * z P) := (hz2o 2 (by omega)).trans hz1
  have kS : hid (z2 3 = z L * z U) := hz2
  clear hz2 hz1
  obtain ⟨nG, dG, kG, gG, hnG, hwG, haG, hoG⟩ := xw_at hk (i := 2) (Or.inr (Or.inl ⟨rfl, by omega⟩))
  have eG : nG = 65 := hnG.1 (by omega)
  subst eG
  have qG := hoG.1
  obtain ⟨nH, dH, kH, gH, hnH, hwH, haH, hoH⟩ := xw_at hk (i := 3) (Or.inr (Or.inl ⟨rfl, by omega⟩))
  have eH : nH = 65 := hnH.1 (by omega)
  subst eH
  have qH := hoH.1
  have sum : ∀ (sg : Int32), (sg = 0 ∨ sg = 1) → (hid ((if sg = 0 then ((z2 3).natAbs : Int) else -((z2 3).natAbs : Int)) = -z2 3)) → ∀ (ls : Array Slot) (H : Heap) (locs : List Loc), lv_has ls 5 [(4, .ref (ad T)), (0, .ref (A 6)), (1, .int (nI r)), (2, .int (nI co)), (3, .int (nI k))] → hm_V E.1 vwCl (hm_A M sz) s.heap (M1) H locs → W p l e rm_X1_reduce s m [.ref (A 6), .int (nI r), .int (nI co), .int (nI k)].toArray below meth c H locs 0 0 Qf (F0 m 71 ls [.int sg, .ref (ad 3), .ref (ad 2), .ref (ad 2)]) := by
    intro sg hsg hsv ls H locs hl hV
    have hG64 : kG ≤ 64 := (wn_len hoG (b := 64)).mpr (by rw [show z2 2 = z T * z P from kF]; exact el_mul bT bP)
    have hH64 : kH ≤ 64 := (wn_len hoH (b := 64)).mpr (by rw [show z2 3 = z L * z U from kS]; exact el_mul bL bU)
    refine hm_callv (va_runV (As := [.ref (ad 2), .ref (ad 3), .int sg]) (rest := []) ⟨hx, hb, hml, hown, hts⟩ (c_X2_setSum l E (sg := sg) hwG haG hoG.2.1 hwG haG hoG hwH haH hoH (by omega) (by omega) (by omega) (by omega) (by omega) hsg H.size) (cwV 3 hts (hm_gV kw_244 kw_245 kw_246 kw_38 kw_247) rfl rfl rfl (by decide +kernel) ⟨Nat.le_of_ble_eq_true rfl, Nat.le_of_ble_eq_true rfl⟩) (hm_preV hK hV hwG rfl) rfl rfl hl.1 rfl (lv_room (Nat.le_of_ble_eq_true rfl)) dX1_reduce_71 ⟨Nat.le_of_ble_eq_true rfl, Nat.le_of_ble_eq_true rfl⟩) hV hA (fun M1 H locs hp hV => ?_)
    rw [show (if sg = 0 then ((z2 3).natAbs : Int) else -((z2 3).natAbs : Int)) = -z2 3 from hsv] at hp
    obtain ⟨z3, hz3, hz3o, hk⟩ := xw_set2 hk (i := 2) (Or.inr (Or.inl ⟨rfl, by omega⟩)) (wn_cp65 (by omega)) hp
    have k3 : hid (z3 2 = pv * q) := by
      show z3 2 = pv * q
      rw [hz3, show z2 2 = z T * z P from kF, show z2 3 = z L * z U from kS]
      have h9 : z T * z P - z L * z U = pv * q := hdf
      omega
    clear hz3
    have hold : ∀ i, i ≠ 2 → i ≠ 3 → z3 i = z i := fun i h1 h2 => by rw [hz3o i h1, hz2o i h2, hz1o i h1]
    refine lv_iload_n hx hb dX1_reduce_74 rfl (lv_at hl 4 rfl) ?_
    refine lv_if_ne (tgt := 90) hx hb dX1_reduce_75 (by decide) (fun c75 => ?_) (fun c75 => ?_)
    · have hk1 : 0 < k := by
        rcases Nat.eq_zero_or_pos k with q9 | q9
        · subst q9; exact absurd rfl c75
        · exact q9
      obtain ⟨X, hX⟩ : ∃ X, X = 4 + ((k - 1) * 12 + (k - 1)) := ⟨_, rfl⟩
      have hzX : z3 X = pv := by rw [hold X (by omega) (by omega), hX]; exact hpv hk1
      refine lv_aload_n hx hb dX1_reduce_90 rfl (lv_at hl 1 rfl) ?_
      refine hm_get (ci := 3) (v := .ref (A 3)) (C := RX1) (T := TX1) (N := 4) hx hb hws kin_X1 hown hK.1 hV (xw_e hk) rfl 3 (by decide) fl27 (fun _ h9 => h9) rfl dX1_reduce_91 ?_
      refine lv_aload_n hx hb dX1_reduce_94 rfl (lv_at hl 1 rfl) ?_
      refine hm_get (ci := 3) (v := .ref (ad 2)) (C := RX1) (T := TX1) (N := 4) hx hb hws kin_X1 hown hK.1 hV (xw_e hk) rfl 1 (by decide) fl20 (fun _ h9 => h9) rfl dX1_reduce_95 ?_
      refine lv_aload_n hx hb dX1_reduce_98 rfl (lv_at hl 1 rfl) ?_
      refine lv_iload_n hx hb dX1_reduce_99 rfl (lv_at hl 4 rfl) ?_
      refine lv_iconst (v := 1) hx hb dX1_reduce_100 (by decide) ?_
      refine lv_isub hx hb dX1_reduce_101 ?_
      refine hm_topi (show ((nI k) - 1) = nI (k - 1) from nI_p1 hk1) ?_
      refine lv_iload_n hx hb dX1_reduce_102 rfl (lv_at hl 4 rfl) ?_
      refine lv_iconst (v := 1) hx hb dX1_reduce_103 (by decide) ?_
      refine lv_isub hx hb dX1_reduce_104 ?_
      refine hm_topi (show ((nI k) - 1) = nI (k - 1) from nI_p1 hk1) ?_
      refine hm_callr (va_runV (As := [.int (nI (k - 1)), .int (nI (k - 1))]) (rest := [.ref (ad 2), .ref (A 3)]) ⟨hx, hb, hml, hown, hts⟩ (c_X1_cell l E (r := (k - 1)) (co := (k - 1)) hk (by omega) (by omega) H.size) (cwV 2 hts (hm_gV kw_214 kw_216 kw_5 kw_50 kw_217) rfl rfl rfl (by decide +kernel) ⟨Nat.le_of_ble_eq_true rfl, Nat.le_of_ble_eq_true rfl⟩) (hm_preV hK hV (xw_e hk) rfl) rfl rfl hl.1 rfl (lv_room (Nat.le_of_ble_eq_true rfl)) dX1_reduce_105 ⟨Nat.le_of_ble_eq_true rfl, Nat.le_of_ble_eq_true rfl⟩) hV hA (fun r105 M1 H locs hp hV => ?_)
      obtain ⟨hrl105, hM1⟩ := hp
      rw [hM1] at hV
      rw [← hX] at hrl105
      subst hrl105
      refine lv_aload hx hb dX1_reduce_108 (lv_at hl 0 rfl) ?_
      obtain ⟨nQ, dQ, kQ, gQ, hnQ, hwQ, haQ, hoQ⟩ := xw_at hk (i := T) (Or.inr (Or.inl ⟨rfl, by omega⟩))
      have eQ : nQ = 34 := hnQ.2.1 (by omega) (by omega)
      subst eQ
      have qQ := hoQ.1
      obtain ⟨nN, dN, kN, gN, hnN, hwN, haN, hoN⟩ := xw_at hk (i := 2) (Or.inr (Or.inl ⟨rfl, by omega⟩))
      have eN : nN = 65 := hnN.1 (by omega)
      subst eN
      have qN := hoN.1
      obtain ⟨nX, dX, kX, gX, hnX, hwX, haX, hoX⟩ := xw_at hk (i := X) (Or.inr (Or.inl ⟨rfl, by omega⟩))
      have eX : nX = 34 := hnX.2.1 (by omega) (by omega)
      subst eX
      have qX := hoX.1
      obtain ⟨hdv, ⟨rr, hrr, hlr⟩, ⟨vv, hvv, hlv⟩, hap⟩ := hk.2.1
      have hNX : kN ≤ kX + 32 := (wn_len hoN (b := kX + 32)).mpr (by rw [show z3 2 = pv * q from k3]; exact el_mk (by have h9 := wn_lt hoX; rw [hzX] at h9; exact h9) bq)
      refine hm_callv (va_runV (As := [.ref (ad 2), .ref (ad X), .ref (ad T)]) (rest := []) ⟨hx, hb, hml, hown, hts⟩ (c_X0_divide l E hdv hlr hlv hrr hvv hwQ haQ hoQ.2.1 hwN haN hoN hwX haX hoX (by rw [hzX]; exact hpvn) (by omega) (by omega) (by omega) (by omega) (by omega) (by omega) hap (xw_r4 hk (Or.inr (Or.inl ⟨rfl, by omega⟩))) (xw_r5 hk (Or.inr (Or.inl ⟨rfl, by omega⟩))) (xw_r4 hk (Or.inr (Or.inl ⟨rfl, by omega⟩))) (xw_r5 hk (Or.inr (Or.inl ⟨rfl, by omega⟩))) (xw_rr hk (Or.inr (Or.inl ⟨rfl, by omega⟩)) (Or.inr (Or.inl ⟨rfl, by omega⟩)) (by omega)) (xw_r4 hk (Or.inr (Or.inl ⟨rfl, by omega⟩))) (xw_r5 hk (Or.inr (Or.inl ⟨rfl, by omega⟩))) (xw_rr hk (Or.inr (Or.inl ⟨rfl, by omega⟩)) (Or.inr (Or.inl ⟨rfl, by omega⟩)) (by omega)) (xw_aa hk (Or.inr (Or.inl ⟨rfl, by omega⟩)) (Or.inr (Or.inl ⟨rfl, by omega⟩)) (by omega)) (xw_aa hk (Or.inr (Or.inl ⟨rfl, by omega⟩)) (Or.inr (Or.inl ⟨rfl, by omega⟩)) (by omega)) H.size) (cwV 3 hts (hm_gV kw_258 kw_259 kw_260 kw_40 kw_261) rfl rfl rfl (by decide +kernel) ⟨Nat.le_of_ble_eq_true rfl, Nat.le_of_ble_eq_true rfl⟩) (hm_preV hK hV hdv rfl) rfl rfl hl.1 rfl (lv_room (Nat.le_of_ble_eq_true rfl)) dX1_reduce_110 ⟨Nat.le_of_ble_eq_true rfl, Nat.le_of_ble_eq_true rfl⟩) hV hA (fun M1 H locs hp hV => ?_)
      obtain ⟨r1, v1, hr1, hv1, hp⟩ := hp
      obtain ⟨z4, hz4, hz4o, hk⟩ := xw_set2 (xw_rows hk hr1 hv1) (i := T) (Or.inr (Or.inl ⟨rfl, by omega⟩)) (wn_cp34 (by omega) (by omega)) hp
      rw [hQf]
      exact W.vret hx hb hr (fun t ht hW => ⟨⟨M1, rfl, ⟨z4, hk, by rw [hz4, show z3 2 = pv * q from k3, hzX]; exact dz_mul hpvn, fun i h1 h2 h3 => by rw [hz4o i h1]; exact hold i h2 h3⟩, (hm_end hV ht).1⟩, (hm_end hV ht).2⟩) hV.2.2.2.2 dX1_reduce_113
    · have hk1 : k = 0 := (nI_eq (b := 0) (by omega) (by omega)).mp c75
      refine lv_aload hx hb dX1_reduce_78 (lv_at hl 0 rfl) ?_
      refine lv_aload_n hx hb dX1_reduce_80 rfl (lv_at hl 1 rfl) ?_
      refine hm_get (ci := 3) (v := .ref (ad 2)) (C := RX1) (T := TX1) (N := 4) hx hb hws kin_X1 hown hK.1 hV (xw_e hk) rfl 1 (by decide) fl20 (fun _ h9 => h9) rfl dX1_reduce_81 ?_
      obtain ⟨nQ, dQ, kQ, gQ, hnQ, hwQ, haQ, hoQ⟩ := xw_at hk (i := T) (Or.inr (Or.inl ⟨rfl, by omega⟩))
      have eQ : nQ = 34 := hnQ.2.1 (by omega) (by omega)
      subst eQ
      have qQ := hoQ.1
      obtain ⟨nN, dN, kN, gN, hnN, hwN, haN, hoN⟩ := xw_at hk (i := 2) (Or.inr (Or.inl ⟨rfl, by omega⟩))
      have eN : nN = 65 := hnN.1 (by omega)
      subst eN
      have qN := hoN.1
      have hv2 : z3 2 = q := by rw [show z3 2 = pv * q from k3, hpv0 hk1, Int.one_mul]
      rw [hv2] at hoN
      have hN32 : kN ≤ 32 := (wn_len hoN (b := 32)).mpr bq
      refine hm_callv (va_runV (As := [.ref (ad 2)]) (rest := []) ⟨hx, hb, hml, hown, hts⟩ (c_X2_copyFrom l E hwQ haQ hoQ.2.1 hwN haN hoN (by omega) (xw_rr hk (Or.inr (Or.inl ⟨rfl, by omega⟩)) (Or.inr (Or.inl ⟨rfl, by omega⟩)) (by omega)) (by omega) (by omega) H.size) (cwV 1 hts (hm_gV kw_257 kw_153 kw_154 kw_38 kw_155) rfl rfl rfl (by decide +kernel) ⟨Nat.le_of_ble_eq_true rfl, Nat.le_of_ble_eq_true rfl⟩) (hm_preV hK hV hwQ rfl) rfl rfl hl.1 rfl (lv_room (Nat.le_of_ble_eq_true rfl)) dX1_reduce_84 ⟨Nat.le_of_ble_eq_true rfl, Nat.le_of_ble_eq_true rfl⟩) hV hA (fun M1 H locs hp hV => ?_)
      obtain ⟨z4, hz4, hz4o, hk⟩ := xw_set2 hk (i := T) (Or.inr (Or.inl ⟨rfl, by omega⟩)) (wn_cp34 (by omega) (by omega)) hp
      refine lv_goto (tgt := 113) hx hb dX1_reduce_87 (by decide) ?_
      rw [hQf]
      exact W.vret hx hb hr (fun t ht hW => ⟨⟨M1, rfl, ⟨z4, hk, hz4, fun i h1 h2 h3 => by rw [hz4o i h1]; exact hold i h2 h3⟩, (hm_end hV ht).1⟩, (hm_end hV ht).2⟩) hV.2.2.2.2 dX1_reduce_113
  refine lv_pop hx hb dX1_reduce_43 rfl ?_
  refine lv_aload_n hx hb dX1_reduce_44 rfl (lv_at hl 1 rfl) ?_
  refine hm_get (ci := 3) (v := .ref (ad 2)) (C := RX1) (T := TX1) (N := 4) hx hb hws kin_X1 hown hK.1 hV (xw_e hk) rfl 1 (by decide) fl20 (fun _ h9 => h9) rfl dX1_reduce_45 ?_
  refine lv_aload_n hx hb dX1_reduce_48 rfl (lv_at hl 1 rfl) ?_
  refine hm_get (ci := 3) (v := .ref (ad 2)) (C := RX1) (T := TX1) (N := 4) hx hb hws kin_X1 hown hK.1 hV (xw_e hk) rfl 1 (by decide) fl20 (fun _ h9 => h9) rfl dX1_reduce_49 ?_
  refine lv_aload_n hx hb dX1_reduce_52 rfl (lv_at hl 1 rfl) ?_
  refine hm_get (ci := 3) (v := .ref (ad 3)) (C := RX1) (T := TX1) (N := 4) hx hb hws kin_X1 hown hK.1 hV (xw_e hk) rfl 2 (by decide) fl24 (fun _ h9 => h9) rfl dX1_reduce_53 ?_
  refine lv_aload_n hx hb dX1_reduce_56 rfl (lv_at hl 1 rfl) ?_
  refine hm_get (ci := 3) (v := .ref (ad 3)) (C := RX1) (T := TX1) (N := 4) hx hb hws kin_X1 hown hK.1 hV (xw_e hk) rfl 2 (by decide) fl24 (fun _ h9 => h9) rfl dX1_reduce_57 ?_
  refine hm_getN (ci := 4) (v := .int gH) (C := RX2) (T := TX2) (N := 3) hx hb hws kin_X2 hown hK.1 hV hwH rfl 2 (by decide) (va_Nw.use rfl (hK.2.1 _ (List.mem_of_getElem? (i := 5) rfl))) (fun _ h9 => h9) rfl dX1_reduce_60 ?_
  refine lv_if_ne (tgt := 70) hx hb dX1_reduce_63 (by decide) (fun c63 => ?_) (fun c63 => ?_)
  · refine lv_iconst (v := 0) hx hb dX1_reduce_70 (by decide) ?_
    exact sum 0 (Or.inl rfl) (show (if (0 : Int32) = 0 then _ else _) = _ by
      have h9 := hoH.2.2.2.2
      rw [if_pos rfl]
      by_cases q9 : z2 3 < 0
      · omega
      · rw [if_neg q9] at h9; exact absurd h9 c63) ls H locs (lv_sub hl [0, 1, 2, 3, 4] rfl) hV
  · refine lv_iconst (v := 1) hx hb dX1_reduce_66 (by decide) ?_
    refine lv_goto (tgt := 71) hx hb dX1_reduce_67 (by decide) ?_
    exact sum 1 (Or.inr rfl) (show (if (1 : Int32) = 0 then _ else _) = _ by
      have h9 := hoH.2.2.2.2
      rw [if_neg (by decide)]
      by_cases q9 : z2 3 < 0
      · rw [if_pos q9, c63] at h9; exact absurd h9 (by decide)
      · omega) ls H locs (lv_sub hl [0, 1, 2, 3, 4] rfl) hV

abbrev wd_X1_clearBelow : List Cond := .code yX1_clearBelow cX1_clearBelow 5 none :: hm_ws
abbrev rm_X1_clearBelow : Room := { frames := 4, cells := 0, slots := 0, locals := 108 }

set_option maxHeartbeats 4000000 in
set_option maxRecDepth 100000 in
/-- clearBelow(step, size) -/
theorem c_X1_clearBelow (l : Launch) (E : hm_E) {M : hm_M} {A ad rw : Nat → Nat} {cnt : Nat} {z : Nat → Int} {t : Nat → Nat → Int64} {k n : Nat} (hk : xw E M A ad rw cnt true z t) {P : Nat → Nat → Int} (hPb : ∀ r co, (P r co).natAbs ≤ 9223372036854775808) (hkn : k < n) (hn : n ≤ 12) (hst : el_st P n k z) (hD : hid (dt_D (k + 1) P ≠ 0)) : hm_Cv l E yX1_clearBelow wd_X1_clearBelow rm_X1_clearBelow [.ref (A 6), .int (nI k), .int (nI n)] M (fun M1 => ∃ y, xw E M1 A ad rw cnt true y t ∧ (∀ i, 148 ≤ i → y i = z i) ∧ el_st P n (k + 1) y) := by
  intro sz
  refine Met.ofW (cc := cX1_clearBelow) (maxL := 5) (ret := none) (by decide) rfl ?_
  intro p e s m args below meth c s₁ B hml hv
  obtain ⟨rfl, hAe, hA, hK, hV⟩ := hm_start hv
  have hx := B.exec
  have hb := B.bytes
  have hr := B.returns
  have hts := atoms_spec (ws := wd_X1_clearBelow) B.pre
  have hws : ∀ w ∈ hm_ws, w.before _ s = true := fun w h => hts w (List.mem_cons_of_mem _ h)
  have hown : s.vm.findClass RX1 = some m.cls := findClass_of_methodNamed B.named
  have hlocks := B.notSynchronized
  have hl := lv_entry ([.ref (A 6), .int (nI k), .int (nI n)]) (n := 5) (Nat.le_of_ble_eq_true rfl)
  rw [lg_entry_eq]
  generalize (lg_sl ([.ref (A 6), .int (nI k), .int (nI n)]) ++ List.replicate (5 - (lg_sl ([.ref (A 6), .int (nI k), .int (nI n)])).length) Slot.unset).toArray = ls at hl ⊢
  have hl : lv_has ls 5 [(0, .ref (A 6)), (1, .int (nI k)), (2, .int (nI n))] := hl
  refine hm_gen (rm := rm_X1_clearBelow) rfl (fun Qf hQf => ?_)
  refine lv_iload_n hx hb dX1_clearBelow_0 rfl (lv_at hl 1 rfl) ?_
  refine lv_iconst (v := 1) hx hb dX1_clearBelow_1 (by decide) ?_
  refine lv_iadd hx hb dX1_clearBelow_2 ?_
  refine hm_topi (show ((nI k) + 1) = nI (k + 1) from nI_1 k) ?_
  refine lv_istore_n (lv' := [(3, .int (nI (k + 1))), (0, .ref (A 6)), (1, .int (nI k)), (2, .int (nI n))]) hx hb dX1_clearBelow_3 rfl hl (by decide) rfl (fun ls hl => ?_)
  have outer : ∀ (fu : Nat) (N : hm_M) (y : Nat → Int) (r : Nat), (k < r) → (r ≤ n) → (xw E N A ad rw cnt true y t) → (el_in P n k r (k + 1) z y) → n - r < fu → ∀ (ls : Array Slot) (H : Heap) (locs : List Loc), lv_has ls 5 [(0, .ref (A 6)), (1, .int (nI k)), (2, .int (nI n)), (3, .int (nI r))] → hm_V E.1 vwCl (hm_A M sz) s.heap (N) H locs → W p l e rm_X1_clearBelow s m [.ref (A 6), .int (nI k), .int (nI n)].toArray below meth c H locs 0 0 Qf (F0 m 4 ls []) := by
    intro fu
    induction fu with
    | zero => intro N y r hrk hrn0 hk hy hfu; exact absurd hfu (Nat.not_lt_zero _)
    | succ fu ih_outer =>
      intro N y r hrk hrn0 hk hy hfu ls H locs hl hV
      refine lv_iload_n hx hb dX1_clearBelow_4 rfl (lv_at hl 3 rfl) ?_
      refine lv_iload_n hx hb dX1_clearBelow_5 rfl (lv_at hl 2 rfl) ?_
      refine lv_icmp_ge (tgt := 40) hx hb dX1_clearBelow_6 (by decide) (fun c6 => ?_) (fun c6 => ?_)
      · have hrn : r = n := by
          rcases Nat.lt_or_ge r n with q | q
          · exact absurd c6 (nI_ge q (by omega))
          · omega
        rw [hrn] at hy
        rw [hQf]
        exact W.vret hx hb hr (fun t ht hW => ⟨⟨N, rfl, ⟨y, hk, hy.2.2.2.2, el_end hkn (Nat.le_refl _) hst hD hy⟩, (hm_end hV ht).1⟩, (hm_end hV ht).2⟩) hV.2.2.2.2 dX1_clearBelow_40
      · have hrn : r < n := by
          rcases Nat.lt_or_ge r n with q | q
          · exact q
          · exact absurd (nI_le q (by omega)) c6
        refine lv_iload_n hx hb dX1_clearBelow_9 rfl (lv_at hl 1 rfl) ?_
        refine lv_iconst (v := 1) hx hb dX1_clearBelow_10 (by decide) ?_
        refine lv_iadd hx hb dX1_clearBelow_11 ?_
        refine hm_topi (show ((nI k) + 1) = nI (k + 1) from nI_1 k) ?_
        refine lv_istore (lv' := [(4, .int (nI (k + 1))), (0, .ref (A 6)), (1, .int (nI k)), (2, .int (nI n)), (3, .int (nI r))]) hx hb dX1_clearBelow_12 hl (by decide) rfl (fun ls hl => ?_)
        have inner : ∀ (fu : Nat) (N : hm_M) (y : Nat → Int) (co : Nat), (k < co) → (co ≤ n) → (xw E N A ad rw cnt true y t) → (el_in P n k r co z y) → n - co < fu → ∀ (ls : Array Slot) (H : Heap) (locs : List Loc), lv_has ls 5 [(0, .ref (A 6)), (1, .int (nI k)), (2, .int (nI n)), (3, .int (nI r)), (4, .int (nI co))] → hm_V E.1 vwCl (hm_A M sz) s.heap (N) H locs → W p l e rm_X1_clearBelow s m [.ref (A 6), .int (nI k), .int (nI n)].toArray below meth c H locs 0 0 Qf (F0 m 14 ls []) := by
          intro fu
          induction fu with
          | zero => intro N y co hck hcn0 hk hy hfu; exact absurd hfu (Nat.not_lt_zero _)
          | succ fu ih_inner =>
            intro N y co hck hcn0 hk hy hfu ls H locs hl hV
            refine lv_iload hx hb dX1_clearBelow_14 (lv_at hl 4 rfl) ?_
            refine lv_iload_n hx hb dX1_clearBelow_16 rfl (lv_at hl 2 rfl) ?_
            refine lv_icmp_ge (tgt := 34) hx hb dX1_clearBelow_17 (by decide) (fun c17 => ?_) (fun c17 => ?_)
            · have hcn : co = n := by
                rcases Nat.lt_or_ge co n with q | q
                · exact absurd c17 (nI_ge q (by omega))
                · omega
              rw [hcn] at hy
              refine lv_iinc (v := (nI (r + 1))) (lv' := [(3, .int (nI (r + 1))), (0, .ref (A 6)), (1, .int (nI k)), (2, .int (nI n)), (4, .int (nI co))]) hx hb dX1_clearBelow_34 hl (k := 3) rfl (nI_1 r) (by decide) rfl (fun ls hl => ?_)
              refine lv_goto (tgt := 4) hx hb dX1_clearBelow_37 (by decide) ?_
              exact ih_outer _ y (r + 1) (by omega) (by omega) hk (el_row hy) (by omega) ls H locs (lv_sub hl [1, 2, 3, 0] rfl) hV
            · have hcn : co < n := by
                rcases Nat.lt_or_ge co n with q | q
                · exact q
                · exact absurd (nI_le q (by omega)) c17
              have vT : y (4 + (r * 12 + co)) = dt_B P k r co := by rw [hy.1 r co (by omega) hrn (by omega) hcn, if_neg (by omega)]
              have vP : y (4 + (k * 12 + k)) = dt_B P k k k := hy.2.1 k (by omega) hkn
              have vL : y (4 + (r * 12 + k)) = dt_B P k r k := hy.2.2.1 r (by omega) hrn
              have vU : y (4 + (k * 12 + co)) = dt_B P k k co := hy.2.1 co (by omega) hcn
              refine lv_aload_n hx hb dX1_clearBelow_20 rfl (lv_at hl 0 rfl) ?_
              refine lv_iload_n hx hb dX1_clearBelow_21 rfl (lv_at hl 3 rfl) ?_
              refine lv_iload hx hb dX1_clearBelow_22 (lv_at hl 4 rfl) ?_
              refine lv_iload_n hx hb dX1_clearBelow_24 rfl (lv_at hl 1 rfl) ?_
              refine hm_callv (va_runV (As := [.int (nI r), .int (nI co), .int (nI k)]) (rest := []) ⟨hx, hb, hml, hown, hts⟩ (c_X1_reduce l E (r := r) (co := co) (k := k) (pv := dt_D k P) (q := dt_B P (k + 1) r co) hk (by omega) (by omega) hrk hck rfl rfl rfl rfl (show _ < _ by rw [vT]; exact el_le hPb (by omega) _ _) (show _ < _ by rw [vP]; exact el_le hPb (by omega) _ _) (show _ < _ by rw [vL]; exact el_le hPb (by omega) _ _) (show _ < _ by rw [vU]; exact el_le hPb (by omega) _ _) hy.2.2.2.1 (fun e9 => by rw [e9]; rfl) hst.2.2.1 (show _ = _ by rw [vT, vP, vL, vU, ← dt_step hD hst.2.2.2, dt_B_D, Int.mul_comm (dt_B P k k k)]) (show _ < _ from el_le hPb (by omega) _ _) H.size) (cwV 3 hts (hm_gV kw_235 kw_237 kw_9 kw_50 kw_238) rfl rfl rfl (by decide +kernel) ⟨Nat.le_of_ble_eq_true rfl, Nat.le_of_ble_eq_true rfl⟩) (hm_preV hK hV (xw_e hk) rfl) rfl rfl hl.1 rfl (lv_room (Nat.le_of_ble_eq_true rfl)) dX1_clearBelow_25 ⟨Nat.le_of_ble_eq_true rfl, Nat.le_of_ble_eq_true rfl⟩) hV hA (fun M1 H locs hp hV => ?_)
              obtain ⟨y1, hk, hy1, hy1o⟩ := hp
              refine lv_iinc (v := (nI (co + 1))) (lv' := [(4, .int (nI (co + 1))), (0, .ref (A 6)), (1, .int (nI k)), (2, .int (nI n)), (3, .int (nI r))]) hx hb dX1_clearBelow_28 hl (k := 4) rfl (nI_1 co) (by decide) rfl (fun ls hl => ?_)
              refine lv_goto (tgt := 14) hx hb dX1_clearBelow_31 (by decide) ?_
              exact ih_inner _ y1 (co + 1) (by omega) (by omega) hk (el_go hn hrk hrn hck hcn hy hy1 hy1o) (by omega) ls H locs (lv_sub hl [1, 2, 3, 4, 0] rfl) hV
        exact inner (n + 1) _ y (k + 1) (by omega) (by omega) hk hy (by omega) ls H locs (lv_sub hl [1, 2, 3, 4, 0] rfl) hV
  exact outer (n + 1) _ z (k + 1) (by omega) (by omega) hk (el_begin hkn hst) (by omega) ls s.heap [] (lv_sub hl [1, 2, 3, 0] rfl) hV

abbrev wd_X1_solve : List Cond := .code yX1_solve cX1_solve 7 none :: hm_ws
abbrev rm_X1_solve : Room := { frames := 5, cells := 0, slots := 0, locals := 132 }

set_option maxHeartbeats 4000000 in
set_option maxRecDepth 100000 in
/-- solve(table, size, answer) -/
theorem c_X1_solve (l : Launch) (E : hm_E) {M : hm_M} {A ad rw : Nat → Nat} {cnt : Nat} {z : Nat → Int} {t : Nat → Nat → Int64} {n : Nat} (hk : xw E M A ad rw cnt true z t) (hn1 : 0 < n) (hn : n ≤ 12) : hm_Cv l E yX1_solve wd_X1_solve rm_X1_solve [.ref (A 6), .ref (A 2), .int (nI n), .ref (ad 0)] M (fun M1 => ∃ (ad1 rw1 : Nat → Nat) (y : Nat → Int), xw E M1 A ad1 rw1 cnt true y t ∧ (∀ i, 148 ≤ i → y i = z i) ∧ y 0 = dt_D n (fun i j => (t i j).toInt)) := by
  intro sz
  refine Met.ofW (cc := cX1_solve) (maxL := 7) (ret := none) (by decide) rfl ?_
  intro p e s m args below meth c s₁ B hml hv
  obtain ⟨rfl, hAe, hA, hK, hV⟩ := hm_start hv
  have hx := B.exec
  have hb := B.bytes
  have hr := B.returns
  have hts := atoms_spec (ws := wd_X1_solve) B.pre
  have hws : ∀ w ∈ hm_ws, w.before _ s = true := fun w h => hts w (List.mem_cons_of_mem _ h)
  have hown : s.vm.findClass RX1 = some m.cls := findClass_of_methodNamed B.named
  have hlocks := B.notSynchronized
  have hl := lv_entry ([.ref (A 6), .ref (A 2), .int (nI n), .ref (ad 0)]) (n := 7) (Nat.le_of_ble_eq_true rfl)
  rw [lg_entry_eq]
  generalize (lg_sl ([.ref (A 6), .ref (A 2), .int (nI n), .ref (ad 0)]) ++ List.replicate (7 - (lg_sl ([.ref (A 6), .ref (A 2), .int (nI n), .ref (ad 0)])).length) Slot.unset).toArray = ls at hl ⊢
  have hl : lv_has ls 7 [(0, .ref (A 6)), (1, .ref (A 2)), (2, .int (nI n)), (3, .ref (ad 0))] := hl
  refine hm_gen (rm := rm_X1_solve) rfl (fun Qf hQf => ?_)
  have hTb : ∀ r co, (((fun i j => (t i j).toInt) : Nat → Nat → Int) r co).natAbs ≤ 9223372036854775808 := fun r co => by
    have h1 := Int64.toInt_lt (t r co)
    have h2 := Int64.le_toInt (t r co)
    show ((t r co).toInt).natAbs ≤ _
    omega
  refine lv_aload_n hx hb dX1_solve_0 rfl (lv_at hl 0 rfl) ?_
  refine lv_aload_n hx hb dX1_solve_1 rfl (lv_at hl 1 rfl) ?_
  refine lv_iload_n hx hb dX1_solve_2 rfl (lv_at hl 2 rfl) ?_
  refine hm_callv (va_runV (As := [.ref (A 2), .int (nI n)]) (rest := []) ⟨hx, hb, hml, hown, hts⟩ (c_X1_load l E hk hn s.heap.size) (cwV 2 hts (hm_gV kw_210 kw_212 kw_4 kw_50 kw_213) rfl rfl rfl (by decide +kernel) ⟨Nat.le_of_ble_eq_true rfl, Nat.le_of_ble_eq_true rfl⟩) (hm_preV hK hV (xw_e hk) rfl) rfl rfl hl.1 rfl (lv_room (Nat.le_of_ble_eq_true rfl)) dX1_solve_3 ⟨Nat.le_of_ble_eq_true rfl, Nat.le_of_ble_eq_true rfl⟩) hV hA (fun M1 H locs hp hV => ?_)
  obtain ⟨y0, hk, hy0, hy1⟩ := hp
  refine lv_iconst (v := 0) hx hb dX1_solve_6 (by decide) ?_
  refine lv_istore (lv' := [(4, .int 0), (0, .ref (A 6)), (1, .ref (A 2)), (2, .int (nI n)), (3, .ref (ad 0))]) hx hb dX1_solve_7 hl (by decide) rfl (fun ls hl => ?_)
  refine lv_iconst (v := 0) hx hb dX1_solve_9 (by decide) ?_
  refine lv_istore (lv' := [(5, .int 0), (4, .int 0), (0, .ref (A 6)), (1, .ref (A 2)), (2, .int (nI n)), (3, .ref (ad 0))]) hx hb dX1_solve_10 hl (by decide) rfl (fun ls hl => ?_)
  obtain ⟨TM, hTM⟩ : ∃ TM : Nat → Nat → Int, TM = (fun i j => (t i j).toInt) := ⟨_, rfl⟩
  rw [← hTM] at hTb hQf
  have loop : ∀ (fu : Nat) (N : hm_M) (ad1 : Nat → Nat) (rw1 : Nat → Nat) (y : Nat → Int) (P : Nat → Nat → Int) (tb : Int32) (k : Nat), (k ≤ n) → (xw E N A ad1 rw1 cnt true y t) → (ad1 0 = ad 0) → (∀ i, 148 ≤ i → y i = z i) → (el_st P n k y) → (∀ r co, (P r co).natAbs ≤ 9223372036854775808) → (hid ((tb = 0 ∧ dt_D n P = dt_D n TM) ∨ (tb = 1 ∧ -dt_D n P = dt_D n TM))) → n - k < fu → ∀ (ls : Array Slot) (H : Heap) (locs : List Loc), lv_has ls 7 [(0, .ref (A 6)), (1, .ref (A 2)), (2, .int (nI n)), (3, .ref (ad 0)), (4, .int tb), (5, .int (nI k))] → hm_V E.1 vwCl (hm_A M sz) s.heap (N) H locs → W p l e rm_X1_solve s m [.ref (A 6), .ref (A 2), .int (nI n), .ref (ad 0)].toArray below meth c H locs 0 0 Qf (F0 m 12 ls []) := by
    intro fu
    induction fu with
    | zero => intro N ad1 rw1 y P tb k hkn0 hk ha0 hyo hst hPb hsg hfu; exact absurd hfu (Nat.not_lt_zero _)
    | succ fu ih_loop =>
      intro N ad1 rw1 y P tb k hkn0 hk ha0 hyo hst hPb hsg hfu ls H locs hl hV
      refine lv_iload hx hb dX1_solve_12 (lv_at hl 5 rfl) ?_
      refine lv_iload_n hx hb dX1_solve_14 rfl (lv_at hl 2 rfl) ?_
      refine lv_icmp_ge (tgt := 79) hx hb dX1_solve_15 (by decide) (fun c15 => ?_) (fun c15 => ?_)
      · have hkn : k = n := by
          rcases Nat.lt_or_ge k n with q | q
          · exact absurd c15 (nI_ge q (by omega))
          · omega
        rw [hkn] at hst
        obtain ⟨X, hX⟩ : ∃ X, X = 4 + ((n - 1) * 12 + (n - 1)) := ⟨_, rfl⟩
        have hyX : y X = dt_D n P := by rw [hX]; exact hst.2.1 hn1
        refine lv_aload_n hx hb dX1_solve_79 rfl (lv_at hl 3 rfl) ?_
        refine lv_aload_n hx hb dX1_solve_80 rfl (lv_at hl 0 rfl) ?_
        refine lv_iload_n hx hb dX1_solve_81 rfl (lv_at hl 2 rfl) ?_
        refine lv_iconst (v := 1) hx hb dX1_solve_82 (by decide) ?_
        refine lv_isub hx hb dX1_solve_83 ?_
        refine hm_topi (show ((nI n) - 1) = nI (n - 1) from nI_p1 hn1) ?_
        refine lv_iload_n hx hb dX1_solve_84 rfl (lv_at hl 2 rfl) ?_
        refine lv_iconst (v := 1) hx hb dX1_solve_85 (by decide) ?_
        refine lv_isub hx hb dX1_solve_86 ?_
        refine hm_topi (show ((nI n) - 1) = nI (n - 1) from nI_p1 hn1) ?_
        refine hm_callr (va_runV (As := [.int (nI (n - 1)), .int (nI (n - 1))]) (rest := [.ref (ad 0)]) ⟨hx, hb, hml, hown, hts⟩ (c_X1_cell l E (r := (n - 1)) (co := (n - 1)) hk (by omega) (by omega) H.size) (cwV 2 hts (hm_gV kw_214 kw_216 kw_5 kw_50 kw_217) rfl rfl rfl (by decide +kernel) ⟨Nat.le_of_ble_eq_true rfl, Nat.le_of_ble_eq_true rfl⟩) (hm_preV hK hV (xw_e hk) rfl) rfl rfl hl.1 rfl (lv_room (Nat.le_of_ble_eq_true rfl)) dX1_solve_87 ⟨Nat.le_of_ble_eq_true rfl, Nat.le_of_ble_eq_true rfl⟩) hV hA (fun r87 M1 H locs hp hV => ?_)
        obtain ⟨hrl87, hM1⟩ := hp
        rw [hM1] at hV
        rw [← hX] at hrl87
        subst hrl87
        obtain ⟨nZ, dZ, kZ, gZ, hnZ, hwZ, haZ, hoZ⟩ := xw_at hk (i := 0) (Or.inl (by omega))
        have eZ : nZ = 65 := hnZ.1 (by omega)
        subst eZ
        have qZ := hoZ.1
        obtain ⟨nX, dX, kX, gX, hnX, hwX, haX, hoX⟩ := xw_at hk (i := X) (Or.inr (Or.inl ⟨rfl, by omega⟩))
        have eX : nX = 34 := hnX.2.1 (by omega) (by omega)
        subst eX
        have qX := hoX.1
        rw [ha0] at hwZ
        refine hm_callv (va_runV (As := [.ref (ad1 X)]) (rest := []) ⟨hx, hb, hml, hown, hts⟩ (c_X2_copyFrom l E hwZ haZ hoZ.2.1 hwX haX hoX (by omega) (xw_rr hk (Or.inr (Or.inl ⟨rfl, by omega⟩)) (Or.inl (by omega)) (by omega)) (by omega) (by omega) H.size) (cwV 1 hts (hm_gV kw_257 kw_153 kw_154 kw_38 kw_155) rfl rfl rfl (by decide +kernel) ⟨Nat.le_of_ble_eq_true rfl, Nat.le_of_ble_eq_true rfl⟩) (hm_preV hK hV hwZ rfl) rfl rfl hl.1 rfl (lv_room (Nat.le_of_ble_eq_true rfl)) dX1_solve_90 ⟨Nat.le_of_ble_eq_true rfl, Nat.le_of_ble_eq_true rfl⟩) hV hA (fun M1 H locs hp hV => ?_)
        rw [← ha0] at hp
        obtain ⟨y1, hy1v, hy1o, hk⟩ := xw_set2 hk (i := 0) (Or.inl (by omega)) (wn_cp65 (by omega)) hp
        refine lv_iload hx hb dX1_solve_93 (lv_at hl 4 rfl) ?_
        refine lv_if_eq (tgt := 102) hx hb dX1_solve_95 (by decide) (fun c95 => ?_) (fun c95 => ?_)
        · rw [hQf]
          exact W.vret hx hb hr (fun t ht hW => ⟨⟨M1, rfl, ⟨ad1, rw1, y1, hk, fun i hi => by rw [hy1o i (by omega)]; exact hyo i hi, by
            rw [hy1v, hyX]
            rcases hsg with h9 | h9
            · exact h9.2
            · rw [c95] at h9; exact absurd h9.1 (by decide)⟩, (hm_end hV ht).1⟩, (hm_end hV ht).2⟩) hV.2.2.2.2 dX1_solve_102
        · obtain ⟨nZ, dZ, kZ, gZ, hnZ, hwZ, haZ, hoZ⟩ := xw_at hk (i := 0) (Or.inl (by omega))
          have eZ : nZ = 65 := hnZ.1 (by omega)
          subst eZ
          have qZ := hoZ.1
          rw [ha0] at hwZ
          refine lv_aload_n hx hb dX1_solve_98 rfl (lv_at hl 3 rfl) ?_
          refine hm_callv (va_runV (As := []) (rest := []) ⟨hx, hb, hml, hown, hts⟩ (c_X2_negate l E hwZ (by omega) H.size) (cwV 0 hts (hm_gV kw_297 kw_298 kw_299 kw_38 kw_300) rfl rfl rfl (by decide +kernel) ⟨Nat.le_of_ble_eq_true rfl, Nat.le_of_ble_eq_true rfl⟩) (hm_preV hK hV hwZ rfl) rfl rfl hl.1 rfl (lv_room (Nat.le_of_ble_eq_true rfl)) dX1_solve_99 ⟨Nat.le_of_ble_eq_true rfl, Nat.le_of_ble_eq_true rfl⟩) hV hA (fun M1 H locs hp hV => ?_)
          have hp2 := wn_neg (w := ad 0) haZ hoZ
          rw [← hp, ← ha0] at hp2
          obtain ⟨y2, hy2v, hy2o, hk⟩ := xw_set2 hk (i := 0) (Or.inl (by omega)) (wn_cp65 (by omega)) hp2
          rw [hQf]
          exact W.vret hx hb hr (fun t ht hW => ⟨⟨M1, rfl, ⟨ad1, rw1, y2, hk, fun i hi => by rw [hy2o i (by omega), hy1o i (by omega)]; exact hyo i hi, by
            rw [hy2v, hy1v, hyX]
            rcases hsg with h9 | h9
            · exact absurd h9.1 c95
            · exact h9.2⟩, (hm_end hV ht).1⟩, (hm_end hV ht).2⟩) hV.2.2.2.2 dX1_solve_102
      · have hkn : k < n := by
          rcases Nat.lt_or_ge k n with q | q
          · exact q
          · exact absurd (nI_le q (by omega)) c15
        refine lv_aload_n hx hb dX1_solve_18 rfl (lv_at hl 0 rfl) ?_
        refine lv_iload hx hb dX1_solve_19 (lv_at hl 5 rfl) ?_
        refine lv_iload_n hx hb dX1_solve_21 rfl (lv_at hl 2 rfl) ?_
        refine hm_calli (va_runV (As := [.int (nI k), .int (nI n)]) (rest := []) ⟨hx, hb, hml, hown, hts⟩ (c_X1_pivotRow l E hk hkn hn H.size) (cwV 2 hts (hm_gV kw_219 kw_221 kw_6 kw_50 kw_222) rfl rfl rfl (by decide +kernel) ⟨Nat.le_of_ble_eq_true rfl, Nat.le_of_ble_eq_true rfl⟩) (hm_preV hK hV (xw_e hk) rfl) rfl rfl hl.1 rfl (lv_room (Nat.le_of_ble_eq_true rfl)) dX1_solve_22 ⟨Nat.le_of_ble_eq_true rfl, Nat.le_of_ble_eq_true rfl⟩) hV hA (fun r22 M1 H locs hp hV => ?_)
        obtain ⟨hpiv, hM1⟩ := hp
        rw [hM1] at hV
        refine lv_istore (lv' := [(6, .int r22), (0, .ref (A 6)), (1, .ref (A 2)), (2, .int (nI n)), (3, .ref (ad 0)), (4, .int tb), (5, .int (nI k))]) hx hb dX1_solve_25 hl (by decide) rfl (fun ls hl => ?_)
        refine lv_iload hx hb dX1_solve_27 (lv_at hl 0 rfl) ?_
        refine lv_if_ge (tgt := 38) hx hb dX1_solve_29 (by decide) (fun c29 => ?_) (fun c29 => ?_)
        · obtain ⟨pw, hpw, hpk, hpn, hpz⟩ : ∃ pw, r22 = nI pw ∧ k ≤ pw ∧ pw < n ∧ y (4 + (pw * 12 + k)) ≠ 0 := by
            rcases hpiv with h9 | h9
            · rw [h9.1] at c29; exact absurd c29 (by decide)
            · exact h9
          subst hpw
          have kpz : hid (y (4 + (pw * 12 + k)) ≠ 0) := hpz
          clear hpz
          have clear : ∀ (N : hm_M) (ad1 : Nat → Nat) (rw1 : Nat → Nat) (y : Nat → Int) (P : Nat → Nat → Int) (tb : Int32), (xw E N A ad1 rw1 cnt true y t) → (ad1 0 = ad 0) → (∀ i, 148 ≤ i → y i = z i) → (el_st P n k y) → (hid (y (4 + (k * 12 + k)) ≠ 0)) → (∀ r co, (P r co).natAbs ≤ 9223372036854775808) → (hid ((tb = 0 ∧ dt_D n P = dt_D n TM) ∨ (tb = 1 ∧ -dt_D n P = dt_D n TM))) → ∀ (ls : Array Slot) (H : Heap) (locs : List Loc), lv_has ls 7 [(0, .ref (A 6)), (1, .ref (A 2)), (2, .int (nI n)), (3, .ref (ad 0)), (4, .int tb), (5, .int (nI k))] → hm_V E.1 vwCl (hm_A M sz) s.heap (N) H locs → W p l e rm_X1_solve s m [.ref (A 6), .ref (A 2), .int (nI n), .ref (ad 0)].toArray below meth c H locs 0 0 Qf (F0 m 66 ls []) := by
            intro N ad1 rw1 y P tb hk ha0 hyo hst hpz hPb hsg ls H locs hl hV
            have hD : hid (dt_D (k + 1) P ≠ 0) := by
              show dt_D (k + 1) P ≠ 0
              rw [dt_B_D, ← hst.1 k k (Nat.le_refl k) hkn (Nat.le_refl k) hkn]
              exact hpz
            refine lv_aload_n hx hb dX1_solve_66 rfl (lv_at hl 0 rfl) ?_
            refine lv_iload hx hb dX1_solve_67 (lv_at hl 5 rfl) ?_
            refine lv_iload_n hx hb dX1_solve_69 rfl (lv_at hl 2 rfl) ?_
            refine hm_callv (va_runV (As := [.int (nI k), .int (nI n)]) (rest := []) ⟨hx, hb, hml, hown, hts⟩ (c_X1_clearBelow l E hk hPb hkn hn hst hD H.size) (cwV 2 hts (hm_gV kw_231 kw_233 kw_8 kw_50 kw_234) rfl rfl rfl (by decide +kernel) ⟨Nat.le_of_ble_eq_true rfl, Nat.le_of_ble_eq_true rfl⟩) (hm_preV hK hV (xw_e hk) rfl) rfl rfl hl.1 rfl (lv_room (Nat.le_of_ble_eq_true rfl)) dX1_solve_70 ⟨Nat.le_of_ble_eq_true rfl, Nat.le_of_ble_eq_true rfl⟩) hV hA (fun M1 H locs hp hV => ?_)
            obtain ⟨y1, hk, hy1o, hst⟩ := hp
            refine lv_iinc (v := (nI (k + 1))) (lv' := [(5, .int (nI (k + 1))), (0, .ref (A 6)), (1, .ref (A 2)), (2, .int (nI n)), (3, .ref (ad 0)), (4, .int tb)]) hx hb dX1_solve_73 hl (k := 5) rfl (nI_1 k) (by decide) rfl (fun ls hl => ?_)
            refine lv_goto (tgt := 12) hx hb dX1_solve_76 (by decide) ?_
            exact ih_loop _ ad1 rw1 y1 P tb (k + 1) (by omega) hk ha0 (fun i hi => by rw [hy1o i hi]; exact hyo i hi) hst hPb hsg (by omega) ls H locs (lv_sub hl [1, 2, 3, 4, 5, 0] rfl) hV
          refine lv_iload hx hb dX1_solve_38 (lv_at hl 0 rfl) ?_
          refine lv_iload hx hb dX1_solve_40 (lv_at hl 6 rfl) ?_
          refine lv_icmp_eq (tgt := 66) hx hb dX1_solve_42 (by decide) (fun c42 => ?_) (fun c42 => ?_)
          · have hpe : pw = k := (nI_eq (by omega) (by omega)).mp c42
            rw [hpe] at kpz
            exact clear _ ad1 rw1 y P tb hk ha0 hyo hst kpz hPb hsg ls H locs (lv_sub hl [1, 2, 3, 4, 5, 6] rfl) hV
          · have hpe : pw ≠ k := fun e9 => c42 (by rw [e9])
            refine lv_aload_n hx hb dX1_solve_45 rfl (lv_at hl 1 rfl) ?_
            refine lv_iload hx hb dX1_solve_46 (lv_at hl 0 rfl) ?_
            refine lv_iload hx hb dX1_solve_48 (lv_at hl 6 rfl) ?_
            refine lv_iload_n hx hb dX1_solve_50 rfl (lv_at hl 3 rfl) ?_
            refine hm_callv (va_runV (As := [.int (nI pw), .int (nI k), .int (nI n)]) (rest := []) ⟨hx, hb, hml, hown, hts⟩ (c_X1_swapRows l E (pw := pw) (k := k) hk (by omega) (by omega) hpe hn H.size) (cwV 3 hts (hm_gV kw_227 kw_229 kw_7 kw_50 kw_230) rfl rfl rfl (by decide +kernel) ⟨Nat.le_of_ble_eq_true rfl, Nat.le_of_ble_eq_true rfl⟩) (hm_preV hK hV (xw_e hk) rfl) rfl rfl hl.1 rfl (lv_room (Nat.le_of_ble_eq_true rfl)) dX1_solve_51 ⟨Nat.le_of_ble_eq_true rfl, Nat.le_of_ble_eq_true rfl⟩) hV hA (fun M1 H locs hp hV => ?_)
            obtain ⟨ad2, rw2, y2, hk, hy2o, hy2⟩ := hp
            have hst2 := el_swap (p := pw) (by omega) hpn hn hst hy2
            have hpz2 : hid (y2 (4 + (k * 12 + k)) ≠ 0) := by
              show y2 (4 + (k * 12 + k)) ≠ 0
              rw [hy2 k k (by omega) hkn, show xw_x2 pw k k = pw from by unfold xw_x2; rw [if_neg (Ne.symm hpe), if_pos rfl]]
              exact kpz
            have hPb2 : ∀ r co, ((dt_r (dt_r P pw (P k)) k (P pw)) r co).natAbs ≤ 9223372036854775808 := fun r co => by
              unfold dt_r
              split
              · exact hPb _ _
              · split <;> exact hPb _ _
            have hsw := dt_D_swap P hpe hpn hkn
            refine lv_iload hx hb dX1_solve_54 (lv_at hl 5 rfl) ?_
            refine lv_if_ne (tgt := 63) hx hb dX1_solve_56 (by decide) (fun c56 => ?_) (fun c56 => ?_)
            · refine lv_iconst (v := 0) hx hb dX1_solve_63 (by decide) ?_
              refine lv_istore (lv' := [(4, .int 0), (6, .int (nI pw)), (0, .ref (A 6)), (1, .ref (A 2)), (2, .int (nI n)), (3, .ref (ad 0)), (5, .int (nI k))]) hx hb dX1_solve_64 hl (by decide) rfl (fun ls hl => ?_)
              exact clear _ ad2 rw2 y2 _ 0 hk (by rw [(hy2o 0 (by omega)).1]; exact ha0) (fun i hi => by rw [(hy2o i (by omega)).2]; exact hyo i hi) hst2 hpz2 hPb2 (Or.inl ⟨rfl, by
                rw [hsw]
                rcases hsg with h9 | h9
                · exact absurd h9.1 c56
                · exact h9.2⟩) ls H locs (lv_sub hl [2, 3, 4, 5, 0, 6] rfl) hV
            · refine lv_iconst (v := 1) hx hb dX1_solve_59 (by decide) ?_
              refine lv_goto (tgt := 64) hx hb dX1_solve_60 (by decide) ?_
              refine lv_istore (lv' := [(4, .int 1), (6, .int (nI pw)), (0, .ref (A 6)), (1, .ref (A 2)), (2, .int (nI n)), (3, .ref (ad 0)), (5, .int (nI k))]) hx hb dX1_solve_64 hl (by decide) rfl (fun ls hl => ?_)
              exact clear _ ad2 rw2 y2 _ 1 hk (by rw [(hy2o 0 (by omega)).1]; exact ha0) (fun i hi => by rw [(hy2o i (by omega)).2]; exact hyo i hi) hst2 hpz2 hPb2 (Or.inr ⟨rfl, by
                rw [hsw]
                rcases hsg with h9 | h9
                · rw [← h9.2]; omega
                · rw [c56] at h9; exact absurd h9.1 (by decide)⟩) ls H locs (lv_sub hl [2, 3, 4, 5, 0, 6] rfl) hV
        · have hnp : ∀ i, k ≤ i → i < n → y (4 + (i * 12 + k)) = 0 := by
            rcases hpiv with h9 | ⟨pw, h9, h8, h7, -⟩
            · exact h9.2
            · rw [h9] at c29; exact absurd (nI_pos' (n := pw) (by omega)) c29
          have hdz : dt_D n P = 0 := dt_nopiv hst.2.2.1 hkn (fun i h1 h2 => by rw [← hst.1 i k h1 h2 (Nat.le_refl k) hkn]; exact hnp i h1 h2)
          obtain ⟨nZ, dZ, kZ, gZ, hnZ, hwZ, haZ, hoZ⟩ := xw_at hk (i := 0) (Or.inl (by omega))
          have eZ : nZ = 65 := hnZ.1 (by omega)
          subst eZ
          have qZ := hoZ.1
          rw [ha0] at hwZ
          refine lv_aload_n hx hb dX1_solve_32 rfl (lv_at hl 4 rfl) ?_
          refine lv_lconst (v := 0) hx hb dX1_solve_33 (by decide) ?_
          refine hm_callv (va_runV (As := [.long 0]) (rest := []) ⟨hx, hb, hml, hown, hts⟩ (c_X2_setLong l E (v := 0) hwZ haZ hoZ.2.1 (by omega) (by omega) H.size) (cwV 1 hts (hm_gV kw_218 kw_133 kw_134 kw_38 kw_135) rfl rfl rfl (by decide +kernel) ⟨Nat.le_of_ble_eq_true rfl, Nat.le_of_ble_eq_true rfl⟩) (hm_preV hK hV hwZ rfl) rfl rfl hl.1 rfl (lv_room (Nat.le_of_ble_eq_true rfl)) dX1_solve_34 ⟨Nat.le_of_ble_eq_true rfl, Nat.le_of_ble_eq_true rfl⟩) hV hA (fun M1 H locs hp hV => ?_)
          rw [← ha0] at hp
          obtain ⟨y1, hy1v, hy1o, hk⟩ := xw_set2 hk (i := 0) (Or.inl (by omega)) (wn_cp65 (by omega)) hp
          rw [hQf]
          exact W.vret hx hb hr (fun t ht hW => ⟨⟨M1, rfl, ⟨ad1, rw1, y1, hk, fun i hi => by rw [hy1o i (by omega)]; exact hyo i hi, by
            rw [hy1v, show (0 : Int64).toInt = 0 from by decide]
            rcases hsg with h9 | h9
            · rw [← h9.2, hdz]
            · rw [← h9.2, hdz]; rfl⟩, (hm_end hV ht).1⟩, (hm_end hV ht).2⟩) hV.2.2.2.2 dX1_solve_37
  exact loop (n + 1) _ ad rw y0 TM 0 0 (Nat.zero_le n) hk rfl (fun i hi => hy0 i (Or.inr hi)) ⟨fun r co _ hr1 _ hc1 => by rw [hy1 r co hr1 hc1, dt_B_0, hTM], fun h9 => absurd h9 (Nat.lt_irrefl 0), by rw [dt_D]; decide, fun i j h9 => absurd h9 (Nat.not_lt_zero j)⟩ hTb (Or.inl ⟨rfl, rfl⟩) (by omega) ls H locs (lv_sub hl [2, 3, 4, 5, 1, 0] rfl) hV
