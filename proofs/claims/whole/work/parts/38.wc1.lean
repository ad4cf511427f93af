abbrev wd_X3_isFull : List Cond := .code yX3_isFull cX3_isFull 1 (some .boolean) :: hm_ws
abbrev rm_X3_isFull : Room := { frames := 0, cells := 0, slots := 0, locals := 0 }

set_option maxHeartbeats 4000000 in
set_option maxRecDepth 100000 in
/-- isFull() -/
theorem c_X3_isFull (l : Launch) (E : hm_E) {M : hm_M} {a cnt : Nat} {f0 f2 f3 f4 f5 f6 : Value} (hw : M a = some (.inr (5, [f0, .int (nI cnt), f2, f3, f4, f5, f6]))) (hc0 : cnt ≤ 160) : hm_Ci l E yX3_isFull wd_X3_isFull rm_X3_isFull [.ref a] M (fun r M1 => ((r = 1 ∧ 160 ≤ cnt) ∨ (r = 0 ∧ cnt < 160)) ∧ M1 = M) := by
  intro sz
  refine Met.ofW (cc := cX3_isFull) (maxL := 1) (ret := (some .boolean)) (by decide) rfl ?_
  intro p e s m args below meth c s₁ B hml hv
  obtain ⟨rfl, hAe, hA, hK, hV⟩ := hm_start hv
  have hx := B.exec
  have hb := B.bytes
  have hr := B.returns
  have hts := atoms_spec (ws := wd_X3_isFull) B.pre
  have hws : ∀ w ∈ hm_ws, w.before _ s = true := fun w h => hts w (List.mem_cons_of_mem _ h)
  have hown : s.vm.findClass RX3 = some m.cls := findClass_of_methodNamed B.named
  have hlocks := B.notSynchronized
  have fl15 := hws _ kw_103
  have hl := lv_entry ([.ref a]) (n := 1) (Nat.le_of_ble_eq_true rfl)
  rw [lg_entry_eq]
  generalize (lg_sl ([.ref a]) ++ List.replicate (1 - (lg_sl ([.ref a])).length) Slot.unset).toArray = ls at hl ⊢
  have hl : lv_has ls 1 [(0, .ref a)] := hl
  refine hm_gen (rm := rm_X3_isFull) rfl (fun Qf hQf => ?_)
  refine lv_aload_n hx hb dX3_isFull_0 rfl (lv_at hl 0 rfl) ?_
  refine hm_get (ci := 5) (v := .int (nI cnt)) (C := RX3) (T := TX3) (N := 7) hx hb hws kin_X3 hown hK.1 hV hw rfl 1 (by decide) fl15 (fun _ h9 => h9) rfl dX3_isFull_1 ?_
  refine lv_sipush (v := 160) hx hb dX3_isFull_4 (by decide) ?_
  refine lv_icmp_lt (tgt := 14) hx hb dX3_isFull_7 (by decide) (fun c7 => ?_) (fun c7 => ?_)
  · have hc : cnt < 160 := (nI_ltI (b := 160) (by omega) (by omega)).mp c7
    refine lv_iconst (v := 0) hx hb dX3_isFull_14 (by decide) ?_
    rw [hQf]
    exact W.zret hx hb hr (rfl) (fun t9 ht hW => ⟨⟨_, M, rfl, ⟨Or.inr ⟨rfl, hc⟩, rfl⟩, (hm_end hV ht).1⟩, (hm_end hV ht).2⟩) hV.2.2.2.2 dX3_isFull_15
  · have hc : 160 ≤ cnt := by
      rcases Nat.lt_or_ge cnt 160 with q | q
      · exact absurd (nI_lt (b := 160) q (by omega)) c7
      · exact q
    refine lv_iconst (v := 1) hx hb dX3_isFull_10 (by decide) ?_
    refine lv_goto (tgt := 15) hx hb dX3_isFull_11 (by decide) ?_
    rw [hQf]
    exact W.zret hx hb hr (rfl) (fun t9 ht hW => ⟨⟨_, M, rfl, ⟨Or.inl ⟨rfl, hc⟩, rfl⟩, (hm_end hV ht).1⟩, (hm_end hV ht).2⟩) hV.2.2.2.2 dX3_isFull_15

abbrev wd_X3_kept : List Cond := .code yX3_kept cX3_kept 1 (some .int) :: hm_ws
abbrev rm_X3_kept : Room := { frames := 0, cells := 0, slots := 0, locals := 0 }

set_option maxHeartbeats 4000000 in
set_option maxRecDepth 100000 in
/-- kept() -/
theorem c_X3_kept (l : Launch) (E : hm_E) {M : hm_M} {A ad rw : Nat → Nat} {cnt : Nat} {el : Bool} {z : Nat → Int} {t : Nat → Nat → Int64} (hk : xw E M A ad rw cnt el z t)  : hm_Ci l E yX3_kept wd_X3_kept rm_X3_kept [.ref (A 0)] M (fun r M1 => r = nI cnt ∧ M1 = M) := by
  intro sz
  refine Met.ofW (cc := cX3_kept) (maxL := 1) (ret := (some .int)) (by decide) rfl ?_
  intro p e s m args below meth c s₁ B hml hv
  obtain ⟨rfl, hAe, hA, hK, hV⟩ := hm_start hv
  have hx := B.exec
  have hb := B.bytes
  have hr := B.returns
  have hts := atoms_spec (ws := wd_X3_kept) B.pre
  have hws : ∀ w ∈ hm_ws, w.before _ s = true := fun w h => hts w (List.mem_cons_of_mem _ h)
  have hown : s.vm.findClass RX3 = some m.cls := findClass_of_methodNamed B.named
  have hlocks := B.notSynchronized
  have fl15 := hws _ kw_103
  have hl := lv_entry ([.ref (A 0)]) (n := 1) (Nat.le_of_ble_eq_true rfl)
  rw [lg_entry_eq]
  generalize (lg_sl ([.ref (A 0)]) ++ List.replicate (1 - (lg_sl ([.ref (A 0)])).length) Slot.unset).toArray = ls at hl ⊢
  have hl : lv_has ls 1 [(0, .ref (A 0))] := hl
  refine hm_gen (rm := rm_X3_kept) rfl (fun Qf hQf => ?_)
  refine lv_aload_n hx hb dX3_kept_0 rfl (lv_at hl 0 rfl) ?_
  refine hm_get (ci := 5) (v := .int (nI cnt)) (C := RX3) (T := TX3) (N := 7) hx hb hws kin_X3 hown hK.1 hV (xw_x hk) rfl 1 (by decide) fl15 (fun _ h9 => h9) rfl dX3_kept_1 ?_
  rw [hQf]
  exact W.iret hx hb hr (fun t9 ht hW => ⟨⟨_, M, rfl, ⟨rfl, rfl⟩, (hm_end hV ht).1⟩, (hm_end hV ht).2⟩) hV.2.2.2.2 dX3_kept_4

abbrev wd_X3_known : List Cond := .code yX3_known cX3_known 2 (some (.object "WideCounts$Whole")) :: hm_ws
abbrev rm_X3_known : Room := { frames := 7, cells := 1, slots := 6, locals := 110 }

set_option maxHeartbeats 4000000 in
set_option maxRecDepth 100000 in
/-- known(handle) -/
theorem c_X3_known (l : Launch) (hlt : l.stackTraces = false) (E : hm_E) {M : hm_M} {A ad rw : Nat → Nat} {cnt : Nat} {el : Bool} {z : Nat → Int} {t : Nat → Nat → Int64} {a : Int32} (hk : xw E M A ad rw cnt el z t)  : hm_TCr l E yX3_known wd_X3_known rm_X3_known [.ref (A 0), .int a] M (fun r M1 => (∃ j, j < cnt ∧ a = nI j ∧ r = ad (200 + j)) ∧ M1 = M) (fun Ex M1 => Ex = xAI ∧ ¬ kn cnt a ∧ M1 = M) := by
  intro sz
  refine vx_ofW (cc := cX3_known) (maxL := 2) (ret := (some (.object "WideCounts$Whole"))) (by decide) rfl ?_
  intro p e s m args below meth c s₁ B hml htb hv
  obtain ⟨rfl, hAe, hA, hK, hV, hY⟩ := hm_startX hv
  have hx := B.exec
  have hb := B.bytes
  have hr := B.returns
  have hts := atoms_spec (ws := wd_X3_known) B.pre
  have hws : ∀ w ∈ hm_ws, w.before _ s = true := fun w h => hts w (List.mem_cons_of_mem _ h)
  have hown : s.vm.findClass RX3 = some m.cls := findClass_of_methodNamed B.named
  have hlocks := B.notSynchronized
  have fl15 := hws _ kw_103
  have fl11 := hws _ kw_102
  have hl := lv_entry ([.ref (A 0), .int a]) (n := 2) (Nat.le_of_ble_eq_true rfl)
  rw [lg_entry_eq]
  generalize (lg_sl ([.ref (A 0), .int a]) ++ List.replicate (2 - (lg_sl ([.ref (A 0), .int a])).length) Slot.unset).toArray = ls at hl ⊢
  have hl : lv_has ls 2 [(0, .ref (A 0)), (1, .int a)] := hl
  refine hm_gen (rm := rm_X3_known) rfl (fun Qf hQf => ?_)
  have hcn := xw_cn hk
  have thr : (¬ kn cnt a) → ∀ (ls : Array Slot) (H : Heap) (locs : List Loc), lv_has ls 2 [(0, .ref (A 0)), (1, .int a)] → hm_V E.1 vwCl (hm_A M sz) s.heap (M) H locs → W p l e rm_X3_known s m [.ref (A 0), .int a].toArray below meth c H locs 0 0 Qf (F0 m 12 ls []) := by
    intro  hno ls H locs hl hV
    rw [hQf]
    exact hm_thrAI hx hb hlt hown hws hY hV (List.mem_of_getElem? (i := 0) rfl) (hl.1.trans hml.symm) dX3_known_12 dX3_known_15 dX3_known_16 dX3_known_18 dX3_known_21 htb (Nat.le_of_ble_eq_true rfl) (by show _ ≤ _; simp) (Nat.le_of_ble_eq_true rfl) (Nat.le_of_ble_eq_true rfl) hlocks (⟨rfl, hno, rfl⟩) (Nat.le_of_ble_eq_true rfl) (Nat.le_of_ble_eq_true rfl)
  refine lv_iload_n hx hb dX3_known_0 rfl (lv_at hl 1 rfl) ?_
  refine lv_if_lt (tgt := 12) hx hb dX3_known_1 (by decide) (fun c1 => ?_) (fun c1 => ?_)
  · exact thr (kn_n1 hcn c1) ls s.heap [] (lv_sub hl [0, 1] rfl) hV
  · refine lv_iload_n hx hb dX3_known_4 rfl (lv_at hl 1 rfl) ?_
    refine lv_aload_n hx hb dX3_known_5 rfl (lv_at hl 0 rfl) ?_
    refine hm_get (ci := 5) (v := .int (nI cnt)) (C := RX3) (T := TX3) (N := 7) hx hb hws kin_X3 hown hK.1 hV (xw_x hk) rfl 1 (by decide) fl15 (fun _ h9 => h9) rfl dX3_known_6 ?_
    refine lv_icmp_lt (tgt := 22) hx hb dX3_known_9 (by decide) (fun c9 => ?_) (fun c9 => ?_)
    · obtain ⟨j, hj, rfl⟩ : kn cnt a := kn_y hcn c1 (fun h9 => absurd c9 (Int32.not_lt.mpr h9))
      have hl : lv_has ls 2 [(0, .ref (A 0)), (1, .int (nI j))] := hl
      refine W.widen (k := 1) (n := 6) (Nat.le_of_ble_eq_true rfl) (Nat.le_of_ble_eq_true rfl) ?_
      refine lv_aload_n hx hb dX3_known_22 rfl (lv_at hl 0 rfl) ?_
      refine hm_get (ci := 5) (v := .ref (A 1)) (C := RX3) (T := TX3) (N := 7) hx hb hws kin_X3 hown hK.1 hV (xw_x hk) rfl 0 (by decide) fl11 (fun _ h9 => h9) rfl dX3_known_23 ?_
      refine lv_iload_n hx hb dX3_known_26 rfl (lv_at hl 1 rfl) ?_
      refine hm_aldqN hx hb hK.1 hV 3 (xw_na hk) rfl (k := j) (by omega) (by omega) dX3_known_27 ?_
      refine hm_reft (if_pos hj) ?_
      rw [hQf]
      exact vx_ret (W.aret hx hb hr (Or.inl ⟨_, rfl⟩) (Or.inr ⟨_, rfl⟩) (fun t9 ht hW => ⟨⟨M, _, rfl, trivial, ⟨⟨j, hj, rfl, rfl⟩, rfl⟩, (hm_end hV ht).1⟩, (hm_end hV ht).2⟩) hV.2.2.2.2 dX3_known_28)
    · exact thr (kn_n2 hcn (Int32.not_lt.mp c9)) ls s.heap [] (lv_sub hl [0, 1] rfl) hV

abbrev wd_X3_keep : List Cond := .code yX3_keep cX3_keep 3 (some .int) :: hm_ws
abbrev rm_X3_keep : Room := { frames := 2, cells := 2, slots := 67, locals := 60 }

set_option maxHeartbeats 4000000 in
set_option maxRecDepth 100000 in
/-- keep(result) -/
theorem c_X3_keep (l : Launch) (E : hm_E) {M : hm_M} {A ad rw : Nat → Nat} {cnt : Nat} {el : Bool} {z : Nat → Int} {t : Nat → Nat → Int64} (hk : xw E M A ad rw cnt el z t)  : hm_Ci l E yX3_keep wd_X3_keep rm_X3_keep [.ref (A 0), .ref (ad 0)] M (fun r M1 => ∃ cnt1 nums1, kp cnt (fun j => z (200 + j)) (some (z 0)) r cnt1 nums1 ∧ xp E M1 (A 0) cnt1 nums1 t) := by
  intro sz
  refine Met.ofW (cc := cX3_keep) (maxL := 3) (ret := (some .int)) (by decide) rfl ?_
  intro p e s m args below meth c s₁ B hml hv
  obtain ⟨rfl, hAe, hA, hK, hV⟩ := hm_start hv
  have hx := B.exec
  have hb := B.bytes
  have hr := B.returns
  have hts := atoms_spec (ws := wd_X3_keep) B.pre
  have hws : ∀ w ∈ hm_ws, w.before _ s = true := fun w h => hts w (List.mem_cons_of_mem _ h)
  have hown : s.vm.findClass RX3 = some m.cls := findClass_of_methodNamed B.named
  have hlocks := B.notSynchronized
  have fl11 := hws _ kw_102
  have fl15 := hws _ kw_103
  have hl := lv_entry ([.ref (A 0), .ref (ad 0)]) (n := 3) (Nat.le_of_ble_eq_true rfl)
  rw [lg_entry_eq]
  generalize (lg_sl ([.ref (A 0), .ref (ad 0)]) ++ List.replicate (3 - (lg_sl ([.ref (A 0), .ref (ad 0)])).length) Slot.unset).toArray = ls at hl ⊢
  have hl : lv_has ls 3 [(0, .ref (A 0)), (1, .ref (ad 0))] := hl
  refine hm_gen (rm := rm_X3_keep) rfl (fun Qf hQf => ?_)
  have hcn := xw_cn hk
  obtain ⟨nZ, dZ, kZ, gZ, hnZ, hwZ, haZ, hoZ⟩ := xw_at hk (i := 0) (Or.inl (by omega))
  have eZ : nZ = 65 := hnZ.1 (by omega)
  subst eZ
  have qZ := hoZ.1
  have no : (160 ≤ cnt ∨ bigN ≤ (z 0).natAbs) → ∀ (ls : Array Slot) (H : Heap) (locs : List Loc), lv_has ls 3 [(0, .ref (A 0)), (1, .ref (ad 0))] → hm_V E.1 vwCl (hm_A M sz) s.heap (M) H locs → W p l e rm_X3_keep s m [.ref (A 0), .ref (ad 0)].toArray below meth c H locs 0 0 Qf (F0 m 14 ls []) := by
    intro  hno ls H locs hl hV
    refine lv_iconst (v := (-1)) hx hb dX3_keep_14 (by decide) ?_
    refine W.widen (k := 2) (n := 67) (Nat.le_of_ble_eq_true rfl) (Nat.le_of_ble_eq_true rfl) ?_
    rw [hQf]
    exact W.iret hx hb hr (fun t9 ht hW => ⟨⟨_, M, rfl, ⟨cnt, (fun j => z (200 + j)), Or.inr ⟨by
      rcases hno with h9 | h9
      · exact Or.inl h9
      · exact Or.inr (Or.inr ⟨z 0, rfl, h9⟩), rfl, rfl, fun _ _ => rfl⟩, xp_of hk (fun _ _ => rfl)⟩, (hm_end hV ht).1⟩, (hm_end hV ht).2⟩) hV.2.2.2.2 dX3_keep_15
  refine lv_aload_n hx hb dX3_keep_0 rfl (lv_at hl 0 rfl) ?_
  refine hm_calli (va_runV (As := []) (rest := []) ⟨hx, hb, hml, hown, hts⟩ (c_X3_isFull l E (xw_x hk) hcn s.heap.size) (cwV 0 hts (hm_gV kw_128 kw_130 kw_0 kw_37 kw_131) rfl rfl rfl (by decide +kernel) ⟨Nat.le_of_ble_eq_true rfl, Nat.le_of_ble_eq_true rfl⟩) (hm_preV hK hV (xw_x hk) rfl) rfl rfl hl.1 rfl (lv_room (Nat.le_of_ble_eq_true rfl)) dX3_keep_1 ⟨Nat.le_of_ble_eq_true rfl, Nat.le_of_ble_eq_true rfl⟩) hV hA (fun r1 M1 H locs hp hV => ?_)
  obtain ⟨hr1, hM1⟩ := hp
  rw [hM1] at hV
  refine lv_if_ne (tgt := 14) hx hb dX3_keep_4 (by decide) (fun c4 => ?_) (fun c4 => ?_)
  · have hc1 : 160 ≤ cnt := by
      rcases hr1 with h9 | h9
      · exact h9.2
      · exact absurd h9.1 c4
    exact no (Or.inl hc1) ls H locs (lv_sub hl [0, 1] rfl) hV
  · have hc1 : cnt < 160 := by
      rcases hr1 with h9 | h9
      · rw [h9.1] at c4; exact absurd c4 (by decide)
      · exact h9.2
    refine lv_aload_n hx hb dX3_keep_7 rfl (lv_at hl 1 rfl) ?_
    refine hm_calli (va_runV (As := []) (rest := []) ⟨hx, hb, hml, hown, hts⟩ (c_X2_fits l E hwZ (by omega) H.size) (cwV 0 hts (hm_gV kw_148 kw_149 kw_150 kw_38 kw_151) rfl rfl rfl (by decide +kernel) ⟨Nat.le_of_ble_eq_true rfl, Nat.le_of_ble_eq_true rfl⟩) (hm_preV hK hV hwZ rfl) rfl rfl hl.1 rfl (lv_room (Nat.le_of_ble_eq_true rfl)) dX3_keep_8 ⟨Nat.le_of_ble_eq_true rfl, Nat.le_of_ble_eq_true rfl⟩) hV hA (fun r8 M1 H locs hp hV => ?_)
    obtain ⟨hr8, hM1⟩ := hp
    rw [hM1] at hV
    refine lv_if_ne (tgt := 16) hx hb dX3_keep_11 (by decide) (fun c11 => ?_) (fun c11 => ?_)
    · have hk64 : kZ ≤ 64 := by
        rcases Nat.lt_or_ge 64 kZ with q | q
        · rw [if_neg (by omega)] at hr8; exact absurd hr8 c11
        · exact q
      refine hm_new (ci := 4) (fs := [.null, .int 0, .int 0]) (C := RX2) (T := TX2) (N := 3) hx hb hws kin_X2 tyX2 tyX2_ok hown (hws _ kw_59) (hws _ kw_63) (hws _ kw_38) hK.1 hV hA rfl (fun j hj => by rcases (show j = 0 ∨ j = 1 ∨ j = 2 by omega) with rfl | rfl | rfl <;> rfl) (Nat.le_of_ble_eq_true rfl) (Nat.le_of_ble_eq_true rfl) dX3_keep_16 (fun q16 H hf_q16 hV => ?_)
      have h_A_0_q16 : hm_ap (A 0) q16 := hm_nn (xw_x hk) hf_q16
      have h_A_1_q16 : hm_ap (A 1) q16 := hm_nn (xw_na hk) hf_q16
      have h_A_3_q16 : hm_ap (A 3) q16 := hm_nn (xw_d hk) hf_q16
      have h_ad_0_q16 : hm_ap (ad 0) q16 := hm_nn hwZ hf_q16
      have hV : hm_V E.1 vwCl (hm_A M sz) s.heap (hm_up M q16 (.inr (4, [.null, .int 0, .int 0]))) H locs := hV
      refine W.widen (k := 1) (n := 3) (Nat.le_of_ble_eq_true rfl) (Nat.le_of_ble_eq_true rfl) ?_
      refine lv_dup hx hb dX3_keep_19 rfl ?_
      refine lv_aload_n hx hb dX3_keep_20 rfl (lv_at hl 1 rfl) ?_
      refine hm_getN (ci := 4) (v := .int (nI kZ)) (C := RX2) (T := TX2) (N := 3) hx hb hws kin_X2 hown hK.1 hV ((hm_up_ne _ _ h_ad_0_q16).trans hwZ) rfl 1 (by decide) (va_Nw.use rfl (hK.2.1 _ (List.mem_of_getElem? (i := 3) rfl))) (fun _ h9 => h9) rfl dX3_keep_21 ?_
      refine hm_callv (va_runI (As := [.int (nI kZ)]) (rest := [.ref q16]) ⟨hx, hb, hml, hown, hts⟩ (c_X2_init l E (r := kZ) (hm_up_self _ _ _) (by omega) H.size) (cwI 1 hts (hm_gI kw_66) rfl rfl rfl (hws _ kw_38) (hws _ kw_64) (hws _ kw_65) rfl (by decide +kernel) ⟨Nat.le_of_ble_eq_true rfl, Nat.le_of_ble_eq_true rfl⟩) (hm_preS hK hV) rfl rfl hl.1 rfl (lv_room (Nat.le_of_ble_eq_true rfl)) dX3_keep_24 ⟨Nat.le_of_ble_eq_true rfl, by show 3 + kZ ≤ 67; omega⟩) hV hA (fun M1 H locs hp hV => ?_)
      obtain ⟨la, hla, hM1⟩ := hp
      subst hM1
      have hla_A_0 : hm_ap (A 0) la := hm_nn ((hm_up_ne _ _ h_A_0_q16).trans (xw_x hk)) hla
      have hla_A_1 : hm_ap (A 1) la := hm_nn ((hm_up_ne _ _ h_A_1_q16).trans (xw_na hk)) hla
      have hla_ad_0 : hm_ap (ad 0) la := hm_nn ((hm_up_ne _ _ h_ad_0_q16).trans hwZ) hla
      have hla_q16 : hm_ap q16 la := hm_nn (hm_up_self _ _ _) hla
      have h_rw_q : hm_ap (rw 0) q16 := hm_nn haZ hf_q16
      have h_rw_la : hm_ap (rw 0) la := hm_nn ((hm_up_ne _ _ h_rw_q).trans haZ) hla
      rw [hm_u1 (Ne.symm hla_q16)] at hV
      have hV : hm_V E.1 vwCl (hm_A M sz) s.heap (hm_up (hm_up M q16 (.inr (4, [.ref la, .int (nI 0), .int 0]))) la (hm_I E kZ (fun j => nI ((fun _ => 0) j)))) H locs := hV
      refine W.widen (k := 2) (n := 67) (Nat.le_of_ble_eq_true rfl) (by show 3 + kZ ≤ 67; omega) ?_
      refine lv_astore_n (lv' := [(2, .ref q16), (0, .ref (A 0)), (1, .ref (ad 0))]) hx hb dX3_keep_27 rfl hl (by decide) rfl (fun ls hl => ?_)
      refine lv_aload_n hx hb dX3_keep_28 rfl (lv_at hl 0 rfl) ?_
      refine lv_aload_n hx hb dX3_keep_29 rfl (lv_at hl 2 rfl) ?_
      refine hm_callv (va_runV (As := [.ref (ad 0)]) (rest := []) ⟨hx, hb, hml, hown, hts⟩ (c_X2_copyFrom l E ((hm_up_ne _ _ hla_q16).trans (hm_up_self _ _ _)) (hm_up_self _ _ _) (fun _ _ => (show 0 < 33554432 by decide)) ((hm_up_ne _ _ hla_ad_0).trans ((hm_up_ne _ _ h_ad_0_q16).trans hwZ)) ((hm_up_ne _ _ h_rw_la).trans ((hm_up_ne _ _ h_rw_q).trans haZ)) hoZ (Nat.le_refl _) h_rw_la (by omega) (by omega) H.size) (cwV 1 hts (hm_gV kw_152 kw_153 kw_154 kw_38 kw_155) rfl rfl rfl (by decide +kernel) ⟨Nat.le_of_ble_eq_true rfl, Nat.le_of_ble_eq_true rfl⟩) (hm_preV hK hV ((hm_up_ne _ _ hla_q16).trans (hm_up_self _ _ _)) rfl) rfl rfl hl.1 rfl (lv_room (Nat.le_of_ble_eq_true rfl)) dX3_keep_30 ⟨Nat.le_of_ble_eq_true rfl, Nat.le_of_ble_eq_true rfl⟩) hV hA (fun M1 H locs hp hV => ?_)
      obtain ⟨d1, k1, g1, hM1, hok⟩ := hp
      rw [hm_nrm (Ne.symm hla_q16)] at hM1
      subst hM1
      have hV : hm_V E.1 vwCl (hm_A M sz) s.heap (hm_up (hm_up M la (hm_I E kZ (fun j => nI (d1 j)))) q16 (.inr (4, [.ref la, .int (nI k1), .int g1]))) H locs := hV
      refine lv_aload_n hx hb dX3_keep_33 rfl (lv_at hl 1 rfl) ?_
      refine hm_get (ci := 5) (v := .ref (A 1)) (C := RX3) (T := TX3) (N := 7) hx hb hws kin_X3 hown hK.1 hV ((hm_up_ne _ _ h_A_0_q16).trans ((hm_up_ne _ _ hla_A_0).trans (xw_x hk))) rfl 0 (by decide) fl11 (fun _ h9 => h9) rfl dX3_keep_34 ?_
      refine lv_aload_n hx hb dX3_keep_37 rfl (lv_at hl 1 rfl) ?_
      refine hm_get (ci := 5) (v := .int (nI cnt)) (C := RX3) (T := TX3) (N := 7) hx hb hws kin_X3 hown hK.1 hV ((hm_up_ne _ _ h_A_0_q16).trans ((hm_up_ne _ _ hla_A_0).trans (xw_x hk))) rfl 1 (by decide) fl15 (fun _ h9 => h9) rfl dX3_keep_38 ?_
      refine lv_aload_n hx hb dX3_keep_41 rfl (lv_at hl 0 rfl) ?_
      refine hm_astqN hx hb hK.1 hV 3 4 ((hm_up_ne _ _ h_A_1_q16).trans ((hm_up_ne _ _ hla_A_1).trans (xw_na hk))) rfl (hm_up_self _ _ _) rfl (k := cnt) (by omega) (by omega) dX3_keep_42 (fun H locs hV => ?_)
      have hV : hm_V E.1 vwCl (hm_A M sz) s.heap (hm_up (hm_up (hm_up M la (hm_I E kZ (fun j => nI (d1 j)))) q16 (.inr (4, [.ref la, .int (nI k1), .int g1]))) (A 1) (hm_Q E 160 (va_up (fun j => if j < cnt then some (ad (200 + j)) else none) cnt (some q16)))) H locs := hV
      refine lv_aload_n hx hb dX3_keep_43 rfl (lv_at hl 1 rfl) ?_
      refine lv_dup hx hb dX3_keep_44 rfl ?_
      refine hm_get (ci := 5) (v := .int (nI cnt)) (C := RX3) (T := TX3) (N := 7) hx hb hws kin_X3 hown hK.1 hV ((hm_up_ne _ _ (Ne.symm (Ne.symm (hm_oa (xw_x hk) (xw_na hk))))).trans ((hm_up_ne _ _ h_A_0_q16).trans ((hm_up_ne _ _ hla_A_0).trans (xw_x hk)))) rfl 1 (by decide) fl15 (fun _ h9 => h9) rfl dX3_keep_45 ?_
      refine lv_iconst (v := 1) hx hb dX3_keep_48 (by decide) ?_
      refine lv_iadd hx hb dX3_keep_49 ?_
      refine hm_topi (show ((nI cnt) + 1) = nI (cnt + 1) from nI_1 cnt) ?_
      refine hm_put (ci := 5) (v := .int (nI (cnt + 1))) (ty := .int) (C := RX3) (T := TX3) (N := 7) hx hb hws kin_X3 tyX3 tyX3_ok nmX3 hown hK.1 hV ((hm_up_ne _ _ (Ne.symm (Ne.symm (hm_oa (xw_x hk) (xw_na hk))))).trans ((hm_up_ne _ _ h_A_0_q16).trans ((hm_up_ne _ _ hla_A_0).trans (xw_x hk)))) rfl 1 (by decide) fl15 (fun _ h9 => h9) rfl (by decide +kernel) rfl rfl (Nat.le_of_ble_eq_true rfl) dX3_keep_50 (fun H locs hV => ?_)
      have hV : hm_V E.1 vwCl (hm_A M sz) s.heap (hm_up (hm_up (hm_up (hm_up M la (hm_I E kZ (fun j => nI (d1 j)))) q16 (.inr (4, [.ref la, .int (nI k1), .int g1]))) (A 1) (hm_Q E 160 (va_up (fun j => if j < cnt then some (ad (200 + j)) else none) cnt (some q16)))) (A 0) (.inr (5, [.ref (A 1), .int (nI (cnt + 1)), .ref (A 2), .ref (ad 0), .ref (ad 1), .ref (A 3), (if el = true then .ref (A 6) else .null)]))) H locs := hV
      refine lv_aload_n hx hb dX3_keep_53 rfl (lv_at hl 1 rfl) ?_
      refine hm_get (ci := 5) (v := .int (nI (cnt + 1))) (C := RX3) (T := TX3) (N := 7) hx hb hws kin_X3 hown hK.1 hV (hm_up_self _ _ _) rfl 1 (by decide) fl15 (fun _ h9 => h9) rfl dX3_keep_54 ?_
      refine lv_iconst (v := 1) hx hb dX3_keep_57 (by decide) ?_
      refine lv_isub hx hb dX3_keep_58 ?_
      refine hm_topi (show ((nI (cnt + 1)) - 1) = nI cnt from nI_pred cnt) ?_
      have hMla : M la = none := by
        have h9 := hla
        rw [hm_up_ne _ _ (Ne.symm hla_q16)] at h9
        exact h9
      rw [hQf]
      exact W.iret hx hb hr (fun t9 ht hW => ⟨⟨_, (hm_up (hm_up (hm_up (hm_up M la (hm_I E kZ (fun j => nI (d1 j)))) q16 (.inr (4, [.ref la, .int (nI k1), .int g1]))) (A 1) (hm_Q E 160 (va_up (fun j => if j < cnt then some (ad (200 + j)) else none) cnt (some q16)))) (A 0) (.inr (5, [.ref (A 1), .int (nI (cnt + 1)), .ref (A 2), .ref (ad 0), .ref (ad 1), .ref (A 3), (if el = true then .ref (A 6) else .null)]))), rfl, ⟨cnt + 1, fun j => (fun i => if i = 200 + cnt then z 0 else z i) (200 + j), Or.inl ⟨z 0, rfl, hc1, (wn_bd hoZ).mp hk64, rfl, rfl, if_pos rfl, fun j hj => if_neg (by omega)⟩, xp_of (xw_keep hk hc1 hf_q16 hMla (Ne.symm hla_q16) (by omega) hok) (fun _ _ => rfl)⟩, (hm_end hV ht).1⟩, (hm_end hV ht).2⟩) hV.2.2.2.2 dX3_keep_59
    · have hk64 : ¬ kZ ≤ 64 := fun h9 => by rw [if_pos h9] at hr8; rw [hr8] at c11; exact absurd c11 (by decide)
      exact no (Or.inr (by
        rcases Nat.lt_or_ge (z 0).natAbs bigN with q | q
        · exact absurd ((wn_bd hoZ).mpr q) hk64
        · exact q)) ls H locs (lv_sub hl [0, 1] rfl) hV

abbrev wd_X3_value : List Cond := .code yX3_value cX3_value 3 (some .int) :: hm_ws
abbrev rm_X3_value : Room := { frames := 3, cells := 2, slots := 67, locals := 82 }

set_option maxHeartbeats 4000000 in
set_option maxRecDepth 100000 in
/-- value(v) -/
theorem c_X3_value (l : Launch) (E : hm_E) {M : hm_M} {A ad rw : Nat → Nat} {cnt : Nat} {el : Bool} {z : Nat → Int} {t : Nat → Nat → Int64} {v : Int64} (hk : xw E M A ad rw cnt el z t)  : hm_Ci l E yX3_value wd_X3_value rm_X3_value [.ref (A 0), .long v] M (fun r M1 => ∃ cnt1 nums1, kp cnt (fun j => z (200 + j)) (some v.toInt) r cnt1 nums1 ∧ xp E M1 (A 0) cnt1 nums1 t) := by
  intro sz
  refine Met.ofW (cc := cX3_value) (maxL := 3) (ret := (some .int)) (by decide) rfl ?_
  intro p e s m args below meth c s₁ B hml hv
  obtain ⟨rfl, hAe, hA, hK, hV⟩ := hm_start hv
  have hx := B.exec
  have hb := B.bytes
  have hr := B.returns
  have hts := atoms_spec (ws := wd_X3_value) B.pre
  have hws : ∀ w ∈ hm_ws, w.before _ s = true := fun w h => hts w (List.mem_cons_of_mem _ h)
  have hown : s.vm.findClass RX3 = some m.cls := findClass_of_methodNamed B.named
  have hlocks := B.notSynchronized
  have fl27 := hws _ kw_105
  have hl := lv_entry ([.ref (A 0), .long v]) (n := 3) (Nat.le_of_ble_eq_true rfl)
  rw [lg_entry_eq]
  generalize (lg_sl ([.ref (A 0), .long v]) ++ List.replicate (3 - (lg_sl ([.ref (A 0), .long v])).length) Slot.unset).toArray = ls at hl ⊢
  have hl : lv_has ls 3 [(0, .ref (A 0)), (1, .long v)] := hl
  refine hm_gen (rm := rm_X3_value) rfl (fun Qf hQf => ?_)
  refine lv_aload_n hx hb dX3_value_0 rfl (lv_at hl 0 rfl) ?_
  refine hm_calli (va_runV (As := []) (rest := []) ⟨hx, hb, hml, hown, hts⟩ (c_X3_isFull l E (xw_x hk) (xw_cn hk) s.heap.size) (cwV 0 hts (hm_gV kw_128 kw_130 kw_0 kw_37 kw_131) rfl rfl rfl (by decide +kernel) ⟨Nat.le_of_ble_eq_true rfl, Nat.le_of_ble_eq_true rfl⟩) (hm_preV hK hV (xw_x hk) rfl) rfl rfl hl.1 rfl (lv_room (Nat.le_of_ble_eq_true rfl)) dX3_value_1 ⟨Nat.le_of_ble_eq_true rfl, Nat.le_of_ble_eq_true rfl⟩) hV hA (fun r1 M1 H locs hp hV => ?_)
  obtain ⟨hrf, hM1⟩ := hp
  rw [hM1] at hV
  refine lv_if_eq (tgt := 9) hx hb dX3_value_4 (by decide) (fun c4 => ?_) (fun c4 => ?_)
  · have hc1 : cnt < 160 := by
      rcases hrf with h9 | h9
      · rw [h9.1] at c4; exact absurd c4 (by decide)
      · exact h9.2
    obtain ⟨nZ, dZ, kZ, gZ, hnZ, hwZ, haZ, hoZ⟩ := xw_at hk (i := 0) (Or.inl (by omega))
    have eZ : nZ = 65 := hnZ.1 (by omega)
    subst eZ
    have qZ := hoZ.1
    refine lv_aload_n hx hb dX3_value_9 rfl (lv_at hl 0 rfl) ?_
    refine hm_get (ci := 5) (v := .ref (ad 0)) (C := RX3) (T := TX3) (N := 7) hx hb hws kin_X3 hown hK.1 hV (xw_x hk) rfl 3 (by decide) fl27 (fun _ h9 => h9) rfl dX3_value_10 ?_
    refine lv_lload_n hx hb dX3_value_13 rfl (lv_at hl 1 rfl) ?_
    refine hm_callv (va_runV (As := [.long v]) (rest := []) ⟨hx, hb, hml, hown, hts⟩ (c_X2_setLong l E (v := v) hwZ haZ hoZ.2.1 (by omega) (by omega) H.size) (cwV 1 hts (hm_gV kw_132 kw_133 kw_134 kw_38 kw_135) rfl rfl rfl (by decide +kernel) ⟨Nat.le_of_ble_eq_true rfl, Nat.le_of_ble_eq_true rfl⟩) (hm_preV hK hV hwZ rfl) rfl rfl hl.1 rfl (lv_room (Nat.le_of_ble_eq_true rfl)) dX3_value_14 ⟨Nat.le_of_ble_eq_true rfl, Nat.le_of_ble_eq_true rfl⟩) hV hA (fun M1 H locs hp hV => ?_)
    obtain ⟨z1, hz1, hz1o, hk⟩ := xw_set2 hk (i := 0) (Or.inl (by omega)) (wn_cp65 (by omega)) hp
    refine lv_aload_n hx hb dX3_value_17 rfl (lv_at hl 0 rfl) ?_
    refine lv_aload_n hx hb dX3_value_18 rfl (lv_at hl 0 rfl) ?_
    refine hm_get (ci := 5) (v := .ref (ad 0)) (C := RX3) (T := TX3) (N := 7) hx hb hws kin_X3 hown hK.1 hV (xw_x hk) rfl 3 (by decide) fl27 (fun _ h9 => h9) rfl dX3_value_19 ?_
    refine hm_calli (va_runV (As := [.ref (ad 0)]) (rest := []) ⟨hx, hb, hml, hown, hts⟩ (c_X3_keep l E hk H.size) (cwV 1 hts (hm_gV kw_144 kw_146 kw_2 kw_37 kw_147) rfl rfl rfl (by decide +kernel) ⟨Nat.le_of_ble_eq_true rfl, Nat.le_of_ble_eq_true rfl⟩) (hm_preV hK hV (xw_x hk) rfl) rfl rfl hl.1 rfl (lv_room (Nat.le_of_ble_eq_true rfl)) dX3_value_22 ⟨Nat.le_of_ble_eq_true rfl, Nat.le_of_ble_eq_true rfl⟩) hV hA (fun r22 M1 H locs hp hV => ?_)
    obtain ⟨cnt1, nums1, hkp, hxp⟩ := hp
    rw [hQf]
    exact W.iret hx hb hr (fun t9 ht hW => ⟨⟨_, M1, rfl, ⟨cnt1, nums1, kp_c hkp (fun j _ => hz1o _ (by omega)) hz1, hxp⟩, (hm_end hV ht).1⟩, (hm_end hV ht).2⟩) hV.2.2.2.2 dX3_value_25
  · have hc1 : 160 ≤ cnt := by
      rcases hrf with h9 | h9
      · exact h9.2
      · exact absurd h9.1 c4
    refine lv_iconst (v := (-1)) hx hb dX3_value_7 (by decide) ?_
    refine W.widen (k := 2) (n := 67) (Nat.le_of_ble_eq_true rfl) (Nat.le_of_ble_eq_true rfl) ?_
    rw [hQf]
    exact W.iret hx hb hr (fun t9 ht hW => ⟨⟨_, M, rfl, ⟨cnt, (fun j => z (200 + j)), Or.inr ⟨Or.inl hc1, rfl, rfl, fun _ _ => rfl⟩, xp_of hk (fun _ _ => rfl)⟩, (hm_end hV ht).1⟩, (hm_end hV ht).2⟩) hV.2.2.2.2 dX3_value_8

abbrev wd_X3_add : List Cond := .code yX3_add cX3_add 5 (some .int) :: hm_ws
abbrev rm_X3_add : Room := { frames := 8, cells := 4, slots := 79, locals := 131 }

set_option maxHeartbeats 4000000 in
set_option maxRecDepth 100000 in
/-- add(a, b) -/
theorem c_X3_add (l : Launch) (hlt : l.stackTraces = false) (E : hm_E) {M : hm_M} {A ad rw : Nat → Nat} {cnt : Nat} {el : Bool} {z : Nat → Int} {t : Nat → Nat → Int64} {a b : Int32} (hk : xw E M A ad rw cnt el z t)  : hm_TCi l E yX3_add wd_X3_add rm_X3_add [.ref (A 0), .int a, .int b] M (fun r M1 => ∃ i j, i < cnt ∧ j < cnt ∧ a = nI i ∧ b = nI j ∧ ∃ cnt1 nums1, kp cnt (fun j => z (200 + j)) (some (z (200 + i) + z (200 + j))) r cnt1 nums1 ∧ xp E M1 (A 0) cnt1 nums1 t) (fun Ex M1 => Ex = xAI ∧ ¬ (kn cnt a ∧ kn cnt b) ∧ M1 = M) := by
  intro sz
  refine vx_ofW (cc := cX3_add) (maxL := 5) (ret := (some .int)) (by decide) rfl ?_
  intro p e s m args below meth c s₁ B hml htb hv
  obtain ⟨rfl, hAe, hA, hK, hV, hY⟩ := hm_startX hv
  have hx := B.exec
  have hb := B.bytes
  have hr := B.returns
  have hts := atoms_spec (ws := wd_X3_add) B.pre
  have hws : ∀ w ∈ hm_ws, w.before _ s = true := fun w h => hts w (List.mem_cons_of_mem _ h)
  have hown : s.vm.findClass RX3 = some m.cls := findClass_of_methodNamed B.named
  have hlocks := B.notSynchronized
  have fl27 := hws _ kw_105
  have hl := lv_entry ([.ref (A 0), .int a, .int b]) (n := 5) (Nat.le_of_ble_eq_true rfl)
  rw [lg_entry_eq]
  generalize (lg_sl ([.ref (A 0), .int a, .int b]) ++ List.replicate (5 - (lg_sl ([.ref (A 0), .int a, .int b])).length) Slot.unset).toArray = ls at hl ⊢
  have hl : lv_has ls 5 [(0, .ref (A 0)), (1, .int a), (2, .int b)] := hl
  refine hm_gen (rm := rm_X3_add) rfl (fun Qf hQf => ?_)
  refine lv_aload_n hx hb dX3_add_0 rfl (lv_at hl 0 rfl) ?_
  refine lv_iload_n hx hb dX3_add_1 rfl (lv_at hl 1 rfl) ?_
  refine hm_tcallr (vx_runV (As := [.int a]) (rest := []) ⟨hx, hb, hml, hown, hts⟩ (c_X3_known l hlt E hk s.heap.size) (cwV 1 hts (hm_gV kw_387 kw_389 kw_16 kw_37 kw_390) rfl rfl rfl (by decide +kernel) ⟨Nat.le_of_ble_eq_true rfl, Nat.le_of_ble_eq_true rfl⟩) (hm_preVX hK hV hA hY (xw_x hk) rfl) rfl rfl hl.1 rfl (lv_room (Nat.le_of_ble_eq_true rfl)) dX3_add_2 ⟨Nat.le_of_ble_eq_true rfl, Nat.le_of_ble_eq_true rfl⟩) hV hA (fun Ex ce q9 M1 H locs hp hV h91 h92 h93 => ?_) (fun r2 M1 H locs hp hV => ?_)
  · rw [hQf]; exact hm_tout htb hlocks hV (⟨hp.1, fun h9 => hp.2.1 h9.1, hp.2.2⟩) h91 h92 h93 (Nat.le_of_ble_eq_true rfl) (Nat.le_of_ble_eq_true rfl)
  obtain ⟨⟨ia, hia, rfl, hr2⟩, hM1⟩ := hp
  rw [hM1] at hV
  subst hr2
  have hl : lv_has ls 5 [(0, .ref (A 0)), (1, .int (nI ia)), (2, .int b)] := hl
  refine lv_astore_n (lv' := [(3, .ref (ad (200 + ia))), (0, .ref (A 0)), (1, .int (nI ia)), (2, .int b)]) hx hb dX3_add_5 rfl hl (by decide) rfl (fun ls hl => ?_)
  refine lv_aload_n hx hb dX3_add_6 rfl (lv_at hl 1 rfl) ?_
  refine lv_iload_n hx hb dX3_add_7 rfl (lv_at hl 3 rfl) ?_
  refine hm_tcallr (vx_runV (As := [.int b]) (rest := []) ⟨hx, hb, hml, hown, hts⟩ (c_X3_known l hlt E hk H.size) (cwV 1 hts (hm_gV kw_387 kw_389 kw_16 kw_37 kw_390) rfl rfl rfl (by decide +kernel) ⟨Nat.le_of_ble_eq_true rfl, Nat.le_of_ble_eq_true rfl⟩) (hm_preVX hK hV hA hY (xw_x hk) rfl) rfl rfl hl.1 rfl (lv_room (Nat.le_of_ble_eq_true rfl)) dX3_add_8 ⟨Nat.le_of_ble_eq_true rfl, Nat.le_of_ble_eq_true rfl⟩) hV hA (fun Ex ce q9 M1 H locs hp hV h91 h92 h93 => ?_) (fun r8 M1 H locs hp hV => ?_)
  · rw [hQf]; exact hm_tout htb hlocks hV (⟨hp.1, fun h9 => hp.2.1 h9.2, hp.2.2⟩) h91 h92 h93 (Nat.le_of_ble_eq_true rfl) (Nat.le_of_ble_eq_true rfl)
  obtain ⟨⟨ib, hib, rfl, hr8⟩, hM1⟩ := hp
  rw [hM1] at hV
  subst hr8
  have hl : lv_has ls 5 [(3, .ref (ad (200 + ia))), (0, .ref (A 0)), (1, .int (nI ia)), (2, .int (nI ib))] := hl
  have hcn := xw_cn hk
  obtain ⟨nA, dA, kA, gA, hnA, hwA, haA, hoA⟩ := xw_at hk (i := 200 + ia) (Or.inr (Or.inr ⟨by omega, by omega⟩))
  have eA : nA ≤ 64 := hnA.2.2 (by omega)
  have qA := hoA.1
  obtain ⟨nB, dB, kB, gB, hnB, hwB, haB, hoB⟩ := xw_at hk (i := 200 + ib) (Or.inr (Or.inr ⟨by omega, by omega⟩))
  have eB : nB ≤ 64 := hnB.2.2 (by omega)
  have qB := hoB.1
  refine lv_astore (lv' := [(4, .ref (ad (200 + ib))), (3, .ref (ad (200 + ia))), (0, .ref (A 0)), (1, .int (nI ia)), (2, .int (nI ib))]) hx hb dX3_add_11 hl (by decide) rfl (fun ls hl => ?_)
  refine lv_aload_n hx hb dX3_add_13 rfl (lv_at hl 2 rfl) ?_
  refine hm_calli (va_runV (As := []) (rest := []) ⟨hx, hb, hml, hown, hts⟩ (c_X3_isFull l E (xw_x hk) (xw_cn hk) H.size) (cwV 0 hts (hm_gV kw_128 kw_130 kw_0 kw_37 kw_131) rfl rfl rfl (by decide +kernel) ⟨Nat.le_of_ble_eq_true rfl, Nat.le_of_ble_eq_true rfl⟩) (hm_preV hK hV (xw_x hk) rfl) rfl rfl hl.1 rfl (lv_room (Nat.le_of_ble_eq_true rfl)) dX3_add_14 ⟨Nat.le_of_ble_eq_true rfl, Nat.le_of_ble_eq_true rfl⟩) hV hA (fun r14 M1 H locs hp hV => ?_)
  obtain ⟨hrf, hM1⟩ := hp
  rw [hM1] at hV
  refine lv_if_eq (tgt := 22) hx hb dX3_add_17 (by decide) (fun c17 => ?_) (fun c17 => ?_)
  · have hc1 : cnt < 160 := by
      rcases hrf with h9 | h9
      · rw [h9.1] at c17; exact absurd c17 (by decide)
      · exact h9.2
    obtain ⟨nZ, dZ, kZ, gZ, hnZ, hwZ, haZ, hoZ⟩ := xw_at hk (i := 0) (Or.inl (by omega))
    have eZ : nZ = 65 := hnZ.1 (by omega)
    subst eZ
    have qZ := hoZ.1
    have hgB : gB = 0 ∨ gB = 1 := by
      have h9 := hoB.2.2.2.2
      by_cases h8 : z (200 + ib) < 0
      · rw [if_pos h8] at h9; exact Or.inr h9
      · rw [if_neg h8] at h9; exact Or.inl h9
    refine lv_aload_n hx hb dX3_add_22 rfl (lv_at hl 2 rfl) ?_
    refine hm_get (ci := 5) (v := .ref (ad 0)) (C := RX3) (T := TX3) (N := 7) hx hb hws kin_X3 hown hK.1 hV (xw_x hk) rfl 3 (by decide) fl27 (fun _ h9 => h9) rfl dX3_add_23 ?_
    refine lv_aload_n hx hb dX3_add_26 rfl (lv_at hl 1 rfl) ?_
    refine lv_aload hx hb dX3_add_27 (lv_at hl 0 rfl) ?_
    refine lv_aload hx hb dX3_add_29 (lv_at hl 0 rfl) ?_
    refine hm_getN (ci := 4) (v := .int gB) (C := RX2) (T := TX2) (N := 3) hx hb hws kin_X2 hown hK.1 hV hwB rfl 2 (by decide) (va_Nw.use rfl (hK.2.1 _ (List.mem_of_getElem? (i := 4) rfl))) (fun _ h9 => h9) rfl dX3_add_31 ?_
    refine hm_callv (va_runV (As := [.ref (ad (200 + ia)), .ref (ad (200 + ib)), .int gB]) (rest := []) ⟨hx, hb, hml, hown, hts⟩ (c_X2_setSum l E (sg := gB) hwZ haZ hoZ.2.1 hwA haA hoA hwB haB hoB (by have := hoA.1; omega) (by have := hoB.1; omega) (by omega) (by omega) (by omega) hgB H.size) (cwV 3 hts (hm_gV kw_394 kw_245 kw_246 kw_38 kw_247) rfl rfl rfl (by decide +kernel) ⟨Nat.le_of_ble_eq_true rfl, Nat.le_of_ble_eq_true rfl⟩) (hm_preV hK hV hwZ rfl) rfl rfl hl.1 rfl (lv_room (Nat.le_of_ble_eq_true rfl)) dX3_add_34 ⟨Nat.le_of_ble_eq_true rfl, Nat.le_of_ble_eq_true rfl⟩) hV hA (fun M1 H locs hp hV => ?_)
    rw [wn_sg hoB.2.2.2.2 rfl] at hp
    obtain ⟨z1, hz1, hz1o, hk⟩ := xw_set2 hk (i := 0) (Or.inl (by omega)) (wn_cp65 (by omega)) hp
    refine lv_aload_n hx hb dX3_add_37 rfl (lv_at hl 2 rfl) ?_
    refine lv_aload_n hx hb dX3_add_38 rfl (lv_at hl 2 rfl) ?_
    refine hm_get (ci := 5) (v := .ref (ad 0)) (C := RX3) (T := TX3) (N := 7) hx hb hws kin_X3 hown hK.1 hV (xw_x hk) rfl 3 (by decide) fl27 (fun _ h9 => h9) rfl dX3_add_39 ?_
    refine hm_calli (va_runV (As := [.ref (ad 0)]) (rest := []) ⟨hx, hb, hml, hown, hts⟩ (c_X3_keep l E hk H.size) (cwV 1 hts (hm_gV kw_144 kw_146 kw_2 kw_37 kw_147) rfl rfl rfl (by decide +kernel) ⟨Nat.le_of_ble_eq_true rfl, Nat.le_of_ble_eq_true rfl⟩) (hm_preV hK hV (xw_x hk) rfl) rfl rfl hl.1 rfl (lv_room (Nat.le_of_ble_eq_true rfl)) dX3_add_42 ⟨Nat.le_of_ble_eq_true rfl, Nat.le_of_ble_eq_true rfl⟩) hV hA (fun r42 M1 H locs hp hV => ?_)
    obtain ⟨cnt1, nums1, hkp, hxp⟩ := hp
    rw [hQf]
    exact vx_ret (W.iret hx hb hr (fun t9 ht hW => ⟨⟨_, M1, rfl, ⟨ia, ib, hia, hib, rfl, rfl, cnt1, nums1, kp_c hkp (fun j _ => hz1o _ (by omega)) hz1, hxp⟩, (hm_end hV ht).1⟩, (hm_end hV ht).2⟩) hV.2.2.2.2 dX3_add_45)
  · have hc1 : 160 ≤ cnt := by
      rcases hrf with h9 | h9
      · exact h9.2
      · exact absurd h9.1 c17
    refine lv_iconst (v := (-1)) hx hb dX3_add_20 (by decide) ?_
    refine W.widen (k := 4) (n := 79) (Nat.le_of_ble_eq_true rfl) (Nat.le_of_ble_eq_true rfl) ?_
    rw [hQf]
    exact vx_ret (W.iret hx hb hr (fun t9 ht hW => ⟨⟨_, M, rfl, ⟨ia, ib, hia, hib, rfl, rfl, cnt, (fun j => z (200 + j)), Or.inr ⟨Or.inl hc1, rfl, rfl, fun _ _ => rfl⟩, xp_of hk (fun _ _ => rfl)⟩, (hm_end hV ht).1⟩, (hm_end hV ht).2⟩) hV.2.2.2.2 dX3_add_21)

abbrev wd_X3_times : List Cond := .code yX3_times cX3_times 5 (some .int) :: hm_ws
abbrev rm_X3_times : Room := { frames := 8, cells := 4, slots := 79, locals := 131 }

set_option maxHeartbeats 4000000 in
set_option maxRecDepth 100000 in
/-- times(a, b) -/
theorem c_X3_times (l : Launch) (hlt : l.stackTraces = false) (E : hm_E) {M : hm_M} {A ad rw : Nat → Nat} {cnt : Nat} {el : Bool} {z : Nat → Int} {t : Nat → Nat → Int64} {a b : Int32} (hk : xw E M A ad rw cnt el z t)  : hm_TCi l E yX3_times wd_X3_times rm_X3_times [.ref (A 0), .int a, .int b] M (fun r M1 => ∃ i j, i < cnt ∧ j < cnt ∧ a = nI i ∧ b = nI j ∧ ∃ cnt1 nums1, kp cnt (fun j => z (200 + j)) (some (z (200 + i) * z (200 + j))) r cnt1 nums1 ∧ xp E M1 (A 0) cnt1 nums1 t) (fun Ex M1 => Ex = xAI ∧ ¬ (kn cnt a ∧ kn cnt b) ∧ M1 = M) := by
  intro sz
  refine vx_ofW (cc := cX3_times) (maxL := 5) (ret := (some .int)) (by decide) rfl ?_
  intro p e s m args below meth c s₁ B hml htb hv
  obtain ⟨rfl, hAe, hA, hK, hV, hY⟩ := hm_startX hv
  have hx := B.exec
  have hb := B.bytes
  have hr := B.returns
  have hts := atoms_spec (ws := wd_X3_times) B.pre
  have hws : ∀ w ∈ hm_ws, w.before _ s = true := fun w h => hts w (List.mem_cons_of_mem _ h)
  have hown : s.vm.findClass RX3 = some m.cls := findClass_of_methodNamed B.named
  have hlocks := B.notSynchronized
  have fl27 := hws _ kw_105
  have hl := lv_entry ([.ref (A 0), .int a, .int b]) (n := 5) (Nat.le_of_ble_eq_true rfl)
  rw [lg_entry_eq]
  generalize (lg_sl ([.ref (A 0), .int a, .int b]) ++ List.replicate (5 - (lg_sl ([.ref (A 0), .int a, .int b])).length) Slot.unset).toArray = ls at hl ⊢
  have hl : lv_has ls 5 [(0, .ref (A 0)), (1, .int a), (2, .int b)] := hl
  refine hm_gen (rm := rm_X3_times) rfl (fun Qf hQf => ?_)
  refine lv_aload_n hx hb dX3_times_0 rfl (lv_at hl 0 rfl) ?_
  refine lv_iload_n hx hb dX3_times_1 rfl (lv_at hl 1 rfl) ?_
  refine hm_tcallr (vx_runV (As := [.int a]) (rest := []) ⟨hx, hb, hml, hown, hts⟩ (c_X3_known l hlt E hk s.heap.size) (cwV 1 hts (hm_gV kw_387 kw_389 kw_16 kw_37 kw_390) rfl rfl rfl (by decide +kernel) ⟨Nat.le_of_ble_eq_true rfl, Nat.le_of_ble_eq_true rfl⟩) (hm_preVX hK hV hA hY (xw_x hk) rfl) rfl rfl hl.1 rfl (lv_room (Nat.le_of_ble_eq_true rfl)) dX3_times_2 ⟨Nat.le_of_ble_eq_true rfl, Nat.le_of_ble_eq_true rfl⟩) hV hA (fun Ex ce q9 M1 H locs hp hV h91 h92 h93 => ?_) (fun r2 M1 H locs hp hV => ?_)
  · rw [hQf]; exact hm_tout htb hlocks hV (⟨hp.1, fun h9 => hp.2.1 h9.1, hp.2.2⟩) h91 h92 h93 (Nat.le_of_ble_eq_true rfl) (Nat.le_of_ble_eq_true rfl)
  obtain ⟨⟨ia, hia, rfl, hr2⟩, hM1⟩ := hp
  rw [hM1] at hV
  subst hr2
  have hl : lv_has ls 5 [(0, .ref (A 0)), (1, .int (nI ia)), (2, .int b)] := hl
  refine lv_astore_n (lv' := [(3, .ref (ad (200 + ia))), (0, .ref (A 0)), (1, .int (nI ia)), (2, .int b)]) hx hb dX3_times_5 rfl hl (by decide) rfl (fun ls hl => ?_)
  refine lv_aload_n hx hb dX3_times_6 rfl (lv_at hl 1 rfl) ?_
  refine lv_iload_n hx hb dX3_times_7 rfl (lv_at hl 3 rfl) ?_
  refine hm_tcallr (vx_runV (As := [.int b]) (rest := []) ⟨hx, hb, hml, hown, hts⟩ (c_X3_known l hlt E hk H.size) (cwV 1 hts (hm_gV kw_387 kw_389 kw_16 kw_37 kw_390) rfl rfl rfl (by decide +kernel) ⟨Nat.le_of_ble_eq_true rfl, Nat.le_of_ble_eq_true rfl⟩) (hm_preVX hK hV hA hY (xw_x hk) rfl) rfl rfl hl.1 rfl (lv_room (Nat.le_of_ble_eq_true rfl)) dX3_times_8 ⟨Nat.le_of_ble_eq_true rfl, Nat.le_of_ble_eq_true rfl⟩) hV hA (fun Ex ce q9 M1 H locs hp hV h91 h92 h93 => ?_) (fun r8 M1 H locs hp hV => ?_)
  · rw [hQf]; exact hm_tout htb hlocks hV (⟨hp.1, fun h9 => hp.2.1 h9.2, hp.2.2⟩) h91 h92 h93 (Nat.le_of_ble_eq_true rfl) (Nat.le_of_ble_eq_true rfl)
  obtain ⟨⟨ib, hib, rfl, hr8⟩, hM1⟩ := hp
  rw [hM1] at hV
  subst hr8
  have hl : lv_has ls 5 [(3, .ref (ad (200 + ia))), (0, .ref (A 0)), (1, .int (nI ia)), (2, .int (nI ib))] := hl
  have hcn := xw_cn hk
  obtain ⟨nA, dA, kA, gA, hnA, hwA, haA, hoA⟩ := xw_at hk (i := 200 + ia) (Or.inr (Or.inr ⟨by omega, by omega⟩))
  have eA : nA ≤ 64 := hnA.2.2 (by omega)
  have qA := hoA.1
  obtain ⟨nB, dB, kB, gB, hnB, hwB, haB, hoB⟩ := xw_at hk (i := 200 + ib) (Or.inr (Or.inr ⟨by omega, by omega⟩))
  have eB : nB ≤ 64 := hnB.2.2 (by omega)
  have qB := hoB.1
  have no : ∀ (N : hm_M) (z1 : Nat → Int), (xw E N A ad rw cnt el z1 t) → (∀ i, 200 ≤ i → z1 i = z i) → (160 ≤ cnt ∨ bigN ≤ (z (200 + ia) * z (200 + ib)).natAbs) → ∀ (ls : Array Slot) (H : Heap) (locs : List Loc), lv_has ls 5 [(0, .ref (A 0))] → hm_V E.1 vwCl (hm_A M sz) s.heap (N) H locs → W p l e rm_X3_times s m [.ref (A 0), .int (nI ia), .int (nI ib)].toArray below meth c H locs 2 12 Qf (F0 m 33 ls []) := by
    intro N z1 hk hzo hno ls H locs hl hV
    refine lv_iconst (v := (-1)) hx hb dX3_times_33 (by decide) ?_
    refine W.widen (k := 4) (n := 79) (Nat.le_of_ble_eq_true rfl) (Nat.le_of_ble_eq_true rfl) ?_
    rw [hQf]
    exact vx_ret (W.iret hx hb hr (fun t9 ht hW => ⟨⟨_, N, rfl, ⟨ia, ib, hia, hib, rfl, rfl, cnt, (fun j => z (200 + j)), Or.inr ⟨by
      rcases hno with h9 | h9
      · exact Or.inl h9
      · exact Or.inr (Or.inr ⟨_, rfl, h9⟩), rfl, rfl, fun _ _ => rfl⟩, xp_of hk hzo⟩, (hm_end hV ht).1⟩, (hm_end hV ht).2⟩) hV.2.2.2.2 dX3_times_34)
  refine lv_astore (lv' := [(4, .ref (ad (200 + ib))), (3, .ref (ad (200 + ia))), (0, .ref (A 0)), (1, .int (nI ia)), (2, .int (nI ib))]) hx hb dX3_times_11 hl (by decide) rfl (fun ls hl => ?_)
  refine lv_aload_n hx hb dX3_times_13 rfl (lv_at hl 2 rfl) ?_
  refine hm_calli (va_runV (As := []) (rest := []) ⟨hx, hb, hml, hown, hts⟩ (c_X3_isFull l E (xw_x hk) (xw_cn hk) H.size) (cwV 0 hts (hm_gV kw_128 kw_130 kw_0 kw_37 kw_131) rfl rfl rfl (by decide +kernel) ⟨Nat.le_of_ble_eq_true rfl, Nat.le_of_ble_eq_true rfl⟩) (hm_preV hK hV (xw_x hk) rfl) rfl rfl hl.1 rfl (lv_room (Nat.le_of_ble_eq_true rfl)) dX3_times_14 ⟨Nat.le_of_ble_eq_true rfl, Nat.le_of_ble_eq_true rfl⟩) hV hA (fun r14 M1 H locs hp hV => ?_)
  obtain ⟨hrf, hM1⟩ := hp
  rw [hM1] at hV
  refine lv_if_ne (tgt := 33) hx hb dX3_times_17 (by decide) (fun c17 => ?_) (fun c17 => ?_)
  · have hc1 : 160 ≤ cnt := by
      rcases hrf with h9 | h9
      · exact h9.2
      · exact absurd h9.1 c17
    exact no _ z hk (fun _ _ => rfl) (Or.inl hc1) ls H locs (lv_sub hl [2] rfl) hV
  · have hc1 : cnt < 160 := by
      rcases hrf with h9 | h9
      · rw [h9.1] at c17; exact absurd c17 (by decide)
      · exact h9.2
    obtain ⟨nZ, dZ, kZ, gZ, hnZ, hwZ, haZ, hoZ⟩ := xw_at hk (i := 0) (Or.inl (by omega))
    have eZ : nZ = 65 := hnZ.1 (by omega)
    subst eZ
    have qZ := hoZ.1
    refine lv_aload_n hx hb dX3_times_20 rfl (lv_at hl 2 rfl) ?_
    refine hm_get (ci := 5) (v := .ref (ad 0)) (C := RX3) (T := TX3) (N := 7) hx hb hws kin_X3 hown hK.1 hV (xw_x hk) rfl 3 (by decide) fl27 (fun _ h9 => h9) rfl dX3_times_21 ?_
    refine lv_aload_n hx hb dX3_times_24 rfl (lv_at hl 1 rfl) ?_
    refine lv_aload hx hb dX3_times_25 (lv_at hl 0 rfl) ?_
    refine hm_calli (va_runV (As := [.ref (ad (200 + ia)), .ref (ad (200 + ib))]) (rest := []) ⟨hx, hb, hml, hown, hts⟩ (c_X2_setProduct l E hwZ haZ hoZ.2.1 hwA haA hoA hwB haB hoB (by have := hoA.1; omega) (by have := hoB.1; omega) (xw_rr hk (Or.inr (Or.inr ⟨by omega, by omega⟩)) (Or.inl (by omega)) (by omega)) (xw_rr hk (Or.inr (Or.inr ⟨by omega, by omega⟩)) (Or.inl (by omega)) (by omega)) (by omega) (by omega) H.size) (cwV 2 hts (hm_gV kw_402 kw_240 kw_241 kw_38 kw_242) rfl rfl rfl (by decide +kernel) ⟨Nat.le_of_ble_eq_true rfl, Nat.le_of_ble_eq_true rfl⟩) (hm_preV hK hV hwZ rfl) rfl rfl hl.1 rfl (lv_room (Nat.le_of_ble_eq_true rfl)) dX3_times_27 ⟨Nat.le_of_ble_eq_true rfl, Nat.le_of_ble_eq_true rfl⟩) hV hA (fun r27 M1 H locs hp hV => ?_)
    refine lv_if_ne (tgt := 35) hx hb dX3_times_30 (by decide) (fun c30 => ?_) (fun c30 => ?_)
    · have hp := (hp.resolve_left (fun h9 => c30 h9.1)).2
      obtain ⟨z1, hz1, hz1o, hk⟩ := xw_set2 hk (i := 0) (Or.inl (by omega)) (wn_cp65 (by omega)) hp
      refine lv_aload_n hx hb dX3_times_35 rfl (lv_at hl 2 rfl) ?_
      refine lv_aload_n hx hb dX3_times_36 rfl (lv_at hl 2 rfl) ?_
      refine hm_get (ci := 5) (v := .ref (ad 0)) (C := RX3) (T := TX3) (N := 7) hx hb hws kin_X3 hown hK.1 hV (xw_x hk) rfl 3 (by decide) fl27 (fun _ h9 => h9) rfl dX3_times_37 ?_
      refine hm_calli (va_runV (As := [.ref (ad 0)]) (rest := []) ⟨hx, hb, hml, hown, hts⟩ (c_X3_keep l E hk H.size) (cwV 1 hts (hm_gV kw_144 kw_146 kw_2 kw_37 kw_147) rfl rfl rfl (by decide +kernel) ⟨Nat.le_of_ble_eq_true rfl, Nat.le_of_ble_eq_true rfl⟩) (hm_preV hK hV (xw_x hk) rfl) rfl rfl hl.1 rfl (lv_room (Nat.le_of_ble_eq_true rfl)) dX3_times_40 ⟨Nat.le_of_ble_eq_true rfl, Nat.le_of_ble_eq_true rfl⟩) hV hA (fun r40 M1 H locs hp hV => ?_)
      obtain ⟨cnt1, nums1, hkp, hxp⟩ := hp
      rw [hQf]
      exact vx_ret (W.iret hx hb hr (fun t9 ht hW => ⟨⟨_, M1, rfl, ⟨ia, ib, hia, hib, rfl, rfl, cnt1, nums1, kp_c hkp (fun j _ => hz1o _ (by omega)) hz1, hxp⟩, (hm_end hV ht).1⟩, (hm_end hV ht).2⟩) hV.2.2.2.2 dX3_times_43)
    · have hbig : bigN ≤ (z (200 + ia) * z (200 + ib)).natAbs := by
        rw [← bigN_25]
        rcases hp with h9 | h9
        · exact h9.2.2
        · rcases Nat.lt_or_ge (z (200 + ia) * z (200 + ib)).natAbs (33554432 ^ 64) with q | q
          · rw [h9.1, if_pos q] at c30; exact absurd c30 (by decide)
          · exact q
      rcases hp with ⟨-, hM1, -⟩ | ⟨-, hp⟩
      · rw [hM1] at hV
        exact no _ z hk (fun _ _ => rfl) (Or.inr hbig) ls H locs (lv_sub hl [2] rfl) hV
      · obtain ⟨z1, hz1, hz1o, hk⟩ := xw_set2 hk (i := 0) (Or.inl (by omega)) (wn_cp65 (by omega)) hp
        exact no _ z1 hk (fun i hi => hz1o i (by omega)) (Or.inr hbig) ls H locs (lv_sub hl [2] rfl) hV

abbrev wd_X3_order : List Cond := .code yX3_order cX3_order 6 (some .int) :: hm_ws
abbrev rm_X3_order : Room := { frames := 8, cells := 2, slots := 12, locals := 131 }

set_option maxHeartbeats 4000000 in
set_option maxRecDepth 100000 in
/-- order(a, b) -/
theorem c_X3_order (l : Launch) (hlt : l.stackTraces = false) (E : hm_E) {M : hm_M} {A ad rw : Nat → Nat} {cnt : Nat} {el : Bool} {z : Nat → Int} {t : Nat → Nat → Int64} {a b : Int32} (hk : xw E M A ad rw cnt el z t)  : hm_TCi l E yX3_order wd_X3_order rm_X3_order [.ref (A 0), .int a, .int b] M (fun r M1 => (∃ i j, i < cnt ∧ j < cnt ∧ a = nI i ∧ b = nI j ∧ r = cmpZ (z (200 + i)) (z (200 + j))) ∧ M1 = M) (fun Ex M1 => Ex = xAI ∧ ¬ (kn cnt a ∧ kn cnt b) ∧ M1 = M) := by
  intro sz
  refine vx_ofW (cc := cX3_order) (maxL := 6) (ret := (some .int)) (by decide) rfl ?_
  intro p e s m args below meth c s₁ B hml htb hv
  obtain ⟨rfl, hAe, hA, hK, hV, hY⟩ := hm_startX hv
  have hx := B.exec
  have hb := B.bytes
  have hr := B.returns
  have hts := atoms_spec (ws := wd_X3_order) B.pre
  have hws : ∀ w ∈ hm_ws, w.before _ s = true := fun w h => hts w (List.mem_cons_of_mem _ h)
  have hown : s.vm.findClass RX3 = some m.cls := findClass_of_methodNamed B.named
  have hlocks := B.notSynchronized
  have hl := lv_entry ([.ref (A 0), .int a, .int b]) (n := 6) (Nat.le_of_ble_eq_true rfl)
  rw [lg_entry_eq]
  generalize (lg_sl ([.ref (A 0), .int a, .int b]) ++ List.replicate (6 - (lg_sl ([.ref (A 0), .int a, .int b])).length) Slot.unset).toArray = ls at hl ⊢
  have hl : lv_has ls 6 [(0, .ref (A 0)), (1, .int a), (2, .int b)] := hl
  refine hm_gen (rm := rm_X3_order) rfl (fun Qf hQf => ?_)
  refine lv_aload_n hx hb dX3_order_0 rfl (lv_at hl 0 rfl) ?_
  refine lv_iload_n hx hb dX3_order_1 rfl (lv_at hl 1 rfl) ?_
  refine hm_tcallr (vx_runV (As := [.int a]) (rest := []) ⟨hx, hb, hml, hown, hts⟩ (c_X3_known l hlt E hk s.heap.size) (cwV 1 hts (hm_gV kw_387 kw_389 kw_16 kw_37 kw_390) rfl rfl rfl (by decide +kernel) ⟨Nat.le_of_ble_eq_true rfl, Nat.le_of_ble_eq_true rfl⟩) (hm_preVX hK hV hA hY (xw_x hk) rfl) rfl rfl hl.1 rfl (lv_room (Nat.le_of_ble_eq_true rfl)) dX3_order_2 ⟨Nat.le_of_ble_eq_true rfl, Nat.le_of_ble_eq_true rfl⟩) hV hA (fun Ex ce q9 M1 H locs hp hV h91 h92 h93 => ?_) (fun r2 M1 H locs hp hV => ?_)
  · rw [hQf]; exact hm_tout htb hlocks hV (⟨hp.1, fun h9 => hp.2.1 h9.1, hp.2.2⟩) h91 h92 h93 (Nat.le_of_ble_eq_true rfl) (Nat.le_of_ble_eq_true rfl)
  obtain ⟨⟨ia, hia, rfl, hr2⟩, hM1⟩ := hp
  rw [hM1] at hV
  subst hr2
  have hl : lv_has ls 6 [(0, .ref (A 0)), (1, .int (nI ia)), (2, .int b)] := hl
  refine lv_astore_n (lv' := [(3, .ref (ad (200 + ia))), (0, .ref (A 0)), (1, .int (nI ia)), (2, .int b)]) hx hb dX3_order_5 rfl hl (by decide) rfl (fun ls hl => ?_)
  refine lv_aload_n hx hb dX3_order_6 rfl (lv_at hl 1 rfl) ?_
  refine lv_iload_n hx hb dX3_order_7 rfl (lv_at hl 3 rfl) ?_
  refine hm_tcallr (vx_runV (As := [.int b]) (rest := []) ⟨hx, hb, hml, hown, hts⟩ (c_X3_known l hlt E hk H.size) (cwV 1 hts (hm_gV kw_387 kw_389 kw_16 kw_37 kw_390) rfl rfl rfl (by decide +kernel) ⟨Nat.le_of_ble_eq_true rfl, Nat.le_of_ble_eq_true rfl⟩) (hm_preVX hK hV hA hY (xw_x hk) rfl) rfl rfl hl.1 rfl (lv_room (Nat.le_of_ble_eq_true rfl)) dX3_order_8 ⟨Nat.le_of_ble_eq_true rfl, Nat.le_of_ble_eq_true rfl⟩) hV hA (fun Ex ce q9 M1 H locs hp hV h91 h92 h93 => ?_) (fun r8 M1 H locs hp hV => ?_)
  · rw [hQf]; exact hm_tout htb hlocks hV (⟨hp.1, fun h9 => hp.2.1 h9.2, hp.2.2⟩) h91 h92 h93 (Nat.le_of_ble_eq_true rfl) (Nat.le_of_ble_eq_true rfl)
  obtain ⟨⟨ib, hib, rfl, hr8⟩, hM1⟩ := hp
  rw [hM1] at hV
  subst hr8
  have hl : lv_has ls 6 [(3, .ref (ad (200 + ia))), (0, .ref (A 0)), (1, .int (nI ia)), (2, .int (nI ib))] := hl
  have hcn := xw_cn hk
  obtain ⟨nA, dA, kA, gA, hnA, hwA, haA, hoA⟩ := xw_at hk (i := 200 + ia) (Or.inr (Or.inr ⟨by omega, by omega⟩))
  have eA : nA ≤ 64 := hnA.2.2 (by omega)
  have qA := hoA.1
  obtain ⟨nB, dB, kB, gB, hnB, hwB, haB, hoB⟩ := xw_at hk (i := 200 + ib) (Or.inr (Or.inr ⟨by omega, by omega⟩))
  have eB : nB ≤ 64 := hnB.2.2 (by omega)
  have qB := hoB.1
  have hsA := hoA.2.2.2.2
  have hsB := hoB.2.2.2.2
  refine lv_astore (lv' := [(4, .ref (ad (200 + ib))), (3, .ref (ad (200 + ia))), (0, .ref (A 0)), (1, .int (nI ia)), (2, .int (nI ib))]) hx hb dX3_order_11 hl (by decide) rfl (fun ls hl => ?_)
  refine lv_aload_n hx hb dX3_order_13 rfl (lv_at hl 1 rfl) ?_
  refine hm_getN (ci := 4) (v := .int gA) (C := RX2) (T := TX2) (N := 3) hx hb hws kin_X2 hown hK.1 hV hwA rfl 2 (by decide) (va_Nw.use rfl (hK.2.1 _ (List.mem_of_getElem? (i := 4) rfl))) (fun _ h9 => h9) rfl dX3_order_14 ?_
  refine lv_aload hx hb dX3_order_17 (lv_at hl 0 rfl) ?_
  refine hm_getN (ci := 4) (v := .int gB) (C := RX2) (T := TX2) (N := 3) hx hb hws kin_X2 hown hK.1 hV hwB rfl 2 (by decide) (va_Nw.use rfl (hK.2.1 _ (List.mem_of_getElem? (i := 4) rfl))) (fun _ h9 => h9) rfl dX3_order_19 ?_
  refine lv_icmp_eq (tgt := 38) hx hb dX3_order_22 (by decide) (fun c22 => ?_) (fun c22 => ?_)
  · obtain ⟨hs1, hs2⟩ := sn_ord hsA hsB c22
    refine lv_aload_n hx hb dX3_order_38 rfl (lv_at hl 1 rfl) ?_
    refine lv_aload hx hb dX3_order_39 (lv_at hl 0 rfl) ?_
    refine hm_calli (va_runV (As := [.ref (ad (200 + ib))]) (rest := []) ⟨hx, hb, hml, hown, hts⟩ (c_X2_compareAmount l E hwA haA hoA hwB haB hoB (by omega) (by omega) H.size) (cwV 1 hts (hm_gV kw_445 kw_254 kw_255 kw_38 kw_256) rfl rfl rfl (by decide +kernel) ⟨Nat.le_of_ble_eq_true rfl, Nat.le_of_ble_eq_true rfl⟩) (hm_preV hK hV hwA rfl) rfl rfl hl.1 rfl (lv_room (Nat.le_of_ble_eq_true rfl)) dX3_order_41 ⟨Nat.le_of_ble_eq_true rfl, Nat.le_of_ble_eq_true rfl⟩) hV hA (fun r41 M1 H locs hp hV => ?_)
    obtain ⟨hr41, hM1⟩ := hp
    rw [hM1] at hV
    subst hr41
    refine lv_istore (lv' := [(5, .int (if (z (200 + ia)).natAbs < (z (200 + ib)).natAbs then -1 else if (z (200 + ia)).natAbs = (z (200 + ib)).natAbs then 0 else 1)), (4, .ref (ad (200 + ib))), (3, .ref (ad (200 + ia))), (0, .ref (A 0)), (1, .int (nI ia)), (2, .int (nI ib))]) hx hb dX3_order_44 hl (by decide) rfl (fun ls hl => ?_)
    refine lv_aload_n hx hb dX3_order_46 rfl (lv_at hl 2 rfl) ?_
    refine hm_getN (ci := 4) (v := .int gA) (C := RX2) (T := TX2) (N := 3) hx hb hws kin_X2 hown hK.1 hV hwA rfl 2 (by decide) (va_Nw.use rfl (hK.2.1 _ (List.mem_of_getElem? (i := 4) rfl))) (fun _ h9 => h9) rfl dX3_order_47 ?_
    refine lv_if_eq (tgt := 59) hx hb dX3_order_50 (by decide) (fun c50 => ?_) (fun c50 => ?_)
    · refine lv_iload hx hb dX3_order_59 (lv_at hl 0 rfl) ?_
      rw [hQf]
      exact vx_ret (W.iret hx hb hr (fun t9 ht hW => ⟨⟨_, M, rfl, ⟨⟨ia, ib, hia, hib, rfl, rfl, hs1 c50⟩, rfl⟩, (hm_end hV ht).1⟩, (hm_end hV ht).2⟩) hV.2.2.2.2 dX3_order_61)
    · refine lv_iload hx hb dX3_order_53 (lv_at hl 0 rfl) ?_
      refine lv_ineg hx hb dX3_order_55 ?_
      refine lv_goto (tgt := 61) hx hb dX3_order_56 (by decide) ?_
      rw [hQf]
      exact vx_ret (W.iret hx hb hr (fun t9 ht hW => ⟨⟨_, M, rfl, ⟨⟨ia, ib, hia, hib, rfl, rfl, hs2 c50⟩, rfl⟩, (hm_end hV ht).1⟩, (hm_end hV ht).2⟩) hV.2.2.2.2 dX3_order_61)
  · obtain ⟨hs1, hs2⟩ := sn_dif hsA hsB c22
    refine lv_aload_n hx hb dX3_order_25 rfl (lv_at hl 1 rfl) ?_
    refine hm_getN (ci := 4) (v := .int gA) (C := RX2) (T := TX2) (N := 3) hx hb hws kin_X2 hown hK.1 hV hwA rfl 2 (by decide) (va_Nw.use rfl (hK.2.1 _ (List.mem_of_getElem? (i := 4) rfl))) (fun _ h9 => h9) rfl dX3_order_26 ?_
    refine lv_if_eq (tgt := 36) hx hb dX3_order_29 (by decide) (fun c29 => ?_) (fun c29 => ?_)
    · refine lv_iconst (v := 1) hx hb dX3_order_36 (by decide) ?_
      rw [hQf]
      exact vx_ret (W.iret hx hb hr (fun t9 ht hW => ⟨⟨_, M, rfl, ⟨⟨ia, ib, hia, hib, rfl, rfl, hs1 c29⟩, rfl⟩, (hm_end hV ht).1⟩, (hm_end hV ht).2⟩) hV.2.2.2.2 dX3_order_37)
    · refine lv_iconst (v := (-1)) hx hb dX3_order_32 (by decide) ?_
      refine lv_goto (tgt := 37) hx hb dX3_order_33 (by decide) ?_
      rw [hQf]
      exact vx_ret (W.iret hx hb hr (fun t9 ht hW => ⟨⟨_, M, rfl, ⟨⟨ia, ib, hia, hib, rfl, rfl, hs2 c29⟩, rfl⟩, (hm_end hV ht).1⟩, (hm_end hV ht).2⟩) hV.2.2.2.2 dX3_order_37)

abbrev wd_X3_over : List Cond := .code yX3_over cX3_over 5 (some .int) :: hm_ws
abbrev rm_X3_over : Room := { frames := 8, cells := 4, slots := 79, locals := 131 }

set_option maxHeartbeats 4000000 in
set_option maxRecDepth 100000 in
/-- over(a, b) -/
theorem c_X3_over (l : Launch) (hlt : l.stackTraces = false) (E : hm_E) {M : hm_M} {A ad rw : Nat → Nat} {cnt : Nat} {el : Bool} {z : Nat → Int} {t : Nat → Nat → Int64} {a b : Int32} (hk : xw E M A ad rw cnt el z t)  : hm_TCi l E yX3_over wd_X3_over rm_X3_over [.ref (A 0), .int a, .int b] M (fun r M1 => ∃ i j, i < cnt ∧ j < cnt ∧ a = nI i ∧ b = nI j ∧ z (200 + j) ≠ 0 ∧ ∃ cnt1 nums1, kp cnt (fun j => z (200 + j)) (some (dz (z (200 + i)) (z (200 + j)))) r cnt1 nums1 ∧ xp E M1 (A 0) cnt1 nums1 t) (fun Ex M1 => ((Ex = xAI ∧ ¬ (kn cnt a ∧ kn cnt b)) ∨ (Ex = xAR ∧ ∃ i j, i < cnt ∧ j < cnt ∧ a = nI i ∧ b = nI j ∧ z (200 + j) = 0)) ∧ M1 = M) := by
  intro sz
  refine vx_ofW (cc := cX3_over) (maxL := 5) (ret := (some .int)) (by decide) rfl ?_
  intro p e s m args below meth c s₁ B hml htb hv
  obtain ⟨rfl, hAe, hA, hK, hV, hY⟩ := hm_startX hv
  have hx := B.exec
  have hb := B.bytes
  have hr := B.returns
  have hts := atoms_spec (ws := wd_X3_over) B.pre
  have hws : ∀ w ∈ hm_ws, w.before _ s = true := fun w h => hts w (List.mem_cons_of_mem _ h)
  have hown : s.vm.findClass RX3 = some m.cls := findClass_of_methodNamed B.named
  have hlocks := B.notSynchronized
  have fl37 := hws _ kw_107
  have fl27 := hws _ kw_105
  have hl := lv_entry ([.ref (A 0), .int a, .int b]) (n := 5) (Nat.le_of_ble_eq_true rfl)
  rw [lg_entry_eq]
  generalize (lg_sl ([.ref (A 0), .int a, .int b]) ++ List.replicate (5 - (lg_sl ([.ref (A 0), .int a, .int b])).length) Slot.unset).toArray = ls at hl ⊢
  have hl : lv_has ls 5 [(0, .ref (A 0)), (1, .int a), (2, .int b)] := hl
  refine hm_gen (rm := rm_X3_over) rfl (fun Qf hQf => ?_)
  refine lv_aload_n hx hb dX3_over_0 rfl (lv_at hl 0 rfl) ?_
  refine lv_iload_n hx hb dX3_over_1 rfl (lv_at hl 1 rfl) ?_
  refine hm_tcallr (vx_runV (As := [.int a]) (rest := []) ⟨hx, hb, hml, hown, hts⟩ (c_X3_known l hlt E hk s.heap.size) (cwV 1 hts (hm_gV kw_387 kw_389 kw_16 kw_37 kw_390) rfl rfl rfl (by decide +kernel) ⟨Nat.le_of_ble_eq_true rfl, Nat.le_of_ble_eq_true rfl⟩) (hm_preVX hK hV hA hY (xw_x hk) rfl) rfl rfl hl.1 rfl (lv_room (Nat.le_of_ble_eq_true rfl)) dX3_over_2 ⟨Nat.le_of_ble_eq_true rfl, Nat.le_of_ble_eq_true rfl⟩) hV hA (fun Ex ce q9 M1 H locs hp hV h91 h92 h93 => ?_) (fun r2 M1 H locs hp hV => ?_)
  · rw [hQf]; exact hm_tout htb hlocks hV (⟨Or.inl ⟨hp.1, fun h9 => hp.2.1 h9.1⟩, hp.2.2⟩) h91 h92 h93 (Nat.le_of_ble_eq_true rfl) (Nat.le_of_ble_eq_true rfl)
  obtain ⟨⟨ia, hia, rfl, hr2⟩, hM1⟩ := hp
  rw [hM1] at hV
  subst hr2
  have hl : lv_has ls 5 [(0, .ref (A 0)), (1, .int (nI ia)), (2, .int b)] := hl
  refine lv_astore_n (lv' := [(3, .ref (ad (200 + ia))), (0, .ref (A 0)), (1, .int (nI ia)), (2, .int b)]) hx hb dX3_over_5 rfl hl (by decide) rfl (fun ls hl => ?_)
  refine lv_aload_n hx hb dX3_over_6 rfl (lv_at hl 1 rfl) ?_
  refine lv_iload_n hx hb dX3_over_7 rfl (lv_at hl 3 rfl) ?_
  refine hm_tcallr (vx_runV (As := [.int b]) (rest := []) ⟨hx, hb, hml, hown, hts⟩ (c_X3_known l hlt E hk H.size) (cwV 1 hts (hm_gV kw_387 kw_389 kw_16 kw_37 kw_390) rfl rfl rfl (by decide +kernel) ⟨Nat.le_of_ble_eq_true rfl, Nat.le_of_ble_eq_true rfl⟩) (hm_preVX hK hV hA hY (xw_x hk) rfl) rfl rfl hl.1 rfl (lv_room (Nat.le_of_ble_eq_true rfl)) dX3_over_8 ⟨Nat.le_of_ble_eq_true rfl, Nat.le_of_ble_eq_true rfl⟩) hV hA (fun Ex ce q9 M1 H locs hp hV h91 h92 h93 => ?_) (fun r8 M1 H locs hp hV => ?_)
  · rw [hQf]; exact hm_tout htb hlocks hV (⟨Or.inl ⟨hp.1, fun h9 => hp.2.1 h9.2⟩, hp.2.2⟩) h91 h92 h93 (Nat.le_of_ble_eq_true rfl) (Nat.le_of_ble_eq_true rfl)
  obtain ⟨⟨ib, hib, rfl, hr8⟩, hM1⟩ := hp
  rw [hM1] at hV
  subst hr8
  have hl : lv_has ls 5 [(3, .ref (ad (200 + ia))), (0, .ref (A 0)), (1, .int (nI ia)), (2, .int (nI ib))] := hl
  have hcn := xw_cn hk
  obtain ⟨nA, dA, kA, gA, hnA, hwA, haA, hoA⟩ := xw_at hk (i := 200 + ia) (Or.inr (Or.inr ⟨by omega, by omega⟩))
  have eA : nA ≤ 64 := hnA.2.2 (by omega)
  have qA := hoA.1
  obtain ⟨nB, dB, kB, gB, hnB, hwB, haB, hoB⟩ := xw_at hk (i := 200 + ib) (Or.inr (Or.inr ⟨by omega, by omega⟩))
  have eB : nB ≤ 64 := hnB.2.2 (by omega)
  have qB := hoB.1
  refine lv_astore (lv' := [(4, .ref (ad (200 + ib))), (3, .ref (ad (200 + ia))), (0, .ref (A 0)), (1, .int (nI ia)), (2, .int (nI ib))]) hx hb dX3_over_11 hl (by decide) rfl (fun ls hl => ?_)
  refine lv_aload hx hb dX3_over_13 (lv_at hl 0 rfl) ?_
  refine hm_calli (va_runV (As := []) (rest := []) ⟨hx, hb, hml, hown, hts⟩ (c_X2_isZero l E hwB (by have := hoB.1; omega) H.size) (cwV 0 hts (hm_gV kw_424 kw_224 kw_225 kw_38 kw_226) rfl rfl rfl (by decide +kernel) ⟨Nat.le_of_ble_eq_true rfl, Nat.le_of_ble_eq_true rfl⟩) (hm_preV hK hV hwB rfl) rfl rfl hl.1 rfl (lv_room (Nat.le_of_ble_eq_true rfl)) dX3_over_15 ⟨Nat.le_of_ble_eq_true rfl, Nat.le_of_ble_eq_true rfl⟩) hV hA (fun r15 M1 H locs hp hV => ?_)
  obtain ⟨hr15, hM1⟩ := hp
  rw [hM1] at hV
  have hzz := wn_zero hoB
  refine lv_if_eq (tgt := 31) hx hb dX3_over_18 (by decide) (fun c18 => ?_) (fun c18 => ?_)
  · have hz0 : z (200 + ib) ≠ 0 := fun h9 => by rw [hr15, if_pos (hzz.mpr h9)] at c18; exact absurd c18 (by decide)
    refine lv_aload_n hx hb dX3_over_31 rfl (lv_at hl 2 rfl) ?_
    refine hm_calli (va_runV (As := []) (rest := []) ⟨hx, hb, hml, hown, hts⟩ (c_X3_isFull l E (xw_x hk) (xw_cn hk) H.size) (cwV 0 hts (hm_gV kw_128 kw_130 kw_0 kw_37 kw_131) rfl rfl rfl (by decide +kernel) ⟨Nat.le_of_ble_eq_true rfl, Nat.le_of_ble_eq_true rfl⟩) (hm_preV hK hV (xw_x hk) rfl) rfl rfl hl.1 rfl (lv_room (Nat.le_of_ble_eq_true rfl)) dX3_over_32 ⟨Nat.le_of_ble_eq_true rfl, Nat.le_of_ble_eq_true rfl⟩) hV hA (fun r32 M1 H locs hp hV => ?_)
    obtain ⟨hrf, hM1⟩ := hp
    rw [hM1] at hV
    refine lv_if_eq (tgt := 40) hx hb dX3_over_35 (by decide) (fun c35 => ?_) (fun c35 => ?_)
    · have hc1 : cnt < 160 := by
        rcases hrf with h9 | h9
        · rw [h9.1] at c35; exact absurd c35 (by decide)
        · exact h9.2
      obtain ⟨nZ, dZ, kZ, gZ, hnZ, hwZ, haZ, hoZ⟩ := xw_at hk (i := 0) (Or.inl (by omega))
      have eZ : nZ = 65 := hnZ.1 (by omega)
      subst eZ
      have qZ := hoZ.1
      obtain ⟨hdv, ⟨rr, hrr, hlr⟩, ⟨vv, hvv, hlv⟩, hap⟩ := hk.2.1
      refine lv_aload_n hx hb dX3_over_40 rfl (lv_at hl 2 rfl) ?_
      refine hm_get (ci := 5) (v := .ref (A 3)) (C := RX3) (T := TX3) (N := 7) hx hb hws kin_X3 hown hK.1 hV (xw_x hk) rfl 5 (by decide) fl37 (fun _ h9 => h9) rfl dX3_over_41 ?_
      refine lv_aload_n hx hb dX3_over_44 rfl (lv_at hl 1 rfl) ?_
      refine lv_aload hx hb dX3_over_45 (lv_at hl 0 rfl) ?_
      refine lv_aload_n hx hb dX3_over_47 rfl (lv_at hl 2 rfl) ?_
      refine hm_get (ci := 5) (v := .ref (ad 0)) (C := RX3) (T := TX3) (N := 7) hx hb hws kin_X3 hown hK.1 hV (xw_x hk) rfl 3 (by decide) fl27 (fun _ h9 => h9) rfl dX3_over_48 ?_
      refine hm_callv (va_runV (As := [.ref (ad (200 + ia)), .ref (ad (200 + ib)), .ref (ad 0)]) (rest := []) ⟨hx, hb, hml, hown, hts⟩ (c_X0_divide l E hdv hlr hlv hrr hvv hwZ haZ hoZ.2.1 hwA haA hoA hwB haB hoB hz0 (by have := hoA.1; omega) (by have := hoA.1; omega) (by omega) (by omega) (by omega) (by omega) hap (xw_r4 hk (Or.inl (by omega))) (xw_r5 hk (Or.inl (by omega))) (xw_r4 hk (Or.inr (Or.inr ⟨by omega, by omega⟩))) (xw_r5 hk (Or.inr (Or.inr ⟨by omega, by omega⟩))) (xw_rr hk (Or.inr (Or.inr ⟨by omega, by omega⟩)) (Or.inl (by omega)) (by omega)) (xw_r4 hk (Or.inr (Or.inr ⟨by omega, by omega⟩))) (xw_r5 hk (Or.inr (Or.inr ⟨by omega, by omega⟩))) (xw_rr hk (Or.inr (Or.inr ⟨by omega, by omega⟩)) (Or.inl (by omega)) (by omega)) (xw_aa hk (Or.inr (Or.inr ⟨by omega, by omega⟩)) (Or.inl (by omega)) (by omega)) (xw_aa hk (Or.inr (Or.inr ⟨by omega, by omega⟩)) (Or.inl (by omega)) (by omega)) H.size) (cwV 3 hts (hm_gV kw_428 kw_259 kw_260 kw_40 kw_261) rfl rfl rfl (by decide +kernel) ⟨Nat.le_of_ble_eq_true rfl, Nat.le_of_ble_eq_true rfl⟩) (hm_preV hK hV (xw_d hk) rfl) rfl rfl hl.1 rfl (lv_room (Nat.le_of_ble_eq_true rfl)) dX3_over_51 ⟨Nat.le_of_ble_eq_true rfl, Nat.le_of_ble_eq_true rfl⟩) hV hA (fun M1 H locs hp hV => ?_)
      obtain ⟨r1, v1, hr1, hv1, hp⟩ := hp
      have hk := xw_rows hk hr1 hv1
      obtain ⟨z1, hz1, hz1o, hk⟩ := xw_set2 hk (i := 0) (Or.inl (by omega)) (wn_cp65 (by omega)) hp
      refine lv_aload_n hx hb dX3_over_54 rfl (lv_at hl 2 rfl) ?_
      refine lv_aload_n hx hb dX3_over_55 rfl (lv_at hl 2 rfl) ?_
      refine hm_get (ci := 5) (v := .ref (ad 0)) (C := RX3) (T := TX3) (N := 7) hx hb hws kin_X3 hown hK.1 hV (xw_x hk) rfl 3 (by decide) fl27 (fun _ h9 => h9) rfl dX3_over_56 ?_
      refine hm_calli (va_runV (As := [.ref (ad 0)]) (rest := []) ⟨hx, hb, hml, hown, hts⟩ (c_X3_keep l E hk H.size) (cwV 1 hts (hm_gV kw_144 kw_146 kw_2 kw_37 kw_147) rfl rfl rfl (by decide +kernel) ⟨Nat.le_of_ble_eq_true rfl, Nat.le_of_ble_eq_true rfl⟩) (hm_preV hK hV (xw_x hk) rfl) rfl rfl hl.1 rfl (lv_room (Nat.le_of_ble_eq_true rfl)) dX3_over_59 ⟨Nat.le_of_ble_eq_true rfl, Nat.le_of_ble_eq_true rfl⟩) hV hA (fun r59 M1 H locs hp hV => ?_)
      obtain ⟨cnt1, nums1, hkp, hxp⟩ := hp
      rw [hQf]
      exact vx_ret (W.iret hx hb hr (fun t9 ht hW => ⟨⟨_, M1, rfl, ⟨ia, ib, hia, hib, rfl, rfl, hz0, cnt1, nums1, kp_c hkp (fun j _ => hz1o _ (by omega)) hz1, hxp⟩, (hm_end hV ht).1⟩, (hm_end hV ht).2⟩) hV.2.2.2.2 dX3_over_62)
    · have hc1 : 160 ≤ cnt := by
        rcases hrf with h9 | h9
        · exact h9.2
        · exact absurd h9.1 c35
      refine lv_iconst (v := (-1)) hx hb dX3_over_38 (by decide) ?_
      refine W.widen (k := 4) (n := 79) (Nat.le_of_ble_eq_true rfl) (Nat.le_of_ble_eq_true rfl) ?_
      rw [hQf]
      exact vx_ret (W.iret hx hb hr (fun t9 ht hW => ⟨⟨_, M, rfl, ⟨ia, ib, hia, hib, rfl, rfl, hz0, cnt, (fun j => z (200 + j)), Or.inr ⟨Or.inl hc1, rfl, rfl, fun _ _ => rfl⟩, xp_of hk (fun _ _ => rfl)⟩, (hm_end hV ht).1⟩, (hm_end hV ht).2⟩) hV.2.2.2.2 dX3_over_39)
  · have hz0 : z (200 + ib) = 0 := by
      refine hzz.mp ?_
      rcases Nat.eq_zero_or_pos kB with q | q
      · exact q
      · rw [if_neg (by omega)] at hr15; exact absurd hr15 c18
    rw [hQf]
    exact hm_thrAR hx hb hlt hown hws hY hV (List.mem_of_getElem? (i := 1) rfl) (hl.1.trans hml.symm) dX3_over_21 dX3_over_24 dX3_over_25 dX3_over_27 dX3_over_30 htb (Nat.le_of_ble_eq_true rfl) (by show _ ≤ _; simp) (Nat.le_of_ble_eq_true rfl) (Nat.le_of_ble_eq_true rfl) hlocks (⟨Or.inr ⟨rfl, ia, ib, hia, hib, rfl, rfl, hz0⟩, rfl⟩) (Nat.le_of_ble_eq_true rfl) (Nat.le_of_ble_eq_true rfl)

abbrev wd_X3_entry : List Cond := .code yX3_entry cX3_entry 5 (some .boolean) :: hm_ws
abbrev rm_X3_entry : Room := { frames := 0, cells := 0, slots := 0, locals := 0 }

set_option maxHeartbeats 4000000 in
set_option maxRecDepth 100000 in
/-- entry(i, j, v) -/
theorem c_X3_entry (l : Launch) (E : hm_E) {M : hm_M} {A ad rw : Nat → Nat} {cnt : Nat} {el : Bool} {z : Nat → Int} {t : Nat → Nat → Int64} {a b : Int32} {v : Int64} (hk : xw E M A ad rw cnt el z t)  : hm_Ci l E yX3_entry wd_X3_entry rm_X3_entry [.ref (A 0), .int a, .int b, .long v] M (fun r M1 => (r = 0 ∧ (¬ ∃ i j, i < 12 ∧ j < 12 ∧ a = nI i ∧ b = nI j) ∧ xp E M1 (A 0) cnt (fun j => z (200 + j)) t) ∨ (r = 1 ∧ ∃ i j, i < 12 ∧ j < 12 ∧ a = nI i ∧ b = nI j ∧ xp E M1 (A 0) cnt (fun j => z (200 + j)) (fun x y => if x = i ∧ y = j then v else t x y))) := by
  intro sz
  refine Met.ofW (cc := cX3_entry) (maxL := 5) (ret := (some .boolean)) (by decide) rfl ?_
  intro p e s m args below meth c s₁ B hml hv
  obtain ⟨rfl, hAe, hA, hK, hV⟩ := hm_start hv
  have hx := B.exec
  have hb := B.bytes
  have hr := B.returns
  have hts := atoms_spec (ws := wd_X3_entry) B.pre
  have hws : ∀ w ∈ hm_ws, w.before _ s = true := fun w h => hts w (List.mem_cons_of_mem _ h)
  have hown : s.vm.findClass RX3 = some m.cls := findClass_of_methodNamed B.named
  have hlocks := B.notSynchronized
  have fl21 := hws _ kw_104
  have hl := lv_entry ([.ref (A 0), .int a, .int b, .long v]) (n := 5) (Nat.le_of_ble_eq_true rfl)
  rw [lg_entry_eq]
  generalize (lg_sl ([.ref (A 0), .int a, .int b, .long v]) ++ List.replicate (5 - (lg_sl ([.ref (A 0), .int a, .int b, .long v])).length) Slot.unset).toArray = ls at hl ⊢
  have hl : lv_has ls 5 [(0, .ref (A 0)), (1, .int a), (2, .int b), (3, .long v)] := hl
  refine hm_gen (rm := rm_X3_entry) rfl (fun Qf hQf => ?_)
  have no : (¬ ∃ i j, i < 12 ∧ j < 12 ∧ a = nI i ∧ b = nI j) → ∀ (ls : Array Slot) (H : Heap) (locs : List Loc), lv_has ls 5 [(0, .ref (A 0)), (1, .int a), (2, .int b), (3, .long v)] → hm_V E.1 vwCl (hm_A M sz) s.heap (M) H locs → W p l e rm_X3_entry s m [.ref (A 0), .int a, .int b, .long v].toArray below meth c H locs 0 0 Qf (F0 m 20 ls []) := by
    intro  hno ls H locs hl hV
    refine lv_iconst (v := 0) hx hb dX3_entry_20 (by decide) ?_
    rw [hQf]
    exact W.zret hx hb hr (rfl) (fun t9 ht hW => ⟨⟨_, M, rfl, Or.inl ⟨rfl, hno, xp_of hk (fun _ _ => rfl)⟩, (hm_end hV ht).1⟩, (hm_end hV ht).2⟩) hV.2.2.2.2 dX3_entry_21
  refine lv_iload_n hx hb dX3_entry_0 rfl (lv_at hl 1 rfl) ?_
  refine lv_if_lt (tgt := 20) hx hb dX3_entry_1 (by decide) (fun c1 => ?_) (fun c1 => ?_)
  · exact no (by rintro ⟨i, j, hi, hj, rfl, rfl⟩; exact nI_pos (by omega) c1) ls s.heap [] (lv_sub hl [0, 1, 2, 3] rfl) hV
  · refine lv_iload_n hx hb dX3_entry_4 rfl (lv_at hl 1 rfl) ?_
    refine lv_bipush (v := 12) hx hb dX3_entry_5 (by decide) ?_
    refine lv_icmp_ge (tgt := 20) hx hb dX3_entry_7 (by decide) (fun c7 => ?_) (fun c7 => ?_)
    · exact no (by rintro ⟨i, j, hi, hj, rfl, rfl⟩; exact nI_ge (b := 12) hi (by omega) c7) ls s.heap [] (lv_sub hl [0, 1, 2, 3] rfl) hV
    · refine lv_iload_n hx hb dX3_entry_10 rfl (lv_at hl 2 rfl) ?_
      refine lv_if_lt (tgt := 20) hx hb dX3_entry_11 (by decide) (fun c11 => ?_) (fun c11 => ?_)
      · exact no (by rintro ⟨i, j, hi, hj, rfl, rfl⟩; exact nI_pos (by omega) c11) ls s.heap [] (lv_sub hl [0, 1, 2, 3] rfl) hV
      · refine lv_iload_n hx hb dX3_entry_14 rfl (lv_at hl 2 rfl) ?_
        refine lv_bipush (v := 12) hx hb dX3_entry_15 (by decide) ?_
        refine lv_icmp_lt (tgt := 22) hx hb dX3_entry_17 (by decide) (fun c17 => ?_) (fun c17 => ?_)
        · obtain ⟨i, hi, rfl⟩ := ix12 c1 c7
          obtain ⟨j, hj, rfl⟩ := ix12 c11 (fun h9 => absurd c17 (Int32.not_lt.mpr h9))
          have hl : lv_has ls 5 [(0, .ref (A 0)), (1, .int (nI i)), (2, .int (nI j)), (3, .long v)] := hl
          refine lv_aload_n hx hb dX3_entry_22 rfl (lv_at hl 0 rfl) ?_
          refine hm_get (ci := 5) (v := .ref (A 2)) (C := RX3) (T := TX3) (N := 7) hx hb hws kin_X3 hown hK.1 hV (xw_x hk) rfl 2 (by decide) fl21 (fun _ h9 => h9) rfl dX3_entry_23 ?_
          refine lv_iload_n hx hb dX3_entry_26 rfl (lv_at hl 1 rfl) ?_
          refine hm_aldJN hx hb hK.1 hV 4 (xw_ta hk) rfl (k := i) (by omega) (by omega) dX3_entry_27 ?_
          refine hm_reft (rfl) ?_
          refine lv_iload_n hx hb dX3_entry_28 rfl (lv_at hl 2 rfl) ?_
          refine lv_lload_n hx hb dX3_entry_29 rfl (lv_at hl 3 rfl) ?_
          refine hm_lastN hx hb hK.1 hV 1 (xw_tr hk hi) rfl (k := j) (by omega) (by omega) dX3_entry_30 (fun H locs hV => ?_)
          have hV : hm_V E.1 vwCl (hm_A M sz) s.heap (hm_up M (A (8 + i)) (hm_J E 12 (vp_updL (t i) j v))) H locs := hV
          refine lv_iconst (v := 1) hx hb dX3_entry_31 (by decide) ?_
          rw [hQf]
          exact W.zret hx hb hr (rfl) (fun t9 ht hW => ⟨⟨_, (hm_up M (A (8 + i)) (hm_J E 12 (vp_updL (t i) j v))), rfl, Or.inr ⟨rfl, i, j, hi, hj, rfl, rfl, xp_of (xw_entry hk hi) (fun _ _ => rfl)⟩, (hm_end hV ht).1⟩, (hm_end hV ht).2⟩) hV.2.2.2.2 dX3_entry_32
        · exact no (by rintro ⟨i, j, hi, hj, rfl, rfl⟩; exact c17 (nI_lt (b := 12) hj (by omega))) ls s.heap [] (lv_sub hl [0, 1, 2, 3] rfl) hV
