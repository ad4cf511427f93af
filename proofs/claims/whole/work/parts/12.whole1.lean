abbrev wd_X2_isZero : List Cond := .code yX2_isZero cX2_isZero 1 (some .boolean) :: hm_ws
abbrev rm_X2_isZero : Room := { frames := 0, cells := 0, slots := 0, locals := 0 }

set_option maxHeartbeats 4000000 in
set_option maxRecDepth 100000 in
/-- isZero(): has it no limbs -/
theorem c_X2_isZero (l : Launch) (E : hm_E) {M : hm_M} {w la k : Nat} {g : Int32} (hw : M w = some (hm_W la (nI k) g)) (hk : k < 2 ^ 31) : hm_Ci l E yX2_isZero wd_X2_isZero rm_X2_isZero [.ref w] M (fun r M1 => r = (if k = 0 then 1 else 0) ∧ M1 = M) := by
  intro sz
  refine Met.ofW (cc := cX2_isZero) (maxL := 1) (ret := (some .boolean)) (by decide) rfl ?_
  intro p e s m args below meth c s₁ B hml hv
  obtain ⟨rfl, hAe, hA, hK, hV⟩ := hm_start hv
  have hx := B.exec
  have hb := B.bytes
  have hr := B.returns
  have hts := atoms_spec (ws := wd_X2_isZero) B.pre
  have hws : ∀ w ∈ hm_ws, w.before _ s = true := fun w h => hts w (List.mem_cons_of_mem _ h)
  have hown : s.vm.findClass RX2 = some m.cls := findClass_of_methodNamed B.named
  have hlocks := B.notSynchronized
  have fl9 := hws _ kw_73
  have hl := lv_entry ([.ref w]) (n := 1) (Nat.le_of_ble_eq_true rfl)
  rw [lg_entry_eq]
  generalize (lg_sl ([.ref w]) ++ List.replicate (1 - (lg_sl ([.ref w])).length) Slot.unset).toArray = ls at hl ⊢
  have hl : lv_has ls 1 [(0, .ref w)] := hl
  refine lv_aload_n hx hb dX2_isZero_0 rfl (lv_at hl 0 rfl) ?_
  refine hm_get (ci := 4) (v := .int (nI k)) (C := RX2) (T := TX2) (N := 3) hx hb hws kin_X2 hown hK.1 hV hw rfl 1 (by decide) fl9 (fun _ h9 => h9) rfl dX2_isZero_1 ?_
  refine lv_if_ne (tgt := 11) hx hb dX2_isZero_4 (by decide) (fun c4 => ?_) (fun c4 => ?_)
  · have hc : k ≠ 0 := fun q => c4 (by rw [q]; rfl)
    refine lv_iconst (v := 0) hx hb dX2_isZero_11 (by decide) ?_
    exact W.zret hx hb hr (rfl) (fun t ht hW => ⟨⟨_, _, rfl, ⟨by rw [if_neg hc], rfl⟩, (hm_end hV ht).1⟩, (hm_end hV ht).2⟩) hV.2.2.2.2 dX2_isZero_12
  · have hc : k = 0 := (nI_eq hk (by omega)).mp (Classical.not_not.mp c4)
    refine lv_iconst (v := 1) hx hb dX2_isZero_7 (by decide) ?_
    refine lv_goto (tgt := 12) hx hb dX2_isZero_8 (by decide) ?_
    exact W.zret hx hb hr (rfl) (fun t ht hW => ⟨⟨_, _, rfl, ⟨by rw [if_pos hc], rfl⟩, (hm_end hV ht).1⟩, (hm_end hV ht).2⟩) hV.2.2.2.2 dX2_isZero_12

abbrev wd_X2_fits : List Cond := .code yX2_fits cX2_fits 1 (some .boolean) :: hm_ws
abbrev rm_X2_fits : Room := { frames := 0, cells := 0, slots := 0, locals := 0 }

set_option maxHeartbeats 4000000 in
set_option maxRecDepth 100000 in
/-- fits(): 64 limbs at most -/
theorem c_X2_fits (l : Launch) (E : hm_E) {M : hm_M} {w la k : Nat} {g : Int32} (hw : M w = some (hm_W la (nI k) g)) (hk : k < 2 ^ 31) : hm_Ci l E yX2_fits wd_X2_fits rm_X2_fits [.ref w] M (fun r M1 => r = (if k ≤ 64 then 1 else 0) ∧ M1 = M) := by
  intro sz
  refine Met.ofW (cc := cX2_fits) (maxL := 1) (ret := (some .boolean)) (by decide) rfl ?_
  intro p e s m args below meth c s₁ B hml hv
  obtain ⟨rfl, hAe, hA, hK, hV⟩ := hm_start hv
  have hx := B.exec
  have hb := B.bytes
  have hr := B.returns
  have hts := atoms_spec (ws := wd_X2_fits) B.pre
  have hws : ∀ w ∈ hm_ws, w.before _ s = true := fun w h => hts w (List.mem_cons_of_mem _ h)
  have hown : s.vm.findClass RX2 = some m.cls := findClass_of_methodNamed B.named
  have hlocks := B.notSynchronized
  have fl9 := hws _ kw_73
  have hl := lv_entry ([.ref w]) (n := 1) (Nat.le_of_ble_eq_true rfl)
  rw [lg_entry_eq]
  generalize (lg_sl ([.ref w]) ++ List.replicate (1 - (lg_sl ([.ref w])).length) Slot.unset).toArray = ls at hl ⊢
  have hl : lv_has ls 1 [(0, .ref w)] := hl
  refine lv_aload_n hx hb dX2_fits_0 rfl (lv_at hl 0 rfl) ?_
  refine hm_get (ci := 4) (v := .int (nI k)) (C := RX2) (T := TX2) (N := 3) hx hb hws kin_X2 hown hK.1 hV hw rfl 1 (by decide) fl9 (fun _ h9 => h9) rfl dX2_fits_1 ?_
  refine lv_bipush (v := 64) hx hb dX2_fits_4 (by decide) ?_
  refine lv_icmp_gt (tgt := 13) hx hb dX2_fits_6 (by decide) (fun c6 => ?_) (fun c6 => ?_)
  · have hc : ¬ k ≤ 64 := fun q => absurd c6 (Int32.not_lt.mpr (nI_le (b := 64) q (by omega)))
    refine lv_iconst (v := 0) hx hb dX2_fits_13 (by decide) ?_
    exact W.zret hx hb hr (rfl) (fun t ht hW => ⟨⟨_, _, rfl, ⟨by rw [if_neg hc], rfl⟩, (hm_end hV ht).1⟩, (hm_end hV ht).2⟩) hV.2.2.2.2 dX2_fits_14
  · have hc : k ≤ 64 := (nI_leI (b := 64) hk (by omega)).mp (Int32.not_lt.mp c6)
    refine lv_iconst (v := 1) hx hb dX2_fits_9 (by decide) ?_
    refine lv_goto (tgt := 14) hx hb dX2_fits_10 (by decide) ?_
    exact W.zret hx hb hr (rfl) (fun t ht hW => ⟨⟨_, _, rfl, ⟨by rw [if_pos hc], rfl⟩, (hm_end hV ht).1⟩, (hm_end hV ht).2⟩) hV.2.2.2.2 dX2_fits_14

abbrev wd_X2_limbAt : List Cond := .code yX2_limbAt cX2_limbAt 2 (some .int) :: hm_ws
abbrev rm_X2_limbAt : Room := { frames := 0, cells := 0, slots := 0, locals := 0 }

set_option maxHeartbeats 4000000 in
set_option maxRecDepth 100000 in
/-- limbAt(i): the limb, or 0 beyond -/
theorem c_X2_limbAt (l : Launch) (E : hm_E) {M : hm_M} {w la n k i : Nat} {g : Int32} {d : Nat → Nat} (hw : M w = some (hm_W la (nI k) g)) (ha : M la = some (hm_I E n (fun j => nI (d j)))) (hk : k ≤ n) (hn : n < 2 ^ 31) (hi : i < 2 ^ 31) : hm_Ci l E yX2_limbAt wd_X2_limbAt rm_X2_limbAt [.ref w, .int (nI i)] M (fun r M1 => r = nI (if i < k then d i else 0) ∧ M1 = M) := by
  intro sz
  refine Met.ofW (cc := cX2_limbAt) (maxL := 2) (ret := (some .int)) (by decide) rfl ?_
  intro p e s m args below meth c s₁ B hml hv
  obtain ⟨rfl, hAe, hA, hK, hV⟩ := hm_start hv
  have hx := B.exec
  have hb := B.bytes
  have hr := B.returns
  have hts := atoms_spec (ws := wd_X2_limbAt) B.pre
  have hws : ∀ w ∈ hm_ws, w.before _ s = true := fun w h => hts w (List.mem_cons_of_mem _ h)
  have hown : s.vm.findClass RX2 = some m.cls := findClass_of_methodNamed B.named
  have hlocks := B.notSynchronized
  have fl9 := hws _ kw_73
  have fl25 := hws _ kw_71
  have hl := lv_entry ([.ref w, .int (nI i)]) (n := 2) (Nat.le_of_ble_eq_true rfl)
  rw [lg_entry_eq]
  generalize (lg_sl ([.ref w, .int (nI i)]) ++ List.replicate (2 - (lg_sl ([.ref w, .int (nI i)])).length) Slot.unset).toArray = ls at hl ⊢
  have hl : lv_has ls 2 [(0, .ref w), (1, .int (nI i))] := hl
  refine lv_iload_n hx hb dX2_limbAt_0 rfl (lv_at hl 1 rfl) ?_
  refine lv_if_lt (tgt := 21) hx hb dX2_limbAt_1 (by decide) (fun c1 => ?_) (fun c1 => ?_)
  · exact absurd c1 (nI_pos hi)
  · refine lv_iload_n hx hb dX2_limbAt_4 rfl (lv_at hl 1 rfl) ?_
    refine lv_aload_n hx hb dX2_limbAt_5 rfl (lv_at hl 0 rfl) ?_
    refine hm_get (ci := 4) (v := .int (nI k)) (C := RX2) (T := TX2) (N := 3) hx hb hws kin_X2 hown hK.1 hV hw rfl 1 (by decide) fl9 (fun _ h9 => h9) rfl dX2_limbAt_6 ?_
    refine lv_icmp_ge (tgt := 21) hx hb dX2_limbAt_9 (by decide) (fun c9 => ?_) (fun c9 => ?_)
    · have hc : ¬ i < k := fun q => absurd c9 (nI_ge q (by omega))
      refine lv_iconst (v := 0) hx hb dX2_limbAt_21 (by decide) ?_
      exact W.iret hx hb hr (fun t ht hW => ⟨⟨_, _, rfl, ⟨by rw [if_neg hc]; rfl, rfl⟩, (hm_end hV ht).1⟩, (hm_end hV ht).2⟩) hV.2.2.2.2 dX2_limbAt_22
    · have hc : i < k := by
        rcases Nat.lt_or_ge i k with q | q
        · exact q
        · exact absurd (nI_le q hi) c9
      refine lv_aload_n hx hb dX2_limbAt_12 rfl (lv_at hl 0 rfl) ?_
      refine hm_get (ci := 4) (v := .ref la) (C := RX2) (T := TX2) (N := 3) hx hb hws kin_X2 hown hK.1 hV hw rfl 0 (by decide) fl25 (fun _ h9 => h9) rfl dX2_limbAt_13 ?_
      refine lv_iload_n hx hb dX2_limbAt_16 rfl (lv_at hl 1 rfl) ?_
      refine hm_ialdN hx hb hK.1 hV 0 ha rfl (k := i) (by omega) (by omega) dX2_limbAt_17 ?_
      refine lv_goto (tgt := 22) hx hb dX2_limbAt_18 (by decide) ?_
      exact W.iret hx hb hr (fun t ht hW => ⟨⟨_, _, rfl, ⟨by rw [if_pos hc], rfl⟩, (hm_end hV ht).1⟩, (hm_end hV ht).2⟩) hV.2.2.2.2 dX2_limbAt_22

abbrev wd_X2_finish : List Cond := .code yX2_finish cX2_finish 3 none :: hm_ws
abbrev rm_X2_finish : Room := { frames := 0, cells := 0, slots := 0, locals := 0 }
