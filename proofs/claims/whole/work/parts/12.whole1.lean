abbrev wd_X2_isZero : List Cond := .code yX2_isZero cX2_isZero 1 (some .boolean) :: hm_ws
abbrev rm_X2_isZero : Room := { frames := 0, cells := 0, slots := 0, locals := 0 }

set_option maxHeartbeats 4000000 in
set_option maxRecDepth 100000 in
/-- isZero(): has it no limbs -/
theorem c_X2_isZero (l : Launch) (E : hm_E) {M : hm_M} {w la k : Nat} {g : Int32} (hw : M w = some (hm_W la (nI k) g)) (hk : k < 2 ^ 31) : hm_Ci l E yX2_isZero wd_X2_isZero rm_X2_isZero [.ref w] M (fun r M1 => r = (if k = 0 then 1 else 0) ∧ M1 = M) := by
  intro sz
  refine Met.ofW (cc := cX2_isZero) (maxL := 1) (ret := (some .boolean)) (by decide) rfl ?_
  intro p e s m args below meth c s₁ B hml hv
  obtain ⟨rfl, hAe, hA, hK, hV⟩ := hm_start hv
  have hx := B.exec
  have hb := B.bytes
  have hr := B.returns
  have hts := atoms_spec (ws := wd_X2_isZero) B.pre
  have hws : ∀ w ∈ hm_ws, w.before _ s = true := fun w h => hts w (List.mem_cons_of_mem _ h)
  have hown : s.vm.findClass RX2 = some m.cls := findClass_of_methodNamed B.named
  have hlocks := B.notSynchronized
  have fl9 := hws _ kw_73
  have hl := lv_entry ([.ref w]) (n := 1) (Nat.le_of_ble_eq_true rfl)
  rw [lg_entry_eq]
  generalize (lg_sl ([.ref w]) ++ List.replicate (1 - (lg_sl ([.ref w])).length) Slot.unset).toArray = ls at hl ⊢
  have hl : lv_has ls 1 [(0, .ref w)] := hl
  refine hm_gen (rm := rm_X2_isZero) rfl (fun Qf hQf => ?_)
  refine lv_aload_n hx hb dX2_isZero_0 rfl (lv_at hl 0 rfl) ?_
  refine hm_get (ci := 4) (v := .int (nI k)) (C := RX2) (T := TX2) (N := 3) hx hb hws kin_X2 hown hK.1 hV hw rfl 1 (by decide) fl9 (fun _ h9 => h9) rfl dX2_isZero_1 ?_
  refine lv_if_ne (tgt := 11) hx hb dX2_isZero_4 (by decide) (fun c4 => ?_) (fun c4 => ?_)
  · have hc : k ≠ 0 := fun q => c4 (by rw [q]; rfl)
    refine lv_iconst (v := 0) hx hb dX2_isZero_11 (by decide) ?_
    rw [hQf]
    exact W.zret hx hb hr (rfl) (fun t ht hW => ⟨⟨_, _, rfl, ⟨by rw [if_neg hc], rfl⟩, (hm_end hV ht).1⟩, (hm_end hV ht).2⟩) hV.2.2.2.2 dX2_isZero_12
  · have hc : k = 0 := (nI_eq hk (by omega)).mp c4
    refine lv_iconst (v := 1) hx hb dX2_isZero_7 (by decide) ?_
    refine lv_goto (tgt := 12) hx hb dX2_isZero_8 (by decide) ?_
    rw [hQf]
    exact W.zret hx hb hr (rfl) (fun t ht hW => ⟨⟨_, _, rfl, ⟨by rw [if_pos hc], rfl⟩, (hm_end hV ht).1⟩, (hm_end hV ht).2⟩) hV.2.2.2.2 dX2_isZero_12

abbrev wd_X2_fits : List Cond := .code yX2_fits cX2_fits 1 (some .boolean) :: hm_ws
abbrev rm_X2_fits : Room := { frames := 0, cells := 0, slots := 0, locals := 0 }

set_option maxHeartbeats 4000000 in
set_option maxRecDepth 100000 in
/-- fits(): 64 limbs at most -/
theorem c_X2_fits (l : Launch) (E : hm_E) {M : hm_M} {w la k : Nat} {g : Int32} (hw : M w = some (hm_W la (nI k) g)) (hk : k < 2 ^ 31) : hm_Ci l E yX2_fits wd_X2_fits rm_X2_fits [.ref w] M (fun r M1 => r = (if k ≤ 64 then 1 else 0) ∧ M1 = M) := by
  intro sz
  refine Met.ofW (cc := cX2_fits) (maxL := 1) (ret := (some .boolean)) (by decide) rfl ?_
  intro p e s m args below meth c s₁ B hml hv
  obtain ⟨rfl, hAe, hA, hK, hV⟩ := hm_start hv
  have hx := B.exec
  have hb := B.bytes
  have hr := B.returns
  have hts := atoms_spec (ws := wd_X2_fits) B.pre
  have hws : ∀ w ∈ hm_ws, w.before _ s = true := fun w h => hts w (List.mem_cons_of_mem _ h)
  have hown : s.vm.findClass RX2 = some m.cls := findClass_of_methodNamed B.named
  have hlocks := B.notSynchronized
  have fl9 := hws _ kw_73
  have hl := lv_entry ([.ref w]) (n := 1) (Nat.le_of_ble_eq_true rfl)
  rw [lg_entry_eq]
  generalize (lg_sl ([.ref w]) ++ List.replicate (1 - (lg_sl ([.ref w])).length) Slot.unset).toArray = ls at hl ⊢
  have hl : lv_has ls 1 [(0, .ref w)] := hl
  refine hm_gen (rm := rm_X2_fits) rfl (fun Qf hQf => ?_)
  refine lv_aload_n hx hb dX2_fits_0 rfl (lv_at hl 0 rfl) ?_
  refine hm_get (ci := 4) (v := .int (nI k)) (C := RX2) (T := TX2) (N := 3) hx hb hws kin_X2 hown hK.1 hV hw rfl 1 (by decide) fl9 (fun _ h9 => h9) rfl dX2_fits_1 ?_
  refine lv_bipush (v := 64) hx hb dX2_fits_4 (by decide) ?_
  refine lv_icmp_gt (tgt := 13) hx hb dX2_fits_6 (by decide) (fun c6 => ?_) (fun c6 => ?_)
  · have hc : ¬ k ≤ 64 := fun q => absurd c6 (Int32.not_lt.mpr (nI_le (b := 64) q (by omega)))
    refine lv_iconst (v := 0) hx hb dX2_fits_13 (by decide) ?_
    rw [hQf]
    exact W.zret hx hb hr (rfl) (fun t ht hW => ⟨⟨_, _, rfl, ⟨by rw [if_neg hc], rfl⟩, (hm_end hV ht).1⟩, (hm_end hV ht).2⟩) hV.2.2.2.2 dX2_fits_14
  · have hc : k ≤ 64 := (nI_leI (b := 64) hk (by omega)).mp (Int32.not_lt.mp c6)
    refine lv_iconst (v := 1) hx hb dX2_fits_9 (by decide) ?_
    refine lv_goto (tgt := 14) hx hb dX2_fits_10 (by decide) ?_
    rw [hQf]
    exact W.zret hx hb hr (rfl) (fun t ht hW => ⟨⟨_, _, rfl, ⟨by rw [if_pos hc], rfl⟩, (hm_end hV ht).1⟩, (hm_end hV ht).2⟩) hV.2.2.2.2 dX2_fits_14

abbrev wd_X2_limbAt : List Cond := .code yX2_limbAt cX2_limbAt 2 (some .int) :: hm_ws
abbrev rm_X2_limbAt : Room := { frames := 0, cells := 0, slots := 0, locals := 0 }

set_option maxHeartbeats 4000000 in
set_option maxRecDepth 100000 in
/-- limbAt(i): the limb, or 0 beyond -/
theorem c_X2_limbAt (l : Launch) (E : hm_E) {M : hm_M} {w la n k i : Nat} {g : Int32} {d : Nat → Nat} (hw : M w = some (hm_W la (nI k) g)) (ha : M la = some (hm_I E n (fun j => nI (d j)))) (hk : k ≤ n) (hn : n < 2 ^ 31) (hi : i < 2 ^ 31) : hm_Ci l E yX2_limbAt wd_X2_limbAt rm_X2_limbAt [.ref w, .int (nI i)] M (fun r M1 => r = nI (if i < k then d i else 0) ∧ M1 = M) := by
  intro sz
  refine Met.ofW (cc := cX2_limbAt) (maxL := 2) (ret := (some .int)) (by decide) rfl ?_
  intro p e s m args below meth c s₁ B hml hv
  obtain ⟨rfl, hAe, hA, hK, hV⟩ := hm_start hv
  have hx := B.exec
  have hb := B.bytes
  have hr := B.returns
  have hts := atoms_spec (ws := wd_X2_limbAt) B.pre
  have hws : ∀ w ∈ hm_ws, w.before _ s = true := fun w h => hts w (List.mem_cons_of_mem _ h)
  have hown : s.vm.findClass RX2 = some m.cls := findClass_of_methodNamed B.named
  have hlocks := B.notSynchronized
  have fl9 := hws _ kw_73
  have fl25 := hws _ kw_71
  have hl := lv_entry ([.ref w, .int (nI i)]) (n := 2) (Nat.le_of_ble_eq_true rfl)
  rw [lg_entry_eq]
  generalize (lg_sl ([.ref w, .int (nI i)]) ++ List.replicate (2 - (lg_sl ([.ref w, .int (nI i)])).length) Slot.unset).toArray = ls at hl ⊢
  have hl : lv_has ls 2 [(0, .ref w), (1, .int (nI i))] := hl
  refine hm_gen (rm := rm_X2_limbAt) rfl (fun Qf hQf => ?_)
  refine lv_iload_n hx hb dX2_limbAt_0 rfl (lv_at hl 1 rfl) ?_
  refine lv_if_lt (tgt := 21) hx hb dX2_limbAt_1 (by decide) (fun c1 => ?_) (fun c1 => ?_)
  · exact absurd c1 (nI_pos hi)
  · refine lv_iload_n hx hb dX2_limbAt_4 rfl (lv_at hl 1 rfl) ?_
    refine lv_aload_n hx hb dX2_limbAt_5 rfl (lv_at hl 0 rfl) ?_
    refine hm_get (ci := 4) (v := .int (nI k)) (C := RX2) (T := TX2) (N := 3) hx hb hws kin_X2 hown hK.1 hV hw rfl 1 (by decide) fl9 (fun _ h9 => h9) rfl dX2_limbAt_6 ?_
    refine lv_icmp_ge (tgt := 21) hx hb dX2_limbAt_9 (by decide) (fun c9 => ?_) (fun c9 => ?_)
    · have hc : ¬ i < k := fun q => absurd c9 (nI_ge q (by omega))
      refine lv_iconst (v := 0) hx hb dX2_limbAt_21 (by decide) ?_
      rw [hQf]
      exact W.iret hx hb hr (fun t ht hW => ⟨⟨_, _, rfl, ⟨by rw [if_neg hc]; rfl, rfl⟩, (hm_end hV ht).1⟩, (hm_end hV ht).2⟩) hV.2.2.2.2 dX2_limbAt_22
    · have hc : i < k := by
        rcases Nat.lt_or_ge i k with q | q
        · exact q
        · exact absurd (nI_le q hi) c9
      refine lv_aload_n hx hb dX2_limbAt_12 rfl (lv_at hl 0 rfl) ?_
      refine hm_get (ci := 4) (v := .ref la) (C := RX2) (T := TX2) (N := 3) hx hb hws kin_X2 hown hK.1 hV hw rfl 0 (by decide) fl25 (fun _ h9 => h9) rfl dX2_limbAt_13 ?_
      refine lv_iload_n hx hb dX2_limbAt_16 rfl (lv_at hl 1 rfl) ?_
      refine hm_ialdN hx hb hK.1 hV 0 ha rfl (k := i) (by omega) (by omega) dX2_limbAt_17 ?_
      refine lv_goto (tgt := 22) hx hb dX2_limbAt_18 (by decide) ?_
      rw [hQf]
      exact W.iret hx hb hr (fun t ht hW => ⟨⟨_, _, rfl, ⟨by rw [if_pos hc], rfl⟩, (hm_end hV ht).1⟩, (hm_end hV ht).2⟩) hV.2.2.2.2 dX2_limbAt_22

abbrev wd_X2_finish : List Cond := .code yX2_finish cX2_finish 3 none :: hm_ws
abbrev rm_X2_finish : Room := { frames := 0, cells := 0, slots := 0, locals := 0 }

set_option maxHeartbeats 4000000 in
set_option maxRecDepth 100000 in
/-- finish(top, sign): the limbs in use, the sign -/
theorem c_X2_finish (l : Launch) (E : hm_E) {M : hm_M} {w la n t : Nat} {k0 g0 sg : Int32} {d : Nat → Nat} (hw : M w = some (hm_W la k0 g0)) (ha : M la = some (hm_I E n (fun j => nI (d j)))) (ht : t ≤ n) (hn : n < 2 ^ 31) (hd : ∀ j, j < t → d j < 2 ^ 31) : hm_Cv l E yX2_finish wd_X2_finish rm_X2_finish [.ref w, .int (nI t), .int sg] M (fun M1 => M1 = hm_up M w (hm_W la (nI (nu_k d t)) (if sg = 0 then 0 else if nu_k d t = 0 then 0 else 1))) := by
  intro sz
  refine Met.ofW (cc := cX2_finish) (maxL := 3) (ret := none) (by decide) rfl ?_
  intro p e s m args below meth c s₁ B hml hv
  obtain ⟨rfl, hAe, hA, hK, hV⟩ := hm_start hv
  have hx := B.exec
  have hb := B.bytes
  have hr := B.returns
  have hts := atoms_spec (ws := wd_X2_finish) B.pre
  have hws : ∀ w ∈ hm_ws, w.before _ s = true := fun w h => hts w (List.mem_cons_of_mem _ h)
  have hown : s.vm.findClass RX2 = some m.cls := findClass_of_methodNamed B.named
  have hlocks := B.notSynchronized
  have fl9 := hws _ kw_73
  have fl25 := hws _ kw_71
  have fl15 := hws _ kw_76
  have hl := lv_entry ([.ref w, .int (nI t), .int sg]) (n := 3) (Nat.le_of_ble_eq_true rfl)
  rw [lg_entry_eq]
  generalize (lg_sl ([.ref w, .int (nI t), .int sg]) ++ List.replicate (3 - (lg_sl ([.ref w, .int (nI t), .int sg])).length) Slot.unset).toArray = ls at hl ⊢
  have hl : lv_has ls 3 [(0, .ref w), (1, .int (nI t)), (2, .int sg)] := hl
  refine hm_gen (rm := rm_X2_finish) rfl (fun Qf hQf => ?_)
  have h_w_la : hm_ap w la := hm_oa hw ha
  refine lv_aload_n hx hb dX2_finish_0 rfl (lv_at hl 0 rfl) ?_
  refine lv_iload_n hx hb dX2_finish_1 rfl (lv_at hl 1 rfl) ?_
  refine hm_put (ci := 4) (v := .int (nI t)) (ty := .int) (C := RX2) (T := TX2) (N := 3) hx hb hws kin_X2 tyX2 tyX2_ok nmX2 hown hK.1 hV hw rfl 1 (by decide) fl9 (fun _ h9 => h9) rfl (by decide +kernel) rfl rfl (Nat.le_of_ble_eq_true rfl) dX2_finish_2 (fun H locs hV => ?_)
  have hV : hm_V E.1 vwCl (hm_A M sz) s.heap (hm_up M w (.inr (4, [.ref la, .int (nI t), .int g0]))) H locs := hV
  have tail : ∀ (k : Nat), (k = nu_k d t) → ∀ (ls : Array Slot) (H : Heap) (locs : List Loc), lv_has ls 3 [(0, .ref w), (1, .int (nI t)), (2, .int sg)] → hm_V E.1 vwCl (hm_A M sz) s.heap (hm_up M w (.inr (4, [.ref la, .int (nI k), .int g0]))) H locs → W p l e rm_X2_finish s m [.ref w, .int (nI t), .int sg].toArray below meth c H locs 0 0 Qf (F0 m 39 ls []) := by
    intro k hk ls H locs hl hV
    have hkt : k ≤ t := by rw [hk]; exact nu_k_le d t
    refine lv_aload_n hx hb dX2_finish_39 rfl (lv_at hl 0 rfl) ?_
    refine lv_iload_n hx hb dX2_finish_40 rfl (lv_at hl 2 rfl) ?_
    refine lv_if_eq (tgt := 55) hx hb dX2_finish_41 (by decide) (fun c41 => ?_) (fun c41 => ?_)
    · refine lv_iconst (v := 0) hx hb dX2_finish_55 (by decide) ?_
      refine hm_put (ci := 4) (v := .int 0) (ty := .boolean) (C := RX2) (T := TX2) (N := 3) hx hb hws kin_X2 tyX2 tyX2_ok nmX2 hown hK.1 hV (hm_up_self _ _ _) rfl 2 (by decide) fl15 (fun _ h9 => h9) rfl (by decide +kernel) rfl rfl (Nat.le_of_ble_eq_true rfl) dX2_finish_56 (fun H locs hV => ?_)
      rw [hm_u0] at hV
      have hV : hm_V E.1 vwCl (hm_A M sz) s.heap (hm_up M w (.inr (4, [.ref la, .int (nI k), .int 0]))) H locs := hV
      rw [hQf]
      exact W.vret hx hb hr (fun t ht hW => ⟨⟨_, rfl, by rw [← hk, if_pos c41], (hm_end hV ht).1⟩, (hm_end hV ht).2⟩) hV.2.2.2.2 dX2_finish_59
    · refine lv_aload_n hx hb dX2_finish_44 rfl (lv_at hl 0 rfl) ?_
      refine hm_get (ci := 4) (v := .int (nI k)) (C := RX2) (T := TX2) (N := 3) hx hb hws kin_X2 hown hK.1 hV (hm_up_self _ _ _) rfl 1 (by decide) fl9 (fun _ h9 => h9) rfl dX2_finish_45 ?_
      refine lv_if_le (tgt := 55) hx hb dX2_finish_48 (by decide) (fun c48 => ?_) (fun c48 => ?_)
      · have hc : k = 0 := by
          rcases Nat.eq_zero_or_pos k with q | q
          · exact q
          · exact absurd c48 (nI_nle q (by omega))
        refine lv_iconst (v := 0) hx hb dX2_finish_55 (by decide) ?_
        refine hm_put (ci := 4) (v := .int 0) (ty := .boolean) (C := RX2) (T := TX2) (N := 3) hx hb hws kin_X2 tyX2 tyX2_ok nmX2 hown hK.1 hV (hm_up_self _ _ _) rfl 2 (by decide) fl15 (fun _ h9 => h9) rfl (by decide +kernel) rfl rfl (Nat.le_of_ble_eq_true rfl) dX2_finish_56 (fun H locs hV => ?_)
        rw [hm_u0] at hV
        have hV : hm_V E.1 vwCl (hm_A M sz) s.heap (hm_up M w (.inr (4, [.ref la, .int (nI k), .int 0]))) H locs := hV
        rw [hQf]
        exact W.vret hx hb hr (fun t ht hW => ⟨⟨_, rfl, by rw [← hk, if_neg c41, if_pos hc], (hm_end hV ht).1⟩, (hm_end hV ht).2⟩) hV.2.2.2.2 dX2_finish_59
      · have hc : k ≠ 0 := fun q => c48 (by rw [q]; exact Int32.le_refl _)
        refine lv_iconst (v := 1) hx hb dX2_finish_51 (by decide) ?_
        refine lv_goto (tgt := 56) hx hb dX2_finish_52 (by decide) ?_
        refine hm_put (ci := 4) (v := .int 1) (ty := .boolean) (C := RX2) (T := TX2) (N := 3) hx hb hws kin_X2 tyX2 tyX2_ok nmX2 hown hK.1 hV (hm_up_self _ _ _) rfl 2 (by decide) fl15 (fun _ h9 => h9) rfl (by decide +kernel) rfl rfl (Nat.le_of_ble_eq_true rfl) dX2_finish_56 (fun H locs hV => ?_)
        rw [hm_u0] at hV
        have hV : hm_V E.1 vwCl (hm_A M sz) s.heap (hm_up M w (.inr (4, [.ref la, .int (nI k), .int 1]))) H locs := hV
        rw [hQf]
        exact W.vret hx hb hr (fun t ht hW => ⟨⟨_, rfl, by rw [← hk, if_neg c41, if_neg hc], (hm_end hV ht).1⟩, (hm_end hV ht).2⟩) hV.2.2.2.2 dX2_finish_59
  have loop : ∀ (fu : Nat) (k : Nat), (k ≤ t) → (nu_k d k = nu_k d t) → k < fu → ∀ (ls : Array Slot) (H : Heap) (locs : List Loc), lv_has ls 3 [(0, .ref w), (1, .int (nI t)), (2, .int sg)] → hm_V E.1 vwCl (hm_A M sz) s.heap (hm_up M w (.inr (4, [.ref la, .int (nI k), .int g0]))) H locs → W p l e rm_X2_finish s m [.ref w, .int (nI t), .int sg].toArray below meth c H locs 0 0 Qf (F0 m 5 ls []) := by
    intro fu
    induction fu with
    | zero => intro k hk he hfu; exact absurd hfu (Nat.not_lt_zero _)
    | succ fu ih_loop =>
      intro k hk he hfu ls H locs hl hV
      refine lv_aload_n hx hb dX2_finish_5 rfl (lv_at hl 0 rfl) ?_
      refine hm_get (ci := 4) (v := .int (nI k)) (C := RX2) (T := TX2) (N := 3) hx hb hws kin_X2 hown hK.1 hV (hm_up_self _ _ _) rfl 1 (by decide) fl9 (fun _ h9 => h9) rfl dX2_finish_6 ?_
      refine lv_if_le (tgt := 39) hx hb dX2_finish_9 (by decide) (fun c9 => ?_) (fun c9 => ?_)
      · have hc : k = 0 := by
          rcases Nat.eq_zero_or_pos k with q | q
          · exact q
          · exact absurd c9 (nI_nle q (by omega))
        exact tail k (by rw [← he, hc]; rfl) ls H locs (lv_sub hl [0, 1, 2] rfl) hV
      · obtain ⟨j, rfl⟩ : ∃ j, k = j + 1 := ⟨k - 1, by
          have : k ≠ 0 := fun q => c9 (by rw [q]; exact Int32.le_refl _)
          omega⟩
        refine lv_aload_n hx hb dX2_finish_12 rfl (lv_at hl 0 rfl) ?_
        refine hm_get (ci := 4) (v := .ref la) (C := RX2) (T := TX2) (N := 3) hx hb hws kin_X2 hown hK.1 hV (hm_up_self _ _ _) rfl 0 (by decide) fl25 (fun _ h9 => h9) rfl dX2_finish_13 ?_
        refine lv_aload_n hx hb dX2_finish_16 rfl (lv_at hl 0 rfl) ?_
        refine hm_get (ci := 4) (v := .int (nI (j + 1))) (C := RX2) (T := TX2) (N := 3) hx hb hws kin_X2 hown hK.1 hV (hm_up_self _ _ _) rfl 1 (by decide) fl9 (fun _ h9 => h9) rfl dX2_finish_17 ?_
        refine lv_iconst (v := 1) hx hb dX2_finish_20 (by decide) ?_
        refine lv_isub hx hb dX2_finish_21 ?_
        refine hm_topi (show ((nI (j + 1)) - 1) = nI j from nI_pred j) ?_
        refine hm_ialdN hx hb hK.1 hV 0 ((hm_up_ne _ _ (Ne.symm h_w_la)).trans ha) rfl (k := j) (by omega) (by omega) dX2_finish_22 ?_
        refine lv_if_ne (tgt := 39) hx hb dX2_finish_23 (by decide) (fun c23 => ?_) (fun c23 => ?_)
        · have hc : d j ≠ 0 := fun q => c23 (by rw [q]; rfl)
          exact tail (j + 1) (by rw [← he, nu_k, if_neg hc]) ls H locs (lv_sub hl [0, 1, 2] rfl) hV
        · have hc : d j = 0 := (nI_eq (hd j (by omega)) (by omega)).mp c23
          refine lv_aload_n hx hb dX2_finish_26 rfl (lv_at hl 0 rfl) ?_
          refine lv_dup hx hb dX2_finish_27 rfl ?_
          refine hm_get (ci := 4) (v := .int (nI (j + 1))) (C := RX2) (T := TX2) (N := 3) hx hb hws kin_X2 hown hK.1 hV (hm_up_self _ _ _) rfl 1 (by decide) fl9 (fun _ h9 => h9) rfl dX2_finish_28 ?_
          refine lv_iconst (v := 1) hx hb dX2_finish_31 (by decide) ?_
          refine lv_isub hx hb dX2_finish_32 ?_
          refine hm_topi (show ((nI (j + 1)) - 1) = nI j from nI_pred j) ?_
          refine hm_put (ci := 4) (v := .int (nI j)) (ty := .int) (C := RX2) (T := TX2) (N := 3) hx hb hws kin_X2 tyX2 tyX2_ok nmX2 hown hK.1 hV (hm_up_self _ _ _) rfl 1 (by decide) fl9 (fun _ h9 => h9) rfl (by decide +kernel) rfl rfl (Nat.le_of_ble_eq_true rfl) dX2_finish_33 (fun H locs hV => ?_)
          rw [hm_u0] at hV
          have hV : hm_V E.1 vwCl (hm_A M sz) s.heap (hm_up M w (.inr (4, [.ref la, .int (nI j), .int g0]))) H locs := hV
          refine lv_goto (tgt := 5) hx hb dX2_finish_36 (by decide) ?_
          exact ih_loop j (by omega) (by rw [← he, nu_k, if_pos hc]) (by omega) ls H locs (lv_sub hl [0, 1, 2] rfl) hV
  exact loop (t + 1) t (Nat.le_refl t) rfl (Nat.lt_succ_self t) ls H locs (lv_sub hl [0, 1, 2] rfl) hV
