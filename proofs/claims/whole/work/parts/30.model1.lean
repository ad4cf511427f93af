abbrev wd_X4_thrown : List Cond := .code yX4_thrown cX4_thrown 1 (some .int) :: hm_ws
abbrev rm_X4_thrown : Room := { frames := 0, cells := 0, slots := 0, locals := 0 }

set_option maxHeartbeats 4000000 in
set_option maxRecDepth 100000 in
/-- thrown() -/
theorem c_X4_thrown (l : Launch) (E : hm_E) {M : hm_M} {A : Nat → Nat} {th : Int32} {cnt k ko : Nat} {nums : Nat → Int} {t : Nat → Nat → Int64} {X O : Nat → Int32} (hk : md E M A th cnt k ko nums t X O)  : hm_Ci l E yX4_thrown wd_X4_thrown rm_X4_thrown [.ref (A 0)] M (fun r M1 => r = th ∧ M1 = M) := by
  intro sz
  refine Met.ofW (cc := cX4_thrown) (maxL := 1) (ret := (some .int)) (by decide) rfl ?_
  intro p e s m args below meth c s₁ B hml hv
  obtain ⟨rfl, hAe, hA, hK, hV⟩ := hm_start hv
  have hx := B.exec
  have hb := B.bytes
  have hr := B.returns
  have hts := atoms_spec (ws := wd_X4_thrown) B.pre
  have hws : ∀ w ∈ hm_ws, w.before _ s = true := fun w h => hts w (List.mem_cons_of_mem _ h)
  have hown : s.vm.findClass RX4 = some m.cls := findClass_of_methodNamed B.named
  have hlocks := B.notSynchronized
  have fl49 := hws _ kw_479
  have hl := lv_entry ([.ref (A 0)]) (n := 1) (Nat.le_of_ble_eq_true rfl)
  rw [lg_entry_eq]
  generalize (lg_sl ([.ref (A 0)]) ++ List.replicate (1 - (lg_sl ([.ref (A 0)])).length) Slot.unset).toArray = ls at hl ⊢
  have hl : lv_has ls 1 [(0, .ref (A 0))] := hl
  refine hm_gen (rm := rm_X4_thrown) rfl (fun Qf hQf => ?_)
  refine lv_aload_n hx hb dX4_thrown_0 rfl (lv_at hl 0 rfl) ?_
  refine hm_get (ci := 6) (v := .int th) (C := RX4) (T := TX4) (N := 16) hx hb hws kin_X4 hown hK.1 hV (md_x hk) rfl 0 (by decide) fl49 (fun _ h9 => h9) rfl dX4_thrown_1 ?_
  rw [hQf]
  exact W.iret hx hb hr (fun t ht hW => ⟨⟨_, M, rfl, ⟨rfl, rfl⟩, (hm_end hV ht).1⟩, (hm_end hV ht).2⟩) hV.2.2.2.2 dX4_thrown_4

abbrev wd_X4_isKnown : List Cond := .code yX4_isKnown cX4_isKnown 2 (some .boolean) :: hm_ws
abbrev rm_X4_isKnown : Room := { frames := 0, cells := 0, slots := 0, locals := 0 }

set_option maxHeartbeats 4000000 in
set_option maxRecDepth 100000 in
/-- isKnown(a) -/
theorem c_X4_isKnown (l : Launch) (E : hm_E) {M : hm_M} {A : Nat → Nat} {th : Int32} {cnt k ko : Nat} {nums : Nat → Int} {t : Nat → Nat → Int64} {X O : Nat → Int32} {a : Int32} (hk : md E M A th cnt k ko nums t X O)  : hm_Ci l E yX4_isKnown wd_X4_isKnown rm_X4_isKnown [.ref (A 0), .int a] M (fun r M1 => ((r = 1 ∧ kn cnt a) ∨ (r = 0 ∧ ¬ kn cnt a)) ∧ M1 = M) := by
  intro sz
  refine Met.ofW (cc := cX4_isKnown) (maxL := 2) (ret := (some .boolean)) (by decide) rfl ?_
  intro p e s m args below meth c s₁ B hml hv
  obtain ⟨rfl, hAe, hA, hK, hV⟩ := hm_start hv
  have hx := B.exec
  have hb := B.bytes
  have hr := B.returns
  have hts := atoms_spec (ws := wd_X4_isKnown) B.pre
  have hws : ∀ w ∈ hm_ws, w.before _ s = true := fun w h => hts w (List.mem_cons_of_mem _ h)
  have hown : s.vm.findClass RX4 = some m.cls := findClass_of_methodNamed B.named
  have hlocks := B.notSynchronized
  have fl53 := hws _ kw_480
  have hl := lv_entry ([.ref (A 0), .int a]) (n := 2) (Nat.le_of_ble_eq_true rfl)
  rw [lg_entry_eq]
  generalize (lg_sl ([.ref (A 0), .int a]) ++ List.replicate (2 - (lg_sl ([.ref (A 0), .int a])).length) Slot.unset).toArray = ls at hl ⊢
  have hl : lv_has ls 2 [(0, .ref (A 0)), (1, .int a)] := hl
  refine hm_gen (rm := rm_X4_isKnown) rfl (fun Qf hQf => ?_)
  have hc := md_c hk
  refine lv_iload_n hx hb dX4_isKnown_0 rfl (lv_at hl 1 rfl) ?_
  refine lv_if_lt (tgt := 16) hx hb dX4_isKnown_1 (by decide) (fun c1 => ?_) (fun c1 => ?_)
  · refine lv_iconst (v := 0) hx hb dX4_isKnown_16 (by decide) ?_
    rw [hQf]
    exact W.zret hx hb hr (rfl) (fun t ht hW => ⟨⟨_, M, rfl, ⟨Or.inr ⟨rfl, kn_n1 hc c1⟩, rfl⟩, (hm_end hV ht).1⟩, (hm_end hV ht).2⟩) hV.2.2.2.2 dX4_isKnown_17
  · refine lv_iload_n hx hb dX4_isKnown_4 rfl (lv_at hl 1 rfl) ?_
    refine lv_aload_n hx hb dX4_isKnown_5 rfl (lv_at hl 0 rfl) ?_
    refine hm_get (ci := 6) (v := .int (nI cnt)) (C := RX4) (T := TX4) (N := 16) hx hb hws kin_X4 hown hK.1 hV (md_x hk) rfl 1 (by decide) fl53 (fun _ h9 => h9) rfl dX4_isKnown_6 ?_
    refine lv_icmp_ge (tgt := 16) hx hb dX4_isKnown_9 (by decide) (fun c9 => ?_) (fun c9 => ?_)
    · refine lv_iconst (v := 0) hx hb dX4_isKnown_16 (by decide) ?_
      rw [hQf]
      exact W.zret hx hb hr (rfl) (fun t ht hW => ⟨⟨_, M, rfl, ⟨Or.inr ⟨rfl, kn_n2 hc c9⟩, rfl⟩, (hm_end hV ht).1⟩, (hm_end hV ht).2⟩) hV.2.2.2.2 dX4_isKnown_17
    · refine lv_iconst (v := 1) hx hb dX4_isKnown_12 (by decide) ?_
      refine lv_goto (tgt := 17) hx hb dX4_isKnown_13 (by decide) ?_
      rw [hQf]
      exact W.zret hx hb hr (rfl) (fun t ht hW => ⟨⟨_, M, rfl, ⟨Or.inl ⟨rfl, kn_y hc c1 c9⟩, rfl⟩, (hm_end hV ht).1⟩, (hm_end hV ht).2⟩) hV.2.2.2.2 dX4_isKnown_17

abbrev wd_X4_areKnown : List Cond := .code yX4_areKnown cX4_areKnown 3 (some .boolean) :: hm_ws
abbrev rm_X4_areKnown : Room := { frames := 1, cells := 0, slots := 0, locals := 21 }

set_option maxHeartbeats 4000000 in
set_option maxRecDepth 100000 in
/-- areKnown(a, b) -/
theorem c_X4_areKnown (l : Launch) (E : hm_E) {M : hm_M} {A : Nat → Nat} {th : Int32} {cnt k ko : Nat} {nums : Nat → Int} {t : Nat → Nat → Int64} {X O : Nat → Int32} {a b : Int32} (hk : md E M A th cnt k ko nums t X O)  : hm_Ci l E yX4_areKnown wd_X4_areKnown rm_X4_areKnown [.ref (A 0), .int a, .int b] M (fun r M1 => (r = 1 ∧ kn cnt a ∧ kn cnt b ∧ md E M1 A 0 cnt k ko nums t X O) ∨ (r = 0 ∧ ¬ (kn cnt a ∧ kn cnt b) ∧ md E M1 A 1 cnt k ko nums t X O)) := by
  intro sz
  refine Met.ofW (cc := cX4_areKnown) (maxL := 3) (ret := (some .boolean)) (by decide) rfl ?_
  intro p e s m args below meth c s₁ B hml hv
  obtain ⟨rfl, hAe, hA, hK, hV⟩ := hm_start hv
  have hx := B.exec
  have hb := B.bytes
  have hr := B.returns
  have hts := atoms_spec (ws := wd_X4_areKnown) B.pre
  have hws : ∀ w ∈ hm_ws, w.before _ s = true := fun w h => hts w (List.mem_cons_of_mem _ h)
  have hown : s.vm.findClass RX4 = some m.cls := findClass_of_methodNamed B.named
  have hlocks := B.notSynchronized
  have fl49 := hws _ kw_479
  have hl := lv_entry ([.ref (A 0), .int a, .int b]) (n := 3) (Nat.le_of_ble_eq_true rfl)
  rw [lg_entry_eq]
  generalize (lg_sl ([.ref (A 0), .int a, .int b]) ++ List.replicate (3 - (lg_sl ([.ref (A 0), .int a, .int b])).length) Slot.unset).toArray = ls at hl ⊢
  have hl : lv_has ls 3 [(0, .ref (A 0)), (1, .int a), (2, .int b)] := hl
  refine hm_gen (rm := rm_X4_areKnown) rfl (fun Qf hQf => ?_)
  have hc := md_c hk
  refine lv_aload_n hx hb dX4_areKnown_0 rfl (lv_at hl 0 rfl) ?_
  have tail : ∀ (v : Int32), ((v = 0 ∧ kn cnt a ∧ kn cnt b) ∨ (v = 1 ∧ ¬ (kn cnt a ∧ kn cnt b))) → ∀ (ls : Array Slot) (H : Heap) (locs : List Loc), lv_has ls 3 [(0, .ref (A 0)), (1, .int a), (2, .int b)] → hm_V E.1 vwCl (hm_A M sz) s.heap (M) H locs → W p l e rm_X4_areKnown s m [.ref (A 0), .int a, .int b].toArray below meth c H locs 0 0 Qf (F0 m 22 ls [.int v, .ref (A 0)]) := by
    intro v hv ls H locs hl hV
    refine hm_put (ci := 6) (v := .int v) (ty := .int) (C := RX4) (T := TX4) (N := 16) hx hb hws kin_X4 tyX4 tyX4_ok nmX4 hown hK.1 hV (md_x hk) rfl 0 (by decide) fl49 (fun _ h9 => h9) rfl (by decide +kernel) rfl rfl (Nat.le_of_ble_eq_true rfl) dX4_areKnown_22 (fun H locs hV => ?_)
    have hV : hm_V E.1 vwCl (hm_A M sz) s.heap (hm_up M (A 0) (.inr (6, [.int v, .int (nI cnt), .ref (A 1), .ref (A 2), .ref (A 3), .ref (A 4), .ref (A 5), .int (nI k), .ref (A 6), .int (nI ko), .ref (A 7), .ref (A 8), .ref (A 9), .ref (A 10), .ref (A 11), .ref (A 12)]))) H locs := hV
    refine lv_aload_n hx hb dX4_areKnown_25 rfl (lv_at hl 0 rfl) ?_
    refine hm_get (ci := 6) (v := .int v) (C := RX4) (T := TX4) (N := 16) hx hb hws kin_X4 hown hK.1 hV (hm_up_self _ _ _) rfl 0 (by decide) fl49 (fun _ h9 => h9) rfl dX4_areKnown_26 ?_
    refine lv_if_ne (tgt := 36) hx hb dX4_areKnown_29 (by decide) (fun c29 => ?_) (fun c29 => ?_)
    · have hv1 : v = 1 ∧ ¬ (kn cnt a ∧ kn cnt b) := by
        rcases hv with h9 | h9
        · exact absurd h9.1 c29
        · exact h9
      obtain ⟨rfl, hv2⟩ := hv1
      refine lv_iconst (v := 0) hx hb dX4_areKnown_36 (by decide) ?_
      rw [hQf]
      exact W.zret hx hb hr (rfl) (fun t ht hW => ⟨⟨_, (hm_up M (A 0) (.inr (6, [.int 1, .int (nI cnt), .ref (A 1), .ref (A 2), .ref (A 3), .ref (A 4), .ref (A 5), .int (nI k), .ref (A 6), .int (nI ko), .ref (A 7), .ref (A 8), .ref (A 9), .ref (A 10), .ref (A 11), .ref (A 12)]))), rfl, Or.inr ⟨rfl, hv2, md_ux hk 1 k ko⟩, (hm_end hV ht).1⟩, (hm_end hV ht).2⟩) hV.2.2.2.2 dX4_areKnown_37
    · have hv1 : v = 0 ∧ kn cnt a ∧ kn cnt b := by
        rcases hv with h9 | h9
        · exact h9
        · rw [h9.1] at c29; exact absurd c29 (by decide)
      obtain ⟨rfl, hv2, hv3⟩ := hv1
      refine lv_iconst (v := 1) hx hb dX4_areKnown_32 (by decide) ?_
      refine lv_goto (tgt := 37) hx hb dX4_areKnown_33 (by decide) ?_
      rw [hQf]
      exact W.zret hx hb hr (rfl) (fun t ht hW => ⟨⟨_, (hm_up M (A 0) (.inr (6, [.int 0, .int (nI cnt), .ref (A 1), .ref (A 2), .ref (A 3), .ref (A 4), .ref (A 5), .int (nI k), .ref (A 6), .int (nI ko), .ref (A 7), .ref (A 8), .ref (A 9), .ref (A 10), .ref (A 11), .ref (A 12)]))), rfl, Or.inl ⟨rfl, hv2, hv3, md_ux hk 0 k ko⟩, (hm_end hV ht).1⟩, (hm_end hV ht).2⟩) hV.2.2.2.2 dX4_areKnown_37
  refine lv_aload_n hx hb dX4_areKnown_1 rfl (lv_at hl 0 rfl) ?_
  refine lv_iload_n hx hb dX4_areKnown_2 rfl (lv_at hl 1 rfl) ?_
  refine hm_calli (va_runV (As := [.int a]) (rest := [.ref (A 0)]) ⟨hx, hb, hml, hown, hts⟩ (c_X4_isKnown l E hk s.heap.size) (cwV 1 hts (hm_gV kw_565 kw_567 kw_22 kw_41 kw_568) rfl rfl rfl (by decide +kernel) ⟨Nat.le_of_ble_eq_true rfl, Nat.le_of_ble_eq_true rfl⟩) (hm_preV hK hV (md_x hk) rfl) rfl rfl hl.1 rfl (lv_room (Nat.le_of_ble_eq_true rfl)) dX4_areKnown_3 ⟨Nat.le_of_ble_eq_true rfl, Nat.le_of_ble_eq_true rfl⟩) hV hA (fun r3 M1 H locs hp hV => ?_)
  obtain ⟨hr3, hM1⟩ := hp
  rw [hM1] at hV
  refine lv_if_eq (tgt := 21) hx hb dX4_areKnown_6 (by decide) (fun c6 => ?_) (fun c6 => ?_)
  · have h1 : ¬ kn cnt a := by
      rcases hr3 with h9 | h9
      · rw [h9.1] at c6; exact absurd c6 (by decide)
      · exact h9.2
    refine lv_iconst (v := 1) hx hb dX4_areKnown_21 (by decide) ?_
    exact tail 1 (Or.inr ⟨rfl, fun h9 => h1 h9.1⟩) ls H locs (lv_sub hl [0, 1, 2] rfl) hV
  · have h1 : kn cnt a := by
      rcases hr3 with h9 | h9
      · exact h9.2
      · exact absurd h9.1 c6
    refine lv_aload_n hx hb dX4_areKnown_9 rfl (lv_at hl 0 rfl) ?_
    refine lv_iload_n hx hb dX4_areKnown_10 rfl (lv_at hl 2 rfl) ?_
    refine hm_calli (va_runV (As := [.int b]) (rest := [.ref (A 0)]) ⟨hx, hb, hml, hown, hts⟩ (c_X4_isKnown l E hk H.size) (cwV 1 hts (hm_gV kw_565 kw_567 kw_22 kw_41 kw_568) rfl rfl rfl (by decide +kernel) ⟨Nat.le_of_ble_eq_true rfl, Nat.le_of_ble_eq_true rfl⟩) (hm_preV hK hV (md_x hk) rfl) rfl rfl hl.1 rfl (lv_room (Nat.le_of_ble_eq_true rfl)) dX4_areKnown_11 ⟨Nat.le_of_ble_eq_true rfl, Nat.le_of_ble_eq_true rfl⟩) hV hA (fun r11 M1 H locs hp hV => ?_)
    obtain ⟨hr11, hM1⟩ := hp
    rw [hM1] at hV
    refine lv_if_eq (tgt := 21) hx hb dX4_areKnown_14 (by decide) (fun c14 => ?_) (fun c14 => ?_)
    · have h2 : ¬ kn cnt b := by
        rcases hr11 with h9 | h9
        · rw [h9.1] at c14; exact absurd c14 (by decide)
        · exact h9.2
      refine lv_iconst (v := 1) hx hb dX4_areKnown_21 (by decide) ?_
      exact tail 1 (Or.inr ⟨rfl, fun h9 => h2 h9.2⟩) ls H locs (lv_sub hl [0, 1, 2] rfl) hV
    · have h2 : kn cnt b := by
        rcases hr11 with h9 | h9
        · exact h9.2
        · exact absurd h9.1 c14
      refine lv_iconst (v := 0) hx hb dX4_areKnown_17 (by decide) ?_
      refine lv_goto (tgt := 22) hx hb dX4_areKnown_18 (by decide) ?_
      exact tail 0 (Or.inl ⟨rfl, h1, h2⟩) ls H locs (lv_sub hl [0, 1, 2] rfl) hV

abbrev wd_X4_sizeOf : List Cond := .code yX4_sizeOf cX4_sizeOf 3 (some .int) :: hm_ws
abbrev rm_X4_sizeOf : Room := { frames := 0, cells := 0, slots := 0, locals := 0 }

set_option maxHeartbeats 4000000 in
set_option maxRecDepth 100000 in
/-- sizeOf(a, most) -/
theorem c_X4_sizeOf (l : Launch) (E : hm_E) {M : hm_M} {la n m0 : Nat} {d : Nat → Nat} (ha : M la = some (hm_I E n (fun j => nI (d j)))) (ht : m0 ≤ n) (hn : n < 2 ^ 31) (hd : ∀ j, j < m0 → d j < 2 ^ 31) : hm_Ci l E yX4_sizeOf wd_X4_sizeOf rm_X4_sizeOf [.ref la, .int (nI m0)] M (fun r M1 => r = nI (nu_k d m0) ∧ M1 = M) := by
  intro sz
  refine Met.ofW (cc := cX4_sizeOf) (maxL := 3) (ret := (some .int)) (by decide) rfl ?_
  intro p e s m args below meth c s₁ B hml hv
  obtain ⟨rfl, hAe, hA, hK, hV⟩ := hm_start hv
  have hx := B.exec
  have hb := B.bytes
  have hr := B.returns
  have hts := atoms_spec (ws := wd_X4_sizeOf) B.pre
  have hws : ∀ w ∈ hm_ws, w.before _ s = true := fun w h => hts w (List.mem_cons_of_mem _ h)
  have hown : s.vm.findClass RX4 = some m.cls := findClass_of_methodNamed B.named
  have hlocks := B.notSynchronized
  have hl := lv_entry ([.ref la, .int (nI m0)]) (n := 3) (Nat.le_of_ble_eq_true rfl)
  rw [lg_entry_eq]
  generalize (lg_sl ([.ref la, .int (nI m0)]) ++ List.replicate (3 - (lg_sl ([.ref la, .int (nI m0)])).length) Slot.unset).toArray = ls at hl ⊢
  have hl : lv_has ls 3 [(0, .ref la), (1, .int (nI m0))] := hl
  refine hm_gen (rm := rm_X4_sizeOf) rfl (fun Qf hQf => ?_)
  refine lv_iload_n hx hb dX4_sizeOf_0 rfl (lv_at hl 1 rfl) ?_
  refine lv_istore_n (lv' := [(2, .int (nI m0)), (0, .ref la), (1, .int (nI m0))]) hx hb dX4_sizeOf_1 rfl hl (by decide) rfl (fun ls hl => ?_)
  have loop : ∀ (fu : Nat) (i : Nat), (i ≤ m0) → (nu_k d i = nu_k d m0) → i < fu → ∀ (ls : Array Slot) (H : Heap) (locs : List Loc), lv_has ls 3 [(0, .ref la), (1, .int (nI m0)), (2, .int (nI i))] → hm_V E.1 vwCl (hm_A M sz) s.heap (M) H locs → W p l e rm_X4_sizeOf s m [.ref la, .int (nI m0)].toArray below meth c H locs 0 0 Qf (F0 m 2 ls []) := by
    intro fu
    induction fu with
    | zero => intro i hi he hfu; exact absurd hfu (Nat.not_lt_zero _)
    | succ fu ih_loop =>
      intro i hi he hfu ls H locs hl hV
      refine lv_iload_n hx hb dX4_sizeOf_2 rfl (lv_at hl 2 rfl) ?_
      refine lv_if_le (tgt := 20) hx hb dX4_sizeOf_3 (by decide) (fun c3 => ?_) (fun c3 => ?_)
      · have hc : i = 0 := by
          rcases Nat.eq_zero_or_pos i with q | q
          · exact q
          · exact absurd c3 (nI_nle q (by omega))
        refine lv_iload_n hx hb dX4_sizeOf_20 rfl (lv_at hl 2 rfl) ?_
        rw [hQf]
        exact W.iret hx hb hr (fun t ht hW => ⟨⟨_, M, rfl, ⟨by rw [← he, hc]; rfl, rfl⟩, (hm_end hV ht).1⟩, (hm_end hV ht).2⟩) hV.2.2.2.2 dX4_sizeOf_21
      · obtain ⟨j, rfl⟩ : ∃ j, i = j + 1 := ⟨i - 1, by
          have : i ≠ 0 := fun q => c3 (by rw [q]; exact Int32.le_refl _)
          omega⟩
        refine lv_aload_n hx hb dX4_sizeOf_6 rfl (lv_at hl 0 rfl) ?_
        refine lv_iload_n hx hb dX4_sizeOf_7 rfl (lv_at hl 2 rfl) ?_
        refine lv_iconst (v := 1) hx hb dX4_sizeOf_8 (by decide) ?_
        refine lv_isub hx hb dX4_sizeOf_9 ?_
        refine hm_topi (show ((nI (j + 1)) - 1) = nI j from nI_pred j) ?_
        refine hm_ialdN hx hb hK.1 hV 0 ha rfl (k := j) (by omega) (by omega) dX4_sizeOf_10 ?_
        refine lv_if_ne (tgt := 20) hx hb dX4_sizeOf_11 (by decide) (fun c11 => ?_) (fun c11 => ?_)
        · have hc : d j ≠ 0 := fun q => c11 (by rw [q]; rfl)
          refine lv_iload_n hx hb dX4_sizeOf_20 rfl (lv_at hl 2 rfl) ?_
          rw [hQf]
          exact W.iret hx hb hr (fun t ht hW => ⟨⟨_, M, rfl, ⟨by rw [← he, nu_k, if_neg hc], rfl⟩, (hm_end hV ht).1⟩, (hm_end hV ht).2⟩) hV.2.2.2.2 dX4_sizeOf_21
        · have hc : d j = 0 := (nI_eq (hd j (by omega)) (by omega)).mp c11
          refine lv_iinc (v := (nI j)) (lv' := [(2, .int (nI j)), (0, .ref la), (1, .int (nI m0))]) hx hb dX4_sizeOf_14 hl (k := 2) rfl (pk_m1 j) (by decide) rfl (fun ls hl => ?_)
          refine lv_goto (tgt := 2) hx hb dX4_sizeOf_17 (by decide) ?_
          exact ih_loop j (by omega) (by rw [← he, nu_k, if_pos hc]) (by omega) ls H locs (lv_sub hl [1, 2, 0] rfl) hV
  exact loop (m0 + 1) m0 (Nat.le_refl m0) rfl (Nat.lt_succ_self m0) ls s.heap [] (lv_sub hl [1, 2, 0] rfl) hV

abbrev wd_X4_clear : List Cond := .code yX4_clear cX4_clear 3 none :: hm_ws
abbrev rm_X4_clear : Room := { frames := 0, cells := 0, slots := 0, locals := 0 }

set_option maxHeartbeats 4000000 in
set_option maxRecDepth 100000 in
/-- clear(a) -/
theorem c_X4_clear (l : Launch) (E : hm_E) {M : hm_M} {o la : Nat} {f : Nat → Int32} (ha : M la = some (hm_I E 220 f)) : hm_Cv l E yX4_clear wd_X4_clear rm_X4_clear [.ref o, .ref la] M (fun M1 => M1 = hm_up M la (hm_I E 220 (fun j => nI (dg 0 j)))) := by
  intro sz
  refine Met.ofW (cc := cX4_clear) (maxL := 3) (ret := none) (by decide) rfl ?_
  intro p e s m args below meth c s₁ B hml hv
  obtain ⟨rfl, hAe, hA, hK, hV⟩ := hm_start hv
  have hx := B.exec
  have hb := B.bytes
  have hr := B.returns
  have hts := atoms_spec (ws := wd_X4_clear) B.pre
  have hws : ∀ w ∈ hm_ws, w.before _ s = true := fun w h => hts w (List.mem_cons_of_mem _ h)
  have hown : s.vm.findClass RX4 = some m.cls := findClass_of_methodNamed B.named
  have hlocks := B.notSynchronized
  have hl := lv_entry ([.ref o, .ref la]) (n := 3) (Nat.le_of_ble_eq_true rfl)
  rw [lg_entry_eq]
  generalize (lg_sl ([.ref o, .ref la]) ++ List.replicate (3 - (lg_sl ([.ref o, .ref la])).length) Slot.unset).toArray = ls at hl ⊢
  have hl : lv_has ls 3 [(0, .ref o), (1, .ref la)] := hl
  refine hm_gen (rm := rm_X4_clear) rfl (fun Qf hQf => ?_)
  refine lv_iconst (v := 0) hx hb dX4_clear_0 (by decide) ?_
  refine lv_istore_n (lv' := [(2, .int 0), (0, .ref o), (1, .ref la)]) hx hb dX4_clear_1 rfl hl (by decide) rfl (fun ls hl => ?_)
  have hV : hm_V E.1 vwCl (hm_A M sz) s.heap (hm_up M la (hm_I E 220 (fun j => if j < 0 then nI 0 else f j))) s.heap [] := by rw [hm_up_id ((ha).trans (congrArg (fun f9 => some (hm_I E 220 f9)) (clr_0 f)))]; exact hV
  have loop : ∀ (fu : Nat) (i : Nat), (i ≤ 220) → 220 - i < fu → ∀ (ls : Array Slot) (H : Heap) (locs : List Loc), lv_has ls 3 [(0, .ref o), (1, .ref la), (2, .int (nI i))] → hm_V E.1 vwCl (hm_A M sz) s.heap (hm_up M la (hm_I E 220 (fun j => if j < i then nI 0 else f j))) H locs → W p l e rm_X4_clear s m [.ref o, .ref la].toArray below meth c H locs 0 0 Qf (F0 m 2 ls []) := by
    intro fu
    induction fu with
    | zero => intro i hi hfu; exact absurd hfu (Nat.not_lt_zero _)
    | succ fu ih_loop =>
      intro i hi hfu ls H locs hl hV
      refine lv_iload_n hx hb dX4_clear_2 rfl (lv_at hl 2 rfl) ?_
      refine lv_sipush (v := 220) hx hb dX4_clear_3 (by decide) ?_
      refine lv_icmp_ge (tgt := 19) hx hb dX4_clear_6 (by decide) (fun c6 => ?_) (fun c6 => ?_)
      · have hi2 : i = 220 := by
          rcases Nat.lt_or_ge i 220 with q | q
          · exact absurd c6 (nI_ge (a := i) (b := 220) q (by omega))
          · omega
        have hV := hm_rpI (fun j => nI (dg 0 j)) hV (hm_up_self _ _ _) (fun j hj => by rw [if_pos (by omega), dg_0])
        rw [hm_u0] at hV
        have hV : hm_V E.1 vwCl (hm_A M sz) s.heap (hm_up M la (hm_I E 220 (fun j => nI (dg 0 j)))) H locs := hV
        rw [hQf]
        exact W.vret hx hb hr (fun t ht hW => ⟨⟨(hm_up M la (hm_I E 220 (fun j => nI (dg 0 j)))), rfl, rfl, (hm_end hV ht).1⟩, (hm_end hV ht).2⟩) hV.2.2.2.2 dX4_clear_19
      · have hi2 : i < 220 := by
          rcases Nat.lt_or_ge i 220 with q | q
          · exact q
          · exact absurd (nI_le (a := 220) (b := i) q (by omega)) c6
        refine lv_aload_n hx hb dX4_clear_9 rfl (lv_at hl 1 rfl) ?_
        refine lv_iload_n hx hb dX4_clear_10 rfl (lv_at hl 2 rfl) ?_
        refine lv_iconst (v := 0) hx hb dX4_clear_11 (by decide) ?_
        refine hm_iastN hx hb hK.1 hV 0 (hm_up_self _ _ _) rfl (k := i) (by omega) (by omega) dX4_clear_12 (fun H locs hV => ?_)
        rw [show (upd (fun j => if j < i then nI 0 else f j) i 0) = (fun j => if j < i + 1 then nI 0 else f j) from clr_up f i] at hV
        rw [hm_u0] at hV
        have hV : hm_V E.1 vwCl (hm_A M sz) s.heap (hm_up M la (hm_I E 220 (fun j => if j < i + 1 then nI 0 else f j))) H locs := hV
        refine lv_iinc (v := (nI (i + 1))) (lv' := [(2, .int (nI (i + 1))), (0, .ref o), (1, .ref la)]) hx hb dX4_clear_13 hl (k := 2) rfl (nI_1 i) (by decide) rfl (fun ls hl => ?_)
        refine lv_goto (tgt := 2) hx hb dX4_clear_16 (by decide) ?_
        exact ih_loop (i + 1) (by omega) (by omega) ls H locs (lv_sub hl [1, 2, 0] rfl) hV
  exact loop 221 0 (by omega) (by omega) ls s.heap [] (lv_sub hl [1, 2, 0] rfl) hV

abbrev wd_X4_load : List Cond := .code yX4_load cX4_load 3 none :: hm_ws
abbrev rm_X4_load : Room := { frames := 1, cells := 0, slots := 0, locals := 22 }

set_option maxHeartbeats 4000000 in
set_option maxRecDepth 100000 in
/-- load(a) -/
theorem c_X4_load (l : Launch) (E : hm_E) {M : hm_M} {A : Nat → Nat} {th : Int32} {cnt k ko : Nat} {nums : Nat → Int} {t : Nat → Nat → Int64} {X O : Nat → Int32} {a : Nat} (hk : md E M A th cnt k ko nums t X O) (ha : a < cnt) : hm_Cv l E yX4_load wd_X4_load rm_X4_load [.ref (A 0), .int (nI a)] M (fun M1 => md E M1 A th cnt (sg (nums a).natAbs) ko nums t (fun j => nI (dg (nums a).natAbs j)) O) := by
  intro sz
  refine Met.ofW (cc := cX4_load) (maxL := 3) (ret := none) (by decide) rfl ?_
  intro p e s m args below meth c s₁ B hml hv
  obtain ⟨rfl, hAe, hA, hK, hV⟩ := hm_start hv
  have hx := B.exec
  have hb := B.bytes
  have hr := B.returns
  have hts := atoms_spec (ws := wd_X4_load) B.pre
  have hws : ∀ w ∈ hm_ws, w.before _ s = true := fun w h => hts w (List.mem_cons_of_mem _ h)
  have hown : s.vm.findClass RX4 = some m.cls := findClass_of_methodNamed B.named
  have hlocks := B.notSynchronized
  have fl24 := hws _ kw_485
  have fl13 := hws _ kw_482
  have fl7 := hws _ kw_481
  have fl64 := hws _ kw_486
  have hl := lv_entry ([.ref (A 0), .int (nI a)]) (n := 3) (Nat.le_of_ble_eq_true rfl)
  rw [lg_entry_eq]
  generalize (lg_sl ([.ref (A 0), .int (nI a)]) ++ List.replicate (3 - (lg_sl ([.ref (A 0), .int (nI a)])).length) Slot.unset).toArray = ls at hl ⊢
  have hl : lv_has ls 3 [(0, .ref (A 0)), (1, .int (nI a))] := hl
  refine hm_gen (rm := rm_X4_load) rfl (fun Qf hQf => ?_)
  have hc := md_c hk
  obtain ⟨L, S, Bl, hL, hS, hB3, hn⟩ := md_n hk
  obtain ⟨hv, hSa, -, hLa⟩ := hn.1 a ha
  generalize hve : (nums a).natAbs = v at hv hSa hLa
  rw [hve] at hQf
  have hv2 := big220 hv
  have hv3 := big100 hv
  refine lv_aload_n hx hb dX4_load_0 rfl (lv_at hl 0 rfl) ?_
  refine lv_aload_n hx hb dX4_load_1 rfl (lv_at hl 0 rfl) ?_
  refine hm_get (ci := 6) (v := .ref (A 5)) (C := RX4) (T := TX4) (N := 16) hx hb hws kin_X4 hown hK.1 hV (md_x hk) rfl 6 (by decide) fl24 (fun _ h9 => h9) rfl dX4_load_2 ?_
  refine hm_callv (va_runV (As := [.ref (A 5)]) (rest := []) ⟨hx, hb, hml, hown, hts⟩ (c_X4_clear l E (md_w hk) s.heap.size) (cwV 1 hts (hm_gV kw_541 kw_543 kw_18 kw_41 kw_544) rfl rfl rfl (by decide +kernel) ⟨Nat.le_of_ble_eq_true rfl, Nat.le_of_ble_eq_true rfl⟩) (hm_preV hK hV (md_x hk) rfl) rfl rfl hl.1 rfl (lv_room (Nat.le_of_ble_eq_true rfl)) dX4_load_5 ⟨Nat.le_of_ble_eq_true rfl, Nat.le_of_ble_eq_true rfl⟩) hV hA (fun M1 H locs hp hV => ?_)
  subst hp
  have hV : hm_V E.1 vwCl (hm_A M sz) s.heap (hm_up M (A 5) (hm_I E 220 (fun j => nI (dg 0 j)))) H locs := hV
  have hV : hm_V E.1 vwCl (hm_A M sz) s.heap (hm_up (hm_up M (A 5) (hm_I E 220 (fun j => nI (dg 0 j)))) (A 5) (hm_I E 220 (fun j => nI (if j < 0 then dg v j else 0)))) H locs := by rw [hm_up_id (((hm_up_self _ _ _)).trans (congrArg (fun f9 => some (hm_I E 220 f9)) (dg_row0.trans (by funext j; rw [if_neg (Nat.not_lt_zero j), if_neg (Nat.not_lt_zero j)]))))]; exact hV
  rw [hm_up_up] at hV
  refine lv_iconst (v := 0) hx hb dX4_load_8 (by decide) ?_
  refine lv_istore_n (lv' := [(2, .int 0), (0, .ref (A 0)), (1, .int (nI a))]) hx hb dX4_load_9 rfl hl (by decide) rfl (fun ls hl => ?_)
  have loop : ∀ (fu : Nat) (i : Nat), (i ≤ sg v) → sg v - i < fu → ∀ (ls : Array Slot) (H : Heap) (locs : List Loc), lv_has ls 3 [(0, .ref (A 0)), (1, .int (nI a)), (2, .int (nI i))] → hm_V E.1 vwCl (hm_A M sz) s.heap (hm_up M (A 5) (hm_I E 220 (fun j => nI (if j < i then dg v j else 0)))) H locs → W p l e rm_X4_load s m [.ref (A 0), .int (nI a)].toArray below meth c H locs 0 0 Qf (F0 m 10 ls []) := by
    intro fu
    induction fu with
    | zero => intro i hi hfu; exact absurd hfu (Nat.not_lt_zero _)
    | succ fu ih_loop =>
      intro i hi hfu ls H locs hl hV
      refine lv_iload_n hx hb dX4_load_10 rfl (lv_at hl 2 rfl) ?_
      refine lv_aload_n hx hb dX4_load_11 rfl (lv_at hl 0 rfl) ?_
      refine hm_get (ci := 6) (v := .ref (A 2)) (C := RX4) (T := TX4) (N := 16) hx hb hws kin_X4 hown hK.1 hV ((hm_up_ne _ _ (md_ap hk (i := 0) (j := 5) (by decide) (by decide) (by decide))).trans (md_x hk)) rfl 3 (by decide) fl13 (fun _ h9 => h9) rfl dX4_load_12 ?_
      refine lv_iload_n hx hb dX4_load_15 rfl (lv_at hl 1 rfl) ?_
      refine hm_ialdN hx hb hK.1 hV 0 ((hm_up_ne _ _ (md_ap hk (i := 2) (j := 5) (by decide) (by decide) (by decide))).trans hS) rfl (k := a) (by omega) (by omega) dX4_load_16 ?_
      refine hm_topi (show (nI (S a)) = nI (sg v) from by rw [hSa]) ?_
      refine lv_icmp_ge (tgt := 43) hx hb dX4_load_17 (by decide) (fun c17 => ?_) (fun c17 => ?_)
      · have hi2 : i = (sg v) := by
          rcases Nat.lt_or_ge i (sg v) with q | q
          · exact absurd c17 (nI_ge (a := i) (b := (sg v)) q (by omega))
          · omega
        rw [hi2, dg_row v hv2] at hV
        refine lv_aload_n hx hb dX4_load_43 rfl (lv_at hl 0 rfl) ?_
        refine lv_aload_n hx hb dX4_load_44 rfl (lv_at hl 0 rfl) ?_
        refine hm_get (ci := 6) (v := .ref (A 2)) (C := RX4) (T := TX4) (N := 16) hx hb hws kin_X4 hown hK.1 hV ((hm_up_ne _ _ (md_ap hk (i := 0) (j := 5) (by decide) (by decide) (by decide))).trans (md_x hk)) rfl 3 (by decide) fl13 (fun _ h9 => h9) rfl dX4_load_45 ?_
        refine lv_iload_n hx hb dX4_load_48 rfl (lv_at hl 1 rfl) ?_
        refine hm_ialdN hx hb hK.1 hV 0 ((hm_up_ne _ _ (md_ap hk (i := 2) (j := 5) (by decide) (by decide) (by decide))).trans hS) rfl (k := a) (by omega) (by omega) dX4_load_49 ?_
        refine hm_topi (show (nI (S a)) = nI (sg v) from by rw [hSa]) ?_
        refine hm_put (ci := 6) (v := .int (nI (sg v))) (ty := .int) (C := RX4) (T := TX4) (N := 16) hx hb hws kin_X4 tyX4 tyX4_ok nmX4 hown hK.1 hV ((hm_up_ne _ _ (md_ap hk (i := 0) (j := 5) (by decide) (by decide) (by decide))).trans (md_x hk)) rfl 7 (by decide) fl64 (fun _ h9 => h9) rfl (by decide +kernel) rfl rfl (Nat.le_of_ble_eq_true rfl) dX4_load_50 (fun H locs hV => ?_)
        have hV : hm_V E.1 vwCl (hm_A M sz) s.heap (hm_up (hm_up M (A 5) (hm_I E 220 (fun j => nI (dg v j)))) (A 0) (.inr (6, [.int th, .int (nI cnt), .ref (A 1), .ref (A 2), .ref (A 3), .ref (A 4), .ref (A 5), .int (nI (sg v)), .ref (A 6), .int (nI ko), .ref (A 7), .ref (A 8), .ref (A 9), .ref (A 10), .ref (A 11), .ref (A 12)]))) H locs := hV
        rw [hQf]
        exact W.vret hx hb hr (fun t ht hW => ⟨⟨(hm_up (hm_up M (A 5) (hm_I E 220 (fun j => nI (dg v j)))) (A 0) (.inr (6, [.int th, .int (nI cnt), .ref (A 1), .ref (A 2), .ref (A 3), .ref (A 4), .ref (A 5), .int (nI (sg v)), .ref (A 6), .int (nI ko), .ref (A 7), .ref (A 8), .ref (A 9), .ref (A 10), .ref (A 11), .ref (A 12)]))), rfl, md_ux (md_uw hk _) th (sg v) ko, (hm_end hV ht).1⟩, (hm_end hV ht).2⟩) hV.2.2.2.2 dX4_load_53
      · have hi2 : i < (sg v) := by
          rcases Nat.lt_or_ge i (sg v) with q | q
          · exact q
          · exact absurd (nI_le (a := (sg v)) (b := i) q (by omega)) c17
        refine lv_aload_n hx hb dX4_load_20 rfl (lv_at hl 0 rfl) ?_
        refine hm_get (ci := 6) (v := .ref (A 5)) (C := RX4) (T := TX4) (N := 16) hx hb hws kin_X4 hown hK.1 hV ((hm_up_ne _ _ (md_ap hk (i := 0) (j := 5) (by decide) (by decide) (by decide))).trans (md_x hk)) rfl 6 (by decide) fl24 (fun _ h9 => h9) rfl dX4_load_21 ?_
        refine lv_iload_n hx hb dX4_load_24 rfl (lv_at hl 2 rfl) ?_
        refine lv_aload_n hx hb dX4_load_25 rfl (lv_at hl 0 rfl) ?_
        refine hm_get (ci := 6) (v := .ref (A 1)) (C := RX4) (T := TX4) (N := 16) hx hb hws kin_X4 hown hK.1 hV ((hm_up_ne _ _ (md_ap hk (i := 0) (j := 5) (by decide) (by decide) (by decide))).trans (md_x hk)) rfl 2 (by decide) fl7 (fun _ h9 => h9) rfl dX4_load_26 ?_
        refine lv_bipush (v := 104) hx hb dX4_load_29 (by decide) ?_
        refine lv_iload_n hx hb dX4_load_31 rfl (lv_at hl 1 rfl) ?_
        refine lv_imul hx hb dX4_load_32 ?_
        refine lv_iload_n hx hb dX4_load_33 rfl (lv_at hl 2 rfl) ?_
        refine lv_iadd hx hb dX4_load_34 ?_
        refine hm_topi (show ((104 * (nI a)) + (nI i)) = nI (104 * a + i) from nI_104 a i) ?_
        refine hm_ialdN hx hb hK.1 hV 0 ((hm_up_ne _ _ (md_ap hk (i := 1) (j := 5) (by decide) (by decide) (by decide))).trans hL) rfl (k := (104 * a + i)) (by omega) (by omega) dX4_load_35 ?_
        refine hm_topi (show (nI (L (104 * a + i))) = nI (dg v i) from by rw [hLa i (by omega)]) ?_
        refine hm_iastN hx hb hK.1 hV 0 (hm_up_self _ _ _) rfl (k := i) (by omega) (by omega) dX4_load_36 (fun H locs hV => ?_)
        rw [show (upd (fun j => nI (if j < i then dg v j else 0)) i (nI (dg v i))) = (fun j => nI (if j < i + 1 then dg v j else 0)) from nu_up (dg v) (fun _ => 0) i] at hV
        rw [hm_u0] at hV
        have hV : hm_V E.1 vwCl (hm_A M sz) s.heap (hm_up M (A 5) (hm_I E 220 (fun j => nI (if j < i + 1 then dg v j else 0)))) H locs := hV
        refine lv_iinc (v := (nI (i + 1))) (lv' := [(2, .int (nI (i + 1))), (0, .ref (A 0)), (1, .int (nI a))]) hx hb dX4_load_37 hl (k := 2) rfl (nI_1 i) (by decide) rfl (fun ls hl => ?_)
        refine lv_goto (tgt := 10) hx hb dX4_load_40 (by decide) ?_
        exact ih_loop (i + 1) (by omega) (by omega) ls H locs (lv_sub hl [1, 2, 0] rfl) hV
  exact loop (sg v + 1) 0 (Nat.zero_le _) (by omega) ls H locs (lv_sub hl [1, 2, 0] rfl) hV

abbrev wd_X4_loadOther : List Cond := .code yX4_loadOther cX4_loadOther 3 none :: hm_ws
abbrev rm_X4_loadOther : Room := { frames := 1, cells := 0, slots := 0, locals := 22 }

set_option maxHeartbeats 4000000 in
set_option maxRecDepth 100000 in
/-- loadOther(a) -/
theorem c_X4_loadOther (l : Launch) (E : hm_E) {M : hm_M} {A : Nat → Nat} {th : Int32} {cnt k ko : Nat} {nums : Nat → Int} {t : Nat → Nat → Int64} {X O : Nat → Int32} {a : Nat} (hk : md E M A th cnt k ko nums t X O) (ha : a < cnt) : hm_Cv l E yX4_loadOther wd_X4_loadOther rm_X4_loadOther [.ref (A 0), .int (nI a)] M (fun M1 => md E M1 A th cnt k (sg (nums a).natAbs) nums t X (fun j => nI (dg (nums a).natAbs j))) := by
  intro sz
  refine Met.ofW (cc := cX4_loadOther) (maxL := 3) (ret := none) (by decide) rfl ?_
  intro p e s m args below meth c s₁ B hml hv
  obtain ⟨rfl, hAe, hA, hK, hV⟩ := hm_start hv
  have hx := B.exec
  have hb := B.bytes
  have hr := B.returns
  have hts := atoms_spec (ws := wd_X4_loadOther) B.pre
  have hws : ∀ w ∈ hm_ws, w.before _ s = true := fun w h => hts w (List.mem_cons_of_mem _ h)
  have hown : s.vm.findClass RX4 = some m.cls := findClass_of_methodNamed B.named
  have hlocks := B.notSynchronized
  have fl27 := hws _ kw_487
  have fl13 := hws _ kw_482
  have fl7 := hws _ kw_481
  have fl67 := hws _ kw_488
  have hl := lv_entry ([.ref (A 0), .int (nI a)]) (n := 3) (Nat.le_of_ble_eq_true rfl)
  rw [lg_entry_eq]
  generalize (lg_sl ([.ref (A 0), .int (nI a)]) ++ List.replicate (3 - (lg_sl ([.ref (A 0), .int (nI a)])).length) Slot.unset).toArray = ls at hl ⊢
  have hl : lv_has ls 3 [(0, .ref (A 0)), (1, .int (nI a))] := hl
  refine hm_gen (rm := rm_X4_loadOther) rfl (fun Qf hQf => ?_)
  have hc := md_c hk
  obtain ⟨L, S, Bl, hL, hS, hB3, hn⟩ := md_n hk
  obtain ⟨hv, hSa, -, hLa⟩ := hn.1 a ha
  generalize hve : (nums a).natAbs = v at hv hSa hLa
  rw [hve] at hQf
  have hv2 := big220 hv
  have hv3 := big100 hv
  refine lv_aload_n hx hb dX4_loadOther_0 rfl (lv_at hl 0 rfl) ?_
  refine lv_aload_n hx hb dX4_loadOther_1 rfl (lv_at hl 0 rfl) ?_
  refine hm_get (ci := 6) (v := .ref (A 6)) (C := RX4) (T := TX4) (N := 16) hx hb hws kin_X4 hown hK.1 hV (md_x hk) rfl 8 (by decide) fl27 (fun _ h9 => h9) rfl dX4_loadOther_2 ?_
  refine hm_callv (va_runV (As := [.ref (A 6)]) (rest := []) ⟨hx, hb, hml, hown, hts⟩ (c_X4_clear l E (md_o hk) s.heap.size) (cwV 1 hts (hm_gV kw_541 kw_543 kw_18 kw_41 kw_544) rfl rfl rfl (by decide +kernel) ⟨Nat.le_of_ble_eq_true rfl, Nat.le_of_ble_eq_true rfl⟩) (hm_preV hK hV (md_x hk) rfl) rfl rfl hl.1 rfl (lv_room (Nat.le_of_ble_eq_true rfl)) dX4_loadOther_5 ⟨Nat.le_of_ble_eq_true rfl, Nat.le_of_ble_eq_true rfl⟩) hV hA (fun M1 H locs hp hV => ?_)
  subst hp
  have hV : hm_V E.1 vwCl (hm_A M sz) s.heap (hm_up M (A 6) (hm_I E 220 (fun j => nI (dg 0 j)))) H locs := hV
  have hV : hm_V E.1 vwCl (hm_A M sz) s.heap (hm_up (hm_up M (A 6) (hm_I E 220 (fun j => nI (dg 0 j)))) (A 6) (hm_I E 220 (fun j => nI (if j < 0 then dg v j else 0)))) H locs := by rw [hm_up_id (((hm_up_self _ _ _)).trans (congrArg (fun f9 => some (hm_I E 220 f9)) (dg_row0.trans (by funext j; rw [if_neg (Nat.not_lt_zero j), if_neg (Nat.not_lt_zero j)]))))]; exact hV
  rw [hm_up_up] at hV
  refine lv_iconst (v := 0) hx hb dX4_loadOther_8 (by decide) ?_
  refine lv_istore_n (lv' := [(2, .int 0), (0, .ref (A 0)), (1, .int (nI a))]) hx hb dX4_loadOther_9 rfl hl (by decide) rfl (fun ls hl => ?_)
  have loop : ∀ (fu : Nat) (i : Nat), (i ≤ sg v) → sg v - i < fu → ∀ (ls : Array Slot) (H : Heap) (locs : List Loc), lv_has ls 3 [(0, .ref (A 0)), (1, .int (nI a)), (2, .int (nI i))] → hm_V E.1 vwCl (hm_A M sz) s.heap (hm_up M (A 6) (hm_I E 220 (fun j => nI (if j < i then dg v j else 0)))) H locs → W p l e rm_X4_loadOther s m [.ref (A 0), .int (nI a)].toArray below meth c H locs 0 0 Qf (F0 m 10 ls []) := by
    intro fu
    induction fu with
    | zero => intro i hi hfu; exact absurd hfu (Nat.not_lt_zero _)
    | succ fu ih_loop =>
      intro i hi hfu ls H locs hl hV
      refine lv_iload_n hx hb dX4_loadOther_10 rfl (lv_at hl 2 rfl) ?_
      refine lv_aload_n hx hb dX4_loadOther_11 rfl (lv_at hl 0 rfl) ?_
      refine hm_get (ci := 6) (v := .ref (A 2)) (C := RX4) (T := TX4) (N := 16) hx hb hws kin_X4 hown hK.1 hV ((hm_up_ne _ _ (md_ap hk (i := 0) (j := 6) (by decide) (by decide) (by decide))).trans (md_x hk)) rfl 3 (by decide) fl13 (fun _ h9 => h9) rfl dX4_loadOther_12 ?_
      refine lv_iload_n hx hb dX4_loadOther_15 rfl (lv_at hl 1 rfl) ?_
      refine hm_ialdN hx hb hK.1 hV 0 ((hm_up_ne _ _ (md_ap hk (i := 2) (j := 6) (by decide) (by decide) (by decide))).trans hS) rfl (k := a) (by omega) (by omega) dX4_loadOther_16 ?_
      refine hm_topi (show (nI (S a)) = nI (sg v) from by rw [hSa]) ?_
      refine lv_icmp_ge (tgt := 43) hx hb dX4_loadOther_17 (by decide) (fun c17 => ?_) (fun c17 => ?_)
      · have hi2 : i = (sg v) := by
          rcases Nat.lt_or_ge i (sg v) with q | q
          · exact absurd c17 (nI_ge (a := i) (b := (sg v)) q (by omega))
          · omega
        rw [hi2, dg_row v hv2] at hV
        refine lv_aload_n hx hb dX4_loadOther_43 rfl (lv_at hl 0 rfl) ?_
        refine lv_aload_n hx hb dX4_loadOther_44 rfl (lv_at hl 0 rfl) ?_
        refine hm_get (ci := 6) (v := .ref (A 2)) (C := RX4) (T := TX4) (N := 16) hx hb hws kin_X4 hown hK.1 hV ((hm_up_ne _ _ (md_ap hk (i := 0) (j := 6) (by decide) (by decide) (by decide))).trans (md_x hk)) rfl 3 (by decide) fl13 (fun _ h9 => h9) rfl dX4_loadOther_45 ?_
        refine lv_iload_n hx hb dX4_loadOther_48 rfl (lv_at hl 1 rfl) ?_
        refine hm_ialdN hx hb hK.1 hV 0 ((hm_up_ne _ _ (md_ap hk (i := 2) (j := 6) (by decide) (by decide) (by decide))).trans hS) rfl (k := a) (by omega) (by omega) dX4_loadOther_49 ?_
        refine hm_topi (show (nI (S a)) = nI (sg v) from by rw [hSa]) ?_
        refine hm_put (ci := 6) (v := .int (nI (sg v))) (ty := .int) (C := RX4) (T := TX4) (N := 16) hx hb hws kin_X4 tyX4 tyX4_ok nmX4 hown hK.1 hV ((hm_up_ne _ _ (md_ap hk (i := 0) (j := 6) (by decide) (by decide) (by decide))).trans (md_x hk)) rfl 9 (by decide) fl67 (fun _ h9 => h9) rfl (by decide +kernel) rfl rfl (Nat.le_of_ble_eq_true rfl) dX4_loadOther_50 (fun H locs hV => ?_)
        have hV : hm_V E.1 vwCl (hm_A M sz) s.heap (hm_up (hm_up M (A 6) (hm_I E 220 (fun j => nI (dg v j)))) (A 0) (.inr (6, [.int th, .int (nI cnt), .ref (A 1), .ref (A 2), .ref (A 3), .ref (A 4), .ref (A 5), .int (nI k), .ref (A 6), .int (nI (sg v)), .ref (A 7), .ref (A 8), .ref (A 9), .ref (A 10), .ref (A 11), .ref (A 12)]))) H locs := hV
        rw [hQf]
        exact W.vret hx hb hr (fun t ht hW => ⟨⟨(hm_up (hm_up M (A 6) (hm_I E 220 (fun j => nI (dg v j)))) (A 0) (.inr (6, [.int th, .int (nI cnt), .ref (A 1), .ref (A 2), .ref (A 3), .ref (A 4), .ref (A 5), .int (nI k), .ref (A 6), .int (nI (sg v)), .ref (A 7), .ref (A 8), .ref (A 9), .ref (A 10), .ref (A 11), .ref (A 12)]))), rfl, md_ux (md_uo hk _) th k (sg v), (hm_end hV ht).1⟩, (hm_end hV ht).2⟩) hV.2.2.2.2 dX4_loadOther_53
      · have hi2 : i < (sg v) := by
          rcases Nat.lt_or_ge i (sg v) with q | q
          · exact q
          · exact absurd (nI_le (a := (sg v)) (b := i) q (by omega)) c17
        refine lv_aload_n hx hb dX4_loadOther_20 rfl (lv_at hl 0 rfl) ?_
        refine hm_get (ci := 6) (v := .ref (A 6)) (C := RX4) (T := TX4) (N := 16) hx hb hws kin_X4 hown hK.1 hV ((hm_up_ne _ _ (md_ap hk (i := 0) (j := 6) (by decide) (by decide) (by decide))).trans (md_x hk)) rfl 8 (by decide) fl27 (fun _ h9 => h9) rfl dX4_loadOther_21 ?_
        refine lv_iload_n hx hb dX4_loadOther_24 rfl (lv_at hl 2 rfl) ?_
        refine lv_aload_n hx hb dX4_loadOther_25 rfl (lv_at hl 0 rfl) ?_
        refine hm_get (ci := 6) (v := .ref (A 1)) (C := RX4) (T := TX4) (N := 16) hx hb hws kin_X4 hown hK.1 hV ((hm_up_ne _ _ (md_ap hk (i := 0) (j := 6) (by decide) (by decide) (by decide))).trans (md_x hk)) rfl 2 (by decide) fl7 (fun _ h9 => h9) rfl dX4_loadOther_26 ?_
        refine lv_bipush (v := 104) hx hb dX4_loadOther_29 (by decide) ?_
        refine lv_iload_n hx hb dX4_loadOther_31 rfl (lv_at hl 1 rfl) ?_
        refine lv_imul hx hb dX4_loadOther_32 ?_
        refine lv_iload_n hx hb dX4_loadOther_33 rfl (lv_at hl 2 rfl) ?_
        refine lv_iadd hx hb dX4_loadOther_34 ?_
        refine hm_topi (show ((104 * (nI a)) + (nI i)) = nI (104 * a + i) from nI_104 a i) ?_
        refine hm_ialdN hx hb hK.1 hV 0 ((hm_up_ne _ _ (md_ap hk (i := 1) (j := 6) (by decide) (by decide) (by decide))).trans hL) rfl (k := (104 * a + i)) (by omega) (by omega) dX4_loadOther_35 ?_
        refine hm_topi (show (nI (L (104 * a + i))) = nI (dg v i) from by rw [hLa i (by omega)]) ?_
        refine hm_iastN hx hb hK.1 hV 0 (hm_up_self _ _ _) rfl (k := i) (by omega) (by omega) dX4_loadOther_36 (fun H locs hV => ?_)
        rw [show (upd (fun j => nI (if j < i then dg v j else 0)) i (nI (dg v i))) = (fun j => nI (if j < i + 1 then dg v j else 0)) from nu_up (dg v) (fun _ => 0) i] at hV
        rw [hm_u0] at hV
        have hV : hm_V E.1 vwCl (hm_A M sz) s.heap (hm_up M (A 6) (hm_I E 220 (fun j => nI (if j < i + 1 then dg v j else 0)))) H locs := hV
        refine lv_iinc (v := (nI (i + 1))) (lv' := [(2, .int (nI (i + 1))), (0, .ref (A 0)), (1, .int (nI a))]) hx hb dX4_loadOther_37 hl (k := 2) rfl (nI_1 i) (by decide) rfl (fun ls hl => ?_)
        refine lv_goto (tgt := 10) hx hb dX4_loadOther_40 (by decide) ?_
        exact ih_loop (i + 1) (by omega) (by omega) ls H locs (lv_sub hl [1, 2, 0] rfl) hV
  exact loop (sg v + 1) 0 (Nat.zero_le _) (by omega) ls H locs (lv_sub hl [1, 2, 0] rfl) hV

abbrev wd_X4_loadLong : List Cond := .code yX4_loadLong cX4_loadLong 6 none :: hm_ws
abbrev rm_X4_loadLong : Room := { frames := 1, cells := 0, slots := 0, locals := 22 }

set_option maxHeartbeats 4000000 in
set_option maxRecDepth 100000 in
/-- loadLong(v) -/
theorem c_X4_loadLong (l : Launch) (E : hm_E) {M : hm_M} {A : Nat → Nat} {th : Int32} {cnt k ko : Nat} {nums : Nat → Int} {t : Nat → Nat → Int64} {X O : Nat → Int32} {v : Int64} (hk : md E M A th cnt k ko nums t X O)  : hm_Cv l E yX4_loadLong wd_X4_loadLong rm_X4_loadLong [.ref (A 0), .long v] M (fun M1 => md E M1 A th cnt (sg v.toInt.natAbs) ko nums t (fun j => nI (dg v.toInt.natAbs j)) O) := by
  intro sz
  refine Met.ofW (cc := cX4_loadLong) (maxL := 6) (ret := none) (by decide) rfl ?_
  intro p e s m args below meth c s₁ B hml hv
  obtain ⟨rfl, hAe, hA, hK, hV⟩ := hm_start hv
  have hx := B.exec
  have hb := B.bytes
  have hr := B.returns
  have hts := atoms_spec (ws := wd_X4_loadLong) B.pre
  have hws : ∀ w ∈ hm_ws, w.before _ s = true := fun w h => hts w (List.mem_cons_of_mem _ h)
  have hown : s.vm.findClass RX4 = some m.cls := findClass_of_methodNamed B.named
  have hlocks := B.notSynchronized
  have fl24 := hws _ kw_485
  have fl64 := hws _ kw_486
  have ld70 := hws _ kw_545
  have hl := lv_entry ([.ref (A 0), .long v]) (n := 6) (Nat.le_of_ble_eq_true rfl)
  rw [lg_entry_eq]
  generalize (lg_sl ([.ref (A 0), .long v]) ++ List.replicate (6 - (lg_sl ([.ref (A 0), .long v])).length) Slot.unset).toArray = ls at hl ⊢
  have hl : lv_has ls 6 [(0, .ref (A 0)), (1, .long v)] := hl
  refine hm_gen (rm := rm_X4_loadLong) rfl (fun Qf hQf => ?_)
  have hu := am_le v
  have hu2 : v.toInt.natAbs < 2 ^ 64 := by omega
  refine lv_aload_n hx hb dX4_loadLong_0 rfl (lv_at hl 0 rfl) ?_
  refine lv_aload_n hx hb dX4_loadLong_1 rfl (lv_at hl 0 rfl) ?_
  refine hm_get (ci := 6) (v := .ref (A 5)) (C := RX4) (T := TX4) (N := 16) hx hb hws kin_X4 hown hK.1 hV (md_x hk) rfl 6 (by decide) fl24 (fun _ h9 => h9) rfl dX4_loadLong_2 ?_
  refine hm_callv (va_runV (As := [.ref (A 5)]) (rest := []) ⟨hx, hb, hml, hown, hts⟩ (c_X4_clear l E (md_w hk) s.heap.size) (cwV 1 hts (hm_gV kw_541 kw_543 kw_18 kw_41 kw_544) rfl rfl rfl (by decide +kernel) ⟨Nat.le_of_ble_eq_true rfl, Nat.le_of_ble_eq_true rfl⟩) (hm_preV hK hV (md_x hk) rfl) rfl rfl hl.1 rfl (lv_room (Nat.le_of_ble_eq_true rfl)) dX4_loadLong_5 ⟨Nat.le_of_ble_eq_true rfl, Nat.le_of_ble_eq_true rfl⟩) hV hA (fun M1 H locs hp hV => ?_)
  subst hp
  have hV : hm_V E.1 vwCl (hm_A M sz) s.heap (hm_up M (A 5) (hm_I E 220 (fun j => nI (dg 0 j)))) H locs := hV
  have body : ∀ (ls : Array Slot) (H : Heap) (locs : List Loc), lv_has ls 6 [(0, .ref (A 0)), (1, .long v)] → hm_V E.1 vwCl (hm_A M sz) s.heap (hm_up M (A 5) (hm_I E 220 (fun j => nI (dg 0 j)))) H locs → W p l e rm_X4_loadLong s m [.ref (A 0), .long v].toArray below meth c H locs 0 0 Qf (F0 m 20 ls [.long (lN v.toInt.natAbs)]) := by
    intro   ls H locs hl hV
    have hV : hm_V E.1 vwCl (hm_A M sz) s.heap (hm_up (hm_up M (A 5) (hm_I E 220 (fun j => nI (dg 0 j)))) (A 5) (hm_I E 220 (fun j => nI (if j < 0 then dg v.toInt.natAbs j else dg 0 j)))) H locs := by rw [hm_up_id (((hm_up_self _ _ _)).trans (congrArg (fun f9 => some (hm_I E 220 f9)) (nu_up0 (dg v.toInt.natAbs) (dg 0))))]; exact hV
    rw [hm_up_up] at hV
    refine lv_lstore_n (lv' := [(3, .long (lN v.toInt.natAbs)), (0, .ref (A 0)), (1, .long v)]) hx hb dX4_loadLong_20 rfl hl (by decide) rfl (fun ls hl => ?_)
    refine lv_iconst (v := 0) hx hb dX4_loadLong_21 (by decide) ?_
    refine lv_istore (lv' := [(5, .int 0), (3, .long (lN v.toInt.natAbs)), (0, .ref (A 0)), (1, .long v)]) hx hb dX4_loadLong_22 hl (by decide) rfl (fun ls hl => ?_)
    have loop : ∀ (fu : Nat) (i : Nat), (i ≤ 4) → 4 - i < fu → ∀ (ls : Array Slot) (H : Heap) (locs : List Loc), lv_has ls 6 [(0, .ref (A 0)), (1, .long v), (3, .long (lN v.toInt.natAbs)), (5, .int (nI i))] → hm_V E.1 vwCl (hm_A M sz) s.heap (hm_up M (A 5) (hm_I E 220 (fun j => nI (if j < i then dg v.toInt.natAbs j else dg 0 j)))) H locs → W p l e rm_X4_loadLong s m [.ref (A 0), .long v].toArray below meth c H locs 0 0 Qf (F0 m 24 ls []) := by
      intro fu
      induction fu with
      | zero => intro i hi hfu; exact absurd hfu (Nat.not_lt_zero _)
      | succ fu ih_loop =>
        intro i hi hfu ls H locs hl hV
        refine lv_iload hx hb dX4_loadLong_24 (lv_at hl 3 rfl) ?_
        refine lv_iconst (v := 4) hx hb dX4_loadLong_26 (by decide) ?_
        refine lv_icmp_ge (tgt := 55) hx hb dX4_loadLong_27 (by decide) (fun c27 => ?_) (fun c27 => ?_)
        · have hi2 : i = 4 := by
            rcases Nat.lt_or_ge i 4 with q | q
            · exact absurd c27 (nI_ge (a := i) (b := 4) q (by omega))
            · omega
          rw [hi2, dg_row4 _ hu2] at hV
          refine lv_aload_n hx hb dX4_loadLong_55 rfl (lv_at hl 0 rfl) ?_
          refine lv_aload_n hx hb dX4_loadLong_56 rfl (lv_at hl 0 rfl) ?_
          refine hm_get (ci := 6) (v := .ref (A 5)) (C := RX4) (T := TX4) (N := 16) hx hb hws kin_X4 hown hK.1 hV ((hm_up_ne _ _ (md_ap hk (i := 0) (j := 5) (by decide) (by decide) (by decide))).trans (md_x hk)) rfl 6 (by decide) fl24 (fun _ h9 => h9) rfl dX4_loadLong_57 ?_
          refine lv_iconst (v := 4) hx hb dX4_loadLong_60 (by decide) ?_
          refine hm_calli (va_runS (As := [.ref (A 5), .int 4]) (rest := [.ref (A 0)]) ⟨hx, hb, hml, hown, hts⟩ (c_X4_sizeOf l E (d := dg v.toInt.natAbs) (n := 220) (m0 := 4) (hm_up_self _ _ _) (by decide) (by decide) (fun j _ => by have := dg_lt v.toInt.natAbs j; omega) H.size) (va_cwS 2 hts (hm_gS kw_546 kw_547 kw_41 kw_548) rfl rfl rfl (by decide +kernel) ⟨Nat.le_of_ble_eq_true rfl, Nat.le_of_ble_eq_true rfl⟩) (hm_preS hK hV) rfl rfl hl.1 rfl (lv_room (Nat.le_of_ble_eq_true rfl)) dX4_loadLong_61 ⟨Nat.le_of_ble_eq_true rfl, Nat.le_of_ble_eq_true rfl⟩) hV hA (fun r61 M1 H locs hp hV => ?_)
          obtain ⟨hr61, hM1⟩ := hp
          rw [hM1] at hV
          rw [sg_k (show v.toInt.natAbs < 65536 ^ 4 from hu2) (by decide)] at hr61
          subst hr61
          refine hm_put (ci := 6) (v := .int (nI (sg v.toInt.natAbs))) (ty := .int) (C := RX4) (T := TX4) (N := 16) hx hb hws kin_X4 tyX4 tyX4_ok nmX4 hown hK.1 hV ((hm_up_ne _ _ (md_ap hk (i := 0) (j := 5) (by decide) (by decide) (by decide))).trans (md_x hk)) rfl 7 (by decide) fl64 (fun _ h9 => h9) rfl (by decide +kernel) rfl rfl (Nat.le_of_ble_eq_true rfl) dX4_loadLong_64 (fun H locs hV => ?_)
          have hV : hm_V E.1 vwCl (hm_A M sz) s.heap (hm_up (hm_up M (A 5) (hm_I E 220 (fun j => nI (dg v.toInt.natAbs j)))) (A 0) (.inr (6, [.int th, .int (nI cnt), .ref (A 1), .ref (A 2), .ref (A 3), .ref (A 4), .ref (A 5), .int (nI (sg v.toInt.natAbs)), .ref (A 6), .int (nI ko), .ref (A 7), .ref (A 8), .ref (A 9), .ref (A 10), .ref (A 11), .ref (A 12)]))) H locs := hV
          rw [hQf]
          exact W.vret hx hb hr (fun t ht hW => ⟨⟨(hm_up (hm_up M (A 5) (hm_I E 220 (fun j => nI (dg v.toInt.natAbs j)))) (A 0) (.inr (6, [.int th, .int (nI cnt), .ref (A 1), .ref (A 2), .ref (A 3), .ref (A 4), .ref (A 5), .int (nI (sg v.toInt.natAbs)), .ref (A 6), .int (nI ko), .ref (A 7), .ref (A 8), .ref (A 9), .ref (A 10), .ref (A 11), .ref (A 12)]))), rfl, md_ux (md_uw hk _) th (sg v.toInt.natAbs) ko, (hm_end hV ht).1⟩, (hm_end hV ht).2⟩) hV.2.2.2.2 dX4_loadLong_67
        · have hi2 : i < 4 := by
            rcases Nat.lt_or_ge i 4 with q | q
            · exact q
            · exact absurd (nI_le (a := 4) (b := i) q (by omega)) c27
          refine lv_aload_n hx hb dX4_loadLong_30 rfl (lv_at hl 0 rfl) ?_
          refine hm_get (ci := 6) (v := .ref (A 5)) (C := RX4) (T := TX4) (N := 16) hx hb hws kin_X4 hown hK.1 hV ((hm_up_ne _ _ (md_ap hk (i := 0) (j := 5) (by decide) (by decide) (by decide))).trans (md_x hk)) rfl 6 (by decide) fl24 (fun _ h9 => h9) rfl dX4_loadLong_31 ?_
          refine lv_iload hx hb dX4_loadLong_34 (lv_at hl 3 rfl) ?_
          refine lv_lload_n hx hb dX4_loadLong_36 rfl (lv_at hl 2 rfl) ?_
          refine lv_bipush (v := 16) hx hb dX4_loadLong_37 (by decide) ?_
          refine lv_iload hx hb dX4_loadLong_39 (lv_at hl 3 rfl) ?_
          refine lv_imul hx hb dX4_loadLong_41 ?_
          refine hm_topi (show (16 * (nI i)) = nI (16 * i) from nI_16 i) ?_
          refine lv_lushr hx hb dX4_loadLong_42 rfl ?_
          refine lv_ldc2 (v := 65535) hx hb hown ld70 dX4_loadLong_43 ?_
          refine lv_land hx hb dX4_loadLong_46 ?_
          refine lv_l2i hx hb dX4_loadLong_47 rfl ?_
          refine hm_topi (show (((((lN v.toInt.natAbs).toUInt64 >>> ((nI (16 * i)).toInt64.toUInt64 &&& Int64.toUInt64 63)).toInt64) &&& 65535).toInt32) = nI (dg v.toInt.natAbs i) from ld16 hu2 hi2) ?_
          refine hm_iastN hx hb hK.1 hV 0 (hm_up_self _ _ _) rfl (k := i) (by omega) (by omega) dX4_loadLong_48 (fun H locs hV => ?_)
          rw [show (upd (fun j => nI (if j < i then dg v.toInt.natAbs j else dg 0 j)) i (nI (dg v.toInt.natAbs i))) = (fun j => nI (if j < i + 1 then dg v.toInt.natAbs j else dg 0 j)) from nu_up (dg v.toInt.natAbs) (dg 0) i] at hV
          rw [hm_u0] at hV
          have hV : hm_V E.1 vwCl (hm_A M sz) s.heap (hm_up M (A 5) (hm_I E 220 (fun j => nI (if j < i + 1 then dg v.toInt.natAbs j else dg 0 j)))) H locs := hV
          refine lv_iinc (v := (nI (i + 1))) (lv' := [(5, .int (nI (i + 1))), (0, .ref (A 0)), (1, .long v), (3, .long (lN v.toInt.natAbs))]) hx hb dX4_loadLong_49 hl (k := 3) rfl (nI_1 i) (by decide) rfl (fun ls hl => ?_)
          refine lv_goto (tgt := 24) hx hb dX4_loadLong_52 (by decide) ?_
          exact ih_loop (i + 1) (by omega) (by omega) ls H locs (lv_sub hl [1, 2, 3, 0] rfl) hV
    exact loop 5 0 (by omega) (by omega) ls H locs (lv_sub hl [2, 3, 1, 0] rfl) hV
  refine lv_lload_n hx hb dX4_loadLong_8 rfl (lv_at hl 1 rfl) ?_
  refine lv_lconst (v := 0) hx hb dX4_loadLong_9 (by decide) ?_
  refine W.lcmp hx hb dX4_loadLong_10 ?_
  refine lv_if_ge (tgt := 19) hx hb dX4_loadLong_11 (by decide) (fun c11 => ?_) (fun c11 => ?_)
  · refine lv_lload_n hx hb dX4_loadLong_19 rfl (lv_at hl 1 rfl) ?_
    have hv0 : (0 : Int64) ≤ v := (lg_cmp_ge v 0).mp c11
    refine hm_topl (show v = lN v.toInt.natAbs from am_pos hv0) ?_
    exact body  ls H locs (lv_sub hl [0, 1] rfl) hV
  · refine lv_lload_n hx hb dX4_loadLong_14 rfl (lv_at hl 1 rfl) ?_
    refine lv_lneg hx hb dX4_loadLong_15 ?_
    refine lv_goto (tgt := 20) hx hb dX4_loadLong_16 (by decide) ?_
    have hv0 : v < 0 := by
      have h8 : ¬ (0 : Int64) ≤ v := fun q => c11 ((lg_cmp_ge v 0).mpr q)
      exact Int64.not_le.mp h8
    refine hm_topl (show (-v) = lN v.toInt.natAbs from am_neg hv0) ?_
    exact body  ls H locs (lv_sub hl [0, 1] rfl) hV

abbrev wd_X4_isTooWide : List Cond := .code yX4_isTooWide cX4_isTooWide 1 (some .boolean) :: hm_ws
abbrev rm_X4_isTooWide : Room := { frames := 0, cells := 0, slots := 0, locals := 0 }

set_option maxHeartbeats 4000000 in
set_option maxRecDepth 100000 in
/-- isTooWide() -/
theorem c_X4_isTooWide (l : Launch) (E : hm_E) {M : hm_M} {A : Nat → Nat} {th : Int32} {cnt k ko : Nat} {nums : Nat → Int} {t : Nat → Nat → Int64} {X O : Nat → Int32} (hk : md E M A th cnt k ko nums t X O) (hk0 : k ≤ 220) : hm_Ci l E yX4_isTooWide wd_X4_isTooWide rm_X4_isTooWide [.ref (A 0)] M (fun r M1 => ((r = 0 ∧ k ≤ 100) ∨ (r = 1 ∧ 100 < k)) ∧ M1 = M) := by
  intro sz
  refine Met.ofW (cc := cX4_isTooWide) (maxL := 1) (ret := (some .boolean)) (by decide) rfl ?_
  intro p e s m args below meth c s₁ B hml hv
  obtain ⟨rfl, hAe, hA, hK, hV⟩ := hm_start hv
  have hx := B.exec
  have hb := B.bytes
  have hr := B.returns
  have hts := atoms_spec (ws := wd_X4_isTooWide) B.pre
  have hws : ∀ w ∈ hm_ws, w.before _ s = true := fun w h => hts w (List.mem_cons_of_mem _ h)
  have hown : s.vm.findClass RX4 = some m.cls := findClass_of_methodNamed B.named
  have hlocks := B.notSynchronized
  have fl64 := hws _ kw_486
  have hl := lv_entry ([.ref (A 0)]) (n := 1) (Nat.le_of_ble_eq_true rfl)
  rw [lg_entry_eq]
  generalize (lg_sl ([.ref (A 0)]) ++ List.replicate (1 - (lg_sl ([.ref (A 0)])).length) Slot.unset).toArray = ls at hl ⊢
  have hl : lv_has ls 1 [(0, .ref (A 0))] := hl
  refine hm_gen (rm := rm_X4_isTooWide) rfl (fun Qf hQf => ?_)
  refine lv_aload_n hx hb dX4_isTooWide_0 rfl (lv_at hl 0 rfl) ?_
  refine hm_get (ci := 6) (v := .int (nI k)) (C := RX4) (T := TX4) (N := 16) hx hb hws kin_X4 hown hK.1 hV (md_x hk) rfl 7 (by decide) fl64 (fun _ h9 => h9) rfl dX4_isTooWide_1 ?_
  refine lv_bipush (v := 100) hx hb dX4_isTooWide_4 (by decide) ?_
  refine lv_icmp_le (tgt := 13) hx hb dX4_isTooWide_6 (by decide) (fun c6 => ?_) (fun c6 => ?_)
  · have hc : k ≤ 100 := (nI_leI (b := 100) (by omega) (by omega)).mp c6
    refine lv_iconst (v := 0) hx hb dX4_isTooWide_13 (by decide) ?_
    rw [hQf]
    exact W.zret hx hb hr (rfl) (fun t ht hW => ⟨⟨_, M, rfl, ⟨Or.inl ⟨rfl, hc⟩, rfl⟩, (hm_end hV ht).1⟩, (hm_end hV ht).2⟩) hV.2.2.2.2 dX4_isTooWide_14
  · have hc : 100 < k := by
      rcases Nat.lt_or_ge 100 k with q | q
      · exact q
      · exact absurd (nI_le (b := 100) q (by omega)) c6
    refine lv_iconst (v := 1) hx hb dX4_isTooWide_9 (by decide) ?_
    refine lv_goto (tgt := 14) hx hb dX4_isTooWide_10 (by decide) ?_
    rw [hQf]
    exact W.zret hx hb hr (rfl) (fun t ht hW => ⟨⟨_, M, rfl, ⟨Or.inr ⟨rfl, hc⟩, rfl⟩, (hm_end hV ht).1⟩, (hm_end hV ht).2⟩) hV.2.2.2.2 dX4_isTooWide_14

abbrev wd_X4_keep : List Cond := .code yX4_keep cX4_keep 3 (some .int) :: hm_ws
abbrev rm_X4_keep : Room := { frames := 1, cells := 0, slots := 0, locals := 20 }

set_option maxHeartbeats 4000000 in
set_option maxRecDepth 100000 in
/-- keep(negative) -/
theorem c_X4_keep (l : Launch) (E : hm_E) {M : hm_M} {A : Nat → Nat} {th : Int32} {cnt ko : Nat} {nums : Nat → Int} {t : Nat → Nat → Int64} {O : Nat → Int32} {v : Nat} {z : Int} {g : Int32} (hk : md E M A th cnt (sg v) ko nums t (fun j => nI (dg v j)) O) (hv2 : v < 65536 ^ 220) (hz : hid (z = (if g = 0 then (v : Int) else -(v : Int)))) : hm_Ci l E yX4_keep wd_X4_keep rm_X4_keep [.ref (A 0), .int g] M (fun r M1 => ∃ (cnt1 : Nat) (nums1 : Nat → Int), kp cnt nums (some z) r cnt1 nums1 ∧ md E M1 A th cnt1 (sg v) ko nums1 t (fun j => nI (dg v j)) O) := by
  intro sz
  refine Met.ofW (cc := cX4_keep) (maxL := 3) (ret := (some .int)) (by decide) rfl ?_
  intro p e s m args below meth c s₁ B hml hv
  obtain ⟨rfl, hAe, hA, hK, hV⟩ := hm_start hv
  have hx := B.exec
  have hb := B.bytes
  have hr := B.returns
  have hts := atoms_spec (ws := wd_X4_keep) B.pre
  have hws : ∀ w ∈ hm_ws, w.before _ s = true := fun w h => hts w (List.mem_cons_of_mem _ h)
  have hown : s.vm.findClass RX4 = some m.cls := findClass_of_methodNamed B.named
  have hlocks := B.notSynchronized
  have fl53 := hws _ kw_480
  have fl64 := hws _ kw_486
  have fl7 := hws _ kw_481
  have fl24 := hws _ kw_485
  have fl13 := hws _ kw_482
  have fl16 := hws _ kw_483
  have hl := lv_entry ([.ref (A 0), .int g]) (n := 3) (Nat.le_of_ble_eq_true rfl)
  rw [lg_entry_eq]
  generalize (lg_sl ([.ref (A 0), .int g]) ++ List.replicate (3 - (lg_sl ([.ref (A 0), .int g])).length) Slot.unset).toArray = ls at hl ⊢
  have hl : lv_has ls 3 [(0, .ref (A 0)), (1, .int g)] := hl
  refine hm_gen (rm := rm_X4_keep) rfl (fun Qf hQf => ?_)
  have hc := md_c hk
  have hvs := sg_220 v
  have hza : z.natAbs = v := by rw [show z = (if g = 0 then (v : Int) else -(v : Int)) from hz]; split <;> omega
  obtain ⟨L, S, Bl, hL, hS, hB3, hn⟩ := md_n hk
  have no : (160 ≤ cnt ∨ bigN ≤ v) → ∀ (ls : Array Slot) (H : Heap) (locs : List Loc), lv_has ls 3 [(0, .ref (A 0)), (1, .int g)] → hm_V E.1 vwCl (hm_A M sz) s.heap (M) H locs → W p l e rm_X4_keep s m [.ref (A 0), .int g].toArray below meth c H locs 0 0 Qf (F0 m 17 ls []) := by
    intro  hno ls H locs hl hV
    refine lv_iconst (v := (-1)) hx hb dX4_keep_17 (by decide) ?_
    rw [hQf]
    exact W.iret hx hb hr (fun t ht hW => ⟨⟨_, M, rfl, ⟨cnt, nums, Or.inr ⟨by
      rcases hno with h9 | h9
      · exact Or.inl h9
      · exact Or.inr (Or.inr ⟨z, rfl, by rw [hza]; exact h9⟩), rfl, rfl, fun _ _ => rfl⟩, hk⟩, (hm_end hV ht).1⟩, (hm_end hV ht).2⟩) hV.2.2.2.2 dX4_keep_18
  refine lv_aload_n hx hb dX4_keep_0 rfl (lv_at hl 0 rfl) ?_
  refine hm_get (ci := 6) (v := .int (nI cnt)) (C := RX4) (T := TX4) (N := 16) hx hb hws kin_X4 hown hK.1 hV (md_x hk) rfl 1 (by decide) fl53 (fun _ h9 => h9) rfl dX4_keep_1 ?_
  refine lv_sipush (v := 160) hx hb dX4_keep_4 (by decide) ?_
  refine lv_icmp_eq (tgt := 17) hx hb dX4_keep_7 (by decide) (fun c7 => ?_) (fun c7 => ?_)
  · have hc1 : cnt = 160 := (nI_eq (b := 160) (by omega) (by omega)).mp c7
    exact no (Or.inl (by omega)) ls s.heap [] (lv_sub hl [0, 1] rfl) hV
  · have hc1 : cnt < 160 := by
      have : cnt ≠ 160 := fun q => c7 (by rw [q]; rfl)
      omega
    refine lv_aload_n hx hb dX4_keep_10 rfl (lv_at hl 0 rfl) ?_
    refine hm_calli (va_runV (As := []) (rest := []) ⟨hx, hb, hml, hown, hts⟩ (c_X4_isTooWide l E hk hvs s.heap.size) (cwV 0 hts (hm_gV kw_553 kw_555 kw_20 kw_41 kw_556) rfl rfl rfl (by decide +kernel) ⟨Nat.le_of_ble_eq_true rfl, Nat.le_of_ble_eq_true rfl⟩) (hm_preV hK hV (md_x hk) rfl) rfl rfl hl.1 rfl (lv_room (Nat.le_of_ble_eq_true rfl)) dX4_keep_11 ⟨Nat.le_of_ble_eq_true rfl, Nat.le_of_ble_eq_true rfl⟩) hV hA (fun r11 M1 H locs hp hV => ?_)
    obtain ⟨hr11, hM1⟩ := hp
    rw [hM1] at hV
    refine lv_if_eq (tgt := 19) hx hb dX4_keep_14 (by decide) (fun c14 => ?_) (fun c14 => ?_)
    · have hv3 : sg v ≤ 100 := by
        rcases hr11 with h9 | h9
        · exact h9.2
        · rw [h9.1] at c14; exact absurd c14 (by decide)
      have hv : v < bigN := (sg_le hv2).mp hv3
      have hV : hm_V E.1 vwCl (hm_A M sz) s.heap (hm_up M (A 1) (hm_I E 16640 (fun j => nI (if 104 * cnt ≤ j ∧ j < 104 * cnt + 0 then dg v (j - 104 * cnt) else L j)))) H locs := by rw [hm_up_id ((hL).trans (congrArg (fun f9 => some (hm_I E 16640 f9)) (nu_win0 (dg v) L (104 * cnt))))]; exact hV
      refine lv_iconst (v := 0) hx hb dX4_keep_19 (by decide) ?_
      refine lv_istore_n (lv' := [(2, .int 0), (0, .ref (A 0)), (1, .int g)]) hx hb dX4_keep_20 rfl hl (by decide) rfl (fun ls hl => ?_)
      have loop : ∀ (fu : Nat) (i : Nat), (i ≤ sg v) → sg v - i < fu → ∀ (ls : Array Slot) (H : Heap) (locs : List Loc), lv_has ls 3 [(0, .ref (A 0)), (1, .int g), (2, .int (nI i))] → hm_V E.1 vwCl (hm_A M sz) s.heap (hm_up M (A 1) (hm_I E 16640 (fun j => nI (if 104 * cnt ≤ j ∧ j < 104 * cnt + i then dg v (j - 104 * cnt) else L j)))) H locs → W p l e rm_X4_keep s m [.ref (A 0), .int g].toArray below meth c H locs 0 0 Qf (F0 m 21 ls []) := by
        intro fu
        induction fu with
        | zero => intro i hi hfu; exact absurd hfu (Nat.not_lt_zero _)
        | succ fu ih_loop =>
          intro i hi hfu ls H locs hl hV
          refine lv_iload_n hx hb dX4_keep_21 rfl (lv_at hl 2 rfl) ?_
          refine lv_aload_n hx hb dX4_keep_22 rfl (lv_at hl 0 rfl) ?_
          refine hm_get (ci := 6) (v := .int (nI (sg v))) (C := RX4) (T := TX4) (N := 16) hx hb hws kin_X4 hown hK.1 hV ((hm_up_ne _ _ (md_ap hk (i := 0) (j := 1) (by decide) (by decide) (by decide))).trans (md_x hk)) rfl 7 (by decide) fl64 (fun _ h9 => h9) rfl dX4_keep_23 ?_
          refine lv_icmp_ge (tgt := 55) hx hb dX4_keep_26 (by decide) (fun c26 => ?_) (fun c26 => ?_)
          · have hi2 : i = (sg v) := by
              rcases Nat.lt_or_ge i (sg v) with q | q
              · exact absurd c26 (nI_ge (a := i) (b := (sg v)) q (by omega))
              · omega
            rw [hi2] at hV
            refine lv_aload_n hx hb dX4_keep_55 rfl (lv_at hl 0 rfl) ?_
            refine hm_get (ci := 6) (v := .ref (A 2)) (C := RX4) (T := TX4) (N := 16) hx hb hws kin_X4 hown hK.1 hV ((hm_up_ne _ _ (md_ap hk (i := 0) (j := 1) (by decide) (by decide) (by decide))).trans (md_x hk)) rfl 3 (by decide) fl13 (fun _ h9 => h9) rfl dX4_keep_56 ?_
            refine lv_aload_n hx hb dX4_keep_59 rfl (lv_at hl 0 rfl) ?_
            refine hm_get (ci := 6) (v := .int (nI cnt)) (C := RX4) (T := TX4) (N := 16) hx hb hws kin_X4 hown hK.1 hV ((hm_up_ne _ _ (md_ap hk (i := 0) (j := 1) (by decide) (by decide) (by decide))).trans (md_x hk)) rfl 1 (by decide) fl53 (fun _ h9 => h9) rfl dX4_keep_60 ?_
            refine lv_aload_n hx hb dX4_keep_63 rfl (lv_at hl 0 rfl) ?_
            refine hm_get (ci := 6) (v := .int (nI (sg v))) (C := RX4) (T := TX4) (N := 16) hx hb hws kin_X4 hown hK.1 hV ((hm_up_ne _ _ (md_ap hk (i := 0) (j := 1) (by decide) (by decide) (by decide))).trans (md_x hk)) rfl 7 (by decide) fl64 (fun _ h9 => h9) rfl dX4_keep_64 ?_
            refine hm_iastN hx hb hK.1 hV 0 ((hm_up_ne _ _ (md_ap hk (i := 2) (j := 1) (by decide) (by decide) (by decide))).trans hS) rfl (k := cnt) (by omega) (by omega) dX4_keep_67 (fun H locs hV => ?_)
            have hV : hm_V E.1 vwCl (hm_A M sz) s.heap (hm_up (hm_up M (A 1) (hm_I E 16640 (fun j => nI (if 104 * cnt ≤ j ∧ j < 104 * cnt + sg v then dg v (j - 104 * cnt) else L j)))) (A 2) (hm_I E 160 (upd (fun j => nI (S j)) cnt (nI (sg v))))) H locs := hV
            refine lv_aload_n hx hb dX4_keep_68 rfl (lv_at hl 0 rfl) ?_
            refine hm_get (ci := 6) (v := .ref (A 3)) (C := RX4) (T := TX4) (N := 16) hx hb hws kin_X4 hown hK.1 hV ((hm_up_ne _ _ (md_ap hk (i := 0) (j := 2) (by decide) (by decide) (by decide))).trans ((hm_up_ne _ _ (md_ap hk (i := 0) (j := 1) (by decide) (by decide) (by decide))).trans (md_x hk))) rfl 4 (by decide) fl16 (fun _ h9 => h9) rfl dX4_keep_69 ?_
            refine lv_aload_n hx hb dX4_keep_72 rfl (lv_at hl 0 rfl) ?_
            refine hm_get (ci := 6) (v := .int (nI cnt)) (C := RX4) (T := TX4) (N := 16) hx hb hws kin_X4 hown hK.1 hV ((hm_up_ne _ _ (md_ap hk (i := 0) (j := 2) (by decide) (by decide) (by decide))).trans ((hm_up_ne _ _ (md_ap hk (i := 0) (j := 1) (by decide) (by decide) (by decide))).trans (md_x hk))) rfl 1 (by decide) fl53 (fun _ h9 => h9) rfl dX4_keep_73 ?_
            refine lv_iload_n hx hb dX4_keep_76 rfl (lv_at hl 1 rfl) ?_
            have tail : ∀ (y : Int32), (y = (if z < 0 then 1 else 0)) → ∀ (ls : Array Slot) (H : Heap) (locs : List Loc), lv_has ls 3 [(0, .ref (A 0)), (1, .int g), (2, .int (nI i))] → hm_V E.1 vwCl (hm_A M sz) s.heap (hm_up (hm_up M (A 1) (hm_I E 16640 (fun j => nI (if 104 * cnt ≤ j ∧ j < 104 * cnt + sg v then dg v (j - 104 * cnt) else L j)))) (A 2) (hm_I E 160 (upd (fun j => nI (S j)) cnt (nI (sg v))))) H locs → W p l e rm_X4_keep s m [.ref (A 0), .int g].toArray below meth c H locs 0 0 Qf (F0 m 92 ls [.int y, .int (nI cnt), .ref (A 3)]) := by
              intro y hy ls H locs hl hV
              subst hy
              refine hm_zastN hx hb hK.1 hV 2 ((hm_up_ne _ _ (md_ap hk (i := 3) (j := 2) (by decide) (by decide) (by decide))).trans ((hm_up_ne _ _ (md_ap hk (i := 3) (j := 1) (by decide) (by decide) (by decide))).trans hB3)) rfl (k := cnt) (by omega) (by omega) (by split <;> rfl) dX4_keep_92 (fun H locs hV => ?_)
              have hV : hm_V E.1 vwCl (hm_A M sz) s.heap (hm_up (hm_up (hm_up M (A 1) (hm_I E 16640 (fun j => nI (if 104 * cnt ≤ j ∧ j < 104 * cnt + sg v then dg v (j - 104 * cnt) else L j)))) (A 2) (hm_I E 160 (upd (fun j => nI (S j)) cnt (nI (sg v))))) (A 3) (hm_Z E 160 (upd Bl cnt (if z < 0 then 1 else 0)))) H locs := hV
              refine lv_aload_n hx hb dX4_keep_93 rfl (lv_at hl 0 rfl) ?_
              refine lv_dup hx hb dX4_keep_94 rfl ?_
              refine hm_get (ci := 6) (v := .int (nI cnt)) (C := RX4) (T := TX4) (N := 16) hx hb hws kin_X4 hown hK.1 hV ((hm_up_ne _ _ (md_ap hk (i := 0) (j := 3) (by decide) (by decide) (by decide))).trans ((hm_up_ne _ _ (md_ap hk (i := 0) (j := 2) (by decide) (by decide) (by decide))).trans ((hm_up_ne _ _ (md_ap hk (i := 0) (j := 1) (by decide) (by decide) (by decide))).trans (md_x hk)))) rfl 1 (by decide) fl53 (fun _ h9 => h9) rfl dX4_keep_95 ?_
              refine lv_iconst (v := 1) hx hb dX4_keep_98 (by decide) ?_
              refine lv_iadd hx hb dX4_keep_99 ?_
              refine hm_topi (show ((nI cnt) + 1) = nI (cnt + 1) from nI_1 cnt) ?_
              refine hm_put (ci := 6) (v := .int (nI (cnt + 1))) (ty := .int) (C := RX4) (T := TX4) (N := 16) hx hb hws kin_X4 tyX4 tyX4_ok nmX4 hown hK.1 hV ((hm_up_ne _ _ (md_ap hk (i := 0) (j := 3) (by decide) (by decide) (by decide))).trans ((hm_up_ne _ _ (md_ap hk (i := 0) (j := 2) (by decide) (by decide) (by decide))).trans ((hm_up_ne _ _ (md_ap hk (i := 0) (j := 1) (by decide) (by decide) (by decide))).trans (md_x hk)))) rfl 1 (by decide) fl53 (fun _ h9 => h9) rfl (by decide +kernel) rfl rfl (Nat.le_of_ble_eq_true rfl) dX4_keep_100 (fun H locs hV => ?_)
              have hV : hm_V E.1 vwCl (hm_A M sz) s.heap (hm_up (hm_up (hm_up (hm_up M (A 1) (hm_I E 16640 (fun j => nI (if 104 * cnt ≤ j ∧ j < 104 * cnt + sg v then dg v (j - 104 * cnt) else L j)))) (A 2) (hm_I E 160 (upd (fun j => nI (S j)) cnt (nI (sg v))))) (A 3) (hm_Z E 160 (upd Bl cnt (if z < 0 then 1 else 0)))) (A 0) (.inr (6, [.int th, .int (nI (cnt + 1)), .ref (A 1), .ref (A 2), .ref (A 3), .ref (A 4), .ref (A 5), .int (nI (sg v)), .ref (A 6), .int (nI ko), .ref (A 7), .ref (A 8), .ref (A 9), .ref (A 10), .ref (A 11), .ref (A 12)]))) H locs := hV
              refine lv_aload_n hx hb dX4_keep_103 rfl (lv_at hl 0 rfl) ?_
              refine hm_get (ci := 6) (v := .int (nI (cnt + 1))) (C := RX4) (T := TX4) (N := 16) hx hb hws kin_X4 hown hK.1 hV (hm_up_self _ _ _) rfl 1 (by decide) fl53 (fun _ h9 => h9) rfl dX4_keep_104 ?_
              refine lv_iconst (v := 1) hx hb dX4_keep_107 (by decide) ?_
              refine lv_isub hx hb dX4_keep_108 ?_
              refine hm_topi (show ((nI (cnt + 1)) - 1) = nI cnt from nI_pred cnt) ?_
              rw [hQf]
              exact W.iret hx hb hr (fun t ht hW => ⟨⟨_, (hm_up (hm_up (hm_up (hm_up M (A 1) (hm_I E 16640 (fun j => nI (if 104 * cnt ≤ j ∧ j < 104 * cnt + sg v then dg v (j - 104 * cnt) else L j)))) (A 2) (hm_I E 160 (upd (fun j => nI (S j)) cnt (nI (sg v))))) (A 3) (hm_Z E 160 (upd Bl cnt (if z < 0 then 1 else 0)))) (A 0) (.inr (6, [.int th, .int (nI (cnt + 1)), .ref (A 1), .ref (A 2), .ref (A 3), .ref (A 4), .ref (A 5), .int (nI (sg v)), .ref (A 6), .int (nI ko), .ref (A 7), .ref (A 8), .ref (A 9), .ref (A 10), .ref (A 11), .ref (A 12)]))), rfl, ⟨cnt + 1, _, Or.inl ⟨z, rfl, hc1, by rw [hza]; exact hv, rfl, rfl, if_pos rfl, fun j hj => if_neg (by omega)⟩, md_keep hk hn hc1 hv hza⟩, (hm_end hV ht).1⟩, (hm_end hV ht).2⟩) hV.2.2.2.2 dX4_keep_109
            refine lv_if_eq (tgt := 91) hx hb dX4_keep_77 (by decide) (fun c77 => ?_) (fun c77 => ?_)
            · refine lv_iconst (v := 0) hx hb dX4_keep_91 (by decide) ?_
              exact tail 0 (by rw [if_neg (by rw [show z = (if g = 0 then (v : Int) else -(v : Int)) from hz, if_pos c77]; omega)]) ls H locs (lv_sub hl [0, 1, 2] rfl) hV
            · refine lv_aload_n hx hb dX4_keep_80 rfl (lv_at hl 0 rfl) ?_
              refine hm_get (ci := 6) (v := .int (nI (sg v))) (C := RX4) (T := TX4) (N := 16) hx hb hws kin_X4 hown hK.1 hV ((hm_up_ne _ _ (md_ap hk (i := 0) (j := 2) (by decide) (by decide) (by decide))).trans ((hm_up_ne _ _ (md_ap hk (i := 0) (j := 1) (by decide) (by decide) (by decide))).trans (md_x hk))) rfl 7 (by decide) fl64 (fun _ h9 => h9) rfl dX4_keep_81 ?_
              refine lv_if_le (tgt := 91) hx hb dX4_keep_84 (by decide) (fun c84 => ?_) (fun c84 => ?_)
              · have hv0 : v = 0 := by
                  have : sg v = 0 := by
                    rcases Nat.eq_zero_or_pos (sg v) with q | q
                    · exact q
                    · exact absurd c84 (nI_nle q (by omega))
                  exact (sg_0 hv2).mp this
                refine lv_iconst (v := 0) hx hb dX4_keep_91 (by decide) ?_
                exact tail 0 (by rw [if_neg (by omega)]) ls H locs (lv_sub hl [0, 1, 2] rfl) hV
              · have hv0 : v ≠ 0 := fun q => by
                  rw [(sg_0 hv2).mpr q] at c84; exact c84 (Int32.le_refl _)
                refine lv_iconst (v := 1) hx hb dX4_keep_87 (by decide) ?_
                refine lv_goto (tgt := 92) hx hb dX4_keep_88 (by decide) ?_
                exact tail 1 (by rw [if_pos (by rw [show z = (if g = 0 then (v : Int) else -(v : Int)) from hz, if_neg c77]; omega)]) ls H locs (lv_sub hl [0, 1, 2] rfl) hV
          · have hi2 : i < (sg v) := by
              rcases Nat.lt_or_ge i (sg v) with q | q
              · exact q
              · exact absurd (nI_le (a := (sg v)) (b := i) q (by omega)) c26
            refine lv_aload_n hx hb dX4_keep_29 rfl (lv_at hl 0 rfl) ?_
            refine hm_get (ci := 6) (v := .ref (A 1)) (C := RX4) (T := TX4) (N := 16) hx hb hws kin_X4 hown hK.1 hV ((hm_up_ne _ _ (md_ap hk (i := 0) (j := 1) (by decide) (by decide) (by decide))).trans (md_x hk)) rfl 2 (by decide) fl7 (fun _ h9 => h9) rfl dX4_keep_30 ?_
            refine lv_bipush (v := 104) hx hb dX4_keep_33 (by decide) ?_
            refine lv_aload_n hx hb dX4_keep_35 rfl (lv_at hl 0 rfl) ?_
            refine hm_get (ci := 6) (v := .int (nI cnt)) (C := RX4) (T := TX4) (N := 16) hx hb hws kin_X4 hown hK.1 hV ((hm_up_ne _ _ (md_ap hk (i := 0) (j := 1) (by decide) (by decide) (by decide))).trans (md_x hk)) rfl 1 (by decide) fl53 (fun _ h9 => h9) rfl dX4_keep_36 ?_
            refine lv_imul hx hb dX4_keep_39 ?_
            refine lv_iload_n hx hb dX4_keep_40 rfl (lv_at hl 2 rfl) ?_
            refine lv_iadd hx hb dX4_keep_41 ?_
            refine hm_topi (show ((104 * (nI cnt)) + (nI i)) = nI (104 * cnt + i) from nI_104 cnt i) ?_
            refine lv_aload_n hx hb dX4_keep_42 rfl (lv_at hl 0 rfl) ?_
            refine hm_get (ci := 6) (v := .ref (A 5)) (C := RX4) (T := TX4) (N := 16) hx hb hws kin_X4 hown hK.1 hV ((hm_up_ne _ _ (md_ap hk (i := 0) (j := 1) (by decide) (by decide) (by decide))).trans (md_x hk)) rfl 6 (by decide) fl24 (fun _ h9 => h9) rfl dX4_keep_43 ?_
            refine lv_iload_n hx hb dX4_keep_46 rfl (lv_at hl 2 rfl) ?_
            refine hm_ialdN hx hb hK.1 hV 0 ((hm_up_ne _ _ (md_ap hk (i := 5) (j := 1) (by decide) (by decide) (by decide))).trans (md_w hk)) rfl (k := i) (by omega) (by omega) dX4_keep_47 ?_
            refine hm_iastN hx hb hK.1 hV 0 (hm_up_self _ _ _) rfl (k := (104 * cnt + i)) (by omega) (by omega) dX4_keep_48 (fun H locs hV => ?_)
            rw [show (upd (fun j => nI (if 104 * cnt ≤ j ∧ j < 104 * cnt + i then dg v (j - 104 * cnt) else L j)) (104 * cnt + i) (nI (dg v i))) = (fun j => nI (if 104 * cnt ≤ j ∧ j < 104 * cnt + (i + 1) then dg v (j - 104 * cnt) else L j)) from nu_win (dg v) L (104 * cnt) i] at hV
            rw [hm_u0] at hV
            have hV : hm_V E.1 vwCl (hm_A M sz) s.heap (hm_up M (A 1) (hm_I E 16640 (fun j => nI (if 104 * cnt ≤ j ∧ j < 104 * cnt + (i + 1) then dg v (j - 104 * cnt) else L j)))) H locs := hV
            refine lv_iinc (v := (nI (i + 1))) (lv' := [(2, .int (nI (i + 1))), (0, .ref (A 0)), (1, .int g)]) hx hb dX4_keep_49 hl (k := 2) rfl (nI_1 i) (by decide) rfl (fun ls hl => ?_)
            refine lv_goto (tgt := 21) hx hb dX4_keep_52 (by decide) ?_
            exact ih_loop (i + 1) (by omega) (by omega) ls H locs (lv_sub hl [1, 2, 0] rfl) hV
      exact loop (sg v + 1) 0 (Nat.zero_le _) (by omega) ls H locs (lv_sub hl [1, 2, 0] rfl) hV
    · have hv3 : 100 < sg v := by
        rcases hr11 with h9 | h9
        · exact absurd h9.1 c14
        · exact h9.2
      exact no (Or.inr (by
        rcases Nat.lt_or_ge v bigN with q | q
        · exact absurd (big100 q) (by omega)
        · exact q)) ls H locs (lv_sub hl [0, 1] rfl) hV
