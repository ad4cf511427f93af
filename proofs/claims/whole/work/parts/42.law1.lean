abbrev wd_L_add : List Cond := .codeWith yL_add cL_add 5 (some .int) [(0, 10, 13, 13)] :: hm_ws
abbrev rm_L_add : Room := { frames := 9, cells := 4, slots := 79, locals := 155 }

set_option maxHeartbeats 4000000 in
set_option maxRecDepth 100000 in
theorem c_L_add (l : Launch) (hlt : l.stackTraces = false) (E : hm_E) {M Mx No : hm_M} {x ot cnt : Nat} {nums : Nat → Int} {t : Nat → Nat → Int64} {f : Nat → Int64} {a b : Int32} (hM : M = hm_j Mx No) (hd : hm_dj Mx No) (hxp : xp E Mx x cnt nums t) (ho : No ot = some (hm_J E 1 f)) : hm_XCi l E yL_add wd_L_add rm_L_add [.ref x, .int a, .int b, .ref ot] M (fun r M1 => (r = 0 ∧ ∃ v cnt1 nums1 Mx1, (∃ i j, i < cnt ∧ j < cnt ∧ a = nI i ∧ b = nI j ∧ kp cnt nums (some (nums i + nums j)) v cnt1 nums1) ∧ hm_dj Mx1 (hm_up No ot (hm_J E 1 (vp_updL f 0 v.toInt64))) ∧ M1 = hm_j Mx1 (hm_up No ot (hm_J E 1 (vp_updL f 0 v.toInt64))) ∧ xp E Mx1 x cnt1 nums1 t) ∨ ((r = 1 ∧ ¬ (kn cnt a ∧ kn cnt b)) ∧ ∃ Mx1, hm_dj Mx1 No ∧ M1 = hm_j Mx1 No ∧ xp E Mx1 x cnt nums t)) := by
  intro sz
  refine va_MetW (cc := cL_add) (maxL := 5) (ret := (some .int)) (hh := [(0, 10, 13, 13)]) (by decide) rfl ?_
  intro p e s m args below meth c s₁ B hml hv
  obtain ⟨rfl, hAe, hA, hK, hV, hY⟩ := hm_startX hv
  have htab := vx_table (x := yL_add) B (atoms_spec (ws := wd_L_add) B.pre _ List.mem_cons_self)
  have hx := B.exec
  have hb := B.bytes
  have hr := B.returns
  have hts := atoms_spec (ws := wd_L_add) B.pre
  have hws : ∀ w ∈ hm_ws, w.before _ s = true := fun w h => hts w (List.mem_cons_of_mem _ h)
  have hown : s.vm.findClass RL = some m.cls := findClass_of_methodNamed B.named
  have hlocks := B.notSynchronized
  have hl := lv_entry ([.ref x, .int a, .int b, .ref ot]) (n := 5) (Nat.le_of_ble_eq_true rfl)
  rw [lg_entry_eq]
  generalize (lg_sl ([.ref x, .int a, .int b, .ref ot]) ++ List.replicate (5 - (lg_sl ([.ref x, .int a, .int b, .ref ot])).length) Slot.unset).toArray = ls at hl ⊢
  have hl : lv_has ls 5 [(0, .ref x), (1, .int a), (2, .int b), (3, .ref ot)] := hl
  refine hm_gen (rm := rm_L_add) rfl (fun Qf hQf => ?_)
  have hV := hm_Ve hM hV
  obtain ⟨A, ad, rw, el, z, hA0, hk, hz⟩ := hxp
  subst hA0
  have hl : lv_has ls 5 [(0, .ref (A 0)), (1, .int a), (2, .int b), (3, .ref ot)] := hl
  refine lv_aload_n hx hb dL_add_0 rfl (lv_at hl 3 rfl) ?_
  refine lv_iconst (v := 0) hx hb dL_add_1 (by decide) ?_
  refine lv_aload_n hx hb dL_add_2 rfl (lv_at hl 0 rfl) ?_
  refine lv_iload_n hx hb dL_add_3 rfl (lv_at hl 1 rfl) ?_
  refine lv_iload_n hx hb dL_add_4 rfl (lv_at hl 2 rfl) ?_
  refine hm_ftcalli (vx_runV (As := [.int a, .int b]) (rest := [.int 0, .ref ot]) ⟨hx, hb, hml, hown, hts⟩ (c_X3_add l hlt E hk s.heap.size) (cwV 2 hts (hm_gV kw_383 kw_384 kw_385 kw_37 kw_386) rfl rfl rfl (by decide +kernel) ⟨Nat.le_of_ble_eq_true rfl, Nat.le_of_ble_eq_true rfl⟩) (hm_preVX hK (hm_fst hV) hA hY (xw_x hk) rfl) rfl rfl hl.1 rfl (lv_room (Nat.le_of_ble_eq_true rfl)) dL_add_5 ⟨Nat.le_of_ble_eq_true rfl, Nat.le_of_ble_eq_true rfl⟩) hV hd hA (fun Ex ce q9 M1 H locs hp hd hV h91 h92 h93 => ?_) (fun r9 M1 H locs hp hd hV => ?_)
  · obtain ⟨rfl, hno, hM1⟩ := hp
    refine vx_catch (own := RL) (name := xAI) (E := xAI) hown [] ⟨0, 10, 13, 13⟩ [] (htab.trans rfl) (fun z9 hz9 => absurd hz9 List.not_mem_nil) (by decide) (by decide) (hws _ kw_308) (va_Nw.use rfl hY.2.2.2.1.1) h91 h92 h93 ?_
    refine lv_astore (lv' := [(4, .ref q9), (0, .ref (A 0)), (1, .int a), (2, .int b), (3, .ref ot)]) hx hb dL_add_13 hl (by decide) rfl (fun ls hl => ?_)
    refine lv_iconst (v := 1) hx hb dL_add_15 (by decide) ?_
    rw [hQf]
    exact W.iret hx hb hr (fun t9 ht hW => ⟨⟨_, (hm_j M1 No), rfl, Or.inr ⟨⟨rfl, hno⟩, M1, hd, rfl, by rw [hM1]; exact ⟨A, ad, rw, el, z, rfl, hk, hz⟩⟩, (hm_end hV ht).1⟩, (hm_end hV ht).2⟩) hV.2.2.2.2 dL_add_16
  · refine lv_i2l hx hb dL_add_8 rfl ?_
    refine hm_lastN hx hb hK.1 hV 1 (hm_jr hd ho) rfl (k := 0) (by omega) (by omega) dL_add_9 (fun H locs hV => ?_)
    have hV : hm_V E.1 vwCl (hm_A M sz) s.heap (hm_up ((hm_j M1 No)) ot (hm_J E 1 (vp_updL f 0 (r9.toInt64)))) H locs := hV
    have hV := hm_Ve (hm_jur hd ho) hV
    have hd := hm_dju (e := hm_J E 1 (vp_updL f 0 (r9.toInt64))) hd ho
    refine lv_goto (tgt := 17) hx hb dL_add_10 (by decide) ?_
    refine lv_iconst (v := 0) hx hb dL_add_17 (by decide) ?_
    obtain ⟨i, j, h1, h2, h3, h4, cnt1, nums1, hkp, hxp⟩ := hp
    rw [hz i h1, hz j h2] at hkp
    rw [hQf]
    exact W.iret hx hb hr (fun t9 ht hW => ⟨⟨_, (hm_j M1 (hm_up No ot (hm_J E 1 (vp_updL f 0 (r9.toInt64))))), rfl, Or.inl ⟨rfl, r9, cnt1, nums1, M1, ⟨i, j, h1, h2, h3, h4, kp_n hkp hz⟩, hd, rfl, hxp⟩, (hm_end hV ht).1⟩, (hm_end hV ht).2⟩) hV.2.2.2.2 dL_add_18

abbrev wd_L_times : List Cond := .codeWith yL_times cL_times 5 (some .int) [(0, 10, 13, 13)] :: hm_ws
abbrev rm_L_times : Room := { frames := 9, cells := 4, slots := 79, locals := 155 }

set_option maxHeartbeats 4000000 in
set_option maxRecDepth 100000 in
theorem c_L_times (l : Launch) (hlt : l.stackTraces = false) (E : hm_E) {M Mx No : hm_M} {x ot cnt : Nat} {nums : Nat → Int} {t : Nat → Nat → Int64} {f : Nat → Int64} {a b : Int32} (hM : M = hm_j Mx No) (hd : hm_dj Mx No) (hxp : xp E Mx x cnt nums t) (ho : No ot = some (hm_J E 1 f)) : hm_XCi l E yL_times wd_L_times rm_L_times [.ref x, .int a, .int b, .ref ot] M (fun r M1 => (r = 0 ∧ ∃ v cnt1 nums1 Mx1, (∃ i j, i < cnt ∧ j < cnt ∧ a = nI i ∧ b = nI j ∧ kp cnt nums (some (nums i * nums j)) v cnt1 nums1) ∧ hm_dj Mx1 (hm_up No ot (hm_J E 1 (vp_updL f 0 v.toInt64))) ∧ M1 = hm_j Mx1 (hm_up No ot (hm_J E 1 (vp_updL f 0 v.toInt64))) ∧ xp E Mx1 x cnt1 nums1 t) ∨ ((r = 1 ∧ ¬ (kn cnt a ∧ kn cnt b)) ∧ ∃ Mx1, hm_dj Mx1 No ∧ M1 = hm_j Mx1 No ∧ xp E Mx1 x cnt nums t)) := by
  intro sz
  refine va_MetW (cc := cL_times) (maxL := 5) (ret := (some .int)) (hh := [(0, 10, 13, 13)]) (by decide) rfl ?_
  intro p e s m args below meth c s₁ B hml hv
  obtain ⟨rfl, hAe, hA, hK, hV, hY⟩ := hm_startX hv
  have htab := vx_table (x := yL_times) B (atoms_spec (ws := wd_L_times) B.pre _ List.mem_cons_self)
  have hx := B.exec
  have hb := B.bytes
  have hr := B.returns
  have hts := atoms_spec (ws := wd_L_times) B.pre
  have hws : ∀ w ∈ hm_ws, w.before _ s = true := fun w h => hts w (List.mem_cons_of_mem _ h)
  have hown : s.vm.findClass RL = some m.cls := findClass_of_methodNamed B.named
  have hlocks := B.notSynchronized
  have hl := lv_entry ([.ref x, .int a, .int b, .ref ot]) (n := 5) (Nat.le_of_ble_eq_true rfl)
  rw [lg_entry_eq]
  generalize (lg_sl ([.ref x, .int a, .int b, .ref ot]) ++ List.replicate (5 - (lg_sl ([.ref x, .int a, .int b, .ref ot])).length) Slot.unset).toArray = ls at hl ⊢
  have hl : lv_has ls 5 [(0, .ref x), (1, .int a), (2, .int b), (3, .ref ot)] := hl
  refine hm_gen (rm := rm_L_times) rfl (fun Qf hQf => ?_)
  have hV := hm_Ve hM hV
  obtain ⟨A, ad, rw, el, z, hA0, hk, hz⟩ := hxp
  subst hA0
  have hl : lv_has ls 5 [(0, .ref (A 0)), (1, .int a), (2, .int b), (3, .ref ot)] := hl
  refine lv_aload_n hx hb dL_times_0 rfl (lv_at hl 3 rfl) ?_
  refine lv_iconst (v := 0) hx hb dL_times_1 (by decide) ?_
  refine lv_aload_n hx hb dL_times_2 rfl (lv_at hl 0 rfl) ?_
  refine lv_iload_n hx hb dL_times_3 rfl (lv_at hl 1 rfl) ?_
  refine lv_iload_n hx hb dL_times_4 rfl (lv_at hl 2 rfl) ?_
  refine hm_ftcalli (vx_runV (As := [.int a, .int b]) (rest := [.int 0, .ref ot]) ⟨hx, hb, hml, hown, hts⟩ (c_X3_times l hlt E hk s.heap.size) (cwV 2 hts (hm_gV kw_398 kw_399 kw_400 kw_37 kw_401) rfl rfl rfl (by decide +kernel) ⟨Nat.le_of_ble_eq_true rfl, Nat.le_of_ble_eq_true rfl⟩) (hm_preVX hK (hm_fst hV) hA hY (xw_x hk) rfl) rfl rfl hl.1 rfl (lv_room (Nat.le_of_ble_eq_true rfl)) dL_times_5 ⟨Nat.le_of_ble_eq_true rfl, Nat.le_of_ble_eq_true rfl⟩) hV hd hA (fun Ex ce q9 M1 H locs hp hd hV h91 h92 h93 => ?_) (fun r9 M1 H locs hp hd hV => ?_)
  · obtain ⟨rfl, hno, hM1⟩ := hp
    refine vx_catch (own := RL) (name := xAI) (E := xAI) hown [] ⟨0, 10, 13, 13⟩ [] (htab.trans rfl) (fun z9 hz9 => absurd hz9 List.not_mem_nil) (by decide) (by decide) (hws _ kw_308) (va_Nw.use rfl hY.2.2.2.1.1) h91 h92 h93 ?_
    refine lv_astore (lv' := [(4, .ref q9), (0, .ref (A 0)), (1, .int a), (2, .int b), (3, .ref ot)]) hx hb dL_times_13 hl (by decide) rfl (fun ls hl => ?_)
    refine lv_iconst (v := 1) hx hb dL_times_15 (by decide) ?_
    rw [hQf]
    exact W.iret hx hb hr (fun t9 ht hW => ⟨⟨_, (hm_j M1 No), rfl, Or.inr ⟨⟨rfl, hno⟩, M1, hd, rfl, by rw [hM1]; exact ⟨A, ad, rw, el, z, rfl, hk, hz⟩⟩, (hm_end hV ht).1⟩, (hm_end hV ht).2⟩) hV.2.2.2.2 dL_times_16
  · refine lv_i2l hx hb dL_times_8 rfl ?_
    refine hm_lastN hx hb hK.1 hV 1 (hm_jr hd ho) rfl (k := 0) (by omega) (by omega) dL_times_9 (fun H locs hV => ?_)
    have hV : hm_V E.1 vwCl (hm_A M sz) s.heap (hm_up ((hm_j M1 No)) ot (hm_J E 1 (vp_updL f 0 (r9.toInt64)))) H locs := hV
    have hV := hm_Ve (hm_jur hd ho) hV
    have hd := hm_dju (e := hm_J E 1 (vp_updL f 0 (r9.toInt64))) hd ho
    refine lv_goto (tgt := 17) hx hb dL_times_10 (by decide) ?_
    refine lv_iconst (v := 0) hx hb dL_times_17 (by decide) ?_
    obtain ⟨i, j, h1, h2, h3, h4, cnt1, nums1, hkp, hxp⟩ := hp
    rw [hz i h1, hz j h2] at hkp
    rw [hQf]
    exact W.iret hx hb hr (fun t9 ht hW => ⟨⟨_, (hm_j M1 (hm_up No ot (hm_J E 1 (vp_updL f 0 (r9.toInt64))))), rfl, Or.inl ⟨rfl, r9, cnt1, nums1, M1, ⟨i, j, h1, h2, h3, h4, kp_n hkp hz⟩, hd, rfl, hxp⟩, (hm_end hV ht).1⟩, (hm_end hV ht).2⟩) hV.2.2.2.2 dL_times_18

abbrev wd_L_over : List Cond := .codeWith yL_over cL_over 5 (some .int) [(0, 10, 13, 13), (0, 10, 17, 21)] :: hm_ws
abbrev rm_L_over : Room := { frames := 9, cells := 4, slots := 79, locals := 155 }

set_option maxHeartbeats 4000000 in
set_option maxRecDepth 100000 in
theorem c_L_over (l : Launch) (hlt : l.stackTraces = false) (E : hm_E) {M Mx No : hm_M} {x ot cnt : Nat} {nums : Nat → Int} {t : Nat → Nat → Int64} {f : Nat → Int64} {a b : Int32} (hM : M = hm_j Mx No) (hd : hm_dj Mx No) (hxp : xp E Mx x cnt nums t) (ho : No ot = some (hm_J E 1 f)) : hm_XCi l E yL_over wd_L_over rm_L_over [.ref x, .int a, .int b, .ref ot] M (fun r M1 => (r = 0 ∧ ∃ v cnt1 nums1 Mx1, (∃ i j, i < cnt ∧ j < cnt ∧ a = nI i ∧ b = nI j ∧ nums j ≠ 0 ∧ kp cnt nums (some (dz (nums i) (nums j))) v cnt1 nums1) ∧ hm_dj Mx1 (hm_up No ot (hm_J E 1 (vp_updL f 0 v.toInt64))) ∧ M1 = hm_j Mx1 (hm_up No ot (hm_J E 1 (vp_updL f 0 v.toInt64))) ∧ xp E Mx1 x cnt1 nums1 t) ∨ (((r = 1 ∧ ¬ (kn cnt a ∧ kn cnt b)) ∨ (r = 2 ∧ ∃ i j, i < cnt ∧ j < cnt ∧ a = nI i ∧ b = nI j ∧ nums j = 0)) ∧ ∃ Mx1, hm_dj Mx1 No ∧ M1 = hm_j Mx1 No ∧ xp E Mx1 x cnt nums t)) := by
  intro sz
  refine va_MetW (cc := cL_over) (maxL := 5) (ret := (some .int)) (hh := [(0, 10, 13, 13), (0, 10, 17, 21)]) (by decide) rfl ?_
  intro p e s m args below meth c s₁ B hml hv
  obtain ⟨rfl, hAe, hA, hK, hV, hY⟩ := hm_startX hv
  have htab := vx_table (x := yL_over) B (atoms_spec (ws := wd_L_over) B.pre _ List.mem_cons_self)
  have hx := B.exec
  have hb := B.bytes
  have hr := B.returns
  have hts := atoms_spec (ws := wd_L_over) B.pre
  have hws : ∀ w ∈ hm_ws, w.before _ s = true := fun w h => hts w (List.mem_cons_of_mem _ h)
  have hown : s.vm.findClass RL = some m.cls := findClass_of_methodNamed B.named
  have hlocks := B.notSynchronized
  have hl := lv_entry ([.ref x, .int a, .int b, .ref ot]) (n := 5) (Nat.le_of_ble_eq_true rfl)
  rw [lg_entry_eq]
  generalize (lg_sl ([.ref x, .int a, .int b, .ref ot]) ++ List.replicate (5 - (lg_sl ([.ref x, .int a, .int b, .ref ot])).length) Slot.unset).toArray = ls at hl ⊢
  have hl : lv_has ls 5 [(0, .ref x), (1, .int a), (2, .int b), (3, .ref ot)] := hl
  refine hm_gen (rm := rm_L_over) rfl (fun Qf hQf => ?_)
  have hV := hm_Ve hM hV
  obtain ⟨A, ad, rw, el, z, hA0, hk, hz⟩ := hxp
  subst hA0
  have hl : lv_has ls 5 [(0, .ref (A 0)), (1, .int a), (2, .int b), (3, .ref ot)] := hl
  refine lv_aload_n hx hb dL_over_0 rfl (lv_at hl 3 rfl) ?_
  refine lv_iconst (v := 0) hx hb dL_over_1 (by decide) ?_
  refine lv_aload_n hx hb dL_over_2 rfl (lv_at hl 0 rfl) ?_
  refine lv_iload_n hx hb dL_over_3 rfl (lv_at hl 1 rfl) ?_
  refine lv_iload_n hx hb dL_over_4 rfl (lv_at hl 2 rfl) ?_
  refine hm_ftcalli (vx_runV (As := [.int a, .int b]) (rest := [.int 0, .ref ot]) ⟨hx, hb, hml, hown, hts⟩ (c_X3_over l hlt E hk s.heap.size) (cwV 2 hts (hm_gV kw_420 kw_421 kw_422 kw_37 kw_423) rfl rfl rfl (by decide +kernel) ⟨Nat.le_of_ble_eq_true rfl, Nat.le_of_ble_eq_true rfl⟩) (hm_preVX hK (hm_fst hV) hA hY (xw_x hk) rfl) rfl rfl hl.1 rfl (lv_room (Nat.le_of_ble_eq_true rfl)) dL_over_5 ⟨Nat.le_of_ble_eq_true rfl, Nat.le_of_ble_eq_true rfl⟩) hV hd hA (fun Ex ce q9 M1 H locs hp hd hV h91 h92 h93 => ?_) (fun r9 M1 H locs hp hd hV => ?_)
  · obtain ⟨hno, hM1⟩ := hp
    rcases hno with ⟨rfl, hno⟩ | ⟨rfl, i, j, h1, h2, h3, h4, h5⟩
    · refine vx_catch (own := RL) (name := xAI) (E := xAI) hown [] ⟨0, 10, 13, 13⟩ [⟨0, 10, 17, 21⟩] (htab.trans rfl) (fun z9 hz9 => absurd hz9 List.not_mem_nil) (by decide) (by decide) (hws _ kw_308) (va_Nw.use rfl hY.2.2.2.1.1) h91 h92 h93 ?_
      refine lv_astore (lv' := [(4, .ref q9), (0, .ref (A 0)), (1, .int a), (2, .int b), (3, .ref ot)]) hx hb dL_over_13 hl (by decide) rfl (fun ls hl => ?_)
      refine lv_iconst (v := 1) hx hb dL_over_15 (by decide) ?_
      rw [hQf]
      exact W.iret hx hb hr (fun t9 ht hW => ⟨⟨_, (hm_j M1 No), rfl, Or.inr ⟨Or.inl ⟨rfl, hno⟩, M1, hd, rfl, by rw [hM1]; exact ⟨A, ad, rw, el, z, rfl, hk, hz⟩⟩, (hm_end hV ht).1⟩, (hm_end hV ht).2⟩) hV.2.2.2.2 dL_over_16
    · refine vx_catch (own := RL) (name := xAR) (E := xAR) hown [⟨0, 10, 13, 13⟩] ⟨0, 10, 17, 21⟩ [] (htab.trans rfl) (fun z9 hz9 => ?_) (by decide) (by decide) (hws _ kw_406) (va_Nw.use rfl hY.2.2.2.1.2) h91 h92 h93 ?_
      · simp only [List.mem_singleton] at hz9
        subst hz9
        exact Or.inr ⟨by decide, xAI, hws _ kw_308, hY.2.2.2.2.2⟩
      refine lv_astore (lv' := [(4, .ref q9), (0, .ref (A 0)), (1, .int a), (2, .int b), (3, .ref ot)]) hx hb dL_over_17 hl (by decide) rfl (fun ls hl => ?_)
      refine lv_iconst (v := 2) hx hb dL_over_19 (by decide) ?_
      rw [hQf]
      exact W.iret hx hb hr (fun t9 ht hW => ⟨⟨_, (hm_j M1 No), rfl, Or.inr ⟨Or.inr ⟨rfl, i, j, h1, h2, h3, h4, by rw [← hz j h2]; exact h5⟩, M1, hd, rfl, by rw [hM1]; exact ⟨A, ad, rw, el, z, rfl, hk, hz⟩⟩, (hm_end hV ht).1⟩, (hm_end hV ht).2⟩) hV.2.2.2.2 dL_over_20
  · refine lv_i2l hx hb dL_over_8 rfl ?_
    refine hm_lastN hx hb hK.1 hV 1 (hm_jr hd ho) rfl (k := 0) (by omega) (by omega) dL_over_9 (fun H locs hV => ?_)
    have hV : hm_V E.1 vwCl (hm_A M sz) s.heap (hm_up ((hm_j M1 No)) ot (hm_J E 1 (vp_updL f 0 (r9.toInt64)))) H locs := hV
    have hV := hm_Ve (hm_jur hd ho) hV
    have hd := hm_dju (e := hm_J E 1 (vp_updL f 0 (r9.toInt64))) hd ho
    refine lv_goto (tgt := 21) hx hb dL_over_10 (by decide) ?_
    refine lv_iconst (v := 0) hx hb dL_over_21 (by decide) ?_
    obtain ⟨i, j, h1, h2, h3, h4, h5, cnt1, nums1, hkp, hxp⟩ := hp
    rw [hz i h1, hz j h2] at hkp
    rw [hz j h2] at h5
    rw [hQf]
    exact W.iret hx hb hr (fun t9 ht hW => ⟨⟨_, (hm_j M1 (hm_up No ot (hm_J E 1 (vp_updL f 0 (r9.toInt64))))), rfl, Or.inl ⟨rfl, r9, cnt1, nums1, M1, ⟨i, j, h1, h2, h3, h4, h5, kp_n hkp hz⟩, hd, rfl, hxp⟩, (hm_end hV ht).1⟩, (hm_end hV ht).2⟩) hV.2.2.2.2 dL_over_22

abbrev wd_L_power : List Cond := .codeWith yL_power cL_power 5 (some .int) [(0, 10, 13, 13)] :: hm_ws
abbrev rm_L_power : Room := { frames := 9, cells := 4, slots := 79, locals := 155 }

set_option maxHeartbeats 4000000 in
set_option maxRecDepth 100000 in
theorem c_L_power (l : Launch) (hlt : l.stackTraces = false) (E : hm_E) {M Mx No : hm_M} {x ot cnt : Nat} {nums : Nat → Int} {t : Nat → Nat → Int64} {f : Nat → Int64} {a b : Int32} (hM : M = hm_j Mx No) (hd : hm_dj Mx No) (hxp : xp E Mx x cnt nums t) (ho : No ot = some (hm_J E 1 f)) : hm_XCi l E yL_power wd_L_power rm_L_power [.ref x, .int a, .int b, .ref ot] M (fun r M1 => (r = 0 ∧ ∃ v cnt1 nums1 Mx1, (∃ i, i < cnt ∧ a = nI i ∧ kp cnt nums (spP (nums i) b) v cnt1 nums1) ∧ hm_dj Mx1 (hm_up No ot (hm_J E 1 (vp_updL f 0 v.toInt64))) ∧ M1 = hm_j Mx1 (hm_up No ot (hm_J E 1 (vp_updL f 0 v.toInt64))) ∧ xp E Mx1 x cnt1 nums1 t) ∨ ((r = 1 ∧ ¬ kn cnt a) ∧ ∃ Mx1, hm_dj Mx1 No ∧ M1 = hm_j Mx1 No ∧ xp E Mx1 x cnt nums t)) := by
  intro sz
  refine va_MetW (cc := cL_power) (maxL := 5) (ret := (some .int)) (hh := [(0, 10, 13, 13)]) (by decide) rfl ?_
  intro p e s m args below meth c s₁ B hml hv
  obtain ⟨rfl, hAe, hA, hK, hV, hY⟩ := hm_startX hv
  have htab := vx_table (x := yL_power) B (atoms_spec (ws := wd_L_power) B.pre _ List.mem_cons_self)
  have hx := B.exec
  have hb := B.bytes
  have hr := B.returns
  have hts := atoms_spec (ws := wd_L_power) B.pre
  have hws : ∀ w ∈ hm_ws, w.before _ s = true := fun w h => hts w (List.mem_cons_of_mem _ h)
  have hown : s.vm.findClass RL = some m.cls := findClass_of_methodNamed B.named
  have hlocks := B.notSynchronized
  have hl := lv_entry ([.ref x, .int a, .int b, .ref ot]) (n := 5) (Nat.le_of_ble_eq_true rfl)
  rw [lg_entry_eq]
  generalize (lg_sl ([.ref x, .int a, .int b, .ref ot]) ++ List.replicate (5 - (lg_sl ([.ref x, .int a, .int b, .ref ot])).length) Slot.unset).toArray = ls at hl ⊢
  have hl : lv_has ls 5 [(0, .ref x), (1, .int a), (2, .int b), (3, .ref ot)] := hl
  refine hm_gen (rm := rm_L_power) rfl (fun Qf hQf => ?_)
  have hV := hm_Ve hM hV
  obtain ⟨A, ad, rw, el, z, hA0, hk, hz⟩ := hxp
  subst hA0
  have hl : lv_has ls 5 [(0, .ref (A 0)), (1, .int a), (2, .int b), (3, .ref ot)] := hl
  refine lv_aload_n hx hb dL_power_0 rfl (lv_at hl 3 rfl) ?_
  refine lv_iconst (v := 0) hx hb dL_power_1 (by decide) ?_
  refine lv_aload_n hx hb dL_power_2 rfl (lv_at hl 0 rfl) ?_
  refine lv_iload_n hx hb dL_power_3 rfl (lv_at hl 1 rfl) ?_
  refine lv_iload_n hx hb dL_power_4 rfl (lv_at hl 2 rfl) ?_
  refine hm_ftcalli (vx_runV (As := [.int a, .int b]) (rest := [.int 0, .ref ot]) ⟨hx, hb, hml, hown, hts⟩ (c_X3_power l hlt E hk s.heap.size) (cwV 2 hts (hm_gV kw_432 kw_433 kw_434 kw_37 kw_435) rfl rfl rfl (by decide +kernel) ⟨Nat.le_of_ble_eq_true rfl, Nat.le_of_ble_eq_true rfl⟩) (hm_preVX hK (hm_fst hV) hA hY (xw_x hk) rfl) rfl rfl hl.1 rfl (lv_room (Nat.le_of_ble_eq_true rfl)) dL_power_5 ⟨Nat.le_of_ble_eq_true rfl, Nat.le_of_ble_eq_true rfl⟩) hV hd hA (fun Ex ce q9 M1 H locs hp hd hV h91 h92 h93 => ?_) (fun r9 M1 H locs hp hd hV => ?_)
  · obtain ⟨rfl, hno, hM1⟩ := hp
    refine vx_catch (own := RL) (name := xAI) (E := xAI) hown [] ⟨0, 10, 13, 13⟩ [] (htab.trans rfl) (fun z9 hz9 => absurd hz9 List.not_mem_nil) (by decide) (by decide) (hws _ kw_308) (va_Nw.use rfl hY.2.2.2.1.1) h91 h92 h93 ?_
    refine lv_astore (lv' := [(4, .ref q9), (0, .ref (A 0)), (1, .int a), (2, .int b), (3, .ref ot)]) hx hb dL_power_13 hl (by decide) rfl (fun ls hl => ?_)
    refine lv_iconst (v := 1) hx hb dL_power_15 (by decide) ?_
    rw [hQf]
    exact W.iret hx hb hr (fun t9 ht hW => ⟨⟨_, (hm_j M1 No), rfl, Or.inr ⟨⟨rfl, hno⟩, M1, hd, rfl, by rw [hM1]; exact ⟨A, ad, rw, el, z, rfl, hk, hz⟩⟩, (hm_end hV ht).1⟩, (hm_end hV ht).2⟩) hV.2.2.2.2 dL_power_16
  · refine lv_i2l hx hb dL_power_8 rfl ?_
    refine hm_lastN hx hb hK.1 hV 1 (hm_jr hd ho) rfl (k := 0) (by omega) (by omega) dL_power_9 (fun H locs hV => ?_)
    have hV : hm_V E.1 vwCl (hm_A M sz) s.heap (hm_up ((hm_j M1 No)) ot (hm_J E 1 (vp_updL f 0 (r9.toInt64)))) H locs := hV
    have hV := hm_Ve (hm_jur hd ho) hV
    have hd := hm_dju (e := hm_J E 1 (vp_updL f 0 (r9.toInt64))) hd ho
    refine lv_goto (tgt := 17) hx hb dL_power_10 (by decide) ?_
    refine lv_iconst (v := 0) hx hb dL_power_17 (by decide) ?_
    obtain ⟨i, h1, h2, cnt1, nums1, hkp, hxp⟩ := hp
    rw [hz i h1] at hkp
    rw [hQf]
    exact W.iret hx hb hr (fun t9 ht hW => ⟨⟨_, (hm_j M1 (hm_up No ot (hm_J E 1 (vp_updL f 0 (r9.toInt64))))), rfl, Or.inl ⟨rfl, r9, cnt1, nums1, M1, ⟨i, h1, h2, kp_n hkp hz⟩, hd, rfl, hxp⟩, (hm_end hV ht).1⟩, (hm_end hV ht).2⟩) hV.2.2.2.2 dL_power_18

abbrev wd_L_order : List Cond := .codeWith yL_order cL_order 5 (some .int) [(0, 10, 13, 13)] :: hm_ws
abbrev rm_L_order : Room := { frames := 9, cells := 2, slots := 12, locals := 156 }

set_option maxHeartbeats 4000000 in
set_option maxRecDepth 100000 in
theorem c_L_order (l : Launch) (hlt : l.stackTraces = false) (E : hm_E) {M Mx No : hm_M} {x ot cnt : Nat} {nums : Nat → Int} {t : Nat → Nat → Int64} {f : Nat → Int64} {a b : Int32} (hM : M = hm_j Mx No) (hd : hm_dj Mx No) (hxp : xp E Mx x cnt nums t) (ho : No ot = some (hm_J E 1 f)) : hm_XCi l E yL_order wd_L_order rm_L_order [.ref x, .int a, .int b, .ref ot] M (fun r M1 => (r = 0 ∧ ∃ v cnt1 nums1 Mx1, (∃ i j, i < cnt ∧ j < cnt ∧ a = nI i ∧ b = nI j ∧ v = cmpZ (nums i) (nums j) ∧ cnt1 = cnt ∧ nums1 = nums) ∧ hm_dj Mx1 (hm_up No ot (hm_J E 1 (vp_updL f 0 v.toInt64))) ∧ M1 = hm_j Mx1 (hm_up No ot (hm_J E 1 (vp_updL f 0 v.toInt64))) ∧ xp E Mx1 x cnt1 nums1 t) ∨ ((r = 1 ∧ ¬ (kn cnt a ∧ kn cnt b)) ∧ ∃ Mx1, hm_dj Mx1 No ∧ M1 = hm_j Mx1 No ∧ xp E Mx1 x cnt nums t)) := by
  intro sz
  refine va_MetW (cc := cL_order) (maxL := 5) (ret := (some .int)) (hh := [(0, 10, 13, 13)]) (by decide) rfl ?_
  intro p e s m args below meth c s₁ B hml hv
  obtain ⟨rfl, hAe, hA, hK, hV, hY⟩ := hm_startX hv
  have htab := vx_table (x := yL_order) B (atoms_spec (ws := wd_L_order) B.pre _ List.mem_cons_self)
  have hx := B.exec
  have hb := B.bytes
  have hr := B.returns
  have hts := atoms_spec (ws := wd_L_order) B.pre
  have hws : ∀ w ∈ hm_ws, w.before _ s = true := fun w h => hts w (List.mem_cons_of_mem _ h)
  have hown : s.vm.findClass RL = some m.cls := findClass_of_methodNamed B.named
  have hlocks := B.notSynchronized
  have hl := lv_entry ([.ref x, .int a, .int b, .ref ot]) (n := 5) (Nat.le_of_ble_eq_true rfl)
  rw [lg_entry_eq]
  generalize (lg_sl ([.ref x, .int a, .int b, .ref ot]) ++ List.replicate (5 - (lg_sl ([.ref x, .int a, .int b, .ref ot])).length) Slot.unset).toArray = ls at hl ⊢
  have hl : lv_has ls 5 [(0, .ref x), (1, .int a), (2, .int b), (3, .ref ot)] := hl
  refine hm_gen (rm := rm_L_order) rfl (fun Qf hQf => ?_)
  have hV := hm_Ve hM hV
  obtain ⟨A, ad, rw, el, z, hA0, hk, hz⟩ := hxp
  subst hA0
  have hl : lv_has ls 5 [(0, .ref (A 0)), (1, .int a), (2, .int b), (3, .ref ot)] := hl
  refine lv_aload_n hx hb dL_order_0 rfl (lv_at hl 3 rfl) ?_
  refine lv_iconst (v := 0) hx hb dL_order_1 (by decide) ?_
  refine lv_aload_n hx hb dL_order_2 rfl (lv_at hl 0 rfl) ?_
  refine lv_iload_n hx hb dL_order_3 rfl (lv_at hl 1 rfl) ?_
  refine lv_iload_n hx hb dL_order_4 rfl (lv_at hl 2 rfl) ?_
  refine hm_ftcalli (vx_runV (As := [.int a, .int b]) (rest := [.int 0, .ref ot]) ⟨hx, hb, hml, hown, hts⟩ (c_X3_order l hlt E hk s.heap.size) (cwV 2 hts (hm_gV kw_441 kw_442 kw_443 kw_37 kw_444) rfl rfl rfl (by decide +kernel) ⟨Nat.le_of_ble_eq_true rfl, Nat.le_of_ble_eq_true rfl⟩) (hm_preVX hK (hm_fst hV) hA hY (xw_x hk) rfl) rfl rfl hl.1 rfl (lv_room (Nat.le_of_ble_eq_true rfl)) dL_order_5 ⟨Nat.le_of_ble_eq_true rfl, Nat.le_of_ble_eq_true rfl⟩) hV hd hA (fun Ex ce q9 M1 H locs hp hd hV h91 h92 h93 => ?_) (fun r9 M1 H locs hp hd hV => ?_)
  · obtain ⟨rfl, hno, hM1⟩ := hp
    refine vx_catch (own := RL) (name := xAI) (E := xAI) hown [] ⟨0, 10, 13, 13⟩ [] (htab.trans rfl) (fun z9 hz9 => absurd hz9 List.not_mem_nil) (by decide) (by decide) (hws _ kw_308) (va_Nw.use rfl hY.2.2.2.1.1) h91 h92 h93 ?_
    refine lv_astore (lv' := [(4, .ref q9), (0, .ref (A 0)), (1, .int a), (2, .int b), (3, .ref ot)]) hx hb dL_order_13 hl (by decide) rfl (fun ls hl => ?_)
    refine lv_iconst (v := 1) hx hb dL_order_15 (by decide) ?_
    rw [hQf]
    exact W.iret hx hb hr (fun t9 ht hW => ⟨⟨_, (hm_j M1 No), rfl, Or.inr ⟨⟨rfl, hno⟩, M1, hd, rfl, by rw [hM1]; exact ⟨A, ad, rw, el, z, rfl, hk, hz⟩⟩, (hm_end hV ht).1⟩, (hm_end hV ht).2⟩) hV.2.2.2.2 dL_order_16
  · refine lv_i2l hx hb dL_order_8 rfl ?_
    refine hm_lastN hx hb hK.1 hV 1 (hm_jr hd ho) rfl (k := 0) (by omega) (by omega) dL_order_9 (fun H locs hV => ?_)
    have hV : hm_V E.1 vwCl (hm_A M sz) s.heap (hm_up ((hm_j M1 No)) ot (hm_J E 1 (vp_updL f 0 (r9.toInt64)))) H locs := hV
    have hV := hm_Ve (hm_jur hd ho) hV
    have hd := hm_dju (e := hm_J E 1 (vp_updL f 0 (r9.toInt64))) hd ho
    refine lv_goto (tgt := 17) hx hb dL_order_10 (by decide) ?_
    refine lv_iconst (v := 0) hx hb dL_order_17 (by decide) ?_
    obtain ⟨⟨i, j, h1, h2, h3, h4, h5⟩, hM1⟩ := hp
    rw [hz i h1, hz j h2] at h5
    rw [hQf]
    exact W.iret hx hb hr (fun t9 ht hW => ⟨⟨_, (hm_j M1 (hm_up No ot (hm_J E 1 (vp_updL f 0 (r9.toInt64))))), rfl, Or.inl ⟨rfl, r9, cnt, nums, M1, ⟨i, j, h1, h2, h3, h4, h5, rfl, rfl⟩, hd, rfl, by rw [hM1]; exact ⟨A, ad, rw, el, z, rfl, hk, hz⟩⟩, (hm_end hV ht).1⟩, (hm_end hV ht).2⟩) hV.2.2.2.2 dL_order_18

abbrev wd_L_digit : List Cond := .codeWith yL_digit cL_digit 5 (some .int) [(0, 10, 13, 13)] :: hm_ws
abbrev rm_L_digit : Room := { frames := 9, cells := 2, slots := 12, locals := 154 }

set_option maxHeartbeats 4000000 in
set_option maxRecDepth 100000 in
theorem c_L_digit (l : Launch) (hlt : l.stackTraces = false) (E : hm_E) {M Mx No : hm_M} {x ot cnt : Nat} {nums : Nat → Int} {t : Nat → Nat → Int64} {f : Nat → Int64} {a b : Int32} (hM : M = hm_j Mx No) (hd : hm_dj Mx No) (hxp : xp E Mx x cnt nums t) (ho : No ot = some (hm_J E 1 f)) : hm_XCi l E yL_digit wd_L_digit rm_L_digit [.ref x, .int a, .int b, .ref ot] M (fun r M1 => (r = 0 ∧ ∃ v cnt1 nums1 Mx1, (∃ i n, i < cnt ∧ a = nI i ∧ (b = nI n ∧ n < 2 ^ 31) ∧ hasD (nums i).natAbs b ∧ v = nI ((nums i).natAbs / 10 ^ n % 10) ∧ cnt1 = cnt ∧ nums1 = nums) ∧ hm_dj Mx1 (hm_up No ot (hm_J E 1 (vp_updL f 0 v.toInt64))) ∧ M1 = hm_j Mx1 (hm_up No ot (hm_J E 1 (vp_updL f 0 v.toInt64))) ∧ xp E Mx1 x cnt1 nums1 t) ∨ ((r = 1 ∧ (¬ kn cnt a ∨ ∃ i, i < cnt ∧ a = nI i ∧ ¬ hasD (nums i).natAbs b)) ∧ ∃ Mx1, hm_dj Mx1 No ∧ M1 = hm_j Mx1 No ∧ xp E Mx1 x cnt nums t)) := by
  intro sz
  refine va_MetW (cc := cL_digit) (maxL := 5) (ret := (some .int)) (hh := [(0, 10, 13, 13)]) (by decide) rfl ?_
  intro p e s m args below meth c s₁ B hml hv
  obtain ⟨rfl, hAe, hA, hK, hV, hY⟩ := hm_startX hv
  have htab := vx_table (x := yL_digit) B (atoms_spec (ws := wd_L_digit) B.pre _ List.mem_cons_self)
  have hx := B.exec
  have hb := B.bytes
  have hr := B.returns
  have hts := atoms_spec (ws := wd_L_digit) B.pre
  have hws : ∀ w ∈ hm_ws, w.before _ s = true := fun w h => hts w (List.mem_cons_of_mem _ h)
  have hown : s.vm.findClass RL = some m.cls := findClass_of_methodNamed B.named
  have hlocks := B.notSynchronized
  have hl := lv_entry ([.ref x, .int a, .int b, .ref ot]) (n := 5) (Nat.le_of_ble_eq_true rfl)
  rw [lg_entry_eq]
  generalize (lg_sl ([.ref x, .int a, .int b, .ref ot]) ++ List.replicate (5 - (lg_sl ([.ref x, .int a, .int b, .ref ot])).length) Slot.unset).toArray = ls at hl ⊢
  have hl : lv_has ls 5 [(0, .ref x), (1, .int a), (2, .int b), (3, .ref ot)] := hl
  refine hm_gen (rm := rm_L_digit) rfl (fun Qf hQf => ?_)
  have hV := hm_Ve hM hV
  obtain ⟨A, ad, rw, el, z, hA0, hk, hz⟩ := hxp
  subst hA0
  have hl : lv_has ls 5 [(0, .ref (A 0)), (1, .int a), (2, .int b), (3, .ref ot)] := hl
  refine lv_aload_n hx hb dL_digit_0 rfl (lv_at hl 3 rfl) ?_
  refine lv_iconst (v := 0) hx hb dL_digit_1 (by decide) ?_
  refine lv_aload_n hx hb dL_digit_2 rfl (lv_at hl 0 rfl) ?_
  refine lv_iload_n hx hb dL_digit_3 rfl (lv_at hl 1 rfl) ?_
  refine lv_iload_n hx hb dL_digit_4 rfl (lv_at hl 2 rfl) ?_
  refine hm_ftcalli (vx_runV (As := [.int a, .int b]) (rest := [.int 0, .ref ot]) ⟨hx, hb, hml, hown, hts⟩ (c_X3_digit l hlt E hk s.heap.size) (cwV 2 hts (hm_gV kw_449 kw_450 kw_451 kw_37 kw_452) rfl rfl rfl (by decide +kernel) ⟨Nat.le_of_ble_eq_true rfl, Nat.le_of_ble_eq_true rfl⟩) (hm_preVX hK (hm_fst hV) hA hY (xw_x hk) rfl) rfl rfl hl.1 rfl (lv_room (Nat.le_of_ble_eq_true rfl)) dL_digit_5 ⟨Nat.le_of_ble_eq_true rfl, Nat.le_of_ble_eq_true rfl⟩) hV hd hA (fun Ex ce q9 M1 H locs hp hd hV h91 h92 h93 => ?_) (fun r9 M1 H locs hp hd hV => ?_)
  · obtain ⟨rfl, hno, hxp⟩ := hp
    refine vx_catch (own := RL) (name := xAI) (E := xAI) hown [] ⟨0, 10, 13, 13⟩ [] (htab.trans rfl) (fun z9 hz9 => absurd hz9 List.not_mem_nil) (by decide) (by decide) (hws _ kw_308) (va_Nw.use rfl hY.2.2.2.1.1) h91 h92 h93 ?_
    refine lv_astore (lv' := [(4, .ref q9), (0, .ref (A 0)), (1, .int a), (2, .int b), (3, .ref ot)]) hx hb dL_digit_13 hl (by decide) rfl (fun ls hl => ?_)
    refine lv_iconst (v := 1) hx hb dL_digit_15 (by decide) ?_
    rw [hQf]
    exact W.iret hx hb hr (fun t9 ht hW => ⟨⟨_, (hm_j M1 No), rfl, Or.inr ⟨⟨rfl, by
      rcases hno with h9 | ⟨i, h1, h2, h3⟩
      · exact Or.inl h9
      · exact Or.inr ⟨i, h1, h2, by rw [← hz i h1]; exact h3⟩⟩, M1, hd, rfl, xp_n hxp hz⟩, (hm_end hV ht).1⟩, (hm_end hV ht).2⟩) hV.2.2.2.2 dL_digit_16
  · refine lv_i2l hx hb dL_digit_8 rfl ?_
    refine hm_lastN hx hb hK.1 hV 1 (hm_jr hd ho) rfl (k := 0) (by omega) (by omega) dL_digit_9 (fun H locs hV => ?_)
    have hV : hm_V E.1 vwCl (hm_A M sz) s.heap (hm_up ((hm_j M1 No)) ot (hm_J E 1 (vp_updL f 0 (r9.toInt64)))) H locs := hV
    have hV := hm_Ve (hm_jur hd ho) hV
    have hd := hm_dju (e := hm_J E 1 (vp_updL f 0 (r9.toInt64))) hd ho
    refine lv_goto (tgt := 17) hx hb dL_digit_10 (by decide) ?_
    refine lv_iconst (v := 0) hx hb dL_digit_17 (by decide) ?_
    obtain ⟨i, n, h1, h2, h3, h4, h5, hxp⟩ := hp
    rw [hz i h1] at h4 h5
    rw [hQf]
    exact W.iret hx hb hr (fun t9 ht hW => ⟨⟨_, (hm_j M1 (hm_up No ot (hm_J E 1 (vp_updL f 0 (r9.toInt64))))), rfl, Or.inl ⟨rfl, r9, cnt, nums, M1, ⟨i, n, h1, h2, h3, h4, h5, rfl, rfl⟩, hd, rfl, xp_n hxp hz⟩, (hm_end hV ht).1⟩, (hm_end hV ht).2⟩) hV.2.2.2.2 dL_digit_18

abbrev wd_L_residue : List Cond := .codeWith yL_residue cL_residue 6 (some .int) [(0, 10, 13, 13), (0, 10, 17, 21)] :: hm_ws
abbrev rm_L_residue : Room := { frames := 9, cells := 2, slots := 12, locals := 159 }

set_option maxHeartbeats 4000000 in
set_option maxRecDepth 100000 in
theorem c_L_residue (l : Launch) (hlt : l.stackTraces = false) (E : hm_E) {M Mx No : hm_M} {x ot cnt : Nat} {nums : Nat → Int} {t : Nat → Nat → Int64} {f : Nat → Int64} {a : Int32} {mm : Int64} (hM : M = hm_j Mx No) (hd : hm_dj Mx No) (hxp : xp E Mx x cnt nums t) (ho : No ot = some (hm_J E 1 f)) : hm_XCi l E yL_residue wd_L_residue rm_L_residue [.ref x, .int a, .long mm, .ref ot] M (fun r M1 => (r = 0 ∧ ∃ v cnt1 nums1 Mx1, (∃ i, i < cnt ∧ a = nI i ∧ mm ≠ 0 ∧ v = lZ (nums i % (mm.toInt.natAbs : Int)) ∧ cnt1 = cnt ∧ nums1 = nums) ∧ hm_dj Mx1 (hm_up No ot (hm_J E 1 (vp_updL f 0 v))) ∧ M1 = hm_j Mx1 (hm_up No ot (hm_J E 1 (vp_updL f 0 v))) ∧ xp E Mx1 x cnt1 nums1 t) ∨ (((r = 1 ∧ ¬ kn cnt a) ∨ (r = 2 ∧ mm = 0 ∧ ∃ i, i < cnt ∧ a = nI i)) ∧ ∃ Mx1, hm_dj Mx1 No ∧ M1 = hm_j Mx1 No ∧ xp E Mx1 x cnt nums t)) := by
  intro sz
  refine va_MetW (cc := cL_residue) (maxL := 6) (ret := (some .int)) (hh := [(0, 10, 13, 13), (0, 10, 17, 21)]) (by decide) rfl ?_
  intro p e s m args below meth c s₁ B hml hv
  obtain ⟨rfl, hAe, hA, hK, hV, hY⟩ := hm_startX hv
  have htab := vx_table (x := yL_residue) B (atoms_spec (ws := wd_L_residue) B.pre _ List.mem_cons_self)
  have hx := B.exec
  have hb := B.bytes
  have hr := B.returns
  have hts := atoms_spec (ws := wd_L_residue) B.pre
  have hws : ∀ w ∈ hm_ws, w.before _ s = true := fun w h => hts w (List.mem_cons_of_mem _ h)
  have hown : s.vm.findClass RL = some m.cls := findClass_of_methodNamed B.named
  have hlocks := B.notSynchronized
  have hl := lv_entry ([.ref x, .int a, .long mm, .ref ot]) (n := 6) (Nat.le_of_ble_eq_true rfl)
  rw [lg_entry_eq]
  generalize (lg_sl ([.ref x, .int a, .long mm, .ref ot]) ++ List.replicate (6 - (lg_sl ([.ref x, .int a, .long mm, .ref ot])).length) Slot.unset).toArray = ls at hl ⊢
  have hl : lv_has ls 6 [(0, .ref x), (1, .int a), (2, .long mm), (4, .ref ot)] := hl
  refine hm_gen (rm := rm_L_residue) rfl (fun Qf hQf => ?_)
  have hV := hm_Ve hM hV
  obtain ⟨A, ad, rw, el, z, hA0, hk, hz⟩ := hxp
  subst hA0
  have hl : lv_has ls 6 [(0, .ref (A 0)), (1, .int a), (2, .long mm), (4, .ref ot)] := hl
  refine lv_aload hx hb dL_residue_0 (lv_at hl 3 rfl) ?_
  refine lv_iconst (v := 0) hx hb dL_residue_2 (by decide) ?_
  refine lv_aload_n hx hb dL_residue_3 rfl (lv_at hl 0 rfl) ?_
  refine lv_iload_n hx hb dL_residue_4 rfl (lv_at hl 1 rfl) ?_
  refine lv_lload_n hx hb dL_residue_5 rfl (lv_at hl 2 rfl) ?_
  refine hm_ftcalll (vx_runV (As := [.int a, .long mm]) (rest := [.int 0, .ref ot]) ⟨hx, hb, hml, hown, hts⟩ (c_X3_residue l hlt E hk s.heap.size) (cwV 2 hts (hm_gV kw_463 kw_464 kw_465 kw_37 kw_466) rfl rfl rfl (by decide +kernel) ⟨Nat.le_of_ble_eq_true rfl, Nat.le_of_ble_eq_true rfl⟩) (hm_preVX hK (hm_fst hV) hA hY (xw_x hk) rfl) rfl rfl hl.1 rfl (lv_room (Nat.le_of_ble_eq_true rfl)) dL_residue_6 ⟨Nat.le_of_ble_eq_true rfl, Nat.le_of_ble_eq_true rfl⟩) hV hd hA (fun Ex ce q9 M1 H locs hp hd hV h91 h92 h93 => ?_) (fun r9 M1 H locs hp hd hV => ?_)
  · obtain ⟨hno, hM1⟩ := hp
    rcases hno with ⟨rfl, hno⟩ | ⟨rfl, h0, i, h1, h2⟩
    · refine vx_catch (own := RL) (name := xAI) (E := xAI) hown [] ⟨0, 10, 13, 13⟩ [⟨0, 10, 17, 21⟩] (htab.trans rfl) (fun z9 hz9 => absurd hz9 List.not_mem_nil) (by decide) (by decide) (hws _ kw_308) (va_Nw.use rfl hY.2.2.2.1.1) h91 h92 h93 ?_
      refine lv_astore (lv' := [(5, .ref q9), (0, .ref (A 0)), (1, .int a), (2, .long mm), (4, .ref ot)]) hx hb dL_residue_13 hl (by decide) rfl (fun ls hl => ?_)
      refine lv_iconst (v := 1) hx hb dL_residue_15 (by decide) ?_
      rw [hQf]
      exact W.iret hx hb hr (fun t9 ht hW => ⟨⟨_, (hm_j M1 No), rfl, Or.inr ⟨Or.inl ⟨rfl, hno⟩, M1, hd, rfl, by rw [hM1]; exact ⟨A, ad, rw, el, z, rfl, hk, hz⟩⟩, (hm_end hV ht).1⟩, (hm_end hV ht).2⟩) hV.2.2.2.2 dL_residue_16
    · refine vx_catch (own := RL) (name := xAR) (E := xAR) hown [⟨0, 10, 13, 13⟩] ⟨0, 10, 17, 21⟩ [] (htab.trans rfl) (fun z9 hz9 => ?_) (by decide) (by decide) (hws _ kw_406) (va_Nw.use rfl hY.2.2.2.1.2) h91 h92 h93 ?_
      · simp only [List.mem_singleton] at hz9
        subst hz9
        exact Or.inr ⟨by decide, xAI, hws _ kw_308, hY.2.2.2.2.2⟩
      refine lv_astore (lv' := [(5, .ref q9), (0, .ref (A 0)), (1, .int a), (2, .long mm), (4, .ref ot)]) hx hb dL_residue_17 hl (by decide) rfl (fun ls hl => ?_)
      refine lv_iconst (v := 2) hx hb dL_residue_19 (by decide) ?_
      rw [hQf]
      exact W.iret hx hb hr (fun t9 ht hW => ⟨⟨_, (hm_j M1 No), rfl, Or.inr ⟨Or.inr ⟨rfl, h0, i, h1, h2⟩, M1, hd, rfl, by rw [hM1]; exact ⟨A, ad, rw, el, z, rfl, hk, hz⟩⟩, (hm_end hV ht).1⟩, (hm_end hV ht).2⟩) hV.2.2.2.2 dL_residue_20
  · refine hm_lastN hx hb hK.1 hV 1 (hm_jr hd ho) rfl (k := 0) (by omega) (by omega) dL_residue_9 (fun H locs hV => ?_)
    have hV : hm_V E.1 vwCl (hm_A M sz) s.heap (hm_up ((hm_j M1 No)) ot (hm_J E 1 (vp_updL f 0 r9))) H locs := hV
    have hV := hm_Ve (hm_jur hd ho) hV
    have hd := hm_dju (e := hm_J E 1 (vp_updL f 0 r9)) hd ho
    refine lv_goto (tgt := 21) hx hb dL_residue_10 (by decide) ?_
    refine lv_iconst (v := 0) hx hb dL_residue_21 (by decide) ?_
    obtain ⟨⟨i, h1, h2, h3, h4⟩, hM1⟩ := hp
    rw [hz i h1] at h4
    rw [hQf]
    exact W.iret hx hb hr (fun t9 ht hW => ⟨⟨_, (hm_j M1 (hm_up No ot (hm_J E 1 (vp_updL f 0 r9)))), rfl, Or.inl ⟨rfl, r9, cnt, nums, M1, ⟨i, h1, h2, h3, h4, rfl, rfl⟩, hd, rfl, by rw [hM1]; exact ⟨A, ad, rw, el, z, rfl, hk, hz⟩⟩, (hm_end hV ht).1⟩, (hm_end hV ht).2⟩) hV.2.2.2.2 dL_residue_22
