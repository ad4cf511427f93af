abbrev wd_X4_compare : List Cond := .code yX4_compare cX4_compare 2 (some .int) :: hm_ws
abbrev rm_X4_compare : Room := { frames := 0, cells := 0, slots := 0, locals := 0 }

set_option maxHeartbeats 4000000 in
set_option maxRecDepth 100000 in
/-- compare() -/
theorem c_X4_compare (l : Launch) (E : hm_E) {M : hm_M} {A : Nat → Nat} {th : Int32} {cnt : Nat} {nums : Nat → Int} {t : Nat → Nat → Int64} {v u : Nat} (hk : md E M A th cnt (sg v) (sg u) nums t (fun j => nI (dg v j)) (fun j => nI (dg u j))) (hv0 : v < 65536 ^ 220) (hu : u < 65536 ^ 220)  : hm_Ci l E yX4_compare wd_X4_compare rm_X4_compare [.ref (A 0)] M (fun r M1 => r = (if v < u then -1 else if v = u then 0 else 1) ∧ M1 = M) := by
  intro sz
  refine Met.ofW (cc := cX4_compare) (maxL := 2) (ret := (some .int)) (by decide) rfl ?_
  intro p e s m args below meth c s₁ B hml hv
  obtain ⟨rfl, hAe, hA, hK, hV⟩ := hm_start hv
  have hx := B.exec
  have hb := B.bytes
  have hr := B.returns
  have hts := atoms_spec (ws := wd_X4_compare) B.pre
  have hws : ∀ w ∈ hm_ws, w.before _ s = true := fun w h => hts w (List.mem_cons_of_mem _ h)
  have hown : s.vm.findClass RX4 = some m.cls := findClass_of_methodNamed B.named
  have hlocks := B.notSynchronized
  have fl64 := hws _ kw_486
  have fl67 := hws _ kw_488
  have fl24 := hws _ kw_485
  have fl27 := hws _ kw_487
  have hl := lv_entry ([.ref (A 0)]) (n := 2) (Nat.le_of_ble_eq_true rfl)
  rw [lg_entry_eq]
  generalize (lg_sl ([.ref (A 0)]) ++ List.replicate (2 - (lg_sl ([.ref (A 0)])).length) Slot.unset).toArray = ls at hl ⊢
  have hl : lv_has ls 2 [(0, .ref (A 0))] := hl
  refine hm_gen (rm := rm_X4_compare) rfl (fun Qf hQf => ?_)
  have hv := hv0
  have hv3 := sg_220 v
  have hu3 := sg_220 u
  refine lv_aload_n hx hb dX4_compare_0 rfl (lv_at hl 0 rfl) ?_
  refine hm_get (ci := 6) (v := .int (nI (sg v))) (C := RX4) (T := TX4) (N := 16) hx hb hws kin_X4 hown hK.1 hV (md_x hk) rfl 7 (by decide) fl64 (fun _ h9 => h9) rfl dX4_compare_1 ?_
  refine lv_aload_n hx hb dX4_compare_4 rfl (lv_at hl 0 rfl) ?_
  refine hm_get (ci := 6) (v := .int (nI (sg u))) (C := RX4) (T := TX4) (N := 16) hx hb hws kin_X4 hown hK.1 hV (md_x hk) rfl 9 (by decide) fl67 (fun _ h9 => h9) rfl dX4_compare_5 ?_
  refine lv_icmp_eq (tgt := 28) hx hb dX4_compare_8 (by decide) (fun c8 => ?_) (fun c8 => ?_)
  · have hkq : sg v = sg u := (nI_eq (by omega) (by omega)).mp c8
    have hv4 := sg_lt hv
    have hu4 := sg_lt hu
    rw [← hkq] at hu4
    refine lv_aload_n hx hb dX4_compare_28 rfl (lv_at hl 0 rfl) ?_
    refine hm_get (ci := 6) (v := .int (nI (sg v))) (C := RX4) (T := TX4) (N := 16) hx hb hws kin_X4 hown hK.1 hV (md_x hk) rfl 7 (by decide) fl64 (fun _ h9 => h9) rfl dX4_compare_29 ?_
    refine lv_iconst (v := 1) hx hb dX4_compare_32 (by decide) ?_
    refine lv_isub hx hb dX4_compare_33 ?_
    refine hm_topi (show ((nI (sg v)) - 1) = nP (sg v) from nP_sub (sg v)) ?_
    refine lv_istore_n (lv' := [(1, .int (nP (sg v))), (0, .ref (A 0))]) hx hb dX4_compare_34 rfl hl (by decide) rfl (fun ls hl => ?_)
    have loop : ∀ (fu : Nat) (i : Nat), (i ≤ sg v) → (∀ j, i ≤ j → j < sg v → dg v j = dg u j) → i < fu → ∀ (ls : Array Slot) (H : Heap) (locs : List Loc), lv_has ls 2 [(0, .ref (A 0)), (1, .int (nP i))] → hm_V E.1 vwCl (hm_A M sz) s.heap (M) H locs → W p l e rm_X4_compare s m [.ref (A 0)].toArray below meth c H locs 0 0 Qf (F0 m 35 ls []) := by
      intro fu
      induction fu with
      | zero => intro i hi he hfu; exact absurd hfu (Nat.not_lt_zero _)
      | succ fu ih_loop =>
        intro i hi he hfu ls H locs hl hV
        refine lv_iload_n hx hb dX4_compare_35 rfl (lv_at hl 1 rfl) ?_
        refine lv_if_lt (tgt := 81) hx hb dX4_compare_36 (by decide) (fun c36 => ?_) (fun c36 => ?_)
        · have hi0 : i = 0 := by
            cases i with
            | zero => rfl
            | succ j => exact absurd c36 (nI_pos (by omega))
          refine lv_iconst (v := 0) hx hb dX4_compare_81 (by decide) ?_
          rw [hQf]
          exact W.iret hx hb hr (fun t ht hW => ⟨⟨_, M, rfl, ⟨cmp_eq (dg_eq hv4 hu4 (fun j hj => he j (by omega) hj)), rfl⟩, (hm_end hV ht).1⟩, (hm_end hV ht).2⟩) hV.2.2.2.2 dX4_compare_82
        · obtain ⟨j, rfl⟩ : ∃ j, i = j + 1 := by
            cases i with
            | zero => exact absurd (show nP 0 < 0 from by decide) c36
            | succ j => exact ⟨j, rfl⟩
          have hdv := dg_lt v j
          have hdu := dg_lt u j
          have hl : lv_has ls 2 [(0, .ref (A 0)), (1, .int (nI j))] := hl
          refine lv_aload_n hx hb dX4_compare_39 rfl (lv_at hl 0 rfl) ?_
          refine hm_get (ci := 6) (v := .ref (A 5)) (C := RX4) (T := TX4) (N := 16) hx hb hws kin_X4 hown hK.1 hV (md_x hk) rfl 6 (by decide) fl24 (fun _ h9 => h9) rfl dX4_compare_40 ?_
          refine lv_iload_n hx hb dX4_compare_43 rfl (lv_at hl 1 rfl) ?_
          refine hm_ialdN hx hb hK.1 hV 0 (md_w hk) rfl (k := j) (by omega) (by omega) dX4_compare_44 ?_
          refine lv_aload_n hx hb dX4_compare_45 rfl (lv_at hl 0 rfl) ?_
          refine hm_get (ci := 6) (v := .ref (A 6)) (C := RX4) (T := TX4) (N := 16) hx hb hws kin_X4 hown hK.1 hV (md_x hk) rfl 8 (by decide) fl27 (fun _ h9 => h9) rfl dX4_compare_46 ?_
          refine lv_iload_n hx hb dX4_compare_49 rfl (lv_at hl 1 rfl) ?_
          refine hm_ialdN hx hb hK.1 hV 0 (md_o hk) rfl (k := j) (by omega) (by omega) dX4_compare_50 ?_
          refine lv_icmp_eq (tgt := 75) hx hb dX4_compare_51 (by decide) (fun c51 => ?_) (fun c51 => ?_)
          · have hde : dg v j = dg u j := (nI_eq (by omega) (by omega)).mp c51
            refine lv_iinc (v := (nP j)) (lv' := [(1, .int (nP j)), (0, .ref (A 0))]) hx hb dX4_compare_75 hl (k := 1) rfl (nP_dec j) (by decide) rfl (fun ls hl => ?_)
            refine lv_goto (tgt := 35) hx hb dX4_compare_78 (by decide) ?_
            exact ih_loop j (by omega) (fun b h1 h2 => by
              rcases Nat.lt_or_ge j b with r | r
              · exact he b (by omega) h2
              · rw [show b = j by omega]; exact hde) (by omega) ls H locs (lv_sub hl [1, 0] rfl) hV
          · refine lv_aload_n hx hb dX4_compare_54 rfl (lv_at hl 0 rfl) ?_
            refine hm_get (ci := 6) (v := .ref (A 5)) (C := RX4) (T := TX4) (N := 16) hx hb hws kin_X4 hown hK.1 hV (md_x hk) rfl 6 (by decide) fl24 (fun _ h9 => h9) rfl dX4_compare_55 ?_
            refine lv_iload_n hx hb dX4_compare_58 rfl (lv_at hl 1 rfl) ?_
            refine hm_ialdN hx hb hK.1 hV 0 (md_w hk) rfl (k := j) (by omega) (by omega) dX4_compare_59 ?_
            refine lv_aload_n hx hb dX4_compare_60 rfl (lv_at hl 0 rfl) ?_
            refine hm_get (ci := 6) (v := .ref (A 6)) (C := RX4) (T := TX4) (N := 16) hx hb hws kin_X4 hown hK.1 hV (md_x hk) rfl 8 (by decide) fl27 (fun _ h9 => h9) rfl dX4_compare_61 ?_
            refine lv_iload_n hx hb dX4_compare_64 rfl (lv_at hl 1 rfl) ?_
            refine hm_ialdN hx hb hK.1 hV 0 (md_o hk) rfl (k := j) (by omega) (by omega) dX4_compare_65 ?_
            refine lv_icmp_ge (tgt := 73) hx hb dX4_compare_66 (by decide) (fun c66 => ?_) (fun c66 => ?_)
            · have hlt : dg u j < dg v j := by
                have h1 := (nI_leI (by omega) (by omega)).mp c66
                have h2 : dg v j ≠ dg u j := fun r => c51 (by rw [r])
                omega
              refine lv_iconst (v := 1) hx hb dX4_compare_73 (by decide) ?_
              rw [hQf]
              exact W.iret hx hb hr (fun t ht hW => ⟨⟨_, M, rfl, ⟨cmp_gt (dg_less hu4 hv4 (by omega) (fun b h1 h2 => (he b (by omega) h2).symm) hlt), rfl⟩, (hm_end hV ht).1⟩, (hm_end hV ht).2⟩) hV.2.2.2.2 dX4_compare_74
            · have hlt : dg v j < dg u j := by
                rcases Nat.lt_or_ge (dg v j) (dg u j) with r | r
                · exact r
                · exact absurd (nI_le r (by omega)) c66
              refine lv_iconst (v := (-1)) hx hb dX4_compare_69 (by decide) ?_
              refine lv_goto (tgt := 74) hx hb dX4_compare_70 (by decide) ?_
              rw [hQf]
              exact W.iret hx hb hr (fun t ht hW => ⟨⟨_, M, rfl, ⟨cmp_lt (dg_less hv4 hu4 (by omega) (fun b h1 h2 => he b (by omega) h2) hlt), rfl⟩, (hm_end hV ht).1⟩, (hm_end hV ht).2⟩) hV.2.2.2.2 dX4_compare_74
    exact loop (sg v + 1) (sg v) (Nat.le_refl _) (fun j h1 h2 => absurd h2 (by omega)) (by omega) ls s.heap [] (lv_sub hl [1, 0] rfl) hV
  · have hkq : sg v ≠ sg u := fun r => c8 (by rw [r])
    refine lv_aload_n hx hb dX4_compare_11 rfl (lv_at hl 0 rfl) ?_
    refine hm_get (ci := 6) (v := .int (nI (sg v))) (C := RX4) (T := TX4) (N := 16) hx hb hws kin_X4 hown hK.1 hV (md_x hk) rfl 7 (by decide) fl64 (fun _ h9 => h9) rfl dX4_compare_12 ?_
    refine lv_aload_n hx hb dX4_compare_15 rfl (lv_at hl 0 rfl) ?_
    refine hm_get (ci := 6) (v := .int (nI (sg u))) (C := RX4) (T := TX4) (N := 16) hx hb hws kin_X4 hown hK.1 hV (md_x hk) rfl 9 (by decide) fl67 (fun _ h9 => h9) rfl dX4_compare_16 ?_
    refine lv_icmp_ge (tgt := 26) hx hb dX4_compare_19 (by decide) (fun c19 => ?_) (fun c19 => ?_)
    · have hlt : sg u < sg v := by
        have := (nI_leI (by omega) (by omega)).mp c19
        omega
      refine lv_iconst (v := 1) hx hb dX4_compare_26 (by decide) ?_
      rw [hQf]
      exact W.iret hx hb hr (fun t ht hW => ⟨⟨_, M, rfl, ⟨cmp_gt (sg_less hu hv hlt), rfl⟩, (hm_end hV ht).1⟩, (hm_end hV ht).2⟩) hV.2.2.2.2 dX4_compare_27
    · have hlt : sg v < sg u := by
        rcases Nat.lt_or_ge (sg v) (sg u) with r | r
        · exact r
        · exact absurd (nI_le r (by omega)) c19
      refine lv_iconst (v := (-1)) hx hb dX4_compare_22 (by decide) ?_
      refine lv_goto (tgt := 27) hx hb dX4_compare_23 (by decide) ?_
      rw [hQf]
      exact W.iret hx hb hr (fun t ht hW => ⟨⟨_, M, rfl, ⟨cmp_lt (sg_less hv hu hlt), rfl⟩, (hm_end hV ht).1⟩, (hm_end hV ht).2⟩) hV.2.2.2.2 dX4_compare_27

abbrev wd_X4_grow : List Cond := .code yX4_grow cX4_grow 5 none :: hm_ws
abbrev rm_X4_grow : Room := { frames := 1, cells := 0, slots := 0, locals := 22 }

set_option maxHeartbeats 4000000 in
set_option maxRecDepth 100000 in
/-- grow() -/
theorem c_X4_grow (l : Launch) (E : hm_E) {M : hm_M} {A : Nat → Nat} {th : Int32} {cnt : Nat} {nums : Nat → Int} {t : Nat → Nat → Int64} {v u : Nat} (hk : md E M A th cnt (sg v) (sg u) nums t (fun j => nI (dg v j)) (fun j => nI (dg u j))) (hv1 : v < bigN) (hu1 : u < bigN)  : hm_Cv l E yX4_grow wd_X4_grow rm_X4_grow [.ref (A 0)] M (fun M1 => md E M1 A th cnt (sg (v + u)) (sg u) nums t (fun j => nI (dg (v + u) j)) (fun j => nI (dg u j))) := by
  intro sz
  refine Met.ofW (cc := cX4_grow) (maxL := 5) (ret := none) (by decide) rfl ?_
  intro p e s m args below meth c s₁ B hml hv
  obtain ⟨rfl, hAe, hA, hK, hV⟩ := hm_start hv
  have hx := B.exec
  have hb := B.bytes
  have hr := B.returns
  have hts := atoms_spec (ws := wd_X4_grow) B.pre
  have hws : ∀ w ∈ hm_ws, w.before _ s = true := fun w h => hts w (List.mem_cons_of_mem _ h)
  have hown : s.vm.findClass RX4 = some m.cls := findClass_of_methodNamed B.named
  have hlocks := B.notSynchronized
  have fl64 := hws _ kw_486
  have fl67 := hws _ kw_488
  have fl24 := hws _ kw_485
  have fl27 := hws _ kw_487
  have ld80 := hws _ kw_581
  have hl := lv_entry ([.ref (A 0)]) (n := 5) (Nat.le_of_ble_eq_true rfl)
  rw [lg_entry_eq]
  generalize (lg_sl ([.ref (A 0)]) ++ List.replicate (5 - (lg_sl ([.ref (A 0)])).length) Slot.unset).toArray = ls at hl ⊢
  have hl : lv_has ls 5 [(0, .ref (A 0))] := hl
  refine hm_gen (rm := rm_X4_grow) rfl (fun Qf hQf => ?_)
  have hv := big220 hv1
  have hu := big220 hu1
  have hv3 := big100 hv1
  have hu3 := big100 hu1
  obtain ⟨xf, hxf⟩ : ∃ xf : Nat → Int, xf = fun i => (dg v i : Int) + (dg u i : Int) := ⟨_, rfl⟩
  have hxi : ∀ i, xf i = (dg v i : Int) + (dg u i : Int) := fun i => by rw [hxf]
  have hbd := c16_bd (x := xf) (l := 0) (m := 2) (by omega) (by omega) (fun i => by have := dg_lt v i; have := dg_lt u i; rw [hxi]; omega)
  refine lv_iconst (v := 0) hx hb dX4_grow_0 (by decide) ?_
  refine lv_istore_n (lv' := [(1, .int 0), (0, .ref (A 0))]) hx hb dX4_grow_1 rfl hl (by decide) rfl (fun ls hl => ?_)
  have body : ∀ (n : Nat), (sg v ≤ n) → (sg u ≤ n) → (n ≤ 100) → ∀ (ls : Array Slot) (H : Heap) (locs : List Loc), lv_has ls 5 [(1, .int 0), (0, .ref (A 0))] → hm_V E.1 vwCl (hm_A M sz) s.heap (M) H locs → W p l e rm_X4_grow s m [.ref (A 0)].toArray below meth c H locs 0 0 Qf (F0 m 24 ls [.int (nI n)]) := by
    intro n hn1 hn2 hn3 ls H locs hl hV
    obtain ⟨hva, hua, hs⟩ := sg_max1 hv hu hn1 hn2
    have hS := s_add hva hua
    rw [← hxf] at hS
    have hV : hm_V E.1 vwCl (hm_A M sz) s.heap (hm_up M (A 5) (hm_I E 220 (fun j => nI (if j < 0 then ch_e 65536 xf j else dg v j)))) H locs := by rw [hm_up_id (((md_w hk)).trans (congrArg (fun f9 => some (hm_I E 220 f9)) (nu_up0 (ch_e 65536 xf) (dg v))))]; exact hV
    refine lv_istore_n (lv' := [(2, .int (nI n)), (1, .int 0), (0, .ref (A 0))]) hx hb dX4_grow_24 rfl hl (by decide) rfl (fun ls hl => ?_)
    refine lv_iconst (v := 0) hx hb dX4_grow_25 (by decide) ?_
    refine lv_istore_n (lv' := [(3, .int 0), (2, .int (nI n)), (1, .int 0), (0, .ref (A 0))]) hx hb dX4_grow_26 rfl hl (by decide) rfl (fun ls hl => ?_)
    rw [show 0 = iZ (ch_c 65536 xf 0) from rfl] at hl
    have hl : lv_has ls 5 [(3, .int 0), (2, .int (nI n)), (1, .int (iZ (ch_c 65536 xf 0))), (0, .ref (A 0))] := hl
    have loop : ∀ (fu : Nat) (i : Nat), (i ≤ n + 1) → n + 1 - i < fu → ∀ (ls : Array Slot) (H : Heap) (locs : List Loc), lv_has ls 5 [(0, .ref (A 0)), (1, .int (iZ (ch_c 65536 xf i))), (2, .int (nI n)), (3, .int (nI i))] → hm_V E.1 vwCl (hm_A M sz) s.heap (hm_up M (A 5) (hm_I E 220 (fun j => nI (if j < i then ch_e 65536 xf j else dg v j)))) H locs → W p l e rm_X4_grow s m [.ref (A 0)].toArray below meth c H locs 0 0 Qf (F0 m 27 ls []) := by
      intro fu
      induction fu with
      | zero => intro i hi hfu; exact absurd hfu (Nat.not_lt_zero _)
      | succ fu ih_loop =>
        intro i hi hfu ls H locs hl hV
        refine lv_iload_n hx hb dX4_grow_27 rfl (lv_at hl 3 rfl) ?_
        refine lv_iload_n hx hb dX4_grow_28 rfl (lv_at hl 2 rfl) ?_
        refine lv_icmp_gt (tgt := 72) hx hb dX4_grow_29 (by decide) (fun c29 => ?_) (fun c29 => ?_)
        · have hi2 : i = n + 1 := by
            have := (nI_ltI (by omega) (by omega)).mp c29
            omega
          rw [hi2, c16_all hS hs hva] at hV
          refine lv_aload_n hx hb dX4_grow_72 rfl (lv_at hl 0 rfl) ?_
          refine lv_aload_n hx hb dX4_grow_73 rfl (lv_at hl 0 rfl) ?_
          refine hm_get (ci := 6) (v := .ref (A 5)) (C := RX4) (T := TX4) (N := 16) hx hb hws kin_X4 hown hK.1 hV ((hm_up_ne _ _ (md_ap hk (i := 0) (j := 5) (by decide) (by decide) (by decide))).trans (md_x hk)) rfl 6 (by decide) fl24 (fun _ h9 => h9) rfl dX4_grow_74 ?_
          refine lv_iload_n hx hb dX4_grow_77 rfl (lv_at hl 2 rfl) ?_
          refine lv_iconst (v := 1) hx hb dX4_grow_78 (by decide) ?_
          refine lv_iadd hx hb dX4_grow_79 ?_
          refine hm_topi (show ((nI n) + 1) = nI (n + 1) from nI_1 n) ?_
          refine hm_calli (va_runS (As := [.ref (A 5), .int (nI (n + 1))]) (rest := [.ref (A 0)]) ⟨hx, hb, hml, hown, hts⟩ (c_X4_sizeOf l E (d := dg (v + u)) (n := 220) (m0 := (n + 1)) (hm_up_self _ _ _) (by omega) (by decide) (fun j _ => by have := dg_lt (v + u) j; omega) H.size) (va_cwS 2 hts (hm_gS kw_546 kw_547 kw_41 kw_548) rfl rfl rfl (by decide +kernel) ⟨Nat.le_of_ble_eq_true rfl, Nat.le_of_ble_eq_true rfl⟩) (hm_preS hK hV) rfl rfl hl.1 rfl (lv_room (Nat.le_of_ble_eq_true rfl)) dX4_grow_80 ⟨Nat.le_of_ble_eq_true rfl, Nat.le_of_ble_eq_true rfl⟩) hV hA (fun r80 M1 H locs hp hV => ?_)
          obtain ⟨hr80, hM1⟩ := hp
          rw [hM1] at hV
          rw [sg_k (hs) (by omega)] at hr80
          subst hr80
          refine hm_put (ci := 6) (v := .int (nI (sg (v + u)))) (ty := .int) (C := RX4) (T := TX4) (N := 16) hx hb hws kin_X4 tyX4 tyX4_ok nmX4 hown hK.1 hV ((hm_up_ne _ _ (md_ap hk (i := 0) (j := 5) (by decide) (by decide) (by decide))).trans (md_x hk)) rfl 7 (by decide) fl64 (fun _ h9 => h9) rfl (by decide +kernel) rfl rfl (Nat.le_of_ble_eq_true rfl) dX4_grow_83 (fun H locs hV => ?_)
          have hV : hm_V E.1 vwCl (hm_A M sz) s.heap (hm_up (hm_up M (A 5) (hm_I E 220 (fun j => nI (dg (v + u) j)))) (A 0) (.inr (6, [.int th, .int (nI cnt), .ref (A 1), .ref (A 2), .ref (A 3), .ref (A 4), .ref (A 5), .int (nI (sg (v + u))), .ref (A 6), .int (nI (sg u)), .ref (A 7), .ref (A 8), .ref (A 9), .ref (A 10), .ref (A 11), .ref (A 12)]))) H locs := hV
          rw [hQf]
          exact W.vret hx hb hr (fun t ht hW => ⟨⟨(hm_up (hm_up M (A 5) (hm_I E 220 (fun j => nI (dg (v + u) j)))) (A 0) (.inr (6, [.int th, .int (nI cnt), .ref (A 1), .ref (A 2), .ref (A 3), .ref (A 4), .ref (A 5), .int (nI (sg (v + u))), .ref (A 6), .int (nI (sg u)), .ref (A 7), .ref (A 8), .ref (A 9), .ref (A 10), .ref (A 11), .ref (A 12)]))), rfl, md_ux (md_uw hk _) th (sg (v + u)) (sg u), (hm_end hV ht).1⟩, (hm_end hV ht).2⟩) hV.2.2.2.2 dX4_grow_86
        · have hi2 : i ≤ n := by
            rcases Nat.lt_or_ge n i with q | q
            · exact absurd (nI_lt q (by omega)) c29
            · exact q
          have h1 := dg_lt v i
          have h2 := dg_lt u i
          have h3 := hbd i
          have h4 := hxi i
          refine lv_aload_n hx hb dX4_grow_32 rfl (lv_at hl 0 rfl) ?_
          refine hm_get (ci := 6) (v := .ref (A 5)) (C := RX4) (T := TX4) (N := 16) hx hb hws kin_X4 hown hK.1 hV ((hm_up_ne _ _ (md_ap hk (i := 0) (j := 5) (by decide) (by decide) (by decide))).trans (md_x hk)) rfl 6 (by decide) fl24 (fun _ h9 => h9) rfl dX4_grow_33 ?_
          refine lv_iload_n hx hb dX4_grow_36 rfl (lv_at hl 3 rfl) ?_
          refine hm_ialdN hx hb hK.1 hV 0 (hm_up_self _ _ _) rfl (k := i) (by omega) (by omega) dX4_grow_37 ?_
          refine lv_aload_n hx hb dX4_grow_38 rfl (lv_at hl 0 rfl) ?_
          refine hm_get (ci := 6) (v := .ref (A 6)) (C := RX4) (T := TX4) (N := 16) hx hb hws kin_X4 hown hK.1 hV ((hm_up_ne _ _ (md_ap hk (i := 0) (j := 5) (by decide) (by decide) (by decide))).trans (md_x hk)) rfl 8 (by decide) fl27 (fun _ h9 => h9) rfl dX4_grow_39 ?_
          refine lv_iload_n hx hb dX4_grow_42 rfl (lv_at hl 3 rfl) ?_
          refine hm_ialdN hx hb hK.1 hV 0 ((hm_up_ne _ _ (md_ap hk (i := 6) (j := 5) (by decide) (by decide) (by decide))).trans (md_o hk)) rfl (k := i) (by omega) (by omega) dX4_grow_43 ?_
          refine lv_iadd hx hb dX4_grow_44 ?_
          refine hm_topi (show ((nI (if i < i then ch_e 65536 xf i else dg v i)) + (nI (dg u i))) = iZ (xf i) from by rw [if_neg (Nat.lt_irrefl i), iZ_nI, iZ_nI, iZ_add, hxi]) ?_
          refine lv_iload_n hx hb dX4_grow_45 rfl (lv_at hl 1 rfl) ?_
          refine lv_iadd hx hb dX4_grow_46 ?_
          refine hm_topi (show ((iZ (xf i)) + (iZ (ch_c 65536 xf i))) = iZ (xf i + ch_c 65536 xf i) from iZ_add _ _) ?_
          refine lv_istore (lv' := [(4, .int (iZ (xf i + ch_c 65536 xf i))), (0, .ref (A 0)), (1, .int (iZ (ch_c 65536 xf i))), (2, .int (nI n)), (3, .int (nI i))]) hx hb dX4_grow_47 hl (by decide) rfl (fun ls hl => ?_)
          refine lv_aload_n hx hb dX4_grow_49 rfl (lv_at hl 1 rfl) ?_
          refine hm_get (ci := 6) (v := .ref (A 5)) (C := RX4) (T := TX4) (N := 16) hx hb hws kin_X4 hown hK.1 hV ((hm_up_ne _ _ (md_ap hk (i := 0) (j := 5) (by decide) (by decide) (by decide))).trans (md_x hk)) rfl 6 (by decide) fl24 (fun _ h9 => h9) rfl dX4_grow_50 ?_
          refine lv_iload_n hx hb dX4_grow_53 rfl (lv_at hl 4 rfl) ?_
          refine lv_iload hx hb dX4_grow_54 (lv_at hl 0 rfl) ?_
          refine lv_ldc (v := 65535) hx hb hown ld80 dX4_grow_56 ?_
          refine lv_iand hx hb dX4_grow_58 ?_
          refine hm_topi (show ((iZ (xf i + ch_c 65536 xf i)) &&& 65535) = nI (ch_e 65536 xf i) from iZ_m16 _) ?_
          refine hm_iastN hx hb hK.1 hV 0 (hm_up_self _ _ _) rfl (k := i) (by omega) (by omega) dX4_grow_59 (fun H locs hV => ?_)
          rw [show (upd (fun j => nI (if j < i then ch_e 65536 xf j else dg v j)) i (nI (ch_e 65536 xf i))) = (fun j => nI (if j < i + 1 then ch_e 65536 xf j else dg v j)) from nu_up (ch_e 65536 xf) (dg v) i] at hV
          rw [hm_u0] at hV
          have hV : hm_V E.1 vwCl (hm_A M sz) s.heap (hm_up M (A 5) (hm_I E 220 (fun j => nI (if j < i + 1 then ch_e 65536 xf j else dg v j)))) H locs := hV
          refine lv_iload hx hb dX4_grow_60 (lv_at hl 0 rfl) ?_
          refine lv_bipush (v := 16) hx hb dX4_grow_62 (by decide) ?_
          refine lv_ishr hx hb dX4_grow_64 ?_
          refine hm_topi (show ((iZ (xf i + ch_c 65536 xf i)) >>> (16 &&& 31)) = iZ (ch_c 65536 xf (i + 1)) from iZ_s16 (by omega) (by omega)) ?_
          refine lv_istore_n (lv' := [(1, .int (iZ (ch_c 65536 xf (i + 1)))), (4, .int (iZ (xf i + ch_c 65536 xf i))), (0, .ref (A 0)), (2, .int (nI n)), (3, .int (nI i))]) hx hb dX4_grow_65 rfl hl (by decide) rfl (fun ls hl => ?_)
          refine lv_iinc (v := (nI (i + 1))) (lv' := [(3, .int (nI (i + 1))), (1, .int (iZ (ch_c 65536 xf (i + 1)))), (4, .int (iZ (xf i + ch_c 65536 xf i))), (0, .ref (A 0)), (2, .int (nI n))]) hx hb dX4_grow_66 hl (k := 4) rfl (nI_1 i) (by decide) rfl (fun ls hl => ?_)
          refine lv_goto (tgt := 27) hx hb dX4_grow_69 (by decide) ?_
          exact ih_loop (i + 1) (by omega) (by omega) ls H locs (lv_sub hl [3, 1, 4, 0] rfl) hV
    exact loop (n + 2) 0 (Nat.zero_le _) (by omega) ls H locs (lv_sub hl [3, 2, 1, 0] rfl) hV
  refine lv_aload_n hx hb dX4_grow_2 rfl (lv_at hl 1 rfl) ?_
  refine hm_get (ci := 6) (v := .int (nI (sg v))) (C := RX4) (T := TX4) (N := 16) hx hb hws kin_X4 hown hK.1 hV (md_x hk) rfl 7 (by decide) fl64 (fun _ h9 => h9) rfl dX4_grow_3 ?_
  refine lv_aload_n hx hb dX4_grow_6 rfl (lv_at hl 1 rfl) ?_
  refine hm_get (ci := 6) (v := .int (nI (sg u))) (C := RX4) (T := TX4) (N := 16) hx hb hws kin_X4 hown hK.1 hV (md_x hk) rfl 9 (by decide) fl67 (fun _ h9 => h9) rfl dX4_grow_7 ?_
  refine lv_icmp_le (tgt := 20) hx hb dX4_grow_10 (by decide) (fun c10 => ?_) (fun c10 => ?_)
  · have h1 : sg v ≤ sg u := (nI_leI (by omega) (by omega)).mp c10
    refine lv_aload_n hx hb dX4_grow_20 rfl (lv_at hl 1 rfl) ?_
    refine hm_get (ci := 6) (v := .int (nI (sg u))) (C := RX4) (T := TX4) (N := 16) hx hb hws kin_X4 hown hK.1 hV (md_x hk) rfl 9 (by decide) fl67 (fun _ h9 => h9) rfl dX4_grow_21 ?_
    exact body (sg u) h1 (Nat.le_refl _) hu3 ls s.heap [] (lv_sub hl [0, 1] rfl) hV
  · have h1 : sg u ≤ sg v := by
      rcases Nat.lt_or_ge (sg v) (sg u) with q | q
      · exact absurd (nI_le (Nat.le_of_lt q) (by omega)) c10
      · exact q
    refine lv_aload_n hx hb dX4_grow_13 rfl (lv_at hl 1 rfl) ?_
    refine hm_get (ci := 6) (v := .int (nI (sg v))) (C := RX4) (T := TX4) (N := 16) hx hb hws kin_X4 hown hK.1 hV (md_x hk) rfl 7 (by decide) fl64 (fun _ h9 => h9) rfl dX4_grow_14 ?_
    refine lv_goto (tgt := 24) hx hb dX4_grow_17 (by decide) ?_
    exact body (sg v) (Nat.le_refl _) h1 hv3 ls s.heap [] (lv_sub hl [0, 1] rfl) hV

abbrev wd_X4_shrink : List Cond := .code yX4_shrink cX4_shrink 6 none :: hm_ws
abbrev rm_X4_shrink : Room := { frames := 1, cells := 0, slots := 0, locals := 22 }

set_option maxHeartbeats 4000000 in
set_option maxRecDepth 100000 in
/-- shrink(turned) -/
theorem c_X4_shrink (l : Launch) (E : hm_E) {M : hm_M} {A : Nat → Nat} {th : Int32} {cnt : Nat} {nums : Nat → Int} {t : Nat → Nat → Int64} {tb : Int32} {d0 : Nat} {v u : Nat} (hk : md E M A th cnt (sg v) (sg u) nums t (fun j => nI (dg v j)) (fun j => nI (dg u j))) (hv1 : v < bigN) (hu1 : u < bigN) (htb : (tb = 0 ∧ u ≤ v ∧ d0 = v - u) ∨ (tb = 1 ∧ v ≤ u ∧ d0 = u - v)) : hm_Cv l E yX4_shrink wd_X4_shrink rm_X4_shrink [.ref (A 0), .int tb] M (fun M1 => md E M1 A th cnt (sg d0) (sg u) nums t (fun j => nI (dg d0 j)) (fun j => nI (dg u j))) := by
  intro sz
  refine Met.ofW (cc := cX4_shrink) (maxL := 6) (ret := none) (by decide) rfl ?_
  intro p e s m args below meth c s₁ B hml hv
  obtain ⟨rfl, hAe, hA, hK, hV⟩ := hm_start hv
  have hx := B.exec
  have hb := B.bytes
  have hr := B.returns
  have hts := atoms_spec (ws := wd_X4_shrink) B.pre
  have hws : ∀ w ∈ hm_ws, w.before _ s = true := fun w h => hts w (List.mem_cons_of_mem _ h)
  have hown : s.vm.findClass RX4 = some m.cls := findClass_of_methodNamed B.named
  have hlocks := B.notSynchronized
  have fl64 := hws _ kw_486
  have fl67 := hws _ kw_488
  have fl27 := hws _ kw_487
  have fl24 := hws _ kw_485
  have ld80 := hws _ kw_581
  have hl := lv_entry ([.ref (A 0), .int tb]) (n := 6) (Nat.le_of_ble_eq_true rfl)
  rw [lg_entry_eq]
  generalize (lg_sl ([.ref (A 0), .int tb]) ++ List.replicate (6 - (lg_sl ([.ref (A 0), .int tb])).length) Slot.unset).toArray = ls at hl ⊢
  have hl : lv_has ls 6 [(0, .ref (A 0)), (1, .int tb)] := hl
  refine hm_gen (rm := rm_X4_shrink) rfl (fun Qf hQf => ?_)
  have hv := big220 hv1
  have hu := big220 hu1
  have hv3 := big100 hv1
  have hu3 := big100 hu1
  obtain ⟨xf, hxf⟩ : ∃ xf : Nat → Int, xf = fun i => if tb = 0 then (dg v i : Int) - (dg u i : Int) else (dg u i : Int) - (dg v i : Int) := ⟨_, rfl⟩
  have hxi : ∀ i, xf i = if tb = 0 then (dg v i : Int) - (dg u i : Int) else (dg u i : Int) - (dg v i : Int) := fun i => by rw [hxf]
  have hbd := c16_b0 (x := xf) (fun i => by have := dg_lt v i; have := dg_lt u i; rw [hxi]; split <;> omega)
  refine lv_iconst (v := 0) hx hb dX4_shrink_0 (by decide) ?_
  refine lv_istore_n (lv' := [(2, .int 0), (0, .ref (A 0)), (1, .int tb)]) hx hb dX4_shrink_1 rfl hl (by decide) rfl (fun ls hl => ?_)
  have body : ∀ (n : Nat), (sg v ≤ n) → (sg u ≤ n) → (n ≤ 100) → ∀ (ls : Array Slot) (H : Heap) (locs : List Loc), lv_has ls 6 [(2, .int 0), (0, .ref (A 0)), (1, .int tb)] → hm_V E.1 vwCl (hm_A M sz) s.heap (M) H locs → W p l e rm_X4_shrink s m [.ref (A 0), .int tb].toArray below meth c H locs 0 0 Qf (F0 m 24 ls [.int (nI n)]) := by
    intro n hn1 hn2 hn3 ls H locs hl hV
    have hva := (sg_le hv).mp hn1
    have hua := (sg_le hu).mp hn2
    have hd0 : d0 < 65536 ^ n := by
      rcases htb with h9 | h9 <;> omega
    have hS : ch_s 65536 xf n = (d0 : Int) := by
      rw [hxf]
      rcases htb with ⟨h9, h8, h7⟩ | ⟨h9, h8, h7⟩
      · rw [h7, ← s_sub hva hua h8]; exact ch_s_congr (fun i _ => if_pos h9)
      · rw [h7, ← s_sub hua hva h8]; exact ch_s_congr (fun i _ => if_neg (by rw [h9]; decide))
    have hV : hm_V E.1 vwCl (hm_A M sz) s.heap (hm_up M (A 5) (hm_I E 220 (fun j => nI (if j < 0 then ch_e 65536 xf j else dg v j)))) H locs := by rw [hm_up_id (((md_w hk)).trans (congrArg (fun f9 => some (hm_I E 220 f9)) (nu_up0 (ch_e 65536 xf) (dg v))))]; exact hV
    refine lv_istore_n (lv' := [(3, .int (nI n)), (2, .int 0), (0, .ref (A 0)), (1, .int tb)]) hx hb dX4_shrink_24 rfl hl (by decide) rfl (fun ls hl => ?_)
    refine lv_iconst (v := 0) hx hb dX4_shrink_25 (by decide) ?_
    refine lv_istore (lv' := [(4, .int 0), (3, .int (nI n)), (2, .int 0), (0, .ref (A 0)), (1, .int tb)]) hx hb dX4_shrink_26 hl (by decide) rfl (fun ls hl => ?_)
    rw [show 0 = iZ (-(ch_c 65536 xf 0)) from rfl] at hl
    have hl : lv_has ls 6 [(4, .int 0), (3, .int (nI n)), (2, .int (iZ (-(ch_c 65536 xf 0)))), (0, .ref (A 0)), (1, .int tb)] := hl
    have loop : ∀ (fu : Nat) (i : Nat), (i ≤ n) → n - i < fu → ∀ (ls : Array Slot) (H : Heap) (locs : List Loc), lv_has ls 6 [(0, .ref (A 0)), (1, .int tb), (2, .int (iZ (-(ch_c 65536 xf i)))), (3, .int (nI n)), (4, .int (nI i))] → hm_V E.1 vwCl (hm_A M sz) s.heap (hm_up M (A 5) (hm_I E 220 (fun j => nI (if j < i then ch_e 65536 xf j else dg v j)))) H locs → W p l e rm_X4_shrink s m [.ref (A 0), .int tb].toArray below meth c H locs 0 0 Qf (F0 m 28 ls []) := by
      intro fu
      induction fu with
      | zero => intro i hi hfu; exact absurd hfu (Nat.not_lt_zero _)
      | succ fu ih_loop =>
        intro i hi hfu ls H locs hl hV
        refine lv_iload hx hb dX4_shrink_28 (lv_at hl 4 rfl) ?_
        refine lv_iload_n hx hb dX4_shrink_30 rfl (lv_at hl 3 rfl) ?_
        refine lv_icmp_ge (tgt := 104) hx hb dX4_shrink_31 (by decide) (fun c31 => ?_) (fun c31 => ?_)
        · have hi2 : i = n := by
            rcases Nat.lt_or_ge i n with q | q
            · exact absurd c31 (nI_ge (a := i) (b := n) q (by omega))
            · omega
          rw [hi2, c16_all hS hd0 hva] at hV
          refine lv_aload_n hx hb dX4_shrink_104 rfl (lv_at hl 0 rfl) ?_
          refine lv_aload_n hx hb dX4_shrink_105 rfl (lv_at hl 0 rfl) ?_
          refine hm_get (ci := 6) (v := .ref (A 5)) (C := RX4) (T := TX4) (N := 16) hx hb hws kin_X4 hown hK.1 hV ((hm_up_ne _ _ (md_ap hk (i := 0) (j := 5) (by decide) (by decide) (by decide))).trans (md_x hk)) rfl 6 (by decide) fl24 (fun _ h9 => h9) rfl dX4_shrink_106 ?_
          refine lv_iload_n hx hb dX4_shrink_109 rfl (lv_at hl 3 rfl) ?_
          refine hm_calli (va_runS (As := [.ref (A 5), .int (nI n)]) (rest := [.ref (A 0)]) ⟨hx, hb, hml, hown, hts⟩ (c_X4_sizeOf l E (d := dg d0) (n := 220) (m0 := n) (hm_up_self _ _ _) (by omega) (by decide) (fun j _ => by have := dg_lt d0 j; omega) H.size) (va_cwS 2 hts (hm_gS kw_546 kw_547 kw_41 kw_548) rfl rfl rfl (by decide +kernel) ⟨Nat.le_of_ble_eq_true rfl, Nat.le_of_ble_eq_true rfl⟩) (hm_preS hK hV) rfl rfl hl.1 rfl (lv_room (Nat.le_of_ble_eq_true rfl)) dX4_shrink_110 ⟨Nat.le_of_ble_eq_true rfl, Nat.le_of_ble_eq_true rfl⟩) hV hA (fun r110 M1 H locs hp hV => ?_)
          obtain ⟨hr110, hM1⟩ := hp
          rw [hM1] at hV
          rw [sg_k (hd0) (by omega)] at hr110
          subst hr110
          refine hm_put (ci := 6) (v := .int (nI (sg d0))) (ty := .int) (C := RX4) (T := TX4) (N := 16) hx hb hws kin_X4 tyX4 tyX4_ok nmX4 hown hK.1 hV ((hm_up_ne _ _ (md_ap hk (i := 0) (j := 5) (by decide) (by decide) (by decide))).trans (md_x hk)) rfl 7 (by decide) fl64 (fun _ h9 => h9) rfl (by decide +kernel) rfl rfl (Nat.le_of_ble_eq_true rfl) dX4_shrink_113 (fun H locs hV => ?_)
          have hV : hm_V E.1 vwCl (hm_A M sz) s.heap (hm_up (hm_up M (A 5) (hm_I E 220 (fun j => nI (dg d0 j)))) (A 0) (.inr (6, [.int th, .int (nI cnt), .ref (A 1), .ref (A 2), .ref (A 3), .ref (A 4), .ref (A 5), .int (nI (sg d0)), .ref (A 6), .int (nI (sg u)), .ref (A 7), .ref (A 8), .ref (A 9), .ref (A 10), .ref (A 11), .ref (A 12)]))) H locs := hV
          rw [hQf]
          exact W.vret hx hb hr (fun t ht hW => ⟨⟨(hm_up (hm_up M (A 5) (hm_I E 220 (fun j => nI (dg d0 j)))) (A 0) (.inr (6, [.int th, .int (nI cnt), .ref (A 1), .ref (A 2), .ref (A 3), .ref (A 4), .ref (A 5), .int (nI (sg d0)), .ref (A 6), .int (nI (sg u)), .ref (A 7), .ref (A 8), .ref (A 9), .ref (A 10), .ref (A 11), .ref (A 12)]))), rfl, md_ux (md_uw hk _) th (sg d0) (sg u), (hm_end hV ht).1⟩, (hm_end hV ht).2⟩) hV.2.2.2.2 dX4_shrink_116
        · have hi2 : i < n := by
            rcases Nat.lt_or_ge i n with q | q
            · exact q
            · exact absurd (nI_le (a := n) (b := i) q (by omega)) c31
          have h1 := dg_lt v i
          have h2 := dg_lt u i
          have h3 := hbd i
          have h4 := hxi i
          have h5 := hbd (i + 1)
          have h6 : ch_c 65536 xf (i + 1) = (xf i + ch_c 65536 xf i) / 65536 := rfl
          have h7 : -65536 ≤ xf i + ch_c 65536 xf i ∧ xf i + ch_c 65536 xf i ≤ 65535 := by
            rw [h4]; split <;> omega
          have join : ∀ (ls : Array Slot) (H : Heap) (locs : List Loc), lv_has ls 6 [(0, .ref (A 0)), (1, .int tb), (2, .int (iZ (-(ch_c 65536 xf i)))), (3, .int (nI n)), (4, .int (nI i))] → hm_V E.1 vwCl (hm_A M sz) s.heap (hm_up M (A 5) (hm_I E 220 (fun j => nI (if j < i then ch_e 65536 xf j else dg v j)))) H locs → W p l e rm_X4_shrink s m [.ref (A 0), .int tb].toArray below meth c H locs 0 0 Qf (F0 m 71 ls [.int (iZ (xf i))]) := by
            intro   ls H locs hl hV
            have next : ∀ (y : Int32), (y = iZ (-(ch_c 65536 xf (i + 1)))) → ∀ (ls : Array Slot) (H : Heap) (locs : List Loc), lv_has ls 6 [(0, .ref (A 0)), (1, .int tb), (3, .int (nI n)), (4, .int (nI i))] → hm_V E.1 vwCl (hm_A M sz) s.heap (hm_up M (A 5) (hm_I E 220 (fun j => nI (if j < (i + 1) then ch_e 65536 xf j else dg v j)))) H locs → W p l e rm_X4_shrink s m [.ref (A 0), .int tb].toArray below meth c H locs 0 0 Qf (F0 m 97 ls [.int y]) := by
              intro y hy ls H locs hl hV
              subst hy
              refine lv_istore_n (lv' := [(2, .int (iZ (-(ch_c 65536 xf (i + 1))))), (0, .ref (A 0)), (1, .int tb), (3, .int (nI n)), (4, .int (nI i))]) hx hb dX4_shrink_97 rfl hl (by decide) rfl (fun ls hl => ?_)
              refine lv_iinc (v := (nI (i + 1))) (lv' := [(4, .int (nI (i + 1))), (2, .int (iZ (-(ch_c 65536 xf (i + 1))))), (0, .ref (A 0)), (1, .int tb), (3, .int (nI n))]) hx hb dX4_shrink_98 hl (k := 4) rfl (nI_1 i) (by decide) rfl (fun ls hl => ?_)
              refine lv_goto (tgt := 28) hx hb dX4_shrink_101 (by decide) ?_
              exact ih_loop (i + 1) (by omega) (by omega) ls H locs (lv_sub hl [2, 3, 1, 4, 0] rfl) hV
            refine lv_iload_n hx hb dX4_shrink_71 rfl (lv_at hl 2 rfl) ?_
            refine lv_isub hx hb dX4_shrink_72 ?_
            refine hm_topi (show ((iZ (xf i)) - (iZ (-(ch_c 65536 xf i)))) = iZ (xf i + ch_c 65536 xf i) from (iZ_sub _ _).trans (by congr 1; omega)) ?_
            refine lv_istore (lv' := [(5, .int (iZ (xf i + ch_c 65536 xf i))), (0, .ref (A 0)), (1, .int tb), (2, .int (iZ (-(ch_c 65536 xf i)))), (3, .int (nI n)), (4, .int (nI i))]) hx hb dX4_shrink_73 hl (by decide) rfl (fun ls hl => ?_)
            refine lv_aload_n hx hb dX4_shrink_75 rfl (lv_at hl 1 rfl) ?_
            refine hm_get (ci := 6) (v := .ref (A 5)) (C := RX4) (T := TX4) (N := 16) hx hb hws kin_X4 hown hK.1 hV ((hm_up_ne _ _ (md_ap hk (i := 0) (j := 5) (by decide) (by decide) (by decide))).trans (md_x hk)) rfl 6 (by decide) fl24 (fun _ h9 => h9) rfl dX4_shrink_76 ?_
            refine lv_iload hx hb dX4_shrink_79 (lv_at hl 5 rfl) ?_
            refine lv_iload hx hb dX4_shrink_81 (lv_at hl 0 rfl) ?_
            refine lv_ldc (v := 65535) hx hb hown ld80 dX4_shrink_83 ?_
            refine lv_iand hx hb dX4_shrink_85 ?_
            refine hm_topi (show ((iZ (xf i + ch_c 65536 xf i)) &&& 65535) = nI (ch_e 65536 xf i) from iZ_m16 _) ?_
            refine hm_iastN hx hb hK.1 hV 0 (hm_up_self _ _ _) rfl (k := i) (by omega) (by omega) dX4_shrink_86 (fun H locs hV => ?_)
            rw [show (upd (fun j => nI (if j < i then ch_e 65536 xf j else dg v j)) i (nI (ch_e 65536 xf i))) = (fun j => nI (if j < (i + 1) then ch_e 65536 xf j else dg v j)) from nu_up (ch_e 65536 xf) (dg v) i] at hV
            rw [hm_u0] at hV
            have hV : hm_V E.1 vwCl (hm_A M sz) s.heap (hm_up M (A 5) (hm_I E 220 (fun j => nI (if j < (i + 1) then ch_e 65536 xf j else dg v j)))) H locs := hV
            refine lv_iload hx hb dX4_shrink_87 (lv_at hl 0 rfl) ?_
            refine lv_if_ge (tgt := 96) hx hb dX4_shrink_89 (by decide) (fun c89 => ?_) (fun c89 => ?_)
            · have h8 : 0 ≤ xf i + ch_c 65536 xf i := by
                have := Int32.le_iff_toInt_le.mp c89
                rw [iZ_toInt (by omega) (by omega)] at this
                simpa using this
              refine lv_iconst (v := 0) hx hb dX4_shrink_96 (by decide) ?_
              exact next 0 (by rw [show ch_c 65536 xf (i + 1) = 0 by omega]; rfl) ls H locs (lv_sub hl [1, 2, 4, 5] rfl) hV
            · have h8 : xf i + ch_c 65536 xf i < 0 := by
                rcases Int.lt_or_le (xf i + ch_c 65536 xf i) 0 with q | q
                · exact q
                · exact absurd (Int32.le_iff_toInt_le.mpr (by rw [iZ_toInt (by omega) (by omega)]; simpa using q)) c89
              refine lv_iconst (v := 1) hx hb dX4_shrink_92 (by decide) ?_
              refine lv_goto (tgt := 97) hx hb dX4_shrink_93 (by decide) ?_
              exact next 1 (by rw [show ch_c 65536 xf (i + 1) = -1 by omega]; rfl) ls H locs (lv_sub hl [1, 2, 4, 5] rfl) hV
          refine lv_iload_n hx hb dX4_shrink_34 rfl (lv_at hl 1 rfl) ?_
          refine lv_if_eq (tgt := 56) hx hb dX4_shrink_35 (by decide) (fun c35 => ?_) (fun c35 => ?_)
          · refine lv_aload_n hx hb dX4_shrink_56 rfl (lv_at hl 0 rfl) ?_
            refine hm_get (ci := 6) (v := .ref (A 5)) (C := RX4) (T := TX4) (N := 16) hx hb hws kin_X4 hown hK.1 hV ((hm_up_ne _ _ (md_ap hk (i := 0) (j := 5) (by decide) (by decide) (by decide))).trans (md_x hk)) rfl 6 (by decide) fl24 (fun _ h9 => h9) rfl dX4_shrink_57 ?_
            refine lv_iload hx hb dX4_shrink_60 (lv_at hl 4 rfl) ?_
            refine hm_ialdN hx hb hK.1 hV 0 (hm_up_self _ _ _) rfl (k := i) (by omega) (by omega) dX4_shrink_62 ?_
            refine lv_aload_n hx hb dX4_shrink_63 rfl (lv_at hl 0 rfl) ?_
            refine hm_get (ci := 6) (v := .ref (A 6)) (C := RX4) (T := TX4) (N := 16) hx hb hws kin_X4 hown hK.1 hV ((hm_up_ne _ _ (md_ap hk (i := 0) (j := 5) (by decide) (by decide) (by decide))).trans (md_x hk)) rfl 8 (by decide) fl27 (fun _ h9 => h9) rfl dX4_shrink_64 ?_
            refine lv_iload hx hb dX4_shrink_67 (lv_at hl 4 rfl) ?_
            refine hm_ialdN hx hb hK.1 hV 0 ((hm_up_ne _ _ (md_ap hk (i := 6) (j := 5) (by decide) (by decide) (by decide))).trans (md_o hk)) rfl (k := i) (by omega) (by omega) dX4_shrink_69 ?_
            refine lv_isub hx hb dX4_shrink_70 ?_
            refine hm_topi (show ((nI (if i < i then ch_e 65536 xf i else dg v i)) - (nI (dg u i))) = iZ (xf i) from by rw [if_neg (Nat.lt_irrefl i), iZ_nI, iZ_nI, iZ_sub, hxi, if_pos c35]) ?_
            exact join  ls H locs (lv_sub hl [0, 1, 2, 3, 4] rfl) hV
          · refine lv_aload_n hx hb dX4_shrink_38 rfl (lv_at hl 0 rfl) ?_
            refine hm_get (ci := 6) (v := .ref (A 6)) (C := RX4) (T := TX4) (N := 16) hx hb hws kin_X4 hown hK.1 hV ((hm_up_ne _ _ (md_ap hk (i := 0) (j := 5) (by decide) (by decide) (by decide))).trans (md_x hk)) rfl 8 (by decide) fl27 (fun _ h9 => h9) rfl dX4_shrink_39 ?_
            refine lv_iload hx hb dX4_shrink_42 (lv_at hl 4 rfl) ?_
            refine hm_ialdN hx hb hK.1 hV 0 ((hm_up_ne _ _ (md_ap hk (i := 6) (j := 5) (by decide) (by decide) (by decide))).trans (md_o hk)) rfl (k := i) (by omega) (by omega) dX4_shrink_44 ?_
            refine lv_aload_n hx hb dX4_shrink_45 rfl (lv_at hl 0 rfl) ?_
            refine hm_get (ci := 6) (v := .ref (A 5)) (C := RX4) (T := TX4) (N := 16) hx hb hws kin_X4 hown hK.1 hV ((hm_up_ne _ _ (md_ap hk (i := 0) (j := 5) (by decide) (by decide) (by decide))).trans (md_x hk)) rfl 6 (by decide) fl24 (fun _ h9 => h9) rfl dX4_shrink_46 ?_
            refine lv_iload hx hb dX4_shrink_49 (lv_at hl 4 rfl) ?_
            refine hm_ialdN hx hb hK.1 hV 0 (hm_up_self _ _ _) rfl (k := i) (by omega) (by omega) dX4_shrink_51 ?_
            refine lv_isub hx hb dX4_shrink_52 ?_
            refine lv_goto (tgt := 71) hx hb dX4_shrink_53 (by decide) ?_
            refine hm_topi (show ((nI (dg u i)) - (nI (if i < i then ch_e 65536 xf i else dg v i))) = iZ (xf i) from by rw [if_neg (Nat.lt_irrefl i), iZ_nI, iZ_nI, iZ_sub, hxi, if_neg c35]) ?_
            exact join  ls H locs (lv_sub hl [0, 1, 2, 3, 4] rfl) hV
    exact loop (n + 1) 0 (Nat.zero_le _) (by omega) ls H locs (lv_sub hl [3, 4, 2, 1, 0] rfl) hV
  refine lv_aload_n hx hb dX4_shrink_2 rfl (lv_at hl 1 rfl) ?_
  refine hm_get (ci := 6) (v := .int (nI (sg v))) (C := RX4) (T := TX4) (N := 16) hx hb hws kin_X4 hown hK.1 hV (md_x hk) rfl 7 (by decide) fl64 (fun _ h9 => h9) rfl dX4_shrink_3 ?_
  refine lv_aload_n hx hb dX4_shrink_6 rfl (lv_at hl 1 rfl) ?_
  refine hm_get (ci := 6) (v := .int (nI (sg u))) (C := RX4) (T := TX4) (N := 16) hx hb hws kin_X4 hown hK.1 hV (md_x hk) rfl 9 (by decide) fl67 (fun _ h9 => h9) rfl dX4_shrink_7 ?_
  refine lv_icmp_le (tgt := 20) hx hb dX4_shrink_10 (by decide) (fun c10 => ?_) (fun c10 => ?_)
  · have h1 : sg v ≤ sg u := (nI_leI (by omega) (by omega)).mp c10
    refine lv_aload_n hx hb dX4_shrink_20 rfl (lv_at hl 1 rfl) ?_
    refine hm_get (ci := 6) (v := .int (nI (sg u))) (C := RX4) (T := TX4) (N := 16) hx hb hws kin_X4 hown hK.1 hV (md_x hk) rfl 9 (by decide) fl67 (fun _ h9 => h9) rfl dX4_shrink_21 ?_
    exact body (sg u) h1 (Nat.le_refl _) hu3 ls s.heap [] (lv_sub hl [0, 1, 2] rfl) hV
  · have h1 : sg u ≤ sg v := by
      rcases Nat.lt_or_ge (sg v) (sg u) with q | q
      · exact absurd (nI_le (Nat.le_of_lt q) (by omega)) c10
      · exact q
    refine lv_aload_n hx hb dX4_shrink_13 rfl (lv_at hl 1 rfl) ?_
    refine hm_get (ci := 6) (v := .int (nI (sg v))) (C := RX4) (T := TX4) (N := 16) hx hb hws kin_X4 hown hK.1 hV (md_x hk) rfl 7 (by decide) fl64 (fun _ h9 => h9) rfl dX4_shrink_14 ?_
    refine lv_goto (tgt := 24) hx hb dX4_shrink_17 (by decide) ?_
    exact body (sg v) (Nat.le_refl _) h1 hv3 ls s.heap [] (lv_sub hl [0, 1, 2] rfl) hV

abbrev wd_X4_multiply : List Cond := .code yX4_multiply cX4_multiply 6 none :: hm_ws
abbrev rm_X4_multiply : Room := { frames := 1, cells := 0, slots := 0, locals := 22 }

set_option maxHeartbeats 4000000 in
set_option maxRecDepth 100000 in
/-- multiply() -/
theorem c_X4_multiply (l : Launch) (E : hm_E) {M : hm_M} {A : Nat → Nat} {th : Int32} {cnt : Nat} {nums : Nat → Int} {t : Nat → Nat → Int64} {v u : Nat} (hk : md E M A th cnt (sg v) (sg u) nums t (fun j => nI (dg v j)) (fun j => nI (dg u j))) (hv1 : v < bigN) (hu1 : u < bigN)  : hm_Cv l E yX4_multiply wd_X4_multiply rm_X4_multiply [.ref (A 0)] M (fun M1 => md E M1 A th cnt (sg (v * u)) (sg u) nums t (fun j => nI (dg (v * u) j)) (fun j => nI (dg u j))) := by
  intro sz
  refine Met.ofW (cc := cX4_multiply) (maxL := 6) (ret := none) (by decide) rfl ?_
  intro p e s m args below meth c s₁ B hml hv
  obtain ⟨rfl, hAe, hA, hK, hV⟩ := hm_start hv
  have hx := B.exec
  have hb := B.bytes
  have hr := B.returns
  have hts := atoms_spec (ws := wd_X4_multiply) B.pre
  have hws : ∀ w ∈ hm_ws, w.before _ s = true := fun w h => hts w (List.mem_cons_of_mem _ h)
  have hown : s.vm.findClass RX4 = some m.cls := findClass_of_methodNamed B.named
  have hlocks := B.notSynchronized
  have fl30 := hws _ kw_489
  have fl64 := hws _ kw_486
  have fl67 := hws _ kw_488
  have fl24 := hws _ kw_485
  have fl27 := hws _ kw_487
  have ld70 := hws _ kw_545
  have hl := lv_entry ([.ref (A 0)]) (n := 6) (Nat.le_of_ble_eq_true rfl)
  rw [lg_entry_eq]
  generalize (lg_sl ([.ref (A 0)]) ++ List.replicate (6 - (lg_sl ([.ref (A 0)])).length) Slot.unset).toArray = ls at hl ⊢
  have hl : lv_has ls 6 [(0, .ref (A 0))] := hl
  refine hm_gen (rm := rm_X4_multiply) rfl (fun Qf hQf => ?_)
  have hv := big220 hv1
  have hu := big220 hu1
  have hv3 := big100 hv1
  have hu3 := big100 hu1
  obtain ⟨f7, h7⟩ := md_r hk
  refine lv_aload_n hx hb dX4_multiply_0 rfl (lv_at hl 0 rfl) ?_
  refine lv_aload_n hx hb dX4_multiply_1 rfl (lv_at hl 0 rfl) ?_
  refine hm_get (ci := 6) (v := .ref (A 7)) (C := RX4) (T := TX4) (N := 16) hx hb hws kin_X4 hown hK.1 hV (md_x hk) rfl 10 (by decide) fl30 (fun _ h9 => h9) rfl dX4_multiply_2 ?_
  refine hm_callv (va_runV (As := [.ref (A 7)]) (rest := []) ⟨hx, hb, hml, hown, hts⟩ (c_X4_clear l E h7 s.heap.size) (cwV 1 hts (hm_gV kw_541 kw_543 kw_18 kw_41 kw_544) rfl rfl rfl (by decide +kernel) ⟨Nat.le_of_ble_eq_true rfl, Nat.le_of_ble_eq_true rfl⟩) (hm_preV hK hV (md_x hk) rfl) rfl rfl hl.1 rfl (lv_room (Nat.le_of_ble_eq_true rfl)) dX4_multiply_5 ⟨Nat.le_of_ble_eq_true rfl, Nat.le_of_ble_eq_true rfl⟩) hV hA (fun M1 H locs hp hV => ?_)
  subst hp
  have hV : hm_V E.1 vwCl (hm_A M sz) s.heap (hm_up M (A 7) (hm_I E 220 (fun j => nI (dg 0 j)))) H locs := hV
  have hV : hm_V E.1 vwCl (hm_A M sz) s.heap (hm_up (hm_up M (A 7) (hm_I E 220 (fun j => nI (dg 0 j)))) (A 7) (hm_I E 220 (fun j => nI (dg (v % 65536 ^ 0 * u) j)))) H locs := by rw [hm_up_id (((hm_up_self _ _ _)).trans (congrArg (fun f9 => some (hm_I E 220 f9)) (by rw [Nat.pow_zero, Nat.mod_one, Nat.zero_mul])))]; exact hV
  rw [hm_up_up] at hV
  refine lv_iconst (v := 0) hx hb dX4_multiply_8 (by decide) ?_
  refine lv_istore_n (lv' := [(1, .int 0), (0, .ref (A 0))]) hx hb dX4_multiply_9 rfl hl (by decide) rfl (fun ls hl => ?_)
  have outer : ∀ (fu : Nat) (i : Nat), (i ≤ sg v) → sg v - i < fu → ∀ (ls : Array Slot) (H : Heap) (locs : List Loc), lv_has ls 6 [(0, .ref (A 0)), (1, .int (nI i))] → hm_V E.1 vwCl (hm_A M sz) s.heap (hm_up M (A 7) (hm_I E 220 (fun j => nI (dg (v % 65536 ^ i * u) j)))) H locs → W p l e rm_X4_multiply s m [.ref (A 0)].toArray below meth c H locs 0 0 Qf (F0 m 10 ls []) := by
    intro fu
    induction fu with
    | zero => intro i hi hfu; exact absurd hfu (Nat.not_lt_zero _)
    | succ fu ih_outer =>
      intro i hi hfu ls H locs hl hV
      refine lv_iload_n hx hb dX4_multiply_10 rfl (lv_at hl 1 rfl) ?_
      refine lv_aload_n hx hb dX4_multiply_11 rfl (lv_at hl 0 rfl) ?_
      refine hm_get (ci := 6) (v := .int (nI (sg v))) (C := RX4) (T := TX4) (N := 16) hx hb hws kin_X4 hown hK.1 hV ((hm_up_ne _ _ (md_ap hk (i := 0) (j := 7) (by decide) (by decide) (by decide))).trans (md_x hk)) rfl 7 (by decide) fl64 (fun _ h9 => h9) rfl dX4_multiply_12 ?_
      refine lv_icmp_ge (tgt := 110) hx hb dX4_multiply_15 (by decide) (fun c15 => ?_) (fun c15 => ?_)
      · have hi2 : i = (sg v) := by
          rcases Nat.lt_or_ge i (sg v) with q | q
          · exact absurd c15 (nI_ge (a := i) (b := (sg v)) q (by omega))
          · omega
        rw [hi2, Nat.mod_eq_of_lt (sg_lt hv)] at hV
        have hvu : v * u < 65536 ^ 220 := Nat.lt_of_lt_of_le (mul_lt16 (show v < 65536 ^ 100 from hv1) (show u < 65536 ^ 100 from hu1)) (w16_le (by decide))
        have hV : hm_V E.1 vwCl (hm_A M sz) s.heap (hm_up (hm_up M (A 7) (hm_I E 220 (fun j => nI (dg (v * u) j)))) (A 5) (hm_I E 220 (fun j => nI (if j < 0 then dg (v * u) j else dg v j)))) H locs := by rw [hm_up_id ((((hm_up_ne _ _ (md_ap hk (i := 5) (j := 7) (by decide) (by decide) (by decide))).trans (md_w hk))).trans (congrArg (fun f9 => some (hm_I E 220 f9)) (nu_up0 (dg (v * u)) (dg v))))]; exact hV
        refine lv_iconst (v := 0) hx hb dX4_multiply_110 (by decide) ?_
        refine lv_istore_n (lv' := [(1, .int 0), (0, .ref (A 0))]) hx hb dX4_multiply_111 rfl hl (by decide) rfl (fun ls hl => ?_)
        have copy : ∀ (fu : Nat) (i : Nat), (i ≤ 220) → 220 - i < fu → ∀ (ls : Array Slot) (H : Heap) (locs : List Loc), lv_has ls 6 [(0, .ref (A 0)), (1, .int (nI i))] → hm_V E.1 vwCl (hm_A M sz) s.heap (hm_up (hm_up M (A 7) (hm_I E 220 (fun j => nI (dg (v * u) j)))) (A 5) (hm_I E 220 (fun j => nI (if j < i then dg (v * u) j else dg v j)))) H locs → W p l e rm_X4_multiply s m [.ref (A 0)].toArray below meth c H locs 0 0 Qf (F0 m 112 ls []) := by
          intro fu
          induction fu with
          | zero => intro i hi hfu; exact absurd hfu (Nat.not_lt_zero _)
          | succ fu ih_copy =>
            intro i hi hfu ls H locs hl hV
            refine lv_iload_n hx hb dX4_multiply_112 rfl (lv_at hl 1 rfl) ?_
            refine lv_sipush (v := 220) hx hb dX4_multiply_113 (by decide) ?_
            refine lv_icmp_ge (tgt := 137) hx hb dX4_multiply_116 (by decide) (fun c116 => ?_) (fun c116 => ?_)
            · have hi3 : i = 220 := by
                rcases Nat.lt_or_ge i 220 with q | q
                · exact absurd c116 (nI_ge (a := i) (b := 220) q (by omega))
                · omega
              have hV := hm_rpI (fun j => nI (dg (v * u) j)) hV (hm_up_self _ _ _) (fun j hj => by rw [if_pos (by omega)])
              rw [hm_u0] at hV
              have hV : hm_V E.1 vwCl (hm_A M sz) s.heap (hm_up (hm_up M (A 7) (hm_I E 220 (fun j => nI (dg (v * u) j)))) (A 5) (hm_I E 220 (fun j => nI (dg (v * u) j)))) H locs := hV
              refine lv_aload_n hx hb dX4_multiply_137 rfl (lv_at hl 0 rfl) ?_
              refine lv_aload_n hx hb dX4_multiply_138 rfl (lv_at hl 0 rfl) ?_
              refine hm_get (ci := 6) (v := .ref (A 5)) (C := RX4) (T := TX4) (N := 16) hx hb hws kin_X4 hown hK.1 hV ((hm_up_ne _ _ (md_ap hk (i := 0) (j := 5) (by decide) (by decide) (by decide))).trans ((hm_up_ne _ _ (md_ap hk (i := 0) (j := 7) (by decide) (by decide) (by decide))).trans (md_x hk))) rfl 6 (by decide) fl24 (fun _ h9 => h9) rfl dX4_multiply_139 ?_
              refine lv_sipush (v := 220) hx hb dX4_multiply_142 (by decide) ?_
              refine hm_calli (va_runS (As := [.ref (A 5), .int 220]) (rest := [.ref (A 0)]) ⟨hx, hb, hml, hown, hts⟩ (c_X4_sizeOf l E (d := dg (v * u)) (n := 220) (m0 := 220) (hm_up_self _ _ _) (by omega) (by decide) (fun j _ => by have := dg_lt (v * u) j; omega) H.size) (va_cwS 2 hts (hm_gS kw_546 kw_547 kw_41 kw_548) rfl rfl rfl (by decide +kernel) ⟨Nat.le_of_ble_eq_true rfl, Nat.le_of_ble_eq_true rfl⟩) (hm_preS hK hV) rfl rfl hl.1 rfl (lv_room (Nat.le_of_ble_eq_true rfl)) dX4_multiply_145 ⟨Nat.le_of_ble_eq_true rfl, Nat.le_of_ble_eq_true rfl⟩) hV hA (fun r145 M1 H locs hp hV => ?_)
              obtain ⟨hr145, hM1⟩ := hp
              rw [hM1] at hV
              rw [sg_k (hvu) (by omega)] at hr145
              subst hr145
              refine hm_put (ci := 6) (v := .int (nI (sg (v * u)))) (ty := .int) (C := RX4) (T := TX4) (N := 16) hx hb hws kin_X4 tyX4 tyX4_ok nmX4 hown hK.1 hV ((hm_up_ne _ _ (md_ap hk (i := 0) (j := 5) (by decide) (by decide) (by decide))).trans ((hm_up_ne _ _ (md_ap hk (i := 0) (j := 7) (by decide) (by decide) (by decide))).trans (md_x hk))) rfl 7 (by decide) fl64 (fun _ h9 => h9) rfl (by decide +kernel) rfl rfl (Nat.le_of_ble_eq_true rfl) dX4_multiply_148 (fun H locs hV => ?_)
              have hV : hm_V E.1 vwCl (hm_A M sz) s.heap (hm_up (hm_up (hm_up M (A 7) (hm_I E 220 (fun j => nI (dg (v * u) j)))) (A 5) (hm_I E 220 (fun j => nI (dg (v * u) j)))) (A 0) (.inr (6, [.int th, .int (nI cnt), .ref (A 1), .ref (A 2), .ref (A 3), .ref (A 4), .ref (A 5), .int (nI (sg (v * u))), .ref (A 6), .int (nI (sg u)), .ref (A 7), .ref (A 8), .ref (A 9), .ref (A 10), .ref (A 11), .ref (A 12)]))) H locs := hV
              rw [hQf]
              exact W.vret hx hb hr (fun t ht hW => ⟨⟨(hm_up (hm_up (hm_up M (A 7) (hm_I E 220 (fun j => nI (dg (v * u) j)))) (A 5) (hm_I E 220 (fun j => nI (dg (v * u) j)))) (A 0) (.inr (6, [.int th, .int (nI cnt), .ref (A 1), .ref (A 2), .ref (A 3), .ref (A 4), .ref (A 5), .int (nI (sg (v * u))), .ref (A 6), .int (nI (sg u)), .ref (A 7), .ref (A 8), .ref (A 9), .ref (A 10), .ref (A 11), .ref (A 12)]))), rfl, md_ux (md_uw (md_ur hk _) _) th (sg (v * u)) (sg u), (hm_end hV ht).1⟩, (hm_end hV ht).2⟩) hV.2.2.2.2 dX4_multiply_151
            · have hi3 : i < 220 := by
                rcases Nat.lt_or_ge i 220 with q | q
                · exact q
                · exact absurd (nI_le (a := 220) (b := i) q (by omega)) c116
              refine lv_aload_n hx hb dX4_multiply_119 rfl (lv_at hl 0 rfl) ?_
              refine hm_get (ci := 6) (v := .ref (A 5)) (C := RX4) (T := TX4) (N := 16) hx hb hws kin_X4 hown hK.1 hV ((hm_up_ne _ _ (md_ap hk (i := 0) (j := 5) (by decide) (by decide) (by decide))).trans ((hm_up_ne _ _ (md_ap hk (i := 0) (j := 7) (by decide) (by decide) (by decide))).trans (md_x hk))) rfl 6 (by decide) fl24 (fun _ h9 => h9) rfl dX4_multiply_120 ?_
              refine lv_iload_n hx hb dX4_multiply_123 rfl (lv_at hl 1 rfl) ?_
              refine lv_aload_n hx hb dX4_multiply_124 rfl (lv_at hl 0 rfl) ?_
              refine hm_get (ci := 6) (v := .ref (A 7)) (C := RX4) (T := TX4) (N := 16) hx hb hws kin_X4 hown hK.1 hV ((hm_up_ne _ _ (md_ap hk (i := 0) (j := 5) (by decide) (by decide) (by decide))).trans ((hm_up_ne _ _ (md_ap hk (i := 0) (j := 7) (by decide) (by decide) (by decide))).trans (md_x hk))) rfl 10 (by decide) fl30 (fun _ h9 => h9) rfl dX4_multiply_125 ?_
              refine lv_iload_n hx hb dX4_multiply_128 rfl (lv_at hl 1 rfl) ?_
              refine hm_ialdN hx hb hK.1 hV 0 ((hm_up_ne _ _ (md_ap hk (i := 7) (j := 5) (by decide) (by decide) (by decide))).trans (hm_up_self _ _ _)) rfl (k := i) (by omega) (by omega) dX4_multiply_129 ?_
              refine hm_iastN hx hb hK.1 hV 0 (hm_up_self _ _ _) rfl (k := i) (by omega) (by omega) dX4_multiply_130 (fun H locs hV => ?_)
              rw [show (upd (fun j => nI (if j < i then dg (v * u) j else dg v j)) i (nI (dg (v * u) i))) = (fun j => nI (if j < i + 1 then dg (v * u) j else dg v j)) from nu_up (dg (v * u)) (dg v) i] at hV
              rw [hm_u0] at hV
              have hV : hm_V E.1 vwCl (hm_A M sz) s.heap (hm_up (hm_up M (A 7) (hm_I E 220 (fun j => nI (dg (v * u) j)))) (A 5) (hm_I E 220 (fun j => nI (if j < i + 1 then dg (v * u) j else dg v j)))) H locs := hV
              refine lv_iinc (v := (nI (i + 1))) (lv' := [(1, .int (nI (i + 1))), (0, .ref (A 0))]) hx hb dX4_multiply_131 hl (k := 1) rfl (nI_1 i) (by decide) rfl (fun ls hl => ?_)
              refine lv_goto (tgt := 112) hx hb dX4_multiply_134 (by decide) ?_
              exact ih_copy (i + 1) (by omega) (by omega) ls H locs (lv_sub hl [1, 0] rfl) hV
        exact copy 221 0 (by omega) (by omega) ls H locs (lv_sub hl [1, 0] rfl) hV
      · have hi2 : i < (sg v) := by
          rcases Nat.lt_or_ge i (sg v) with q | q
          · exact q
          · exact absurd (nI_le (a := (sg v)) (b := i) q (by omega)) c15
        have hwi := dg_lt v i
        have hPi : v % 65536 ^ i * u < 65536 ^ 220 := Nat.lt_of_lt_of_le (mp_lt (show u < 65536 ^ 100 from hu1)) (w16_le (by omega))
        refine lv_iconst (v := 0) hx hb dX4_multiply_18 (by decide) ?_
        refine lv_istore_n (lv' := [(2, .int 0), (0, .ref (A 0)), (1, .int (nI i))]) hx hb dX4_multiply_19 rfl hl (by decide) rfl (fun ls hl => ?_)
        refine lv_iconst (v := 0) hx hb dX4_multiply_20 (by decide) ?_
        refine lv_istore_n (lv' := [(3, .int 0), (2, .int 0), (0, .ref (A 0)), (1, .int (nI i))]) hx hb dX4_multiply_21 rfl hl (by decide) rfl (fun ls hl => ?_)
        have inner : ∀ (fu : Nat) (d : Nat → Nat) (j : Nat) (cy : Nat), (j ≤ sg u + 1) → (cy < 65536) → (∀ a, a < 220 → d a < 65536) → (hid (nu_v 65536 d 220 + cy * 65536 ^ (i + j) = v % 65536 ^ i * u + dg v i * 65536 ^ i * (u % 65536 ^ j))) → sg u + 1 - j < fu → ∀ (ls : Array Slot) (H : Heap) (locs : List Loc), lv_has ls 6 [(0, .ref (A 0)), (1, .int (nI i)), (2, .int (nI cy)), (3, .int (nI j))] → hm_V E.1 vwCl (hm_A M sz) s.heap (hm_up M (A 7) (hm_I E 220 (fun a => nI (d a)))) H locs → W p l e rm_X4_multiply s m [.ref (A 0)].toArray below meth c H locs 0 0 Qf (F0 m 22 ls []) := by
          intro fu
          induction fu with
          | zero => intro d j cy hj hcy hd he hfu; exact absurd hfu (Nat.not_lt_zero _)
          | succ fu ih_inner =>
            intro d j cy hj hcy hd he hfu ls H locs hl hV
            have body : (j ≤ sg u) → ∀ (ls : Array Slot) (H : Heap) (locs : List Loc), lv_has ls 6 [(0, .ref (A 0)), (1, .int (nI i)), (2, .int (nI cy)), (3, .int (nI j))] → hm_V E.1 vwCl (hm_A M sz) s.heap (hm_up M (A 7) (hm_I E 220 (fun a => nI (d a)))) H locs → W p l e rm_X4_multiply s m [.ref (A 0)].toArray below meth c H locs 0 0 Qf (F0 m 34 ls []) := by
              intro  hjk ls H locs hl hV
              have hij : i + j < 220 := by omega
              have huj := dg_lt u j
              have hdj := hd (i + j) hij
              have hVV := mp_v hwi huj hdj hcy
              have join : ∀ (ls : Array Slot) (H : Heap) (locs : List Loc), lv_has ls 6 [(0, .ref (A 0)), (1, .int (nI i)), (2, .int (nI cy)), (3, .int (nI j))] → hm_V E.1 vwCl (hm_A M sz) s.heap (hm_up M (A 7) (hm_I E 220 (fun a => nI (d a)))) H locs → W p l e rm_X4_multiply s m [.ref (A 0)].toArray below meth c H locs 0 0 Qf (F0 m 59 ls [.int (nI (dg u j)), .long (lZ ((dg v i : Nat) : Int))]) := by
                intro   ls H locs hl hV
                refine lv_i2l hx hb dX4_multiply_59 rfl ?_
                refine hm_topl (show ((nI (dg u j)).toInt64) = lZ ((dg u j : Nat) : Int) from nI_lZ (by omega)) ?_
                refine lv_lmul hx hb dX4_multiply_60 ?_
                refine hm_topl (show ((lZ ((dg v i : Nat) : Int)) * (lZ ((dg u j : Nat) : Int))) = lZ ((dg v i * dg u j : Nat) : Int) from (lZ_mul _ _).trans (by rw [Int.natCast_mul])) ?_
                refine lv_aload_n hx hb dX4_multiply_61 rfl (lv_at hl 0 rfl) ?_
                refine hm_get (ci := 6) (v := .ref (A 7)) (C := RX4) (T := TX4) (N := 16) hx hb hws kin_X4 hown hK.1 hV ((hm_up_ne _ _ (md_ap hk (i := 0) (j := 7) (by decide) (by decide) (by decide))).trans (md_x hk)) rfl 10 (by decide) fl30 (fun _ h9 => h9) rfl dX4_multiply_62 ?_
                refine lv_iload_n hx hb dX4_multiply_65 rfl (lv_at hl 1 rfl) ?_
                refine lv_iload_n hx hb dX4_multiply_66 rfl (lv_at hl 3 rfl) ?_
                refine lv_iadd hx hb dX4_multiply_67 ?_
                refine hm_topi (show ((nI i) + (nI j)) = nI (i + j) from nI_add i j) ?_
                refine hm_ialdN hx hb hK.1 hV 0 (hm_up_self _ _ _) rfl (k := (i + j)) (by omega) (by omega) dX4_multiply_68 ?_
                refine lv_i2l hx hb dX4_multiply_69 rfl ?_
                refine hm_topl (show ((nI (d (i + j))).toInt64) = lZ ((d (i + j) : Nat) : Int) from nI_lZ (by omega)) ?_
                refine lv_ladd hx hb dX4_multiply_70 ?_
                refine hm_topl (show ((lZ ((dg v i * dg u j : Nat) : Int)) + (lZ ((d (i + j) : Nat) : Int))) = lZ ((dg v i * dg u j + d (i + j) : Nat) : Int) from (lZ_add _ _).trans (by rw [Int.natCast_add (dg v i * dg u j)])) ?_
                refine lv_iload_n hx hb dX4_multiply_71 rfl (lv_at hl 2 rfl) ?_
                refine lv_i2l hx hb dX4_multiply_72 rfl ?_
                refine hm_topl (show ((nI cy).toInt64) = lZ ((cy : Nat) : Int) from nI_lZ (by omega)) ?_
                refine lv_ladd hx hb dX4_multiply_73 ?_
                refine hm_topl (show ((lZ ((dg v i * dg u j + d (i + j) : Nat) : Int)) + (lZ ((cy : Nat) : Int))) = lZ ((dg v i * dg u j + d (i + j) + cy : Nat) : Int) from (lZ_add _ _).trans (by rw [Int.natCast_add (dg v i * dg u j + d (i + j))])) ?_
                refine lv_lstore (lv' := [(4, .long (lZ ((dg v i * dg u j + d (i + j) + cy : Nat) : Int))), (0, .ref (A 0)), (1, .int (nI i)), (2, .int (nI cy)), (3, .int (nI j))]) hx hb dX4_multiply_74 hl (by decide) rfl (fun ls hl => ?_)
                refine lv_aload_n hx hb dX4_multiply_76 rfl (lv_at hl 1 rfl) ?_
                refine hm_get (ci := 6) (v := .ref (A 7)) (C := RX4) (T := TX4) (N := 16) hx hb hws kin_X4 hown hK.1 hV ((hm_up_ne _ _ (md_ap hk (i := 0) (j := 7) (by decide) (by decide) (by decide))).trans (md_x hk)) rfl 10 (by decide) fl30 (fun _ h9 => h9) rfl dX4_multiply_77 ?_
                refine lv_iload_n hx hb dX4_multiply_80 rfl (lv_at hl 2 rfl) ?_
                refine lv_iload_n hx hb dX4_multiply_81 rfl (lv_at hl 4 rfl) ?_
                refine lv_iadd hx hb dX4_multiply_82 ?_
                refine hm_topi (show ((nI i) + (nI j)) = nI (i + j) from nI_add i j) ?_
                refine lv_lload hx hb dX4_multiply_83 (lv_at hl 0 rfl) ?_
                refine lv_ldc2 (v := 65535) hx hb hown ld70 dX4_multiply_85 ?_
                refine lv_land hx hb dX4_multiply_88 ?_
                refine hm_topl (show ((lZ ((dg v i * dg u j + d (i + j) + cy : Nat) : Int)) &&& 65535) = lZ (((dg v i * dg u j + d (i + j) + cy) % 65536 : Nat) : Int) from lN_m16 _) ?_
                refine lv_l2i hx hb dX4_multiply_89 rfl ?_
                refine hm_topi (show ((lZ (((dg v i * dg u j + d (i + j) + cy) % 65536 : Nat) : Int)).toInt32) = nI ((dg v i * dg u j + d (i + j) + cy) % 65536) from lZ_nI _) ?_
                refine hm_iastN hx hb hK.1 hV 0 (hm_up_self _ _ _) rfl (k := (i + j)) (by omega) (by omega) dX4_multiply_90 (fun H locs hV => ?_)
                rw [show (upd (fun a => nI (d a)) (i + j) (nI ((dg v i * dg u j + d (i + j) + cy) % 65536))) = (fun a => nI (if a = i + j then (dg v i * dg u j + d (i + j) + cy) % 65536 else d a)) from upd_nI d (i + j) ((dg v i * dg u j + d (i + j) + cy) % 65536)] at hV
                rw [hm_u0] at hV
                have hV : hm_V E.1 vwCl (hm_A M sz) s.heap (hm_up M (A 7) (hm_I E 220 (fun a => nI (if a = i + j then (dg v i * dg u j + d (i + j) + cy) % 65536 else d a)))) H locs := hV
                refine lv_lload hx hb dX4_multiply_91 (lv_at hl 0 rfl) ?_
                refine lv_bipush (v := 16) hx hb dX4_multiply_93 (by decide) ?_
                refine lv_lshr hx hb dX4_multiply_95 rfl ?_
                refine hm_topl (show ((lZ ((dg v i * dg u j + d (i + j) + cy : Nat) : Int)) >>> ((16 : Int32).toInt64 &&& 63)) = lZ (((dg v i * dg u j + d (i + j) + cy) / 65536 : Nat) : Int) from lN_s16 (by omega)) ?_
                refine lv_l2i hx hb dX4_multiply_96 rfl ?_
                refine hm_topi (show ((lZ (((dg v i * dg u j + d (i + j) + cy) / 65536 : Nat) : Int)).toInt32) = nI ((dg v i * dg u j + d (i + j) + cy) / 65536) from lZ_nI _) ?_
                refine lv_istore_n (lv' := [(2, .int (nI ((dg v i * dg u j + d (i + j) + cy) / 65536))), (4, .long (lZ ((dg v i * dg u j + d (i + j) + cy : Nat) : Int))), (0, .ref (A 0)), (1, .int (nI i)), (3, .int (nI j))]) hx hb dX4_multiply_97 rfl hl (by decide) rfl (fun ls hl => ?_)
                refine lv_iinc (v := (nI (j + 1))) (lv' := [(3, .int (nI (j + 1))), (2, .int (nI ((dg v i * dg u j + d (i + j) + cy) / 65536))), (4, .long (lZ ((dg v i * dg u j + d (i + j) + cy : Nat) : Int))), (0, .ref (A 0)), (1, .int (nI i))]) hx hb dX4_multiply_98 hl (k := 4) rfl (nI_1 j) (by decide) rfl (fun ls hl => ?_)
                refine lv_goto (tgt := 22) hx hb dX4_multiply_101 (by decide) ?_
                exact ih_inner (fun a => if a = i + j then (dg v i * dg u j + d (i + j) + cy) % 65536 else d a) (j + 1) ((dg v i * dg u j + d (i + j) + cy) / 65536) (by omega) (by omega) (fun a ha => by
                  show (if a = i + j then _ else _) < _
                  split
                  · exact Nat.mod_lt _ (by decide)
                  · exact hd a ha) (mp_step hij rfl he) (by omega) ls H locs (lv_sub hl [3, 4, 1, 0] rfl) hV
              refine lv_aload_n hx hb dX4_multiply_34 rfl (lv_at hl 0 rfl) ?_
              refine hm_get (ci := 6) (v := .ref (A 5)) (C := RX4) (T := TX4) (N := 16) hx hb hws kin_X4 hown hK.1 hV ((hm_up_ne _ _ (md_ap hk (i := 0) (j := 7) (by decide) (by decide) (by decide))).trans (md_x hk)) rfl 6 (by decide) fl24 (fun _ h9 => h9) rfl dX4_multiply_35 ?_
              refine lv_iload_n hx hb dX4_multiply_38 rfl (lv_at hl 1 rfl) ?_
              refine hm_ialdN hx hb hK.1 hV 0 ((hm_up_ne _ _ (md_ap hk (i := 5) (j := 7) (by decide) (by decide) (by decide))).trans (md_w hk)) rfl (k := i) (by omega) (by omega) dX4_multiply_39 ?_
              refine lv_i2l hx hb dX4_multiply_40 rfl ?_
              refine hm_topl (show ((nI (dg v i)).toInt64) = lZ ((dg v i : Nat) : Int) from nI_lZ (by omega)) ?_
              refine lv_iload_n hx hb dX4_multiply_41 rfl (lv_at hl 3 rfl) ?_
              refine lv_aload_n hx hb dX4_multiply_42 rfl (lv_at hl 0 rfl) ?_
              refine hm_get (ci := 6) (v := .int (nI (sg u))) (C := RX4) (T := TX4) (N := 16) hx hb hws kin_X4 hown hK.1 hV ((hm_up_ne _ _ (md_ap hk (i := 0) (j := 7) (by decide) (by decide) (by decide))).trans (md_x hk)) rfl 9 (by decide) fl67 (fun _ h9 => h9) rfl dX4_multiply_43 ?_
              refine lv_icmp_ge (tgt := 58) hx hb dX4_multiply_46 (by decide) (fun c46 => ?_) (fun c46 => ?_)
              · have h0 : dg u j = 0 := dg_sg hu ((nI_leI (by omega) (by omega)).mp c46)
                refine lv_iconst (v := 0) hx hb dX4_multiply_58 (by decide) ?_
                refine hm_topi (show 0 = nI (dg u j) from by rw [h0]; rfl) ?_
                exact join  ls H locs (lv_sub hl [0, 1, 2, 3] rfl) hV
              · refine lv_aload_n hx hb dX4_multiply_49 rfl (lv_at hl 0 rfl) ?_
                refine hm_get (ci := 6) (v := .ref (A 6)) (C := RX4) (T := TX4) (N := 16) hx hb hws kin_X4 hown hK.1 hV ((hm_up_ne _ _ (md_ap hk (i := 0) (j := 7) (by decide) (by decide) (by decide))).trans (md_x hk)) rfl 8 (by decide) fl27 (fun _ h9 => h9) rfl dX4_multiply_50 ?_
                refine lv_iload_n hx hb dX4_multiply_53 rfl (lv_at hl 3 rfl) ?_
                refine hm_ialdN hx hb hK.1 hV 0 ((hm_up_ne _ _ (md_ap hk (i := 6) (j := 7) (by decide) (by decide) (by decide))).trans (md_o hk)) rfl (k := j) (by omega) (by omega) dX4_multiply_54 ?_
                refine lv_goto (tgt := 59) hx hb dX4_multiply_55 (by decide) ?_
                exact join  ls H locs (lv_sub hl [0, 1, 2, 3] rfl) hV
            refine lv_iload_n hx hb dX4_multiply_22 rfl (lv_at hl 3 rfl) ?_
            refine lv_aload_n hx hb dX4_multiply_23 rfl (lv_at hl 0 rfl) ?_
            refine hm_get (ci := 6) (v := .int (nI (sg u))) (C := RX4) (T := TX4) (N := 16) hx hb hws kin_X4 hown hK.1 hV ((hm_up_ne _ _ (md_ap hk (i := 0) (j := 7) (by decide) (by decide) (by decide))).trans (md_x hk)) rfl 9 (by decide) fl67 (fun _ h9 => h9) rfl dX4_multiply_24 ?_
            refine lv_icmp_lt (tgt := 34) hx hb dX4_multiply_27 (by decide) (fun c27 => ?_) (fun c27 => ?_)
            · have hjk : j < sg u := (nI_ltI (by omega) (by omega)).mp c27
              exact body (by omega) ls H locs (lv_sub hl [0, 1, 2, 3] rfl) hV
            · have hjk : sg u ≤ j := by
                rcases Nat.lt_or_ge j (sg u) with q | q
                · exact absurd (nI_lt q (by omega)) c27
                · exact q
              refine lv_iload_n hx hb dX4_multiply_30 rfl (lv_at hl 2 rfl) ?_
              refine lv_if_le (tgt := 104) hx hb dX4_multiply_31 (by decide) (fun c31 => ?_) (fun c31 => ?_)
              · have hcy0 : cy = 0 := by
                  rcases Nat.eq_zero_or_pos cy with q | q
                  · exact q
                  · exact absurd c31 (nI_nle q (by omega))
                have hval : nu_v 65536 d 220 = v % 65536 ^ (i + 1) * u := by
                  have h9 : nu_v 65536 d 220 + cy * 65536 ^ (i + j) = v % 65536 ^ i * u + dg v i * 65536 ^ i * (u % 65536 ^ j) := he
                  rw [hcy0, Nat.zero_mul, Nat.add_zero, Nat.mod_eq_of_lt (Nat.lt_of_lt_of_le (sg_lt hu) (w16_le hjk))] at h9
                  rw [h9, mp_row]
                have hV := hm_rpI (fun j => nI (dg (v % 65536 ^ (i + 1) * u) j)) hV (hm_up_self _ _ _) (fun a ha => by rw [dg_of hd hval ha])
                rw [hm_u0] at hV
                have hV : hm_V E.1 vwCl (hm_A M sz) s.heap (hm_up M (A 7) (hm_I E 220 (fun j => nI (dg (v % 65536 ^ (i + 1) * u) j)))) H locs := hV
                refine lv_iinc (v := (nI (i + 1))) (lv' := [(1, .int (nI (i + 1))), (0, .ref (A 0)), (2, .int (nI cy)), (3, .int (nI j))]) hx hb dX4_multiply_104 hl (k := 1) rfl (nI_1 i) (by decide) rfl (fun ls hl => ?_)
                refine lv_goto (tgt := 10) hx hb dX4_multiply_107 (by decide) ?_
                exact ih_outer (i + 1) (by omega) (by omega) ls H locs (lv_sub hl [1, 0] rfl) hV
              · have hcy1 : cy ≠ 0 := fun q => c31 (by rw [q]; exact Int32.le_refl _)
                have hj2 : j ≤ sg u := by
                  rcases Nat.lt_or_ge (sg u) j with q | q
                  · exact absurd (mp_end he (by rw [← Nat.pow_add]; exact mp_lt (sg_lt hu)) (by rw [Nat.mul_comm (65536 ^ i), ← mp_row]; exact mp_lt (sg_lt hu)) q (sg_lt hu)) hcy1
                  · exact q
                exact body hj2 ls H locs (lv_sub hl [0, 1, 2, 3] rfl) hV
        have he0 : hid (nu_v 65536 (dg (v % 65536 ^ i * u)) 220 + 0 * 65536 ^ (i + 0) = v % 65536 ^ i * u + dg v i * 65536 ^ i * (u % 65536 ^ 0)) := by
          show _ = _
          rw [dg_w hPi, Nat.pow_zero, Nat.mod_one, Nat.zero_mul, Nat.mul_zero]
        exact inner (sg u + 2) (dg (v % 65536 ^ i * u)) 0 0 (by omega) (by omega) (fun a _ => dg_lt _ a) he0 (by omega) ls H locs (lv_sub hl [2, 3, 1, 0] rfl) hV
  exact outer (sg v + 1) 0 (Nat.zero_le _) (by omega) ls H locs (lv_sub hl [1, 0] rfl) hV
