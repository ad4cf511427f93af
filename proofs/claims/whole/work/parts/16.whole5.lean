abbrev wd_X2_setAmounts : List Cond := .code yX2_setAmounts cX2_setAmounts 9 none :: hm_ws
abbrev rm_X2_setAmounts : Room := { frames := 1, cells := 0, slots := 0, locals := 22 }

set_option maxHeartbeats 4000000 in
set_option maxRecDepth 100000 in
/-- setAmounts(a, b, factor, sign) -/
theorem c_X2_setAmounts (l : Launch) (E : hm_E) {M : hm_M} {w la n a ra na ka b rb nb kb : Nat} {k0 g0 ga gb sg : Int32} {d da db : Nat → Nat} {za zb : Int} {fc : Int} (hw : M w = some (hm_W la k0 g0)) (ha : M la = some (hm_I E n (fun j => nI (d j)))) (hd : ∀ j, j < n → d j < 33554432) (hwa : M a = some (hm_W ra (nI ka) ga)) (haa : M ra = some (hm_I E na (fun j => nI (da j)))) (hoa : wn_ok na da ka ga za) (hwb : M b = some (hm_W rb (nI kb) gb)) (hab : M rb = some (hm_I E nb (fun j => nI (db j)))) (hob : wn_ok nb db kb gb zb) (hkan : ka + 1 ≤ n) (hkbn : kb + 1 ≤ n) (hn : n < 1000) (hna : na < 1000) (hnb : nb < 1000) (hfc : fc = 1 ∨ (fc = -1 ∧ zb.natAbs ≤ za.natAbs)) : hm_Cv l E yX2_setAmounts wd_X2_setAmounts rm_X2_setAmounts [.ref w, .ref a, .ref b, .int (iZ fc), .int sg] M (wn_post E M w la n (if sg = 0 then (za.natAbs : Int) + fc * zb.natAbs else -((za.natAbs : Int) + fc * zb.natAbs))) := by
  intro sz
  refine Met.ofW (cc := cX2_setAmounts) (maxL := 9) (ret := none) (by decide) rfl ?_
  intro p e s m args below meth c s₁ B hml hv
  obtain ⟨rfl, hAe, hA, hK, hV⟩ := hm_start hv
  have hx := B.exec
  have hb := B.bytes
  have hr := B.returns
  have hts := atoms_spec (ws := wd_X2_setAmounts) B.pre
  have hws : ∀ w ∈ hm_ws, w.before _ s = true := fun w h => hts w (List.mem_cons_of_mem _ h)
  have hown : s.vm.findClass RX2 = some m.cls := findClass_of_methodNamed B.named
  have hlocks := B.notSynchronized
  have fl9 := hws _ kw_73
  have fl25 := hws _ kw_71
  have ld50 := hws _ kw_252
  have hl := lv_entry ([.ref w, .ref a, .ref b, .int (iZ fc), .int sg]) (n := 9) (Nat.le_of_ble_eq_true rfl)
  rw [lg_entry_eq]
  generalize (lg_sl ([.ref w, .ref a, .ref b, .int (iZ fc), .int sg]) ++ List.replicate (9 - (lg_sl ([.ref w, .ref a, .ref b, .int (iZ fc), .int sg])).length) Slot.unset).toArray = ls at hl ⊢
  have hl : lv_has ls 9 [(0, .ref w), (1, .ref a), (2, .ref b), (3, .int (iZ fc)), (4, .int sg)] := hl
  refine hm_gen (rm := rm_X2_setAmounts) rfl (fun Qf hQf => ?_)
  have h_w_la : hm_ap w la := hm_oa hw ha
  have h_a_la : hm_ap a la := hm_oa hwa ha
  have h_b_la : hm_ap b la := hm_oa hwb ha
  have hza := wn_lt hoa
  have hzb := wn_lt hob
  obtain ⟨hoa1, hoa2, hoa3, hoa4, hoa5⟩ := hoa
  obtain ⟨hob1, hob2, hob3, hob4, hob5⟩ := hob
  have hca : ∀ t, (if t < ka then da t else 0) < 33554432 := fun t => by
    split
    · exact hoa2 t (by omega)
    · omega
  have hcb : ∀ t, (if t < kb then db t else 0) < 33554432 := fun t => by
    split
    · exact hob2 t (by omega)
    · omega
  obtain ⟨X, hX⟩ : ∃ X : Nat → Int, X = fun t => (((if t < ka then da t else 0) : Nat) : Int) + fc * (((if t < kb then db t else 0) : Nat) : Int) := ⟨_, rfl⟩
  have hXi : ∀ t, X t = (((if t < ka then da t else 0) : Nat) : Int) + fc * (((if t < kb then db t else 0) : Nat) : Int) := fun t => by rw [hX]
  have hXb : ∀ i, 33554431 * (-1) ≤ X i ∧ X i ≤ 33554431 * 2 := fun i => by
    have h1 := hca i
    have h2 := hcb i
    rw [hXi]
    rcases hfc with h | ⟨h, -⟩ <;> rw [h] <;> omega
  have hcr := ch_bd (x := X) (l := -1) (m := 2) (by omega) (by omega) hXb
  obtain ⟨S, hS⟩ : ∃ S : Nat, (S : Int) = (za.natAbs : Int) + fc * zb.natAbs := ⟨((za.natAbs : Int) + fc * zb.natAbs).toNat, by rcases hfc with h | ⟨h, h2⟩ <;> rw [h] <;> omega⟩
  have hSle : S ≤ za.natAbs + zb.natAbs := by rcases hfc with h | ⟨h, h2⟩ <;> rw [h] at hS <;> omega
  have hSX : ch_s 33554432 X (max ka kb + 1) = (S : Int) := by
    rw [hX, ch_s_add, ch_nu25, ch_nu25, nu_ext _ _ (by omega), nu_ext _ _ (by omega), hoa4, hob4, hS]
  have hE := ch_fit hSX (Nat.lt_of_le_of_lt hSle (pow_max ka kb hza hzb))
  rw [← hS] at hQf
  refine lv_aload_n hx hb dX2_setAmounts_0 rfl (lv_at hl 1 rfl) ?_
  refine hm_get (ci := 4) (v := .int (nI ka)) (C := RX2) (T := TX2) (N := 3) hx hb hws kin_X2 hown hK.1 hV hwa rfl 1 (by decide) fl9 (fun _ h9 => h9) rfl dX2_setAmounts_1 ?_
  refine lv_aload_n hx hb dX2_setAmounts_4 rfl (lv_at hl 2 rfl) ?_
  refine hm_get (ci := 4) (v := .int (nI kb)) (C := RX2) (T := TX2) (N := 3) hx hb hws kin_X2 hown hK.1 hV hwb rfl 1 (by decide) fl9 (fun _ h9 => h9) rfl dX2_setAmounts_5 ?_
  refine va_mmax hx hb (by rw [hml]; exact hl.1.symm) hown (hws _ kw_68) (hws _ kw_69) (hws _ kw_39) (hws _ kw_70) (Nat.le_of_ble_eq_true rfl) (Nat.le_of_ble_eq_true rfl) (Nat.zero_le _) (Nat.zero_le _) dX2_setAmounts_8 ?_
  refine hm_topi (show (if nI ka < nI kb then nI kb else nI ka) = nI (max ka kb) from mx_nI (by omega) (by omega)) ?_
  refine lv_iconst (v := 1) hx hb dX2_setAmounts_11 (by decide) ?_
  refine lv_iadd hx hb dX2_setAmounts_12 ?_
  refine hm_topi (show ((nI (max ka kb)) + 1) = nI (max ka kb + 1) from nI_1 _) ?_
  refine lv_aload_n hx hb dX2_setAmounts_13 rfl (lv_at hl 0 rfl) ?_
  refine hm_get (ci := 4) (v := .ref la) (C := RX2) (T := TX2) (N := 3) hx hb hws kin_X2 hown hK.1 hV hw rfl 0 (by decide) fl25 (fun _ h9 => h9) rfl dX2_setAmounts_14 ?_
  refine hm_alen (v := nI n) hx hb hK.1 hV 0 ha rfl rfl dX2_setAmounts_17 ?_
  refine va_mmin hx hb (by rw [hml]; exact hl.1.symm) hown (hws _ kw_136) (hws _ kw_137) (hws _ kw_39) (hws _ kw_138) (Nat.le_of_ble_eq_true rfl) (Nat.le_of_ble_eq_true rfl) (Nat.zero_le _) (Nat.zero_le _) dX2_setAmounts_18 ?_
  refine hm_topi (show (if nI n < nI (max ka kb + 1) then nI n else nI (max ka kb + 1)) = nI (max ka kb + 1) from if_neg (by rw [Int32.not_lt]; exact nI_le (by omega) (by omega))) ?_
  refine lv_istore (lv' := [(5, .int (nI (max ka kb + 1))), (0, .ref w), (1, .ref a), (2, .ref b), (3, .int (iZ fc)), (4, .int sg)]) hx hb dX2_setAmounts_21 hl (by decide) rfl (fun ls hl => ?_)
  refine lv_iconst (v := 0) hx hb dX2_setAmounts_23 (by decide) ?_
  refine lv_istore (lv' := [(6, .int 0), (5, .int (nI (max ka kb + 1))), (0, .ref w), (1, .ref a), (2, .ref b), (3, .int (iZ fc)), (4, .int sg)]) hx hb dX2_setAmounts_24 hl (by decide) rfl (fun ls hl => ?_)
  refine lv_iconst (v := 0) hx hb dX2_setAmounts_26 (by decide) ?_
  refine lv_istore (lv' := [(7, .int 0), (6, .int 0), (5, .int (nI (max ka kb + 1))), (0, .ref w), (1, .ref a), (2, .ref b), (3, .int (iZ fc)), (4, .int sg)]) hx hb dX2_setAmounts_27 hl (by decide) rfl (fun ls hl => ?_)
  have hV : hm_V E.1 vwCl (hm_A M sz) s.heap (hm_up M la (hm_I E n (fun j => nI (if j < 0 then ch_e 33554432 X j else d j)))) s.heap [] := by rw [hm_up_id ((ha).trans (congrArg (fun f9 => some (hm_I E n f9)) (nu_up0 (ch_e 33554432 X) d)))]; exact hV
  have hl : lv_has ls 9 [(7, .int 0), (6, .int (iZ (ch_c 33554432 X 0))), (5, .int (nI (max ka kb + 1))), (0, .ref w), (1, .ref a), (2, .ref b), (3, .int (iZ fc)), (4, .int sg)] := hl
  have loop : ∀ (fu : Nat) (i : Nat), (i ≤ max ka kb + 1) → max ka kb + 1 - i < fu → ∀ (ls : Array Slot) (H : Heap) (locs : List Loc), lv_has ls 9 [(0, .ref w), (1, .ref a), (2, .ref b), (3, .int (iZ fc)), (4, .int sg), (5, .int (nI (max ka kb + 1))), (6, .int (iZ (ch_c 33554432 X i))), (7, .int (nI i))] → hm_V E.1 vwCl (hm_A M sz) s.heap (hm_up M la (hm_I E n (fun j => nI (if j < i then ch_e 33554432 X j else d j)))) H locs → W p l e rm_X2_setAmounts s m [.ref w, .ref a, .ref b, .int (iZ fc), .int sg].toArray below meth c H locs 0 0 Qf (F0 m 29 ls []) := by
    intro fu
    induction fu with
    | zero => intro i hi hfu; exact absurd hfu (Nat.not_lt_zero _)
    | succ fu ih_loop =>
      intro i hi hfu ls H locs hl hV
      refine lv_iload hx hb dX2_setAmounts_29 (lv_at hl 7 rfl) ?_
      refine lv_iload hx hb dX2_setAmounts_31 (lv_at hl 5 rfl) ?_
      refine lv_icmp_ge (tgt := 81) hx hb dX2_setAmounts_33 (by decide) (fun c33 => ?_) (fun c33 => ?_)
      · have hik : i = max ka kb + 1 := by
          rcases Nat.lt_or_ge i (max ka kb + 1) with q | q
          · exact absurd c33 (nI_ge q (by omega))
          · omega
        subst hik
        refine lv_aload_n hx hb dX2_setAmounts_81 rfl (lv_at hl 0 rfl) ?_
        refine lv_iload hx hb dX2_setAmounts_82 (lv_at hl 5 rfl) ?_
        refine lv_iload hx hb dX2_setAmounts_84 (lv_at hl 4 rfl) ?_
        refine hm_callv (va_runV (As := [.int (nI (max ka kb + 1)), .int sg]) (rest := []) ⟨hx, hb, hml, hown, hts⟩ (c_X2_finish l E (d := (fun j => if j < max ka kb + 1 then ch_e 33554432 X j else d j)) (t := (max ka kb + 1)) (sg := sg) ((hm_up_ne _ _ h_w_la).trans hw) (hm_up_self _ _ _) (by omega) (by omega) (fun j hj => by show (if j < max ka kb + 1 then _ else _) < _; rw [if_pos hj]; have := ch_e25 X j; omega) H.size) (cwV 2 hts (hm_gV kw_140 kw_142 kw_1 kw_38 kw_143) rfl rfl rfl (by decide +kernel) ⟨Nat.le_of_ble_eq_true rfl, Nat.le_of_ble_eq_true rfl⟩) (hm_preV hK hV ((hm_up_ne _ _ h_w_la).trans hw) rfl) rfl rfl hl.1 rfl (lv_room (Nat.le_of_ble_eq_true rfl)) dX2_setAmounts_86 ⟨Nat.le_of_ble_eq_true rfl, Nat.le_of_ble_eq_true rfl⟩) hV hA (fun M1 H locs hp hV => ?_)
        subst hp
        have hV : hm_V E.1 vwCl (hm_A M sz) s.heap (hm_up (hm_up M la (hm_I E n (fun j => nI (if j < max ka kb + 1 then ch_e 33554432 X j else d j)))) w (.inr (4, [.ref la, .int (nI (nu_k (fun j => if j < max ka kb + 1 then ch_e 33554432 X j else d j) (max ka kb + 1))), .int (if sg = 0 then 0 else if nu_k (fun j => if j < max ka kb + 1 then ch_e 33554432 X j else d j) (max ka kb + 1) = 0 then 0 else 1)]))) H locs := hV
        have hfin := wn_fin (n := n) (top := max ka kb + 1) (d := (fun j => if j < max ka kb + 1 then ch_e 33554432 X j else d j)) (sg := sg) (by omega) (nu_ifd (fun j _ => ch_e25 X j) hd)
        rw [nu_if, hE] at hfin
        rw [hQf]
        exact W.vret hx hb hr (fun t ht hW => ⟨⟨_, rfl, ⟨_, _, _, rfl, hfin⟩, (hm_end hV ht).1⟩, (hm_end hV ht).2⟩) hV.2.2.2.2 dX2_setAmounts_89
      · have hik : i < max ka kb + 1 := by
          rcases Nat.lt_or_ge i (max ka kb + 1) with q | q
          · exact q
          · exact absurd (nI_le q (by omega)) c33
        have hc1 := hcr i
        have hx1 := hXb i
        obtain ⟨da1, hra, hra2⟩ := hm_alias (i := i) (e := ch_e 33554432 X) ha haa hd hoa2
        obtain ⟨db1, hrb, hrb2⟩ := hm_alias (i := i) (e := ch_e 33554432 X) ha hab hd hob2
        refine lv_aload_n hx hb dX2_setAmounts_36 rfl (lv_at hl 1 rfl) ?_
        refine lv_iload hx hb dX2_setAmounts_37 (lv_at hl 7 rfl) ?_
        refine hm_calli (va_runV (As := [.int (nI i)]) (rest := []) ⟨hx, hb, hml, hown, hts⟩ (c_X2_limbAt l E (k := ka) (i := i) (d := da1) ((hm_up_ne _ _ h_a_la).trans hwa) hra hoa1 (by omega) (by omega) H.size) (cwV 1 hts (hm_gV kw_165 kw_167 kw_3 kw_38 kw_168) rfl rfl rfl (by decide +kernel) ⟨Nat.le_of_ble_eq_true rfl, Nat.le_of_ble_eq_true rfl⟩) (hm_preV hK hV ((hm_up_ne _ _ h_a_la).trans hwa) rfl) rfl rfl hl.1 rfl (lv_room (Nat.le_of_ble_eq_true rfl)) dX2_setAmounts_39 ⟨Nat.le_of_ble_eq_true rfl, Nat.le_of_ble_eq_true rfl⟩) hV hA (fun r39 M1 H locs hp hV => ?_)
        obtain ⟨hr39, rfl⟩ := hp
        refine hm_topi (show r39 = iZ ((if i < ka then da i else 0 : Nat) : Int) from (by
            rw [hr39, iZ_nI]
            congr 2
            split
            · exact hra2 (by omega)
            · rfl)) ?_
        refine lv_iload_n hx hb dX2_setAmounts_42 rfl (lv_at hl 3 rfl) ?_
        refine lv_aload_n hx hb dX2_setAmounts_43 rfl (lv_at hl 2 rfl) ?_
        refine lv_iload hx hb dX2_setAmounts_44 (lv_at hl 7 rfl) ?_
        refine hm_calli (va_runV (As := [.int (nI i)]) (rest := [.int (iZ fc), .int (iZ ((if i < ka then da i else 0 : Nat) : Int))]) ⟨hx, hb, hml, hown, hts⟩ (c_X2_limbAt l E (k := kb) (i := i) (d := db1) ((hm_up_ne _ _ h_b_la).trans hwb) hrb hob1 (by omega) (by omega) H.size) (cwV 1 hts (hm_gV kw_165 kw_167 kw_3 kw_38 kw_168) rfl rfl rfl (by decide +kernel) ⟨Nat.le_of_ble_eq_true rfl, Nat.le_of_ble_eq_true rfl⟩) (hm_preV hK hV ((hm_up_ne _ _ h_b_la).trans hwb) rfl) rfl rfl hl.1 rfl (lv_room (Nat.le_of_ble_eq_true rfl)) dX2_setAmounts_46 ⟨Nat.le_of_ble_eq_true rfl, Nat.le_of_ble_eq_true rfl⟩) hV hA (fun r46 M1 H locs hp hV => ?_)
        obtain ⟨hr46, rfl⟩ := hp
        refine hm_topi (show r46 = iZ ((if i < kb then db i else 0 : Nat) : Int) from (by
            rw [hr46, iZ_nI]
            congr 2
            split
            · exact hrb2 (by omega)
            · rfl)) ?_
        refine lv_imul hx hb dX2_setAmounts_49 ?_
        refine hm_topi (show ((iZ fc) * (iZ ((if i < kb then db i else 0 : Nat) : Int))) = iZ (fc * ((if i < kb then db i else 0 : Nat) : Int)) from iZ_mul _ _) ?_
        refine lv_iadd hx hb dX2_setAmounts_50 ?_
        refine hm_topi (show ((iZ ((if i < ka then da i else 0 : Nat) : Int)) + (iZ (fc * ((if i < kb then db i else 0 : Nat) : Int)))) = iZ (X i) from (by rw [iZ_add, hXi])) ?_
        refine lv_iload hx hb dX2_setAmounts_51 (lv_at hl 6 rfl) ?_
        refine lv_iadd hx hb dX2_setAmounts_53 ?_
        refine hm_topi (show ((iZ (X i)) + (iZ (ch_c 33554432 X i))) = iZ (X i + ch_c 33554432 X i) from iZ_add _ _) ?_
        refine lv_istore (lv' := [(8, .int (iZ (X i + ch_c 33554432 X i))), (0, .ref w), (1, .ref a), (2, .ref b), (3, .int (iZ fc)), (4, .int sg), (5, .int (nI (max ka kb + 1))), (6, .int (iZ (ch_c 33554432 X i))), (7, .int (nI i))]) hx hb dX2_setAmounts_54 hl (by decide) rfl (fun ls hl => ?_)
        refine lv_aload_n hx hb dX2_setAmounts_56 rfl (lv_at hl 1 rfl) ?_
        refine hm_get (ci := 4) (v := .ref la) (C := RX2) (T := TX2) (N := 3) hx hb hws kin_X2 hown hK.1 hV ((hm_up_ne _ _ h_w_la).trans hw) rfl 0 (by decide) fl25 (fun _ h9 => h9) rfl dX2_setAmounts_57 ?_
        refine lv_iload hx hb dX2_setAmounts_60 (lv_at hl 8 rfl) ?_
        refine lv_iload hx hb dX2_setAmounts_62 (lv_at hl 0 rfl) ?_
        refine lv_ldc (v := 33554431) hx hb hown ld50 dX2_setAmounts_64 ?_
        refine lv_iand hx hb dX2_setAmounts_66 ?_
        refine hm_topi (show ((iZ (X i + ch_c 33554432 X i)) &&& 33554431) = nI (ch_e 33554432 X i) from iZ_mask _) ?_
        refine hm_iastN hx hb hK.1 hV 0 (hm_up_self _ _ _) rfl (k := i) (by omega) (by omega) dX2_setAmounts_67 (fun H locs hV => ?_)
        rw [show (upd (fun j => nI (if j < i then ch_e 33554432 X j else d j)) i (nI (ch_e 33554432 X i))) = (fun j => nI (if j < i + 1 then ch_e 33554432 X j else d j)) from nu_up (ch_e 33554432 X) d i] at hV
        rw [hm_u0] at hV
        have hV : hm_V E.1 vwCl (hm_A M sz) s.heap (hm_up M la (hm_I E n (fun j => nI (if j < i + 1 then ch_e 33554432 X j else d j)))) H locs := hV
        refine lv_iload hx hb dX2_setAmounts_68 (lv_at hl 0 rfl) ?_
        refine lv_bipush (v := 25) hx hb dX2_setAmounts_70 (by decide) ?_
        refine lv_ishr hx hb dX2_setAmounts_72 ?_
        refine hm_topi (show ((iZ (X i + ch_c 33554432 X i)) >>> (25 &&& 31)) = iZ (ch_c 33554432 X (i + 1)) from iZ_shr (by omega) (by omega)) ?_
        refine lv_istore (lv' := [(6, .int (iZ (ch_c 33554432 X (i + 1)))), (8, .int (iZ (X i + ch_c 33554432 X i))), (0, .ref w), (1, .ref a), (2, .ref b), (3, .int (iZ fc)), (4, .int sg), (5, .int (nI (max ka kb + 1))), (7, .int (nI i))]) hx hb dX2_setAmounts_73 hl (by decide) rfl (fun ls hl => ?_)
        refine lv_iinc (v := (nI (i + 1))) (lv' := [(7, .int (nI (i + 1))), (6, .int (iZ (ch_c 33554432 X (i + 1)))), (8, .int (iZ (X i + ch_c 33554432 X i))), (0, .ref w), (1, .ref a), (2, .ref b), (3, .int (iZ fc)), (4, .int sg), (5, .int (nI (max ka kb + 1)))]) hx hb dX2_setAmounts_75 hl (k := 8) rfl (nI_1 i) (by decide) rfl (fun ls hl => ?_)
        refine lv_goto (tgt := 29) hx hb dX2_setAmounts_78 (by decide) ?_
        exact ih_loop (i + 1) (by omega) (by omega) ls H locs (lv_sub hl [3, 4, 5, 6, 7, 8, 1, 0] rfl) hV
  exact loop (max ka kb + 2) 0 (Nat.zero_le _) (by omega) ls s.heap [] (lv_sub hl [3, 4, 5, 6, 7, 2, 1, 0] rfl) hV

abbrev wd_X2_setSum : List Cond := .code yX2_setSum cX2_setSum 4 none :: hm_ws
abbrev rm_X2_setSum : Room := { frames := 2, cells := 0, slots := 0, locals := 50 }

set_option maxHeartbeats 4000000 in
set_option maxRecDepth 100000 in
/-- setSum(a, b, sign of b) -/
theorem c_X2_setSum (l : Launch) (E : hm_E) {M : hm_M} {w la n a ra na ka b rb nb kb : Nat} {k0 g0 ga gb sg : Int32} {d da db : Nat → Nat} {za zb : Int} (hw : M w = some (hm_W la k0 g0)) (ha : M la = some (hm_I E n (fun j => nI (d j)))) (hd : ∀ j, j < n → d j < 33554432) (hwa : M a = some (hm_W ra (nI ka) ga)) (haa : M ra = some (hm_I E na (fun j => nI (da j)))) (hoa : wn_ok na da ka ga za) (hwb : M b = some (hm_W rb (nI kb) gb)) (hab : M rb = some (hm_I E nb (fun j => nI (db j)))) (hob : wn_ok nb db kb gb zb) (hkan : ka + 1 ≤ n) (hkbn : kb + 1 ≤ n) (hn : n < 1000) (hna : na < 1000) (hnb : nb < 1000) (hsg : sg = 0 ∨ sg = 1) : hm_Cv l E yX2_setSum wd_X2_setSum rm_X2_setSum [.ref w, .ref a, .ref b, .int sg] M (wn_post E M w la n (za + (if sg = 0 then (zb.natAbs : Int) else -(zb.natAbs : Int)))) := by
  intro sz
  refine Met.ofW (cc := cX2_setSum) (maxL := 4) (ret := none) (by decide) rfl ?_
  intro p e s m args below meth c s₁ B hml hv
  obtain ⟨rfl, hAe, hA, hK, hV⟩ := hm_start hv
  have hx := B.exec
  have hb := B.bytes
  have hr := B.returns
  have hts := atoms_spec (ws := wd_X2_setSum) B.pre
  have hws : ∀ w ∈ hm_ws, w.before _ s = true := fun w h => hts w (List.mem_cons_of_mem _ h)
  have hown : s.vm.findClass RX2 = some m.cls := findClass_of_methodNamed B.named
  have hlocks := B.notSynchronized
  have fl15 := hws _ kw_76
  have hl := lv_entry ([.ref w, .ref a, .ref b, .int sg]) (n := 4) (Nat.le_of_ble_eq_true rfl)
  rw [lg_entry_eq]
  generalize (lg_sl ([.ref w, .ref a, .ref b, .int sg]) ++ List.replicate (4 - (lg_sl ([.ref w, .ref a, .ref b, .int sg])).length) Slot.unset).toArray = ls at hl ⊢
  have hl : lv_has ls 4 [(0, .ref w), (1, .ref a), (2, .ref b), (3, .int sg)] := hl
  refine hm_gen (rm := rm_X2_setSum) rfl (fun Qf hQf => ?_)
  have hga := hoa.2.2.2.2
  refine lv_aload_n hx hb dX2_setSum_0 rfl (lv_at hl 1 rfl) ?_
  refine hm_get (ci := 4) (v := .int ga) (C := RX2) (T := TX2) (N := 3) hx hb hws kin_X2 hown hK.1 hV hwa rfl 2 (by decide) fl15 (fun _ h9 => h9) rfl dX2_setSum_1 ?_
  refine lv_iload_n hx hb dX2_setSum_4 rfl (lv_at hl 3 rfl) ?_
  refine lv_icmp_ne (tgt := 19) hx hb dX2_setSum_5 (by decide) (fun c5 => ?_) (fun c5 => ?_)
  · refine lv_aload_n hx hb dX2_setSum_19 rfl (lv_at hl 1 rfl) ?_
    refine lv_aload_n hx hb dX2_setSum_20 rfl (lv_at hl 2 rfl) ?_
    refine hm_calli (va_runV (As := [.ref b]) (rest := []) ⟨hx, hb, hml, hown, hts⟩ (c_X2_compareAmount l E hwa haa hoa hwb hab hob hna hnb s.heap.size) (cwV 1 hts (hm_gV kw_253 kw_254 kw_255 kw_38 kw_256) rfl rfl rfl (by decide +kernel) ⟨Nat.le_of_ble_eq_true rfl, Nat.le_of_ble_eq_true rfl⟩) (hm_preV hK hV hwa rfl) rfl rfl hl.1 rfl (lv_room (Nat.le_of_ble_eq_true rfl)) dX2_setSum_21 ⟨Nat.le_of_ble_eq_true rfl, Nat.le_of_ble_eq_true rfl⟩) hV hA (fun r21 M1 H locs hp hV => ?_)
    obtain ⟨hr21, hM1⟩ := hp
    rw [hM1] at hV
    refine lv_if_lt (tgt := 41) hx hb dX2_setSum_24 (by decide) (fun c24 => ?_) (fun c24 => ?_)
    · have hlt : za.natAbs < zb.natAbs := by
        rcases Nat.lt_or_ge za.natAbs zb.natAbs with q | q
        · exact q
        · rw [hr21, if_neg (by omega)] at c24
          split at c24
          · exact absurd c24 (by decide)
          · exact absurd c24 (by decide)
      refine lv_aload_n hx hb dX2_setSum_41 rfl (lv_at hl 0 rfl) ?_
      refine lv_aload_n hx hb dX2_setSum_42 rfl (lv_at hl 2 rfl) ?_
      refine lv_aload_n hx hb dX2_setSum_43 rfl (lv_at hl 1 rfl) ?_
      refine lv_iconst (v := (-1)) hx hb dX2_setSum_44 (by decide) ?_
      refine hm_topi (show (-1) = iZ (-1) from rfl) ?_
      refine lv_iload_n hx hb dX2_setSum_45 rfl (lv_at hl 3 rfl) ?_
      refine hm_callv (va_runV (As := [.ref b, .ref a, .int (iZ (-1)), .int sg]) (rest := []) ⟨hx, hb, hml, hown, hts⟩ (c_X2_setAmounts l E (fc := -1) hw ha hd hwb hab hob hwa haa hoa hkbn hkan hn hnb hna (Or.inr ⟨rfl, by omega⟩) H.size) (cwV 4 hts (hm_gV kw_248 kw_250 kw_10 kw_38 kw_251) rfl rfl rfl (by decide +kernel) ⟨Nat.le_of_ble_eq_true rfl, Nat.le_of_ble_eq_true rfl⟩) (hm_preV hK hV hw rfl) rfl rfl hl.1 rfl (lv_room (Nat.le_of_ble_eq_true rfl)) dX2_setSum_46 ⟨Nat.le_of_ble_eq_true rfl, Nat.le_of_ble_eq_true rfl⟩) hV hA (fun M1 H locs hp hV => ?_)
      rw [show (if sg = 0 then (zb.natAbs : Int) + -1 * za.natAbs else -((zb.natAbs : Int) + -1 * za.natAbs)) = za + (if sg = 0 then (zb.natAbs : Int) else -(zb.natAbs : Int)) from (by
          rw [hga] at c5
          rcases hsg with h | h <;> rw [h] at c5 ⊢
          · rw [if_pos rfl, if_pos rfl]
            have h9 : za < 0 := by
              rcases Int.lt_or_le za 0 with q | q
              · exact q
              · rw [if_neg (by omega)] at c5; exact absurd rfl c5
            omega
          · rw [if_neg (by decide), if_neg (by decide)]
            have h9 : ¬ za < 0 := fun q => by rw [if_pos q] at c5; exact absurd rfl c5
            omega)] at hp
      obtain ⟨d1, k1, g1, rfl, hp1⟩ := hp
      have hV : hm_V E.1 vwCl (hm_A M sz) s.heap (hm_up (hm_up M la (hm_I E n (fun j => nI (d1 j)))) w (.inr (4, [.ref la, .int (nI k1), .int g1]))) H locs := hV
      rw [hQf]
      exact W.vret hx hb hr (fun t ht hW => ⟨⟨_, rfl, ⟨_, _, _, rfl, hp1⟩, (hm_end hV ht).1⟩, (hm_end hV ht).2⟩) hV.2.2.2.2 dX2_setSum_49
    · have hge : zb.natAbs ≤ za.natAbs := by
        rcases Nat.lt_or_ge za.natAbs zb.natAbs with q | q
        · rw [hr21, if_pos q] at c24
          exact absurd (by decide) c24
        · exact q
      refine lv_aload_n hx hb dX2_setSum_27 rfl (lv_at hl 0 rfl) ?_
      refine lv_aload_n hx hb dX2_setSum_28 rfl (lv_at hl 1 rfl) ?_
      refine lv_aload_n hx hb dX2_setSum_29 rfl (lv_at hl 2 rfl) ?_
      refine lv_iconst (v := (-1)) hx hb dX2_setSum_30 (by decide) ?_
      refine hm_topi (show (-1) = iZ (-1) from rfl) ?_
      refine lv_aload_n hx hb dX2_setSum_31 rfl (lv_at hl 1 rfl) ?_
      refine hm_get (ci := 4) (v := .int ga) (C := RX2) (T := TX2) (N := 3) hx hb hws kin_X2 hown hK.1 hV hwa rfl 2 (by decide) fl15 (fun _ h9 => h9) rfl dX2_setSum_32 ?_
      refine hm_callv (va_runV (As := [.ref a, .ref b, .int (iZ (-1)), .int ga]) (rest := []) ⟨hx, hb, hml, hown, hts⟩ (c_X2_setAmounts l E (fc := -1) hw ha hd hwa haa hoa hwb hab hob hkan hkbn hn hna hnb (Or.inr ⟨rfl, hge⟩) H.size) (cwV 4 hts (hm_gV kw_248 kw_250 kw_10 kw_38 kw_251) rfl rfl rfl (by decide +kernel) ⟨Nat.le_of_ble_eq_true rfl, Nat.le_of_ble_eq_true rfl⟩) (hm_preV hK hV hw rfl) rfl rfl hl.1 rfl (lv_room (Nat.le_of_ble_eq_true rfl)) dX2_setSum_35 ⟨Nat.le_of_ble_eq_true rfl, Nat.le_of_ble_eq_true rfl⟩) hV hA (fun M1 H locs hp hV => ?_)
      rw [show (if ga = 0 then (za.natAbs : Int) + -1 * zb.natAbs else -((za.natAbs : Int) + -1 * zb.natAbs)) = za + (if sg = 0 then (zb.natAbs : Int) else -(zb.natAbs : Int)) from (by
          by_cases q : za < 0
          · rw [if_pos q] at hga
            rw [hga] at c5 ⊢
            rcases hsg with h | h <;> rw [h] at c5 ⊢
            · rw [if_neg (by decide), if_pos rfl]; omega
            · exact absurd rfl c5
          · rw [if_neg q] at hga
            rw [hga] at c5 ⊢
            rcases hsg with h | h <;> rw [h] at c5 ⊢
            · exact absurd rfl c5
            · rw [if_pos rfl, if_neg (by decide)]; omega)] at hp
      obtain ⟨d1, k1, g1, rfl, hp1⟩ := hp
      have hV : hm_V E.1 vwCl (hm_A M sz) s.heap (hm_up (hm_up M la (hm_I E n (fun j => nI (d1 j)))) w (.inr (4, [.ref la, .int (nI k1), .int g1]))) H locs := hV
      refine lv_goto (tgt := 49) hx hb dX2_setSum_38 (by decide) ?_
      rw [hQf]
      exact W.vret hx hb hr (fun t ht hW => ⟨⟨_, rfl, ⟨_, _, _, rfl, hp1⟩, (hm_end hV ht).1⟩, (hm_end hV ht).2⟩) hV.2.2.2.2 dX2_setSum_49
  · refine lv_aload_n hx hb dX2_setSum_8 rfl (lv_at hl 0 rfl) ?_
    refine lv_aload_n hx hb dX2_setSum_9 rfl (lv_at hl 1 rfl) ?_
    refine lv_aload_n hx hb dX2_setSum_10 rfl (lv_at hl 2 rfl) ?_
    refine lv_iconst (v := 1) hx hb dX2_setSum_11 (by decide) ?_
    refine hm_topi (show 1 = iZ 1 from rfl) ?_
    refine lv_iload_n hx hb dX2_setSum_12 rfl (lv_at hl 3 rfl) ?_
    refine hm_callv (va_runV (As := [.ref a, .ref b, .int (iZ 1), .int sg]) (rest := []) ⟨hx, hb, hml, hown, hts⟩ (c_X2_setAmounts l E (fc := 1) hw ha hd hwa haa hoa hwb hab hob hkan hkbn hn hna hnb (Or.inl rfl) s.heap.size) (cwV 4 hts (hm_gV kw_248 kw_250 kw_10 kw_38 kw_251) rfl rfl rfl (by decide +kernel) ⟨Nat.le_of_ble_eq_true rfl, Nat.le_of_ble_eq_true rfl⟩) (hm_preV hK hV hw rfl) rfl rfl hl.1 rfl (lv_room (Nat.le_of_ble_eq_true rfl)) dX2_setSum_13 ⟨Nat.le_of_ble_eq_true rfl, Nat.le_of_ble_eq_true rfl⟩) hV hA (fun M1 H locs hp hV => ?_)
    rw [show (if sg = 0 then (za.natAbs : Int) + 1 * zb.natAbs else -((za.natAbs : Int) + 1 * zb.natAbs)) = za + (if sg = 0 then (zb.natAbs : Int) else -(zb.natAbs : Int)) from (by
        rw [hga] at c5
        rcases hsg with h | h <;> rw [h] at c5 ⊢
        · rw [if_pos rfl, if_pos rfl]
          have h9 : ¬ za < 0 := fun q => by rw [if_pos q] at c5; exact absurd c5 (by decide)
          omega
        · rw [if_neg (by decide), if_neg (by decide)]
          have h9 : za < 0 := by
            rcases Int.lt_or_le za 0 with q | q
            · exact q
            · rw [if_neg (by omega)] at c5; exact absurd c5 (by decide)
          omega)] at hp
    obtain ⟨d1, k1, g1, rfl, hp1⟩ := hp
    have hV : hm_V E.1 vwCl (hm_A M sz) s.heap (hm_up (hm_up M la (hm_I E n (fun j => nI (d1 j)))) w (.inr (4, [.ref la, .int (nI k1), .int g1]))) H locs := hV
    refine lv_goto (tgt := 49) hx hb dX2_setSum_16 (by decide) ?_
    rw [hQf]
    exact W.vret hx hb hr (fun t ht hW => ⟨⟨_, rfl, ⟨_, _, _, rfl, hp1⟩, (hm_end hV ht).1⟩, (hm_end hV ht).2⟩) hV.2.2.2.2 dX2_setSum_49
