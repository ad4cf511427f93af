abbrev wd_X2_setProduct : List Cond := .code yX2_setProduct cX2_setProduct 9 (some .boolean) :: hm_ws
abbrev rm_X2_setProduct : Room := { frames := 1, cells := 0, slots := 0, locals := 22 }

set_option maxHeartbeats 4000000 in
set_option maxRecDepth 100000 in
/-- setProduct(a, b): false when it is TOO WIDE -/
theorem c_X2_setProduct (l : Launch) (E : hm_E) {M : hm_M} {w la a ra na ka b rb nb kb : Nat} {k0 g0 ga gb : Int32} {d da db : Nat → Nat} {za zb : Int} (hw : M w = some (hm_W la k0 g0)) (ha : M la = some (hm_I E 65 (fun j => nI (d j)))) (hd : ∀ j, j < 65 → d j < 33554432) (hwa : M a = some (hm_W ra (nI ka) ga)) (haa : M ra = some (hm_I E na (fun j => nI (da j)))) (hoa : wn_ok na da ka ga za) (hwb : M b = some (hm_W rb (nI kb) gb)) (hab : M rb = some (hm_I E nb (fun j => nI (db j)))) (hob : wn_ok nb db kb gb zb) (hka : ka ≤ 64) (hkb : kb ≤ 64) (h_ra_la : hm_ap ra la) (h_rb_la : hm_ap rb la) (hna : na < 1000) (hnb : nb < 1000) : hm_Ci l E yX2_setProduct wd_X2_setProduct rm_X2_setProduct [.ref w, .ref a, .ref b] M (fun r M1 => (r = 0 ∧ M1 = M ∧ 33554432 ^ 64 ≤ (za * zb).natAbs) ∨ (r = (if (za * zb).natAbs < 33554432 ^ 64 then 1 else 0) ∧ wn_post E M w la 65 (za * zb) M1)) := by
  intro sz
  refine Met.ofW (cc := cX2_setProduct) (maxL := 9) (ret := (some .boolean)) (by decide) rfl ?_
  intro p e s m args below meth c s₁ B hml hv
  obtain ⟨rfl, hAe, hA, hK, hV⟩ := hm_start hv
  have hx := B.exec
  have hb := B.bytes
  have hr := B.returns
  have hts := atoms_spec (ws := wd_X2_setProduct) B.pre
  have hws : ∀ w ∈ hm_ws, w.before _ s = true := fun w h => hts w (List.mem_cons_of_mem _ h)
  have hown : s.vm.findClass RX2 = some m.cls := findClass_of_methodNamed B.named
  have hlocks := B.notSynchronized
  have fl9 := hws _ kw_73
  have fl25 := hws _ kw_71
  have fl15 := hws _ kw_76
  have ld32 := hws _ kw_139
  have hl := lv_entry ([.ref w, .ref a, .ref b]) (n := 9) (Nat.le_of_ble_eq_true rfl)
  rw [lg_entry_eq]
  generalize (lg_sl ([.ref w, .ref a, .ref b]) ++ List.replicate (9 - (lg_sl ([.ref w, .ref a, .ref b])).length) Slot.unset).toArray = ls at hl ⊢
  have hl : lv_has ls 9 [(0, .ref w), (1, .ref a), (2, .ref b)] := hl
  refine hm_gen (rm := rm_X2_setProduct) rfl (fun Qf hQf => ?_)
  have h_w_la : hm_ap w la := hm_oa hw ha
  have h_a_la : hm_ap a la := hm_oa hwa ha
  have h_b_la : hm_ap b la := hm_oa hwb ha
  have hza := wn_lt hoa
  have hzb := wn_lt hob
  obtain ⟨hoa1, hoa2, hoa3, hoa4, hoa5⟩ := hoa
  obtain ⟨hob1, hob2, hob3, hob4, hob5⟩ := hob
  refine lv_aload_n hx hb dX2_setProduct_0 rfl (lv_at hl 1 rfl) ?_
  refine hm_get (ci := 4) (v := .int (nI ka)) (C := RX2) (T := TX2) (N := 3) hx hb hws kin_X2 hown hK.1 hV hwa rfl 1 (by decide) fl9 (fun _ h9 => h9) rfl dX2_setProduct_1 ?_
  refine lv_aload_n hx hb dX2_setProduct_4 rfl (lv_at hl 2 rfl) ?_
  refine hm_get (ci := 4) (v := .int (nI kb)) (C := RX2) (T := TX2) (N := 3) hx hb hws kin_X2 hown hK.1 hV hwb rfl 1 (by decide) fl9 (fun _ h9 => h9) rfl dX2_setProduct_5 ?_
  refine lv_iadd hx hb dX2_setProduct_8 ?_
  refine hm_topi (show ((nI ka) + (nI kb)) = nI (ka + kb) from nI_add _ _) ?_
  refine lv_istore_n (lv' := [(3, .int (nI (ka + kb))), (0, .ref w), (1, .ref a), (2, .ref b)]) hx hb dX2_setProduct_9 rfl hl (by decide) rfl (fun ls hl => ?_)
  refine lv_iload_n hx hb dX2_setProduct_10 rfl (lv_at hl 0 rfl) ?_
  refine lv_bipush (v := 65) hx hb dX2_setProduct_11 (by decide) ?_
  refine lv_icmp_gt (tgt := 25) hx hb dX2_setProduct_13 (by decide) (fun c13 => ?_) (fun c13 => ?_)
  · have hcol : 66 ≤ ka + kb := by
      rcases Nat.lt_or_ge (ka + kb) 66 with q | q
      · exact absurd c13 (nI_nlt (a := 65) (by omega) (by omega))
      · exact q
    refine lv_iconst (v := 0) hx hb dX2_setProduct_25 (by decide) ?_
    rw [hQf]
    exact W.zret hx hb hr (rfl) (fun t ht hW => ⟨⟨_, _, rfl, Or.inl ⟨rfl, rfl, by
        rw [Int.natAbs_mul]
        have h1 := nu_v_low (B := 33554432) (d := da) (n := ka) (by omega) (hoa3 (by omega))
        have h2 := nu_v_low (B := 33554432) (d := db) (n := kb) (by omega) (hob3 (by omega))
        rw [hoa4] at h1
        rw [hob4] at h2
        exact wide_prod h1 h2 (by omega) (by omega) hcol⟩, (hm_end hV ht).1⟩, (hm_end hV ht).2⟩) hV.2.2.2.2 dX2_setProduct_26
  · have hcol : ka + kb ≤ 65 := by
      rcases Nat.lt_or_ge 65 (ka + kb) with q | q
      · exact absurd (nI_lt (a := 65) q (by omega)) c13
      · exact q
    refine lv_iload_n hx hb dX2_setProduct_16 rfl (lv_at hl 0 rfl) ?_
    refine lv_aload_n hx hb dX2_setProduct_17 rfl (lv_at hl 1 rfl) ?_
    refine hm_get (ci := 4) (v := .ref la) (C := RX2) (T := TX2) (N := 3) hx hb hws kin_X2 hown hK.1 hV hw rfl 0 (by decide) fl25 (fun _ h9 => h9) rfl dX2_setProduct_18 ?_
    refine hm_alen (v := nI 65) hx hb hK.1 hV 0 ha rfl rfl dX2_setProduct_21 ?_
    refine lv_icmp_le (tgt := 27) hx hb dX2_setProduct_22 (by decide) (fun c22 => ?_) (fun c22 => ?_)
    · obtain ⟨b', hb'⟩ : ∃ b' : Nat → Nat, b' = fun t => if t < kb then db t else 0 := ⟨_, rfl⟩
      have hb1 : ∀ t, b' t ≤ 33554431 := fun t => by
        rw [hb']
        show (if t < kb then db t else 0) ≤ _
        split
        · have := hob2 t (by omega); omega
        · omega
      have hb0 : ∀ t, kb ≤ t → b' t = 0 := fun t ht => by rw [hb']; show (if t < kb then db t else 0) = 0; rw [if_neg (by omega)]
      have hbd : ∀ t, t < kb → b' t = db t := fun t ht => by rw [hb']; show (if t < kb then db t else 0) = db t; rw [if_pos ht]
      have hcvb : ∀ i c, i ≤ ka → cv da b' i c ≤ 64 * (33554431 * 33554431) := fun i c hi => Nat.le_trans (cv_le c (fun t ht => by have := hoa2 t (by omega); omega) hb1) (Nat.mul_le_mul_right _ (by omega))
      obtain ⟨X, hX⟩ : ∃ X : Nat → Int, X = fun c => (cv da b' ka c : Int) := ⟨_, rfl⟩
      have hXi : ∀ c, X c = (cv da b' ka c : Int) := fun c => by rw [hX]
      have hXb : ∀ i, 33554431 * 0 ≤ X i ∧ X i ≤ 33554431 * (64 * 33554431) := fun i => by
        have := hcvb ka i (Nat.le_refl ka)
        rw [hXi]
        omega
      have hcr := ch_bd (x := X) (l := 0) (m := 64 * 33554431) (by omega) (by omega) hXb
      have hSX : ch_s 33554432 X (ka + kb) = ((za.natAbs * zb.natAbs : Nat) : Int) := by
        rw [hX, ch_nu25, cv_sum 33554432 hb0 (Nat.le_refl _), hoa4, ← hob4]
        congr 2
        exact nu_v_congr (fun t ht => hbd t ht)
      have hE := ch_fit hSX (by rw [Nat.pow_add]; exact Nat.mul_lt_mul'' hza hzb)
      refine lv_lconst (v := 0) hx hb dX2_setProduct_27 (by decide) ?_
      refine lv_lstore (lv' := [(4, .long 0), (3, .int (nI (ka + kb))), (0, .ref w), (1, .ref a), (2, .ref b)]) hx hb dX2_setProduct_28 hl (by decide) rfl (fun ls hl => ?_)
      refine lv_iconst (v := 0) hx hb dX2_setProduct_30 (by decide) ?_
      refine lv_istore (lv' := [(6, .int 0), (4, .long 0), (3, .int (nI (ka + kb))), (0, .ref w), (1, .ref a), (2, .ref b)]) hx hb dX2_setProduct_31 hl (by decide) rfl (fun ls hl => ?_)
      have hV : hm_V E.1 vwCl (hm_A M sz) s.heap (hm_up M la (hm_I E 65 (fun j => nI (if j < 0 then ch_e 33554432 X j else d j)))) s.heap [] := by rw [hm_up_id ((ha).trans (congrArg (fun f9 => some (hm_I E 65 f9)) (nu_up0 (ch_e 33554432 X) d)))]; exact hV
      have hl : lv_has ls 9 [(6, .int 0), (4, .long (lZ (ch_c 33554432 X 0))), (3, .int (nI (ka + kb))), (0, .ref w), (1, .ref a), (2, .ref b)] := hl
      have loop : ∀ (fu : Nat) (cl : Nat), (cl ≤ ka + kb) → ka + kb - cl < fu → ∀ (ls : Array Slot) (H : Heap) (locs : List Loc), lv_has ls 9 [(0, .ref w), (1, .ref a), (2, .ref b), (3, .int (nI (ka + kb))), (4, .long (lZ (ch_c 33554432 X cl))), (6, .int (nI cl))] → hm_V E.1 vwCl (hm_A M sz) s.heap (hm_up M la (hm_I E 65 (fun j => nI (if j < cl then ch_e 33554432 X j else d j)))) H locs → W p l e rm_X2_setProduct s m [.ref w, .ref a, .ref b].toArray below meth c H locs 0 0 Qf (F0 m 33 ls []) := by
        intro fu
        induction fu with
        | zero => intro cl hc hfu; exact absurd hfu (Nat.not_lt_zero _)
        | succ fu ih_loop =>
          intro cl hc hfu ls H locs hl hV
          refine lv_iload hx hb dX2_setProduct_33 (lv_at hl 5 rfl) ?_
          refine lv_iload_n hx hb dX2_setProduct_35 rfl (lv_at hl 3 rfl) ?_
          refine lv_icmp_ge (tgt := 132) hx hb dX2_setProduct_36 (by decide) (fun c36 => ?_) (fun c36 => ?_)
          · have hik : cl = ka + kb := by
              rcases Nat.lt_or_ge cl (ka + kb) with q | q
              · exact absurd c36 (nI_ge q (by omega))
              · omega
            subst hik
            refine lv_aload_n hx hb dX2_setProduct_132 rfl (lv_at hl 0 rfl) ?_
            refine lv_iload_n hx hb dX2_setProduct_133 rfl (lv_at hl 3 rfl) ?_
            refine lv_aload_n hx hb dX2_setProduct_134 rfl (lv_at hl 1 rfl) ?_
            refine hm_get (ci := 4) (v := .int ga) (C := RX2) (T := TX2) (N := 3) hx hb hws kin_X2 hown hK.1 hV ((hm_up_ne _ _ h_a_la).trans hwa) rfl 2 (by decide) fl15 (fun _ h9 => h9) rfl dX2_setProduct_135 ?_
            refine lv_aload_n hx hb dX2_setProduct_138 rfl (lv_at hl 2 rfl) ?_
            refine hm_get (ci := 4) (v := .int gb) (C := RX2) (T := TX2) (N := 3) hx hb hws kin_X2 hown hK.1 hV ((hm_up_ne _ _ h_b_la).trans hwb) rfl 2 (by decide) fl15 (fun _ h9 => h9) rfl dX2_setProduct_139 ?_
            refine lv_icmp_eq (tgt := 149) hx hb dX2_setProduct_142 (by decide) (fun c142 => ?_) (fun c142 => ?_)
            · refine lv_iconst (v := 0) hx hb dX2_setProduct_149 (by decide) ?_
              refine hm_callv (va_runV (As := [.int (nI (ka + kb)), .int 0]) (rest := []) ⟨hx, hb, hml, hown, hts⟩ (c_X2_finish l E (d := (fun j => if j < ka + kb then ch_e 33554432 X j else d j)) (t := (ka + kb)) (sg := 0) ((hm_up_ne _ _ h_w_la).trans hw) (hm_up_self _ _ _) (by omega) (by omega) (fun j hj => by show (if j < ka + kb then _ else _) < _; rw [if_pos hj]; have := ch_e25 X j; omega) H.size) (cwV 2 hts (hm_gV kw_140 kw_142 kw_1 kw_38 kw_143) rfl rfl rfl (by decide +kernel) ⟨Nat.le_of_ble_eq_true rfl, Nat.le_of_ble_eq_true rfl⟩) (hm_preV hK hV ((hm_up_ne _ _ h_w_la).trans hw) rfl) rfl rfl hl.1 rfl (lv_room (Nat.le_of_ble_eq_true rfl)) dX2_setProduct_150 ⟨Nat.le_of_ble_eq_true rfl, Nat.le_of_ble_eq_true rfl⟩) hV hA (fun M1 H locs hp hV => ?_)
              subst hp
              have hV : hm_V E.1 vwCl (hm_A M sz) s.heap (hm_up (hm_up M la (hm_I E 65 (fun j => nI (if j < ka + kb then ch_e 33554432 X j else d j)))) w (.inr (4, [.ref la, .int (nI (nu_k (fun j => if j < ka + kb then ch_e 33554432 X j else d j) (ka + kb))), .int (if 0 = 0 then 0 else if nu_k (fun j => if j < ka + kb then ch_e 33554432 X j else d j) (ka + kb) = 0 then 0 else 1)]))) H locs := hV
              have hfin := wn_fin (n := 65) (top := ka + kb) (d := (fun j => if j < ka + kb then ch_e 33554432 X j else d j)) (sg := 0) (by omega) (nu_ifd (fun j _ => ch_e25 X j) hd)
              have hsgn := wn_prod hoa5 hob5
              rw [if_pos c142] at hsgn
              rw [nu_if, hE, show (if (0 : Int32) = 0 then ((za.natAbs * zb.natAbs : Nat) : Int) else -((za.natAbs * zb.natAbs : Nat) : Int)) = za * zb from (if_pos rfl).trans hsgn] at hfin
              have hlen := wn_len (b := 64) hfin
              refine lv_aload_n hx hb dX2_setProduct_153 rfl (lv_at hl 0 rfl) ?_
              refine hm_calli (va_runV (As := []) (rest := []) ⟨hx, hb, hml, hown, hts⟩ (c_X2_fits l E (hm_up_self _ _ _) (by have := hfin.1; omega) H.size) (cwV 0 hts (hm_gV kw_243 kw_149 kw_150 kw_38 kw_151) rfl rfl rfl (by decide +kernel) ⟨Nat.le_of_ble_eq_true rfl, Nat.le_of_ble_eq_true rfl⟩) (hm_preV hK hV (hm_up_self _ _ _) rfl) rfl rfl hl.1 rfl (lv_room (Nat.le_of_ble_eq_true rfl)) dX2_setProduct_154 ⟨Nat.le_of_ble_eq_true rfl, Nat.le_of_ble_eq_true rfl⟩) hV hA (fun r154 M1 H locs hp hV => ?_)
              obtain ⟨hrf, hM1⟩ := hp
              rw [hM1] at hV
              rw [hQf]
              exact W.zret hx hb hr (by rw [hrf]; split <;> rfl) (fun t ht hW => ⟨⟨_, _, rfl, Or.inr ⟨by
                  rw [hrf]
                  by_cases q : nu_k (fun j => if j < ka + kb then ch_e 33554432 X j else d j) (ka + kb) ≤ 64
                  · rw [if_pos q, if_pos (hlen.mp q)]
                  · rw [if_neg q, if_neg (fun r => q (hlen.mpr r))], _, _, _, rfl, hfin⟩, (hm_end hV ht).1⟩, (hm_end hV ht).2⟩) hV.2.2.2.2 dX2_setProduct_157
            · refine lv_iconst (v := 1) hx hb dX2_setProduct_145 (by decide) ?_
              refine lv_goto (tgt := 150) hx hb dX2_setProduct_146 (by decide) ?_
              refine hm_callv (va_runV (As := [.int (nI (ka + kb)), .int 1]) (rest := []) ⟨hx, hb, hml, hown, hts⟩ (c_X2_finish l E (d := (fun j => if j < ka + kb then ch_e 33554432 X j else d j)) (t := (ka + kb)) (sg := 1) ((hm_up_ne _ _ h_w_la).trans hw) (hm_up_self _ _ _) (by omega) (by omega) (fun j hj => by show (if j < ka + kb then _ else _) < _; rw [if_pos hj]; have := ch_e25 X j; omega) H.size) (cwV 2 hts (hm_gV kw_140 kw_142 kw_1 kw_38 kw_143) rfl rfl rfl (by decide +kernel) ⟨Nat.le_of_ble_eq_true rfl, Nat.le_of_ble_eq_true rfl⟩) (hm_preV hK hV ((hm_up_ne _ _ h_w_la).trans hw) rfl) rfl rfl hl.1 rfl (lv_room (Nat.le_of_ble_eq_true rfl)) dX2_setProduct_150 ⟨Nat.le_of_ble_eq_true rfl, Nat.le_of_ble_eq_true rfl⟩) hV hA (fun M1 H locs hp hV => ?_)
              subst hp
              have hV : hm_V E.1 vwCl (hm_A M sz) s.heap (hm_up (hm_up M la (hm_I E 65 (fun j => nI (if j < ka + kb then ch_e 33554432 X j else d j)))) w (.inr (4, [.ref la, .int (nI (nu_k (fun j => if j < ka + kb then ch_e 33554432 X j else d j) (ka + kb))), .int (if 1 = 0 then 0 else if nu_k (fun j => if j < ka + kb then ch_e 33554432 X j else d j) (ka + kb) = 0 then 0 else 1)]))) H locs := hV
              have hfin := wn_fin (n := 65) (top := ka + kb) (d := (fun j => if j < ka + kb then ch_e 33554432 X j else d j)) (sg := 1) (by omega) (nu_ifd (fun j _ => ch_e25 X j) hd)
              have hsgn := wn_prod hoa5 hob5
              rw [if_neg c142] at hsgn
              rw [nu_if, hE, show (if (1 : Int32) = 0 then ((za.natAbs * zb.natAbs : Nat) : Int) else -((za.natAbs * zb.natAbs : Nat) : Int)) = za * zb from (if_neg (by decide)).trans hsgn] at hfin
              have hlen := wn_len (b := 64) hfin
              refine lv_aload_n hx hb dX2_setProduct_153 rfl (lv_at hl 0 rfl) ?_
              refine hm_calli (va_runV (As := []) (rest := []) ⟨hx, hb, hml, hown, hts⟩ (c_X2_fits l E (hm_up_self _ _ _) (by have := hfin.1; omega) H.size) (cwV 0 hts (hm_gV kw_243 kw_149 kw_150 kw_38 kw_151) rfl rfl rfl (by decide +kernel) ⟨Nat.le_of_ble_eq_true rfl, Nat.le_of_ble_eq_true rfl⟩) (hm_preV hK hV (hm_up_self _ _ _) rfl) rfl rfl hl.1 rfl (lv_room (Nat.le_of_ble_eq_true rfl)) dX2_setProduct_154 ⟨Nat.le_of_ble_eq_true rfl, Nat.le_of_ble_eq_true rfl⟩) hV hA (fun r154 M1 H locs hp hV => ?_)
              obtain ⟨hrf, hM1⟩ := hp
              rw [hM1] at hV
              rw [hQf]
              exact W.zret hx hb hr (by rw [hrf]; split <;> rfl) (fun t ht hW => ⟨⟨_, _, rfl, Or.inr ⟨by
                  rw [hrf]
                  by_cases q : nu_k (fun j => if j < ka + kb then ch_e 33554432 X j else d j) (ka + kb) ≤ 64
                  · rw [if_pos q, if_pos (hlen.mp q)]
                  · rw [if_neg q, if_neg (fun r => q (hlen.mpr r))], _, _, _, rfl, hfin⟩, (hm_end hV ht).1⟩, (hm_end hV ht).2⟩) hV.2.2.2.2 dX2_setProduct_157
          · have hik : cl < ka + kb := by
              rcases Nat.lt_or_ge cl (ka + kb) with q | q
              · exact q
              · exact absurd (nI_le q (by omega)) c36
            have hc1 := hcr cl
            have hx1 := hXb cl
            refine lv_iload hx hb dX2_setProduct_39 (lv_at hl 5 rfl) ?_
            refine lv_aload_n hx hb dX2_setProduct_41 rfl (lv_at hl 1 rfl) ?_
            refine hm_get (ci := 4) (v := .int (nI ka)) (C := RX2) (T := TX2) (N := 3) hx hb hws kin_X2 hown hK.1 hV ((hm_up_ne _ _ h_a_la).trans hwa) rfl 1 (by decide) fl9 (fun _ h9 => h9) rfl dX2_setProduct_42 ?_
            refine lv_iconst (v := 1) hx hb dX2_setProduct_45 (by decide) ?_
            refine lv_isub hx hb dX2_setProduct_46 ?_
            refine hm_topi (show ((nI ka) - 1) = nP ka from nP_sub ka) ?_
            refine va_mmin hx hb (by rw [hml]; exact hl.1.symm) hown (hws _ kw_136) (hws _ kw_137) (hws _ kw_39) (hws _ kw_138) (Nat.le_of_ble_eq_true rfl) (Nat.le_of_ble_eq_true rfl) (Nat.zero_le _) (Nat.zero_le _) dX2_setProduct_47 ?_
            refine hm_topi (show (if nP ka < nI cl then nP ka else nI cl) = nP (min (cl + 1) ka) from mn_nP (by omega) (by omega)) ?_
            refine lv_istore (lv' := [(7, .int (nP (min (cl + 1) ka))), (0, .ref w), (1, .ref a), (2, .ref b), (3, .int (nI (ka + kb))), (4, .long (lZ (ch_c 33554432 X cl))), (6, .int (nI cl))]) hx hb dX2_setProduct_50 hl (by decide) rfl (fun ls hl => ?_)
            refine lv_iconst (v := 0) hx hb dX2_setProduct_52 (by decide) ?_
            refine lv_iload hx hb dX2_setProduct_53 (lv_at hl 6 rfl) ?_
            refine lv_aload_n hx hb dX2_setProduct_55 rfl (lv_at hl 3 rfl) ?_
            refine hm_get (ci := 4) (v := .int (nI kb)) (C := RX2) (T := TX2) (N := 3) hx hb hws kin_X2 hown hK.1 hV ((hm_up_ne _ _ h_b_la).trans hwb) rfl 1 (by decide) fl9 (fun _ h9 => h9) rfl dX2_setProduct_56 ?_
            refine lv_isub hx hb dX2_setProduct_59 ?_
            refine lv_iconst (v := 1) hx hb dX2_setProduct_60 (by decide) ?_
            refine lv_iadd hx hb dX2_setProduct_61 ?_
            refine va_mmax hx hb (by rw [hml]; exact hl.1.symm) hown (hws _ kw_68) (hws _ kw_69) (hws _ kw_39) (hws _ kw_70) (Nat.le_of_ble_eq_true rfl) (Nat.le_of_ble_eq_true rfl) (Nat.zero_le _) (Nat.zero_le _) dX2_setProduct_62 ?_
            refine hm_topi (show (if 0 < ((nI cl) - (nI kb)) + 1 then ((nI cl) - (nI kb)) + 1 else 0) = nI (cl + 1 - kb) from mx_lo (by omega) (by omega)) ?_
            refine lv_istore (lv' := [(8, .int (nI (cl + 1 - kb))), (7, .int (nP (min (cl + 1) ka))), (0, .ref w), (1, .ref a), (2, .ref b), (3, .int (nI (ka + kb))), (4, .long (lZ (ch_c 33554432 X cl))), (6, .int (nI cl))]) hx hb dX2_setProduct_65 hl (by decide) rfl (fun ls hl => ?_)
            have inner : ∀ (fu : Nat) (i : Nat), (i ≤ ka) → (cl + 1 - kb ≤ i) → (i ≤ cl + 1) → ka - i < fu → ∀ (ls : Array Slot) (H : Heap) (locs : List Loc), lv_has ls 9 [(0, .ref w), (1, .ref a), (2, .ref b), (3, .int (nI (ka + kb))), (4, .long (lZ (ch_c 33554432 X cl + (cv da b' i cl : Int)))), (6, .int (nI cl)), (7, .int (nP (min (cl + 1) ka))), (8, .int (nI i))] → hm_V E.1 vwCl (hm_A M sz) s.heap (hm_up M la (hm_I E 65 (fun j => nI (if j < cl then ch_e 33554432 X j else d j)))) H locs → W p l e rm_X2_setProduct s m [.ref w, .ref a, .ref b].toArray below meth c H locs 0 0 Qf (F0 m 67 ls []) := by
              intro fu
              induction fu with
              | zero => intro i hi hi2 hi3 hfu; exact absurd hfu (Nat.not_lt_zero _)
              | succ fu ih_inner =>
                intro i hi hi2 hi3 hfu ls H locs hl hV
                have hb3 := hcvb i cl hi
                refine lv_iload hx hb dX2_setProduct_67 (lv_at hl 7 rfl) ?_
                refine lv_iload hx hb dX2_setProduct_69 (lv_at hl 6 rfl) ?_
                refine lv_icmp_gt (tgt := 105) hx hb dX2_setProduct_71 (by decide) (fun c71 => ?_) (fun c71 => ?_)
                · have hge : min (cl + 1) ka ≤ i := (nP_lt (by omega) (by omega)).mp c71
                  have hcv : cv da b' i cl = cv da b' ka cl := (cv_up hi (fun t h1 h2 => by omega)).symm
                  rw [show (lZ (ch_c 33554432 X cl + (cv da b' i cl : Int))) = lZ (X cl + ch_c 33554432 X cl) from (by rw [hcv, hXi, Int.add_comm])] at hl
                  have hl : lv_has ls 9 [(0, .ref w), (1, .ref a), (2, .ref b), (3, .int (nI (ka + kb))), (4, .long (lZ (X cl + ch_c 33554432 X cl))), (6, .int (nI cl)), (7, .int (nP (min (cl + 1) ka))), (8, .int (nI i))] := hl
                  refine lv_aload_n hx hb dX2_setProduct_105 rfl (lv_at hl 0 rfl) ?_
                  refine hm_get (ci := 4) (v := .ref la) (C := RX2) (T := TX2) (N := 3) hx hb hws kin_X2 hown hK.1 hV ((hm_up_ne _ _ h_w_la).trans hw) rfl 0 (by decide) fl25 (fun _ h9 => h9) rfl dX2_setProduct_106 ?_
                  refine lv_iload hx hb dX2_setProduct_109 (lv_at hl 5 rfl) ?_
                  refine lv_lload hx hb dX2_setProduct_111 (lv_at hl 4 rfl) ?_
                  refine lv_ldc2 (v := 33554431) hx hb hown ld32 dX2_setProduct_113 ?_
                  refine lv_land hx hb dX2_setProduct_116 ?_
                  refine hm_topl (show ((lZ (X cl + ch_c 33554432 X cl)) &&& 33554431) = lZ ((ch_e 33554432 X cl : Nat) : Int) from lZ_mask' _) ?_
                  refine lv_l2i hx hb dX2_setProduct_117 rfl ?_
                  refine hm_topi (show ((lZ ((ch_e 33554432 X cl : Nat) : Int)).toInt32) = nI (ch_e 33554432 X cl) from lZ_nI _) ?_
                  refine hm_iastN hx hb hK.1 hV 0 (hm_up_self _ _ _) rfl (k := cl) (by omega) (by omega) dX2_setProduct_118 (fun H locs hV => ?_)
                  rw [show (upd (fun j => nI (if j < cl then ch_e 33554432 X j else d j)) cl (nI (ch_e 33554432 X cl))) = (fun j => nI (if j < cl + 1 then ch_e 33554432 X j else d j)) from nu_up (ch_e 33554432 X) d cl] at hV
                  rw [hm_u0] at hV
                  have hV : hm_V E.1 vwCl (hm_A M sz) s.heap (hm_up M la (hm_I E 65 (fun j => nI (if j < cl + 1 then ch_e 33554432 X j else d j)))) H locs := hV
                  refine lv_lload hx hb dX2_setProduct_119 (lv_at hl 4 rfl) ?_
                  refine lv_bipush (v := 25) hx hb dX2_setProduct_121 (by decide) ?_
                  refine lv_lshr hx hb dX2_setProduct_123 rfl ?_
                  refine hm_topl (show ((lZ (X cl + ch_c 33554432 X cl)) >>> ((25 : Int32).toInt64 &&& 63)) = lZ (ch_c 33554432 X (cl + 1)) from lZ_shr (by omega) (by omega)) ?_
                  refine lv_lstore (lv' := [(4, .long (lZ (ch_c 33554432 X (cl + 1)))), (0, .ref w), (1, .ref a), (2, .ref b), (3, .int (nI (ka + kb))), (6, .int (nI cl)), (7, .int (nP (min (cl + 1) ka))), (8, .int (nI i))]) hx hb dX2_setProduct_124 hl (by decide) rfl (fun ls hl => ?_)
                  refine lv_iinc (v := (nI (cl + 1))) (lv' := [(6, .int (nI (cl + 1))), (4, .long (lZ (ch_c 33554432 X (cl + 1)))), (0, .ref w), (1, .ref a), (2, .ref b), (3, .int (nI (ka + kb))), (7, .int (nP (min (cl + 1) ka))), (8, .int (nI i))]) hx hb dX2_setProduct_126 hl (k := 5) rfl (nI_1 cl) (by decide) rfl (fun ls hl => ?_)
                  refine lv_goto (tgt := 33) hx hb dX2_setProduct_129 (by decide) ?_
                  exact ih_loop (cl + 1) (by omega) (by omega) ls H locs (lv_sub hl [2, 3, 4, 5, 1, 0] rfl) hV
                · have hlt : i < min (cl + 1) ka := by
                    rcases Nat.lt_or_ge i (min (cl + 1) ka) with q | q
                    · exact q
                    · exact absurd ((nP_lt (by omega) (by omega)).mpr q) c71
                  refine lv_lload hx hb dX2_setProduct_74 (lv_at hl 4 rfl) ?_
                  refine lv_aload_n hx hb dX2_setProduct_76 rfl (lv_at hl 1 rfl) ?_
                  refine hm_get (ci := 4) (v := .ref ra) (C := RX2) (T := TX2) (N := 3) hx hb hws kin_X2 hown hK.1 hV ((hm_up_ne _ _ h_a_la).trans hwa) rfl 0 (by decide) fl25 (fun _ h9 => h9) rfl dX2_setProduct_77 ?_
                  refine lv_iload hx hb dX2_setProduct_80 (lv_at hl 7 rfl) ?_
                  refine hm_ialdN hx hb hK.1 hV 0 ((hm_up_ne _ _ h_ra_la).trans haa) rfl (k := i) (by omega) (by omega) dX2_setProduct_82 ?_
                  refine lv_i2l hx hb dX2_setProduct_83 rfl ?_
                  refine hm_topl (show ((nI (da i)).toInt64) = lZ (da i : Int) from nI_lZ (by have := hoa2 i (by omega); omega)) ?_
                  refine lv_aload_n hx hb dX2_setProduct_84 rfl (lv_at hl 2 rfl) ?_
                  refine hm_get (ci := 4) (v := .ref rb) (C := RX2) (T := TX2) (N := 3) hx hb hws kin_X2 hown hK.1 hV ((hm_up_ne _ _ h_b_la).trans hwb) rfl 0 (by decide) fl25 (fun _ h9 => h9) rfl dX2_setProduct_85 ?_
                  refine lv_iload hx hb dX2_setProduct_88 (lv_at hl 5 rfl) ?_
                  refine lv_iload hx hb dX2_setProduct_90 (lv_at hl 7 rfl) ?_
                  refine lv_isub hx hb dX2_setProduct_92 ?_
                  refine hm_topi (show ((nI cl) - (nI i)) = nI (cl - i) from pk_sub (by omega)) ?_
                  refine hm_ialdN hx hb hK.1 hV 0 ((hm_up_ne _ _ h_rb_la).trans hab) rfl (k := (cl - i)) (by omega) (by omega) dX2_setProduct_93 ?_
                  refine lv_i2l hx hb dX2_setProduct_94 rfl ?_
                  refine hm_topl (show ((nI (db (cl - i))).toInt64) = lZ (b' (cl - i) : Int) from (by rw [hbd (cl - i) (by omega)]; exact nI_lZ (by have := hob2 (cl - i) (by omega); omega))) ?_
                  refine lv_lmul hx hb dX2_setProduct_95 ?_
                  refine hm_topl (show ((lZ (da i : Int)) * (lZ (b' (cl - i) : Int))) = lZ ((da i * b' (cl - i) : Nat) : Int) from (by rw [lZ_mul, Int.natCast_mul])) ?_
                  refine lv_ladd hx hb dX2_setProduct_96 ?_
                  refine hm_topl (show ((lZ (ch_c 33554432 X cl + (cv da b' i cl : Int))) + (lZ ((da i * b' (cl - i) : Nat) : Int))) = lZ (ch_c 33554432 X cl + (cv da b' (i + 1) cl : Int)) from (by rw [lZ_add, cv, if_pos (by omega)]; congr 1; omega)) ?_
                  refine lv_lstore (lv' := [(4, .long (lZ (ch_c 33554432 X cl + (cv da b' (i + 1) cl : Int)))), (0, .ref w), (1, .ref a), (2, .ref b), (3, .int (nI (ka + kb))), (6, .int (nI cl)), (7, .int (nP (min (cl + 1) ka))), (8, .int (nI i))]) hx hb dX2_setProduct_97 hl (by decide) rfl (fun ls hl => ?_)
                  refine lv_iinc (v := (nI (i + 1))) (lv' := [(8, .int (nI (i + 1))), (4, .long (lZ (ch_c 33554432 X cl + (cv da b' (i + 1) cl : Int)))), (0, .ref w), (1, .ref a), (2, .ref b), (3, .int (nI (ka + kb))), (6, .int (nI cl)), (7, .int (nP (min (cl + 1) ka)))]) hx hb dX2_setProduct_99 hl (k := 7) rfl (nI_1 i) (by decide) rfl (fun ls hl => ?_)
                  refine lv_goto (tgt := 67) hx hb dX2_setProduct_102 (by decide) ?_
                  exact ih_inner (i + 1) (by omega) (by omega) (by omega) (by omega) ls H locs (lv_sub hl [2, 3, 4, 5, 1, 6, 7, 0] rfl) hV
            rw [show (lZ (ch_c 33554432 X cl)) = lZ (ch_c 33554432 X cl + (cv da b' (cl + 1 - kb) cl : Int)) from (by rw [cv_zero (fun t h1 h2 => hb0 _ (by omega))]; congr 1; omega)] at hl
            have hl : lv_has ls 9 [(8, .int (nI (cl + 1 - kb))), (7, .int (nP (min (cl + 1) ka))), (0, .ref w), (1, .ref a), (2, .ref b), (3, .int (nI (ka + kb))), (4, .long (lZ (ch_c 33554432 X cl + (cv da b' (cl + 1 - kb) cl : Int)))), (6, .int (nI cl))] := hl
            exact inner (ka + 1) (cl + 1 - kb) (by omega) (Nat.le_refl _) (by omega) (by omega) ls H locs (lv_sub hl [2, 3, 4, 5, 6, 7, 1, 0] rfl) hV
      exact loop (ka + kb + 1) 0 (Nat.zero_le _) (by omega) ls s.heap [] (lv_sub hl [3, 4, 5, 2, 1, 0] rfl) hV
    · exact absurd (nI_le (b := 65) hcol (by omega)) c22
