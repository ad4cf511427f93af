abbrev wd_X0_divide : List Cond := .code yX0_divide cX0_divide 8 none :: hm_ws
abbrev rm_X0_divide : Room := { frames := 2, cells := 0, slots := 0, locals := 57 }

set_option maxHeartbeats 4000000 in
set_option maxRecDepth 100000 in
/-- divide(a, b, quotient): the quotient towards 0 -/
theorem c_X0_divide (l : Launch) (E : hm_E) {M : hm_M} {dv lr lv a ra na ka b rb nb kb q la n : Nat} {k0 g0 ga gb : Int32} {r v d da db : Nat → Nat} {za zb : Int} (hdv : M dv = some (.inr (2, [.ref lr, .ref lv]))) (hlr : M lr = some (hm_I E 66 (fun j => nI (r j)))) (hlv : M lv = some (hm_I E 66 (fun j => nI (v j)))) (hrb : ∀ j, j < 66 → r j < 33554432) (hvb : ∀ j, j < 66 → v j < 33554432) (hwq : M q = some (hm_W la k0 g0)) (haq : M la = some (hm_I E n (fun j => nI (d j)))) (hd : ∀ j, j < n → d j < 33554432) (hwa : M a = some (hm_W ra (nI ka) ga)) (haa : M ra = some (hm_I E na (fun j => nI (da j)))) (hoa : wn_ok na da ka ga za) (hwb : M b = some (hm_W rb (nI kb) gb)) (hab : M rb = some (hm_I E nb (fun j => nI (db j)))) (hob : wn_ok nb db kb gb zb) (hzb0 : zb ≠ 0) (hka : ka ≤ 65) (hkn : ka + 1 ≤ n + kb) (h3 : 3 ≤ n) (hn : n < 1000) (hna : na < 1000) (hnb : nb < 1000) (h_lv_lr : hm_ap lv lr) (h_la_lr : hm_ap la lr) (h_la_lv : hm_ap la lv) (h_ra_lr : hm_ap ra lr) (h_ra_lv : hm_ap ra lv) (h_ra_la : hm_ap ra la) (h_rb_lr : hm_ap rb lr) (h_rb_lv : hm_ap rb lv) (h_rb_la : hm_ap rb la) (h_a_q : hm_ap a q) (h_b_q : hm_ap b q) : hm_Cv l E yX0_divide wd_X0_divide rm_X0_divide [.ref dv, .ref a, .ref b, .ref q] M (fun M1 => ∃ r1 v1 : Nat → Nat, (∀ j, j < 66 → r1 j < 33554432) ∧ (∀ j, j < 66 → v1 j < 33554432) ∧ wn_post E (hm_up (hm_up M lv (hm_I E 66 (fun j => nI (v1 j)))) lr (hm_I E 66 (fun j => nI (r1 j)))) q la n (dz za zb) M1) := by
  intro sz
  refine Met.ofW (cc := cX0_divide) (maxL := 8) (ret := none) (by decide) rfl ?_
  intro p e s m args below meth c s₁ B hml hv
  obtain ⟨rfl, hAe, hA, hK, hV⟩ := hm_start hv
  have hx := B.exec
  have hb := B.bytes
  have hr := B.returns
  have hts := atoms_spec (ws := wd_X0_divide) B.pre
  have hws : ∀ w ∈ hm_ws, w.before _ s = true := fun w h => hts w (List.mem_cons_of_mem _ h)
  have hown : s.vm.findClass RX0 = some m.cls := findClass_of_methodNamed B.named
  have hlocks := B.notSynchronized
  have fl15 := hws _ kw_96
  have fl9 := hws _ kw_95
  have hl := lv_entry ([.ref dv, .ref a, .ref b, .ref q]) (n := 8) (Nat.le_of_ble_eq_true rfl)
  rw [lg_entry_eq]
  generalize (lg_sl ([.ref dv, .ref a, .ref b, .ref q]) ++ List.replicate (8 - (lg_sl ([.ref dv, .ref a, .ref b, .ref q])).length) Slot.unset).toArray = ls at hl ⊢
  have hl : lv_has ls 8 [(0, .ref dv), (1, .ref a), (2, .ref b), (3, .ref q)] := hl
  refine hm_gen (rm := rm_X0_divide) rfl (fun Qf hQf => ?_)
  have hkb0 := dv_kb0 hob hzb0
  have kz : hid (zb ≠ 0) := hzb0
  clear hzb0
  have hoa1 := hoa.1
  have hoa2 := hoa.2.1
  have hob1 := hob.1
  have hob2 := hob.2.1
  have ktop : hid (db (kb - 1) ≠ 0) := hob.2.2.1 hkb0
  have ksgn : hid (_ ∧ _) := dz_sg (v := za.natAbs / zb.natAbs) hoa.2.2.2.2 hob.2.2.2.2 rfl
  have hq_lr : hm_ap q lr := hm_oa hwq hlr
  have hq_lv : hm_ap q lv := hm_oa hwq hlv
  have hq_la : hm_ap q la := hm_oa hwq haq
  have ha_lr : hm_ap a lr := hm_oa hwa hlr
  have ha_lv : hm_ap a lv := hm_oa hwa hlv
  have ha_la : hm_ap a la := hm_oa hwa haq
  have hb_lr : hm_ap b lr := hm_oa hwb hlr
  have hb_lv : hm_ap b lv := hm_oa hwb hlv
  have hb_la : hm_ap b la := hm_oa hwb haq
  have hdv_lr : hm_ap dv lr := hm_oa hdv hlr
  have hdv_lv : hm_ap dv lv := hm_oa hdv hlv
  have hdv_la : hm_ap dv la := hm_oa hdv haq
  have hdv_q : hm_ap dv q := by
    intro e9
    rw [e9, hwq] at hdv
    have e8 := congrArg Prod.fst (Sum.inr.inj (Option.some.inj hdv))
    exact absurd (show (4 : Nat) = 2 from e8) (by decide)
  have hrq : hm_ap ra q := Ne.symm (hm_oa hwq haa)
  have hrbq : hm_ap rb q := Ne.symm (hm_oa hwq hab)
  have hV : hm_V E.1 vwCl (hm_A M sz) s.heap (hm_up M lv (hm_I E 66 (fun j => nI (v j)))) s.heap [] := by rw [hm_up_id (hlv)]; exact hV
  have hV : hm_V E.1 vwCl (hm_A M sz) s.heap (hm_up (hm_up M lv (hm_I E 66 (fun j => nI (v j)))) lr (hm_I E 66 (fun j => nI (r j)))) s.heap [] := by rw [hm_up_id (((hm_up_ne _ _ (Ne.symm h_lv_lr)).trans hlr))]; exact hV
  have zero : (dz za zb = 0) → ∀ (ls : Array Slot) (H : Heap) (locs : List Loc), lv_has ls 8 [(0, .ref dv), (1, .ref a), (2, .ref b), (3, .ref q)] → hm_V E.1 vwCl (hm_A M sz) s.heap (hm_up (hm_up M lv (hm_I E 66 (fun j => nI (v j)))) lr (hm_I E 66 (fun j => nI (r j)))) H locs → W p l e rm_X0_divide s m [.ref dv, .ref a, .ref b, .ref q].toArray below meth c H locs 0 0 Qf (F0 m 45 ls []) := by
    intro  hzq ls H locs hl hV
    refine lv_aload_n hx hb dX0_divide_45 rfl (lv_at hl 3 rfl) ?_
    refine lv_lconst (v := 0) hx hb dX0_divide_46 (by decide) ?_
    refine hm_callv (va_runV (As := [.long 0]) (rest := []) ⟨hx, hb, hml, hown, hts⟩ (c_X2_setLong l E (v := 0) ((hm_up_ne _ _ hq_lr).trans ((hm_up_ne _ _ hq_lv).trans hwq)) ((hm_up_ne _ _ h_la_lr).trans ((hm_up_ne _ _ h_la_lv).trans haq)) hd h3 hn H.size) (cwV 1 hts (hm_gV kw_263 kw_133 kw_134 kw_38 kw_135) rfl rfl rfl (by decide +kernel) ⟨Nat.le_of_ble_eq_true rfl, Nat.le_of_ble_eq_true rfl⟩) (hm_preV hK hV ((hm_up_ne _ _ hq_lr).trans ((hm_up_ne _ _ hq_lv).trans hwq)) rfl) rfl rfl hl.1 rfl (lv_room (Nat.le_of_ble_eq_true rfl)) dX0_divide_47 ⟨Nat.le_of_ble_eq_true rfl, Nat.le_of_ble_eq_true rfl⟩) hV hA (fun M1 H locs hp hV => ?_)
    obtain ⟨d1, k1, g1, rfl, hp1⟩ := hp
    have hV : hm_V E.1 vwCl (hm_A M sz) s.heap (hm_up (hm_up (hm_up (hm_up M lv (hm_I E 66 (fun j => nI (v j)))) lr (hm_I E 66 (fun j => nI (r j)))) la (hm_I E n (fun j => nI (d1 j)))) q (.inr (4, [.ref la, .int (nI k1), .int g1]))) H locs := hV
    rw [hQf]
    exact W.vret hx hb hr (fun t ht hW => ⟨⟨_, rfl, ⟨r, v, hrb, hvb, _, _, _, rfl, by rw [hzq]; exact hp1⟩, (hm_end hV ht).1⟩, (hm_end hV ht).2⟩) hV.2.2.2.2 dX0_divide_50
  refine lv_aload_n hx hb dX0_divide_0 rfl (lv_at hl 1 rfl) ?_
  refine hm_getN (ci := 4) (v := .int (nI ka)) (C := RX2) (T := TX2) (N := 3) hx hb hws kin_X2 hown hK.1 hV ((hm_up_ne _ _ ha_lr).trans ((hm_up_ne _ _ ha_lv).trans hwa)) rfl 1 (by decide) (va_Nw.use rfl (hK.2.1 _ (List.mem_of_getElem? (i := 0) rfl))) (fun _ h9 => h9) rfl dX0_divide_1 ?_
  refine lv_aload_n hx hb dX0_divide_4 rfl (lv_at hl 2 rfl) ?_
  refine hm_getN (ci := 4) (v := .int (nI kb)) (C := RX2) (T := TX2) (N := 3) hx hb hws kin_X2 hown hK.1 hV ((hm_up_ne _ _ hb_lr).trans ((hm_up_ne _ _ hb_lv).trans hwb)) rfl 1 (by decide) (va_Nw.use rfl (hK.2.1 _ (List.mem_of_getElem? (i := 0) rfl))) (fun _ h9 => h9) rfl dX0_divide_5 ?_
  refine lv_isub hx hb dX0_divide_8 ?_
  refine hm_topi (show ((nI ka) - (nI kb)) = iZ ((ka : Int) - kb) from (by rw [iZ_nI, iZ_nI, iZ_sub])) ?_
  refine lv_iconst (v := 1) hx hb dX0_divide_9 (by decide) ?_
  refine lv_iadd hx hb dX0_divide_10 ?_
  refine hm_topi (show ((iZ ((ka : Int) - kb)) + 1) = iZ ((ka : Int) - kb + 1) from iZ_add _ 1) ?_
  refine lv_istore (lv' := [(4, .int (iZ ((ka : Int) - kb + 1))), (0, .ref dv), (1, .ref a), (2, .ref b), (3, .ref q)]) hx hb dX0_divide_11 hl (by decide) rfl (fun ls hl => ?_)
  refine lv_aload_n hx hb dX0_divide_13 rfl (lv_at hl 3 rfl) ?_
  refine hm_calli (va_runV (As := []) (rest := []) ⟨hx, hb, hml, hown, hts⟩ (c_X2_isZero l E ((hm_up_ne _ _ hb_lr).trans ((hm_up_ne _ _ hb_lv).trans hwb)) (by omega) s.heap.size) (cwV 0 hts (hm_gV kw_262 kw_224 kw_225 kw_38 kw_226) rfl rfl rfl (by decide +kernel) ⟨Nat.le_of_ble_eq_true rfl, Nat.le_of_ble_eq_true rfl⟩) (hm_preV hK hV ((hm_up_ne _ _ hb_lr).trans ((hm_up_ne _ _ hb_lv).trans hwb)) rfl) rfl rfl hl.1 rfl (lv_room (Nat.le_of_ble_eq_true rfl)) dX0_divide_14 ⟨Nat.le_of_ble_eq_true rfl, Nat.le_of_ble_eq_true rfl⟩) hV hA (fun r14 M1 H locs hp hV => ?_)
  obtain ⟨hr14, hM1⟩ := hp
  rw [hM1] at hV
  rw [if_neg (by omega)] at hr14
  refine lv_if_ne (tgt := 45) hx hb dX0_divide_17 (by decide) (fun c17 => ?_) (fun c17 => ?_)
  · exact absurd hr14 c17
  · refine lv_iload hx hb dX0_divide_20 (lv_at hl 0 rfl) ?_
    refine lv_iconst (v := 1) hx hb dX0_divide_22 (by decide) ?_
    refine lv_icmp_lt (tgt := 45) hx hb dX0_divide_23 (by decide) (fun c23 => ?_) (fun c23 => ?_)
    · have hlt : ka < kb := by
        have h9 := Int32.lt_iff_toInt_lt.mp c23
        rw [iZ_toInt (by omega) (by omega)] at h9
        have h8 : (1 : Int32).toInt = 1 := by decide
        omega
      have hzz : dz za zb = 0 := dv_zero hoa hob hlt
      exact zero hzz ls H locs (lv_sub hl [1, 2, 3, 4] rfl) hV
    · have hge : kb ≤ ka := by
        rcases Nat.lt_or_ge ka kb with e9 | e9
        · exfalso
          refine c23 (Int32.lt_iff_toInt_lt.mpr ?_)
          rw [iZ_toInt (by omega) (by omega)]
          have h8 : (1 : Int32).toInt = 1 := by decide
          omega
        · exact e9
      obtain ⟨tp, htp⟩ : ∃ tp, tp = ka - kb + 1 := ⟨_, rfl⟩
      rw [show (iZ ((ka : Int) - kb + 1)) = nI tp from (by rw [iZ_nI]; congr 1; omega)] at hl
      have hl : lv_has ls 8 [(4, .int (nI tp)), (0, .ref dv), (1, .ref a), (2, .ref b), (3, .ref q)] := hl
      refine lv_iload hx hb dX0_divide_26 (lv_at hl 0 rfl) ?_
      refine lv_aload_n hx hb dX0_divide_28 rfl (lv_at hl 4 rfl) ?_
      refine hm_getN (ci := 4) (v := .ref la) (C := RX2) (T := TX2) (N := 3) hx hb hws kin_X2 hown hK.1 hV ((hm_up_ne _ _ hq_lr).trans ((hm_up_ne _ _ hq_lv).trans hwq)) rfl 0 (by decide) (va_Nw.use rfl (hK.2.1 _ (List.mem_of_getElem? (i := 1) rfl))) (fun _ h9 => h9) rfl dX0_divide_29 ?_
      refine hm_alen (v := nI n) hx hb hK.1 hV 0 ((hm_up_ne _ _ h_la_lr).trans ((hm_up_ne _ _ h_la_lv).trans haq)) rfl rfl dX0_divide_32 ?_
      refine lv_icmp_gt (tgt := 45) hx hb dX0_divide_33 (by decide) (fun c33 => ?_) (fun c33 => ?_)
      · exact absurd c33 (nI_nlt (by omega) (by omega))
      · refine lv_aload_n hx hb dX0_divide_36 rfl (lv_at hl 2 rfl) ?_
        refine hm_getN (ci := 4) (v := .int (nI ka)) (C := RX2) (T := TX2) (N := 3) hx hb hws kin_X2 hown hK.1 hV ((hm_up_ne _ _ ha_lr).trans ((hm_up_ne _ _ ha_lv).trans hwa)) rfl 1 (by decide) (va_Nw.use rfl (hK.2.1 _ (List.mem_of_getElem? (i := 0) rfl))) (fun _ h9 => h9) rfl dX0_divide_37 ?_
        refine lv_bipush (v := 65) hx hb dX0_divide_40 (by decide) ?_
        refine lv_icmp_le (tgt := 51) hx hb dX0_divide_42 (by decide) (fun c42 => ?_) (fun c42 => ?_)
        · have main : ∀ (sg : Int32), (hid ((if sg = 0 then ((za.natAbs / zb.natAbs : Nat) : Int) else -((za.natAbs / zb.natAbs : Nat) : Int)) = dz za zb)) → ∀ (ls : Array Slot) (H : Heap) (locs : List Loc), lv_has ls 8 [(4, .int (nI tp)), (0, .ref dv), (1, .ref a), (2, .ref b), (3, .ref q)] → hm_V E.1 vwCl (hm_A M sz) s.heap (hm_up (hm_up M lv (hm_I E 66 (fun j => nI (v j)))) lr (hm_I E 66 (fun j => nI (r j)))) H locs → W p l e rm_X0_divide s m [.ref dv, .ref a, .ref b, .ref q].toArray below meth c H locs 0 0 Qf (F0 m 67 ls [.int sg]) := by
            intro sg hsg ls H locs hl hV
            refine lv_istore (lv' := [(5, .int sg), (4, .int (nI tp)), (0, .ref dv), (1, .ref a), (2, .ref b), (3, .ref q)]) hx hb dX0_divide_67 hl (by decide) rfl (fun ls hl => ?_)
            refine lv_aload_n hx hb dX0_divide_69 rfl (lv_at hl 4 rfl) ?_
            refine hm_getN (ci := 4) (v := .int (nI kb)) (C := RX2) (T := TX2) (N := 3) hx hb hws kin_X2 hown hK.1 hV ((hm_up_ne _ _ hb_lr).trans ((hm_up_ne _ _ hb_lv).trans hwb)) rfl 1 (by decide) (va_Nw.use rfl (hK.2.1 _ (List.mem_of_getElem? (i := 0) rfl))) (fun _ h9 => h9) rfl dX0_divide_70 ?_
            refine lv_iconst (v := 1) hx hb dX0_divide_73 (by decide) ?_
            refine lv_icmp_ne (tgt := 104) hx hb dX0_divide_74 (by decide) (fun c74 => ?_) (fun c74 => ?_)
            · have hk2 : 2 ≤ kb := by
                have : kb ≠ 1 := fun e => c74 (by rw [e]; rfl)
                omega
              obtain ⟨m2, hm2⟩ : ∃ m2, kb = m2 + 2 := ⟨kb - 2, by omega⟩
              refine lv_bipush (v := 24) hx hb dX0_divide_104 (by decide) ?_
              refine lv_aload_n hx hb dX0_divide_106 rfl (lv_at hl 4 rfl) ?_
              refine hm_getN (ci := 4) (v := .ref rb) (C := RX2) (T := TX2) (N := 3) hx hb hws kin_X2 hown hK.1 hV ((hm_up_ne _ _ hb_lr).trans ((hm_up_ne _ _ hb_lv).trans hwb)) rfl 0 (by decide) (va_Nw.use rfl (hK.2.1 _ (List.mem_of_getElem? (i := 1) rfl))) (fun _ h9 => h9) rfl dX0_divide_107 ?_
              refine lv_aload_n hx hb dX0_divide_110 rfl (lv_at hl 4 rfl) ?_
              refine hm_getN (ci := 4) (v := .int (nI kb)) (C := RX2) (T := TX2) (N := 3) hx hb hws kin_X2 hown hK.1 hV ((hm_up_ne _ _ hb_lr).trans ((hm_up_ne _ _ hb_lv).trans hwb)) rfl 1 (by decide) (va_Nw.use rfl (hK.2.1 _ (List.mem_of_getElem? (i := 0) rfl))) (fun _ h9 => h9) rfl dX0_divide_111 ?_
              refine lv_iconst (v := 1) hx hb dX0_divide_114 (by decide) ?_
              refine lv_isub hx hb dX0_divide_115 ?_
              refine hm_topi (show ((nI kb) - 1) = nI (kb - 1) from (by rw [show kb = kb - 1 + 1 by omega]; exact nI_pred (kb - 1))) ?_
              refine hm_ialdN hx hb hK.1 hV 0 ((hm_up_ne _ _ h_rb_lr).trans ((hm_up_ne _ _ h_rb_lv).trans hab)) rfl (k := (kb - 1)) (by omega) (by omega) dX0_divide_116 ?_
              refine hm_calli (va_runSN (As := [.int (nI (db (kb - 1)))]) (rest := [.int 24]) ⟨hx, hb, hml, hown, hts⟩ (c_X3_highestBit l E (M := (hm_up (hm_up M lv (hm_I E 66 (fun j => nI (v j)))) lr (hm_I E 66 (fun j => nI (r j))))) (n := db (kb - 1)) (Nat.pos_of_ne_zero ktop) (by have := hob2 (kb - 1) (by omega); omega) H.size) ⟨(va_cnB 1 hts (hm_gI kw_269) rfl rfl rfl (hK.2.2 _ (List.mem_of_getElem? (i := 2) rfl)) (hws _ kw_37) (by decide +kernel) ⟨Nat.le_of_ble_eq_true rfl, Nat.le_of_ble_eq_true rfl⟩), hws _ kw_268, trivial⟩ (hm_preS hK hV) rfl rfl hl.1 rfl (lv_room (Nat.le_of_ble_eq_true rfl)) dX0_divide_117 ⟨Nat.le_of_ble_eq_true rfl, Nat.le_of_ble_eq_true rfl⟩) hV hA (fun r117 M1 H locs hp hV => ?_)
              obtain ⟨⟨h, hh0, hr117, hh1, hh2⟩, hM1⟩ := hp
              rw [hM1] at hV
              have hh24 : h ≤ 24 := by
                rcases Nat.lt_or_ge 24 h with e9 | e9
                · have h8 : 2 ^ 25 ≤ 2 ^ h := Nat.pow_le_pow_right (by decide) e9
                  have := hob2 (kb - 1) (by omega)
                  omega
                · exact e9
              obtain ⟨sh, hsh⟩ : ∃ sh, h + sh = 24 := ⟨24 - h, by omega⟩
              refine hm_topi (show r117 = nI h from hr117) ?_
              refine lv_isub hx hb dX0_divide_120 ?_
              refine hm_topi (show (24 - (nI h)) = nI sh from (show nI 24 - nI h = nI sh from (pk_sub hh24).trans (by congr 1; omega))) ?_
              refine lv_istore (lv' := [(6, .int (nI sh)), (5, .int sg), (4, .int (nI tp)), (0, .ref dv), (1, .ref a), (2, .ref b), (3, .ref q)]) hx hb dX0_divide_121 hl (by decide) rfl (fun ls hl => ?_)
              refine lv_aload_n hx hb dX0_divide_123 rfl (lv_at hl 3 rfl) ?_
              refine hm_get (ci := 2) (v := .ref lv) (C := RX0) (T := TX0) (N := 2) hx hb hws kin_X0 hown hK.1 hV ((hm_up_ne _ _ hdv_lr).trans ((hm_up_ne _ _ hdv_lv).trans hdv)) rfl 1 (by decide) fl15 (fun _ h9 => h9) rfl dX0_divide_124 ?_
              refine lv_aload_n hx hb dX0_divide_127 rfl (lv_at hl 5 rfl) ?_
              refine lv_iload hx hb dX0_divide_128 (lv_at hl 0 rfl) ?_
              refine hm_callv (va_runS (As := [.ref lv, .ref b, .int (nI sh)]) (rest := []) ⟨hx, hb, hml, hown, hts⟩ (c_X0_shiftInto l E (z := zb) (sh := sh) ((hm_up_ne _ _ h_lv_lr).trans (hm_up_self _ _ _)) hvb ((hm_up_ne _ _ hb_lr).trans ((hm_up_ne _ _ hb_lv).trans hwb)) ((hm_up_ne _ _ h_rb_lr).trans ((hm_up_ne _ _ h_rb_lv).trans hab)) hob h_rb_lv (by omega) hnb (by omega) H.size) (va_cwS 3 hts (hm_gS kw_274 kw_275 kw_40 kw_276) rfl rfl rfl (by decide +kernel) ⟨Nat.le_of_ble_eq_true rfl, Nat.le_of_ble_eq_true rfl⟩) (hm_preS hK hV) rfl rfl hl.1 rfl (lv_room (Nat.le_of_ble_eq_true rfl)) dX0_divide_130 ⟨Nat.le_of_ble_eq_true rfl, Nat.le_of_ble_eq_true rfl⟩) hV hA (fun M1 H locs hp hV => ?_)
              obtain ⟨ev, rfl, heb, heV⟩ := hp
              have knorm : hid (_ ∧ _ ∧ _) := kn_norm hkb0 (fun j hj => hob2 j (by omega)) hob.2.2.2.1 hh1 hh2 hsh (fun j hj => heb j (by omega)) heV
              clear heV hh1 hh2
              rw [hm_u1 (Ne.symm h_lv_lr)] at hV
              have hV : hm_V E.1 vwCl (hm_A M sz) s.heap (hm_up (hm_up M lv (hm_I E 66 (fun j => nI (ev j)))) lr (hm_I E 66 (fun j => nI (r j)))) H locs := hV
              refine lv_aload_n hx hb dX0_divide_133 rfl (lv_at hl 3 rfl) ?_
              refine hm_get (ci := 2) (v := .ref lr) (C := RX0) (T := TX0) (N := 2) hx hb hws kin_X0 hown hK.1 hV ((hm_up_ne _ _ hdv_lr).trans ((hm_up_ne _ _ hdv_lv).trans hdv)) rfl 0 (by decide) fl9 (fun _ h9 => h9) rfl dX0_divide_134 ?_
              refine lv_aload_n hx hb dX0_divide_137 rfl (lv_at hl 4 rfl) ?_
              refine lv_iload hx hb dX0_divide_138 (lv_at hl 0 rfl) ?_
              refine hm_callv (va_runS (As := [.ref lr, .ref a, .int (nI sh)]) (rest := []) ⟨hx, hb, hml, hown, hts⟩ (c_X0_shiftInto l E (z := za) (sh := sh) (hm_up_self _ _ _) hrb ((hm_up_ne _ _ ha_lr).trans ((hm_up_ne _ _ ha_lv).trans hwa)) ((hm_up_ne _ _ h_ra_lr).trans ((hm_up_ne _ _ h_ra_lv).trans haa)) hoa h_ra_lr hka hna (by omega) H.size) (va_cwS 3 hts (hm_gS kw_274 kw_275 kw_40 kw_276) rfl rfl rfl (by decide +kernel) ⟨Nat.le_of_ble_eq_true rfl, Nat.le_of_ble_eq_true rfl⟩) (hm_preS hK hV) rfl rfl hl.1 rfl (lv_room (Nat.le_of_ble_eq_true rfl)) dX0_divide_140 ⟨Nat.le_of_ble_eq_true rfl, Nat.le_of_ble_eq_true rfl⟩) hV hA (fun M1 H locs hp hV => ?_)
              obtain ⟨u, rfl, hub, huU⟩ := hp
              rw [hm_u0] at hV
              have hV : hm_V E.1 vwCl (hm_A M sz) s.heap (hm_up (hm_up M lv (hm_I E 66 (fun j => nI (ev j)))) lr (hm_I E 66 (fun j => nI (u j)))) H locs := hV
              obtain ⟨U, V, hVn, hV0, hQ, hUtop, hud, hUt⟩ := dv_main hoa hob kz hge htp (fun j hj => hub j (by omega)) huU knorm.1
              clear huU
              have kQ : hid (U / V = za.natAbs / zb.natAbs) := hQ
              clear hQ
              have hled : 16777216 ≤ ev (kb - 1) := knorm.2.1
              refine lv_iload hx hb dX0_divide_143 (lv_at hl 2 rfl) ?_
              refine lv_iconst (v := 1) hx hb dX0_divide_145 (by decide) ?_
              refine lv_isub hx hb dX0_divide_146 ?_
              refine hm_topi (show ((nI tp) - 1) = nP tp from nP_sub tp) ?_
              refine lv_istore (lv' := [(7, .int (nP tp)), (6, .int (nI sh)), (5, .int sg), (4, .int (nI tp)), (0, .ref dv), (1, .ref a), (2, .ref b), (3, .ref q)]) hx hb dX0_divide_147 hl (by decide) rfl (fun ls hl => ?_)
              have hV : hm_V E.1 vwCl (hm_A M sz) s.heap (hm_up (hm_up (hm_up M lv (hm_I E 66 (fun j => nI (ev j)))) lr (hm_I E 66 (fun j => nI (u j)))) la (hm_I E n (fun j => nI (if tp ≤ j ∧ j < tp then U / V / 33554432 ^ j % 33554432 else d j)))) H locs := by rw [hm_up_id ((((hm_up_ne _ _ h_la_lr).trans ((hm_up_ne _ _ h_la_lv).trans haq))).trans (congrArg (fun f9 => some (hm_I E n f9)) (nu_dn0 (fun j => U / V / 33554432 ^ j % 33554432) d tp)))]; exact hV
              have loop : ∀ (fu : Nat) (t : Nat) (y : Nat → Nat), (t ≤ tp) → (∀ j, j < 66 → y j < 33554432) → (∀ j, j < t → y j = u j) → (nu_v 33554432 (nu_w y t) kb = U / 33554432 ^ t % V) → t < fu → ∀ (ls : Array Slot) (H : Heap) (locs : List Loc), lv_has ls 8 [(0, .ref dv), (1, .ref a), (2, .ref b), (3, .ref q), (4, .int (nI tp)), (5, .int sg), (7, .int (nP t))] → hm_V E.1 vwCl (hm_A M sz) s.heap (hm_up (hm_up (hm_up M lv (hm_I E 66 (fun j => nI (ev j)))) lr (hm_I E 66 (fun j => nI (y j)))) la (hm_I E n (fun j => nI (if t ≤ j ∧ j < tp then U / V / 33554432 ^ j % 33554432 else d j)))) H locs → W p l e rm_X0_divide s m [.ref dv, .ref a, .ref b, .ref q].toArray below meth c H locs 0 0 Qf (F0 m 149 ls []) := by
                intro fu
                induction fu with
                | zero => intro t y ht hyb hyu hyv hfu; exact absurd hfu (Nat.not_lt_zero _)
                | succ fu ih_loop =>
                  intro t y ht hyb hyu hyv hfu ls H locs hl hV
                  refine lv_iload hx hb dX0_divide_149 (lv_at hl 6 rfl) ?_
                  refine lv_if_lt (tgt := 177) hx hb dX0_divide_151 (by decide) (fun c151 => ?_) (fun c151 => ?_)
                  · have ht0 : t = 0 := by
                      cases t with
                      | zero => rfl
                      | succ j => exact absurd c151 (nI_pos (by omega))
                    subst ht0
                    refine lv_aload_n hx hb dX0_divide_177 rfl (lv_at hl 3 rfl) ?_
                    refine lv_iload hx hb dX0_divide_178 (lv_at hl 4 rfl) ?_
                    refine lv_iload hx hb dX0_divide_180 (lv_at hl 5 rfl) ?_
                    refine hm_callv (va_runVN (As := [.int (nI tp), .int sg]) (rest := []) ⟨hx, hb, hml, hown, hts⟩ (c_X2_finish l E (d := (fun j => if 0 ≤ j ∧ j < tp then U / V / 33554432 ^ j % 33554432 else d j)) (t := tp) (sg := sg) ((hm_up_ne _ _ hq_la).trans ((hm_up_ne _ _ hq_lr).trans ((hm_up_ne _ _ hq_lv).trans hwq))) (hm_up_self _ _ _) (by omega) (by omega) (fun j hj => by show (if 0 ≤ j ∧ j < tp then _ else _) < _; rw [if_pos ⟨Nat.zero_le j, hj⟩]; have := Nat.mod_lt (U / V / 33554432 ^ j) (show 0 < 33554432 by decide); omega) H.size) ⟨(va_cnB 2 hts (hm_gI kw_143) rfl rfl rfl (hK.2.2 _ (List.mem_of_getElem? (i := 1) rfl)) (hws _ kw_38) (by decide +kernel) ⟨Nat.le_of_ble_eq_true rfl, Nat.le_of_ble_eq_true rfl⟩), hws _ kw_142, hws _ kw_1⟩ (hm_preV hK hV ((hm_up_ne _ _ hq_la).trans ((hm_up_ne _ _ hq_lr).trans ((hm_up_ne _ _ hq_lv).trans hwq))) rfl) rfl rfl hl.1 rfl (lv_room (Nat.le_of_ble_eq_true rfl)) dX0_divide_182 ⟨Nat.le_of_ble_eq_true rfl, Nat.le_of_ble_eq_true rfl⟩) hV hA (fun M1 H locs hp hV => ?_)
                    subst hp
                    have hV : hm_V E.1 vwCl (hm_A M sz) s.heap (hm_up (hm_up (hm_up (hm_up M lv (hm_I E 66 (fun j => nI (ev j)))) lr (hm_I E 66 (fun j => nI (y j)))) la (hm_I E n (fun j => nI (if 0 ≤ j ∧ j < tp then U / V / 33554432 ^ j % 33554432 else d j)))) q (.inr (4, [.ref la, .int (nI (nu_k (fun j => if 0 ≤ j ∧ j < tp then U / V / 33554432 ^ j % 33554432 else d j) tp)), .int (if sg = 0 then 0 else if nu_k (fun j => if 0 ≤ j ∧ j < tp then U / V / 33554432 ^ j % 33554432 else d j) tp = 0 then 0 else 1)]))) H locs := hV
                    have hfin := wn_fin (n := n) (top := tp) (d := (fun j => if 0 ≤ j ∧ j < tp then U / V / 33554432 ^ j % 33554432 else d j)) (sg := sg) (by omega) (fun j hj => by
                      show (if 0 ≤ j ∧ j < tp then _ else _) < _
                      split
                      · exact Nat.mod_lt _ (by decide)
                      · exact hd j hj)
                    rw [nu_if2, nu_dig (by decide), Nat.mod_eq_of_lt ((Nat.div_lt_iff_lt_mul hV0).mpr (by rw [Nat.mul_comm]; exact hUtop)), show (if sg = 0 then ((U / V : Nat) : Int) else -((U / V : Nat) : Int)) = dz za zb from by rw [show U / V = za.natAbs / zb.natAbs from kQ]; exact hsg] at hfin
                    rw [hQf]
                    exact W.vret hx hb hr (fun t ht hW => ⟨⟨_, rfl, ⟨y, ev, hyb, heb, _, _, _, rfl, hfin⟩, (hm_end hV ht).1⟩, (hm_end hV ht).2⟩) hV.2.2.2.2 dX0_divide_185
                  · obtain ⟨j, rfl⟩ : ∃ j, t = j + 1 := by
                      cases t with
                      | zero => exact absurd (show nP 0 < 0 from by decide) c151
                      | succ j => exact ⟨j, rfl⟩
                    have hl : lv_has ls 8 [(0, .ref dv), (1, .ref a), (2, .ref b), (3, .ref q), (4, .int (nI tp)), (5, .int sg), (7, .int (nI j))] := hl
                    have hst := dv_step (B := 33554432) (V := U) (i := j) (q := V) (by decide) hV0
                    rw [hud j (by omega)] at hst
                    have hRw : nu_v 33554432 (nu_w y j) (kb + 1) = U / 33554432 ^ (j + 1) % V * 33554432 + u j := by rw [nu_lowd, hyv, hyu j (by omega)]
                    have hmlt := Nat.mod_lt (U / 33554432 ^ (j + 1)) hV0
                    have huj := hub j (by omega)
                    have hRV : nu_v 33554432 (nu_w y j) (m2 + 2 + 1) < nu_v 33554432 ev (m2 + 2) * 33554432 := by
                      rw [← hm2, hRw, hVn]
                      omega
                    have hlead : 16777216 ≤ ev (m2 + 1) := by rw [hm2] at hled; exact hled
                    refine lv_aload_n hx hb dX0_divide_154 rfl (lv_at hl 3 rfl) ?_
                    refine hm_getN (ci := 4) (v := .ref la) (C := RX2) (T := TX2) (N := 3) hx hb hws kin_X2 hown hK.1 hV ((hm_up_ne _ _ hq_la).trans ((hm_up_ne _ _ hq_lr).trans ((hm_up_ne _ _ hq_lv).trans hwq))) rfl 0 (by decide) (va_Nw.use rfl (hK.2.1 _ (List.mem_of_getElem? (i := 1) rfl))) (fun _ h9 => h9) rfl dX0_divide_155 ?_
                    refine lv_iload hx hb dX0_divide_158 (lv_at hl 6 rfl) ?_
                    refine lv_aload_n hx hb dX0_divide_160 rfl (lv_at hl 0 rfl) ?_
                    refine lv_iload hx hb dX0_divide_161 (lv_at hl 6 rfl) ?_
                    refine lv_aload_n hx hb dX0_divide_163 rfl (lv_at hl 2 rfl) ?_
                    refine hm_getN (ci := 4) (v := .int (nI kb)) (C := RX2) (T := TX2) (N := 3) hx hb hws kin_X2 hown hK.1 hV ((hm_up_ne _ _ hb_la).trans ((hm_up_ne _ _ hb_lr).trans ((hm_up_ne _ _ hb_lv).trans hwb))) rfl 1 (by decide) (va_Nw.use rfl (hK.2.1 _ (List.mem_of_getElem? (i := 0) rfl))) (fun _ h9 => h9) rfl dX0_divide_164 ?_
                    refine hm_topi (show nI kb = nI (m2 + 2) from by rw [hm2]) ?_
                    refine hm_calli (va_runV (As := [.int (nI j), .int (nI (m2 + 2))]) (rest := [.int (nI j), .ref la]) ⟨hx, hb, hml, hown, hts⟩ (c_X0_nextLimb l E (r := y) (v := ev) (ps := j) (m2 := m2) ((hm_up_ne _ _ hdv_la).trans ((hm_up_ne _ _ hdv_lr).trans ((hm_up_ne _ _ hdv_lv).trans hdv))) ((hm_up_ne _ _ (Ne.symm h_la_lr)).trans (hm_up_self _ _ _)) ((hm_up_ne _ _ (Ne.symm h_la_lv)).trans ((hm_up_ne _ _ h_lv_lr).trans (hm_up_self _ _ _))) hyb heb h_lv_lr (by omega) hlead hRV H.size) (cwV 2 hts (hm_gV kw_279 kw_281 kw_11 kw_40 kw_282) rfl rfl rfl (by decide +kernel) ⟨Nat.le_of_ble_eq_true rfl, Nat.le_of_ble_eq_true rfl⟩) (hm_preV hK hV ((hm_up_ne _ _ hdv_la).trans ((hm_up_ne _ _ hdv_lr).trans ((hm_up_ne _ _ hdv_lv).trans hdv))) rfl) rfl rfl hl.1 rfl (lv_room (Nat.le_of_ble_eq_true rfl)) dX0_divide_167 ⟨Nat.le_of_ble_eq_true rfl, Nat.le_of_ble_eq_true rfl⟩) hV hA (fun r167 M1 H locs hp hV => ?_)
                    obtain ⟨hr167, y1, rfl, hy1b, hy1u, hy1v⟩ := hp
                    rw [← hm2, hRw, hVn] at hr167 hy1v
                    rw [hst.1] at hr167
                    rw [hst.2] at hy1v
                    rw [hm_u1 h_la_lr] at hV
                    have hV : hm_V E.1 vwCl (hm_A M sz) s.heap (hm_up (hm_up (hm_up M lv (hm_I E 66 (fun t => nI (ev t)))) lr (hm_I E 66 (fun t => nI (y1 t)))) la (hm_I E n (fun t => nI (if j + 1 ≤ t ∧ t < tp then U / V / 33554432 ^ t % 33554432 else d t)))) H locs := hV
                    refine hm_topi (show r167 = nI (U / V / 33554432 ^ j % 33554432) from hr167) ?_
                    refine hm_iastN hx hb hK.1 hV 0 (hm_up_self _ _ _) rfl (k := j) (by omega) (by omega) dX0_divide_170 (fun H locs hV => ?_)
                    rw [show (upd (fun t => nI (if j + 1 ≤ t ∧ t < tp then U / V / 33554432 ^ t % 33554432 else d t)) j (nI (U / V / 33554432 ^ j % 33554432))) = (fun t => nI (if j ≤ t ∧ t < tp then U / V / 33554432 ^ t % 33554432 else d t)) from nu_dn (fun t => U / V / 33554432 ^ t % 33554432) d j tp (by omega)] at hV
                    rw [hm_u0] at hV
                    have hV : hm_V E.1 vwCl (hm_A M sz) s.heap (hm_up (hm_up (hm_up M lv (hm_I E 66 (fun t => nI (ev t)))) lr (hm_I E 66 (fun t => nI (y1 t)))) la (hm_I E n (fun t => nI (if j ≤ t ∧ t < tp then U / V / 33554432 ^ t % 33554432 else d t)))) H locs := hV
                    refine lv_iinc (v := (nP j)) (lv' := [(7, .int (nP j)), (0, .ref dv), (1, .ref a), (2, .ref b), (3, .ref q), (4, .int (nI tp)), (5, .int sg)]) hx hb dX0_divide_171 hl (k := 6) rfl (nP_dec j) (by decide) rfl (fun ls hl => ?_)
                    refine lv_goto (tgt := 149) hx hb dX0_divide_174 (by decide) ?_
                    exact ih_loop j y1 (by omega) hy1b (fun t h1 => by rw [hy1u t h1]; exact hyu t (by omega)) hy1v (by omega) ls H locs (lv_sub hl [1, 2, 3, 4, 5, 6, 0] rfl) hV
              exact loop (tp + 1) tp u (Nat.le_refl tp) hub (fun _ _ => rfl) hUt (by omega) ls H locs (lv_sub hl [4, 5, 6, 7, 3, 2, 0] rfl) hV
            · have hk1 : kb = 1 := (nI_eq (b := 1) (by omega) (by omega)).mp c74
              have hdb0 : zb.natAbs = db 0 := by
                rw [← hob.2.2.2.1, hk1, nu_v, nu_v, Nat.pow_zero, Nat.mul_one, Nat.zero_add]
              have hdbp : 0 < db 0 := by have h9 : db (kb - 1) ≠ 0 := ktop; rw [hk1] at h9; exact Nat.pos_of_ne_zero h9
              have kdb : hid (zb.natAbs = db 0) := hdb0
              clear hdb0
              refine lv_aload_n hx hb dX0_divide_77 rfl (lv_at hl 5 rfl) ?_
              refine lv_aload_n hx hb dX0_divide_78 rfl (lv_at hl 3 rfl) ?_
              refine hm_callv (va_runV (As := [.ref a]) (rest := []) ⟨hx, hb, hml, hown, hts⟩ (c_X2_copyFrom l E ((hm_up_ne _ _ hq_lr).trans ((hm_up_ne _ _ hq_lv).trans hwq)) ((hm_up_ne _ _ h_la_lr).trans ((hm_up_ne _ _ h_la_lv).trans haq)) hd ((hm_up_ne _ _ ha_lr).trans ((hm_up_ne _ _ ha_lv).trans hwa)) ((hm_up_ne _ _ h_ra_lr).trans ((hm_up_ne _ _ h_ra_lv).trans haa)) hoa (by omega) h_ra_la hn hna H.size) (cwV 1 hts (hm_gV kw_264 kw_153 kw_154 kw_38 kw_155) rfl rfl rfl (by decide +kernel) ⟨Nat.le_of_ble_eq_true rfl, Nat.le_of_ble_eq_true rfl⟩) (hm_preV hK hV ((hm_up_ne _ _ hq_lr).trans ((hm_up_ne _ _ hq_lv).trans hwq)) rfl) rfl rfl hl.1 rfl (lv_room (Nat.le_of_ble_eq_true rfl)) dX0_divide_79 ⟨Nat.le_of_ble_eq_true rfl, Nat.le_of_ble_eq_true rfl⟩) hV hA (fun M1 H locs hp hV => ?_)
              obtain ⟨d1, k1, g1, rfl, hp1⟩ := hp
              have hV : hm_V E.1 vwCl (hm_A M sz) s.heap (hm_up (hm_up (hm_up (hm_up M lv (hm_I E 66 (fun j => nI (v j)))) lr (hm_I E 66 (fun j => nI (r j)))) la (hm_I E n (fun j => nI (d1 j)))) q (.inr (4, [.ref la, .int (nI k1), .int g1]))) H locs := hV
              refine lv_aload_n hx hb dX0_divide_82 rfl (lv_at hl 5 rfl) ?_
              refine lv_aload_n hx hb dX0_divide_83 rfl (lv_at hl 4 rfl) ?_
              refine hm_getN (ci := 4) (v := .ref rb) (C := RX2) (T := TX2) (N := 3) hx hb hws kin_X2 hown hK.1 hV ((hm_up_ne _ _ h_b_q).trans ((hm_up_ne _ _ hb_la).trans ((hm_up_ne _ _ hb_lr).trans ((hm_up_ne _ _ hb_lv).trans hwb)))) rfl 0 (by decide) (va_Nw.use rfl (hK.2.1 _ (List.mem_of_getElem? (i := 1) rfl))) (fun _ h9 => h9) rfl dX0_divide_84 ?_
              refine lv_iconst (v := 0) hx hb dX0_divide_87 (by decide) ?_
              refine hm_topi (show 0 = nI 0 from rfl) ?_
              refine hm_ialdN hx hb hK.1 hV 0 ((hm_up_ne _ _ hrbq).trans ((hm_up_ne _ _ h_rb_la).trans ((hm_up_ne _ _ h_rb_lr).trans ((hm_up_ne _ _ h_rb_lv).trans hab)))) rfl (k := 0) (by omega) (by omega) dX0_divide_88 ?_
              refine hm_calli (va_runV (As := [.int (nI (db 0))]) (rest := []) ⟨hx, hb, hml, hown, hts⟩ (c_X2_divideBy l E (q := db 0) (hm_up_self _ _ _) ((hm_up_ne _ _ (Ne.symm hq_la)).trans (hm_up_self _ _ _)) hp1 hn hdbp (by have := hob2 0 (by omega); omega) H.size) (cwV 1 hts (hm_gV kw_265 kw_170 kw_171 kw_38 kw_172) rfl rfl rfl (by decide +kernel) ⟨Nat.le_of_ble_eq_true rfl, Nat.le_of_ble_eq_true rfl⟩) (hm_preV hK hV (hm_up_self _ _ _) rfl) rfl rfl hl.1 rfl (lv_room (Nat.le_of_ble_eq_true rfl)) dX0_divide_89 ⟨Nat.le_of_ble_eq_true rfl, Nat.le_of_ble_eq_true rfl⟩) hV hA (fun r89 M1 H locs hp hV => ?_)
              obtain ⟨hr89, d2, k2, g2, rfl, hp2⟩ := hp
              rw [hm_u1 hq_la] at hV
              rw [hm_u0] at hV
              have hV : hm_V E.1 vwCl (hm_A M sz) s.heap (hm_up (hm_up (hm_up (hm_up M lv (hm_I E 66 (fun j => nI (v j)))) lr (hm_I E 66 (fun j => nI (r j)))) la (hm_I E n (fun j => nI (d2 j)))) q (.inr (4, [.ref la, .int (nI k2), .int g2]))) H locs := hV
              refine lv_pop hx hb dX0_divide_92 rfl ?_
              refine lv_aload_n hx hb dX0_divide_93 rfl (lv_at hl 5 rfl) ?_
              refine lv_aload_n hx hb dX0_divide_94 rfl (lv_at hl 5 rfl) ?_
              refine hm_getN (ci := 4) (v := .int (nI k2)) (C := RX2) (T := TX2) (N := 3) hx hb hws kin_X2 hown hK.1 hV (hm_up_self _ _ _) rfl 1 (by decide) (va_Nw.use rfl (hK.2.1 _ (List.mem_of_getElem? (i := 0) rfl))) (fun _ h9 => h9) rfl dX0_divide_95 ?_
              refine lv_iload hx hb dX0_divide_98 (lv_at hl 0 rfl) ?_
              refine hm_callv (va_runVN (As := [.int (nI k2), .int sg]) (rest := []) ⟨hx, hb, hml, hown, hts⟩ (c_X2_finish l E (d := d2) (t := k2) (sg := sg) (hm_up_self _ _ _) ((hm_up_ne _ _ (Ne.symm hq_la)).trans (hm_up_self _ _ _)) (hp2.1) (by omega) (fun j hj => by have := hp2.2.1 j (by have := hp2.1; omega); omega) H.size) ⟨(va_cnB 2 hts (hm_gI kw_143) rfl rfl rfl (hK.2.2 _ (List.mem_of_getElem? (i := 1) rfl)) (hws _ kw_38) (by decide +kernel) ⟨Nat.le_of_ble_eq_true rfl, Nat.le_of_ble_eq_true rfl⟩), hws _ kw_142, hws _ kw_1⟩ (hm_preV hK hV (hm_up_self _ _ _) rfl) rfl rfl hl.1 rfl (lv_room (Nat.le_of_ble_eq_true rfl)) dX0_divide_100 ⟨Nat.le_of_ble_eq_true rfl, Nat.le_of_ble_eq_true rfl⟩) hV hA (fun M1 H locs hp hV => ?_)
              subst hp
              rw [hm_u0] at hV
              have hV : hm_V E.1 vwCl (hm_A M sz) s.heap (hm_up (hm_up (hm_up (hm_up M lv (hm_I E 66 (fun j => nI (v j)))) lr (hm_I E 66 (fun j => nI (r j)))) la (hm_I E n (fun j => nI (d2 j)))) q (.inr (4, [.ref la, .int (nI (nu_k d2 k2)), .int (if sg = 0 then 0 else if nu_k d2 k2 = 0 then 0 else 1)]))) H locs := hV
              have hfin := wn_fin (n := n) (top := k2) (d := d2) (sg := sg) hp2.1 hp2.2.1
              rw [hp2.2.2.2.1, qz_abs, ← (show zb.natAbs = db 0 from kdb), show (if sg = 0 then ((za.natAbs / zb.natAbs : Nat) : Int) else -((za.natAbs / zb.natAbs : Nat) : Int)) = dz za zb from hsg] at hfin
              rw [hQf]
              exact W.vret hx hb hr (fun t ht hW => ⟨⟨_, rfl, ⟨r, v, hrb, hvb, _, _, _, rfl, hfin⟩, (hm_end hV ht).1⟩, (hm_end hV ht).2⟩) hV.2.2.2.2 dX0_divide_103
          refine lv_aload_n hx hb dX0_divide_51 rfl (lv_at hl 2 rfl) ?_
          refine hm_getN (ci := 4) (v := .int ga) (C := RX2) (T := TX2) (N := 3) hx hb hws kin_X2 hown hK.1 hV ((hm_up_ne _ _ ha_lr).trans ((hm_up_ne _ _ ha_lv).trans hwa)) rfl 2 (by decide) (va_Nw.use rfl (hK.2.1 _ (List.mem_of_getElem? (i := 2) rfl))) (fun _ h9 => h9) rfl dX0_divide_52 ?_
          refine lv_aload_n hx hb dX0_divide_55 rfl (lv_at hl 3 rfl) ?_
          refine hm_getN (ci := 4) (v := .int gb) (C := RX2) (T := TX2) (N := 3) hx hb hws kin_X2 hown hK.1 hV ((hm_up_ne _ _ hb_lr).trans ((hm_up_ne _ _ hb_lv).trans hwb)) rfl 2 (by decide) (va_Nw.use rfl (hK.2.1 _ (List.mem_of_getElem? (i := 2) rfl))) (fun _ h9 => h9) rfl dX0_divide_56 ?_
          refine lv_icmp_eq (tgt := 66) hx hb dX0_divide_59 (by decide) (fun c59 => ?_) (fun c59 => ?_)
          · refine lv_iconst (v := 0) hx hb dX0_divide_66 (by decide) ?_
            exact main 0 (show (if (0 : Int32) = 0 then _ else _) = _ by rw [if_pos rfl]; exact ksgn.1 c59) ls H locs (lv_sub hl [0, 1, 2, 3, 4] rfl) hV
          · refine lv_iconst (v := 1) hx hb dX0_divide_62 (by decide) ?_
            refine lv_goto (tgt := 67) hx hb dX0_divide_63 (by decide) ?_
            exact main 1 (show (if (1 : Int32) = 0 then _ else _) = _ by rw [if_neg (by decide)]; exact ksgn.2 c59) ls H locs (lv_sub hl [0, 1, 2, 3, 4] rfl) hV
        · exact absurd (nI_le (b := 65) hka (by omega)) c42
