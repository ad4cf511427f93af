abbrev wd_X4_multiplyBy : List Cond := .code yX4_multiplyBy cX4_multiplyBy 5 none :: hm_ws
abbrev rm_X4_multiplyBy : Room := { frames := 1, cells := 0, slots := 0, locals := 22 }

set_option maxHeartbeats 4000000 in
set_option maxRecDepth 100000 in
/-- multiplyBy(f) -/
theorem c_X4_multiplyBy (l : Launch) (E : hm_E) {M : hm_M} {A : Nat → Nat} {th : Int32} {cnt ko : Nat} {nums : Nat → Int} {t : Nat → Nat → Int64} {O : Nat → Int32} {f0 : Nat} {v : Nat} (hk : md E M A th cnt (sg v) ko nums t (fun j => nI (dg v j)) O) (hv1 : v < bigN) (hf : f0 < 32768) : hm_Cv l E yX4_multiplyBy wd_X4_multiplyBy rm_X4_multiplyBy [.ref (A 0), .int (nI f0)] M (fun M1 => md E M1 A th cnt (sg (v * f0)) ko nums t (fun j => nI (dg (v * f0) j)) O) := by
  intro sz
  refine Met.ofW (cc := cX4_multiplyBy) (maxL := 5) (ret := none) (by decide) rfl ?_
  intro p e s m args below meth c s₁ B hml hv
  obtain ⟨rfl, hAe, hA, hK, hV⟩ := hm_start hv
  have hx := B.exec
  have hb := B.bytes
  have hr := B.returns
  have hts := atoms_spec (ws := wd_X4_multiplyBy) B.pre
  have hws : ∀ w ∈ hm_ws, w.before _ s = true := fun w h => hts w (List.mem_cons_of_mem _ h)
  have hown : s.vm.findClass RX4 = some m.cls := findClass_of_methodNamed B.named
  have hlocks := B.notSynchronized
  have fl64 := hws _ kw_486
  have fl24 := hws _ kw_485
  have ld80 := hws _ kw_581
  have hl := lv_entry ([.ref (A 0), .int (nI f0)]) (n := 5) (Nat.le_of_ble_eq_true rfl)
  rw [lg_entry_eq]
  generalize (lg_sl ([.ref (A 0), .int (nI f0)]) ++ List.replicate (5 - (lg_sl ([.ref (A 0), .int (nI f0)])).length) Slot.unset).toArray = ls at hl ⊢
  have hl : lv_has ls 5 [(0, .ref (A 0)), (1, .int (nI f0))] := hl
  refine hm_gen (rm := rm_X4_multiplyBy) rfl (fun Qf hQf => ?_)
  have hv := big220 hv1
  have hv3 := big100 hv1
  obtain ⟨xf, hxf⟩ : ∃ xf : Nat → Int, xf = fun i => (dg v i : Int) * (f0 : Int) := ⟨_, rfl⟩
  have hxi : ∀ i, xf i = (dg v i : Int) * (f0 : Int) := fun i => by rw [hxf]
  have hx0 : ∀ i, 0 ≤ xf i ∧ xf i ≤ 65535 * (f0 : Int) := fun i => by
    have h1 := dg_lt v i
    rw [hxi]
    exact ⟨Int.mul_nonneg (by omega) (by omega), Int.mul_le_mul_of_nonneg_right (by omega) (by omega)⟩
  have hbd := c16_m (x := xf) (f := f0) hx0
  have hva : v < 65536 ^ (sg v + 1) := Nat.lt_of_lt_of_le (sg_lt hv) (w16_le (by omega))
  have hs : v * f0 < 65536 ^ (sg v + 1) := s_mul1 f0 (sg_lt hv) (by omega)
  have hS := s_mul f0 hva
  rw [← hxf] at hS
  have hV : hm_V E.1 vwCl (hm_A M sz) s.heap (hm_up M (A 5) (hm_I E 220 (fun j => nI (if j < 0 then ch_e 65536 xf j else dg v j)))) s.heap [] := by rw [hm_up_id (((md_w hk)).trans (congrArg (fun f9 => some (hm_I E 220 f9)) (nu_up0 (ch_e 65536 xf) (dg v))))]; exact hV
  refine lv_iconst (v := 0) hx hb dX4_multiplyBy_0 (by decide) ?_
  refine lv_istore_n (lv' := [(2, .int 0), (0, .ref (A 0)), (1, .int (nI f0))]) hx hb dX4_multiplyBy_1 rfl hl (by decide) rfl (fun ls hl => ?_)
  refine lv_iconst (v := 0) hx hb dX4_multiplyBy_2 (by decide) ?_
  refine lv_istore_n (lv' := [(3, .int 0), (2, .int 0), (0, .ref (A 0)), (1, .int (nI f0))]) hx hb dX4_multiplyBy_3 rfl hl (by decide) rfl (fun ls hl => ?_)
  rw [show 0 = iZ (ch_c 65536 xf 0) from rfl] at hl
  have hl : lv_has ls 5 [(3, .int 0), (2, .int (iZ (ch_c 65536 xf 0))), (0, .ref (A 0)), (1, .int (nI f0))] := hl
  have loop : ∀ (fu : Nat) (i : Nat), (i ≤ sg v + 1) → sg v + 1 - i < fu → ∀ (ls : Array Slot) (H : Heap) (locs : List Loc), lv_has ls 5 [(0, .ref (A 0)), (1, .int (nI f0)), (2, .int (iZ (ch_c 65536 xf i))), (3, .int (nI i))] → hm_V E.1 vwCl (hm_A M sz) s.heap (hm_up M (A 5) (hm_I E 220 (fun j => nI (if j < i then ch_e 65536 xf j else dg v j)))) H locs → W p l e rm_X4_multiplyBy s m [.ref (A 0), .int (nI f0)].toArray below meth c H locs 0 0 Qf (F0 m 4 ls []) := by
    intro fu
    induction fu with
    | zero => intro i hi hfu; exact absurd hfu (Nat.not_lt_zero _)
    | succ fu ih_loop =>
      intro i hi hfu ls H locs hl hV
      refine lv_iload_n hx hb dX4_multiplyBy_4 rfl (lv_at hl 3 rfl) ?_
      refine lv_aload_n hx hb dX4_multiplyBy_5 rfl (lv_at hl 0 rfl) ?_
      refine hm_get (ci := 6) (v := .int (nI (sg v))) (C := RX4) (T := TX4) (N := 16) hx hb hws kin_X4 hown hK.1 hV ((hm_up_ne _ _ (md_ap hk (i := 0) (j := 5) (by decide) (by decide) (by decide))).trans (md_x hk)) rfl 7 (by decide) fl64 (fun _ h9 => h9) rfl dX4_multiplyBy_6 ?_
      refine lv_iconst (v := 1) hx hb dX4_multiplyBy_9 (by decide) ?_
      refine lv_iadd hx hb dX4_multiplyBy_10 ?_
      refine hm_topi (show ((nI (sg v)) + 1) = nI (sg v + 1) from nI_1 _) ?_
      refine lv_icmp_ge (tgt := 49) hx hb dX4_multiplyBy_11 (by decide) (fun c11 => ?_) (fun c11 => ?_)
      · have hi2 : i = (sg v + 1) := by
          rcases Nat.lt_or_ge i (sg v + 1) with q | q
          · exact absurd c11 (nI_ge (a := i) (b := (sg v + 1)) q (by omega))
          · omega
        rw [hi2, c16_all hS hs hva] at hV
        refine lv_aload_n hx hb dX4_multiplyBy_49 rfl (lv_at hl 0 rfl) ?_
        refine lv_aload_n hx hb dX4_multiplyBy_50 rfl (lv_at hl 0 rfl) ?_
        refine hm_get (ci := 6) (v := .ref (A 5)) (C := RX4) (T := TX4) (N := 16) hx hb hws kin_X4 hown hK.1 hV ((hm_up_ne _ _ (md_ap hk (i := 0) (j := 5) (by decide) (by decide) (by decide))).trans (md_x hk)) rfl 6 (by decide) fl24 (fun _ h9 => h9) rfl dX4_multiplyBy_51 ?_
        refine lv_aload_n hx hb dX4_multiplyBy_54 rfl (lv_at hl 0 rfl) ?_
        refine hm_get (ci := 6) (v := .int (nI (sg v))) (C := RX4) (T := TX4) (N := 16) hx hb hws kin_X4 hown hK.1 hV ((hm_up_ne _ _ (md_ap hk (i := 0) (j := 5) (by decide) (by decide) (by decide))).trans (md_x hk)) rfl 7 (by decide) fl64 (fun _ h9 => h9) rfl dX4_multiplyBy_55 ?_
        refine lv_iconst (v := 1) hx hb dX4_multiplyBy_58 (by decide) ?_
        refine lv_iadd hx hb dX4_multiplyBy_59 ?_
        refine hm_topi (show ((nI (sg v)) + 1) = nI (sg v + 1) from nI_1 _) ?_
        refine hm_calli (va_runS (As := [.ref (A 5), .int (nI (sg v + 1))]) (rest := [.ref (A 0)]) ⟨hx, hb, hml, hown, hts⟩ (c_X4_sizeOf l E (d := dg (v * f0)) (n := 220) (m0 := (sg v + 1)) (hm_up_self _ _ _) (by omega) (by decide) (fun j _ => by have := dg_lt (v * f0) j; omega) H.size) (va_cwS 2 hts (hm_gS kw_546 kw_547 kw_41 kw_548) rfl rfl rfl (by decide +kernel) ⟨Nat.le_of_ble_eq_true rfl, Nat.le_of_ble_eq_true rfl⟩) (hm_preS hK hV) rfl rfl hl.1 rfl (lv_room (Nat.le_of_ble_eq_true rfl)) dX4_multiplyBy_60 ⟨Nat.le_of_ble_eq_true rfl, Nat.le_of_ble_eq_true rfl⟩) hV hA (fun r60 M1 H locs hp hV => ?_)
        obtain ⟨hr60, hM1⟩ := hp
        rw [hM1] at hV
        rw [sg_k (hs) (by omega)] at hr60
        subst hr60
        refine hm_put (ci := 6) (v := .int (nI (sg (v * f0)))) (ty := .int) (C := RX4) (T := TX4) (N := 16) hx hb hws kin_X4 tyX4 tyX4_ok nmX4 hown hK.1 hV ((hm_up_ne _ _ (md_ap hk (i := 0) (j := 5) (by decide) (by decide) (by decide))).trans (md_x hk)) rfl 7 (by decide) fl64 (fun _ h9 => h9) rfl (by decide +kernel) rfl rfl (Nat.le_of_ble_eq_true rfl) dX4_multiplyBy_63 (fun H locs hV => ?_)
        have hV : hm_V E.1 vwCl (hm_A M sz) s.heap (hm_up (hm_up M (A 5) (hm_I E 220 (fun j => nI (dg (v * f0) j)))) (A 0) (.inr (6, [.int th, .int (nI cnt), .ref (A 1), .ref (A 2), .ref (A 3), .ref (A 4), .ref (A 5), .int (nI (sg (v * f0))), .ref (A 6), .int (nI ko), .ref (A 7), .ref (A 8), .ref (A 9), .ref (A 10), .ref (A 11), .ref (A 12)]))) H locs := hV
        rw [hQf]
        exact W.vret hx hb hr (fun t ht hW => ⟨⟨(hm_up (hm_up M (A 5) (hm_I E 220 (fun j => nI (dg (v * f0) j)))) (A 0) (.inr (6, [.int th, .int (nI cnt), .ref (A 1), .ref (A 2), .ref (A 3), .ref (A 4), .ref (A 5), .int (nI (sg (v * f0))), .ref (A 6), .int (nI ko), .ref (A 7), .ref (A 8), .ref (A 9), .ref (A 10), .ref (A 11), .ref (A 12)]))), rfl, md_ux (md_uw hk _) th (sg (v * f0)) ko, (hm_end hV ht).1⟩, (hm_end hV ht).2⟩) hV.2.2.2.2 dX4_multiplyBy_66
      · have hi2 : i < (sg v + 1) := by
          rcases Nat.lt_or_ge i (sg v + 1) with q | q
          · exact q
          · exact absurd (nI_le (a := (sg v + 1)) (b := i) q (by omega)) c11
        have h3 := hbd i
        have h4 := hx0 i
        refine lv_aload_n hx hb dX4_multiplyBy_14 rfl (lv_at hl 0 rfl) ?_
        refine hm_get (ci := 6) (v := .ref (A 5)) (C := RX4) (T := TX4) (N := 16) hx hb hws kin_X4 hown hK.1 hV ((hm_up_ne _ _ (md_ap hk (i := 0) (j := 5) (by decide) (by decide) (by decide))).trans (md_x hk)) rfl 6 (by decide) fl24 (fun _ h9 => h9) rfl dX4_multiplyBy_15 ?_
        refine lv_iload_n hx hb dX4_multiplyBy_18 rfl (lv_at hl 3 rfl) ?_
        refine hm_ialdN hx hb hK.1 hV 0 (hm_up_self _ _ _) rfl (k := i) (by omega) (by omega) dX4_multiplyBy_19 ?_
        refine lv_iload_n hx hb dX4_multiplyBy_20 rfl (lv_at hl 1 rfl) ?_
        refine lv_imul hx hb dX4_multiplyBy_21 ?_
        refine hm_topi (show ((nI (if i < i then ch_e 65536 xf i else dg v i)) * (nI f0)) = iZ (xf i) from by rw [if_neg (Nat.lt_irrefl i), iZ_nI, iZ_nI, iZ_mul, hxi]) ?_
        refine lv_iload_n hx hb dX4_multiplyBy_22 rfl (lv_at hl 2 rfl) ?_
        refine lv_iadd hx hb dX4_multiplyBy_23 ?_
        refine hm_topi (show ((iZ (xf i)) + (iZ (ch_c 65536 xf i))) = iZ (xf i + ch_c 65536 xf i) from iZ_add _ _) ?_
        refine lv_istore (lv' := [(4, .int (iZ (xf i + ch_c 65536 xf i))), (0, .ref (A 0)), (1, .int (nI f0)), (2, .int (iZ (ch_c 65536 xf i))), (3, .int (nI i))]) hx hb dX4_multiplyBy_24 hl (by decide) rfl (fun ls hl => ?_)
        refine lv_aload_n hx hb dX4_multiplyBy_26 rfl (lv_at hl 1 rfl) ?_
        refine hm_get (ci := 6) (v := .ref (A 5)) (C := RX4) (T := TX4) (N := 16) hx hb hws kin_X4 hown hK.1 hV ((hm_up_ne _ _ (md_ap hk (i := 0) (j := 5) (by decide) (by decide) (by decide))).trans (md_x hk)) rfl 6 (by decide) fl24 (fun _ h9 => h9) rfl dX4_multiplyBy_27 ?_
        refine lv_iload_n hx hb dX4_multiplyBy_30 rfl (lv_at hl 4 rfl) ?_
        refine lv_iload hx hb dX4_multiplyBy_31 (lv_at hl 0 rfl) ?_
        refine lv_ldc (v := 65535) hx hb hown ld80 dX4_multiplyBy_33 ?_
        refine lv_iand hx hb dX4_multiplyBy_35 ?_
        refine hm_topi (show ((iZ (xf i + ch_c 65536 xf i)) &&& 65535) = nI (ch_e 65536 xf i) from iZ_m16 _) ?_
        refine hm_iastN hx hb hK.1 hV 0 (hm_up_self _ _ _) rfl (k := i) (by omega) (by omega) dX4_multiplyBy_36 (fun H locs hV => ?_)
        rw [show (upd (fun j => nI (if j < i then ch_e 65536 xf j else dg v j)) i (nI (ch_e 65536 xf i))) = (fun j => nI (if j < i + 1 then ch_e 65536 xf j else dg v j)) from nu_up (ch_e 65536 xf) (dg v) i] at hV
        rw [hm_u0] at hV
        have hV : hm_V E.1 vwCl (hm_A M sz) s.heap (hm_up M (A 5) (hm_I E 220 (fun j => nI (if j < i + 1 then ch_e 65536 xf j else dg v j)))) H locs := hV
        refine lv_iload hx hb dX4_multiplyBy_37 (lv_at hl 0 rfl) ?_
        refine lv_bipush (v := 16) hx hb dX4_multiplyBy_39 (by decide) ?_
        refine lv_iushr hx hb dX4_multiplyBy_41 rfl ?_
        refine hm_topi (show (((iZ (xf i + ch_c 65536 xf i)).toUInt32 >>> ((16 : Int32).toUInt32 &&& Int32.toUInt32 31)).toInt32) = iZ (ch_c 65536 xf (i + 1)) from iZ_u16 (by omega) (by omega)) ?_
        refine lv_istore_n (lv' := [(2, .int (iZ (ch_c 65536 xf (i + 1)))), (4, .int (iZ (xf i + ch_c 65536 xf i))), (0, .ref (A 0)), (1, .int (nI f0)), (3, .int (nI i))]) hx hb dX4_multiplyBy_42 rfl hl (by decide) rfl (fun ls hl => ?_)
        refine lv_iinc (v := (nI (i + 1))) (lv' := [(3, .int (nI (i + 1))), (2, .int (iZ (ch_c 65536 xf (i + 1)))), (4, .int (iZ (xf i + ch_c 65536 xf i))), (0, .ref (A 0)), (1, .int (nI f0))]) hx hb dX4_multiplyBy_43 hl (k := 4) rfl (nI_1 i) (by decide) rfl (fun ls hl => ?_)
        refine lv_goto (tgt := 4) hx hb dX4_multiplyBy_46 (by decide) ?_
        exact ih_loop (i + 1) (by omega) (by omega) ls H locs (lv_sub hl [3, 4, 1, 0] rfl) hV
  exact loop (sg v + 2) 0 (Nat.zero_le _) (by omega) ls s.heap [] (lv_sub hl [2, 3, 1, 0] rfl) hV

abbrev wd_X4_divideBy : List Cond := .code yX4_divideBy cX4_divideBy 5 (some .int) :: hm_ws
abbrev rm_X4_divideBy : Room := { frames := 1, cells := 0, slots := 0, locals := 22 }

set_option maxHeartbeats 4000000 in
set_option maxRecDepth 100000 in
/-- divideBy(q) -/
theorem c_X4_divideBy (l : Launch) (E : hm_E) {M : hm_M} {A : Nat → Nat} {th : Int32} {cnt ko : Nat} {nums : Nat → Int} {t : Nat → Nat → Int64} {O : Nat → Int32} {q : Nat} {v : Nat} (hk : md E M A th cnt (sg v) ko nums t (fun j => nI (dg v j)) O) (hv0 : v < 65536 ^ 220) (hq0 : 0 < q) (hq : q < 16384) : hm_Ci l E yX4_divideBy wd_X4_divideBy rm_X4_divideBy [.ref (A 0), .int (nI q)] M (fun r M1 => r = nI (v % q) ∧ md E M1 A th cnt (sg (v / q)) ko nums t (fun j => nI (dg (v / q) j)) O) := by
  intro sz
  refine Met.ofW (cc := cX4_divideBy) (maxL := 5) (ret := (some .int)) (by decide) rfl ?_
  intro p e s m args below meth c s₁ B hml hv
  obtain ⟨rfl, hAe, hA, hK, hV⟩ := hm_start hv
  have hx := B.exec
  have hb := B.bytes
  have hr := B.returns
  have hts := atoms_spec (ws := wd_X4_divideBy) B.pre
  have hws : ∀ w ∈ hm_ws, w.before _ s = true := fun w h => hts w (List.mem_cons_of_mem _ h)
  have hown : s.vm.findClass RX4 = some m.cls := findClass_of_methodNamed B.named
  have hlocks := B.notSynchronized
  have fl64 := hws _ kw_486
  have fl24 := hws _ kw_485
  have hl := lv_entry ([.ref (A 0), .int (nI q)]) (n := 5) (Nat.le_of_ble_eq_true rfl)
  rw [lg_entry_eq]
  generalize (lg_sl ([.ref (A 0), .int (nI q)]) ++ List.replicate (5 - (lg_sl ([.ref (A 0), .int (nI q)])).length) Slot.unset).toArray = ls at hl ⊢
  have hl : lv_has ls 5 [(0, .ref (A 0)), (1, .int (nI q))] := hl
  refine hm_gen (rm := rm_X4_divideBy) rfl (fun Qf hQf => ?_)
  have hv := hv0
  have hv3 := sg_220 v
  have hv4 := sg_lt hv
  have hvq : v / q < 65536 ^ sg v := Nat.lt_of_le_of_lt (Nat.div_le_self _ _) hv4
  have hV : hm_V E.1 vwCl (hm_A M sz) s.heap (hm_up M (A 5) (hm_I E 220 (fun j => nI (if sg v ≤ j ∧ j < sg v then dg (v / q) j else dg v j)))) s.heap [] := by rw [hm_up_id (((md_w hk)).trans (congrArg (fun f9 => some (hm_I E 220 f9)) (nu_dn0 (dg (v / q)) (dg v) (sg v))))]; exact hV
  refine lv_iconst (v := 0) hx hb dX4_divideBy_0 (by decide) ?_
  refine lv_istore_n (lv' := [(2, .int 0), (0, .ref (A 0)), (1, .int (nI q))]) hx hb dX4_divideBy_1 rfl hl (by decide) rfl (fun ls hl => ?_)
  refine lv_aload_n hx hb dX4_divideBy_2 rfl (lv_at hl 1 rfl) ?_
  refine hm_get (ci := 6) (v := .int (nI (sg v))) (C := RX4) (T := TX4) (N := 16) hx hb hws kin_X4 hown hK.1 hV ((hm_up_ne _ _ (md_ap hk (i := 0) (j := 5) (by decide) (by decide) (by decide))).trans (md_x hk)) rfl 7 (by decide) fl64 (fun _ h9 => h9) rfl dX4_divideBy_3 ?_
  refine lv_iconst (v := 1) hx hb dX4_divideBy_6 (by decide) ?_
  refine lv_isub hx hb dX4_divideBy_7 ?_
  refine hm_topi (show ((nI (sg v)) - 1) = nP (sg v) from nP_sub (sg v)) ?_
  refine lv_istore_n (lv' := [(3, .int (nP (sg v))), (2, .int 0), (0, .ref (A 0)), (1, .int (nI q))]) hx hb dX4_divideBy_8 rfl hl (by decide) rfl (fun ls hl => ?_)
  rw [show 0 = nI (v / 65536 ^ sg v % q) from by rw [Nat.div_eq_of_lt hv4, Nat.zero_mod]; rfl] at hl
  have hl : lv_has ls 5 [(3, .int (nP (sg v))), (2, .int (nI (v / 65536 ^ sg v % q))), (0, .ref (A 0)), (1, .int (nI q))] := hl
  have loop : ∀ (fu : Nat) (i : Nat), (i ≤ sg v) → i < fu → ∀ (ls : Array Slot) (H : Heap) (locs : List Loc), lv_has ls 5 [(0, .ref (A 0)), (1, .int (nI q)), (2, .int (nI (v / 65536 ^ i % q))), (3, .int (nP i))] → hm_V E.1 vwCl (hm_A M sz) s.heap (hm_up M (A 5) (hm_I E 220 (fun j => nI (if i ≤ j ∧ j < sg v then dg (v / q) j else dg v j)))) H locs → W p l e rm_X4_divideBy s m [.ref (A 0), .int (nI q)].toArray below meth c H locs 0 0 Qf (F0 m 9 ls []) := by
    intro fu
    induction fu with
    | zero => intro i hi hfu; exact absurd hfu (Nat.not_lt_zero _)
    | succ fu ih_loop =>
      intro i hi hfu ls H locs hl hV
      refine lv_iload_n hx hb dX4_divideBy_9 rfl (lv_at hl 3 rfl) ?_
      refine lv_if_lt (tgt := 47) hx hb dX4_divideBy_10 (by decide) (fun c10 => ?_) (fun c10 => ?_)
      · have hi0 : i = 0 := by
          cases i with
          | zero => rfl
          | succ j => exact absurd c10 (nI_pos (by omega))
        rw [hi0] at hV hl
        rw [show (fun j => nI (if 0 ≤ j ∧ j < sg v then dg (v / q) j else dg v j)) = (fun j => nI (dg (v / q) j)) from by
          funext j
          by_cases h : j < sg v
          · rw [if_pos ⟨Nat.zero_le j, h⟩]
          · rw [if_neg (fun h9 => h h9.2), dg_sg hv (by omega), dg_hi hvq (by omega)]] at hV
        refine lv_aload_n hx hb dX4_divideBy_47 rfl (lv_at hl 0 rfl) ?_
        refine lv_aload_n hx hb dX4_divideBy_48 rfl (lv_at hl 0 rfl) ?_
        refine hm_get (ci := 6) (v := .ref (A 5)) (C := RX4) (T := TX4) (N := 16) hx hb hws kin_X4 hown hK.1 hV ((hm_up_ne _ _ (md_ap hk (i := 0) (j := 5) (by decide) (by decide) (by decide))).trans (md_x hk)) rfl 6 (by decide) fl24 (fun _ h9 => h9) rfl dX4_divideBy_49 ?_
        refine lv_aload_n hx hb dX4_divideBy_52 rfl (lv_at hl 0 rfl) ?_
        refine hm_get (ci := 6) (v := .int (nI (sg v))) (C := RX4) (T := TX4) (N := 16) hx hb hws kin_X4 hown hK.1 hV ((hm_up_ne _ _ (md_ap hk (i := 0) (j := 5) (by decide) (by decide) (by decide))).trans (md_x hk)) rfl 7 (by decide) fl64 (fun _ h9 => h9) rfl dX4_divideBy_53 ?_
        refine hm_calli (va_runS (As := [.ref (A 5), .int (nI (sg v))]) (rest := [.ref (A 0)]) ⟨hx, hb, hml, hown, hts⟩ (c_X4_sizeOf l E (d := dg (v / q)) (n := 220) (m0 := (sg v)) (hm_up_self _ _ _) (by omega) (by decide) (fun j _ => by have := dg_lt (v / q) j; omega) H.size) (va_cwS 2 hts (hm_gS kw_546 kw_547 kw_41 kw_548) rfl rfl rfl (by decide +kernel) ⟨Nat.le_of_ble_eq_true rfl, Nat.le_of_ble_eq_true rfl⟩) (hm_preS hK hV) rfl rfl hl.1 rfl (lv_room (Nat.le_of_ble_eq_true rfl)) dX4_divideBy_56 ⟨Nat.le_of_ble_eq_true rfl, Nat.le_of_ble_eq_true rfl⟩) hV hA (fun r56 M1 H locs hp hV => ?_)
        obtain ⟨hr56, hM1⟩ := hp
        rw [hM1] at hV
        rw [sg_k (hvq) (by omega)] at hr56
        subst hr56
        refine hm_put (ci := 6) (v := .int (nI (sg (v / q)))) (ty := .int) (C := RX4) (T := TX4) (N := 16) hx hb hws kin_X4 tyX4 tyX4_ok nmX4 hown hK.1 hV ((hm_up_ne _ _ (md_ap hk (i := 0) (j := 5) (by decide) (by decide) (by decide))).trans (md_x hk)) rfl 7 (by decide) fl64 (fun _ h9 => h9) rfl (by decide +kernel) rfl rfl (Nat.le_of_ble_eq_true rfl) dX4_divideBy_59 (fun H locs hV => ?_)
        have hV : hm_V E.1 vwCl (hm_A M sz) s.heap (hm_up (hm_up M (A 5) (hm_I E 220 (fun j => nI (dg (v / q) j)))) (A 0) (.inr (6, [.int th, .int (nI cnt), .ref (A 1), .ref (A 2), .ref (A 3), .ref (A 4), .ref (A 5), .int (nI (sg (v / q))), .ref (A 6), .int (nI ko), .ref (A 7), .ref (A 8), .ref (A 9), .ref (A 10), .ref (A 11), .ref (A 12)]))) H locs := hV
        refine lv_iload_n hx hb dX4_divideBy_62 rfl (lv_at hl 2 rfl) ?_
        refine hm_topi (show (nI (v / 65536 ^ 0 % q)) = nI (v % q) from by rw [Nat.pow_zero, Nat.div_one]) ?_
        rw [hQf]
        exact W.iret hx hb hr (fun t ht hW => ⟨⟨_, (hm_up (hm_up M (A 5) (hm_I E 220 (fun j => nI (dg (v / q) j)))) (A 0) (.inr (6, [.int th, .int (nI cnt), .ref (A 1), .ref (A 2), .ref (A 3), .ref (A 4), .ref (A 5), .int (nI (sg (v / q))), .ref (A 6), .int (nI ko), .ref (A 7), .ref (A 8), .ref (A 9), .ref (A 10), .ref (A 11), .ref (A 12)]))), rfl, ⟨rfl, md_ux (md_uw hk _) th (sg (v / q)) ko⟩, (hm_end hV ht).1⟩, (hm_end hV ht).2⟩) hV.2.2.2.2 dX4_divideBy_63
      · obtain ⟨j, rfl⟩ : ∃ j, i = j + 1 := by
          cases i with
          | zero => exact absurd (show nP 0 < 0 from by decide) c10
          | succ j => exact ⟨j, rfl⟩
        have hl : lv_has ls 5 [(0, .ref (A 0)), (1, .int (nI q)), (2, .int (nI (v / 65536 ^ (j + 1) % q))), (3, .int (nI j))] := hl
        have hst : (v / 65536 ^ (j + 1) % q * 65536 + dg v j) / q = dg (v / q) j ∧ (v / 65536 ^ (j + 1) % q * 65536 + dg v j) % q = v / 65536 ^ j % q := dv_step (B := 65536) (V := v) (i := j) (q := q) (by decide) hq0
        have hr1 := Nat.mod_lt (v / 65536 ^ (j + 1)) hq0
        have hdj := dg_lt v j
        have hpb : v / 65536 ^ (j + 1) % q * 65536 + dg v j < 2 ^ 31 := by omega
        refine lv_iload_n hx hb dX4_divideBy_13 rfl (lv_at hl 2 rfl) ?_
        refine lv_bipush (v := 16) hx hb dX4_divideBy_14 (by decide) ?_
        refine lv_ishl hx hb dX4_divideBy_16 ?_
        refine lv_aload_n hx hb dX4_divideBy_17 rfl (lv_at hl 0 rfl) ?_
        refine hm_get (ci := 6) (v := .ref (A 5)) (C := RX4) (T := TX4) (N := 16) hx hb hws kin_X4 hown hK.1 hV ((hm_up_ne _ _ (md_ap hk (i := 0) (j := 5) (by decide) (by decide) (by decide))).trans (md_x hk)) rfl 6 (by decide) fl24 (fun _ h9 => h9) rfl dX4_divideBy_18 ?_
        refine lv_iload_n hx hb dX4_divideBy_21 rfl (lv_at hl 3 rfl) ?_
        refine hm_ialdN hx hb hK.1 hV 0 (hm_up_self _ _ _) rfl (k := j) (by omega) (by omega) dX4_divideBy_22 ?_
        refine hm_topi (show (nI (if j + 1 ≤ j ∧ j < sg v then dg (v / q) j else dg v j)) = nI (dg v j) from by rw [if_neg (by omega)]) ?_
        refine lv_ior hx hb dX4_divideBy_23 ?_
        refine hm_topi (show (((nI (v / 65536 ^ (j + 1) % q)) <<< (16 &&& 31)) ||| (nI (dg v j))) = nI (v / 65536 ^ (j + 1) % q * 65536 + dg v j) from nI_or16 hdj (by omega)) ?_
        refine lv_istore (lv' := [(4, .int (nI (v / 65536 ^ (j + 1) % q * 65536 + dg v j))), (0, .ref (A 0)), (1, .int (nI q)), (2, .int (nI (v / 65536 ^ (j + 1) % q))), (3, .int (nI j))]) hx hb dX4_divideBy_24 hl (by decide) rfl (fun ls hl => ?_)
        refine lv_aload_n hx hb dX4_divideBy_26 rfl (lv_at hl 1 rfl) ?_
        refine hm_get (ci := 6) (v := .ref (A 5)) (C := RX4) (T := TX4) (N := 16) hx hb hws kin_X4 hown hK.1 hV ((hm_up_ne _ _ (md_ap hk (i := 0) (j := 5) (by decide) (by decide) (by decide))).trans (md_x hk)) rfl 6 (by decide) fl24 (fun _ h9 => h9) rfl dX4_divideBy_27 ?_
        refine lv_iload_n hx hb dX4_divideBy_30 rfl (lv_at hl 4 rfl) ?_
        refine lv_iload hx hb dX4_divideBy_31 (lv_at hl 0 rfl) ?_
        refine lv_iload_n hx hb dX4_divideBy_33 rfl (lv_at hl 2 rfl) ?_
        refine lv_idiv hx hb dX4_divideBy_34 (fun r => absurd ((nI_eq (by omega) (by omega)).mp (show nI q = nI 0 from r)) (by omega)) ?_
        refine hm_topi (show ((nI (v / 65536 ^ (j + 1) % q * 65536 + dg v j)) / (nI q)) = nI (dg (v / q) j) from (pk_div hpb hq0 (by omega)).trans (congrArg nI hst.1)) ?_
        refine hm_iastN hx hb hK.1 hV 0 (hm_up_self _ _ _) rfl (k := j) (by omega) (by omega) dX4_divideBy_35 (fun H locs hV => ?_)
        rw [show (upd (fun b => nI (if j + 1 ≤ b ∧ b < sg v then dg (v / q) b else dg v b)) j (nI (dg (v / q) j))) = (fun b => nI (if j ≤ b ∧ b < sg v then dg (v / q) b else dg v b)) from nu_dn (dg (v / q)) (dg v) j (sg v) (by omega)] at hV
        rw [hm_u0] at hV
        have hV : hm_V E.1 vwCl (hm_A M sz) s.heap (hm_up M (A 5) (hm_I E 220 (fun b => nI (if j ≤ b ∧ b < sg v then dg (v / q) b else dg v b)))) H locs := hV
        refine lv_iload hx hb dX4_divideBy_36 (lv_at hl 0 rfl) ?_
        refine lv_iload_n hx hb dX4_divideBy_38 rfl (lv_at hl 2 rfl) ?_
        refine lv_irem hx hb dX4_divideBy_39 (fun r => absurd ((nI_eq (by omega) (by omega)).mp (show nI q = nI 0 from r)) (by omega)) ?_
        refine hm_topi (show ((nI (v / 65536 ^ (j + 1) % q * 65536 + dg v j)) - (nI (v / 65536 ^ (j + 1) % q * 65536 + dg v j)) / (nI q) * (nI q)) = nI (v / 65536 ^ j % q) from (pk_rem hpb hq0 (by omega)).trans (congrArg nI hst.2)) ?_
        refine lv_istore_n (lv' := [(2, .int (nI (v / 65536 ^ j % q))), (4, .int (nI (v / 65536 ^ (j + 1) % q * 65536 + dg v j))), (0, .ref (A 0)), (1, .int (nI q)), (3, .int (nI j))]) hx hb dX4_divideBy_40 rfl hl (by decide) rfl (fun ls hl => ?_)
        refine lv_iinc (v := (nP j)) (lv' := [(3, .int (nP j)), (2, .int (nI (v / 65536 ^ j % q))), (4, .int (nI (v / 65536 ^ (j + 1) % q * 65536 + dg v j))), (0, .ref (A 0)), (1, .int (nI q))]) hx hb dX4_divideBy_41 hl (k := 4) rfl (nP_dec j) (by decide) rfl (fun ls hl => ?_)
        refine lv_goto (tgt := 9) hx hb dX4_divideBy_44 (by decide) ?_
        exact ih_loop j (by omega) (by omega) ls H locs (lv_sub hl [3, 4, 1, 0] rfl) hV
  exact loop (sg v + 1) (sg v) (Nat.le_refl _) (by omega) ls s.heap [] (lv_sub hl [2, 3, 1, 0] rfl) hV

abbrev wd_X4_reaches : List Cond := .code yX4_reaches cX4_reaches 2 (some .boolean) :: hm_ws
abbrev rm_X4_reaches : Room := { frames := 0, cells := 0, slots := 0, locals := 0 }

set_option maxHeartbeats 4000000 in
set_option maxRecDepth 100000 in
/-- reaches() -/
theorem c_X4_reaches (l : Launch) (E : hm_E) {M : hm_M} {A : Nat → Nat} {th : Int32} {cnt k : Nat} {nums : Nat → Int} {t : Nat → Nat → Int64} {X : Nat → Int32} {R u : Nat} (hk : md E M A th cnt k (sg u) nums t X (fun j => nI (dg u j))) (h7 : M (A 7) = some (hm_I E 220 (fun j => nI (dg R j)))) (hu3 : sg u ≤ 100) (hR : R < 65536 ^ (sg u + 1)) (hu : u < 65536 ^ (sg u + 1)) : hm_Ci l E yX4_reaches wd_X4_reaches rm_X4_reaches [.ref (A 0)] M (fun r M1 => r = (if u ≤ R then 1 else 0) ∧ M1 = M) := by
  intro sz
  refine Met.ofW (cc := cX4_reaches) (maxL := 2) (ret := (some .boolean)) (by decide) rfl ?_
  intro p e s m args below meth c s₁ B hml hv
  obtain ⟨rfl, hAe, hA, hK, hV⟩ := hm_start hv
  have hx := B.exec
  have hb := B.bytes
  have hr := B.returns
  have hts := atoms_spec (ws := wd_X4_reaches) B.pre
  have hws : ∀ w ∈ hm_ws, w.before _ s = true := fun w h => hts w (List.mem_cons_of_mem _ h)
  have hown : s.vm.findClass RX4 = some m.cls := findClass_of_methodNamed B.named
  have hlocks := B.notSynchronized
  have fl67 := hws _ kw_488
  have fl30 := hws _ kw_489
  have fl27 := hws _ kw_487
  have hl := lv_entry ([.ref (A 0)]) (n := 2) (Nat.le_of_ble_eq_true rfl)
  rw [lg_entry_eq]
  generalize (lg_sl ([.ref (A 0)]) ++ List.replicate (2 - (lg_sl ([.ref (A 0)])).length) Slot.unset).toArray = ls at hl ⊢
  have hl : lv_has ls 2 [(0, .ref (A 0))] := hl
  refine hm_gen (rm := rm_X4_reaches) rfl (fun Qf hQf => ?_)
  refine lv_aload_n hx hb dX4_reaches_0 rfl (lv_at hl 0 rfl) ?_
  refine hm_get (ci := 6) (v := .int (nI (sg u))) (C := RX4) (T := TX4) (N := 16) hx hb hws kin_X4 hown hK.1 hV (md_x hk) rfl 9 (by decide) fl67 (fun _ h9 => h9) rfl dX4_reaches_1 ?_
  refine lv_istore_n (lv' := [(1, .int (nI (sg u))), (0, .ref (A 0))]) hx hb dX4_reaches_4 rfl hl (by decide) rfl (fun ls hl => ?_)
  have hl : lv_has ls 2 [(1, .int (nP (sg u + 1))), (0, .ref (A 0))] := hl
  have loop : ∀ (fu : Nat) (i : Nat), (i ≤ sg u + 1) → (∀ j, i ≤ j → j < sg u + 1 → dg R j = dg u j) → i < fu → ∀ (ls : Array Slot) (H : Heap) (locs : List Loc), lv_has ls 2 [(0, .ref (A 0)), (1, .int (nP i))] → hm_V E.1 vwCl (hm_A M sz) s.heap (M) H locs → W p l e rm_X4_reaches s m [.ref (A 0)].toArray below meth c H locs 0 0 Qf (F0 m 5 ls []) := by
    intro fu
    induction fu with
    | zero => intro i hi he hfu; exact absurd hfu (Nat.not_lt_zero _)
    | succ fu ih_loop =>
      intro i hi he hfu ls H locs hl hV
      refine lv_iload_n hx hb dX4_reaches_5 rfl (lv_at hl 1 rfl) ?_
      refine lv_if_lt (tgt := 51) hx hb dX4_reaches_6 (by decide) (fun c6 => ?_) (fun c6 => ?_)
      · have hi0 : i = 0 := by
          cases i with
          | zero => rfl
          | succ j => exact absurd c6 (nI_pos (by omega))
        have heq := dg_eq hR hu (fun j hj => he j (by omega) hj)
        refine lv_iconst (v := 1) hx hb dX4_reaches_51 (by decide) ?_
        rw [hQf]
        exact W.zret hx hb hr (rfl) (fun t ht hW => ⟨⟨_, M, rfl, ⟨by rw [if_pos (by omega)], rfl⟩, (hm_end hV ht).1⟩, (hm_end hV ht).2⟩) hV.2.2.2.2 dX4_reaches_52
      · obtain ⟨j, rfl⟩ : ∃ j, i = j + 1 := by
          cases i with
          | zero => exact absurd (show nP 0 < 0 from by decide) c6
          | succ j => exact ⟨j, rfl⟩
        have hdv := dg_lt R j
        have hdu := dg_lt u j
        have hl : lv_has ls 2 [(0, .ref (A 0)), (1, .int (nI j))] := hl
        refine lv_aload_n hx hb dX4_reaches_9 rfl (lv_at hl 0 rfl) ?_
        refine hm_get (ci := 6) (v := .ref (A 7)) (C := RX4) (T := TX4) (N := 16) hx hb hws kin_X4 hown hK.1 hV (md_x hk) rfl 10 (by decide) fl30 (fun _ h9 => h9) rfl dX4_reaches_10 ?_
        refine lv_iload_n hx hb dX4_reaches_13 rfl (lv_at hl 1 rfl) ?_
        refine hm_ialdN hx hb hK.1 hV 0 h7 rfl (k := j) (by omega) (by omega) dX4_reaches_14 ?_
        refine lv_aload_n hx hb dX4_reaches_15 rfl (lv_at hl 0 rfl) ?_
        refine hm_get (ci := 6) (v := .ref (A 6)) (C := RX4) (T := TX4) (N := 16) hx hb hws kin_X4 hown hK.1 hV (md_x hk) rfl 8 (by decide) fl27 (fun _ h9 => h9) rfl dX4_reaches_16 ?_
        refine lv_iload_n hx hb dX4_reaches_19 rfl (lv_at hl 1 rfl) ?_
        refine hm_ialdN hx hb hK.1 hV 0 (md_o hk) rfl (k := j) (by omega) (by omega) dX4_reaches_20 ?_
        refine lv_icmp_eq (tgt := 45) hx hb dX4_reaches_21 (by decide) (fun c21 => ?_) (fun c21 => ?_)
        · have hde : dg R j = dg u j := (nI_eq (by omega) (by omega)).mp c21
          refine lv_iinc (v := (nP j)) (lv' := [(1, .int (nP j)), (0, .ref (A 0))]) hx hb dX4_reaches_45 hl (k := 1) rfl (nP_dec j) (by decide) rfl (fun ls hl => ?_)
          refine lv_goto (tgt := 5) hx hb dX4_reaches_48 (by decide) ?_
          exact ih_loop j (by omega) (fun b h1 h2 => by
            rcases Nat.lt_or_ge j b with r | r
            · exact he b (by omega) h2
            · rw [show b = j by omega]; exact hde) (by omega) ls H locs (lv_sub hl [1, 0] rfl) hV
        · refine lv_aload_n hx hb dX4_reaches_24 rfl (lv_at hl 0 rfl) ?_
          refine hm_get (ci := 6) (v := .ref (A 7)) (C := RX4) (T := TX4) (N := 16) hx hb hws kin_X4 hown hK.1 hV (md_x hk) rfl 10 (by decide) fl30 (fun _ h9 => h9) rfl dX4_reaches_25 ?_
          refine lv_iload_n hx hb dX4_reaches_28 rfl (lv_at hl 1 rfl) ?_
          refine hm_ialdN hx hb hK.1 hV 0 h7 rfl (k := j) (by omega) (by omega) dX4_reaches_29 ?_
          refine lv_aload_n hx hb dX4_reaches_30 rfl (lv_at hl 0 rfl) ?_
          refine hm_get (ci := 6) (v := .ref (A 6)) (C := RX4) (T := TX4) (N := 16) hx hb hws kin_X4 hown hK.1 hV (md_x hk) rfl 8 (by decide) fl27 (fun _ h9 => h9) rfl dX4_reaches_31 ?_
          refine lv_iload_n hx hb dX4_reaches_34 rfl (lv_at hl 1 rfl) ?_
          refine hm_ialdN hx hb hK.1 hV 0 (md_o hk) rfl (k := j) (by omega) (by omega) dX4_reaches_35 ?_
          refine lv_icmp_le (tgt := 43) hx hb dX4_reaches_36 (by decide) (fun c36 => ?_) (fun c36 => ?_)
          · have hlt : dg R j < dg u j := by
              have h1 := (nI_leI (by omega) (by omega)).mp c36
              have h2 : dg R j ≠ dg u j := fun r => c21 (by rw [r])
              omega
            have hl2 := dg_less hR hu (by omega) (fun b h1 h2 => he b (by omega) h2) hlt
            refine lv_iconst (v := 0) hx hb dX4_reaches_43 (by decide) ?_
            rw [hQf]
            exact W.zret hx hb hr (rfl) (fun t ht hW => ⟨⟨_, M, rfl, ⟨by rw [if_neg (by omega)], rfl⟩, (hm_end hV ht).1⟩, (hm_end hV ht).2⟩) hV.2.2.2.2 dX4_reaches_44
          · have hlt : dg u j < dg R j := by
              rcases Nat.lt_or_ge (dg u j) (dg R j) with r | r
              · exact r
              · exact absurd (nI_le r (by omega)) c36
            have hl2 := dg_less hu hR (by omega) (fun b h1 h2 => (he b (by omega) h2).symm) hlt
            refine lv_iconst (v := 1) hx hb dX4_reaches_39 (by decide) ?_
            refine lv_goto (tgt := 44) hx hb dX4_reaches_40 (by decide) ?_
            rw [hQf]
            exact W.zret hx hb hr (rfl) (fun t ht hW => ⟨⟨_, M, rfl, ⟨by rw [if_pos (by omega)], rfl⟩, (hm_end hV ht).1⟩, (hm_end hV ht).2⟩) hV.2.2.2.2 dX4_reaches_44
  exact loop (sg u + 2) (sg u + 1) (Nat.le_refl _) (fun j h1 h2 => absurd h2 (by omega)) (by omega) ls s.heap [] (lv_sub hl [1, 0] rfl) hV

abbrev wd_X4_divide : List Cond := .code yX4_divide cX4_divide 7 none :: hm_ws
abbrev rm_X4_divide : Room := { frames := 1, cells := 0, slots := 0, locals := 22 }

set_option maxHeartbeats 4000000 in
set_option maxRecDepth 100000 in
/-- divide() -/
theorem c_X4_divide (l : Launch) (E : hm_E) {M : hm_M} {A : Nat → Nat} {th : Int32} {cnt : Nat} {nums : Nat → Int} {t : Nat → Nat → Int64} {v u : Nat} (hk : md E M A th cnt (sg v) (sg u) nums t (fun j => nI (dg v j)) (fun j => nI (dg u j))) (hv1 : v < bigN) (hu1 : u < bigN) (hu0 : 0 < u) : hm_Cv l E yX4_divide wd_X4_divide rm_X4_divide [.ref (A 0)] M (fun M1 => md E M1 A th cnt (sg (v / u)) (sg u) nums t (fun j => nI (dg (v / u) j)) (fun j => nI (dg u j))) := by
  intro sz
  refine Met.ofW (cc := cX4_divide) (maxL := 7) (ret := none) (by decide) rfl ?_
  intro p e s m args below meth c s₁ B hml hv
  obtain ⟨rfl, hAe, hA, hK, hV⟩ := hm_start hv
  have hx := B.exec
  have hb := B.bytes
  have hr := B.returns
  have hts := atoms_spec (ws := wd_X4_divide) B.pre
  have hws : ∀ w ∈ hm_ws, w.before _ s = true := fun w h => hts w (List.mem_cons_of_mem _ h)
  have hown : s.vm.findClass RX4 = some m.cls := findClass_of_methodNamed B.named
  have hlocks := B.notSynchronized
  have fl30 := hws _ kw_489
  have fl64 := hws _ kw_486
  have fl24 := hws _ kw_485
  have fl67 := hws _ kw_488
  have fl27 := hws _ kw_487
  have ld80 := hws _ kw_581
  have hl := lv_entry ([.ref (A 0)]) (n := 7) (Nat.le_of_ble_eq_true rfl)
  rw [lg_entry_eq]
  generalize (lg_sl ([.ref (A 0)]) ++ List.replicate (7 - (lg_sl ([.ref (A 0)])).length) Slot.unset).toArray = ls at hl ⊢
  have hl : lv_has ls 7 [(0, .ref (A 0))] := hl
  refine hm_gen (rm := rm_X4_divide) rfl (fun Qf hQf => ?_)
  have hv := big220 hv1
  have hu := big220 hu1
  have hv3 := big100 hv1
  have hu3 := big100 hu1
  obtain ⟨f7, h7⟩ := md_r hk
  have hvu : v / u < 65536 ^ sg v := Nat.lt_of_le_of_lt (Nat.div_le_self _ _) (sg_lt hv)
  refine lv_aload_n hx hb dX4_divide_0 rfl (lv_at hl 0 rfl) ?_
  refine lv_aload_n hx hb dX4_divide_1 rfl (lv_at hl 0 rfl) ?_
  refine hm_get (ci := 6) (v := .ref (A 7)) (C := RX4) (T := TX4) (N := 16) hx hb hws kin_X4 hown hK.1 hV (md_x hk) rfl 10 (by decide) fl30 (fun _ h9 => h9) rfl dX4_divide_2 ?_
  refine hm_callv (va_runV (As := [.ref (A 7)]) (rest := []) ⟨hx, hb, hml, hown, hts⟩ (c_X4_clear l E h7 s.heap.size) (cwV 1 hts (hm_gV kw_541 kw_543 kw_18 kw_41 kw_544) rfl rfl rfl (by decide +kernel) ⟨Nat.le_of_ble_eq_true rfl, Nat.le_of_ble_eq_true rfl⟩) (hm_preV hK hV (md_x hk) rfl) rfl rfl hl.1 rfl (lv_room (Nat.le_of_ble_eq_true rfl)) dX4_divide_5 ⟨Nat.le_of_ble_eq_true rfl, Nat.le_of_ble_eq_true rfl⟩) hV hA (fun M1 H locs hp hV => ?_)
  subst hp
  have hV : hm_V E.1 vwCl (hm_A M sz) s.heap (hm_up M (A 7) (hm_I E 220 (fun j => nI (dg 0 j)))) H locs := hV
  have hV : hm_V E.1 vwCl (hm_A M sz) s.heap (hm_up (hm_up M (A 7) (hm_I E 220 (fun j => nI (dg 0 j)))) (A 7) (hm_I E 220 (fun j => nI (dg (dvR v u (16 * sg v)) j)))) H locs := by rw [hm_up_id (((hm_up_self _ _ _)).trans (congrArg (fun f9 => some (hm_I E 220 f9)) (by rw [(dv_b (q := 0) hu0 hv).2])))]; exact hV
  rw [hm_up_up] at hV
  have hV : hm_V E.1 vwCl (hm_A M sz) s.heap (hm_up (hm_up M (A 7) (hm_I E 220 (fun j => nI (dg (dvR v u (16 * sg v)) j)))) (A 5) (hm_I E 220 (fun j => nI (dg (dvN v u (16 * sg v)) j)))) H locs := by rw [hm_up_id ((((hm_up_ne _ _ (md_ap hk (i := 5) (j := 7) (by decide) (by decide) (by decide))).trans (md_w hk))).trans (congrArg (fun f9 => some (hm_I E 220 f9)) (by rw [(dv_b (q := 0) hu0 hv).1])))]; exact hV
  refine lv_bipush (v := 16) hx hb dX4_divide_8 (by decide) ?_
  refine lv_aload_n hx hb dX4_divide_10 rfl (lv_at hl 0 rfl) ?_
  refine hm_get (ci := 6) (v := .int (nI (sg v))) (C := RX4) (T := TX4) (N := 16) hx hb hws kin_X4 hown hK.1 hV ((hm_up_ne _ _ (md_ap hk (i := 0) (j := 5) (by decide) (by decide) (by decide))).trans ((hm_up_ne _ _ (md_ap hk (i := 0) (j := 7) (by decide) (by decide) (by decide))).trans (md_x hk))) rfl 7 (by decide) fl64 (fun _ h9 => h9) rfl dX4_divide_11 ?_
  refine lv_imul hx hb dX4_divide_14 ?_
  refine hm_topi (show (16 * (nI (sg v))) = nI (16 * sg v) from nI_16 _) ?_
  refine lv_iconst (v := 1) hx hb dX4_divide_15 (by decide) ?_
  refine lv_isub hx hb dX4_divide_16 ?_
  refine hm_topi (show ((nI (16 * sg v)) - 1) = nP (16 * sg v) from nP_sub _) ?_
  refine lv_istore_n (lv' := [(1, .int (nP (16 * sg v))), (0, .ref (A 0))]) hx hb dX4_divide_17 rfl hl (by decide) rfl (fun ls hl => ?_)
  have outer : ∀ (fu : Nat) (b : Nat), (b ≤ 16 * sg v) → b < fu → ∀ (ls : Array Slot) (H : Heap) (locs : List Loc), lv_has ls 7 [(0, .ref (A 0)), (1, .int (nP b))] → hm_V E.1 vwCl (hm_A M sz) s.heap (hm_up (hm_up M (A 7) (hm_I E 220 (fun j => nI (dg (dvR v u b) j)))) (A 5) (hm_I E 220 (fun j => nI (dg (dvN v u b) j)))) H locs → W p l e rm_X4_divide s m [.ref (A 0)].toArray below meth c H locs 0 0 Qf (F0 m 18 ls []) := by
    intro fu
    induction fu with
    | zero => intro b hb0 hfu; exact absurd hfu (Nat.not_lt_zero _)
    | succ fu ih_outer =>
      intro b hb0 hfu ls H locs hl hV
      refine lv_iload_n hx hb dX4_divide_18 rfl (lv_at hl 1 rfl) ?_
      refine lv_if_lt (tgt := 206) hx hb dX4_divide_19 (by decide) (fun c19 => ?_) (fun c19 => ?_)
      · have hi0 : b = 0 := by
          cases b with
          | zero => rfl
          | succ j => exact absurd c19 (nI_pos (by omega))
        rw [hi0, dv_0] at hV
        refine lv_aload_n hx hb dX4_divide_206 rfl (lv_at hl 0 rfl) ?_
        refine lv_aload_n hx hb dX4_divide_207 rfl (lv_at hl 0 rfl) ?_
        refine hm_get (ci := 6) (v := .ref (A 5)) (C := RX4) (T := TX4) (N := 16) hx hb hws kin_X4 hown hK.1 hV ((hm_up_ne _ _ (md_ap hk (i := 0) (j := 5) (by decide) (by decide) (by decide))).trans ((hm_up_ne _ _ (md_ap hk (i := 0) (j := 7) (by decide) (by decide) (by decide))).trans (md_x hk))) rfl 6 (by decide) fl24 (fun _ h9 => h9) rfl dX4_divide_208 ?_
        refine lv_aload_n hx hb dX4_divide_211 rfl (lv_at hl 0 rfl) ?_
        refine hm_get (ci := 6) (v := .int (nI (sg v))) (C := RX4) (T := TX4) (N := 16) hx hb hws kin_X4 hown hK.1 hV ((hm_up_ne _ _ (md_ap hk (i := 0) (j := 5) (by decide) (by decide) (by decide))).trans ((hm_up_ne _ _ (md_ap hk (i := 0) (j := 7) (by decide) (by decide) (by decide))).trans (md_x hk))) rfl 7 (by decide) fl64 (fun _ h9 => h9) rfl dX4_divide_212 ?_
        refine hm_calli (va_runS (As := [.ref (A 5), .int (nI (sg v))]) (rest := [.ref (A 0)]) ⟨hx, hb, hml, hown, hts⟩ (c_X4_sizeOf l E (d := dg (v / u)) (n := 220) (m0 := (sg v)) (hm_up_self _ _ _) (by omega) (by decide) (fun j _ => by have := dg_lt (v / u) j; omega) H.size) (va_cwS 2 hts (hm_gS kw_546 kw_547 kw_41 kw_548) rfl rfl rfl (by decide +kernel) ⟨Nat.le_of_ble_eq_true rfl, Nat.le_of_ble_eq_true rfl⟩) (hm_preS hK hV) rfl rfl hl.1 rfl (lv_room (Nat.le_of_ble_eq_true rfl)) dX4_divide_215 ⟨Nat.le_of_ble_eq_true rfl, Nat.le_of_ble_eq_true rfl⟩) hV hA (fun r215 M1 H locs hp hV => ?_)
        obtain ⟨hr215, hM1⟩ := hp
        rw [hM1] at hV
        rw [sg_k (hvu) (by omega)] at hr215
        subst hr215
        refine hm_put (ci := 6) (v := .int (nI (sg (v / u)))) (ty := .int) (C := RX4) (T := TX4) (N := 16) hx hb hws kin_X4 tyX4 tyX4_ok nmX4 hown hK.1 hV ((hm_up_ne _ _ (md_ap hk (i := 0) (j := 5) (by decide) (by decide) (by decide))).trans ((hm_up_ne _ _ (md_ap hk (i := 0) (j := 7) (by decide) (by decide) (by decide))).trans (md_x hk))) rfl 7 (by decide) fl64 (fun _ h9 => h9) rfl (by decide +kernel) rfl rfl (Nat.le_of_ble_eq_true rfl) dX4_divide_218 (fun H locs hV => ?_)
        have hV : hm_V E.1 vwCl (hm_A M sz) s.heap (hm_up (hm_up (hm_up M (A 7) (hm_I E 220 (fun j => nI (dg (dvR v u 0) j)))) (A 5) (hm_I E 220 (fun j => nI (dg (v / u) j)))) (A 0) (.inr (6, [.int th, .int (nI cnt), .ref (A 1), .ref (A 2), .ref (A 3), .ref (A 4), .ref (A 5), .int (nI (sg (v / u))), .ref (A 6), .int (nI (sg u)), .ref (A 7), .ref (A 8), .ref (A 9), .ref (A 10), .ref (A 11), .ref (A 12)]))) H locs := hV
        rw [hQf]
        exact W.vret hx hb hr (fun t ht hW => ⟨⟨(hm_up (hm_up (hm_up M (A 7) (hm_I E 220 (fun j => nI (dg (dvR v u 0) j)))) (A 5) (hm_I E 220 (fun j => nI (dg (v / u) j)))) (A 0) (.inr (6, [.int th, .int (nI cnt), .ref (A 1), .ref (A 2), .ref (A 3), .ref (A 4), .ref (A 5), .int (nI (sg (v / u))), .ref (A 6), .int (nI (sg u)), .ref (A 7), .ref (A 8), .ref (A 9), .ref (A 10), .ref (A 11), .ref (A 12)]))), rfl, md_ux (md_uw (md_ur hk _) _) th (sg (v / u)) (sg u), (hm_end hV ht).1⟩, (hm_end hV ht).2⟩) hV.2.2.2.2 dX4_divide_221
      · obtain ⟨bt, rfl⟩ : ∃ j, b = j + 1 := by
          cases b with
          | zero => exact absurd (show nP 0 < 0 from by decide) c19
          | succ j => exact ⟨j, rfl⟩
        obtain ⟨hRu, hRa, hRb, hua⟩ := dv_R (v := v) (u := u) (q := bt) hu0 hu
        obtain ⟨-, hR1, -⟩ := dv_rest (v := v) (u := u) (b := bt) hu0
        have hcb : v / 2 ^ bt % 2 < 2 := Nat.mod_lt _ (by decide)
        have hl : lv_has ls 7 [(0, .ref (A 0)), (1, .int (nI bt))] := hl
        refine lv_aload_n hx hb dX4_divide_22 rfl (lv_at hl 0 rfl) ?_
        refine hm_get (ci := 6) (v := .ref (A 5)) (C := RX4) (T := TX4) (N := 16) hx hb hws kin_X4 hown hK.1 hV ((hm_up_ne _ _ (md_ap hk (i := 0) (j := 5) (by decide) (by decide) (by decide))).trans ((hm_up_ne _ _ (md_ap hk (i := 0) (j := 7) (by decide) (by decide) (by decide))).trans (md_x hk))) rfl 6 (by decide) fl24 (fun _ h9 => h9) rfl dX4_divide_23 ?_
        refine lv_iload_n hx hb dX4_divide_26 rfl (lv_at hl 1 rfl) ?_
        refine lv_bipush (v := 16) hx hb dX4_divide_27 (by decide) ?_
        refine lv_idiv hx hb dX4_divide_29 (by decide) ?_
        refine hm_topi (show ((nI bt) / 16) = nI (bt / 16) from pk_div (d := 16) (by omega) (by decide) (by decide)) ?_
        refine hm_ialdN hx hb hK.1 hV 0 (hm_up_self _ _ _) rfl (k := (bt / 16)) (by omega) (by omega) dX4_divide_30 ?_
        refine lv_iload_n hx hb dX4_divide_31 rfl (lv_at hl 1 rfl) ?_
        refine lv_bipush (v := 16) hx hb dX4_divide_32 (by decide) ?_
        refine lv_irem hx hb dX4_divide_34 (by decide) ?_
        refine hm_topi (show ((nI bt) - (nI bt) / 16 * 16) = nI (bt % 16) from pk_rem (d := 16) (by omega) (by decide) (by decide)) ?_
        refine lv_ishr hx hb dX4_divide_35 ?_
        refine lv_iconst (v := 1) hx hb dX4_divide_36 (by decide) ?_
        refine lv_iand hx hb dX4_divide_37 ?_
        refine hm_topi (show (((nI (dg (dvN v u (bt + 1)) (bt / 16))) >>> ((nI (bt % 16)) &&& 31)) &&& 1) = nI (v / 2 ^ bt % 2) from cv_bit) ?_
        refine lv_istore_n (lv' := [(2, .int (nI (v / 2 ^ bt % 2))), (0, .ref (A 0)), (1, .int (nI bt))]) hx hb dX4_divide_38 rfl hl (by decide) rfl (fun ls hl => ?_)
        generalize hcbe : v / 2 ^ bt % 2 = cb at *
        generalize hRe : dvR v u (bt + 1) = R at *
        obtain ⟨xf, hxf⟩ : ∃ xf : Nat → Int, xf = fun i => (if i = 0 then (cb : Int) else 0) + 2 * (dg R i : Int) := ⟨_, rfl⟩
        have hxi : ∀ i, xf i = (if i = 0 then (cb : Int) else 0) + 2 * (dg R i : Int) := fun i => by rw [hxf]
        have hbd := c16_bd (x := xf) (l := 0) (m := 3) (by omega) (by omega) (fun i => by have := dg_lt R i; rw [hxi]; split <;> omega)
        have hS := s_dbl cb hRa
        rw [← hxf] at hS
        have put : ∀ (gs : Int32), (gs = (if u ≤ 2 * R + cb then 1 else 0)) → ∀ (ls : Array Slot) (H : Heap) (locs : List Loc), lv_has ls 7 [(0, .ref (A 0)), (1, .int (nI bt)), (3, .int gs)] → hm_V E.1 vwCl (hm_A M sz) s.heap (hm_up (hm_up M (A 7) (hm_I E 220 (fun j => nI (dg (dvR v u bt) j)))) (A 5) (hm_I E 220 (fun j => nI (dg (dvN v u (bt + 1)) j)))) H locs → W p l e rm_X4_divide s m [.ref (A 0)].toArray below meth c H locs 0 0 Qf (F0 m 158 ls []) := by
          intro gs hgs ls H locs hl hV
          have join : ∀ (g : Nat), (g = (if u ≤ 2 * R + cb then 1 else 0)) → ∀ (ls : Array Slot) (H : Heap) (locs : List Loc), lv_has ls 7 [(0, .ref (A 0)), (1, .int (nI bt)), (3, .int gs)] → hm_V E.1 vwCl (hm_A M sz) s.heap (hm_up (hm_up M (A 7) (hm_I E 220 (fun j => nI (dg (dvR v u bt) j)))) (A 5) (hm_I E 220 (fun j => nI (dg (dvN v u (bt + 1)) j)))) H locs → W p l e rm_X4_divide s m [.ref (A 0)].toArray below meth c H locs 0 0 Qf (F0 m 198 ls [.int (nI (g * 2 ^ (bt % 16))), .int (nI (dg (dvN v u (bt + 1)) (bt / 16)) &&& (nI (2 ^ (bt % 16)) ^^^ (-1))), .int (nI (bt / 16)), .ref (A 5)]) := by
            intro g hg ls H locs hl hV
            refine lv_ior hx hb dX4_divide_198 ?_
            refine hm_iastN hx hb hK.1 hV 0 (hm_up_self _ _ _) rfl (k := (bt / 16)) (by omega) (by omega) dX4_divide_199 (fun H locs hV => ?_)
            rw [show (upd (fun j => nI (dg (dvN v u (bt + 1)) j)) (bt / 16) ((nI (dg (dvN v u (bt + 1)) (bt / 16)) &&& (nI (2 ^ (bt % 16)) ^^^ (-1))) ||| (nI (g * 2 ^ (bt % 16))))) = (fun j => nI (dg (dvN v u bt) j)) from dv_put hu0 (by rw [hRe, hcbe]; exact hg)] at hV
            rw [hm_u0] at hV
            have hV : hm_V E.1 vwCl (hm_A M sz) s.heap (hm_up (hm_up M (A 7) (hm_I E 220 (fun j => nI (dg (dvR v u bt) j)))) (A 5) (hm_I E 220 (fun j => nI (dg (dvN v u bt) j)))) H locs := hV
            refine lv_iinc (v := (nP bt)) (lv' := [(1, .int (nP bt)), (0, .ref (A 0)), (3, .int gs)]) hx hb dX4_divide_200 hl (k := 1) rfl (nP_dec bt) (by decide) rfl (fun ls hl => ?_)
            refine lv_goto (tgt := 18) hx hb dX4_divide_203 (by decide) ?_
            exact ih_outer bt (by omega) (by omega) ls H locs (lv_sub hl [1, 0] rfl) hV
          refine lv_aload_n hx hb dX4_divide_158 rfl (lv_at hl 0 rfl) ?_
          refine hm_get (ci := 6) (v := .ref (A 5)) (C := RX4) (T := TX4) (N := 16) hx hb hws kin_X4 hown hK.1 hV ((hm_up_ne _ _ (md_ap hk (i := 0) (j := 5) (by decide) (by decide) (by decide))).trans ((hm_up_ne _ _ (md_ap hk (i := 0) (j := 7) (by decide) (by decide) (by decide))).trans (md_x hk))) rfl 6 (by decide) fl24 (fun _ h9 => h9) rfl dX4_divide_159 ?_
          refine lv_iload_n hx hb dX4_divide_162 rfl (lv_at hl 1 rfl) ?_
          refine lv_bipush (v := 16) hx hb dX4_divide_163 (by decide) ?_
          refine lv_idiv hx hb dX4_divide_165 (by decide) ?_
          refine hm_topi (show ((nI bt) / 16) = nI (bt / 16) from pk_div (d := 16) (by omega) (by decide) (by decide)) ?_
          refine lv_aload_n hx hb dX4_divide_166 rfl (lv_at hl 0 rfl) ?_
          refine hm_get (ci := 6) (v := .ref (A 5)) (C := RX4) (T := TX4) (N := 16) hx hb hws kin_X4 hown hK.1 hV ((hm_up_ne _ _ (md_ap hk (i := 0) (j := 5) (by decide) (by decide) (by decide))).trans ((hm_up_ne _ _ (md_ap hk (i := 0) (j := 7) (by decide) (by decide) (by decide))).trans (md_x hk))) rfl 6 (by decide) fl24 (fun _ h9 => h9) rfl dX4_divide_167 ?_
          refine lv_iload_n hx hb dX4_divide_170 rfl (lv_at hl 1 rfl) ?_
          refine lv_bipush (v := 16) hx hb dX4_divide_171 (by decide) ?_
          refine lv_idiv hx hb dX4_divide_173 (by decide) ?_
          refine hm_topi (show ((nI bt) / 16) = nI (bt / 16) from pk_div (d := 16) (by omega) (by decide) (by decide)) ?_
          refine hm_ialdN hx hb hK.1 hV 0 (hm_up_self _ _ _) rfl (k := (bt / 16)) (by omega) (by omega) dX4_divide_174 ?_
          refine lv_iconst (v := 1) hx hb dX4_divide_175 (by decide) ?_
          refine lv_iload_n hx hb dX4_divide_176 rfl (lv_at hl 1 rfl) ?_
          refine lv_bipush (v := 16) hx hb dX4_divide_177 (by decide) ?_
          refine lv_irem hx hb dX4_divide_179 (by decide) ?_
          refine hm_topi (show ((nI bt) - (nI bt) / 16 * 16) = nI (bt % 16) from pk_rem (d := 16) (by omega) (by decide) (by decide)) ?_
          refine lv_ishl hx hb dX4_divide_180 ?_
          refine hm_topi (show (1 <<< ((nI (bt % 16)) &&& 31)) = nI (2 ^ (bt % 16)) from shl1 _ (Nat.mod_lt _ (by decide))) ?_
          refine lv_iconst (v := (-1)) hx hb dX4_divide_181 (by decide) ?_
          refine lv_ixor hx hb dX4_divide_182 ?_
          refine lv_iand hx hb dX4_divide_183 ?_
          refine lv_iload_n hx hb dX4_divide_184 rfl (lv_at hl 2 rfl) ?_
          refine lv_if_eq (tgt := 197) hx hb dX4_divide_185 (by decide) (fun c185 => ?_) (fun c185 => ?_)
          · have hno : ¬ u ≤ 2 * R + cb := fun h9 => by rw [hgs, if_pos h9] at c185; exact absurd c185 (by decide)
            refine lv_iconst (v := 0) hx hb dX4_divide_197 (by decide) ?_
            refine hm_topi (show 0 = nI (0 * 2 ^ (bt % 16)) from by rw [Nat.zero_mul]; rfl) ?_
            exact join 0 (by rw [if_neg hno]) ls H locs (lv_sub hl [0, 1, 2] rfl) hV
          · have hye : u ≤ 2 * R + cb := by
              by_cases h9 : u ≤ 2 * R + cb
              · exact h9
              · rw [hgs, if_neg h9] at c185; exact absurd rfl c185
            refine lv_iconst (v := 1) hx hb dX4_divide_188 (by decide) ?_
            refine lv_iload_n hx hb dX4_divide_189 rfl (lv_at hl 1 rfl) ?_
            refine lv_bipush (v := 16) hx hb dX4_divide_190 (by decide) ?_
            refine lv_irem hx hb dX4_divide_192 (by decide) ?_
            refine hm_topi (show ((nI bt) - (nI bt) / 16 * 16) = nI (bt % 16) from pk_rem (d := 16) (by omega) (by decide) (by decide)) ?_
            refine lv_ishl hx hb dX4_divide_193 ?_
            refine hm_topi (show (1 <<< ((nI (bt % 16)) &&& 31)) = nI (2 ^ (bt % 16)) from shl1 _ (Nat.mod_lt _ (by decide))) ?_
            refine lv_goto (tgt := 198) hx hb dX4_divide_194 (by decide) ?_
            refine hm_topi (show (nI (2 ^ (bt % 16))) = nI (1 * 2 ^ (bt % 16)) from by rw [Nat.one_mul]) ?_
            exact join 1 (by rw [if_pos hye]) ls H locs (lv_sub hl [0, 1, 2] rfl) hV
        rw [show (fun j => nI (dg R j)) = (fun j => nI (if j < 0 then ch_e 65536 xf j else dg R j)) from nu_up0 (ch_e 65536 xf) (dg R)] at hV
        refine lv_iconst (v := 0) hx hb dX4_divide_39 (by decide) ?_
        refine lv_istore_n (lv' := [(3, .int 0), (2, .int (nI (cb))), (0, .ref (A 0)), (1, .int (nI bt))]) hx hb dX4_divide_40 rfl hl (by decide) rfl (fun ls hl => ?_)
        rw [show (nI (cb)) = iZ (if 0 = 0 then (cb : Int) else ch_c 65536 xf 0) from by rw [if_pos rfl]; exact iZ_nI cb] at hl
        have hl : lv_has ls 7 [(3, .int 0), (2, .int (iZ (if 0 = 0 then (cb : Int) else ch_c 65536 xf 0))), (0, .ref (A 0)), (1, .int (nI bt))] := hl
        have dbl : ∀ (fu : Nat) (i : Nat), (i ≤ sg u + 1) → sg u + 1 - i < fu → ∀ (ls : Array Slot) (H : Heap) (locs : List Loc), lv_has ls 7 [(0, .ref (A 0)), (1, .int (nI bt)), (2, .int (iZ (if i = 0 then (cb : Int) else ch_c 65536 xf i))), (3, .int (nI i))] → hm_V E.1 vwCl (hm_A M sz) s.heap (hm_up (hm_up M (A 7) (hm_I E 220 (fun j => nI (if j < i then ch_e 65536 xf j else dg R j)))) (A 5) (hm_I E 220 (fun j => nI (dg (dvN v u (bt + 1)) j)))) H locs → W p l e rm_X4_divide s m [.ref (A 0)].toArray below meth c H locs 0 0 Qf (F0 m 41 ls []) := by
          intro fu
          induction fu with
          | zero => intro i hi hfu; exact absurd hfu (Nat.not_lt_zero _)
          | succ fu ih_dbl =>
            intro i hi hfu ls H locs hl hV
            refine lv_iload_n hx hb dX4_divide_41 rfl (lv_at hl 3 rfl) ?_
            refine lv_aload_n hx hb dX4_divide_42 rfl (lv_at hl 0 rfl) ?_
            refine hm_get (ci := 6) (v := .int (nI (sg u))) (C := RX4) (T := TX4) (N := 16) hx hb hws kin_X4 hown hK.1 hV ((hm_up_ne _ _ (md_ap hk (i := 0) (j := 5) (by decide) (by decide) (by decide))).trans ((hm_up_ne _ _ (md_ap hk (i := 0) (j := 7) (by decide) (by decide) (by decide))).trans (md_x hk))) rfl 9 (by decide) fl67 (fun _ h9 => h9) rfl dX4_divide_43 ?_
            refine lv_icmp_gt (tgt := 84) hx hb dX4_divide_46 (by decide) (fun c46 => ?_) (fun c46 => ?_)
            · have hi2 : i = sg u + 1 := by
                have := (nI_ltI (by omega) (by omega)).mp c46
                omega
              rw [hi2, c16_all hS hRb hRa] at hV
              have hk2 := md_uw (md_ur hk (fun j => nI (dg (2 * R + cb) j))) (fun j => nI (dg (dvN v u (bt + 1)) j))
              refine lv_aload_n hx hb dX4_divide_84 rfl (lv_at hl 0 rfl) ?_
              refine hm_calli (va_runV (As := []) (rest := []) ⟨hx, hb, hml, hown, hts⟩ (c_X4_reaches l E (R := 2 * R + cb) hk2 ((hm_up_ne _ _ (md_ap hk (i := 7) (j := 5) (by decide) (by decide) (by decide))).trans (hm_up_self _ _ _)) hu3 hRb hua H.size) (cwV 0 hts (hm_gV kw_606 kw_608 kw_30 kw_41 kw_609) rfl rfl rfl (by decide +kernel) ⟨Nat.le_of_ble_eq_true rfl, Nat.le_of_ble_eq_true rfl⟩) (hm_preV hK hV ((hm_up_ne _ _ (md_ap hk (i := 0) (j := 5) (by decide) (by decide) (by decide))).trans ((hm_up_ne _ _ (md_ap hk (i := 0) (j := 7) (by decide) (by decide) (by decide))).trans (md_x hk))) rfl) rfl rfl hl.1 rfl (lv_room (Nat.le_of_ble_eq_true rfl)) dX4_divide_85 ⟨Nat.le_of_ble_eq_true rfl, Nat.le_of_ble_eq_true rfl⟩) hV hA (fun r85 M1 H locs hp hV => ?_)
              obtain ⟨hr85, hM1⟩ := hp
              rw [hM1] at hV
              refine lv_istore_n (lv' := [(3, .int r85), (0, .ref (A 0)), (1, .int (nI bt)), (2, .int (iZ (if i = 0 then (cb : Int) else ch_c 65536 xf i)))]) hx hb dX4_divide_88 rfl hl (by decide) rfl (fun ls hl => ?_)
              refine lv_iconst (v := 0) hx hb dX4_divide_89 (by decide) ?_
              refine lv_istore (lv' := [(4, .int 0), (3, .int r85), (0, .ref (A 0)), (1, .int (nI bt)), (2, .int (iZ (if i = 0 then (cb : Int) else ch_c 65536 xf i)))]) hx hb dX4_divide_90 hl (by decide) rfl (fun ls hl => ?_)
              refine lv_iconst (v := 0) hx hb dX4_divide_92 (by decide) ?_
              refine lv_istore (lv' := [(5, .int 0), (4, .int 0), (3, .int r85), (0, .ref (A 0)), (1, .int (nI bt)), (2, .int (iZ (if i = 0 then (cb : Int) else ch_c 65536 xf i)))]) hx hb dX4_divide_93 hl (by decide) rfl (fun ls hl => ?_)
              obtain ⟨xg, hxg⟩ : ∃ xg : Nat → Int, xg = fun i => (dg (2 * R + cb) i : Int) - (dg u i : Int) := ⟨_, rfl⟩
              have hgi : ∀ i, xg i = (dg (2 * R + cb) i : Int) - (dg u i : Int) := fun i => by rw [hxg]
              have hbg := c16_b0 (x := xg) (fun i => by have := dg_lt (2 * R + cb) i; have := dg_lt u i; rw [hgi]; omega)
              rw [show (fun j => nI (dg (2 * R + cb) j)) = (fun j => nI (if j < 0 then ch_e 65536 xg j else dg (2 * R + cb) j)) from nu_up0 (ch_e 65536 xg) (dg (2 * R + cb))] at hV
              rw [show 0 = iZ (-(ch_c 65536 xg 0)) from rfl] at hl
              have hl : lv_has ls 7 [(5, .int 0), (4, .int (iZ (-(ch_c 65536 xg 0)))), (3, .int r85), (0, .ref (A 0)), (1, .int (nI bt)), (2, .int (iZ (if i = 0 then (cb : Int) else ch_c 65536 xf i)))] := hl
              have sub : ∀ (fu : Nat) (i : Nat), (i ≤ sg u + 1) → (0 < i → u ≤ 2 * R + cb) → sg u + 1 - i < fu → ∀ (ls : Array Slot) (H : Heap) (locs : List Loc), lv_has ls 7 [(0, .ref (A 0)), (1, .int (nI bt)), (3, .int r85), (4, .int (iZ (-(ch_c 65536 xg i)))), (5, .int (nI i))] → hm_V E.1 vwCl (hm_A M sz) s.heap (hm_up (hm_up M (A 7) (hm_I E 220 (fun j => nI (if j < i then ch_e 65536 xg j else dg (2 * R + cb) j)))) (A 5) (hm_I E 220 (fun j => nI (dg (dvN v u (bt + 1)) j)))) H locs → W p l e rm_X4_divide s m [.ref (A 0)].toArray below meth c H locs 0 0 Qf (F0 m 95 ls []) := by
                intro fu
                induction fu with
                | zero => intro i hi hg0 hfu; exact absurd hfu (Nat.not_lt_zero _)
                | succ fu ih_sub =>
                  intro i hi hg0 hfu ls H locs hl hV
                  refine lv_iload hx hb dX4_divide_95 (lv_at hl 4 rfl) ?_
                  refine lv_aload_n hx hb dX4_divide_97 rfl (lv_at hl 0 rfl) ?_
                  refine hm_get (ci := 6) (v := .int (nI (sg u))) (C := RX4) (T := TX4) (N := 16) hx hb hws kin_X4 hown hK.1 hV ((hm_up_ne _ _ (md_ap hk (i := 0) (j := 5) (by decide) (by decide) (by decide))).trans ((hm_up_ne _ _ (md_ap hk (i := 0) (j := 7) (by decide) (by decide) (by decide))).trans (md_x hk))) rfl 9 (by decide) fl67 (fun _ h9 => h9) rfl dX4_divide_98 ?_
                  refine lv_icmp_gt (tgt := 158) hx hb dX4_divide_101 (by decide) (fun c101 => ?_) (fun c101 => ?_)
                  · have hi2 : i = sg u + 1 := by
                      have := (nI_ltI (by omega) (by omega)).mp c101
                      omega
                    have hge := hg0 (by omega)
                    have hSg := s_sub hRb hua hge
                    rw [← hxg] at hSg
                    rw [hi2, c16_all hSg (by omega) hRb, show 2 * R + cb - u = dvR v u bt from by rw [hR1, if_pos hge]] at hV
                    exact put r85 hr85 ls H locs (lv_sub hl [0, 1, 2] rfl) hV
                  · have hi2 : i ≤ sg u := by
                      rcases Nat.lt_or_ge (sg u) i with q | q
                      · exact absurd (nI_lt q (by omega)) c101
                      · exact q
                    refine lv_iload_n hx hb dX4_divide_104 rfl (lv_at hl 2 rfl) ?_
                    refine lv_if_eq (tgt := 158) hx hb dX4_divide_105 (by decide) (fun c105 => ?_) (fun c105 => ?_)
                    · have hno : ¬ u ≤ 2 * R + cb := fun h9 => by rw [hr85, if_pos h9] at c105; exact absurd c105 (by decide)
                      have hi3 : i = 0 := by
                        rcases Nat.eq_zero_or_pos i with q | q
                        · exact q
                        · exact absurd (hg0 q) hno
                      rw [hi3, ← nu_up0 (ch_e 65536 xg) (dg (2 * R + cb)), show (fun j => nI (dg (2 * R + cb) j)) = (fun j => nI (dg (dvR v u bt) j)) from by rw [hR1, if_neg hno]] at hV
                      exact put r85 hr85 ls H locs (lv_sub hl [0, 1, 2] rfl) hV
                    · have hye : u ≤ 2 * R + cb := by
                        by_cases h9 : u ≤ 2 * R + cb
                        · exact h9
                        · rw [hr85, if_neg h9] at c105; exact absurd rfl c105
                      have h1 := dg_lt (2 * R + cb) i
                      have h2 := dg_lt u i
                      have h3 := hbg i
                      have h4 := hgi i
                      have h5 := hbg (i + 1)
                      have h6 : ch_c 65536 xg (i + 1) = (xg i + ch_c 65536 xg i) / 65536 := rfl
                      have h7 : -65536 ≤ xg i + ch_c 65536 xg i ∧ xg i + ch_c 65536 xg i ≤ 65535 := by omega
                      have next : ∀ (y : Int32), (y = iZ (-(ch_c 65536 xg (i + 1)))) → ∀ (ls : Array Slot) (H : Heap) (locs : List Loc), lv_has ls 7 [(0, .ref (A 0)), (1, .int (nI bt)), (3, .int r85), (5, .int (nI i))] → hm_V E.1 vwCl (hm_A M sz) s.heap (hm_up (hm_up M (A 7) (hm_I E 220 (fun j => nI (if j < (i + 1) then ch_e 65536 xg j else dg (2 * R + cb) j)))) (A 5) (hm_I E 220 (fun j => nI (dg (dvN v u (bt + 1)) j)))) H locs → W p l e rm_X4_divide s m [.ref (A 0)].toArray below meth c H locs 0 0 Qf (F0 m 150 ls [.int y]) := by
                        intro y hy ls H locs hl hV
                        subst hy
                        refine lv_istore (lv' := [(4, .int (iZ (-(ch_c 65536 xg (i + 1))))), (0, .ref (A 0)), (1, .int (nI bt)), (3, .int r85), (5, .int (nI i))]) hx hb dX4_divide_150 hl (by decide) rfl (fun ls hl => ?_)
                        refine lv_iinc (v := (nI (i + 1))) (lv' := [(5, .int (nI (i + 1))), (4, .int (iZ (-(ch_c 65536 xg (i + 1))))), (0, .ref (A 0)), (1, .int (nI bt)), (3, .int r85)]) hx hb dX4_divide_152 hl (k := 4) rfl (nI_1 i) (by decide) rfl (fun ls hl => ?_)
                        refine lv_goto (tgt := 95) hx hb dX4_divide_155 (by decide) ?_
                        exact ih_sub (i + 1) (by omega) (fun _ => hye) (by omega) ls H locs (lv_sub hl [2, 3, 4, 1, 0] rfl) hV
                      refine lv_aload_n hx hb dX4_divide_108 rfl (lv_at hl 0 rfl) ?_
                      refine hm_get (ci := 6) (v := .ref (A 7)) (C := RX4) (T := TX4) (N := 16) hx hb hws kin_X4 hown hK.1 hV ((hm_up_ne _ _ (md_ap hk (i := 0) (j := 5) (by decide) (by decide) (by decide))).trans ((hm_up_ne _ _ (md_ap hk (i := 0) (j := 7) (by decide) (by decide) (by decide))).trans (md_x hk))) rfl 10 (by decide) fl30 (fun _ h9 => h9) rfl dX4_divide_109 ?_
                      refine lv_iload hx hb dX4_divide_112 (lv_at hl 4 rfl) ?_
                      refine hm_ialdN hx hb hK.1 hV 0 ((hm_up_ne _ _ (md_ap hk (i := 7) (j := 5) (by decide) (by decide) (by decide))).trans (hm_up_self _ _ _)) rfl (k := i) (by omega) (by omega) dX4_divide_114 ?_
                      refine lv_aload_n hx hb dX4_divide_115 rfl (lv_at hl 0 rfl) ?_
                      refine hm_get (ci := 6) (v := .ref (A 6)) (C := RX4) (T := TX4) (N := 16) hx hb hws kin_X4 hown hK.1 hV ((hm_up_ne _ _ (md_ap hk (i := 0) (j := 5) (by decide) (by decide) (by decide))).trans ((hm_up_ne _ _ (md_ap hk (i := 0) (j := 7) (by decide) (by decide) (by decide))).trans (md_x hk))) rfl 8 (by decide) fl27 (fun _ h9 => h9) rfl dX4_divide_116 ?_
                      refine lv_iload hx hb dX4_divide_119 (lv_at hl 4 rfl) ?_
                      refine hm_ialdN hx hb hK.1 hV 0 ((hm_up_ne _ _ (md_ap hk (i := 6) (j := 5) (by decide) (by decide) (by decide))).trans ((hm_up_ne _ _ (md_ap hk (i := 6) (j := 7) (by decide) (by decide) (by decide))).trans (md_o hk))) rfl (k := i) (by omega) (by omega) dX4_divide_121 ?_
                      refine lv_isub hx hb dX4_divide_122 ?_
                      refine hm_topi (show ((nI (if i < i then ch_e 65536 xg i else dg (2 * R + cb) i)) - (nI (dg u i))) = iZ (xg i) from by rw [if_neg (Nat.lt_irrefl i), iZ_nI, iZ_nI, iZ_sub, hgi]) ?_
                      refine lv_iload hx hb dX4_divide_123 (lv_at hl 3 rfl) ?_
                      refine lv_isub hx hb dX4_divide_125 ?_
                      refine hm_topi (show ((iZ (xg i)) - (iZ (-(ch_c 65536 xg i)))) = iZ (xg i + ch_c 65536 xg i) from (iZ_sub _ _).trans (by congr 1; omega)) ?_
                      refine lv_istore (lv' := [(6, .int (iZ (xg i + ch_c 65536 xg i))), (0, .ref (A 0)), (1, .int (nI bt)), (3, .int r85), (4, .int (iZ (-(ch_c 65536 xg i)))), (5, .int (nI i))]) hx hb dX4_divide_126 hl (by decide) rfl (fun ls hl => ?_)
                      refine lv_aload_n hx hb dX4_divide_128 rfl (lv_at hl 1 rfl) ?_
                      refine hm_get (ci := 6) (v := .ref (A 7)) (C := RX4) (T := TX4) (N := 16) hx hb hws kin_X4 hown hK.1 hV ((hm_up_ne _ _ (md_ap hk (i := 0) (j := 5) (by decide) (by decide) (by decide))).trans ((hm_up_ne _ _ (md_ap hk (i := 0) (j := 7) (by decide) (by decide) (by decide))).trans (md_x hk))) rfl 10 (by decide) fl30 (fun _ h9 => h9) rfl dX4_divide_129 ?_
                      refine lv_iload hx hb dX4_divide_132 (lv_at hl 5 rfl) ?_
                      refine lv_iload hx hb dX4_divide_134 (lv_at hl 0 rfl) ?_
                      refine lv_ldc (v := 65535) hx hb hown ld80 dX4_divide_136 ?_
                      refine lv_iand hx hb dX4_divide_138 ?_
                      refine hm_topi (show ((iZ (xg i + ch_c 65536 xg i)) &&& 65535) = nI (ch_e 65536 xg i) from iZ_m16 _) ?_
                      refine hm_iastN hx hb hK.1 hV 0 ((hm_up_ne _ _ (md_ap hk (i := 7) (j := 5) (by decide) (by decide) (by decide))).trans (hm_up_self _ _ _)) rfl (k := i) (by omega) (by omega) dX4_divide_139 (fun H locs hV => ?_)
                      rw [show (upd (fun j => nI (if j < i then ch_e 65536 xg j else dg (2 * R + cb) j)) i (nI (ch_e 65536 xg i))) = (fun j => nI (if j < (i + 1) then ch_e 65536 xg j else dg (2 * R + cb) j)) from nu_up (ch_e 65536 xg) (dg (2 * R + cb)) i] at hV
                      rw [hm_u1 (md_ap hk (i := 5) (j := 7) (by decide) (by decide) (by decide))] at hV
                      have hV : hm_V E.1 vwCl (hm_A M sz) s.heap (hm_up (hm_up M (A 7) (hm_I E 220 (fun j => nI (if j < (i + 1) then ch_e 65536 xg j else dg (2 * R + cb) j)))) (A 5) (hm_I E 220 (fun j => nI (dg (dvN v u (bt + 1)) j)))) H locs := hV
                      refine lv_iload hx hb dX4_divide_140 (lv_at hl 0 rfl) ?_
                      refine lv_if_ge (tgt := 149) hx hb dX4_divide_142 (by decide) (fun c142 => ?_) (fun c142 => ?_)
                      · have h8 : 0 ≤ xg i + ch_c 65536 xg i := by
                          have := Int32.le_iff_toInt_le.mp c142
                          rw [iZ_toInt (by omega) (by omega)] at this
                          simpa using this
                        refine lv_iconst (v := 0) hx hb dX4_divide_149 (by decide) ?_
                        exact next 0 (by rw [show ch_c 65536 xg (i + 1) = 0 by omega]; rfl) ls H locs (lv_sub hl [1, 2, 3, 5] rfl) hV
                      · have h8 : xg i + ch_c 65536 xg i < 0 := by
                          rcases Int.lt_or_le (xg i + ch_c 65536 xg i) 0 with q | q
                          · exact q
                          · exact absurd (Int32.le_iff_toInt_le.mpr (by rw [iZ_toInt (by omega) (by omega)]; simpa using q)) c142
                        refine lv_iconst (v := 1) hx hb dX4_divide_145 (by decide) ?_
                        refine lv_goto (tgt := 150) hx hb dX4_divide_146 (by decide) ?_
                        exact next 1 (by rw [show ch_c 65536 xg (i + 1) = -1 by omega]; rfl) ls H locs (lv_sub hl [1, 2, 3, 5] rfl) hV
              exact sub (sg u + 2) 0 (Nat.zero_le _) (fun h9 => absurd h9 (Nat.lt_irrefl 0)) (by omega) ls H locs (lv_sub hl [3, 4, 2, 1, 0] rfl) hV
            · have hi2 : i ≤ sg u := by
                rcases Nat.lt_or_ge (sg u) i with q | q
                · exact absurd (nI_lt q (by omega)) c46
                · exact q
              have h1 := dg_lt R i
              have h3 := hbd i
              have h4 := hxi i
              have h5 : 0 ≤ xf i ∧ xf i ≤ 131071 := by rw [h4]; split <;> omega
              refine lv_iconst (v := 2) hx hb dX4_divide_49 (by decide) ?_
              refine lv_aload_n hx hb dX4_divide_50 rfl (lv_at hl 0 rfl) ?_
              refine hm_get (ci := 6) (v := .ref (A 7)) (C := RX4) (T := TX4) (N := 16) hx hb hws kin_X4 hown hK.1 hV ((hm_up_ne _ _ (md_ap hk (i := 0) (j := 5) (by decide) (by decide) (by decide))).trans ((hm_up_ne _ _ (md_ap hk (i := 0) (j := 7) (by decide) (by decide) (by decide))).trans (md_x hk))) rfl 10 (by decide) fl30 (fun _ h9 => h9) rfl dX4_divide_51 ?_
              refine lv_iload_n hx hb dX4_divide_54 rfl (lv_at hl 3 rfl) ?_
              refine hm_ialdN hx hb hK.1 hV 0 ((hm_up_ne _ _ (md_ap hk (i := 7) (j := 5) (by decide) (by decide) (by decide))).trans (hm_up_self _ _ _)) rfl (k := i) (by omega) (by omega) dX4_divide_55 ?_
              refine lv_imul hx hb dX4_divide_56 ?_
              refine hm_topi (show (2 * (nI (if i < i then ch_e 65536 xf i else dg R i))) = iZ (2 * (dg R i : Int)) from by rw [if_neg (Nat.lt_irrefl i), iZ_nI, show (2 : Int32) = iZ 2 from rfl, iZ_mul]) ?_
              refine lv_iload_n hx hb dX4_divide_57 rfl (lv_at hl 2 rfl) ?_
              refine lv_iadd hx hb dX4_divide_58 ?_
              refine hm_topi (show ((iZ (2 * (dg R i : Int))) + (iZ (if i = 0 then (cb : Int) else ch_c 65536 xf i))) = iZ (xf i + ch_c 65536 xf i) from by rw [iZ_add]; congr 1; rw [hxi]; by_cases h9 : i = 0 <;> simp [h9, ch_c] <;> omega) ?_
              refine lv_istore (lv' := [(4, .int (iZ (xf i + ch_c 65536 xf i))), (0, .ref (A 0)), (1, .int (nI bt)), (2, .int (iZ (if i = 0 then (cb : Int) else ch_c 65536 xf i))), (3, .int (nI i))]) hx hb dX4_divide_59 hl (by decide) rfl (fun ls hl => ?_)
              refine lv_aload_n hx hb dX4_divide_61 rfl (lv_at hl 1 rfl) ?_
              refine hm_get (ci := 6) (v := .ref (A 7)) (C := RX4) (T := TX4) (N := 16) hx hb hws kin_X4 hown hK.1 hV ((hm_up_ne _ _ (md_ap hk (i := 0) (j := 5) (by decide) (by decide) (by decide))).trans ((hm_up_ne _ _ (md_ap hk (i := 0) (j := 7) (by decide) (by decide) (by decide))).trans (md_x hk))) rfl 10 (by decide) fl30 (fun _ h9 => h9) rfl dX4_divide_62 ?_
              refine lv_iload_n hx hb dX4_divide_65 rfl (lv_at hl 4 rfl) ?_
              refine lv_iload hx hb dX4_divide_66 (lv_at hl 0 rfl) ?_
              refine lv_ldc (v := 65535) hx hb hown ld80 dX4_divide_68 ?_
              refine lv_iand hx hb dX4_divide_70 ?_
              refine hm_topi (show ((iZ (xf i + ch_c 65536 xf i)) &&& 65535) = nI (ch_e 65536 xf i) from iZ_m16 _) ?_
              refine hm_iastN hx hb hK.1 hV 0 ((hm_up_ne _ _ (md_ap hk (i := 7) (j := 5) (by decide) (by decide) (by decide))).trans (hm_up_self _ _ _)) rfl (k := i) (by omega) (by omega) dX4_divide_71 (fun H locs hV => ?_)
              rw [show (upd (fun j => nI (if j < i then ch_e 65536 xf j else dg R j)) i (nI (ch_e 65536 xf i))) = (fun j => nI (if j < (i + 1) then ch_e 65536 xf j else dg R j)) from nu_up (ch_e 65536 xf) (dg R) i] at hV
              rw [hm_u1 (md_ap hk (i := 5) (j := 7) (by decide) (by decide) (by decide))] at hV
              have hV : hm_V E.1 vwCl (hm_A M sz) s.heap (hm_up (hm_up M (A 7) (hm_I E 220 (fun j => nI (if j < (i + 1) then ch_e 65536 xf j else dg R j)))) (A 5) (hm_I E 220 (fun j => nI (dg (dvN v u (bt + 1)) j)))) H locs := hV
              refine lv_iload hx hb dX4_divide_72 (lv_at hl 0 rfl) ?_
              refine lv_bipush (v := 16) hx hb dX4_divide_74 (by decide) ?_
              refine lv_ishr hx hb dX4_divide_76 ?_
              refine hm_topi (show ((iZ (xf i + ch_c 65536 xf i)) >>> (16 &&& 31)) = iZ (ch_c 65536 xf (i + 1)) from iZ_s16 (by omega) (by omega)) ?_
              refine lv_istore_n (lv' := [(2, .int (iZ (ch_c 65536 xf (i + 1)))), (4, .int (iZ (xf i + ch_c 65536 xf i))), (0, .ref (A 0)), (1, .int (nI bt)), (3, .int (nI i))]) hx hb dX4_divide_77 rfl hl (by decide) rfl (fun ls hl => ?_)
              refine lv_iinc (v := (nI (i + 1))) (lv' := [(3, .int (nI (i + 1))), (2, .int (iZ (ch_c 65536 xf (i + 1)))), (4, .int (iZ (xf i + ch_c 65536 xf i))), (0, .ref (A 0)), (1, .int (nI bt))]) hx hb dX4_divide_78 hl (k := 4) rfl (nI_1 i) (by decide) rfl (fun ls hl => ?_)
              refine lv_goto (tgt := 41) hx hb dX4_divide_81 (by decide) ?_
              rw [show (iZ (ch_c 65536 xf (i + 1))) = iZ (if (i + 1) = 0 then (cb : Int) else ch_c 65536 xf (i + 1)) from by rw [if_neg (by omega)]] at hl
              have hl : lv_has ls 7 [(3, .int (nI (i + 1))), (2, .int (iZ (if (i + 1) = 0 then (cb : Int) else ch_c 65536 xf (i + 1)))), (4, .int (iZ (xf i + ch_c 65536 xf i))), (0, .ref (A 0)), (1, .int (nI bt))] := hl
              exact ih_dbl (i + 1) (by omega) (by omega) ls H locs (lv_sub hl [3, 4, 1, 0] rfl) hV
        exact dbl (sg u + 2) 0 (Nat.zero_le _) (by omega) ls H locs (lv_sub hl [2, 3, 1, 0] rfl) hV
  exact outer (16 * sg v + 1) (16 * sg v) (Nat.le_refl _) (by omega) ls H locs (lv_sub hl [1, 0] rfl) hV
