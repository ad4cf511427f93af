abbrev wd_X0_shiftInto : List Cond := .code yX0_shiftInto cX0_shiftInto 6 none :: hm_ws
abbrev rm_X0_shiftInto : Room := { frames := 1, cells := 0, slots := 0, locals := 21 }

set_option maxHeartbeats 4000000 in
set_option maxRecDepth 100000 in
/-- shiftInto(target, number, shift) -/
theorem c_X0_shiftInto (l : Launch) (E : hm_E) {M : hm_M} {tg o lo m k sh : Nat} {g : Int32} {b cc0 : Nat → Nat} {z : Int} (ht : M tg = some (hm_I E 66 (fun j => nI (cc0 j)))) (hcc : ∀ j, j < 66 → cc0 j < 33554432) (hwo : M o = some (hm_W lo (nI k) g)) (hao : M lo = some (hm_I E m (fun j => nI (b j)))) (ho : wn_ok m b k g z) (h_lo_tg : hm_ap lo tg) (hk : k ≤ 65) (hm : m < 1000) (hsh : sh ≤ 24) : hm_Cv l E yX0_shiftInto wd_X0_shiftInto rm_X0_shiftInto [.ref tg, .ref o, .int (nI sh)] M (fun M1 => ∃ e : Nat → Nat, M1 = hm_up M tg (hm_I E 66 (fun j => nI (e j))) ∧ (∀ j, j < 66 → e j < 33554432) ∧ nu_v 33554432 e (k + 1) = z.natAbs * 2 ^ sh) := by
  intro sz
  refine Met.ofW (cc := cX0_shiftInto) (maxL := 6) (ret := none) (by decide) rfl ?_
  intro p e s m args below meth c s₁ B hml hv
  obtain ⟨rfl, hAe, hA, hK, hV⟩ := hm_start hv
  have hx := B.exec
  have hb := B.bytes
  have hr := B.returns
  have hts := atoms_spec (ws := wd_X0_shiftInto) B.pre
  have hws : ∀ w ∈ hm_ws, w.before _ s = true := fun w h => hts w (List.mem_cons_of_mem _ h)
  have hown : s.vm.findClass RX0 = some m.cls := findClass_of_methodNamed B.named
  have hlocks := B.notSynchronized
  have ld65 := hws _ kw_278
  have hl := lv_entry ([.ref tg, .ref o, .int (nI sh)]) (n := 6) (Nat.le_of_ble_eq_true rfl)
  rw [lg_entry_eq]
  generalize (lg_sl ([.ref tg, .ref o, .int (nI sh)]) ++ List.replicate (6 - (lg_sl ([.ref tg, .ref o, .int (nI sh)])).length) Slot.unset).toArray = ls at hl ⊢
  have hl : lv_has ls 6 [(0, .ref tg), (1, .ref o), (2, .int (nI sh))] := hl
  refine hm_gen (rm := rm_X0_shiftInto) rfl (fun Qf hQf => ?_)
  have h_o_tg : hm_ap o tg := hm_oa hwo ht
  have hzk := wn_lt ho
  obtain ⟨ho1, ho2, ho3, ho4, ho5⟩ := ho
  have hca : ∀ t, (if t < k then b t else 0) < 33554432 := fun t => by
    split
    · exact ho2 t (by omega)
    · omega
  have h2s : 2 ^ sh ≤ 16777216 := Nat.pow_le_pow_right (n := 2) (by decide) (show sh ≤ 24 from hsh)
  have h2s0 : 0 < 2 ^ sh := Nat.pow_pos (by decide)
  obtain ⟨X, hX⟩ : ∃ X : Nat → Int, X = fun t => (((if t < k then b t else 0) * 2 ^ sh : Nat) : Int) := ⟨_, rfl⟩
  have hXi : ∀ t, X t = (((if t < k then b t else 0) * 2 ^ sh : Nat) : Int) := fun t => by rw [hX]
  have hXb : ∀ i, 0 ≤ X i ∧ X i ≤ 33554431 * ((2 ^ sh : Nat) : Int) := fun i => by
    have h1 := hca i
    have h2 : (if i < k then b i else 0) * 2 ^ sh ≤ 33554431 * 2 ^ sh := Nat.mul_le_mul_right _ (by omega)
    rw [hXi]
    omega
  have hcr := sh_bd (x := X) (q := ((2 ^ sh : Nat) : Int)) (by omega) hXb
  have hSX : ch_s 33554432 X (k + 1) = ((z.natAbs * 2 ^ sh : Nat) : Int) := by
    rw [hX, ch_nu25, nu_scale, nu_ext _ _ (by omega), ho4]
  have hE := ch_fit hSX (mul_fit hzk (by omega))
  refine lv_lconst (v := 0) hx hb dX0_shiftInto_0 (by decide) ?_
  refine lv_lstore_n (lv' := [(3, .long 0), (0, .ref tg), (1, .ref o), (2, .int (nI sh))]) hx hb dX0_shiftInto_1 rfl hl (by decide) rfl (fun ls hl => ?_)
  refine lv_iconst (v := 0) hx hb dX0_shiftInto_2 (by decide) ?_
  refine lv_istore (lv' := [(5, .int 0), (3, .long 0), (0, .ref tg), (1, .ref o), (2, .int (nI sh))]) hx hb dX0_shiftInto_3 hl (by decide) rfl (fun ls hl => ?_)
  have hV : hm_V E.1 vwCl (hm_A M sz) s.heap (hm_up M tg (hm_I E 66 (fun j => nI (if j < 0 then ch_e 33554432 X j else cc0 j)))) s.heap [] := by rw [hm_up_id ((ht).trans (congrArg (fun f9 => some (hm_I E 66 f9)) (nu_up0 (ch_e 33554432 X) cc0)))]; exact hV
  have hl : lv_has ls 6 [(5, .int 0), (3, .long (lZ (ch_c 33554432 X 0))), (0, .ref tg), (1, .ref o), (2, .int (nI sh))] := hl
  have loop : ∀ (fu : Nat) (i : Nat), (i ≤ k + 1) → k + 1 - i < fu → ∀ (ls : Array Slot) (H : Heap) (locs : List Loc), lv_has ls 6 [(0, .ref tg), (1, .ref o), (2, .int (nI sh)), (3, .long (lZ (ch_c 33554432 X i))), (5, .int (nI i))] → hm_V E.1 vwCl (hm_A M sz) s.heap (hm_up M tg (hm_I E 66 (fun j => nI (if j < i then ch_e 33554432 X j else cc0 j)))) H locs → W p l e rm_X0_shiftInto s m [.ref tg, .ref o, .int (nI sh)].toArray below meth c H locs 0 0 Qf (F0 m 5 ls []) := by
    intro fu
    induction fu with
    | zero => intro i hi hfu; exact absurd hfu (Nat.not_lt_zero _)
    | succ fu ih_loop =>
      intro i hi hfu ls H locs hl hV
      refine lv_iload hx hb dX0_shiftInto_5 (lv_at hl 4 rfl) ?_
      refine lv_aload_n hx hb dX0_shiftInto_7 rfl (lv_at hl 1 rfl) ?_
      refine hm_getN (ci := 4) (v := .int (nI k)) (C := RX2) (T := TX2) (N := 3) hx hb hws kin_X2 hown hK.1 hV ((hm_up_ne _ _ h_o_tg).trans hwo) rfl 1 (by decide) (va_Nw.use rfl (hK.2.1 _ (List.mem_of_getElem? (i := 0) rfl))) (fun _ h9 => h9) rfl dX0_shiftInto_8 ?_
      refine lv_icmp_gt (tgt := 54) hx hb dX0_shiftInto_11 (by decide) (fun c11 => ?_) (fun c11 => ?_)
      · have hik : i = k + 1 := by
          rcases Nat.lt_or_ge k i with q | q
          · omega
          · exact absurd c11 (nI_nlt q (by omega))
        subst hik
        rw [hQf]
        exact W.vret hx hb hr (fun t ht hW => ⟨⟨_, rfl, ⟨_, rfl, nu_ifd (fun j _ => ch_e25 X j) hcc, by rw [nu_if, hE]⟩, (hm_end hV ht).1⟩, (hm_end hV ht).2⟩) hV.2.2.2.2 dX0_shiftInto_54
      · have hik : i ≤ k := by
          rcases Nat.lt_or_ge k i with q | q
          · exact absurd (nI_lt q (by omega)) c11
          · exact q
        have hc1 := hcr i
        have hx1 := hXb i
        refine lv_iload hx hb dX0_shiftInto_14 (lv_at hl 4 rfl) ?_
        refine lv_aload_n hx hb dX0_shiftInto_16 rfl (lv_at hl 0 rfl) ?_
        refine hm_alen (v := nI 66) hx hb hK.1 hV 0 (hm_up_self _ _ _) rfl rfl dX0_shiftInto_17 ?_
        refine lv_icmp_ge (tgt := 54) hx hb dX0_shiftInto_18 (by decide) (fun c18 => ?_) (fun c18 => ?_)
        · exact absurd c18 (nI_ge (b := 66) (show i < 66 by omega) (by omega))
        · refine lv_lload_n hx hb dX0_shiftInto_21 rfl (lv_at hl 3 rfl) ?_
          refine lv_aload_n hx hb dX0_shiftInto_22 rfl (lv_at hl 1 rfl) ?_
          refine lv_iload hx hb dX0_shiftInto_23 (lv_at hl 4 rfl) ?_
          refine hm_calli (va_runVN (As := [.int (nI i)]) (rest := [.long (lZ (ch_c 33554432 X i))]) ⟨hx, hb, hml, hown, hts⟩ (c_X2_limbAt l E (k := k) (i := i) (d := b) ((hm_up_ne _ _ h_o_tg).trans hwo) ((hm_up_ne _ _ h_lo_tg).trans hao) ho1 (by omega) (by omega) H.size) ⟨(va_cnB 1 hts (hm_gI kw_168) rfl rfl rfl (hK.2.2 _ (List.mem_of_getElem? (i := 3) rfl)) (hws _ kw_38) (by decide +kernel) ⟨Nat.le_of_ble_eq_true rfl, Nat.le_of_ble_eq_true rfl⟩), hws _ kw_167, hws _ kw_3⟩ (hm_preV hK hV ((hm_up_ne _ _ h_o_tg).trans hwo) rfl) rfl rfl hl.1 rfl (lv_room (Nat.le_of_ble_eq_true rfl)) dX0_shiftInto_25 ⟨Nat.le_of_ble_eq_true rfl, Nat.le_of_ble_eq_true rfl⟩) hV hA (fun r25 M1 H locs hp hV => ?_)
          obtain ⟨hr25, rfl⟩ := hp
          refine hm_topi (show r25 = nI (if i < k then b i else 0) from hr25) ?_
          refine lv_i2l hx hb dX0_shiftInto_28 rfl ?_
          refine hm_topl (show ((nI (if i < k then b i else 0)).toInt64) = lN (if i < k then b i else 0) from nI_l (by have := hca i; omega)) ?_
          refine lv_iload_n hx hb dX0_shiftInto_29 rfl (lv_at hl 2 rfl) ?_
          refine lv_lshl hx hb dX0_shiftInto_30 rfl ?_
          refine hm_topl (show ((lN (if i < k then b i else 0)) <<< ((nI sh).toInt64 &&& 63)) = lN ((if i < k then b i else 0) * 2 ^ sh) from wb_shl _ (by omega)) ?_
          refine lv_lor hx hb dX0_shiftInto_31 ?_
          refine hm_topl (show ((lZ (ch_c 33554432 X i)) ||| (lN ((if i < k then b i else 0) * 2 ^ sh))) = lZ (X i + ch_c 33554432 X i) from (by rw [sh_or hc1.1 hc1.2 hsh (hca i), hXi])) ?_
          refine lv_lstore_n (lv' := [(3, .long (lZ (X i + ch_c 33554432 X i))), (0, .ref tg), (1, .ref o), (2, .int (nI sh)), (5, .int (nI i))]) hx hb dX0_shiftInto_32 rfl hl (by decide) rfl (fun ls hl => ?_)
          refine lv_aload_n hx hb dX0_shiftInto_33 rfl (lv_at hl 1 rfl) ?_
          refine lv_iload hx hb dX0_shiftInto_34 (lv_at hl 4 rfl) ?_
          refine lv_lload_n hx hb dX0_shiftInto_36 rfl (lv_at hl 0 rfl) ?_
          refine lv_ldc2 (v := 33554431) hx hb hown ld65 dX0_shiftInto_37 ?_
          refine lv_land hx hb dX0_shiftInto_40 ?_
          refine hm_topl (show ((lZ (X i + ch_c 33554432 X i)) &&& 33554431) = lZ ((ch_e 33554432 X i : Nat) : Int) from lZ_mask' _) ?_
          refine lv_l2i hx hb dX0_shiftInto_41 rfl ?_
          refine hm_topi (show ((lZ ((ch_e 33554432 X i : Nat) : Int)).toInt32) = nI (ch_e 33554432 X i) from lZ_nI _) ?_
          refine hm_iastN hx hb hK.1 hV 0 (hm_up_self _ _ _) rfl (k := i) (by omega) (by omega) dX0_shiftInto_42 (fun H locs hV => ?_)
          rw [show (upd (fun j => nI (if j < i then ch_e 33554432 X j else cc0 j)) i (nI (ch_e 33554432 X i))) = (fun j => nI (if j < i + 1 then ch_e 33554432 X j else cc0 j)) from nu_up (ch_e 33554432 X) cc0 i] at hV
          rw [hm_u0] at hV
          have hV : hm_V E.1 vwCl (hm_A M sz) s.heap (hm_up M tg (hm_I E 66 (fun j => nI (if j < i + 1 then ch_e 33554432 X j else cc0 j)))) H locs := hV
          refine lv_lload_n hx hb dX0_shiftInto_43 rfl (lv_at hl 0 rfl) ?_
          refine lv_bipush (v := 25) hx hb dX0_shiftInto_44 (by decide) ?_
          refine lv_lshr hx hb dX0_shiftInto_46 rfl ?_
          refine hm_topl (show ((lZ (X i + ch_c 33554432 X i)) >>> ((25 : Int32).toInt64 &&& 63)) = lZ (ch_c 33554432 X (i + 1)) from lZ_shr (by omega) (by omega)) ?_
          refine lv_lstore_n (lv' := [(3, .long (lZ (ch_c 33554432 X (i + 1)))), (0, .ref tg), (1, .ref o), (2, .int (nI sh)), (5, .int (nI i))]) hx hb dX0_shiftInto_47 rfl hl (by decide) rfl (fun ls hl => ?_)
          refine lv_iinc (v := (nI (i + 1))) (lv' := [(5, .int (nI (i + 1))), (3, .long (lZ (ch_c 33554432 X (i + 1)))), (0, .ref tg), (1, .ref o), (2, .int (nI sh))]) hx hb dX0_shiftInto_48 hl (k := 4) rfl (nI_1 i) (by decide) rfl (fun ls hl => ?_)
          refine lv_goto (tgt := 5) hx hb dX0_shiftInto_51 (by decide) ?_
          exact ih_loop (i + 1) (by omega) (by omega) ls H locs (lv_sub hl [2, 3, 4, 1, 0] rfl) hV
  exact loop (k + 2) 0 (Nat.zero_le _) (by omega) ls s.heap [] (lv_sub hl [2, 3, 4, 1, 0] rfl) hV

abbrev wd_X0_giveBack : List Cond := .code yX0_giveBack cX0_giveBack 5 none :: hm_ws
abbrev rm_X0_giveBack : Room := { frames := 0, cells := 0, slots := 0, locals := 0 }

set_option maxHeartbeats 4000000 in
set_option maxRecDepth 100000 in
/-- giveBack(at, size) -/
theorem c_X0_giveBack (l : Launch) (E : hm_E) {M : hm_M} {dv lr lv ps sn : Nat} {r v : Nat → Nat} (hdv : M dv = some (.inr (2, [.ref lr, .ref lv]))) (hlr : M lr = some (hm_I E 66 (fun j => nI (r j)))) (hlv : M lv = some (hm_I E 66 (fun j => nI (v j)))) (hrb : ∀ j, j < 66 → r j < 33554432) (hvb : ∀ j, j < 66 → v j < 33554432) (h_lv_lr : hm_ap lv lr) (hat : ps + sn < 66) : hm_Cv l E yX0_giveBack wd_X0_giveBack rm_X0_giveBack [.ref dv, .int (nI ps), .int (nI sn)] M (fun M1 => M1 = hm_up M lr (hm_I E 66 (fun j => nI (if ps ≤ j ∧ j < ps + sn then ch_e 33554432 (fun i => (((r (ps + i) + v i) : Nat) : Int)) (j - ps) else r j)))) := by
  intro sz
  refine Met.ofW (cc := cX0_giveBack) (maxL := 5) (ret := none) (by decide) rfl ?_
  intro p e s m args below meth c s₁ B hml hv
  obtain ⟨rfl, hAe, hA, hK, hV⟩ := hm_start hv
  have hx := B.exec
  have hb := B.bytes
  have hr := B.returns
  have hts := atoms_spec (ws := wd_X0_giveBack) B.pre
  have hws : ∀ w ∈ hm_ws, w.before _ s = true := fun w h => hts w (List.mem_cons_of_mem _ h)
  have hown : s.vm.findClass RX0 = some m.cls := findClass_of_methodNamed B.named
  have hlocks := B.notSynchronized
  have fl9 := hws _ kw_95
  have fl15 := hws _ kw_96
  have ld81 := hws _ kw_296
  have hl := lv_entry ([.ref dv, .int (nI ps), .int (nI sn)]) (n := 5) (Nat.le_of_ble_eq_true rfl)
  rw [lg_entry_eq]
  generalize (lg_sl ([.ref dv, .int (nI ps), .int (nI sn)]) ++ List.replicate (5 - (lg_sl ([.ref dv, .int (nI ps), .int (nI sn)])).length) Slot.unset).toArray = ls at hl ⊢
  have hl : lv_has ls 5 [(0, .ref dv), (1, .int (nI ps)), (2, .int (nI sn))] := hl
  refine hm_gen (rm := rm_X0_giveBack) rfl (fun Qf hQf => ?_)
  have h_dv_lr : hm_ap dv lr := hm_oa hdv hlr
  obtain ⟨X, hX⟩ : ∃ X : Nat → Int, X = fun i => (((r (ps + i) + v i) : Nat) : Int) := ⟨_, rfl⟩
  have hXi : ∀ t, X t = (((r (ps + t) + v t) : Nat) : Int) := fun t => by rw [hX]
  rw [← hX] at hQf
  have hcr : ∀ i, i ≤ sn → 0 ≤ ch_c 33554432 X i ∧ ch_c 33554432 X i ≤ 2 := fun i => by
    induction i with
    | zero => intro _; exact ⟨Int.le_refl 0, show (0 : Int) ≤ 2 by decide⟩
    | succ i ih =>
      intro hi
      have h1 := ih (by omega)
      have h2 := hrb (ps + i) (by omega)
      have h3 := hvb i (by omega)
      rw [ch_c, hXi]
      omega
  refine lv_iconst (v := 0) hx hb dX0_giveBack_0 (by decide) ?_
  refine lv_istore_n (lv' := [(3, .int 0), (0, .ref dv), (1, .int (nI ps)), (2, .int (nI sn))]) hx hb dX0_giveBack_1 rfl hl (by decide) rfl (fun ls hl => ?_)
  refine lv_iconst (v := 0) hx hb dX0_giveBack_2 (by decide) ?_
  refine lv_istore (lv' := [(4, .int 0), (3, .int 0), (0, .ref dv), (1, .int (nI ps)), (2, .int (nI sn))]) hx hb dX0_giveBack_3 hl (by decide) rfl (fun ls hl => ?_)
  have hV : hm_V E.1 vwCl (hm_A M sz) s.heap (hm_up M lr (hm_I E 66 (fun j => nI (if ps ≤ j ∧ j < ps + 0 then ch_e 33554432 X (j - ps) else r j)))) s.heap [] := by rw [hm_up_id ((hlr).trans (congrArg (fun f9 => some (hm_I E 66 f9)) (nu_win0 (ch_e 33554432 X) r ps)))]; exact hV
  have hl : lv_has ls 5 [(4, .int 0), (3, .int (iZ (ch_c 33554432 X 0))), (0, .ref dv), (1, .int (nI ps)), (2, .int (nI sn))] := hl
  have loop : ∀ (fu : Nat) (i : Nat), (i ≤ sn) → sn - i < fu → ∀ (ls : Array Slot) (H : Heap) (locs : List Loc), lv_has ls 5 [(0, .ref dv), (1, .int (nI ps)), (2, .int (nI sn)), (3, .int (iZ (ch_c 33554432 X i))), (4, .int (nI i))] → hm_V E.1 vwCl (hm_A M sz) s.heap (hm_up M lr (hm_I E 66 (fun j => nI (if ps ≤ j ∧ j < ps + i then ch_e 33554432 X (j - ps) else r j)))) H locs → W p l e rm_X0_giveBack s m [.ref dv, .int (nI ps), .int (nI sn)].toArray below meth c H locs 0 0 Qf (F0 m 5 ls []) := by
    intro fu
    induction fu with
    | zero => intro i hi hfu; exact absurd hfu (Nat.not_lt_zero _)
    | succ fu ih_loop =>
      intro i hi hfu ls H locs hl hV
      refine lv_iload hx hb dX0_giveBack_5 (lv_at hl 4 rfl) ?_
      refine lv_iload_n hx hb dX0_giveBack_7 rfl (lv_at hl 2 rfl) ?_
      refine lv_icmp_ge (tgt := 55) hx hb dX0_giveBack_8 (by decide) (fun c8 => ?_) (fun c8 => ?_)
      · have hik : i = sn := by
          rcases Nat.lt_or_ge i sn with q | q
          · exact absurd c8 (nI_ge q (by omega))
          · omega
        subst hik
        rw [hQf]
        exact W.vret hx hb hr (fun t ht hW => ⟨⟨_, rfl, rfl, (hm_end hV ht).1⟩, (hm_end hV ht).2⟩) hV.2.2.2.2 dX0_giveBack_55
      · have hik : i < sn := by
          rcases Nat.lt_or_ge i sn with q | q
          · exact q
          · exact absurd (nI_le q (by omega)) c8
        have hc1 := hcr i hi
        have hx1 := hXi i
        have hr1 := hrb (ps + i) (by omega)
        have hv1 := hvb i (by omega)
        refine lv_iload_n hx hb dX0_giveBack_11 rfl (lv_at hl 3 rfl) ?_
        refine lv_aload_n hx hb dX0_giveBack_12 rfl (lv_at hl 0 rfl) ?_
        refine hm_get (ci := 2) (v := .ref lr) (C := RX0) (T := TX0) (N := 2) hx hb hws kin_X0 hown hK.1 hV ((hm_up_ne _ _ h_dv_lr).trans hdv) rfl 0 (by decide) fl9 (fun _ h9 => h9) rfl dX0_giveBack_13 ?_
        refine lv_iload_n hx hb dX0_giveBack_16 rfl (lv_at hl 1 rfl) ?_
        refine lv_iload hx hb dX0_giveBack_17 (lv_at hl 4 rfl) ?_
        refine lv_iadd hx hb dX0_giveBack_19 ?_
        refine hm_topi (show ((nI ps) + (nI i)) = nI (ps + i) from nI_add _ _) ?_
        refine hm_ialdN hx hb hK.1 hV 0 (hm_up_self _ _ _) rfl (k := (ps + i)) (by omega) (by omega) dX0_giveBack_20 ?_
        refine hm_topi (show (nI (if ps ≤ (ps + i) ∧ (ps + i) < ps + i then ch_e 33554432 X ((ps + i) - ps) else r (ps + i))) = iZ ((r (ps + i) : Nat) : Int) from (by rw [if_neg (by omega), iZ_nI])) ?_
        refine lv_aload_n hx hb dX0_giveBack_21 rfl (lv_at hl 0 rfl) ?_
        refine hm_get (ci := 2) (v := .ref lv) (C := RX0) (T := TX0) (N := 2) hx hb hws kin_X0 hown hK.1 hV ((hm_up_ne _ _ h_dv_lr).trans hdv) rfl 1 (by decide) fl15 (fun _ h9 => h9) rfl dX0_giveBack_22 ?_
        refine lv_iload hx hb dX0_giveBack_25 (lv_at hl 4 rfl) ?_
        refine hm_ialdN hx hb hK.1 hV 0 ((hm_up_ne _ _ h_lv_lr).trans hlv) rfl (k := i) (by omega) (by omega) dX0_giveBack_27 ?_
        refine hm_topi (show (nI (v i)) = iZ ((v i : Nat) : Int) from iZ_nI _) ?_
        refine lv_iadd hx hb dX0_giveBack_28 ?_
        refine hm_topi (show ((iZ ((r (ps + i) : Nat) : Int)) + (iZ ((v i : Nat) : Int))) = iZ (X i) from (by rw [iZ_add, hXi, Int.natCast_add])) ?_
        refine lv_iadd hx hb dX0_giveBack_29 ?_
        refine hm_topi (show ((iZ (ch_c 33554432 X i)) + (iZ (X i))) = iZ (X i + ch_c 33554432 X i) from (by rw [iZ_add, Int.add_comm])) ?_
        refine lv_istore_n (lv' := [(3, .int (iZ (X i + ch_c 33554432 X i))), (0, .ref dv), (1, .int (nI ps)), (2, .int (nI sn)), (4, .int (nI i))]) hx hb dX0_giveBack_30 rfl hl (by decide) rfl (fun ls hl => ?_)
        refine lv_aload_n hx hb dX0_giveBack_31 rfl (lv_at hl 1 rfl) ?_
        refine hm_get (ci := 2) (v := .ref lr) (C := RX0) (T := TX0) (N := 2) hx hb hws kin_X0 hown hK.1 hV ((hm_up_ne _ _ h_dv_lr).trans hdv) rfl 0 (by decide) fl9 (fun _ h9 => h9) rfl dX0_giveBack_32 ?_
        refine lv_iload_n hx hb dX0_giveBack_35 rfl (lv_at hl 2 rfl) ?_
        refine lv_iload hx hb dX0_giveBack_36 (lv_at hl 4 rfl) ?_
        refine lv_iadd hx hb dX0_giveBack_38 ?_
        refine hm_topi (show ((nI ps) + (nI i)) = nI (ps + i) from nI_add _ _) ?_
        refine lv_iload_n hx hb dX0_giveBack_39 rfl (lv_at hl 0 rfl) ?_
        refine lv_ldc (v := 33554431) hx hb hown ld81 dX0_giveBack_40 ?_
        refine lv_iand hx hb dX0_giveBack_42 ?_
        refine hm_topi (show ((iZ (X i + ch_c 33554432 X i)) &&& 33554431) = nI (ch_e 33554432 X i) from iZ_mask _) ?_
        refine hm_iastN hx hb hK.1 hV 0 (hm_up_self _ _ _) rfl (k := (ps + i)) (by omega) (by omega) dX0_giveBack_43 (fun H locs hV => ?_)
        rw [show (upd (fun j => nI (if ps ≤ j ∧ j < ps + i then ch_e 33554432 X (j - ps) else r j)) (ps + i) (nI (ch_e 33554432 X i))) = (fun j => nI (if ps ≤ j ∧ j < ps + (i + 1) then ch_e 33554432 X (j - ps) else r j)) from nu_win (ch_e 33554432 X) r ps i] at hV
        rw [hm_u0] at hV
        have hV : hm_V E.1 vwCl (hm_A M sz) s.heap (hm_up M lr (hm_I E 66 (fun j => nI (if ps ≤ j ∧ j < ps + (i + 1) then ch_e 33554432 X (j - ps) else r j)))) H locs := hV
        refine lv_iload_n hx hb dX0_giveBack_44 rfl (lv_at hl 0 rfl) ?_
        refine lv_bipush (v := 25) hx hb dX0_giveBack_45 (by decide) ?_
        refine lv_ishr hx hb dX0_giveBack_47 ?_
        refine hm_topi (show ((iZ (X i + ch_c 33554432 X i)) >>> (25 &&& 31)) = iZ (ch_c 33554432 X (i + 1)) from iZ_shr (by omega) (by omega)) ?_
        refine lv_istore_n (lv' := [(3, .int (iZ (ch_c 33554432 X (i + 1)))), (0, .ref dv), (1, .int (nI ps)), (2, .int (nI sn)), (4, .int (nI i))]) hx hb dX0_giveBack_48 rfl hl (by decide) rfl (fun ls hl => ?_)
        refine lv_iinc (v := (nI (i + 1))) (lv' := [(4, .int (nI (i + 1))), (3, .int (iZ (ch_c 33554432 X (i + 1)))), (0, .ref dv), (1, .int (nI ps)), (2, .int (nI sn))]) hx hb dX0_giveBack_49 hl (k := 4) rfl (nI_1 i) (by decide) rfl (fun ls hl => ?_)
        refine lv_goto (tgt := 5) hx hb dX0_giveBack_52 (by decide) ?_
        exact ih_loop (i + 1) (by omega) (by omega) ls H locs (lv_sub hl [2, 3, 4, 1, 0] rfl) hV
  exact loop (sn + 1) 0 (Nat.zero_le _) (by omega) ls s.heap [] (lv_sub hl [2, 3, 4, 1, 0] rfl) hV

abbrev wd_X0_takeAway : List Cond := .code yX0_takeAway cX0_takeAway 8 (some .boolean) :: hm_ws
abbrev rm_X0_takeAway : Room := { frames := 0, cells := 0, slots := 0, locals := 0 }

set_option maxHeartbeats 4000000 in
set_option maxRecDepth 100000 in
/-- takeAway(at, size, guess) -/
theorem c_X0_takeAway (l : Launch) (E : hm_E) {M : hm_M} {dv lr lv ps sn : Nat} {r v : Nat → Nat} {gs : Nat} (hdv : M dv = some (.inr (2, [.ref lr, .ref lv]))) (hlr : M lr = some (hm_I E 66 (fun j => nI (r j)))) (hlv : M lv = some (hm_I E 66 (fun j => nI (v j)))) (hrb : ∀ j, j < 66 → r j < 33554432) (hvb : ∀ j, j < 66 → v j < 33554432) (h_lv_lr : hm_ap lv lr) (hat : ps + sn < 66) (hgs : gs ≤ 33554433) : hm_Ci l E yX0_takeAway wd_X0_takeAway rm_X0_takeAway [.ref dv, .int (nI ps), .int (nI sn), .long (lZ (gs : Int))] M (fun r0 M1 => r0 = (if ch_c 33554432 (fun i => ((r (ps + i) : Nat) : Int) - (gs : Int) * ((v i : Nat) : Int)) sn + ((r (ps + sn) : Nat) : Int) < 0 then 0 else 1) ∧ M1 = hm_up M lr (hm_I E 66 (fun j => nI (if ps ≤ j ∧ j < ps + sn then ch_e 33554432 (fun i => ((r (ps + i) : Nat) : Int) - (gs : Int) * ((v i : Nat) : Int)) (j - ps) else r j)))) := by
  intro sz
  refine Met.ofW (cc := cX0_takeAway) (maxL := 8) (ret := (some .boolean)) (by decide) rfl ?_
  intro p e s m args below meth c s₁ B hml hv
  obtain ⟨rfl, hAe, hA, hK, hV⟩ := hm_start hv
  have hx := B.exec
  have hb := B.bytes
  have hr := B.returns
  have hts := atoms_spec (ws := wd_X0_takeAway) B.pre
  have hws : ∀ w ∈ hm_ws, w.before _ s = true := fun w h => hts w (List.mem_cons_of_mem _ h)
  have hown : s.vm.findClass RX0 = some m.cls := findClass_of_methodNamed B.named
  have hlocks := B.notSynchronized
  have fl9 := hws _ kw_95
  have fl15 := hws _ kw_96
  have ld65 := hws _ kw_278
  have hl := lv_entry ([.ref dv, .int (nI ps), .int (nI sn), .long (lZ (gs : Int))]) (n := 8) (Nat.le_of_ble_eq_true rfl)
  rw [lg_entry_eq]
  generalize (lg_sl ([.ref dv, .int (nI ps), .int (nI sn), .long (lZ (gs : Int))]) ++ List.replicate (8 - (lg_sl ([.ref dv, .int (nI ps), .int (nI sn), .long (lZ (gs : Int))])).length) Slot.unset).toArray = ls at hl ⊢
  have hl : lv_has ls 8 [(0, .ref dv), (1, .int (nI ps)), (2, .int (nI sn)), (3, .long (lZ (gs : Int)))] := hl
  refine hm_gen (rm := rm_X0_takeAway) rfl (fun Qf hQf => ?_)
  have h_dv_lr : hm_ap dv lr := hm_oa hdv hlr
  obtain ⟨X, hX⟩ : ∃ X : Nat → Int, X = (fun i => ((r (ps + i) : Nat) : Int) - (gs : Int) * ((v i : Nat) : Int)) := ⟨_, rfl⟩
  have hXi : ∀ t, X t = ((r (ps + t) : Nat) : Int) - (gs : Int) * ((v t : Nat) : Int) := fun t => by rw [hX]
  rw [← hX] at hQf
  have hXb : ∀ i, i < sn → -(33554433 * 33554431) ≤ X i ∧ X i ≤ 33554431 := fun i hi => by
    have h2 := hrb (ps + i) (by omega)
    have h3 := hvb i (by omega)
    have h4 : gs * v i ≤ 33554433 * 33554431 := Nat.mul_le_mul hgs (by omega)
    rw [hXi]
    have h5 : (gs : Int) * ((v i : Nat) : Int) = ((gs * v i : Nat) : Int) := by rw [Int.natCast_mul]
    rw [h5]
    omega
  have hcr : ∀ i, i ≤ sn → -33554435 ≤ ch_c 33554432 X i ∧ ch_c 33554432 X i ≤ 1 := fun i => by
    induction i with
    | zero => intro _; exact ⟨show (-33554435 : Int) ≤ 0 by decide, show (0 : Int) ≤ 1 by decide⟩
    | succ i ih =>
      intro hi
      have h1 := ih (by omega)
      have h2 := hXb i (by omega)
      rw [ch_c]
      omega
  refine lv_lconst (v := 0) hx hb dX0_takeAway_0 (by decide) ?_
  refine lv_lstore (lv' := [(5, .long 0), (0, .ref dv), (1, .int (nI ps)), (2, .int (nI sn)), (3, .long (lZ (gs : Int)))]) hx hb dX0_takeAway_1 hl (by decide) rfl (fun ls hl => ?_)
  refine lv_iconst (v := 0) hx hb dX0_takeAway_3 (by decide) ?_
  refine lv_istore (lv' := [(7, .int 0), (5, .long 0), (0, .ref dv), (1, .int (nI ps)), (2, .int (nI sn)), (3, .long (lZ (gs : Int)))]) hx hb dX0_takeAway_4 hl (by decide) rfl (fun ls hl => ?_)
  have hV : hm_V E.1 vwCl (hm_A M sz) s.heap (hm_up M lr (hm_I E 66 (fun j => nI (if ps ≤ j ∧ j < ps + 0 then ch_e 33554432 X (j - ps) else r j)))) s.heap [] := by rw [hm_up_id ((hlr).trans (congrArg (fun f9 => some (hm_I E 66 f9)) (nu_win0 (ch_e 33554432 X) r ps)))]; exact hV
  have hl : lv_has ls 8 [(7, .int 0), (5, .long (lZ (ch_c 33554432 X 0))), (0, .ref dv), (1, .int (nI ps)), (2, .int (nI sn)), (3, .long (lZ (gs : Int)))] := hl
  have loop : ∀ (fu : Nat) (i : Nat), (i ≤ sn) → sn - i < fu → ∀ (ls : Array Slot) (H : Heap) (locs : List Loc), lv_has ls 8 [(0, .ref dv), (1, .int (nI ps)), (2, .int (nI sn)), (3, .long (lZ (gs : Int))), (5, .long (lZ (ch_c 33554432 X i))), (7, .int (nI i))] → hm_V E.1 vwCl (hm_A M sz) s.heap (hm_up M lr (hm_I E 66 (fun j => nI (if ps ≤ j ∧ j < ps + i then ch_e 33554432 X (j - ps) else r j)))) H locs → W p l e rm_X0_takeAway s m [.ref dv, .int (nI ps), .int (nI sn), .long (lZ (gs : Int))].toArray below meth c H locs 0 0 Qf (F0 m 6 ls []) := by
    intro fu
    induction fu with
    | zero => intro i hi hfu; exact absurd hfu (Nat.not_lt_zero _)
    | succ fu ih_loop =>
      intro i hi hfu ls H locs hl hV
      refine lv_iload hx hb dX0_takeAway_6 (lv_at hl 5 rfl) ?_
      refine lv_iload_n hx hb dX0_takeAway_8 rfl (lv_at hl 2 rfl) ?_
      refine lv_icmp_ge (tgt := 67) hx hb dX0_takeAway_9 (by decide) (fun c9 => ?_) (fun c9 => ?_)
      · have hik : i = sn := by
          rcases Nat.lt_or_ge i sn with q | q
          · exact absurd c9 (nI_ge q (by omega))
          · omega
        subst hik
        have hc1 := hcr i hi
        have hr1 := hrb (ps + i) (by omega)
        refine lv_lload hx hb dX0_takeAway_67 (lv_at hl 4 rfl) ?_
        refine lv_aload_n hx hb dX0_takeAway_69 rfl (lv_at hl 0 rfl) ?_
        refine hm_get (ci := 2) (v := .ref lr) (C := RX0) (T := TX0) (N := 2) hx hb hws kin_X0 hown hK.1 hV ((hm_up_ne _ _ h_dv_lr).trans hdv) rfl 0 (by decide) fl9 (fun _ h9 => h9) rfl dX0_takeAway_70 ?_
        refine lv_iload_n hx hb dX0_takeAway_73 rfl (lv_at hl 1 rfl) ?_
        refine lv_iload_n hx hb dX0_takeAway_74 rfl (lv_at hl 2 rfl) ?_
        refine lv_iadd hx hb dX0_takeAway_75 ?_
        refine hm_topi (show ((nI ps) + (nI i)) = nI (ps + i) from nI_add _ _) ?_
        refine hm_ialdN hx hb hK.1 hV 0 (hm_up_self _ _ _) rfl (k := (ps + i)) (by omega) (by omega) dX0_takeAway_76 ?_
        refine lv_i2l hx hb dX0_takeAway_77 rfl ?_
        refine hm_topl (show ((nI (if ps ≤ (ps + i) ∧ (ps + i) < ps + i then ch_e 33554432 X ((ps + i) - ps) else r (ps + i))).toInt64) = lZ ((r (ps + i) : Nat) : Int) from (by rw [if_neg (by omega)]; exact nI_lZ (by omega))) ?_
        refine lv_ladd hx hb dX0_takeAway_78 ?_
        refine hm_topl (show ((lZ (ch_c 33554432 X i)) + (lZ ((r (ps + i) : Nat) : Int))) = lZ (ch_c 33554432 X i + ((r (ps + i) : Nat) : Int)) from lZ_add _ _) ?_
        refine lv_lconst (v := 0) hx hb dX0_takeAway_79 (by decide) ?_
        refine W.lcmp hx hb dX0_takeAway_80 ?_
        refine lv_if_lt (tgt := 88) hx hb dX0_takeAway_81 (by decide) (fun c81 => ?_) (fun c81 => ?_)
        · have hneg : ch_c 33554432 X i + ((r (ps + i) : Nat) : Int) < 0 := (lZ_lt (b := 0) (by omega) (by omega) (by omega) (by omega)).mp ((lg_cmp_lt _ _).mp c81)
          refine lv_iconst (v := 0) hx hb dX0_takeAway_88 (by decide) ?_
          rw [hQf]
          exact W.zret hx hb hr (rfl) (fun t ht hW => ⟨⟨_, _, rfl, ⟨by rw [if_pos hneg], rfl⟩, (hm_end hV ht).1⟩, (hm_end hV ht).2⟩) hV.2.2.2.2 dX0_takeAway_89
        · have hneg : ¬ ch_c 33554432 X i + ((r (ps + i) : Nat) : Int) < 0 := fun q => c81 ((lg_cmp_lt _ _).mpr ((lZ_lt (b := 0) (by omega) (by omega) (by omega) (by omega)).mpr q))
          refine lv_iconst (v := 1) hx hb dX0_takeAway_84 (by decide) ?_
          refine lv_goto (tgt := 89) hx hb dX0_takeAway_85 (by decide) ?_
          rw [hQf]
          exact W.zret hx hb hr (rfl) (fun t ht hW => ⟨⟨_, _, rfl, ⟨by rw [if_neg hneg], rfl⟩, (hm_end hV ht).1⟩, (hm_end hV ht).2⟩) hV.2.2.2.2 dX0_takeAway_89
      · have hik : i < sn := by
          rcases Nat.lt_or_ge i sn with q | q
          · exact q
          · exact absurd (nI_le q (by omega)) c9
        have hc1 := hcr i hi
        have hx1 := hXb i hik
        have hr1 := hrb (ps + i) (by omega)
        have hv1 := hvb i (by omega)
        refine lv_lload hx hb dX0_takeAway_12 (lv_at hl 4 rfl) ?_
        refine lv_aload_n hx hb dX0_takeAway_14 rfl (lv_at hl 0 rfl) ?_
        refine hm_get (ci := 2) (v := .ref lr) (C := RX0) (T := TX0) (N := 2) hx hb hws kin_X0 hown hK.1 hV ((hm_up_ne _ _ h_dv_lr).trans hdv) rfl 0 (by decide) fl9 (fun _ h9 => h9) rfl dX0_takeAway_15 ?_
        refine lv_iload_n hx hb dX0_takeAway_18 rfl (lv_at hl 1 rfl) ?_
        refine lv_iload hx hb dX0_takeAway_19 (lv_at hl 5 rfl) ?_
        refine lv_iadd hx hb dX0_takeAway_21 ?_
        refine hm_topi (show ((nI ps) + (nI i)) = nI (ps + i) from nI_add _ _) ?_
        refine hm_ialdN hx hb hK.1 hV 0 (hm_up_self _ _ _) rfl (k := (ps + i)) (by omega) (by omega) dX0_takeAway_22 ?_
        refine lv_i2l hx hb dX0_takeAway_23 rfl ?_
        refine hm_topl (show ((nI (if ps ≤ (ps + i) ∧ (ps + i) < ps + i then ch_e 33554432 X ((ps + i) - ps) else r (ps + i))).toInt64) = lZ ((r (ps + i) : Nat) : Int) from (by rw [if_neg (by omega)]; exact nI_lZ (by omega))) ?_
        refine lv_lload_n hx hb dX0_takeAway_24 rfl (lv_at hl 3 rfl) ?_
        refine lv_aload_n hx hb dX0_takeAway_25 rfl (lv_at hl 0 rfl) ?_
        refine hm_get (ci := 2) (v := .ref lv) (C := RX0) (T := TX0) (N := 2) hx hb hws kin_X0 hown hK.1 hV ((hm_up_ne _ _ h_dv_lr).trans hdv) rfl 1 (by decide) fl15 (fun _ h9 => h9) rfl dX0_takeAway_26 ?_
        refine lv_iload hx hb dX0_takeAway_29 (lv_at hl 5 rfl) ?_
        refine hm_ialdN hx hb hK.1 hV 0 ((hm_up_ne _ _ h_lv_lr).trans hlv) rfl (k := i) (by omega) (by omega) dX0_takeAway_31 ?_
        refine lv_i2l hx hb dX0_takeAway_32 rfl ?_
        refine hm_topl (show ((nI (v i)).toInt64) = lZ ((v i : Nat) : Int) from nI_lZ (by omega)) ?_
        refine lv_lmul hx hb dX0_takeAway_33 ?_
        refine hm_topl (show ((lZ (gs : Int)) * (lZ ((v i : Nat) : Int))) = lZ ((gs : Int) * ((v i : Nat) : Int)) from lZ_mul _ _) ?_
        refine lv_lsub hx hb dX0_takeAway_34 ?_
        refine hm_topl (show ((lZ ((r (ps + i) : Nat) : Int)) - (lZ ((gs : Int) * ((v i : Nat) : Int)))) = lZ (X i) from (by rw [lZ_sub, hXi])) ?_
        refine lv_ladd hx hb dX0_takeAway_35 ?_
        refine hm_topl (show ((lZ (ch_c 33554432 X i)) + (lZ (X i))) = lZ (X i + ch_c 33554432 X i) from (by rw [lZ_add, Int.add_comm])) ?_
        refine lv_lstore (lv' := [(5, .long (lZ (X i + ch_c 33554432 X i))), (0, .ref dv), (1, .int (nI ps)), (2, .int (nI sn)), (3, .long (lZ (gs : Int))), (7, .int (nI i))]) hx hb dX0_takeAway_36 hl (by decide) rfl (fun ls hl => ?_)
        refine lv_aload_n hx hb dX0_takeAway_38 rfl (lv_at hl 1 rfl) ?_
        refine hm_get (ci := 2) (v := .ref lr) (C := RX0) (T := TX0) (N := 2) hx hb hws kin_X0 hown hK.1 hV ((hm_up_ne _ _ h_dv_lr).trans hdv) rfl 0 (by decide) fl9 (fun _ h9 => h9) rfl dX0_takeAway_39 ?_
        refine lv_iload_n hx hb dX0_takeAway_42 rfl (lv_at hl 2 rfl) ?_
        refine lv_iload hx hb dX0_takeAway_43 (lv_at hl 5 rfl) ?_
        refine lv_iadd hx hb dX0_takeAway_45 ?_
        refine hm_topi (show ((nI ps) + (nI i)) = nI (ps + i) from nI_add _ _) ?_
        refine lv_lload hx hb dX0_takeAway_46 (lv_at hl 0 rfl) ?_
        refine lv_ldc2 (v := 33554431) hx hb hown ld65 dX0_takeAway_48 ?_
        refine lv_land hx hb dX0_takeAway_51 ?_
        refine hm_topl (show ((lZ (X i + ch_c 33554432 X i)) &&& 33554431) = lZ ((ch_e 33554432 X i : Nat) : Int) from lZ_mask' _) ?_
        refine lv_l2i hx hb dX0_takeAway_52 rfl ?_
        refine hm_topi (show ((lZ ((ch_e 33554432 X i : Nat) : Int)).toInt32) = nI (ch_e 33554432 X i) from lZ_nI _) ?_
        refine hm_iastN hx hb hK.1 hV 0 (hm_up_self _ _ _) rfl (k := (ps + i)) (by omega) (by omega) dX0_takeAway_53 (fun H locs hV => ?_)
        rw [show (upd (fun j => nI (if ps ≤ j ∧ j < ps + i then ch_e 33554432 X (j - ps) else r j)) (ps + i) (nI (ch_e 33554432 X i))) = (fun j => nI (if ps ≤ j ∧ j < ps + (i + 1) then ch_e 33554432 X (j - ps) else r j)) from nu_win (ch_e 33554432 X) r ps i] at hV
        rw [hm_u0] at hV
        have hV : hm_V E.1 vwCl (hm_A M sz) s.heap (hm_up M lr (hm_I E 66 (fun j => nI (if ps ≤ j ∧ j < ps + (i + 1) then ch_e 33554432 X (j - ps) else r j)))) H locs := hV
        refine lv_lload hx hb dX0_takeAway_54 (lv_at hl 0 rfl) ?_
        refine lv_bipush (v := 25) hx hb dX0_takeAway_56 (by decide) ?_
        refine lv_lshr hx hb dX0_takeAway_58 rfl ?_
        refine hm_topl (show ((lZ (X i + ch_c 33554432 X i)) >>> ((25 : Int32).toInt64 &&& 63)) = lZ (ch_c 33554432 X (i + 1)) from lZ_shr (by omega) (by omega)) ?_
        refine lv_lstore (lv' := [(5, .long (lZ (ch_c 33554432 X (i + 1)))), (0, .ref dv), (1, .int (nI ps)), (2, .int (nI sn)), (3, .long (lZ (gs : Int))), (7, .int (nI i))]) hx hb dX0_takeAway_59 hl (by decide) rfl (fun ls hl => ?_)
        refine lv_iinc (v := (nI (i + 1))) (lv' := [(7, .int (nI (i + 1))), (5, .long (lZ (ch_c 33554432 X (i + 1)))), (0, .ref dv), (1, .int (nI ps)), (2, .int (nI sn)), (3, .long (lZ (gs : Int)))]) hx hb dX0_takeAway_61 hl (k := 5) rfl (nI_1 i) (by decide) rfl (fun ls hl => ?_)
        refine lv_goto (tgt := 6) hx hb dX0_takeAway_64 (by decide) ?_
        exact ih_loop (i + 1) (by omega) (by omega) ls H locs (lv_sub hl [2, 3, 4, 5, 1, 0] rfl) hV
  exact loop (sn + 1) 0 (Nat.zero_le _) (by omega) ls s.heap [] (lv_sub hl [2, 3, 4, 5, 1, 0] rfl) hV
