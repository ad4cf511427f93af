abbrev wd_X2_multiplyBy : List Cond := .code yX2_multiplyBy cX2_multiplyBy 6 none :: hm_ws
abbrev rm_X2_multiplyBy : Room := { frames := 1, cells := 0, slots := 0, locals := 22 }

set_option maxHeartbeats 4000000 in
set_option maxRecDepth 100000 in
/-- multiplyBy(f) -/
theorem c_X2_multiplyBy (l : Launch) (E : hm_E) {M : hm_M} {w la n k f : Nat} {g : Int32} {d : Nat → Nat} {z : Int} (hw : M w = some (hm_W la (nI k) g)) (ha : M la = some (hm_I E n (fun j => nI (d j)))) (ho : wn_ok n d k g z) (hn : n < 1000) (hkn : k + 1 ≤ n) (hf : f < 33554432) : hm_Cv l E yX2_multiplyBy wd_X2_multiplyBy rm_X2_multiplyBy [.ref w, .int (nI f)] M (wn_post E M w la n (z * f)) := by
  intro sz
  refine Met.ofW (cc := cX2_multiplyBy) (maxL := 6) (ret := none) (by decide) rfl ?_
  intro p e s m args below meth c s₁ B hml hv
  obtain ⟨rfl, hAe, hA, hK, hV⟩ := hm_start hv
  have hx := B.exec
  have hb := B.bytes
  have hr := B.returns
  have hts := atoms_spec (ws := wd_X2_multiplyBy) B.pre
  have hws : ∀ w ∈ hm_ws, w.before _ s = true := fun w h => hts w (List.mem_cons_of_mem _ h)
  have hown : s.vm.findClass RX2 = some m.cls := findClass_of_methodNamed B.named
  have hlocks := B.notSynchronized
  have fl9 := hws _ kw_73
  have fl25 := hws _ kw_71
  have fl15 := hws _ kw_76
  have ld32 := hws _ kw_139
  have hl := lv_entry ([.ref w, .int (nI f)]) (n := 6) (Nat.le_of_ble_eq_true rfl)
  rw [lg_entry_eq]
  generalize (lg_sl ([.ref w, .int (nI f)]) ++ List.replicate (6 - (lg_sl ([.ref w, .int (nI f)])).length) Slot.unset).toArray = ls at hl ⊢
  have hl : lv_has ls 6 [(0, .ref w), (1, .int (nI f))] := hl
  refine hm_gen (rm := rm_X2_multiplyBy) rfl (fun Qf hQf => ?_)
  have h_w_la : hm_ap w la := hm_oa hw ha
  obtain ⟨ho1, ho2, ho3, ho4, ho5⟩ := ho
  obtain ⟨X, hX⟩ : ∃ X : Nat → Int, X = fun t => (((if t < k then d t else 0) * f : Nat) : Int) := ⟨_, rfl⟩
  have hXb : ∀ i, 33554431 * 0 ≤ X i ∧ X i ≤ 33554431 * (f : Int) := fun i => by
    have hXi : X i = (((if i < k then d i else 0) * f : Nat) : Int) := by rw [hX]
    have h1 : (if i < k then d i else 0) ≤ 33554431 := by
      split
      · have := ho2 i (by omega); omega
      · omega
    have h2 : (if i < k then d i else 0) * f ≤ 33554431 * f := Nat.mul_le_mul_right _ h1
    rw [hXi]
    omega
  have hcb := ch_bd (x := X) (l := 0) (m := f) (by omega) (by omega) hXb
  have hSX : ch_s 33554432 X (k + 1) = ((z.natAbs * f : Nat) : Int) := by
    rw [hX, ch_nu25, nu_scale, nu_ext _ _ (by omega), ho4]
  have hVk : z.natAbs < 33554432 ^ k := by rw [← ho4]; exact nu_v_lt (fun t ht => ho2 t (by omega))
  have hE := ch_fit hSX (mul_fit hVk hf)
  refine lv_aload_n hx hb dX2_multiplyBy_0 rfl (lv_at hl 0 rfl) ?_
  refine hm_get (ci := 4) (v := .int (nI k)) (C := RX2) (T := TX2) (N := 3) hx hb hws kin_X2 hown hK.1 hV hw rfl 1 (by decide) fl9 (fun _ h9 => h9) rfl dX2_multiplyBy_1 ?_
  refine lv_iconst (v := 1) hx hb dX2_multiplyBy_4 (by decide) ?_
  refine lv_iadd hx hb dX2_multiplyBy_5 ?_
  refine hm_topi (show ((nI k) + 1) = nI (k + 1) from nI_1 k) ?_
  refine lv_aload_n hx hb dX2_multiplyBy_6 rfl (lv_at hl 0 rfl) ?_
  refine hm_get (ci := 4) (v := .ref la) (C := RX2) (T := TX2) (N := 3) hx hb hws kin_X2 hown hK.1 hV hw rfl 0 (by decide) fl25 (fun _ h9 => h9) rfl dX2_multiplyBy_7 ?_
  refine hm_alen (v := nI n) hx hb hK.1 hV 0 ha rfl rfl dX2_multiplyBy_10 ?_
  refine va_mmin hx hb (by rw [hml]; exact hl.1.symm) hown (hws _ kw_136) (hws _ kw_137) (hws _ kw_39) (hws _ kw_138) (Nat.le_of_ble_eq_true rfl) (Nat.le_of_ble_eq_true rfl) (Nat.zero_le _) (Nat.zero_le _) dX2_multiplyBy_11 ?_
  refine hm_topi (show (if nI n < nI (k + 1) then nI n else nI (k + 1)) = nI (k + 1) from if_neg (by rw [Int32.not_lt]; exact nI_le hkn (by omega))) ?_
  refine lv_istore_n (lv' := [(2, .int (nI (k + 1))), (0, .ref w), (1, .int (nI f))]) hx hb dX2_multiplyBy_14 rfl hl (by decide) rfl (fun ls hl => ?_)
  refine lv_lconst (v := 0) hx hb dX2_multiplyBy_15 (by decide) ?_
  refine lv_lstore_n (lv' := [(3, .long 0), (2, .int (nI (k + 1))), (0, .ref w), (1, .int (nI f))]) hx hb dX2_multiplyBy_16 rfl hl (by decide) rfl (fun ls hl => ?_)
  refine lv_iconst (v := 0) hx hb dX2_multiplyBy_17 (by decide) ?_
  refine lv_istore (lv' := [(5, .int 0), (3, .long 0), (2, .int (nI (k + 1))), (0, .ref w), (1, .int (nI f))]) hx hb dX2_multiplyBy_18 hl (by decide) rfl (fun ls hl => ?_)
  have hV : hm_V E.1 vwCl (hm_A M sz) s.heap (hm_up M la (hm_I E n (fun j => nI (if j < 0 then ch_e 33554432 X j else d j)))) s.heap [] := by rw [hm_up_id ((ha).trans (congrArg (fun f9 => some (hm_I E n f9)) (nu_up0 (ch_e 33554432 X) d)))]; exact hV
  have hl : lv_has ls 6 [(5, .int 0), (3, .long (lZ (ch_c 33554432 X 0))), (2, .int (nI (k + 1))), (0, .ref w), (1, .int (nI f))] := hl
  have loop : ∀ (fu : Nat) (i : Nat), (i ≤ k + 1) → k + 1 - i < fu → ∀ (ls : Array Slot) (H : Heap) (locs : List Loc), lv_has ls 6 [(0, .ref w), (1, .int (nI f)), (2, .int (nI (k + 1))), (3, .long (lZ (ch_c 33554432 X i))), (5, .int (nI i))] → hm_V E.1 vwCl (hm_A M sz) s.heap (hm_up M la (hm_I E n (fun j => nI (if j < i then ch_e 33554432 X j else d j)))) H locs → W p l e rm_X2_multiplyBy s m [.ref w, .int (nI f)].toArray below meth c H locs 0 0 Qf (F0 m 20 ls []) := by
    intro fu
    induction fu with
    | zero => intro i hi hfu; exact absurd hfu (Nat.not_lt_zero _)
    | succ fu ih_loop =>
      intro i hi hfu ls H locs hl hV
      refine lv_iload hx hb dX2_multiplyBy_20 (lv_at hl 4 rfl) ?_
      refine lv_iload_n hx hb dX2_multiplyBy_22 rfl (lv_at hl 2 rfl) ?_
      refine lv_icmp_ge (tgt := 63) hx hb dX2_multiplyBy_23 (by decide) (fun c23 => ?_) (fun c23 => ?_)
      · have hik : i = k + 1 := by
          rcases Nat.lt_or_ge i (k + 1) with q | q
          · exact absurd c23 (nI_ge q (by omega))
          · omega
        subst hik
        refine lv_aload_n hx hb dX2_multiplyBy_63 rfl (lv_at hl 0 rfl) ?_
        refine lv_iload_n hx hb dX2_multiplyBy_64 rfl (lv_at hl 2 rfl) ?_
        refine lv_aload_n hx hb dX2_multiplyBy_65 rfl (lv_at hl 0 rfl) ?_
        refine hm_get (ci := 4) (v := .int g) (C := RX2) (T := TX2) (N := 3) hx hb hws kin_X2 hown hK.1 hV ((hm_up_ne _ _ h_w_la).trans hw) rfl 2 (by decide) fl15 (fun _ h9 => h9) rfl dX2_multiplyBy_66 ?_
        refine hm_callv (va_runV (As := [.int (nI (k + 1)), .int g]) (rest := []) ⟨hx, hb, hml, hown, hts⟩ (c_X2_finish l E (d := (fun j => if j < k + 1 then ch_e 33554432 X j else d j)) (t := (k + 1)) (sg := g) ((hm_up_ne _ _ h_w_la).trans hw) (hm_up_self _ _ _) (hkn) (by omega) (fun j hj => by show (if j < k + 1 then _ else _) < _; rw [if_pos hj]; have := ch_e25 X j; omega) H.size) (cwV 2 hts (hm_gV kw_140 kw_142 kw_1 kw_38 kw_143) rfl rfl rfl (by decide +kernel) ⟨Nat.le_of_ble_eq_true rfl, Nat.le_of_ble_eq_true rfl⟩) (hm_preV hK hV ((hm_up_ne _ _ h_w_la).trans hw) rfl) rfl rfl hl.1 rfl (lv_room (Nat.le_of_ble_eq_true rfl)) dX2_multiplyBy_69 ⟨Nat.le_of_ble_eq_true rfl, Nat.le_of_ble_eq_true rfl⟩) hV hA (fun M1 H locs hp hV => ?_)
        subst hp
        have hV : hm_V E.1 vwCl (hm_A M sz) s.heap (hm_up (hm_up M la (hm_I E n (fun j => nI (if j < k + 1 then ch_e 33554432 X j else d j)))) w (.inr (4, [.ref la, .int (nI (nu_k (fun j => if j < k + 1 then ch_e 33554432 X j else d j) (k + 1))), .int (if g = 0 then 0 else if nu_k (fun j => if j < k + 1 then ch_e 33554432 X j else d j) (k + 1) = 0 then 0 else 1)]))) H locs := hV
        have hfin := wn_fin (n := n) (top := k + 1) (d := (fun j => if j < k + 1 then ch_e 33554432 X j else d j)) (sg := g) hkn (nu_ifd (fun j _ => ch_e25 X j) ho2)
        rw [nu_if, hE, wn_mul ho5 rfl] at hfin
        rw [hQf]
        exact W.vret hx hb hr (fun t ht hW => ⟨⟨_, rfl, ⟨_, _, _, rfl, hfin⟩, (hm_end hV ht).1⟩, (hm_end hV ht).2⟩) hV.2.2.2.2 dX2_multiplyBy_72
      · have hik : i < k + 1 := by
          rcases Nat.lt_or_ge i (k + 1) with q | q
          · exact q
          · exact absurd (nI_le q (by omega)) c23
        have hc1 := hcb i
        have hx1 := hXb i
        have hci : (if i < k then d i else 0) < 2147483648 := by
          split
          · have := ho2 i (by omega); omega
          · omega
        refine lv_lload_n hx hb dX2_multiplyBy_26 rfl (lv_at hl 3 rfl) ?_
        refine lv_aload_n hx hb dX2_multiplyBy_27 rfl (lv_at hl 0 rfl) ?_
        refine lv_iload hx hb dX2_multiplyBy_28 (lv_at hl 4 rfl) ?_
        refine hm_calli (va_runV (As := [.int (nI i)]) (rest := [.long (lZ (ch_c 33554432 X i))]) ⟨hx, hb, hml, hown, hts⟩ (c_X2_limbAt l E (k := k) (i := i) (d := fun j => if j < i then ch_e 33554432 X j else d j) ((hm_up_ne _ _ h_w_la).trans hw) (hm_up_self _ _ _) (by omega) (by omega) (by omega) H.size) (cwV 1 hts (hm_gV kw_165 kw_167 kw_3 kw_38 kw_168) rfl rfl rfl (by decide +kernel) ⟨Nat.le_of_ble_eq_true rfl, Nat.le_of_ble_eq_true rfl⟩) (hm_preV hK hV ((hm_up_ne _ _ h_w_la).trans hw) rfl) rfl rfl hl.1 rfl (lv_room (Nat.le_of_ble_eq_true rfl)) dX2_multiplyBy_30 ⟨Nat.le_of_ble_eq_true rfl, Nat.le_of_ble_eq_true rfl⟩) hV hA (fun r30 M1 H locs hp hV => ?_)
        obtain ⟨hr30, rfl⟩ := hp
        refine hm_topi (show r30 = nI (if i < k then d i else 0) from (by rw [hr30, if_neg (Nat.lt_irrefl i)])) ?_
        refine lv_i2l hx hb dX2_multiplyBy_33 rfl ?_
        refine hm_topl (show ((nI (if i < k then d i else 0)).toInt64) = lZ ((if i < k then d i else 0 : Nat) : Int) from nI_lZ hci) ?_
        refine lv_iload_n hx hb dX2_multiplyBy_34 rfl (lv_at hl 1 rfl) ?_
        refine lv_i2l hx hb dX2_multiplyBy_35 rfl ?_
        refine hm_topl (show ((nI f).toInt64) = lZ (f : Int) from nI_lZ (by omega)) ?_
        refine lv_lmul hx hb dX2_multiplyBy_36 ?_
        refine hm_topl (show ((lZ ((if i < k then d i else 0 : Nat) : Int)) * (lZ (f : Int))) = lZ (X i) from (by rw [lZ_mul, hX]; show _ = lZ (((if i < k then d i else 0) * f : Nat) : Int); rw [Int.natCast_mul])) ?_
        refine lv_ladd hx hb dX2_multiplyBy_37 ?_
        refine hm_topl (show ((lZ (ch_c 33554432 X i)) + (lZ (X i))) = lZ (X i + ch_c 33554432 X i) from (by rw [lZ_add, Int.add_comm])) ?_
        refine lv_lstore_n (lv' := [(3, .long (lZ (X i + ch_c 33554432 X i))), (0, .ref w), (1, .int (nI f)), (2, .int (nI (k + 1))), (5, .int (nI i))]) hx hb dX2_multiplyBy_38 rfl hl (by decide) rfl (fun ls hl => ?_)
        refine lv_aload_n hx hb dX2_multiplyBy_39 rfl (lv_at hl 1 rfl) ?_
        refine hm_get (ci := 4) (v := .ref la) (C := RX2) (T := TX2) (N := 3) hx hb hws kin_X2 hown hK.1 hV ((hm_up_ne _ _ h_w_la).trans hw) rfl 0 (by decide) fl25 (fun _ h9 => h9) rfl dX2_multiplyBy_40 ?_
        refine lv_iload hx hb dX2_multiplyBy_43 (lv_at hl 4 rfl) ?_
        refine lv_lload_n hx hb dX2_multiplyBy_45 rfl (lv_at hl 0 rfl) ?_
        refine lv_ldc2 (v := 33554431) hx hb hown ld32 dX2_multiplyBy_46 ?_
        refine lv_land hx hb dX2_multiplyBy_49 ?_
        refine hm_topl (show ((lZ (X i + ch_c 33554432 X i)) &&& 33554431) = lZ ((ch_e 33554432 X i : Nat) : Int) from lZ_mask' _) ?_
        refine lv_l2i hx hb dX2_multiplyBy_50 rfl ?_
        refine hm_topi (show ((lZ ((ch_e 33554432 X i : Nat) : Int)).toInt32) = nI (ch_e 33554432 X i) from lZ_nI _) ?_
        refine hm_iastN hx hb hK.1 hV 0 (hm_up_self _ _ _) rfl (k := i) (by omega) (by omega) dX2_multiplyBy_51 (fun H locs hV => ?_)
        rw [show (upd (fun j => nI (if j < i then ch_e 33554432 X j else d j)) i (nI (ch_e 33554432 X i))) = (fun j => nI (if j < i + 1 then ch_e 33554432 X j else d j)) from nu_up (ch_e 33554432 X) d i] at hV
        rw [hm_u0] at hV
        have hV : hm_V E.1 vwCl (hm_A M sz) s.heap (hm_up M la (hm_I E n (fun j => nI (if j < i + 1 then ch_e 33554432 X j else d j)))) H locs := hV
        refine lv_lload_n hx hb dX2_multiplyBy_52 rfl (lv_at hl 0 rfl) ?_
        refine lv_bipush (v := 25) hx hb dX2_multiplyBy_53 (by decide) ?_
        refine lv_lshr hx hb dX2_multiplyBy_55 rfl ?_
        refine hm_topl (show ((lZ (X i + ch_c 33554432 X i)) >>> ((25 : Int32).toInt64 &&& 63)) = lZ (ch_c 33554432 X (i + 1)) from lZ_shr (by omega) (by omega)) ?_
        refine lv_lstore_n (lv' := [(3, .long (lZ (ch_c 33554432 X (i + 1)))), (0, .ref w), (1, .int (nI f)), (2, .int (nI (k + 1))), (5, .int (nI i))]) hx hb dX2_multiplyBy_56 rfl hl (by decide) rfl (fun ls hl => ?_)
        refine lv_iinc (v := (nI (i + 1))) (lv' := [(5, .int (nI (i + 1))), (3, .long (lZ (ch_c 33554432 X (i + 1)))), (0, .ref w), (1, .int (nI f)), (2, .int (nI (k + 1)))]) hx hb dX2_multiplyBy_57 hl (k := 4) rfl (nI_1 i) (by decide) rfl (fun ls hl => ?_)
        refine lv_goto (tgt := 20) hx hb dX2_multiplyBy_60 (by decide) ?_
        exact ih_loop (i + 1) (by omega) (by omega) ls H locs (lv_sub hl [2, 3, 4, 1, 0] rfl) hV
  exact loop (k + 2) 0 (Nat.zero_le _) (by omega) ls s.heap [] (lv_sub hl [3, 4, 2, 1, 0] rfl) hV

theorem qz_step (z : Int) {a b c : Nat} (h : a * b = c) : qz (qz z a) b = qz z c := by rw [qz_qz, h]

abbrev wd_X2_dropDigits : List Cond := .code yX2_dropDigits cX2_dropDigits 3 none :: hm_ws
abbrev rm_X2_dropDigits : Room := { frames := 2, cells := 0, slots := 0, locals := 48 }

set_option maxHeartbeats 4000000 in
set_option maxRecDepth 100000 in
/-- dropDigits(t): by ten to the t -/
theorem c_X2_dropDigits (l : Launch) (E : hm_E) {M : hm_M} {w la n k t : Nat} {g : Int32} {d : Nat → Nat} {z : Int} (hw : M w = some (hm_W la (nI k) g)) (ha : M la = some (hm_I E n (fun j => nI (d j)))) (ho : wn_ok n d k g z) (hn : n < 1000) (ht : t < 1000) : hm_Cv l E yX2_dropDigits wd_X2_dropDigits rm_X2_dropDigits [.ref w, .int (nI t)] M (wn_post E M w la n (qz z (10 ^ t))) := by
  intro sz
  refine Met.ofW (cc := cX2_dropDigits) (maxL := 3) (ret := none) (by decide) rfl ?_
  intro p e s m args below meth c s₁ B hml hv
  obtain ⟨rfl, hAe, hA, hK, hV⟩ := hm_start hv
  have hx := B.exec
  have hb := B.bytes
  have hr := B.returns
  have hts := atoms_spec (ws := wd_X2_dropDigits) B.pre
  have hws : ∀ w ∈ hm_ws, w.before _ s = true := fun w h => hts w (List.mem_cons_of_mem _ h)
  have hown : s.vm.findClass RX2 = some m.cls := findClass_of_methodNamed B.named
  have hlocks := B.notSynchronized
  have ld55 := hws _ kw_458
  have hl := lv_entry ([.ref w, .int (nI t)]) (n := 3) (Nat.le_of_ble_eq_true rfl)
  rw [lg_entry_eq]
  generalize (lg_sl ([.ref w, .int (nI t)]) ++ List.replicate (3 - (lg_sl ([.ref w, .int (nI t)])).length) Slot.unset).toArray = ls at hl ⊢
  have hl : lv_has ls 3 [(0, .ref w), (1, .int (nI t))] := hl
  refine hm_gen (rm := rm_X2_dropDigits) rfl (fun Qf hQf => ?_)
  have h_w_la : hm_ap w la := hm_oa hw ha
  refine lv_iconst (v := 0) hx hb dX2_dropDigits_0 (by decide) ?_
  refine lv_istore_n (lv' := [(2, .int 0), (0, .ref w), (1, .int (nI t))]) hx hb dX2_dropDigits_1 rfl hl (by decide) rfl (fun ls hl => ?_)
  have hV : hm_V E.1 vwCl (hm_A M sz) s.heap (hm_up M la (hm_I E n (fun j => nI (d j)))) s.heap [] := by rw [hm_up_id (ha)]; exact hV
  have hV : hm_V E.1 vwCl (hm_A M sz) s.heap (hm_up (hm_up M la (hm_I E n (fun j => nI (d j)))) w (.inr (4, [.ref la, .int (nI k), .int g]))) s.heap [] := by rw [hm_up_id (((hm_up_ne _ _ h_w_la).trans hw))]; exact hV
  have loop2 : ∀ (fu : Nat) (i : Nat) (b : Nat → Nat) (q : Nat) (u : Int32), (i ≤ t % 9) → (wn_ok n b q u (qz z (1000000000 ^ (t / 9) * 10 ^ i))) → t % 9 - i < fu → ∀ (ls : Array Slot) (H : Heap) (locs : List Loc), lv_has ls 3 [(0, .ref w), (1, .int (nI t)), (2, .int (nI i))] → hm_V E.1 vwCl (hm_A M sz) s.heap (hm_up (hm_up M la (hm_I E n (fun j => nI (b j)))) w (.inr (4, [.ref la, .int (nI q), .int u]))) H locs → W p l e rm_X2_dropDigits s m [.ref w, .int (nI t)].toArray below meth c H locs 0 0 Qf (F0 m 25 ls []) := by
    intro fu
    induction fu with
    | zero => intro i b q u hi hbk hfu; exact absurd hfu (Nat.not_lt_zero _)
    | succ fu ih_loop2 =>
      intro i b q u hi hbk hfu ls H locs hl hV
      refine lv_iload_n hx hb dX2_dropDigits_25 rfl (lv_at hl 2 rfl) ?_
      refine lv_iload_n hx hb dX2_dropDigits_26 rfl (lv_at hl 1 rfl) ?_
      refine lv_bipush (v := 9) hx hb dX2_dropDigits_27 (by decide) ?_
      refine lv_irem hx hb dX2_dropDigits_29 (by decide) ?_
      refine hm_topi (show ((nI t) - (nI t) / 9 * 9) = nI (t % 9) from pk_rem (d := 9) (by omega) (by decide) (by decide)) ?_
      refine lv_icmp_ge (tgt := 46) hx hb dX2_dropDigits_30 (by decide) (fun c30 => ?_) (fun c30 => ?_)
      · have hik : i = t % 9 := by
          rcases Nat.lt_or_ge i (t % 9) with q | q
          · exact absurd c30 (nI_ge q (by omega))
          · omega
        rw [hik, show (1000000000 : Nat) = 10 ^ 9 from rfl, ← Nat.pow_mul, ← Nat.pow_add, show 9 * (t / 9) + t % 9 = t by omega] at hbk
        rw [hQf]
        exact W.vret hx hb hr (fun t ht hW => ⟨⟨_, rfl, ⟨_, _, _, rfl, hbk⟩, (hm_end hV ht).1⟩, (hm_end hV ht).2⟩) hV.2.2.2.2 dX2_dropDigits_46
      · have hik : i < t % 9 := by
          rcases Nat.lt_or_ge i (t % 9) with q | q
          · exact q
          · exact absurd (nI_le q (by omega)) c30
        refine lv_aload_n hx hb dX2_dropDigits_33 rfl (lv_at hl 0 rfl) ?_
        refine lv_bipush (v := 10) hx hb dX2_dropDigits_34 (by decide) ?_
        refine hm_calli (va_runV (As := [.int (nI 10)]) (rest := []) ⟨hx, hb, hml, hown, hts⟩ (c_X2_divideBy l E (q := 10) (hm_up_self _ _ _) ((hm_up_ne _ _ (Ne.symm h_w_la)).trans (hm_up_self _ _ _)) hbk hn (by decide) (by decide) H.size) (cwV 1 hts (hm_gV kw_459 kw_170 kw_171 kw_38 kw_172) rfl rfl rfl (by decide +kernel) ⟨Nat.le_of_ble_eq_true rfl, Nat.le_of_ble_eq_true rfl⟩) (hm_preV hK hV (hm_up_self _ _ _) rfl) rfl rfl hl.1 rfl (lv_room (Nat.le_of_ble_eq_true rfl)) dX2_dropDigits_36 ⟨Nat.le_of_ble_eq_true rfl, Nat.le_of_ble_eq_true rfl⟩) hV hA (fun r36 M1 H locs hp hV => ?_)
        obtain ⟨hr, b1, q1, u1, rfl, hb1⟩ := hp
        rw [hm_u1 h_w_la] at hV
        rw [hm_u0] at hV
        have hV : hm_V E.1 vwCl (hm_A M sz) s.heap (hm_up (hm_up M la (hm_I E n (fun j => nI (b1 j)))) w (.inr (4, [.ref la, .int (nI q1), .int u1]))) H locs := hV
        rw [qz_step z (show 1000000000 ^ (t / 9) * 10 ^ i * 10 = 1000000000 ^ (t / 9) * 10 ^ (i + 1) from by rw [Nat.mul_assoc, ← Nat.pow_succ])] at hb1
        refine lv_pop hx hb dX2_dropDigits_39 rfl ?_
        refine lv_iinc (v := (nI (i + 1))) (lv' := [(2, .int (nI (i + 1))), (0, .ref w), (1, .int (nI t))]) hx hb dX2_dropDigits_40 hl (k := 2) rfl (nI_1 i) (by decide) rfl (fun ls hl => ?_)
        refine lv_goto (tgt := 25) hx hb dX2_dropDigits_43 (by decide) ?_
        exact ih_loop2 (i + 1) b1 q1 u1 (by omega) hb1 (by omega) ls H locs (lv_sub hl [1, 2, 0] rfl) hV
  have loop1 : ∀ (fu : Nat) (i : Nat) (b : Nat → Nat) (q : Nat) (u : Int32), (i ≤ t / 9) → (wn_ok n b q u (qz z (1000000000 ^ i))) → t / 9 - i < fu → ∀ (ls : Array Slot) (H : Heap) (locs : List Loc), lv_has ls 3 [(0, .ref w), (1, .int (nI t)), (2, .int (nI i))] → hm_V E.1 vwCl (hm_A M sz) s.heap (hm_up (hm_up M la (hm_I E n (fun j => nI (b j)))) w (.inr (4, [.ref la, .int (nI q), .int u]))) H locs → W p l e rm_X2_dropDigits s m [.ref w, .int (nI t)].toArray below meth c H locs 0 0 Qf (F0 m 2 ls []) := by
    intro fu
    induction fu with
    | zero => intro i b q u hi hbk hfu; exact absurd hfu (Nat.not_lt_zero _)
    | succ fu ih_loop1 =>
      intro i b q u hi hbk hfu ls H locs hl hV
      refine lv_iload_n hx hb dX2_dropDigits_2 rfl (lv_at hl 2 rfl) ?_
      refine lv_iload_n hx hb dX2_dropDigits_3 rfl (lv_at hl 1 rfl) ?_
      refine lv_bipush (v := 9) hx hb dX2_dropDigits_4 (by decide) ?_
      refine lv_idiv hx hb dX2_dropDigits_6 (by decide) ?_
      refine hm_topi (show ((nI t) / 9) = nI (t / 9) from pk_div (d := 9) (by omega) (by decide) (by decide)) ?_
      refine lv_icmp_ge (tgt := 23) hx hb dX2_dropDigits_7 (by decide) (fun c7 => ?_) (fun c7 => ?_)
      · have hik : i = t / 9 := by
          rcases Nat.lt_or_ge i (t / 9) with q | q
          · exact absurd c7 (nI_ge q (by omega))
          · omega
        refine lv_iconst (v := 0) hx hb dX2_dropDigits_23 (by decide) ?_
        refine lv_istore_n (lv' := [(2, .int 0), (0, .ref w), (1, .int (nI t))]) hx hb dX2_dropDigits_24 rfl hl (by decide) rfl (fun ls hl => ?_)
        have hl : lv_has ls 3 [(2, .int (nI 0)), (0, .ref w), (1, .int (nI t))] := hl
        exact loop2 (t % 9 + 1) 0 b q u (Nat.zero_le _) (by rw [Nat.pow_zero, Nat.mul_one, ← hik]; exact hbk) (by omega) ls H locs (lv_sub hl [1, 2, 0] rfl) hV
      · have hik : i < t / 9 := by
          rcases Nat.lt_or_ge i (t / 9) with q | q
          · exact q
          · exact absurd (nI_le q (by omega)) c7
        refine lv_aload_n hx hb dX2_dropDigits_10 rfl (lv_at hl 0 rfl) ?_
        refine lv_ldc (v := 1000000000) hx hb hown ld55 dX2_dropDigits_11 ?_
        refine hm_calli (va_runV (As := [.int (nI 1000000000)]) (rest := []) ⟨hx, hb, hml, hown, hts⟩ (c_X2_divideBy l E (q := 1000000000) (hm_up_self _ _ _) ((hm_up_ne _ _ (Ne.symm h_w_la)).trans (hm_up_self _ _ _)) hbk hn (by decide) (by decide) H.size) (cwV 1 hts (hm_gV kw_459 kw_170 kw_171 kw_38 kw_172) rfl rfl rfl (by decide +kernel) ⟨Nat.le_of_ble_eq_true rfl, Nat.le_of_ble_eq_true rfl⟩) (hm_preV hK hV (hm_up_self _ _ _) rfl) rfl rfl hl.1 rfl (lv_room (Nat.le_of_ble_eq_true rfl)) dX2_dropDigits_13 ⟨Nat.le_of_ble_eq_true rfl, Nat.le_of_ble_eq_true rfl⟩) hV hA (fun r13 M1 H locs hp hV => ?_)
        obtain ⟨hr, b1, q1, u1, rfl, hb1⟩ := hp
        rw [hm_u1 h_w_la] at hV
        rw [hm_u0] at hV
        have hV : hm_V E.1 vwCl (hm_A M sz) s.heap (hm_up (hm_up M la (hm_I E n (fun j => nI (b1 j)))) w (.inr (4, [.ref la, .int (nI q1), .int u1]))) H locs := hV
        rw [qz_step z (show 1000000000 ^ i * 1000000000 = 1000000000 ^ (i + 1) from (Nat.pow_succ ..).symm)] at hb1
        refine lv_pop hx hb dX2_dropDigits_16 rfl ?_
        refine lv_iinc (v := (nI (i + 1))) (lv' := [(2, .int (nI (i + 1))), (0, .ref w), (1, .int (nI t))]) hx hb dX2_dropDigits_17 hl (k := 2) rfl (nI_1 i) (by decide) rfl (fun ls hl => ?_)
        refine lv_goto (tgt := 2) hx hb dX2_dropDigits_20 (by decide) ?_
        exact ih_loop1 (i + 1) b1 q1 u1 (by omega) hb1 (by omega) ls H locs (lv_sub hl [1, 2, 0] rfl) hV
  have hl : lv_has ls 3 [(2, .int (nI 0)), (0, .ref w), (1, .int (nI t))] := hl
  exact loop1 (t / 9 + 1) 0 d k g (Nat.zero_le _) (by rw [Nat.pow_zero, qz_1]; exact ho) (by omega) ls s.heap [] (lv_sub hl [1, 2, 0] rfl) hV
