/-- limbs d, k of them in use, and the sign g, are the number z, in a row of n -/
def wn_ok (n : Nat) (d : Nat → Nat) (k : Nat) (g : Int32) (z : Int) : Prop := k ≤ n ∧ (∀ j, j < n → d j < 33554432) ∧ (0 < k → d (k - 1) ≠ 0) ∧ nu_v 33554432 d k = z.natAbs ∧ g = (if z < 0 then 1 else 0)
theorem wn_fin {n top : Nat} {d : Nat → Nat} {sg : Int32} (ht : top ≤ n) (hd : ∀ j, j < n → d j < 33554432) : wn_ok n d (nu_k d top) (if sg = 0 then 0 else if nu_k d top = 0 then 0 else 1) (if sg = 0 then (nu_v 33554432 d top : Int) else -(nu_v 33554432 d top : Int)) := by
  refine ⟨Nat.le_trans (nu_k_le d top) ht, hd, nu_k_top d top, ?_, ?_⟩
  · rw [nu_v_k]
    split <;> omega
  · by_cases h : sg = 0
    · rw [if_pos h, if_pos h, if_neg (by omega)]
    · rw [if_neg h, if_neg h]
      by_cases h2 : nu_k d top = 0
      · have h3 := nu_v_k 33554432 d top
        rw [h2] at h3
        have h4 : nu_v 33554432 d 0 = 0 := rfl
        rw [if_pos h2, if_neg (by omega)]
      · have h3 := nu_v_low (B := 33554432) (d := d) (n := nu_k d top) (by omega) (nu_k_top d top (by omega))
        have h4 : 0 < 33554432 ^ (nu_k d top - 1) := Nat.pow_pos (by decide)
        rw [nu_v_k] at h3
        rw [if_neg h2, if_pos (by omega)]
/-- the number at w is z now: its row la and itself have changed, nothing else -/
def wn_post (E : hm_E) (M : hm_M) (w la n : Nat) (z : Int) (M1 : hm_M) : Prop := ∃ (d : Nat → Nat) (k : Nat) (g : Int32), M1 = hm_up (hm_up M la (hm_I E n (fun j => nI (d j)))) w (hm_W la (nI k) g) ∧ wn_ok n d k g z
theorem am_neg {v : Int64} (h : v < 0) : -v = lN v.toInt.natAbs := by
  have h1 : v.toInt < 0 := by
    have := Int64.lt_iff_toInt_lt.mp h
    simpa using this
  rw [lZ_lN]
  conv => lhs; rw [lZ_of v, lZ_neg]
  congr 1
  omega
theorem am_pos {v : Int64} (h : 0 ≤ v) : v = lN v.toInt.natAbs := by
  have h1 : 0 ≤ v.toInt := by
    have := Int64.le_iff_toInt_le.mp h
    simpa using this
  rw [lZ_lN]
  conv => lhs; rw [lZ_of v]
  congr 1
  omega
theorem am_le (v : Int64) : v.toInt.natAbs ≤ 9223372036854775808 := by
  have h1 := Int64.le_toInt v
  have h2 := Int64.toInt_lt v
  omega
theorem nu_if {B : Nat} {e d : Nat → Nat} {t : Nat} : nu_v B (fun j => if j < t then e j else d j) t = nu_v B e t := nu_v_congr (fun j hj => by rw [if_pos hj])
theorem nu_ifd {n t : Nat} {e d : Nat → Nat} {b : Nat} (he : ∀ j, j < t → e j < b) (hd : ∀ j, j < n → d j < b) : ∀ j, j < n → (if j < t then e j else d j) < b := fun j hj => by
  split
  · next h => exact he j h
  · exact hd j hj

abbrev wd_X2_setLong : List Cond := .code yX2_setLong cX2_setLong 7 none :: hm_ws
abbrev rm_X2_setLong : Room := { frames := 1, cells := 0, slots := 0, locals := 22 }

set_option maxHeartbeats 4000000 in
set_option maxRecDepth 100000 in
/-- setLong(v) -/
theorem c_X2_setLong (l : Launch) (E : hm_E) {M : hm_M} {w la n : Nat} {k0 g0 : Int32} {d : Nat → Nat} {v : Int64} (hw : M w = some (hm_W la k0 g0)) (ha : M la = some (hm_I E n (fun j => nI (d j)))) (hd : ∀ j, j < n → d j < 33554432) (h3 : 3 ≤ n) (hn : n < 1000) : hm_Cv l E yX2_setLong wd_X2_setLong rm_X2_setLong [.ref w, .long v] M (wn_post E M w la n v.toInt) := by
  intro sz
  refine Met.ofW (cc := cX2_setLong) (maxL := 7) (ret := none) (by decide) rfl ?_
  intro p e s m args below meth c s₁ B hml hv
  obtain ⟨rfl, hAe, hA, hK, hV⟩ := hm_start hv
  have hx := B.exec
  have hb := B.bytes
  have hr := B.returns
  have hts := atoms_spec (ws := wd_X2_setLong) B.pre
  have hws : ∀ w ∈ hm_ws, w.before _ s = true := fun w h => hts w (List.mem_cons_of_mem _ h)
  have hown : s.vm.findClass RX2 = some m.cls := findClass_of_methodNamed B.named
  have hlocks := B.notSynchronized
  have fl25 := hws _ kw_71
  have ld32 := hws _ kw_139
  have hl := lv_entry ([.ref w, .long v]) (n := 7) (Nat.le_of_ble_eq_true rfl)
  rw [lg_entry_eq]
  generalize (lg_sl ([.ref w, .long v]) ++ List.replicate (7 - (lg_sl ([.ref w, .long v])).length) Slot.unset).toArray = ls at hl ⊢
  have hl : lv_has ls 7 [(0, .ref w), (1, .long v)] := hl
  refine hm_gen (rm := rm_X2_setLong) rfl (fun Qf hQf => ?_)
  have h_w_la : hm_ap w la := hm_oa hw ha
  have hu := am_le v
  refine lv_iconst (v := 3) hx hb dX2_setLong_0 (by decide) ?_
  refine lv_aload_n hx hb dX2_setLong_1 rfl (lv_at hl 0 rfl) ?_
  refine hm_get (ci := 4) (v := .ref la) (C := RX2) (T := TX2) (N := 3) hx hb hws kin_X2 hown hK.1 hV hw rfl 0 (by decide) fl25 (fun _ h9 => h9) rfl dX2_setLong_2 ?_
  refine hm_alen (v := nI n) hx hb hK.1 hV 0 ha rfl rfl dX2_setLong_5 ?_
  refine va_mmin hx hb (by rw [hml]; exact hl.1.symm) hown (hws _ kw_136) (hws _ kw_137) (hws _ kw_39) (hws _ kw_138) (Nat.le_of_ble_eq_true rfl) (Nat.le_of_ble_eq_true rfl) (Nat.zero_le _) (Nat.zero_le _) dX2_setLong_6 ?_
  refine hm_topi (show (if nI n < 3 then nI n else 3) = nI 3 from if_neg (by rw [Int32.not_lt]; exact nI_le h3 (by omega))) ?_
  refine lv_istore_n (lv' := [(3, .int (nI 3)), (0, .ref w), (1, .long v)]) hx hb dX2_setLong_9 rfl hl (by decide) rfl (fun ls hl => ?_)
  refine lv_lload_n hx hb dX2_setLong_10 rfl (lv_at hl 2 rfl) ?_
  refine lv_lconst (v := 0) hx hb dX2_setLong_11 (by decide) ?_
  refine W.lcmp hx hb dX2_setLong_12 ?_
  have body : ∀ (ls : Array Slot) (H : Heap) (locs : List Loc), lv_has ls 7 [(3, .int (nI 3)), (0, .ref w), (1, .long v)] → hm_V E.1 vwCl (hm_A M sz) s.heap (M) H locs → W p l e rm_X2_setLong s m [.ref w, .long v].toArray below meth c H locs 0 0 Qf (F0 m 22 ls [.long (lN (v.toInt.natAbs / 33554432 ^ 0))]) := by
    intro   ls H locs hl hV
    refine lv_lstore (lv' := [(4, .long (lN (v.toInt.natAbs / 33554432 ^ 0))), (3, .int (nI 3)), (0, .ref w), (1, .long v)]) hx hb dX2_setLong_22 hl (by decide) rfl (fun ls hl => ?_)
    refine lv_iconst (v := 0) hx hb dX2_setLong_24 (by decide) ?_
    refine lv_istore (lv' := [(6, .int 0), (4, .long (lN (v.toInt.natAbs / 33554432 ^ 0))), (3, .int (nI 3)), (0, .ref w), (1, .long v)]) hx hb dX2_setLong_25 hl (by decide) rfl (fun ls hl => ?_)
    have hV : hm_V E.1 vwCl (hm_A M sz) s.heap (hm_up M la (hm_I E n (fun j => nI (if j < 0 then v.toInt.natAbs / 33554432 ^ j % 33554432 else d j)))) H locs := by rw [hm_up_id ((ha).trans (congrArg (fun f9 => some (hm_I E n f9)) (nu_up0 (fun j => v.toInt.natAbs / 33554432 ^ j % 33554432) d)))]; exact hV
    have loop : ∀ (fu : Nat) (i : Nat), (i ≤ 3) → 3 - i < fu → ∀ (ls : Array Slot) (H : Heap) (locs : List Loc), lv_has ls 7 [(0, .ref w), (1, .long v), (3, .int (nI 3)), (4, .long (lN (v.toInt.natAbs / 33554432 ^ i))), (6, .int (nI i))] → hm_V E.1 vwCl (hm_A M sz) s.heap (hm_up M la (hm_I E n (fun j => nI (if j < i then v.toInt.natAbs / 33554432 ^ j % 33554432 else d j)))) H locs → W p l e rm_X2_setLong s m [.ref w, .long v].toArray below meth c H locs 0 0 Qf (F0 m 27 ls []) := by
      intro fu
      induction fu with
      | zero => intro i hi hfu; exact absurd hfu (Nat.not_lt_zero _)
      | succ fu ih_loop =>
        intro i hi hfu ls H locs hl hV
        have hq : v.toInt.natAbs / 33554432 ^ i < 2 ^ 64 := Nat.lt_of_le_of_lt (Nat.div_le_self _ _) (by omega)
        refine lv_iload hx hb dX2_setLong_27 (lv_at hl 4 rfl) ?_
        refine lv_iload_n hx hb dX2_setLong_29 rfl (lv_at hl 2 rfl) ?_
        refine lv_icmp_ge (tgt := 60) hx hb dX2_setLong_30 (by decide) (fun c30 => ?_) (fun c30 => ?_)
        · have hi3 : i = 3 := by
            rcases Nat.lt_or_ge i 3 with q | q
            · exact absurd c30 (nI_ge q (by omega))
            · omega
          subst hi3
          refine lv_aload_n hx hb dX2_setLong_60 rfl (lv_at hl 0 rfl) ?_
          refine lv_iload_n hx hb dX2_setLong_61 rfl (lv_at hl 2 rfl) ?_
          refine lv_lload_n hx hb dX2_setLong_62 rfl (lv_at hl 1 rfl) ?_
          refine lv_lconst (v := 0) hx hb dX2_setLong_63 (by decide) ?_
          refine W.lcmp hx hb dX2_setLong_64 ?_
          refine lv_if_ge (tgt := 72) hx hb dX2_setLong_65 (by decide) (fun c65 => ?_) (fun c65 => ?_)
          · refine lv_iconst (v := 0) hx hb dX2_setLong_72 (by decide) ?_
            refine hm_callv (va_runV (As := [.int (nI 3), .int 0]) (rest := []) ⟨hx, hb, hml, hown, hts⟩ (c_X2_finish l E (d := (fun j => if j < 3 then v.toInt.natAbs / 33554432 ^ j % 33554432 else d j)) (t := 3) (sg := 0) ((hm_up_ne _ _ h_w_la).trans hw) (hm_up_self _ _ _) (h3) (by omega) (fun j hj => by show (if j < 3 then _ else _) < _; rw [if_pos hj]; have := Nat.mod_lt (v.toInt.natAbs / 33554432 ^ j) (show 0 < 33554432 by decide); omega) H.size) (cwV 2 hts (hm_gV kw_140 kw_142 kw_1 kw_38 kw_143) rfl rfl rfl (by decide +kernel) ⟨Nat.le_of_ble_eq_true rfl, Nat.le_of_ble_eq_true rfl⟩) (hm_preV hK hV ((hm_up_ne _ _ h_w_la).trans hw) rfl) rfl rfl hl.1 rfl (lv_room (Nat.le_of_ble_eq_true rfl)) dX2_setLong_73 ⟨Nat.le_of_ble_eq_true rfl, Nat.le_of_ble_eq_true rfl⟩) hV hA (fun M1 H locs hp hV => ?_)
            subst hp
            have hV : hm_V E.1 vwCl (hm_A M sz) s.heap (hm_up (hm_up M la (hm_I E n (fun j => nI (if j < 3 then v.toInt.natAbs / 33554432 ^ j % 33554432 else d j)))) w (.inr (4, [.ref la, .int (nI (nu_k (fun j => if j < 3 then v.toInt.natAbs / 33554432 ^ j % 33554432 else d j) 3)), .int (if 0 = 0 then 0 else if nu_k (fun j => if j < 3 then v.toInt.natAbs / 33554432 ^ j % 33554432 else d j) 3 = 0 then 0 else 1)]))) H locs := hV
            have hfin := wn_fin (n := n) (top := 3) (d := (fun j => if j < 3 then v.toInt.natAbs / 33554432 ^ j % 33554432 else d j)) (sg := 0) h3 (nu_ifd (fun j _ => Nat.mod_lt _ (by decide)) hd)
            rw [nu_if, nu_dig (by decide), Nat.mod_eq_of_lt (by omega : v.toInt.natAbs < 33554432 ^ 3)] at hfin
            have hv0 : 0 ≤ v.toInt := by have := Int64.le_iff_toInt_le.mp ((lg_cmp_ge v 0).mp c65); simpa using this
            rw [show (if (0 : Int32) = 0 then (v.toInt.natAbs : Int) else -(v.toInt.natAbs : Int)) = v.toInt from by rw [if_pos rfl]; omega] at hfin
            rw [hQf]
            exact W.vret hx hb hr (fun t ht hW => ⟨⟨_, rfl, ⟨_, _, _, rfl, hfin⟩, (hm_end hV ht).1⟩, (hm_end hV ht).2⟩) hV.2.2.2.2 dX2_setLong_76
          · refine lv_iconst (v := 1) hx hb dX2_setLong_68 (by decide) ?_
            refine lv_goto (tgt := 73) hx hb dX2_setLong_69 (by decide) ?_
            refine hm_callv (va_runV (As := [.int (nI 3), .int 1]) (rest := []) ⟨hx, hb, hml, hown, hts⟩ (c_X2_finish l E (d := (fun j => if j < 3 then v.toInt.natAbs / 33554432 ^ j % 33554432 else d j)) (t := 3) (sg := 1) ((hm_up_ne _ _ h_w_la).trans hw) (hm_up_self _ _ _) (h3) (by omega) (fun j hj => by show (if j < 3 then _ else _) < _; rw [if_pos hj]; have := Nat.mod_lt (v.toInt.natAbs / 33554432 ^ j) (show 0 < 33554432 by decide); omega) H.size) (cwV 2 hts (hm_gV kw_140 kw_142 kw_1 kw_38 kw_143) rfl rfl rfl (by decide +kernel) ⟨Nat.le_of_ble_eq_true rfl, Nat.le_of_ble_eq_true rfl⟩) (hm_preV hK hV ((hm_up_ne _ _ h_w_la).trans hw) rfl) rfl rfl hl.1 rfl (lv_room (Nat.le_of_ble_eq_true rfl)) dX2_setLong_73 ⟨Nat.le_of_ble_eq_true rfl, Nat.le_of_ble_eq_true rfl⟩) hV hA (fun M1 H locs hp hV => ?_)
            subst hp
            have hV : hm_V E.1 vwCl (hm_A M sz) s.heap (hm_up (hm_up M la (hm_I E n (fun j => nI (if j < 3 then v.toInt.natAbs / 33554432 ^ j % 33554432 else d j)))) w (.inr (4, [.ref la, .int (nI (nu_k (fun j => if j < 3 then v.toInt.natAbs / 33554432 ^ j % 33554432 else d j) 3)), .int (if 1 = 0 then 0 else if nu_k (fun j => if j < 3 then v.toInt.natAbs / 33554432 ^ j % 33554432 else d j) 3 = 0 then 0 else 1)]))) H locs := hV
            have hfin := wn_fin (n := n) (top := 3) (d := (fun j => if j < 3 then v.toInt.natAbs / 33554432 ^ j % 33554432 else d j)) (sg := 1) h3 (nu_ifd (fun j _ => Nat.mod_lt _ (by decide)) hd)
            rw [nu_if, nu_dig (by decide), Nat.mod_eq_of_lt (by omega : v.toInt.natAbs < 33554432 ^ 3)] at hfin
            have hv0 : v.toInt < 0 := by
              have h8 : ¬ (0 : Int64) ≤ v := fun q => c65 ((lg_cmp_ge v 0).mpr q)
              have := Int64.lt_iff_toInt_lt.mp (Int64.not_le.mp h8); simpa using this
            rw [show (if (1 : Int32) = 0 then (v.toInt.natAbs : Int) else -(v.toInt.natAbs : Int)) = v.toInt from by rw [if_neg (by decide)]; omega] at hfin
            rw [hQf]
            exact W.vret hx hb hr (fun t ht hW => ⟨⟨_, rfl, ⟨_, _, _, rfl, hfin⟩, (hm_end hV ht).1⟩, (hm_end hV ht).2⟩) hV.2.2.2.2 dX2_setLong_76
        · have hi3 : i < 3 := by
            rcases Nat.lt_or_ge i 3 with q | q
            · exact q
            · exact absurd (nI_le q (by omega)) c30
          refine lv_aload_n hx hb dX2_setLong_33 rfl (lv_at hl 0 rfl) ?_
          refine hm_get (ci := 4) (v := .ref la) (C := RX2) (T := TX2) (N := 3) hx hb hws kin_X2 hown hK.1 hV ((hm_up_ne _ _ h_w_la).trans hw) rfl 0 (by decide) fl25 (fun _ h9 => h9) rfl dX2_setLong_34 ?_
          refine lv_iload hx hb dX2_setLong_37 (lv_at hl 4 rfl) ?_
          refine lv_lload hx hb dX2_setLong_39 (lv_at hl 3 rfl) ?_
          refine lv_ldc2 (v := 33554431) hx hb hown ld32 dX2_setLong_41 ?_
          refine lv_land hx hb dX2_setLong_44 ?_
          refine hm_topl (show ((lN (v.toInt.natAbs / 33554432 ^ i)) &&& 33554431) = lN (v.toInt.natAbs / 33554432 ^ i % 33554432) from lN_mask hq) ?_
          refine lv_l2i hx hb dX2_setLong_45 rfl ?_
          refine hm_topi (show ((lN (v.toInt.natAbs / 33554432 ^ i % 33554432)).toInt32) = nI (v.toInt.natAbs / 33554432 ^ i % 33554432) from lN_i _) ?_
          refine hm_iastN hx hb hK.1 hV 0 (hm_up_self _ _ _) rfl (k := i) (by omega) (by omega) dX2_setLong_46 (fun H locs hV => ?_)
          rw [show (upd (fun j => nI (if j < i then v.toInt.natAbs / 33554432 ^ j % 33554432 else d j)) i (nI (v.toInt.natAbs / 33554432 ^ i % 33554432))) = (fun j => nI (if j < i + 1 then v.toInt.natAbs / 33554432 ^ j % 33554432 else d j)) from nu_up (fun j => v.toInt.natAbs / 33554432 ^ j % 33554432) d i] at hV
          rw [hm_u0] at hV
          have hV : hm_V E.1 vwCl (hm_A M sz) s.heap (hm_up M la (hm_I E n (fun j => nI (if j < i + 1 then v.toInt.natAbs / 33554432 ^ j % 33554432 else d j)))) H locs := hV
          refine lv_lload hx hb dX2_setLong_47 (lv_at hl 3 rfl) ?_
          refine lv_bipush (v := 25) hx hb dX2_setLong_49 (by decide) ?_
          refine lv_lushr hx hb dX2_setLong_51 rfl ?_
          refine hm_topl (show (((lN (v.toInt.natAbs / 33554432 ^ i)).toUInt64 >>> ((25 : Int32).toInt64.toUInt64 &&& Int64.toUInt64 63)).toInt64) = lN (v.toInt.natAbs / 33554432 ^ (i + 1)) from (lN_ushr hq).trans (by rw [Nat.div_div_eq_div_mul, ← Nat.pow_succ])) ?_
          refine lv_lstore (lv' := [(4, .long (lN (v.toInt.natAbs / 33554432 ^ (i + 1)))), (0, .ref w), (1, .long v), (3, .int (nI 3)), (6, .int (nI i))]) hx hb dX2_setLong_52 hl (by decide) rfl (fun ls hl => ?_)
          refine lv_iinc (v := (nI (i + 1))) (lv' := [(6, .int (nI (i + 1))), (4, .long (lN (v.toInt.natAbs / 33554432 ^ (i + 1)))), (0, .ref w), (1, .long v), (3, .int (nI 3))]) hx hb dX2_setLong_54 hl (k := 4) rfl (nI_1 i) (by decide) rfl (fun ls hl => ?_)
          refine lv_goto (tgt := 27) hx hb dX2_setLong_57 (by decide) ?_
          exact ih_loop (i + 1) (by omega) (by omega) ls H locs (lv_sub hl [2, 3, 4, 1, 0] rfl) hV
    exact loop 4 0 (by omega) (by omega) ls H locs (lv_sub hl [3, 4, 2, 1, 0] rfl) hV
  refine lv_if_ge (tgt := 21) hx hb dX2_setLong_13 (by decide) (fun c13 => ?_) (fun c13 => ?_)
  · refine lv_lload_n hx hb dX2_setLong_21 rfl (lv_at hl 2 rfl) ?_
    have hv0 : (0 : Int64) ≤ v := (lg_cmp_ge v 0).mp c13
    refine hm_topl (show v = lN (v.toInt.natAbs / 33554432 ^ 0) from (am_pos hv0).trans (by rw [Nat.pow_zero, Nat.div_one])) ?_
    exact body  ls s.heap [] (lv_sub hl [0, 1, 2] rfl) hV
  · refine lv_lload_n hx hb dX2_setLong_16 rfl (lv_at hl 2 rfl) ?_
    refine lv_lneg hx hb dX2_setLong_17 ?_
    refine lv_goto (tgt := 22) hx hb dX2_setLong_18 (by decide) ?_
    have hv0 : v < 0 := by
      have h8 : ¬ (0 : Int64) ≤ v := fun q => c13 ((lg_cmp_ge v 0).mpr q)
      exact Int64.not_le.mp h8
    refine hm_topl (show (-v) = lN (v.toInt.natAbs / 33554432 ^ 0) from (am_neg hv0).trans (by rw [Nat.pow_zero, Nat.div_one])) ?_
    exact body  ls s.heap [] (lv_sub hl [0, 1, 2] rfl) hV
