abbrev wd_X2_copyFrom : List Cond := .code yX2_copyFrom cX2_copyFrom 4 none :: hm_ws
abbrev rm_X2_copyFrom : Room := { frames := 1, cells := 0, slots := 0, locals := 22 }

set_option maxHeartbeats 4000000 in
set_option maxRecDepth 100000 in
/-- copyFrom(other) -/
theorem c_X2_copyFrom (l : Launch) (E : hm_E) {M : hm_M} {w la n o lo m k : Nat} {k0 g0 g : Int32} {d b : Nat → Nat} {z : Int} (hw : M w = some (hm_W la k0 g0)) (ha : M la = some (hm_I E n (fun j => nI (d j)))) (hd : ∀ j, j < n → d j < 33554432) (hwo : M o = some (hm_W lo (nI k) g)) (hao : M lo = some (hm_I E m (fun j => nI (b j)))) (ho : wn_ok m b k g z) (hkn : k ≤ n) (h_lo_la : hm_ap lo la) (hn : n < 1000) (hm : m < 1000) : hm_Cv l E yX2_copyFrom wd_X2_copyFrom rm_X2_copyFrom [.ref w, .ref o] M (wn_post E M w la n z) := by
  intro sz
  refine Met.ofW (cc := cX2_copyFrom) (maxL := 4) (ret := none) (by decide) rfl ?_
  intro p e s m args below meth c s₁ B hml hv
  obtain ⟨rfl, hAe, hA, hK, hV⟩ := hm_start hv
  have hx := B.exec
  have hb := B.bytes
  have hr := B.returns
  have hts := atoms_spec (ws := wd_X2_copyFrom) B.pre
  have hws : ∀ w ∈ hm_ws, w.before _ s = true := fun w h => hts w (List.mem_cons_of_mem _ h)
  have hown : s.vm.findClass RX2 = some m.cls := findClass_of_methodNamed B.named
  have hlocks := B.notSynchronized
  have fl9 := hws _ kw_73
  have fl25 := hws _ kw_71
  have fl15 := hws _ kw_76
  have hl := lv_entry ([.ref w, .ref o]) (n := 4) (Nat.le_of_ble_eq_true rfl)
  rw [lg_entry_eq]
  generalize (lg_sl ([.ref w, .ref o]) ++ List.replicate (4 - (lg_sl ([.ref w, .ref o])).length) Slot.unset).toArray = ls at hl ⊢
  have hl : lv_has ls 4 [(0, .ref w), (1, .ref o)] := hl
  refine hm_gen (rm := rm_X2_copyFrom) rfl (fun Qf hQf => ?_)
  have h_w_la : hm_ap w la := hm_oa hw ha
  have h_o_la : hm_ap o la := hm_oa hwo ha
  obtain ⟨ho1, ho2, ho3, ho4, ho5⟩ := ho
  refine lv_aload_n hx hb dX2_copyFrom_0 rfl (lv_at hl 1 rfl) ?_
  refine hm_get (ci := 4) (v := .int (nI k)) (C := RX2) (T := TX2) (N := 3) hx hb hws kin_X2 hown hK.1 hV hwo rfl 1 (by decide) fl9 (fun _ h9 => h9) rfl dX2_copyFrom_1 ?_
  refine lv_aload_n hx hb dX2_copyFrom_4 rfl (lv_at hl 0 rfl) ?_
  refine hm_get (ci := 4) (v := .ref la) (C := RX2) (T := TX2) (N := 3) hx hb hws kin_X2 hown hK.1 hV hw rfl 0 (by decide) fl25 (fun _ h9 => h9) rfl dX2_copyFrom_5 ?_
  refine hm_alen (v := nI n) hx hb hK.1 hV 0 ha rfl rfl dX2_copyFrom_8 ?_
  refine va_mmin hx hb (by rw [hml]; exact hl.1.symm) hown (hws _ kw_136) (hws _ kw_137) (hws _ kw_39) (hws _ kw_138) (Nat.le_of_ble_eq_true rfl) (Nat.le_of_ble_eq_true rfl) (Nat.zero_le _) (Nat.zero_le _) dX2_copyFrom_9 ?_
  refine hm_topi (show (if nI n < nI k then nI n else nI k) = nI k from if_neg (by rw [Int32.not_lt]; exact nI_le hkn (by omega))) ?_
  refine lv_istore_n (lv' := [(2, .int (nI k)), (0, .ref w), (1, .ref o)]) hx hb dX2_copyFrom_12 rfl hl (by decide) rfl (fun ls hl => ?_)
  refine lv_iconst (v := 0) hx hb dX2_copyFrom_13 (by decide) ?_
  refine lv_istore_n (lv' := [(3, .int 0), (2, .int (nI k)), (0, .ref w), (1, .ref o)]) hx hb dX2_copyFrom_14 rfl hl (by decide) rfl (fun ls hl => ?_)
  have hV : hm_V E.1 vwCl (hm_A M sz) s.heap (hm_up M la (hm_I E n (fun j => nI (if j < 0 then b j else d j)))) s.heap [] := by rw [hm_up_id ((ha).trans (congrArg (fun f9 => some (hm_I E n f9)) (nu_up0 b d)))]; exact hV
  have loop : ∀ (fu : Nat) (i : Nat), (i ≤ k) → k - i < fu → ∀ (ls : Array Slot) (H : Heap) (locs : List Loc), lv_has ls 4 [(0, .ref w), (1, .ref o), (2, .int (nI k)), (3, .int (nI i))] → hm_V E.1 vwCl (hm_A M sz) s.heap (hm_up M la (hm_I E n (fun j => nI (if j < i then b j else d j)))) H locs → W p l e rm_X2_copyFrom s m [.ref w, .ref o].toArray below meth c H locs 0 0 Qf (F0 m 15 ls []) := by
    intro fu
    induction fu with
    | zero => intro i hi hfu; exact absurd hfu (Nat.not_lt_zero _)
    | succ fu ih_loop =>
      intro i hi hfu ls H locs hl hV
      refine lv_iload_n hx hb dX2_copyFrom_15 rfl (lv_at hl 3 rfl) ?_
      refine lv_iload_n hx hb dX2_copyFrom_16 rfl (lv_at hl 2 rfl) ?_
      refine lv_icmp_ge (tgt := 38) hx hb dX2_copyFrom_17 (by decide) (fun c17 => ?_) (fun c17 => ?_)
      · have hik : i = k := by
          rcases Nat.lt_or_ge i k with q | q
          · exact absurd c17 (nI_ge q (by omega))
          · omega
        subst hik
        refine lv_aload_n hx hb dX2_copyFrom_38 rfl (lv_at hl 0 rfl) ?_
        refine lv_iload_n hx hb dX2_copyFrom_39 rfl (lv_at hl 2 rfl) ?_
        refine lv_aload_n hx hb dX2_copyFrom_40 rfl (lv_at hl 1 rfl) ?_
        refine hm_get (ci := 4) (v := .int g) (C := RX2) (T := TX2) (N := 3) hx hb hws kin_X2 hown hK.1 hV ((hm_up_ne _ _ h_o_la).trans hwo) rfl 2 (by decide) fl15 (fun _ h9 => h9) rfl dX2_copyFrom_41 ?_
        refine hm_callv (va_runV (As := [.int (nI i), .int g]) (rest := []) ⟨hx, hb, hml, hown, hts⟩ (c_X2_finish l E (d := (fun j => if j < i then b j else d j)) (t := i) (sg := g) ((hm_up_ne _ _ h_w_la).trans hw) (hm_up_self _ _ _) (hkn) (by omega) (fun j hj => by show (if j < i then _ else _) < _; rw [if_pos hj]; have := ho2 j (by omega); omega) H.size) (cwV 2 hts (hm_gV kw_140 kw_142 kw_1 kw_38 kw_143) rfl rfl rfl (by decide +kernel) ⟨Nat.le_of_ble_eq_true rfl, Nat.le_of_ble_eq_true rfl⟩) (hm_preV hK hV ((hm_up_ne _ _ h_w_la).trans hw) rfl) rfl rfl hl.1 rfl (lv_room (Nat.le_of_ble_eq_true rfl)) dX2_copyFrom_44 ⟨Nat.le_of_ble_eq_true rfl, Nat.le_of_ble_eq_true rfl⟩) hV hA (fun M1 H locs hp hV => ?_)
        subst hp
        have hV : hm_V E.1 vwCl (hm_A M sz) s.heap (hm_up (hm_up M la (hm_I E n (fun j => nI (if j < i then b j else d j)))) w (.inr (4, [.ref la, .int (nI (nu_k (fun j => if j < i then b j else d j) i)), .int (if g = 0 then 0 else if nu_k (fun j => if j < i then b j else d j) i = 0 then 0 else 1)]))) H locs := hV
        have hfin := wn_fin (n := n) (top := i) (d := (fun j => if j < i then b j else d j)) (sg := g) hkn (nu_ifd (fun j hj => ho2 j (by omega)) hd)
        rw [nu_if, wn_sg ho5 ho4] at hfin
        rw [hQf]
        exact W.vret hx hb hr (fun t ht hW => ⟨⟨_, rfl, ⟨_, _, _, rfl, hfin⟩, (hm_end hV ht).1⟩, (hm_end hV ht).2⟩) hV.2.2.2.2 dX2_copyFrom_47
      · have hik : i < k := by
          rcases Nat.lt_or_ge i k with q | q
          · exact q
          · exact absurd (nI_le q (by omega)) c17
        refine lv_aload_n hx hb dX2_copyFrom_20 rfl (lv_at hl 0 rfl) ?_
        refine hm_get (ci := 4) (v := .ref la) (C := RX2) (T := TX2) (N := 3) hx hb hws kin_X2 hown hK.1 hV ((hm_up_ne _ _ h_w_la).trans hw) rfl 0 (by decide) fl25 (fun _ h9 => h9) rfl dX2_copyFrom_21 ?_
        refine lv_iload_n hx hb dX2_copyFrom_24 rfl (lv_at hl 3 rfl) ?_
        refine lv_aload_n hx hb dX2_copyFrom_25 rfl (lv_at hl 1 rfl) ?_
        refine hm_get (ci := 4) (v := .ref lo) (C := RX2) (T := TX2) (N := 3) hx hb hws kin_X2 hown hK.1 hV ((hm_up_ne _ _ h_o_la).trans hwo) rfl 0 (by decide) fl25 (fun _ h9 => h9) rfl dX2_copyFrom_26 ?_
        refine lv_iload_n hx hb dX2_copyFrom_29 rfl (lv_at hl 3 rfl) ?_
        refine hm_ialdN hx hb hK.1 hV 0 ((hm_up_ne _ _ h_lo_la).trans hao) rfl (k := i) (by omega) (by omega) dX2_copyFrom_30 ?_
        refine hm_iastN hx hb hK.1 hV 0 (hm_up_self _ _ _) rfl (k := i) (by omega) (by omega) dX2_copyFrom_31 (fun H locs hV => ?_)
        rw [show (upd (fun j => nI (if j < i then b j else d j)) i (nI (b i))) = (fun j => nI (if j < i + 1 then b j else d j)) from nu_up b d i] at hV
        rw [hm_u0] at hV
        have hV : hm_V E.1 vwCl (hm_A M sz) s.heap (hm_up M la (hm_I E n (fun j => nI (if j < i + 1 then b j else d j)))) H locs := hV
        refine lv_iinc (v := (nI (i + 1))) (lv' := [(3, .int (nI (i + 1))), (0, .ref w), (1, .ref o), (2, .int (nI k))]) hx hb dX2_copyFrom_32 hl (k := 3) rfl (nI_1 i) (by decide) rfl (fun ls hl => ?_)
        refine lv_goto (tgt := 15) hx hb dX2_copyFrom_35 (by decide) ?_
        exact ih_loop (i + 1) (by omega) (by omega) ls H locs (lv_sub hl [1, 2, 3, 0] rfl) hV
  exact loop (k + 1) 0 (Nat.zero_le k) (by omega) ls s.heap [] (lv_sub hl [2, 3, 1, 0] rfl) hV

abbrev wd_X2_negate : List Cond := .code yX2_negate cX2_negate 1 none :: hm_ws
abbrev rm_X2_negate : Room := { frames := 0, cells := 0, slots := 0, locals := 0 }

set_option maxHeartbeats 4000000 in
set_option maxRecDepth 100000 in
/-- negate() -/
theorem c_X2_negate (l : Launch) (E : hm_E) {M : hm_M} {w la k : Nat} {g : Int32} (hw : M w = some (hm_W la (nI k) g)) (hk : k < 1000) : hm_Cv l E yX2_negate wd_X2_negate rm_X2_negate [.ref w] M (fun M1 => M1 = hm_up M w (hm_W la (nI k) (if g = 0 then if k = 0 then 0 else 1 else 0))) := by
  intro sz
  refine Met.ofW (cc := cX2_negate) (maxL := 1) (ret := none) (by decide) rfl ?_
  intro p e s m args below meth c s₁ B hml hv
  obtain ⟨rfl, hAe, hA, hK, hV⟩ := hm_start hv
  have hx := B.exec
  have hb := B.bytes
  have hr := B.returns
  have hts := atoms_spec (ws := wd_X2_negate) B.pre
  have hws : ∀ w ∈ hm_ws, w.before _ s = true := fun w h => hts w (List.mem_cons_of_mem _ h)
  have hown : s.vm.findClass RX2 = some m.cls := findClass_of_methodNamed B.named
  have hlocks := B.notSynchronized
  have fl15 := hws _ kw_76
  have fl9 := hws _ kw_73
  have hl := lv_entry ([.ref w]) (n := 1) (Nat.le_of_ble_eq_true rfl)
  rw [lg_entry_eq]
  generalize (lg_sl ([.ref w]) ++ List.replicate (1 - (lg_sl ([.ref w])).length) Slot.unset).toArray = ls at hl ⊢
  have hl : lv_has ls 1 [(0, .ref w)] := hl
  refine hm_gen (rm := rm_X2_negate) rfl (fun Qf hQf => ?_)
  refine lv_aload_n hx hb dX2_negate_0 rfl (lv_at hl 0 rfl) ?_
  refine lv_aload_n hx hb dX2_negate_1 rfl (lv_at hl 0 rfl) ?_
  refine hm_get (ci := 4) (v := .int g) (C := RX2) (T := TX2) (N := 3) hx hb hws kin_X2 hown hK.1 hV hw rfl 2 (by decide) fl15 (fun _ h9 => h9) rfl dX2_negate_2 ?_
  refine lv_if_ne (tgt := 19) hx hb dX2_negate_5 (by decide) (fun c5 => ?_) (fun c5 => ?_)
  · refine lv_iconst (v := 0) hx hb dX2_negate_19 (by decide) ?_
    refine hm_put (ci := 4) (v := .int 0) (ty := .boolean) (C := RX2) (T := TX2) (N := 3) hx hb hws kin_X2 tyX2 tyX2_ok nmX2 hown hK.1 hV hw rfl 2 (by decide) fl15 (fun _ h9 => h9) rfl (by decide +kernel) rfl rfl (Nat.le_of_ble_eq_true rfl) dX2_negate_20 (fun H locs hV => ?_)
    have hV : hm_V E.1 vwCl (hm_A M sz) s.heap (hm_up M w (.inr (4, [.ref la, .int (nI k), .int 0]))) H locs := hV
    rw [hQf]
    exact W.vret hx hb hr (fun t ht hW => ⟨⟨_, rfl, by rw [if_neg c5], (hm_end hV ht).1⟩, (hm_end hV ht).2⟩) hV.2.2.2.2 dX2_negate_23
  · refine lv_aload_n hx hb dX2_negate_8 rfl (lv_at hl 0 rfl) ?_
    refine hm_get (ci := 4) (v := .int (nI k)) (C := RX2) (T := TX2) (N := 3) hx hb hws kin_X2 hown hK.1 hV hw rfl 1 (by decide) fl9 (fun _ h9 => h9) rfl dX2_negate_9 ?_
    refine lv_if_le (tgt := 19) hx hb dX2_negate_12 (by decide) (fun c12 => ?_) (fun c12 => ?_)
    · have hc : k = 0 := by
        rcases Nat.eq_zero_or_pos k with q | q
        · exact q
        · exact absurd c12 (nI_nle q (by omega))
      refine lv_iconst (v := 0) hx hb dX2_negate_19 (by decide) ?_
      refine hm_put (ci := 4) (v := .int 0) (ty := .boolean) (C := RX2) (T := TX2) (N := 3) hx hb hws kin_X2 tyX2 tyX2_ok nmX2 hown hK.1 hV hw rfl 2 (by decide) fl15 (fun _ h9 => h9) rfl (by decide +kernel) rfl rfl (Nat.le_of_ble_eq_true rfl) dX2_negate_20 (fun H locs hV => ?_)
      have hV : hm_V E.1 vwCl (hm_A M sz) s.heap (hm_up M w (.inr (4, [.ref la, .int (nI k), .int 0]))) H locs := hV
      rw [hQf]
      exact W.vret hx hb hr (fun t ht hW => ⟨⟨_, rfl, by rw [if_pos c5, if_pos hc], (hm_end hV ht).1⟩, (hm_end hV ht).2⟩) hV.2.2.2.2 dX2_negate_23
    · have hc : k ≠ 0 := fun q => c12 (by rw [q]; exact Int32.le_refl _)
      refine lv_iconst (v := 1) hx hb dX2_negate_15 (by decide) ?_
      refine lv_goto (tgt := 20) hx hb dX2_negate_16 (by decide) ?_
      refine hm_put (ci := 4) (v := .int 1) (ty := .boolean) (C := RX2) (T := TX2) (N := 3) hx hb hws kin_X2 tyX2 tyX2_ok nmX2 hown hK.1 hV hw rfl 2 (by decide) fl15 (fun _ h9 => h9) rfl (by decide +kernel) rfl rfl (Nat.le_of_ble_eq_true rfl) dX2_negate_20 (fun H locs hV => ?_)
      have hV : hm_V E.1 vwCl (hm_A M sz) s.heap (hm_up M w (.inr (4, [.ref la, .int (nI k), .int 1]))) H locs := hV
      rw [hQf]
      exact W.vret hx hb hr (fun t ht hW => ⟨⟨_, rfl, by rw [if_pos c5, if_neg hc], (hm_end hV ht).1⟩, (hm_end hV ht).2⟩) hV.2.2.2.2 dX2_negate_23

theorem cmp_lt {A B : Nat} (h : A < B) : (-1 : Int32) = (if A < B then -1 else if A = B then 0 else 1) := by rw [if_pos h]
theorem cmp_gt {A B : Nat} (h : B < A) : (1 : Int32) = (if A < B then -1 else if A = B then 0 else 1) := by rw [if_neg (by omega), if_neg (by omega)]
theorem cmp_eq {A B : Nat} (h : A = B) : (0 : Int32) = (if A < B then -1 else if A = B then 0 else 1) := by rw [if_neg (by omega), if_pos h]

abbrev wd_X2_compareAmount : List Cond := .code yX2_compareAmount cX2_compareAmount 3 (some .int) :: hm_ws
abbrev rm_X2_compareAmount : Room := { frames := 0, cells := 0, slots := 0, locals := 0 }

set_option maxHeartbeats 4000000 in
set_option maxRecDepth 100000 in
/-- compareAmount(other) -/
theorem c_X2_compareAmount (l : Launch) (E : hm_E) {M : hm_M} {w la n k o lo m q : Nat} {g go : Int32} {d b : Nat → Nat} {z y : Int} (hw : M w = some (hm_W la (nI k) g)) (ha : M la = some (hm_I E n (fun j => nI (d j)))) (ho : wn_ok n d k g z) (hwo : M o = some (hm_W lo (nI q) go)) (hao : M lo = some (hm_I E m (fun j => nI (b j)))) (hoo : wn_ok m b q go y) (hn : n < 1000) (hm : m < 1000) : hm_Ci l E yX2_compareAmount wd_X2_compareAmount rm_X2_compareAmount [.ref w, .ref o] M (fun r M1 => r = (if z.natAbs < y.natAbs then -1 else if z.natAbs = y.natAbs then 0 else 1) ∧ M1 = M) := by
  intro sz
  refine Met.ofW (cc := cX2_compareAmount) (maxL := 3) (ret := (some .int)) (by decide) rfl ?_
  intro p e s m args below meth c s₁ B hml hv
  obtain ⟨rfl, hAe, hA, hK, hV⟩ := hm_start hv
  have hx := B.exec
  have hb := B.bytes
  have hr := B.returns
  have hts := atoms_spec (ws := wd_X2_compareAmount) B.pre
  have hws : ∀ w ∈ hm_ws, w.before _ s = true := fun w h => hts w (List.mem_cons_of_mem _ h)
  have hown : s.vm.findClass RX2 = some m.cls := findClass_of_methodNamed B.named
  have hlocks := B.notSynchronized
  have fl9 := hws _ kw_73
  have fl25 := hws _ kw_71
  have hl := lv_entry ([.ref w, .ref o]) (n := 3) (Nat.le_of_ble_eq_true rfl)
  rw [lg_entry_eq]
  generalize (lg_sl ([.ref w, .ref o]) ++ List.replicate (3 - (lg_sl ([.ref w, .ref o])).length) Slot.unset).toArray = ls at hl ⊢
  have hl : lv_has ls 3 [(0, .ref w), (1, .ref o)] := hl
  refine hm_gen (rm := rm_X2_compareAmount) rfl (fun Qf hQf => ?_)
  obtain ⟨ho1, ho2, ho3, ho4, ho5⟩ := ho
  obtain ⟨hp1, hp2, hp3, hp4, hp5⟩ := hoo
  rw [← ho4, ← hp4] at hQf
  refine lv_aload_n hx hb dX2_compareAmount_0 rfl (lv_at hl 0 rfl) ?_
  refine hm_get (ci := 4) (v := .int (nI k)) (C := RX2) (T := TX2) (N := 3) hx hb hws kin_X2 hown hK.1 hV hw rfl 1 (by decide) fl9 (fun _ h9 => h9) rfl dX2_compareAmount_1 ?_
  refine lv_aload_n hx hb dX2_compareAmount_4 rfl (lv_at hl 1 rfl) ?_
  refine hm_get (ci := 4) (v := .int (nI q)) (C := RX2) (T := TX2) (N := 3) hx hb hws kin_X2 hown hK.1 hV hwo rfl 1 (by decide) fl9 (fun _ h9 => h9) rfl dX2_compareAmount_5 ?_
  refine lv_icmp_eq (tgt := 28) hx hb dX2_compareAmount_8 (by decide) (fun c8 => ?_) (fun c8 => ?_)
  · have hkq : k = q := (nI_eq (by omega) (by omega)).mp c8
    subst hkq
    refine lv_aload_n hx hb dX2_compareAmount_28 rfl (lv_at hl 0 rfl) ?_
    refine hm_get (ci := 4) (v := .int (nI k)) (C := RX2) (T := TX2) (N := 3) hx hb hws kin_X2 hown hK.1 hV hw rfl 1 (by decide) fl9 (fun _ h9 => h9) rfl dX2_compareAmount_29 ?_
    refine lv_iconst (v := 1) hx hb dX2_compareAmount_32 (by decide) ?_
    refine lv_isub hx hb dX2_compareAmount_33 ?_
    refine hm_topi (show ((nI k) - 1) = nP k from nP_sub k) ?_
    refine lv_istore_n (lv' := [(2, .int (nP k)), (0, .ref w), (1, .ref o)]) hx hb dX2_compareAmount_34 rfl hl (by decide) rfl (fun ls hl => ?_)
    have loop : ∀ (fu : Nat) (i : Nat), (i ≤ k) → (∀ j, i ≤ j → j < k → d j = b j) → i < fu → ∀ (ls : Array Slot) (H : Heap) (locs : List Loc), lv_has ls 3 [(0, .ref w), (1, .ref o), (2, .int (nP i))] → hm_V E.1 vwCl (hm_A M sz) s.heap (M) H locs → W p l e rm_X2_compareAmount s m [.ref w, .ref o].toArray below meth c H locs 0 0 Qf (F0 m 35 ls []) := by
      intro fu
      induction fu with
      | zero => intro i hi he hfu; exact absurd hfu (Nat.not_lt_zero _)
      | succ fu ih_loop =>
        intro i hi he hfu ls H locs hl hV
        refine lv_iload_n hx hb dX2_compareAmount_35 rfl (lv_at hl 2 rfl) ?_
        refine lv_if_lt (tgt := 81) hx hb dX2_compareAmount_36 (by decide) (fun c36 => ?_) (fun c36 => ?_)
        · have hi0 : i = 0 := by
            cases i with
            | zero => rfl
            | succ j => exact absurd c36 (nI_pos (by omega))
          subst hi0
          refine lv_iconst (v := 0) hx hb dX2_compareAmount_81 (by decide) ?_
          rw [hQf]
          exact W.iret hx hb hr (fun t ht hW => ⟨⟨_, _, rfl, ⟨cmp_eq (nu_v_congr (fun j hj => he j (Nat.zero_le j) hj)), rfl⟩, (hm_end hV ht).1⟩, (hm_end hV ht).2⟩) hV.2.2.2.2 dX2_compareAmount_82
        · obtain ⟨j, rfl⟩ : ∃ j, i = j + 1 := by
            cases i with
            | zero => exact absurd (show nP 0 < 0 from by decide) c36
            | succ j => exact ⟨j, rfl⟩
          have hl : lv_has ls 3 [(0, .ref w), (1, .ref o), (2, .int (nI j))] := hl
          refine lv_aload_n hx hb dX2_compareAmount_39 rfl (lv_at hl 0 rfl) ?_
          refine hm_get (ci := 4) (v := .ref la) (C := RX2) (T := TX2) (N := 3) hx hb hws kin_X2 hown hK.1 hV hw rfl 0 (by decide) fl25 (fun _ h9 => h9) rfl dX2_compareAmount_40 ?_
          refine lv_iload_n hx hb dX2_compareAmount_43 rfl (lv_at hl 2 rfl) ?_
          refine hm_ialdN hx hb hK.1 hV 0 ha rfl (k := j) (by omega) (by omega) dX2_compareAmount_44 ?_
          refine lv_aload_n hx hb dX2_compareAmount_45 rfl (lv_at hl 1 rfl) ?_
          refine hm_get (ci := 4) (v := .ref lo) (C := RX2) (T := TX2) (N := 3) hx hb hws kin_X2 hown hK.1 hV hwo rfl 0 (by decide) fl25 (fun _ h9 => h9) rfl dX2_compareAmount_46 ?_
          refine lv_iload_n hx hb dX2_compareAmount_49 rfl (lv_at hl 2 rfl) ?_
          refine hm_ialdN hx hb hK.1 hV 0 hao rfl (k := j) (by omega) (by omega) dX2_compareAmount_50 ?_
          refine lv_icmp_eq (tgt := 75) hx hb dX2_compareAmount_51 (by decide) (fun c51 => ?_) (fun c51 => ?_)
          · have hde : d j = b j := (nI_eq (by have := ho2 j (by omega); omega) (by have := hp2 j (by omega); omega)).mp c51
            refine lv_iinc (v := (nP j)) (lv' := [(2, .int (nP j)), (0, .ref w), (1, .ref o)]) hx hb dX2_compareAmount_75 hl (k := 2) rfl (nP_dec j) (by decide) rfl (fun ls hl => ?_)
            refine lv_goto (tgt := 35) hx hb dX2_compareAmount_78 (by decide) ?_
            exact ih_loop j (by omega) (fun t h1 h2 => by
              rcases Nat.lt_or_ge j t with r | r
              · exact he t (by omega) h2
              · rw [show t = j by omega]; exact hde) (by omega) ls H locs (lv_sub hl [1, 2, 0] rfl) hV
          · refine lv_aload_n hx hb dX2_compareAmount_54 rfl (lv_at hl 0 rfl) ?_
            refine hm_get (ci := 4) (v := .ref la) (C := RX2) (T := TX2) (N := 3) hx hb hws kin_X2 hown hK.1 hV hw rfl 0 (by decide) fl25 (fun _ h9 => h9) rfl dX2_compareAmount_55 ?_
            refine lv_iload_n hx hb dX2_compareAmount_58 rfl (lv_at hl 2 rfl) ?_
            refine hm_ialdN hx hb hK.1 hV 0 ha rfl (k := j) (by omega) (by omega) dX2_compareAmount_59 ?_
            refine lv_aload_n hx hb dX2_compareAmount_60 rfl (lv_at hl 1 rfl) ?_
            refine hm_get (ci := 4) (v := .ref lo) (C := RX2) (T := TX2) (N := 3) hx hb hws kin_X2 hown hK.1 hV hwo rfl 0 (by decide) fl25 (fun _ h9 => h9) rfl dX2_compareAmount_61 ?_
            refine lv_iload_n hx hb dX2_compareAmount_64 rfl (lv_at hl 2 rfl) ?_
            refine hm_ialdN hx hb hK.1 hV 0 hao rfl (k := j) (by omega) (by omega) dX2_compareAmount_65 ?_
            refine lv_icmp_ge (tgt := 73) hx hb dX2_compareAmount_66 (by decide) (fun c66 => ?_) (fun c66 => ?_)
            · have hlt : b j < d j := by
                have h1 := (nI_leI (by have := hp2 j (by omega); omega) (by have := ho2 j (by omega); omega)).mp c66
                have h2 : d j ≠ b j := fun r => c51 (by rw [r])
                omega
              refine lv_iconst (v := 1) hx hb dX2_compareAmount_73 (by decide) ?_
              rw [hQf]
              exact W.iret hx hb hr (fun t ht hW => ⟨⟨_, _, rfl, ⟨cmp_gt (nu_less (fun t ht => hp2 t (by omega)) (by omega) (fun t h1 h2 => (he t (by omega) h2).symm) hlt), rfl⟩, (hm_end hV ht).1⟩, (hm_end hV ht).2⟩) hV.2.2.2.2 dX2_compareAmount_74
            · have hlt : d j < b j := by
                rcases Nat.lt_or_ge (d j) (b j) with r | r
                · exact r
                · exact absurd (nI_le r (by have := ho2 j (by omega); omega)) c66
              refine lv_iconst (v := (-1)) hx hb dX2_compareAmount_69 (by decide) ?_
              refine lv_goto (tgt := 74) hx hb dX2_compareAmount_70 (by decide) ?_
              rw [hQf]
              exact W.iret hx hb hr (fun t ht hW => ⟨⟨_, _, rfl, ⟨cmp_lt (nu_less (fun t ht => ho2 t (by omega)) (by omega) (fun t h1 h2 => he t (by omega) h2) hlt), rfl⟩, (hm_end hV ht).1⟩, (hm_end hV ht).2⟩) hV.2.2.2.2 dX2_compareAmount_74
    exact loop (k + 1) k (Nat.le_refl k) (fun j h1 h2 => absurd h2 (by omega)) (by omega) ls s.heap [] (lv_sub hl [1, 2, 0] rfl) hV
  · have hkq : k ≠ q := fun r => c8 (by rw [r])
    refine lv_aload_n hx hb dX2_compareAmount_11 rfl (lv_at hl 0 rfl) ?_
    refine hm_get (ci := 4) (v := .int (nI k)) (C := RX2) (T := TX2) (N := 3) hx hb hws kin_X2 hown hK.1 hV hw rfl 1 (by decide) fl9 (fun _ h9 => h9) rfl dX2_compareAmount_12 ?_
    refine lv_aload_n hx hb dX2_compareAmount_15 rfl (lv_at hl 1 rfl) ?_
    refine hm_get (ci := 4) (v := .int (nI q)) (C := RX2) (T := TX2) (N := 3) hx hb hws kin_X2 hown hK.1 hV hwo rfl 1 (by decide) fl9 (fun _ h9 => h9) rfl dX2_compareAmount_16 ?_
    refine lv_icmp_ge (tgt := 26) hx hb dX2_compareAmount_19 (by decide) (fun c19 => ?_) (fun c19 => ?_)
    · have hlt : q < k := by
        have := (nI_leI (by omega) (by omega)).mp c19
        omega
      refine lv_iconst (v := 1) hx hb dX2_compareAmount_26 (by decide) ?_
      rw [hQf]
      exact W.iret hx hb hr (fun t ht hW => ⟨⟨_, _, rfl, ⟨cmp_gt (nu_longer (by decide) (fun j hj => hp2 j (by omega)) hlt (ho3 (by omega))), rfl⟩, (hm_end hV ht).1⟩, (hm_end hV ht).2⟩) hV.2.2.2.2 dX2_compareAmount_27
    · have hlt : k < q := by
        rcases Nat.lt_or_ge k q with r | r
        · exact r
        · exact absurd (nI_le r (by omega)) c19
      refine lv_iconst (v := (-1)) hx hb dX2_compareAmount_22 (by decide) ?_
      refine lv_goto (tgt := 27) hx hb dX2_compareAmount_23 (by decide) ?_
      rw [hQf]
      exact W.iret hx hb hr (fun t ht hW => ⟨⟨_, _, rfl, ⟨cmp_lt (nu_longer (by decide) (fun j hj => ho2 j (by omega)) hlt (hp3 (by omega))), rfl⟩, (hm_end hV ht).1⟩, (hm_end hV ht).2⟩) hV.2.2.2.2 dX2_compareAmount_27

abbrev wd_X2_divideBy : List Cond := .code yX2_divideBy cX2_divideBy 7 (some .int) :: hm_ws
abbrev rm_X2_divideBy : Room := { frames := 1, cells := 0, slots := 0, locals := 22 }

set_option maxHeartbeats 4000000 in
set_option maxRecDepth 100000 in
/-- divideBy(q): the quotient stays, the rest is the answer -/
theorem c_X2_divideBy (l : Launch) (E : hm_E) {M : hm_M} {w la n k q : Nat} {g : Int32} {d : Nat → Nat} {z : Int} (hw : M w = some (hm_W la (nI k) g)) (ha : M la = some (hm_I E n (fun j => nI (d j)))) (ho : wn_ok n d k g z) (hn : n < 1000) (hq0 : 0 < q) (hq : q < 2147483648) : hm_Ci l E yX2_divideBy wd_X2_divideBy rm_X2_divideBy [.ref w, .int (nI q)] M (fun r M1 => r = nI (z.natAbs % q) ∧ wn_post E M w la n (qz z q) M1) := by
  intro sz
  refine Met.ofW (cc := cX2_divideBy) (maxL := 7) (ret := (some .int)) (by decide) rfl ?_
  intro p e s m args below meth c s₁ B hml hv
  obtain ⟨rfl, hAe, hA, hK, hV⟩ := hm_start hv
  have hx := B.exec
  have hb := B.bytes
  have hr := B.returns
  have hts := atoms_spec (ws := wd_X2_divideBy) B.pre
  have hws : ∀ w ∈ hm_ws, w.before _ s = true := fun w h => hts w (List.mem_cons_of_mem _ h)
  have hown : s.vm.findClass RX2 = some m.cls := findClass_of_methodNamed B.named
  have hlocks := B.notSynchronized
  have fl9 := hws _ kw_73
  have fl25 := hws _ kw_71
  have fl15 := hws _ kw_76
  have hl := lv_entry ([.ref w, .int (nI q)]) (n := 7) (Nat.le_of_ble_eq_true rfl)
  rw [lg_entry_eq]
  generalize (lg_sl ([.ref w, .int (nI q)]) ++ List.replicate (7 - (lg_sl ([.ref w, .int (nI q)])).length) Slot.unset).toArray = ls at hl ⊢
  have hl : lv_has ls 7 [(0, .ref w), (1, .int (nI q))] := hl
  refine hm_gen (rm := rm_X2_divideBy) rfl (fun Qf hQf => ?_)
  have h_w_la : hm_ap w la := hm_oa hw ha
  obtain ⟨ho1, ho2, ho3, ho4, ho5⟩ := ho
  have hVd : ∀ j, j < k → z.natAbs / 33554432 ^ j % 33554432 = d j := fun j hj => by rw [← ho4]; exact nu_at (fun t ht => ho2 t (by omega)) hj
  have hVk : z.natAbs < 33554432 ^ k := by rw [← ho4]; exact nu_v_lt (fun t ht => ho2 t (by omega))
  refine lv_iload_n hx hb dX2_divideBy_0 rfl (lv_at hl 1 rfl) ?_
  refine lv_iconst (v := 1) hx hb dX2_divideBy_1 (by decide) ?_
  refine lv_icmp_ge (tgt := 7) hx hb dX2_divideBy_2 (by decide) (fun c2 => ?_) (fun c2 => ?_)
  · refine lv_lconst (v := 0) hx hb dX2_divideBy_7 (by decide) ?_
    refine lv_lstore_n (lv' := [(2, .long 0), (0, .ref w), (1, .int (nI q))]) hx hb dX2_divideBy_8 rfl hl (by decide) rfl (fun ls hl => ?_)
    refine lv_aload_n hx hb dX2_divideBy_9 rfl (lv_at hl 1 rfl) ?_
    refine hm_get (ci := 4) (v := .int (nI k)) (C := RX2) (T := TX2) (N := 3) hx hb hws kin_X2 hown hK.1 hV hw rfl 1 (by decide) fl9 (fun _ h9 => h9) rfl dX2_divideBy_10 ?_
    refine lv_iconst (v := 1) hx hb dX2_divideBy_13 (by decide) ?_
    refine lv_isub hx hb dX2_divideBy_14 ?_
    refine hm_topi (show ((nI k) - 1) = nP k from nP_sub k) ?_
    refine lv_istore (lv' := [(4, .int (nP k)), (2, .long 0), (0, .ref w), (1, .int (nI q))]) hx hb dX2_divideBy_15 hl (by decide) rfl (fun ls hl => ?_)
    have hV : hm_V E.1 vwCl (hm_A M sz) s.heap (hm_up M la (hm_I E n (fun j => nI (if k ≤ j ∧ j < k then z.natAbs / q / 33554432 ^ j % 33554432 else d j)))) s.heap [] := by rw [hm_up_id ((ha).trans (congrArg (fun f9 => some (hm_I E n f9)) (nu_dn0 (fun j => z.natAbs / q / 33554432 ^ j % 33554432) d k)))]; exact hV
    have loop : ∀ (fu : Nat) (i : Nat), (i ≤ k) → i < fu → ∀ (ls : Array Slot) (H : Heap) (locs : List Loc), lv_has ls 7 [(0, .ref w), (1, .int (nI q)), (2, .long (lN (z.natAbs / 33554432 ^ i % q))), (4, .int (nP i))] → hm_V E.1 vwCl (hm_A M sz) s.heap (hm_up M la (hm_I E n (fun j => nI (if i ≤ j ∧ j < k then z.natAbs / q / 33554432 ^ j % 33554432 else d j)))) H locs → W p l e rm_X2_divideBy s m [.ref w, .int (nI q)].toArray below meth c H locs 0 0 Qf (F0 m 17 ls []) := by
      intro fu
      induction fu with
      | zero => intro i hi hfu; exact absurd hfu (Nat.not_lt_zero _)
      | succ fu ih_loop =>
        intro i hi hfu ls H locs hl hV
        refine lv_iload hx hb dX2_divideBy_17 (lv_at hl 3 rfl) ?_
        refine lv_if_lt (tgt := 62) hx hb dX2_divideBy_19 (by decide) (fun c19 => ?_) (fun c19 => ?_)
        · have hi0 : i = 0 := by
            cases i with
            | zero => rfl
            | succ j => exact absurd c19 (nI_pos (by omega))
          subst hi0
          refine lv_aload_n hx hb dX2_divideBy_62 rfl (lv_at hl 0 rfl) ?_
          refine lv_aload_n hx hb dX2_divideBy_63 rfl (lv_at hl 0 rfl) ?_
          refine hm_get (ci := 4) (v := .int (nI k)) (C := RX2) (T := TX2) (N := 3) hx hb hws kin_X2 hown hK.1 hV ((hm_up_ne _ _ h_w_la).trans hw) rfl 1 (by decide) fl9 (fun _ h9 => h9) rfl dX2_divideBy_64 ?_
          refine lv_aload_n hx hb dX2_divideBy_67 rfl (lv_at hl 0 rfl) ?_
          refine hm_get (ci := 4) (v := .int g) (C := RX2) (T := TX2) (N := 3) hx hb hws kin_X2 hown hK.1 hV ((hm_up_ne _ _ h_w_la).trans hw) rfl 2 (by decide) fl15 (fun _ h9 => h9) rfl dX2_divideBy_68 ?_
          refine hm_callv (va_runV (As := [.int (nI k), .int g]) (rest := []) ⟨hx, hb, hml, hown, hts⟩ (c_X2_finish l E (d := (fun j => if 0 ≤ j ∧ j < k then z.natAbs / q / 33554432 ^ j % 33554432 else d j)) (t := k) (sg := g) ((hm_up_ne _ _ h_w_la).trans hw) (hm_up_self _ _ _) (ho1) (by omega) (fun j hj => by show (if 0 ≤ j ∧ j < k then _ else _) < _; rw [if_pos ⟨Nat.zero_le j, hj⟩]; have := Nat.mod_lt (z.natAbs / q / 33554432 ^ j) (show 0 < 33554432 by decide); omega) H.size) (cwV 2 hts (hm_gV kw_140 kw_142 kw_1 kw_38 kw_143) rfl rfl rfl (by decide +kernel) ⟨Nat.le_of_ble_eq_true rfl, Nat.le_of_ble_eq_true rfl⟩) (hm_preV hK hV ((hm_up_ne _ _ h_w_la).trans hw) rfl) rfl rfl hl.1 rfl (lv_room (Nat.le_of_ble_eq_true rfl)) dX2_divideBy_71 ⟨Nat.le_of_ble_eq_true rfl, Nat.le_of_ble_eq_true rfl⟩) hV hA (fun M1 H locs hp hV => ?_)
          subst hp
          have hV : hm_V E.1 vwCl (hm_A M sz) s.heap (hm_up (hm_up M la (hm_I E n (fun j => nI (if 0 ≤ j ∧ j < k then z.natAbs / q / 33554432 ^ j % 33554432 else d j)))) w (.inr (4, [.ref la, .int (nI (nu_k (fun j => if 0 ≤ j ∧ j < k then z.natAbs / q / 33554432 ^ j % 33554432 else d j) k)), .int (if g = 0 then 0 else if nu_k (fun j => if 0 ≤ j ∧ j < k then z.natAbs / q / 33554432 ^ j % 33554432 else d j) k = 0 then 0 else 1)]))) H locs := hV
          have hfin := wn_fin (n := n) (top := k) (d := (fun j => if 0 ≤ j ∧ j < k then z.natAbs / q / 33554432 ^ j % 33554432 else d j)) (sg := g) ho1 (fun j hj => by
            show (if 0 ≤ j ∧ j < k then _ else _) < _
            split
            · exact Nat.mod_lt _ (by decide)
            · exact ho2 j hj)
          rw [nu_if2, nu_dig (by decide), Nat.mod_eq_of_lt (Nat.lt_of_le_of_lt (Nat.div_le_self _ _) hVk), wn_qz ho5 rfl] at hfin
          refine lv_lload_n hx hb dX2_divideBy_74 rfl (lv_at hl 2 rfl) ?_
          refine lv_l2i hx hb dX2_divideBy_75 rfl ?_
          refine hm_topi (show ((lN (z.natAbs / 33554432 ^ 0 % q)).toInt32) = nI (z.natAbs % q) from (lN_i _).trans (by rw [Nat.pow_zero, Nat.div_one])) ?_
          rw [hQf]
          exact W.iret hx hb hr (fun t ht hW => ⟨⟨_, _, rfl, ⟨rfl, _, _, _, rfl, hfin⟩, (hm_end hV ht).1⟩, (hm_end hV ht).2⟩) hV.2.2.2.2 dX2_divideBy_76
        · obtain ⟨j, rfl⟩ : ∃ j, i = j + 1 := by
            cases i with
            | zero => exact absurd (show nP 0 < 0 from by decide) c19
            | succ j => exact ⟨j, rfl⟩
          have hl : lv_has ls 7 [(0, .ref w), (1, .int (nI q)), (2, .long (lN (z.natAbs / 33554432 ^ (j + 1) % q))), (4, .int (nI j))] := hl
          have hst := dv_step (B := 33554432) (V := z.natAbs) (i := j) (q := q) (by decide) hq0
          rw [hVd j (by omega)] at hst
          have hr1 := Nat.mod_lt (z.natAbs / 33554432 ^ (j + 1)) hq0
          have hdj := ho2 j (by omega)
          have hpb : z.natAbs / 33554432 ^ (j + 1) % q * 33554432 + d j < 2 ^ 63 := by omega
          refine lv_lload_n hx hb dX2_divideBy_22 rfl (lv_at hl 2 rfl) ?_
          refine lv_bipush (v := 25) hx hb dX2_divideBy_23 (by decide) ?_
          refine lv_lshl hx hb dX2_divideBy_25 rfl ?_
          refine lv_aload_n hx hb dX2_divideBy_26 rfl (lv_at hl 0 rfl) ?_
          refine hm_get (ci := 4) (v := .ref la) (C := RX2) (T := TX2) (N := 3) hx hb hws kin_X2 hown hK.1 hV ((hm_up_ne _ _ h_w_la).trans hw) rfl 0 (by decide) fl25 (fun _ h9 => h9) rfl dX2_divideBy_27 ?_
          refine lv_iload hx hb dX2_divideBy_30 (lv_at hl 3 rfl) ?_
          refine hm_ialdN hx hb hK.1 hV 0 (hm_up_self _ _ _) rfl (k := j) (by omega) (by omega) dX2_divideBy_32 ?_
          refine lv_i2l hx hb dX2_divideBy_33 rfl ?_
          refine hm_topl (show ((nI (if j + 1 ≤ j ∧ j < k then z.natAbs / q / 33554432 ^ j % 33554432 else d j)).toInt64) = lN (d j) from (by rw [if_neg (by omega)]; exact nI_l (by omega))) ?_
          refine lv_lor hx hb dX2_divideBy_34 ?_
          refine hm_topl (show (((lN (z.natAbs / 33554432 ^ (j + 1) % q)) <<< ((25 : Int32).toInt64 &&& 63)) ||| (lN (d j))) = lN (z.natAbs / 33554432 ^ (j + 1) % q * 33554432 + d j) from lN_or hdj (by omega)) ?_
          refine lv_lstore (lv' := [(5, .long (lN (z.natAbs / 33554432 ^ (j + 1) % q * 33554432 + d j))), (0, .ref w), (1, .int (nI q)), (2, .long (lN (z.natAbs / 33554432 ^ (j + 1) % q))), (4, .int (nI j))]) hx hb dX2_divideBy_35 hl (by decide) rfl (fun ls hl => ?_)
          refine lv_aload_n hx hb dX2_divideBy_37 rfl (lv_at hl 1 rfl) ?_
          refine hm_get (ci := 4) (v := .ref la) (C := RX2) (T := TX2) (N := 3) hx hb hws kin_X2 hown hK.1 hV ((hm_up_ne _ _ h_w_la).trans hw) rfl 0 (by decide) fl25 (fun _ h9 => h9) rfl dX2_divideBy_38 ?_
          refine lv_iload hx hb dX2_divideBy_41 (lv_at hl 4 rfl) ?_
          refine lv_lload hx hb dX2_divideBy_43 (lv_at hl 0 rfl) ?_
          refine lv_iload_n hx hb dX2_divideBy_45 rfl (lv_at hl 2 rfl) ?_
          refine lv_i2l hx hb dX2_divideBy_46 rfl ?_
          refine hm_topl (show ((nI q).toInt64) = lN q from nI_l (by omega)) ?_
          refine lv_ldiv hx hb dX2_divideBy_47 (fun r => absurd ((pk_lEQ (by omega) (by omega)).mp (show lN q = lN 0 from r)) (by omega)) ?_
          refine hm_topl (show ((lN (z.natAbs / 33554432 ^ (j + 1) % q * 33554432 + d j)) / (lN q)) = lN (z.natAbs / q / 33554432 ^ j % 33554432) from (pk_lDiv hpb hq0 (by omega)).trans (congrArg lN hst.1)) ?_
          refine lv_l2i hx hb dX2_divideBy_48 rfl ?_
          refine hm_topi (show ((lN (z.natAbs / q / 33554432 ^ j % 33554432)).toInt32) = nI (z.natAbs / q / 33554432 ^ j % 33554432) from lN_i _) ?_
          refine hm_iastN hx hb hK.1 hV 0 (hm_up_self _ _ _) rfl (k := j) (by omega) (by omega) dX2_divideBy_49 (fun H locs hV => ?_)
          rw [show (upd (fun t => nI (if j + 1 ≤ t ∧ t < k then z.natAbs / q / 33554432 ^ t % 33554432 else d t)) j (nI (z.natAbs / q / 33554432 ^ j % 33554432))) = (fun t => nI (if j ≤ t ∧ t < k then z.natAbs / q / 33554432 ^ t % 33554432 else d t)) from nu_dn (fun t => z.natAbs / q / 33554432 ^ t % 33554432) d j k (by omega)] at hV
          rw [hm_u0] at hV
          have hV : hm_V E.1 vwCl (hm_A M sz) s.heap (hm_up M la (hm_I E n (fun t => nI (if j ≤ t ∧ t < k then z.natAbs / q / 33554432 ^ t % 33554432 else d t)))) H locs := hV
          refine lv_lload hx hb dX2_divideBy_50 (lv_at hl 0 rfl) ?_
          refine lv_iload_n hx hb dX2_divideBy_52 rfl (lv_at hl 2 rfl) ?_
          refine lv_i2l hx hb dX2_divideBy_53 rfl ?_
          refine hm_topl (show ((nI q).toInt64) = lN q from nI_l (by omega)) ?_
          refine lv_lrem hx hb dX2_divideBy_54 (fun r => absurd ((pk_lEQ (by omega) (by omega)).mp (show lN q = lN 0 from r)) (by omega)) ?_
          refine hm_topl (show ((lN (z.natAbs / 33554432 ^ (j + 1) % q * 33554432 + d j)) - (lN (z.natAbs / 33554432 ^ (j + 1) % q * 33554432 + d j)) / (lN q) * (lN q)) = lN (z.natAbs / 33554432 ^ j % q) from (pk_lRem hpb hq0 (by omega)).trans (congrArg lN hst.2)) ?_
          refine lv_lstore_n (lv' := [(2, .long (lN (z.natAbs / 33554432 ^ j % q))), (5, .long (lN (z.natAbs / 33554432 ^ (j + 1) % q * 33554432 + d j))), (0, .ref w), (1, .int (nI q)), (4, .int (nI j))]) hx hb dX2_divideBy_55 rfl hl (by decide) rfl (fun ls hl => ?_)
          refine lv_iinc (v := (nP j)) (lv' := [(4, .int (nP j)), (2, .long (lN (z.natAbs / 33554432 ^ j % q))), (5, .long (lN (z.natAbs / 33554432 ^ (j + 1) % q * 33554432 + d j))), (0, .ref w), (1, .int (nI q))]) hx hb dX2_divideBy_56 hl (k := 4) rfl (nP_dec j) (by decide) rfl (fun ls hl => ?_)
          refine lv_goto (tgt := 17) hx hb dX2_divideBy_59 (by decide) ?_
          exact ih_loop j (by omega) (by omega) ls H locs (lv_sub hl [3, 4, 1, 0] rfl) hV
    rw [show 0 = lN (z.natAbs / 33554432 ^ k % q) from (show (0 : Int64) = _ from by rw [Nat.div_eq_of_lt hVk, Nat.zero_mod]; rfl)] at hl
    have hl : lv_has ls 7 [(4, .int (nP k)), (2, .long (lN (z.natAbs / 33554432 ^ k % q))), (0, .ref w), (1, .int (nI q))] := hl
    exact loop (k + 1) k (Nat.le_refl k) (by omega) ls s.heap [] (lv_sub hl [2, 3, 1, 0] rfl) hV
  · exact absurd (nI_le (a := 1) hq0 (by omega)) c2
