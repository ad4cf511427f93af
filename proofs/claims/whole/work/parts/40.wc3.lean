abbrev wd_X0_init : List Cond := .code yX0_init cX0_init 1 none :: hm_ws
abbrev rm_X0_init : Room := { frames := 1, cells := 2, slots := 132, locals := 12 }

set_option maxHeartbeats 4000000 in
set_option maxRecDepth 100000 in
/-- Divider() -/
theorem c_X0_init (l : Launch) (E : hm_E) {M : hm_M} {w : Nat} (hw : M w = some (.inr (2, [.null, .null]))) : hm_Cv l E yX0_init wd_X0_init rm_X0_init [.ref w] M (fun M1 => ∃ r v, M r = none ∧ M v = none ∧ hm_ap v r ∧ M1 = hm_up (hm_up (hm_up M w (.inr (2, [.ref r, .ref v]))) r (hm_I E 66 (fun j => nI ((fun _ => 0) j)))) v (hm_I E 66 (fun j => nI ((fun _ => 0) j)))) := by
  intro sz
  refine Met.ofW (cc := cX0_init) (maxL := 1) (ret := none) (by decide) rfl ?_
  intro p e s m args below meth c s₁ B hml hv
  obtain ⟨rfl, hAe, hA, hK, hV⟩ := hm_start hv
  have hx := B.exec
  have hb := B.bytes
  have hr := B.returns
  have hts := atoms_spec (ws := wd_X0_init) B.pre
  have hws : ∀ w ∈ hm_ws, w.before _ s = true := fun w h => hts w (List.mem_cons_of_mem _ h)
  have hown : s.vm.findClass RX0 = some m.cls := findClass_of_methodNamed B.named
  have hlocks := B.notSynchronized
  have hin : meth.name = "<init>" := (name_of_methodNamed B.named B.method).1
  have fl9 := hws _ kw_95
  have fl15 := hws _ kw_96
  have hl := lv_entry ([.ref w]) (n := 1) (Nat.le_of_ble_eq_true rfl)
  rw [lg_entry_eq]
  generalize (lg_sl ([.ref w]) ++ List.replicate (1 - (lg_sl ([.ref w])).length) Slot.unset).toArray = ls at hl ⊢
  have hl : lv_has ls 1 [(0, .ref w)] := hl
  refine hm_gen (rm := rm_X0_init) rfl (fun Qf hQf => ?_)
  refine lv_aload_n hx hb dX0_init_0 rfl (lv_at hl 0 rfl) ?_
  refine W.objInit hx hb hown (hws _ kw_94) (hws _ kw_57) (hws _ kw_58) rfl (by rw [hml]; exact hl.1) rfl dX0_init_1 (Nat.le_of_ble_eq_true rfl) (Nat.le_of_ble_eq_true rfl) ?_
  refine W.eq (g2 := F0 m 4 ls []) rfl ?_
  have hV : hm_V E.1 vwCl (hm_A M sz) s.heap (hm_up M w (.inr (2, [.null, .null]))) s.heap [] := by rw [hm_up_id (hw)]; exact hV
  refine lv_aload_n hx hb dX0_init_4 rfl (lv_at hl 0 rfl) ?_
  refine lv_bipush (v := 66) hx hb dX0_init_5 (by decide) ?_
  refine hm_newa (atype := .int) (ty := .int) (a0 := (66, .inl (fun j => nI ((fun _ => 0) j)))) (N' := 66) hx hb (hws _ kw_88) rfl hK.1 hV hA 0 rfl (fun _ => rfl) (by decide) (by decide) (by decide) (Nat.le_of_ble_eq_true rfl) (Nat.le_of_ble_eq_true rfl) dX0_init_7 (fun qr H hf_qr hV => ?_)
  obtain ⟨locs, hlocs⟩ : ∃ L : List Loc, L = [] := ⟨_, rfl⟩
  rw [← hlocs] at hV ⊢
  have h_w_qr : hm_ap w qr := hm_nn (hm_up_self _ _ _) hf_qr
  have hV : hm_V E.1 vwCl (hm_A M sz) s.heap (hm_up (hm_up M w (.inr (2, [.null, .null]))) qr (hm_I E 66 (fun j => nI ((fun _ => 0) j)))) H locs := hV
  refine W.widen (k := 1) (n := 66) (Nat.le_of_ble_eq_true rfl) (Nat.le_of_ble_eq_true rfl) ?_
  refine hm_putF (ci := 2) (v := .ref qr) (ty := (tyX0 0)) (C := RX0) (T := TX0) (N := 2) hx hb hws kin_X0 tyX0 tyX0_ok nmX0 hown hK.1 hV ((hm_up_ne _ _ h_w_qr).trans (hm_up_self _ _ _)) rfl 0 (by decide) fl9 (fun _ h9 => h9) rfl hin rfl (by decide +kernel) rfl rfl (Nat.le_of_ble_eq_true rfl) dX0_init_9 (fun H locs hV => ?_)
  rw [hm_u1 (Ne.symm h_w_qr)] at hV
  have hV : hm_V E.1 vwCl (hm_A M sz) s.heap (hm_up (hm_up M w (.inr (2, [.ref qr, .null]))) qr (hm_I E 66 (fun j => nI ((fun _ => 0) j)))) H locs := hV
  refine lv_aload_n hx hb dX0_init_12 rfl (lv_at hl 0 rfl) ?_
  refine lv_bipush (v := 66) hx hb dX0_init_13 (by decide) ?_
  refine hm_newa (atype := .int) (ty := .int) (a0 := (66, .inl (fun j => nI ((fun _ => 0) j)))) (N' := 66) hx hb (hws _ kw_88) rfl hK.1 hV hA 0 rfl (fun _ => rfl) (by decide) (by decide) (by decide) (Nat.le_of_ble_eq_true rfl) (Nat.le_of_ble_eq_true rfl) dX0_init_15 (fun qv H hf_qv hV => ?_)
  have h_w_qv : hm_ap w qv := hm_nn ((hm_up_ne _ _ h_w_qr).trans (hm_up_self _ _ _)) hf_qv
  have h_qr_qv : hm_ap qr qv := hm_nn (hm_up_self _ _ _) hf_qv
  have hV : hm_V E.1 vwCl (hm_A M sz) s.heap (hm_up (hm_up (hm_up M w (.inr (2, [.ref qr, .null]))) qr (hm_I E 66 (fun j => nI ((fun _ => 0) j)))) qv (hm_I E 66 (fun j => nI ((fun _ => 0) j)))) H locs := hV
  refine W.widen (k := 2) (n := 132) (Nat.le_of_ble_eq_true rfl) (Nat.le_of_ble_eq_true rfl) ?_
  refine hm_putF (ci := 2) (v := .ref qv) (ty := (tyX0 1)) (C := RX0) (T := TX0) (N := 2) hx hb hws kin_X0 tyX0 tyX0_ok nmX0 hown hK.1 hV ((hm_up_ne _ _ h_w_qv).trans ((hm_up_ne _ _ h_w_qr).trans (hm_up_self _ _ _))) rfl 1 (by decide) fl15 (fun _ h9 => h9) rfl hin rfl (by decide +kernel) rfl rfl (Nat.le_of_ble_eq_true rfl) dX0_init_17 (fun H locs hV => ?_)
  rw [hm_u2 (Ne.symm h_w_qr) (Ne.symm h_w_qv)] at hV
  have hV : hm_V E.1 vwCl (hm_A M sz) s.heap (hm_up (hm_up (hm_up M w (.inr (2, [.ref qr, .ref qv]))) qr (hm_I E 66 (fun j => nI ((fun _ => 0) j)))) qv (hm_I E 66 (fun j => nI ((fun _ => 0) j)))) H locs := hV
  have hMr : M qr = none := by
    have h9 := hf_qr
    rw [hm_up_ne _ _ (Ne.symm h_w_qr)] at h9
    exact h9
  have hMv : M qv = none := by
    have h9 := hf_qv
    rw [hm_up_ne _ _ (Ne.symm h_qr_qv), hm_up_ne _ _ (Ne.symm h_w_qv)] at h9
    exact h9
  rw [hQf]
  exact W.vret hx hb hr (fun t9 ht hW => ⟨⟨(hm_up (hm_up (hm_up M w (.inr (2, [.ref qr, .ref qv]))) qr (hm_I E 66 (fun j => nI ((fun _ => 0) j)))) qv (hm_I E 66 (fun j => nI ((fun _ => 0) j)))), rfl, ⟨qr, qv, hMr, hMv, Ne.symm h_qr_qv, rfl⟩, (hm_end hV ht).1⟩, (hm_end hV ht).2⟩) hV.2.2.2.2 dX0_init_20

abbrev wd_X1_init : List Cond := .code yX1_init cX1_init 3 none :: hm_ws
abbrev rm_X1_init : Room := { frames := 3, cells := 293, slots := 5608, locals := 61 }

set_option maxHeartbeats 4000000 in
set_option maxRecDepth 100000 in
/-- Elimination(divider) -/
theorem c_X1_init (l : Launch) (E : hm_E) {M : hm_M} {w dv : Nat} (hw : M w = some (.inr (3, [.null, .null, .null, .null]))) : hm_XCv l E yX1_init wd_X1_init rm_X1_init [.ref w, .ref dv] M (fun M1 => ∃ ca ad rw, el_new E M M1 w ca dv ad rw 144) := by
  intro sz
  refine Met.ofW (cc := cX1_init) (maxL := 3) (ret := none) (by decide) rfl ?_
  intro p e s m args below meth c s₁ B hml hv
  obtain ⟨rfl, hAe, hA, hK, hV, hY⟩ := hm_startX hv
  have hx := B.exec
  have hb := B.bytes
  have hr := B.returns
  have hts := atoms_spec (ws := wd_X1_init) B.pre
  have hws : ∀ w ∈ hm_ws, w.before _ s = true := fun w h => hts w (List.mem_cons_of_mem _ h)
  have hown : s.vm.findClass RX1 = some m.cls := findClass_of_methodNamed B.named
  have hlocks := B.notSynchronized
  have hin : meth.name = "<init>" := (name_of_methodNamed B.named B.method).1
  have fl11 := hws _ kw_193
  have fl20 := hws _ kw_194
  have fl24 := hws _ kw_195
  have fl27 := hws _ kw_196
  have hl := lv_entry ([.ref w, .ref dv]) (n := 3) (Nat.le_of_ble_eq_true rfl)
  rw [lg_entry_eq]
  generalize (lg_sl ([.ref w, .ref dv]) ++ List.replicate (3 - (lg_sl ([.ref w, .ref dv])).length) Slot.unset).toArray = ls at hl ⊢
  have hl : lv_has ls 3 [(0, .ref w), (1, .ref dv)] := hl
  refine hm_gen (rm := rm_X1_init) rfl (fun Qf hQf => ?_)
  refine lv_aload_n hx hb dX1_init_0 rfl (lv_at hl 0 rfl) ?_
  refine W.objInit hx hb hown (hws _ kw_190) (hws _ kw_57) (hws _ kw_58) rfl (by rw [hml]; exact hl.1) rfl dX1_init_1 (Nat.le_of_ble_eq_true rfl) (Nat.le_of_ble_eq_true rfl) ?_
  refine W.eq (g2 := F0 m 4 ls []) rfl ?_
  have hV : hm_V E.1 vwCl (hm_A M sz) s.heap (hm_up M w (.inr (3, [.null, .null, .null, .null]))) s.heap [] := by rw [hm_up_id (hw)]; exact hV
  refine lv_aload_n hx hb dX1_init_4 rfl (lv_at hl 0 rfl) ?_
  refine lv_sipush (v := 144) hx hb dX1_init_5 (by decide) ?_
  refine hm_newq (N' := 144) hx hb hown (hws _ kw_191) hY.1.1 hK.1 hV hA 3 rfl (by decide) (by decide) (by decide) (Nat.le_of_ble_eq_true rfl) (Nat.le_of_ble_eq_true rfl) dX1_init_8 (fun ca H hf_ca hV => ?_)
  obtain ⟨locs, hlocs⟩ : ∃ L : List Loc, L = [] := ⟨_, rfl⟩
  rw [← hlocs] at hV ⊢
  have h_w_ca : hm_ap w ca := hm_nn (hm_up_self _ _ _) hf_ca
  have hV : hm_V E.1 vwCl (hm_A M sz) s.heap (hm_up (hm_up M w (.inr (3, [.null, .null, .null, .null]))) ca (hm_Q E 144 (fun _ => none))) H locs := hV
  refine W.widen (k := 1) (n := 144) (Nat.le_of_ble_eq_true rfl) (Nat.le_of_ble_eq_true rfl) ?_
  refine hm_putF (ci := 3) (v := .ref ca) (ty := (tyX1 0)) (C := RX1) (T := TX1) (N := 4) hx hb hws kin_X1 tyX1 tyX1_ok nmX1 hown hK.1 hV ((hm_up_ne _ _ h_w_ca).trans (hm_up_self _ _ _)) rfl 0 (by decide) fl11 (fun _ h9 => h9) rfl hin rfl (by decide +kernel) rfl rfl (Nat.le_of_ble_eq_true rfl) dX1_init_11 (fun H locs hV => ?_)
  rw [hm_u1 (Ne.symm h_w_ca)] at hV
  have hV : hm_V E.1 vwCl (hm_A M sz) s.heap (hm_up (hm_up M w (.inr (3, [.ref ca, .null, .null, .null]))) ca (hm_Q E 144 (fun _ => none))) H locs := hV
  refine lv_aload_n hx hb dX1_init_14 rfl (lv_at hl 0 rfl) ?_
  refine hm_new (ci := 4) (fs := [.null, .int 0, .int 0]) (C := RX2) (T := TX2) (N := 3) hx hb hws kin_X2 tyX2 tyX2_ok hown (hws _ kw_191) (hws _ kw_63) (hws _ kw_38) hK.1 hV hA rfl (fun j hj => by rcases (show j = 0 ∨ j = 1 ∨ j = 2 by omega) with rfl | rfl | rfl <;> rfl) (Nat.le_of_ble_eq_true rfl) (Nat.le_of_ble_eq_true rfl) dX1_init_15 (fun q1 H hf_q1 hV => ?_)
  have h_w_q1 : hm_ap w q1 := hm_nn ((hm_up_ne _ _ h_w_ca).trans (hm_up_self _ _ _)) hf_q1
  have h_ca_q1 : hm_ap ca q1 := hm_nn (hm_up_self _ _ _) hf_q1
  have hV : hm_V E.1 vwCl (hm_A M sz) s.heap (hm_up (hm_up (hm_up M w (.inr (3, [.ref ca, .null, .null, .null]))) ca (hm_Q E 144 (fun _ => none))) q1 (.inr (4, [.null, .int 0, .int 0]))) H locs := hV
  refine W.widen (k := 2) (n := 147) (Nat.le_of_ble_eq_true rfl) (Nat.le_of_ble_eq_true rfl) ?_
  refine lv_dup hx hb dX1_init_18 rfl ?_
  refine lv_bipush (v := 65) hx hb dX1_init_19 (by decide) ?_
  refine hm_callv (va_runI (As := [.int 65]) (rest := [.ref q1, .ref w]) ⟨hx, hb, hml, hown, hts⟩ (c_X2_init l E (r := 65) (hm_up_self _ _ _) (by omega) H.size) (cwI 1 hts (hm_gI kw_66) rfl rfl rfl (hws _ kw_38) (hws _ kw_192) (hws _ kw_65) rfl (by decide +kernel) ⟨Nat.le_of_ble_eq_true rfl, Nat.le_of_ble_eq_true rfl⟩) (hm_preS hK hV) rfl rfl hl.1 rfl (lv_room (Nat.le_of_ble_eq_true rfl)) dX1_init_21 ⟨Nat.le_of_ble_eq_true rfl, Nat.le_of_ble_eq_true rfl⟩) hV hA (fun M1 H locs hp hV => ?_)
  obtain ⟨l1, hf_l1, hM1⟩ := hp
  subst hM1
  have h_w_l1 : hm_ap w l1 := hm_nn ((hm_up_ne _ _ h_w_q1).trans ((hm_up_ne _ _ h_w_ca).trans (hm_up_self _ _ _))) hf_l1
  have h_ca_l1 : hm_ap ca l1 := hm_nn ((hm_up_ne _ _ h_ca_q1).trans (hm_up_self _ _ _)) hf_l1
  have h_q1_l1 : hm_ap q1 l1 := hm_nn (hm_up_self _ _ _) hf_l1
  rw [hm_u1 (Ne.symm h_q1_l1)] at hV
  have hV : hm_V E.1 vwCl (hm_A M sz) s.heap (hm_up (hm_up (hm_up (hm_up M w (.inr (3, [.ref ca, .null, .null, .null]))) ca (hm_Q E 144 (fun _ => none))) q1 (.inr (4, [.ref l1, .int (nI 0), .int 0]))) l1 (hm_I E 65 (fun j => nI ((fun _ => 0) j)))) H locs := hV
  refine W.widen (k := 3) (n := 212) (Nat.le_of_ble_eq_true rfl) (Nat.le_of_ble_eq_true rfl) ?_
  refine hm_putF (ci := 3) (v := .ref q1) (ty := (tyX1 1)) (C := RX1) (T := TX1) (N := 4) hx hb hws kin_X1 tyX1 tyX1_ok nmX1 hown hK.1 hV ((hm_up_ne _ _ h_w_l1).trans ((hm_up_ne _ _ h_w_q1).trans ((hm_up_ne _ _ h_w_ca).trans (hm_up_self _ _ _)))) rfl 1 (by decide) fl20 (fun _ h9 => h9) rfl hin rfl (by decide +kernel) rfl rfl (Nat.le_of_ble_eq_true rfl) dX1_init_24 (fun H locs hV => ?_)
  rw [hm_u3 (Ne.symm h_w_ca) (Ne.symm h_w_q1) (Ne.symm h_w_l1)] at hV
  have hV : hm_V E.1 vwCl (hm_A M sz) s.heap (hm_up (hm_up (hm_up (hm_up M w (.inr (3, [.ref ca, .ref q1, .null, .null]))) ca (hm_Q E 144 (fun _ => none))) q1 (.inr (4, [.ref l1, .int (nI 0), .int 0]))) l1 (hm_I E 65 (fun j => nI ((fun _ => 0) j)))) H locs := hV
  refine lv_aload_n hx hb dX1_init_27 rfl (lv_at hl 0 rfl) ?_
  refine hm_new (ci := 4) (fs := [.null, .int 0, .int 0]) (C := RX2) (T := TX2) (N := 3) hx hb hws kin_X2 tyX2 tyX2_ok hown (hws _ kw_191) (hws _ kw_63) (hws _ kw_38) hK.1 hV hA rfl (fun j hj => by rcases (show j = 0 ∨ j = 1 ∨ j = 2 by omega) with rfl | rfl | rfl <;> rfl) (Nat.le_of_ble_eq_true rfl) (Nat.le_of_ble_eq_true rfl) dX1_init_28 (fun q2 H hf_q2 hV => ?_)
  have h_w_q2 : hm_ap w q2 := hm_nn ((hm_up_ne _ _ h_w_l1).trans ((hm_up_ne _ _ h_w_q1).trans ((hm_up_ne _ _ h_w_ca).trans (hm_up_self _ _ _)))) hf_q2
  have h_ca_q2 : hm_ap ca q2 := hm_nn ((hm_up_ne _ _ h_ca_l1).trans ((hm_up_ne _ _ h_ca_q1).trans (hm_up_self _ _ _))) hf_q2
  have h_q1_q2 : hm_ap q1 q2 := hm_nn ((hm_up_ne _ _ h_q1_l1).trans (hm_up_self _ _ _)) hf_q2
  have h_l1_q2 : hm_ap l1 q2 := hm_nn (hm_up_self _ _ _) hf_q2
  have hV : hm_V E.1 vwCl (hm_A M sz) s.heap (hm_up (hm_up (hm_up (hm_up (hm_up M w (.inr (3, [.ref ca, .ref q1, .null, .null]))) ca (hm_Q E 144 (fun _ => none))) q1 (.inr (4, [.ref l1, .int (nI 0), .int 0]))) l1 (hm_I E 65 (fun j => nI ((fun _ => 0) j)))) q2 (.inr (4, [.null, .int 0, .int 0]))) H locs := hV
  refine W.widen (k := 4) (n := 215) (Nat.le_of_ble_eq_true rfl) (Nat.le_of_ble_eq_true rfl) ?_
  refine lv_dup hx hb dX1_init_31 rfl ?_
  refine lv_bipush (v := 65) hx hb dX1_init_32 (by decide) ?_
  refine hm_callv (va_runI (As := [.int 65]) (rest := [.ref q2, .ref w]) ⟨hx, hb, hml, hown, hts⟩ (c_X2_init l E (r := 65) (hm_up_self _ _ _) (by omega) H.size) (cwI 1 hts (hm_gI kw_66) rfl rfl rfl (hws _ kw_38) (hws _ kw_192) (hws _ kw_65) rfl (by decide +kernel) ⟨Nat.le_of_ble_eq_true rfl, Nat.le_of_ble_eq_true rfl⟩) (hm_preS hK hV) rfl rfl hl.1 rfl (lv_room (Nat.le_of_ble_eq_true rfl)) dX1_init_34 ⟨Nat.le_of_ble_eq_true rfl, Nat.le_of_ble_eq_true rfl⟩) hV hA (fun M1 H locs hp hV => ?_)
  obtain ⟨l2, hf_l2, hM1⟩ := hp
  subst hM1
  have h_w_l2 : hm_ap w l2 := hm_nn ((hm_up_ne _ _ h_w_q2).trans ((hm_up_ne _ _ h_w_l1).trans ((hm_up_ne _ _ h_w_q1).trans ((hm_up_ne _ _ h_w_ca).trans (hm_up_self _ _ _))))) hf_l2
  have h_ca_l2 : hm_ap ca l2 := hm_nn ((hm_up_ne _ _ h_ca_q2).trans ((hm_up_ne _ _ h_ca_l1).trans ((hm_up_ne _ _ h_ca_q1).trans (hm_up_self _ _ _)))) hf_l2
  have h_q1_l2 : hm_ap q1 l2 := hm_nn ((hm_up_ne _ _ h_q1_q2).trans ((hm_up_ne _ _ h_q1_l1).trans (hm_up_self _ _ _))) hf_l2
  have h_l1_l2 : hm_ap l1 l2 := hm_nn ((hm_up_ne _ _ h_l1_q2).trans (hm_up_self _ _ _)) hf_l2
  have h_q2_l2 : hm_ap q2 l2 := hm_nn (hm_up_self _ _ _) hf_l2
  rw [hm_u1 (Ne.symm h_q2_l2)] at hV
  have hV : hm_V E.1 vwCl (hm_A M sz) s.heap (hm_up (hm_up (hm_up (hm_up (hm_up (hm_up M w (.inr (3, [.ref ca, .ref q1, .null, .null]))) ca (hm_Q E 144 (fun _ => none))) q1 (.inr (4, [.ref l1, .int (nI 0), .int 0]))) l1 (hm_I E 65 (fun j => nI ((fun _ => 0) j)))) q2 (.inr (4, [.ref l2, .int (nI 0), .int 0]))) l2 (hm_I E 65 (fun j => nI ((fun _ => 0) j)))) H locs := hV
  refine W.widen (k := 5) (n := 280) (Nat.le_of_ble_eq_true rfl) (Nat.le_of_ble_eq_true rfl) ?_
  refine hm_putF (ci := 3) (v := .ref q2) (ty := (tyX1 2)) (C := RX1) (T := TX1) (N := 4) hx hb hws kin_X1 tyX1 tyX1_ok nmX1 hown hK.1 hV ((hm_up_ne _ _ h_w_l2).trans ((hm_up_ne _ _ h_w_q2).trans ((hm_up_ne _ _ h_w_l1).trans ((hm_up_ne _ _ h_w_q1).trans ((hm_up_ne _ _ h_w_ca).trans (hm_up_self _ _ _)))))) rfl 2 (by decide) fl24 (fun _ h9 => h9) rfl hin rfl (by decide +kernel) rfl rfl (Nat.le_of_ble_eq_true rfl) dX1_init_37 (fun H locs hV => ?_)
  rw [hm_u5 (Ne.symm h_w_ca) (Ne.symm h_w_q1) (Ne.symm h_w_l1) (Ne.symm h_w_q2) (Ne.symm h_w_l2)] at hV
  have hV : hm_V E.1 vwCl (hm_A M sz) s.heap (hm_up (hm_up (hm_up (hm_up (hm_up (hm_up M w (.inr (3, [.ref ca, .ref q1, .ref q2, .null]))) ca (hm_Q E 144 (fun _ => none))) q1 (.inr (4, [.ref l1, .int (nI 0), .int 0]))) l1 (hm_I E 65 (fun j => nI ((fun _ => 0) j)))) q2 (.inr (4, [.ref l2, .int (nI 0), .int 0]))) l2 (hm_I E 65 (fun j => nI ((fun _ => 0) j)))) H locs := hV
  refine lv_aload_n hx hb dX1_init_40 rfl (lv_at hl 0 rfl) ?_
  refine lv_aload_n hx hb dX1_init_41 rfl (lv_at hl 1 rfl) ?_
  refine hm_putF (ci := 3) (v := .ref dv) (ty := (tyX1 3)) (C := RX1) (T := TX1) (N := 4) hx hb hws kin_X1 tyX1 tyX1_ok nmX1 hown hK.1 hV ((hm_up_ne _ _ h_w_l2).trans ((hm_up_ne _ _ h_w_q2).trans ((hm_up_ne _ _ h_w_l1).trans ((hm_up_ne _ _ h_w_q1).trans ((hm_up_ne _ _ h_w_ca).trans (hm_up_self _ _ _)))))) rfl 3 (by decide) fl27 (fun _ h9 => h9) rfl hin rfl (by decide +kernel) rfl rfl (Nat.le_of_ble_eq_true rfl) dX1_init_42 (fun H locs hV => ?_)
  rw [hm_u5 (Ne.symm h_w_ca) (Ne.symm h_w_q1) (Ne.symm h_w_l1) (Ne.symm h_w_q2) (Ne.symm h_w_l2)] at hV
  have hV : hm_V E.1 vwCl (hm_A M sz) s.heap (hm_up (hm_up (hm_up (hm_up (hm_up (hm_up M w (.inr (3, [.ref ca, .ref q1, .ref q2, .ref dv]))) ca (hm_Q E 144 (fun _ => none))) q1 (.inr (4, [.ref l1, .int (nI 0), .int 0]))) l1 (hm_I E 65 (fun j => nI ((fun _ => 0) j)))) q2 (.inr (4, [.ref l2, .int (nI 0), .int 0]))) l2 (hm_I E 65 (fun j => nI ((fun _ => 0) j)))) H locs := hV
  refine lv_iconst (v := 0) hx hb dX1_init_45 (by decide) ?_
  refine lv_istore_n (lv' := [(2, .int 0), (0, .ref w), (1, .ref dv)]) hx hb dX1_init_46 rfl hl (by decide) rfl (fun ls hl => ?_)
  have hM_ca : M ca = none := by
    have h9 := hf_ca
    rw [hm_up_ne _ _ (Ne.symm h_w_ca)] at h9
    exact h9
  have hM_q1 : M q1 = none := by
    have h9 := hf_q1
    rw [hm_up_ne _ _ (Ne.symm h_ca_q1), hm_up_ne _ _ (Ne.symm h_w_q1)] at h9
    exact h9
  have hM_l1 : M l1 = none := by
    have h9 := hf_l1
    rw [hm_up_ne _ _ (Ne.symm h_q1_l1), hm_up_ne _ _ (Ne.symm h_ca_l1), hm_up_ne _ _ (Ne.symm h_w_l1)] at h9
    exact h9
  have hM_q2 : M q2 = none := by
    have h9 := hf_q2
    rw [hm_up_ne _ _ (Ne.symm h_l1_q2), hm_up_ne _ _ (Ne.symm h_q1_q2), hm_up_ne _ _ (Ne.symm h_ca_q2), hm_up_ne _ _ (Ne.symm h_w_q2)] at h9
    exact h9
  have hM_l2 : M l2 = none := by
    have h9 := hf_l2
    rw [hm_up_ne _ _ (Ne.symm h_q2_l2), hm_up_ne _ _ (Ne.symm h_l1_l2), hm_up_ne _ _ (Ne.symm h_q1_l2), hm_up_ne _ _ (Ne.symm h_ca_l2), hm_up_ne _ _ (Ne.symm h_w_l2)] at h9
    exact h9
  obtain ⟨N0, hN0⟩ : ∃ N9 : hm_M, N9 = hm_up (hm_up (hm_up (hm_up (hm_up (hm_up M w (.inr (3, [.ref ca, .ref q1, .ref q2, .ref dv]))) ca (hm_Q E 144 (fun _ => none))) q1 (.inr (4, [.ref l1, .int (nI 0), .int 0]))) l1 (hm_I E 65 (fun j => nI ((fun _ => 0) j)))) q2 (.inr (4, [.ref l2, .int (nI 0), .int 0]))) l2 (hm_I E 65 (fun j => nI ((fun _ => 0) j))) := ⟨_, rfl⟩
  have hel : el_new E M N0 w ca dv (fun i => if i = 2 then q1 else q2) (fun i => if i = 2 then l1 else l2) 0 := by
    rw [hN0]
    refine ⟨((hm_up_ne _ _ h_w_l2).trans ((hm_up_ne _ _ h_w_q2).trans ((hm_up_ne _ _ h_w_l1).trans ((hm_up_ne _ _ h_w_q1).trans ((hm_up_ne _ _ h_w_ca).trans (hm_up_self _ _ _)))))), ?_, hM_ca, fun j h1 h2 => ?_, fun a b h1 h2 h3 h4 h5 => ?_, fun a x ha hne => ?_⟩
    · rw [show (fun j => if j < 0 then some ((fun i => if i = 2 then q1 else q2) (4 + j)) else none) = (fun _ => (none : Option Nat)) from by funext j; rw [if_neg (Nat.not_lt_zero j)]]
      exact ((hm_up_ne _ _ h_ca_l2).trans ((hm_up_ne _ _ h_ca_q2).trans ((hm_up_ne _ _ h_ca_l1).trans ((hm_up_ne _ _ h_ca_q1).trans (hm_up_self _ _ _)))))
    · rcases (show j = 2 ∨ j = 3 by omega) with e9 | e9
      · subst e9; exact ⟨hM_q1, hM_l1, 65, wn_cp65 (by omega), ((hm_up_ne _ _ h_q1_l2).trans ((hm_up_ne _ _ h_q1_q2).trans ((hm_up_ne _ _ h_q1_l1).trans (hm_up_self _ _ _)))), ((hm_up_ne _ _ h_l1_l2).trans ((hm_up_ne _ _ h_l1_q2).trans (hm_up_self _ _ _)))⟩
      · subst e9; exact ⟨hM_q2, hM_l2, 65, wn_cp65 (by omega), ((hm_up_ne _ _ h_q2_l2).trans (hm_up_self _ _ _)), (hm_up_self _ _ _)⟩
    · rcases (show a = 2 ∧ b = 3 ∨ a = 3 ∧ b = 2 by omega) with ⟨e1, e2⟩ | ⟨e1, e2⟩
      · subst e1; subst e2; exact ⟨h_q1_q2, h_l1_l2⟩
      · subst e1; subst e2; exact ⟨Ne.symm h_q1_q2, Ne.symm h_l1_l2⟩
    · rw [hm_up_ne _ _ (hm_nn ha hM_l2), hm_up_ne _ _ (hm_nn ha hM_q2), hm_up_ne _ _ (hm_nn ha hM_l1), hm_up_ne _ _ (hm_nn ha hM_q1), hm_up_ne _ _ (hm_nn ha hM_ca), hm_up_ne _ _ hne]; exact ha
  rw [← hN0] at hV
  have loop : ∀ (fu : Nat) (N : hm_M) (ad : Nat → Nat) (rw : Nat → Nat) (i : Nat), (i ≤ 144) → (el_new E M N w ca dv ad rw i) → 144 - i < fu → ∀ (ls : Array Slot) (H : Heap) (locs : List Loc), lv_has ls 3 [(0, .ref w), (1, .ref dv), (2, .int (nI i))] → hm_V E.1 vwCl (hm_A M sz) s.heap (N) H locs → W p l e rm_X1_init s m [.ref w, .ref dv].toArray below meth c H locs (5 + 2 * i) (280 + 37 * i) Qf (F0 m 47 ls []) := by
    intro fu
    induction fu with
    | zero => intro N ad rw i hi hel hfu; exact absurd hfu (Nat.not_lt_zero _)
    | succ fu ih_loop =>
      intro N ad rw i hi hel hfu ls H locs hl hV
      refine lv_iload_n hx hb dX1_init_47 rfl (lv_at hl 2 rfl) ?_
      refine lv_aload_n hx hb dX1_init_48 rfl (lv_at hl 0 rfl) ?_
      refine hm_get (ci := 3) (v := .ref ca) (C := RX1) (T := TX1) (N := 4) hx hb hws kin_X1 hown hK.1 hV hel.1 rfl 0 (by decide) fl11 (fun _ h9 => h9) rfl dX1_init_49 ?_
      refine hm_alen (v := nI 144) hx hb hK.1 hV 3 hel.2.1 rfl rfl dX1_init_52 ?_
      refine lv_icmp_ge (tgt := 77) hx hb dX1_init_53 (by decide) (fun c53 => ?_) (fun c53 => ?_)
      · have hi2 : i = 144 := by
          rcases Nat.lt_or_ge i 144 with q | q
          · exact absurd c53 (nI_ge (a := i) (b := 144) q (by omega))
          · omega
        rw [hi2] at hel
        refine W.widen (k := 293) (n := 5608) (by omega) (by omega) ?_
        rw [hQf]
        exact W.vret hx hb hr (fun t9 ht hW => ⟨⟨N, rfl, ⟨ca, ad, rw, hel⟩, (hm_end hV ht).1⟩, (hm_end hV ht).2⟩) hV.2.2.2.2 dX1_init_77
      · have hi2 : i < 144 := by
          rcases Nat.lt_or_ge i 144 with q | q
          · exact q
          · exact absurd (nI_le (a := 144) (b := i) q (by omega)) c53
        refine lv_aload_n hx hb dX1_init_56 rfl (lv_at hl 0 rfl) ?_
        refine hm_get (ci := 3) (v := .ref ca) (C := RX1) (T := TX1) (N := 4) hx hb hws kin_X1 hown hK.1 hV hel.1 rfl 0 (by decide) fl11 (fun _ h9 => h9) rfl dX1_init_57 ?_
        refine lv_iload_n hx hb dX1_init_60 rfl (lv_at hl 2 rfl) ?_
        refine hm_new (ci := 4) (fs := [.null, .int 0, .int 0]) (C := RX2) (T := TX2) (N := 3) hx hb hws kin_X2 tyX2 tyX2_ok hown (hws _ kw_191) (hws _ kw_63) (hws _ kw_38) hK.1 hV hA rfl (fun j hj => by rcases (show j = 0 ∨ j = 1 ∨ j = 2 by omega) with rfl | rfl | rfl <;> rfl) (by show 5 + 2 * i + 1 ≤ 293; omega) (by show 280 + 37 * i + 3 ≤ 5608; omega) dX1_init_61 (fun qn H hf_qn hV => ?_)
        have h_w_qn : hm_ap w qn := hm_nn hel.1 hf_qn
        have h_ca_qn : hm_ap ca qn := hm_nn hel.2.1 hf_qn
        have hV : hm_V E.1 vwCl (hm_A M sz) s.heap (hm_up N qn (.inr (4, [.null, .int 0, .int 0]))) H locs := hV
        refine W.widen (k := (5 + 2 * i + 1)) (n := (280 + 37 * i + 3)) (Nat.le_refl _) (Nat.le_refl _) ?_
        refine lv_dup hx hb dX1_init_64 rfl ?_
        refine lv_bipush (v := 34) hx hb dX1_init_65 (by decide) ?_
        refine hm_callv (va_runI (As := [.int 34]) (rest := [.ref qn, .int (nI i), .ref ca]) ⟨hx, hb, hml, hown, hts⟩ (c_X2_init l E (r := 34) (hm_up_self _ _ _) (by omega) H.size) (cwI 1 hts (hm_gI kw_66) rfl rfl rfl (hws _ kw_38) (hws _ kw_192) (hws _ kw_65) rfl (by decide +kernel) ⟨Nat.le_of_ble_eq_true rfl, Nat.le_of_ble_eq_true rfl⟩) (hm_preS hK hV) rfl rfl hl.1 rfl (lv_room (Nat.le_of_ble_eq_true rfl)) dX1_init_67 ⟨by show 5 + 2 * i + 1 + 1 ≤ 293; omega, by show 280 + 37 * i + 3 + 34 ≤ 5608; omega⟩) hV hA (fun M1 H locs hp hV => ?_)
        obtain ⟨ln, hf_ln, hM1⟩ := hp
        subst hM1
        have h_qn_ln : hm_ap qn ln := hm_nn (hm_up_self _ _ _) hf_ln
        have h_w_ln : hm_ap w ln := hm_nn ((hm_up_ne _ _ h_w_qn).trans hel.1) hf_ln
        have h_ca_ln : hm_ap ca ln := hm_nn ((hm_up_ne _ _ h_ca_qn).trans hel.2.1) hf_ln
        rw [hm_u1 (Ne.symm h_qn_ln)] at hV
        have hV : hm_V E.1 vwCl (hm_A M sz) s.heap (hm_up (hm_up N qn (.inr (4, [.ref ln, .int (nI 0), .int 0]))) ln (hm_I E 34 (fun j => nI ((fun _ => 0) j)))) H locs := hV
        refine W.widen (k := (5 + 2 * (i + 1))) (n := (280 + 37 * (i + 1))) (by show 5 + 2 * i + 1 + 1 ≤ _; omega) (by show 280 + 37 * i + 3 + 34 ≤ _; omega) ?_
        refine hm_astqN hx hb hK.1 hV 3 4 ((hm_up_ne _ _ h_ca_ln).trans ((hm_up_ne _ _ h_ca_qn).trans hel.2.1)) rfl ((hm_up_ne _ _ h_qn_ln).trans (hm_up_self _ _ _)) rfl (k := i) (by omega) (by omega) dX1_init_70 (fun H locs hV => ?_)
        have hV : hm_V E.1 vwCl (hm_A M sz) s.heap (hm_up (hm_up (hm_up N qn (.inr (4, [.ref ln, .int (nI 0), .int 0]))) ln (hm_I E 34 (fun j => nI ((fun _ => 0) j)))) ca (hm_Q E 144 (va_up (fun j => if j < i then some (ad (4 + j)) else none) i (some qn)))) H locs := hV
        have hNln : N ln = none := by
          have h9 := hf_ln
          rw [hm_up_ne _ _ (Ne.symm h_qn_ln)] at h9
          exact h9
        have hel := el_new_go hi2 hel hf_qn hNln (Ne.symm h_qn_ln)
        obtain ⟨N1, hN1⟩ : ∃ N9 : hm_M, N9 = hm_up (hm_up (hm_up N qn (.inr (4, [.ref ln, .int (nI 0), .int 0]))) ln (hm_I E 34 (fun j => nI ((fun _ => 0) j)))) ca (hm_Q E 144 (va_up (fun j => if j < i then some (ad (4 + j)) else none) i (some qn))) := ⟨_, rfl⟩
        rw [← hN1] at hV hel
        refine lv_iinc (v := (nI (i + 1))) (lv' := [(2, .int (nI (i + 1))), (0, .ref w), (1, .ref dv)]) hx hb dX1_init_71 hl (k := 2) rfl (nI_1 i) (by decide) rfl (fun ls hl => ?_)
        refine lv_goto (tgt := 47) hx hb dX1_init_74 (by decide) ?_
        exact ih_loop _ _ _ (i + 1) (by omega) hel (by omega) ls H locs (lv_sub hl [1, 2, 0] rfl) hV
  exact loop 145 _ _ _ 0 (by omega) hel (by omega) ls H locs (lv_sub hl [1, 2, 0] rfl) hV

abbrev wd_X3_init : List Cond := .code yX3_init cX3_init 1 none :: hm_ws
abbrev rm_X3_init : Room := { frames := 3, cells := 21, slots := 586, locals := 61 }

set_option maxHeartbeats 4000000 in
set_option maxRecDepth 100000 in
/-- WideCounts() -/
theorem c_X3_init (l : Launch) (E : hm_E) {M : hm_M} {x : Nat} (hw : M x = some (.inr (5, [.null, .int 0, .null, .null, .null, .null, .null]))) : hm_XCv l E yX3_init wd_X3_init rm_X3_init [.ref x] M (fun M1 => xp E M1 x 0 (fun _ => 0) (fun _ _ => 0)) := by
  intro sz
  refine Met.ofW (cc := cX3_init) (maxL := 1) (ret := none) (by decide) rfl ?_
  intro p e s m args below meth c s₁ B hml hv
  obtain ⟨rfl, hAe, hA, hK, hV, hY⟩ := hm_startX hv
  have hx := B.exec
  have hb := B.bytes
  have hr := B.returns
  have hts := atoms_spec (ws := wd_X3_init) B.pre
  have hws : ∀ w ∈ hm_ws, w.before _ s = true := fun w h => hts w (List.mem_cons_of_mem _ h)
  have hown : s.vm.findClass RX3 = some m.cls := findClass_of_methodNamed B.named
  have hlocks := B.notSynchronized
  have hin : meth.name = "<init>" := (name_of_methodNamed B.named B.method).1
  have fl11 := hws _ kw_102
  have fl15 := hws _ kw_103
  have fl21 := hws _ kw_104
  have fl27 := hws _ kw_105
  have fl31 := hws _ kw_106
  have fl37 := hws _ kw_107
  have fl41 := hws _ kw_108
  have hl := lv_entry ([.ref x]) (n := 1) (Nat.le_of_ble_eq_true rfl)
  rw [lg_entry_eq]
  generalize (lg_sl ([.ref x]) ++ List.replicate (1 - (lg_sl ([.ref x])).length) Slot.unset).toArray = ls at hl ⊢
  have hl : lv_has ls 1 [(0, .ref x)] := hl
  refine hm_gen (rm := rm_X3_init) rfl (fun Qf hQf => ?_)
  refine lv_aload_n hx hb dX3_init_0 rfl (lv_at hl 0 rfl) ?_
  refine W.objInit hx hb hown (hws _ kw_56) (hws _ kw_57) (hws _ kw_58) rfl (by rw [hml]; exact hl.1) rfl dX3_init_1 (Nat.le_of_ble_eq_true rfl) (Nat.le_of_ble_eq_true rfl) ?_
  refine W.eq (g2 := F0 m 4 ls []) rfl ?_
  have hV : hm_V E.1 vwCl (hm_A M sz) s.heap (hm_up M x (.inr (5, [.null, .int 0, .null, .null, .null, .null, .null]))) s.heap [] := by rw [hm_up_id (hw)]; exact hV
  refine lv_aload_n hx hb dX3_init_4 rfl (lv_at hl 0 rfl) ?_
  refine lv_sipush (v := 160) hx hb dX3_init_5 (by decide) ?_
  refine hm_newq (N' := 160) hx hb hown (hws _ kw_59) hY.1.1 hK.1 hV hA 3 rfl (by decide) (by decide) (by decide) (Nat.le_of_ble_eq_true rfl) (Nat.le_of_ble_eq_true rfl) dX3_init_8 (fun nu H hf_nu hV => ?_)
  obtain ⟨locs, hlocs⟩ : ∃ L : List Loc, L = [] := ⟨_, rfl⟩
  rw [← hlocs] at hV ⊢
  have h_x_nu : hm_ap x nu := hm_nn (hm_up_self _ _ _) hf_nu
  have hV : hm_V E.1 vwCl (hm_A M sz) s.heap (hm_up (hm_up M x (.inr (5, [.null, .int 0, .null, .null, .null, .null, .null]))) nu (hm_Q E 160 (fun _ => none))) H locs := hV
  refine W.widen (k := 1) (n := 160) (Nat.le_of_ble_eq_true rfl) (Nat.le_of_ble_eq_true rfl) ?_
  refine hm_putF (ci := 5) (v := .ref nu) (ty := (tyX3 0)) (C := RX3) (T := TX3) (N := 7) hx hb hws kin_X3 tyX3 tyX3_ok nmX3 hown hK.1 hV ((hm_up_ne _ _ h_x_nu).trans (hm_up_self _ _ _)) rfl 0 (by decide) fl11 (fun _ h9 => h9) rfl hin rfl (by decide +kernel) rfl rfl (Nat.le_of_ble_eq_true rfl) dX3_init_11 (fun H locs hV => ?_)
  rw [hm_u1 (Ne.symm h_x_nu)] at hV
  have hV : hm_V E.1 vwCl (hm_A M sz) s.heap (hm_up (hm_up M x (.inr (5, [.ref nu, .int 0, .null, .null, .null, .null, .null]))) nu (hm_Q E 160 (fun _ => none))) H locs := hV
  refine lv_aload_n hx hb dX3_init_14 rfl (lv_at hl 0 rfl) ?_
  refine lv_iconst (v := 0) hx hb dX3_init_15 (by decide) ?_
  refine hm_put (ci := 5) (v := .int 0) (ty := .int) (C := RX3) (T := TX3) (N := 7) hx hb hws kin_X3 tyX3 tyX3_ok nmX3 hown hK.1 hV ((hm_up_ne _ _ h_x_nu).trans (hm_up_self _ _ _)) rfl 1 (by decide) fl15 (fun _ h9 => h9) rfl (by decide +kernel) rfl rfl (Nat.le_of_ble_eq_true rfl) dX3_init_16 (fun H locs hV => ?_)
  rw [hm_u1 (Ne.symm h_x_nu)] at hV
  have hV : hm_V E.1 vwCl (hm_A M sz) s.heap (hm_up (hm_up M x (.inr (5, [.ref nu, .int 0, .null, .null, .null, .null, .null]))) nu (hm_Q E 160 (fun _ => none))) H locs := hV
  refine lv_aload_n hx hb dX3_init_19 rfl (lv_at hl 0 rfl) ?_
  refine lv_bipush (v := 12) hx hb dX3_init_20 (by decide) ?_
  refine lv_bipush (v := 12) hx hb dX3_init_22 (by decide) ?_
  refine hm_mna hx hb hown (hws _ kw_61) hY.1.2 (hws _ kw_87) hK.1 hV hA (Nat.le_of_ble_eq_true rfl) (Nat.le_of_ble_eq_true rfl) dX3_init_24 (fun tb H hno hV => ?_)
  obtain ⟨N1, hN1⟩ : ∃ N9 : hm_M, N9 = hm_mu (hm_up (hm_up M x (.inr (5, [.ref nu, .int 0, .null, .null, .null, .null, .null]))) nu (hm_Q E 160 (fun _ => none))) tb 12 (hm_QJ E 12 (fun j => some (tb + 1 + j))) (hm_J E 12 (fun _ => 0)) := ⟨_, rfl⟩
  have kx : N1 x = some (.inr (5, [.ref nu, .int 0, .null, .null, .null, .null, .null])) := by rw [hN1]; exact hm_mu_o hno ((hm_up_ne _ _ h_x_nu).trans (hm_up_self _ _ _))
  have kn9 : N1 nu = some (hm_Q E 160 (fun _ => none)) := by rw [hN1]; exact hm_mu_o hno (hm_up_self _ _ _)
  have kt : N1 tb = some (hm_QJ E 12 (fun j => some (tb + 1 + j))) := by rw [hN1]; exact hm_mu_q _ _ _ _ _
  have kr : ∀ j, j < 12 → N1 (tb + 1 + j) = some (hm_J E 12 (fun _ => 0)) := fun j hj => by rw [hN1]; exact hm_mu_r _ _ _ _ _ hj
  rw [← hN1] at hV
  refine W.widen (k := 14) (n := 316) (Nat.le_of_ble_eq_true rfl) (Nat.le_of_ble_eq_true rfl) ?_
  have hV : hm_V E.1 vwCl (hm_A M sz) s.heap (hm_up N1 x (.inr (5, [.ref nu, .int 0, .null, .null, .null, .null, .null]))) H locs := by rw [hm_up_id (kx)]; exact hV
  refine hm_putF (ci := 5) (v := .ref tb) (ty := (tyX3 2)) (C := RX3) (T := TX3) (N := 7) hx hb hws kin_X3 tyX3 tyX3_ok nmX3 hown hK.1 hV (hm_up_self _ _ _) rfl 2 (by decide) fl21 (fun _ h9 => h9) rfl hin rfl (by decide +kernel) rfl rfl (Nat.le_of_ble_eq_true rfl) dX3_init_28 (fun H locs hV => ?_)
  rw [hm_u0] at hV
  have hV : hm_V E.1 vwCl (hm_A M sz) s.heap (hm_up N1 x (.inr (5, [.ref nu, .int 0, .ref tb, .null, .null, .null, .null]))) H locs := hV
  refine lv_aload_n hx hb dX3_init_31 rfl (lv_at hl 0 rfl) ?_
  refine hm_new (ci := 4) (fs := [.null, .int 0, .int 0]) (C := RX2) (T := TX2) (N := 3) hx hb hws kin_X2 tyX2 tyX2_ok hown (hws _ kw_59) (hws _ kw_63) (hws _ kw_38) hK.1 hV hA rfl (fun j hj => by rcases (show j = 0 ∨ j = 1 ∨ j = 2 by omega) with rfl | rfl | rfl <;> rfl) (Nat.le_of_ble_eq_true rfl) (Nat.le_of_ble_eq_true rfl) dX3_init_32 (fun w0 H hf_w0 hV => ?_)
  have h_x_w0 : hm_ap x w0 := hm_nn (hm_up_self _ _ _) hf_w0
  have h_nu_w0 : hm_ap nu w0 := hm_nn ((hm_up_ne _ _ (Ne.symm (hm_oa kx kn9))).trans kn9) hf_w0
  have h_tb_w0 : hm_ap tb w0 := hm_nn ((hm_up_ne _ _ (Ne.symm (hm_oa kx kt))).trans kt) hf_w0
  have h_tb_1_0_w0 : hm_ap (tb + 1 + 0) w0 := hm_nn ((hm_up_ne _ _ (Ne.symm (hm_oa kx (kr 0 (by decide))))).trans (kr 0 (by decide))) hf_w0
  have h_tb_1_1_w0 : hm_ap (tb + 1 + 1) w0 := hm_nn ((hm_up_ne _ _ (Ne.symm (hm_oa kx (kr 1 (by decide))))).trans (kr 1 (by decide))) hf_w0
  have h_tb_1_2_w0 : hm_ap (tb + 1 + 2) w0 := hm_nn ((hm_up_ne _ _ (Ne.symm (hm_oa kx (kr 2 (by decide))))).trans (kr 2 (by decide))) hf_w0
  have h_tb_1_3_w0 : hm_ap (tb + 1 + 3) w0 := hm_nn ((hm_up_ne _ _ (Ne.symm (hm_oa kx (kr 3 (by decide))))).trans (kr 3 (by decide))) hf_w0
  have h_tb_1_4_w0 : hm_ap (tb + 1 + 4) w0 := hm_nn ((hm_up_ne _ _ (Ne.symm (hm_oa kx (kr 4 (by decide))))).trans (kr 4 (by decide))) hf_w0
  have h_tb_1_5_w0 : hm_ap (tb + 1 + 5) w0 := hm_nn ((hm_up_ne _ _ (Ne.symm (hm_oa kx (kr 5 (by decide))))).trans (kr 5 (by decide))) hf_w0
  have h_tb_1_6_w0 : hm_ap (tb + 1 + 6) w0 := hm_nn ((hm_up_ne _ _ (Ne.symm (hm_oa kx (kr 6 (by decide))))).trans (kr 6 (by decide))) hf_w0
  have h_tb_1_7_w0 : hm_ap (tb + 1 + 7) w0 := hm_nn ((hm_up_ne _ _ (Ne.symm (hm_oa kx (kr 7 (by decide))))).trans (kr 7 (by decide))) hf_w0
  have h_tb_1_8_w0 : hm_ap (tb + 1 + 8) w0 := hm_nn ((hm_up_ne _ _ (Ne.symm (hm_oa kx (kr 8 (by decide))))).trans (kr 8 (by decide))) hf_w0
  have h_tb_1_9_w0 : hm_ap (tb + 1 + 9) w0 := hm_nn ((hm_up_ne _ _ (Ne.symm (hm_oa kx (kr 9 (by decide))))).trans (kr 9 (by decide))) hf_w0
  have h_tb_1_10_w0 : hm_ap (tb + 1 + 10) w0 := hm_nn ((hm_up_ne _ _ (Ne.symm (hm_oa kx (kr 10 (by decide))))).trans (kr 10 (by decide))) hf_w0
  have h_tb_1_11_w0 : hm_ap (tb + 1 + 11) w0 := hm_nn ((hm_up_ne _ _ (Ne.symm (hm_oa kx (kr 11 (by decide))))).trans (kr 11 (by decide))) hf_w0
  have hV : hm_V E.1 vwCl (hm_A M sz) s.heap (hm_up (hm_up N1 x (.inr (5, [.ref nu, .int 0, .ref tb, .null, .null, .null, .null]))) w0 (.inr (4, [.null, .int 0, .int 0]))) H locs := hV
  refine W.widen (k := 15) (n := 319) (Nat.le_of_ble_eq_true rfl) (Nat.le_of_ble_eq_true rfl) ?_
  refine lv_dup hx hb dX3_init_35 rfl ?_
  refine lv_bipush (v := 65) hx hb dX3_init_36 (by decide) ?_
  refine hm_callv (va_runI (As := [.int 65]) (rest := [.ref w0, .ref x]) ⟨hx, hb, hml, hown, hts⟩ (c_X2_init l E (r := 65) (hm_up_self _ _ _) (by omega) H.size) (cwI 1 hts (hm_gI kw_66) rfl rfl rfl (hws _ kw_38) (hws _ kw_64) (hws _ kw_65) rfl (by decide +kernel) ⟨Nat.le_of_ble_eq_true rfl, Nat.le_of_ble_eq_true rfl⟩) (hm_preS hK hV) rfl rfl hl.1 rfl (lv_room (Nat.le_of_ble_eq_true rfl)) dX3_init_38 ⟨Nat.le_of_ble_eq_true rfl, Nat.le_of_ble_eq_true rfl⟩) hV hA (fun M1 H locs hp hV => ?_)
  obtain ⟨l0, hf_l0, hM1⟩ := hp
  subst hM1
  have h_x_l0 : hm_ap x l0 := hm_nn ((hm_up_ne _ _ h_x_w0).trans (hm_up_self _ _ _)) hf_l0
  have h_w0_l0 : hm_ap w0 l0 := hm_nn (hm_up_self _ _ _) hf_l0
  have h_nu_l0 : hm_ap nu l0 := hm_nn ((hm_up_ne _ _ h_nu_w0).trans ((hm_up_ne _ _ (Ne.symm (hm_oa kx kn9))).trans kn9)) hf_l0
  have h_tb_l0 : hm_ap tb l0 := hm_nn ((hm_up_ne _ _ h_tb_w0).trans ((hm_up_ne _ _ (Ne.symm (hm_oa kx kt))).trans kt)) hf_l0
  have h_tb_1_0_l0 : hm_ap (tb + 1 + 0) l0 := hm_nn ((hm_up_ne _ _ h_tb_1_0_w0).trans ((hm_up_ne _ _ (Ne.symm (hm_oa kx (kr 0 (by decide))))).trans (kr 0 (by decide)))) hf_l0
  have h_tb_1_1_l0 : hm_ap (tb + 1 + 1) l0 := hm_nn ((hm_up_ne _ _ h_tb_1_1_w0).trans ((hm_up_ne _ _ (Ne.symm (hm_oa kx (kr 1 (by decide))))).trans (kr 1 (by decide)))) hf_l0
  have h_tb_1_2_l0 : hm_ap (tb + 1 + 2) l0 := hm_nn ((hm_up_ne _ _ h_tb_1_2_w0).trans ((hm_up_ne _ _ (Ne.symm (hm_oa kx (kr 2 (by decide))))).trans (kr 2 (by decide)))) hf_l0
  have h_tb_1_3_l0 : hm_ap (tb + 1 + 3) l0 := hm_nn ((hm_up_ne _ _ h_tb_1_3_w0).trans ((hm_up_ne _ _ (Ne.symm (hm_oa kx (kr 3 (by decide))))).trans (kr 3 (by decide)))) hf_l0
  have h_tb_1_4_l0 : hm_ap (tb + 1 + 4) l0 := hm_nn ((hm_up_ne _ _ h_tb_1_4_w0).trans ((hm_up_ne _ _ (Ne.symm (hm_oa kx (kr 4 (by decide))))).trans (kr 4 (by decide)))) hf_l0
  have h_tb_1_5_l0 : hm_ap (tb + 1 + 5) l0 := hm_nn ((hm_up_ne _ _ h_tb_1_5_w0).trans ((hm_up_ne _ _ (Ne.symm (hm_oa kx (kr 5 (by decide))))).trans (kr 5 (by decide)))) hf_l0
  have h_tb_1_6_l0 : hm_ap (tb + 1 + 6) l0 := hm_nn ((hm_up_ne _ _ h_tb_1_6_w0).trans ((hm_up_ne _ _ (Ne.symm (hm_oa kx (kr 6 (by decide))))).trans (kr 6 (by decide)))) hf_l0
  have h_tb_1_7_l0 : hm_ap (tb + 1 + 7) l0 := hm_nn ((hm_up_ne _ _ h_tb_1_7_w0).trans ((hm_up_ne _ _ (Ne.symm (hm_oa kx (kr 7 (by decide))))).trans (kr 7 (by decide)))) hf_l0
  have h_tb_1_8_l0 : hm_ap (tb + 1 + 8) l0 := hm_nn ((hm_up_ne _ _ h_tb_1_8_w0).trans ((hm_up_ne _ _ (Ne.symm (hm_oa kx (kr 8 (by decide))))).trans (kr 8 (by decide)))) hf_l0
  have h_tb_1_9_l0 : hm_ap (tb + 1 + 9) l0 := hm_nn ((hm_up_ne _ _ h_tb_1_9_w0).trans ((hm_up_ne _ _ (Ne.symm (hm_oa kx (kr 9 (by decide))))).trans (kr 9 (by decide)))) hf_l0
  have h_tb_1_10_l0 : hm_ap (tb + 1 + 10) l0 := hm_nn ((hm_up_ne _ _ h_tb_1_10_w0).trans ((hm_up_ne _ _ (Ne.symm (hm_oa kx (kr 10 (by decide))))).trans (kr 10 (by decide)))) hf_l0
  have h_tb_1_11_l0 : hm_ap (tb + 1 + 11) l0 := hm_nn ((hm_up_ne _ _ h_tb_1_11_w0).trans ((hm_up_ne _ _ (Ne.symm (hm_oa kx (kr 11 (by decide))))).trans (kr 11 (by decide)))) hf_l0
  rw [hm_u1 (Ne.symm h_w0_l0)] at hV
  have hV : hm_V E.1 vwCl (hm_A M sz) s.heap (hm_up (hm_up (hm_up N1 x (.inr (5, [.ref nu, .int 0, .ref tb, .null, .null, .null, .null]))) w0 (.inr (4, [.ref l0, .int (nI 0), .int 0]))) l0 (hm_I E 65 (fun j => nI ((fun _ => 0) j)))) H locs := hV
  refine W.widen (k := 16) (n := 384) (Nat.le_of_ble_eq_true rfl) (Nat.le_of_ble_eq_true rfl) ?_
  refine hm_putF (ci := 5) (v := .ref w0) (ty := (tyX3 3)) (C := RX3) (T := TX3) (N := 7) hx hb hws kin_X3 tyX3 tyX3_ok nmX3 hown hK.1 hV ((hm_up_ne _ _ h_x_l0).trans ((hm_up_ne _ _ h_x_w0).trans (hm_up_self _ _ _))) rfl 3 (by decide) fl27 (fun _ h9 => h9) rfl hin rfl (by decide +kernel) rfl rfl (Nat.le_of_ble_eq_true rfl) dX3_init_41 (fun H locs hV => ?_)
  rw [hm_u2 (Ne.symm h_x_w0) (Ne.symm h_x_l0)] at hV
  have hV : hm_V E.1 vwCl (hm_A M sz) s.heap (hm_up (hm_up (hm_up N1 x (.inr (5, [.ref nu, .int 0, .ref tb, .ref w0, .null, .null, .null]))) w0 (.inr (4, [.ref l0, .int (nI 0), .int 0]))) l0 (hm_I E 65 (fun j => nI ((fun _ => 0) j)))) H locs := hV
  refine lv_aload_n hx hb dX3_init_44 rfl (lv_at hl 0 rfl) ?_
  refine hm_new (ci := 4) (fs := [.null, .int 0, .int 0]) (C := RX2) (T := TX2) (N := 3) hx hb hws kin_X2 tyX2 tyX2_ok hown (hws _ kw_59) (hws _ kw_63) (hws _ kw_38) hK.1 hV hA rfl (fun j hj => by rcases (show j = 0 ∨ j = 1 ∨ j = 2 by omega) with rfl | rfl | rfl <;> rfl) (Nat.le_of_ble_eq_true rfl) (Nat.le_of_ble_eq_true rfl) dX3_init_45 (fun w1 H hf_w1 hV => ?_)
  have h_x_w1 : hm_ap x w1 := hm_nn ((hm_up_ne _ _ h_x_l0).trans ((hm_up_ne _ _ h_x_w0).trans (hm_up_self _ _ _))) hf_w1
  have h_w0_w1 : hm_ap w0 w1 := hm_nn ((hm_up_ne _ _ h_w0_l0).trans (hm_up_self _ _ _)) hf_w1
  have h_l0_w1 : hm_ap l0 w1 := hm_nn (hm_up_self _ _ _) hf_w1
  have h_nu_w1 : hm_ap nu w1 := hm_nn ((hm_up_ne _ _ h_nu_l0).trans ((hm_up_ne _ _ h_nu_w0).trans ((hm_up_ne _ _ (Ne.symm (hm_oa kx kn9))).trans kn9))) hf_w1
  have h_tb_w1 : hm_ap tb w1 := hm_nn ((hm_up_ne _ _ h_tb_l0).trans ((hm_up_ne _ _ h_tb_w0).trans ((hm_up_ne _ _ (Ne.symm (hm_oa kx kt))).trans kt))) hf_w1
  have h_tb_1_0_w1 : hm_ap (tb + 1 + 0) w1 := hm_nn ((hm_up_ne _ _ h_tb_1_0_l0).trans ((hm_up_ne _ _ h_tb_1_0_w0).trans ((hm_up_ne _ _ (Ne.symm (hm_oa kx (kr 0 (by decide))))).trans (kr 0 (by decide))))) hf_w1
  have h_tb_1_1_w1 : hm_ap (tb + 1 + 1) w1 := hm_nn ((hm_up_ne _ _ h_tb_1_1_l0).trans ((hm_up_ne _ _ h_tb_1_1_w0).trans ((hm_up_ne _ _ (Ne.symm (hm_oa kx (kr 1 (by decide))))).trans (kr 1 (by decide))))) hf_w1
  have h_tb_1_2_w1 : hm_ap (tb + 1 + 2) w1 := hm_nn ((hm_up_ne _ _ h_tb_1_2_l0).trans ((hm_up_ne _ _ h_tb_1_2_w0).trans ((hm_up_ne _ _ (Ne.symm (hm_oa kx (kr 2 (by decide))))).trans (kr 2 (by decide))))) hf_w1
  have h_tb_1_3_w1 : hm_ap (tb + 1 + 3) w1 := hm_nn ((hm_up_ne _ _ h_tb_1_3_l0).trans ((hm_up_ne _ _ h_tb_1_3_w0).trans ((hm_up_ne _ _ (Ne.symm (hm_oa kx (kr 3 (by decide))))).trans (kr 3 (by decide))))) hf_w1
  have h_tb_1_4_w1 : hm_ap (tb + 1 + 4) w1 := hm_nn ((hm_up_ne _ _ h_tb_1_4_l0).trans ((hm_up_ne _ _ h_tb_1_4_w0).trans ((hm_up_ne _ _ (Ne.symm (hm_oa kx (kr 4 (by decide))))).trans (kr 4 (by decide))))) hf_w1
  have h_tb_1_5_w1 : hm_ap (tb + 1 + 5) w1 := hm_nn ((hm_up_ne _ _ h_tb_1_5_l0).trans ((hm_up_ne _ _ h_tb_1_5_w0).trans ((hm_up_ne _ _ (Ne.symm (hm_oa kx (kr 5 (by decide))))).trans (kr 5 (by decide))))) hf_w1
  have h_tb_1_6_w1 : hm_ap (tb + 1 + 6) w1 := hm_nn ((hm_up_ne _ _ h_tb_1_6_l0).trans ((hm_up_ne _ _ h_tb_1_6_w0).trans ((hm_up_ne _ _ (Ne.symm (hm_oa kx (kr 6 (by decide))))).trans (kr 6 (by decide))))) hf_w1
  have h_tb_1_7_w1 : hm_ap (tb + 1 + 7) w1 := hm_nn ((hm_up_ne _ _ h_tb_1_7_l0).trans ((hm_up_ne _ _ h_tb_1_7_w0).trans ((hm_up_ne _ _ (Ne.symm (hm_oa kx (kr 7 (by decide))))).trans (kr 7 (by decide))))) hf_w1
  have h_tb_1_8_w1 : hm_ap (tb + 1 + 8) w1 := hm_nn ((hm_up_ne _ _ h_tb_1_8_l0).trans ((hm_up_ne _ _ h_tb_1_8_w0).trans ((hm_up_ne _ _ (Ne.symm (hm_oa kx (kr 8 (by decide))))).trans (kr 8 (by decide))))) hf_w1
  have h_tb_1_9_w1 : hm_ap (tb + 1 + 9) w1 := hm_nn ((hm_up_ne _ _ h_tb_1_9_l0).trans ((hm_up_ne _ _ h_tb_1_9_w0).trans ((hm_up_ne _ _ (Ne.symm (hm_oa kx (kr 9 (by decide))))).trans (kr 9 (by decide))))) hf_w1
  have h_tb_1_10_w1 : hm_ap (tb + 1 + 10) w1 := hm_nn ((hm_up_ne _ _ h_tb_1_10_l0).trans ((hm_up_ne _ _ h_tb_1_10_w0).trans ((hm_up_ne _ _ (Ne.symm (hm_oa kx (kr 10 (by decide))))).trans (kr 10 (by decide))))) hf_w1
  have h_tb_1_11_w1 : hm_ap (tb + 1 + 11) w1 := hm_nn ((hm_up_ne _ _ h_tb_1_11_l0).trans ((hm_up_ne _ _ h_tb_1_11_w0).trans ((hm_up_ne _ _ (Ne.symm (hm_oa kx (kr 11 (by decide))))).trans (kr 11 (by decide))))) hf_w1
  have hV : hm_V E.1 vwCl (hm_A M sz) s.heap (hm_up (hm_up (hm_up (hm_up N1 x (.inr (5, [.ref nu, .int 0, .ref tb, .ref w0, .null, .null, .null]))) w0 (.inr (4, [.ref l0, .int (nI 0), .int 0]))) l0 (hm_I E 65 (fun j => nI ((fun _ => 0) j)))) w1 (.inr (4, [.null, .int 0, .int 0]))) H locs := hV
  refine W.widen (k := 17) (n := 387) (Nat.le_of_ble_eq_true rfl) (Nat.le_of_ble_eq_true rfl) ?_
  refine lv_dup hx hb dX3_init_48 rfl ?_
  refine lv_bipush (v := 65) hx hb dX3_init_49 (by decide) ?_
  refine hm_callv (va_runI (As := [.int 65]) (rest := [.ref w1, .ref x]) ⟨hx, hb, hml, hown, hts⟩ (c_X2_init l E (r := 65) (hm_up_self _ _ _) (by omega) H.size) (cwI 1 hts (hm_gI kw_66) rfl rfl rfl (hws _ kw_38) (hws _ kw_64) (hws _ kw_65) rfl (by decide +kernel) ⟨Nat.le_of_ble_eq_true rfl, Nat.le_of_ble_eq_true rfl⟩) (hm_preS hK hV) rfl rfl hl.1 rfl (lv_room (Nat.le_of_ble_eq_true rfl)) dX3_init_51 ⟨Nat.le_of_ble_eq_true rfl, Nat.le_of_ble_eq_true rfl⟩) hV hA (fun M1 H locs hp hV => ?_)
  obtain ⟨l1, hf_l1, hM1⟩ := hp
  subst hM1
  have h_x_l1 : hm_ap x l1 := hm_nn ((hm_up_ne _ _ h_x_w1).trans ((hm_up_ne _ _ h_x_l0).trans ((hm_up_ne _ _ h_x_w0).trans (hm_up_self _ _ _)))) hf_l1
  have h_w0_l1 : hm_ap w0 l1 := hm_nn ((hm_up_ne _ _ h_w0_w1).trans ((hm_up_ne _ _ h_w0_l0).trans (hm_up_self _ _ _))) hf_l1
  have h_l0_l1 : hm_ap l0 l1 := hm_nn ((hm_up_ne _ _ h_l0_w1).trans (hm_up_self _ _ _)) hf_l1
  have h_w1_l1 : hm_ap w1 l1 := hm_nn (hm_up_self _ _ _) hf_l1
  have h_nu_l1 : hm_ap nu l1 := hm_nn ((hm_up_ne _ _ h_nu_w1).trans ((hm_up_ne _ _ h_nu_l0).trans ((hm_up_ne _ _ h_nu_w0).trans ((hm_up_ne _ _ (Ne.symm (hm_oa kx kn9))).trans kn9)))) hf_l1
  have h_tb_l1 : hm_ap tb l1 := hm_nn ((hm_up_ne _ _ h_tb_w1).trans ((hm_up_ne _ _ h_tb_l0).trans ((hm_up_ne _ _ h_tb_w0).trans ((hm_up_ne _ _ (Ne.symm (hm_oa kx kt))).trans kt)))) hf_l1
  have h_tb_1_0_l1 : hm_ap (tb + 1 + 0) l1 := hm_nn ((hm_up_ne _ _ h_tb_1_0_w1).trans ((hm_up_ne _ _ h_tb_1_0_l0).trans ((hm_up_ne _ _ h_tb_1_0_w0).trans ((hm_up_ne _ _ (Ne.symm (hm_oa kx (kr 0 (by decide))))).trans (kr 0 (by decide)))))) hf_l1
  have h_tb_1_1_l1 : hm_ap (tb + 1 + 1) l1 := hm_nn ((hm_up_ne _ _ h_tb_1_1_w1).trans ((hm_up_ne _ _ h_tb_1_1_l0).trans ((hm_up_ne _ _ h_tb_1_1_w0).trans ((hm_up_ne _ _ (Ne.symm (hm_oa kx (kr 1 (by decide))))).trans (kr 1 (by decide)))))) hf_l1
  have h_tb_1_2_l1 : hm_ap (tb + 1 + 2) l1 := hm_nn ((hm_up_ne _ _ h_tb_1_2_w1).trans ((hm_up_ne _ _ h_tb_1_2_l0).trans ((hm_up_ne _ _ h_tb_1_2_w0).trans ((hm_up_ne _ _ (Ne.symm (hm_oa kx (kr 2 (by decide))))).trans (kr 2 (by decide)))))) hf_l1
  have h_tb_1_3_l1 : hm_ap (tb + 1 + 3) l1 := hm_nn ((hm_up_ne _ _ h_tb_1_3_w1).trans ((hm_up_ne _ _ h_tb_1_3_l0).trans ((hm_up_ne _ _ h_tb_1_3_w0).trans ((hm_up_ne _ _ (Ne.symm (hm_oa kx (kr 3 (by decide))))).trans (kr 3 (by decide)))))) hf_l1
  have h_tb_1_4_l1 : hm_ap (tb + 1 + 4) l1 := hm_nn ((hm_up_ne _ _ h_tb_1_4_w1).trans ((hm_up_ne _ _ h_tb_1_4_l0).trans ((hm_up_ne _ _ h_tb_1_4_w0).trans ((hm_up_ne _ _ (Ne.symm (hm_oa kx (kr 4 (by decide))))).trans (kr 4 (by decide)))))) hf_l1
  have h_tb_1_5_l1 : hm_ap (tb + 1 + 5) l1 := hm_nn ((hm_up_ne _ _ h_tb_1_5_w1).trans ((hm_up_ne _ _ h_tb_1_5_l0).trans ((hm_up_ne _ _ h_tb_1_5_w0).trans ((hm_up_ne _ _ (Ne.symm (hm_oa kx (kr 5 (by decide))))).trans (kr 5 (by decide)))))) hf_l1
  have h_tb_1_6_l1 : hm_ap (tb + 1 + 6) l1 := hm_nn ((hm_up_ne _ _ h_tb_1_6_w1).trans ((hm_up_ne _ _ h_tb_1_6_l0).trans ((hm_up_ne _ _ h_tb_1_6_w0).trans ((hm_up_ne _ _ (Ne.symm (hm_oa kx (kr 6 (by decide))))).trans (kr 6 (by decide)))))) hf_l1
  have h_tb_1_7_l1 : hm_ap (tb + 1 + 7) l1 := hm_nn ((hm_up_ne _ _ h_tb_1_7_w1).trans ((hm_up_ne _ _ h_tb_1_7_l0).trans ((hm_up_ne _ _ h_tb_1_7_w0).trans ((hm_up_ne _ _ (Ne.symm (hm_oa kx (kr 7 (by decide))))).trans (kr 7 (by decide)))))) hf_l1
  have h_tb_1_8_l1 : hm_ap (tb + 1 + 8) l1 := hm_nn ((hm_up_ne _ _ h_tb_1_8_w1).trans ((hm_up_ne _ _ h_tb_1_8_l0).trans ((hm_up_ne _ _ h_tb_1_8_w0).trans ((hm_up_ne _ _ (Ne.symm (hm_oa kx (kr 8 (by decide))))).trans (kr 8 (by decide)))))) hf_l1
  have h_tb_1_9_l1 : hm_ap (tb + 1 + 9) l1 := hm_nn ((hm_up_ne _ _ h_tb_1_9_w1).trans ((hm_up_ne _ _ h_tb_1_9_l0).trans ((hm_up_ne _ _ h_tb_1_9_w0).trans ((hm_up_ne _ _ (Ne.symm (hm_oa kx (kr 9 (by decide))))).trans (kr 9 (by decide)))))) hf_l1
  have h_tb_1_10_l1 : hm_ap (tb + 1 + 10) l1 := hm_nn ((hm_up_ne _ _ h_tb_1_10_w1).trans ((hm_up_ne _ _ h_tb_1_10_l0).trans ((hm_up_ne _ _ h_tb_1_10_w0).trans ((hm_up_ne _ _ (Ne.symm (hm_oa kx (kr 10 (by decide))))).trans (kr 10 (by decide)))))) hf_l1
  have h_tb_1_11_l1 : hm_ap (tb + 1 + 11) l1 := hm_nn ((hm_up_ne _ _ h_tb_1_11_w1).trans ((hm_up_ne _ _ h_tb_1_11_l0).trans ((hm_up_ne _ _ h_tb_1_11_w0).trans ((hm_up_ne _ _ (Ne.symm (hm_oa kx (kr 11 (by decide))))).trans (kr 11 (by decide)))))) hf_l1
  rw [hm_u1 (Ne.symm h_w1_l1)] at hV
  have hV : hm_V E.1 vwCl (hm_A M sz) s.heap (hm_up (hm_up (hm_up (hm_up (hm_up N1 x (.inr (5, [.ref nu, .int 0, .ref tb, .ref w0, .null, .null, .null]))) w0 (.inr (4, [.ref l0, .int (nI 0), .int 0]))) l0 (hm_I E 65 (fun j => nI ((fun _ => 0) j)))) w1 (.inr (4, [.ref l1, .int (nI 0), .int 0]))) l1 (hm_I E 65 (fun j => nI ((fun _ => 0) j)))) H locs := hV
  refine W.widen (k := 18) (n := 452) (Nat.le_of_ble_eq_true rfl) (Nat.le_of_ble_eq_true rfl) ?_
  refine hm_putF (ci := 5) (v := .ref w1) (ty := (tyX3 4)) (C := RX3) (T := TX3) (N := 7) hx hb hws kin_X3 tyX3 tyX3_ok nmX3 hown hK.1 hV ((hm_up_ne _ _ h_x_l1).trans ((hm_up_ne _ _ h_x_w1).trans ((hm_up_ne _ _ h_x_l0).trans ((hm_up_ne _ _ h_x_w0).trans (hm_up_self _ _ _))))) rfl 4 (by decide) fl31 (fun _ h9 => h9) rfl hin rfl (by decide +kernel) rfl rfl (Nat.le_of_ble_eq_true rfl) dX3_init_54 (fun H locs hV => ?_)
  rw [hm_u4 (Ne.symm h_x_w0) (Ne.symm h_x_l0) (Ne.symm h_x_w1) (Ne.symm h_x_l1)] at hV
  have hV : hm_V E.1 vwCl (hm_A M sz) s.heap (hm_up (hm_up (hm_up (hm_up (hm_up N1 x (.inr (5, [.ref nu, .int 0, .ref tb, .ref w0, .ref w1, .null, .null]))) w0 (.inr (4, [.ref l0, .int (nI 0), .int 0]))) l0 (hm_I E 65 (fun j => nI ((fun _ => 0) j)))) w1 (.inr (4, [.ref l1, .int (nI 0), .int 0]))) l1 (hm_I E 65 (fun j => nI ((fun _ => 0) j)))) H locs := hV
  refine lv_aload_n hx hb dX3_init_57 rfl (lv_at hl 0 rfl) ?_
  refine hm_new (ci := 2) (fs := [.null, .null]) (C := RX0) (T := TX0) (N := 2) hx hb hws kin_X0 tyX0 tyX0_ok hown (hws _ kw_89) (hws _ kw_90) (hws _ kw_40) hK.1 hV hA rfl (fun j hj => by rcases (show j = 0 ∨ j = 1 by omega) with rfl | rfl <;> rfl) (Nat.le_of_ble_eq_true rfl) (Nat.le_of_ble_eq_true rfl) dX3_init_58 (fun dv H hf_dv hV => ?_)
  have h_x_dv : hm_ap x dv := hm_nn ((hm_up_ne _ _ h_x_l1).trans ((hm_up_ne _ _ h_x_w1).trans ((hm_up_ne _ _ h_x_l0).trans ((hm_up_ne _ _ h_x_w0).trans (hm_up_self _ _ _))))) hf_dv
  have h_w0_dv : hm_ap w0 dv := hm_nn ((hm_up_ne _ _ h_w0_l1).trans ((hm_up_ne _ _ h_w0_w1).trans ((hm_up_ne _ _ h_w0_l0).trans (hm_up_self _ _ _)))) hf_dv
  have h_l0_dv : hm_ap l0 dv := hm_nn ((hm_up_ne _ _ h_l0_l1).trans ((hm_up_ne _ _ h_l0_w1).trans (hm_up_self _ _ _))) hf_dv
  have h_w1_dv : hm_ap w1 dv := hm_nn ((hm_up_ne _ _ h_w1_l1).trans (hm_up_self _ _ _)) hf_dv
  have h_l1_dv : hm_ap l1 dv := hm_nn (hm_up_self _ _ _) hf_dv
  have h_nu_dv : hm_ap nu dv := hm_nn ((hm_up_ne _ _ h_nu_l1).trans ((hm_up_ne _ _ h_nu_w1).trans ((hm_up_ne _ _ h_nu_l0).trans ((hm_up_ne _ _ h_nu_w0).trans ((hm_up_ne _ _ (Ne.symm (hm_oa kx kn9))).trans kn9))))) hf_dv
  have h_tb_dv : hm_ap tb dv := hm_nn ((hm_up_ne _ _ h_tb_l1).trans ((hm_up_ne _ _ h_tb_w1).trans ((hm_up_ne _ _ h_tb_l0).trans ((hm_up_ne _ _ h_tb_w0).trans ((hm_up_ne _ _ (Ne.symm (hm_oa kx kt))).trans kt))))) hf_dv
  have h_tb_1_0_dv : hm_ap (tb + 1 + 0) dv := hm_nn ((hm_up_ne _ _ h_tb_1_0_l1).trans ((hm_up_ne _ _ h_tb_1_0_w1).trans ((hm_up_ne _ _ h_tb_1_0_l0).trans ((hm_up_ne _ _ h_tb_1_0_w0).trans ((hm_up_ne _ _ (Ne.symm (hm_oa kx (kr 0 (by decide))))).trans (kr 0 (by decide))))))) hf_dv
  have h_tb_1_1_dv : hm_ap (tb + 1 + 1) dv := hm_nn ((hm_up_ne _ _ h_tb_1_1_l1).trans ((hm_up_ne _ _ h_tb_1_1_w1).trans ((hm_up_ne _ _ h_tb_1_1_l0).trans ((hm_up_ne _ _ h_tb_1_1_w0).trans ((hm_up_ne _ _ (Ne.symm (hm_oa kx (kr 1 (by decide))))).trans (kr 1 (by decide))))))) hf_dv
  have h_tb_1_2_dv : hm_ap (tb + 1 + 2) dv := hm_nn ((hm_up_ne _ _ h_tb_1_2_l1).trans ((hm_up_ne _ _ h_tb_1_2_w1).trans ((hm_up_ne _ _ h_tb_1_2_l0).trans ((hm_up_ne _ _ h_tb_1_2_w0).trans ((hm_up_ne _ _ (Ne.symm (hm_oa kx (kr 2 (by decide))))).trans (kr 2 (by decide))))))) hf_dv
  have h_tb_1_3_dv : hm_ap (tb + 1 + 3) dv := hm_nn ((hm_up_ne _ _ h_tb_1_3_l1).trans ((hm_up_ne _ _ h_tb_1_3_w1).trans ((hm_up_ne _ _ h_tb_1_3_l0).trans ((hm_up_ne _ _ h_tb_1_3_w0).trans ((hm_up_ne _ _ (Ne.symm (hm_oa kx (kr 3 (by decide))))).trans (kr 3 (by decide))))))) hf_dv
  have h_tb_1_4_dv : hm_ap (tb + 1 + 4) dv := hm_nn ((hm_up_ne _ _ h_tb_1_4_l1).trans ((hm_up_ne _ _ h_tb_1_4_w1).trans ((hm_up_ne _ _ h_tb_1_4_l0).trans ((hm_up_ne _ _ h_tb_1_4_w0).trans ((hm_up_ne _ _ (Ne.symm (hm_oa kx (kr 4 (by decide))))).trans (kr 4 (by decide))))))) hf_dv
  have h_tb_1_5_dv : hm_ap (tb + 1 + 5) dv := hm_nn ((hm_up_ne _ _ h_tb_1_5_l1).trans ((hm_up_ne _ _ h_tb_1_5_w1).trans ((hm_up_ne _ _ h_tb_1_5_l0).trans ((hm_up_ne _ _ h_tb_1_5_w0).trans ((hm_up_ne _ _ (Ne.symm (hm_oa kx (kr 5 (by decide))))).trans (kr 5 (by decide))))))) hf_dv
  have h_tb_1_6_dv : hm_ap (tb + 1 + 6) dv := hm_nn ((hm_up_ne _ _ h_tb_1_6_l1).trans ((hm_up_ne _ _ h_tb_1_6_w1).trans ((hm_up_ne _ _ h_tb_1_6_l0).trans ((hm_up_ne _ _ h_tb_1_6_w0).trans ((hm_up_ne _ _ (Ne.symm (hm_oa kx (kr 6 (by decide))))).trans (kr 6 (by decide))))))) hf_dv
  have h_tb_1_7_dv : hm_ap (tb + 1 + 7) dv := hm_nn ((hm_up_ne _ _ h_tb_1_7_l1).trans ((hm_up_ne _ _ h_tb_1_7_w1).trans ((hm_up_ne _ _ h_tb_1_7_l0).trans ((hm_up_ne _ _ h_tb_1_7_w0).trans ((hm_up_ne _ _ (Ne.symm (hm_oa kx (kr 7 (by decide))))).trans (kr 7 (by decide))))))) hf_dv
  have h_tb_1_8_dv : hm_ap (tb + 1 + 8) dv := hm_nn ((hm_up_ne _ _ h_tb_1_8_l1).trans ((hm_up_ne _ _ h_tb_1_8_w1).trans ((hm_up_ne _ _ h_tb_1_8_l0).trans ((hm_up_ne _ _ h_tb_1_8_w0).trans ((hm_up_ne _ _ (Ne.symm (hm_oa kx (kr 8 (by decide))))).trans (kr 8 (by decide))))))) hf_dv
  have h_tb_1_9_dv : hm_ap (tb + 1 + 9) dv := hm_nn ((hm_up_ne _ _ h_tb_1_9_l1).trans ((hm_up_ne _ _ h_tb_1_9_w1).trans ((hm_up_ne _ _ h_tb_1_9_l0).trans ((hm_up_ne _ _ h_tb_1_9_w0).trans ((hm_up_ne _ _ (Ne.symm (hm_oa kx (kr 9 (by decide))))).trans (kr 9 (by decide))))))) hf_dv
  have h_tb_1_10_dv : hm_ap (tb + 1 + 10) dv := hm_nn ((hm_up_ne _ _ h_tb_1_10_l1).trans ((hm_up_ne _ _ h_tb_1_10_w1).trans ((hm_up_ne _ _ h_tb_1_10_l0).trans ((hm_up_ne _ _ h_tb_1_10_w0).trans ((hm_up_ne _ _ (Ne.symm (hm_oa kx (kr 10 (by decide))))).trans (kr 10 (by decide))))))) hf_dv
  have h_tb_1_11_dv : hm_ap (tb + 1 + 11) dv := hm_nn ((hm_up_ne _ _ h_tb_1_11_l1).trans ((hm_up_ne _ _ h_tb_1_11_w1).trans ((hm_up_ne _ _ h_tb_1_11_l0).trans ((hm_up_ne _ _ h_tb_1_11_w0).trans ((hm_up_ne _ _ (Ne.symm (hm_oa kx (kr 11 (by decide))))).trans (kr 11 (by decide))))))) hf_dv
  have hV : hm_V E.1 vwCl (hm_A M sz) s.heap (hm_up (hm_up (hm_up (hm_up (hm_up (hm_up N1 x (.inr (5, [.ref nu, .int 0, .ref tb, .ref w0, .ref w1, .null, .null]))) w0 (.inr (4, [.ref l0, .int (nI 0), .int 0]))) l0 (hm_I E 65 (fun j => nI ((fun _ => 0) j)))) w1 (.inr (4, [.ref l1, .int (nI 0), .int 0]))) l1 (hm_I E 65 (fun j => nI ((fun _ => 0) j)))) dv (.inr (2, [.null, .null]))) H locs := hV
  refine W.widen (k := 19) (n := 454) (Nat.le_of_ble_eq_true rfl) (Nat.le_of_ble_eq_true rfl) ?_
  refine lv_dup hx hb dX3_init_61 rfl ?_
  refine hm_callv (va_runIN (As := []) (rest := [.ref dv, .ref x]) ⟨hx, hb, hml, hown, hts⟩ (c_X0_init l E (hm_up_self _ _ _) H.size) ⟨(va_cnB 0 hts (hm_gI kw_93) rfl rfl rfl (hK.2.2 _ (List.mem_of_getElem? (i := 0) rfl)) (hws _ kw_40) (by decide +kernel) ⟨Nat.le_of_ble_eq_true rfl, Nat.le_of_ble_eq_true rfl⟩), rfl, hws _ kw_92⟩ (hm_preS hK hV) rfl rfl hl.1 rfl (lv_room (Nat.le_of_ble_eq_true rfl)) dX3_init_62 ⟨Nat.le_of_ble_eq_true rfl, Nat.le_of_ble_eq_true rfl⟩) hV hA (fun M1 H locs hp hV => ?_)
  obtain ⟨r9, v9, hf_r9, hf_v9, hvr, hM1⟩ := hp
  subst hM1
  have h_x_r9 : hm_ap x r9 := hm_nn ((hm_up_ne _ _ h_x_dv).trans ((hm_up_ne _ _ h_x_l1).trans ((hm_up_ne _ _ h_x_w1).trans ((hm_up_ne _ _ h_x_l0).trans ((hm_up_ne _ _ h_x_w0).trans (hm_up_self _ _ _)))))) hf_r9
  have h_w0_r9 : hm_ap w0 r9 := hm_nn ((hm_up_ne _ _ h_w0_dv).trans ((hm_up_ne _ _ h_w0_l1).trans ((hm_up_ne _ _ h_w0_w1).trans ((hm_up_ne _ _ h_w0_l0).trans (hm_up_self _ _ _))))) hf_r9
  have h_l0_r9 : hm_ap l0 r9 := hm_nn ((hm_up_ne _ _ h_l0_dv).trans ((hm_up_ne _ _ h_l0_l1).trans ((hm_up_ne _ _ h_l0_w1).trans (hm_up_self _ _ _)))) hf_r9
  have h_w1_r9 : hm_ap w1 r9 := hm_nn ((hm_up_ne _ _ h_w1_dv).trans ((hm_up_ne _ _ h_w1_l1).trans (hm_up_self _ _ _))) hf_r9
  have h_l1_r9 : hm_ap l1 r9 := hm_nn ((hm_up_ne _ _ h_l1_dv).trans (hm_up_self _ _ _)) hf_r9
  have h_dv_r9 : hm_ap dv r9 := hm_nn (hm_up_self _ _ _) hf_r9
  have h_nu_r9 : hm_ap nu r9 := hm_nn ((hm_up_ne _ _ h_nu_dv).trans ((hm_up_ne _ _ h_nu_l1).trans ((hm_up_ne _ _ h_nu_w1).trans ((hm_up_ne _ _ h_nu_l0).trans ((hm_up_ne _ _ h_nu_w0).trans ((hm_up_ne _ _ (Ne.symm (hm_oa kx kn9))).trans kn9)))))) hf_r9
  have h_tb_r9 : hm_ap tb r9 := hm_nn ((hm_up_ne _ _ h_tb_dv).trans ((hm_up_ne _ _ h_tb_l1).trans ((hm_up_ne _ _ h_tb_w1).trans ((hm_up_ne _ _ h_tb_l0).trans ((hm_up_ne _ _ h_tb_w0).trans ((hm_up_ne _ _ (Ne.symm (hm_oa kx kt))).trans kt)))))) hf_r9
  have h_tb_1_0_r9 : hm_ap (tb + 1 + 0) r9 := hm_nn ((hm_up_ne _ _ h_tb_1_0_dv).trans ((hm_up_ne _ _ h_tb_1_0_l1).trans ((hm_up_ne _ _ h_tb_1_0_w1).trans ((hm_up_ne _ _ h_tb_1_0_l0).trans ((hm_up_ne _ _ h_tb_1_0_w0).trans ((hm_up_ne _ _ (Ne.symm (hm_oa kx (kr 0 (by decide))))).trans (kr 0 (by decide)))))))) hf_r9
  have h_tb_1_1_r9 : hm_ap (tb + 1 + 1) r9 := hm_nn ((hm_up_ne _ _ h_tb_1_1_dv).trans ((hm_up_ne _ _ h_tb_1_1_l1).trans ((hm_up_ne _ _ h_tb_1_1_w1).trans ((hm_up_ne _ _ h_tb_1_1_l0).trans ((hm_up_ne _ _ h_tb_1_1_w0).trans ((hm_up_ne _ _ (Ne.symm (hm_oa kx (kr 1 (by decide))))).trans (kr 1 (by decide)))))))) hf_r9
  have h_tb_1_2_r9 : hm_ap (tb + 1 + 2) r9 := hm_nn ((hm_up_ne _ _ h_tb_1_2_dv).trans ((hm_up_ne _ _ h_tb_1_2_l1).trans ((hm_up_ne _ _ h_tb_1_2_w1).trans ((hm_up_ne _ _ h_tb_1_2_l0).trans ((hm_up_ne _ _ h_tb_1_2_w0).trans ((hm_up_ne _ _ (Ne.symm (hm_oa kx (kr 2 (by decide))))).trans (kr 2 (by decide)))))))) hf_r9
  have h_tb_1_3_r9 : hm_ap (tb + 1 + 3) r9 := hm_nn ((hm_up_ne _ _ h_tb_1_3_dv).trans ((hm_up_ne _ _ h_tb_1_3_l1).trans ((hm_up_ne _ _ h_tb_1_3_w1).trans ((hm_up_ne _ _ h_tb_1_3_l0).trans ((hm_up_ne _ _ h_tb_1_3_w0).trans ((hm_up_ne _ _ (Ne.symm (hm_oa kx (kr 3 (by decide))))).trans (kr 3 (by decide)))))))) hf_r9
  have h_tb_1_4_r9 : hm_ap (tb + 1 + 4) r9 := hm_nn ((hm_up_ne _ _ h_tb_1_4_dv).trans ((hm_up_ne _ _ h_tb_1_4_l1).trans ((hm_up_ne _ _ h_tb_1_4_w1).trans ((hm_up_ne _ _ h_tb_1_4_l0).trans ((hm_up_ne _ _ h_tb_1_4_w0).trans ((hm_up_ne _ _ (Ne.symm (hm_oa kx (kr 4 (by decide))))).trans (kr 4 (by decide)))))))) hf_r9
  have h_tb_1_5_r9 : hm_ap (tb + 1 + 5) r9 := hm_nn ((hm_up_ne _ _ h_tb_1_5_dv).trans ((hm_up_ne _ _ h_tb_1_5_l1).trans ((hm_up_ne _ _ h_tb_1_5_w1).trans ((hm_up_ne _ _ h_tb_1_5_l0).trans ((hm_up_ne _ _ h_tb_1_5_w0).trans ((hm_up_ne _ _ (Ne.symm (hm_oa kx (kr 5 (by decide))))).trans (kr 5 (by decide)))))))) hf_r9
  have h_tb_1_6_r9 : hm_ap (tb + 1 + 6) r9 := hm_nn ((hm_up_ne _ _ h_tb_1_6_dv).trans ((hm_up_ne _ _ h_tb_1_6_l1).trans ((hm_up_ne _ _ h_tb_1_6_w1).trans ((hm_up_ne _ _ h_tb_1_6_l0).trans ((hm_up_ne _ _ h_tb_1_6_w0).trans ((hm_up_ne _ _ (Ne.symm (hm_oa kx (kr 6 (by decide))))).trans (kr 6 (by decide)))))))) hf_r9
  have h_tb_1_7_r9 : hm_ap (tb + 1 + 7) r9 := hm_nn ((hm_up_ne _ _ h_tb_1_7_dv).trans ((hm_up_ne _ _ h_tb_1_7_l1).trans ((hm_up_ne _ _ h_tb_1_7_w1).trans ((hm_up_ne _ _ h_tb_1_7_l0).trans ((hm_up_ne _ _ h_tb_1_7_w0).trans ((hm_up_ne _ _ (Ne.symm (hm_oa kx (kr 7 (by decide))))).trans (kr 7 (by decide)))))))) hf_r9
  have h_tb_1_8_r9 : hm_ap (tb + 1 + 8) r9 := hm_nn ((hm_up_ne _ _ h_tb_1_8_dv).trans ((hm_up_ne _ _ h_tb_1_8_l1).trans ((hm_up_ne _ _ h_tb_1_8_w1).trans ((hm_up_ne _ _ h_tb_1_8_l0).trans ((hm_up_ne _ _ h_tb_1_8_w0).trans ((hm_up_ne _ _ (Ne.symm (hm_oa kx (kr 8 (by decide))))).trans (kr 8 (by decide)))))))) hf_r9
  have h_tb_1_9_r9 : hm_ap (tb + 1 + 9) r9 := hm_nn ((hm_up_ne _ _ h_tb_1_9_dv).trans ((hm_up_ne _ _ h_tb_1_9_l1).trans ((hm_up_ne _ _ h_tb_1_9_w1).trans ((hm_up_ne _ _ h_tb_1_9_l0).trans ((hm_up_ne _ _ h_tb_1_9_w0).trans ((hm_up_ne _ _ (Ne.symm (hm_oa kx (kr 9 (by decide))))).trans (kr 9 (by decide)))))))) hf_r9
  have h_tb_1_10_r9 : hm_ap (tb + 1 + 10) r9 := hm_nn ((hm_up_ne _ _ h_tb_1_10_dv).trans ((hm_up_ne _ _ h_tb_1_10_l1).trans ((hm_up_ne _ _ h_tb_1_10_w1).trans ((hm_up_ne _ _ h_tb_1_10_l0).trans ((hm_up_ne _ _ h_tb_1_10_w0).trans ((hm_up_ne _ _ (Ne.symm (hm_oa kx (kr 10 (by decide))))).trans (kr 10 (by decide)))))))) hf_r9
  have h_tb_1_11_r9 : hm_ap (tb + 1 + 11) r9 := hm_nn ((hm_up_ne _ _ h_tb_1_11_dv).trans ((hm_up_ne _ _ h_tb_1_11_l1).trans ((hm_up_ne _ _ h_tb_1_11_w1).trans ((hm_up_ne _ _ h_tb_1_11_l0).trans ((hm_up_ne _ _ h_tb_1_11_w0).trans ((hm_up_ne _ _ (Ne.symm (hm_oa kx (kr 11 (by decide))))).trans (kr 11 (by decide)))))))) hf_r9
  have h_x_v9 : hm_ap x v9 := hm_nn ((hm_up_ne _ _ h_x_dv).trans ((hm_up_ne _ _ h_x_l1).trans ((hm_up_ne _ _ h_x_w1).trans ((hm_up_ne _ _ h_x_l0).trans ((hm_up_ne _ _ h_x_w0).trans (hm_up_self _ _ _)))))) hf_v9
  have h_w0_v9 : hm_ap w0 v9 := hm_nn ((hm_up_ne _ _ h_w0_dv).trans ((hm_up_ne _ _ h_w0_l1).trans ((hm_up_ne _ _ h_w0_w1).trans ((hm_up_ne _ _ h_w0_l0).trans (hm_up_self _ _ _))))) hf_v9
  have h_l0_v9 : hm_ap l0 v9 := hm_nn ((hm_up_ne _ _ h_l0_dv).trans ((hm_up_ne _ _ h_l0_l1).trans ((hm_up_ne _ _ h_l0_w1).trans (hm_up_self _ _ _)))) hf_v9
  have h_w1_v9 : hm_ap w1 v9 := hm_nn ((hm_up_ne _ _ h_w1_dv).trans ((hm_up_ne _ _ h_w1_l1).trans (hm_up_self _ _ _))) hf_v9
  have h_l1_v9 : hm_ap l1 v9 := hm_nn ((hm_up_ne _ _ h_l1_dv).trans (hm_up_self _ _ _)) hf_v9
  have h_dv_v9 : hm_ap dv v9 := hm_nn (hm_up_self _ _ _) hf_v9
  have h_nu_v9 : hm_ap nu v9 := hm_nn ((hm_up_ne _ _ h_nu_dv).trans ((hm_up_ne _ _ h_nu_l1).trans ((hm_up_ne _ _ h_nu_w1).trans ((hm_up_ne _ _ h_nu_l0).trans ((hm_up_ne _ _ h_nu_w0).trans ((hm_up_ne _ _ (Ne.symm (hm_oa kx kn9))).trans kn9)))))) hf_v9
  have h_tb_v9 : hm_ap tb v9 := hm_nn ((hm_up_ne _ _ h_tb_dv).trans ((hm_up_ne _ _ h_tb_l1).trans ((hm_up_ne _ _ h_tb_w1).trans ((hm_up_ne _ _ h_tb_l0).trans ((hm_up_ne _ _ h_tb_w0).trans ((hm_up_ne _ _ (Ne.symm (hm_oa kx kt))).trans kt)))))) hf_v9
  have h_tb_1_0_v9 : hm_ap (tb + 1 + 0) v9 := hm_nn ((hm_up_ne _ _ h_tb_1_0_dv).trans ((hm_up_ne _ _ h_tb_1_0_l1).trans ((hm_up_ne _ _ h_tb_1_0_w1).trans ((hm_up_ne _ _ h_tb_1_0_l0).trans ((hm_up_ne _ _ h_tb_1_0_w0).trans ((hm_up_ne _ _ (Ne.symm (hm_oa kx (kr 0 (by decide))))).trans (kr 0 (by decide)))))))) hf_v9
  have h_tb_1_1_v9 : hm_ap (tb + 1 + 1) v9 := hm_nn ((hm_up_ne _ _ h_tb_1_1_dv).trans ((hm_up_ne _ _ h_tb_1_1_l1).trans ((hm_up_ne _ _ h_tb_1_1_w1).trans ((hm_up_ne _ _ h_tb_1_1_l0).trans ((hm_up_ne _ _ h_tb_1_1_w0).trans ((hm_up_ne _ _ (Ne.symm (hm_oa kx (kr 1 (by decide))))).trans (kr 1 (by decide)))))))) hf_v9
  have h_tb_1_2_v9 : hm_ap (tb + 1 + 2) v9 := hm_nn ((hm_up_ne _ _ h_tb_1_2_dv).trans ((hm_up_ne _ _ h_tb_1_2_l1).trans ((hm_up_ne _ _ h_tb_1_2_w1).trans ((hm_up_ne _ _ h_tb_1_2_l0).trans ((hm_up_ne _ _ h_tb_1_2_w0).trans ((hm_up_ne _ _ (Ne.symm (hm_oa kx (kr 2 (by decide))))).trans (kr 2 (by decide)))))))) hf_v9
  have h_tb_1_3_v9 : hm_ap (tb + 1 + 3) v9 := hm_nn ((hm_up_ne _ _ h_tb_1_3_dv).trans ((hm_up_ne _ _ h_tb_1_3_l1).trans ((hm_up_ne _ _ h_tb_1_3_w1).trans ((hm_up_ne _ _ h_tb_1_3_l0).trans ((hm_up_ne _ _ h_tb_1_3_w0).trans ((hm_up_ne _ _ (Ne.symm (hm_oa kx (kr 3 (by decide))))).trans (kr 3 (by decide)))))))) hf_v9
  have h_tb_1_4_v9 : hm_ap (tb + 1 + 4) v9 := hm_nn ((hm_up_ne _ _ h_tb_1_4_dv).trans ((hm_up_ne _ _ h_tb_1_4_l1).trans ((hm_up_ne _ _ h_tb_1_4_w1).trans ((hm_up_ne _ _ h_tb_1_4_l0).trans ((hm_up_ne _ _ h_tb_1_4_w0).trans ((hm_up_ne _ _ (Ne.symm (hm_oa kx (kr 4 (by decide))))).trans (kr 4 (by decide)))))))) hf_v9
  have h_tb_1_5_v9 : hm_ap (tb + 1 + 5) v9 := hm_nn ((hm_up_ne _ _ h_tb_1_5_dv).trans ((hm_up_ne _ _ h_tb_1_5_l1).trans ((hm_up_ne _ _ h_tb_1_5_w1).trans ((hm_up_ne _ _ h_tb_1_5_l0).trans ((hm_up_ne _ _ h_tb_1_5_w0).trans ((hm_up_ne _ _ (Ne.symm (hm_oa kx (kr 5 (by decide))))).trans (kr 5 (by decide)))))))) hf_v9
  have h_tb_1_6_v9 : hm_ap (tb + 1 + 6) v9 := hm_nn ((hm_up_ne _ _ h_tb_1_6_dv).trans ((hm_up_ne _ _ h_tb_1_6_l1).trans ((hm_up_ne _ _ h_tb_1_6_w1).trans ((hm_up_ne _ _ h_tb_1_6_l0).trans ((hm_up_ne _ _ h_tb_1_6_w0).trans ((hm_up_ne _ _ (Ne.symm (hm_oa kx (kr 6 (by decide))))).trans (kr 6 (by decide)))))))) hf_v9
  have h_tb_1_7_v9 : hm_ap (tb + 1 + 7) v9 := hm_nn ((hm_up_ne _ _ h_tb_1_7_dv).trans ((hm_up_ne _ _ h_tb_1_7_l1).trans ((hm_up_ne _ _ h_tb_1_7_w1).trans ((hm_up_ne _ _ h_tb_1_7_l0).trans ((hm_up_ne _ _ h_tb_1_7_w0).trans ((hm_up_ne _ _ (Ne.symm (hm_oa kx (kr 7 (by decide))))).trans (kr 7 (by decide)))))))) hf_v9
  have h_tb_1_8_v9 : hm_ap (tb + 1 + 8) v9 := hm_nn ((hm_up_ne _ _ h_tb_1_8_dv).trans ((hm_up_ne _ _ h_tb_1_8_l1).trans ((hm_up_ne _ _ h_tb_1_8_w1).trans ((hm_up_ne _ _ h_tb_1_8_l0).trans ((hm_up_ne _ _ h_tb_1_8_w0).trans ((hm_up_ne _ _ (Ne.symm (hm_oa kx (kr 8 (by decide))))).trans (kr 8 (by decide)))))))) hf_v9
  have h_tb_1_9_v9 : hm_ap (tb + 1 + 9) v9 := hm_nn ((hm_up_ne _ _ h_tb_1_9_dv).trans ((hm_up_ne _ _ h_tb_1_9_l1).trans ((hm_up_ne _ _ h_tb_1_9_w1).trans ((hm_up_ne _ _ h_tb_1_9_l0).trans ((hm_up_ne _ _ h_tb_1_9_w0).trans ((hm_up_ne _ _ (Ne.symm (hm_oa kx (kr 9 (by decide))))).trans (kr 9 (by decide)))))))) hf_v9
  have h_tb_1_10_v9 : hm_ap (tb + 1 + 10) v9 := hm_nn ((hm_up_ne _ _ h_tb_1_10_dv).trans ((hm_up_ne _ _ h_tb_1_10_l1).trans ((hm_up_ne _ _ h_tb_1_10_w1).trans ((hm_up_ne _ _ h_tb_1_10_l0).trans ((hm_up_ne _ _ h_tb_1_10_w0).trans ((hm_up_ne _ _ (Ne.symm (hm_oa kx (kr 10 (by decide))))).trans (kr 10 (by decide)))))))) hf_v9
  have h_tb_1_11_v9 : hm_ap (tb + 1 + 11) v9 := hm_nn ((hm_up_ne _ _ h_tb_1_11_dv).trans ((hm_up_ne _ _ h_tb_1_11_l1).trans ((hm_up_ne _ _ h_tb_1_11_w1).trans ((hm_up_ne _ _ h_tb_1_11_l0).trans ((hm_up_ne _ _ h_tb_1_11_w0).trans ((hm_up_ne _ _ (Ne.symm (hm_oa kx (kr 11 (by decide))))).trans (kr 11 (by decide)))))))) hf_v9
  rw [hm_up_up] at hV
  have hV : hm_V E.1 vwCl (hm_A M sz) s.heap (hm_up (hm_up (hm_up (hm_up (hm_up (hm_up (hm_up (hm_up N1 x (.inr (5, [.ref nu, .int 0, .ref tb, .ref w0, .ref w1, .null, .null]))) w0 (.inr (4, [.ref l0, .int (nI 0), .int 0]))) l0 (hm_I E 65 (fun j => nI ((fun _ => 0) j)))) w1 (.inr (4, [.ref l1, .int (nI 0), .int 0]))) l1 (hm_I E 65 (fun j => nI ((fun _ => 0) j)))) dv (.inr (2, [.ref r9, .ref v9]))) r9 (hm_I E 66 (fun j => nI ((fun _ => 0) j)))) v9 (hm_I E 66 (fun j => nI ((fun _ => 0) j)))) H locs := hV
  refine W.widen (k := 21) (n := 586) (Nat.le_of_ble_eq_true rfl) (Nat.le_of_ble_eq_true rfl) ?_
  refine hm_putF (ci := 5) (v := .ref dv) (ty := (tyX3 5)) (C := RX3) (T := TX3) (N := 7) hx hb hws kin_X3 tyX3 tyX3_ok nmX3 hown hK.1 hV ((hm_up_ne _ _ h_x_v9).trans ((hm_up_ne _ _ h_x_r9).trans ((hm_up_ne _ _ h_x_dv).trans ((hm_up_ne _ _ h_x_l1).trans ((hm_up_ne _ _ h_x_w1).trans ((hm_up_ne _ _ h_x_l0).trans ((hm_up_ne _ _ h_x_w0).trans (hm_up_self _ _ _)))))))) rfl 5 (by decide) fl37 (fun _ h9 => h9) rfl hin rfl (by decide +kernel) rfl rfl (Nat.le_of_ble_eq_true rfl) dX3_init_65 (fun H locs hV => ?_)
  rw [hm_u7 (Ne.symm h_x_w0) (Ne.symm h_x_l0) (Ne.symm h_x_w1) (Ne.symm h_x_l1) (Ne.symm h_x_dv) (Ne.symm h_x_r9) (Ne.symm h_x_v9)] at hV
  have hV : hm_V E.1 vwCl (hm_A M sz) s.heap (hm_up (hm_up (hm_up (hm_up (hm_up (hm_up (hm_up (hm_up N1 x (.inr (5, [.ref nu, .int 0, .ref tb, .ref w0, .ref w1, .ref dv, .null]))) w0 (.inr (4, [.ref l0, .int (nI 0), .int 0]))) l0 (hm_I E 65 (fun j => nI ((fun _ => 0) j)))) w1 (.inr (4, [.ref l1, .int (nI 0), .int 0]))) l1 (hm_I E 65 (fun j => nI ((fun _ => 0) j)))) dv (.inr (2, [.ref r9, .ref v9]))) r9 (hm_I E 66 (fun j => nI ((fun _ => 0) j)))) v9 (hm_I E 66 (fun j => nI ((fun _ => 0) j)))) H locs := hV
  refine lv_aload_n hx hb dX3_init_68 rfl (lv_at hl 0 rfl) ?_
  refine lv_null hx hb dX3_init_69 ?_
  refine hm_put (ci := 5) (v := .null) (ty := (tyX3 6)) (C := RX3) (T := TX3) (N := 7) hx hb hws kin_X3 tyX3 tyX3_ok nmX3 hown hK.1 hV ((hm_up_ne _ _ h_x_v9).trans ((hm_up_ne _ _ h_x_r9).trans ((hm_up_ne _ _ h_x_dv).trans ((hm_up_ne _ _ h_x_l1).trans ((hm_up_ne _ _ h_x_w1).trans ((hm_up_ne _ _ h_x_l0).trans ((hm_up_ne _ _ h_x_w0).trans (hm_up_self _ _ _)))))))) rfl 6 (by decide) fl41 (fun _ h9 => h9) rfl (by decide +kernel) rfl rfl (Nat.le_of_ble_eq_true rfl) dX3_init_70 (fun H locs hV => ?_)
  rw [hm_u7 (Ne.symm h_x_w0) (Ne.symm h_x_l0) (Ne.symm h_x_w1) (Ne.symm h_x_l1) (Ne.symm h_x_dv) (Ne.symm h_x_r9) (Ne.symm h_x_v9)] at hV
  have hV : hm_V E.1 vwCl (hm_A M sz) s.heap (hm_up (hm_up (hm_up (hm_up (hm_up (hm_up (hm_up (hm_up N1 x (.inr (5, [.ref nu, .int 0, .ref tb, .ref w0, .ref w1, .ref dv, .null]))) w0 (.inr (4, [.ref l0, .int (nI 0), .int 0]))) l0 (hm_I E 65 (fun j => nI ((fun _ => 0) j)))) w1 (.inr (4, [.ref l1, .int (nI 0), .int 0]))) l1 (hm_I E 65 (fun j => nI ((fun _ => 0) j)))) dv (.inr (2, [.ref r9, .ref v9]))) r9 (hm_I E 66 (fun j => nI ((fun _ => 0) j)))) v9 (hm_I E 66 (fun j => nI ((fun _ => 0) j)))) H locs := hV
  have hrows : ∀ j, j < 12 → (hm_up (hm_up (hm_up (hm_up (hm_up (hm_up (hm_up (hm_up N1 x (.inr (5, [.ref nu, .int 0, .ref tb, .ref w0, .ref w1, .ref dv, .null]))) w0 (.inr (4, [.ref l0, .int (nI 0), .int 0]))) l0 (hm_I E 65 (fun j => nI ((fun _ => 0) j)))) w1 (.inr (4, [.ref l1, .int (nI 0), .int 0]))) l1 (hm_I E 65 (fun j => nI ((fun _ => 0) j)))) dv (.inr (2, [.ref r9, .ref v9]))) r9 (hm_I E 66 (fun j => nI ((fun _ => 0) j)))) v9 (hm_I E 66 (fun j => nI ((fun _ => 0) j))) : hm_M) (tb + 1 + j) = some (hm_J E 12 (fun _ => 0)) := by
    intro j hj
    rcases (show j = 0 ∨ j = 1 ∨ j = 2 ∨ j = 3 ∨ j = 4 ∨ j = 5 ∨ j = 6 ∨ j = 7 ∨ j = 8 ∨ j = 9 ∨ j = 10 ∨ j = 11 by omega) with e9 | e9 | e9 | e9 | e9 | e9 | e9 | e9 | e9 | e9 | e9 | e9 <;> subst e9
    · exact ((hm_up_ne _ _ h_tb_1_0_v9).trans ((hm_up_ne _ _ h_tb_1_0_r9).trans ((hm_up_ne _ _ h_tb_1_0_dv).trans ((hm_up_ne _ _ h_tb_1_0_l1).trans ((hm_up_ne _ _ h_tb_1_0_w1).trans ((hm_up_ne _ _ h_tb_1_0_l0).trans ((hm_up_ne _ _ h_tb_1_0_w0).trans ((hm_up_ne _ _ (Ne.symm (hm_oa kx (kr 0 (by decide))))).trans (kr 0 (by decide))))))))))
    · exact ((hm_up_ne _ _ h_tb_1_1_v9).trans ((hm_up_ne _ _ h_tb_1_1_r9).trans ((hm_up_ne _ _ h_tb_1_1_dv).trans ((hm_up_ne _ _ h_tb_1_1_l1).trans ((hm_up_ne _ _ h_tb_1_1_w1).trans ((hm_up_ne _ _ h_tb_1_1_l0).trans ((hm_up_ne _ _ h_tb_1_1_w0).trans ((hm_up_ne _ _ (Ne.symm (hm_oa kx (kr 1 (by decide))))).trans (kr 1 (by decide))))))))))
    · exact ((hm_up_ne _ _ h_tb_1_2_v9).trans ((hm_up_ne _ _ h_tb_1_2_r9).trans ((hm_up_ne _ _ h_tb_1_2_dv).trans ((hm_up_ne _ _ h_tb_1_2_l1).trans ((hm_up_ne _ _ h_tb_1_2_w1).trans ((hm_up_ne _ _ h_tb_1_2_l0).trans ((hm_up_ne _ _ h_tb_1_2_w0).trans ((hm_up_ne _ _ (Ne.symm (hm_oa kx (kr 2 (by decide))))).trans (kr 2 (by decide))))))))))
    · exact ((hm_up_ne _ _ h_tb_1_3_v9).trans ((hm_up_ne _ _ h_tb_1_3_r9).trans ((hm_up_ne _ _ h_tb_1_3_dv).trans ((hm_up_ne _ _ h_tb_1_3_l1).trans ((hm_up_ne _ _ h_tb_1_3_w1).trans ((hm_up_ne _ _ h_tb_1_3_l0).trans ((hm_up_ne _ _ h_tb_1_3_w0).trans ((hm_up_ne _ _ (Ne.symm (hm_oa kx (kr 3 (by decide))))).trans (kr 3 (by decide))))))))))
    · exact ((hm_up_ne _ _ h_tb_1_4_v9).trans ((hm_up_ne _ _ h_tb_1_4_r9).trans ((hm_up_ne _ _ h_tb_1_4_dv).trans ((hm_up_ne _ _ h_tb_1_4_l1).trans ((hm_up_ne _ _ h_tb_1_4_w1).trans ((hm_up_ne _ _ h_tb_1_4_l0).trans ((hm_up_ne _ _ h_tb_1_4_w0).trans ((hm_up_ne _ _ (Ne.symm (hm_oa kx (kr 4 (by decide))))).trans (kr 4 (by decide))))))))))
    · exact ((hm_up_ne _ _ h_tb_1_5_v9).trans ((hm_up_ne _ _ h_tb_1_5_r9).trans ((hm_up_ne _ _ h_tb_1_5_dv).trans ((hm_up_ne _ _ h_tb_1_5_l1).trans ((hm_up_ne _ _ h_tb_1_5_w1).trans ((hm_up_ne _ _ h_tb_1_5_l0).trans ((hm_up_ne _ _ h_tb_1_5_w0).trans ((hm_up_ne _ _ (Ne.symm (hm_oa kx (kr 5 (by decide))))).trans (kr 5 (by decide))))))))))
    · exact ((hm_up_ne _ _ h_tb_1_6_v9).trans ((hm_up_ne _ _ h_tb_1_6_r9).trans ((hm_up_ne _ _ h_tb_1_6_dv).trans ((hm_up_ne _ _ h_tb_1_6_l1).trans ((hm_up_ne _ _ h_tb_1_6_w1).trans ((hm_up_ne _ _ h_tb_1_6_l0).trans ((hm_up_ne _ _ h_tb_1_6_w0).trans ((hm_up_ne _ _ (Ne.symm (hm_oa kx (kr 6 (by decide))))).trans (kr 6 (by decide))))))))))
    · exact ((hm_up_ne _ _ h_tb_1_7_v9).trans ((hm_up_ne _ _ h_tb_1_7_r9).trans ((hm_up_ne _ _ h_tb_1_7_dv).trans ((hm_up_ne _ _ h_tb_1_7_l1).trans ((hm_up_ne _ _ h_tb_1_7_w1).trans ((hm_up_ne _ _ h_tb_1_7_l0).trans ((hm_up_ne _ _ h_tb_1_7_w0).trans ((hm_up_ne _ _ (Ne.symm (hm_oa kx (kr 7 (by decide))))).trans (kr 7 (by decide))))))))))
    · exact ((hm_up_ne _ _ h_tb_1_8_v9).trans ((hm_up_ne _ _ h_tb_1_8_r9).trans ((hm_up_ne _ _ h_tb_1_8_dv).trans ((hm_up_ne _ _ h_tb_1_8_l1).trans ((hm_up_ne _ _ h_tb_1_8_w1).trans ((hm_up_ne _ _ h_tb_1_8_l0).trans ((hm_up_ne _ _ h_tb_1_8_w0).trans ((hm_up_ne _ _ (Ne.symm (hm_oa kx (kr 8 (by decide))))).trans (kr 8 (by decide))))))))))
    · exact ((hm_up_ne _ _ h_tb_1_9_v9).trans ((hm_up_ne _ _ h_tb_1_9_r9).trans ((hm_up_ne _ _ h_tb_1_9_dv).trans ((hm_up_ne _ _ h_tb_1_9_l1).trans ((hm_up_ne _ _ h_tb_1_9_w1).trans ((hm_up_ne _ _ h_tb_1_9_l0).trans ((hm_up_ne _ _ h_tb_1_9_w0).trans ((hm_up_ne _ _ (Ne.symm (hm_oa kx (kr 9 (by decide))))).trans (kr 9 (by decide))))))))))
    · exact ((hm_up_ne _ _ h_tb_1_10_v9).trans ((hm_up_ne _ _ h_tb_1_10_r9).trans ((hm_up_ne _ _ h_tb_1_10_dv).trans ((hm_up_ne _ _ h_tb_1_10_l1).trans ((hm_up_ne _ _ h_tb_1_10_w1).trans ((hm_up_ne _ _ h_tb_1_10_l0).trans ((hm_up_ne _ _ h_tb_1_10_w0).trans ((hm_up_ne _ _ (Ne.symm (hm_oa kx (kr 10 (by decide))))).trans (kr 10 (by decide))))))))))
    · exact ((hm_up_ne _ _ h_tb_1_11_v9).trans ((hm_up_ne _ _ h_tb_1_11_r9).trans ((hm_up_ne _ _ h_tb_1_11_dv).trans ((hm_up_ne _ _ h_tb_1_11_l1).trans ((hm_up_ne _ _ h_tb_1_11_w1).trans ((hm_up_ne _ _ h_tb_1_11_l0).trans ((hm_up_ne _ _ h_tb_1_11_w0).trans ((hm_up_ne _ _ (Ne.symm (hm_oa kx (kr 11 (by decide))))).trans (kr 11 (by decide))))))))))
  rw [hQf]
  exact W.vret hx hb hr (fun t9 ht hW => ⟨⟨(hm_up (hm_up (hm_up (hm_up (hm_up (hm_up (hm_up (hm_up N1 x (.inr (5, [.ref nu, .int 0, .ref tb, .ref w0, .ref w1, .ref dv, .null]))) w0 (.inr (4, [.ref l0, .int (nI 0), .int 0]))) l0 (hm_I E 65 (fun j => nI ((fun _ => 0) j)))) w1 (.inr (4, [.ref l1, .int (nI 0), .int 0]))) l1 (hm_I E 65 (fun j => nI ((fun _ => 0) j)))) dv (.inr (2, [.ref r9, .ref v9]))) r9 (hm_I E 66 (fun j => nI ((fun _ => 0) j)))) v9 (hm_I E 66 (fun j => nI ((fun _ => 0) j)))), rfl, xp_mk ((hm_up_ne _ _ h_x_v9).trans ((hm_up_ne _ _ h_x_r9).trans ((hm_up_ne _ _ h_x_dv).trans ((hm_up_ne _ _ h_x_l1).trans ((hm_up_ne _ _ h_x_w1).trans ((hm_up_ne _ _ h_x_l0).trans ((hm_up_ne _ _ h_x_w0).trans (hm_up_self _ _ _)))))))) ((hm_up_ne _ _ h_nu_v9).trans ((hm_up_ne _ _ h_nu_r9).trans ((hm_up_ne _ _ h_nu_dv).trans ((hm_up_ne _ _ h_nu_l1).trans ((hm_up_ne _ _ h_nu_w1).trans ((hm_up_ne _ _ h_nu_l0).trans ((hm_up_ne _ _ h_nu_w0).trans ((hm_up_ne _ _ (Ne.symm (hm_oa kx kn9))).trans kn9)))))))) ((hm_up_ne _ _ h_tb_v9).trans ((hm_up_ne _ _ h_tb_r9).trans ((hm_up_ne _ _ h_tb_dv).trans ((hm_up_ne _ _ h_tb_l1).trans ((hm_up_ne _ _ h_tb_w1).trans ((hm_up_ne _ _ h_tb_l0).trans ((hm_up_ne _ _ h_tb_w0).trans ((hm_up_ne _ _ (Ne.symm (hm_oa kx kt))).trans kt)))))))) hrows ((hm_up_ne _ _ h_dv_v9).trans ((hm_up_ne _ _ h_dv_r9).trans (hm_up_self _ _ _))) ((hm_up_ne _ _ (Ne.symm hvr)).trans (hm_up_self _ _ _)) (hm_up_self _ _ _) ((hm_up_ne _ _ h_w0_v9).trans ((hm_up_ne _ _ h_w0_r9).trans ((hm_up_ne _ _ h_w0_dv).trans ((hm_up_ne _ _ h_w0_l1).trans ((hm_up_ne _ _ h_w0_w1).trans ((hm_up_ne _ _ h_w0_l0).trans (hm_up_self _ _ _))))))) ((hm_up_ne _ _ h_l0_v9).trans ((hm_up_ne _ _ h_l0_r9).trans ((hm_up_ne _ _ h_l0_dv).trans ((hm_up_ne _ _ h_l0_l1).trans ((hm_up_ne _ _ h_l0_w1).trans (hm_up_self _ _ _)))))) ((hm_up_ne _ _ h_w1_v9).trans ((hm_up_ne _ _ h_w1_r9).trans ((hm_up_ne _ _ h_w1_dv).trans ((hm_up_ne _ _ h_w1_l1).trans (hm_up_self _ _ _))))) ((hm_up_ne _ _ h_l1_v9).trans ((hm_up_ne _ _ h_l1_r9).trans ((hm_up_ne _ _ h_l1_dv).trans (hm_up_self _ _ _)))) h_w0_w1 h_l0_l1 hvr h_l0_r9 h_l0_v9 h_l1_r9 h_l1_v9, (hm_end hV ht).1⟩, (hm_end hV ht).2⟩) hV.2.2.2.2 dX3_init_73

abbrev wd_X4_init : List Cond := .code yX4_init cX4_init 1 none :: hm_ws
abbrev rm_X4_init : Room := { frames := 1, cells := 12, slots := 235032, locals := 12 }

set_option maxHeartbeats 4000000 in
set_option maxRecDepth 100000 in
/-- WideCountsModel() -/
theorem c_X4_init (l : Launch) (E : hm_E) {M : hm_M} {x : Nat} (hw : M x = some (.inr (6, [.int 0, .int 0, .null, .null, .null, .null, .null, .int 0, .null, .int 0, .null, .null, .null, .null, .null, .null]))) : hm_Cv l E yX4_init wd_X4_init rm_X4_init [.ref x] M (fun M1 => ∃ A : Nat → Nat, A 0 = x ∧ mq E M1 A 0 0 (fun _ => 0) (fun _ _ => 0)) := by
  intro sz
  refine Met.ofW (cc := cX4_init) (maxL := 1) (ret := none) (by decide) rfl ?_
  intro p e s m args below meth c s₁ B hml hv
  obtain ⟨rfl, hAe, hA, hK, hV⟩ := hm_start hv
  have hx := B.exec
  have hb := B.bytes
  have hr := B.returns
  have hts := atoms_spec (ws := wd_X4_init) B.pre
  have hws : ∀ w ∈ hm_ws, w.before _ s = true := fun w h => hts w (List.mem_cons_of_mem _ h)
  have hown : s.vm.findClass RX4 = some m.cls := findClass_of_methodNamed B.named
  have hlocks := B.notSynchronized
  have hin : meth.name = "<init>" := (name_of_methodNamed B.named B.method).1
  have fl7 := hws _ kw_481
  have fl13 := hws _ kw_482
  have fl16 := hws _ kw_483
  have fl20 := hws _ kw_484
  have fl24 := hws _ kw_485
  have fl27 := hws _ kw_487
  have fl30 := hws _ kw_489
  have fl34 := hws _ kw_490
  have fl37 := hws _ kw_491
  have fl40 := hws _ kw_492
  have fl43 := hws _ kw_493
  have fl46 := hws _ kw_494
  have ld33 := hws _ kw_478
  have hl := lv_entry ([.ref x]) (n := 1) (Nat.le_of_ble_eq_true rfl)
  rw [lg_entry_eq]
  generalize (lg_sl ([.ref x]) ++ List.replicate (1 - (lg_sl ([.ref x])).length) Slot.unset).toArray = ls at hl ⊢
  have hl : lv_has ls 1 [(0, .ref x)] := hl
  refine hm_gen (rm := rm_X4_init) rfl (fun Qf hQf => ?_)
  refine lv_aload_n hx hb dX4_init_0 rfl (lv_at hl 0 rfl) ?_
  refine W.objInit hx hb hown (hws _ kw_477) (hws _ kw_57) (hws _ kw_58) rfl (by rw [hml]; exact hl.1) rfl dX4_init_1 (Nat.le_of_ble_eq_true rfl) (Nat.le_of_ble_eq_true rfl) ?_
  refine W.eq (g2 := F0 m 4 ls []) rfl ?_
  have hV : hm_V E.1 vwCl (hm_A M sz) s.heap (hm_up M x (.inr (6, [.int 0, .int 0, .null, .null, .null, .null, .null, .int 0, .null, .int 0, .null, .null, .null, .null, .null, .null]))) s.heap [] := by rw [hm_up_id (hw)]; exact hV
  refine lv_aload_n hx hb dX4_init_4 rfl (lv_at hl 0 rfl) ?_
  refine lv_sipush (v := 16640) hx hb dX4_init_5 (by decide) ?_
  refine hm_newa (atype := .int) (ty := .int) (a0 := (16640, .inl (fun j => nI ((fun _ => 0) j)))) (N' := 16640) hx hb (hws _ kw_88) rfl hK.1 hV hA 0 rfl (fun _ => rfl) (by decide) (by decide) (by decide) (Nat.le_of_ble_eq_true rfl) (Nat.le_of_ble_eq_true rfl) dX4_init_8 (fun a1 H hf_a1 hV => ?_)
  obtain ⟨locs, hlocs⟩ : ∃ L : List Loc, L = [] := ⟨_, rfl⟩
  rw [← hlocs] at hV ⊢
  have h_x_a1 : hm_ap x a1 := hm_nn (hm_up_self _ _ _) hf_a1
  have hV : hm_V E.1 vwCl (hm_A M sz) s.heap (hm_up (hm_up M x (.inr (6, [.int 0, .int 0, .null, .null, .null, .null, .null, .int 0, .null, .int 0, .null, .null, .null, .null, .null, .null]))) a1 (hm_I E 16640 (fun j => nI ((fun _ => 0) j)))) H locs := hV
  refine W.widen (k := 1) (n := 16640) (Nat.le_of_ble_eq_true rfl) (Nat.le_of_ble_eq_true rfl) ?_
  refine hm_putF (ci := 6) (v := .ref a1) (ty := (tyX4 2)) (C := RX4) (T := TX4) (N := 16) hx hb hws kin_X4 tyX4 tyX4_ok nmX4 hown hK.1 hV ((hm_up_ne _ _ h_x_a1).trans (hm_up_self _ _ _)) rfl 2 (by decide) fl7 (fun _ h9 => h9) rfl hin rfl (by decide +kernel) rfl rfl (Nat.le_of_ble_eq_true rfl) dX4_init_10 (fun H locs hV => ?_)
  rw [hm_u1 (Ne.symm h_x_a1)] at hV
  have hV : hm_V E.1 vwCl (hm_A M sz) s.heap (hm_up (hm_up M x (.inr (6, [.int 0, .int 0, .ref a1, .null, .null, .null, .null, .int 0, .null, .int 0, .null, .null, .null, .null, .null, .null]))) a1 (hm_I E 16640 (fun j => nI ((fun _ => 0) j)))) H locs := hV
  refine lv_aload_n hx hb dX4_init_13 rfl (lv_at hl 0 rfl) ?_
  refine lv_sipush (v := 160) hx hb dX4_init_14 (by decide) ?_
  refine hm_newa (atype := .int) (ty := .int) (a0 := (160, .inl (fun j => nI ((fun _ => 0) j)))) (N' := 160) hx hb (hws _ kw_88) rfl hK.1 hV hA 0 rfl (fun _ => rfl) (by decide) (by decide) (by decide) (Nat.le_of_ble_eq_true rfl) (Nat.le_of_ble_eq_true rfl) dX4_init_17 (fun a2 H hf_a2 hV => ?_)
  have h_x_a2 : hm_ap x a2 := hm_nn ((hm_up_ne _ _ h_x_a1).trans (hm_up_self _ _ _)) hf_a2
  have h_a1_a2 : hm_ap a1 a2 := hm_nn (hm_up_self _ _ _) hf_a2
  have hV : hm_V E.1 vwCl (hm_A M sz) s.heap (hm_up (hm_up (hm_up M x (.inr (6, [.int 0, .int 0, .ref a1, .null, .null, .null, .null, .int 0, .null, .int 0, .null, .null, .null, .null, .null, .null]))) a1 (hm_I E 16640 (fun j => nI ((fun _ => 0) j)))) a2 (hm_I E 160 (fun j => nI ((fun _ => 0) j)))) H locs := hV
  refine W.widen (k := 2) (n := 16800) (Nat.le_of_ble_eq_true rfl) (Nat.le_of_ble_eq_true rfl) ?_
  refine hm_putF (ci := 6) (v := .ref a2) (ty := (tyX4 3)) (C := RX4) (T := TX4) (N := 16) hx hb hws kin_X4 tyX4 tyX4_ok nmX4 hown hK.1 hV ((hm_up_ne _ _ h_x_a2).trans ((hm_up_ne _ _ h_x_a1).trans (hm_up_self _ _ _))) rfl 3 (by decide) fl13 (fun _ h9 => h9) rfl hin rfl (by decide +kernel) rfl rfl (Nat.le_of_ble_eq_true rfl) dX4_init_19 (fun H locs hV => ?_)
  rw [hm_u2 (Ne.symm h_x_a1) (Ne.symm h_x_a2)] at hV
  have hV : hm_V E.1 vwCl (hm_A M sz) s.heap (hm_up (hm_up (hm_up M x (.inr (6, [.int 0, .int 0, .ref a1, .ref a2, .null, .null, .null, .int 0, .null, .int 0, .null, .null, .null, .null, .null, .null]))) a1 (hm_I E 16640 (fun j => nI ((fun _ => 0) j)))) a2 (hm_I E 160 (fun j => nI ((fun _ => 0) j)))) H locs := hV
  refine lv_aload_n hx hb dX4_init_22 rfl (lv_at hl 0 rfl) ?_
  refine lv_sipush (v := 160) hx hb dX4_init_23 (by decide) ?_
  refine hm_newa (atype := .boolean) (ty := .boolean) (a0 := (160, .inl (fun _ => 0))) (N' := 160) hx hb (hws _ kw_528) rfl hK.1 hV hA 2 rfl (fun _ => rfl) (by decide) (by decide) (by decide) (Nat.le_of_ble_eq_true rfl) (Nat.le_of_ble_eq_true rfl) dX4_init_26 (fun a3 H hf_a3 hV => ?_)
  have h_x_a3 : hm_ap x a3 := hm_nn ((hm_up_ne _ _ h_x_a2).trans ((hm_up_ne _ _ h_x_a1).trans (hm_up_self _ _ _))) hf_a3
  have h_a1_a3 : hm_ap a1 a3 := hm_nn ((hm_up_ne _ _ h_a1_a2).trans (hm_up_self _ _ _)) hf_a3
  have h_a2_a3 : hm_ap a2 a3 := hm_nn (hm_up_self _ _ _) hf_a3
  have hV : hm_V E.1 vwCl (hm_A M sz) s.heap (hm_up (hm_up (hm_up (hm_up M x (.inr (6, [.int 0, .int 0, .ref a1, .ref a2, .null, .null, .null, .int 0, .null, .int 0, .null, .null, .null, .null, .null, .null]))) a1 (hm_I E 16640 (fun j => nI ((fun _ => 0) j)))) a2 (hm_I E 160 (fun j => nI ((fun _ => 0) j)))) a3 (hm_Z E 160 (fun _ => 0))) H locs := hV
  refine W.widen (k := 3) (n := 16960) (Nat.le_of_ble_eq_true rfl) (Nat.le_of_ble_eq_true rfl) ?_
  refine hm_putF (ci := 6) (v := .ref a3) (ty := (tyX4 4)) (C := RX4) (T := TX4) (N := 16) hx hb hws kin_X4 tyX4 tyX4_ok nmX4 hown hK.1 hV ((hm_up_ne _ _ h_x_a3).trans ((hm_up_ne _ _ h_x_a2).trans ((hm_up_ne _ _ h_x_a1).trans (hm_up_self _ _ _)))) rfl 4 (by decide) fl16 (fun _ h9 => h9) rfl hin rfl (by decide +kernel) rfl rfl (Nat.le_of_ble_eq_true rfl) dX4_init_28 (fun H locs hV => ?_)
  rw [hm_u3 (Ne.symm h_x_a1) (Ne.symm h_x_a2) (Ne.symm h_x_a3)] at hV
  have hV : hm_V E.1 vwCl (hm_A M sz) s.heap (hm_up (hm_up (hm_up (hm_up M x (.inr (6, [.int 0, .int 0, .ref a1, .ref a2, .ref a3, .null, .null, .int 0, .null, .int 0, .null, .null, .null, .null, .null, .null]))) a1 (hm_I E 16640 (fun j => nI ((fun _ => 0) j)))) a2 (hm_I E 160 (fun j => nI ((fun _ => 0) j)))) a3 (hm_Z E 160 (fun _ => 0))) H locs := hV
  refine lv_aload_n hx hb dX4_init_31 rfl (lv_at hl 0 rfl) ?_
  refine lv_sipush (v := 144) hx hb dX4_init_32 (by decide) ?_
  refine hm_newa (atype := .long) (ty := .long) (a0 := (144, .inr (.inl (fun _ => 0)))) (N' := 144) hx hb (hws _ kw_87) rfl hK.1 hV hA 1 rfl (fun _ => rfl) (by decide) (by decide) (by decide) (Nat.le_of_ble_eq_true rfl) (Nat.le_of_ble_eq_true rfl) dX4_init_35 (fun a4 H hf_a4 hV => ?_)
  have h_x_a4 : hm_ap x a4 := hm_nn ((hm_up_ne _ _ h_x_a3).trans ((hm_up_ne _ _ h_x_a2).trans ((hm_up_ne _ _ h_x_a1).trans (hm_up_self _ _ _)))) hf_a4
  have h_a1_a4 : hm_ap a1 a4 := hm_nn ((hm_up_ne _ _ h_a1_a3).trans ((hm_up_ne _ _ h_a1_a2).trans (hm_up_self _ _ _))) hf_a4
  have h_a2_a4 : hm_ap a2 a4 := hm_nn ((hm_up_ne _ _ h_a2_a3).trans (hm_up_self _ _ _)) hf_a4
  have h_a3_a4 : hm_ap a3 a4 := hm_nn (hm_up_self _ _ _) hf_a4
  have hV : hm_V E.1 vwCl (hm_A M sz) s.heap (hm_up (hm_up (hm_up (hm_up (hm_up M x (.inr (6, [.int 0, .int 0, .ref a1, .ref a2, .ref a3, .null, .null, .int 0, .null, .int 0, .null, .null, .null, .null, .null, .null]))) a1 (hm_I E 16640 (fun j => nI ((fun _ => 0) j)))) a2 (hm_I E 160 (fun j => nI ((fun _ => 0) j)))) a3 (hm_Z E 160 (fun _ => 0))) a4 (hm_J E 144 (fun _ => 0))) H locs := hV
  refine W.widen (k := 4) (n := 17104) (Nat.le_of_ble_eq_true rfl) (Nat.le_of_ble_eq_true rfl) ?_
  refine hm_putF (ci := 6) (v := .ref a4) (ty := (tyX4 5)) (C := RX4) (T := TX4) (N := 16) hx hb hws kin_X4 tyX4 tyX4_ok nmX4 hown hK.1 hV ((hm_up_ne _ _ h_x_a4).trans ((hm_up_ne _ _ h_x_a3).trans ((hm_up_ne _ _ h_x_a2).trans ((hm_up_ne _ _ h_x_a1).trans (hm_up_self _ _ _))))) rfl 5 (by decide) fl20 (fun _ h9 => h9) rfl hin rfl (by decide +kernel) rfl rfl (Nat.le_of_ble_eq_true rfl) dX4_init_37 (fun H locs hV => ?_)
  rw [hm_u4 (Ne.symm h_x_a1) (Ne.symm h_x_a2) (Ne.symm h_x_a3) (Ne.symm h_x_a4)] at hV
  have hV : hm_V E.1 vwCl (hm_A M sz) s.heap (hm_up (hm_up (hm_up (hm_up (hm_up M x (.inr (6, [.int 0, .int 0, .ref a1, .ref a2, .ref a3, .ref a4, .null, .int 0, .null, .int 0, .null, .null, .null, .null, .null, .null]))) a1 (hm_I E 16640 (fun j => nI ((fun _ => 0) j)))) a2 (hm_I E 160 (fun j => nI ((fun _ => 0) j)))) a3 (hm_Z E 160 (fun _ => 0))) a4 (hm_J E 144 (fun _ => 0))) H locs := hV
  refine lv_aload_n hx hb dX4_init_40 rfl (lv_at hl 0 rfl) ?_
  refine lv_sipush (v := 220) hx hb dX4_init_41 (by decide) ?_
  refine hm_newa (atype := .int) (ty := .int) (a0 := (220, .inl (fun j => nI ((fun _ => 0) j)))) (N' := 220) hx hb (hws _ kw_88) rfl hK.1 hV hA 0 rfl (fun _ => rfl) (by decide) (by decide) (by decide) (Nat.le_of_ble_eq_true rfl) (Nat.le_of_ble_eq_true rfl) dX4_init_44 (fun a5 H hf_a5 hV => ?_)
  have h_x_a5 : hm_ap x a5 := hm_nn ((hm_up_ne _ _ h_x_a4).trans ((hm_up_ne _ _ h_x_a3).trans ((hm_up_ne _ _ h_x_a2).trans ((hm_up_ne _ _ h_x_a1).trans (hm_up_self _ _ _))))) hf_a5
  have h_a1_a5 : hm_ap a1 a5 := hm_nn ((hm_up_ne _ _ h_a1_a4).trans ((hm_up_ne _ _ h_a1_a3).trans ((hm_up_ne _ _ h_a1_a2).trans (hm_up_self _ _ _)))) hf_a5
  have h_a2_a5 : hm_ap a2 a5 := hm_nn ((hm_up_ne _ _ h_a2_a4).trans ((hm_up_ne _ _ h_a2_a3).trans (hm_up_self _ _ _))) hf_a5
  have h_a3_a5 : hm_ap a3 a5 := hm_nn ((hm_up_ne _ _ h_a3_a4).trans (hm_up_self _ _ _)) hf_a5
  have h_a4_a5 : hm_ap a4 a5 := hm_nn (hm_up_self _ _ _) hf_a5
  have hV : hm_V E.1 vwCl (hm_A M sz) s.heap (hm_up (hm_up (hm_up (hm_up (hm_up (hm_up M x (.inr (6, [.int 0, .int 0, .ref a1, .ref a2, .ref a3, .ref a4, .null, .int 0, .null, .int 0, .null, .null, .null, .null, .null, .null]))) a1 (hm_I E 16640 (fun j => nI ((fun _ => 0) j)))) a2 (hm_I E 160 (fun j => nI ((fun _ => 0) j)))) a3 (hm_Z E 160 (fun _ => 0))) a4 (hm_J E 144 (fun _ => 0))) a5 (hm_I E 220 (fun j => nI ((fun _ => 0) j)))) H locs := hV
  refine W.widen (k := 5) (n := 17324) (Nat.le_of_ble_eq_true rfl) (Nat.le_of_ble_eq_true rfl) ?_
  refine hm_putF (ci := 6) (v := .ref a5) (ty := (tyX4 6)) (C := RX4) (T := TX4) (N := 16) hx hb hws kin_X4 tyX4 tyX4_ok nmX4 hown hK.1 hV ((hm_up_ne _ _ h_x_a5).trans ((hm_up_ne _ _ h_x_a4).trans ((hm_up_ne _ _ h_x_a3).trans ((hm_up_ne _ _ h_x_a2).trans ((hm_up_ne _ _ h_x_a1).trans (hm_up_self _ _ _)))))) rfl 6 (by decide) fl24 (fun _ h9 => h9) rfl hin rfl (by decide +kernel) rfl rfl (Nat.le_of_ble_eq_true rfl) dX4_init_46 (fun H locs hV => ?_)
  rw [hm_u5 (Ne.symm h_x_a1) (Ne.symm h_x_a2) (Ne.symm h_x_a3) (Ne.symm h_x_a4) (Ne.symm h_x_a5)] at hV
  have hV : hm_V E.1 vwCl (hm_A M sz) s.heap (hm_up (hm_up (hm_up (hm_up (hm_up (hm_up M x (.inr (6, [.int 0, .int 0, .ref a1, .ref a2, .ref a3, .ref a4, .ref a5, .int 0, .null, .int 0, .null, .null, .null, .null, .null, .null]))) a1 (hm_I E 16640 (fun j => nI ((fun _ => 0) j)))) a2 (hm_I E 160 (fun j => nI ((fun _ => 0) j)))) a3 (hm_Z E 160 (fun _ => 0))) a4 (hm_J E 144 (fun _ => 0))) a5 (hm_I E 220 (fun j => nI ((fun _ => 0) j)))) H locs := hV
  refine lv_aload_n hx hb dX4_init_49 rfl (lv_at hl 0 rfl) ?_
  refine lv_sipush (v := 220) hx hb dX4_init_50 (by decide) ?_
  refine hm_newa (atype := .int) (ty := .int) (a0 := (220, .inl (fun j => nI ((fun _ => 0) j)))) (N' := 220) hx hb (hws _ kw_88) rfl hK.1 hV hA 0 rfl (fun _ => rfl) (by decide) (by decide) (by decide) (Nat.le_of_ble_eq_true rfl) (Nat.le_of_ble_eq_true rfl) dX4_init_53 (fun a6 H hf_a6 hV => ?_)
  have h_x_a6 : hm_ap x a6 := hm_nn ((hm_up_ne _ _ h_x_a5).trans ((hm_up_ne _ _ h_x_a4).trans ((hm_up_ne _ _ h_x_a3).trans ((hm_up_ne _ _ h_x_a2).trans ((hm_up_ne _ _ h_x_a1).trans (hm_up_self _ _ _)))))) hf_a6
  have h_a1_a6 : hm_ap a1 a6 := hm_nn ((hm_up_ne _ _ h_a1_a5).trans ((hm_up_ne _ _ h_a1_a4).trans ((hm_up_ne _ _ h_a1_a3).trans ((hm_up_ne _ _ h_a1_a2).trans (hm_up_self _ _ _))))) hf_a6
  have h_a2_a6 : hm_ap a2 a6 := hm_nn ((hm_up_ne _ _ h_a2_a5).trans ((hm_up_ne _ _ h_a2_a4).trans ((hm_up_ne _ _ h_a2_a3).trans (hm_up_self _ _ _)))) hf_a6
  have h_a3_a6 : hm_ap a3 a6 := hm_nn ((hm_up_ne _ _ h_a3_a5).trans ((hm_up_ne _ _ h_a3_a4).trans (hm_up_self _ _ _))) hf_a6
  have h_a4_a6 : hm_ap a4 a6 := hm_nn ((hm_up_ne _ _ h_a4_a5).trans (hm_up_self _ _ _)) hf_a6
  have h_a5_a6 : hm_ap a5 a6 := hm_nn (hm_up_self _ _ _) hf_a6
  have hV : hm_V E.1 vwCl (hm_A M sz) s.heap (hm_up (hm_up (hm_up (hm_up (hm_up (hm_up (hm_up M x (.inr (6, [.int 0, .int 0, .ref a1, .ref a2, .ref a3, .ref a4, .ref a5, .int 0, .null, .int 0, .null, .null, .null, .null, .null, .null]))) a1 (hm_I E 16640 (fun j => nI ((fun _ => 0) j)))) a2 (hm_I E 160 (fun j => nI ((fun _ => 0) j)))) a3 (hm_Z E 160 (fun _ => 0))) a4 (hm_J E 144 (fun _ => 0))) a5 (hm_I E 220 (fun j => nI ((fun _ => 0) j)))) a6 (hm_I E 220 (fun j => nI ((fun _ => 0) j)))) H locs := hV
  refine W.widen (k := 6) (n := 17544) (Nat.le_of_ble_eq_true rfl) (Nat.le_of_ble_eq_true rfl) ?_
  refine hm_putF (ci := 6) (v := .ref a6) (ty := (tyX4 8)) (C := RX4) (T := TX4) (N := 16) hx hb hws kin_X4 tyX4 tyX4_ok nmX4 hown hK.1 hV ((hm_up_ne _ _ h_x_a6).trans ((hm_up_ne _ _ h_x_a5).trans ((hm_up_ne _ _ h_x_a4).trans ((hm_up_ne _ _ h_x_a3).trans ((hm_up_ne _ _ h_x_a2).trans ((hm_up_ne _ _ h_x_a1).trans (hm_up_self _ _ _))))))) rfl 8 (by decide) fl27 (fun _ h9 => h9) rfl hin rfl (by decide +kernel) rfl rfl (Nat.le_of_ble_eq_true rfl) dX4_init_55 (fun H locs hV => ?_)
  rw [hm_u6 (Ne.symm h_x_a1) (Ne.symm h_x_a2) (Ne.symm h_x_a3) (Ne.symm h_x_a4) (Ne.symm h_x_a5) (Ne.symm h_x_a6)] at hV
  have hV : hm_V E.1 vwCl (hm_A M sz) s.heap (hm_up (hm_up (hm_up (hm_up (hm_up (hm_up (hm_up M x (.inr (6, [.int 0, .int 0, .ref a1, .ref a2, .ref a3, .ref a4, .ref a5, .int 0, .ref a6, .int 0, .null, .null, .null, .null, .null, .null]))) a1 (hm_I E 16640 (fun j => nI ((fun _ => 0) j)))) a2 (hm_I E 160 (fun j => nI ((fun _ => 0) j)))) a3 (hm_Z E 160 (fun _ => 0))) a4 (hm_J E 144 (fun _ => 0))) a5 (hm_I E 220 (fun j => nI ((fun _ => 0) j)))) a6 (hm_I E 220 (fun j => nI ((fun _ => 0) j)))) H locs := hV
  refine lv_aload_n hx hb dX4_init_58 rfl (lv_at hl 0 rfl) ?_
  refine lv_sipush (v := 220) hx hb dX4_init_59 (by decide) ?_
  refine hm_newa (atype := .int) (ty := .int) (a0 := (220, .inl (fun j => nI ((fun _ => 0) j)))) (N' := 220) hx hb (hws _ kw_88) rfl hK.1 hV hA 0 rfl (fun _ => rfl) (by decide) (by decide) (by decide) (Nat.le_of_ble_eq_true rfl) (Nat.le_of_ble_eq_true rfl) dX4_init_62 (fun a7 H hf_a7 hV => ?_)
  have h_x_a7 : hm_ap x a7 := hm_nn ((hm_up_ne _ _ h_x_a6).trans ((hm_up_ne _ _ h_x_a5).trans ((hm_up_ne _ _ h_x_a4).trans ((hm_up_ne _ _ h_x_a3).trans ((hm_up_ne _ _ h_x_a2).trans ((hm_up_ne _ _ h_x_a1).trans (hm_up_self _ _ _))))))) hf_a7
  have h_a1_a7 : hm_ap a1 a7 := hm_nn ((hm_up_ne _ _ h_a1_a6).trans ((hm_up_ne _ _ h_a1_a5).trans ((hm_up_ne _ _ h_a1_a4).trans ((hm_up_ne _ _ h_a1_a3).trans ((hm_up_ne _ _ h_a1_a2).trans (hm_up_self _ _ _)))))) hf_a7
  have h_a2_a7 : hm_ap a2 a7 := hm_nn ((hm_up_ne _ _ h_a2_a6).trans ((hm_up_ne _ _ h_a2_a5).trans ((hm_up_ne _ _ h_a2_a4).trans ((hm_up_ne _ _ h_a2_a3).trans (hm_up_self _ _ _))))) hf_a7
  have h_a3_a7 : hm_ap a3 a7 := hm_nn ((hm_up_ne _ _ h_a3_a6).trans ((hm_up_ne _ _ h_a3_a5).trans ((hm_up_ne _ _ h_a3_a4).trans (hm_up_self _ _ _)))) hf_a7
  have h_a4_a7 : hm_ap a4 a7 := hm_nn ((hm_up_ne _ _ h_a4_a6).trans ((hm_up_ne _ _ h_a4_a5).trans (hm_up_self _ _ _))) hf_a7
  have h_a5_a7 : hm_ap a5 a7 := hm_nn ((hm_up_ne _ _ h_a5_a6).trans (hm_up_self _ _ _)) hf_a7
  have h_a6_a7 : hm_ap a6 a7 := hm_nn (hm_up_self _ _ _) hf_a7
  have hV : hm_V E.1 vwCl (hm_A M sz) s.heap (hm_up (hm_up (hm_up (hm_up (hm_up (hm_up (hm_up (hm_up M x (.inr (6, [.int 0, .int 0, .ref a1, .ref a2, .ref a3, .ref a4, .ref a5, .int 0, .ref a6, .int 0, .null, .null, .null, .null, .null, .null]))) a1 (hm_I E 16640 (fun j => nI ((fun _ => 0) j)))) a2 (hm_I E 160 (fun j => nI ((fun _ => 0) j)))) a3 (hm_Z E 160 (fun _ => 0))) a4 (hm_J E 144 (fun _ => 0))) a5 (hm_I E 220 (fun j => nI ((fun _ => 0) j)))) a6 (hm_I E 220 (fun j => nI ((fun _ => 0) j)))) a7 (hm_I E 220 (fun j => nI ((fun _ => 0) j)))) H locs := hV
  refine W.widen (k := 7) (n := 17764) (Nat.le_of_ble_eq_true rfl) (Nat.le_of_ble_eq_true rfl) ?_
  refine hm_putF (ci := 6) (v := .ref a7) (ty := (tyX4 10)) (C := RX4) (T := TX4) (N := 16) hx hb hws kin_X4 tyX4 tyX4_ok nmX4 hown hK.1 hV ((hm_up_ne _ _ h_x_a7).trans ((hm_up_ne _ _ h_x_a6).trans ((hm_up_ne _ _ h_x_a5).trans ((hm_up_ne _ _ h_x_a4).trans ((hm_up_ne _ _ h_x_a3).trans ((hm_up_ne _ _ h_x_a2).trans ((hm_up_ne _ _ h_x_a1).trans (hm_up_self _ _ _)))))))) rfl 10 (by decide) fl30 (fun _ h9 => h9) rfl hin rfl (by decide +kernel) rfl rfl (Nat.le_of_ble_eq_true rfl) dX4_init_64 (fun H locs hV => ?_)
  rw [hm_u7 (Ne.symm h_x_a1) (Ne.symm h_x_a2) (Ne.symm h_x_a3) (Ne.symm h_x_a4) (Ne.symm h_x_a5) (Ne.symm h_x_a6) (Ne.symm h_x_a7)] at hV
  have hV : hm_V E.1 vwCl (hm_A M sz) s.heap (hm_up (hm_up (hm_up (hm_up (hm_up (hm_up (hm_up (hm_up M x (.inr (6, [.int 0, .int 0, .ref a1, .ref a2, .ref a3, .ref a4, .ref a5, .int 0, .ref a6, .int 0, .ref a7, .null, .null, .null, .null, .null]))) a1 (hm_I E 16640 (fun j => nI ((fun _ => 0) j)))) a2 (hm_I E 160 (fun j => nI ((fun _ => 0) j)))) a3 (hm_Z E 160 (fun _ => 0))) a4 (hm_J E 144 (fun _ => 0))) a5 (hm_I E 220 (fun j => nI ((fun _ => 0) j)))) a6 (hm_I E 220 (fun j => nI ((fun _ => 0) j)))) a7 (hm_I E 220 (fun j => nI ((fun _ => 0) j)))) H locs := hV
  refine lv_aload_n hx hb dX4_init_67 rfl (lv_at hl 0 rfl) ?_
  refine lv_ldc (v := 212992) hx hb hown ld33 dX4_init_68 ?_
  refine hm_newa (atype := .int) (ty := .int) (a0 := (212992, .inl (fun j => nI ((fun _ => 0) j)))) (N' := 212992) hx hb (hws _ kw_88) rfl hK.1 hV hA 0 rfl (fun _ => rfl) (by decide) (by decide) (by decide) (Nat.le_of_ble_eq_true rfl) (Nat.le_of_ble_eq_true rfl) dX4_init_70 (fun a8 H hf_a8 hV => ?_)
  have h_x_a8 : hm_ap x a8 := hm_nn ((hm_up_ne _ _ h_x_a7).trans ((hm_up_ne _ _ h_x_a6).trans ((hm_up_ne _ _ h_x_a5).trans ((hm_up_ne _ _ h_x_a4).trans ((hm_up_ne _ _ h_x_a3).trans ((hm_up_ne _ _ h_x_a2).trans ((hm_up_ne _ _ h_x_a1).trans (hm_up_self _ _ _)))))))) hf_a8
  have h_a1_a8 : hm_ap a1 a8 := hm_nn ((hm_up_ne _ _ h_a1_a7).trans ((hm_up_ne _ _ h_a1_a6).trans ((hm_up_ne _ _ h_a1_a5).trans ((hm_up_ne _ _ h_a1_a4).trans ((hm_up_ne _ _ h_a1_a3).trans ((hm_up_ne _ _ h_a1_a2).trans (hm_up_self _ _ _))))))) hf_a8
  have h_a2_a8 : hm_ap a2 a8 := hm_nn ((hm_up_ne _ _ h_a2_a7).trans ((hm_up_ne _ _ h_a2_a6).trans ((hm_up_ne _ _ h_a2_a5).trans ((hm_up_ne _ _ h_a2_a4).trans ((hm_up_ne _ _ h_a2_a3).trans (hm_up_self _ _ _)))))) hf_a8
  have h_a3_a8 : hm_ap a3 a8 := hm_nn ((hm_up_ne _ _ h_a3_a7).trans ((hm_up_ne _ _ h_a3_a6).trans ((hm_up_ne _ _ h_a3_a5).trans ((hm_up_ne _ _ h_a3_a4).trans (hm_up_self _ _ _))))) hf_a8
  have h_a4_a8 : hm_ap a4 a8 := hm_nn ((hm_up_ne _ _ h_a4_a7).trans ((hm_up_ne _ _ h_a4_a6).trans ((hm_up_ne _ _ h_a4_a5).trans (hm_up_self _ _ _)))) hf_a8
  have h_a5_a8 : hm_ap a5 a8 := hm_nn ((hm_up_ne _ _ h_a5_a7).trans ((hm_up_ne _ _ h_a5_a6).trans (hm_up_self _ _ _))) hf_a8
  have h_a6_a8 : hm_ap a6 a8 := hm_nn ((hm_up_ne _ _ h_a6_a7).trans (hm_up_self _ _ _)) hf_a8
  have h_a7_a8 : hm_ap a7 a8 := hm_nn (hm_up_self _ _ _) hf_a8
  have hV : hm_V E.1 vwCl (hm_A M sz) s.heap (hm_up (hm_up (hm_up (hm_up (hm_up (hm_up (hm_up (hm_up (hm_up M x (.inr (6, [.int 0, .int 0, .ref a1, .ref a2, .ref a3, .ref a4, .ref a5, .int 0, .ref a6, .int 0, .ref a7, .null, .null, .null, .null, .null]))) a1 (hm_I E 16640 (fun j => nI ((fun _ => 0) j)))) a2 (hm_I E 160 (fun j => nI ((fun _ => 0) j)))) a3 (hm_Z E 160 (fun _ => 0))) a4 (hm_J E 144 (fun _ => 0))) a5 (hm_I E 220 (fun j => nI ((fun _ => 0) j)))) a6 (hm_I E 220 (fun j => nI ((fun _ => 0) j)))) a7 (hm_I E 220 (fun j => nI ((fun _ => 0) j)))) a8 (hm_I E 212992 (fun j => nI ((fun _ => 0) j)))) H locs := hV
  refine W.widen (k := 8) (n := 230756) (Nat.le_of_ble_eq_true rfl) (Nat.le_of_ble_eq_true rfl) ?_
  refine hm_putF (ci := 6) (v := .ref a8) (ty := (tyX4 11)) (C := RX4) (T := TX4) (N := 16) hx hb hws kin_X4 tyX4 tyX4_ok nmX4 hown hK.1 hV ((hm_up_ne _ _ h_x_a8).trans ((hm_up_ne _ _ h_x_a7).trans ((hm_up_ne _ _ h_x_a6).trans ((hm_up_ne _ _ h_x_a5).trans ((hm_up_ne _ _ h_x_a4).trans ((hm_up_ne _ _ h_x_a3).trans ((hm_up_ne _ _ h_x_a2).trans ((hm_up_ne _ _ h_x_a1).trans (hm_up_self _ _ _))))))))) rfl 11 (by decide) fl34 (fun _ h9 => h9) rfl hin rfl (by decide +kernel) rfl rfl (Nat.le_of_ble_eq_true rfl) dX4_init_72 (fun H locs hV => ?_)
  rw [hm_u8 (Ne.symm h_x_a1) (Ne.symm h_x_a2) (Ne.symm h_x_a3) (Ne.symm h_x_a4) (Ne.symm h_x_a5) (Ne.symm h_x_a6) (Ne.symm h_x_a7) (Ne.symm h_x_a8)] at hV
  have hV : hm_V E.1 vwCl (hm_A M sz) s.heap (hm_up (hm_up (hm_up (hm_up (hm_up (hm_up (hm_up (hm_up (hm_up M x (.inr (6, [.int 0, .int 0, .ref a1, .ref a2, .ref a3, .ref a4, .ref a5, .int 0, .ref a6, .int 0, .ref a7, .ref a8, .null, .null, .null, .null]))) a1 (hm_I E 16640 (fun j => nI ((fun _ => 0) j)))) a2 (hm_I E 160 (fun j => nI ((fun _ => 0) j)))) a3 (hm_Z E 160 (fun _ => 0))) a4 (hm_J E 144 (fun _ => 0))) a5 (hm_I E 220 (fun j => nI ((fun _ => 0) j)))) a6 (hm_I E 220 (fun j => nI ((fun _ => 0) j)))) a7 (hm_I E 220 (fun j => nI ((fun _ => 0) j)))) a8 (hm_I E 212992 (fun j => nI ((fun _ => 0) j)))) H locs := hV
  refine lv_aload_n hx hb dX4_init_75 rfl (lv_at hl 0 rfl) ?_
  refine lv_sipush (v := 4096) hx hb dX4_init_76 (by decide) ?_
  refine hm_newa (atype := .boolean) (ty := .boolean) (a0 := (4096, .inl (fun _ => 0))) (N' := 4096) hx hb (hws _ kw_528) rfl hK.1 hV hA 2 rfl (fun _ => rfl) (by decide) (by decide) (by decide) (Nat.le_of_ble_eq_true rfl) (Nat.le_of_ble_eq_true rfl) dX4_init_79 (fun a9 H hf_a9 hV => ?_)
  have h_x_a9 : hm_ap x a9 := hm_nn ((hm_up_ne _ _ h_x_a8).trans ((hm_up_ne _ _ h_x_a7).trans ((hm_up_ne _ _ h_x_a6).trans ((hm_up_ne _ _ h_x_a5).trans ((hm_up_ne _ _ h_x_a4).trans ((hm_up_ne _ _ h_x_a3).trans ((hm_up_ne _ _ h_x_a2).trans ((hm_up_ne _ _ h_x_a1).trans (hm_up_self _ _ _))))))))) hf_a9
  have h_a1_a9 : hm_ap a1 a9 := hm_nn ((hm_up_ne _ _ h_a1_a8).trans ((hm_up_ne _ _ h_a1_a7).trans ((hm_up_ne _ _ h_a1_a6).trans ((hm_up_ne _ _ h_a1_a5).trans ((hm_up_ne _ _ h_a1_a4).trans ((hm_up_ne _ _ h_a1_a3).trans ((hm_up_ne _ _ h_a1_a2).trans (hm_up_self _ _ _)))))))) hf_a9
  have h_a2_a9 : hm_ap a2 a9 := hm_nn ((hm_up_ne _ _ h_a2_a8).trans ((hm_up_ne _ _ h_a2_a7).trans ((hm_up_ne _ _ h_a2_a6).trans ((hm_up_ne _ _ h_a2_a5).trans ((hm_up_ne _ _ h_a2_a4).trans ((hm_up_ne _ _ h_a2_a3).trans (hm_up_self _ _ _))))))) hf_a9
  have h_a3_a9 : hm_ap a3 a9 := hm_nn ((hm_up_ne _ _ h_a3_a8).trans ((hm_up_ne _ _ h_a3_a7).trans ((hm_up_ne _ _ h_a3_a6).trans ((hm_up_ne _ _ h_a3_a5).trans ((hm_up_ne _ _ h_a3_a4).trans (hm_up_self _ _ _)))))) hf_a9
  have h_a4_a9 : hm_ap a4 a9 := hm_nn ((hm_up_ne _ _ h_a4_a8).trans ((hm_up_ne _ _ h_a4_a7).trans ((hm_up_ne _ _ h_a4_a6).trans ((hm_up_ne _ _ h_a4_a5).trans (hm_up_self _ _ _))))) hf_a9
  have h_a5_a9 : hm_ap a5 a9 := hm_nn ((hm_up_ne _ _ h_a5_a8).trans ((hm_up_ne _ _ h_a5_a7).trans ((hm_up_ne _ _ h_a5_a6).trans (hm_up_self _ _ _)))) hf_a9
  have h_a6_a9 : hm_ap a6 a9 := hm_nn ((hm_up_ne _ _ h_a6_a8).trans ((hm_up_ne _ _ h_a6_a7).trans (hm_up_self _ _ _))) hf_a9
  have h_a7_a9 : hm_ap a7 a9 := hm_nn ((hm_up_ne _ _ h_a7_a8).trans (hm_up_self _ _ _)) hf_a9
  have h_a8_a9 : hm_ap a8 a9 := hm_nn (hm_up_self _ _ _) hf_a9
  have hV : hm_V E.1 vwCl (hm_A M sz) s.heap (hm_up (hm_up (hm_up (hm_up (hm_up (hm_up (hm_up (hm_up (hm_up (hm_up M x (.inr (6, [.int 0, .int 0, .ref a1, .ref a2, .ref a3, .ref a4, .ref a5, .int 0, .ref a6, .int 0, .ref a7, .ref a8, .null, .null, .null, .null]))) a1 (hm_I E 16640 (fun j => nI ((fun _ => 0) j)))) a2 (hm_I E 160 (fun j => nI ((fun _ => 0) j)))) a3 (hm_Z E 160 (fun _ => 0))) a4 (hm_J E 144 (fun _ => 0))) a5 (hm_I E 220 (fun j => nI ((fun _ => 0) j)))) a6 (hm_I E 220 (fun j => nI ((fun _ => 0) j)))) a7 (hm_I E 220 (fun j => nI ((fun _ => 0) j)))) a8 (hm_I E 212992 (fun j => nI ((fun _ => 0) j)))) a9 (hm_Z E 4096 (fun _ => 0))) H locs := hV
  refine W.widen (k := 9) (n := 234852) (Nat.le_of_ble_eq_true rfl) (Nat.le_of_ble_eq_true rfl) ?_
  refine hm_putF (ci := 6) (v := .ref a9) (ty := (tyX4 12)) (C := RX4) (T := TX4) (N := 16) hx hb hws kin_X4 tyX4 tyX4_ok nmX4 hown hK.1 hV ((hm_up_ne _ _ h_x_a9).trans ((hm_up_ne _ _ h_x_a8).trans ((hm_up_ne _ _ h_x_a7).trans ((hm_up_ne _ _ h_x_a6).trans ((hm_up_ne _ _ h_x_a5).trans ((hm_up_ne _ _ h_x_a4).trans ((hm_up_ne _ _ h_x_a3).trans ((hm_up_ne _ _ h_x_a2).trans ((hm_up_ne _ _ h_x_a1).trans (hm_up_self _ _ _)))))))))) rfl 12 (by decide) fl37 (fun _ h9 => h9) rfl hin rfl (by decide +kernel) rfl rfl (Nat.le_of_ble_eq_true rfl) dX4_init_81 (fun H locs hV => ?_)
  rw [hm_u9 (Ne.symm h_x_a1) (Ne.symm h_x_a2) (Ne.symm h_x_a3) (Ne.symm h_x_a4) (Ne.symm h_x_a5) (Ne.symm h_x_a6) (Ne.symm h_x_a7) (Ne.symm h_x_a8) (Ne.symm h_x_a9)] at hV
  have hV : hm_V E.1 vwCl (hm_A M sz) s.heap (hm_up (hm_up (hm_up (hm_up (hm_up (hm_up (hm_up (hm_up (hm_up (hm_up M x (.inr (6, [.int 0, .int 0, .ref a1, .ref a2, .ref a3, .ref a4, .ref a5, .int 0, .ref a6, .int 0, .ref a7, .ref a8, .ref a9, .null, .null, .null]))) a1 (hm_I E 16640 (fun j => nI ((fun _ => 0) j)))) a2 (hm_I E 160 (fun j => nI ((fun _ => 0) j)))) a3 (hm_Z E 160 (fun _ => 0))) a4 (hm_J E 144 (fun _ => 0))) a5 (hm_I E 220 (fun j => nI ((fun _ => 0) j)))) a6 (hm_I E 220 (fun j => nI ((fun _ => 0) j)))) a7 (hm_I E 220 (fun j => nI ((fun _ => 0) j)))) a8 (hm_I E 212992 (fun j => nI ((fun _ => 0) j)))) a9 (hm_Z E 4096 (fun _ => 0))) H locs := hV
  refine lv_aload_n hx hb dX4_init_84 rfl (lv_at hl 0 rfl) ?_
  refine lv_bipush (v := 60) hx hb dX4_init_85 (by decide) ?_
  refine hm_newa (atype := .int) (ty := .int) (a0 := (60, .inl (fun j => nI ((fun _ => 0) j)))) (N' := 60) hx hb (hws _ kw_88) rfl hK.1 hV hA 0 rfl (fun _ => rfl) (by decide) (by decide) (by decide) (Nat.le_of_ble_eq_true rfl) (Nat.le_of_ble_eq_true rfl) dX4_init_87 (fun a10 H hf_a10 hV => ?_)
  have h_x_a10 : hm_ap x a10 := hm_nn ((hm_up_ne _ _ h_x_a9).trans ((hm_up_ne _ _ h_x_a8).trans ((hm_up_ne _ _ h_x_a7).trans ((hm_up_ne _ _ h_x_a6).trans ((hm_up_ne _ _ h_x_a5).trans ((hm_up_ne _ _ h_x_a4).trans ((hm_up_ne _ _ h_x_a3).trans ((hm_up_ne _ _ h_x_a2).trans ((hm_up_ne _ _ h_x_a1).trans (hm_up_self _ _ _)))))))))) hf_a10
  have h_a1_a10 : hm_ap a1 a10 := hm_nn ((hm_up_ne _ _ h_a1_a9).trans ((hm_up_ne _ _ h_a1_a8).trans ((hm_up_ne _ _ h_a1_a7).trans ((hm_up_ne _ _ h_a1_a6).trans ((hm_up_ne _ _ h_a1_a5).trans ((hm_up_ne _ _ h_a1_a4).trans ((hm_up_ne _ _ h_a1_a3).trans ((hm_up_ne _ _ h_a1_a2).trans (hm_up_self _ _ _))))))))) hf_a10
  have h_a2_a10 : hm_ap a2 a10 := hm_nn ((hm_up_ne _ _ h_a2_a9).trans ((hm_up_ne _ _ h_a2_a8).trans ((hm_up_ne _ _ h_a2_a7).trans ((hm_up_ne _ _ h_a2_a6).trans ((hm_up_ne _ _ h_a2_a5).trans ((hm_up_ne _ _ h_a2_a4).trans ((hm_up_ne _ _ h_a2_a3).trans (hm_up_self _ _ _)))))))) hf_a10
  have h_a3_a10 : hm_ap a3 a10 := hm_nn ((hm_up_ne _ _ h_a3_a9).trans ((hm_up_ne _ _ h_a3_a8).trans ((hm_up_ne _ _ h_a3_a7).trans ((hm_up_ne _ _ h_a3_a6).trans ((hm_up_ne _ _ h_a3_a5).trans ((hm_up_ne _ _ h_a3_a4).trans (hm_up_self _ _ _))))))) hf_a10
  have h_a4_a10 : hm_ap a4 a10 := hm_nn ((hm_up_ne _ _ h_a4_a9).trans ((hm_up_ne _ _ h_a4_a8).trans ((hm_up_ne _ _ h_a4_a7).trans ((hm_up_ne _ _ h_a4_a6).trans ((hm_up_ne _ _ h_a4_a5).trans (hm_up_self _ _ _)))))) hf_a10
  have h_a5_a10 : hm_ap a5 a10 := hm_nn ((hm_up_ne _ _ h_a5_a9).trans ((hm_up_ne _ _ h_a5_a8).trans ((hm_up_ne _ _ h_a5_a7).trans ((hm_up_ne _ _ h_a5_a6).trans (hm_up_self _ _ _))))) hf_a10
  have h_a6_a10 : hm_ap a6 a10 := hm_nn ((hm_up_ne _ _ h_a6_a9).trans ((hm_up_ne _ _ h_a6_a8).trans ((hm_up_ne _ _ h_a6_a7).trans (hm_up_self _ _ _)))) hf_a10
  have h_a7_a10 : hm_ap a7 a10 := hm_nn ((hm_up_ne _ _ h_a7_a9).trans ((hm_up_ne _ _ h_a7_a8).trans (hm_up_self _ _ _))) hf_a10
  have h_a8_a10 : hm_ap a8 a10 := hm_nn ((hm_up_ne _ _ h_a8_a9).trans (hm_up_self _ _ _)) hf_a10
  have h_a9_a10 : hm_ap a9 a10 := hm_nn (hm_up_self _ _ _) hf_a10
  have hV : hm_V E.1 vwCl (hm_A M sz) s.heap (hm_up (hm_up (hm_up (hm_up (hm_up (hm_up (hm_up (hm_up (hm_up (hm_up (hm_up M x (.inr (6, [.int 0, .int 0, .ref a1, .ref a2, .ref a3, .ref a4, .ref a5, .int 0, .ref a6, .int 0, .ref a7, .ref a8, .ref a9, .null, .null, .null]))) a1 (hm_I E 16640 (fun j => nI ((fun _ => 0) j)))) a2 (hm_I E 160 (fun j => nI ((fun _ => 0) j)))) a3 (hm_Z E 160 (fun _ => 0))) a4 (hm_J E 144 (fun _ => 0))) a5 (hm_I E 220 (fun j => nI ((fun _ => 0) j)))) a6 (hm_I E 220 (fun j => nI ((fun _ => 0) j)))) a7 (hm_I E 220 (fun j => nI ((fun _ => 0) j)))) a8 (hm_I E 212992 (fun j => nI ((fun _ => 0) j)))) a9 (hm_Z E 4096 (fun _ => 0))) a10 (hm_I E 60 (fun j => nI ((fun _ => 0) j)))) H locs := hV
  refine W.widen (k := 10) (n := 234912) (Nat.le_of_ble_eq_true rfl) (Nat.le_of_ble_eq_true rfl) ?_
  refine hm_putF (ci := 6) (v := .ref a10) (ty := (tyX4 13)) (C := RX4) (T := TX4) (N := 16) hx hb hws kin_X4 tyX4 tyX4_ok nmX4 hown hK.1 hV ((hm_up_ne _ _ h_x_a10).trans ((hm_up_ne _ _ h_x_a9).trans ((hm_up_ne _ _ h_x_a8).trans ((hm_up_ne _ _ h_x_a7).trans ((hm_up_ne _ _ h_x_a6).trans ((hm_up_ne _ _ h_x_a5).trans ((hm_up_ne _ _ h_x_a4).trans ((hm_up_ne _ _ h_x_a3).trans ((hm_up_ne _ _ h_x_a2).trans ((hm_up_ne _ _ h_x_a1).trans (hm_up_self _ _ _))))))))))) rfl 13 (by decide) fl40 (fun _ h9 => h9) rfl hin rfl (by decide +kernel) rfl rfl (Nat.le_of_ble_eq_true rfl) dX4_init_89 (fun H locs hV => ?_)
  rw [hm_u10 (Ne.symm h_x_a1) (Ne.symm h_x_a2) (Ne.symm h_x_a3) (Ne.symm h_x_a4) (Ne.symm h_x_a5) (Ne.symm h_x_a6) (Ne.symm h_x_a7) (Ne.symm h_x_a8) (Ne.symm h_x_a9) (Ne.symm h_x_a10)] at hV
  have hV : hm_V E.1 vwCl (hm_A M sz) s.heap (hm_up (hm_up (hm_up (hm_up (hm_up (hm_up (hm_up (hm_up (hm_up (hm_up (hm_up M x (.inr (6, [.int 0, .int 0, .ref a1, .ref a2, .ref a3, .ref a4, .ref a5, .int 0, .ref a6, .int 0, .ref a7, .ref a8, .ref a9, .ref a10, .null, .null]))) a1 (hm_I E 16640 (fun j => nI ((fun _ => 0) j)))) a2 (hm_I E 160 (fun j => nI ((fun _ => 0) j)))) a3 (hm_Z E 160 (fun _ => 0))) a4 (hm_J E 144 (fun _ => 0))) a5 (hm_I E 220 (fun j => nI ((fun _ => 0) j)))) a6 (hm_I E 220 (fun j => nI ((fun _ => 0) j)))) a7 (hm_I E 220 (fun j => nI ((fun _ => 0) j)))) a8 (hm_I E 212992 (fun j => nI ((fun _ => 0) j)))) a9 (hm_Z E 4096 (fun _ => 0))) a10 (hm_I E 60 (fun j => nI ((fun _ => 0) j)))) H locs := hV
  refine lv_aload_n hx hb dX4_init_92 rfl (lv_at hl 0 rfl) ?_
  refine lv_bipush (v := 60) hx hb dX4_init_93 (by decide) ?_
  refine hm_newa (atype := .int) (ty := .int) (a0 := (60, .inl (fun j => nI ((fun _ => 0) j)))) (N' := 60) hx hb (hws _ kw_88) rfl hK.1 hV hA 0 rfl (fun _ => rfl) (by decide) (by decide) (by decide) (Nat.le_of_ble_eq_true rfl) (Nat.le_of_ble_eq_true rfl) dX4_init_95 (fun a11 H hf_a11 hV => ?_)
  have h_x_a11 : hm_ap x a11 := hm_nn ((hm_up_ne _ _ h_x_a10).trans ((hm_up_ne _ _ h_x_a9).trans ((hm_up_ne _ _ h_x_a8).trans ((hm_up_ne _ _ h_x_a7).trans ((hm_up_ne _ _ h_x_a6).trans ((hm_up_ne _ _ h_x_a5).trans ((hm_up_ne _ _ h_x_a4).trans ((hm_up_ne _ _ h_x_a3).trans ((hm_up_ne _ _ h_x_a2).trans ((hm_up_ne _ _ h_x_a1).trans (hm_up_self _ _ _))))))))))) hf_a11
  have h_a1_a11 : hm_ap a1 a11 := hm_nn ((hm_up_ne _ _ h_a1_a10).trans ((hm_up_ne _ _ h_a1_a9).trans ((hm_up_ne _ _ h_a1_a8).trans ((hm_up_ne _ _ h_a1_a7).trans ((hm_up_ne _ _ h_a1_a6).trans ((hm_up_ne _ _ h_a1_a5).trans ((hm_up_ne _ _ h_a1_a4).trans ((hm_up_ne _ _ h_a1_a3).trans ((hm_up_ne _ _ h_a1_a2).trans (hm_up_self _ _ _)))))))))) hf_a11
  have h_a2_a11 : hm_ap a2 a11 := hm_nn ((hm_up_ne _ _ h_a2_a10).trans ((hm_up_ne _ _ h_a2_a9).trans ((hm_up_ne _ _ h_a2_a8).trans ((hm_up_ne _ _ h_a2_a7).trans ((hm_up_ne _ _ h_a2_a6).trans ((hm_up_ne _ _ h_a2_a5).trans ((hm_up_ne _ _ h_a2_a4).trans ((hm_up_ne _ _ h_a2_a3).trans (hm_up_self _ _ _))))))))) hf_a11
  have h_a3_a11 : hm_ap a3 a11 := hm_nn ((hm_up_ne _ _ h_a3_a10).trans ((hm_up_ne _ _ h_a3_a9).trans ((hm_up_ne _ _ h_a3_a8).trans ((hm_up_ne _ _ h_a3_a7).trans ((hm_up_ne _ _ h_a3_a6).trans ((hm_up_ne _ _ h_a3_a5).trans ((hm_up_ne _ _ h_a3_a4).trans (hm_up_self _ _ _)))))))) hf_a11
  have h_a4_a11 : hm_ap a4 a11 := hm_nn ((hm_up_ne _ _ h_a4_a10).trans ((hm_up_ne _ _ h_a4_a9).trans ((hm_up_ne _ _ h_a4_a8).trans ((hm_up_ne _ _ h_a4_a7).trans ((hm_up_ne _ _ h_a4_a6).trans ((hm_up_ne _ _ h_a4_a5).trans (hm_up_self _ _ _))))))) hf_a11
  have h_a5_a11 : hm_ap a5 a11 := hm_nn ((hm_up_ne _ _ h_a5_a10).trans ((hm_up_ne _ _ h_a5_a9).trans ((hm_up_ne _ _ h_a5_a8).trans ((hm_up_ne _ _ h_a5_a7).trans ((hm_up_ne _ _ h_a5_a6).trans (hm_up_self _ _ _)))))) hf_a11
  have h_a6_a11 : hm_ap a6 a11 := hm_nn ((hm_up_ne _ _ h_a6_a10).trans ((hm_up_ne _ _ h_a6_a9).trans ((hm_up_ne _ _ h_a6_a8).trans ((hm_up_ne _ _ h_a6_a7).trans (hm_up_self _ _ _))))) hf_a11
  have h_a7_a11 : hm_ap a7 a11 := hm_nn ((hm_up_ne _ _ h_a7_a10).trans ((hm_up_ne _ _ h_a7_a9).trans ((hm_up_ne _ _ h_a7_a8).trans (hm_up_self _ _ _)))) hf_a11
  have h_a8_a11 : hm_ap a8 a11 := hm_nn ((hm_up_ne _ _ h_a8_a10).trans ((hm_up_ne _ _ h_a8_a9).trans (hm_up_self _ _ _))) hf_a11
  have h_a9_a11 : hm_ap a9 a11 := hm_nn ((hm_up_ne _ _ h_a9_a10).trans (hm_up_self _ _ _)) hf_a11
  have h_a10_a11 : hm_ap a10 a11 := hm_nn (hm_up_self _ _ _) hf_a11
  have hV : hm_V E.1 vwCl (hm_A M sz) s.heap (hm_up (hm_up (hm_up (hm_up (hm_up (hm_up (hm_up (hm_up (hm_up (hm_up (hm_up (hm_up M x (.inr (6, [.int 0, .int 0, .ref a1, .ref a2, .ref a3, .ref a4, .ref a5, .int 0, .ref a6, .int 0, .ref a7, .ref a8, .ref a9, .ref a10, .null, .null]))) a1 (hm_I E 16640 (fun j => nI ((fun _ => 0) j)))) a2 (hm_I E 160 (fun j => nI ((fun _ => 0) j)))) a3 (hm_Z E 160 (fun _ => 0))) a4 (hm_J E 144 (fun _ => 0))) a5 (hm_I E 220 (fun j => nI ((fun _ => 0) j)))) a6 (hm_I E 220 (fun j => nI ((fun _ => 0) j)))) a7 (hm_I E 220 (fun j => nI ((fun _ => 0) j)))) a8 (hm_I E 212992 (fun j => nI ((fun _ => 0) j)))) a9 (hm_Z E 4096 (fun _ => 0))) a10 (hm_I E 60 (fun j => nI ((fun _ => 0) j)))) a11 (hm_I E 60 (fun j => nI ((fun _ => 0) j)))) H locs := hV
  refine W.widen (k := 11) (n := 234972) (Nat.le_of_ble_eq_true rfl) (Nat.le_of_ble_eq_true rfl) ?_
  refine hm_putF (ci := 6) (v := .ref a11) (ty := (tyX4 14)) (C := RX4) (T := TX4) (N := 16) hx hb hws kin_X4 tyX4 tyX4_ok nmX4 hown hK.1 hV ((hm_up_ne _ _ h_x_a11).trans ((hm_up_ne _ _ h_x_a10).trans ((hm_up_ne _ _ h_x_a9).trans ((hm_up_ne _ _ h_x_a8).trans ((hm_up_ne _ _ h_x_a7).trans ((hm_up_ne _ _ h_x_a6).trans ((hm_up_ne _ _ h_x_a5).trans ((hm_up_ne _ _ h_x_a4).trans ((hm_up_ne _ _ h_x_a3).trans ((hm_up_ne _ _ h_x_a2).trans ((hm_up_ne _ _ h_x_a1).trans (hm_up_self _ _ _)))))))))))) rfl 14 (by decide) fl43 (fun _ h9 => h9) rfl hin rfl (by decide +kernel) rfl rfl (Nat.le_of_ble_eq_true rfl) dX4_init_97 (fun H locs hV => ?_)
  rw [hm_u11 (Ne.symm h_x_a1) (Ne.symm h_x_a2) (Ne.symm h_x_a3) (Ne.symm h_x_a4) (Ne.symm h_x_a5) (Ne.symm h_x_a6) (Ne.symm h_x_a7) (Ne.symm h_x_a8) (Ne.symm h_x_a9) (Ne.symm h_x_a10) (Ne.symm h_x_a11)] at hV
  have hV : hm_V E.1 vwCl (hm_A M sz) s.heap (hm_up (hm_up (hm_up (hm_up (hm_up (hm_up (hm_up (hm_up (hm_up (hm_up (hm_up (hm_up M x (.inr (6, [.int 0, .int 0, .ref a1, .ref a2, .ref a3, .ref a4, .ref a5, .int 0, .ref a6, .int 0, .ref a7, .ref a8, .ref a9, .ref a10, .ref a11, .null]))) a1 (hm_I E 16640 (fun j => nI ((fun _ => 0) j)))) a2 (hm_I E 160 (fun j => nI ((fun _ => 0) j)))) a3 (hm_Z E 160 (fun _ => 0))) a4 (hm_J E 144 (fun _ => 0))) a5 (hm_I E 220 (fun j => nI ((fun _ => 0) j)))) a6 (hm_I E 220 (fun j => nI ((fun _ => 0) j)))) a7 (hm_I E 220 (fun j => nI ((fun _ => 0) j)))) a8 (hm_I E 212992 (fun j => nI ((fun _ => 0) j)))) a9 (hm_Z E 4096 (fun _ => 0))) a10 (hm_I E 60 (fun j => nI ((fun _ => 0) j)))) a11 (hm_I E 60 (fun j => nI ((fun _ => 0) j)))) H locs := hV
  refine lv_aload_n hx hb dX4_init_100 rfl (lv_at hl 0 rfl) ?_
  refine lv_bipush (v := 60) hx hb dX4_init_101 (by decide) ?_
  refine hm_newa (atype := .int) (ty := .int) (a0 := (60, .inl (fun j => nI ((fun _ => 0) j)))) (N' := 60) hx hb (hws _ kw_88) rfl hK.1 hV hA 0 rfl (fun _ => rfl) (by decide) (by decide) (by decide) (Nat.le_of_ble_eq_true rfl) (Nat.le_of_ble_eq_true rfl) dX4_init_103 (fun a12 H hf_a12 hV => ?_)
  have h_x_a12 : hm_ap x a12 := hm_nn ((hm_up_ne _ _ h_x_a11).trans ((hm_up_ne _ _ h_x_a10).trans ((hm_up_ne _ _ h_x_a9).trans ((hm_up_ne _ _ h_x_a8).trans ((hm_up_ne _ _ h_x_a7).trans ((hm_up_ne _ _ h_x_a6).trans ((hm_up_ne _ _ h_x_a5).trans ((hm_up_ne _ _ h_x_a4).trans ((hm_up_ne _ _ h_x_a3).trans ((hm_up_ne _ _ h_x_a2).trans ((hm_up_ne _ _ h_x_a1).trans (hm_up_self _ _ _)))))))))))) hf_a12
  have h_a1_a12 : hm_ap a1 a12 := hm_nn ((hm_up_ne _ _ h_a1_a11).trans ((hm_up_ne _ _ h_a1_a10).trans ((hm_up_ne _ _ h_a1_a9).trans ((hm_up_ne _ _ h_a1_a8).trans ((hm_up_ne _ _ h_a1_a7).trans ((hm_up_ne _ _ h_a1_a6).trans ((hm_up_ne _ _ h_a1_a5).trans ((hm_up_ne _ _ h_a1_a4).trans ((hm_up_ne _ _ h_a1_a3).trans ((hm_up_ne _ _ h_a1_a2).trans (hm_up_self _ _ _))))))))))) hf_a12
  have h_a2_a12 : hm_ap a2 a12 := hm_nn ((hm_up_ne _ _ h_a2_a11).trans ((hm_up_ne _ _ h_a2_a10).trans ((hm_up_ne _ _ h_a2_a9).trans ((hm_up_ne _ _ h_a2_a8).trans ((hm_up_ne _ _ h_a2_a7).trans ((hm_up_ne _ _ h_a2_a6).trans ((hm_up_ne _ _ h_a2_a5).trans ((hm_up_ne _ _ h_a2_a4).trans ((hm_up_ne _ _ h_a2_a3).trans (hm_up_self _ _ _)))))))))) hf_a12
  have h_a3_a12 : hm_ap a3 a12 := hm_nn ((hm_up_ne _ _ h_a3_a11).trans ((hm_up_ne _ _ h_a3_a10).trans ((hm_up_ne _ _ h_a3_a9).trans ((hm_up_ne _ _ h_a3_a8).trans ((hm_up_ne _ _ h_a3_a7).trans ((hm_up_ne _ _ h_a3_a6).trans ((hm_up_ne _ _ h_a3_a5).trans ((hm_up_ne _ _ h_a3_a4).trans (hm_up_self _ _ _))))))))) hf_a12
  have h_a4_a12 : hm_ap a4 a12 := hm_nn ((hm_up_ne _ _ h_a4_a11).trans ((hm_up_ne _ _ h_a4_a10).trans ((hm_up_ne _ _ h_a4_a9).trans ((hm_up_ne _ _ h_a4_a8).trans ((hm_up_ne _ _ h_a4_a7).trans ((hm_up_ne _ _ h_a4_a6).trans ((hm_up_ne _ _ h_a4_a5).trans (hm_up_self _ _ _)))))))) hf_a12
  have h_a5_a12 : hm_ap a5 a12 := hm_nn ((hm_up_ne _ _ h_a5_a11).trans ((hm_up_ne _ _ h_a5_a10).trans ((hm_up_ne _ _ h_a5_a9).trans ((hm_up_ne _ _ h_a5_a8).trans ((hm_up_ne _ _ h_a5_a7).trans ((hm_up_ne _ _ h_a5_a6).trans (hm_up_self _ _ _))))))) hf_a12
  have h_a6_a12 : hm_ap a6 a12 := hm_nn ((hm_up_ne _ _ h_a6_a11).trans ((hm_up_ne _ _ h_a6_a10).trans ((hm_up_ne _ _ h_a6_a9).trans ((hm_up_ne _ _ h_a6_a8).trans ((hm_up_ne _ _ h_a6_a7).trans (hm_up_self _ _ _)))))) hf_a12
  have h_a7_a12 : hm_ap a7 a12 := hm_nn ((hm_up_ne _ _ h_a7_a11).trans ((hm_up_ne _ _ h_a7_a10).trans ((hm_up_ne _ _ h_a7_a9).trans ((hm_up_ne _ _ h_a7_a8).trans (hm_up_self _ _ _))))) hf_a12
  have h_a8_a12 : hm_ap a8 a12 := hm_nn ((hm_up_ne _ _ h_a8_a11).trans ((hm_up_ne _ _ h_a8_a10).trans ((hm_up_ne _ _ h_a8_a9).trans (hm_up_self _ _ _)))) hf_a12
  have h_a9_a12 : hm_ap a9 a12 := hm_nn ((hm_up_ne _ _ h_a9_a11).trans ((hm_up_ne _ _ h_a9_a10).trans (hm_up_self _ _ _))) hf_a12
  have h_a10_a12 : hm_ap a10 a12 := hm_nn ((hm_up_ne _ _ h_a10_a11).trans (hm_up_self _ _ _)) hf_a12
  have h_a11_a12 : hm_ap a11 a12 := hm_nn (hm_up_self _ _ _) hf_a12
  have hV : hm_V E.1 vwCl (hm_A M sz) s.heap (hm_up (hm_up (hm_up (hm_up (hm_up (hm_up (hm_up (hm_up (hm_up (hm_up (hm_up (hm_up (hm_up M x (.inr (6, [.int 0, .int 0, .ref a1, .ref a2, .ref a3, .ref a4, .ref a5, .int 0, .ref a6, .int 0, .ref a7, .ref a8, .ref a9, .ref a10, .ref a11, .null]))) a1 (hm_I E 16640 (fun j => nI ((fun _ => 0) j)))) a2 (hm_I E 160 (fun j => nI ((fun _ => 0) j)))) a3 (hm_Z E 160 (fun _ => 0))) a4 (hm_J E 144 (fun _ => 0))) a5 (hm_I E 220 (fun j => nI ((fun _ => 0) j)))) a6 (hm_I E 220 (fun j => nI ((fun _ => 0) j)))) a7 (hm_I E 220 (fun j => nI ((fun _ => 0) j)))) a8 (hm_I E 212992 (fun j => nI ((fun _ => 0) j)))) a9 (hm_Z E 4096 (fun _ => 0))) a10 (hm_I E 60 (fun j => nI ((fun _ => 0) j)))) a11 (hm_I E 60 (fun j => nI ((fun _ => 0) j)))) a12 (hm_I E 60 (fun j => nI ((fun _ => 0) j)))) H locs := hV
  refine W.widen (k := 12) (n := 235032) (Nat.le_of_ble_eq_true rfl) (Nat.le_of_ble_eq_true rfl) ?_
  refine hm_putF (ci := 6) (v := .ref a12) (ty := (tyX4 15)) (C := RX4) (T := TX4) (N := 16) hx hb hws kin_X4 tyX4 tyX4_ok nmX4 hown hK.1 hV ((hm_up_ne _ _ h_x_a12).trans ((hm_up_ne _ _ h_x_a11).trans ((hm_up_ne _ _ h_x_a10).trans ((hm_up_ne _ _ h_x_a9).trans ((hm_up_ne _ _ h_x_a8).trans ((hm_up_ne _ _ h_x_a7).trans ((hm_up_ne _ _ h_x_a6).trans ((hm_up_ne _ _ h_x_a5).trans ((hm_up_ne _ _ h_x_a4).trans ((hm_up_ne _ _ h_x_a3).trans ((hm_up_ne _ _ h_x_a2).trans ((hm_up_ne _ _ h_x_a1).trans (hm_up_self _ _ _))))))))))))) rfl 15 (by decide) fl46 (fun _ h9 => h9) rfl hin rfl (by decide +kernel) rfl rfl (Nat.le_of_ble_eq_true rfl) dX4_init_105 (fun H locs hV => ?_)
  rw [hm_u12 (Ne.symm h_x_a1) (Ne.symm h_x_a2) (Ne.symm h_x_a3) (Ne.symm h_x_a4) (Ne.symm h_x_a5) (Ne.symm h_x_a6) (Ne.symm h_x_a7) (Ne.symm h_x_a8) (Ne.symm h_x_a9) (Ne.symm h_x_a10) (Ne.symm h_x_a11) (Ne.symm h_x_a12)] at hV
  have hV : hm_V E.1 vwCl (hm_A M sz) s.heap (hm_up (hm_up (hm_up (hm_up (hm_up (hm_up (hm_up (hm_up (hm_up (hm_up (hm_up (hm_up (hm_up M x (.inr (6, [.int 0, .int 0, .ref a1, .ref a2, .ref a3, .ref a4, .ref a5, .int 0, .ref a6, .int 0, .ref a7, .ref a8, .ref a9, .ref a10, .ref a11, .ref a12]))) a1 (hm_I E 16640 (fun j => nI ((fun _ => 0) j)))) a2 (hm_I E 160 (fun j => nI ((fun _ => 0) j)))) a3 (hm_Z E 160 (fun _ => 0))) a4 (hm_J E 144 (fun _ => 0))) a5 (hm_I E 220 (fun j => nI ((fun _ => 0) j)))) a6 (hm_I E 220 (fun j => nI ((fun _ => 0) j)))) a7 (hm_I E 220 (fun j => nI ((fun _ => 0) j)))) a8 (hm_I E 212992 (fun j => nI ((fun _ => 0) j)))) a9 (hm_Z E 4096 (fun _ => 0))) a10 (hm_I E 60 (fun j => nI ((fun _ => 0) j)))) a11 (hm_I E 60 (fun j => nI ((fun _ => 0) j)))) a12 (hm_I E 60 (fun j => nI ((fun _ => 0) j)))) H locs := hV
  have hap : ∀ i j, i < j → j < 13 → hm_ap (aL [x, a1, a2, a3, a4, a5, a6, a7, a8, a9, a10, a11, a12] i) (aL [x, a1, a2, a3, a4, a5, a6, a7, a8, a9, a10, a11, a12] j) := by
    intro i j hij hj
    rcases (show j = 1 ∨ j = 2 ∨ j = 3 ∨ j = 4 ∨ j = 5 ∨ j = 6 ∨ j = 7 ∨ j = 8 ∨ j = 9 ∨ j = 10 ∨ j = 11 ∨ j = 12 by omega) with e9 | e9 | e9 | e9 | e9 | e9 | e9 | e9 | e9 | e9 | e9 | e9 <;> subst e9
    · have e8 : i = 0 := by omega
      subst e8; exact h_x_a1
    · rcases (show i = 0 ∨ i = 1 by omega) with e8 | e8 <;> subst e8
      · exact h_x_a2
      · exact h_a1_a2
    · rcases (show i = 0 ∨ i = 1 ∨ i = 2 by omega) with e8 | e8 | e8 <;> subst e8
      · exact h_x_a3
      · exact h_a1_a3
      · exact h_a2_a3
    · rcases (show i = 0 ∨ i = 1 ∨ i = 2 ∨ i = 3 by omega) with e8 | e8 | e8 | e8 <;> subst e8
      · exact h_x_a4
      · exact h_a1_a4
      · exact h_a2_a4
      · exact h_a3_a4
    · rcases (show i = 0 ∨ i = 1 ∨ i = 2 ∨ i = 3 ∨ i = 4 by omega) with e8 | e8 | e8 | e8 | e8 <;> subst e8
      · exact h_x_a5
      · exact h_a1_a5
      · exact h_a2_a5
      · exact h_a3_a5
      · exact h_a4_a5
    · rcases (show i = 0 ∨ i = 1 ∨ i = 2 ∨ i = 3 ∨ i = 4 ∨ i = 5 by omega) with e8 | e8 | e8 | e8 | e8 | e8 <;> subst e8
      · exact h_x_a6
      · exact h_a1_a6
      · exact h_a2_a6
      · exact h_a3_a6
      · exact h_a4_a6
      · exact h_a5_a6
    · rcases (show i = 0 ∨ i = 1 ∨ i = 2 ∨ i = 3 ∨ i = 4 ∨ i = 5 ∨ i = 6 by omega) with e8 | e8 | e8 | e8 | e8 | e8 | e8 <;> subst e8
      · exact h_x_a7
      · exact h_a1_a7
      · exact h_a2_a7
      · exact h_a3_a7
      · exact h_a4_a7
      · exact h_a5_a7
      · exact h_a6_a7
    · rcases (show i = 0 ∨ i = 1 ∨ i = 2 ∨ i = 3 ∨ i = 4 ∨ i = 5 ∨ i = 6 ∨ i = 7 by omega) with e8 | e8 | e8 | e8 | e8 | e8 | e8 | e8 <;> subst e8
      · exact h_x_a8
      · exact h_a1_a8
      · exact h_a2_a8
      · exact h_a3_a8
      · exact h_a4_a8
      · exact h_a5_a8
      · exact h_a6_a8
      · exact h_a7_a8
    · rcases (show i = 0 ∨ i = 1 ∨ i = 2 ∨ i = 3 ∨ i = 4 ∨ i = 5 ∨ i = 6 ∨ i = 7 ∨ i = 8 by omega) with e8 | e8 | e8 | e8 | e8 | e8 | e8 | e8 | e8 <;> subst e8
      · exact h_x_a9
      · exact h_a1_a9
      · exact h_a2_a9
      · exact h_a3_a9
      · exact h_a4_a9
      · exact h_a5_a9
      · exact h_a6_a9
      · exact h_a7_a9
      · exact h_a8_a9
    · rcases (show i = 0 ∨ i = 1 ∨ i = 2 ∨ i = 3 ∨ i = 4 ∨ i = 5 ∨ i = 6 ∨ i = 7 ∨ i = 8 ∨ i = 9 by omega) with e8 | e8 | e8 | e8 | e8 | e8 | e8 | e8 | e8 | e8 <;> subst e8
      · exact h_x_a10
      · exact h_a1_a10
      · exact h_a2_a10
      · exact h_a3_a10
      · exact h_a4_a10
      · exact h_a5_a10
      · exact h_a6_a10
      · exact h_a7_a10
      · exact h_a8_a10
      · exact h_a9_a10
    · rcases (show i = 0 ∨ i = 1 ∨ i = 2 ∨ i = 3 ∨ i = 4 ∨ i = 5 ∨ i = 6 ∨ i = 7 ∨ i = 8 ∨ i = 9 ∨ i = 10 by omega) with e8 | e8 | e8 | e8 | e8 | e8 | e8 | e8 | e8 | e8 | e8 <;> subst e8
      · exact h_x_a11
      · exact h_a1_a11
      · exact h_a2_a11
      · exact h_a3_a11
      · exact h_a4_a11
      · exact h_a5_a11
      · exact h_a6_a11
      · exact h_a7_a11
      · exact h_a8_a11
      · exact h_a9_a11
      · exact h_a10_a11
    · rcases (show i = 0 ∨ i = 1 ∨ i = 2 ∨ i = 3 ∨ i = 4 ∨ i = 5 ∨ i = 6 ∨ i = 7 ∨ i = 8 ∨ i = 9 ∨ i = 10 ∨ i = 11 by omega) with e8 | e8 | e8 | e8 | e8 | e8 | e8 | e8 | e8 | e8 | e8 | e8 <;> subst e8
      · exact h_x_a12
      · exact h_a1_a12
      · exact h_a2_a12
      · exact h_a3_a12
      · exact h_a4_a12
      · exact h_a5_a12
      · exact h_a6_a12
      · exact h_a7_a12
      · exact h_a8_a12
      · exact h_a9_a12
      · exact h_a10_a12
      · exact h_a11_a12
  rw [hQf]
  exact W.vret hx hb hr (fun t9 ht hW => ⟨⟨(hm_up (hm_up (hm_up (hm_up (hm_up (hm_up (hm_up (hm_up (hm_up (hm_up (hm_up (hm_up (hm_up M x (.inr (6, [.int 0, .int 0, .ref a1, .ref a2, .ref a3, .ref a4, .ref a5, .int 0, .ref a6, .int 0, .ref a7, .ref a8, .ref a9, .ref a10, .ref a11, .ref a12]))) a1 (hm_I E 16640 (fun j => nI ((fun _ => 0) j)))) a2 (hm_I E 160 (fun j => nI ((fun _ => 0) j)))) a3 (hm_Z E 160 (fun _ => 0))) a4 (hm_J E 144 (fun _ => 0))) a5 (hm_I E 220 (fun j => nI ((fun _ => 0) j)))) a6 (hm_I E 220 (fun j => nI ((fun _ => 0) j)))) a7 (hm_I E 220 (fun j => nI ((fun _ => 0) j)))) a8 (hm_I E 212992 (fun j => nI ((fun _ => 0) j)))) a9 (hm_Z E 4096 (fun _ => 0))) a10 (hm_I E 60 (fun j => nI ((fun _ => 0) j)))) a11 (hm_I E 60 (fun j => nI ((fun _ => 0) j)))) a12 (hm_I E 60 (fun j => nI ((fun _ => 0) j)))), rfl, ⟨aL [x, a1, a2, a3, a4, a5, a6, a7, a8, a9, a10, a11, a12], rfl, md_mk ((hm_up_ne _ _ h_x_a12).trans ((hm_up_ne _ _ h_x_a11).trans ((hm_up_ne _ _ h_x_a10).trans ((hm_up_ne _ _ h_x_a9).trans ((hm_up_ne _ _ h_x_a8).trans ((hm_up_ne _ _ h_x_a7).trans ((hm_up_ne _ _ h_x_a6).trans ((hm_up_ne _ _ h_x_a5).trans ((hm_up_ne _ _ h_x_a4).trans ((hm_up_ne _ _ h_x_a3).trans ((hm_up_ne _ _ h_x_a2).trans ((hm_up_ne _ _ h_x_a1).trans (hm_up_self _ _ _))))))))))))) ((hm_up_ne _ _ h_a1_a12).trans ((hm_up_ne _ _ h_a1_a11).trans ((hm_up_ne _ _ h_a1_a10).trans ((hm_up_ne _ _ h_a1_a9).trans ((hm_up_ne _ _ h_a1_a8).trans ((hm_up_ne _ _ h_a1_a7).trans ((hm_up_ne _ _ h_a1_a6).trans ((hm_up_ne _ _ h_a1_a5).trans ((hm_up_ne _ _ h_a1_a4).trans ((hm_up_ne _ _ h_a1_a3).trans ((hm_up_ne _ _ h_a1_a2).trans (hm_up_self _ _ _)))))))))))) ((hm_up_ne _ _ h_a2_a12).trans ((hm_up_ne _ _ h_a2_a11).trans ((hm_up_ne _ _ h_a2_a10).trans ((hm_up_ne _ _ h_a2_a9).trans ((hm_up_ne _ _ h_a2_a8).trans ((hm_up_ne _ _ h_a2_a7).trans ((hm_up_ne _ _ h_a2_a6).trans ((hm_up_ne _ _ h_a2_a5).trans ((hm_up_ne _ _ h_a2_a4).trans ((hm_up_ne _ _ h_a2_a3).trans (hm_up_self _ _ _))))))))))) ((hm_up_ne _ _ h_a3_a12).trans ((hm_up_ne _ _ h_a3_a11).trans ((hm_up_ne _ _ h_a3_a10).trans ((hm_up_ne _ _ h_a3_a9).trans ((hm_up_ne _ _ h_a3_a8).trans ((hm_up_ne _ _ h_a3_a7).trans ((hm_up_ne _ _ h_a3_a6).trans ((hm_up_ne _ _ h_a3_a5).trans ((hm_up_ne _ _ h_a3_a4).trans (hm_up_self _ _ _)))))))))) ((hm_up_ne _ _ h_a4_a12).trans ((hm_up_ne _ _ h_a4_a11).trans ((hm_up_ne _ _ h_a4_a10).trans ((hm_up_ne _ _ h_a4_a9).trans ((hm_up_ne _ _ h_a4_a8).trans ((hm_up_ne _ _ h_a4_a7).trans ((hm_up_ne _ _ h_a4_a6).trans ((hm_up_ne _ _ h_a4_a5).trans (hm_up_self _ _ _))))))))) ((hm_up_ne _ _ h_a5_a12).trans ((hm_up_ne _ _ h_a5_a11).trans ((hm_up_ne _ _ h_a5_a10).trans ((hm_up_ne _ _ h_a5_a9).trans ((hm_up_ne _ _ h_a5_a8).trans ((hm_up_ne _ _ h_a5_a7).trans ((hm_up_ne _ _ h_a5_a6).trans (hm_up_self _ _ _)))))))) ((hm_up_ne _ _ h_a6_a12).trans ((hm_up_ne _ _ h_a6_a11).trans ((hm_up_ne _ _ h_a6_a10).trans ((hm_up_ne _ _ h_a6_a9).trans ((hm_up_ne _ _ h_a6_a8).trans ((hm_up_ne _ _ h_a6_a7).trans (hm_up_self _ _ _))))))) ((hm_up_ne _ _ h_a7_a12).trans ((hm_up_ne _ _ h_a7_a11).trans ((hm_up_ne _ _ h_a7_a10).trans ((hm_up_ne _ _ h_a7_a9).trans ((hm_up_ne _ _ h_a7_a8).trans (hm_up_self _ _ _)))))) ((hm_up_ne _ _ h_a8_a12).trans ((hm_up_ne _ _ h_a8_a11).trans ((hm_up_ne _ _ h_a8_a10).trans ((hm_up_ne _ _ h_a8_a9).trans (hm_up_self _ _ _))))) ((hm_up_ne _ _ h_a9_a12).trans ((hm_up_ne _ _ h_a9_a11).trans ((hm_up_ne _ _ h_a9_a10).trans (hm_up_self _ _ _)))) ((hm_up_ne _ _ h_a10_a12).trans ((hm_up_ne _ _ h_a10_a11).trans (hm_up_self _ _ _))) ((hm_up_ne _ _ h_a11_a12).trans (hm_up_self _ _ _)) (hm_up_self _ _ _) hap⟩, (hm_end hV ht).1⟩, (hm_end hV ht).2⟩) hV.2.2.2.2 dX4_init_108

abbrev wd_X3_determinant : List Cond := .code yX3_determinant cX3_determinant 2 (some .int) :: hm_ws
abbrev rm_X3_determinant : Room := { frames := 6, cells := 296, slots := 5679, locals := 158 }

set_option maxHeartbeats 4000000 in
set_option maxRecDepth 100000 in
/-- determinant(size) -/
theorem c_X3_determinant (l : Launch) (E : hm_E) {M : hm_M} {A ad rw : Nat → Nat} {cnt : Nat} {el : Bool} {z : Nat → Int} {t : Nat → Nat → Int64} {a : Int32} (hk : xw E M A ad rw cnt el z t)  : hm_XCi l E yX3_determinant wd_X3_determinant rm_X3_determinant [.ref (A 0), .int a] M (fun r M1 => ∃ cnt1 nums1, kp cnt (fun j => z (200 + j)) (spD t a) r cnt1 nums1 ∧ xp E M1 (A 0) cnt1 nums1 t) := by
  intro sz
  refine Met.ofW (cc := cX3_determinant) (maxL := 2) (ret := (some .int)) (by decide) rfl ?_
  intro p e s m args below meth c s₁ B hml hv
  obtain ⟨rfl, hAe, hA, hK, hV, hY⟩ := hm_startX hv
  have hx := B.exec
  have hb := B.bytes
  have hr := B.returns
  have hts := atoms_spec (ws := wd_X3_determinant) B.pre
  have hws : ∀ w ∈ hm_ws, w.before _ s = true := fun w h => hts w (List.mem_cons_of_mem _ h)
  have hown : s.vm.findClass RX3 = some m.cls := findClass_of_methodNamed B.named
  have hlocks := B.notSynchronized
  have fl27 := hws _ kw_105
  have fl41 := hws _ kw_108
  have fl37 := hws _ kw_107
  have fl21 := hws _ kw_104
  have hl := lv_entry ([.ref (A 0), .int a]) (n := 2) (Nat.le_of_ble_eq_true rfl)
  rw [lg_entry_eq]
  generalize (lg_sl ([.ref (A 0), .int a]) ++ List.replicate (2 - (lg_sl ([.ref (A 0), .int a])).length) Slot.unset).toArray = ls at hl ⊢
  have hl : lv_has ls 2 [(0, .ref (A 0)), (1, .int a)] := hl
  refine hm_gen (rm := rm_X3_determinant) rfl (fun Qf hQf => ?_)
  have no : (160 ≤ cnt ∨ spD t a = none) → ∀ (ls : Array Slot) (H : Heap) (locs : List Loc), lv_has ls 2 [(0, .ref (A 0)), (1, .int a)] → hm_V E.1 vwCl (hm_A M sz) s.heap (M) H locs → W p l e rm_X3_determinant s m [.ref (A 0), .int a].toArray below meth c H locs 0 0 Qf (F0 m 17 ls []) := by
    intro  hno ls H locs hl hV
    refine lv_iconst (v := (-1)) hx hb dX3_determinant_17 (by decide) ?_
    refine W.widen (k := 296) (n := 5679) (Nat.le_of_ble_eq_true rfl) (Nat.le_of_ble_eq_true rfl) ?_
    rw [hQf]
    exact W.iret hx hb hr (fun t9 ht hW => ⟨⟨_, M, rfl, ⟨cnt, (fun j => z (200 + j)), Or.inr ⟨by
      rcases hno with h9 | h9
      · exact Or.inl h9
      · exact Or.inr (Or.inl h9), rfl, rfl, fun _ _ => rfl⟩, xp_of hk (fun _ _ => rfl)⟩, (hm_end hV ht).1⟩, (hm_end hV ht).2⟩) hV.2.2.2.2 dX3_determinant_18
  refine lv_iload_n hx hb dX3_determinant_0 rfl (lv_at hl 1 rfl) ?_
  refine lv_if_lt (tgt := 17) hx hb dX3_determinant_1 (by decide) (fun c1 => ?_) (fun c1 => ?_)
  · exact no (Or.inr (if_pos (Or.inl c1))) ls s.heap [] (lv_sub hl [0, 1] rfl) hV
  · refine lv_iload_n hx hb dX3_determinant_4 rfl (lv_at hl 1 rfl) ?_
    refine lv_bipush (v := 12) hx hb dX3_determinant_5 (by decide) ?_
    refine lv_icmp_gt (tgt := 17) hx hb dX3_determinant_7 (by decide) (fun c7 => ?_) (fun c7 => ?_)
    · exact no (Or.inr (if_pos (Or.inr c7))) ls s.heap [] (lv_sub hl [0, 1] rfl) hV
    · obtain ⟨n, hn, rfl⟩ := nI_of2 (M := 12) (n := 12) rfl c1 (Int32.not_lt.mp c7)
      have hl : lv_has ls 2 [(0, .ref (A 0)), (1, .int (nI n))] := hl
      refine lv_aload_n hx hb dX3_determinant_10 rfl (lv_at hl 0 rfl) ?_
      refine hm_calli (va_runV (As := []) (rest := []) ⟨hx, hb, hml, hown, hts⟩ (c_X3_isFull l E (xw_x hk) (xw_cn hk) s.heap.size) (cwV 0 hts (hm_gV kw_128 kw_130 kw_0 kw_37 kw_131) rfl rfl rfl (by decide +kernel) ⟨Nat.le_of_ble_eq_true rfl, Nat.le_of_ble_eq_true rfl⟩) (hm_preV hK hV (xw_x hk) rfl) rfl rfl hl.1 rfl (lv_room (Nat.le_of_ble_eq_true rfl)) dX3_determinant_11 ⟨Nat.le_of_ble_eq_true rfl, Nat.le_of_ble_eq_true rfl⟩) hV hA (fun r11 M1 H locs hp hV => ?_)
      obtain ⟨hrf, hM1⟩ := hp
      rw [hM1] at hV
      refine lv_if_eq (tgt := 19) hx hb dX3_determinant_14 (by decide) (fun c14 => ?_) (fun c14 => ?_)
      · have hc1 : cnt < 160 := by
          rcases hrf with h9 | h9
          · rw [h9.1] at c14; exact absurd c14 (by decide)
          · exact h9.2
        rw [spD_n hn] at hQf
        obtain ⟨nZ, dZ, kZ, gZ, hnZ, hwZ, haZ, hoZ⟩ := xw_at hk (i := 0) (Or.inl (by omega))
        have eZ : nZ = 65 := hnZ.1 (by omega)
        subst eZ
        have qZ := hoZ.1
        refine lv_iload_n hx hb dX3_determinant_19 rfl (lv_at hl 1 rfl) ?_
        refine lv_if_ne (tgt := 40) hx hb dX3_determinant_20 (by decide) (fun c20 => ?_) (fun c20 => ?_)
        · have hn0 : 0 < n := by
            rcases Nat.eq_zero_or_pos n with q | q
            · rw [q] at c20; exact absurd rfl c20
            · exact q
          have solve : ∀ (N : hm_M) (A1 : Nat → Nat) (ad1 : Nat → Nat) (rw1 : Nat → Nat) (y : Nat → Int), (A1 0 = A 0) → (xw E N A1 ad1 rw1 cnt true y t) → (∀ i, 200 ≤ i → y i = z i) → ∀ (ls : Array Slot) (H : Heap) (locs : List Loc), lv_has ls 2 [(0, .ref (A 0)), (1, .int (nI n))] → hm_V E.1 vwCl (hm_A M sz) s.heap (N) H locs → W p l e rm_X3_determinant s m [.ref (A 0), .int (nI n)].toArray below meth c H locs 294 5612 Qf (F0 m 62 ls []) := by
            intro N A1 ad1 rw1 y hA1 hk hyo ls H locs hl hV
            have hx0 := xw_xt hk
            rw [hA1] at hx0
            refine lv_aload_n hx hb dX3_determinant_62 rfl (lv_at hl 0 rfl) ?_
            refine hm_get (ci := 5) (v := .ref (A1 6)) (C := RX3) (T := TX3) (N := 7) hx hb hws kin_X3 hown hK.1 hV hx0 rfl 6 (by decide) fl41 (fun _ h9 => h9) rfl dX3_determinant_63 ?_
            refine lv_aload_n hx hb dX3_determinant_66 rfl (lv_at hl 0 rfl) ?_
            refine hm_get (ci := 5) (v := .ref (A1 2)) (C := RX3) (T := TX3) (N := 7) hx hb hws kin_X3 hown hK.1 hV hx0 rfl 2 (by decide) fl21 (fun _ h9 => h9) rfl dX3_determinant_67 ?_
            refine lv_iload_n hx hb dX3_determinant_70 rfl (lv_at hl 1 rfl) ?_
            refine lv_aload_n hx hb dX3_determinant_71 rfl (lv_at hl 0 rfl) ?_
            refine hm_get (ci := 5) (v := .ref (ad1 0)) (C := RX3) (T := TX3) (N := 7) hx hb hws kin_X3 hown hK.1 hV hx0 rfl 3 (by decide) fl27 (fun _ h9 => h9) rfl dX3_determinant_72 ?_
            refine hm_callv (va_runV (As := [.ref (A1 2), .int (nI n), .ref (ad1 0)]) (rest := []) ⟨hx, hb, hml, hown, hts⟩ (c_X1_solve l E hk hn0 hn H.size) (cwV 3 hts (hm_gV kw_206 kw_207 kw_208 kw_50 kw_209) rfl rfl rfl (by decide +kernel) ⟨Nat.le_of_ble_eq_true rfl, Nat.le_of_ble_eq_true rfl⟩) (hm_preV hK hV (xw_e hk) rfl) rfl rfl hl.1 rfl (lv_room (Nat.le_of_ble_eq_true rfl)) dX3_determinant_75 ⟨Nat.le_of_ble_eq_true rfl, Nat.le_of_ble_eq_true rfl⟩) hV hA (fun M1 H locs hp hV => ?_)
            obtain ⟨ad2, rw2, y2, hk, hy2o, hy2⟩ := hp
            have hx0 := xw_xt hk
            rw [hA1] at hx0
            refine lv_aload_n hx hb dX3_determinant_78 rfl (lv_at hl 0 rfl) ?_
            refine lv_aload_n hx hb dX3_determinant_79 rfl (lv_at hl 0 rfl) ?_
            refine hm_get (ci := 5) (v := .ref (ad2 0)) (C := RX3) (T := TX3) (N := 7) hx hb hws kin_X3 hown hK.1 hV hx0 rfl 3 (by decide) fl27 (fun _ h9 => h9) rfl dX3_determinant_80 ?_
            have hck := c_X3_keep l E hk
            rw [hA1] at hck
            refine hm_calli (va_runV (As := [.ref (ad2 0)]) (rest := []) ⟨hx, hb, hml, hown, hts⟩ (hck H.size) (cwV 1 hts (hm_gV kw_144 kw_146 kw_2 kw_37 kw_147) rfl rfl rfl (by decide +kernel) ⟨Nat.le_of_ble_eq_true rfl, Nat.le_of_ble_eq_true rfl⟩) (hm_preV hK hV hx0 rfl) rfl rfl hl.1 rfl (lv_room (Nat.le_of_ble_eq_true rfl)) dX3_determinant_83 ⟨Nat.le_of_ble_eq_true rfl, Nat.le_of_ble_eq_true rfl⟩) hV hA (fun r83 M1 H locs hp hV => ?_)
            obtain ⟨cnt1, nums1, hkp, hxp⟩ := hp
            have hkp1 := kp_c (z := z) hkp (fun j _ => by rw [hy2o _ (by omega)]; exact hyo _ (by omega)) hy2
            rw [hQf]
            exact W.iret hx hb hr (fun t9 ht hW => ⟨⟨_, M1, rfl, ⟨cnt1, nums1, hkp1, hxp⟩, (hm_end hV ht).1⟩, (hm_end hV ht).2⟩) hV.2.2.2.2 dX3_determinant_86
          cases el with
          | true =>
            refine lv_aload_n hx hb dX3_determinant_40 rfl (lv_at hl 0 rfl) ?_
            refine hm_get (ci := 5) (v := .ref (A 6)) (C := RX3) (T := TX3) (N := 7) hx hb hws kin_X3 hown hK.1 hV (xw_xt hk) rfl 6 (by decide) fl41 (fun _ h9 => h9) rfl dX3_determinant_41 ?_
            refine lv_ifnonnull (tgt := 62) hx hb dX3_determinant_44 (by decide) ?_
            refine W.widen (k := 294) (n := 5612) (Nat.le_of_ble_eq_true rfl) (Nat.le_of_ble_eq_true rfl) ?_
            exact solve _ A ad rw z rfl hk (fun _ _ => rfl) ls H locs (lv_sub hl [0, 1] rfl) hV
          | false =>
            refine lv_aload_n hx hb dX3_determinant_40 rfl (lv_at hl 0 rfl) ?_
            refine hm_get (ci := 5) (v := .null) (C := RX3) (T := TX3) (N := 7) hx hb hws kin_X3 hown hK.1 hV (xw_xf hk) rfl 6 (by decide) fl41 (fun _ h9 => h9) rfl dX3_determinant_41 ?_
            refine lv_ifnonnullN hx hb dX3_determinant_44 ?_
            refine lv_aload_n hx hb dX3_determinant_47 rfl (lv_at hl 0 rfl) ?_
            refine hm_new (ci := 3) (fs := [.null, .null, .null, .null]) (C := RX1) (T := TX1) (N := 4) hx hb hws kin_X1 tyX1 tyX1_ok hown (hws _ kw_185) (hws _ kw_186) (hws _ kw_50) hK.1 hV hA rfl (fun j hj => by rcases (show j = 0 ∨ j = 1 ∨ j = 2 ∨ j = 3 by omega) with rfl | rfl | rfl | rfl <;> rfl) (Nat.le_of_ble_eq_true rfl) (Nat.le_of_ble_eq_true rfl) dX3_determinant_48 (fun e9 H hf_e9 hV => ?_)
            have h_A_0_e9 : hm_ap (A 0) e9 := hm_nn (xw_xf hk) hf_e9
            have h_A_3_e9 : hm_ap (A 3) e9 := hm_nn (xw_d hk) hf_e9
            have hV : hm_V E.1 vwCl (hm_A M sz) s.heap (hm_up M e9 (.inr (3, [.null, .null, .null, .null]))) H locs := hV
            refine W.widen (k := 1) (n := 4) (Nat.le_of_ble_eq_true rfl) (Nat.le_of_ble_eq_true rfl) ?_
            refine lv_dup hx hb dX3_determinant_51 rfl ?_
            refine lv_aload_n hx hb dX3_determinant_52 rfl (lv_at hl 0 rfl) ?_
            refine hm_get (ci := 5) (v := .ref (A 3)) (C := RX3) (T := TX3) (N := 7) hx hb hws kin_X3 hown hK.1 hV ((hm_up_ne _ _ h_A_0_e9).trans (xw_xf hk)) rfl 5 (by decide) fl37 (fun _ h9 => h9) rfl dX3_determinant_53 ?_
            refine hm_callv (va_runI (As := [.ref (A 3)]) (rest := [.ref e9, .ref (A 0)]) ⟨hx, hb, hml, hown, hts⟩ (c_X1_init l E (hm_up_self _ _ _) H.size) (cwI 1 hts (hm_gI kw_189) rfl rfl rfl (hws _ kw_50) (hws _ kw_187) (hws _ kw_188) rfl (by decide +kernel) ⟨Nat.le_of_ble_eq_true rfl, Nat.le_of_ble_eq_true rfl⟩) (hm_preSX hK hV hA hY) rfl rfl hl.1 rfl (lv_room (Nat.le_of_ble_eq_true rfl)) dX3_determinant_56 ⟨Nat.le_of_ble_eq_true rfl, Nat.le_of_ble_eq_true rfl⟩) hV hA (fun M1 H locs hp hV => ?_)
            obtain ⟨ca, ad2, rw2, hel⟩ := hp
            have hel := el_new_dn hf_e9 hel
            have hx1 := hel.2.2.2.2.2 _ _ (xw_xf hk) (hm_nn (xw_xf hk) hf_e9)
            refine hm_put (ci := 5) (v := .ref e9) (ty := (tyX3 6)) (C := RX3) (T := TX3) (N := 7) hx hb hws kin_X3 tyX3 tyX3_ok nmX3 hown hK.1 hV hx1 rfl 6 (by decide) fl41 (fun _ h9 => h9) rfl (by decide +kernel) rfl rfl (Nat.le_of_ble_eq_true rfl) dX3_determinant_59 (fun H locs hV => ?_)
            have hV : hm_V E.1 vwCl (hm_A M sz) s.heap (hm_up M1 (A 0) (.inr (5, [.ref (A 1), .int (nI cnt), .ref (A 2), .ref (ad 0), .ref (ad 1), .ref (A 3), .ref e9]))) H locs := hV
            have hk := xw_true hk hf_e9 hel
            have hzo : ∀ i, 200 ≤ i → (fun i => if 2 ≤ i ∧ i < 148 then 0 else z i) i = z i := fun i hi => if_neg (by omega)
            obtain ⟨N2, hN2⟩ : ∃ N9 : hm_M, N9 = hm_up M1 (A 0) (.inr (5, [.ref (A 1), .int (nI cnt), .ref (A 2), .ref (ad 0), .ref (ad 1), .ref (A 3), .ref e9])) := ⟨_, rfl⟩
            rw [← hN2] at hV hk
            refine W.widen (k := 294) (n := 5612) (Nat.le_of_ble_eq_true rfl) (Nat.le_of_ble_eq_true rfl) ?_
            exact solve _ _ _ _ _ (by rw [xu_ne _ _ (by decide), xu_ne _ _ (by decide)]) hk hzo ls H locs (lv_sub hl [0, 1] rfl) hV
        · have hn0 : n = 0 := (nI_eq (b := 0) (by omega) (by omega)).mp c20
          refine lv_aload_n hx hb dX3_determinant_23 rfl (lv_at hl 0 rfl) ?_
          refine hm_get (ci := 5) (v := .ref (ad 0)) (C := RX3) (T := TX3) (N := 7) hx hb hws kin_X3 hown hK.1 hV (xw_x hk) rfl 3 (by decide) fl27 (fun _ h9 => h9) rfl dX3_determinant_24 ?_
          refine lv_lconst (v := 1) hx hb dX3_determinant_27 (by decide) ?_
          refine hm_callv (va_runV (As := [.long 1]) (rest := []) ⟨hx, hb, hml, hown, hts⟩ (c_X2_setLong l E (v := 1) hwZ haZ hoZ.2.1 (by omega) (by omega) H.size) (cwV 1 hts (hm_gV kw_132 kw_133 kw_134 kw_38 kw_135) rfl rfl rfl (by decide +kernel) ⟨Nat.le_of_ble_eq_true rfl, Nat.le_of_ble_eq_true rfl⟩) (hm_preV hK hV hwZ rfl) rfl rfl hl.1 rfl (lv_room (Nat.le_of_ble_eq_true rfl)) dX3_determinant_28 ⟨Nat.le_of_ble_eq_true rfl, Nat.le_of_ble_eq_true rfl⟩) hV hA (fun M1 H locs hp hV => ?_)
          rw [show (1 : Int64).toInt = dt_D 0 (fun r c => (t r c).toInt) from rfl] at hp
          obtain ⟨z1, hz1, hz1o, hk⟩ := xw_set2 hk (i := 0) (Or.inl (by omega)) (wn_cp65 (by omega)) hp
          refine lv_aload_n hx hb dX3_determinant_31 rfl (lv_at hl 0 rfl) ?_
          refine lv_aload_n hx hb dX3_determinant_32 rfl (lv_at hl 0 rfl) ?_
          refine hm_get (ci := 5) (v := .ref (ad 0)) (C := RX3) (T := TX3) (N := 7) hx hb hws kin_X3 hown hK.1 hV (xw_x hk) rfl 3 (by decide) fl27 (fun _ h9 => h9) rfl dX3_determinant_33 ?_
          refine hm_calli (va_runV (As := [.ref (ad 0)]) (rest := []) ⟨hx, hb, hml, hown, hts⟩ (c_X3_keep l E hk H.size) (cwV 1 hts (hm_gV kw_144 kw_146 kw_2 kw_37 kw_147) rfl rfl rfl (by decide +kernel) ⟨Nat.le_of_ble_eq_true rfl, Nat.le_of_ble_eq_true rfl⟩) (hm_preV hK hV (xw_x hk) rfl) rfl rfl hl.1 rfl (lv_room (Nat.le_of_ble_eq_true rfl)) dX3_determinant_36 ⟨Nat.le_of_ble_eq_true rfl, Nat.le_of_ble_eq_true rfl⟩) hV hA (fun r36 M1 H locs hp hV => ?_)
          obtain ⟨cnt1, nums1, hkp, hxp⟩ := hp
          have hkp1 := kp_c hkp (fun j _ => hz1o _ (by omega)) hz1
          refine W.widen (k := 296) (n := 5679) (Nat.le_of_ble_eq_true rfl) (Nat.le_of_ble_eq_true rfl) ?_
          rw [hQf]
          exact W.iret hx hb hr (fun t9 ht hW => ⟨⟨_, M1, rfl, ⟨cnt1, nums1, by rw [hn0]; exact hkp1, hxp⟩, (hm_end hV ht).1⟩, (hm_end hV ht).2⟩) hV.2.2.2.2 dX3_determinant_39
      · have hc1 : 160 ≤ cnt := by
          rcases hrf with h9 | h9
          · exact h9.2
          · exact absurd h9.1 c14
        exact no (Or.inl hc1) ls H locs (lv_sub hl [0, 1] rfl) hV
