abbrev wd_X1_cell : List Cond := .code yX1_cell cX1_cell 3 (some (.object "WideCounts$Whole")) :: hm_ws
abbrev rm_X1_cell : Room := { frames := 0, cells := 0, slots := 0, locals := 0 }

set_option maxHeartbeats 4000000 in
set_option maxRecDepth 100000 in
/-- cell(r, co) -/
theorem c_X1_cell (l : Launch) (E : hm_E) {M : hm_M} {A ad rw : Nat → Nat} {cnt : Nat} {z : Nat → Int} {t : Nat → Nat → Int64} {r co : Nat} (hk : xw E M A ad rw cnt true z t) (hr0 : r < 12) (hc0 : co < 12) : hm_Cr l E yX1_cell wd_X1_cell rm_X1_cell [.ref (A 6), .int (nI r), .int (nI co)] M (fun a M1 => a = ad (4 + (r * 12 + co)) ∧ M1 = M) := by
  intro sz
  refine Met.ofW (cc := cX1_cell) (maxL := 3) (ret := (some (.object "WideCounts$Whole"))) (by decide) rfl ?_
  intro p e s m args below meth c s₁ B hml hv
  obtain ⟨rfl, hAe, hA, hK, hV⟩ := hm_start hv
  have hx := B.exec
  have hb := B.bytes
  have hr := B.returns
  have hts := atoms_spec (ws := wd_X1_cell) B.pre
  have hws : ∀ w ∈ hm_ws, w.before _ s = true := fun w h => hts w (List.mem_cons_of_mem _ h)
  have hown : s.vm.findClass RX1 = some m.cls := findClass_of_methodNamed B.named
  have hlocks := B.notSynchronized
  have fl11 := hws _ kw_193
  have hl := lv_entry ([.ref (A 6), .int (nI r), .int (nI co)]) (n := 3) (Nat.le_of_ble_eq_true rfl)
  rw [lg_entry_eq]
  generalize (lg_sl ([.ref (A 6), .int (nI r), .int (nI co)]) ++ List.replicate (3 - (lg_sl ([.ref (A 6), .int (nI r), .int (nI co)])).length) Slot.unset).toArray = ls at hl ⊢
  have hl : lv_has ls 3 [(0, .ref (A 6)), (1, .int (nI r)), (2, .int (nI co))] := hl
  refine hm_gen (rm := rm_X1_cell) rfl (fun Qf hQf => ?_)
  refine lv_aload_n hx hb dX1_cell_0 rfl (lv_at hl 0 rfl) ?_
  refine hm_get (ci := 3) (v := .ref (A 7)) (C := RX1) (T := TX1) (N := 4) hx hb hws kin_X1 hown hK.1 hV (xw_e hk) rfl 0 (by decide) fl11 (fun _ h9 => h9) rfl dX1_cell_1 ?_
  refine lv_iload_n hx hb dX1_cell_4 rfl (lv_at hl 1 rfl) ?_
  refine lv_bipush (v := 12) hx hb dX1_cell_5 (by decide) ?_
  refine lv_imul hx hb dX1_cell_7 ?_
  refine lv_iload_n hx hb dX1_cell_8 rfl (lv_at hl 2 rfl) ?_
  refine lv_iadd hx hb dX1_cell_9 ?_
  refine hm_topi (show (((nI r) * 12) + (nI co)) = nI (r * 12 + co) from nI_rc r co) ?_
  refine hm_aldqN hx hb hK.1 hV 3 (xw_ce hk) rfl (k := (r * 12 + co)) (by omega) (by omega) dX1_cell_10 ?_
  refine hm_reft (if_pos (by omega)) ?_
  rw [hQf]
  exact W.aret hx hb hr (Or.inl ⟨_, rfl⟩) (Or.inr ⟨_, rfl⟩) (fun t ht hW => ⟨⟨M, _, rfl, trivial, ⟨rfl, rfl⟩, (hm_end hV ht).1⟩, (hm_end hV ht).2⟩) hV.2.2.2.2 dX1_cell_11

abbrev wd_X1_load : List Cond := .code yX1_load cX1_load 5 none :: hm_ws
abbrev rm_X1_load : Room := { frames := 2, cells := 0, slots := 0, locals := 48 }

set_option maxHeartbeats 4000000 in
set_option maxRecDepth 100000 in
/-- load(table, size) -/
theorem c_X1_load (l : Launch) (E : hm_E) {M : hm_M} {A ad rw : Nat → Nat} {cnt : Nat} {z : Nat → Int} {t : Nat → Nat → Int64} {n : Nat} (hk : xw E M A ad rw cnt true z t) (hn : n ≤ 12) : hm_Cv l E yX1_load wd_X1_load rm_X1_load [.ref (A 6), .ref (A 2), .int (nI n)] M (fun M1 => ∃ y, xw E M1 A ad rw cnt true y t ∧ (∀ i, i < 4 ∨ 148 ≤ i → y i = z i) ∧ ∀ r co, r < n → co < n → y (4 + (r * 12 + co)) = (t r co).toInt) := by
  intro sz
  refine Met.ofW (cc := cX1_load) (maxL := 5) (ret := none) (by decide) rfl ?_
  intro p e s m args below meth c s₁ B hml hv
  obtain ⟨rfl, hAe, hA, hK, hV⟩ := hm_start hv
  have hx := B.exec
  have hb := B.bytes
  have hr := B.returns
  have hts := atoms_spec (ws := wd_X1_load) B.pre
  have hws : ∀ w ∈ hm_ws, w.before _ s = true := fun w h => hts w (List.mem_cons_of_mem _ h)
  have hown : s.vm.findClass RX1 = some m.cls := findClass_of_methodNamed B.named
  have hlocks := B.notSynchronized
  have hl := lv_entry ([.ref (A 6), .ref (A 2), .int (nI n)]) (n := 5) (Nat.le_of_ble_eq_true rfl)
  rw [lg_entry_eq]
  generalize (lg_sl ([.ref (A 6), .ref (A 2), .int (nI n)]) ++ List.replicate (5 - (lg_sl ([.ref (A 6), .ref (A 2), .int (nI n)])).length) Slot.unset).toArray = ls at hl ⊢
  have hl : lv_has ls 5 [(0, .ref (A 6)), (1, .ref (A 2)), (2, .int (nI n))] := hl
  refine hm_gen (rm := rm_X1_load) rfl (fun Qf hQf => ?_)
  refine lv_iconst (v := 0) hx hb dX1_load_0 (by decide) ?_
  refine lv_istore_n (lv' := [(3, .int 0), (0, .ref (A 6)), (1, .ref (A 2)), (2, .int (nI n))]) hx hb dX1_load_1 rfl hl (by decide) rfl (fun ls hl => ?_)
  have outer : ∀ (fu : Nat) (N : hm_M) (y : Nat → Int) (r : Nat), (r ≤ n) → (xw E N A ad rw cnt true y t) → (∀ i, i < 4 ∨ 148 ≤ i → y i = z i) → (∀ a co, a < r → co < n → y (4 + (a * 12 + co)) = (t a co).toInt) → n - r < fu → ∀ (ls : Array Slot) (H : Heap) (locs : List Loc), lv_has ls 5 [(0, .ref (A 6)), (1, .ref (A 2)), (2, .int (nI n)), (3, .int (nI r))] → hm_V E.1 vwCl (hm_A M sz) s.heap (N) H locs → W p l e rm_X1_load s m [.ref (A 6), .ref (A 2), .int (nI n)].toArray below meth c H locs 0 0 Qf (F0 m 2 ls []) := by
    intro fu
    induction fu with
    | zero => intro N y r hrl hk hy0 hy1 hfu; exact absurd hfu (Nat.not_lt_zero _)
    | succ fu ih_outer =>
      intro N y r hrl hk hy0 hy1 hfu ls H locs hl hV
      refine lv_iload_n hx hb dX1_load_2 rfl (lv_at hl 3 rfl) ?_
      refine lv_iload_n hx hb dX1_load_3 rfl (lv_at hl 2 rfl) ?_
      refine lv_icmp_ge (tgt := 44) hx hb dX1_load_4 (by decide) (fun c4 => ?_) (fun c4 => ?_)
      · have hrn : r = n := by
          rcases Nat.lt_or_ge r n with q | q
          · exact absurd c4 (nI_ge q (by omega))
          · omega
        rw [hQf]
        exact W.vret hx hb hr (fun t ht hW => ⟨⟨N, rfl, ⟨y, hk, hy0, fun a co ha hc => hy1 a co (by omega) hc⟩, (hm_end hV ht).1⟩, (hm_end hV ht).2⟩) hV.2.2.2.2 dX1_load_44
      · have hrn : r < n := by
          rcases Nat.lt_or_ge r n with q | q
          · exact q
          · exact absurd (nI_le q (by omega)) c4
        refine lv_iconst (v := 0) hx hb dX1_load_7 (by decide) ?_
        refine lv_istore (lv' := [(4, .int 0), (0, .ref (A 6)), (1, .ref (A 2)), (2, .int (nI n)), (3, .int (nI r))]) hx hb dX1_load_8 hl (by decide) rfl (fun ls hl => ?_)
        have inner : ∀ (fu : Nat) (N : hm_M) (y : Nat → Int) (co : Nat), (co ≤ n) → (xw E N A ad rw cnt true y t) → (∀ i, i < 4 ∨ 148 ≤ i → y i = z i) → (∀ a b, a < r ∨ (a = r ∧ b < co) → b < n → y (4 + (a * 12 + b)) = (t a b).toInt) → n - co < fu → ∀ (ls : Array Slot) (H : Heap) (locs : List Loc), lv_has ls 5 [(0, .ref (A 6)), (1, .ref (A 2)), (2, .int (nI n)), (3, .int (nI r)), (4, .int (nI co))] → hm_V E.1 vwCl (hm_A M sz) s.heap (N) H locs → W p l e rm_X1_load s m [.ref (A 6), .ref (A 2), .int (nI n)].toArray below meth c H locs 0 0 Qf (F0 m 10 ls []) := by
          intro fu
          induction fu with
          | zero => intro N y co hc hk hy0 hy1 hfu; exact absurd hfu (Nat.not_lt_zero _)
          | succ fu ih_inner =>
            intro N y co hc hk hy0 hy1 hfu ls H locs hl hV
            refine lv_iload hx hb dX1_load_10 (lv_at hl 4 rfl) ?_
            refine lv_iload_n hx hb dX1_load_12 rfl (lv_at hl 2 rfl) ?_
            refine lv_icmp_ge (tgt := 38) hx hb dX1_load_13 (by decide) (fun c13 => ?_) (fun c13 => ?_)
            · have hcn : co = n := by
                rcases Nat.lt_or_ge co n with q | q
                · exact absurd c13 (nI_ge q (by omega))
                · omega
              refine lv_iinc (v := (nI (r + 1))) (lv' := [(3, .int (nI (r + 1))), (0, .ref (A 6)), (1, .ref (A 2)), (2, .int (nI n)), (4, .int (nI co))]) hx hb dX1_load_38 hl (k := 3) rfl (nI_1 r) (by decide) rfl (fun ls hl => ?_)
              refine lv_goto (tgt := 2) hx hb dX1_load_41 (by decide) ?_
              exact ih_outer _ y (r + 1) (by omega) hk hy0 (fun a b ha hb => hy1 a b (by omega) hb) (by omega) ls H locs (lv_sub hl [1, 2, 3, 0] rfl) hV
            · have hcn : co < n := by
                rcases Nat.lt_or_ge co n with q | q
                · exact q
                · exact absurd (nI_le q (by omega)) c13
              refine lv_aload_n hx hb dX1_load_16 rfl (lv_at hl 0 rfl) ?_
              refine lv_iload_n hx hb dX1_load_17 rfl (lv_at hl 3 rfl) ?_
              refine lv_iload hx hb dX1_load_18 (lv_at hl 4 rfl) ?_
              refine hm_callr (va_runV (As := [.int (nI r), .int (nI co)]) (rest := []) ⟨hx, hb, hml, hown, hts⟩ (c_X1_cell l E (r := r) (co := co) hk (by omega) (by omega) H.size) (cwV 2 hts (hm_gV kw_214 kw_216 kw_5 kw_50 kw_217) rfl rfl rfl (by decide +kernel) ⟨Nat.le_of_ble_eq_true rfl, Nat.le_of_ble_eq_true rfl⟩) (hm_preV hK hV (xw_e hk) rfl) rfl rfl hl.1 rfl (lv_room (Nat.le_of_ble_eq_true rfl)) dX1_load_20 ⟨Nat.le_of_ble_eq_true rfl, Nat.le_of_ble_eq_true rfl⟩) hV hA (fun r20 M1 H locs hp hV => ?_)
              obtain ⟨hrl20, hM1⟩ := hp
              rw [hM1] at hV
              subst hrl20
              refine lv_aload_n hx hb dX1_load_23 rfl (lv_at hl 1 rfl) ?_
              refine lv_iload_n hx hb dX1_load_24 rfl (lv_at hl 3 rfl) ?_
              refine hm_aldJN hx hb hK.1 hV 4 (xw_ta hk) rfl (k := r) (by omega) (by omega) dX1_load_25 ?_
              refine hm_reft (rfl) ?_
              refine lv_iload hx hb dX1_load_26 (lv_at hl 4 rfl) ?_
              refine hm_laldN hx hb hK.1 hV 1 (xw_tr hk (show r < 12 by omega)) rfl (k := co) (by omega) (by omega) dX1_load_28 ?_
              obtain ⟨nT, dT, kT, gT, hnT, hwT, haT, hoT⟩ := xw_at hk (i := 4 + (r * 12 + co)) (Or.inr (Or.inl ⟨rfl, by omega⟩))
              have eT : nT = 34 := hnT.2.1 (by omega) (by omega)
              subst eT
              have qT := hoT.1
              refine hm_callv (va_runV (As := [.long ((t r) co)]) (rest := []) ⟨hx, hb, hml, hown, hts⟩ (c_X2_setLong l E (v := t r co) hwT haT hoT.2.1 (by omega) (by omega) H.size) (cwV 1 hts (hm_gV kw_218 kw_133 kw_134 kw_38 kw_135) rfl rfl rfl (by decide +kernel) ⟨Nat.le_of_ble_eq_true rfl, Nat.le_of_ble_eq_true rfl⟩) (hm_preV hK hV hwT rfl) rfl rfl hl.1 rfl (lv_room (Nat.le_of_ble_eq_true rfl)) dX1_load_29 ⟨Nat.le_of_ble_eq_true rfl, Nat.le_of_ble_eq_true rfl⟩) hV hA (fun M1 H locs hp hV => ?_)
              obtain ⟨y1, hy1a, hy1b, hk⟩ := xw_set2 hk (Or.inr (Or.inl ⟨rfl, by omega⟩)) (wn_cp34 (by omega) (by omega)) hp
              refine lv_iinc (v := (nI (co + 1))) (lv' := [(4, .int (nI (co + 1))), (0, .ref (A 6)), (1, .ref (A 2)), (2, .int (nI n)), (3, .int (nI r))]) hx hb dX1_load_32 hl (k := 4) rfl (nI_1 co) (by decide) rfl (fun ls hl => ?_)
              refine lv_goto (tgt := 10) hx hb dX1_load_35 (by decide) ?_
              exact ih_inner _ y1 (co + 1) (by omega) hk (fun i hi => by rw [hy1b i (by omega)]; exact hy0 i hi) (fun a b ha hb => by
                by_cases e : a = r ∧ b = co
                · obtain ⟨rfl, rfl⟩ := e; exact hy1a
                · rw [hy1b _ (by omega)]; exact hy1 a b (by omega) hb) (by omega) ls H locs (lv_sub hl [1, 2, 3, 4, 0] rfl) hV
        exact inner (n + 1) _ y 0 (Nat.zero_le _) hk hy0 (fun a b ha hb => hy1 a b (by omega) hb) (by omega) ls H locs (lv_sub hl [1, 2, 3, 4, 0] rfl) hV
  exact outer (n + 1) _ z 0 (Nat.zero_le _) hk (fun _ _ => rfl) (fun a co ha => absurd ha (Nat.not_lt_zero a)) (by omega) ls s.heap [] (lv_sub hl [1, 2, 3, 0] rfl) hV

abbrev wd_X1_pivotRow : List Cond := .code yX1_pivotRow cX1_pivotRow 4 (some .int) :: hm_ws
abbrev rm_X1_pivotRow : Room := { frames := 1, cells := 0, slots := 0, locals := 22 }

set_option maxHeartbeats 4000000 in
set_option maxRecDepth 100000 in
/-- pivotRow(step, size) -/
theorem c_X1_pivotRow (l : Launch) (E : hm_E) {M : hm_M} {A ad rw : Nat → Nat} {cnt : Nat} {z : Nat → Int} {t : Nat → Nat → Int64} {k n : Nat} (hk : xw E M A ad rw cnt true z t) (hkn : k < n) (hn : n ≤ 12) : hm_Ci l E yX1_pivotRow wd_X1_pivotRow rm_X1_pivotRow [.ref (A 6), .int (nI k), .int (nI n)] M (fun r M1 => ((r = -1 ∧ ∀ i, k ≤ i → i < n → z (4 + (i * 12 + k)) = 0) ∨ ∃ pw, r = nI pw ∧ k ≤ pw ∧ pw < n ∧ z (4 + (pw * 12 + k)) ≠ 0) ∧ M1 = M) := by
  intro sz
  refine Met.ofW (cc := cX1_pivotRow) (maxL := 4) (ret := (some .int)) (by decide) rfl ?_
  intro p e s m args below meth c s₁ B hml hv
  obtain ⟨rfl, hAe, hA, hK, hV⟩ := hm_start hv
  have hx := B.exec
  have hb := B.bytes
  have hr := B.returns
  have hts := atoms_spec (ws := wd_X1_pivotRow) B.pre
  have hws : ∀ w ∈ hm_ws, w.before _ s = true := fun w h => hts w (List.mem_cons_of_mem _ h)
  have hown : s.vm.findClass RX1 = some m.cls := findClass_of_methodNamed B.named
  have hlocks := B.notSynchronized
  have hl := lv_entry ([.ref (A 6), .int (nI k), .int (nI n)]) (n := 4) (Nat.le_of_ble_eq_true rfl)
  rw [lg_entry_eq]
  generalize (lg_sl ([.ref (A 6), .int (nI k), .int (nI n)]) ++ List.replicate (4 - (lg_sl ([.ref (A 6), .int (nI k), .int (nI n)])).length) Slot.unset).toArray = ls at hl ⊢
  have hl : lv_has ls 4 [(0, .ref (A 6)), (1, .int (nI k)), (2, .int (nI n))] := hl
  refine hm_gen (rm := rm_X1_pivotRow) rfl (fun Qf hQf => ?_)
  refine lv_iload_n hx hb dX1_pivotRow_0 rfl (lv_at hl 1 rfl) ?_
  refine lv_istore_n (lv' := [(3, .int (nI k)), (0, .ref (A 6)), (1, .int (nI k)), (2, .int (nI n))]) hx hb dX1_pivotRow_1 rfl hl (by decide) rfl (fun ls hl => ?_)
  have loop : ∀ (fu : Nat) (i : Nat), (k ≤ i) → (i ≤ n) → (∀ j, k ≤ j → j < i → z (4 + (j * 12 + k)) = 0) → n - i < fu → ∀ (ls : Array Slot) (H : Heap) (locs : List Loc), lv_has ls 4 [(0, .ref (A 6)), (1, .int (nI k)), (2, .int (nI n)), (3, .int (nI i))] → hm_V E.1 vwCl (hm_A M sz) s.heap (M) H locs → W p l e rm_X1_pivotRow s m [.ref (A 6), .int (nI k), .int (nI n)].toArray below meth c H locs 0 0 Qf (F0 m 2 ls []) := by
    intro fu
    induction fu with
    | zero => intro i hki hin0 hz hfu; exact absurd hfu (Nat.not_lt_zero _)
    | succ fu ih_loop =>
      intro i hki hin0 hz hfu ls H locs hl hV
      refine lv_iload_n hx hb dX1_pivotRow_2 rfl (lv_at hl 3 rfl) ?_
      refine lv_iload_n hx hb dX1_pivotRow_3 rfl (lv_at hl 2 rfl) ?_
      refine lv_icmp_ge (tgt := 27) hx hb dX1_pivotRow_4 (by decide) (fun c4 => ?_) (fun c4 => ?_)
      · have hin1 : i = n := by
          rcases Nat.lt_or_ge i n with q | q
          · exact absurd c4 (nI_ge q (by omega))
          · omega
        refine lv_iconst (v := (-1)) hx hb dX1_pivotRow_27 (by decide) ?_
        rw [hQf]
        exact W.iret hx hb hr (fun t ht hW => ⟨⟨_, M, rfl, ⟨Or.inl ⟨rfl, fun j h1 h2 => hz j h1 (by omega)⟩, rfl⟩, (hm_end hV ht).1⟩, (hm_end hV ht).2⟩) hV.2.2.2.2 dX1_pivotRow_28
      · have hin1 : i < n := by
          rcases Nat.lt_or_ge i n with q | q
          · exact q
          · exact absurd (nI_le q (by omega)) c4
        refine lv_aload_n hx hb dX1_pivotRow_7 rfl (lv_at hl 0 rfl) ?_
        refine lv_iload_n hx hb dX1_pivotRow_8 rfl (lv_at hl 3 rfl) ?_
        refine lv_iload_n hx hb dX1_pivotRow_9 rfl (lv_at hl 1 rfl) ?_
        refine hm_callr (va_runV (As := [.int (nI i), .int (nI k)]) (rest := []) ⟨hx, hb, hml, hown, hts⟩ (c_X1_cell l E (r := i) (co := k) hk (by omega) (by omega) H.size) (cwV 2 hts (hm_gV kw_214 kw_216 kw_5 kw_50 kw_217) rfl rfl rfl (by decide +kernel) ⟨Nat.le_of_ble_eq_true rfl, Nat.le_of_ble_eq_true rfl⟩) (hm_preV hK hV (xw_e hk) rfl) rfl rfl hl.1 rfl (lv_room (Nat.le_of_ble_eq_true rfl)) dX1_pivotRow_10 ⟨Nat.le_of_ble_eq_true rfl, Nat.le_of_ble_eq_true rfl⟩) hV hA (fun r10 M1 H locs hp hV => ?_)
        obtain ⟨hrl10, hM1⟩ := hp
        rw [hM1] at hV
        subst hrl10
        obtain ⟨nT, dT, kT, gT, hnT, hwT, haT, hoT⟩ := xw_at hk (i := 4 + (i * 12 + k)) (Or.inr (Or.inl ⟨rfl, by omega⟩))
        have eT : nT = 34 := hnT.2.1 (by omega) (by omega)
        subst eT
        have qT := hoT.1
        refine hm_calli (va_runV (As := []) (rest := []) ⟨hx, hb, hml, hown, hts⟩ (c_X2_isZero l E hwT (by omega) H.size) (cwV 0 hts (hm_gV kw_223 kw_224 kw_225 kw_38 kw_226) rfl rfl rfl (by decide +kernel) ⟨Nat.le_of_ble_eq_true rfl, Nat.le_of_ble_eq_true rfl⟩) (hm_preV hK hV hwT rfl) rfl rfl hl.1 rfl (lv_room (Nat.le_of_ble_eq_true rfl)) dX1_pivotRow_13 ⟨Nat.le_of_ble_eq_true rfl, Nat.le_of_ble_eq_true rfl⟩) hV hA (fun r13 M1 H locs hp hV => ?_)
        obtain ⟨hr13, hM1⟩ := hp
        rw [hM1] at hV
        have hzz := wn_zero hoT
        refine lv_if_ne (tgt := 21) hx hb dX1_pivotRow_16 (by decide) (fun c16 => ?_) (fun c16 => ?_)
        · have hz0 : z (4 + (i * 12 + k)) = 0 := by
            refine hzz.mp ?_
            rcases Nat.eq_zero_or_pos kT with q | q
            · exact q
            · rw [if_neg (by omega)] at hr13; exact absurd hr13 c16
          refine lv_iinc (v := (nI (i + 1))) (lv' := [(3, .int (nI (i + 1))), (0, .ref (A 6)), (1, .int (nI k)), (2, .int (nI n))]) hx hb dX1_pivotRow_21 hl (k := 3) rfl (nI_1 i) (by decide) rfl (fun ls hl => ?_)
          refine lv_goto (tgt := 2) hx hb dX1_pivotRow_24 (by decide) ?_
          exact ih_loop (i + 1) (by omega) (by omega) (fun j h1 h2 => by
            by_cases e : j = i
            · subst e; exact hz0
            · exact hz j h1 (by omega)) (by omega) ls H locs (lv_sub hl [1, 2, 3, 0] rfl) hV
        · refine lv_iload_n hx hb dX1_pivotRow_19 rfl (lv_at hl 3 rfl) ?_
          rw [hQf]
          exact W.iret hx hb hr (fun t ht hW => ⟨⟨_, M, rfl, ⟨Or.inr ⟨i, rfl, hki, hin1, fun e9 => by
            rw [if_pos (hzz.mpr e9)] at hr13
            rw [hr13] at c16
            exact absurd c16 (by decide)⟩, rfl⟩, (hm_end hV ht).1⟩, (hm_end hV ht).2⟩) hV.2.2.2.2 dX1_pivotRow_20
  exact loop (n + 1) k (Nat.le_refl k) (by omega) (fun j h1 h2 => absurd h1 (by omega)) (by omega) ls s.heap [] (lv_sub hl [1, 2, 3, 0] rfl) hV

abbrev wd_X1_swapRows : List Cond := .code yX1_swapRows cX1_swapRows 6 none :: hm_ws
abbrev rm_X1_swapRows : Room := { frames := 1, cells := 0, slots := 0, locals := 22 }

set_option maxHeartbeats 4000000 in
set_option maxRecDepth 100000 in
/-- swapRows(pw, k, size) -/
theorem c_X1_swapRows (l : Launch) (E : hm_E) {M : hm_M} {A ad rw : Nat → Nat} {cnt : Nat} {z : Nat → Int} {t : Nat → Nat → Int64} {pw k n : Nat} (hk : xw E M A ad rw cnt true z t) (hp0 : pw < 12) (hk0 : k < 12) (hpk : pw ≠ k) (hn : n ≤ 12) : hm_Cv l E yX1_swapRows wd_X1_swapRows rm_X1_swapRows [.ref (A 6), .int (nI pw), .int (nI k), .int (nI n)] M (fun M1 => ∃ (ad1 rw1 : Nat → Nat) (y : Nat → Int), xw E M1 A ad1 rw1 cnt true y t ∧ (∀ i, i < 4 ∨ 148 ≤ i → ad1 i = ad i ∧ y i = z i) ∧ ∀ r co, r < 12 → co < n → y (4 + (r * 12 + co)) = z (4 + (xw_x2 pw k r * 12 + co))) := by
  intro sz
  refine Met.ofW (cc := cX1_swapRows) (maxL := 6) (ret := none) (by decide) rfl ?_
  intro p e s m args below meth c s₁ B hml hv
  obtain ⟨rfl, hAe, hA, hK, hV⟩ := hm_start hv
  have hx := B.exec
  have hb := B.bytes
  have hr := B.returns
  have hts := atoms_spec (ws := wd_X1_swapRows) B.pre
  have hws : ∀ w ∈ hm_ws, w.before _ s = true := fun w h => hts w (List.mem_cons_of_mem _ h)
  have hown : s.vm.findClass RX1 = some m.cls := findClass_of_methodNamed B.named
  have hlocks := B.notSynchronized
  have fl11 := hws _ kw_193
  have hl := lv_entry ([.ref (A 6), .int (nI pw), .int (nI k), .int (nI n)]) (n := 6) (Nat.le_of_ble_eq_true rfl)
  rw [lg_entry_eq]
  generalize (lg_sl ([.ref (A 6), .int (nI pw), .int (nI k), .int (nI n)]) ++ List.replicate (6 - (lg_sl ([.ref (A 6), .int (nI pw), .int (nI k), .int (nI n)])).length) Slot.unset).toArray = ls at hl ⊢
  have hl : lv_has ls 6 [(0, .ref (A 6)), (1, .int (nI pw)), (2, .int (nI k)), (3, .int (nI n))] := hl
  refine hm_gen (rm := rm_X1_swapRows) rfl (fun Qf hQf => ?_)
  refine lv_iconst (v := 0) hx hb dX1_swapRows_0 (by decide) ?_
  refine lv_istore (lv' := [(4, .int 0), (0, .ref (A 6)), (1, .int (nI pw)), (2, .int (nI k)), (3, .int (nI n))]) hx hb dX1_swapRows_1 hl (by decide) rfl (fun ls hl => ?_)
  have loop : ∀ (fu : Nat) (N : hm_M) (ad1 : Nat → Nat) (rw1 : Nat → Nat) (y : Nat → Int) (co : Nat), (co ≤ n) → (xw E N A ad1 rw1 cnt true y t) → (∀ i, i < 4 ∨ 148 ≤ i → ad1 i = ad i ∧ y i = z i) → (∀ r b, r < 12 → b < 12 → y (4 + (r * 12 + b)) = if b < co then z (4 + (xw_x2 pw k r * 12 + b)) else z (4 + (r * 12 + b))) → n - co < fu → ∀ (ls : Array Slot) (H : Heap) (locs : List Loc), lv_has ls 6 [(0, .ref (A 6)), (1, .int (nI pw)), (2, .int (nI k)), (3, .int (nI n)), (4, .int (nI co))] → hm_V E.1 vwCl (hm_A M sz) s.heap (N) H locs → W p l e rm_X1_swapRows s m [.ref (A 6), .int (nI pw), .int (nI k), .int (nI n)].toArray below meth c H locs 0 0 Qf (F0 m 3 ls []) := by
    intro fu
    induction fu with
    | zero => intro N ad1 rw1 y co hc hk hy0 hy1 hfu; exact absurd hfu (Nat.not_lt_zero _)
    | succ fu ih_loop =>
      intro N ad1 rw1 y co hc hk hy0 hy1 hfu ls H locs hl hV
      refine lv_iload hx hb dX1_swapRows_3 (lv_at hl 4 rfl) ?_
      refine lv_iload_n hx hb dX1_swapRows_5 rfl (lv_at hl 3 rfl) ?_
      refine lv_icmp_ge (tgt := 57) hx hb dX1_swapRows_6 (by decide) (fun c6 => ?_) (fun c6 => ?_)
      · have hcn : co = n := by
          rcases Nat.lt_or_ge co n with q | q
          · exact absurd c6 (nI_ge q (by omega))
          · omega
        rw [hQf]
        exact W.vret hx hb hr (fun t ht hW => ⟨⟨N, rfl, ⟨ad1, rw1, y, hk, hy0, fun r b hrl hb => by rw [hy1 r b hrl (by omega), if_pos (by omega)]⟩, (hm_end hV ht).1⟩, (hm_end hV ht).2⟩) hV.2.2.2.2 dX1_swapRows_57
      · have hcn : co < n := by
          rcases Nat.lt_or_ge co n with q | q
          · exact q
          · exact absurd (nI_le q (by omega)) c6
        obtain ⟨U, hU⟩ : ∃ U, U = 4 + (pw * 12 + co) := ⟨_, rfl⟩
        obtain ⟨X, hX⟩ : ∃ X, X = 4 + (k * 12 + co) := ⟨_, rfl⟩
        refine lv_aload_n hx hb dX1_swapRows_9 rfl (lv_at hl 0 rfl) ?_
        refine lv_iload_n hx hb dX1_swapRows_10 rfl (lv_at hl 1 rfl) ?_
        refine lv_iload hx hb dX1_swapRows_11 (lv_at hl 4 rfl) ?_
        refine hm_callr (va_runV (As := [.int (nI pw), .int (nI co)]) (rest := []) ⟨hx, hb, hml, hown, hts⟩ (c_X1_cell l E (r := pw) (co := co) hk (by omega) (by omega) H.size) (cwV 2 hts (hm_gV kw_214 kw_216 kw_5 kw_50 kw_217) rfl rfl rfl (by decide +kernel) ⟨Nat.le_of_ble_eq_true rfl, Nat.le_of_ble_eq_true rfl⟩) (hm_preV hK hV (xw_e hk) rfl) rfl rfl hl.1 rfl (lv_room (Nat.le_of_ble_eq_true rfl)) dX1_swapRows_13 ⟨Nat.le_of_ble_eq_true rfl, Nat.le_of_ble_eq_true rfl⟩) hV hA (fun r13 M1 H locs hp hV => ?_)
        obtain ⟨hrl13, hM1⟩ := hp
        rw [hM1] at hV
        rw [← hU] at hrl13
        subst hrl13
        refine lv_astore (lv' := [(5, .ref (ad1 U)), (0, .ref (A 6)), (1, .int (nI pw)), (2, .int (nI k)), (3, .int (nI n)), (4, .int (nI co))]) hx hb dX1_swapRows_16 hl (by decide) rfl (fun ls hl => ?_)
        refine lv_aload_n hx hb dX1_swapRows_18 rfl (lv_at hl 1 rfl) ?_
        refine hm_get (ci := 3) (v := .ref (A 7)) (C := RX1) (T := TX1) (N := 4) hx hb hws kin_X1 hown hK.1 hV (xw_e hk) rfl 0 (by decide) fl11 (fun _ h9 => h9) rfl dX1_swapRows_19 ?_
        refine lv_iload_n hx hb dX1_swapRows_22 rfl (lv_at hl 2 rfl) ?_
        refine lv_bipush (v := 12) hx hb dX1_swapRows_23 (by decide) ?_
        refine lv_imul hx hb dX1_swapRows_25 ?_
        refine lv_iload hx hb dX1_swapRows_26 (lv_at hl 5 rfl) ?_
        refine lv_iadd hx hb dX1_swapRows_28 ?_
        refine hm_topi (show (((nI pw) * 12) + (nI co)) = nI (pw * 12 + co) from nI_rc pw co) ?_
        refine lv_aload_n hx hb dX1_swapRows_29 rfl (lv_at hl 1 rfl) ?_
        refine lv_iload_n hx hb dX1_swapRows_30 rfl (lv_at hl 3 rfl) ?_
        refine lv_iload hx hb dX1_swapRows_31 (lv_at hl 5 rfl) ?_
        refine hm_callr (va_runV (As := [.int (nI k), .int (nI co)]) (rest := [.int (nI (pw * 12 + co)), .ref (A 7)]) ⟨hx, hb, hml, hown, hts⟩ (c_X1_cell l E (r := k) (co := co) hk (by omega) (by omega) H.size) (cwV 2 hts (hm_gV kw_214 kw_216 kw_5 kw_50 kw_217) rfl rfl rfl (by decide +kernel) ⟨Nat.le_of_ble_eq_true rfl, Nat.le_of_ble_eq_true rfl⟩) (hm_preV hK hV (xw_e hk) rfl) rfl rfl hl.1 rfl (lv_room (Nat.le_of_ble_eq_true rfl)) dX1_swapRows_33 ⟨Nat.le_of_ble_eq_true rfl, Nat.le_of_ble_eq_true rfl⟩) hV hA (fun r33 M1 H locs hp hV => ?_)
        obtain ⟨hrl33, hM1⟩ := hp
        rw [hM1] at hV
        rw [← hX] at hrl33
        subst hrl33
        obtain ⟨nU, dU, kU, gU, hnU, hwU, haU, hoU⟩ := xw_at hk (i := U) (Or.inr (Or.inl ⟨rfl, by omega⟩))
        have eU : nU = 34 := hnU.2.1 (by omega) (by omega)
        subst eU
        have qU := hoU.1
        obtain ⟨nX, dX, kX, gX, hnX, hwX, haX, hoX⟩ := xw_at hk (i := X) (Or.inr (Or.inl ⟨rfl, by omega⟩))
        have eX : nX = 34 := hnX.2.1 (by omega) (by omega)
        subst eX
        have qX := hoX.1
        have h6_7 : hm_ap (A 6) (A 7) := hm_oa (xw_e hk) (xw_ce hk)
        have hU_7 : hm_ap (ad1 U) (A 7) := hm_oa hwU (xw_ce hk)
        have hX_7 : hm_ap (ad1 X) (A 7) := hm_oa hwX (xw_ce hk)
        refine hm_astqN hx hb hK.1 hV 3 4 (xw_ce hk) rfl hwX rfl (k := (pw * 12 + co)) (by omega) (by omega) dX1_swapRows_36 (fun H locs hV => ?_)
        have hV : hm_V E.1 vwCl (hm_A M sz) s.heap (hm_up N (A 7) (hm_Q E 144 (va_up (fun j => if j < 144 then some (ad1 (4 + j)) else none) (pw * 12 + co) (some (ad1 X))))) H locs := hV
        refine lv_aload_n hx hb dX1_swapRows_37 rfl (lv_at hl 1 rfl) ?_
        refine hm_get (ci := 3) (v := .ref (A 7)) (C := RX1) (T := TX1) (N := 4) hx hb hws kin_X1 hown hK.1 hV ((hm_up_ne _ _ h6_7).trans (xw_e hk)) rfl 0 (by decide) fl11 (fun _ h9 => h9) rfl dX1_swapRows_38 ?_
        refine lv_iload_n hx hb dX1_swapRows_41 rfl (lv_at hl 3 rfl) ?_
        refine lv_bipush (v := 12) hx hb dX1_swapRows_42 (by decide) ?_
        refine lv_imul hx hb dX1_swapRows_44 ?_
        refine lv_iload hx hb dX1_swapRows_45 (lv_at hl 5 rfl) ?_
        refine lv_iadd hx hb dX1_swapRows_47 ?_
        refine hm_topi (show (((nI k) * 12) + (nI co)) = nI (k * 12 + co) from nI_rc k co) ?_
        refine lv_aload hx hb dX1_swapRows_48 (lv_at hl 0 rfl) ?_
        refine hm_astqN hx hb hK.1 hV 3 4 (hm_up_self _ _ _) rfl ((hm_up_ne _ _ hU_7).trans hwU) rfl (k := (k * 12 + co)) (by omega) (by omega) dX1_swapRows_50 (fun H locs hV => ?_)
        rw [hm_u0] at hV
        have hV : hm_V E.1 vwCl (hm_A M sz) s.heap (hm_up N (A 7) (hm_Q E 144 (va_up (va_up (fun j => if j < 144 then some (ad1 (4 + j)) else none) (pw * 12 + co) (some (ad1 X))) (k * 12 + co) (some (ad1 U))))) H locs := hV
        rw [hU, hX] at hV
        have hk := xw_swap hk (a := pw * 12 + co) (b := k * 12 + co) (by omega) (by omega)
        refine lv_iinc (v := (nI (co + 1))) (lv' := [(4, .int (nI (co + 1))), (5, .ref (ad1 U)), (0, .ref (A 6)), (1, .int (nI pw)), (2, .int (nI k)), (3, .int (nI n))]) hx hb dX1_swapRows_51 hl (k := 5) rfl (nI_1 co) (by decide) rfl (fun ls hl => ?_)
        refine lv_goto (tgt := 3) hx hb dX1_swapRows_54 (by decide) ?_
        exact ih_loop _ _ _ _ (co + 1) (by omega) hk (fun i hi => by
          rw [xw_x2_out (by omega) (by omega)]; exact hy0 i hi) (fun r b hrl hb => by
          by_cases e : b = co
          · subst e
            rw [if_pos (by omega)]
            unfold xw_x2
            by_cases e1 : r = pw
            · subst e1; rw [if_pos rfl, if_pos rfl, hy1 k b hk0 hb, if_neg (by omega)]
            · by_cases e2 : r = k
              · subst e2; rw [if_neg (by omega), if_pos rfl, if_neg e1, if_pos rfl, hy1 pw b hp0 hb, if_neg (by omega)]
              · rw [if_neg (by omega), if_neg (by omega), if_neg e1, if_neg e2, hy1 r b hrl hb, if_neg (by omega)]
          · rw [xw_x2_out (by omega) (by omega), hy1 r b hrl hb]
            by_cases q : b < co
            · rw [if_pos q, if_pos (by omega)]
            · rw [if_neg q, if_neg (by omega)]) (by omega) ls H locs (lv_sub hl [2, 3, 4, 5, 0] rfl) hV
  exact loop (n + 1) _ ad rw z 0 (Nat.zero_le _) hk (fun _ _ => ⟨rfl, rfl⟩) (fun r b _ _ => by rw [if_neg (Nat.not_lt_zero b)]) (by omega) ls s.heap [] (lv_sub hl [1, 2, 3, 4, 0] rfl) hV
