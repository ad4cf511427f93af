set_option maxHeartbeats 4000000 in
set_option maxRecDepth 100000 in
theorem lw_loop {p : Program} {l : Launch} {e : Env} {s : State} {m : MethodId} {below : List Frame} {meth : Method} {c : Code} {b L : Nat} {xs : Nat → Int32} {E : hm_E} {M : hm_M} {sz x ot : Nat} {A : Nat → Nat} (hB : lw_B p l s m c b L xs E M sz) (hr : meth.sig.returnType = ret) (hlocks : meth.locks = false) (hA9 : ∀ q, hm_A M sz q → s.heap.size ≤ q) : ∀ (fu k : Nat), k ≤ 512 → 513 - k < fu → ∀ (MX Mm : hm_M) (f : Nat → Int64) (cnt : Nat) (nums : Nat → Int) (t : Nat → Nat → Int64) (th : Int32) (ls : Array Slot) (H : Heap) (locs : List Loc), hm_dj MX Mm → hm_V E.1 vwCl (hm_A M sz) s.heap (hm_j MX Mm) H locs → lw_X E MX x ot cnt nums t f → mq E Mm A th cnt nums t → lv_has ls 8 [(0, .ref b), (1, .ref x), (2, .ref (A 0)), (3, .ref ot), (4, .int (nI (5 * k)))] → W p l e room_1 s m [Value.ref b].toArray below meth c H locs (36 + 296 * k) (235642 + 5679 * k) (lw_Z below [Value.ref b].toArray s) (F0 m 23 ls []) := by
  intro fu
  induction fu with
  | zero => intro k hk hfu; exact absurd hfu (Nat.not_lt_zero _)
  | succ fu ih =>
    intro k hk hfu MX Mm f cnt nums t th ls H locs hd1 hV hXX hq hl
    have hB0 := hB
    obtain ⟨hx, hb, hml, hown, hws, hXs, hbl, hbA, hK, hY, hA, hlt, hL⟩ := hB0
    refine lv_iload hx hb dL_law_23 (lv_at hl 4 rfl) ?_
    refine lv_aload_n hx hb dL_law_25 rfl (lv_at hl 0 rfl) ?_
    refine va_slen hx hb hXs hbl hbA hV.2.2 dL_law_26 ?_
    refine hm_topi (show Int32.ofNat L = nI L from rfl) ?_
    refine lv_iconst (v := 5) hx hb dL_law_27 (by decide) ?_
    refine lv_isub hx hb dL_law_28 ?_
    refine lv_icmp_gt (tgt := 855) hx hb dL_law_29 (by decide) (fun c29 => ?_) (fun c29 => ?_)
    · refine lv_iconst (v := 1) hx hb dL_law_855 (by decide) ?_
      refine va_forget (fun q hq9 => hA9 _ (hV.2.2.2.2 q hq9)) ?_
      refine W.widen (k := 603072) (n := 7198826) (by omega) (by omega) ?_
      exact lw_ret hx hb hr hlocks dL_law_856
    · have hk5 := lw_len2 hL c29 hk
      obtain ⟨a0, ha0⟩ : ∃ a9, xs (5 * k) = a9 := ⟨_, rfl⟩
      refine lv_aload_n hx hb dL_law_32 rfl (lv_at hl 0 rfl) ?_
      refine lv_iload hx hb dL_law_33 (lv_at hl 4 rfl) ?_
      refine lw_sld hx hb hXs hbl hbA hV.2.2 (j := 5 * k) rfl (by omega) hL ha0 dL_law_35 ?_
      refine lv_bipush (v := 15) hx hb dL_law_36 (by decide) ?_
      refine lv_iand hx hb dL_law_38 ?_
      obtain ⟨n, hn, h15⟩ := lw_and15 a0
      refine hm_topi h15 ?_
      have next : lw_N p l e s m below meth c b E M sz x ot A k (lw_Z below [Value.ref b].toArray s) := by
        intro MX Mm f cnt nums t th ls H locs hd1 hV hXX hq hl
        refine lv_iinc (v := (nI (5 * (k + 1)))) (lv' := [(4, .int (nI (5 * (k + 1)))), (0, .ref b), (1, .ref x), (2, .ref (A 0)), (3, .ref ot)]) hx hb dL_law_849 hl (k := 4) rfl (by rw [show 5 * (k + 1) = 5 * k + 5 from by omega]; exact nI_add (5 * k) 5) (by decide) rfl (fun ls hl => ?_)
        refine lv_goto (tgt := 23) hx hb dL_law_852 (by decide) ?_
        exact ih (k + 1) (by omega) (by omega) MX Mm f cnt nums t th ls H locs hd1 hV hXX hq (lv_sub hl [1, 2, 3, 4, 0] rfl)
      clear ih
      rcases (show n = 0 ∨ n = 1 ∨ n = 2 ∨ n = 3 ∨ n = 4 ∨ n = 5 ∨ n = 6 ∨ n = 7 ∨ n = 8 ∨ n = 9 ∨ n = 10 ∨ n = 11 ∨ n = 12 ∨ n = 13 ∨ n = 14 ∨ n = 15 by omega) with e9 | e9 | e9 | e9 | e9 | e9 | e9 | e9 | e9 | e9 | e9 | e9 | e9 | e9 | e9 | e9 <;> subst e9
      · refine lv_tableIn (off := 65) (tgt := 104) hx hb dL_law_39 (by decide) (by decide) (by decide) (by decide) ?_
        exact lw_c_value hB hk5 hd1 hV hXX hq hl next
      · refine lv_tableIn (off := 122) (tgt := 161) hx hb dL_law_39 (by decide) (by decide) (by decide) (by decide) ?_
        exact lw_c_add hB hk5 hd1 hV hXX hq hl next
      · refine lv_tableIn (off := 190) (tgt := 229) hx hb dL_law_39 (by decide) (by decide) (by decide) (by decide) ?_
        exact lw_c_times hB hk5 hd1 hV hXX hq hl next
      · refine lv_tableIn (off := 258) (tgt := 297) hx hb dL_law_39 (by decide) (by decide) (by decide) (by decide) ?_
        exact lw_c_over hB hk5 hd1 hV hXX hq hl next
      · refine lv_tableIn (off := 326) (tgt := 365) hx hb dL_law_39 (by decide) (by decide) (by decide) (by decide) ?_
        exact lw_c_power hB hk5 hd1 hV hXX hq hl next
      · refine lv_tableIn (off := 394) (tgt := 433) hx hb dL_law_39 (by decide) (by decide) (by decide) (by decide) ?_
        exact lw_c_binomial hB hk5 hd1 hV hXX hq hl next
      · refine lv_tableIn (off := 431) (tgt := 470) hx hb dL_law_39 (by decide) (by decide) (by decide) (by decide) ?_
        exact lw_c_factorial hB hk5 hd1 hV hXX hq hl next
      · refine lv_tableIn (off := 456) (tgt := 495) hx hb dL_law_39 (by decide) (by decide) (by decide) (by decide) ?_
        exact lw_c_order hB hk5 hd1 hV hXX hq hl next
      · refine lv_tableIn (off := 524) (tgt := 563) hx hb dL_law_39 (by decide) (by decide) (by decide) (by decide) ?_
        exact lw_c_digit hB hk5 hd1 hV hXX hq hl next
      · refine lv_tableIn (off := 592) (tgt := 631) hx hb dL_law_39 (by decide) (by decide) (by decide) (by decide) ?_
        exact lw_c_entry hB hk5 hd1 hV hXX hq hl next
      · refine lv_tableIn (off := 673) (tgt := 712) hx hb dL_law_39 (by decide) (by decide) (by decide) (by decide) ?_
        exact lw_c_determinant hB hk5 hd1 hV hXX hq hl next
      · refine lv_tableIn (off := 698) (tgt := 737) hx hb dL_law_39 (by decide) (by decide) (by decide) (by decide) ?_
        exact lw_c_residue hB hk5 hd1 hV hXX hq hl next
      · refine lv_tableIn (off := 797) (tgt := 836) hx hb dL_law_39 (by decide) (by decide) (by decide) (by decide) ?_
        exact lw_c_kept hB hk5 hd1 hV hXX hq hl next
      · refine lv_tableOut (tgt := 849) hx hb dL_law_39 (Or.inr (by decide)) (by decide) ?_
        refine W.widen (k := 36 + 296 * (k + 1)) (n := 235642 + 5679 * (k + 1)) (by omega) (by omega) ?_
        exact next _ _ f cnt nums t th ls H locs hd1 hV hXX hq hl
      · refine lv_tableOut (tgt := 849) hx hb dL_law_39 (Or.inr (by decide)) (by decide) ?_
        refine W.widen (k := 36 + 296 * (k + 1)) (n := 235642 + 5679 * (k + 1)) (by omega) (by omega) ?_
        exact next _ _ f cnt nums t th ls H locs hd1 hV hXX hq hl
      · refine lv_tableOut (tgt := 849) hx hb dL_law_39 (Or.inr (by decide)) (by decide) ?_
        refine W.widen (k := 36 + 296 * (k + 1)) (n := 235642 + 5679 * (k + 1)) (by omega) (by omega) ?_
        exact next _ _ f cnt nums t th ls H locs hd1 hV hXX hq hl

theorem hm_j1 {M : hm_M} {q : Nat} {c : va_E} (h : M q = none) : hm_j M (hm_up (fun _ => none) q c) = hm_up M q c := by
  funext a
  by_cases e : a = q
  · subst e; simp [hm_j, hm_up, h]
  · simp only [hm_j, hm_up, e, if_false]; cases M a <;> rfl
theorem hm_j0 {M : hm_M} {q : Nat} {c : va_E} : hm_up M q c = hm_j (hm_up (fun _ => none) q c) M := by
  funext a
  by_cases e : a = q
  · subst e; simp [hm_j, hm_up]
  · simp [hm_j, hm_up, e]
theorem hm_j0d {M : hm_M} {q : Nat} {c : va_E} (h : M q = none) : hm_dj (hm_up (fun _ => none) q c) M := by
  intro a x hx
  by_cases e : a = q
  · rw [e]; exact h
  · rw [hm_up_ne _ _ e] at hx; cases hx
theorem hm_jn {M N : hm_M} {q : Nat} (h : hm_j M N q = none) : M q = none ∧ N q = none := by
  cases hM : M q with
  | none => exact ⟨rfl, by simpa [hm_j, hM] using h⟩
  | some x => rw [hm_jl hM] at h; cases h
theorem hm_jud {M N : hm_M} {q : Nat} {c : va_E} (hd : hm_dj M N) (h : N q = none) : hm_dj (hm_up M q c) N := by
  intro a x hx
  by_cases e : a = q
  · rw [e]; exact h
  · rw [hm_up_ne _ _ e] at hx; exact hd a x hx

set_option maxHeartbeats 4000000 in
set_option maxRecDepth 100000 in
theorem whole_start {p : Program} {e : Env} {s : State} {m : MethodId} {below : List Frame} {meth : Method} {c : Code} (l : Launch) (hlt : l.stackTraces = false) {b L : Nat} {xs : Nat → Int32} (hL : L ≤ 2560) (C0 : lw_At p s m meth c b L xs) : W p l e room_1 s m #[Value.ref b] below meth c s.heap [] 0 0 (lw_Z below #[Value.ref b] s) (entryFrame m ([Value.ref b] : List Value).toArray 8) := by
  obtain ⟨hx, hb, hr, hml, hown, hts0, hXs, hbl, hlocks, hg⟩ := C0
  obtain ⟨E, hK⟩ := lw_K hts0
  obtain ⟨M, hM⟩ : ∃ M : hm_M, M = fun _ => none := ⟨_, rfl⟩
  obtain ⟨sz, hsz⟩ : ∃ sz9 : Nat, sz9 = s.heap.size := ⟨_, rfl⟩
  have hA9 : ∀ q, hm_A M sz q → s.heap.size ≤ q := by
    rintro q (⟨e, h⟩ | h)
    · rw [hM] at h; cases h
    · rw [← hsz]; exact h
  have hA : ∀ q, s.heap.size ≤ q → hm_A M sz q := fun q h => Or.inr (by rw [hsz]; exact h)
  have hbA : ¬ hm_A M sz b := fun h => absurd (hA9 b h) (Nat.not_le.mpr hbl)
  have hY : hm_Y (hm_A M sz) s := lw_Y hts0 hg (fun a ha h => absurd (hA9 a h) (Nat.not_le.mpr ha))
  have hws : ∀ w ∈ hm_ws, w.before [Value.ref b].toArray s = true := fun w h => hts0 w (List.mem_filter.mp h).1
  have hts : ∀ w ∈ (Cond.initialized RL :: hm_ws), w.before [Value.ref b].toArray s = true := List.forall_mem_cons.mpr ⟨hws _ kw_36, hws⟩
  have hb : c.code = cL_law := hb
  have hown : s.vm.findClass RL = some m.cls := hown
  have hB : lw_B p l s m c b L xs E M sz := ⟨hx, hb, hml, hown, hws, hXs, hbl, hbA, hK, hY, hA, hlt, hL⟩
  have hV : hm_V E.1 vwCl (hm_A M sz) s.heap M s.heap [] := ⟨fun a e h => (by rw [hM] at h; cases h), fun a e h => (by rw [hM] at h; cases h), va_S.rf⟩
  have hl := lv_entry ([Value.ref b]) (n := 8) (Nat.le_of_ble_eq_true rfl)
  rw [lg_entry_eq]
  generalize (lg_sl ([Value.ref b]) ++ List.replicate (8 - (lg_sl ([Value.ref b])).length) Slot.unset).toArray = ls at hl ⊢
  have hl : lv_has ls 8 [(0, .ref b)] := hl
  refine hm_gen (rm := room_1) rfl (fun Qf hQf => ?_)
  refine hm_new (ci := 5) (fs := [.null, .int 0, .null, .null, .null, .null, .null]) (C := RX3) (T := TX3) (N := 7) hx hb hws kin_X3 tyX3 tyX3_ok hown (hws _ kw_51) (hws _ kw_52) (hws _ kw_37) hK.1 hV hA rfl (fun j hj => by rcases (show j = 0 ∨ j = 1 ∨ j = 2 ∨ j = 3 ∨ j = 4 ∨ j = 5 ∨ j = 6 by omega) with rfl | rfl | rfl | rfl | rfl | rfl | rfl <;> rfl) (Nat.le_of_ble_eq_true rfl) (Nat.le_of_ble_eq_true rfl) dL_law_0 (fun x H hf_x hV => ?_)
  obtain ⟨locs, hlocs⟩ : ∃ L : List Loc, L = [] := ⟨_, rfl⟩
  rw [← hlocs] at hV ⊢
  have hV : hm_V E.1 vwCl (hm_A M sz) s.heap (hm_up M x (.inr (5, [.null, .int 0, .null, .null, .null, .null, .null]))) H locs := hV
  refine W.widen (k := 1) (n := 7) (Nat.le_of_ble_eq_true rfl) (Nat.le_of_ble_eq_true rfl) ?_
  refine lv_dup hx hb dL_law_3 rfl ?_
  refine hm_callv (va_runI (As := []) (rest := [.ref x]) ⟨hx, hb, hml, hown, hts⟩ (c_X3_init l E (hm_up_self _ _ _) H.size) (cwI 0 hts (hm_gI kw_55) rfl rfl rfl (hws _ kw_37) (hws _ kw_53) (hws _ kw_54) rfl (by decide +kernel) ⟨Nat.le_of_ble_eq_true rfl, Nat.le_of_ble_eq_true rfl⟩) (hm_preSX hK hV hA hY) rfl rfl hl.1 rfl (lv_room (Nat.le_of_ble_eq_true rfl)) dL_law_4 ⟨Nat.le_of_ble_eq_true rfl, Nat.le_of_ble_eq_true rfl⟩) hV hA (fun M1 H locs hp hV => ?_)
  have hxp := hp
  obtain ⟨Mx, hMx⟩ : ∃ M9 : hm_M, M9 = M1 := ⟨_, rfl⟩
  rw [← hMx] at hV hxp
  clear hMx hp
  refine W.widen (k := 22) (n := 593) (Nat.le_of_ble_eq_true rfl) (Nat.le_of_ble_eq_true rfl) ?_
  refine lv_astore_n (lv' := [(1, .ref x), (0, .ref b)]) hx hb dL_law_7 rfl hl (by decide) rfl (fun ls hl => ?_)
  refine hm_new (ci := 6) (fs := [.int 0, .int 0, .null, .null, .null, .null, .null, .int 0, .null, .int 0, .null, .null, .null, .null, .null, .null]) (C := RX4) (T := TX4) (N := 16) hx hb hws kin_X4 tyX4 tyX4_ok hown (hws _ kw_472) (hws _ kw_473) (hws _ kw_41) hK.1 hV hA rfl (fun j hj => by rcases (show j = 0 ∨ j = 1 ∨ j = 2 ∨ j = 3 ∨ j = 4 ∨ j = 5 ∨ j = 6 ∨ j = 7 ∨ j = 8 ∨ j = 9 ∨ j = 10 ∨ j = 11 ∨ j = 12 ∨ j = 13 ∨ j = 14 ∨ j = 15 by omega) with rfl | rfl | rfl | rfl | rfl | rfl | rfl | rfl | rfl | rfl | rfl | rfl | rfl | rfl | rfl | rfl <;> rfl) (Nat.le_of_ble_eq_true rfl) (Nat.le_of_ble_eq_true rfl) dL_law_8 (fun y H hf_y hV => ?_)
  have hV : hm_V E.1 vwCl (hm_A M sz) s.heap (hm_up Mx y (.inr (6, [.int 0, .int 0, .null, .null, .null, .null, .null, .int 0, .null, .int 0, .null, .null, .null, .null, .null, .null]))) H locs := hV
  refine W.widen (k := 23) (n := 609) (Nat.le_of_ble_eq_true rfl) (Nat.le_of_ble_eq_true rfl) ?_
  refine lv_dup hx hb dL_law_11 rfl ?_
  have hV := hm_Ve hm_j0 hV
  have hd := hm_j0d (c := .inr (6, [.int 0, .int 0, .null, .null, .null, .null, .null, .int 0, .null, .int 0, .null, .null, .null, .null, .null, .null])) hf_y
  refine hm_fcallv (va_runI (As := []) (rest := [.ref y]) ⟨hx, hb, hml, hown, hts⟩ (c_X4_init l E (hm_up_self _ _ _) H.size) (cwI 0 hts (hm_gI kw_476) rfl rfl rfl (hws _ kw_41) (hws _ kw_474) (hws _ kw_475) rfl (by decide +kernel) ⟨Nat.le_of_ble_eq_true rfl, Nat.le_of_ble_eq_true rfl⟩) (hm_preS hK (hm_fst hV)) rfl rfl hl.1 rfl (lv_room (Nat.le_of_ble_eq_true rfl)) dL_law_12 ⟨Nat.le_of_ble_eq_true rfl, Nat.le_of_ble_eq_true rfl⟩) hV hd hA (fun M1 H locs hp hd hV => ?_)
  obtain ⟨A, hA0, hq⟩ := hp
  have hV := hm_Ve (hm_swp hd) hV
  have hd1 := hm_dsy hd
  obtain ⟨Mm, hMm⟩ : ∃ M9 : hm_M, M9 = M1 := ⟨_, rfl⟩
  rw [← hMm] at hV hq hd1
  clear hMm hd
  refine W.widen (k := 35) (n := 235641) (Nat.le_of_ble_eq_true rfl) (Nat.le_of_ble_eq_true rfl) ?_
  refine lv_astore_n (lv' := [(2, .ref y), (1, .ref x), (0, .ref b)]) hx hb dL_law_15 rfl hl (by decide) rfl (fun ls hl => ?_)
  refine lv_iconst (v := 1) hx hb dL_law_16 (by decide) ?_
  refine hm_newa (atype := .long) (ty := .long) (a0 := (1, .inr (.inl (fun _ => 0)))) (N' := 1) hx hb (hws _ kw_87) rfl hK.1 hV hA 1 rfl (fun _ => rfl) (by decide) (by decide) (by decide) (Nat.le_of_ble_eq_true rfl) (Nat.le_of_ble_eq_true rfl) dL_law_17 (fun ot H hf_ot hV => ?_)
  have hV : hm_V E.1 vwCl (hm_A M sz) s.heap (hm_up ((hm_j Mx Mm)) ot (hm_J E 1 (fun _ => 0))) H locs := hV
  refine W.widen (k := 36) (n := 235642) (Nat.le_of_ble_eq_true rfl) (Nat.le_of_ble_eq_true rfl) ?_
  refine lv_astore_n (lv' := [(3, .ref ot), (2, .ref y), (1, .ref x), (0, .ref b)]) hx hb dL_law_19 rfl hl (by decide) rfl (fun ls hl => ?_)
  refine lv_iconst (v := 0) hx hb dL_law_20 (by decide) ?_
  refine lv_istore (lv' := [(4, .int 0), (3, .ref ot), (2, .ref y), (1, .ref x), (0, .ref b)]) hx hb dL_law_21 hl (by decide) rfl (fun ls hl => ?_)
  have hn := hm_jn hf_ot
  have hV := hm_Ve hm_ju hV
  have hd1 := hm_jud (c := hm_J E 1 (fun _ => 0)) hd1 hn.2
  have hX0 : lw_X E (hm_up Mx ot (hm_J E 1 (fun _ => 0))) x ot 0 (fun _ => 0) (fun _ _ => 0) (fun _ => 0) := ⟨Mx, _, (hm_j1 hn.1).symm, hm_dsy (hm_j0d hn.1), hxp, hm_up_self _ _ _⟩
  rw [hQf]
  rw [← hA0] at hl
  exact lw_loop (x := x) (ot := ot) (A := A) hB hr hlocks hA9 514 0 (by omega) (by omega) _ _ _ 0 _ _ _ ls H locs hd1 hV hX0 hq (lv_sub hl [4, 3, 2, 1, 0] rfl)
