set_option maxHeartbeats 4000000 in
set_option maxRecDepth 100000 in
theorem lw_c_value {p : Program} {l : Launch} {e : Env} {s : State} {m : MethodId} {below : List Frame} {meth : Method} {c : Code} {b L : Nat} {xs : Nat → Int32} {E : hm_E} {M : hm_M} {sz x ot : Nat} {A : Nat → Nat} {k : Nat} {Qf : State → Prop} {MX Mm : hm_M} {f : Nat → Int64} {cnt : Nat} {nums : Nat → Int} {t : Nat → Nat → Int64} {th : Int32} {ls : Array Slot} {H : Heap} {locs : List Loc} (hB : lw_B p l s m c b L xs E M sz) (hk5 : 5 * k + 5 ≤ L) (hd1 : hm_dj MX Mm) (hV : hm_V E.1 vwCl (hm_A M sz) s.heap (hm_j MX Mm) H locs) (hXX : lw_X E MX x ot cnt nums t f) (hq : mq E Mm A th cnt nums t) (hl : lv_has ls 8 [(0, .ref b), (1, .ref x), (2, .ref (A 0)), (3, .ref ot), (4, .int (nI (5 * k)))]) (next : lw_N p l e s m below meth c b E M sz x ot A k Qf) : W p l e room_1 s m [Value.ref b].toArray below meth c H locs (36 + 296 * k) (235642 + 5679 * k) Qf (F0 m 104 ls []) := by
  obtain ⟨hx, hb, hml, hown, hws, hXs, hbl, hbA, hK, hY, hA, hlt, hL⟩ := hB
  have hts : ∀ w ∈ (Cond.initialized RL :: hm_ws), w.before [Value.ref b].toArray s = true := List.forall_mem_cons.mpr ⟨hws _ kw_36, hws⟩
  have ld40 := hws _ kw_671
  obtain ⟨a1, ha1⟩ : ∃ a9, xs (5 * k + 1) = a9 := ⟨_, rfl⟩
  obtain ⟨a2, ha2⟩ : ∃ a9, xs (5 * k + 2) = a9 := ⟨_, rfl⟩
  obtain ⟨a3, ha3⟩ : ∃ a9, xs (5 * k + 3) = a9 := ⟨_, rfl⟩
  obtain ⟨a4, ha4⟩ : ∃ a9, xs (5 * k + 4) = a9 := ⟨_, rfl⟩
  obtain ⟨Mx, No, hMX, hdx, hxp, ho⟩ := hXX
  subst hMX
  obtain ⟨k0, ko, X0, O0, hmd⟩ := hq
  have hcnt := md_c hmd
  obtain ⟨A3, ad, rw, el, z, hA0, hk, hz⟩ := hxp
  have hx0 := xw_x hk
  rw [hA0] at hx0
  obtain ⟨w9, hw9⟩ : ∃ w9 : Int64, w9 = (a1.toInt64 <<< ((32 : Int32).toInt64 &&& 63)) ||| (a2.toInt64 &&& 4294967295) := ⟨_, rfl⟩
  refine lv_aload_n hx hb dL_law_104 rfl (lv_at hl 1 rfl) ?_
  refine lv_aload_n hx hb dL_law_105 rfl (lv_at hl 0 rfl) ?_
  refine lv_iload hx hb dL_law_106 (lv_at hl 4 rfl) ?_
  refine lv_iconst (v := 1) hx hb dL_law_108 (by decide) ?_
  refine lv_iadd hx hb dL_law_109 ?_
  refine lw_sld hx hb hXs hbl hbA hV.2.2 (j := 5 * k + 1) (nI_1 _) (by omega) hL ha1 dL_law_110 ?_
  refine lv_i2l hx hb dL_law_111 rfl ?_
  refine lv_bipush (v := 32) hx hb dL_law_112 (by decide) ?_
  refine lv_lshl hx hb dL_law_114 rfl ?_
  refine lv_aload_n hx hb dL_law_115 rfl (lv_at hl 0 rfl) ?_
  refine lv_iload hx hb dL_law_116 (lv_at hl 4 rfl) ?_
  refine lv_iconst (v := 2) hx hb dL_law_118 (by decide) ?_
  refine lv_iadd hx hb dL_law_119 ?_
  refine lw_sld hx hb hXs hbl hbA hV.2.2 (j := 5 * k + 2) (lw_a2 _) (by omega) hL ha2 dL_law_120 ?_
  refine lv_i2l hx hb dL_law_121 rfl ?_
  refine lv_ldc2 (v := 4294967295) hx hb hown ld40 dL_law_122 ?_
  refine lv_land hx hb dL_law_125 ?_
  refine lv_lor hx hb dL_law_126 ?_
  refine hm_topl (show (a1.toInt64 <<< ((32 : Int32).toInt64 &&& 63)) ||| (a2.toInt64 &&& 4294967295) = w9 from hw9.symm) ?_
  have hnd := hm_dd hdx hd1
  have hd3 := hm_da hdx hd1
  have hV := hm_Ve (hm_ja Mx No Mm) hV
  have hc9 := c_X3_value l E (v := w9) hk
  rw [hA0] at hc9
  refine hm_fcalli (va_runV (As := [.long w9]) (rest := []) ⟨hx, hb, hml, hown, hts⟩ (hc9 H.size) (cwV 1 hts (hm_gV kw_124 kw_125 kw_126 kw_37 kw_127) rfl rfl rfl (by decide +kernel) ⟨Nat.le_of_ble_eq_true rfl, Nat.le_of_ble_eq_true rfl⟩) (hm_preV hK (hm_fst hV) hx0 rfl) rfl rfl hl.1 rfl (lv_room (Nat.le_of_ble_eq_true rfl)) dL_law_127 ⟨by show 36 + 296 * k + 2 ≤ 603072; omega, by show 235642 + 5679 * k + 67 ≤ 7198826; omega⟩) hV hd3 hA (fun r5 Mx1 H locs hp hd hV => ?_)
  have hV := hm_Ve (hm_ja Mx1 No Mm).symm hV
  have hdx := hm_db hd
  have hd1 := hm_dc hd hnd
  have hp5 := hp
  clear hp
  refine lv_aload_n hx hb dL_law_130 rfl (lv_at hl 2 rfl) ?_
  refine lv_aload_n hx hb dL_law_131 rfl (lv_at hl 0 rfl) ?_
  refine lv_iload hx hb dL_law_132 (lv_at hl 4 rfl) ?_
  refine lv_iconst (v := 1) hx hb dL_law_134 (by decide) ?_
  refine lv_iadd hx hb dL_law_135 ?_
  refine lw_sld hx hb hXs hbl hbA hV.2.2 (j := 5 * k + 1) (nI_1 _) (by omega) hL ha1 dL_law_136 ?_
  refine lv_i2l hx hb dL_law_137 rfl ?_
  refine lv_bipush (v := 32) hx hb dL_law_138 (by decide) ?_
  refine lv_lshl hx hb dL_law_140 rfl ?_
  refine lv_aload_n hx hb dL_law_141 rfl (lv_at hl 0 rfl) ?_
  refine lv_iload hx hb dL_law_142 (lv_at hl 4 rfl) ?_
  refine lv_iconst (v := 2) hx hb dL_law_144 (by decide) ?_
  refine lv_iadd hx hb dL_law_145 ?_
  refine lw_sld hx hb hXs hbl hbA hV.2.2 (j := 5 * k + 2) (lw_a2 _) (by omega) hL ha2 dL_law_146 ?_
  refine lv_i2l hx hb dL_law_147 rfl ?_
  refine lv_ldc2 (v := 4294967295) hx hb hown ld40 dL_law_148 ?_
  refine lv_land hx hb dL_law_151 ?_
  refine lv_lor hx hb dL_law_152 ?_
  refine hm_topl (show (a1.toInt64 <<< ((32 : Int32).toInt64 &&& 63)) ||| (a2.toInt64 &&& 4294967295) = w9 from hw9.symm) ?_
  have hV := hm_Ve (hm_swp hd1) hV
  have hd2 := hm_dsy hd1
  refine hm_fcalli (va_runV (As := [.long w9]) (rest := [.int r5]) ⟨hx, hb, hml, hown, hts⟩ (c_X4_value l E (v := w9) hmd H.size) (cwV 1 hts (hm_gV kw_533 kw_534 kw_535 kw_41 kw_536) rfl rfl rfl (by decide +kernel) ⟨Nat.le_of_ble_eq_true rfl, Nat.le_of_ble_eq_true rfl⟩) (hm_preV hK (hm_fst hV) (md_x hmd) rfl) rfl rfl hl.1 rfl (lv_room (Nat.le_of_ble_eq_true rfl)) dL_law_153 ⟨by show 36 + 296 * k + 2 + 0 ≤ 603072; omega, by show 235642 + 5679 * k + 67 + 0 ≤ 7198826; omega⟩) hV hd2 hA (fun r6 Mm1 H locs hp hd hV => ?_)
  have hV := hm_Ve (hm_swp hd) hV
  have hd1 := hm_dsy hd
  obtain ⟨cnt1, nums1, t1, hxp1, hq1, e56⟩ : ∃ (cnt1 : Nat) (nums1 : Nat → Int) (t1 : Nat → Nat → Int64), xp E Mx1 x cnt1 nums1 t1 ∧ mq E Mm1 A 0 cnt1 nums1 t1 ∧ r5 = r6 := by
    obtain ⟨c1, n1, hkp, hxp1⟩ := hp5
    obtain ⟨c2, n2, hkp2, hq1⟩ := hp
    obtain ⟨e1, e2, e3⟩ := kp_one hkp hkp2 hz
    subst e2
    exact ⟨c1, n2, t, xp_n hxp1 e3, hq1, e1⟩
  subst e56
  refine lv_icmp_eq (tgt := 849) hx hb dL_law_156 (by decide) (fun cq => ?_) (fun cq => ?_)
  · refine W.widen (k := 36 + 296 * (k + 1)) (n := 235642 + 5679 * (k + 1)) (by show 36 + 296 * k + 2 + 0 ≤ _; omega) (by show 235642 + 5679 * k + 67 + 0 ≤ _; omega) ?_
    exact next _ _ f cnt1 nums1 t1 0 ls H locs hd1 hV ⟨Mx1, No, rfl, hdx, hxp1, ho⟩ hq1 (lv_sub hl [0, 1, 2, 3, 4] rfl)
  · exact absurd rfl cq

set_option maxHeartbeats 4000000 in
set_option maxRecDepth 100000 in
theorem lw_c_add {p : Program} {l : Launch} {e : Env} {s : State} {m : MethodId} {below : List Frame} {meth : Method} {c : Code} {b L : Nat} {xs : Nat → Int32} {E : hm_E} {M : hm_M} {sz x ot : Nat} {A : Nat → Nat} {k : Nat} {Qf : State → Prop} {MX Mm : hm_M} {f : Nat → Int64} {cnt : Nat} {nums : Nat → Int} {t : Nat → Nat → Int64} {th : Int32} {ls : Array Slot} {H : Heap} {locs : List Loc} (hB : lw_B p l s m c b L xs E M sz) (hk5 : 5 * k + 5 ≤ L) (hd1 : hm_dj MX Mm) (hV : hm_V E.1 vwCl (hm_A M sz) s.heap (hm_j MX Mm) H locs) (hXX : lw_X E MX x ot cnt nums t f) (hq : mq E Mm A th cnt nums t) (hl : lv_has ls 8 [(0, .ref b), (1, .ref x), (2, .ref (A 0)), (3, .ref ot), (4, .int (nI (5 * k)))]) (next : lw_N p l e s m below meth c b E M sz x ot A k Qf) : W p l e room_1 s m [Value.ref b].toArray below meth c H locs (36 + 296 * k) (235642 + 5679 * k) Qf (F0 m 161 ls []) := by
  obtain ⟨hx, hb, hml, hown, hws, hXs, hbl, hbA, hK, hY, hA, hlt, hL⟩ := hB
  have hts : ∀ w ∈ (Cond.initialized RL :: hm_ws), w.before [Value.ref b].toArray s = true := List.forall_mem_cons.mpr ⟨hws _ kw_36, hws⟩
  have ld40 := hws _ kw_671
  obtain ⟨a1, ha1⟩ : ∃ a9, xs (5 * k + 1) = a9 := ⟨_, rfl⟩
  obtain ⟨a2, ha2⟩ : ∃ a9, xs (5 * k + 2) = a9 := ⟨_, rfl⟩
  obtain ⟨a3, ha3⟩ : ∃ a9, xs (5 * k + 3) = a9 := ⟨_, rfl⟩
  obtain ⟨a4, ha4⟩ : ∃ a9, xs (5 * k + 4) = a9 := ⟨_, rfl⟩
  obtain ⟨Mx, No, hMX, hdx, hxp, ho⟩ := hXX
  subst hMX
  obtain ⟨k0, ko, X0, O0, hmd⟩ := hq
  have hcnt := md_c hmd
  refine lv_aload_n hx hb dL_law_161 rfl (lv_at hl 1 rfl) ?_
  refine lv_aload_n hx hb dL_law_162 rfl (lv_at hl 0 rfl) ?_
  refine lv_iload hx hb dL_law_163 (lv_at hl 4 rfl) ?_
  refine lv_iconst (v := 1) hx hb dL_law_165 (by decide) ?_
  refine lv_iadd hx hb dL_law_166 ?_
  refine lw_sld hx hb hXs hbl hbA hV.2.2 (j := 5 * k + 1) (nI_1 _) (by omega) hL ha1 dL_law_167 ?_
  refine lv_aload_n hx hb dL_law_168 rfl (lv_at hl 0 rfl) ?_
  refine lv_iload hx hb dL_law_169 (lv_at hl 4 rfl) ?_
  refine lv_iconst (v := 2) hx hb dL_law_171 (by decide) ?_
  refine lv_iadd hx hb dL_law_172 ?_
  refine lw_sld hx hb hXs hbl hbA hV.2.2 (j := 5 * k + 2) (lw_a2 _) (by omega) hL ha2 dL_law_173 ?_
  refine lv_aload_n hx hb dL_law_174 rfl (lv_at hl 3 rfl) ?_
  refine hm_fcalli (vx_runSW (As := [.ref x, .int a1, .int a2, .ref ot]) (rest := []) ⟨hx, hb, hml, hown, hts⟩ (c_L_add l hlt E (a := a1) (b := a2) rfl hdx hxp ho H.size) (vx_cwSW 4 hts (hm_gS kw_305 kw_306 kw_36 kw_307) rfl rfl rfl (by decide +kernel) ⟨Nat.le_of_ble_eq_true rfl, Nat.le_of_ble_eq_true rfl⟩) (hm_preSX hK (hm_fst hV) hA hY) rfl rfl hl.1 rfl (lv_room (Nat.le_of_ble_eq_true rfl)) dL_law_175 ⟨by show 36 + 296 * k + 4 ≤ 603072; omega, by show 235642 + 5679 * k + 79 ≤ 7198826; omega⟩) hV hd1 hA (fun r5 MX1 H locs hp hd hV => ?_)
  have hd1 := hd
  have hp5 := hp
  clear hp
  refine lv_istore (lv' := [(5, .int r5), (0, .ref b), (1, .ref x), (2, .ref (A 0)), (3, .ref ot), (4, .int (nI (5 * k)))]) hx hb dL_law_178 hl (by decide) rfl (fun ls hl => ?_)
  refine lv_aload_n hx hb dL_law_180 rfl (lv_at hl 3 rfl) ?_
  refine lv_aload_n hx hb dL_law_181 rfl (lv_at hl 1 rfl) ?_
  refine lv_iload hx hb dL_law_182 (lv_at hl 5 rfl) ?_
  refine lv_iconst (v := 1) hx hb dL_law_184 (by decide) ?_
  refine lv_iadd hx hb dL_law_185 ?_
  refine lw_sld hx hb hXs hbl hbA hV.2.2 (j := 5 * k + 1) (nI_1 _) (by omega) hL ha1 dL_law_186 ?_
  refine lv_aload_n hx hb dL_law_187 rfl (lv_at hl 1 rfl) ?_
  refine lv_iload hx hb dL_law_188 (lv_at hl 5 rfl) ?_
  refine lv_iconst (v := 2) hx hb dL_law_190 (by decide) ?_
  refine lv_iadd hx hb dL_law_191 ?_
  refine lw_sld hx hb hXs hbl hbA hV.2.2 (j := 5 * k + 2) (lw_a2 _) (by omega) hL ha2 dL_law_192 ?_
  have hV := hm_Ve (hm_swp hd1) hV
  have hd2 := hm_dsy hd1
  refine hm_fcalli (va_runV (As := [.int a1, .int a2]) (rest := []) ⟨hx, hb, hml, hown, hts⟩ (c_X4_add l E (a := a1) (b := a2) hmd H.size) (cwV 2 hts (hm_gV kw_557 kw_558 kw_559 kw_41 kw_560) rfl rfl rfl (by decide +kernel) ⟨Nat.le_of_ble_eq_true rfl, Nat.le_of_ble_eq_true rfl⟩) (hm_preV hK (hm_fst hV) (md_x hmd) rfl) rfl rfl hl.1 rfl (lv_room (Nat.le_of_ble_eq_true rfl)) dL_law_193 ⟨by show 36 + 296 * k + 4 + 0 ≤ 603072; omega, by show 235642 + 5679 * k + 79 + 0 ≤ 7198826; omega⟩) hV hd2 hA (fun r6 Mm1 H locs hp hd hV => ?_)
  have hV := hm_Ve (hm_swp hd) hV
  have hd1 := hm_dsy hd
  have hT : lw_T E x ot A t MX1 Mm1 r5 r6.toInt64 := by
    rcases hp5 with ⟨rfl, v, c1, n1, Mx1, ⟨i, j, g1, g2, g3, g4, hkp⟩, hd9, hM9, hxp9⟩ | ⟨⟨rfl, hno⟩, Mx1, hd9, hM9, hxp9⟩ <;> rcases hp with ⟨hno2, e6, hq9⟩ | ⟨i2, j2, k1, k2, k3, k4, c2, n2, hkp2, hq9⟩
    · exact absurd ⟨lw_kn g1 g3, lw_kn g2 g4⟩ hno2
    · cases lw_inj hcnt g1 k1 g3 k3
      cases lw_inj hcnt g2 k2 g4 k4
      exact lw_good hkp hkp2 hd9 hM9 hxp9 hq9
    · exact lw_bad (by decide) ho hd9 hM9 hxp9 hq9
    · exact absurd ⟨lw_kn k1 k3, lw_kn k2 k4⟩ hno
  obtain ⟨cnt1, nums1, f1, hXX, hq, hf0⟩ := hT
  obtain ⟨k1, ko1, X1, O1, hmd⟩ := hq
  refine lv_istore (lv' := [(6, .int r6), (5, .int r5), (0, .ref b), (1, .ref x), (2, .ref (A 0)), (3, .ref ot), (4, .int (nI (5 * k)))]) hx hb dL_law_196 hl (by decide) rfl (fun ls hl => ?_)
  refine lv_aload_n hx hb dL_law_198 rfl (lv_at hl 4 rfl) ?_
  have hV := hm_Ve (hm_swp hd1) hV
  have hd2 := hm_dsy hd1
  refine hm_fcalli (va_runV (As := []) (rest := []) ⟨hx, hb, hml, hown, hts⟩ (c_X4_thrown l E hmd H.size) (cwV 0 hts (hm_gV kw_529 kw_530 kw_531 kw_41 kw_532) rfl rfl rfl (by decide +kernel) ⟨Nat.le_of_ble_eq_true rfl, Nat.le_of_ble_eq_true rfl⟩) (hm_preV hK (hm_fst hV) (md_x hmd) rfl) rfl rfl hl.1 rfl (lv_room (Nat.le_of_ble_eq_true rfl)) dL_law_199 ⟨by show 36 + 296 * k + 4 + 0 ≤ 603072; omega, by show 235642 + 5679 * k + 79 + 0 ≤ 7198826; omega⟩) hV hd2 hA (fun r7 Mm2 H locs hp hd hV => ?_)
  have hV := hm_Ve (hm_swp hd) hV
  have hd1 := hm_dsy hd
  obtain ⟨e7, hM7⟩ := hp
  rw [hM7] at hV hd1
  subst e7
  refine lv_iload hx hb dL_law_202 (lv_at hl 1 rfl) ?_
  refine lv_icmp_eq (tgt := 209) hx hb dL_law_204 (by decide) (fun cq => ?_) (fun cq => ?_)
  · refine lv_iload hx hb dL_law_209 (lv_at hl 1 rfl) ?_
    refine lv_if_ne (tgt := 226) hx hb dL_law_211 (by decide) (fun cz => ?_) (fun cz => ?_)
    · refine lv_goto (tgt := 849) hx hb dL_law_226 (by decide) ?_
      refine W.widen (k := 36 + 296 * (k + 1)) (n := 235642 + 5679 * (k + 1)) (by show 36 + 296 * k + 4 + 0 + 0 ≤ _; omega) (by show 235642 + 5679 * k + 79 + 0 + 0 ≤ _; omega) ?_
      exact next _ _ f1 cnt1 nums1 t r7 ls H locs hd1 hV hXX ⟨k1, ko1, X1, O1, hmd⟩ (lv_sub hl [2, 3, 4, 5, 6] rfl)
    · obtain ⟨Mx5, No5, hMX5, hdx5, hxp5, ho5⟩ := hXX
      refine lv_aload_n hx hb dL_law_214 rfl (lv_at hl 5 rfl) ?_
      refine lv_iconst (v := 0) hx hb dL_law_215 (by decide) ?_
      refine hm_laldN hx hb hK.1 hV 1 (hm_jl ((congrFun hMX5 ot).trans (hm_jr hdx5 ho5))) rfl (k := 0) (by decide) (by decide) dL_law_216 ?_
      refine lv_iload hx hb dL_law_217 (lv_at hl 0 rfl) ?_
      refine lv_i2l hx hb dL_law_219 rfl ?_
      refine W.lcmp hx hb dL_law_220 ?_
      refine hm_topi (show lg_cmp (f1 0) r6.toInt64 = 0 from by rw [show f1 0 = r6.toInt64 from hf0 cz]; exact lw_cmp _) ?_
      refine lv_if_eq (tgt := 226) hx hb dL_law_221 (by decide) (fun cw => ?_) (fun cw => ?_)
      · refine lv_goto (tgt := 849) hx hb dL_law_226 (by decide) ?_
        refine W.widen (k := 36 + 296 * (k + 1)) (n := 235642 + 5679 * (k + 1)) (by show 36 + 296 * k + 4 + 0 + 0 ≤ _; omega) (by show 235642 + 5679 * k + 79 + 0 + 0 ≤ _; omega) ?_
        exact next _ _ f1 cnt1 nums1 t r7 ls H locs hd1 hV ⟨Mx5, No5, hMX5, hdx5, hxp5, ho5⟩ ⟨k1, ko1, X1, O1, hmd⟩ (lv_sub hl [2, 3, 4, 5, 6] rfl)
      · exact absurd rfl cw
  · exact absurd rfl cq

set_option maxHeartbeats 4000000 in
set_option maxRecDepth 100000 in
theorem lw_c_times {p : Program} {l : Launch} {e : Env} {s : State} {m : MethodId} {below : List Frame} {meth : Method} {c : Code} {b L : Nat} {xs : Nat → Int32} {E : hm_E} {M : hm_M} {sz x ot : Nat} {A : Nat → Nat} {k : Nat} {Qf : State → Prop} {MX Mm : hm_M} {f : Nat → Int64} {cnt : Nat} {nums : Nat → Int} {t : Nat → Nat → Int64} {th : Int32} {ls : Array Slot} {H : Heap} {locs : List Loc} (hB : lw_B p l s m c b L xs E M sz) (hk5 : 5 * k + 5 ≤ L) (hd1 : hm_dj MX Mm) (hV : hm_V E.1 vwCl (hm_A M sz) s.heap (hm_j MX Mm) H locs) (hXX : lw_X E MX x ot cnt nums t f) (hq : mq E Mm A th cnt nums t) (hl : lv_has ls 8 [(0, .ref b), (1, .ref x), (2, .ref (A 0)), (3, .ref ot), (4, .int (nI (5 * k)))]) (next : lw_N p l e s m below meth c b E M sz x ot A k Qf) : W p l e room_1 s m [Value.ref b].toArray below meth c H locs (36 + 296 * k) (235642 + 5679 * k) Qf (F0 m 229 ls []) := by
  obtain ⟨hx, hb, hml, hown, hws, hXs, hbl, hbA, hK, hY, hA, hlt, hL⟩ := hB
  have hts : ∀ w ∈ (Cond.initialized RL :: hm_ws), w.before [Value.ref b].toArray s = true := List.forall_mem_cons.mpr ⟨hws _ kw_36, hws⟩
  have ld40 := hws _ kw_671
  obtain ⟨a1, ha1⟩ : ∃ a9, xs (5 * k + 1) = a9 := ⟨_, rfl⟩
  obtain ⟨a2, ha2⟩ : ∃ a9, xs (5 * k + 2) = a9 := ⟨_, rfl⟩
  obtain ⟨a3, ha3⟩ : ∃ a9, xs (5 * k + 3) = a9 := ⟨_, rfl⟩
  obtain ⟨a4, ha4⟩ : ∃ a9, xs (5 * k + 4) = a9 := ⟨_, rfl⟩
  obtain ⟨Mx, No, hMX, hdx, hxp, ho⟩ := hXX
  subst hMX
  obtain ⟨k0, ko, X0, O0, hmd⟩ := hq
  have hcnt := md_c hmd
  refine lv_aload_n hx hb dL_law_229 rfl (lv_at hl 1 rfl) ?_
  refine lv_aload_n hx hb dL_law_230 rfl (lv_at hl 0 rfl) ?_
  refine lv_iload hx hb dL_law_231 (lv_at hl 4 rfl) ?_
  refine lv_iconst (v := 1) hx hb dL_law_233 (by decide) ?_
  refine lv_iadd hx hb dL_law_234 ?_
  refine lw_sld hx hb hXs hbl hbA hV.2.2 (j := 5 * k + 1) (nI_1 _) (by omega) hL ha1 dL_law_235 ?_
  refine lv_aload_n hx hb dL_law_236 rfl (lv_at hl 0 rfl) ?_
  refine lv_iload hx hb dL_law_237 (lv_at hl 4 rfl) ?_
  refine lv_iconst (v := 2) hx hb dL_law_239 (by decide) ?_
  refine lv_iadd hx hb dL_law_240 ?_
  refine lw_sld hx hb hXs hbl hbA hV.2.2 (j := 5 * k + 2) (lw_a2 _) (by omega) hL ha2 dL_law_241 ?_
  refine lv_aload_n hx hb dL_law_242 rfl (lv_at hl 3 rfl) ?_
  refine hm_fcalli (vx_runSW (As := [.ref x, .int a1, .int a2, .ref ot]) (rest := []) ⟨hx, hb, hml, hown, hts⟩ (c_L_times l hlt E (a := a1) (b := a2) rfl hdx hxp ho H.size) (vx_cwSW 4 hts (hm_gS kw_395 kw_396 kw_36 kw_397) rfl rfl rfl (by decide +kernel) ⟨Nat.le_of_ble_eq_true rfl, Nat.le_of_ble_eq_true rfl⟩) (hm_preSX hK (hm_fst hV) hA hY) rfl rfl hl.1 rfl (lv_room (Nat.le_of_ble_eq_true rfl)) dL_law_243 ⟨by show 36 + 296 * k + 4 ≤ 603072; omega, by show 235642 + 5679 * k + 79 ≤ 7198826; omega⟩) hV hd1 hA (fun r5 MX1 H locs hp hd hV => ?_)
  have hd1 := hd
  have hp5 := hp
  clear hp
  refine lv_istore (lv' := [(5, .int r5), (0, .ref b), (1, .ref x), (2, .ref (A 0)), (3, .ref ot), (4, .int (nI (5 * k)))]) hx hb dL_law_246 hl (by decide) rfl (fun ls hl => ?_)
  refine lv_aload_n hx hb dL_law_248 rfl (lv_at hl 3 rfl) ?_
  refine lv_aload_n hx hb dL_law_249 rfl (lv_at hl 1 rfl) ?_
  refine lv_iload hx hb dL_law_250 (lv_at hl 5 rfl) ?_
  refine lv_iconst (v := 1) hx hb dL_law_252 (by decide) ?_
  refine lv_iadd hx hb dL_law_253 ?_
  refine lw_sld hx hb hXs hbl hbA hV.2.2 (j := 5 * k + 1) (nI_1 _) (by omega) hL ha1 dL_law_254 ?_
  refine lv_aload_n hx hb dL_law_255 rfl (lv_at hl 1 rfl) ?_
  refine lv_iload hx hb dL_law_256 (lv_at hl 5 rfl) ?_
  refine lv_iconst (v := 2) hx hb dL_law_258 (by decide) ?_
  refine lv_iadd hx hb dL_law_259 ?_
  refine lw_sld hx hb hXs hbl hbA hV.2.2 (j := 5 * k + 2) (lw_a2 _) (by omega) hL ha2 dL_law_260 ?_
  have hV := hm_Ve (hm_swp hd1) hV
  have hd2 := hm_dsy hd1
  refine hm_fcalli (va_runV (As := [.int a1, .int a2]) (rest := []) ⟨hx, hb, hml, hown, hts⟩ (c_X4_times l E (a := a1) (b := a2) hmd H.size) (cwV 2 hts (hm_gV kw_590 kw_591 kw_592 kw_41 kw_593) rfl rfl rfl (by decide +kernel) ⟨Nat.le_of_ble_eq_true rfl, Nat.le_of_ble_eq_true rfl⟩) (hm_preV hK (hm_fst hV) (md_x hmd) rfl) rfl rfl hl.1 rfl (lv_room (Nat.le_of_ble_eq_true rfl)) dL_law_261 ⟨by show 36 + 296 * k + 4 + 0 ≤ 603072; omega, by show 235642 + 5679 * k + 79 + 0 ≤ 7198826; omega⟩) hV hd2 hA (fun r6 Mm1 H locs hp hd hV => ?_)
  have hV := hm_Ve (hm_swp hd) hV
  have hd1 := hm_dsy hd
  have hT : lw_T E x ot A t MX1 Mm1 r5 r6.toInt64 := by
    rcases hp5 with ⟨rfl, v, c1, n1, Mx1, ⟨i, j, g1, g2, g3, g4, hkp⟩, hd9, hM9, hxp9⟩ | ⟨⟨rfl, hno⟩, Mx1, hd9, hM9, hxp9⟩ <;> rcases hp with ⟨hno2, e6, hq9⟩ | ⟨i2, j2, k1, k2, k3, k4, c2, n2, hkp2, hq9⟩
    · exact absurd ⟨lw_kn g1 g3, lw_kn g2 g4⟩ hno2
    · cases lw_inj hcnt g1 k1 g3 k3
      cases lw_inj hcnt g2 k2 g4 k4
      exact lw_good hkp hkp2 hd9 hM9 hxp9 hq9
    · exact lw_bad (by decide) ho hd9 hM9 hxp9 hq9
    · exact absurd ⟨lw_kn k1 k3, lw_kn k2 k4⟩ hno
  obtain ⟨cnt1, nums1, f1, hXX, hq, hf0⟩ := hT
  obtain ⟨k1, ko1, X1, O1, hmd⟩ := hq
  refine lv_istore (lv' := [(6, .int r6), (5, .int r5), (0, .ref b), (1, .ref x), (2, .ref (A 0)), (3, .ref ot), (4, .int (nI (5 * k)))]) hx hb dL_law_264 hl (by decide) rfl (fun ls hl => ?_)
  refine lv_aload_n hx hb dL_law_266 rfl (lv_at hl 4 rfl) ?_
  have hV := hm_Ve (hm_swp hd1) hV
  have hd2 := hm_dsy hd1
  refine hm_fcalli (va_runV (As := []) (rest := []) ⟨hx, hb, hml, hown, hts⟩ (c_X4_thrown l E hmd H.size) (cwV 0 hts (hm_gV kw_529 kw_530 kw_531 kw_41 kw_532) rfl rfl rfl (by decide +kernel) ⟨Nat.le_of_ble_eq_true rfl, Nat.le_of_ble_eq_true rfl⟩) (hm_preV hK (hm_fst hV) (md_x hmd) rfl) rfl rfl hl.1 rfl (lv_room (Nat.le_of_ble_eq_true rfl)) dL_law_267 ⟨by show 36 + 296 * k + 4 + 0 ≤ 603072; omega, by show 235642 + 5679 * k + 79 + 0 ≤ 7198826; omega⟩) hV hd2 hA (fun r7 Mm2 H locs hp hd hV => ?_)
  have hV := hm_Ve (hm_swp hd) hV
  have hd1 := hm_dsy hd
  obtain ⟨e7, hM7⟩ := hp
  rw [hM7] at hV hd1
  subst e7
  refine lv_iload hx hb dL_law_270 (lv_at hl 1 rfl) ?_
  refine lv_icmp_eq (tgt := 277) hx hb dL_law_272 (by decide) (fun cq => ?_) (fun cq => ?_)
  · refine lv_iload hx hb dL_law_277 (lv_at hl 1 rfl) ?_
    refine lv_if_ne (tgt := 294) hx hb dL_law_279 (by decide) (fun cz => ?_) (fun cz => ?_)
    · refine lv_goto (tgt := 849) hx hb dL_law_294 (by decide) ?_
      refine W.widen (k := 36 + 296 * (k + 1)) (n := 235642 + 5679 * (k + 1)) (by show 36 + 296 * k + 4 + 0 + 0 ≤ _; omega) (by show 235642 + 5679 * k + 79 + 0 + 0 ≤ _; omega) ?_
      exact next _ _ f1 cnt1 nums1 t r7 ls H locs hd1 hV hXX ⟨k1, ko1, X1, O1, hmd⟩ (lv_sub hl [2, 3, 4, 5, 6] rfl)
    · obtain ⟨Mx5, No5, hMX5, hdx5, hxp5, ho5⟩ := hXX
      refine lv_aload_n hx hb dL_law_282 rfl (lv_at hl 5 rfl) ?_
      refine lv_iconst (v := 0) hx hb dL_law_283 (by decide) ?_
      refine hm_laldN hx hb hK.1 hV 1 (hm_jl ((congrFun hMX5 ot).trans (hm_jr hdx5 ho5))) rfl (k := 0) (by decide) (by decide) dL_law_284 ?_
      refine lv_iload hx hb dL_law_285 (lv_at hl 0 rfl) ?_
      refine lv_i2l hx hb dL_law_287 rfl ?_
      refine W.lcmp hx hb dL_law_288 ?_
      refine hm_topi (show lg_cmp (f1 0) r6.toInt64 = 0 from by rw [show f1 0 = r6.toInt64 from hf0 cz]; exact lw_cmp _) ?_
      refine lv_if_eq (tgt := 294) hx hb dL_law_289 (by decide) (fun cw => ?_) (fun cw => ?_)
      · refine lv_goto (tgt := 849) hx hb dL_law_294 (by decide) ?_
        refine W.widen (k := 36 + 296 * (k + 1)) (n := 235642 + 5679 * (k + 1)) (by show 36 + 296 * k + 4 + 0 + 0 ≤ _; omega) (by show 235642 + 5679 * k + 79 + 0 + 0 ≤ _; omega) ?_
        exact next _ _ f1 cnt1 nums1 t r7 ls H locs hd1 hV ⟨Mx5, No5, hMX5, hdx5, hxp5, ho5⟩ ⟨k1, ko1, X1, O1, hmd⟩ (lv_sub hl [2, 3, 4, 5, 6] rfl)
      · exact absurd rfl cw
  · exact absurd rfl cq

set_option maxHeartbeats 4000000 in
set_option maxRecDepth 100000 in
theorem lw_c_over {p : Program} {l : Launch} {e : Env} {s : State} {m : MethodId} {below : List Frame} {meth : Method} {c : Code} {b L : Nat} {xs : Nat → Int32} {E : hm_E} {M : hm_M} {sz x ot : Nat} {A : Nat → Nat} {k : Nat} {Qf : State → Prop} {MX Mm : hm_M} {f : Nat → Int64} {cnt : Nat} {nums : Nat → Int} {t : Nat → Nat → Int64} {th : Int32} {ls : Array Slot} {H : Heap} {locs : List Loc} (hB : lw_B p l s m c b L xs E M sz) (hk5 : 5 * k + 5 ≤ L) (hd1 : hm_dj MX Mm) (hV : hm_V E.1 vwCl (hm_A M sz) s.heap (hm_j MX Mm) H locs) (hXX : lw_X E MX x ot cnt nums t f) (hq : mq E Mm A th cnt nums t) (hl : lv_has ls 8 [(0, .ref b), (1, .ref x), (2, .ref (A 0)), (3, .ref ot), (4, .int (nI (5 * k)))]) (next : lw_N p l e s m below meth c b E M sz x ot A k Qf) : W p l e room_1 s m [Value.ref b].toArray below meth c H locs (36 + 296 * k) (235642 + 5679 * k) Qf (F0 m 297 ls []) := by
  obtain ⟨hx, hb, hml, hown, hws, hXs, hbl, hbA, hK, hY, hA, hlt, hL⟩ := hB
  have hts : ∀ w ∈ (Cond.initialized RL :: hm_ws), w.before [Value.ref b].toArray s = true := List.forall_mem_cons.mpr ⟨hws _ kw_36, hws⟩
  have ld40 := hws _ kw_671
  obtain ⟨a1, ha1⟩ : ∃ a9, xs (5 * k + 1) = a9 := ⟨_, rfl⟩
  obtain ⟨a2, ha2⟩ : ∃ a9, xs (5 * k + 2) = a9 := ⟨_, rfl⟩
  obtain ⟨a3, ha3⟩ : ∃ a9, xs (5 * k + 3) = a9 := ⟨_, rfl⟩
  obtain ⟨a4, ha4⟩ : ∃ a9, xs (5 * k + 4) = a9 := ⟨_, rfl⟩
  obtain ⟨Mx, No, hMX, hdx, hxp, ho⟩ := hXX
  subst hMX
  obtain ⟨k0, ko, X0, O0, hmd⟩ := hq
  have hcnt := md_c hmd
  refine lv_aload_n hx hb dL_law_297 rfl (lv_at hl 1 rfl) ?_
  refine lv_aload_n hx hb dL_law_298 rfl (lv_at hl 0 rfl) ?_
  refine lv_iload hx hb dL_law_299 (lv_at hl 4 rfl) ?_
  refine lv_iconst (v := 1) hx hb dL_law_301 (by decide) ?_
  refine lv_iadd hx hb dL_law_302 ?_
  refine lw_sld hx hb hXs hbl hbA hV.2.2 (j := 5 * k + 1) (nI_1 _) (by omega) hL ha1 dL_law_303 ?_
  refine lv_aload_n hx hb dL_law_304 rfl (lv_at hl 0 rfl) ?_
  refine lv_iload hx hb dL_law_305 (lv_at hl 4 rfl) ?_
  refine lv_iconst (v := 2) hx hb dL_law_307 (by decide) ?_
  refine lv_iadd hx hb dL_law_308 ?_
  refine lw_sld hx hb hXs hbl hbA hV.2.2 (j := 5 * k + 2) (lw_a2 _) (by omega) hL ha2 dL_law_309 ?_
  refine lv_aload_n hx hb dL_law_310 rfl (lv_at hl 3 rfl) ?_
  refine hm_fcalli (vx_runSW (As := [.ref x, .int a1, .int a2, .ref ot]) (rest := []) ⟨hx, hb, hml, hown, hts⟩ (c_L_over l hlt E (a := a1) (b := a2) rfl hdx hxp ho H.size) (vx_cwSW 4 hts (hm_gS kw_403 kw_404 kw_36 kw_405) rfl rfl rfl (by decide +kernel) ⟨Nat.le_of_ble_eq_true rfl, Nat.le_of_ble_eq_true rfl⟩) (hm_preSX hK (hm_fst hV) hA hY) rfl rfl hl.1 rfl (lv_room (Nat.le_of_ble_eq_true rfl)) dL_law_311 ⟨by show 36 + 296 * k + 4 ≤ 603072; omega, by show 235642 + 5679 * k + 79 ≤ 7198826; omega⟩) hV hd1 hA (fun r5 MX1 H locs hp hd hV => ?_)
  have hd1 := hd
  have hp5 := hp
  clear hp
  refine lv_istore (lv' := [(5, .int r5), (0, .ref b), (1, .ref x), (2, .ref (A 0)), (3, .ref ot), (4, .int (nI (5 * k)))]) hx hb dL_law_314 hl (by decide) rfl (fun ls hl => ?_)
  refine lv_aload_n hx hb dL_law_316 rfl (lv_at hl 3 rfl) ?_
  refine lv_aload_n hx hb dL_law_317 rfl (lv_at hl 1 rfl) ?_
  refine lv_iload hx hb dL_law_318 (lv_at hl 5 rfl) ?_
  refine lv_iconst (v := 1) hx hb dL_law_320 (by decide) ?_
  refine lv_iadd hx hb dL_law_321 ?_
  refine lw_sld hx hb hXs hbl hbA hV.2.2 (j := 5 * k + 1) (nI_1 _) (by omega) hL ha1 dL_law_322 ?_
  refine lv_aload_n hx hb dL_law_323 rfl (lv_at hl 1 rfl) ?_
  refine lv_iload hx hb dL_law_324 (lv_at hl 5 rfl) ?_
  refine lv_iconst (v := 2) hx hb dL_law_326 (by decide) ?_
  refine lv_iadd hx hb dL_law_327 ?_
  refine lw_sld hx hb hXs hbl hbA hV.2.2 (j := 5 * k + 2) (lw_a2 _) (by omega) hL ha2 dL_law_328 ?_
  have hV := hm_Ve (hm_swp hd1) hV
  have hd2 := hm_dsy hd1
  refine hm_fcalli (va_runV (As := [.int a1, .int a2]) (rest := []) ⟨hx, hb, hml, hown, hts⟩ (c_X4_over l E (a := a1) (b := a2) hmd H.size) (cwV 2 hts (hm_gV kw_598 kw_599 kw_600 kw_41 kw_601) rfl rfl rfl (by decide +kernel) ⟨Nat.le_of_ble_eq_true rfl, Nat.le_of_ble_eq_true rfl⟩) (hm_preV hK (hm_fst hV) (md_x hmd) rfl) rfl rfl hl.1 rfl (lv_room (Nat.le_of_ble_eq_true rfl)) dL_law_329 ⟨by show 36 + 296 * k + 4 + 0 ≤ 603072; omega, by show 235642 + 5679 * k + 79 + 0 ≤ 7198826; omega⟩) hV hd2 hA (fun r6 Mm1 H locs hp hd hV => ?_)
  have hV := hm_Ve (hm_swp hd) hV
  have hd1 := hm_dsy hd
  have hT : lw_T E x ot A t MX1 Mm1 r5 r6.toInt64 := by
    rcases hp5 with ⟨rfl, v, c1, n1, Mx1, ⟨i, j, g1, g2, g3, g4, g5, hkp⟩, hd9, hM9, hxp9⟩ | ⟨⟨rfl, hno⟩ | ⟨rfl, i, j, g1, g2, g3, g4, g5⟩, Mx1, hd9, hM9, hxp9⟩ <;> rcases hp with ⟨hno2, e6, hq9⟩ | ⟨i2, j2, k1, k2, k3, k4, k5, k6, hq9⟩ | ⟨i2, j2, k1, k2, k3, k4, k5, c2, n2, hkp2, hq9⟩
    · exact absurd ⟨lw_kn g1 g3, lw_kn g2 g4⟩ hno2
    · cases lw_inj hcnt g2 k2 g4 k4
      exact absurd k5 g5
    · cases lw_inj hcnt g1 k1 g3 k3
      cases lw_inj hcnt g2 k2 g4 k4
      exact lw_good hkp hkp2 hd9 hM9 hxp9 hq9
    · exact lw_bad (by decide) ho hd9 hM9 hxp9 hq9
    · exact absurd ⟨lw_kn k1 k3, lw_kn k2 k4⟩ hno
    · exact absurd ⟨lw_kn k1 k3, lw_kn k2 k4⟩ hno
    · exact absurd ⟨lw_kn g1 g3, lw_kn g2 g4⟩ hno2
    · exact lw_bad (by decide) ho hd9 hM9 hxp9 hq9
    · cases lw_inj hcnt g2 k2 g4 k4
      exact absurd g5 k5
  obtain ⟨cnt1, nums1, f1, hXX, hq, hf0⟩ := hT
  obtain ⟨k1, ko1, X1, O1, hmd⟩ := hq
  refine lv_istore (lv' := [(6, .int r6), (5, .int r5), (0, .ref b), (1, .ref x), (2, .ref (A 0)), (3, .ref ot), (4, .int (nI (5 * k)))]) hx hb dL_law_332 hl (by decide) rfl (fun ls hl => ?_)
  refine lv_aload_n hx hb dL_law_334 rfl (lv_at hl 4 rfl) ?_
  have hV := hm_Ve (hm_swp hd1) hV
  have hd2 := hm_dsy hd1
  refine hm_fcalli (va_runV (As := []) (rest := []) ⟨hx, hb, hml, hown, hts⟩ (c_X4_thrown l E hmd H.size) (cwV 0 hts (hm_gV kw_529 kw_530 kw_531 kw_41 kw_532) rfl rfl rfl (by decide +kernel) ⟨Nat.le_of_ble_eq_true rfl, Nat.le_of_ble_eq_true rfl⟩) (hm_preV hK (hm_fst hV) (md_x hmd) rfl) rfl rfl hl.1 rfl (lv_room (Nat.le_of_ble_eq_true rfl)) dL_law_335 ⟨by show 36 + 296 * k + 4 + 0 ≤ 603072; omega, by show 235642 + 5679 * k + 79 + 0 ≤ 7198826; omega⟩) hV hd2 hA (fun r7 Mm2 H locs hp hd hV => ?_)
  have hV := hm_Ve (hm_swp hd) hV
  have hd1 := hm_dsy hd
  obtain ⟨e7, hM7⟩ := hp
  rw [hM7] at hV hd1
  subst e7
  refine lv_iload hx hb dL_law_338 (lv_at hl 1 rfl) ?_
  refine lv_icmp_eq (tgt := 345) hx hb dL_law_340 (by decide) (fun cq => ?_) (fun cq => ?_)
  · refine lv_iload hx hb dL_law_345 (lv_at hl 1 rfl) ?_
    refine lv_if_ne (tgt := 362) hx hb dL_law_347 (by decide) (fun cz => ?_) (fun cz => ?_)
    · refine lv_goto (tgt := 849) hx hb dL_law_362 (by decide) ?_
      refine W.widen (k := 36 + 296 * (k + 1)) (n := 235642 + 5679 * (k + 1)) (by show 36 + 296 * k + 4 + 0 + 0 ≤ _; omega) (by show 235642 + 5679 * k + 79 + 0 + 0 ≤ _; omega) ?_
      exact next _ _ f1 cnt1 nums1 t r7 ls H locs hd1 hV hXX ⟨k1, ko1, X1, O1, hmd⟩ (lv_sub hl [2, 3, 4, 5, 6] rfl)
    · obtain ⟨Mx5, No5, hMX5, hdx5, hxp5, ho5⟩ := hXX
      refine lv_aload_n hx hb dL_law_350 rfl (lv_at hl 5 rfl) ?_
      refine lv_iconst (v := 0) hx hb dL_law_351 (by decide) ?_
      refine hm_laldN hx hb hK.1 hV 1 (hm_jl ((congrFun hMX5 ot).trans (hm_jr hdx5 ho5))) rfl (k := 0) (by decide) (by decide) dL_law_352 ?_
      refine lv_iload hx hb dL_law_353 (lv_at hl 0 rfl) ?_
      refine lv_i2l hx hb dL_law_355 rfl ?_
      refine W.lcmp hx hb dL_law_356 ?_
      refine hm_topi (show lg_cmp (f1 0) r6.toInt64 = 0 from by rw [show f1 0 = r6.toInt64 from hf0 cz]; exact lw_cmp _) ?_
      refine lv_if_eq (tgt := 362) hx hb dL_law_357 (by decide) (fun cw => ?_) (fun cw => ?_)
      · refine lv_goto (tgt := 849) hx hb dL_law_362 (by decide) ?_
        refine W.widen (k := 36 + 296 * (k + 1)) (n := 235642 + 5679 * (k + 1)) (by show 36 + 296 * k + 4 + 0 + 0 ≤ _; omega) (by show 235642 + 5679 * k + 79 + 0 + 0 ≤ _; omega) ?_
        exact next _ _ f1 cnt1 nums1 t r7 ls H locs hd1 hV ⟨Mx5, No5, hMX5, hdx5, hxp5, ho5⟩ ⟨k1, ko1, X1, O1, hmd⟩ (lv_sub hl [2, 3, 4, 5, 6] rfl)
      · exact absurd rfl cw
  · exact absurd rfl cq

set_option maxHeartbeats 4000000 in
set_option maxRecDepth 100000 in
theorem lw_c_power {p : Program} {l : Launch} {e : Env} {s : State} {m : MethodId} {below : List Frame} {meth : Method} {c : Code} {b L : Nat} {xs : Nat → Int32} {E : hm_E} {M : hm_M} {sz x ot : Nat} {A : Nat → Nat} {k : Nat} {Qf : State → Prop} {MX Mm : hm_M} {f : Nat → Int64} {cnt : Nat} {nums : Nat → Int} {t : Nat → Nat → Int64} {th : Int32} {ls : Array Slot} {H : Heap} {locs : List Loc} (hB : lw_B p l s m c b L xs E M sz) (hk5 : 5 * k + 5 ≤ L) (hd1 : hm_dj MX Mm) (hV : hm_V E.1 vwCl (hm_A M sz) s.heap (hm_j MX Mm) H locs) (hXX : lw_X E MX x ot cnt nums t f) (hq : mq E Mm A th cnt nums t) (hl : lv_has ls 8 [(0, .ref b), (1, .ref x), (2, .ref (A 0)), (3, .ref ot), (4, .int (nI (5 * k)))]) (next : lw_N p l e s m below meth c b E M sz x ot A k Qf) : W p l e room_1 s m [Value.ref b].toArray below meth c H locs (36 + 296 * k) (235642 + 5679 * k) Qf (F0 m 365 ls []) := by
  obtain ⟨hx, hb, hml, hown, hws, hXs, hbl, hbA, hK, hY, hA, hlt, hL⟩ := hB
  have hts : ∀ w ∈ (Cond.initialized RL :: hm_ws), w.before [Value.ref b].toArray s = true := List.forall_mem_cons.mpr ⟨hws _ kw_36, hws⟩
  have ld40 := hws _ kw_671
  obtain ⟨a1, ha1⟩ : ∃ a9, xs (5 * k + 1) = a9 := ⟨_, rfl⟩
  obtain ⟨a2, ha2⟩ : ∃ a9, xs (5 * k + 2) = a9 := ⟨_, rfl⟩
  obtain ⟨a3, ha3⟩ : ∃ a9, xs (5 * k + 3) = a9 := ⟨_, rfl⟩
  obtain ⟨a4, ha4⟩ : ∃ a9, xs (5 * k + 4) = a9 := ⟨_, rfl⟩
  obtain ⟨Mx, No, hMX, hdx, hxp, ho⟩ := hXX
  subst hMX
  obtain ⟨k0, ko, X0, O0, hmd⟩ := hq
  have hcnt := md_c hmd
  refine lv_aload_n hx hb dL_law_365 rfl (lv_at hl 1 rfl) ?_
  refine lv_aload_n hx hb dL_law_366 rfl (lv_at hl 0 rfl) ?_
  refine lv_iload hx hb dL_law_367 (lv_at hl 4 rfl) ?_
  refine lv_iconst (v := 1) hx hb dL_law_369 (by decide) ?_
  refine lv_iadd hx hb dL_law_370 ?_
  refine lw_sld hx hb hXs hbl hbA hV.2.2 (j := 5 * k + 1) (nI_1 _) (by omega) hL ha1 dL_law_371 ?_
  refine lv_aload_n hx hb dL_law_372 rfl (lv_at hl 0 rfl) ?_
  refine lv_iload hx hb dL_law_373 (lv_at hl 4 rfl) ?_
  refine lv_iconst (v := 2) hx hb dL_law_375 (by decide) ?_
  refine lv_iadd hx hb dL_law_376 ?_
  refine lw_sld hx hb hXs hbl hbA hV.2.2 (j := 5 * k + 2) (lw_a2 _) (by omega) hL ha2 dL_law_377 ?_
  refine lv_aload_n hx hb dL_law_378 rfl (lv_at hl 3 rfl) ?_
  refine hm_fcalli (vx_runSW (As := [.ref x, .int a1, .int a2, .ref ot]) (rest := []) ⟨hx, hb, hml, hown, hts⟩ (c_L_power l hlt E (a := a1) (b := a2) rfl hdx hxp ho H.size) (vx_cwSW 4 hts (hm_gS kw_429 kw_430 kw_36 kw_431) rfl rfl rfl (by decide +kernel) ⟨Nat.le_of_ble_eq_true rfl, Nat.le_of_ble_eq_true rfl⟩) (hm_preSX hK (hm_fst hV) hA hY) rfl rfl hl.1 rfl (lv_room (Nat.le_of_ble_eq_true rfl)) dL_law_379 ⟨by show 36 + 296 * k + 4 ≤ 603072; omega, by show 235642 + 5679 * k + 79 ≤ 7198826; omega⟩) hV hd1 hA (fun r5 MX1 H locs hp hd hV => ?_)
  have hd1 := hd
  have hp5 := hp
  clear hp
  refine lv_istore (lv' := [(5, .int r5), (0, .ref b), (1, .ref x), (2, .ref (A 0)), (3, .ref ot), (4, .int (nI (5 * k)))]) hx hb dL_law_382 hl (by decide) rfl (fun ls hl => ?_)
  refine lv_aload_n hx hb dL_law_384 rfl (lv_at hl 3 rfl) ?_
  refine lv_aload_n hx hb dL_law_385 rfl (lv_at hl 1 rfl) ?_
  refine lv_iload hx hb dL_law_386 (lv_at hl 5 rfl) ?_
  refine lv_iconst (v := 1) hx hb dL_law_388 (by decide) ?_
  refine lv_iadd hx hb dL_law_389 ?_
  refine lw_sld hx hb hXs hbl hbA hV.2.2 (j := 5 * k + 1) (nI_1 _) (by omega) hL ha1 dL_law_390 ?_
  refine lv_aload_n hx hb dL_law_391 rfl (lv_at hl 1 rfl) ?_
  refine lv_iload hx hb dL_law_392 (lv_at hl 5 rfl) ?_
  refine lv_iconst (v := 2) hx hb dL_law_394 (by decide) ?_
  refine lv_iadd hx hb dL_law_395 ?_
  refine lw_sld hx hb hXs hbl hbA hV.2.2 (j := 5 * k + 2) (lw_a2 _) (by omega) hL ha2 dL_law_396 ?_
  have hV := hm_Ve (hm_swp hd1) hV
  have hd2 := hm_dsy hd1
  refine hm_fcalli (va_runV (As := [.int a1, .int a2]) (rest := []) ⟨hx, hb, hml, hown, hts⟩ (c_X4_power l E (a := a1) (b := a2) hmd H.size) (cwV 2 hts (hm_gV kw_610 kw_611 kw_612 kw_41 kw_613) rfl rfl rfl (by decide +kernel) ⟨Nat.le_of_ble_eq_true rfl, Nat.le_of_ble_eq_true rfl⟩) (hm_preV hK (hm_fst hV) (md_x hmd) rfl) rfl rfl hl.1 rfl (lv_room (Nat.le_of_ble_eq_true rfl)) dL_law_397 ⟨by show 36 + 296 * k + 4 + 0 ≤ 603072; omega, by show 235642 + 5679 * k + 79 + 0 ≤ 7198826; omega⟩) hV hd2 hA (fun r6 Mm1 H locs hp hd hV => ?_)
  have hV := hm_Ve (hm_swp hd) hV
  have hd1 := hm_dsy hd
  have hT : lw_T E x ot A t MX1 Mm1 r5 r6.toInt64 := by
    rcases hp5 with ⟨rfl, v, c1, n1, Mx1, ⟨i, g1, g3, hkp⟩, hd9, hM9, hxp9⟩ | ⟨⟨rfl, hno⟩, Mx1, hd9, hM9, hxp9⟩ <;> rcases hp with ⟨hno2, e6, hq9⟩ | ⟨i2, k1, k3, c2, n2, hkp2, hq9⟩
    · exact absurd ⟨lw_kn g1 g3, lw_kn g1 g3⟩ hno2
    · cases lw_inj hcnt g1 k1 g3 k3
      exact lw_good hkp hkp2 hd9 hM9 hxp9 hq9
    · exact lw_bad (by decide) ho hd9 hM9 hxp9 hq9
    · exact absurd (lw_kn k1 k3) hno
  obtain ⟨cnt1, nums1, f1, hXX, hq, hf0⟩ := hT
  obtain ⟨k1, ko1, X1, O1, hmd⟩ := hq
  refine lv_istore (lv' := [(6, .int r6), (5, .int r5), (0, .ref b), (1, .ref x), (2, .ref (A 0)), (3, .ref ot), (4, .int (nI (5 * k)))]) hx hb dL_law_400 hl (by decide) rfl (fun ls hl => ?_)
  refine lv_aload_n hx hb dL_law_402 rfl (lv_at hl 4 rfl) ?_
  have hV := hm_Ve (hm_swp hd1) hV
  have hd2 := hm_dsy hd1
  refine hm_fcalli (va_runV (As := []) (rest := []) ⟨hx, hb, hml, hown, hts⟩ (c_X4_thrown l E hmd H.size) (cwV 0 hts (hm_gV kw_529 kw_530 kw_531 kw_41 kw_532) rfl rfl rfl (by decide +kernel) ⟨Nat.le_of_ble_eq_true rfl, Nat.le_of_ble_eq_true rfl⟩) (hm_preV hK (hm_fst hV) (md_x hmd) rfl) rfl rfl hl.1 rfl (lv_room (Nat.le_of_ble_eq_true rfl)) dL_law_403 ⟨by show 36 + 296 * k + 4 + 0 ≤ 603072; omega, by show 235642 + 5679 * k + 79 + 0 ≤ 7198826; omega⟩) hV hd2 hA (fun r7 Mm2 H locs hp hd hV => ?_)
  have hV := hm_Ve (hm_swp hd) hV
  have hd1 := hm_dsy hd
  obtain ⟨e7, hM7⟩ := hp
  rw [hM7] at hV hd1
  subst e7
  refine lv_iload hx hb dL_law_406 (lv_at hl 1 rfl) ?_
  refine lv_icmp_eq (tgt := 413) hx hb dL_law_408 (by decide) (fun cq => ?_) (fun cq => ?_)
  · refine lv_iload hx hb dL_law_413 (lv_at hl 1 rfl) ?_
    refine lv_if_ne (tgt := 430) hx hb dL_law_415 (by decide) (fun cz => ?_) (fun cz => ?_)
    · refine lv_goto (tgt := 849) hx hb dL_law_430 (by decide) ?_
      refine W.widen (k := 36 + 296 * (k + 1)) (n := 235642 + 5679 * (k + 1)) (by show 36 + 296 * k + 4 + 0 + 0 ≤ _; omega) (by show 235642 + 5679 * k + 79 + 0 + 0 ≤ _; omega) ?_
      exact next _ _ f1 cnt1 nums1 t r7 ls H locs hd1 hV hXX ⟨k1, ko1, X1, O1, hmd⟩ (lv_sub hl [2, 3, 4, 5, 6] rfl)
    · obtain ⟨Mx5, No5, hMX5, hdx5, hxp5, ho5⟩ := hXX
      refine lv_aload_n hx hb dL_law_418 rfl (lv_at hl 5 rfl) ?_
      refine lv_iconst (v := 0) hx hb dL_law_419 (by decide) ?_
      refine hm_laldN hx hb hK.1 hV 1 (hm_jl ((congrFun hMX5 ot).trans (hm_jr hdx5 ho5))) rfl (k := 0) (by decide) (by decide) dL_law_420 ?_
      refine lv_iload hx hb dL_law_421 (lv_at hl 0 rfl) ?_
      refine lv_i2l hx hb dL_law_423 rfl ?_
      refine W.lcmp hx hb dL_law_424 ?_
      refine hm_topi (show lg_cmp (f1 0) r6.toInt64 = 0 from by rw [show f1 0 = r6.toInt64 from hf0 cz]; exact lw_cmp _) ?_
      refine lv_if_eq (tgt := 430) hx hb dL_law_425 (by decide) (fun cw => ?_) (fun cw => ?_)
      · refine lv_goto (tgt := 849) hx hb dL_law_430 (by decide) ?_
        refine W.widen (k := 36 + 296 * (k + 1)) (n := 235642 + 5679 * (k + 1)) (by show 36 + 296 * k + 4 + 0 + 0 ≤ _; omega) (by show 235642 + 5679 * k + 79 + 0 + 0 ≤ _; omega) ?_
        exact next _ _ f1 cnt1 nums1 t r7 ls H locs hd1 hV ⟨Mx5, No5, hMX5, hdx5, hxp5, ho5⟩ ⟨k1, ko1, X1, O1, hmd⟩ (lv_sub hl [2, 3, 4, 5, 6] rfl)
      · exact absurd rfl cw
  · exact absurd rfl cq

set_option maxHeartbeats 4000000 in
set_option maxRecDepth 100000 in
theorem lw_c_binomial {p : Program} {l : Launch} {e : Env} {s : State} {m : MethodId} {below : List Frame} {meth : Method} {c : Code} {b L : Nat} {xs : Nat → Int32} {E : hm_E} {M : hm_M} {sz x ot : Nat} {A : Nat → Nat} {k : Nat} {Qf : State → Prop} {MX Mm : hm_M} {f : Nat → Int64} {cnt : Nat} {nums : Nat → Int} {t : Nat → Nat → Int64} {th : Int32} {ls : Array Slot} {H : Heap} {locs : List Loc} (hB : lw_B p l s m c b L xs E M sz) (hk5 : 5 * k + 5 ≤ L) (hd1 : hm_dj MX Mm) (hV : hm_V E.1 vwCl (hm_A M sz) s.heap (hm_j MX Mm) H locs) (hXX : lw_X E MX x ot cnt nums t f) (hq : mq E Mm A th cnt nums t) (hl : lv_has ls 8 [(0, .ref b), (1, .ref x), (2, .ref (A 0)), (3, .ref ot), (4, .int (nI (5 * k)))]) (next : lw_N p l e s m below meth c b E M sz x ot A k Qf) : W p l e room_1 s m [Value.ref b].toArray below meth c H locs (36 + 296 * k) (235642 + 5679 * k) Qf (F0 m 433 ls []) := by
  obtain ⟨hx, hb, hml, hown, hws, hXs, hbl, hbA, hK, hY, hA, hlt, hL⟩ := hB
  have hts : ∀ w ∈ (Cond.initialized RL :: hm_ws), w.before [Value.ref b].toArray s = true := List.forall_mem_cons.mpr ⟨hws _ kw_36, hws⟩
  have ld40 := hws _ kw_671
  obtain ⟨a1, ha1⟩ : ∃ a9, xs (5 * k + 1) = a9 := ⟨_, rfl⟩
  obtain ⟨a2, ha2⟩ : ∃ a9, xs (5 * k + 2) = a9 := ⟨_, rfl⟩
  obtain ⟨a3, ha3⟩ : ∃ a9, xs (5 * k + 3) = a9 := ⟨_, rfl⟩
  obtain ⟨a4, ha4⟩ : ∃ a9, xs (5 * k + 4) = a9 := ⟨_, rfl⟩
  obtain ⟨Mx, No, hMX, hdx, hxp, ho⟩ := hXX
  subst hMX
  obtain ⟨k0, ko, X0, O0, hmd⟩ := hq
  have hcnt := md_c hmd
  obtain ⟨A3, ad, rw, el, z, hA0, hk, hz⟩ := hxp
  have hx0 := xw_x hk
  rw [hA0] at hx0
  refine lv_aload_n hx hb dL_law_433 rfl (lv_at hl 1 rfl) ?_
  refine lv_aload_n hx hb dL_law_434 rfl (lv_at hl 0 rfl) ?_
  refine lv_iload hx hb dL_law_435 (lv_at hl 4 rfl) ?_
  refine lv_iconst (v := 1) hx hb dL_law_437 (by decide) ?_
  refine lv_iadd hx hb dL_law_438 ?_
  refine lw_sld hx hb hXs hbl hbA hV.2.2 (j := 5 * k + 1) (nI_1 _) (by omega) hL ha1 dL_law_439 ?_
  refine lv_aload_n hx hb dL_law_440 rfl (lv_at hl 0 rfl) ?_
  refine lv_iload hx hb dL_law_441 (lv_at hl 4 rfl) ?_
  refine lv_iconst (v := 2) hx hb dL_law_443 (by decide) ?_
  refine lv_iadd hx hb dL_law_444 ?_
  refine lw_sld hx hb hXs hbl hbA hV.2.2 (j := 5 * k + 2) (lw_a2 _) (by omega) hL ha2 dL_law_445 ?_
  have hnd := hm_dd hdx hd1
  have hd3 := hm_da hdx hd1
  have hV := hm_Ve (hm_ja Mx No Mm) hV
  have hc9 := c_X3_binomial l E (a := a1) (b := a2) hk
  rw [hA0] at hc9
  refine hm_fcalli (va_runV (As := [.int a1, .int a2]) (rest := []) ⟨hx, hb, hml, hown, hts⟩ (hc9 H.size) (cwV 2 hts (hm_gV kw_156 kw_157 kw_158 kw_37 kw_159) rfl rfl rfl (by decide +kernel) ⟨Nat.le_of_ble_eq_true rfl, Nat.le_of_ble_eq_true rfl⟩) (hm_preV hK (hm_fst hV) hx0 rfl) rfl rfl hl.1 rfl (lv_room (Nat.le_of_ble_eq_true rfl)) dL_law_446 ⟨by show 36 + 296 * k + 2 ≤ 603072; omega, by show 235642 + 5679 * k + 67 ≤ 7198826; omega⟩) hV hd3 hA (fun r5 Mx1 H locs hp hd hV => ?_)
  have hV := hm_Ve (hm_ja Mx1 No Mm).symm hV
  have hdx := hm_db hd
  have hd1 := hm_dc hd hnd
  have hp5 := hp
  clear hp
  refine lv_aload_n hx hb dL_law_449 rfl (lv_at hl 2 rfl) ?_
  refine lv_aload_n hx hb dL_law_450 rfl (lv_at hl 0 rfl) ?_
  refine lv_iload hx hb dL_law_451 (lv_at hl 4 rfl) ?_
  refine lv_iconst (v := 1) hx hb dL_law_453 (by decide) ?_
  refine lv_iadd hx hb dL_law_454 ?_
  refine lw_sld hx hb hXs hbl hbA hV.2.2 (j := 5 * k + 1) (nI_1 _) (by omega) hL ha1 dL_law_455 ?_
  refine lv_aload_n hx hb dL_law_456 rfl (lv_at hl 0 rfl) ?_
  refine lv_iload hx hb dL_law_457 (lv_at hl 4 rfl) ?_
  refine lv_iconst (v := 2) hx hb dL_law_459 (by decide) ?_
  refine lv_iadd hx hb dL_law_460 ?_
  refine lw_sld hx hb hXs hbl hbA hV.2.2 (j := 5 * k + 2) (lw_a2 _) (by omega) hL ha2 dL_law_461 ?_
  have hV := hm_Ve (hm_swp hd1) hV
  have hd2 := hm_dsy hd1
  refine hm_fcalli (va_runV (As := [.int a1, .int a2]) (rest := [.int r5]) ⟨hx, hb, hml, hown, hts⟩ (c_X4_binomial l E (a := a1) (b := a2) hmd H.size) (cwV 2 hts (hm_gV kw_615 kw_616 kw_617 kw_41 kw_618) rfl rfl rfl (by decide +kernel) ⟨Nat.le_of_ble_eq_true rfl, Nat.le_of_ble_eq_true rfl⟩) (hm_preV hK (hm_fst hV) (md_x hmd) rfl) rfl rfl hl.1 rfl (lv_room (Nat.le_of_ble_eq_true rfl)) dL_law_462 ⟨by show 36 + 296 * k + 2 + 0 ≤ 603072; omega, by show 235642 + 5679 * k + 67 + 0 ≤ 7198826; omega⟩) hV hd2 hA (fun r6 Mm1 H locs hp hd hV => ?_)
  have hV := hm_Ve (hm_swp hd) hV
  have hd1 := hm_dsy hd
  obtain ⟨cnt1, nums1, t1, hxp1, hq1, e56⟩ : ∃ (cnt1 : Nat) (nums1 : Nat → Int) (t1 : Nat → Nat → Int64), xp E Mx1 x cnt1 nums1 t1 ∧ mq E Mm1 A 0 cnt1 nums1 t1 ∧ r5 = r6 := by
    obtain ⟨c1, n1, hkp, hxp1⟩ := hp5
    obtain ⟨c2, n2, hkp2, hq1⟩ := hp
    obtain ⟨e1, e2, e3⟩ := kp_one hkp hkp2 hz
    subst e2
    exact ⟨c1, n2, t, xp_n hxp1 e3, hq1, e1⟩
  subst e56
  refine lv_icmp_eq (tgt := 849) hx hb dL_law_465 (by decide) (fun cq => ?_) (fun cq => ?_)
  · refine W.widen (k := 36 + 296 * (k + 1)) (n := 235642 + 5679 * (k + 1)) (by show 36 + 296 * k + 2 + 0 ≤ _; omega) (by show 235642 + 5679 * k + 67 + 0 ≤ _; omega) ?_
    exact next _ _ f cnt1 nums1 t1 0 ls H locs hd1 hV ⟨Mx1, No, rfl, hdx, hxp1, ho⟩ hq1 (lv_sub hl [0, 1, 2, 3, 4] rfl)
  · exact absurd rfl cq

set_option maxHeartbeats 4000000 in
set_option maxRecDepth 100000 in
theorem lw_c_factorial {p : Program} {l : Launch} {e : Env} {s : State} {m : MethodId} {below : List Frame} {meth : Method} {c : Code} {b L : Nat} {xs : Nat → Int32} {E : hm_E} {M : hm_M} {sz x ot : Nat} {A : Nat → Nat} {k : Nat} {Qf : State → Prop} {MX Mm : hm_M} {f : Nat → Int64} {cnt : Nat} {nums : Nat → Int} {t : Nat → Nat → Int64} {th : Int32} {ls : Array Slot} {H : Heap} {locs : List Loc} (hB : lw_B p l s m c b L xs E M sz) (hk5 : 5 * k + 5 ≤ L) (hd1 : hm_dj MX Mm) (hV : hm_V E.1 vwCl (hm_A M sz) s.heap (hm_j MX Mm) H locs) (hXX : lw_X E MX x ot cnt nums t f) (hq : mq E Mm A th cnt nums t) (hl : lv_has ls 8 [(0, .ref b), (1, .ref x), (2, .ref (A 0)), (3, .ref ot), (4, .int (nI (5 * k)))]) (next : lw_N p l e s m below meth c b E M sz x ot A k Qf) : W p l e room_1 s m [Value.ref b].toArray below meth c H locs (36 + 296 * k) (235642 + 5679 * k) Qf (F0 m 470 ls []) := by
  obtain ⟨hx, hb, hml, hown, hws, hXs, hbl, hbA, hK, hY, hA, hlt, hL⟩ := hB
  have hts : ∀ w ∈ (Cond.initialized RL :: hm_ws), w.before [Value.ref b].toArray s = true := List.forall_mem_cons.mpr ⟨hws _ kw_36, hws⟩
  have ld40 := hws _ kw_671
  obtain ⟨a1, ha1⟩ : ∃ a9, xs (5 * k + 1) = a9 := ⟨_, rfl⟩
  obtain ⟨a2, ha2⟩ : ∃ a9, xs (5 * k + 2) = a9 := ⟨_, rfl⟩
  obtain ⟨a3, ha3⟩ : ∃ a9, xs (5 * k + 3) = a9 := ⟨_, rfl⟩
  obtain ⟨a4, ha4⟩ : ∃ a9, xs (5 * k + 4) = a9 := ⟨_, rfl⟩
  obtain ⟨Mx, No, hMX, hdx, hxp, ho⟩ := hXX
  subst hMX
  obtain ⟨k0, ko, X0, O0, hmd⟩ := hq
  have hcnt := md_c hmd
  obtain ⟨A3, ad, rw, el, z, hA0, hk, hz⟩ := hxp
  have hx0 := xw_x hk
  rw [hA0] at hx0
  refine lv_aload_n hx hb dL_law_470 rfl (lv_at hl 1 rfl) ?_
  refine lv_aload_n hx hb dL_law_471 rfl (lv_at hl 0 rfl) ?_
  refine lv_iload hx hb dL_law_472 (lv_at hl 4 rfl) ?_
  refine lv_iconst (v := 1) hx hb dL_law_474 (by decide) ?_
  refine lv_iadd hx hb dL_law_475 ?_
  refine lw_sld hx hb hXs hbl hbA hV.2.2 (j := 5 * k + 1) (nI_1 _) (by omega) hL ha1 dL_law_476 ?_
  have hnd := hm_dd hdx hd1
  have hd3 := hm_da hdx hd1
  have hV := hm_Ve (hm_ja Mx No Mm) hV
  have hc9 := c_X3_factorial l E (a := a1) hk
  rw [hA0] at hc9
  refine hm_fcalli (va_runV (As := [.int a1]) (rest := []) ⟨hx, hb, hml, hown, hts⟩ (hc9 H.size) (cwV 1 hts (hm_gV kw_173 kw_174 kw_175 kw_37 kw_176) rfl rfl rfl (by decide +kernel) ⟨Nat.le_of_ble_eq_true rfl, Nat.le_of_ble_eq_true rfl⟩) (hm_preV hK (hm_fst hV) hx0 rfl) rfl rfl hl.1 rfl (lv_room (Nat.le_of_ble_eq_true rfl)) dL_law_477 ⟨by show 36 + 296 * k + 2 ≤ 603072; omega, by show 235642 + 5679 * k + 67 ≤ 7198826; omega⟩) hV hd3 hA (fun r5 Mx1 H locs hp hd hV => ?_)
  have hV := hm_Ve (hm_ja Mx1 No Mm).symm hV
  have hdx := hm_db hd
  have hd1 := hm_dc hd hnd
  have hp5 := hp
  clear hp
  refine lv_aload_n hx hb dL_law_480 rfl (lv_at hl 2 rfl) ?_
  refine lv_aload_n hx hb dL_law_481 rfl (lv_at hl 0 rfl) ?_
  refine lv_iload hx hb dL_law_482 (lv_at hl 4 rfl) ?_
  refine lv_iconst (v := 1) hx hb dL_law_484 (by decide) ?_
  refine lv_iadd hx hb dL_law_485 ?_
  refine lw_sld hx hb hXs hbl hbA hV.2.2 (j := 5 * k + 1) (nI_1 _) (by omega) hL ha1 dL_law_486 ?_
  have hV := hm_Ve (hm_swp hd1) hV
  have hd2 := hm_dsy hd1
  refine hm_fcalli (va_runV (As := [.int a1]) (rest := [.int r5]) ⟨hx, hb, hml, hown, hts⟩ (c_X4_factorial l E (a := a1) hmd H.size) (cwV 1 hts (hm_gV kw_627 kw_628 kw_629 kw_41 kw_630) rfl rfl rfl (by decide +kernel) ⟨Nat.le_of_ble_eq_true rfl, Nat.le_of_ble_eq_true rfl⟩) (hm_preV hK (hm_fst hV) (md_x hmd) rfl) rfl rfl hl.1 rfl (lv_room (Nat.le_of_ble_eq_true rfl)) dL_law_487 ⟨by show 36 + 296 * k + 2 + 0 ≤ 603072; omega, by show 235642 + 5679 * k + 67 + 0 ≤ 7198826; omega⟩) hV hd2 hA (fun r6 Mm1 H locs hp hd hV => ?_)
  have hV := hm_Ve (hm_swp hd) hV
  have hd1 := hm_dsy hd
  obtain ⟨cnt1, nums1, t1, hxp1, hq1, e56⟩ : ∃ (cnt1 : Nat) (nums1 : Nat → Int) (t1 : Nat → Nat → Int64), xp E Mx1 x cnt1 nums1 t1 ∧ mq E Mm1 A 0 cnt1 nums1 t1 ∧ r5 = r6 := by
    obtain ⟨c1, n1, hkp, hxp1⟩ := hp5
    obtain ⟨c2, n2, hkp2, hq1⟩ := hp
    obtain ⟨e1, e2, e3⟩ := kp_one hkp hkp2 hz
    subst e2
    exact ⟨c1, n2, t, xp_n hxp1 e3, hq1, e1⟩
  subst e56
  refine lv_icmp_eq (tgt := 849) hx hb dL_law_490 (by decide) (fun cq => ?_) (fun cq => ?_)
  · refine W.widen (k := 36 + 296 * (k + 1)) (n := 235642 + 5679 * (k + 1)) (by show 36 + 296 * k + 2 + 0 ≤ _; omega) (by show 235642 + 5679 * k + 67 + 0 ≤ _; omega) ?_
    exact next _ _ f cnt1 nums1 t1 0 ls H locs hd1 hV ⟨Mx1, No, rfl, hdx, hxp1, ho⟩ hq1 (lv_sub hl [0, 1, 2, 3, 4] rfl)
  · exact absurd rfl cq

set_option maxHeartbeats 4000000 in
set_option maxRecDepth 100000 in
theorem lw_c_order {p : Program} {l : Launch} {e : Env} {s : State} {m : MethodId} {below : List Frame} {meth : Method} {c : Code} {b L : Nat} {xs : Nat → Int32} {E : hm_E} {M : hm_M} {sz x ot : Nat} {A : Nat → Nat} {k : Nat} {Qf : State → Prop} {MX Mm : hm_M} {f : Nat → Int64} {cnt : Nat} {nums : Nat → Int} {t : Nat → Nat → Int64} {th : Int32} {ls : Array Slot} {H : Heap} {locs : List Loc} (hB : lw_B p l s m c b L xs E M sz) (hk5 : 5 * k + 5 ≤ L) (hd1 : hm_dj MX Mm) (hV : hm_V E.1 vwCl (hm_A M sz) s.heap (hm_j MX Mm) H locs) (hXX : lw_X E MX x ot cnt nums t f) (hq : mq E Mm A th cnt nums t) (hl : lv_has ls 8 [(0, .ref b), (1, .ref x), (2, .ref (A 0)), (3, .ref ot), (4, .int (nI (5 * k)))]) (next : lw_N p l e s m below meth c b E M sz x ot A k Qf) : W p l e room_1 s m [Value.ref b].toArray below meth c H locs (36 + 296 * k) (235642 + 5679 * k) Qf (F0 m 495 ls []) := by
  obtain ⟨hx, hb, hml, hown, hws, hXs, hbl, hbA, hK, hY, hA, hlt, hL⟩ := hB
  have hts : ∀ w ∈ (Cond.initialized RL :: hm_ws), w.before [Value.ref b].toArray s = true := List.forall_mem_cons.mpr ⟨hws _ kw_36, hws⟩
  have ld40 := hws _ kw_671
  obtain ⟨a1, ha1⟩ : ∃ a9, xs (5 * k + 1) = a9 := ⟨_, rfl⟩
  obtain ⟨a2, ha2⟩ : ∃ a9, xs (5 * k + 2) = a9 := ⟨_, rfl⟩
  obtain ⟨a3, ha3⟩ : ∃ a9, xs (5 * k + 3) = a9 := ⟨_, rfl⟩
  obtain ⟨a4, ha4⟩ : ∃ a9, xs (5 * k + 4) = a9 := ⟨_, rfl⟩
  obtain ⟨Mx, No, hMX, hdx, hxp, ho⟩ := hXX
  subst hMX
  obtain ⟨k0, ko, X0, O0, hmd⟩ := hq
  have hcnt := md_c hmd
  refine lv_aload_n hx hb dL_law_495 rfl (lv_at hl 1 rfl) ?_
  refine lv_aload_n hx hb dL_law_496 rfl (lv_at hl 0 rfl) ?_
  refine lv_iload hx hb dL_law_497 (lv_at hl 4 rfl) ?_
  refine lv_iconst (v := 1) hx hb dL_law_499 (by decide) ?_
  refine lv_iadd hx hb dL_law_500 ?_
  refine lw_sld hx hb hXs hbl hbA hV.2.2 (j := 5 * k + 1) (nI_1 _) (by omega) hL ha1 dL_law_501 ?_
  refine lv_aload_n hx hb dL_law_502 rfl (lv_at hl 0 rfl) ?_
  refine lv_iload hx hb dL_law_503 (lv_at hl 4 rfl) ?_
  refine lv_iconst (v := 2) hx hb dL_law_505 (by decide) ?_
  refine lv_iadd hx hb dL_law_506 ?_
  refine lw_sld hx hb hXs hbl hbA hV.2.2 (j := 5 * k + 2) (lw_a2 _) (by omega) hL ha2 dL_law_507 ?_
  refine lv_aload_n hx hb dL_law_508 rfl (lv_at hl 3 rfl) ?_
  refine hm_fcalli (vx_runSW (As := [.ref x, .int a1, .int a2, .ref ot]) (rest := []) ⟨hx, hb, hml, hown, hts⟩ (c_L_order l hlt E (a := a1) (b := a2) rfl hdx hxp ho H.size) (vx_cwSW 4 hts (hm_gS kw_438 kw_439 kw_36 kw_440) rfl rfl rfl (by decide +kernel) ⟨Nat.le_of_ble_eq_true rfl, Nat.le_of_ble_eq_true rfl⟩) (hm_preSX hK (hm_fst hV) hA hY) rfl rfl hl.1 rfl (lv_room (Nat.le_of_ble_eq_true rfl)) dL_law_509 ⟨by show 36 + 296 * k + 2 ≤ 603072; omega, by show 235642 + 5679 * k + 12 ≤ 7198826; omega⟩) hV hd1 hA (fun r5 MX1 H locs hp hd hV => ?_)
  have hd1 := hd
  have hp5 := hp
  clear hp
  refine lv_istore (lv' := [(5, .int r5), (0, .ref b), (1, .ref x), (2, .ref (A 0)), (3, .ref ot), (4, .int (nI (5 * k)))]) hx hb dL_law_512 hl (by decide) rfl (fun ls hl => ?_)
  refine lv_aload_n hx hb dL_law_514 rfl (lv_at hl 3 rfl) ?_
  refine lv_aload_n hx hb dL_law_515 rfl (lv_at hl 1 rfl) ?_
  refine lv_iload hx hb dL_law_516 (lv_at hl 5 rfl) ?_
  refine lv_iconst (v := 1) hx hb dL_law_518 (by decide) ?_
  refine lv_iadd hx hb dL_law_519 ?_
  refine lw_sld hx hb hXs hbl hbA hV.2.2 (j := 5 * k + 1) (nI_1 _) (by omega) hL ha1 dL_law_520 ?_
  refine lv_aload_n hx hb dL_law_521 rfl (lv_at hl 1 rfl) ?_
  refine lv_iload hx hb dL_law_522 (lv_at hl 5 rfl) ?_
  refine lv_iconst (v := 2) hx hb dL_law_524 (by decide) ?_
  refine lv_iadd hx hb dL_law_525 ?_
  refine lw_sld hx hb hXs hbl hbA hV.2.2 (j := 5 * k + 2) (lw_a2 _) (by omega) hL ha2 dL_law_526 ?_
  have hV := hm_Ve (hm_swp hd1) hV
  have hd2 := hm_dsy hd1
  refine hm_fcalli (va_runV (As := [.int a1, .int a2]) (rest := []) ⟨hx, hb, hml, hown, hts⟩ (c_X4_order l E (a := a1) (b := a2) hmd H.size) (cwV 2 hts (hm_gV kw_631 kw_632 kw_633 kw_41 kw_634) rfl rfl rfl (by decide +kernel) ⟨Nat.le_of_ble_eq_true rfl, Nat.le_of_ble_eq_true rfl⟩) (hm_preV hK (hm_fst hV) (md_x hmd) rfl) rfl rfl hl.1 rfl (lv_room (Nat.le_of_ble_eq_true rfl)) dL_law_527 ⟨by show 36 + 296 * k + 2 + 0 ≤ 603072; omega, by show 235642 + 5679 * k + 12 + 0 ≤ 7198826; omega⟩) hV hd2 hA (fun r6 Mm1 H locs hp hd hV => ?_)
  have hV := hm_Ve (hm_swp hd) hV
  have hd1 := hm_dsy hd
  have hT : lw_T E x ot A t MX1 Mm1 r5 r6.toInt64 := by
    rcases hp5 with ⟨rfl, v, c1, n1, Mx1, ⟨i, j, g1, g2, g3, g4, g5, rfl, rfl⟩, hd9, hM9, hxp9⟩ | ⟨⟨rfl, hno⟩, Mx1, hd9, hM9, hxp9⟩ <;> rcases hp with ⟨hno2, e6, hq9⟩ | ⟨i2, j2, k1, k2, k3, k4, k5, hq9⟩
    · exact absurd ⟨lw_kn g1 g3, lw_kn g2 g4⟩ hno2
    · cases lw_inj hcnt g1 k1 g3 k3
      cases lw_inj hcnt g2 k2 g4 k4
      rw [k5, ← g5]
      exact lw_same hd9 hM9 hxp9 hq9
    · exact lw_bad (by decide) ho hd9 hM9 hxp9 hq9
    · exact absurd ⟨lw_kn k1 k3, lw_kn k2 k4⟩ hno
  obtain ⟨cnt1, nums1, f1, hXX, hq, hf0⟩ := hT
  obtain ⟨k1, ko1, X1, O1, hmd⟩ := hq
  refine lv_istore (lv' := [(6, .int r6), (5, .int r5), (0, .ref b), (1, .ref x), (2, .ref (A 0)), (3, .ref ot), (4, .int (nI (5 * k)))]) hx hb dL_law_530 hl (by decide) rfl (fun ls hl => ?_)
  refine lv_aload_n hx hb dL_law_532 rfl (lv_at hl 4 rfl) ?_
  have hV := hm_Ve (hm_swp hd1) hV
  have hd2 := hm_dsy hd1
  refine hm_fcalli (va_runV (As := []) (rest := []) ⟨hx, hb, hml, hown, hts⟩ (c_X4_thrown l E hmd H.size) (cwV 0 hts (hm_gV kw_529 kw_530 kw_531 kw_41 kw_532) rfl rfl rfl (by decide +kernel) ⟨Nat.le_of_ble_eq_true rfl, Nat.le_of_ble_eq_true rfl⟩) (hm_preV hK (hm_fst hV) (md_x hmd) rfl) rfl rfl hl.1 rfl (lv_room (Nat.le_of_ble_eq_true rfl)) dL_law_533 ⟨by show 36 + 296 * k + 2 + 0 ≤ 603072; omega, by show 235642 + 5679 * k + 12 + 0 ≤ 7198826; omega⟩) hV hd2 hA (fun r7 Mm2 H locs hp hd hV => ?_)
  have hV := hm_Ve (hm_swp hd) hV
  have hd1 := hm_dsy hd
  obtain ⟨e7, hM7⟩ := hp
  rw [hM7] at hV hd1
  subst e7
  refine lv_iload hx hb dL_law_536 (lv_at hl 1 rfl) ?_
  refine lv_icmp_eq (tgt := 543) hx hb dL_law_538 (by decide) (fun cq => ?_) (fun cq => ?_)
  · refine lv_iload hx hb dL_law_543 (lv_at hl 1 rfl) ?_
    refine lv_if_ne (tgt := 560) hx hb dL_law_545 (by decide) (fun cz => ?_) (fun cz => ?_)
    · refine lv_goto (tgt := 849) hx hb dL_law_560 (by decide) ?_
      refine W.widen (k := 36 + 296 * (k + 1)) (n := 235642 + 5679 * (k + 1)) (by show 36 + 296 * k + 2 + 0 + 0 ≤ _; omega) (by show 235642 + 5679 * k + 12 + 0 + 0 ≤ _; omega) ?_
      exact next _ _ f1 cnt1 nums1 t r7 ls H locs hd1 hV hXX ⟨k1, ko1, X1, O1, hmd⟩ (lv_sub hl [2, 3, 4, 5, 6] rfl)
    · obtain ⟨Mx5, No5, hMX5, hdx5, hxp5, ho5⟩ := hXX
      refine lv_aload_n hx hb dL_law_548 rfl (lv_at hl 5 rfl) ?_
      refine lv_iconst (v := 0) hx hb dL_law_549 (by decide) ?_
      refine hm_laldN hx hb hK.1 hV 1 (hm_jl ((congrFun hMX5 ot).trans (hm_jr hdx5 ho5))) rfl (k := 0) (by decide) (by decide) dL_law_550 ?_
      refine lv_iload hx hb dL_law_551 (lv_at hl 0 rfl) ?_
      refine lv_i2l hx hb dL_law_553 rfl ?_
      refine W.lcmp hx hb dL_law_554 ?_
      refine hm_topi (show lg_cmp (f1 0) r6.toInt64 = 0 from by rw [show f1 0 = r6.toInt64 from hf0 cz]; exact lw_cmp _) ?_
      refine lv_if_eq (tgt := 560) hx hb dL_law_555 (by decide) (fun cw => ?_) (fun cw => ?_)
      · refine lv_goto (tgt := 849) hx hb dL_law_560 (by decide) ?_
        refine W.widen (k := 36 + 296 * (k + 1)) (n := 235642 + 5679 * (k + 1)) (by show 36 + 296 * k + 2 + 0 + 0 ≤ _; omega) (by show 235642 + 5679 * k + 12 + 0 + 0 ≤ _; omega) ?_
        exact next _ _ f1 cnt1 nums1 t r7 ls H locs hd1 hV ⟨Mx5, No5, hMX5, hdx5, hxp5, ho5⟩ ⟨k1, ko1, X1, O1, hmd⟩ (lv_sub hl [2, 3, 4, 5, 6] rfl)
      · exact absurd rfl cw
  · exact absurd rfl cq

set_option maxHeartbeats 4000000 in
set_option maxRecDepth 100000 in
theorem lw_c_digit {p : Program} {l : Launch} {e : Env} {s : State} {m : MethodId} {below : List Frame} {meth : Method} {c : Code} {b L : Nat} {xs : Nat → Int32} {E : hm_E} {M : hm_M} {sz x ot : Nat} {A : Nat → Nat} {k : Nat} {Qf : State → Prop} {MX Mm : hm_M} {f : Nat → Int64} {cnt : Nat} {nums : Nat → Int} {t : Nat → Nat → Int64} {th : Int32} {ls : Array Slot} {H : Heap} {locs : List Loc} (hB : lw_B p l s m c b L xs E M sz) (hk5 : 5 * k + 5 ≤ L) (hd1 : hm_dj MX Mm) (hV : hm_V E.1 vwCl (hm_A M sz) s.heap (hm_j MX Mm) H locs) (hXX : lw_X E MX x ot cnt nums t f) (hq : mq E Mm A th cnt nums t) (hl : lv_has ls 8 [(0, .ref b), (1, .ref x), (2, .ref (A 0)), (3, .ref ot), (4, .int (nI (5 * k)))]) (next : lw_N p l e s m below meth c b E M sz x ot A k Qf) : W p l e room_1 s m [Value.ref b].toArray below meth c H locs (36 + 296 * k) (235642 + 5679 * k) Qf (F0 m 563 ls []) := by
  obtain ⟨hx, hb, hml, hown, hws, hXs, hbl, hbA, hK, hY, hA, hlt, hL⟩ := hB
  have hts : ∀ w ∈ (Cond.initialized RL :: hm_ws), w.before [Value.ref b].toArray s = true := List.forall_mem_cons.mpr ⟨hws _ kw_36, hws⟩
  have ld40 := hws _ kw_671
  obtain ⟨a1, ha1⟩ : ∃ a9, xs (5 * k + 1) = a9 := ⟨_, rfl⟩
  obtain ⟨a2, ha2⟩ : ∃ a9, xs (5 * k + 2) = a9 := ⟨_, rfl⟩
  obtain ⟨a3, ha3⟩ : ∃ a9, xs (5 * k + 3) = a9 := ⟨_, rfl⟩
  obtain ⟨a4, ha4⟩ : ∃ a9, xs (5 * k + 4) = a9 := ⟨_, rfl⟩
  obtain ⟨Mx, No, hMX, hdx, hxp, ho⟩ := hXX
  subst hMX
  obtain ⟨k0, ko, X0, O0, hmd⟩ := hq
  have hcnt := md_c hmd
  refine lv_aload_n hx hb dL_law_563 rfl (lv_at hl 1 rfl) ?_
  refine lv_aload_n hx hb dL_law_564 rfl (lv_at hl 0 rfl) ?_
  refine lv_iload hx hb dL_law_565 (lv_at hl 4 rfl) ?_
  refine lv_iconst (v := 1) hx hb dL_law_567 (by decide) ?_
  refine lv_iadd hx hb dL_law_568 ?_
  refine lw_sld hx hb hXs hbl hbA hV.2.2 (j := 5 * k + 1) (nI_1 _) (by omega) hL ha1 dL_law_569 ?_
  refine lv_aload_n hx hb dL_law_570 rfl (lv_at hl 0 rfl) ?_
  refine lv_iload hx hb dL_law_571 (lv_at hl 4 rfl) ?_
  refine lv_iconst (v := 2) hx hb dL_law_573 (by decide) ?_
  refine lv_iadd hx hb dL_law_574 ?_
  refine lw_sld hx hb hXs hbl hbA hV.2.2 (j := 5 * k + 2) (lw_a2 _) (by omega) hL ha2 dL_law_575 ?_
  refine lv_aload_n hx hb dL_law_576 rfl (lv_at hl 3 rfl) ?_
  refine hm_fcalli (vx_runSW (As := [.ref x, .int a1, .int a2, .ref ot]) (rest := []) ⟨hx, hb, hml, hown, hts⟩ (c_L_digit l hlt E (a := a1) (b := a2) rfl hdx hxp ho H.size) (vx_cwSW 4 hts (hm_gS kw_446 kw_447 kw_36 kw_448) rfl rfl rfl (by decide +kernel) ⟨Nat.le_of_ble_eq_true rfl, Nat.le_of_ble_eq_true rfl⟩) (hm_preSX hK (hm_fst hV) hA hY) rfl rfl hl.1 rfl (lv_room (Nat.le_of_ble_eq_true rfl)) dL_law_577 ⟨by show 36 + 296 * k + 2 ≤ 603072; omega, by show 235642 + 5679 * k + 12 ≤ 7198826; omega⟩) hV hd1 hA (fun r5 MX1 H locs hp hd hV => ?_)
  have hd1 := hd
  have hp5 := hp
  clear hp
  refine lv_istore (lv' := [(5, .int r5), (0, .ref b), (1, .ref x), (2, .ref (A 0)), (3, .ref ot), (4, .int (nI (5 * k)))]) hx hb dL_law_580 hl (by decide) rfl (fun ls hl => ?_)
  refine lv_aload_n hx hb dL_law_582 rfl (lv_at hl 3 rfl) ?_
  refine lv_aload_n hx hb dL_law_583 rfl (lv_at hl 1 rfl) ?_
  refine lv_iload hx hb dL_law_584 (lv_at hl 5 rfl) ?_
  refine lv_iconst (v := 1) hx hb dL_law_586 (by decide) ?_
  refine lv_iadd hx hb dL_law_587 ?_
  refine lw_sld hx hb hXs hbl hbA hV.2.2 (j := 5 * k + 1) (nI_1 _) (by omega) hL ha1 dL_law_588 ?_
  refine lv_aload_n hx hb dL_law_589 rfl (lv_at hl 1 rfl) ?_
  refine lv_iload hx hb dL_law_590 (lv_at hl 5 rfl) ?_
  refine lv_iconst (v := 2) hx hb dL_law_592 (by decide) ?_
  refine lv_iadd hx hb dL_law_593 ?_
  refine lw_sld hx hb hXs hbl hbA hV.2.2 (j := 5 * k + 2) (lw_a2 _) (by omega) hL ha2 dL_law_594 ?_
  have hV := hm_Ve (hm_swp hd1) hV
  have hd2 := hm_dsy hd1
  refine hm_fcalli (va_runV (As := [.int a1, .int a2]) (rest := []) ⟨hx, hb, hml, hown, hts⟩ (c_X4_digit l E (a := a1) (b := a2) hmd H.size) (cwV 2 hts (hm_gV kw_635 kw_636 kw_637 kw_41 kw_638) rfl rfl rfl (by decide +kernel) ⟨Nat.le_of_ble_eq_true rfl, Nat.le_of_ble_eq_true rfl⟩) (hm_preV hK (hm_fst hV) (md_x hmd) rfl) rfl rfl hl.1 rfl (lv_room (Nat.le_of_ble_eq_true rfl)) dL_law_595 ⟨by show 36 + 296 * k + 2 + 0 ≤ 603072; omega, by show 235642 + 5679 * k + 12 + 0 ≤ 7198826; omega⟩) hV hd2 hA (fun r6 Mm1 H locs hp hd hV => ?_)
  have hV := hm_Ve (hm_swp hd) hV
  have hd1 := hm_dsy hd
  have hT : lw_T E x ot A t MX1 Mm1 r5 r6.toInt64 := by
    rcases hp5 with ⟨rfl, v, c1, n1, Mx1, ⟨i, n, g1, g3, g4, g5, g6, rfl, rfl⟩, hd9, hM9, hxp9⟩ | ⟨⟨rfl, hno | ⟨i, g1, g3, g5⟩⟩, Mx1, hd9, hM9, hxp9⟩ <;> rcases hp with ⟨hno2, e6, hq9⟩ | ⟨i2, k1, k3, ⟨n2, k4, k5, k6, hq9⟩ | ⟨k5, k6, hq9⟩⟩
    · exact absurd ⟨lw_kn g1 g3, lw_kn g1 g3⟩ hno2
    · cases lw_inj hcnt g1 k1 g3 k3
      cases (nI_eq g4.2 k4.2).mp (g4.1.symm.trans k4.1)
      rw [k6, ← g6]
      exact lw_same hd9 hM9 hxp9 hq9
    · cases lw_inj hcnt g1 k1 g3 k3
      exact absurd g5 k5
    · exact lw_bad (by decide) ho hd9 hM9 hxp9 hq9
    · exact absurd (lw_kn k1 k3) hno
    · exact absurd (lw_kn k1 k3) hno
    · exact absurd ⟨lw_kn g1 g3, lw_kn g1 g3⟩ hno2
    · cases lw_inj hcnt g1 k1 g3 k3
      exact absurd k5 g5
    · exact lw_bad (by decide) ho hd9 hM9 hxp9 hq9
  obtain ⟨cnt1, nums1, f1, hXX, hq, hf0⟩ := hT
  obtain ⟨k1, ko1, X1, O1, hmd⟩ := hq
  refine lv_istore (lv' := [(6, .int r6), (5, .int r5), (0, .ref b), (1, .ref x), (2, .ref (A 0)), (3, .ref ot), (4, .int (nI (5 * k)))]) hx hb dL_law_598 hl (by decide) rfl (fun ls hl => ?_)
  refine lv_aload_n hx hb dL_law_600 rfl (lv_at hl 4 rfl) ?_
  have hV := hm_Ve (hm_swp hd1) hV
  have hd2 := hm_dsy hd1
  refine hm_fcalli (va_runV (As := []) (rest := []) ⟨hx, hb, hml, hown, hts⟩ (c_X4_thrown l E hmd H.size) (cwV 0 hts (hm_gV kw_529 kw_530 kw_531 kw_41 kw_532) rfl rfl rfl (by decide +kernel) ⟨Nat.le_of_ble_eq_true rfl, Nat.le_of_ble_eq_true rfl⟩) (hm_preV hK (hm_fst hV) (md_x hmd) rfl) rfl rfl hl.1 rfl (lv_room (Nat.le_of_ble_eq_true rfl)) dL_law_601 ⟨by show 36 + 296 * k + 2 + 0 ≤ 603072; omega, by show 235642 + 5679 * k + 12 + 0 ≤ 7198826; omega⟩) hV hd2 hA (fun r7 Mm2 H locs hp hd hV => ?_)
  have hV := hm_Ve (hm_swp hd) hV
  have hd1 := hm_dsy hd
  obtain ⟨e7, hM7⟩ := hp
  rw [hM7] at hV hd1
  subst e7
  refine lv_iload hx hb dL_law_604 (lv_at hl 1 rfl) ?_
  refine lv_icmp_eq (tgt := 611) hx hb dL_law_606 (by decide) (fun cq => ?_) (fun cq => ?_)
  · refine lv_iload hx hb dL_law_611 (lv_at hl 1 rfl) ?_
    refine lv_if_ne (tgt := 628) hx hb dL_law_613 (by decide) (fun cz => ?_) (fun cz => ?_)
    · refine lv_goto (tgt := 849) hx hb dL_law_628 (by decide) ?_
      refine W.widen (k := 36 + 296 * (k + 1)) (n := 235642 + 5679 * (k + 1)) (by show 36 + 296 * k + 2 + 0 + 0 ≤ _; omega) (by show 235642 + 5679 * k + 12 + 0 + 0 ≤ _; omega) ?_
      exact next _ _ f1 cnt1 nums1 t r7 ls H locs hd1 hV hXX ⟨k1, ko1, X1, O1, hmd⟩ (lv_sub hl [2, 3, 4, 5, 6] rfl)
    · obtain ⟨Mx5, No5, hMX5, hdx5, hxp5, ho5⟩ := hXX
      refine lv_aload_n hx hb dL_law_616 rfl (lv_at hl 5 rfl) ?_
      refine lv_iconst (v := 0) hx hb dL_law_617 (by decide) ?_
      refine hm_laldN hx hb hK.1 hV 1 (hm_jl ((congrFun hMX5 ot).trans (hm_jr hdx5 ho5))) rfl (k := 0) (by decide) (by decide) dL_law_618 ?_
      refine lv_iload hx hb dL_law_619 (lv_at hl 0 rfl) ?_
      refine lv_i2l hx hb dL_law_621 rfl ?_
      refine W.lcmp hx hb dL_law_622 ?_
      refine hm_topi (show lg_cmp (f1 0) r6.toInt64 = 0 from by rw [show f1 0 = r6.toInt64 from hf0 cz]; exact lw_cmp _) ?_
      refine lv_if_eq (tgt := 628) hx hb dL_law_623 (by decide) (fun cw => ?_) (fun cw => ?_)
      · refine lv_goto (tgt := 849) hx hb dL_law_628 (by decide) ?_
        refine W.widen (k := 36 + 296 * (k + 1)) (n := 235642 + 5679 * (k + 1)) (by show 36 + 296 * k + 2 + 0 + 0 ≤ _; omega) (by show 235642 + 5679 * k + 12 + 0 + 0 ≤ _; omega) ?_
        exact next _ _ f1 cnt1 nums1 t r7 ls H locs hd1 hV ⟨Mx5, No5, hMX5, hdx5, hxp5, ho5⟩ ⟨k1, ko1, X1, O1, hmd⟩ (lv_sub hl [2, 3, 4, 5, 6] rfl)
      · exact absurd rfl cw
  · exact absurd rfl cq

set_option maxHeartbeats 4000000 in
set_option maxRecDepth 100000 in
theorem lw_c_entry {p : Program} {l : Launch} {e : Env} {s : State} {m : MethodId} {below : List Frame} {meth : Method} {c : Code} {b L : Nat} {xs : Nat → Int32} {E : hm_E} {M : hm_M} {sz x ot : Nat} {A : Nat → Nat} {k : Nat} {Qf : State → Prop} {MX Mm : hm_M} {f : Nat → Int64} {cnt : Nat} {nums : Nat → Int} {t : Nat → Nat → Int64} {th : Int32} {ls : Array Slot} {H : Heap} {locs : List Loc} (hB : lw_B p l s m c b L xs E M sz) (hk5 : 5 * k + 5 ≤ L) (hd1 : hm_dj MX Mm) (hV : hm_V E.1 vwCl (hm_A M sz) s.heap (hm_j MX Mm) H locs) (hXX : lw_X E MX x ot cnt nums t f) (hq : mq E Mm A th cnt nums t) (hl : lv_has ls 8 [(0, .ref b), (1, .ref x), (2, .ref (A 0)), (3, .ref ot), (4, .int (nI (5 * k)))]) (next : lw_N p l e s m below meth c b E M sz x ot A k Qf) : W p l e room_1 s m [Value.ref b].toArray below meth c H locs (36 + 296 * k) (235642 + 5679 * k) Qf (F0 m 631 ls []) := by
  obtain ⟨hx, hb, hml, hown, hws, hXs, hbl, hbA, hK, hY, hA, hlt, hL⟩ := hB
  have hts : ∀ w ∈ (Cond.initialized RL :: hm_ws), w.before [Value.ref b].toArray s = true := List.forall_mem_cons.mpr ⟨hws _ kw_36, hws⟩
  have ld40 := hws _ kw_671
  obtain ⟨a1, ha1⟩ : ∃ a9, xs (5 * k + 1) = a9 := ⟨_, rfl⟩
  obtain ⟨a2, ha2⟩ : ∃ a9, xs (5 * k + 2) = a9 := ⟨_, rfl⟩
  obtain ⟨a3, ha3⟩ : ∃ a9, xs (5 * k + 3) = a9 := ⟨_, rfl⟩
  obtain ⟨a4, ha4⟩ : ∃ a9, xs (5 * k + 4) = a9 := ⟨_, rfl⟩
  obtain ⟨Mx, No, hMX, hdx, hxp, ho⟩ := hXX
  subst hMX
  obtain ⟨k0, ko, X0, O0, hmd⟩ := hq
  have hcnt := md_c hmd
  obtain ⟨A3, ad, rw, el, z, hA0, hk, hz⟩ := hxp
  have hx0 := xw_x hk
  rw [hA0] at hx0
  obtain ⟨w9, hw9⟩ : ∃ w9 : Int64, w9 = (a3.toInt64 <<< ((32 : Int32).toInt64 &&& 63)) ||| (a4.toInt64 &&& 4294967295) := ⟨_, rfl⟩
  refine lv_aload_n hx hb dL_law_631 rfl (lv_at hl 1 rfl) ?_
  refine lv_aload_n hx hb dL_law_632 rfl (lv_at hl 0 rfl) ?_
  refine lv_iload hx hb dL_law_633 (lv_at hl 4 rfl) ?_
  refine lv_iconst (v := 1) hx hb dL_law_635 (by decide) ?_
  refine lv_iadd hx hb dL_law_636 ?_
  refine lw_sld hx hb hXs hbl hbA hV.2.2 (j := 5 * k + 1) (nI_1 _) (by omega) hL ha1 dL_law_637 ?_
  refine lv_aload_n hx hb dL_law_638 rfl (lv_at hl 0 rfl) ?_
  refine lv_iload hx hb dL_law_639 (lv_at hl 4 rfl) ?_
  refine lv_iconst (v := 2) hx hb dL_law_641 (by decide) ?_
  refine lv_iadd hx hb dL_law_642 ?_
  refine lw_sld hx hb hXs hbl hbA hV.2.2 (j := 5 * k + 2) (lw_a2 _) (by omega) hL ha2 dL_law_643 ?_
  refine lv_aload_n hx hb dL_law_644 rfl (lv_at hl 0 rfl) ?_
  refine lv_iload hx hb dL_law_645 (lv_at hl 4 rfl) ?_
  refine lv_iconst (v := 3) hx hb dL_law_647 (by decide) ?_
  refine lv_iadd hx hb dL_law_648 ?_
  refine lw_sld hx hb hXs hbl hbA hV.2.2 (j := 5 * k + 3) (lw_a3 _) (by omega) hL ha3 dL_law_649 ?_
  refine lv_i2l hx hb dL_law_650 rfl ?_
  refine lv_bipush (v := 32) hx hb dL_law_651 (by decide) ?_
  refine lv_lshl hx hb dL_law_653 rfl ?_
  refine lv_aload_n hx hb dL_law_654 rfl (lv_at hl 0 rfl) ?_
  refine lv_iload hx hb dL_law_655 (lv_at hl 4 rfl) ?_
  refine lv_iconst (v := 4) hx hb dL_law_657 (by decide) ?_
  refine lv_iadd hx hb dL_law_658 ?_
  refine lw_sld hx hb hXs hbl hbA hV.2.2 (j := 5 * k + 4) (lw_a4 _) (by omega) hL ha4 dL_law_659 ?_
  refine lv_i2l hx hb dL_law_660 rfl ?_
  refine lv_ldc2 (v := 4294967295) hx hb hown ld40 dL_law_661 ?_
  refine lv_land hx hb dL_law_664 ?_
  refine lv_lor hx hb dL_law_665 ?_
  refine hm_topl (show (a3.toInt64 <<< ((32 : Int32).toInt64 &&& 63)) ||| (a4.toInt64 &&& 4294967295) = w9 from hw9.symm) ?_
  have hnd := hm_dd hdx hd1
  have hd3 := hm_da hdx hd1
  have hV := hm_Ve (hm_ja Mx No Mm) hV
  have hc9 := c_X3_entry l E (a := a1) (b := a2) (v := w9) hk
  rw [hA0] at hc9
  refine hm_fcalli (va_runV (As := [.int a1, .int a2, .long w9]) (rest := []) ⟨hx, hb, hml, hown, hts⟩ (hc9 H.size) (cwV 3 hts (hm_gV kw_177 kw_178 kw_179 kw_37 kw_180) rfl rfl rfl (by decide +kernel) ⟨Nat.le_of_ble_eq_true rfl, Nat.le_of_ble_eq_true rfl⟩) (hm_preV hK (hm_fst hV) hx0 rfl) rfl rfl hl.1 rfl (lv_room (Nat.le_of_ble_eq_true rfl)) dL_law_666 ⟨by show 36 + 296 * k + 0 ≤ 603072; omega, by show 235642 + 5679 * k + 0 ≤ 7198826; omega⟩) hV hd3 hA (fun r5 Mx1 H locs hp hd hV => ?_)
  have hV := hm_Ve (hm_ja Mx1 No Mm).symm hV
  have hdx := hm_db hd
  have hd1 := hm_dc hd hnd
  have hp5 := hp
  clear hp
  refine lv_aload_n hx hb dL_law_669 rfl (lv_at hl 2 rfl) ?_
  refine lv_aload_n hx hb dL_law_670 rfl (lv_at hl 0 rfl) ?_
  refine lv_iload hx hb dL_law_671 (lv_at hl 4 rfl) ?_
  refine lv_iconst (v := 1) hx hb dL_law_673 (by decide) ?_
  refine lv_iadd hx hb dL_law_674 ?_
  refine lw_sld hx hb hXs hbl hbA hV.2.2 (j := 5 * k + 1) (nI_1 _) (by omega) hL ha1 dL_law_675 ?_
  refine lv_aload_n hx hb dL_law_676 rfl (lv_at hl 0 rfl) ?_
  refine lv_iload hx hb dL_law_677 (lv_at hl 4 rfl) ?_
  refine lv_iconst (v := 2) hx hb dL_law_679 (by decide) ?_
  refine lv_iadd hx hb dL_law_680 ?_
  refine lw_sld hx hb hXs hbl hbA hV.2.2 (j := 5 * k + 2) (lw_a2 _) (by omega) hL ha2 dL_law_681 ?_
  refine lv_aload_n hx hb dL_law_682 rfl (lv_at hl 0 rfl) ?_
  refine lv_iload hx hb dL_law_683 (lv_at hl 4 rfl) ?_
  refine lv_iconst (v := 3) hx hb dL_law_685 (by decide) ?_
  refine lv_iadd hx hb dL_law_686 ?_
  refine lw_sld hx hb hXs hbl hbA hV.2.2 (j := 5 * k + 3) (lw_a3 _) (by omega) hL ha3 dL_law_687 ?_
  refine lv_i2l hx hb dL_law_688 rfl ?_
  refine lv_bipush (v := 32) hx hb dL_law_689 (by decide) ?_
  refine lv_lshl hx hb dL_law_691 rfl ?_
  refine lv_aload_n hx hb dL_law_692 rfl (lv_at hl 0 rfl) ?_
  refine lv_iload hx hb dL_law_693 (lv_at hl 4 rfl) ?_
  refine lv_iconst (v := 4) hx hb dL_law_695 (by decide) ?_
  refine lv_iadd hx hb dL_law_696 ?_
  refine lw_sld hx hb hXs hbl hbA hV.2.2 (j := 5 * k + 4) (lw_a4 _) (by omega) hL ha4 dL_law_697 ?_
  refine lv_i2l hx hb dL_law_698 rfl ?_
  refine lv_ldc2 (v := 4294967295) hx hb hown ld40 dL_law_699 ?_
  refine lv_land hx hb dL_law_702 ?_
  refine lv_lor hx hb dL_law_703 ?_
  refine hm_topl (show (a3.toInt64 <<< ((32 : Int32).toInt64 &&& 63)) ||| (a4.toInt64 &&& 4294967295) = w9 from hw9.symm) ?_
  have hV := hm_Ve (hm_swp hd1) hV
  have hd2 := hm_dsy hd1
  refine hm_fcalli (va_runV (As := [.int a1, .int a2, .long w9]) (rest := [.int r5]) ⟨hx, hb, hml, hown, hts⟩ (c_X4_entry l E (a := a1) (b := a2) (v := w9) hmd H.size) (cwV 3 hts (hm_gV kw_648 kw_649 kw_650 kw_41 kw_651) rfl rfl rfl (by decide +kernel) ⟨Nat.le_of_ble_eq_true rfl, Nat.le_of_ble_eq_true rfl⟩) (hm_preV hK (hm_fst hV) (md_x hmd) rfl) rfl rfl hl.1 rfl (lv_room (Nat.le_of_ble_eq_true rfl)) dL_law_704 ⟨by show 36 + 296 * k + 0 ≤ 603072; omega, by show 235642 + 5679 * k + 0 ≤ 7198826; omega⟩) hV hd2 hA (fun r6 Mm1 H locs hp hd hV => ?_)
  have hV := hm_Ve (hm_swp hd) hV
  have hd1 := hm_dsy hd
  obtain ⟨cnt1, nums1, t1, hxp1, hq1, e56⟩ : ∃ (cnt1 : Nat) (nums1 : Nat → Int) (t1 : Nat → Nat → Int64), xp E Mx1 x cnt1 nums1 t1 ∧ mq E Mm1 A 0 cnt1 nums1 t1 ∧ r5 = r6 := by
    rcases hp5 with ⟨e1, hno, hxp1⟩ | ⟨e1, i, j, g1, g2, g3, g4, hxp1⟩ <;> rcases hp with ⟨e2, hno2, hq1⟩ | ⟨e2, i2, j2, k1, k2, k3, k4, hq1⟩
    · exact ⟨cnt, nums, t, xp_n hxp1 hz, hq1, e1.trans e2.symm⟩
    · exact absurd ⟨i2, j2, k1, k2, k3, k4⟩ hno
    · exact absurd ⟨i, j, g1, g2, g3, g4⟩ hno2
    · cases lw_inj (cnt := 12) (by decide) g1 k1 g3 k3
      cases lw_inj (cnt := 12) (by decide) g2 k2 g4 k4
      exact ⟨cnt, nums, _, xp_n hxp1 hz, hq1, e1.trans e2.symm⟩
  subst e56
  refine lv_icmp_eq (tgt := 849) hx hb dL_law_707 (by decide) (fun cq => ?_) (fun cq => ?_)
  · refine W.widen (k := 36 + 296 * (k + 1)) (n := 235642 + 5679 * (k + 1)) (by show 36 + 296 * k + 0 + 0 ≤ _; omega) (by show 235642 + 5679 * k + 0 + 0 ≤ _; omega) ?_
    exact next _ _ f cnt1 nums1 t1 0 ls H locs hd1 hV ⟨Mx1, No, rfl, hdx, hxp1, ho⟩ hq1 (lv_sub hl [0, 1, 2, 3, 4] rfl)
  · exact absurd rfl cq

set_option maxHeartbeats 4000000 in
set_option maxRecDepth 100000 in
theorem lw_c_determinant {p : Program} {l : Launch} {e : Env} {s : State} {m : MethodId} {below : List Frame} {meth : Method} {c : Code} {b L : Nat} {xs : Nat → Int32} {E : hm_E} {M : hm_M} {sz x ot : Nat} {A : Nat → Nat} {k : Nat} {Qf : State → Prop} {MX Mm : hm_M} {f : Nat → Int64} {cnt : Nat} {nums : Nat → Int} {t : Nat → Nat → Int64} {th : Int32} {ls : Array Slot} {H : Heap} {locs : List Loc} (hB : lw_B p l s m c b L xs E M sz) (hk5 : 5 * k + 5 ≤ L) (hd1 : hm_dj MX Mm) (hV : hm_V E.1 vwCl (hm_A M sz) s.heap (hm_j MX Mm) H locs) (hXX : lw_X E MX x ot cnt nums t f) (hq : mq E Mm A th cnt nums t) (hl : lv_has ls 8 [(0, .ref b), (1, .ref x), (2, .ref (A 0)), (3, .ref ot), (4, .int (nI (5 * k)))]) (next : lw_N p l e s m below meth c b E M sz x ot A k Qf) : W p l e room_1 s m [Value.ref b].toArray below meth c H locs (36 + 296 * k) (235642 + 5679 * k) Qf (F0 m 712 ls []) := by
  obtain ⟨hx, hb, hml, hown, hws, hXs, hbl, hbA, hK, hY, hA, hlt, hL⟩ := hB
  have hts : ∀ w ∈ (Cond.initialized RL :: hm_ws), w.before [Value.ref b].toArray s = true := List.forall_mem_cons.mpr ⟨hws _ kw_36, hws⟩
  have ld40 := hws _ kw_671
  obtain ⟨a1, ha1⟩ : ∃ a9, xs (5 * k + 1) = a9 := ⟨_, rfl⟩
  obtain ⟨a2, ha2⟩ : ∃ a9, xs (5 * k + 2) = a9 := ⟨_, rfl⟩
  obtain ⟨a3, ha3⟩ : ∃ a9, xs (5 * k + 3) = a9 := ⟨_, rfl⟩
  obtain ⟨a4, ha4⟩ : ∃ a9, xs (5 * k + 4) = a9 := ⟨_, rfl⟩
  obtain ⟨Mx, No, hMX, hdx, hxp, ho⟩ := hXX
  subst hMX
  obtain ⟨k0, ko, X0, O0, hmd⟩ := hq
  have hcnt := md_c hmd
  obtain ⟨A3, ad, rw, el, z, hA0, hk, hz⟩ := hxp
  have hx0 := xw_x hk
  rw [hA0] at hx0
  refine lv_aload_n hx hb dL_law_712 rfl (lv_at hl 1 rfl) ?_
  refine lv_aload_n hx hb dL_law_713 rfl (lv_at hl 0 rfl) ?_
  refine lv_iload hx hb dL_law_714 (lv_at hl 4 rfl) ?_
  refine lv_iconst (v := 1) hx hb dL_law_716 (by decide) ?_
  refine lv_iadd hx hb dL_law_717 ?_
  refine lw_sld hx hb hXs hbl hbA hV.2.2 (j := 5 * k + 1) (nI_1 _) (by omega) hL ha1 dL_law_718 ?_
  have hnd := hm_dd hdx hd1
  have hd3 := hm_da hdx hd1
  have hV := hm_Ve (hm_ja Mx No Mm) hV
  have hc9 := c_X3_determinant l E (a := a1) hk
  rw [hA0] at hc9
  refine hm_fcalli (va_runV (As := [.int a1]) (rest := []) ⟨hx, hb, hml, hown, hts⟩ (hc9 H.size) (cwV 1 hts (hm_gV kw_181 kw_182 kw_183 kw_37 kw_184) rfl rfl rfl (by decide +kernel) ⟨Nat.le_of_ble_eq_true rfl, Nat.le_of_ble_eq_true rfl⟩) (hm_preVX hK (hm_fst hV) hA hY hx0 rfl) rfl rfl hl.1 rfl (lv_room (Nat.le_of_ble_eq_true rfl)) dL_law_719 ⟨by show 36 + 296 * k + 296 ≤ 603072; omega, by show 235642 + 5679 * k + 5679 ≤ 7198826; omega⟩) hV hd3 hA (fun r5 Mx1 H locs hp hd hV => ?_)
  have hV := hm_Ve (hm_ja Mx1 No Mm).symm hV
  have hdx := hm_db hd
  have hd1 := hm_dc hd hnd
  have hp5 := hp
  clear hp
  refine lv_aload_n hx hb dL_law_722 rfl (lv_at hl 2 rfl) ?_
  refine lv_aload_n hx hb dL_law_723 rfl (lv_at hl 0 rfl) ?_
  refine lv_iload hx hb dL_law_724 (lv_at hl 4 rfl) ?_
  refine lv_iconst (v := 1) hx hb dL_law_726 (by decide) ?_
  refine lv_iadd hx hb dL_law_727 ?_
  refine lw_sld hx hb hXs hbl hbA hV.2.2 (j := 5 * k + 1) (nI_1 _) (by omega) hL ha1 dL_law_728 ?_
  have hV := hm_Ve (hm_swp hd1) hV
  have hd2 := hm_dsy hd1
  refine hm_fcalli (va_runV (As := [.int a1]) (rest := [.int r5]) ⟨hx, hb, hml, hown, hts⟩ (c_X4_determinant l E (a := a1) hmd H.size) (cwV 1 hts (hm_gV kw_652 kw_653 kw_654 kw_41 kw_655) rfl rfl rfl (by decide +kernel) ⟨Nat.le_of_ble_eq_true rfl, Nat.le_of_ble_eq_true rfl⟩) (hm_preV hK (hm_fst hV) (md_x hmd) rfl) rfl rfl hl.1 rfl (lv_room (Nat.le_of_ble_eq_true rfl)) dL_law_729 ⟨by show 36 + 296 * k + 296 + 0 ≤ 603072; omega, by show 235642 + 5679 * k + 5679 + 0 ≤ 7198826; omega⟩) hV hd2 hA (fun r6 Mm1 H locs hp hd hV => ?_)
  have hV := hm_Ve (hm_swp hd) hV
  have hd1 := hm_dsy hd
  obtain ⟨cnt1, nums1, t1, hxp1, hq1, e56⟩ : ∃ (cnt1 : Nat) (nums1 : Nat → Int) (t1 : Nat → Nat → Int64), xp E Mx1 x cnt1 nums1 t1 ∧ mq E Mm1 A 0 cnt1 nums1 t1 ∧ r5 = r6 := by
    obtain ⟨c1, n1, hkp, hxp1⟩ := hp5
    obtain ⟨c2, n2, hkp2, hq1⟩ := hp
    obtain ⟨e1, e2, e3⟩ := kp_one hkp hkp2 hz
    subst e2
    exact ⟨c1, n2, t, xp_n hxp1 e3, hq1, e1⟩
  subst e56
  refine lv_icmp_eq (tgt := 849) hx hb dL_law_732 (by decide) (fun cq => ?_) (fun cq => ?_)
  · refine W.widen (k := 36 + 296 * (k + 1)) (n := 235642 + 5679 * (k + 1)) (by show 36 + 296 * k + 296 + 0 ≤ _; omega) (by show 235642 + 5679 * k + 5679 + 0 ≤ _; omega) ?_
    exact next _ _ f cnt1 nums1 t1 0 ls H locs hd1 hV ⟨Mx1, No, rfl, hdx, hxp1, ho⟩ hq1 (lv_sub hl [0, 1, 2, 3, 4] rfl)
  · exact absurd rfl cq

set_option maxHeartbeats 4000000 in
set_option maxRecDepth 100000 in
theorem lw_c_residue {p : Program} {l : Launch} {e : Env} {s : State} {m : MethodId} {below : List Frame} {meth : Method} {c : Code} {b L : Nat} {xs : Nat → Int32} {E : hm_E} {M : hm_M} {sz x ot : Nat} {A : Nat → Nat} {k : Nat} {Qf : State → Prop} {MX Mm : hm_M} {f : Nat → Int64} {cnt : Nat} {nums : Nat → Int} {t : Nat → Nat → Int64} {th : Int32} {ls : Array Slot} {H : Heap} {locs : List Loc} (hB : lw_B p l s m c b L xs E M sz) (hk5 : 5 * k + 5 ≤ L) (hd1 : hm_dj MX Mm) (hV : hm_V E.1 vwCl (hm_A M sz) s.heap (hm_j MX Mm) H locs) (hXX : lw_X E MX x ot cnt nums t f) (hq : mq E Mm A th cnt nums t) (hl : lv_has ls 8 [(0, .ref b), (1, .ref x), (2, .ref (A 0)), (3, .ref ot), (4, .int (nI (5 * k)))]) (next : lw_N p l e s m below meth c b E M sz x ot A k Qf) : W p l e room_1 s m [Value.ref b].toArray below meth c H locs (36 + 296 * k) (235642 + 5679 * k) Qf (F0 m 737 ls []) := by
  obtain ⟨hx, hb, hml, hown, hws, hXs, hbl, hbA, hK, hY, hA, hlt, hL⟩ := hB
  have hts : ∀ w ∈ (Cond.initialized RL :: hm_ws), w.before [Value.ref b].toArray s = true := List.forall_mem_cons.mpr ⟨hws _ kw_36, hws⟩
  have ld40 := hws _ kw_671
  obtain ⟨a1, ha1⟩ : ∃ a9, xs (5 * k + 1) = a9 := ⟨_, rfl⟩
  obtain ⟨a2, ha2⟩ : ∃ a9, xs (5 * k + 2) = a9 := ⟨_, rfl⟩
  obtain ⟨a3, ha3⟩ : ∃ a9, xs (5 * k + 3) = a9 := ⟨_, rfl⟩
  obtain ⟨a4, ha4⟩ : ∃ a9, xs (5 * k + 4) = a9 := ⟨_, rfl⟩
  obtain ⟨Mx, No, hMX, hdx, hxp, ho⟩ := hXX
  subst hMX
  obtain ⟨k0, ko, X0, O0, hmd⟩ := hq
  have hcnt := md_c hmd
  obtain ⟨w9, hw9⟩ : ∃ w9 : Int64, w9 = (a2.toInt64 <<< ((32 : Int32).toInt64 &&& 63)) ||| (a3.toInt64 &&& 4294967295) := ⟨_, rfl⟩
  refine lv_aload_n hx hb dL_law_737 rfl (lv_at hl 1 rfl) ?_
  refine lv_aload_n hx hb dL_law_738 rfl (lv_at hl 0 rfl) ?_
  refine lv_iload hx hb dL_law_739 (lv_at hl 4 rfl) ?_
  refine lv_iconst (v := 1) hx hb dL_law_741 (by decide) ?_
  refine lv_iadd hx hb dL_law_742 ?_
  refine lw_sld hx hb hXs hbl hbA hV.2.2 (j := 5 * k + 1) (nI_1 _) (by omega) hL ha1 dL_law_743 ?_
  refine lv_aload_n hx hb dL_law_744 rfl (lv_at hl 0 rfl) ?_
  refine lv_iload hx hb dL_law_745 (lv_at hl 4 rfl) ?_
  refine lv_iconst (v := 2) hx hb dL_law_747 (by decide) ?_
  refine lv_iadd hx hb dL_law_748 ?_
  refine lw_sld hx hb hXs hbl hbA hV.2.2 (j := 5 * k + 2) (lw_a2 _) (by omega) hL ha2 dL_law_749 ?_
  refine lv_i2l hx hb dL_law_750 rfl ?_
  refine lv_bipush (v := 32) hx hb dL_law_751 (by decide) ?_
  refine lv_lshl hx hb dL_law_753 rfl ?_
  refine lv_aload_n hx hb dL_law_754 rfl (lv_at hl 0 rfl) ?_
  refine lv_iload hx hb dL_law_755 (lv_at hl 4 rfl) ?_
  refine lv_iconst (v := 3) hx hb dL_law_757 (by decide) ?_
  refine lv_iadd hx hb dL_law_758 ?_
  refine lw_sld hx hb hXs hbl hbA hV.2.2 (j := 5 * k + 3) (lw_a3 _) (by omega) hL ha3 dL_law_759 ?_
  refine lv_i2l hx hb dL_law_760 rfl ?_
  refine lv_ldc2 (v := 4294967295) hx hb hown ld40 dL_law_761 ?_
  refine lv_land hx hb dL_law_764 ?_
  refine lv_lor hx hb dL_law_765 ?_
  refine hm_topl (show (a2.toInt64 <<< ((32 : Int32).toInt64 &&& 63)) ||| (a3.toInt64 &&& 4294967295) = w9 from hw9.symm) ?_
  refine lv_aload_n hx hb dL_law_766 rfl (lv_at hl 3 rfl) ?_
  refine hm_fcalli (vx_runSW (As := [.ref x, .int a1, .long w9, .ref ot]) (rest := []) ⟨hx, hb, hml, hown, hts⟩ (c_L_residue l hlt E (a := a1) (mm := w9) rfl hdx hxp ho H.size) (vx_cwSW 4 hts (hm_gS kw_460 kw_461 kw_36 kw_462) rfl rfl rfl (by decide +kernel) ⟨Nat.le_of_ble_eq_true rfl, Nat.le_of_ble_eq_true rfl⟩) (hm_preSX hK (hm_fst hV) hA hY) rfl rfl hl.1 rfl (lv_room (Nat.le_of_ble_eq_true rfl)) dL_law_767 ⟨by show 36 + 296 * k + 2 ≤ 603072; omega, by show 235642 + 5679 * k + 12 ≤ 7198826; omega⟩) hV hd1 hA (fun r5 MX1 H locs hp hd hV => ?_)
  have hd1 := hd
  have hp5 := hp
  clear hp
  refine lv_istore (lv' := [(5, .int r5), (0, .ref b), (1, .ref x), (2, .ref (A 0)), (3, .ref ot), (4, .int (nI (5 * k)))]) hx hb dL_law_770 hl (by decide) rfl (fun ls hl => ?_)
  refine lv_aload_n hx hb dL_law_772 rfl (lv_at hl 3 rfl) ?_
  refine lv_aload_n hx hb dL_law_773 rfl (lv_at hl 1 rfl) ?_
  refine lv_iload hx hb dL_law_774 (lv_at hl 5 rfl) ?_
  refine lv_iconst (v := 1) hx hb dL_law_776 (by decide) ?_
  refine lv_iadd hx hb dL_law_777 ?_
  refine lw_sld hx hb hXs hbl hbA hV.2.2 (j := 5 * k + 1) (nI_1 _) (by omega) hL ha1 dL_law_778 ?_
  refine lv_aload_n hx hb dL_law_779 rfl (lv_at hl 1 rfl) ?_
  refine lv_iload hx hb dL_law_780 (lv_at hl 5 rfl) ?_
  refine lv_iconst (v := 2) hx hb dL_law_782 (by decide) ?_
  refine lv_iadd hx hb dL_law_783 ?_
  refine lw_sld hx hb hXs hbl hbA hV.2.2 (j := 5 * k + 2) (lw_a2 _) (by omega) hL ha2 dL_law_784 ?_
  refine lv_i2l hx hb dL_law_785 rfl ?_
  refine lv_bipush (v := 32) hx hb dL_law_786 (by decide) ?_
  refine lv_lshl hx hb dL_law_788 rfl ?_
  refine lv_aload_n hx hb dL_law_789 rfl (lv_at hl 1 rfl) ?_
  refine lv_iload hx hb dL_law_790 (lv_at hl 5 rfl) ?_
  refine lv_iconst (v := 3) hx hb dL_law_792 (by decide) ?_
  refine lv_iadd hx hb dL_law_793 ?_
  refine lw_sld hx hb hXs hbl hbA hV.2.2 (j := 5 * k + 3) (lw_a3 _) (by omega) hL ha3 dL_law_794 ?_
  refine lv_i2l hx hb dL_law_795 rfl ?_
  refine lv_ldc2 (v := 4294967295) hx hb hown ld40 dL_law_796 ?_
  refine lv_land hx hb dL_law_799 ?_
  refine lv_lor hx hb dL_law_800 ?_
  refine hm_topl (show (a2.toInt64 <<< ((32 : Int32).toInt64 &&& 63)) ||| (a3.toInt64 &&& 4294967295) = w9 from hw9.symm) ?_
  have hV := hm_Ve (hm_swp hd1) hV
  have hd2 := hm_dsy hd1
  refine hm_fcalll (va_runV (As := [.int a1, .long w9]) (rest := []) ⟨hx, hb, hml, hown, hts⟩ (c_X4_residue l E (a := a1) (mm := w9) hmd H.size) (cwV 2 hts (hm_gV kw_639 kw_640 kw_641 kw_41 kw_642) rfl rfl rfl (by decide +kernel) ⟨Nat.le_of_ble_eq_true rfl, Nat.le_of_ble_eq_true rfl⟩) (hm_preV hK (hm_fst hV) (md_x hmd) rfl) rfl rfl hl.1 rfl (lv_room (Nat.le_of_ble_eq_true rfl)) dL_law_801 ⟨by show 36 + 296 * k + 2 + 0 ≤ 603072; omega, by show 235642 + 5679 * k + 12 + 0 ≤ 7198826; omega⟩) hV hd2 hA (fun r6 Mm1 H locs hp hd hV => ?_)
  have hV := hm_Ve (hm_swp hd) hV
  have hd1 := hm_dsy hd
  have hT : lw_T E x ot A t MX1 Mm1 r5 r6 := by
    rcases hp5 with ⟨rfl, v, c1, n1, Mx1, ⟨i, g1, g3, g4, g5, rfl, rfl⟩, hd9, hM9, hxp9⟩ | ⟨⟨rfl, hno⟩ | ⟨rfl, g4, i, g1, g3⟩, Mx1, hd9, hM9, hxp9⟩ <;> rcases hp with ⟨hno2, e6, hq9⟩ | ⟨i2, k1, k3, ⟨k4, k5, hq9⟩ | ⟨k4, k5, hq9⟩⟩
    · exact absurd ⟨lw_kn g1 g3, lw_kn g1 g3⟩ hno2
    · exact absurd k4 g4
    · cases lw_inj hcnt g1 k1 g3 k3
      rw [k5, ← g5]
      exact lw_same hd9 hM9 hxp9 hq9
    · exact lw_bad (by decide) ho hd9 hM9 hxp9 hq9
    · exact absurd (lw_kn k1 k3) hno
    · exact absurd (lw_kn k1 k3) hno
    · exact absurd ⟨lw_kn g1 g3, lw_kn g1 g3⟩ hno2
    · exact lw_bad (by decide) ho hd9 hM9 hxp9 hq9
    · exact absurd g4 k4
  obtain ⟨cnt1, nums1, f1, hXX, hq, hf0⟩ := hT
  obtain ⟨k1, ko1, X1, O1, hmd⟩ := hq
  refine lv_lstore (lv' := [(6, .long r6), (5, .int r5), (0, .ref b), (1, .ref x), (2, .ref (A 0)), (3, .ref ot), (4, .int (nI (5 * k)))]) hx hb dL_law_804 hl (by decide) rfl (fun ls hl => ?_)
  refine lv_aload_n hx hb dL_law_806 rfl (lv_at hl 4 rfl) ?_
  have hV := hm_Ve (hm_swp hd1) hV
  have hd2 := hm_dsy hd1
  refine hm_fcalli (va_runV (As := []) (rest := []) ⟨hx, hb, hml, hown, hts⟩ (c_X4_thrown l E hmd H.size) (cwV 0 hts (hm_gV kw_529 kw_530 kw_531 kw_41 kw_532) rfl rfl rfl (by decide +kernel) ⟨Nat.le_of_ble_eq_true rfl, Nat.le_of_ble_eq_true rfl⟩) (hm_preV hK (hm_fst hV) (md_x hmd) rfl) rfl rfl hl.1 rfl (lv_room (Nat.le_of_ble_eq_true rfl)) dL_law_807 ⟨by show 36 + 296 * k + 2 + 0 ≤ 603072; omega, by show 235642 + 5679 * k + 12 + 0 ≤ 7198826; omega⟩) hV hd2 hA (fun r7 Mm2 H locs hp hd hV => ?_)
  have hV := hm_Ve (hm_swp hd) hV
  have hd1 := hm_dsy hd
  obtain ⟨e7, hM7⟩ := hp
  rw [hM7] at hV hd1
  subst e7
  refine lv_iload hx hb dL_law_810 (lv_at hl 1 rfl) ?_
  refine lv_icmp_eq (tgt := 817) hx hb dL_law_812 (by decide) (fun cq => ?_) (fun cq => ?_)
  · refine lv_iload hx hb dL_law_817 (lv_at hl 1 rfl) ?_
    refine lv_if_ne (tgt := 833) hx hb dL_law_819 (by decide) (fun cz => ?_) (fun cz => ?_)
    · refine lv_goto (tgt := 849) hx hb dL_law_833 (by decide) ?_
      refine W.widen (k := 36 + 296 * (k + 1)) (n := 235642 + 5679 * (k + 1)) (by show 36 + 296 * k + 2 + 0 + 0 ≤ _; omega) (by show 235642 + 5679 * k + 12 + 0 + 0 ≤ _; omega) ?_
      exact next _ _ f1 cnt1 nums1 t r7 ls H locs hd1 hV hXX ⟨k1, ko1, X1, O1, hmd⟩ (lv_sub hl [2, 3, 4, 5, 6] rfl)
    · obtain ⟨Mx5, No5, hMX5, hdx5, hxp5, ho5⟩ := hXX
      refine lv_aload_n hx hb dL_law_822 rfl (lv_at hl 5 rfl) ?_
      refine lv_iconst (v := 0) hx hb dL_law_823 (by decide) ?_
      refine hm_laldN hx hb hK.1 hV 1 (hm_jl ((congrFun hMX5 ot).trans (hm_jr hdx5 ho5))) rfl (k := 0) (by decide) (by decide) dL_law_824 ?_
      refine lv_lload hx hb dL_law_825 (lv_at hl 0 rfl) ?_
      refine W.lcmp hx hb dL_law_827 ?_
      refine hm_topi (show lg_cmp (f1 0) r6 = 0 from by rw [show f1 0 = r6 from hf0 cz]; exact lw_cmp _) ?_
      refine lv_if_eq (tgt := 833) hx hb dL_law_828 (by decide) (fun cw => ?_) (fun cw => ?_)
      · refine lv_goto (tgt := 849) hx hb dL_law_833 (by decide) ?_
        refine W.widen (k := 36 + 296 * (k + 1)) (n := 235642 + 5679 * (k + 1)) (by show 36 + 296 * k + 2 + 0 + 0 ≤ _; omega) (by show 235642 + 5679 * k + 12 + 0 + 0 ≤ _; omega) ?_
        exact next _ _ f1 cnt1 nums1 t r7 ls H locs hd1 hV ⟨Mx5, No5, hMX5, hdx5, hxp5, ho5⟩ ⟨k1, ko1, X1, O1, hmd⟩ (lv_sub hl [2, 3, 4, 5, 6] rfl)
      · exact absurd rfl cw
  · exact absurd rfl cq

set_option maxHeartbeats 4000000 in
set_option maxRecDepth 100000 in
theorem lw_c_kept {p : Program} {l : Launch} {e : Env} {s : State} {m : MethodId} {below : List Frame} {meth : Method} {c : Code} {b L : Nat} {xs : Nat → Int32} {E : hm_E} {M : hm_M} {sz x ot : Nat} {A : Nat → Nat} {k : Nat} {Qf : State → Prop} {MX Mm : hm_M} {f : Nat → Int64} {cnt : Nat} {nums : Nat → Int} {t : Nat → Nat → Int64} {th : Int32} {ls : Array Slot} {H : Heap} {locs : List Loc} (hB : lw_B p l s m c b L xs E M sz) (hk5 : 5 * k + 5 ≤ L) (hd1 : hm_dj MX Mm) (hV : hm_V E.1 vwCl (hm_A M sz) s.heap (hm_j MX Mm) H locs) (hXX : lw_X E MX x ot cnt nums t f) (hq : mq E Mm A th cnt nums t) (hl : lv_has ls 8 [(0, .ref b), (1, .ref x), (2, .ref (A 0)), (3, .ref ot), (4, .int (nI (5 * k)))]) (next : lw_N p l e s m below meth c b E M sz x ot A k Qf) : W p l e room_1 s m [Value.ref b].toArray below meth c H locs (36 + 296 * k) (235642 + 5679 * k) Qf (F0 m 836 ls []) := by
  obtain ⟨hx, hb, hml, hown, hws, hXs, hbl, hbA, hK, hY, hA, hlt, hL⟩ := hB
  have hts : ∀ w ∈ (Cond.initialized RL :: hm_ws), w.before [Value.ref b].toArray s = true := List.forall_mem_cons.mpr ⟨hws _ kw_36, hws⟩
  have ld40 := hws _ kw_671
  obtain ⟨a1, ha1⟩ : ∃ a9, xs (5 * k + 1) = a9 := ⟨_, rfl⟩
  obtain ⟨a2, ha2⟩ : ∃ a9, xs (5 * k + 2) = a9 := ⟨_, rfl⟩
  obtain ⟨a3, ha3⟩ : ∃ a9, xs (5 * k + 3) = a9 := ⟨_, rfl⟩
  obtain ⟨a4, ha4⟩ : ∃ a9, xs (5 * k + 4) = a9 := ⟨_, rfl⟩
  obtain ⟨Mx, No, hMX, hdx, hxp, ho⟩ := hXX
  subst hMX
  obtain ⟨k0, ko, X0, O0, hmd⟩ := hq
  have hcnt := md_c hmd
  obtain ⟨A3, ad, rw, el, z, hA0, hk, hz⟩ := hxp
  have hx0 := xw_x hk
  rw [hA0] at hx0
  refine lv_aload_n hx hb dL_law_836 rfl (lv_at hl 1 rfl) ?_
  have hnd := hm_dd hdx hd1
  have hd3 := hm_da hdx hd1
  have hV := hm_Ve (hm_ja Mx No Mm) hV
  have hc9 := c_X3_kept l E  hk
  rw [hA0] at hc9
  refine hm_fcalli (va_runV (As := []) (rest := []) ⟨hx, hb, hml, hown, hts⟩ (hc9 H.size) (cwV 0 hts (hm_gV kw_301 kw_302 kw_303 kw_37 kw_304) rfl rfl rfl (by decide +kernel) ⟨Nat.le_of_ble_eq_true rfl, Nat.le_of_ble_eq_true rfl⟩) (hm_preV hK (hm_fst hV) hx0 rfl) rfl rfl hl.1 rfl (lv_room (Nat.le_of_ble_eq_true rfl)) dL_law_837 ⟨by show 36 + 296 * k + 0 ≤ 603072; omega, by show 235642 + 5679 * k + 0 ≤ 7198826; omega⟩) hV hd3 hA (fun r5 Mx1 H locs hp hd hV => ?_)
  have hV := hm_Ve (hm_ja Mx1 No Mm).symm hV
  have hdx := hm_db hd
  have hd1 := hm_dc hd hnd
  have hp5 := hp
  clear hp
  refine lv_aload_n hx hb dL_law_840 rfl (lv_at hl 2 rfl) ?_
  have hV := hm_Ve (hm_swp hd1) hV
  have hd2 := hm_dsy hd1
  refine hm_fcalli (va_runV (As := []) (rest := [.int r5]) ⟨hx, hb, hml, hown, hts⟩ (c_X4_kept l E  hmd H.size) (cwV 0 hts (hm_gV kw_644 kw_645 kw_646 kw_41 kw_647) rfl rfl rfl (by decide +kernel) ⟨Nat.le_of_ble_eq_true rfl, Nat.le_of_ble_eq_true rfl⟩) (hm_preV hK (hm_fst hV) (md_x hmd) rfl) rfl rfl hl.1 rfl (lv_room (Nat.le_of_ble_eq_true rfl)) dL_law_841 ⟨by show 36 + 296 * k + 0 ≤ 603072; omega, by show 235642 + 5679 * k + 0 ≤ 7198826; omega⟩) hV hd2 hA (fun r6 Mm1 H locs hp hd hV => ?_)
  have hV := hm_Ve (hm_swp hd) hV
  have hd1 := hm_dsy hd
  obtain ⟨cnt1, nums1, t1, hxp1, hq1, e56⟩ : ∃ (cnt1 : Nat) (nums1 : Nat → Int) (t1 : Nat → Nat → Int64), xp E Mx1 x cnt1 nums1 t1 ∧ mq E Mm1 A 0 cnt1 nums1 t1 ∧ r5 = r6 := by
    obtain ⟨e1, hM1⟩ := hp5
    obtain ⟨e2, hq1⟩ := hp
    rw [hM1]
    exact ⟨cnt, nums, t, ⟨A3, ad, rw, el, z, hA0, hk, hz⟩, hq1, e1.trans e2.symm⟩
  subst e56
  refine lv_icmp_eq (tgt := 849) hx hb dL_law_844 (by decide) (fun cq => ?_) (fun cq => ?_)
  · refine W.widen (k := 36 + 296 * (k + 1)) (n := 235642 + 5679 * (k + 1)) (by show 36 + 296 * k + 0 + 0 ≤ _; omega) (by show 235642 + 5679 * k + 0 + 0 ≤ _; omega) ?_
    exact next _ _ f cnt1 nums1 t1 0 ls H locs hd1 hV ⟨Mx1, No, rfl, hdx, hxp1, ho⟩ hq1 (lv_sub hl [0, 1, 2, 3, 4] rfl)
  · exact absurd rfl cq
