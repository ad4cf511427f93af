abbrev wd_X0_guessLimb : List Cond := .code yX0_guessLimb cX0_guessLimb 14 (some .long) :: hm_ws
abbrev rm_X0_guessLimb : Room := { frames := 0, cells := 0, slots := 0, locals := 0 }

set_option maxHeartbeats 4000000 in
set_option maxRecDepth 100000 in
/-- guessLimb(at, size): the limb, or one more -/
theorem c_X0_guessLimb (l : Launch) (E : hm_E) {M : hm_M} {dv lr lv ps m2 : Nat} {r v : Nat → Nat} (hdv : M dv = some (.inr (2, [.ref lr, .ref lv]))) (hlr : M lr = some (hm_I E 66 (fun j => nI (r j)))) (hlv : M lv = some (hm_I E 66 (fun j => nI (v j)))) (hrb : ∀ j, j < 66 → r j < 33554432) (hvb : ∀ j, j < 66 → v j < 33554432) (h_lv_lr : hm_ap lv lr) (hat : ps + (m2 + 2) < 66) (hlead : 16777216 ≤ v (m2 + 1)) (hRV : nu_v 33554432 (nu_w r ps) (m2 + 2 + 1) < nu_v 33554432 v (m2 + 2) * 33554432) : hm_Cl l E yX0_guessLimb wd_X0_guessLimb rm_X0_guessLimb [.ref dv, .int (nI ps), .int (nI (m2 + 2))] M (fun r0 M1 => (∃ gs : Nat, r0 = lZ (gs : Int) ∧ gs ≤ 33554433 ∧ (gs = nu_v 33554432 (nu_w r ps) (m2 + 2 + 1) / nu_v 33554432 v (m2 + 2) ∨ gs = nu_v 33554432 (nu_w r ps) (m2 + 2 + 1) / nu_v 33554432 v (m2 + 2) + 1)) ∧ M1 = M) := by
  intro sz
  refine Met.ofW (cc := cX0_guessLimb) (maxL := 14) (ret := (some .long)) (by decide) rfl ?_
  intro p e s m args below meth c s₁ B hml hv
  obtain ⟨rfl, hAe, hA, hK, hV⟩ := hm_start hv
  have hx := B.exec
  have hb := B.bytes
  have hr := B.returns
  have hts := atoms_spec (ws := wd_X0_guessLimb) B.pre
  have hws : ∀ w ∈ hm_ws, w.before _ s = true := fun w h => hts w (List.mem_cons_of_mem _ h)
  have hown : s.vm.findClass RX0 = some m.cls := findClass_of_methodNamed B.named
  have hlocks := B.notSynchronized
  have fl15 := hws _ kw_96
  have fl9 := hws _ kw_95
  have ld79 := hws _ kw_287
  have hl := lv_entry ([.ref dv, .int (nI ps), .int (nI (m2 + 2))]) (n := 14) (Nat.le_of_ble_eq_true rfl)
  rw [lg_entry_eq]
  generalize (lg_sl ([.ref dv, .int (nI ps), .int (nI (m2 + 2))]) ++ List.replicate (14 - (lg_sl ([.ref dv, .int (nI ps), .int (nI (m2 + 2))])).length) Slot.unset).toArray = ls at hl ⊢
  have hl : lv_has ls 14 [(0, .ref dv), (1, .int (nI ps)), (2, .int (nI (m2 + 2)))] := hl
  refine hm_gen (rm := rm_X0_guessLimb) rfl (fun Qf hQf => ?_)
  have h_dv_lr : hm_ap dv lr := hm_oa hdv hlr
  obtain ⟨V, hVe⟩ : ∃ V, V = nu_v 33554432 v (m2 + 2) := ⟨_, rfl⟩
  obtain ⟨R, hRe⟩ : ∃ R, R = nu_v 33554432 (nu_w r ps) (m2 + 2 + 1) := ⟨_, rfl⟩
  rw [← hVe, ← hRe] at hQf hRV
  obtain ⟨lead, hle⟩ : ∃ x, x = v (m2 + 1) := ⟨_, rfl⟩
  obtain ⟨v2, hv2e⟩ : ∃ x, x = v m2 := ⟨_, rfl⟩
  obtain ⟨u0, hu0e⟩ : ∃ x, x = r (ps + (m2 + 2)) := ⟨_, rfl⟩
  obtain ⟨u1, hu1e⟩ : ∃ x, x = r (ps + (m2 + 1)) := ⟨_, rfl⟩
  obtain ⟨u2, hu2e⟩ : ∃ x, x = r (ps + m2) := ⟨_, rfl⟩
  have hl1 := hvb (m2 + 1) (by omega)
  have hv21 := hvb m2 (by omega)
  have hu01 := hrb (ps + (m2 + 2)) (by omega)
  have hu11 := hrb (ps + (m2 + 1)) (by omega)
  have hu21 := hrb (ps + m2) (by omega)
  rw [← hle] at hl1 hlead
  rw [← hv2e] at hv21
  rw [← hu0e] at hu01
  rw [← hu1e] at hu11
  rw [← hu2e] at hu21
  obtain ⟨Pm, hPm⟩ : ∃ x, x = 33554432 ^ m2 := ⟨_, rfl⟩
  obtain ⟨Vl, hVl⟩ : ∃ x, x = nu_v 33554432 v m2 := ⟨_, rfl⟩
  obtain ⟨Rl, hRl⟩ : ∃ x, x = nu_v 33554432 (nu_w r ps) m2 := ⟨_, rfl⟩
  have hVl1 : Vl < Pm := by rw [hVl, hPm]; exact nu_v_lt (fun j hj => hvb j (by omega))
  have hRl1 : Rl < Pm := by rw [hRl, hPm]; exact nu_v_lt (fun j hj => hrb (ps + j) (by omega))
  have hVV : V = (lead * 33554432 + v2) * Pm + Vl := by
    rw [hVe, nu_cut, nu_2, hPm, hVl, hle, hv2e]; rfl
  obtain ⟨hg, hhg⟩ : ∃ x, x = u0 * 33554432 + u1 := ⟨_, rfl⟩
  have hRR : R = (hg * 33554432 + u2) * Pm + Rl := by
    rw [hRe, Nat.add_assoc, show 2 + 1 = 3 from rfl, nu_cut, nu_3, hPm, hRl, hhg, hu0e, hu1e, hu2e]; rfl
  have hV0 : 0 < V := by
    have : 1 * Pm ≤ (lead * 33554432 + v2) * Pm := Nat.mul_le_mul_right _ (by omega)
    rw [hVV]; omega
  obtain ⟨qq, hqq⟩ : ∃ x, x = R / V := ⟨_, rfl⟩
  rw [← hqq] at hQf
  have hqB : qq < 33554432 := by rw [hqq]; exact (Nat.div_lt_iff_lt_mul hV0).mpr (by rw [Nat.mul_comm]; exact hRV)
  have hqV : qq * V ≤ R := by rw [hqq]; exact Nat.div_mul_le_self R V
  have out : ∀ (gg : Nat), (qq ≤ gg) → (gg ≤ qq + 1) → (gg ≤ 33554433) → ∀ (ls : Array Slot) (H : Heap) (locs : List Loc), lv_has ls 14 [(7, .long (lN gg))] → hm_V E.1 vwCl (hm_A M sz) s.heap (M) H locs → W p l e rm_X0_guessLimb s m [.ref dv, .int (nI ps), .int (nI (m2 + 2))].toArray below meth c H locs 0 0 Qf (F0 m 144 ls []) := by
    intro gg hg1 hg2 hg3 ls H locs hl hV
    refine lv_lload hx hb dX0_guessLimb_144 (lv_at hl 0 rfl) ?_
    rw [hQf]
    exact W.lret hx hb hr (fun t ht hW => ⟨⟨_, _, rfl, ⟨⟨gg, lZ_lN _, hg3, by omega⟩, rfl⟩, (hm_end hV ht).1⟩, (hm_end hV ht).2⟩) hV.2.2.2.2 dX0_guessLimb_146
  refine lv_aload_n hx hb dX0_guessLimb_0 rfl (lv_at hl 0 rfl) ?_
  refine hm_get (ci := 2) (v := .ref lv) (C := RX0) (T := TX0) (N := 2) hx hb hws kin_X0 hown hK.1 hV hdv rfl 1 (by decide) fl15 (fun _ h9 => h9) rfl dX0_guessLimb_1 ?_
  refine lv_iload_n hx hb dX0_guessLimb_4 rfl (lv_at hl 2 rfl) ?_
  refine lv_iconst (v := 1) hx hb dX0_guessLimb_5 (by decide) ?_
  refine lv_isub hx hb dX0_guessLimb_6 ?_
  refine hm_topi (show ((nI (m2 + 2)) - 1) = nI (m2 + 1) from nI_pred (m2 + 1)) ?_
  refine hm_ialdN hx hb hK.1 hV 0 hlv rfl (k := (m2 + 1)) (by omega) (by omega) dX0_guessLimb_7 ?_
  refine lv_i2l hx hb dX0_guessLimb_8 rfl ?_
  refine hm_topl (show ((nI (v (m2 + 1))).toInt64) = lN lead from (by rw [← hle]; exact nI_l (by omega))) ?_
  refine lv_lstore_n (lv' := [(3, .long (lN lead)), (0, .ref dv), (1, .int (nI ps)), (2, .int (nI (m2 + 2)))]) hx hb dX0_guessLimb_9 rfl hl (by decide) rfl (fun ls hl => ?_)
  refine lv_lload_n hx hb dX0_guessLimb_10 rfl (lv_at hl 0 rfl) ?_
  refine lv_lconst (v := 1) hx hb dX0_guessLimb_11 (by decide) ?_
  refine W.lcmp hx hb dX0_guessLimb_12 ?_
  refine lv_if_ge (tgt := 18) hx hb dX0_guessLimb_13 (by decide) (fun c13 => ?_) (fun c13 => ?_)
  · have hgl : hg / lead * lead ≤ hg := Nat.div_mul_le_self _ _
    have hgm := Nat.div_add_mod hg lead
    have hgr := Nat.mod_lt hg (show 0 < lead by omega)
    have hq0 : qq ≤ hg / lead := (Nat.le_div_iff_mul_le (show 0 < lead by omega)).mpr (kn_init hVV hRR hRl1 hu21 hqV)
    have hg0 : hg / lead ≤ 33554433 := by
      have hu0l : u0 ≤ lead := by
        rcases Nat.lt_or_ge lead u0 with q | q
        · exfalso
          have h1 : (lead + 1) * (33554432 * (33554432 * Pm)) ≤ u0 * (33554432 * (33554432 * Pm)) := Nat.mul_le_mul_right _ q
          have h2 : R = u0 * (33554432 * (33554432 * Pm)) + u1 * (33554432 * Pm) + u2 * Pm + Rl := by rw [hRR, hhg]; grind
          have h3 : V * 33554432 = lead * (33554432 * (33554432 * Pm)) + v2 * Pm * 33554432 + Vl * 33554432 := by rw [hVV]; grind
          have h4 : v2 * Pm ≤ 33554431 * Pm := Nat.mul_le_mul_right _ (by omega)
          rw [Nat.add_mul, Nat.one_mul] at h1
          generalize u0 * (33554432 * (33554432 * Pm)) = a1 at *
          generalize lead * (33554432 * (33554432 * Pm)) = a2 at *
          generalize u1 * (33554432 * Pm) = a3 at *
          generalize u2 * Pm = a4 at *
          generalize v2 * Pm = a5 at *
          omega
        · exact q
      have h5 : hg < 33554434 * lead := by rw [hhg]; omega
      have h6 : hg / lead < 33554434 := (Nat.div_lt_iff_lt_mul (show 0 < lead by omega)).mpr h5
      omega
    have hgB := kn_B (g := hg / lead) hVV hRR hVl1 hv21 hgl hg0 hlead
    rw [← hqq] at hgB
    refine lv_aload_n hx hb dX0_guessLimb_18 rfl (lv_at hl 1 rfl) ?_
    refine hm_get (ci := 2) (v := .ref lr) (C := RX0) (T := TX0) (N := 2) hx hb hws kin_X0 hown hK.1 hV hdv rfl 0 (by decide) fl9 (fun _ h9 => h9) rfl dX0_guessLimb_19 ?_
    refine lv_iload_n hx hb dX0_guessLimb_22 rfl (lv_at hl 2 rfl) ?_
    refine lv_iload_n hx hb dX0_guessLimb_23 rfl (lv_at hl 3 rfl) ?_
    refine lv_iadd hx hb dX0_guessLimb_24 ?_
    refine hm_topi (show ((nI ps) + (nI (m2 + 2))) = nI (ps + (m2 + 2)) from nI_add _ _) ?_
    refine hm_ialdN hx hb hK.1 hV 0 hlr rfl (k := (ps + (m2 + 2))) (by omega) (by omega) dX0_guessLimb_25 ?_
    refine lv_i2l hx hb dX0_guessLimb_26 rfl ?_
    refine hm_topl (show ((nI (r (ps + (m2 + 2)))).toInt64) = lN u0 from (by rw [← hu0e]; exact nI_l (by omega))) ?_
    refine lv_bipush (v := 25) hx hb dX0_guessLimb_27 (by decide) ?_
    refine lv_lshl hx hb dX0_guessLimb_29 rfl ?_
    refine lv_aload_n hx hb dX0_guessLimb_30 rfl (lv_at hl 1 rfl) ?_
    refine hm_get (ci := 2) (v := .ref lr) (C := RX0) (T := TX0) (N := 2) hx hb hws kin_X0 hown hK.1 hV hdv rfl 0 (by decide) fl9 (fun _ h9 => h9) rfl dX0_guessLimb_31 ?_
    refine lv_iload_n hx hb dX0_guessLimb_34 rfl (lv_at hl 2 rfl) ?_
    refine lv_iload_n hx hb dX0_guessLimb_35 rfl (lv_at hl 3 rfl) ?_
    refine lv_iadd hx hb dX0_guessLimb_36 ?_
    refine hm_topi (show ((nI ps) + (nI (m2 + 2))) = nI (ps + (m2 + 2)) from nI_add _ _) ?_
    refine lv_iconst (v := 1) hx hb dX0_guessLimb_37 (by decide) ?_
    refine lv_isub hx hb dX0_guessLimb_38 ?_
    refine hm_topi (show ((nI (ps + (m2 + 2))) - 1) = nI (ps + (m2 + 1)) from nI_pred (ps + (m2 + 1))) ?_
    refine hm_ialdN hx hb hK.1 hV 0 hlr rfl (k := (ps + (m2 + 1))) (by omega) (by omega) dX0_guessLimb_39 ?_
    refine lv_i2l hx hb dX0_guessLimb_40 rfl ?_
    refine hm_topl (show ((nI (r (ps + (m2 + 1)))).toInt64) = lN u1 from (by rw [← hu1e]; exact nI_l (by omega))) ?_
    refine lv_lor hx hb dX0_guessLimb_41 ?_
    refine hm_topl (show (((lN u0) <<< ((25 : Int32).toInt64 &&& 63)) ||| (lN u1)) = lN hg from (by rw [hhg]; exact lN_or hu11 (by omega))) ?_
    refine lv_lstore (lv' := [(5, .long (lN hg)), (3, .long (lN lead)), (0, .ref dv), (1, .int (nI ps)), (2, .int (nI (m2 + 2)))]) hx hb dX0_guessLimb_42 hl (by decide) rfl (fun ls hl => ?_)
    refine lv_lload hx hb dX0_guessLimb_44 (lv_at hl 0 rfl) ?_
    refine lv_lload_n hx hb dX0_guessLimb_46 rfl (lv_at hl 1 rfl) ?_
    refine lv_ldiv hx hb dX0_guessLimb_47 (fun e => absurd ((pk_lEQ (by omega) (by omega)).mp (show lN lead = lN 0 from e)) (by omega)) ?_
    refine hm_topl (show ((lN hg) / (lN lead)) = lN (hg / lead) from pk_lDiv (by omega) (by omega) (by omega)) ?_
    refine lv_lstore (lv' := [(7, .long (lN (hg / lead))), (5, .long (lN hg)), (3, .long (lN lead)), (0, .ref dv), (1, .int (nI ps)), (2, .int (nI (m2 + 2)))]) hx hb dX0_guessLimb_48 hl (by decide) rfl (fun ls hl => ?_)
    refine lv_lload hx hb dX0_guessLimb_50 (lv_at hl 1 rfl) ?_
    refine lv_lload hx hb dX0_guessLimb_52 (lv_at hl 0 rfl) ?_
    refine lv_lload_n hx hb dX0_guessLimb_54 rfl (lv_at hl 2 rfl) ?_
    refine lv_lmul hx hb dX0_guessLimb_55 ?_
    refine hm_topl (show ((lN (hg / lead)) * (lN lead)) = lN (hg / lead * lead) from lN_mul _ _) ?_
    refine lv_lsub hx hb dX0_guessLimb_56 ?_
    refine hm_topl (show ((lN hg) - (lN (hg / lead * lead))) = lN (hg - hg / lead * lead) from lN_sub hgl) ?_
    refine lv_lstore (lv' := [(9, .long (lN (hg - hg / lead * lead))), (7, .long (lN (hg / lead))), (5, .long (lN hg)), (3, .long (lN lead)), (0, .ref dv), (1, .int (nI ps)), (2, .int (nI (m2 + 2)))]) hx hb dX0_guessLimb_57 hl (by decide) rfl (fun ls hl => ?_)
    refine lv_iconst (v := 0) hx hb dX0_guessLimb_59 (by decide) ?_
    refine lv_istore (lv' := [(11, .int 0), (9, .long (lN (hg - hg / lead * lead))), (7, .long (lN (hg / lead))), (5, .long (lN hg)), (3, .long (lN lead)), (0, .ref dv), (1, .int (nI ps)), (2, .int (nI (m2 + 2)))]) hx hb dX0_guessLimb_60 hl (by decide) rfl (fun ls hl => ?_)
    have loop : ∀ (fu : Nat) (gg : Nat) (ll : Nat) (tt : Nat), (gg * lead + ll = hg) → (qq ≤ gg) → (gg + tt ≤ qq + 2) → (gg + tt ≤ 33554433) → (tt = 0 → ll < 33554432) → (tt ≤ 2) → 2 - tt < fu → ∀ (ls : Array Slot) (H : Heap) (locs : List Loc), lv_has ls 14 [(0, .ref dv), (1, .int (nI ps)), (2, .int (nI (m2 + 2))), (3, .long (lN lead)), (7, .long (lN gg)), (9, .long (lN ll)), (11, .int (nI tt))] → hm_V E.1 vwCl (hm_A M sz) s.heap (M) H locs → W p l e rm_X0_guessLimb s m [.ref dv, .int (nI ps), .int (nI (m2 + 2))].toArray below meth c H locs 0 0 Qf (F0 m 62 ls []) := by
      intro fu
      induction fu with
      | zero => intro gg ll tt h1 h2 h3 h4 h5 h6 hfu; exact absurd hfu (Nat.not_lt_zero _)
      | succ fu ih_loop =>
        intro gg ll tt h1 h2 h3 h4 h5 h6 hfu ls H locs hl hV
        have hgb : gg * lead ≤ hg := by omega
        refine lv_iload hx hb dX0_guessLimb_62 (lv_at hl 6 rfl) ?_
        refine lv_iconst (v := 2) hx hb dX0_guessLimb_64 (by decide) ?_
        refine lv_icmp_ge (tgt := 144) hx hb dX0_guessLimb_65 (by decide) (fun c65 => ?_) (fun c65 => ?_)
        · have ht2 : tt = 2 := by
            rcases Nat.lt_or_ge tt 2 with q | q
            · exact absurd c65 (nI_ge (b := 2) q (by omega))
            · omega
          exact out gg h2 (by omega) (by omega) ls H locs (lv_sub hl [4] rfl) hV
        · have ht2 : tt < 2 := by
            rcases Nat.lt_or_ge tt 2 with q | q
            · exact q
            · exact absurd (nI_le (a := 2) q (by omega)) c65
          refine lv_lload hx hb dX0_guessLimb_68 (lv_at hl 5 rfl) ?_
          refine lv_ldc2 (v := 33554432) hx hb hown ld79 dX0_guessLimb_70 ?_
          refine W.lcmp hx hb dX0_guessLimb_73 ?_
          refine lv_if_ge (tgt := 144) hx hb dX0_guessLimb_74 (by decide) (fun c74 => ?_) (fun c74 => ?_)
          · have hlb : 33554432 ≤ ll := (pk_lLE (a := 33554432) (by omega) (by omega)).mp ((lg_cmp_ge _ _).mp c74)
            have htt : tt ≠ 0 := fun e => by have := h5 e; omega
            have hgv9 : gg * v2 ≤ 33554432 * 33554431 := Nat.mul_le_mul (by omega) (by omega)
            have hh := kn_hi hVV hRR hVl1 h1 (by omega) (by omega) (by omega)
            rw [← hqq] at hh
            exact out gg h2 hh (by omega) ls H locs (lv_sub hl [4] rfl) hV
          · have hlb : ll < 33554432 := by
              rcases Nat.lt_or_ge ll 33554432 with q | q
              · exact q
              · exact absurd ((lg_cmp_ge _ _).mpr ((pk_lLE (a := 33554432) (by omega) (by omega)).mpr q)) c74
            have dec : (qq < gg) → ∀ (ls : Array Slot) (H : Heap) (locs : List Loc), lv_has ls 14 [(0, .ref dv), (1, .int (nI ps)), (2, .int (nI (m2 + 2))), (3, .long (lN lead)), (7, .long (lN gg)), (9, .long (lN ll)), (11, .int (nI tt))] → hm_V E.1 vwCl (hm_A M sz) s.heap (M) H locs → W p l e rm_X0_guessLimb s m [.ref dv, .int (nI ps), .int (nI (m2 + 2))].toArray below meth c H locs 0 0 Qf (F0 m 126 ls []) := by
              intro  hgt ls H locs hl hV
              refine lv_lload hx hb dX0_guessLimb_126 (lv_at hl 4 rfl) ?_
              refine lv_lconst (v := 1) hx hb dX0_guessLimb_128 (by decide) ?_
              refine lv_lsub hx hb dX0_guessLimb_129 ?_
              refine hm_topl (show ((lN gg) - 1) = lN (gg - 1) from lN_sub (b := 1) (by omega)) ?_
              refine lv_lstore (lv' := [(7, .long (lN (gg - 1))), (0, .ref dv), (1, .int (nI ps)), (2, .int (nI (m2 + 2))), (3, .long (lN lead)), (9, .long (lN ll)), (11, .int (nI tt))]) hx hb dX0_guessLimb_130 hl (by decide) rfl (fun ls hl => ?_)
              refine lv_lload hx hb dX0_guessLimb_132 (lv_at hl 5 rfl) ?_
              refine lv_lload_n hx hb dX0_guessLimb_134 rfl (lv_at hl 4 rfl) ?_
              refine lv_ladd hx hb dX0_guessLimb_135 ?_
              refine hm_topl (show ((lN ll) + (lN lead)) = lN (ll + lead) from lN_add _ _) ?_
              refine lv_lstore (lv' := [(9, .long (lN (ll + lead))), (7, .long (lN (gg - 1))), (0, .ref dv), (1, .int (nI ps)), (2, .int (nI (m2 + 2))), (3, .long (lN lead)), (11, .int (nI tt))]) hx hb dX0_guessLimb_136 hl (by decide) rfl (fun ls hl => ?_)
              refine lv_iinc (v := (nI (tt + 1))) (lv' := [(11, .int (nI (tt + 1))), (9, .long (lN (ll + lead))), (7, .long (lN (gg - 1))), (0, .ref dv), (1, .int (nI ps)), (2, .int (nI (m2 + 2))), (3, .long (lN lead))]) hx hb dX0_guessLimb_138 hl (k := 6) rfl (nI_1 tt) (by decide) rfl (fun ls hl => ?_)
              refine lv_goto (tgt := 62) hx hb dX0_guessLimb_141 (by decide) ?_
              exact ih_loop (gg - 1) (ll + lead) (tt + 1) (by
                obtain ⟨s9, hs9⟩ : ∃ s9, gg = s9 + 1 := ⟨gg - 1, by omega⟩
                rw [hs9, Nat.add_mul, Nat.one_mul] at h1
                rw [hs9, Nat.add_sub_cancel]; omega) (by omega) (by omega) (by omega) (fun e => absurd e (by omega)) (by omega) (by omega) ls H locs (lv_sub hl [3, 4, 5, 6, 2, 1, 0] rfl) hV
            refine lv_lload hx hb dX0_guessLimb_77 (lv_at hl 5 rfl) ?_
            refine lv_bipush (v := 25) hx hb dX0_guessLimb_79 (by decide) ?_
            refine lv_lshl hx hb dX0_guessLimb_81 rfl ?_
            refine lv_aload_n hx hb dX0_guessLimb_82 rfl (lv_at hl 0 rfl) ?_
            refine hm_get (ci := 2) (v := .ref lr) (C := RX0) (T := TX0) (N := 2) hx hb hws kin_X0 hown hK.1 hV hdv rfl 0 (by decide) fl9 (fun _ h9 => h9) rfl dX0_guessLimb_83 ?_
            refine lv_iload_n hx hb dX0_guessLimb_86 rfl (lv_at hl 1 rfl) ?_
            refine lv_iload_n hx hb dX0_guessLimb_87 rfl (lv_at hl 2 rfl) ?_
            refine lv_iadd hx hb dX0_guessLimb_88 ?_
            refine hm_topi (show ((nI ps) + (nI (m2 + 2))) = nI (ps + (m2 + 2)) from nI_add _ _) ?_
            refine lv_iconst (v := 2) hx hb dX0_guessLimb_89 (by decide) ?_
            refine lv_isub hx hb dX0_guessLimb_90 ?_
            refine hm_topi (show ((nI (ps + (m2 + 2))) - 2) = nI (ps + m2) from (show nI (ps + (m2 + 2)) - nI 2 = nI (ps + m2) from (pk_sub (by omega)).trans (by congr 1))) ?_
            refine hm_ialdN hx hb hK.1 hV 0 hlr rfl (k := (ps + m2)) (by omega) (by omega) dX0_guessLimb_91 ?_
            refine lv_i2l hx hb dX0_guessLimb_92 rfl ?_
            refine hm_topl (show ((nI (r (ps + m2))).toInt64) = lN u2 from (by rw [← hu2e]; exact nI_l (by omega))) ?_
            refine lv_lor hx hb dX0_guessLimb_93 ?_
            refine hm_topl (show (((lN ll) <<< ((25 : Int32).toInt64 &&& 63)) ||| (lN u2)) = lN (ll * 33554432 + u2) from lN_or hu21 (by omega)) ?_
            refine lv_lstore (lv' := [(12, .long (lN (ll * 33554432 + u2))), (0, .ref dv), (1, .int (nI ps)), (2, .int (nI (m2 + 2))), (3, .long (lN lead)), (7, .long (lN gg)), (9, .long (lN ll)), (11, .int (nI tt))]) hx hb dX0_guessLimb_94 hl (by decide) rfl (fun ls hl => ?_)
            refine lv_lload hx hb dX0_guessLimb_96 (lv_at hl 5 rfl) ?_
            refine lv_ldc2 (v := 33554432) hx hb hown ld79 dX0_guessLimb_98 ?_
            refine W.lcmp hx hb dX0_guessLimb_101 ?_
            refine lv_if_ge (tgt := 126) hx hb dX0_guessLimb_102 (by decide) (fun c102 => ?_) (fun c102 => ?_)
            · have hgB1 : 33554432 ≤ gg := (pk_lLE (a := 33554432) (by omega) (by omega)).mp ((lg_cmp_ge _ _).mp c102)
              exact dec (by omega) ls H locs (lv_sub hl [1, 2, 3, 4, 5, 6, 7] rfl) hV
            · have hgB1 : gg < 33554432 := by
                rcases Nat.lt_or_ge gg 33554432 with q | q
                · exact q
                · exact absurd ((lg_cmp_ge _ _).mpr ((pk_lLE (a := 33554432) (by omega) (by omega)).mpr q)) c102
              have hgv : gg * v2 ≤ 33554432 * 33554432 := Nat.mul_le_mul (by omega) (by omega)
              refine lv_lload hx hb dX0_guessLimb_105 (lv_at hl 5 rfl) ?_
              refine lv_aload_n hx hb dX0_guessLimb_107 rfl (lv_at hl 1 rfl) ?_
              refine hm_get (ci := 2) (v := .ref lv) (C := RX0) (T := TX0) (N := 2) hx hb hws kin_X0 hown hK.1 hV hdv rfl 1 (by decide) fl15 (fun _ h9 => h9) rfl dX0_guessLimb_108 ?_
              refine lv_iload_n hx hb dX0_guessLimb_111 rfl (lv_at hl 3 rfl) ?_
              refine lv_iconst (v := 2) hx hb dX0_guessLimb_112 (by decide) ?_
              refine lv_isub hx hb dX0_guessLimb_113 ?_
              refine hm_topi (show ((nI (m2 + 2)) - 2) = nI m2 from (show nI (m2 + 2) - nI 2 = nI m2 from (pk_sub (by omega)).trans (by congr 1))) ?_
              refine hm_ialdN hx hb hK.1 hV 0 hlv rfl (k := m2) (by omega) (by omega) dX0_guessLimb_114 ?_
              refine lv_i2l hx hb dX0_guessLimb_115 rfl ?_
              refine hm_topl (show ((nI (v m2)).toInt64) = lN v2 from (by rw [← hv2e]; exact nI_l (by omega))) ?_
              refine lv_lmul hx hb dX0_guessLimb_116 ?_
              refine hm_topl (show ((lN gg) * (lN v2)) = lN (gg * v2) from lN_mul _ _) ?_
              refine lv_lload hx hb dX0_guessLimb_117 (lv_at hl 0 rfl) ?_
              refine W.lcmp hx hb dX0_guessLimb_119 ?_
              refine lv_if_gt (tgt := 126) hx hb dX0_guessLimb_120 (by decide) (fun c120 => ?_) (fun c120 => ?_)
              · have hgt : ll * 33554432 + u2 < gg * v2 := (pk_lLT (by omega) (by omega)).mp ((lg_cmp_gt _ _).mp c120)
                have hRg := kn_dec hVV hRR hRl1 h1 hgt
                exact dec (by rw [hqq]; exact (Nat.div_lt_iff_lt_mul hV0).mpr hRg) ls H locs (lv_sub hl [1, 2, 3, 4, 5, 6, 7] rfl) hV
              · have hle2 : gg * v2 ≤ ll * 33554432 + u2 := by
                  rcases Nat.lt_or_ge (ll * 33554432 + u2) (gg * v2) with q | q
                  · exact absurd ((lg_cmp_gt _ _).mpr ((pk_lLT (by omega) (by omega)).mpr q)) c120
                  · exact q
                have hh := kn_hi hVV hRR hVl1 h1 hle2 (by omega) (by omega)
                rw [← hqq] at hh
                refine lv_goto (tgt := 144) hx hb dX0_guessLimb_123 (by decide) ?_
                exact out gg h2 hh (by omega) ls H locs (lv_sub hl [5] rfl) hV
    have hl : lv_has ls 14 [(11, .int (nI 0)), (9, .long (lN (hg - hg / lead * lead))), (7, .long (lN (hg / lead))), (5, .long (lN hg)), (3, .long (lN lead)), (0, .ref dv), (1, .int (nI ps)), (2, .int (nI (m2 + 2)))] := hl
    exact loop 3 (hg / lead) (hg - hg / lead * lead) 0 (by omega) hq0 hgB hg0 (fun _ => by
      rw [Nat.mul_comm] at hgm
      omega) (by omega) (by omega) ls s.heap [] (lv_sub hl [5, 6, 7, 4, 2, 1, 0] rfl) hV
  · exact absurd ((lg_cmp_ge _ _).mpr ((pk_lLE (a := 1) (by omega) (by omega)).mpr (by omega))) c13

abbrev wd_X0_nextLimb : List Cond := .code yX0_nextLimb cX0_nextLimb 5 (some .int) :: hm_ws
abbrev rm_X0_nextLimb : Room := { frames := 1, cells := 0, slots := 0, locals := 33 }

set_option maxHeartbeats 4000000 in
set_option maxRecDepth 100000 in
/-- nextLimb(at, size) -/
theorem c_X0_nextLimb (l : Launch) (E : hm_E) {M : hm_M} {dv lr lv ps m2 : Nat} {r v : Nat → Nat} (hdv : M dv = some (.inr (2, [.ref lr, .ref lv]))) (hlr : M lr = some (hm_I E 66 (fun j => nI (r j)))) (hlv : M lv = some (hm_I E 66 (fun j => nI (v j)))) (hrb : ∀ j, j < 66 → r j < 33554432) (hvb : ∀ j, j < 66 → v j < 33554432) (h_lv_lr : hm_ap lv lr) (hat : ps + (m2 + 2) < 66) (hlead : 16777216 ≤ v (m2 + 1)) (hRV : nu_v 33554432 (nu_w r ps) (m2 + 2 + 1) < nu_v 33554432 v (m2 + 2) * 33554432) : hm_Ci l E yX0_nextLimb wd_X0_nextLimb rm_X0_nextLimb [.ref dv, .int (nI ps), .int (nI (m2 + 2))] M (fun r0 M1 => r0 = nI (nu_v 33554432 (nu_w r ps) (m2 + 2 + 1) / nu_v 33554432 v (m2 + 2)) ∧ ∃ r1 : Nat → Nat, M1 = hm_up M lr (hm_I E 66 (fun j => nI (r1 j))) ∧ (∀ j, j < 66 → r1 j < 33554432) ∧ (∀ j, j < ps → r1 j = r j) ∧ nu_v 33554432 (nu_w r1 ps) (m2 + 2) = nu_v 33554432 (nu_w r ps) (m2 + 2 + 1) % nu_v 33554432 v (m2 + 2)) := by
  intro sz
  refine Met.ofW (cc := cX0_nextLimb) (maxL := 5) (ret := (some .int)) (by decide) rfl ?_
  intro p e s m args below meth c s₁ B hml hv
  obtain ⟨rfl, hAe, hA, hK, hV⟩ := hm_start hv
  have hx := B.exec
  have hb := B.bytes
  have hr := B.returns
  have hts := atoms_spec (ws := wd_X0_nextLimb) B.pre
  have hws : ∀ w ∈ hm_ws, w.before _ s = true := fun w h => hts w (List.mem_cons_of_mem _ h)
  have hown : s.vm.findClass RX0 = some m.cls := findClass_of_methodNamed B.named
  have hlocks := B.notSynchronized
  have hl := lv_entry ([.ref dv, .int (nI ps), .int (nI (m2 + 2))]) (n := 5) (Nat.le_of_ble_eq_true rfl)
  rw [lg_entry_eq]
  generalize (lg_sl ([.ref dv, .int (nI ps), .int (nI (m2 + 2))]) ++ List.replicate (5 - (lg_sl ([.ref dv, .int (nI ps), .int (nI (m2 + 2))])).length) Slot.unset).toArray = ls at hl ⊢
  have hl : lv_has ls 5 [(0, .ref dv), (1, .int (nI ps)), (2, .int (nI (m2 + 2)))] := hl
  refine hm_gen (rm := rm_X0_nextLimb) rfl (fun Qf hQf => ?_)
  have h_dv_lr : hm_ap dv lr := hm_oa hdv hlr
  obtain ⟨V, hVe⟩ : ∃ V, V = nu_v 33554432 v (m2 + 2) := ⟨_, rfl⟩
  obtain ⟨R, hRe⟩ : ∃ R, R = nu_v 33554432 (nu_w r ps) (m2 + 2 + 1) := ⟨_, rfl⟩
  have hV0 : 0 < V := by
    have h1 := nu_v_low (B := 33554432) (d := v) (n := m2 + 2) (by omega) (by show v (m2 + 1) ≠ 0; omega)
    have h2 : 0 < 33554432 ^ (m2 + 2 - 1) := Nat.pow_pos (by decide)
    omega
  have hqB : R / V < 33554432 := (Nat.div_lt_iff_lt_mul hV0).mpr (by rw [hVe, hRe, Nat.mul_comm]; exact hRV)
  refine lv_aload_n hx hb dX0_nextLimb_0 rfl (lv_at hl 0 rfl) ?_
  refine lv_iload_n hx hb dX0_nextLimb_1 rfl (lv_at hl 1 rfl) ?_
  refine lv_iload_n hx hb dX0_nextLimb_2 rfl (lv_at hl 2 rfl) ?_
  refine hm_calll (va_runV (As := [.int (nI ps), .int (nI (m2 + 2))]) (rest := []) ⟨hx, hb, hml, hown, hts⟩ (c_X0_guessLimb l E hdv hlr hlv hrb hvb h_lv_lr hat hlead hRV s.heap.size) (cwV 2 hts (hm_gV kw_283 kw_285 kw_12 kw_40 kw_286) rfl rfl rfl (by decide +kernel) ⟨Nat.le_of_ble_eq_true rfl, Nat.le_of_ble_eq_true rfl⟩) (hm_preV hK hV hdv rfl) rfl rfl hl.1 rfl (lv_room (Nat.le_of_ble_eq_true rfl)) dX0_nextLimb_3 ⟨Nat.le_of_ble_eq_true rfl, Nat.le_of_ble_eq_true rfl⟩) hV hA (fun r3 M1 H locs hp hV => ?_)
  obtain ⟨⟨gs, hr3, hgs, hgq⟩, hM1⟩ := hp
  rw [hM1] at hV
  rw [← hVe, ← hRe] at hgq hQf
  refine hm_topl (show r3 = lZ (gs : Int) from hr3) ?_
  refine lv_lstore_n (lv' := [(3, .long (lZ (gs : Int))), (0, .ref dv), (1, .int (nI ps)), (2, .int (nI (m2 + 2)))]) hx hb dX0_nextLimb_6 rfl hl (by decide) rfl (fun ls hl => ?_)
  refine lv_aload_n hx hb dX0_nextLimb_7 rfl (lv_at hl 1 rfl) ?_
  refine lv_iload_n hx hb dX0_nextLimb_8 rfl (lv_at hl 2 rfl) ?_
  refine lv_iload_n hx hb dX0_nextLimb_9 rfl (lv_at hl 3 rfl) ?_
  refine lv_lload_n hx hb dX0_nextLimb_10 rfl (lv_at hl 0 rfl) ?_
  refine hm_calli (va_runV (As := [.int (nI ps), .int (nI (m2 + 2)), .long (lZ (gs : Int))]) (rest := []) ⟨hx, hb, hml, hown, hts⟩ (c_X0_takeAway l E (gs := gs) hdv hlr hlv hrb hvb h_lv_lr hat hgs H.size) (cwV 3 hts (hm_gV kw_288 kw_290 kw_13 kw_40 kw_291) rfl rfl rfl (by decide +kernel) ⟨Nat.le_of_ble_eq_true rfl, Nat.le_of_ble_eq_true rfl⟩) (hm_preV hK hV hdv rfl) rfl rfl hl.1 rfl (lv_room (Nat.le_of_ble_eq_true rfl)) dX0_nextLimb_11 ⟨Nat.le_of_ble_eq_true rfl, Nat.le_of_ble_eq_true rfl⟩) hV hA (fun r11 M1 H locs hp hV => ?_)
  obtain ⟨hr11, rfl⟩ := hp
  obtain ⟨X, hX⟩ : ∃ X : Nat → Int, X = (fun i => ((r (ps + i) : Nat) : Int) - (gs : Int) * ((v i : Nat) : Int)) := ⟨_, rfl⟩
  rw [← hX] at hV hr11
  have hkn := kn_right hX hVe hRe hV0 (fun j hj => hvb j (by omega))
  have hV : hm_V E.1 vwCl (hm_A M sz) s.heap (hm_up M lr (hm_I E 66 (fun j => nI (if ps ≤ j ∧ j < ps + (m2 + 2) then ch_e 33554432 X (j - ps) else r j)))) H locs := hV
  refine lv_if_eq (tgt := 20) hx hb dX0_nextLimb_14 (by decide) (fun c14 => ?_) (fun c14 => ?_)
  · have hcase : gs = R / V + 1 := by
      rcases hgq with h | h
      · have h9 := (hkn.1 h).1
        rw [hr11, if_neg (by omega)] at c14
        exact absurd c14 (by decide)
      · exact h
    have hk2 := hkn.2 hcase
    refine lv_aload_n hx hb dX0_nextLimb_20 rfl (lv_at hl 1 rfl) ?_
    refine lv_iload_n hx hb dX0_nextLimb_21 rfl (lv_at hl 2 rfl) ?_
    refine lv_iload_n hx hb dX0_nextLimb_22 rfl (lv_at hl 3 rfl) ?_
    refine hm_callv (va_runV (As := [.int (nI ps), .int (nI (m2 + 2))]) (rest := []) ⟨hx, hb, hml, hown, hts⟩ (c_X0_giveBack l E (r := fun j => if ps ≤ j ∧ j < ps + (m2 + 2) then ch_e 33554432 X (j - ps) else r j) (v := v) (ps := ps) (sn := m2 + 2) ((hm_up_ne _ _ h_dv_lr).trans hdv) (hm_up_self _ _ _) ((hm_up_ne _ _ h_lv_lr).trans hlv) (win_lt (fun j => ch_e25 X j) hrb) hvb h_lv_lr hat H.size) (cwV 2 hts (hm_gV kw_292 kw_294 kw_14 kw_40 kw_295) rfl rfl rfl (by decide +kernel) ⟨Nat.le_of_ble_eq_true rfl, Nat.le_of_ble_eq_true rfl⟩) (hm_preV hK hV ((hm_up_ne _ _ h_dv_lr).trans hdv) rfl) rfl rfl hl.1 rfl (lv_room (Nat.le_of_ble_eq_true rfl)) dX0_nextLimb_23 ⟨Nat.le_of_ble_eq_true rfl, Nat.le_of_ble_eq_true rfl⟩) hV hA (fun M1 H locs hp hV => ?_)
    subst hp
    obtain ⟨Y, hY⟩ : ∃ Y : Nat → Int, Y = (fun i => ((((if ps ≤ ps + i ∧ ps + i < ps + (m2 + 2) then ch_e 33554432 X (ps + i - ps) else r (ps + i)) + v i) : Nat) : Int)) := ⟨_, rfl⟩
    rw [← hY] at hV
    rw [hm_u0] at hV
    have hV : hm_V E.1 vwCl (hm_A M sz) s.heap (hm_up M lr (hm_I E 66 (fun j => nI (if ps ≤ j ∧ j < ps + (m2 + 2) then ch_e 33554432 Y (j - ps) else if ps ≤ j ∧ j < ps + (m2 + 2) then ch_e 33554432 X (j - ps) else r j)))) H locs := hV
    refine lv_lload_n hx hb dX0_nextLimb_26 rfl (lv_at hl 0 rfl) ?_
    refine lv_l2i hx hb dX0_nextLimb_27 rfl ?_
    refine hm_topi (show ((lZ (gs : Int)).toInt32) = nI gs from lZ_nI _) ?_
    refine lv_iconst (v := 1) hx hb dX0_nextLimb_28 (by decide) ?_
    refine lv_isub hx hb dX0_nextLimb_29 ?_
    refine hm_topi (show ((nI gs) - 1) = nI (R / V) from (by rw [hcase]; exact nI_pred _)) ?_
    have hback : nu_v 33554432 (ch_e 33554432 Y) (m2 + 2) = R % V := by
      have h1 : nu_v 33554432 (nu_w (fun j => if ps ≤ j ∧ j < ps + (m2 + 2) then ch_e 33554432 X (j - ps) else r j) ps) (m2 + 2) + V = R % V + 33554432 ^ (m2 + 2) := by rw [win_v]; exact hk2.2
      have h2 : V < 33554432 ^ (m2 + 2) := by rw [hVe]; exact nu_v_lt (fun j hj => hvb j (by omega))
      have h3 := Nat.mod_lt R hV0
      exact kn_back (by rw [hY]; rfl) hVe h1 (by omega)
    rw [hQf]
    exact W.iret hx hb hr (fun t ht hW => ⟨⟨_, _, rfl, ⟨rfl, _, rfl, win_lt (fun j => ch_e25 Y j) (win_lt (fun j => ch_e25 X j) hrb), fun j hj => by show (if ps ≤ j ∧ j < ps + (m2 + 2) then _ else if ps ≤ j ∧ j < ps + (m2 + 2) then _ else r j) = r j; rw [if_neg (by omega), if_neg (by omega)], by rw [win_v, hback]⟩, (hm_end hV ht).1⟩, (hm_end hV ht).2⟩) hV.2.2.2.2 dX0_nextLimb_30
  · have hcase : gs = R / V := by
      rcases hgq with h | h
      · exact h
      · have h9 := (hkn.2 h).1
        rw [hr11, if_pos (by omega)] at c14
        exact absurd rfl c14
    have hk2 := hkn.1 hcase
    refine lv_lload_n hx hb dX0_nextLimb_17 rfl (lv_at hl 0 rfl) ?_
    refine lv_l2i hx hb dX0_nextLimb_18 rfl ?_
    refine hm_topi (show ((lZ (gs : Int)).toInt32) = nI (R / V) from (by rw [lZ_nI, hcase])) ?_
    rw [hQf]
    exact W.iret hx hb hr (fun t ht hW => ⟨⟨_, _, rfl, ⟨rfl, _, rfl, win_lt (fun j => ch_e25 X j) hrb, fun j hj => by show (if ps ≤ j ∧ j < ps + (m2 + 2) then _ else r j) = r j; rw [if_neg (by omega)], by rw [win_v, hk2.2]⟩, (hm_end hV ht).1⟩, (hm_end hV ht).2⟩) hV.2.2.2.2 dX0_nextLimb_19
