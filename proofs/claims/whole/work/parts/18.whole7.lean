abbrev wd_X2_restBelowZero : List Cond := .code yX2_restBelowZero cX2_restBelowZero 9 (some .long) :: hm_ws
abbrev rm_X2_restBelowZero : Room := { frames := 0, cells := 0, slots := 0, locals := 0 }

set_option maxHeartbeats 4000000 in
set_option maxRecDepth 100000 in
/-- restBelowZero(bound) -/
theorem c_X2_restBelowZero (l : Launch) (E : hm_E) {M : hm_M} {w la n k mo : Nat} {g : Int32} {d : Nat → Nat} {z : Int} (hw : M w = some (hm_W la (nI k) g)) (ha : M la = some (hm_I E n (fun j => nI (d j)))) (ho : wn_ok n d k g z) (hn : n < 1000) (hm0 : 0 < mo) (hm : mo ≤ 9223372036854775808) : hm_Cl l E yX2_restBelowZero wd_X2_restBelowZero rm_X2_restBelowZero [.ref w, .long (lZ (-(mo : Int)))] M (fun r M1 => r = lZ (-((z.natAbs % mo : Nat) : Int)) ∧ M1 = M) := by
  intro sz
  refine Met.ofW (cc := cX2_restBelowZero) (maxL := 9) (ret := (some .long)) (by decide) rfl ?_
  intro p e s m args below meth c s₁ B hml hv
  obtain ⟨rfl, hAe, hA, hK, hV⟩ := hm_start hv
  have hx := B.exec
  have hb := B.bytes
  have hr := B.returns
  have hts := atoms_spec (ws := wd_X2_restBelowZero) B.pre
  have hws : ∀ w ∈ hm_ws, w.before _ s = true := fun w h => hts w (List.mem_cons_of_mem _ h)
  have hown : s.vm.findClass RX2 = some m.cls := findClass_of_methodNamed B.named
  have hlocks := B.notSynchronized
  have fl9 := hws _ kw_73
  have fl25 := hws _ kw_71
  have hl := lv_entry ([.ref w, .long (lZ (-(mo : Int)))]) (n := 9) (Nat.le_of_ble_eq_true rfl)
  rw [lg_entry_eq]
  generalize (lg_sl ([.ref w, .long (lZ (-(mo : Int)))]) ++ List.replicate (9 - (lg_sl ([.ref w, .long (lZ (-(mo : Int)))])).length) Slot.unset).toArray = ls at hl ⊢
  have hl : lv_has ls 9 [(0, .ref w), (1, .long (lZ (-(mo : Int))))] := hl
  refine hm_gen (rm := rm_X2_restBelowZero) rfl (fun Qf hQf => ?_)
  have h_w_la : hm_ap w la := hm_oa hw ha
  have hzk := wn_lt ho
  obtain ⟨ho1, ho2, ho3, ho4, ho5⟩ := ho
  have hVd : ∀ j, j < k → z.natAbs / 33554432 ^ j % 33554432 = d j := fun j hj => by rw [← ho4]; exact nu_at (fun t ht => ho2 t (by omega)) hj
  refine lv_lconst (v := 0) hx hb dX2_restBelowZero_0 (by decide) ?_
  refine lv_lstore_n (lv' := [(3, .long 0), (0, .ref w), (1, .long (lZ (-(mo : Int))))]) hx hb dX2_restBelowZero_1 rfl hl (by decide) rfl (fun ls hl => ?_)
  refine lv_aload_n hx hb dX2_restBelowZero_2 rfl (lv_at hl 1 rfl) ?_
  refine hm_get (ci := 4) (v := .int (nI k)) (C := RX2) (T := TX2) (N := 3) hx hb hws kin_X2 hown hK.1 hV hw rfl 1 (by decide) fl9 (fun _ h9 => h9) rfl dX2_restBelowZero_3 ?_
  refine lv_iconst (v := 1) hx hb dX2_restBelowZero_6 (by decide) ?_
  refine lv_isub hx hb dX2_restBelowZero_7 ?_
  refine hm_topi (show ((nI k) - 1) = nP k from nP_sub k) ?_
  refine lv_istore (lv' := [(5, .int (nP k)), (3, .long 0), (0, .ref w), (1, .long (lZ (-(mo : Int))))]) hx hb dX2_restBelowZero_8 hl (by decide) rfl (fun ls hl => ?_)
  have outer : ∀ (fu : Nat) (i : Nat), (i ≤ k) → i < fu → ∀ (ls : Array Slot) (H : Heap) (locs : List Loc), lv_has ls 9 [(0, .ref w), (1, .long (lZ (-(mo : Int)))), (3, .long (lZ (-((z.natAbs / 33554432 ^ i % mo : Nat) : Int)))), (5, .int (nP i))] → hm_V E.1 vwCl (hm_A M sz) s.heap (M) H locs → W p l e rm_X2_restBelowZero s m [.ref w, .long (lZ (-(mo : Int)))].toArray below meth c H locs 0 0 Qf (F0 m 10 ls []) := by
    intro fu
    induction fu with
    | zero => intro i hi hfu; exact absurd hfu (Nat.not_lt_zero _)
    | succ fu ih_outer =>
      intro i hi hfu ls H locs hl hV
      refine lv_iload hx hb dX2_restBelowZero_10 (lv_at hl 3 rfl) ?_
      refine lv_if_lt (tgt := 83) hx hb dX2_restBelowZero_12 (by decide) (fun c12 => ?_) (fun c12 => ?_)
      · have hi0 : i = 0 := by
          cases i with
          | zero => rfl
          | succ j => exact absurd c12 (nI_pos (by omega))
        subst hi0
        refine lv_lload_n hx hb dX2_restBelowZero_83 rfl (lv_at hl 2 rfl) ?_
        rw [hQf]
        exact W.lret hx hb hr (fun t ht hW => ⟨⟨_, _, rfl, ⟨by rw [Nat.pow_zero, Nat.div_one], rfl⟩, (hm_end hV ht).1⟩, (hm_end hV ht).2⟩) hV.2.2.2.2 dX2_restBelowZero_84
      · obtain ⟨j, rfl⟩ : ∃ j, i = j + 1 := by
          cases i with
          | zero => exact absurd (show nP 0 < 0 from by decide) c12
          | succ j => exact ⟨j, rfl⟩
        have hl : lv_has ls 9 [(0, .ref w), (1, .long (lZ (-(mo : Int)))), (3, .long (lZ (-((z.natAbs / 33554432 ^ (j + 1) % mo : Nat) : Int)))), (5, .int (nI j))] := hl
        refine lv_bipush (v := 24) hx hb dX2_restBelowZero_15 (by decide) ?_
        refine lv_istore (lv' := [(6, .int 24), (0, .ref w), (1, .long (lZ (-(mo : Int)))), (3, .long (lZ (-((z.natAbs / 33554432 ^ (j + 1) % mo : Nat) : Int)))), (5, .int (nI j))]) hx hb dX2_restBelowZero_17 hl (by decide) rfl (fun ls hl => ?_)
        have inner : ∀ (fu : Nat) (b : Nat), (b ≤ 25) → b < fu → ∀ (ls : Array Slot) (H : Heap) (locs : List Loc), lv_has ls 9 [(0, .ref w), (1, .long (lZ (-(mo : Int)))), (3, .long (lZ (-((z.natAbs / (33554432 ^ j * 2 ^ b) % mo : Nat) : Int)))), (5, .int (nI j)), (6, .int (nP b))] → hm_V E.1 vwCl (hm_A M sz) s.heap (M) H locs → W p l e rm_X2_restBelowZero s m [.ref w, .long (lZ (-(mo : Int)))].toArray below meth c H locs 0 0 Qf (F0 m 19 ls []) := by
          intro fu
          induction fu with
          | zero => intro b hb25 hfu; exact absurd hfu (Nat.not_lt_zero _)
          | succ fu ih_inner =>
            intro b hb25 hfu ls H locs hl hV
            refine lv_iload hx hb dX2_restBelowZero_19 (lv_at hl 4 rfl) ?_
            refine lv_if_lt (tgt := 77) hx hb dX2_restBelowZero_21 (by decide) (fun c21 => ?_) (fun c21 => ?_)
            · have hi0 : b = 0 := by
                cases b with
                | zero => rfl
                | succ t => exact absurd c21 (nI_pos (by omega))
              subst hi0
              refine lv_iinc (v := (nP j)) (lv' := [(5, .int (nP j)), (0, .ref w), (1, .long (lZ (-(mo : Int)))), (3, .long (lZ (-((z.natAbs / (33554432 ^ j * 2 ^ 0) % mo : Nat) : Int)))), (6, .int (nP 0))]) hx hb dX2_restBelowZero_77 hl (k := 3) rfl (nP_dec j) (by decide) rfl (fun ls hl => ?_)
              refine lv_goto (tgt := 10) hx hb dX2_restBelowZero_80 (by decide) ?_
              rw [show (lZ (-((z.natAbs / (33554432 ^ j * 2 ^ 0) % mo : Nat) : Int))) = lZ (-((z.natAbs / 33554432 ^ j % mo : Nat) : Int)) from (by rw [Nat.pow_zero, Nat.mul_one])] at hl
              have hl : lv_has ls 9 [(5, .int (nP j)), (0, .ref w), (1, .long (lZ (-(mo : Int)))), (3, .long (lZ (-((z.natAbs / 33554432 ^ j % mo : Nat) : Int)))), (6, .int (nP 0))] := hl
              exact ih_outer j (by omega) (by omega) ls H locs (lv_sub hl [1, 2, 3, 0] rfl) hV
            · obtain ⟨b, rfl⟩ : ∃ t, b = t + 1 := by
                cases b with
                | zero => exact absurd (show nP 0 < 0 from by decide) c21
                | succ t => exact ⟨t, rfl⟩
              have hl : lv_has ls 9 [(0, .ref w), (1, .long (lZ (-(mo : Int)))), (3, .long (lZ (-((z.natAbs / (33554432 ^ j * 2 ^ (b + 1)) % mo : Nat) : Int)))), (5, .int (nI j)), (6, .int (nI b))] := hl
              have hR := Nat.mod_lt (z.natAbs / (33554432 ^ j * 2 ^ (b + 1))) hm0
              have hbit := rz_bit (z.natAbs / 33554432 ^ j) b (by omega)
              rw [hVd j (by omega)] at hbit
              have hdj := ho2 j (by omega)
              have hb1 : d j / 2 ^ b % 2 ≤ 1 := by have := Nat.mod_lt (d j / 2 ^ b) (show 0 < 2 by decide); omega
              have hstep := rz_step (mo := mo) hR hb1
              rw [rz_mod, hbit, ← rz_half, ← hbit] at hstep
              obtain ⟨R, hRe⟩ : ∃ R, R = z.natAbs / (33554432 ^ j * 2 ^ (b + 1)) % mo := ⟨_, rfl⟩
              rw [← hRe] at hl hstep hR
              have hl : lv_has ls 9 [(0, .ref w), (1, .long (lZ (-(mo : Int)))), (3, .long (lZ (-((R : Nat) : Int)))), (5, .int (nI j)), (6, .int (nI b))] := hl
              have rest : ∀ (R1 : Nat), (R1 = (if mo ≤ 2 * R then 2 * R - mo else 2 * R)) → ∀ (ls : Array Slot) (H : Heap) (locs : List Loc), lv_has ls 9 [(0, .ref w), (1, .long (lZ (-(mo : Int)))), (3, .long (lZ (-((R : Nat) : Int)))), (5, .int (nI j)), (6, .int (nI b))] → hm_V E.1 vwCl (hm_A M sz) s.heap (M) H locs → W p l e rm_X2_restBelowZero s m [.ref w, .long (lZ (-(mo : Int)))].toArray below meth c H locs 0 0 Qf (F0 m 46 ls [.long (lZ (-(R1 : Int)))]) := by
                intro R1 hR1 ls H locs hl hV
                have hR2 : R1 < mo := by rw [hR1]; split <;> omega
                refine lv_lstore_n (lv' := [(3, .long (lZ (-(R1 : Int)))), (0, .ref w), (1, .long (lZ (-(mo : Int)))), (5, .int (nI j)), (6, .int (nI b))]) hx hb dX2_restBelowZero_46 rfl hl (by decide) rfl (fun ls hl => ?_)
                refine lv_lload_n hx hb dX2_restBelowZero_47 rfl (lv_at hl 0 rfl) ?_
                refine lv_aload_n hx hb dX2_restBelowZero_48 rfl (lv_at hl 1 rfl) ?_
                refine hm_get (ci := 4) (v := .ref la) (C := RX2) (T := TX2) (N := 3) hx hb hws kin_X2 hown hK.1 hV hw rfl 0 (by decide) fl25 (fun _ h9 => h9) rfl dX2_restBelowZero_49 ?_
                refine lv_iload hx hb dX2_restBelowZero_52 (lv_at hl 3 rfl) ?_
                refine hm_ialdN hx hb hK.1 hV 0 ha rfl (k := j) (by omega) (by omega) dX2_restBelowZero_54 ?_
                refine lv_iload hx hb dX2_restBelowZero_55 (lv_at hl 4 rfl) ?_
                refine lv_ishr hx hb dX2_restBelowZero_57 ?_
                refine hm_topi (show ((nI (d j)) >>> ((nI b) &&& 31)) = nI (d j / 2 ^ b) from nI_bit (by omega) (by omega)) ?_
                refine lv_iconst (v := 1) hx hb dX2_restBelowZero_58 (by decide) ?_
                refine lv_iand hx hb dX2_restBelowZero_59 ?_
                refine hm_topi (show ((nI (d j / 2 ^ b)) &&& 1) = nI (d j / 2 ^ b % 2) from nI_odd (Nat.lt_of_le_of_lt (Nat.div_le_self _ _) (by omega))) ?_
                refine lv_i2l hx hb dX2_restBelowZero_60 rfl ?_
                refine hm_topl (show ((nI (d j / 2 ^ b % 2)).toInt64) = lZ ((d j / 2 ^ b % 2 : Nat) : Int) from nI_lZ (by omega)) ?_
                refine lv_lsub hx hb dX2_restBelowZero_61 ?_
                refine hm_topl (show ((lZ (-(R1 : Int))) - (lZ ((d j / 2 ^ b % 2 : Nat) : Int))) = lZ (-((R1 + d j / 2 ^ b % 2 : Nat) : Int)) from (by rw [lZ_sub]; congr 1; omega)) ?_
                refine lv_lstore_n (lv' := [(3, .long (lZ (-((R1 + d j / 2 ^ b % 2 : Nat) : Int)))), (0, .ref w), (1, .long (lZ (-(mo : Int)))), (5, .int (nI j)), (6, .int (nI b))]) hx hb dX2_restBelowZero_62 rfl hl (by decide) rfl (fun ls hl => ?_)
                refine lv_lload_n hx hb dX2_restBelowZero_63 rfl (lv_at hl 0 rfl) ?_
                refine lv_lload_n hx hb dX2_restBelowZero_64 rfl (lv_at hl 2 rfl) ?_
                refine W.lcmp hx hb dX2_restBelowZero_65 ?_
                refine lv_if_ne (tgt := 71) hx hb dX2_restBelowZero_66 (by decide) (fun c66 => ?_) (fun c66 => ?_)
                · have hne : R1 + d j / 2 ^ b % 2 ≠ mo := fun e => c66 ((lg_cmp_eq _ _).mpr (by rw [e]))
                  rw [← hR1, if_neg hne] at hstep
                  refine lv_iinc (v := (nP b)) (lv' := [(6, .int (nP b)), (3, .long (lZ (-((R1 + d j / 2 ^ b % 2 : Nat) : Int)))), (0, .ref w), (1, .long (lZ (-(mo : Int)))), (5, .int (nI j))]) hx hb dX2_restBelowZero_71 hl (k := 4) rfl (nP_dec b) (by decide) rfl (fun ls hl => ?_)
                  refine lv_goto (tgt := 19) hx hb dX2_restBelowZero_74 (by decide) ?_
                  rw [show (lZ (-((R1 + d j / 2 ^ b % 2 : Nat) : Int))) = lZ (-((z.natAbs / (33554432 ^ j * 2 ^ b) % mo : Nat) : Int)) from (by rw [hstep])] at hl
                  have hl : lv_has ls 9 [(6, .int (nP b)), (3, .long (lZ (-((z.natAbs / (33554432 ^ j * 2 ^ b) % mo : Nat) : Int)))), (0, .ref w), (1, .long (lZ (-(mo : Int)))), (5, .int (nI j))] := hl
                  exact ih_inner b (by omega) (by omega) ls H locs (lv_sub hl [2, 3, 1, 4, 0] rfl) hV
                · have heq : R1 + d j / 2 ^ b % 2 = mo := by
                    have h9 := (lZ_eq (by omega) (by omega) (by omega) (by omega)).mp ((lg_cmp_eq _ _).mp c66)
                    omega
                  rw [← hR1, if_pos heq] at hstep
                  refine lv_lconst (v := 0) hx hb dX2_restBelowZero_69 (by decide) ?_
                  refine lv_lstore_n (lv' := [(3, .long 0), (0, .ref w), (1, .long (lZ (-(mo : Int)))), (5, .int (nI j)), (6, .int (nI b))]) hx hb dX2_restBelowZero_70 rfl hl (by decide) rfl (fun ls hl => ?_)
                  refine lv_iinc (v := (nP b)) (lv' := [(6, .int (nP b)), (3, .long 0), (0, .ref w), (1, .long (lZ (-(mo : Int)))), (5, .int (nI j))]) hx hb dX2_restBelowZero_71 hl (k := 4) rfl (nP_dec b) (by decide) rfl (fun ls hl => ?_)
                  refine lv_goto (tgt := 19) hx hb dX2_restBelowZero_74 (by decide) ?_
                  rw [show 0 = lZ (-((z.natAbs / (33554432 ^ j * 2 ^ b) % mo : Nat) : Int)) from (show (0 : Int64) = _ from by rw [← hstep]; rfl)] at hl
                  have hl : lv_has ls 9 [(6, .int (nP b)), (3, .long (lZ (-((z.natAbs / (33554432 ^ j * 2 ^ b) % mo : Nat) : Int)))), (0, .ref w), (1, .long (lZ (-(mo : Int)))), (5, .int (nI j))] := hl
                  exact ih_inner b (by omega) (by omega) ls H locs (lv_sub hl [2, 3, 1, 4, 0] rfl) hV
              refine lv_lload_n hx hb dX2_restBelowZero_24 rfl (lv_at hl 1 rfl) ?_
              refine lv_lload_n hx hb dX2_restBelowZero_25 rfl (lv_at hl 2 rfl) ?_
              refine lv_lsub hx hb dX2_restBelowZero_26 ?_
              refine hm_topl (show ((lZ (-(mo : Int))) - (lZ (-((R : Nat) : Int)))) = lZ (-((mo : Int) - R)) from (by rw [lZ_sub]; congr 1; omega)) ?_
              refine lv_lstore (lv' := [(7, .long (lZ (-((mo : Int) - R)))), (0, .ref w), (1, .long (lZ (-(mo : Int)))), (3, .long (lZ (-((R : Nat) : Int)))), (5, .int (nI j)), (6, .int (nI b))]) hx hb dX2_restBelowZero_27 hl (by decide) rfl (fun ls hl => ?_)
              refine lv_lload_n hx hb dX2_restBelowZero_29 rfl (lv_at hl 3 rfl) ?_
              refine lv_lload hx hb dX2_restBelowZero_30 (lv_at hl 0 rfl) ?_
              refine W.lcmp hx hb dX2_restBelowZero_32 ?_
              refine lv_if_gt (tgt := 43) hx hb dX2_restBelowZero_33 (by decide) (fun c33 => ?_) (fun c33 => ?_)
              · have hlt : ¬ mo ≤ 2 * R := by
                  have h9 := (lZ_lt (by omega) (by omega) (by omega) (by omega)).mp ((lg_cmp_gt _ _).mp c33)
                  omega
                refine lv_lload_n hx hb dX2_restBelowZero_43 rfl (lv_at hl 3 rfl) ?_
                refine lv_lload_n hx hb dX2_restBelowZero_44 rfl (lv_at hl 3 rfl) ?_
                refine lv_ladd hx hb dX2_restBelowZero_45 ?_
                refine hm_topl (show ((lZ (-((R : Nat) : Int))) + (lZ (-((R : Nat) : Int)))) = lZ (-((2 * R : Nat) : Int)) from (by rw [lZ_add]; congr 1; omega)) ?_
                exact rest (2 * R) (by rw [if_neg hlt]) ls H locs (lv_sub hl [1, 2, 3, 4, 5] rfl) hV
              · have hge : mo ≤ 2 * R := by
                  have h8 : ¬ lZ (-((mo : Int) - R)) < lZ (-((R : Nat) : Int)) := fun e => c33 ((lg_cmp_gt _ _).mpr e)
                  rw [lZ_lt (by omega) (by omega) (by omega) (by omega)] at h8
                  omega
                refine lv_lload_n hx hb dX2_restBelowZero_36 rfl (lv_at hl 3 rfl) ?_
                refine lv_lload hx hb dX2_restBelowZero_37 (lv_at hl 0 rfl) ?_
                refine lv_lsub hx hb dX2_restBelowZero_39 ?_
                refine hm_topl (show ((lZ (-((R : Nat) : Int))) - (lZ (-((mo : Int) - R)))) = lZ (-((2 * R - mo : Nat) : Int)) from (by rw [lZ_sub]; congr 1; omega)) ?_
                refine lv_goto (tgt := 46) hx hb dX2_restBelowZero_40 (by decide) ?_
                exact rest (2 * R - mo) (by rw [if_pos hge]) ls H locs (lv_sub hl [1, 2, 3, 4, 5] rfl) hV
        rw [show (lZ (-((z.natAbs / 33554432 ^ (j + 1) % mo : Nat) : Int))) = lZ (-((z.natAbs / (33554432 ^ j * 2 ^ 25) % mo : Nat) : Int)) from (by rw [show (33554432 ^ j * 2 ^ 25 : Nat) = 33554432 ^ (j + 1) from (Nat.pow_succ ..).symm])] at hl
        have hl : lv_has ls 9 [(6, .int 24), (0, .ref w), (1, .long (lZ (-(mo : Int)))), (3, .long (lZ (-((z.natAbs / (33554432 ^ j * 2 ^ 25) % mo : Nat) : Int)))), (5, .int (nI j))] := hl
        have hl : lv_has ls 9 [(6, .int (nP 25)), (0, .ref w), (1, .long (lZ (-(mo : Int)))), (3, .long (lZ (-((z.natAbs / (33554432 ^ j * 2 ^ 25) % mo : Nat) : Int)))), (5, .int (nI j))] := hl
        exact inner 26 25 (Nat.le_refl _) (by omega) ls H locs (lv_sub hl [1, 2, 3, 4, 0] rfl) hV
  rw [show 0 = lZ (-((z.natAbs / 33554432 ^ k % mo : Nat) : Int)) from (show (0 : Int64) = _ from by rw [Nat.div_eq_of_lt hzk, Nat.zero_mod]; rfl)] at hl
  have hl : lv_has ls 9 [(5, .int (nP k)), (3, .long (lZ (-((z.natAbs / 33554432 ^ k % mo : Nat) : Int)))), (0, .ref w), (1, .long (lZ (-(mo : Int))))] := hl
  exact outer (k + 1) k (Nat.le_refl k) (by omega) ls s.heap [] (lv_sub hl [2, 3, 1, 0] rfl) hV
