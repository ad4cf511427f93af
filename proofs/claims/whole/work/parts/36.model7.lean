abbrev wd_X4_minorOf : List Cond := .code yX4_minorOf cX4_minorOf 9 none :: hm_ws
abbrev rm_X4_minorOf : Room := { frames := 1, cells := 0, slots := 0, locals := 34 }

set_option maxHeartbeats 4000000 in
set_option maxRecDepth 100000 in
/-- minorOf(set) -/
theorem c_X4_minorOf (l : Launch) (E : hm_E) {M : hm_M} {A : Nat → Nat} {th : Int32} {cnt k ko : Nat} {nums : Nat → Int} {t : Nat → Nat → Int64} {X O : Nat → Int32} {st : Nat} {mi : Nat → Nat} {mb : Nat → Int32} (hk : md E M A th cnt k ko nums t X O) (h8 : M (A 8) = some (hm_I E 212992 (fun j => nI (mi j)))) (h9 : M (A 9) = some (hm_Z E 4096 mb)) (hmi : ∀ j, mi j < 65536) (hs0 : 0 < st) (hs : st < 4096) (hrow : mr_ok (fun r c => (t r c).toInt) mi mb st) : hm_Cv l E yX4_minorOf wd_X4_minorOf rm_X4_minorOf [.ref (A 0), .int (nI st)] M (fun M1 => ∃ (mi1 : Nat → Nat) (mb1 : Nat → Int32), md E M1 A th cnt k ko nums t X O ∧ M1 (A 8) = some (hm_I E 212992 (fun j => nI (mi1 j))) ∧ M1 (A 9) = some (hm_Z E 4096 mb1) ∧ (∀ j, mi1 j < 65536) ∧ mr_ok (fun r c => (t r c).toInt) mi1 mb1 (st + 1)) := by
  intro sz
  refine Met.ofW (cc := cX4_minorOf) (maxL := 9) (ret := none) (by decide) rfl ?_
  intro p e s m args below meth c s₁ B hml hv
  obtain ⟨rfl, hAe, hA, hK, hV⟩ := hm_start hv
  have hx := B.exec
  have hb := B.bytes
  have hr := B.returns
  have hts := atoms_spec (ws := wd_X4_minorOf) B.pre
  have hws : ∀ w ∈ hm_ws, w.before _ s = true := fun w h => hts w (List.mem_cons_of_mem _ h)
  have hown : s.vm.findClass RX4 = some m.cls := findClass_of_methodNamed B.named
  have hlocks := B.notSynchronized
  have fl43 := hws _ kw_493
  have fl46 := hws _ kw_494
  have fl20 := hws _ kw_484
  have fl40 := hws _ kw_492
  have fl37 := hws _ kw_491
  have fl34 := hws _ kw_490
  have ld80 := hws _ kw_581
  have hl := lv_entry ([.ref (A 0), .int (nI st)]) (n := 9) (Nat.le_of_ble_eq_true rfl)
  rw [lg_entry_eq]
  generalize (lg_sl ([.ref (A 0), .int (nI st)]) ++ List.replicate (9 - (lg_sl ([.ref (A 0), .int (nI st)])).length) Slot.unset).toArray = ls at hl ⊢
  have hl : lv_has ls 9 [(0, .ref (A 0)), (1, .int (nI st))] := hl
  refine hm_gen (rm := rm_X4_minorOf) rfl (fun Qf hQf => ?_)
  obtain ⟨T, hT⟩ : ∃ T : Nat → Nat → Int, T = (fun r c => (t r c).toInt) := ⟨_, rfl⟩
  rw [← hT] at hrow hQf
  have hTb : ∀ r c, (T r c).natAbs ≤ 9223372036854775808 := fun r c => by rw [hT]; exact t_abs t r c
  obtain ⟨f10, f11, f12, h10, h11, h12⟩ := md_s hk
  have g52 := g49_52
  have g60 := g49_60
  have hp12 := pcn_le st 12
  obtain ⟨Kc, hKc⟩ : ∃ Kc, pcn st 12 = Kc + 1 := ⟨pcn st 12 - 1, by have := pcn_pos (N := 12) hs0 hs; omega⟩
  refine lv_iload_n hx hb dX4_minorOf_0 rfl (lv_at hl 1 rfl) ?_
  refine hm_calli (va_runS (As := [.int (nI st)]) (rest := []) ⟨hx, hb, hml, hown, hts⟩ (c_X4_bits l E hs s.heap.size) (va_cwS 1 hts (hm_gS kw_660 kw_661 kw_41 kw_662) rfl rfl rfl (by decide +kernel) ⟨Nat.le_of_ble_eq_true rfl, Nat.le_of_ble_eq_true rfl⟩) (hm_preS hK hV) rfl rfl hl.1 rfl (lv_room (Nat.le_of_ble_eq_true rfl)) dX4_minorOf_1 ⟨Nat.le_of_ble_eq_true rfl, Nat.le_of_ble_eq_true rfl⟩) hV hA (fun r1 M1 H locs hp hV => ?_)
  obtain ⟨hr1, hM1⟩ := hp
  rw [hM1] at hV
  rw [hKc] at hr1
  subst hr1
  refine lv_iconst (v := 1) hx hb dX4_minorOf_4 (by decide) ?_
  refine lv_isub hx hb dX4_minorOf_5 ?_
  refine hm_topi (show ((nI (Kc + 1)) - 1) = nI Kc from nI_pred Kc) ?_
  refine lv_istore_n (lv' := [(2, .int (nI Kc)), (0, .ref (A 0)), (1, .int (nI st))]) hx hb dX4_minorOf_6 rfl hl (by decide) rfl (fun ls hl => ?_)
  refine lv_iconst (v := 0) hx hb dX4_minorOf_7 (by decide) ?_
  refine lv_istore_n (lv' := [(3, .int 0), (2, .int (nI Kc)), (0, .ref (A 0)), (1, .int (nI st))]) hx hb dX4_minorOf_8 rfl hl (by decide) rfl (fun ls hl => ?_)
  have hV : hm_V E.1 vwCl (hm_A M sz) s.heap (hm_up M (A 11) (hm_I E 60 (fun j => if j < 0 then nI 0 else f11 j))) H locs := by rw [hm_up_id ((h11).trans (congrArg (fun f9 => some (hm_I E 60 f9)) (clr_0 f11)))]; exact hV
  have hV : hm_V E.1 vwCl (hm_A M sz) s.heap (hm_up (hm_up M (A 11) (hm_I E 60 (fun j => if j < 0 then nI 0 else f11 j))) (A 12) (hm_I E 60 (fun j => if j < 0 then nI 0 else f12 j))) H locs := by rw [hm_up_id ((((hm_up_ne _ _ (md_ap hk (i := 12) (j := 11) (by decide) (by decide) (by decide))).trans h12)).trans (congrArg (fun f9 => some (hm_I E 60 f9)) (clr_0 f12)))]; exact hV
  have hV : hm_V E.1 vwCl (hm_A M sz) s.heap (hm_up (hm_up (hm_up M (A 11) (hm_I E 60 (fun j => if j < 0 then nI 0 else f11 j))) (A 12) (hm_I E 60 (fun j => if j < 0 then nI 0 else f12 j))) (A 10) (hm_I E 60 f10)) H locs := by rw [hm_up_id (((hm_up_ne _ _ (md_ap hk (i := 10) (j := 12) (by decide) (by decide) (by decide))).trans ((hm_up_ne _ _ (md_ap hk (i := 10) (j := 11) (by decide) (by decide) (by decide))).trans h10)))]; exact hV
  have clr : ∀ (fu : Nat) (i : Nat), (i ≤ 60) → 60 - i < fu → ∀ (ls : Array Slot) (H : Heap) (locs : List Loc), lv_has ls 9 [(0, .ref (A 0)), (1, .int (nI st)), (2, .int (nI Kc)), (3, .int (nI i))] → hm_V E.1 vwCl (hm_A M sz) s.heap (hm_up (hm_up (hm_up M (A 11) (hm_I E 60 (fun j => if j < i then nI 0 else f11 j))) (A 12) (hm_I E 60 (fun j => if j < i then nI 0 else f12 j))) (A 10) (hm_I E 60 f10)) H locs → W p l e rm_X4_minorOf s m [.ref (A 0), .int (nI st)].toArray below meth c H locs 0 0 Qf (F0 m 9 ls []) := by
    intro fu
    induction fu with
    | zero => intro i hi hfu; exact absurd hfu (Nat.not_lt_zero _)
    | succ fu ih_clr =>
      intro i hi hfu ls H locs hl hV
      refine lv_iload_n hx hb dX4_minorOf_9 rfl (lv_at hl 3 rfl) ?_
      refine lv_bipush (v := 60) hx hb dX4_minorOf_10 (by decide) ?_
      refine lv_icmp_ge (tgt := 35) hx hb dX4_minorOf_12 (by decide) (fun c12 => ?_) (fun c12 => ?_)
      · have hi2 : i = 60 := by
          rcases Nat.lt_or_ge i 60 with q | q
          · exact absurd c12 (nI_ge (a := i) (b := 60) q (by omega))
          · omega
        have hV := hm_rpI (fun j => nI (dg 0 j)) hV ((hm_up_ne _ _ (md_ap hk (i := 11) (j := 10) (by decide) (by decide) (by decide))).trans ((hm_up_ne _ _ (md_ap hk (i := 11) (j := 12) (by decide) (by decide) (by decide))).trans (hm_up_self _ _ _))) (fun j hj => by rw [if_pos (by omega), dg_0])
        rw [hm_u2 (md_ap hk (i := 12) (j := 11) (by decide) (by decide) (by decide)) (md_ap hk (i := 10) (j := 11) (by decide) (by decide) (by decide))] at hV
        have hV : hm_V E.1 vwCl (hm_A M sz) s.heap (hm_up (hm_up (hm_up M (A 11) (hm_I E 60 (fun j => nI (dg 0 j)))) (A 12) (hm_I E 60 (fun j => if j < i then nI 0 else f12 j))) (A 10) (hm_I E 60 f10)) H locs := hV
        have hV := hm_rpI (fun j => nI (dg 0 j)) hV ((hm_up_ne _ _ (md_ap hk (i := 12) (j := 10) (by decide) (by decide) (by decide))).trans (hm_up_self _ _ _)) (fun j hj => by rw [if_pos (by omega), dg_0])
        rw [hm_u1 (md_ap hk (i := 10) (j := 12) (by decide) (by decide) (by decide))] at hV
        have hV : hm_V E.1 vwCl (hm_A M sz) s.heap (hm_up (hm_up (hm_up M (A 11) (hm_I E 60 (fun j => nI (dg 0 j)))) (A 12) (hm_I E 60 (fun j => nI (dg 0 j)))) (A 10) (hm_I E 60 f10)) H locs := hV
        refine lv_iconst (v := 0) hx hb dX4_minorOf_35 (by decide) ?_
        refine lv_istore_n (lv' := [(3, .int 0), (0, .ref (A 0)), (1, .int (nI st)), (2, .int (nI Kc))]) hx hb dX4_minorOf_36 rfl hl (by decide) rfl (fun ls hl => ?_)
        refine lv_iconst (v := 0) hx hb dX4_minorOf_37 (by decide) ?_
        refine lv_istore (lv' := [(4, .int 0), (3, .int 0), (0, .ref (A 0)), (1, .int (nI st)), (2, .int (nI Kc))]) hx hb dX4_minorOf_38 hl (by decide) rfl (fun ls hl => ?_)
        have main : ∀ (fu : Nat) (j : Nat) (p9 : Nat) (q9 : Nat) (f : Nat → Int32), (j ≤ 12) → (hid ((p9 : Int) - (q9 : Int) = dt_s (pcn st j) (mnt T st Kc))) → (p9 ≤ j * g49) → (q9 ≤ j * g49) → 12 - j < fu → ∀ (ls : Array Slot) (H : Heap) (locs : List Loc), lv_has ls 9 [(0, .ref (A 0)), (1, .int (nI st)), (2, .int (nI Kc)), (3, .int (nI (pcn st j))), (4, .int (nI j))] → hm_V E.1 vwCl (hm_A M sz) s.heap (hm_up (hm_up (hm_up M (A 11) (hm_I E 60 (fun j => nI (dg p9 j)))) (A 12) (hm_I E 60 (fun j => nI (dg q9 j)))) (A 10) (hm_I E 60 f)) H locs → W p l e rm_X4_minorOf s m [.ref (A 0), .int (nI st)].toArray below meth c H locs 0 0 Qf (F0 m 40 ls []) := by
          intro fu
          induction fu with
          | zero => intro j p9 q9 f hj hpq hpb hqb hfu; exact absurd hfu (Nat.not_lt_zero _)
          | succ fu ih_main =>
            intro j p9 q9 f hj hpq hpb hqb hfu ls H locs hl hV
            have hgj : j * g49 ≤ 12 * g49 := Nat.mul_le_mul_right _ hj
            have hgj1 : (j + 1) * g49 = j * g49 + g49 := by rw [Nat.add_mul, Nat.one_mul]
            refine lv_iload hx hb dX4_minorOf_40 (lv_at hl 4 rfl) ?_
            refine lv_bipush (v := 12) hx hb dX4_minorOf_42 (by decide) ?_
            refine lv_icmp_ge (tgt := 179) hx hb dX4_minorOf_44 (by decide) (fun c44 => ?_) (fun c44 => ?_)
            · have hj2 : j = 12 := by
                rcases Nat.lt_or_ge j 12 with q | q
                · exact absurd c44 (nI_ge (a := j) (b := 12) q (by omega))
                · omega
              have hpz : (p9 : Int) - (q9 : Int) = mnr T st := by
                have h9 : (p9 : Int) - (q9 : Int) = dt_s (pcn st j) (mnt T st Kc) := hpq
                rw [h9, hj2, mnr_lap hKc, hKc]
              obtain ⟨hz1, hz2⟩ := mnr_p hpz
              have hp60 : p9 < 65536 ^ 60 := by omega
              have hq60 : q9 < 65536 ^ 60 := by omega
              have hp52 : p9 < 65536 ^ 52 := by omega
              have hq52 : q9 < 65536 ^ 52 := by omega
              refine lv_bipush (v := 59) hx hb dX4_minorOf_179 (by decide) ?_
              refine lv_istore (lv' := [(4, .int 59), (0, .ref (A 0)), (1, .int (nI st)), (2, .int (nI Kc)), (3, .int (nI (pcn st j)))]) hx hb dX4_minorOf_181 hl (by decide) rfl (fun ls hl => ?_)
              rw [show 59 = nP 60 from rfl] at hl
              have hl : lv_has ls 9 [(4, .int (nP 60)), (0, .ref (A 0)), (1, .int (nI st)), (2, .int (nI Kc)), (3, .int (nI (pcn st j)))] := hl
              have wr : ∀ (y : Int32), (y = (if p9 < q9 then 1 else 0)) → ∀ (ls : Array Slot) (H : Heap) (locs : List Loc), lv_has ls 9 [(0, .ref (A 0)), (1, .int (nI st)), (2, .int (nI Kc))] → hm_V E.1 vwCl (hm_A M sz) s.heap (hm_up (hm_up (hm_up M (A 11) (hm_I E 60 (fun j => nI (dg p9 j)))) (A 12) (hm_I E 60 (fun j => nI (dg q9 j)))) (A 10) (hm_I E 60 f)) H locs → W p l e rm_X4_minorOf s m [.ref (A 0), .int (nI st)].toArray below meth c H locs 0 0 Qf (F0 m 243 ls [.int y, .int (nI st), .ref (A 9)]) := by
                intro y hy ls H locs hl hV
                refine hm_zastN hx hb hK.1 hV 2 ((hm_up_ne _ _ (md_ap hk (i := 9) (j := 10) (by decide) (by decide) (by decide))).trans ((hm_up_ne _ _ (md_ap hk (i := 9) (j := 12) (by decide) (by decide) (by decide))).trans ((hm_up_ne _ _ (md_ap hk (i := 9) (j := 11) (by decide) (by decide) (by decide))).trans h9))) rfl (k := st) (by omega) (by omega) (by rw [hy]; split <;> rfl) dX4_minorOf_243 (fun H locs hV => ?_)
                have hV : hm_V E.1 vwCl (hm_A M sz) s.heap (hm_up (hm_up (hm_up (hm_up M (A 11) (hm_I E 60 (fun j => nI (dg p9 j)))) (A 12) (hm_I E 60 (fun j => nI (dg q9 j)))) (A 10) (hm_I E 60 f)) (A 9) (hm_Z E 4096 (upd mb st y))) H locs := hV
                obtain ⟨xf, hxf⟩ : ∃ xf : Nat → Int, xf = fun i => if y = 0 then (dg p9 i : Int) - (dg q9 i : Int) else (dg q9 i : Int) - (dg p9 i : Int) := ⟨_, rfl⟩
                have hxi : ∀ i, xf i = if y = 0 then (dg p9 i : Int) - (dg q9 i : Int) else (dg q9 i : Int) - (dg p9 i : Int) := fun i => by rw [hxf]
                have hbd := c16_b0 (x := xf) (fun i => by have := dg_lt p9 i; have := dg_lt q9 i; rw [hxi]; split <;> omega)
                have hyz : y = (if mnr T st < 0 then 1 else 0) := by
                  rw [hy]
                  by_cases h9 : p9 < q9
                  · rw [if_pos h9, if_pos (hz1.mpr h9)]
                  · rw [if_neg h9, if_neg (fun h8 => h9 (hz1.mp h8))]
                have hlt : (mnr T st).natAbs < 65536 ^ 52 := by rw [hz2]; split <;> omega
                have hS : ch_s 65536 xf 52 = ((mnr T st).natAbs : Int) := by
                  rw [hxf, hz2]
                  by_cases h9 : p9 < q9
                  · rw [if_pos h9] at hy ⊢
                    rw [← s_sub hq52 hp52 (by omega)]; exact ch_s_congr (fun i _ => if_neg (by rw [hy]; decide))
                  · rw [if_neg h9] at hy ⊢
                    rw [← s_sub hp52 hq52 (by omega)]; exact ch_s_congr (fun i _ => if_pos hy)
                have hV : hm_V E.1 vwCl (hm_A M sz) s.heap (hm_up (hm_up (hm_up (hm_up (hm_up M (A 11) (hm_I E 60 (fun j => nI (dg p9 j)))) (A 12) (hm_I E 60 (fun j => nI (dg q9 j)))) (A 10) (hm_I E 60 f)) (A 9) (hm_Z E 4096 (upd mb st y))) (A 8) (hm_I E 212992 (fun j => nI (if 52 * st ≤ j ∧ j < 52 * st + 0 then ch_e 65536 xf (j - 52 * st) else mi j)))) H locs := by rw [hm_up_id ((((hm_up_ne _ _ (md_ap hk (i := 8) (j := 9) (by decide) (by decide) (by decide))).trans ((hm_up_ne _ _ (md_ap hk (i := 8) (j := 10) (by decide) (by decide) (by decide))).trans ((hm_up_ne _ _ (md_ap hk (i := 8) (j := 12) (by decide) (by decide) (by decide))).trans ((hm_up_ne _ _ (md_ap hk (i := 8) (j := 11) (by decide) (by decide) (by decide))).trans h8))))).trans (congrArg (fun f9 => some (hm_I E 212992 f9)) (nu_win0 (ch_e 65536 xf) mi (52 * st))))]; exact hV
                refine lv_iconst (v := 0) hx hb dX4_minorOf_244 (by decide) ?_
                refine lv_istore (lv' := [(5, .int 0), (0, .ref (A 0)), (1, .int (nI st)), (2, .int (nI Kc))]) hx hb dX4_minorOf_245 hl (by decide) rfl (fun ls hl => ?_)
                refine lv_iconst (v := 0) hx hb dX4_minorOf_247 (by decide) ?_
                refine lv_istore (lv' := [(6, .int 0), (5, .int 0), (0, .ref (A 0)), (1, .int (nI st)), (2, .int (nI Kc))]) hx hb dX4_minorOf_248 hl (by decide) rfl (fun ls hl => ?_)
                rw [show 0 = iZ (-(ch_c 65536 xf 0)) from rfl] at hl
                have hl : lv_has ls 9 [(6, .int 0), (5, .int (iZ (-(ch_c 65536 xf 0)))), (0, .ref (A 0)), (1, .int (nI st)), (2, .int (nI Kc))] := hl
                have brw : ∀ (fu : Nat) (i : Nat), (i ≤ 52) → 52 - i < fu → ∀ (ls : Array Slot) (H : Heap) (locs : List Loc), lv_has ls 9 [(0, .ref (A 0)), (1, .int (nI st)), (2, .int (nI Kc)), (5, .int (iZ (-(ch_c 65536 xf i)))), (6, .int (nI i))] → hm_V E.1 vwCl (hm_A M sz) s.heap (hm_up (hm_up (hm_up (hm_up (hm_up M (A 11) (hm_I E 60 (fun j => nI (dg p9 j)))) (A 12) (hm_I E 60 (fun j => nI (dg q9 j)))) (A 10) (hm_I E 60 f)) (A 9) (hm_Z E 4096 (upd mb st y))) (A 8) (hm_I E 212992 (fun j => nI (if 52 * st ≤ j ∧ j < 52 * st + i then ch_e 65536 xf (j - 52 * st) else mi j)))) H locs → W p l e rm_X4_minorOf s m [.ref (A 0), .int (nI st)].toArray below meth c H locs 0 0 Qf (F0 m 250 ls []) := by
                  intro fu
                  induction fu with
                  | zero => intro i hi hfu; exact absurd hfu (Nat.not_lt_zero _)
                  | succ fu ih_brw =>
                    intro i hi hfu ls H locs hl hV
                    refine lv_iload hx hb dX4_minorOf_250 (lv_at hl 4 rfl) ?_
                    refine lv_bipush (v := 52) hx hb dX4_minorOf_252 (by decide) ?_
                    refine lv_icmp_ge (tgt := 339) hx hb dX4_minorOf_254 (by decide) (fun c254 => ?_) (fun c254 => ?_)
                    · have hi3 : i = 52 := by
                        rcases Nat.lt_or_ge i 52 with q | q
                        · exact absurd c254 (nI_ge (a := i) (b := 52) q (by omega))
                        · omega
                      rw [hi3] at hV
                      rw [hQf]
                      exact W.vret hx hb hr (fun t9 ht hW => ⟨⟨(hm_up (hm_up (hm_up (hm_up (hm_up M (A 11) (hm_I E 60 (fun j => nI (dg p9 j)))) (A 12) (hm_I E 60 (fun j => nI (dg q9 j)))) (A 10) (hm_I E 60 f)) (A 9) (hm_Z E 4096 (upd mb st y))) (A 8) (hm_I E 212992 (fun j => nI (if 52 * st ≤ j ∧ j < 52 * st + 52 then ch_e 65536 xf (j - 52 * st) else mi j)))), rfl, ⟨_, _, md_u8 (md_u9 (md_u10 (md_u12 (md_u11 hk _) _) _) _) (fun j => by
                        show (if 52 * st ≤ j ∧ j < 52 * st + 52 then _ else _) < _
                        split
                        · exact c16_e xf _
                        · exact hmi j), (hm_up_self _ _ _), ((hm_up_ne _ _ (md_ap hk (i := 9) (j := 8) (by decide) (by decide) (by decide))).trans (hm_up_self _ _ _)), fun j => (by
                        show (if 52 * st ≤ j ∧ j < 52 * st + 52 then _ else _) < _
                        split
                        · exact c16_e xf _
                        · exact hmi j), mr_put hrow rfl (fun j hj => c16_dg hS hlt hj) hyz⟩, (hm_end hV ht).1⟩, (hm_end hV ht).2⟩) hV.2.2.2.2 dX4_minorOf_339
                    · have hi3 : i < 52 := by
                        rcases Nat.lt_or_ge i 52 with q | q
                        · exact q
                        · exact absurd (nI_le (a := 52) (b := i) q (by omega)) c254
                      have h1 := dg_lt p9 i
                      have h2 := dg_lt q9 i
                      have h3 := hbd i
                      have h4 := hxi i
                      have h5 := hbd (i + 1)
                      have h6 : ch_c 65536 xf (i + 1) = (xf i + ch_c 65536 xf i) / 65536 := rfl
                      have h7 : -65536 ≤ xf i + ch_c 65536 xf i ∧ xf i + ch_c 65536 xf i ≤ 65535 := by
                        rw [h4]; split <;> omega
                      have join : ∀ (ls : Array Slot) (H : Heap) (locs : List Loc), lv_has ls 9 [(0, .ref (A 0)), (1, .int (nI st)), (2, .int (nI Kc)), (5, .int (iZ (-(ch_c 65536 xf i)))), (6, .int (nI i))] → hm_V E.1 vwCl (hm_A M sz) s.heap (hm_up (hm_up (hm_up (hm_up (hm_up M (A 11) (hm_I E 60 (fun j => nI (dg p9 j)))) (A 12) (hm_I E 60 (fun j => nI (dg q9 j)))) (A 10) (hm_I E 60 f)) (A 9) (hm_Z E 4096 (upd mb st y))) (A 8) (hm_I E 212992 (fun j => nI (if 52 * st ≤ j ∧ j < 52 * st + i then ch_e 65536 xf (j - 52 * st) else mi j)))) H locs → W p l e rm_X4_minorOf s m [.ref (A 0), .int (nI st)].toArray below meth c H locs 0 0 Qf (F0 m 299 ls [.int (iZ (xf i))]) := by
                        intro   ls H locs hl hV
                        have next : ∀ (y5 : Int32), (y5 = iZ (-(ch_c 65536 xf (i + 1)))) → ∀ (ls : Array Slot) (H : Heap) (locs : List Loc), lv_has ls 9 [(0, .ref (A 0)), (1, .int (nI st)), (2, .int (nI Kc)), (6, .int (nI i))] → hm_V E.1 vwCl (hm_A M sz) s.heap (hm_up (hm_up (hm_up (hm_up (hm_up M (A 11) (hm_I E 60 (fun j => nI (dg p9 j)))) (A 12) (hm_I E 60 (fun j => nI (dg q9 j)))) (A 10) (hm_I E 60 f)) (A 9) (hm_Z E 4096 (upd mb st y))) (A 8) (hm_I E 212992 (fun j => nI (if 52 * st ≤ j ∧ j < 52 * st + (i + 1) then ch_e 65536 xf (j - 52 * st) else mi j)))) H locs → W p l e rm_X4_minorOf s m [.ref (A 0), .int (nI st)].toArray below meth c H locs 0 0 Qf (F0 m 331 ls [.int y5]) := by
                          intro y5 hy5 ls H locs hl hV
                          subst hy5
                          refine lv_istore (lv' := [(5, .int (iZ (-(ch_c 65536 xf (i + 1))))), (0, .ref (A 0)), (1, .int (nI st)), (2, .int (nI Kc)), (6, .int (nI i))]) hx hb dX4_minorOf_331 hl (by decide) rfl (fun ls hl => ?_)
                          refine lv_iinc (v := (nI (i + 1))) (lv' := [(6, .int (nI (i + 1))), (5, .int (iZ (-(ch_c 65536 xf (i + 1))))), (0, .ref (A 0)), (1, .int (nI st)), (2, .int (nI Kc))]) hx hb dX4_minorOf_333 hl (k := 4) rfl (nI_1 i) (by decide) rfl (fun ls hl => ?_)
                          refine lv_goto (tgt := 250) hx hb dX4_minorOf_336 (by decide) ?_
                          exact ih_brw (i + 1) (by omega) (by omega) ls H locs (lv_sub hl [2, 3, 4, 1, 0] rfl) hV
                        refine lv_iload hx hb dX4_minorOf_299 (lv_at hl 3 rfl) ?_
                        refine lv_isub hx hb dX4_minorOf_301 ?_
                        refine hm_topi (show ((iZ (xf i)) - (iZ (-(ch_c 65536 xf i)))) = iZ (xf i + ch_c 65536 xf i) from (iZ_sub _ _).trans (by congr 1; omega)) ?_
                        refine lv_istore (lv' := [(7, .int (iZ (xf i + ch_c 65536 xf i))), (0, .ref (A 0)), (1, .int (nI st)), (2, .int (nI Kc)), (5, .int (iZ (-(ch_c 65536 xf i)))), (6, .int (nI i))]) hx hb dX4_minorOf_302 hl (by decide) rfl (fun ls hl => ?_)
                        refine lv_aload_n hx hb dX4_minorOf_304 rfl (lv_at hl 1 rfl) ?_
                        refine hm_get (ci := 6) (v := .ref (A 8)) (C := RX4) (T := TX4) (N := 16) hx hb hws kin_X4 hown hK.1 hV ((hm_up_ne _ _ (md_ap hk (i := 0) (j := 8) (by decide) (by decide) (by decide))).trans ((hm_up_ne _ _ (md_ap hk (i := 0) (j := 9) (by decide) (by decide) (by decide))).trans ((hm_up_ne _ _ (md_ap hk (i := 0) (j := 10) (by decide) (by decide) (by decide))).trans ((hm_up_ne _ _ (md_ap hk (i := 0) (j := 12) (by decide) (by decide) (by decide))).trans ((hm_up_ne _ _ (md_ap hk (i := 0) (j := 11) (by decide) (by decide) (by decide))).trans (md_x hk)))))) rfl 11 (by decide) fl34 (fun _ h9 => h9) rfl dX4_minorOf_305 ?_
                        refine lv_bipush (v := 52) hx hb dX4_minorOf_308 (by decide) ?_
                        refine lv_iload_n hx hb dX4_minorOf_310 rfl (lv_at hl 2 rfl) ?_
                        refine lv_imul hx hb dX4_minorOf_311 ?_
                        refine lv_iload hx hb dX4_minorOf_312 (lv_at hl 5 rfl) ?_
                        refine lv_iadd hx hb dX4_minorOf_314 ?_
                        refine hm_topi (show ((52 * (nI st)) + (nI i)) = nI (52 * st + i) from nI_52 _ _) ?_
                        refine lv_iload hx hb dX4_minorOf_315 (lv_at hl 0 rfl) ?_
                        refine lv_ldc (v := 65535) hx hb hown ld80 dX4_minorOf_317 ?_
                        refine lv_iand hx hb dX4_minorOf_319 ?_
                        refine hm_topi (show ((iZ (xf i + ch_c 65536 xf i)) &&& 65535) = nI (ch_e 65536 xf i) from iZ_m16 _) ?_
                        refine hm_iastN hx hb hK.1 hV 0 (hm_up_self _ _ _) rfl (k := (52 * st + i)) (by omega) (by omega) dX4_minorOf_320 (fun H locs hV => ?_)
                        rw [show (upd (fun j => nI (if 52 * st ≤ j ∧ j < 52 * st + i then ch_e 65536 xf (j - 52 * st) else mi j)) (52 * st + i) (nI (ch_e 65536 xf i))) = (fun j => nI (if 52 * st ≤ j ∧ j < 52 * st + (i + 1) then ch_e 65536 xf (j - 52 * st) else mi j)) from nu_win (ch_e 65536 xf) mi (52 * st) i] at hV
                        rw [hm_u0] at hV
                        have hV : hm_V E.1 vwCl (hm_A M sz) s.heap (hm_up (hm_up (hm_up (hm_up (hm_up M (A 11) (hm_I E 60 (fun j => nI (dg p9 j)))) (A 12) (hm_I E 60 (fun j => nI (dg q9 j)))) (A 10) (hm_I E 60 f)) (A 9) (hm_Z E 4096 (upd mb st y))) (A 8) (hm_I E 212992 (fun j => nI (if 52 * st ≤ j ∧ j < 52 * st + (i + 1) then ch_e 65536 xf (j - 52 * st) else mi j)))) H locs := hV
                        refine lv_iload hx hb dX4_minorOf_321 (lv_at hl 0 rfl) ?_
                        refine lv_if_ge (tgt := 330) hx hb dX4_minorOf_323 (by decide) (fun c323 => ?_) (fun c323 => ?_)
                        · have h8 : 0 ≤ xf i + ch_c 65536 xf i := by
                            have := Int32.le_iff_toInt_le.mp c323
                            rw [iZ_toInt (by omega) (by omega)] at this
                            simpa using this
                          refine lv_iconst (v := 0) hx hb dX4_minorOf_330 (by decide) ?_
                          exact next 0 (by rw [show ch_c 65536 xf (i + 1) = 0 by omega]; rfl) ls H locs (lv_sub hl [1, 2, 3, 5] rfl) hV
                        · have h8 : xf i + ch_c 65536 xf i < 0 := by
                            rcases Int.lt_or_le (xf i + ch_c 65536 xf i) 0 with q | q
                            · exact q
                            · exact absurd (Int32.le_iff_toInt_le.mpr (by rw [iZ_toInt (by omega) (by omega)]; simpa using q)) c323
                          refine lv_iconst (v := 1) hx hb dX4_minorOf_326 (by decide) ?_
                          refine lv_goto (tgt := 331) hx hb dX4_minorOf_327 (by decide) ?_
                          exact next 1 (by rw [show ch_c 65536 xf (i + 1) = -1 by omega]; rfl) ls H locs (lv_sub hl [1, 2, 3, 5] rfl) hV
                      refine lv_aload_n hx hb dX4_minorOf_257 rfl (lv_at hl 0 rfl) ?_
                      refine hm_get (ci := 6) (v := .ref (A 9)) (C := RX4) (T := TX4) (N := 16) hx hb hws kin_X4 hown hK.1 hV ((hm_up_ne _ _ (md_ap hk (i := 0) (j := 8) (by decide) (by decide) (by decide))).trans ((hm_up_ne _ _ (md_ap hk (i := 0) (j := 9) (by decide) (by decide) (by decide))).trans ((hm_up_ne _ _ (md_ap hk (i := 0) (j := 10) (by decide) (by decide) (by decide))).trans ((hm_up_ne _ _ (md_ap hk (i := 0) (j := 12) (by decide) (by decide) (by decide))).trans ((hm_up_ne _ _ (md_ap hk (i := 0) (j := 11) (by decide) (by decide) (by decide))).trans (md_x hk)))))) rfl 12 (by decide) fl37 (fun _ h9 => h9) rfl dX4_minorOf_258 ?_
                      refine lv_iload_n hx hb dX4_minorOf_261 rfl (lv_at hl 1 rfl) ?_
                      refine hm_zaldN hx hb hK.1 hV 2 ((hm_up_ne _ _ (md_ap hk (i := 9) (j := 8) (by decide) (by decide) (by decide))).trans (hm_up_self _ _ _)) rfl (k := st) (by omega) (by omega) dX4_minorOf_262 ?_
                      refine hm_topi (show ((upd mb st y) st) = y from pk_us) ?_
                      refine lv_if_eq (tgt := 284) hx hb dX4_minorOf_263 (by decide) (fun c263 => ?_) (fun c263 => ?_)
                      · refine lv_aload_n hx hb dX4_minorOf_284 rfl (lv_at hl 0 rfl) ?_
                        refine hm_get (ci := 6) (v := .ref (A 11)) (C := RX4) (T := TX4) (N := 16) hx hb hws kin_X4 hown hK.1 hV ((hm_up_ne _ _ (md_ap hk (i := 0) (j := 8) (by decide) (by decide) (by decide))).trans ((hm_up_ne _ _ (md_ap hk (i := 0) (j := 9) (by decide) (by decide) (by decide))).trans ((hm_up_ne _ _ (md_ap hk (i := 0) (j := 10) (by decide) (by decide) (by decide))).trans ((hm_up_ne _ _ (md_ap hk (i := 0) (j := 12) (by decide) (by decide) (by decide))).trans ((hm_up_ne _ _ (md_ap hk (i := 0) (j := 11) (by decide) (by decide) (by decide))).trans (md_x hk)))))) rfl 14 (by decide) fl43 (fun _ h9 => h9) rfl dX4_minorOf_285 ?_
                        refine lv_iload hx hb dX4_minorOf_288 (lv_at hl 4 rfl) ?_
                        refine hm_ialdN hx hb hK.1 hV 0 ((hm_up_ne _ _ (md_ap hk (i := 11) (j := 8) (by decide) (by decide) (by decide))).trans ((hm_up_ne _ _ (md_ap hk (i := 11) (j := 9) (by decide) (by decide) (by decide))).trans ((hm_up_ne _ _ (md_ap hk (i := 11) (j := 10) (by decide) (by decide) (by decide))).trans ((hm_up_ne _ _ (md_ap hk (i := 11) (j := 12) (by decide) (by decide) (by decide))).trans (hm_up_self _ _ _))))) rfl (k := i) (by omega) (by omega) dX4_minorOf_290 ?_
                        refine lv_aload_n hx hb dX4_minorOf_291 rfl (lv_at hl 0 rfl) ?_
                        refine hm_get (ci := 6) (v := .ref (A 12)) (C := RX4) (T := TX4) (N := 16) hx hb hws kin_X4 hown hK.1 hV ((hm_up_ne _ _ (md_ap hk (i := 0) (j := 8) (by decide) (by decide) (by decide))).trans ((hm_up_ne _ _ (md_ap hk (i := 0) (j := 9) (by decide) (by decide) (by decide))).trans ((hm_up_ne _ _ (md_ap hk (i := 0) (j := 10) (by decide) (by decide) (by decide))).trans ((hm_up_ne _ _ (md_ap hk (i := 0) (j := 12) (by decide) (by decide) (by decide))).trans ((hm_up_ne _ _ (md_ap hk (i := 0) (j := 11) (by decide) (by decide) (by decide))).trans (md_x hk)))))) rfl 15 (by decide) fl46 (fun _ h9 => h9) rfl dX4_minorOf_292 ?_
                        refine lv_iload hx hb dX4_minorOf_295 (lv_at hl 4 rfl) ?_
                        refine hm_ialdN hx hb hK.1 hV 0 ((hm_up_ne _ _ (md_ap hk (i := 12) (j := 8) (by decide) (by decide) (by decide))).trans ((hm_up_ne _ _ (md_ap hk (i := 12) (j := 9) (by decide) (by decide) (by decide))).trans ((hm_up_ne _ _ (md_ap hk (i := 12) (j := 10) (by decide) (by decide) (by decide))).trans (hm_up_self _ _ _)))) rfl (k := i) (by omega) (by omega) dX4_minorOf_297 ?_
                        refine lv_isub hx hb dX4_minorOf_298 ?_
                        refine hm_topi (show ((nI (dg p9 i)) - (nI (dg q9 i))) = iZ (xf i) from by rw [iZ_nI, iZ_nI, iZ_sub, hxi, if_pos c263]) ?_
                        exact join  ls H locs (lv_sub hl [0, 1, 2, 3, 4] rfl) hV
                      · refine lv_aload_n hx hb dX4_minorOf_266 rfl (lv_at hl 0 rfl) ?_
                        refine hm_get (ci := 6) (v := .ref (A 12)) (C := RX4) (T := TX4) (N := 16) hx hb hws kin_X4 hown hK.1 hV ((hm_up_ne _ _ (md_ap hk (i := 0) (j := 8) (by decide) (by decide) (by decide))).trans ((hm_up_ne _ _ (md_ap hk (i := 0) (j := 9) (by decide) (by decide) (by decide))).trans ((hm_up_ne _ _ (md_ap hk (i := 0) (j := 10) (by decide) (by decide) (by decide))).trans ((hm_up_ne _ _ (md_ap hk (i := 0) (j := 12) (by decide) (by decide) (by decide))).trans ((hm_up_ne _ _ (md_ap hk (i := 0) (j := 11) (by decide) (by decide) (by decide))).trans (md_x hk)))))) rfl 15 (by decide) fl46 (fun _ h9 => h9) rfl dX4_minorOf_267 ?_
                        refine lv_iload hx hb dX4_minorOf_270 (lv_at hl 4 rfl) ?_
                        refine hm_ialdN hx hb hK.1 hV 0 ((hm_up_ne _ _ (md_ap hk (i := 12) (j := 8) (by decide) (by decide) (by decide))).trans ((hm_up_ne _ _ (md_ap hk (i := 12) (j := 9) (by decide) (by decide) (by decide))).trans ((hm_up_ne _ _ (md_ap hk (i := 12) (j := 10) (by decide) (by decide) (by decide))).trans (hm_up_self _ _ _)))) rfl (k := i) (by omega) (by omega) dX4_minorOf_272 ?_
                        refine lv_aload_n hx hb dX4_minorOf_273 rfl (lv_at hl 0 rfl) ?_
                        refine hm_get (ci := 6) (v := .ref (A 11)) (C := RX4) (T := TX4) (N := 16) hx hb hws kin_X4 hown hK.1 hV ((hm_up_ne _ _ (md_ap hk (i := 0) (j := 8) (by decide) (by decide) (by decide))).trans ((hm_up_ne _ _ (md_ap hk (i := 0) (j := 9) (by decide) (by decide) (by decide))).trans ((hm_up_ne _ _ (md_ap hk (i := 0) (j := 10) (by decide) (by decide) (by decide))).trans ((hm_up_ne _ _ (md_ap hk (i := 0) (j := 12) (by decide) (by decide) (by decide))).trans ((hm_up_ne _ _ (md_ap hk (i := 0) (j := 11) (by decide) (by decide) (by decide))).trans (md_x hk)))))) rfl 14 (by decide) fl43 (fun _ h9 => h9) rfl dX4_minorOf_274 ?_
                        refine lv_iload hx hb dX4_minorOf_277 (lv_at hl 4 rfl) ?_
                        refine hm_ialdN hx hb hK.1 hV 0 ((hm_up_ne _ _ (md_ap hk (i := 11) (j := 8) (by decide) (by decide) (by decide))).trans ((hm_up_ne _ _ (md_ap hk (i := 11) (j := 9) (by decide) (by decide) (by decide))).trans ((hm_up_ne _ _ (md_ap hk (i := 11) (j := 10) (by decide) (by decide) (by decide))).trans ((hm_up_ne _ _ (md_ap hk (i := 11) (j := 12) (by decide) (by decide) (by decide))).trans (hm_up_self _ _ _))))) rfl (k := i) (by omega) (by omega) dX4_minorOf_279 ?_
                        refine lv_isub hx hb dX4_minorOf_280 ?_
                        refine lv_goto (tgt := 299) hx hb dX4_minorOf_281 (by decide) ?_
                        refine hm_topi (show ((nI (dg q9 i)) - (nI (dg p9 i))) = iZ (xf i) from by rw [iZ_nI, iZ_nI, iZ_sub, hxi, if_neg c263]) ?_
                        exact join  ls H locs (lv_sub hl [0, 1, 2, 3, 4] rfl) hV
                exact brw 53 0 (by omega) (by omega) ls H locs (lv_sub hl [2, 3, 4, 1, 0] rfl) hV
              have cmp : ∀ (fu : Nat) (i : Nat), (i ≤ 60) → (∀ b, i ≤ b → b < 60 → dg p9 b = dg q9 b) → i < fu → ∀ (ls : Array Slot) (H : Heap) (locs : List Loc), lv_has ls 9 [(0, .ref (A 0)), (1, .int (nI st)), (2, .int (nI Kc)), (4, .int (nP i))] → hm_V E.1 vwCl (hm_A M sz) s.heap (hm_up (hm_up (hm_up M (A 11) (hm_I E 60 (fun j => nI (dg p9 j)))) (A 12) (hm_I E 60 (fun j => nI (dg q9 j)))) (A 10) (hm_I E 60 f)) H locs → W p l e rm_X4_minorOf s m [.ref (A 0), .int (nI st)].toArray below meth c H locs 0 0 Qf (F0 m 183 ls []) := by
                intro fu
                induction fu with
                | zero => intro i hi he hfu; exact absurd hfu (Nat.not_lt_zero _)
                | succ fu ih_cmp =>
                  intro i hi he hfu ls H locs hl hV
                  refine lv_iload hx hb dX4_minorOf_183 (lv_at hl 3 rfl) ?_
                  refine lv_if_lt (tgt := 211) hx hb dX4_minorOf_185 (by decide) (fun c185 => ?_) (fun c185 => ?_)
                  · have hi0 : i = 0 := by
                      cases i with
                      | zero => rfl
                      | succ j => exact absurd c185 (nI_pos (by omega))
                    have heq := dg_eq hp60 hq60 (fun b hb => he b (by omega) hb)
                    refine lv_aload_n hx hb dX4_minorOf_211 rfl (lv_at hl 0 rfl) ?_
                    refine hm_get (ci := 6) (v := .ref (A 9)) (C := RX4) (T := TX4) (N := 16) hx hb hws kin_X4 hown hK.1 hV ((hm_up_ne _ _ (md_ap hk (i := 0) (j := 10) (by decide) (by decide) (by decide))).trans ((hm_up_ne _ _ (md_ap hk (i := 0) (j := 12) (by decide) (by decide) (by decide))).trans ((hm_up_ne _ _ (md_ap hk (i := 0) (j := 11) (by decide) (by decide) (by decide))).trans (md_x hk)))) rfl 12 (by decide) fl37 (fun _ h9 => h9) rfl dX4_minorOf_212 ?_
                    refine lv_iload_n hx hb dX4_minorOf_215 rfl (lv_at hl 1 rfl) ?_
                    refine lv_iload hx hb dX4_minorOf_216 (lv_at hl 3 rfl) ?_
                    refine lv_if_lt (tgt := 242) hx hb dX4_minorOf_218 (by decide) (fun c218 => ?_) (fun c218 => ?_)
                    · refine lv_iconst (v := 0) hx hb dX4_minorOf_242 (by decide) ?_
                      exact wr 0 (by rw [if_neg (by omega)]) ls H locs (lv_sub hl [0, 1, 2] rfl) hV
                    · exact absurd c185 c218
                  · obtain ⟨b, rfl⟩ : ∃ b, i = b + 1 := by
                      cases i with
                      | zero => exact absurd (show nP 0 < 0 from by decide) c185
                      | succ j => exact ⟨j, rfl⟩
                    have hdv := dg_lt p9 b
                    have hdu := dg_lt q9 b
                    have hl : lv_has ls 9 [(0, .ref (A 0)), (1, .int (nI st)), (2, .int (nI Kc)), (4, .int (nI b))] := hl
                    refine lv_aload_n hx hb dX4_minorOf_188 rfl (lv_at hl 0 rfl) ?_
                    refine hm_get (ci := 6) (v := .ref (A 11)) (C := RX4) (T := TX4) (N := 16) hx hb hws kin_X4 hown hK.1 hV ((hm_up_ne _ _ (md_ap hk (i := 0) (j := 10) (by decide) (by decide) (by decide))).trans ((hm_up_ne _ _ (md_ap hk (i := 0) (j := 12) (by decide) (by decide) (by decide))).trans ((hm_up_ne _ _ (md_ap hk (i := 0) (j := 11) (by decide) (by decide) (by decide))).trans (md_x hk)))) rfl 14 (by decide) fl43 (fun _ h9 => h9) rfl dX4_minorOf_189 ?_
                    refine lv_iload hx hb dX4_minorOf_192 (lv_at hl 3 rfl) ?_
                    refine hm_ialdN hx hb hK.1 hV 0 ((hm_up_ne _ _ (md_ap hk (i := 11) (j := 10) (by decide) (by decide) (by decide))).trans ((hm_up_ne _ _ (md_ap hk (i := 11) (j := 12) (by decide) (by decide) (by decide))).trans (hm_up_self _ _ _))) rfl (k := b) (by omega) (by omega) dX4_minorOf_194 ?_
                    refine lv_aload_n hx hb dX4_minorOf_195 rfl (lv_at hl 0 rfl) ?_
                    refine hm_get (ci := 6) (v := .ref (A 12)) (C := RX4) (T := TX4) (N := 16) hx hb hws kin_X4 hown hK.1 hV ((hm_up_ne _ _ (md_ap hk (i := 0) (j := 10) (by decide) (by decide) (by decide))).trans ((hm_up_ne _ _ (md_ap hk (i := 0) (j := 12) (by decide) (by decide) (by decide))).trans ((hm_up_ne _ _ (md_ap hk (i := 0) (j := 11) (by decide) (by decide) (by decide))).trans (md_x hk)))) rfl 15 (by decide) fl46 (fun _ h9 => h9) rfl dX4_minorOf_196 ?_
                    refine lv_iload hx hb dX4_minorOf_199 (lv_at hl 3 rfl) ?_
                    refine hm_ialdN hx hb hK.1 hV 0 ((hm_up_ne _ _ (md_ap hk (i := 12) (j := 10) (by decide) (by decide) (by decide))).trans (hm_up_self _ _ _)) rfl (k := b) (by omega) (by omega) dX4_minorOf_201 ?_
                    refine lv_icmp_ne (tgt := 211) hx hb dX4_minorOf_202 (by decide) (fun c202 => ?_) (fun c202 => ?_)
                    · have hne : dg p9 b ≠ dg q9 b := fun h9 => c202 (by rw [h9])
                      refine lv_aload_n hx hb dX4_minorOf_211 rfl (lv_at hl 0 rfl) ?_
                      refine hm_get (ci := 6) (v := .ref (A 9)) (C := RX4) (T := TX4) (N := 16) hx hb hws kin_X4 hown hK.1 hV ((hm_up_ne _ _ (md_ap hk (i := 0) (j := 10) (by decide) (by decide) (by decide))).trans ((hm_up_ne _ _ (md_ap hk (i := 0) (j := 12) (by decide) (by decide) (by decide))).trans ((hm_up_ne _ _ (md_ap hk (i := 0) (j := 11) (by decide) (by decide) (by decide))).trans (md_x hk)))) rfl 12 (by decide) fl37 (fun _ h9 => h9) rfl dX4_minorOf_212 ?_
                      refine lv_iload_n hx hb dX4_minorOf_215 rfl (lv_at hl 1 rfl) ?_
                      refine lv_iload hx hb dX4_minorOf_216 (lv_at hl 3 rfl) ?_
                      refine lv_if_lt (tgt := 242) hx hb dX4_minorOf_218 (by decide) (fun c218 => ?_) (fun c218 => ?_)
                      · exact absurd c218 (nI_pos (by omega))
                      · refine lv_aload_n hx hb dX4_minorOf_221 rfl (lv_at hl 0 rfl) ?_
                        refine hm_get (ci := 6) (v := .ref (A 11)) (C := RX4) (T := TX4) (N := 16) hx hb hws kin_X4 hown hK.1 hV ((hm_up_ne _ _ (md_ap hk (i := 0) (j := 10) (by decide) (by decide) (by decide))).trans ((hm_up_ne _ _ (md_ap hk (i := 0) (j := 12) (by decide) (by decide) (by decide))).trans ((hm_up_ne _ _ (md_ap hk (i := 0) (j := 11) (by decide) (by decide) (by decide))).trans (md_x hk)))) rfl 14 (by decide) fl43 (fun _ h9 => h9) rfl dX4_minorOf_222 ?_
                        refine lv_iload hx hb dX4_minorOf_225 (lv_at hl 3 rfl) ?_
                        refine hm_ialdN hx hb hK.1 hV 0 ((hm_up_ne _ _ (md_ap hk (i := 11) (j := 10) (by decide) (by decide) (by decide))).trans ((hm_up_ne _ _ (md_ap hk (i := 11) (j := 12) (by decide) (by decide) (by decide))).trans (hm_up_self _ _ _))) rfl (k := b) (by omega) (by omega) dX4_minorOf_227 ?_
                        refine lv_aload_n hx hb dX4_minorOf_228 rfl (lv_at hl 0 rfl) ?_
                        refine hm_get (ci := 6) (v := .ref (A 12)) (C := RX4) (T := TX4) (N := 16) hx hb hws kin_X4 hown hK.1 hV ((hm_up_ne _ _ (md_ap hk (i := 0) (j := 10) (by decide) (by decide) (by decide))).trans ((hm_up_ne _ _ (md_ap hk (i := 0) (j := 12) (by decide) (by decide) (by decide))).trans ((hm_up_ne _ _ (md_ap hk (i := 0) (j := 11) (by decide) (by decide) (by decide))).trans (md_x hk)))) rfl 15 (by decide) fl46 (fun _ h9 => h9) rfl dX4_minorOf_229 ?_
                        refine lv_iload hx hb dX4_minorOf_232 (lv_at hl 3 rfl) ?_
                        refine hm_ialdN hx hb hK.1 hV 0 ((hm_up_ne _ _ (md_ap hk (i := 12) (j := 10) (by decide) (by decide) (by decide))).trans (hm_up_self _ _ _)) rfl (k := b) (by omega) (by omega) dX4_minorOf_234 ?_
                        refine lv_icmp_ge (tgt := 242) hx hb dX4_minorOf_235 (by decide) (fun c235 => ?_) (fun c235 => ?_)
                        · have hl2 : q9 < p9 := dg_less (i := b) hq60 hp60 (by omega) (fun a h1 h2 => (he a (by omega) h2).symm) (by have := (nI_leI (by omega) (by omega)).mp c235; omega)
                          refine lv_iconst (v := 0) hx hb dX4_minorOf_242 (by decide) ?_
                          exact wr 0 (by rw [if_neg (by omega)]) ls H locs (lv_sub hl [0, 1, 2] rfl) hV
                        · have hl2 : p9 < q9 := dg_less (i := b) hp60 hq60 (by omega) (fun a h1 h2 => he a (by omega) h2) (by
                            rcases Nat.lt_or_ge (dg p9 b) (dg q9 b) with r | r
                            · exact r
                            · exact absurd (nI_le r (by omega)) c235)
                          refine lv_iconst (v := 1) hx hb dX4_minorOf_238 (by decide) ?_
                          refine lv_goto (tgt := 243) hx hb dX4_minorOf_239 (by decide) ?_
                          exact wr 1 (by rw [if_pos hl2]) ls H locs (lv_sub hl [0, 1, 2] rfl) hV
                    · have hde : dg p9 b = dg q9 b := (nI_eq (by omega) (by omega)).mp c202
                      refine lv_iinc (v := (nP b)) (lv' := [(4, .int (nP b)), (0, .ref (A 0)), (1, .int (nI st)), (2, .int (nI Kc))]) hx hb dX4_minorOf_205 hl (k := 3) rfl (nP_dec b) (by decide) rfl (fun ls hl => ?_)
                      refine lv_goto (tgt := 183) hx hb dX4_minorOf_208 (by decide) ?_
                      exact ih_cmp b (by omega) (fun a h1 h2 => by
                        rcases Nat.lt_or_ge b a with r | r
                        · exact he a (by omega) h2
                        · rw [show a = b by omega]; exact hde) (by omega) ls H locs (lv_sub hl [1, 2, 3, 0] rfl) hV
              exact cmp 61 60 (by omega) (fun b h1 h2 => absurd h2 (by omega)) (by omega) ls H locs (lv_sub hl [1, 2, 3, 0] rfl) hV
            · have hj2 : j < 12 := by
                rcases Nat.lt_or_ge j 12 with q | q
                · exact q
                · exact absurd (nI_le (a := 12) (b := j) q (by omega)) c44
              have hsum := mns_s (T := T) (s := st) (k := Kc) hj2
              have hb2 : st / 2 ^ j % 2 < 2 := Nat.mod_lt _ (by decide)
              have hpq9 : (p9 : Int) - (q9 : Int) = dt_s (pcn st j) (mnt T st Kc) := hpq
              refine lv_iload_n hx hb dX4_minorOf_47 rfl (lv_at hl 1 rfl) ?_
              refine lv_iload hx hb dX4_minorOf_48 (lv_at hl 4 rfl) ?_
              refine lv_ishr hx hb dX4_minorOf_50 ?_
              refine lv_iconst (v := 1) hx hb dX4_minorOf_51 (by decide) ?_
              refine lv_iand hx hb dX4_minorOf_52 ?_
              refine hm_topi (show (((nI st) >>> ((nI j) &&& 31)) &&& 1) = nI (st / 2 ^ j % 2) from bit_at hs hj2) ?_
              refine lv_if_ne (tgt := 59) hx hb dX4_minorOf_53 (by decide) (fun c53 => ?_) (fun c53 => ?_)
              · have hbit : st / 2 ^ j % 2 = 1 := by
                  have : st / 2 ^ j % 2 ≠ 0 := fun h9 => c53 (by rw [h9]; rfl)
                  omega
                rw [if_pos hbit] at hsum
                have hpj : pcn st (j + 1) = pcn st j + 1 := by rw [pcn, hbit]
                have hpj2 := pcn_mono (s := st) (show j + 1 ≤ 12 from hj2)
                have hlt := st_lt hs0 hbit
                obtain ⟨hr8, hr9⟩ := hrow _ hlt
                have hle : pcn (st - 2 ^ j) 12 ≤ 11 := by rw [st_pcn hbit, if_neg (by omega)]; omega
                have hm45 := mnr_le11 hTb hle
                have hTk : (t Kc j).toInt = T Kc j := by rw [hT]
                refine lv_iload_n hx hb dX4_minorOf_59 rfl (lv_at hl 1 rfl) ?_
                refine lv_iconst (v := 1) hx hb dX4_minorOf_60 (by decide) ?_
                refine lv_iload hx hb dX4_minorOf_61 (lv_at hl 4 rfl) ?_
                refine lv_ishl hx hb dX4_minorOf_63 ?_
                refine hm_topi (show (1 <<< ((nI j) &&& 31)) = nI (2 ^ j) from shl12 _ (by omega)) ?_
                refine lv_iconst (v := (-1)) hx hb dX4_minorOf_64 (by decide) ?_
                refine lv_ixor hx hb dX4_minorOf_65 ?_
                refine lv_iand hx hb dX4_minorOf_66 ?_
                refine hm_topi (show ((nI st) &&& ((nI (2 ^ j)) ^^^ (-1))) = nI (st - 2 ^ j) from st_and hs hj2 hbit) ?_
                refine lv_istore (lv' := [(5, .int (nI (st - 2 ^ j))), (0, .ref (A 0)), (1, .int (nI st)), (2, .int (nI Kc)), (3, .int (nI (pcn st j))), (4, .int (nI j))]) hx hb dX4_minorOf_67 hl (by decide) rfl (fun ls hl => ?_)
                refine lv_aload_n hx hb dX4_minorOf_69 rfl (lv_at hl 1 rfl) ?_
                refine hm_get (ci := 6) (v := .ref (A 4)) (C := RX4) (T := TX4) (N := 16) hx hb hws kin_X4 hown hK.1 hV ((hm_up_ne _ _ (md_ap hk (i := 0) (j := 10) (by decide) (by decide) (by decide))).trans ((hm_up_ne _ _ (md_ap hk (i := 0) (j := 12) (by decide) (by decide) (by decide))).trans ((hm_up_ne _ _ (md_ap hk (i := 0) (j := 11) (by decide) (by decide) (by decide))).trans (md_x hk)))) rfl 5 (by decide) fl20 (fun _ h9 => h9) rfl dX4_minorOf_70 ?_
                refine lv_bipush (v := 12) hx hb dX4_minorOf_73 (by decide) ?_
                refine lv_iload_n hx hb dX4_minorOf_75 rfl (lv_at hl 3 rfl) ?_
                refine lv_imul hx hb dX4_minorOf_76 ?_
                refine lv_iload hx hb dX4_minorOf_77 (lv_at hl 5 rfl) ?_
                refine lv_iadd hx hb dX4_minorOf_79 ?_
                refine hm_topi (show ((12 * (nI Kc)) + (nI j)) = nI (12 * Kc + j) from nI_12 _ _) ?_
                refine hm_laldN hx hb hK.1 hV 1 ((hm_up_ne _ _ (md_ap hk (i := 4) (j := 10) (by decide) (by decide) (by decide))).trans ((hm_up_ne _ _ (md_ap hk (i := 4) (j := 12) (by decide) (by decide) (by decide))).trans ((hm_up_ne _ _ (md_ap hk (i := 4) (j := 11) (by decide) (by decide) (by decide))).trans (md_t hk)))) rfl (k := (12 * Kc + j)) (by omega) (by omega) dX4_minorOf_80 ?_
                refine hm_topl (show (t ((12 * Kc + j) / 12) ((12 * Kc + j) % 12)) = t Kc j from by rw [show (12 * Kc + j) / 12 = Kc by omega, show (12 * Kc + j) % 12 = j by omega]) ?_
                refine lv_lstore (lv' := [(6, .long (t Kc j)), (5, .int (nI (st - 2 ^ j))), (0, .ref (A 0)), (1, .int (nI st)), (2, .int (nI Kc)), (3, .int (nI (pcn st j))), (4, .int (nI j))]) hx hb dX4_minorOf_81 hl (by decide) rfl (fun ls hl => ?_)
                refine lv_aload_n hx hb dX4_minorOf_83 rfl (lv_at hl 2 rfl) ?_
                refine lv_lload hx hb dX4_minorOf_84 (lv_at hl 0 rfl) ?_
                refine lv_iload hx hb dX4_minorOf_86 (lv_at hl 1 rfl) ?_
                refine lv_aload_n hx hb dX4_minorOf_88 rfl (lv_at hl 2 rfl) ?_
                refine hm_get (ci := 6) (v := .ref (A 10)) (C := RX4) (T := TX4) (N := 16) hx hb hws kin_X4 hown hK.1 hV ((hm_up_ne _ _ (md_ap hk (i := 0) (j := 10) (by decide) (by decide) (by decide))).trans ((hm_up_ne _ _ (md_ap hk (i := 0) (j := 12) (by decide) (by decide) (by decide))).trans ((hm_up_ne _ _ (md_ap hk (i := 0) (j := 11) (by decide) (by decide) (by decide))).trans (md_x hk)))) rfl 13 (by decide) fl40 (fun _ h9 => h9) rfl dX4_minorOf_89 ?_
                refine hm_callv (va_runV (As := [.long (t Kc j), .int (nI (st - 2 ^ j)), .ref (A 10)]) (rest := []) ⟨hx, hb, hml, hown, hts⟩ (c_X4_product l E (mb := mb) (v := t Kc j) (st := st - 2 ^ j) (m0 := (mnr T (st - 2 ^ j)).natAbs) (md_u10 (md_u12 (md_u11 hk _) _) _) ((hm_up_ne _ _ (md_ap hk (i := 8) (j := 10) (by decide) (by decide) (by decide))).trans ((hm_up_ne _ _ (md_ap hk (i := 8) (j := 12) (by decide) (by decide) (by decide))).trans ((hm_up_ne _ _ (md_ap hk (i := 8) (j := 11) (by decide) (by decide) (by decide))).trans h8))) (hm_up_self _ _ _) (by omega) hr8 (Nat.lt_of_lt_of_le hm45 (w16_le (by decide))) H.size) (cwV 3 hts (hm_gV kw_663 kw_665 kw_34 kw_41 kw_666) rfl rfl rfl (by decide +kernel) ⟨Nat.le_of_ble_eq_true rfl, Nat.le_of_ble_eq_true rfl⟩) (hm_preV hK hV ((hm_up_ne _ _ (md_ap hk (i := 0) (j := 10) (by decide) (by decide) (by decide))).trans ((hm_up_ne _ _ (md_ap hk (i := 0) (j := 12) (by decide) (by decide) (by decide))).trans ((hm_up_ne _ _ (md_ap hk (i := 0) (j := 11) (by decide) (by decide) (by decide))).trans (md_x hk)))) rfl) rfl rfl hl.1 rfl (lv_room (Nat.le_of_ble_eq_true rfl)) dX4_minorOf_92 ⟨Nat.le_of_ble_eq_true rfl, Nat.le_of_ble_eq_true rfl⟩) hV hA (fun M1 H locs hp hV => ?_)
                rw [hTk] at hp
                subst hp
                rw [hm_u0] at hV
                have hV : hm_V E.1 vwCl (hm_A M sz) s.heap (hm_up (hm_up (hm_up M (A 11) (hm_I E 60 (fun j => nI (dg p9 j)))) (A 12) (hm_I E 60 (fun j => nI (dg q9 j)))) (A 10) (hm_I E 60 (fun b9 => nI (dg ((T Kc j).natAbs * (mnr T (st - 2 ^ j)).natAbs) b9)))) H locs := hV
                have hW := g49_mul (hTb Kc j) hm45
                generalize hWe : (T Kc j).natAbs * (mnr T (st - 2 ^ j)).natAbs = W9 at *
                have j144 : ∀ (y4 : Int32), (T Kc j * (dt_e (Kc - pcn st j) * mnr T (st - 2 ^ j)) = (if y4 = 0 then (W9 : Int) else -(W9 : Int))) → ∀ (ls : Array Slot) (H : Heap) (locs : List Loc), lv_has ls 9 [(0, .ref (A 0)), (1, .int (nI st)), (2, .int (nI Kc)), (3, .int (nI (pcn st j))), (4, .int (nI j))] → hm_V E.1 vwCl (hm_A M sz) s.heap (hm_up (hm_up (hm_up M (A 11) (hm_I E 60 (fun j => nI (dg p9 j)))) (A 12) (hm_I E 60 (fun j => nI (dg q9 j)))) (A 10) (hm_I E 60 (fun j => nI (dg W9 j)))) H locs → W p l e rm_X4_minorOf s m [.ref (A 0), .int (nI st)].toArray below meth c H locs 0 0 Qf (F0 m 144 ls [.int y4]) := by
                  intro y4 hy4 ls H locs hl hV
                  rw [hy4] at hsum
                  refine lv_istore (lv' := [(8, .int y4), (0, .ref (A 0)), (1, .int (nI st)), (2, .int (nI Kc)), (3, .int (nI (pcn st j))), (4, .int (nI j))]) hx hb dX4_minorOf_144 hl (by decide) rfl (fun ls hl => ?_)
                  refine lv_aload_n hx hb dX4_minorOf_146 rfl (lv_at hl 1 rfl) ?_
                  refine lv_iload hx hb dX4_minorOf_147 (lv_at hl 0 rfl) ?_
                  refine lv_if_eq (tgt := 159) hx hb dX4_minorOf_149 (by decide) (fun c149 => ?_) (fun c149 => ?_)
                  · rw [if_pos c149] at hsum
                    refine lv_aload_n hx hb dX4_minorOf_159 rfl (lv_at hl 1 rfl) ?_
                    refine hm_get (ci := 6) (v := .ref (A 11)) (C := RX4) (T := TX4) (N := 16) hx hb hws kin_X4 hown hK.1 hV ((hm_up_ne _ _ (md_ap hk (i := 0) (j := 10) (by decide) (by decide) (by decide))).trans ((hm_up_ne _ _ (md_ap hk (i := 0) (j := 12) (by decide) (by decide) (by decide))).trans ((hm_up_ne _ _ (md_ap hk (i := 0) (j := 11) (by decide) (by decide) (by decide))).trans (md_x hk)))) rfl 14 (by decide) fl43 (fun _ h9 => h9) rfl dX4_minorOf_160 ?_
                    refine lv_aload_n hx hb dX4_minorOf_163 rfl (lv_at hl 1 rfl) ?_
                    refine hm_get (ci := 6) (v := .ref (A 10)) (C := RX4) (T := TX4) (N := 16) hx hb hws kin_X4 hown hK.1 hV ((hm_up_ne _ _ (md_ap hk (i := 0) (j := 10) (by decide) (by decide) (by decide))).trans ((hm_up_ne _ _ (md_ap hk (i := 0) (j := 12) (by decide) (by decide) (by decide))).trans ((hm_up_ne _ _ (md_ap hk (i := 0) (j := 11) (by decide) (by decide) (by decide))).trans (md_x hk)))) rfl 13 (by decide) fl40 (fun _ h9 => h9) rfl dX4_minorOf_164 ?_
                    refine hm_callv (va_runV (As := [.ref (A 11), .ref (A 10)]) (rest := []) ⟨hx, hb, hml, hown, hts⟩ (c_X4_addTo l E (o := A 0) (v := p9) (u := W9) ((hm_up_ne _ _ (md_ap hk (i := 11) (j := 10) (by decide) (by decide) (by decide))).trans ((hm_up_ne _ _ (md_ap hk (i := 11) (j := 12) (by decide) (by decide) (by decide))).trans (hm_up_self _ _ _))) (hm_up_self _ _ _) (md_ap hk (i := 10) (j := 11) (by decide) (by decide) (by decide)) (by omega) (by omega) (by omega) H.size) (cwV 2 hts (hm_gV kw_667 kw_669 kw_35 kw_41 kw_670) rfl rfl rfl (by decide +kernel) ⟨Nat.le_of_ble_eq_true rfl, Nat.le_of_ble_eq_true rfl⟩) (hm_preV hK hV ((hm_up_ne _ _ (md_ap hk (i := 0) (j := 10) (by decide) (by decide) (by decide))).trans ((hm_up_ne _ _ (md_ap hk (i := 0) (j := 12) (by decide) (by decide) (by decide))).trans ((hm_up_ne _ _ (md_ap hk (i := 0) (j := 11) (by decide) (by decide) (by decide))).trans (md_x hk)))) rfl) rfl rfl hl.1 rfl (lv_room (Nat.le_of_ble_eq_true rfl)) dX4_minorOf_167 ⟨Nat.le_of_ble_eq_true rfl, Nat.le_of_ble_eq_true rfl⟩) hV hA (fun M1 H locs hp hV => ?_)
                    subst hp
                    rw [hm_u2 (md_ap hk (i := 12) (j := 11) (by decide) (by decide) (by decide)) (md_ap hk (i := 10) (j := 11) (by decide) (by decide) (by decide))] at hV
                    have hV : hm_V E.1 vwCl (hm_A M sz) s.heap (hm_up (hm_up (hm_up M (A 11) (hm_I E 60 (fun j => nI (dg (p9 + W9) j)))) (A 12) (hm_I E 60 (fun j => nI (dg q9 j)))) (A 10) (hm_I E 60 (fun j => nI (dg W9 j)))) H locs := hV
                    refine lv_iinc (v := (nI (pcn st j + 1))) (lv' := [(3, .int (nI (pcn st j + 1))), (8, .int y4), (0, .ref (A 0)), (1, .int (nI st)), (2, .int (nI Kc)), (4, .int (nI j))]) hx hb dX4_minorOf_170 hl (k := 4) rfl (nI_1 _) (by decide) rfl (fun ls hl => ?_)
                    refine lv_iinc (v := (nI (j + 1))) (lv' := [(4, .int (nI (j + 1))), (3, .int (nI (pcn st j + 1))), (8, .int y4), (0, .ref (A 0)), (1, .int (nI st)), (2, .int (nI Kc))]) hx hb dX4_minorOf_173 hl (k := 5) rfl (nI_1 j) (by decide) rfl (fun ls hl => ?_)
                    refine lv_goto (tgt := 40) hx hb dX4_minorOf_176 (by decide) ?_
                    rw [show (nI (pcn st j + 1)) = nI (pcn st (j + 1)) from by rw [hpj]] at hl
                    have hl : lv_has ls 9 [(4, .int (nI (j + 1))), (3, .int (nI (pcn st (j + 1)))), (8, .int y4), (0, .ref (A 0)), (1, .int (nI st)), (2, .int (nI Kc))] := hl
                    exact ih_main (j + 1) (p9 + W9) q9 _ (by omega) (show _ = _ by rw [hsum, ← hpq9]; omega) (by omega) (by omega) (by omega) ls H locs (lv_sub hl [3, 4, 5, 1, 0] rfl) hV
                  · rw [if_neg c149] at hsum
                    refine lv_aload_n hx hb dX4_minorOf_152 rfl (lv_at hl 1 rfl) ?_
                    refine hm_get (ci := 6) (v := .ref (A 12)) (C := RX4) (T := TX4) (N := 16) hx hb hws kin_X4 hown hK.1 hV ((hm_up_ne _ _ (md_ap hk (i := 0) (j := 10) (by decide) (by decide) (by decide))).trans ((hm_up_ne _ _ (md_ap hk (i := 0) (j := 12) (by decide) (by decide) (by decide))).trans ((hm_up_ne _ _ (md_ap hk (i := 0) (j := 11) (by decide) (by decide) (by decide))).trans (md_x hk)))) rfl 15 (by decide) fl46 (fun _ h9 => h9) rfl dX4_minorOf_153 ?_
                    refine lv_goto (tgt := 163) hx hb dX4_minorOf_156 (by decide) ?_
                    refine lv_aload_n hx hb dX4_minorOf_163 rfl (lv_at hl 1 rfl) ?_
                    refine hm_get (ci := 6) (v := .ref (A 10)) (C := RX4) (T := TX4) (N := 16) hx hb hws kin_X4 hown hK.1 hV ((hm_up_ne _ _ (md_ap hk (i := 0) (j := 10) (by decide) (by decide) (by decide))).trans ((hm_up_ne _ _ (md_ap hk (i := 0) (j := 12) (by decide) (by decide) (by decide))).trans ((hm_up_ne _ _ (md_ap hk (i := 0) (j := 11) (by decide) (by decide) (by decide))).trans (md_x hk)))) rfl 13 (by decide) fl40 (fun _ h9 => h9) rfl dX4_minorOf_164 ?_
                    refine hm_callv (va_runV (As := [.ref (A 12), .ref (A 10)]) (rest := []) ⟨hx, hb, hml, hown, hts⟩ (c_X4_addTo l E (o := A 0) (v := q9) (u := W9) ((hm_up_ne _ _ (md_ap hk (i := 12) (j := 10) (by decide) (by decide) (by decide))).trans (hm_up_self _ _ _)) (hm_up_self _ _ _) (md_ap hk (i := 10) (j := 12) (by decide) (by decide) (by decide)) (by omega) (by omega) (by omega) H.size) (cwV 2 hts (hm_gV kw_667 kw_669 kw_35 kw_41 kw_670) rfl rfl rfl (by decide +kernel) ⟨Nat.le_of_ble_eq_true rfl, Nat.le_of_ble_eq_true rfl⟩) (hm_preV hK hV ((hm_up_ne _ _ (md_ap hk (i := 0) (j := 10) (by decide) (by decide) (by decide))).trans ((hm_up_ne _ _ (md_ap hk (i := 0) (j := 12) (by decide) (by decide) (by decide))).trans ((hm_up_ne _ _ (md_ap hk (i := 0) (j := 11) (by decide) (by decide) (by decide))).trans (md_x hk)))) rfl) rfl rfl hl.1 rfl (lv_room (Nat.le_of_ble_eq_true rfl)) dX4_minorOf_167 ⟨Nat.le_of_ble_eq_true rfl, Nat.le_of_ble_eq_true rfl⟩) hV hA (fun M1 H locs hp hV => ?_)
                    subst hp
                    rw [hm_u1 (md_ap hk (i := 10) (j := 12) (by decide) (by decide) (by decide))] at hV
                    have hV : hm_V E.1 vwCl (hm_A M sz) s.heap (hm_up (hm_up (hm_up M (A 11) (hm_I E 60 (fun j => nI (dg p9 j)))) (A 12) (hm_I E 60 (fun j => nI (dg (q9 + W9) j)))) (A 10) (hm_I E 60 (fun j => nI (dg W9 j)))) H locs := hV
                    refine lv_iinc (v := (nI (pcn st j + 1))) (lv' := [(3, .int (nI (pcn st j + 1))), (8, .int y4), (0, .ref (A 0)), (1, .int (nI st)), (2, .int (nI Kc)), (4, .int (nI j))]) hx hb dX4_minorOf_170 hl (k := 4) rfl (nI_1 _) (by decide) rfl (fun ls hl => ?_)
                    refine lv_iinc (v := (nI (j + 1))) (lv' := [(4, .int (nI (j + 1))), (3, .int (nI (pcn st j + 1))), (8, .int y4), (0, .ref (A 0)), (1, .int (nI st)), (2, .int (nI Kc))]) hx hb dX4_minorOf_173 hl (k := 5) rfl (nI_1 j) (by decide) rfl (fun ls hl => ?_)
                    refine lv_goto (tgt := 40) hx hb dX4_minorOf_176 (by decide) ?_
                    rw [show (nI (pcn st j + 1)) = nI (pcn st (j + 1)) from by rw [hpj]] at hl
                    have hl : lv_has ls 9 [(4, .int (nI (j + 1))), (3, .int (nI (pcn st (j + 1)))), (8, .int y4), (0, .ref (A 0)), (1, .int (nI st)), (2, .int (nI Kc))] := hl
                    exact ih_main (j + 1) p9 (q9 + W9) _ (by omega) (show _ = _ by rw [hsum, ← hpq9]; omega) (by omega) (by omega) (by omega) ls H locs (lv_sub hl [3, 4, 5, 1, 0] rfl) hV
                have j107 : ∀ (y1 : Int32), (y1 = (if T Kc j < 0 then 1 else 0)) → ∀ (ls : Array Slot) (H : Heap) (locs : List Loc), lv_has ls 9 [(0, .ref (A 0)), (1, .int (nI st)), (2, .int (nI Kc)), (3, .int (nI (pcn st j))), (4, .int (nI j)), (5, .int (nI (st - 2 ^ j)))] → hm_V E.1 vwCl (hm_A M sz) s.heap (hm_up (hm_up (hm_up M (A 11) (hm_I E 60 (fun j => nI (dg p9 j)))) (A 12) (hm_I E 60 (fun j => nI (dg q9 j)))) (A 10) (hm_I E 60 (fun j => nI (dg W9 j)))) H locs → W p l e rm_X4_minorOf s m [.ref (A 0), .int (nI st)].toArray below meth c H locs 0 0 Qf (F0 m 107 ls [.int y1]) := by
                  intro y1 hy1 ls H locs hl hV
                  have j122 : ∀ (y2 : Int32), (y2 = (if y1 = mb (st - 2 ^ j) then 0 else 1)) → ∀ (ls : Array Slot) (H : Heap) (locs : List Loc), lv_has ls 9 [(0, .ref (A 0)), (1, .int (nI st)), (2, .int (nI Kc)), (3, .int (nI (pcn st j))), (4, .int (nI j))] → hm_V E.1 vwCl (hm_A M sz) s.heap (hm_up (hm_up (hm_up M (A 11) (hm_I E 60 (fun j => nI (dg p9 j)))) (A 12) (hm_I E 60 (fun j => nI (dg q9 j)))) (A 10) (hm_I E 60 (fun j => nI (dg W9 j)))) H locs → W p l e rm_X4_minorOf s m [.ref (A 0), .int (nI st)].toArray below meth c H locs 0 0 Qf (F0 m 122 ls [.int y2]) := by
                    intro y2 hy2 ls H locs hl hV
                    have j136 : ∀ (y3 : Int32), (y3 = (if (Kc - pcn st j) % 2 = 1 then 1 else 0)) → ∀ (ls : Array Slot) (H : Heap) (locs : List Loc), lv_has ls 9 [(0, .ref (A 0)), (1, .int (nI st)), (2, .int (nI Kc)), (3, .int (nI (pcn st j))), (4, .int (nI j))] → hm_V E.1 vwCl (hm_A M sz) s.heap (hm_up (hm_up (hm_up M (A 11) (hm_I E 60 (fun j => nI (dg p9 j)))) (A 12) (hm_I E 60 (fun j => nI (dg q9 j)))) (A 10) (hm_I E 60 (fun j => nI (dg W9 j)))) H locs → W p l e rm_X4_minorOf s m [.ref (A 0), .int (nI st)].toArray below meth c H locs 0 0 Qf (F0 m 136 ls [.int y3, .int y2]) := by
                      intro y3 hy3 ls H locs hl hV
                      refine lv_icmp_eq (tgt := 143) hx hb dX4_minorOf_136 (by decide) (fun c136 => ?_) (fun c136 => ?_)
                      · refine lv_iconst (v := 0) hx hb dX4_minorOf_143 (by decide) ?_
                        exact j144 0 (by rw [sg3 hy1 hr9 hy2 hy3 (y4 := 0) (by rw [if_pos c136]), hWe]) ls H locs (lv_sub hl [0, 1, 2, 3, 4] rfl) hV
                      · refine lv_iconst (v := 1) hx hb dX4_minorOf_139 (by decide) ?_
                        refine lv_goto (tgt := 144) hx hb dX4_minorOf_140 (by decide) ?_
                        exact j144 1 (by rw [sg3 hy1 hr9 hy2 hy3 (y4 := 1) (by rw [if_neg c136]), hWe]) ls H locs (lv_sub hl [0, 1, 2, 3, 4] rfl) hV
                    refine lv_iload_n hx hb dX4_minorOf_122 rfl (lv_at hl 2 rfl) ?_
                    refine lv_iload_n hx hb dX4_minorOf_123 rfl (lv_at hl 3 rfl) ?_
                    refine lv_isub hx hb dX4_minorOf_124 ?_
                    refine hm_topi (show ((nI Kc) - (nI (pcn st j))) = nI (Kc - pcn st j) from pk_sub (by omega)) ?_
                    refine lv_iconst (v := 2) hx hb dX4_minorOf_125 (by decide) ?_
                    refine lv_irem hx hb dX4_minorOf_126 (by decide) ?_
                    refine hm_topi (show ((nI (Kc - pcn st j)) - (nI (Kc - pcn st j)) / 2 * 2) = nI ((Kc - pcn st j) % 2) from nI_rem2 (by omega)) ?_
                    refine lv_iconst (v := 1) hx hb dX4_minorOf_127 (by decide) ?_
                    refine lv_icmp_ne (tgt := 135) hx hb dX4_minorOf_128 (by decide) (fun c128 => ?_) (fun c128 => ?_)
                    · refine lv_iconst (v := 0) hx hb dX4_minorOf_135 (by decide) ?_
                      exact j136 0 (by rw [if_neg (fun h9 => c128 (by rw [h9]; rfl))]) ls H locs (lv_sub hl [0, 1, 2, 3, 4] rfl) hV
                    · refine lv_iconst (v := 1) hx hb dX4_minorOf_131 (by decide) ?_
                      refine lv_goto (tgt := 136) hx hb dX4_minorOf_132 (by decide) ?_
                      exact j136 1 (by rw [if_pos ((nI_eq (b := 1) (by omega) (by omega)).mp c128)]) ls H locs (lv_sub hl [0, 1, 2, 3, 4] rfl) hV
                  refine lv_aload_n hx hb dX4_minorOf_107 rfl (lv_at hl 0 rfl) ?_
                  refine hm_get (ci := 6) (v := .ref (A 9)) (C := RX4) (T := TX4) (N := 16) hx hb hws kin_X4 hown hK.1 hV ((hm_up_ne _ _ (md_ap hk (i := 0) (j := 10) (by decide) (by decide) (by decide))).trans ((hm_up_ne _ _ (md_ap hk (i := 0) (j := 12) (by decide) (by decide) (by decide))).trans ((hm_up_ne _ _ (md_ap hk (i := 0) (j := 11) (by decide) (by decide) (by decide))).trans (md_x hk)))) rfl 12 (by decide) fl37 (fun _ h9 => h9) rfl dX4_minorOf_108 ?_
                  refine lv_iload hx hb dX4_minorOf_111 (lv_at hl 5 rfl) ?_
                  refine hm_zaldN hx hb hK.1 hV 2 ((hm_up_ne _ _ (md_ap hk (i := 9) (j := 10) (by decide) (by decide) (by decide))).trans ((hm_up_ne _ _ (md_ap hk (i := 9) (j := 12) (by decide) (by decide) (by decide))).trans ((hm_up_ne _ _ (md_ap hk (i := 9) (j := 11) (by decide) (by decide) (by decide))).trans h9))) rfl (k := (st - 2 ^ j)) (by omega) (by omega) dX4_minorOf_113 ?_
                  refine lv_icmp_eq (tgt := 121) hx hb dX4_minorOf_114 (by decide) (fun c114 => ?_) (fun c114 => ?_)
                  · refine lv_iconst (v := 0) hx hb dX4_minorOf_121 (by decide) ?_
                    exact j122 0 (by rw [if_pos c114]) ls H locs (lv_sub hl [0, 1, 2, 3, 4] rfl) hV
                  · refine lv_iconst (v := 1) hx hb dX4_minorOf_117 (by decide) ?_
                    refine lv_goto (tgt := 122) hx hb dX4_minorOf_118 (by decide) ?_
                    exact j122 1 (by rw [if_neg c114]) ls H locs (lv_sub hl [0, 1, 2, 3, 4] rfl) hV
                refine lv_lload hx hb dX4_minorOf_95 (lv_at hl 0 rfl) ?_
                refine lv_lconst (v := 0) hx hb dX4_minorOf_97 (by decide) ?_
                refine W.lcmp hx hb dX4_minorOf_98 ?_
                refine lv_if_ge (tgt := 106) hx hb dX4_minorOf_99 (by decide) (fun c99 => ?_) (fun c99 => ?_)
                · have hv0 : ¬ T Kc j < 0 := by
                    rw [← hTk]
                    have := Int64.le_iff_toInt_le.mp ((lg_cmp_ge (t Kc j) 0).mp c99)
                    simpa using this
                  refine lv_iconst (v := 0) hx hb dX4_minorOf_106 (by decide) ?_
                  exact j107 0 (by rw [if_neg hv0]) ls H locs (lv_sub hl [2, 3, 4, 5, 6, 1] rfl) hV
                · have hv0 : T Kc j < 0 := by
                    rw [← hTk]
                    have h8 : ¬ (0 : Int64) ≤ t Kc j := fun q => c99 ((lg_cmp_ge _ 0).mpr q)
                    have := Int64.lt_iff_toInt_lt.mp (Int64.not_le.mp h8); simpa using this
                  refine lv_iconst (v := 1) hx hb dX4_minorOf_102 (by decide) ?_
                  refine lv_goto (tgt := 107) hx hb dX4_minorOf_103 (by decide) ?_
                  exact j107 1 (by rw [if_pos hv0]) ls H locs (lv_sub hl [2, 3, 4, 5, 6, 1] rfl) hV
              · have hbit : ¬ st / 2 ^ j % 2 = 1 := fun h9 => by rw [h9] at c53; exact absurd c53 (by decide)
                rw [if_neg hbit, Int.add_zero] at hsum
                have hpj : pcn st (j + 1) = pcn st j := by rw [pcn]; omega
                refine lv_goto (tgt := 173) hx hb dX4_minorOf_56 (by decide) ?_
                refine lv_iinc (v := (nI (j + 1))) (lv' := [(4, .int (nI (j + 1))), (0, .ref (A 0)), (1, .int (nI st)), (2, .int (nI Kc)), (3, .int (nI (pcn st j)))]) hx hb dX4_minorOf_173 hl (k := 4) rfl (nI_1 j) (by decide) rfl (fun ls hl => ?_)
                refine lv_goto (tgt := 40) hx hb dX4_minorOf_176 (by decide) ?_
                rw [show (nI (pcn st j)) = nI (pcn st (j + 1)) from by rw [hpj]] at hl
                have hl : lv_has ls 9 [(4, .int (nI (j + 1))), (0, .ref (A 0)), (1, .int (nI st)), (2, .int (nI Kc)), (3, .int (nI (pcn st (j + 1))))] := hl
                exact ih_main (j + 1) p9 q9 _ (by omega) (show _ = _ by rw [hsum]; exact hpq) (by omega) (by omega) (by omega) ls H locs (lv_sub hl [1, 2, 3, 4, 0] rfl) hV
        exact main 13 0 0 0 _ (by omega) (show _ = _ from rfl) (by omega) (by omega) (by omega) ls H locs (lv_sub hl [2, 3, 4, 1, 0] rfl) hV
      · have hi2 : i < 60 := by
          rcases Nat.lt_or_ge i 60 with q | q
          · exact q
          · exact absurd (nI_le (a := 60) (b := i) q (by omega)) c12
        refine lv_aload_n hx hb dX4_minorOf_15 rfl (lv_at hl 0 rfl) ?_
        refine hm_get (ci := 6) (v := .ref (A 11)) (C := RX4) (T := TX4) (N := 16) hx hb hws kin_X4 hown hK.1 hV ((hm_up_ne _ _ (md_ap hk (i := 0) (j := 10) (by decide) (by decide) (by decide))).trans ((hm_up_ne _ _ (md_ap hk (i := 0) (j := 12) (by decide) (by decide) (by decide))).trans ((hm_up_ne _ _ (md_ap hk (i := 0) (j := 11) (by decide) (by decide) (by decide))).trans (md_x hk)))) rfl 14 (by decide) fl43 (fun _ h9 => h9) rfl dX4_minorOf_16 ?_
        refine lv_iload_n hx hb dX4_minorOf_19 rfl (lv_at hl 3 rfl) ?_
        refine lv_iconst (v := 0) hx hb dX4_minorOf_20 (by decide) ?_
        refine hm_iastN hx hb hK.1 hV 0 ((hm_up_ne _ _ (md_ap hk (i := 11) (j := 10) (by decide) (by decide) (by decide))).trans ((hm_up_ne _ _ (md_ap hk (i := 11) (j := 12) (by decide) (by decide) (by decide))).trans (hm_up_self _ _ _))) rfl (k := i) (by omega) (by omega) dX4_minorOf_21 (fun H locs hV => ?_)
        rw [show (upd (fun j => if j < i then nI 0 else f11 j) i 0) = (fun j => if j < i + 1 then nI 0 else f11 j) from clr_up f11 i] at hV
        rw [hm_u2 (md_ap hk (i := 12) (j := 11) (by decide) (by decide) (by decide)) (md_ap hk (i := 10) (j := 11) (by decide) (by decide) (by decide))] at hV
        have hV : hm_V E.1 vwCl (hm_A M sz) s.heap (hm_up (hm_up (hm_up M (A 11) (hm_I E 60 (fun j => if j < i + 1 then nI 0 else f11 j))) (A 12) (hm_I E 60 (fun j => if j < i then nI 0 else f12 j))) (A 10) (hm_I E 60 f10)) H locs := hV
        refine lv_aload_n hx hb dX4_minorOf_22 rfl (lv_at hl 0 rfl) ?_
        refine hm_get (ci := 6) (v := .ref (A 12)) (C := RX4) (T := TX4) (N := 16) hx hb hws kin_X4 hown hK.1 hV ((hm_up_ne _ _ (md_ap hk (i := 0) (j := 10) (by decide) (by decide) (by decide))).trans ((hm_up_ne _ _ (md_ap hk (i := 0) (j := 12) (by decide) (by decide) (by decide))).trans ((hm_up_ne _ _ (md_ap hk (i := 0) (j := 11) (by decide) (by decide) (by decide))).trans (md_x hk)))) rfl 15 (by decide) fl46 (fun _ h9 => h9) rfl dX4_minorOf_23 ?_
        refine lv_iload_n hx hb dX4_minorOf_26 rfl (lv_at hl 3 rfl) ?_
        refine lv_iconst (v := 0) hx hb dX4_minorOf_27 (by decide) ?_
        refine hm_iastN hx hb hK.1 hV 0 ((hm_up_ne _ _ (md_ap hk (i := 12) (j := 10) (by decide) (by decide) (by decide))).trans (hm_up_self _ _ _)) rfl (k := i) (by omega) (by omega) dX4_minorOf_28 (fun H locs hV => ?_)
        rw [show (upd (fun j => if j < i then nI 0 else f12 j) i 0) = (fun j => if j < i + 1 then nI 0 else f12 j) from clr_up f12 i] at hV
        rw [hm_u1 (md_ap hk (i := 10) (j := 12) (by decide) (by decide) (by decide))] at hV
        have hV : hm_V E.1 vwCl (hm_A M sz) s.heap (hm_up (hm_up (hm_up M (A 11) (hm_I E 60 (fun j => if j < i + 1 then nI 0 else f11 j))) (A 12) (hm_I E 60 (fun j => if j < i + 1 then nI 0 else f12 j))) (A 10) (hm_I E 60 f10)) H locs := hV
        refine lv_iinc (v := (nI (i + 1))) (lv' := [(3, .int (nI (i + 1))), (0, .ref (A 0)), (1, .int (nI st)), (2, .int (nI Kc))]) hx hb dX4_minorOf_29 hl (k := 3) rfl (nI_1 i) (by decide) rfl (fun ls hl => ?_)
        refine lv_goto (tgt := 9) hx hb dX4_minorOf_32 (by decide) ?_
        exact ih_clr (i + 1) (by omega) (by omega) ls H locs (lv_sub hl [1, 2, 3, 0] rfl) hV
  exact clr 61 0 (by omega) (by omega) ls H locs (lv_sub hl [2, 3, 1, 0] rfl) hV

abbrev wd_X4_determinant : List Cond := .code yX4_determinant cX4_determinant 4 (some .int) :: hm_ws
abbrev rm_X4_determinant : Room := { frames := 2, cells := 0, slots := 0, locals := 62 }

set_option maxHeartbeats 4000000 in
set_option maxRecDepth 100000 in
/-- determinant(size) -/
theorem c_X4_determinant (l : Launch) (E : hm_E) {M : hm_M} {A : Nat → Nat} {th : Int32} {cnt k ko : Nat} {nums : Nat → Int} {t : Nat → Nat → Int64} {X O : Nat → Int32} {a : Int32} (hk : md E M A th cnt k ko nums t X O)  : hm_Ci l E yX4_determinant wd_X4_determinant rm_X4_determinant [.ref (A 0), .int a] M (fun r M1 => ∃ cnt1 nums1, kp cnt nums (spD t a) r cnt1 nums1 ∧ mq E M1 A 0 cnt1 nums1 t) := by
  intro sz
  refine Met.ofW (cc := cX4_determinant) (maxL := 4) (ret := (some .int)) (by decide) rfl ?_
  intro p e s m args below meth c s₁ B hml hv
  obtain ⟨rfl, hAe, hA, hK, hV⟩ := hm_start hv
  have hx := B.exec
  have hb := B.bytes
  have hr := B.returns
  have hts := atoms_spec (ws := wd_X4_determinant) B.pre
  have hws : ∀ w ∈ hm_ws, w.before _ s = true := fun w h => hts w (List.mem_cons_of_mem _ h)
  have hown : s.vm.findClass RX4 = some m.cls := findClass_of_methodNamed B.named
  have hlocks := B.notSynchronized
  have fl49 := hws _ kw_479
  have fl34 := hws _ kw_490
  have fl37 := hws _ kw_491
  have fl24 := hws _ kw_485
  have fl64 := hws _ kw_486
  have hl := lv_entry ([.ref (A 0), .int a]) (n := 4) (Nat.le_of_ble_eq_true rfl)
  rw [lg_entry_eq]
  generalize (lg_sl ([.ref (A 0), .int a]) ++ List.replicate (4 - (lg_sl ([.ref (A 0), .int a])).length) Slot.unset).toArray = ls at hl ⊢
  have hl : lv_has ls 4 [(0, .ref (A 0)), (1, .int a)] := hl
  refine hm_gen (rm := rm_X4_determinant) rfl (fun Qf hQf => ?_)
  refine lv_aload_n hx hb dX4_determinant_0 rfl (lv_at hl 0 rfl) ?_
  refine lv_iconst (v := 0) hx hb dX4_determinant_1 (by decide) ?_
  refine hm_put (ci := 6) (v := .int 0) (ty := .int) (C := RX4) (T := TX4) (N := 16) hx hb hws kin_X4 tyX4 tyX4_ok nmX4 hown hK.1 hV (md_x hk) rfl 0 (by decide) fl49 (fun _ h9 => h9) rfl (by decide +kernel) rfl rfl (Nat.le_of_ble_eq_true rfl) dX4_determinant_2 (fun H locs hV => ?_)
  have hV : hm_V E.1 vwCl (hm_A M sz) s.heap (hm_up M (A 0) (.inr (6, [.int 0, .int (nI cnt), .ref (A 1), .ref (A 2), .ref (A 3), .ref (A 4), .ref (A 5), .int (nI k), .ref (A 6), .int (nI ko), .ref (A 7), .ref (A 8), .ref (A 9), .ref (A 10), .ref (A 11), .ref (A 12)]))) H locs := hV
  obtain ⟨N0, hN0⟩ : ∃ N9 : hm_M, N9 = hm_up M (A 0) (.inr (6, [.int 0, .int (nI cnt), .ref (A 1), .ref (A 2), .ref (A 3), .ref (A 4), .ref (A 5), .int (nI k), .ref (A 6), .int (nI ko), .ref (A 7), .ref (A 8), .ref (A 9), .ref (A 10), .ref (A 11), .ref (A 12)])) := ⟨_, rfl⟩
  have hk : md E (hm_up M (A 0) (.inr (6, [.int 0, .int (nI cnt), .ref (A 1), .ref (A 2), .ref (A 3), .ref (A 4), .ref (A 5), .int (nI k), .ref (A 6), .int (nI ko), .ref (A 7), .ref (A 8), .ref (A 9), .ref (A 10), .ref (A 11), .ref (A 12)]))) A 0 cnt k ko nums t X O := md_ux hk 0 k ko
  rw [← hN0] at hk hV
  have no : (a < 0 ∨ 12 < a) → ∀ (ls : Array Slot) (H : Heap) (locs : List Loc), lv_has ls 4 [(0, .ref (A 0)), (1, .int a)] → hm_V E.1 vwCl (hm_A M sz) s.heap (N0) H locs → W p l e rm_X4_determinant s m [.ref (A 0), .int a].toArray below meth c H locs 0 0 Qf (F0 m 15 ls []) := by
    intro  hno ls H locs hl hV
    rw [show spD t a = none from if_pos hno] at hQf
    refine lv_iconst (v := (-1)) hx hb dX4_determinant_15 (by decide) ?_
    rw [hQf]
    exact W.iret hx hb hr (fun t9 ht hW => ⟨⟨_, N0, rfl, ⟨cnt, nums, kp_none, _, _, _, _, hk⟩, (hm_end hV ht).1⟩, (hm_end hV ht).2⟩) hV.2.2.2.2 dX4_determinant_16
  refine lv_iload_n hx hb dX4_determinant_5 rfl (lv_at hl 1 rfl) ?_
  refine lv_if_lt (tgt := 15) hx hb dX4_determinant_6 (by decide) (fun c6 => ?_) (fun c6 => ?_)
  · exact no (Or.inl c6) ls H locs (lv_sub hl [0, 1] rfl) hV
  · refine lv_iload_n hx hb dX4_determinant_9 rfl (lv_at hl 1 rfl) ?_
    refine lv_bipush (v := 12) hx hb dX4_determinant_10 (by decide) ?_
    refine lv_icmp_le (tgt := 17) hx hb dX4_determinant_12 (by decide) (fun c12 => ?_) (fun c12 => ?_)
    · obtain ⟨n, hn, rfl⟩ := nI_of2 (M := 12) (n := 12) rfl c6 c12
      rw [spD_n hn] at hQf
      obtain ⟨mi, mb, h8, h9, hmi⟩ := md_m hk
      have h2n : 2 ^ n ≤ 4096 := Nat.pow_le_pow_right (n := 2) (by decide) (show n ≤ 12 from hn)
      have h2p : 0 < 2 ^ n := Nat.pow_pos (by decide)
      have hl : lv_has ls 4 [(0, .ref (A 0)), (1, .int (nI n))] := hl
      have hV : hm_V E.1 vwCl (hm_A M sz) s.heap (hm_up N0 (A 8) (hm_I E 212992 (fun j => nI (if j < 0 then dg 1 j else mi j)))) H locs := by rw [hm_up_id ((h8).trans (congrArg (fun f9 => some (hm_I E 212992 f9)) (nu_up0 (dg 1) mi)))]; exact hV
      refine lv_iconst (v := 0) hx hb dX4_determinant_17 (by decide) ?_
      refine lv_istore_n (lv' := [(2, .int 0), (0, .ref (A 0)), (1, .int (nI n))]) hx hb dX4_determinant_18 rfl hl (by decide) rfl (fun ls hl => ?_)
      have first : ∀ (fu : Nat) (i : Nat), (i ≤ 52) → 52 - i < fu → ∀ (ls : Array Slot) (H : Heap) (locs : List Loc), lv_has ls 4 [(0, .ref (A 0)), (1, .int (nI n)), (2, .int (nI i))] → hm_V E.1 vwCl (hm_A M sz) s.heap (hm_up N0 (A 8) (hm_I E 212992 (fun j => nI (if j < i then dg 1 j else mi j)))) H locs → W p l e rm_X4_determinant s m [.ref (A 0), .int (nI n)].toArray below meth c H locs 0 0 Qf (F0 m 19 ls []) := by
        intro fu
        induction fu with
        | zero => intro i hi hfu; exact absurd hfu (Nat.not_lt_zero _)
        | succ fu ih_first =>
          intro i hi hfu ls H locs hl hV
          refine lv_iload_n hx hb dX4_determinant_19 rfl (lv_at hl 2 rfl) ?_
          refine lv_bipush (v := 52) hx hb dX4_determinant_20 (by decide) ?_
          refine lv_icmp_ge (tgt := 46) hx hb dX4_determinant_22 (by decide) (fun c22 => ?_) (fun c22 => ?_)
          · have hi2 : i = 52 := by
              rcases Nat.lt_or_ge i 52 with q | q
              · exact absurd c22 (nI_ge (a := i) (b := 52) q (by omega))
              · omega
            rw [hi2] at hV
            refine lv_aload_n hx hb dX4_determinant_46 rfl (lv_at hl 0 rfl) ?_
            refine hm_get (ci := 6) (v := .ref (A 9)) (C := RX4) (T := TX4) (N := 16) hx hb hws kin_X4 hown hK.1 hV ((hm_up_ne _ _ (md_ap hk (i := 0) (j := 8) (by decide) (by decide) (by decide))).trans (md_x hk)) rfl 12 (by decide) fl37 (fun _ h9 => h9) rfl dX4_determinant_47 ?_
            refine lv_iconst (v := 0) hx hb dX4_determinant_50 (by decide) ?_
            refine lv_iconst (v := 0) hx hb dX4_determinant_51 (by decide) ?_
            refine hm_zastN hx hb hK.1 hV 2 ((hm_up_ne _ _ (md_ap hk (i := 9) (j := 8) (by decide) (by decide) (by decide))).trans h9) rfl (k := 0) (by omega) (by omega) (rfl) dX4_determinant_52 (fun H locs hV => ?_)
            have hV : hm_V E.1 vwCl (hm_A M sz) s.heap (hm_up (hm_up N0 (A 8) (hm_I E 212992 (fun j => nI (if j < 52 then dg 1 j else mi j)))) (A 9) (hm_Z E 4096 (upd mb 0 0))) H locs := hV
            obtain ⟨N1, hN1⟩ : ∃ N9 : hm_M, N9 = hm_up (hm_up N0 (A 8) (hm_I E 212992 (fun j => nI (if j < 52 then dg 1 j else mi j)))) (A 9) (hm_Z E 4096 (upd mb 0 0)) := ⟨_, rfl⟩
            have hmi1 : ∀ j, (if j < 52 then dg 1 j else mi j) < 65536 := fun j => by
              split
              · exact dg_lt 1 j
              · exact hmi j
            have hk : md E (hm_up (hm_up N0 (A 8) (hm_I E 212992 (fun j => nI (if j < 52 then dg 1 j else mi j)))) (A 9) (hm_Z E 4096 (upd mb 0 0))) A 0 cnt k ko nums t X O := md_u9 (md_u8 hk hmi1) _
            have h8 : (hm_up (hm_up N0 (A 8) (hm_I E 212992 (fun j => nI (if j < 52 then dg 1 j else mi j)))) (A 9) (hm_Z E 4096 (upd mb 0 0)) : hm_M) (A 8) = some (hm_I E 212992 (fun j => nI (if j < 52 then dg 1 j else mi j))) := ((hm_up_ne _ _ (md_ap hk (i := 8) (j := 9) (by decide) (by decide) (by decide))).trans (hm_up_self _ _ _))
            have h9 : (hm_up (hm_up N0 (A 8) (hm_I E 212992 (fun j => nI (if j < 52 then dg 1 j else mi j)))) (A 9) (hm_Z E 4096 (upd mb 0 0)) : hm_M) (A 9) = some (hm_Z E 4096 (upd mb 0 0)) := (hm_up_self _ _ _)
            rw [← hN1] at hk hV h8 h9
            have hrow : mr_ok (fun r c => (t r c).toInt) (fun j => if j < 52 then dg 1 j else mi j) (upd mb 0 0) 1 := mr_one (fun j hj => if_pos hj) (by simp [upd])
            refine lv_iconst (v := 1) hx hb dX4_determinant_53 (by decide) ?_
            refine lv_istore_n (lv' := [(2, .int 1), (0, .ref (A 0)), (1, .int (nI n))]) hx hb dX4_determinant_54 rfl hl (by decide) rfl (fun ls hl => ?_)
            have sets : ∀ (fu : Nat) (N : hm_M) (st : Nat) (mi : Nat → Nat) (mb : Nat → Int32), (1 ≤ st) → (st ≤ 2 ^ n) → (md E N A 0 cnt k ko nums t X O) → (N (A 8) = some (hm_I E 212992 (fun j => nI (mi j)))) → (N (A 9) = some (hm_Z E 4096 mb)) → (∀ j, mi j < 65536) → (mr_ok (fun r c => (t r c).toInt) mi mb st) → 2 ^ n - st < fu → ∀ (ls : Array Slot) (H : Heap) (locs : List Loc), lv_has ls 4 [(0, .ref (A 0)), (1, .int (nI n)), (2, .int (nI st))] → hm_V E.1 vwCl (hm_A M sz) s.heap (N) H locs → W p l e rm_X4_determinant s m [.ref (A 0), .int (nI n)].toArray below meth c H locs 0 0 Qf (F0 m 55 ls []) := by
              intro fu
              induction fu with
              | zero => intro N st mi mb hs1 hs2 hk h8 h9 hmi hrow hfu; exact absurd hfu (Nat.not_lt_zero _)
              | succ fu ih_sets =>
                intro N st mi mb hs1 hs2 hk h8 h9 hmi hrow hfu ls H locs hl hV
                refine lv_iload_n hx hb dX4_determinant_55 rfl (lv_at hl 2 rfl) ?_
                refine lv_iconst (v := 1) hx hb dX4_determinant_56 (by decide) ?_
                refine lv_iload_n hx hb dX4_determinant_57 rfl (lv_at hl 1 rfl) ?_
                refine lv_ishl hx hb dX4_determinant_58 ?_
                refine hm_topi (show (1 <<< ((nI n) &&& 31)) = nI (2 ^ n) from shl12 _ hn) ?_
                refine lv_icmp_ge (tgt := 73) hx hb dX4_determinant_59 (by decide) (fun c59 => ?_) (fun c59 => ?_)
                · have hst : st = (2 ^ n) := by
                    rcases Nat.lt_or_ge st (2 ^ n) with q | q
                    · exact absurd c59 (nI_ge (a := st) (b := (2 ^ n)) q (by omega))
                    · omega
                  obtain ⟨hr8, hr9⟩ := hrow (2 ^ n - 1) (by omega)
                  rw [mnr_all hn] at hr8 hr9
                  have hDb : (dt_D n (fun r c => (t r c).toInt)).natAbs < 65536 ^ 50 := by rw [← mnr_all hn]; exact mnr_le (t_abs t) _
                  generalize hDe : dt_D n (fun r c => (t r c).toInt) = D at *
                  have hD52 : D.natAbs < 65536 ^ 52 := Nat.lt_of_lt_of_le hDb (w16_le (by decide))
                  have hD220 : D.natAbs < 65536 ^ 220 := Nat.lt_of_lt_of_le hDb (w16_le (by decide))
                  refine lv_iconst (v := 1) hx hb dX4_determinant_73 (by decide) ?_
                  refine lv_iload_n hx hb dX4_determinant_74 rfl (lv_at hl 1 rfl) ?_
                  refine lv_ishl hx hb dX4_determinant_75 ?_
                  refine hm_topi (show (1 <<< ((nI n) &&& 31)) = nI (2 ^ n) from shl12 _ hn) ?_
                  refine lv_iconst (v := 1) hx hb dX4_determinant_76 (by decide) ?_
                  refine lv_isub hx hb dX4_determinant_77 ?_
                  refine hm_topi (show ((nI (2 ^ n)) - 1) = nI (2 ^ n - 1) from nI_p1 h2p) ?_
                  refine lv_istore_n (lv' := [(2, .int (nI (2 ^ n - 1))), (0, .ref (A 0)), (1, .int (nI n))]) hx hb dX4_determinant_78 rfl hl (by decide) rfl (fun ls hl => ?_)
                  refine lv_aload_n hx hb dX4_determinant_79 rfl (lv_at hl 1 rfl) ?_
                  refine lv_aload_n hx hb dX4_determinant_80 rfl (lv_at hl 1 rfl) ?_
                  refine hm_get (ci := 6) (v := .ref (A 5)) (C := RX4) (T := TX4) (N := 16) hx hb hws kin_X4 hown hK.1 hV (md_x hk) rfl 6 (by decide) fl24 (fun _ h9 => h9) rfl dX4_determinant_81 ?_
                  refine hm_callv (va_runV (As := [.ref (A 5)]) (rest := []) ⟨hx, hb, hml, hown, hts⟩ (c_X4_clear l E (md_w hk) H.size) (cwV 1 hts (hm_gV kw_541 kw_543 kw_18 kw_41 kw_544) rfl rfl rfl (by decide +kernel) ⟨Nat.le_of_ble_eq_true rfl, Nat.le_of_ble_eq_true rfl⟩) (hm_preV hK hV (md_x hk) rfl) rfl rfl hl.1 rfl (lv_room (Nat.le_of_ble_eq_true rfl)) dX4_determinant_84 ⟨Nat.le_of_ble_eq_true rfl, Nat.le_of_ble_eq_true rfl⟩) hV hA (fun M1 H locs hp hV => ?_)
                  subst hp
                  have hV : hm_V E.1 vwCl (hm_A M sz) s.heap (hm_up N (A 5) (hm_I E 220 (fun j => nI (dg 0 j)))) H locs := hV
                  have hV : hm_V E.1 vwCl (hm_A M sz) s.heap (hm_up (hm_up N (A 5) (hm_I E 220 (fun j => nI (dg 0 j)))) (A 5) (hm_I E 220 (fun j => nI (if j < 0 then dg D.natAbs j else dg 0 j)))) H locs := by rw [hm_up_id (((hm_up_self _ _ _)).trans (congrArg (fun f9 => some (hm_I E 220 f9)) (nu_up0 (dg D.natAbs) (dg 0))))]; exact hV
                  rw [hm_up_up] at hV
                  refine lv_iconst (v := 0) hx hb dX4_determinant_87 (by decide) ?_
                  refine lv_istore_n (lv' := [(3, .int 0), (2, .int (nI (2 ^ n - 1))), (0, .ref (A 0)), (1, .int (nI n))]) hx hb dX4_determinant_88 rfl hl (by decide) rfl (fun ls hl => ?_)
                  have copy : ∀ (fu : Nat) (i : Nat), (i ≤ 52) → 52 - i < fu → ∀ (ls : Array Slot) (H : Heap) (locs : List Loc), lv_has ls 4 [(0, .ref (A 0)), (2, .int (nI (2 ^ n - 1))), (3, .int (nI i))] → hm_V E.1 vwCl (hm_A M sz) s.heap (hm_up N (A 5) (hm_I E 220 (fun j => nI (if j < i then dg D.natAbs j else dg 0 j)))) H locs → W p l e rm_X4_determinant s m [.ref (A 0), .int (nI n)].toArray below meth c H locs 0 0 Qf (F0 m 89 ls []) := by
                    intro fu
                    induction fu with
                    | zero => intro i hi hfu; exact absurd hfu (Nat.not_lt_zero _)
                    | succ fu ih_copy =>
                      intro i hi hfu ls H locs hl hV
                      refine lv_iload_n hx hb dX4_determinant_89 rfl (lv_at hl 2 rfl) ?_
                      refine lv_bipush (v := 52) hx hb dX4_determinant_90 (by decide) ?_
                      refine lv_icmp_ge (tgt := 118) hx hb dX4_determinant_92 (by decide) (fun c92 => ?_) (fun c92 => ?_)
                      · have hi3 : i = 52 := by
                          rcases Nat.lt_or_ge i 52 with q | q
                          · exact absurd c92 (nI_ge (a := i) (b := 52) q (by omega))
                          · omega
                        rw [hi3, show (fun j => nI (if j < 52 then dg D.natAbs j else dg 0 j)) = (fun j => nI (dg D.natAbs j)) from by
                          funext j
                          by_cases h9 : j < 52
                          · rw [if_pos h9]
                          · rw [if_neg h9, dg_0, dg_hi hD52 (by omega)]] at hV
                        refine lv_aload_n hx hb dX4_determinant_118 rfl (lv_at hl 0 rfl) ?_
                        refine lv_aload_n hx hb dX4_determinant_119 rfl (lv_at hl 0 rfl) ?_
                        refine hm_get (ci := 6) (v := .ref (A 5)) (C := RX4) (T := TX4) (N := 16) hx hb hws kin_X4 hown hK.1 hV ((hm_up_ne _ _ (md_ap hk (i := 0) (j := 5) (by decide) (by decide) (by decide))).trans (md_x hk)) rfl 6 (by decide) fl24 (fun _ h9 => h9) rfl dX4_determinant_120 ?_
                        refine lv_bipush (v := 52) hx hb dX4_determinant_123 (by decide) ?_
                        refine hm_calli (va_runS (As := [.ref (A 5), .int 52]) (rest := [.ref (A 0)]) ⟨hx, hb, hml, hown, hts⟩ (c_X4_sizeOf l E (d := dg D.natAbs) (n := 220) (m0 := 52) (hm_up_self _ _ _) (by decide) (by decide) (fun j _ => by have := dg_lt D.natAbs j; omega) H.size) (va_cwS 2 hts (hm_gS kw_546 kw_547 kw_41 kw_548) rfl rfl rfl (by decide +kernel) ⟨Nat.le_of_ble_eq_true rfl, Nat.le_of_ble_eq_true rfl⟩) (hm_preS hK hV) rfl rfl hl.1 rfl (lv_room (Nat.le_of_ble_eq_true rfl)) dX4_determinant_125 ⟨Nat.le_of_ble_eq_true rfl, Nat.le_of_ble_eq_true rfl⟩) hV hA (fun r125 M1 H locs hp hV => ?_)
                        obtain ⟨hr125, hM1⟩ := hp
                        rw [hM1] at hV
                        rw [sg_k hD52 (by decide)] at hr125
                        subst hr125
                        refine hm_put (ci := 6) (v := .int (nI (sg D.natAbs))) (ty := .int) (C := RX4) (T := TX4) (N := 16) hx hb hws kin_X4 tyX4 tyX4_ok nmX4 hown hK.1 hV ((hm_up_ne _ _ (md_ap hk (i := 0) (j := 5) (by decide) (by decide) (by decide))).trans (md_x hk)) rfl 7 (by decide) fl64 (fun _ h9 => h9) rfl (by decide +kernel) rfl rfl (Nat.le_of_ble_eq_true rfl) dX4_determinant_128 (fun H locs hV => ?_)
                        have hV : hm_V E.1 vwCl (hm_A M sz) s.heap (hm_up (hm_up N (A 5) (hm_I E 220 (fun j => nI (dg D.natAbs j)))) (A 0) (.inr (6, [.int 0, .int (nI cnt), .ref (A 1), .ref (A 2), .ref (A 3), .ref (A 4), .ref (A 5), .int (nI (sg D.natAbs)), .ref (A 6), .int (nI ko), .ref (A 7), .ref (A 8), .ref (A 9), .ref (A 10), .ref (A 11), .ref (A 12)]))) H locs := hV
                        obtain ⟨N2, hN2⟩ : ∃ N9 : hm_M, N9 = hm_up (hm_up N (A 5) (hm_I E 220 (fun j => nI (dg D.natAbs j)))) (A 0) (.inr (6, [.int 0, .int (nI cnt), .ref (A 1), .ref (A 2), .ref (A 3), .ref (A 4), .ref (A 5), .int (nI (sg D.natAbs)), .ref (A 6), .int (nI ko), .ref (A 7), .ref (A 8), .ref (A 9), .ref (A 10), .ref (A 11), .ref (A 12)])) := ⟨_, rfl⟩
                        have hk : md E (hm_up (hm_up N (A 5) (hm_I E 220 (fun j => nI (dg D.natAbs j)))) (A 0) (.inr (6, [.int 0, .int (nI cnt), .ref (A 1), .ref (A 2), .ref (A 3), .ref (A 4), .ref (A 5), .int (nI (sg D.natAbs)), .ref (A 6), .int (nI ko), .ref (A 7), .ref (A 8), .ref (A 9), .ref (A 10), .ref (A 11), .ref (A 12)]))) A 0 cnt (sg D.natAbs) ko nums t (fun j => nI (dg D.natAbs j)) O := md_ux (md_uw hk _) 0 (sg D.natAbs) ko
                        have h9 : (hm_up (hm_up N (A 5) (hm_I E 220 (fun j => nI (dg D.natAbs j)))) (A 0) (.inr (6, [.int 0, .int (nI cnt), .ref (A 1), .ref (A 2), .ref (A 3), .ref (A 4), .ref (A 5), .int (nI (sg D.natAbs)), .ref (A 6), .int (nI ko), .ref (A 7), .ref (A 8), .ref (A 9), .ref (A 10), .ref (A 11), .ref (A 12)])) : hm_M) (A 9) = some (hm_Z E 4096 mb) := ((hm_up_ne _ _ (md_ap hk (i := 9) (j := 0) (by decide) (by decide) (by decide))).trans ((hm_up_ne _ _ (md_ap hk (i := 9) (j := 5) (by decide) (by decide) (by decide))).trans h9))
                        rw [← hN2] at hk hV h9
                        refine lv_aload_n hx hb dX4_determinant_131 rfl (lv_at hl 0 rfl) ?_
                        refine lv_aload_n hx hb dX4_determinant_132 rfl (lv_at hl 0 rfl) ?_
                        refine hm_get (ci := 6) (v := .ref (A 9)) (C := RX4) (T := TX4) (N := 16) hx hb hws kin_X4 hown hK.1 hV (md_x hk) rfl 12 (by decide) fl37 (fun _ h9 => h9) rfl dX4_determinant_133 ?_
                        refine lv_iload_n hx hb dX4_determinant_136 rfl (lv_at hl 1 rfl) ?_
                        refine hm_zaldN hx hb hK.1 hV 2 h9 rfl (k := (2 ^ n - 1)) (by omega) (by omega) dX4_determinant_137 ?_
                        refine hm_calli (va_runV (As := [.int (mb (2 ^ n - 1))]) (rest := []) ⟨hx, hb, hml, hown, hts⟩ (c_X4_keep l E (v := D.natAbs) (z := D) (g := mb (2 ^ n - 1)) hk hD220 (show _ = _ by rw [hr9]; exact z_abs D) H.size) (cwV 1 hts (hm_gV kw_549 kw_551 kw_19 kw_41 kw_552) rfl rfl rfl (by decide +kernel) ⟨Nat.le_of_ble_eq_true rfl, Nat.le_of_ble_eq_true rfl⟩) (hm_preV hK hV (md_x hk) rfl) rfl rfl hl.1 rfl (lv_room (Nat.le_of_ble_eq_true rfl)) dX4_determinant_138 ⟨Nat.le_of_ble_eq_true rfl, Nat.le_of_ble_eq_true rfl⟩) hV hA (fun r138 M1 H locs hp hV => ?_)
                        obtain ⟨cnt1, nums1, hkp, hk⟩ := hp
                        rw [hQf]
                        exact W.iret hx hb hr (fun t9 ht hW => ⟨⟨_, M1, rfl, ⟨cnt1, nums1, hkp, _, _, _, _, hk⟩, (hm_end hV ht).1⟩, (hm_end hV ht).2⟩) hV.2.2.2.2 dX4_determinant_141
                      · have hi3 : i < 52 := by
                          rcases Nat.lt_or_ge i 52 with q | q
                          · exact q
                          · exact absurd (nI_le (a := 52) (b := i) q (by omega)) c92
                        refine lv_aload_n hx hb dX4_determinant_95 rfl (lv_at hl 0 rfl) ?_
                        refine hm_get (ci := 6) (v := .ref (A 5)) (C := RX4) (T := TX4) (N := 16) hx hb hws kin_X4 hown hK.1 hV ((hm_up_ne _ _ (md_ap hk (i := 0) (j := 5) (by decide) (by decide) (by decide))).trans (md_x hk)) rfl 6 (by decide) fl24 (fun _ h9 => h9) rfl dX4_determinant_96 ?_
                        refine lv_iload_n hx hb dX4_determinant_99 rfl (lv_at hl 2 rfl) ?_
                        refine lv_aload_n hx hb dX4_determinant_100 rfl (lv_at hl 0 rfl) ?_
                        refine hm_get (ci := 6) (v := .ref (A 8)) (C := RX4) (T := TX4) (N := 16) hx hb hws kin_X4 hown hK.1 hV ((hm_up_ne _ _ (md_ap hk (i := 0) (j := 5) (by decide) (by decide) (by decide))).trans (md_x hk)) rfl 11 (by decide) fl34 (fun _ h9 => h9) rfl dX4_determinant_101 ?_
                        refine lv_bipush (v := 52) hx hb dX4_determinant_104 (by decide) ?_
                        refine lv_iload_n hx hb dX4_determinant_106 rfl (lv_at hl 1 rfl) ?_
                        refine lv_imul hx hb dX4_determinant_107 ?_
                        refine lv_iload_n hx hb dX4_determinant_108 rfl (lv_at hl 2 rfl) ?_
                        refine lv_iadd hx hb dX4_determinant_109 ?_
                        refine hm_topi (show ((52 * (nI (2 ^ n - 1))) + (nI i)) = nI (52 * (2 ^ n - 1) + i) from nI_52 _ _) ?_
                        refine hm_ialdN hx hb hK.1 hV 0 ((hm_up_ne _ _ (md_ap hk (i := 8) (j := 5) (by decide) (by decide) (by decide))).trans h8) rfl (k := (52 * (2 ^ n - 1) + i)) (by omega) (by omega) dX4_determinant_110 ?_
                        refine hm_topi (show (nI (mi (52 * (2 ^ n - 1) + i))) = nI (dg D.natAbs i) from by rw [hr8 i hi3]) ?_
                        refine hm_iastN hx hb hK.1 hV 0 (hm_up_self _ _ _) rfl (k := i) (by omega) (by omega) dX4_determinant_111 (fun H locs hV => ?_)
                        rw [show (upd (fun j => nI (if j < i then dg D.natAbs j else dg 0 j)) i (nI (dg D.natAbs i))) = (fun j => nI (if j < i + 1 then dg D.natAbs j else dg 0 j)) from nu_up (dg D.natAbs) (dg 0) i] at hV
                        rw [hm_u0] at hV
                        have hV : hm_V E.1 vwCl (hm_A M sz) s.heap (hm_up N (A 5) (hm_I E 220 (fun j => nI (if j < i + 1 then dg D.natAbs j else dg 0 j)))) H locs := hV
                        refine lv_iinc (v := (nI (i + 1))) (lv' := [(3, .int (nI (i + 1))), (0, .ref (A 0)), (2, .int (nI (2 ^ n - 1)))]) hx hb dX4_determinant_112 hl (k := 2) rfl (nI_1 i) (by decide) rfl (fun ls hl => ?_)
                        refine lv_goto (tgt := 89) hx hb dX4_determinant_115 (by decide) ?_
                        exact ih_copy (i + 1) (by omega) (by omega) ls H locs (lv_sub hl [1, 2, 0] rfl) hV
                  exact copy 53 0 (by omega) (by omega) ls H locs (lv_sub hl [2, 1, 0] rfl) hV
                · have hst : st < (2 ^ n) := by
                    rcases Nat.lt_or_ge st (2 ^ n) with q | q
                    · exact q
                    · exact absurd (nI_le (a := (2 ^ n)) (b := st) q (by omega)) c59
                  refine lv_aload_n hx hb dX4_determinant_62 rfl (lv_at hl 0 rfl) ?_
                  refine lv_iload_n hx hb dX4_determinant_63 rfl (lv_at hl 2 rfl) ?_
                  refine hm_callv (va_runV (As := [.int (nI st)]) (rest := []) ⟨hx, hb, hml, hown, hts⟩ (c_X4_minorOf l E hk h8 h9 hmi (by omega) (by omega) hrow H.size) (cwV 1 hts (hm_gV kw_656 kw_658 kw_33 kw_41 kw_659) rfl rfl rfl (by decide +kernel) ⟨Nat.le_of_ble_eq_true rfl, Nat.le_of_ble_eq_true rfl⟩) (hm_preV hK hV (md_x hk) rfl) rfl rfl hl.1 rfl (lv_room (Nat.le_of_ble_eq_true rfl)) dX4_determinant_64 ⟨Nat.le_of_ble_eq_true rfl, Nat.le_of_ble_eq_true rfl⟩) hV hA (fun M1 H locs hp hV => ?_)
                  obtain ⟨mi1, mb1, hk, h8, h9, hmi, hrow⟩ := hp
                  refine lv_iinc (v := (nI (st + 1))) (lv' := [(2, .int (nI (st + 1))), (0, .ref (A 0)), (1, .int (nI n))]) hx hb dX4_determinant_67 hl (k := 2) rfl (nI_1 st) (by decide) rfl (fun ls hl => ?_)
                  refine lv_goto (tgt := 55) hx hb dX4_determinant_70 (by decide) ?_
                  exact ih_sets _ (st + 1) mi1 mb1 (by omega) (by omega) hk h8 h9 hmi hrow (by omega) ls H locs (lv_sub hl [1, 2, 0] rfl) hV
            exact sets (2 ^ n + 1) _ 1 _ _ (by omega) (by omega) hk h8 h9 hmi1 hrow (by omega) ls H locs (lv_sub hl [1, 2, 0] rfl) hV
          · have hi2 : i < 52 := by
              rcases Nat.lt_or_ge i 52 with q | q
              · exact q
              · exact absurd (nI_le (a := 52) (b := i) q (by omega)) c22
            have put : ∀ (ls : Array Slot) (H : Heap) (locs : List Loc), lv_has ls 4 [(0, .ref (A 0)), (1, .int (nI n)), (2, .int (nI i))] → hm_V E.1 vwCl (hm_A M sz) s.heap (hm_up N0 (A 8) (hm_I E 212992 (fun j => nI (if j < i then dg 1 j else mi j)))) H locs → W p l e rm_X4_determinant s m [.ref (A 0), .int (nI n)].toArray below meth c H locs 0 0 Qf (F0 m 39 ls [.int (nI (dg 1 i)), .int (nI i), .ref (A 8)]) := by
              intro   ls H locs hl hV
              refine hm_iastN hx hb hK.1 hV 0 (hm_up_self _ _ _) rfl (k := i) (by omega) (by omega) dX4_determinant_39 (fun H locs hV => ?_)
              rw [show (upd (fun j => nI (if j < i then dg 1 j else mi j)) i (nI (dg 1 i))) = (fun j => nI (if j < i + 1 then dg 1 j else mi j)) from nu_up (dg 1) mi i] at hV
              rw [hm_u0] at hV
              have hV : hm_V E.1 vwCl (hm_A M sz) s.heap (hm_up N0 (A 8) (hm_I E 212992 (fun j => nI (if j < i + 1 then dg 1 j else mi j)))) H locs := hV
              refine lv_iinc (v := (nI (i + 1))) (lv' := [(2, .int (nI (i + 1))), (0, .ref (A 0)), (1, .int (nI n))]) hx hb dX4_determinant_40 hl (k := 2) rfl (nI_1 i) (by decide) rfl (fun ls hl => ?_)
              refine lv_goto (tgt := 19) hx hb dX4_determinant_43 (by decide) ?_
              exact ih_first (i + 1) (by omega) (by omega) ls H locs (lv_sub hl [1, 2, 0] rfl) hV
            refine lv_aload_n hx hb dX4_determinant_25 rfl (lv_at hl 0 rfl) ?_
            refine hm_get (ci := 6) (v := .ref (A 8)) (C := RX4) (T := TX4) (N := 16) hx hb hws kin_X4 hown hK.1 hV ((hm_up_ne _ _ (md_ap hk (i := 0) (j := 8) (by decide) (by decide) (by decide))).trans (md_x hk)) rfl 11 (by decide) fl34 (fun _ h9 => h9) rfl dX4_determinant_26 ?_
            refine lv_iload_n hx hb dX4_determinant_29 rfl (lv_at hl 2 rfl) ?_
            refine lv_iload_n hx hb dX4_determinant_30 rfl (lv_at hl 2 rfl) ?_
            refine lv_if_ne (tgt := 38) hx hb dX4_determinant_31 (by decide) (fun c31 => ?_) (fun c31 => ?_)
            · have hi0 : i ≠ 0 := fun h9 => c31 (by rw [h9]; rfl)
              refine lv_iconst (v := 0) hx hb dX4_determinant_38 (by decide) ?_
              refine hm_topi (show 0 = nI (dg 1 i) from by rw [dg_one, if_neg hi0]; rfl) ?_
              exact put  ls H locs (lv_sub hl [0, 1, 2] rfl) hV
            · have hi0 : i = 0 := (nI_eq (b := 0) (by omega) (by omega)).mp c31
              refine lv_iconst (v := 1) hx hb dX4_determinant_34 (by decide) ?_
              refine lv_goto (tgt := 39) hx hb dX4_determinant_35 (by decide) ?_
              refine hm_topi (show 1 = nI (dg 1 i) from by rw [dg_one, if_pos hi0]; rfl) ?_
              exact put  ls H locs (lv_sub hl [0, 1, 2] rfl) hV
      exact first 53 0 (by omega) (by omega) ls H locs (lv_sub hl [1, 2, 0] rfl) hV
    · exact no (Or.inr (Int32.not_le.mp c12)) ls H locs (lv_sub hl [0, 1] rfl) hV
