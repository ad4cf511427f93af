abbrev wd_X2_init : List Cond := .code yX2_init cX2_init 2 none :: hm_ws
abbrev rm_X2_init (r : Nat) : Room := { frames := 1, cells := 1, slots := r, locals := 21 }

set_option maxHeartbeats 4000000 in
set_option maxRecDepth 100000 in
/-- Whole(r): 0, in a row of r -/
theorem c_X2_init (l : Launch) (E : hm_E) {M : hm_M} {w r : Nat} {x0 x1 : Int32} (hw : M w = some (.inr (4, [.null, .int x0, .int x1]))) (hr0 : r < 1000) : hm_Cv l E yX2_init wd_X2_init (rm_X2_init r) [.ref w, .int (nI r)] M (fun M1 => ∃ la, M la = none ∧ M1 = hm_up (hm_up M la (hm_I E r (fun j => nI ((fun _ => 0) j)))) w (hm_W la (nI 0) 0)) := by
  intro sz
  refine Met.ofW (cc := cX2_init) (maxL := 2) (ret := none) (by decide) rfl ?_
  intro p e s m args below meth c s₁ B hml hv
  obtain ⟨rfl, hAe, hA, hK, hV⟩ := hm_start hv
  have hx := B.exec
  have hb := B.bytes
  have hr := B.returns
  have hts := atoms_spec (ws := wd_X2_init) B.pre
  have hws : ∀ w ∈ hm_ws, w.before _ s = true := fun w h => hts w (List.mem_cons_of_mem _ h)
  have hown : s.vm.findClass RX2 = some m.cls := findClass_of_methodNamed B.named
  have hlocks := B.notSynchronized
  have hin : meth.name = "<init>" := (name_of_methodNamed B.named B.method).1
  have fl9 := hws _ kw_73
  have fl15 := hws _ kw_76
  have fl25 := hws _ kw_71
  have hl := lv_entry ([.ref w, .int (nI r)]) (n := 2) (Nat.le_of_ble_eq_true rfl)
  rw [lg_entry_eq]
  generalize (lg_sl ([.ref w, .int (nI r)]) ++ List.replicate (2 - (lg_sl ([.ref w, .int (nI r)])).length) Slot.unset).toArray = ls at hl ⊢
  have hl : lv_has ls 2 [(0, .ref w), (1, .int (nI r))] := hl
  refine hm_gen (rm := (rm_X2_init r)) rfl (fun Qf hQf => ?_)
  refine lv_aload_n hx hb dX2_init_0 rfl (lv_at hl 0 rfl) ?_
  refine W.objInit hx hb hown (hws _ kw_67) (hws _ kw_57) (hws _ kw_58) rfl (by rw [hml]; exact hl.1) rfl dX2_init_1 (Nat.le_of_ble_eq_true rfl) (Nat.le_of_ble_eq_true rfl) ?_
  refine W.eq (g2 := F0 m 4 ls []) rfl ?_
  refine lv_aload_n hx hb dX2_init_4 rfl (lv_at hl 0 rfl) ?_
  refine lv_iconst (v := 0) hx hb dX2_init_5 (by decide) ?_
  refine hm_put (ci := 4) (v := .int 0) (ty := .int) (C := RX2) (T := TX2) (N := 3) hx hb hws kin_X2 tyX2 tyX2_ok nmX2 hown hK.1 hV hw rfl 1 (by decide) fl9 (fun _ h9 => h9) rfl (by decide +kernel) rfl rfl (Nat.le_of_ble_eq_true rfl) dX2_init_6 (fun H locs hV => ?_)
  have hV : hm_V E.1 vwCl (hm_A M sz) s.heap (hm_up M w (.inr (4, [.null, .int 0, .int x1]))) H locs := hV
  refine lv_aload_n hx hb dX2_init_9 rfl (lv_at hl 0 rfl) ?_
  refine lv_iconst (v := 0) hx hb dX2_init_10 (by decide) ?_
  refine hm_put (ci := 4) (v := .int 0) (ty := .boolean) (C := RX2) (T := TX2) (N := 3) hx hb hws kin_X2 tyX2 tyX2_ok nmX2 hown hK.1 hV (hm_up_self _ _ _) rfl 2 (by decide) fl15 (fun _ h9 => h9) rfl (by decide +kernel) rfl rfl (Nat.le_of_ble_eq_true rfl) dX2_init_11 (fun H locs hV => ?_)
  rw [hm_u0] at hV
  have hV : hm_V E.1 vwCl (hm_A M sz) s.heap (hm_up M w (.inr (4, [.null, .int 0, .int 0]))) H locs := hV
  refine lv_aload_n hx hb dX2_init_14 rfl (lv_at hl 0 rfl) ?_
  refine lv_iconst (v := 0) hx hb dX2_init_15 (by decide) ?_
  refine lv_iload_n hx hb dX2_init_16 rfl (lv_at hl 1 rfl) ?_
  refine va_mmax hx hb (by rw [hml]; exact hl.1.symm) hown (hws _ kw_68) (hws _ kw_69) (hws _ kw_39) (hws _ kw_70) (Nat.le_of_ble_eq_true rfl) (Nat.le_of_ble_eq_true rfl) (Nat.zero_le _) (Nat.zero_le _) dX2_init_17 ?_
  refine hm_topi (show (if 0 < nI r then nI r else 0) = nI r from (by
      rcases Nat.eq_zero_or_pos r with q | q
      · subst q; rfl
      · exact if_pos (nI_lt (a := 0) q (by omega)))) ?_
  have hws2 := hws
  refine hm_newa (atype := .int) (ty := .int) (a0 := (r, .inl (fun j => nI ((fun _ => 0) j)))) (N' := r) hx hb (hws _ kw_88) rfl hK.1 hV hA 0 rfl (fun _ => rfl) (nI_pos (by omega)) (nI_clamp (by omega)) (by show _ * 4 ≤ _; omega) (Nat.le_of_ble_eq_true rfl) (by show 0 + r ≤ r; omega) dX2_init_20 (fun la H hf_la hV => ?_)
  have h_w_la : hm_ap w la := hm_nn (hm_up_self _ _ _) hf_la
  have hV : hm_V E.1 vwCl (hm_A M sz) s.heap (hm_up (hm_up M w (.inr (4, [.null, .int 0, .int 0]))) la (hm_I E r (fun j => nI ((fun _ => 0) j)))) H locs := hV
  refine W.widen (k := 1) (n := r) (by omega) (by omega) ?_
  refine hm_putF (ci := 4) (v := .ref la) (ty := (tyX2 0)) (C := RX2) (T := TX2) (N := 3) hx hb hws kin_X2 tyX2 tyX2_ok nmX2 hown hK.1 hV ((hm_up_ne _ _ h_w_la).trans (hm_up_self _ _ _)) rfl 0 (by decide) fl25 (fun _ h9 => h9) rfl hin rfl (by decide +kernel) rfl rfl (Nat.le_of_ble_eq_true rfl) dX2_init_22 (fun H locs hV => ?_)
  rw [hm_u1 (Ne.symm h_w_la)] at hV
  have hV : hm_V E.1 vwCl (hm_A M sz) s.heap (hm_up (hm_up M w (.inr (4, [.ref la, .int 0, .int 0]))) la (hm_I E r (fun j => nI ((fun _ => 0) j)))) H locs := hV
  rw [hQf]
  exact W.vret hx hb hr (fun t ht hW => ⟨⟨_, rfl, ⟨la, by rw [← hm_up_ne M (.inr (4, [.null, .int 0, .int 0])) (Ne.symm h_w_la)]; exact hf_la, by rw [hm_up_comm _ _ _ h_w_la]; rfl⟩, (hm_end hV ht).1⟩, (hm_end hV ht).2⟩) hV.2.2.2.2 dX2_init_25

theorem u_s16 : (((16 : Int32).toUInt32 &&& Int32.toUInt32 31).toBitVec % 32).toNat = 16 := by decide
theorem u_s8 : (((8 : Int32).toUInt32 &&& Int32.toUInt32 31).toBitVec % 32).toNat = 8 := by decide
theorem u_s4 : (((4 : Int32).toUInt32 &&& Int32.toUInt32 31).toBitVec % 32).toNat = 4 := by decide
theorem u_s2 : (((2 : Int32).toUInt32 &&& Int32.toUInt32 31).toBitVec % 32).toNat = 2 := by decide
theorem u_s1 : (((1 : Int32).toUInt32 &&& Int32.toUInt32 31).toBitVec % 32).toNat = 1 := by decide
theorem lz_go {n a s b : Nat} (h : s = a + b) : n / 2 ^ a / 2 ^ b = n / 2 ^ s := by rw [Nat.div_div_eq_div_mul, ← Nat.pow_add, h]
theorem lz_end {n a y : Nat} (h1 : 2 ^ y ≤ n / 2 ^ a) (h2 : n / 2 ^ a < 2 ^ (y + 1)) : 2 ^ (a + y) ≤ n ∧ n < 2 ^ (a + y + 1) := by
  have h3 : 0 < 2 ^ a := Nat.pow_pos (by decide)
  constructor
  · rw [Nat.pow_add, Nat.mul_comm]
    exact (Nat.le_div_iff_mul_le h3).mp h1
  · rw [Nat.add_assoc, Nat.pow_add, Nat.mul_comm]
    exact (Nat.div_lt_iff_lt_mul h3).mp h2

abbrev wd_J6_numberOfLeadingZeros_0f7a4 : List Cond := .code yJ6_numberOfLeadingZeros_0f7a4 cJ6_numberOfLeadingZeros_0f7a4 2 (some .int) :: hm_ws
abbrev rm_J6_numberOfLeadingZeros_0f7a4 : Room := { frames := 0, cells := 0, slots := 0, locals := 0 }

set_option maxHeartbeats 4000000 in
set_option maxRecDepth 100000 in
/-- Integer.numberOfLeadingZeros(n), n above 0 -/
theorem c_nlz (l : Launch) (E : hm_E) {M : hm_M} {n : Nat} (hn0 : 0 < n) (hn : n < 2147483648) : hm_Ci l E yJ6_numberOfLeadingZeros_0f7a4 wd_J6_numberOfLeadingZeros_0f7a4 rm_J6_numberOfLeadingZeros_0f7a4 [.int (nI n)] M (fun r M1 => (∃ h, h ≤ 30 ∧ r = nI (31 - h) ∧ 2 ^ h ≤ n ∧ n < 2 ^ (h + 1)) ∧ M1 = M) := by
  intro sz
  refine Met.ofW (cc := cJ6_numberOfLeadingZeros_0f7a4) (maxL := 2) (ret := (some .int)) (by decide) rfl ?_
  intro p e s m args below meth c s₁ B hml hv
  obtain ⟨rfl, hAe, hA, hK, hV⟩ := hm_start hv
  have hx := B.exec
  have hb := B.bytes
  have hr := B.returns
  have hts := atoms_spec (ws := wd_J6_numberOfLeadingZeros_0f7a4) B.pre
  have hws : ∀ w ∈ hm_ws, w.before _ s = true := fun w h => hts w (List.mem_cons_of_mem _ h)
  have hown : s.vm.findClass RJ6 = some m.cls := findClass_of_methodNamed B.named
  have hlocks := B.notSynchronized
  have ld264 := hws _ kw_273
  have hl := lv_entry ([.int (nI n)]) (n := 2) (Nat.le_of_ble_eq_true rfl)
  rw [lg_entry_eq]
  generalize (lg_sl ([.int (nI n)]) ++ List.replicate (2 - (lg_sl ([.int (nI n)])).length) Slot.unset).toArray = ls at hl ⊢
  have hl : lv_has ls 2 [(0, .int (nI n))] := hl
  refine hm_gen (rm := rm_J6_numberOfLeadingZeros_0f7a4) rfl (fun Qf hQf => ?_)
  have p73 : ∀ (a : Nat), (1 ≤ n / 2 ^ a) → (n / 2 ^ a < 4) → (a ≤ 30) → ∀ (ls : Array Slot) (H : Heap) (locs : List Loc), lv_has ls 2 [(0, .int (nI (n / 2 ^ a))), (1, .int (nI (31 - a)))] → hm_V E.1 vwCl (hm_A M sz) s.heap (M) H locs → W p l e rm_J6_numberOfLeadingZeros_0f7a4 s m [.int (nI n)].toArray below meth c H locs 0 0 Qf (F0 m 73 ls []) := by
    intro a ha1 ha2 ha3 ls H locs hl hV
    obtain ⟨y, hy⟩ : ∃ y, y = n / 2 ^ a := ⟨_, rfl⟩
    have h8 : n / 2 ^ a / 2 ^ 1 ≤ 1 := by rw [← hy]; omega
    refine lv_iload_n hx hb dJ6_numberOfLeadingZeros_0f7a4_73 rfl (lv_at hl 1 rfl) ?_
    refine lv_iload_n hx hb dJ6_numberOfLeadingZeros_0f7a4_74 rfl (lv_at hl 0 rfl) ?_
    refine lv_iconst (v := 1) hx hb dJ6_numberOfLeadingZeros_0f7a4_75 (by decide) ?_
    refine lv_iushr hx hb dJ6_numberOfLeadingZeros_0f7a4_76 rfl ?_
    refine hm_topi (show (((nI (n / 2 ^ a)).toUInt32 >>> ((1 : Int32).toUInt32 &&& Int32.toUInt32 31)).toInt32) = nI (n / 2 ^ a / 2 ^ 1) from pk_ushrN (by omega) 1 1 u_s1) ?_
    refine lv_isub hx hb dJ6_numberOfLeadingZeros_0f7a4_77 ?_
    refine hm_topi (show ((nI (31 - a)) - (nI (n / 2 ^ a / 2 ^ 1))) = nI (31 - a - n / 2 ^ a / 2 ^ 1) from pk_sub (by omega)) ?_
    have hh : 2 ^ (a + n / 2 ^ a / 2 ^ 1) ≤ n ∧ n < 2 ^ (a + n / 2 ^ a / 2 ^ 1 + 1) := by
      refine lz_end ?_ ?_
      · rw [← hy]; rcases (show y = 1 ∨ y = 2 ∨ y = 3 by omega) with h | h | h <;> rw [h] <;> decide
      · rw [← hy]; rcases (show y = 1 ∨ y = 2 ∨ y = 3 by omega) with h | h | h <;> rw [h] <;> decide
    have h30 : a + n / 2 ^ a / 2 ^ 1 ≤ 30 := by
      rcases Nat.lt_or_ge 30 (a + n / 2 ^ a / 2 ^ 1) with r | r
      · have h7 : 2 ^ 31 ≤ 2 ^ (a + n / 2 ^ a / 2 ^ 1) := Nat.pow_le_pow_right (by decide) r
        omega
      · exact r
    rw [hQf]
    exact W.iret hx hb hr (fun t ht hW => ⟨⟨_, _, rfl, ⟨⟨a + n / 2 ^ a / 2 ^ 1, h30, by congr 1; omega, hh⟩, rfl⟩, (hm_end hV ht).1⟩, (hm_end hV ht).2⟩) hV.2.2.2.2 dJ6_numberOfLeadingZeros_0f7a4_78
  have p61 : ∀ (a : Nat), (1 ≤ n / 2 ^ a) → (n / 2 ^ a < 16) → (a ≤ 28) → ∀ (ls : Array Slot) (H : Heap) (locs : List Loc), lv_has ls 2 [(0, .int (nI (n / 2 ^ a))), (1, .int (nI (31 - a)))] → hm_V E.1 vwCl (hm_A M sz) s.heap (M) H locs → W p l e rm_J6_numberOfLeadingZeros_0f7a4 s m [.int (nI n)].toArray below meth c H locs 0 0 Qf (F0 m 61 ls []) := by
    intro a ha1 ha2 ha3 ls H locs hl hV
    refine lv_iload_n hx hb dJ6_numberOfLeadingZeros_0f7a4_61 rfl (lv_at hl 0 rfl) ?_
    refine lv_iconst (v := 4) hx hb dJ6_numberOfLeadingZeros_0f7a4_62 (by decide) ?_
    refine lv_icmp_lt (tgt := 73) hx hb dJ6_numberOfLeadingZeros_0f7a4_63 (by decide) (fun cb => ?_) (fun cb => ?_)
    · have hlt : n / 2 ^ a < 4 := by
        rcases Nat.lt_or_ge (n / 2 ^ a) 4 with r | r
        · exact r
        · exact absurd cb (nI_nlt (b := 4) r (by omega))
      exact p73 a ha1 hlt (by omega) ls H locs (lv_sub hl [0, 1] rfl) hV
    · have hge : 4 ≤ n / 2 ^ a := by
        rcases Nat.lt_or_ge (n / 2 ^ a) 4 with r | r
        · exact absurd (nI_lt (b := 4) r (by omega)) cb
        · exact r
      have hq1 : 1 ≤ n / 2 ^ (a + 2) := by rw [← lz_go (a := a) (b := 2) rfl]; omega
      have hq2 : n / 2 ^ (a + 2) < 4 := by rw [← lz_go (a := a) (b := 2) rfl]; omega
      refine lv_iinc (v := (nI (31 - (a + 2)))) (lv' := [(1, .int (nI (31 - (a + 2)))), (0, .int (nI (n / 2 ^ a)))]) hx hb dJ6_numberOfLeadingZeros_0f7a4_66 hl (k := 1) rfl ((by rw [iZ_nI, iZ_nI, show Int32.ofInt (-2) = iZ (-2) from rfl, iZ_add]; congr 1; omega)) (by decide) rfl (fun ls hl => ?_)
      refine lv_iload_n hx hb dJ6_numberOfLeadingZeros_0f7a4_69 rfl (lv_at hl 1 rfl) ?_
      refine lv_iconst (v := 2) hx hb dJ6_numberOfLeadingZeros_0f7a4_70 (by decide) ?_
      refine lv_iushr hx hb dJ6_numberOfLeadingZeros_0f7a4_71 rfl ?_
      refine hm_topi (show (((nI (n / 2 ^ a)).toUInt32 >>> ((2 : Int32).toUInt32 &&& Int32.toUInt32 31)).toInt32) = nI (n / 2 ^ (a + 2)) from (pk_ushrN (by omega) 2 2 u_s2).trans (by rw [lz_go rfl])) ?_
      refine lv_istore_n (lv' := [(0, .int (nI (n / 2 ^ (a + 2)))), (1, .int (nI (31 - (a + 2))))]) hx hb dJ6_numberOfLeadingZeros_0f7a4_72 rfl hl (by decide) rfl (fun ls hl => ?_)
      exact p73 (a + 2) hq1 hq2 (by omega) ls H locs (lv_sub hl [0, 1] rfl) hV
  have p48 : ∀ (a : Nat), (1 ≤ n / 2 ^ a) → (n / 2 ^ a < 256) → (a ≤ 24) → ∀ (ls : Array Slot) (H : Heap) (locs : List Loc), lv_has ls 2 [(0, .int (nI (n / 2 ^ a))), (1, .int (nI (31 - a)))] → hm_V E.1 vwCl (hm_A M sz) s.heap (M) H locs → W p l e rm_J6_numberOfLeadingZeros_0f7a4 s m [.int (nI n)].toArray below meth c H locs 0 0 Qf (F0 m 48 ls []) := by
    intro a ha1 ha2 ha3 ls H locs hl hV
    refine lv_iload_n hx hb dJ6_numberOfLeadingZeros_0f7a4_48 rfl (lv_at hl 0 rfl) ?_
    refine lv_bipush (v := 16) hx hb dJ6_numberOfLeadingZeros_0f7a4_49 (by decide) ?_
    refine lv_icmp_lt (tgt := 61) hx hb dJ6_numberOfLeadingZeros_0f7a4_51 (by decide) (fun cb => ?_) (fun cb => ?_)
    · have hlt : n / 2 ^ a < 16 := by
        rcases Nat.lt_or_ge (n / 2 ^ a) 16 with r | r
        · exact r
        · exact absurd cb (nI_nlt (b := 16) r (by omega))
      exact p61 a ha1 hlt (by omega) ls H locs (lv_sub hl [0, 1] rfl) hV
    · have hge : 16 ≤ n / 2 ^ a := by
        rcases Nat.lt_or_ge (n / 2 ^ a) 16 with r | r
        · exact absurd (nI_lt (b := 16) r (by omega)) cb
        · exact r
      have hq1 : 1 ≤ n / 2 ^ (a + 4) := by rw [← lz_go (a := a) (b := 4) rfl]; omega
      have hq2 : n / 2 ^ (a + 4) < 16 := by rw [← lz_go (a := a) (b := 4) rfl]; omega
      refine lv_iinc (v := (nI (31 - (a + 4)))) (lv' := [(1, .int (nI (31 - (a + 4)))), (0, .int (nI (n / 2 ^ a)))]) hx hb dJ6_numberOfLeadingZeros_0f7a4_54 hl (k := 1) rfl ((by rw [iZ_nI, iZ_nI, show Int32.ofInt (-4) = iZ (-4) from rfl, iZ_add]; congr 1; omega)) (by decide) rfl (fun ls hl => ?_)
      refine lv_iload_n hx hb dJ6_numberOfLeadingZeros_0f7a4_57 rfl (lv_at hl 1 rfl) ?_
      refine lv_iconst (v := 4) hx hb dJ6_numberOfLeadingZeros_0f7a4_58 (by decide) ?_
      refine lv_iushr hx hb dJ6_numberOfLeadingZeros_0f7a4_59 rfl ?_
      refine hm_topi (show (((nI (n / 2 ^ a)).toUInt32 >>> ((4 : Int32).toUInt32 &&& Int32.toUInt32 31)).toInt32) = nI (n / 2 ^ (a + 4)) from (pk_ushrN (by omega) 4 4 u_s4).trans (by rw [lz_go rfl])) ?_
      refine lv_istore_n (lv' := [(0, .int (nI (n / 2 ^ (a + 4)))), (1, .int (nI (31 - (a + 4))))]) hx hb dJ6_numberOfLeadingZeros_0f7a4_60 rfl hl (by decide) rfl (fun ls hl => ?_)
      exact p61 (a + 4) hq1 hq2 (by omega) ls H locs (lv_sub hl [0, 1] rfl) hV
  have p33 : ∀ (a : Nat), (1 ≤ n / 2 ^ a) → (n / 2 ^ a < 65536) → (a ≤ 16) → ∀ (ls : Array Slot) (H : Heap) (locs : List Loc), lv_has ls 2 [(0, .int (nI (n / 2 ^ a))), (1, .int (nI (31 - a)))] → hm_V E.1 vwCl (hm_A M sz) s.heap (M) H locs → W p l e rm_J6_numberOfLeadingZeros_0f7a4 s m [.int (nI n)].toArray below meth c H locs 0 0 Qf (F0 m 33 ls []) := by
    intro a ha1 ha2 ha3 ls H locs hl hV
    refine lv_iload_n hx hb dJ6_numberOfLeadingZeros_0f7a4_33 rfl (lv_at hl 0 rfl) ?_
    refine lv_sipush (v := 256) hx hb dJ6_numberOfLeadingZeros_0f7a4_34 (by decide) ?_
    refine lv_icmp_lt (tgt := 48) hx hb dJ6_numberOfLeadingZeros_0f7a4_37 (by decide) (fun cb => ?_) (fun cb => ?_)
    · have hlt : n / 2 ^ a < 256 := by
        rcases Nat.lt_or_ge (n / 2 ^ a) 256 with r | r
        · exact r
        · exact absurd cb (nI_nlt (b := 256) r (by omega))
      exact p48 a ha1 hlt (by omega) ls H locs (lv_sub hl [0, 1] rfl) hV
    · have hge : 256 ≤ n / 2 ^ a := by
        rcases Nat.lt_or_ge (n / 2 ^ a) 256 with r | r
        · exact absurd (nI_lt (b := 256) r (by omega)) cb
        · exact r
      have hq1 : 1 ≤ n / 2 ^ (a + 8) := by rw [← lz_go (a := a) (b := 8) rfl]; omega
      have hq2 : n / 2 ^ (a + 8) < 256 := by rw [← lz_go (a := a) (b := 8) rfl]; omega
      refine lv_iinc (v := (nI (31 - (a + 8)))) (lv' := [(1, .int (nI (31 - (a + 8)))), (0, .int (nI (n / 2 ^ a)))]) hx hb dJ6_numberOfLeadingZeros_0f7a4_40 hl (k := 1) rfl ((by rw [iZ_nI, iZ_nI, show Int32.ofInt (-8) = iZ (-8) from rfl, iZ_add]; congr 1; omega)) (by decide) rfl (fun ls hl => ?_)
      refine lv_iload_n hx hb dJ6_numberOfLeadingZeros_0f7a4_43 rfl (lv_at hl 1 rfl) ?_
      refine lv_bipush (v := 8) hx hb dJ6_numberOfLeadingZeros_0f7a4_44 (by decide) ?_
      refine lv_iushr hx hb dJ6_numberOfLeadingZeros_0f7a4_46 rfl ?_
      refine hm_topi (show (((nI (n / 2 ^ a)).toUInt32 >>> ((8 : Int32).toUInt32 &&& Int32.toUInt32 31)).toInt32) = nI (n / 2 ^ (a + 8)) from (pk_ushrN (by omega) 8 8 u_s8).trans (by rw [lz_go rfl])) ?_
      refine lv_istore_n (lv' := [(0, .int (nI (n / 2 ^ (a + 8)))), (1, .int (nI (31 - (a + 8))))]) hx hb dJ6_numberOfLeadingZeros_0f7a4_47 rfl hl (by decide) rfl (fun ls hl => ?_)
      exact p48 (a + 8) hq1 hq2 (by omega) ls H locs (lv_sub hl [0, 1] rfl) hV
  have p18 : ∀ (a : Nat), (1 ≤ n / 2 ^ a) → (n / 2 ^ a < 2147483648) → (a ≤ 0) → ∀ (ls : Array Slot) (H : Heap) (locs : List Loc), lv_has ls 2 [(0, .int (nI (n / 2 ^ a))), (1, .int (nI (31 - a)))] → hm_V E.1 vwCl (hm_A M sz) s.heap (M) H locs → W p l e rm_J6_numberOfLeadingZeros_0f7a4 s m [.int (nI n)].toArray below meth c H locs 0 0 Qf (F0 m 18 ls []) := by
    intro a ha1 ha2 ha3 ls H locs hl hV
    refine lv_iload_n hx hb dJ6_numberOfLeadingZeros_0f7a4_18 rfl (lv_at hl 0 rfl) ?_
    refine lv_ldcw (v := 65536) hx hb hown ld264 dJ6_numberOfLeadingZeros_0f7a4_19 ?_
    refine lv_icmp_lt (tgt := 33) hx hb dJ6_numberOfLeadingZeros_0f7a4_22 (by decide) (fun cb => ?_) (fun cb => ?_)
    · have hlt : n / 2 ^ a < 65536 := by
        rcases Nat.lt_or_ge (n / 2 ^ a) 65536 with r | r
        · exact r
        · exact absurd cb (nI_nlt (b := 65536) r (by omega))
      exact p33 a ha1 hlt (by omega) ls H locs (lv_sub hl [0, 1] rfl) hV
    · have hge : 65536 ≤ n / 2 ^ a := by
        rcases Nat.lt_or_ge (n / 2 ^ a) 65536 with r | r
        · exact absurd (nI_lt (b := 65536) r (by omega)) cb
        · exact r
      have hq1 : 1 ≤ n / 2 ^ (a + 16) := by rw [← lz_go (a := a) (b := 16) rfl]; omega
      have hq2 : n / 2 ^ (a + 16) < 65536 := by rw [← lz_go (a := a) (b := 16) rfl]; omega
      refine lv_iinc (v := (nI (31 - (a + 16)))) (lv' := [(1, .int (nI (31 - (a + 16)))), (0, .int (nI (n / 2 ^ a)))]) hx hb dJ6_numberOfLeadingZeros_0f7a4_25 hl (k := 1) rfl ((by rw [iZ_nI, iZ_nI, show Int32.ofInt (-16) = iZ (-16) from rfl, iZ_add]; congr 1; omega)) (by decide) rfl (fun ls hl => ?_)
      refine lv_iload_n hx hb dJ6_numberOfLeadingZeros_0f7a4_28 rfl (lv_at hl 1 rfl) ?_
      refine lv_bipush (v := 16) hx hb dJ6_numberOfLeadingZeros_0f7a4_29 (by decide) ?_
      refine lv_iushr hx hb dJ6_numberOfLeadingZeros_0f7a4_31 rfl ?_
      refine hm_topi (show (((nI (n / 2 ^ a)).toUInt32 >>> ((16 : Int32).toUInt32 &&& Int32.toUInt32 31)).toInt32) = nI (n / 2 ^ (a + 16)) from (pk_ushrN (by omega) 16 16 u_s16).trans (by rw [lz_go rfl])) ?_
      refine lv_istore_n (lv' := [(0, .int (nI (n / 2 ^ (a + 16)))), (1, .int (nI (31 - (a + 16))))]) hx hb dJ6_numberOfLeadingZeros_0f7a4_32 rfl hl (by decide) rfl (fun ls hl => ?_)
      exact p33 (a + 16) hq1 hq2 (by omega) ls H locs (lv_sub hl [0, 1] rfl) hV
  refine lv_iload_n hx hb dJ6_numberOfLeadingZeros_0f7a4_0 rfl (lv_at hl 0 rfl) ?_
  refine lv_if_gt (tgt := 15) hx hb dJ6_numberOfLeadingZeros_0f7a4_1 (by decide) (fun c1 => ?_) (fun c1 => ?_)
  · refine lv_bipush (v := 31) hx hb dJ6_numberOfLeadingZeros_0f7a4_15 (by decide) ?_
    refine lv_istore_n (lv' := [(1, .int 31), (0, .int (nI n))]) hx hb dJ6_numberOfLeadingZeros_0f7a4_17 rfl hl (by decide) rfl (fun ls hl => ?_)
    rw [show (nI n) = nI (n / 2 ^ 0) from (by rw [Nat.pow_zero, Nat.div_one])] at hl
    have hl : lv_has ls 2 [(1, .int 31), (0, .int (nI (n / 2 ^ 0)))] := hl
    have hl : lv_has ls 2 [(1, .int (nI (31 - 0))), (0, .int (nI (n / 2 ^ 0)))] := hl
    exact p18 0 (by rw [Nat.pow_zero, Nat.div_one]; omega) (by rw [Nat.pow_zero, Nat.div_one]; omega) (Nat.le_refl 0) ls s.heap [] (lv_sub hl [1, 0] rfl) hV
  · exact absurd (nI_lt (a := 0) hn0 (by omega)) c1

abbrev wd_X3_highestBit : List Cond := .code yX3_highestBit cX3_highestBit 1 (some .int) :: hm_ws
abbrev rm_X3_highestBit : Room := { frames := 1, cells := 0, slots := 0, locals := 21 }

set_option maxHeartbeats 4000000 in
set_option maxRecDepth 100000 in
/-- highestBit(n), n above 0 -/
theorem c_X3_highestBit (l : Launch) (E : hm_E) {M : hm_M} {n : Nat} (hn0 : 0 < n) (hn : n < 2147483648) : hm_Ci l E yX3_highestBit wd_X3_highestBit rm_X3_highestBit [.int (nI n)] M (fun r M1 => (∃ h, h ≤ 30 ∧ r = nI h ∧ 2 ^ h ≤ n ∧ n < 2 ^ (h + 1)) ∧ M1 = M) := by
  intro sz
  refine Met.ofW (cc := cX3_highestBit) (maxL := 1) (ret := (some .int)) (by decide) rfl ?_
  intro p e s m args below meth c s₁ B hml hv
  obtain ⟨rfl, hAe, hA, hK, hV⟩ := hm_start hv
  have hx := B.exec
  have hb := B.bytes
  have hr := B.returns
  have hts := atoms_spec (ws := wd_X3_highestBit) B.pre
  have hws : ∀ w ∈ hm_ws, w.before _ s = true := fun w h => hts w (List.mem_cons_of_mem _ h)
  have hown : s.vm.findClass RX3 = some m.cls := findClass_of_methodNamed B.named
  have hlocks := B.notSynchronized
  have hl := lv_entry ([.int (nI n)]) (n := 1) (Nat.le_of_ble_eq_true rfl)
  rw [lg_entry_eq]
  generalize (lg_sl ([.int (nI n)]) ++ List.replicate (1 - (lg_sl ([.int (nI n)])).length) Slot.unset).toArray = ls at hl ⊢
  have hl : lv_has ls 1 [(0, .int (nI n))] := hl
  refine hm_gen (rm := rm_X3_highestBit) rfl (fun Qf hQf => ?_)
  refine lv_bipush (v := 31) hx hb dX3_highestBit_0 (by decide) ?_
  refine lv_iload_n hx hb dX3_highestBit_2 rfl (lv_at hl 0 rfl) ?_
  refine hm_calli (va_runS (As := [.int (nI n)]) (rest := [.int 31]) ⟨hx, hb, hml, hown, hts⟩ (c_nlz l E (M := M) hn0 hn s.heap.size) (va_cwS 1 hts (hm_gS kw_270 kw_271 kw_49 kw_272) rfl rfl rfl (by decide +kernel) ⟨Nat.le_of_ble_eq_true rfl, Nat.le_of_ble_eq_true rfl⟩) (hm_preS hK hV) rfl rfl hl.1 rfl (lv_room (Nat.le_of_ble_eq_true rfl)) dX3_highestBit_3 ⟨Nat.le_of_ble_eq_true rfl, Nat.le_of_ble_eq_true rfl⟩) hV hA (fun r3 M1 H locs hp hV => ?_)
  obtain ⟨⟨h, hh1, hr3, hh2, hh3⟩, hM1⟩ := hp
  rw [hM1] at hV
  refine hm_topi (show r3 = nI (31 - h) from hr3) ?_
  refine lv_isub hx hb dX3_highestBit_6 ?_
  refine hm_topi (show (31 - (nI (31 - h))) = nI h from (show nI 31 - nI (31 - h) = nI h from (pk_sub (by omega)).trans (by congr 1; omega))) ?_
  rw [hQf]
  exact W.iret hx hb hr (fun t ht hW => ⟨⟨_, _, rfl, ⟨⟨h, hh1, rfl, hh2, hh3⟩, rfl⟩, (hm_end hV ht).1⟩, (hm_end hV ht).2⟩) hV.2.2.2.2 dX3_highestBit_7
