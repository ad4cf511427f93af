def hm_bw : List Cond := [.declares (Bundle.initS "java/lang/IndexOutOfBoundsException"), .declares (Bundle.initS "java/lang/RuntimeException"), .declares (Bundle.initS "java/lang/Exception"), .declares (Bundle.initS "java/lang/Throwable"), .castable xAI xAI, .castable xAR xAR]
theorem hm_bw_of {A : Nat → Prop} {s : State} {args : Array Value} (hY : hm_Y A s) : ∀ w ∈ hm_bw, w.before args s = true := by
  obtain ⟨-, -, h5, ⟨h6, h7⟩, -⟩ := hY
  exact vx_c (va_Nw.use rfl (h5 _ (by simp [hm_dw]))) (vx_c (va_Nw.use rfl (h5 _ (by simp [hm_dw]))) (vx_c (va_Nw.use rfl (h5 _ (by simp [hm_dw]))) (vx_c (va_Nw.use rfl (h5 _ (by simp [hm_dw]))) (vx_c (va_Nw.use rfl h6) (vx_c (va_Nw.use rfl h7) vx_n)))))
set_option maxRecDepth 100000 in
theorem hm_aAI1 : ∀ w ∈ (vx_atS RX3 118 xAI hm_nAI).filter goodWord, w ∈ lw_tbl := by decide +kernel
set_option maxRecDepth 100000 in
theorem hm_aAI2 : ∀ w ∈ (vx_atS RX3 118 xAI hm_nAI).filter (fun w => !goodWord w), w ∈ hm_bw := by decide +kernel
set_option maxRecDepth 100000 in
theorem hm_aAI3 : ∀ w ∈ Cond.classLink RX3 114 xAI :: Cond.initialized xAI :: vx_atS RX3 118 xAI hm_nAI, vx_ot w = true := by decide +kernel
set_option maxRecDepth 100000 in
theorem hm_aAR1 : ∀ w ∈ (vx_atS RX3 80 xAR hm_nAR).filter goodWord, w ∈ lw_tbl := by decide +kernel
set_option maxRecDepth 100000 in
theorem hm_aAR2 : ∀ w ∈ (vx_atS RX3 80 xAR hm_nAR).filter (fun w => !goodWord w), w ∈ hm_bw := by decide +kernel
set_option maxRecDepth 100000 in
theorem hm_aAR3 : ∀ w ∈ Cond.classLink RX3 76 xAR :: Cond.initialized xAR :: vx_atS RX3 80 xAR hm_nAR, vx_ot w = true := by decide +kernel
theorem hm_gin {L : List Cond} (h : ∀ w ∈ L.filter goodWord, w ∈ lw_tbl) : ∀ w ∈ L.filter goodWord, w ∈ hm_ws := fun w hw => List.mem_filter.mpr ⟨h w hw, (List.mem_filter.mp hw).2⟩
theorem hm_wAI {A : Nat → Prop} {s : State} {args : Array Value} (hws : ∀ w ∈ hm_ws, w.before args s = true) (hY : hm_Y A s) : ∀ w ∈ vx_atS RX3 118 xAI hm_nAI, w.before args s = true :=
  vx_hat (fun w hw => hws w (hm_gin hm_aAI1 w hw)) hm_aAI2 (hm_bw_of hY)
theorem hm_wAR {A : Nat → Prop} {s : State} {args : Array Value} (hws : ∀ w ∈ hm_ws, w.before args s = true) (hY : hm_Y A s) : ∀ w ∈ vx_atS RX3 80 xAR hm_nAR, w.before args s = true :=
  vx_hat (fun w hw => hws w (hm_gin hm_aAR1 w hw)) hm_aAR2 (hm_bw_of hY)
set_option maxRecDepth 100000 in
theorem hm_k114 : Cond.classLink RX3 114 xAI ∈ hm_ws := List.mem_filter.mpr ⟨by decide +kernel, rfl⟩
set_option maxRecDepth 100000 in
theorem hm_k76 : Cond.classLink RX3 76 xAR ∈ hm_ws := List.mem_filter.mpr ⟨by decide +kernel, rfl⟩
set_option maxRecDepth 100000 in
theorem hm_kAI : Cond.initialized xAI ∈ hm_ws := List.mem_filter.mpr ⟨by decide +kernel, rfl⟩
set_option maxRecDepth 100000 in
theorem hm_kAR : Cond.initialized xAR ∈ hm_ws := List.mem_filter.mpr ⟨by decide +kernel, rfl⟩
