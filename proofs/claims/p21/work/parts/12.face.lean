theorem lkX5_pass_7 : Cond.fieldLink RX5 7 (TX5 0).1 (TX5 0).2.1 (TX5 0).2.2.1 ∈ wsX5_pass := by decide +kernel
theorem inX5_pass_X5 : ∀ w ∈ u_ws RX5 TX5 7, w ∈ wsX5_pass := by decide +kernel
theorem thX5_pass_57 : Cond.classLink RX5 57 "java/lang/IllegalStateException" ∈ wsX5_pass ∧ Cond.initialized "java/lang/IllegalStateException" ∈ wsX5_pass ∧ ∀ w ∈ (vx_atS RX5 61 "java/lang/IllegalStateException" gNm).filter goodWord, w ∈ wsX5_pass := ⟨by decide +kernel, by decide +kernel, by decide +kernel⟩
set_option maxRecDepth 100000 in
set_option maxHeartbeats 4000000 in
theorem c_X5_pass (l : Launch) (hst : l.stackTraces = false) (g : gC) (μ : gM) (cnt lc wc : Nat) (hV : gV μ cnt lc wc) (x : Int32) : vx_Met l yX5_pass wsX5_pass { frames := 7, cells := 2, slots := 12, locals := 112 } (va_Pc [.ref (g.2.1 0), .int x] (gB g μ)) (va_Qi (fun (r : Int32) (μ' : gM) => r = μ 0 0 + x ∧ μ' = gU μ 0 0 (μ 0 0 + x) ∧ k2 (inB x 1 1000) (decide (μ 0 0 + x ≤ 9999)) = 0) (gPB g) (gA g)) (gPX g (fun (E : String) (μ' : gM) => (E = eA ∧ k2 (inB x 1 1000) (decide (μ 0 0 + x ≤ 9999)) = 1 ∧ μ' = μ) ∨ (E = eS ∧ k2 (inB x 1 1000) (decide (μ 0 0 + x ≤ 9999)) = 2 ∧ μ' = μ))) 2 12 (gA g) := by
  refine g_oXI (cc := cX5_pass) (nL := 2) (ret := (some .int)) (ty := .int) hst rfl (by decide +kernel) rfl rfl (fun _ _ _ => rfl) (Nat.le_of_ble_eq_true rfl) ?_
  intro p e s m args below meth c Q Z hR hE hT
  obtain ⟨hcnt, hc, hlc, hl, hwc, hw, hs, v1, v2, v12, hm, hat⟩ := hV
  refine j_iload_n Z dX5_pass_0 1 rfl ?_
  refine j_iconst Z (v := 1) dX5_pass_1 (by decide) ?_
  refine j_sipush Z (v := 1000) dX5_pass_2 (by decide) ?_
  refine j_callSxv Z (As := [.int x, .int 1, .int 1000]) (rest := []) (nA := 3) (c_X5_requireRange l hst g μ x 1 1000) gX5_pass_X5_requireRange rfl rfl rfl (by decide +kernel) (by decide) rfl dX5_pass_5 rfl (Nat.le_of_ble_eq_true rfl) (by decide) (fun E μx hx => hE _ _ _ _ _ _ _ (Or.inl ⟨hx.1, by simp [k2, hx.2.1], hx.2.2⟩) (by decide) (by decide)) (fun μ9 hp => ?_)
  have hq : μ9 = μ ∧ inB x 1 1000 = true := hp
  refine j_mem hq.1 ?_
  have hf5 := hq.2
  clear hq hp
  refine j_aload_n Z dX5_pass_8 0 rfl ?_
  refine j_get Z 0 (by decide) rfl rfl 0 (by decide) rfl inX5_pass_X5 lkX5_pass_7 dX5_pass_9 ?_
  refine j_iload_n Z dX5_pass_12 1 rfl ?_
  refine j_iadd Z dX5_pass_13 ?_
  refine j_sipush Z (v := 9999) dX5_pass_14 (by decide) ?_
  refine j_icmp_le Z 30 dX5_pass_17 (by decide) (fun h17 => ?_) (fun h17 => ?_)
  · skip
    refine j_aload_n Z dX5_pass_30 0 rfl ?_
    refine j_dup Z dX5_pass_31 rfl ?_
    refine j_get Z 0 (by decide) rfl rfl 0 (by decide) rfl inX5_pass_X5 lkX5_pass_7 dX5_pass_32 ?_
    refine j_iload_n Z dX5_pass_35 1 rfl ?_
    refine j_iadd Z dX5_pass_36 ?_
    refine j_put Z 0 (by decide) (fun _ => rfl) rfl tyX5 tyX5_ok nmX5 0 (by decide) rfl (Nat.le_of_ble_eq_true rfl) rfl (by decide +kernel) inX5_pass_X5 lkX5_pass_7 dX5_pass_37 ?_
    refine j_aload_n Z dX5_pass_40 0 rfl ?_
    refine j_get Z 0 (by decide) rfl rfl 0 (by decide) rfl inX5_pass_X5 lkX5_pass_7 dX5_pass_41 ?_
    refine j_eq (y := ((μ 0 0) + x)) (by rw [gU_s, upd_s]) ?_
    exact hR _ _ _ _ _ _ (⟨rfl, rfl, by simp [k2, hf5, h17]⟩) (by decide) (by decide) dX5_pass_44
  · skip
    exact hT "java/lang/IllegalStateException" "it would be later than the last day" 57 59 61 (vx_atS RX5 61 "java/lang/IllegalStateException" gNm) _ _ _ _ _ _ gOk_S thX5_pass_57 (by decide +kernel) dX5_pass_20 dX5_pass_23 dX5_pass_24 dX5_pass_26 dX5_pass_29 (Or.inr ⟨rfl, by simp [k2, hf5, h17], rfl⟩) (by decide) (by decide) (by decide)
theorem lkX5_today_7 : Cond.fieldLink RX5 7 (TX5 0).1 (TX5 0).2.1 (TX5 0).2.2.1 ∈ wsX5_today := by decide +kernel
theorem inX5_today_X5 : ∀ w ∈ u_ws RX5 TX5 7, w ∈ wsX5_today := by decide +kernel
set_option maxRecDepth 100000 in
set_option maxHeartbeats 4000000 in
theorem c_X5_today (l : Launch) (g : gC) (μ : gM)  : Met l yX5_today wsX5_today { frames := 0, cells := 0, slots := 0, locals := 0 } (va_Pc [.ref (g.2.1 0)] (gB g μ)) (va_Qi (fun (r : Int32) (μ' : gM) => r = μ 0 0 ∧ μ' = μ) (gPB g) (gA g)) 0 0 (gA g) := by
  refine g_ofI (cc := cX5_today) (nL := 1) (ret := (some .int)) (ty := .int) (by decide +kernel) rfl rfl (fun _ _ _ => rfl) (Nat.le_of_ble_eq_true rfl) ?_
  intro p e s m args below meth c Q Z hR
  refine j_aload_n Z dX5_today_0 0 rfl ?_
  refine j_get Z 0 (by decide) rfl rfl 0 (by decide) rfl inX5_today_X5 lkX5_today_7 dX5_today_1 ?_
  exact hR _ _ _ _ _ _ (⟨rfl, rfl⟩) (by decide) (by decide) dX5_today_4
theorem lkX5_setTerm_16 : Cond.fieldLink RX5 16 (TX5 1).1 (TX5 1).2.1 (TX5 1).2.2.1 ∈ wsX5_setTerm := by decide +kernel
theorem inX5_setTerm_X5 : ∀ w ∈ u_ws RX5 TX5 7, w ∈ wsX5_setTerm := by decide +kernel
theorem lkX5_setTerm_64 : Cond.fieldLink RX5 64 (TX2 0).1 (TX2 0).2.1 (TX2 0).2.2.1 ∈ wsX5_setTerm := by decide +kernel
theorem inX5_setTerm_X2 : ∀ w ∈ u_ws RX2 TX2 2, w ∈ wsX5_setTerm := by decide +kernel
set_option maxRecDepth 100000 in
set_option maxHeartbeats 4000000 in
theorem c_X5_setTerm (l : Launch) (hst : l.stackTraces = false) (g : gC) (μ : gM) (cnt lc wc : Nat) (hV : gV μ cnt lc wc) (x y : Int32) : vx_Met l yX5_setTerm wsX5_setTerm { frames := 7, cells := 2, slots := 12, locals := 112 } (va_Pc [.ref (g.2.1 0), .int x, .int y] (gB g μ)) (va_Qi (fun (r : Int32) (μ' : gM) => r = μ 7 (ix x) ∧ μ' = gU μ 7 (ix x) y ∧ k1 (inB x 0 3 && inB y 1 999) = 0) (gPB g) (gA g)) (gPX g (fun (E : String) (μ' : gM) => (E = eA ∧ k1 (inB x 0 3 && inB y 1 999) = 1 ∧ μ' = μ))) 2 12 (gA g) := by
  refine g_oXI (cc := cX5_setTerm) (nL := 4) (ret := (some .int)) (ty := .int) hst rfl (by decide +kernel) rfl rfl (fun _ _ _ => rfl) (Nat.le_of_ble_eq_true rfl) ?_
  intro p e s m args below meth c Q Z hR hE hT
  obtain ⟨hcnt, hc, hlc, hl, hwc, hw, hs, v1, v2, v12, hm, hat⟩ := hV
  refine j_iload_n Z dX5_setTerm_0 1 rfl ?_
  refine j_iconst Z (v := 0) dX5_setTerm_1 (by decide) ?_
  refine j_iconst Z (v := 3) dX5_setTerm_2 (by decide) ?_
  refine j_callSxv Z (As := [.int x, .int 0, .int 3]) (rest := []) (nA := 3) (c_X5_requireRange l hst g μ x 0 3) gX5_setTerm_X5_requireRange rfl rfl rfl (by decide +kernel) (by decide) rfl dX5_setTerm_3 rfl (Nat.le_of_ble_eq_true rfl) (by decide) (fun E μx hx => hE _ _ _ _ _ _ _ (⟨hx.1, by simp [k1, hx.2.1], hx.2.2⟩) (by decide) (by decide)) (fun μ9 hp => ?_)
  have hq : μ9 = μ ∧ inB x 0 3 = true := hp
  refine j_mem hq.1 ?_
  have hf3 := hq.2
  clear hq hp
  obtain ⟨ex, lx⟩ := vp_ix (inB_vp hf3 (N := 4) rfl) (by decide)
  refine j_iload_n Z dX5_setTerm_6 2 rfl ?_
  refine j_iconst Z (v := 1) dX5_setTerm_7 (by decide) ?_
  refine j_sipush Z (v := 999) dX5_setTerm_8 (by decide) ?_
  refine j_callSxv Z (As := [.int y, .int 1, .int 999]) (rest := []) (nA := 3) (c_X5_requireRange l hst g μ y 1 999) gX5_setTerm_X5_requireRange rfl rfl rfl (by decide +kernel) (by decide) rfl dX5_setTerm_11 rfl (Nat.le_of_ble_eq_true rfl) (by decide) (fun E μx hx => hE _ _ _ _ _ _ _ (⟨hx.1, by simp [k1, hf3, hx.2.1], hx.2.2⟩) (by decide) (by decide)) (fun μ9 hp => ?_)
  have hq : μ9 = μ ∧ inB y 1 999 = true := hp
  refine j_mem hq.1 ?_
  have hf11 := hq.2
  clear hq hp
  refine j_aload_n Z dX5_setTerm_14 0 rfl ?_
  refine j_get Z 0 (by decide) rfl rfl 1 (by decide) rfl inX5_setTerm_X5 lkX5_setTerm_16 dX5_setTerm_15 ?_
  refine j_get Z 1 (by decide) rfl rfl 0 (by decide) rfl inX5_setTerm_X2 lkX5_setTerm_64 dX5_setTerm_18 ?_
  refine j_iload_n Z dX5_setTerm_21 1 rfl ?_
  refine j_eq ex ?_
  refine j_ild Z 7 (by decide) (fun _ => rfl) (ix x) rfl (by omega) (by decide) dX5_setTerm_22 ?_
  refine j_istore_n Z dX5_setTerm_23 (by decide) [(3, .int (μ 7 (ix x))), (0, .ref (g.2.1 0)), (1, .int x), (2, .int y)] rfl ?_
  refine j_aload_n Z dX5_setTerm_24 1 rfl ?_
  refine j_get Z 0 (by decide) rfl rfl 1 (by decide) rfl inX5_setTerm_X5 lkX5_setTerm_16 dX5_setTerm_25 ?_
  refine j_get Z 1 (by decide) rfl rfl 0 (by decide) rfl inX5_setTerm_X2 lkX5_setTerm_64 dX5_setTerm_28 ?_
  refine j_iload_n Z dX5_setTerm_31 2 rfl ?_
  refine j_eq ex ?_
  refine j_iload_n Z dX5_setTerm_32 3 rfl ?_
  refine j_ist Z 7 (by decide) (fun _ => rfl) (ix x) rfl (by omega) (by decide)  dX5_setTerm_33 ?_
  refine j_iload_n Z dX5_setTerm_34 0 rfl ?_
  exact hR _ _ _ _ _ _ (⟨rfl, rfl, by simp [k1, hf3, hf11]⟩) (by decide) (by decide) dX5_setTerm_35
theorem lkX5_putFirst_16 : Cond.fieldLink RX5 16 (TX5 1).1 (TX5 1).2.1 (TX5 1).2.2.1 ∈ wsX5_putFirst := by decide +kernel
theorem inX5_putFirst_X5 : ∀ w ∈ u_ws RX5 TX5 7, w ∈ wsX5_putFirst := by decide +kernel
set_option maxRecDepth 100000 in
set_option maxHeartbeats 4000000 in
theorem c_X5_putFirst (l : Launch) (hst : l.stackTraces = false) (g : gC) (μ : gM) (cnt lc wc : Nat) (hV : gV μ cnt lc wc) (x : Int32) : vx_Met l yX5_putFirst wsX5_putFirst { frames := 7, cells := 1, slots := 6, locals := 112 } (va_Pc [.ref (g.2.1 0), .int x] (gB g μ)) (va_Qi (fun (r : Int32) (μ' : gM) => r = μ 8 (ix x) ∧ μ' = gR μ 8 (upd (pMv 4 (μ 8 (ix x)) (μ 8)) (ix x) 0) ∧ k1 (inB x 0 3) = 0) (gPB g) (gA g)) (gPX g (fun (E : String) (μ' : gM) => (E = eA ∧ k1 (inB x 0 3) = 1 ∧ μ' = μ))) 1 6 (gA g) := by
  refine g_oXI (cc := cX5_putFirst) (nL := 2) (ret := (some .int)) (ty := .int) hst rfl (by decide +kernel) rfl rfl (fun _ _ _ => rfl) (Nat.le_of_ble_eq_true rfl) ?_
  intro p e s m args below meth c Q Z hR hE hT
  obtain ⟨hcnt, hc, hlc, hl, hwc, hw, hs, v1, v2, v12, hm, hat⟩ := hV
  refine j_iload_n Z dX5_putFirst_0 1 rfl ?_
  refine j_iconst Z (v := 0) dX5_putFirst_1 (by decide) ?_
  refine j_iconst Z (v := 3) dX5_putFirst_2 (by decide) ?_
  refine j_callSxv Z (As := [.int x, .int 0, .int 3]) (rest := []) (nA := 3) (c_X5_requireRange l hst g μ x 0 3) gX5_putFirst_X5_requireRange rfl rfl rfl (by decide +kernel) (by decide) rfl dX5_putFirst_3 rfl (Nat.le_of_ble_eq_true rfl) (by decide) (fun E μx hx => hE _ _ _ _ _ _ _ (⟨hx.1, by simp [k1, hx.2.1], hx.2.2⟩) (by decide) (by decide)) (fun μ9 hp => ?_)
  have hq : μ9 = μ ∧ inB x 0 3 = true := hp
  refine j_mem hq.1 ?_
  have hf3 := hq.2
  clear hq hp
  obtain ⟨ex, lx⟩ := vp_ix (inB_vp hf3 (N := 4) rfl) (by decide)
  refine j_aload_n Z dX5_putFirst_6 0 rfl ?_
  refine j_get Z 0 (by decide) rfl rfl 1 (by decide) rfl inX5_putFirst_X5 lkX5_putFirst_16 dX5_putFirst_7 ?_
  refine j_iload_n Z dX5_putFirst_10 1 rfl ?_
  refine j_eq ex ?_
  refine j_callVi Z (As := [.int (nI (ix x))]) (rest := []) (nA := 1) 1 (by decide) rfl rfl (c_X2_moveToFront l g μ (ix x) lx) gX5_putFirst_X2_moveToFront rfl rfl rfl (by decide +kernel) (by decide) rfl dX5_putFirst_11 rfl (Nat.le_of_ble_eq_true rfl) (by decide) (fun r9 μ9 hp => ?_)
  have hq : r9 = μ 8 (ix x) ∧ μ9 = (gR μ 8 (upd (pMv 4 (μ 8 (ix x)) (μ 8)) (ix x) 0)) := hp
  refine j_mem hq.2 ?_
  refine j_eq hq.1 ?_
  clear hq hp
  exact hR _ _ _ _ _ _ (⟨rfl, rfl, by simp [k1, hf3]⟩) (by decide) (by decide) dX5_putFirst_14
theorem lkX5_find_23 : Cond.fieldLink RX5 23 (TX5 2).1 (TX5 2).2.1 (TX5 2).2.2.1 ∈ wsX5_find := by decide +kernel
theorem inX5_find_X5 : ∀ w ∈ u_ws RX5 TX5 7, w ∈ wsX5_find := by decide +kernel
theorem lkX5_find_72 : Cond.fieldLink RX5 72 (TX0 0).1 (TX0 0).2.1 (TX0 0).2.2.1 ∈ wsX5_find := by decide +kernel
theorem inX5_find_X0 : ∀ w ∈ u_ws RX0 TX0 7, w ∈ wsX5_find := by decide +kernel
theorem lkX5_find_7 : Cond.fieldLink RX5 7 (TX5 0).1 (TX5 0).2.1 (TX5 0).2.2.1 ∈ wsX5_find := by decide +kernel
theorem thX5_find_57 : Cond.classLink RX5 57 "java/lang/IllegalStateException" ∈ wsX5_find ∧ Cond.initialized "java/lang/IllegalStateException" ∈ wsX5_find ∧ ∀ w ∈ (vx_atS RX5 61 "java/lang/IllegalStateException" gNm).filter goodWord, w ∈ wsX5_find := ⟨by decide +kernel, by decide +kernel, by decide +kernel⟩
set_option maxRecDepth 100000 in
set_option maxHeartbeats 4000000 in
theorem c_X5_find (l : Launch) (hst : l.stackTraces = false) (g : gC) (μ : gM) (cnt lc wc : Nat) (hV : gV μ cnt lc wc) (a1 a2 a3 a4 a5 a6 : Int32) : vx_Met l yX5_find wsX5_find { frames := 7, cells := 7, slots := 42, locals := 112 } (va_Pc [.ref (g.2.1 0), .int a1, .int a2, .int a3, .int a4, .int a5, .int a6] (gB g μ)) (va_Qi (fun (r : Int32) (μ' : gM) => r = nI cnt ∧ μ' = (gU (gU (gU (gU (gU (gU (gU (gU μ 9 cnt a1) 10 cnt (μ 0 0)) 2 0 (nI (cnt + 1))) 26 cnt a2) 27 cnt a3) 28 cnt a4) 29 cnt a5) 30 cnt a6) ∧ k2 (inB a1 0 3 && inB a2 0 99 && inB a3 0 99 && inB a4 0 99 && inB a5 (-1) 99 && inB a6 (-1) 99) (decide (cnt < 60)) = 0) (gPB g) (gA g)) (gPX g (fun (E : String) (μ' : gM) => (E = eA ∧ k2 (inB a1 0 3 && inB a2 0 99 && inB a3 0 99 && inB a4 0 99 && inB a5 (-1) 99 && inB a6 (-1) 99) (decide (cnt < 60)) = 1 ∧ μ' = μ) ∨ (E = eS ∧ k2 (inB a1 0 3 && inB a2 0 99 && inB a3 0 99 && inB a4 0 99 && inB a5 (-1) 99 && inB a6 (-1) 99) (decide (cnt < 60)) = 2 ∧ μ' = μ))) 7 42 (gA g) := by
  refine g_oXI (cc := cX5_find) (nL := 8) (ret := (some .int)) (ty := .int) hst rfl (by decide +kernel) rfl rfl (fun _ _ _ => rfl) (Nat.le_of_ble_eq_true rfl) ?_
  intro p e s m args below meth c Q Z hR hE hT
  obtain ⟨hcnt, hc, hlc, hl, hwc, hw, hs, v1, v2, v12, hm, hat⟩ := hV
  refine j_iload_n Z dX5_find_0 1 rfl ?_
  refine j_iconst Z (v := 0) dX5_find_1 (by decide) ?_
  refine j_iconst Z (v := 3) dX5_find_2 (by decide) ?_
  refine j_callSxv Z (As := [.int a1, .int 0, .int 3]) (rest := []) (nA := 3) (c_X5_requireRange l hst g μ a1 0 3) gX5_find_X5_requireRange rfl rfl rfl (by decide +kernel) (by decide) rfl dX5_find_3 rfl (Nat.le_of_ble_eq_true rfl) (by decide) (fun E μx hx => hE _ _ _ _ _ _ _ (Or.inl ⟨hx.1, by simp [k2, hx.2.1], hx.2.2⟩) (by decide) (by decide)) (fun μ9 hp => ?_)
  have hq : μ9 = μ ∧ inB a1 0 3 = true := hp
  refine j_mem hq.1 ?_
  have hf3 := hq.2
  clear hq hp
  refine j_iload_n Z dX5_find_6 2 rfl ?_
  refine j_iconst Z (v := 0) dX5_find_7 (by decide) ?_
  refine j_bipush Z (v := 99) dX5_find_8 (by decide) ?_
  refine j_callSxv Z (As := [.int a2, .int 0, .int 99]) (rest := []) (nA := 3) (c_X5_requireRange l hst g μ a2 0 99) gX5_find_X5_requireRange rfl rfl rfl (by decide +kernel) (by decide) rfl dX5_find_10 rfl (Nat.le_of_ble_eq_true rfl) (by decide) (fun E μx hx => hE _ _ _ _ _ _ _ (Or.inl ⟨hx.1, by simp [k2, hf3, hx.2.1], hx.2.2⟩) (by decide) (by decide)) (fun μ9 hp => ?_)
  have hq : μ9 = μ ∧ inB a2 0 99 = true := hp
  refine j_mem hq.1 ?_
  have hf10 := hq.2
  clear hq hp
  refine j_iload_n Z dX5_find_13 3 rfl ?_
  refine j_iconst Z (v := 0) dX5_find_14 (by decide) ?_
  refine j_bipush Z (v := 99) dX5_find_15 (by decide) ?_
  refine j_callSxv Z (As := [.int a3, .int 0, .int 99]) (rest := []) (nA := 3) (c_X5_requireRange l hst g μ a3 0 99) gX5_find_X5_requireRange rfl rfl rfl (by decide +kernel) (by decide) rfl dX5_find_17 rfl (Nat.le_of_ble_eq_true rfl) (by decide) (fun E μx hx => hE _ _ _ _ _ _ _ (Or.inl ⟨hx.1, by simp [k2, hf3, hf10, hx.2.1], hx.2.2⟩) (by decide) (by decide)) (fun μ9 hp => ?_)
  have hq : μ9 = μ ∧ inB a3 0 99 = true := hp
  refine j_mem hq.1 ?_
  have hf17 := hq.2
  clear hq hp
  refine j_iload Z dX5_find_20 4 rfl ?_
  refine j_iconst Z (v := 0) dX5_find_22 (by decide) ?_
  refine j_bipush Z (v := 99) dX5_find_23 (by decide) ?_
  refine j_callSxv Z (As := [.int a4, .int 0, .int 99]) (rest := []) (nA := 3) (c_X5_requireRange l hst g μ a4 0 99) gX5_find_X5_requireRange rfl rfl rfl (by decide +kernel) (by decide) rfl dX5_find_25 rfl (Nat.le_of_ble_eq_true rfl) (by decide) (fun E μx hx => hE _ _ _ _ _ _ _ (Or.inl ⟨hx.1, by simp [k2, hf3, hf10, hf17, hx.2.1], hx.2.2⟩) (by decide) (by decide)) (fun μ9 hp => ?_)
  have hq : μ9 = μ ∧ inB a4 0 99 = true := hp
  refine j_mem hq.1 ?_
  have hf25 := hq.2
  clear hq hp
  refine j_iload Z dX5_find_28 5 rfl ?_
  refine j_iconst Z (v := -1) dX5_find_30 (by decide) ?_
  refine j_bipush Z (v := 99) dX5_find_31 (by decide) ?_
  refine j_callSxv Z (As := [.int a5, .int (-1), .int 99]) (rest := []) (nA := 3) (c_X5_requireRange l hst g μ a5 (-1) 99) gX5_find_X5_requireRange rfl rfl rfl (by decide +kernel) (by decide) rfl dX5_find_33 rfl (Nat.le_of_ble_eq_true rfl) (by decide) (fun E μx hx => hE _ _ _ _ _ _ _ (Or.inl ⟨hx.1, by simp [k2, hf3, hf10, hf17, hf25, hx.2.1], hx.2.2⟩) (by decide) (by decide)) (fun μ9 hp => ?_)
  have hq : μ9 = μ ∧ inB a5 (-1) 99 = true := hp
  refine j_mem hq.1 ?_
  have hf33 := hq.2
  clear hq hp
  refine j_iload Z dX5_find_36 6 rfl ?_
  refine j_iconst Z (v := -1) dX5_find_38 (by decide) ?_
  refine j_bipush Z (v := 99) dX5_find_39 (by decide) ?_
  refine j_callSxv Z (As := [.int a6, .int (-1), .int 99]) (rest := []) (nA := 3) (c_X5_requireRange l hst g μ a6 (-1) 99) gX5_find_X5_requireRange rfl rfl rfl (by decide +kernel) (by decide) rfl dX5_find_41 rfl (Nat.le_of_ble_eq_true rfl) (by decide) (fun E μx hx => hE _ _ _ _ _ _ _ (Or.inl ⟨hx.1, by simp [k2, hf3, hf10, hf17, hf25, hf33, hx.2.1], hx.2.2⟩) (by decide) (by decide)) (fun μ9 hp => ?_)
  have hq : μ9 = μ ∧ inB a6 (-1) 99 = true := hp
  refine j_mem hq.1 ?_
  have hf41 := hq.2
  clear hq hp
  refine j_aload_n Z dX5_find_44 0 rfl ?_
  refine j_get Z 0 (by decide) rfl rfl 2 (by decide) rfl inX5_find_X5 lkX5_find_23 dX5_find_45 ?_
  refine j_get Z 2 (by decide) rfl rfl 0 (by decide) rfl inX5_find_X0 lkX5_find_72 dX5_find_48 ?_
  refine j_eq hc ?_
  refine j_bipush Z (v := 60) dX5_find_51 (by decide) ?_
  refine j_icmp_lt Z 66 dX5_find_53 (by decide) (fun h53 => ?_) (fun h53 => ?_)
  · skip
    have lcnt : cnt < 60 := (nI_ltI (by omega) (by omega)).mp h53
    refine j_aload_n Z dX5_find_66 0 rfl ?_
    refine j_get Z 0 (by decide) rfl rfl 2 (by decide) rfl inX5_find_X5 lkX5_find_23 dX5_find_67 ?_
    refine j_iload_n Z dX5_find_70 1 rfl ?_
    refine j_aload_n Z dX5_find_71 0 rfl ?_
    refine j_get Z 0 (by decide) rfl rfl 0 (by decide) rfl inX5_find_X5 lkX5_find_7 dX5_find_72 ?_
    refine j_callVi Z (As := [.int a1, .int (μ 0 0)]) (rest := []) (nA := 2) 2 (by decide) rfl rfl (c_X0_take l g μ cnt a1 (μ 0 0) lcnt hc) gX5_find_X0_take rfl rfl rfl (by decide +kernel) (by decide) rfl dX5_find_75 rfl (Nat.le_of_ble_eq_true rfl) (by decide) (fun r9 μ9 hp => ?_)
    have hq : r9 = nI cnt ∧ μ9 = (gU (gU (gU μ 9 cnt a1) 10 cnt (μ 0 0)) 2 0 (nI (cnt + 1))) := hp
    refine j_mem hq.2 ?_
    refine j_eq hq.1 ?_
    clear hq hp
    refine j_istore Z dX5_find_78 (by decide) [(7, .int (nI cnt)), (0, .ref (g.2.1 0)), (1, .int a1), (2, .int a2), (3, .int a3), (4, .int a4), (5, .int a5), (6, .int a6)] rfl ?_
    refine j_aload_n Z dX5_find_80 1 rfl ?_
    refine j_get Z 0 (by decide) rfl rfl 2 (by decide) rfl inX5_find_X5 lkX5_find_23 dX5_find_81 ?_
    refine j_iload Z dX5_find_84 0 rfl ?_
    refine j_iload_n Z dX5_find_86 3 rfl ?_
    refine j_iload_n Z dX5_find_87 4 rfl ?_
    refine j_iload Z dX5_find_88 5 rfl ?_
    refine j_callVv Z (As := [.int (nI cnt), .int a2, .int a3, .int a4]) (rest := []) (nA := 4) 2 (by decide) rfl rfl (c_X0_putMarks l g (gU (gU (gU μ 9 cnt a1) 10 cnt (μ 0 0)) 2 0 (nI (cnt + 1))) cnt a2 a3 a4 lcnt) gX5_find_X0_putMarks rfl rfl rfl (by decide +kernel) (by decide) rfl dX5_find_90 rfl (Nat.le_of_ble_eq_true rfl) (by decide) (fun μ9 hp => ?_)
    have hq : μ9 = (gU (gU (gU (gU (gU (gU μ 9 cnt a1) 10 cnt (μ 0 0)) 2 0 (nI (cnt + 1))) 26 cnt a2) 27 cnt a3) 28 cnt a4) := hp
    refine j_mem hq ?_
    clear hq hp
    refine j_aload_n Z dX5_find_93 1 rfl ?_
    refine j_get Z 0 (by decide) rfl rfl 2 (by decide) rfl inX5_find_X5 lkX5_find_23 dX5_find_94 ?_
    refine j_iload Z dX5_find_97 0 rfl ?_
    refine j_iload Z dX5_find_99 6 rfl ?_
    refine j_iload Z dX5_find_101 7 rfl ?_
    refine j_callVv Z (As := [.int (nI cnt), .int a5, .int a6]) (rest := []) (nA := 3) 2 (by decide) rfl rfl (c_X0_putAttributes l g (gU (gU (gU (gU (gU (gU μ 9 cnt a1) 10 cnt (μ 0 0)) 2 0 (nI (cnt + 1))) 26 cnt a2) 27 cnt a3) 28 cnt a4) cnt a5 a6 lcnt) gX5_find_X0_putAttributes rfl rfl rfl (by decide +kernel) (by decide) rfl dX5_find_103 rfl (Nat.le_of_ble_eq_true rfl) (by decide) (fun μ9 hp => ?_)
    have hq : μ9 = (gU (gU (gU (gU (gU (gU (gU (gU μ 9 cnt a1) 10 cnt (μ 0 0)) 2 0 (nI (cnt + 1))) 26 cnt a2) 27 cnt a3) 28 cnt a4) 29 cnt a5) 30 cnt a6) := hp
    refine j_mem hq ?_
    clear hq hp
    refine j_iload Z dX5_find_106 0 rfl ?_
    exact hR _ _ _ _ _ _ (⟨rfl, rfl, by simp [k2, hf3, hf10, hf17, hf25, hf33, hf41, lcnt, h53]⟩) (by decide) (by decide) dX5_find_108
  · skip
    have lcnt : ¬ cnt < 60 := fun q => h53 (nI_lt (a := cnt) (b := 60) q (by omega))
    exact hT "java/lang/IllegalStateException" "no more finds can come" 57 75 61 (vx_atS RX5 61 "java/lang/IllegalStateException" gNm) _ _ _ _ _ _ gOk_S thX5_find_57 (by decide +kernel) dX5_find_56 dX5_find_59 dX5_find_60 dX5_find_62 dX5_find_65 (Or.inr ⟨rfl, by simp [k2, hf3, hf10, hf17, hf25, hf33, hf41, lcnt, h53], rfl⟩) (by decide) (by decide) (by decide)
theorem lkX5_strike_23 : Cond.fieldLink RX5 23 (TX5 2).1 (TX5 2).2.1 (TX5 2).2.2.1 ∈ wsX5_strike := by decide +kernel
theorem inX5_strike_X5 : ∀ w ∈ u_ws RX5 TX5 7, w ∈ wsX5_strike := by decide +kernel
theorem lkX5_strike_92 : Cond.fieldLink RX5 92 (TX0 3).1 (TX0 3).2.1 (TX0 3).2.2.1 ∈ wsX5_strike := by decide +kernel
theorem inX5_strike_X0 : ∀ w ∈ u_ws RX0 TX0 7, w ∈ wsX5_strike := by decide +kernel
set_option maxRecDepth 100000 in
set_option maxHeartbeats 4000000 in
theorem c_X5_strike (l : Launch) (hst : l.stackTraces = false) (g : gC) (μ : gM) (cnt lc wc : Nat) (hV : gV μ cnt lc wc) (x : Int32) : vx_Met l yX5_strike wsX5_strike { frames := 7, cells := 1, slots := 6, locals := 111 } (va_Pc [.ref (g.2.1 0), .int x] (gB g μ)) (va_Qi (fun (r : Int32) (μ' : gM) => r = zB (decide (μ 11 (ix x) = 0)) ∧ μ' = gU μ 11 (ix x) 1 ∧ k1 (fndB cnt x) = 0) (gPB g) (gA g)) (gPX g (fun (E : String) (μ' : gM) => (E = eI ∧ k1 (fndB cnt x) = 1 ∧ μ' = μ))) 1 6 (gA g) := by
  refine g_oXI (cc := cX5_strike) (nL := 3) (ret := (some .boolean)) (ty := .boolean) hst rfl (by decide +kernel) rfl rfl (by rintro _ _ ⟨rfl, -⟩; exact zB_n) (Nat.le_of_ble_eq_true rfl) ?_
  intro p e s m args below meth c Q Z hR hE hT
  obtain ⟨hcnt, hc, hlc, hl, hwc, hw, hs, v1, v2, v12, hm, hat⟩ := hV
  refine j_aload_n Z dX5_strike_0 0 rfl ?_
  refine j_iload_n Z dX5_strike_1 1 rfl ?_
  refine j_callVxv Z (As := [.int x]) (rest := []) (nA := 1) 0 (by decide) rfl rfl (c_X5_requireFind l hst g μ x cnt hc) gX5_strike_X5_requireFind rfl rfl rfl (by decide +kernel) (by decide) rfl dX5_strike_2 rfl (Nat.le_of_ble_eq_true rfl) (by decide) (fun E μx hx => hE _ _ _ _ _ _ _ (⟨hx.1, by simp [k1, hx.2.1], hx.2.2⟩) (by decide) (by decide)) (fun μ9 hp => ?_)
  have hq : μ9 = μ ∧ fndB cnt x = true := hp
  refine j_mem hq.1 ?_
  have hf2 := hq.2
  clear hq hp
  obtain ⟨ex, lx⟩ := fnd_ix hf2 hcnt
  refine j_aload_n Z dX5_strike_5 0 rfl ?_
  refine j_get Z 0 (by decide) rfl rfl 2 (by decide) rfl inX5_strike_X5 lkX5_strike_23 dX5_strike_6 ?_
  refine j_get Z 2 (by decide) rfl rfl 3 (by decide) rfl inX5_strike_X0 lkX5_strike_92 dX5_strike_9 ?_
  refine j_iload_n Z dX5_strike_12 1 rfl ?_
  refine j_eq ex ?_
  refine j_zld Z 11 (by decide) (fun _ => rfl) (ix x) rfl (by omega) (by decide) dX5_strike_13 ?_
  refine j_if_ne Z 21 dX5_strike_14 (by decide) (fun h14 => ?_) (fun h14 => ?_)
  · skip
    refine j_iconst Z (v := 0) dX5_strike_21 (by decide) ?_
    refine j_istore_n Z dX5_strike_22 (by decide) [(2, .int 0), (0, .ref (g.2.1 0)), (1, .int x)] rfl ?_
    refine j_aload_n Z dX5_strike_23 1 rfl ?_
    refine j_get Z 0 (by decide) rfl rfl 2 (by decide) rfl inX5_strike_X5 lkX5_strike_23 dX5_strike_24 ?_
    refine j_get Z 2 (by decide) rfl rfl 3 (by decide) rfl inX5_strike_X0 lkX5_strike_92 dX5_strike_27 ?_
    refine j_iload_n Z dX5_strike_30 2 rfl ?_
    refine j_eq ex ?_
    refine j_iconst Z (v := 1) dX5_strike_31 (by decide) ?_
    refine j_zst Z 11 (by decide) (fun _ => rfl) (ix x) rfl (by omega) (by decide) (by decide) dX5_strike_32 ?_
    refine j_iload_n Z dX5_strike_33 0 rfl ?_
    exact hR _ _ _ _ _ _ (⟨by simp [zB, h14], rfl, by simp [k1, hf2, h14]⟩) (by decide) (by decide) dX5_strike_34
  · skip
    refine j_iconst Z (v := 1) dX5_strike_17 (by decide) ?_
    refine j_goto Z 22 dX5_strike_18 (by decide) ?_
    refine j_istore_n Z dX5_strike_22 (by decide) [(2, .int 1), (0, .ref (g.2.1 0)), (1, .int x)] rfl ?_
    refine j_aload_n Z dX5_strike_23 1 rfl ?_
    refine j_get Z 0 (by decide) rfl rfl 2 (by decide) rfl inX5_strike_X5 lkX5_strike_23 dX5_strike_24 ?_
    refine j_get Z 2 (by decide) rfl rfl 3 (by decide) rfl inX5_strike_X0 lkX5_strike_92 dX5_strike_27 ?_
    refine j_iload_n Z dX5_strike_30 2 rfl ?_
    refine j_eq ex ?_
    refine j_iconst Z (v := 1) dX5_strike_31 (by decide) ?_
    refine j_zst Z 11 (by decide) (fun _ => rfl) (ix x) rfl (by omega) (by decide) (by decide) dX5_strike_32 ?_
    refine j_iload_n Z dX5_strike_33 0 rfl ?_
    exact hR _ _ _ _ _ _ (⟨by simp [zB, h14], rfl, by simp [k1, hf2, h14]⟩) (by decide) (by decide) dX5_strike_34
theorem lkX5_tell_23 : Cond.fieldLink RX5 23 (TX5 2).1 (TX5 2).2.1 (TX5 2).2.2.1 ∈ wsX5_tell := by decide +kernel
theorem inX5_tell_X5 : ∀ w ∈ u_ws RX5 TX5 7, w ∈ wsX5_tell := by decide +kernel
theorem lkX5_tell_100 : Cond.fieldLink RX5 100 (TX0 6).1 (TX0 6).2.1 (TX0 6).2.2.1 ∈ wsX5_tell := by decide +kernel
theorem inX5_tell_X0 : ∀ w ∈ u_ws RX0 TX0 7, w ∈ wsX5_tell := by decide +kernel
set_option maxRecDepth 100000 in
set_option maxHeartbeats 4000000 in
theorem c_X5_tell (l : Launch) (hst : l.stackTraces = false) (g : gC) (μ : gM) (cnt lc wc : Nat) (hV : gV μ cnt lc wc) (x y z : Int32) : vx_Met l yX5_tell wsX5_tell { frames := 7, cells := 4, slots := 24, locals := 112 } (va_Pc [.ref (g.2.1 0), .int x, .int y, .int z] (gB g μ)) (va_Qi (fun (r : Int32) (μ' : gM) => r = μ (50 + (ix x)) (ix y) ∧ μ' = (gU (gU μ (50 + (ix x)) (ix y) z) (50 + (ix y)) (ix x) z) ∧ k2 (fndB cnt x && fndB cnt y) (!decide (x = y) && inB z 0 2) = 0) (gPB g) (gA g)) (gPX g (fun (E : String) (μ' : gM) => (E = eI ∧ k2 (fndB cnt x && fndB cnt y) (!decide (x = y) && inB z 0 2) = 1 ∧ μ' = μ) ∨ (E = eA ∧ k2 (fndB cnt x && fndB cnt y) (!decide (x = y) && inB z 0 2) = 2 ∧ μ' = μ))) 4 24 (gA g) := by
  refine g_oXI (cc := cX5_tell) (nL := 5) (ret := (some .int)) (ty := .int) hst rfl (by decide +kernel) rfl rfl (fun _ _ _ => rfl) (Nat.le_of_ble_eq_true rfl) ?_
  intro p e s m args below meth c Q Z hR hE hT
  obtain ⟨hcnt, hc, hlc, hl, hwc, hw, hs, v1, v2, v12, hm, hat⟩ := hV
  refine j_aload_n Z dX5_tell_0 0 rfl ?_
  refine j_iload_n Z dX5_tell_1 1 rfl ?_
  refine j_callVxv Z (As := [.int x]) (rest := []) (nA := 1) 0 (by decide) rfl rfl (c_X5_requireFind l hst g μ x cnt hc) gX5_tell_X5_requireFind rfl rfl rfl (by decide +kernel) (by decide) rfl dX5_tell_2 rfl (Nat.le_of_ble_eq_true rfl) (by decide) (fun E μx hx => hE _ _ _ _ _ _ _ (Or.inl ⟨hx.1, by simp [k2, hx.2.1], hx.2.2⟩) (by decide) (by decide)) (fun μ9 hp => ?_)
  have hq : μ9 = μ ∧ fndB cnt x = true := hp
  refine j_mem hq.1 ?_
  have hf2 := hq.2
  clear hq hp
  obtain ⟨ex, lx⟩ := fnd_ix hf2 hcnt
  refine j_aload_n Z dX5_tell_5 0 rfl ?_
  refine j_iload_n Z dX5_tell_6 2 rfl ?_
  refine j_callVxv Z (As := [.int y]) (rest := []) (nA := 1) 0 (by decide) rfl rfl (c_X5_requireFind l hst g μ y cnt hc) gX5_tell_X5_requireFind rfl rfl rfl (by decide +kernel) (by decide) rfl dX5_tell_7 rfl (Nat.le_of_ble_eq_true rfl) (by decide) (fun E μx hx => hE _ _ _ _ _ _ _ (Or.inl ⟨hx.1, by simp [k2, hf2, hx.2.1], hx.2.2⟩) (by decide) (by decide)) (fun μ9 hp => ?_)
  have hq : μ9 = μ ∧ fndB cnt y = true := hp
  refine j_mem hq.1 ?_
  have hf7 := hq.2
  clear hq hp
  obtain ⟨ey, ly⟩ := fnd_ix hf7 hcnt
  refine j_iload_n Z dX5_tell_10 1 rfl ?_
  refine j_eq ex ?_
  refine j_iload_n Z dX5_tell_11 2 rfl ?_
  refine j_eq ey ?_
  refine j_callSxv Z (As := [.int (nI (ix x)), .int (nI (ix y))]) (rest := []) (nA := 2) (c_X5_requireUnlike l hst g μ (nI (ix x)) (nI (ix y))) gX5_tell_X5_requireUnlike rfl rfl rfl (by decide +kernel) (by decide) rfl dX5_tell_12 rfl (Nat.le_of_ble_eq_true rfl) (by decide) (fun E μx hx => hE _ _ _ _ _ _ _ (Or.inr ⟨hx.1, by simp [k2, hf2, hf7, show x = y from ex.trans (hx.2.1.trans ey.symm)], hx.2.2⟩) (by decide) (by decide)) (fun μ9 hp => ?_)
  have hq : μ9 = μ ∧ ¬ (nI (ix x)) = (nI (ix y)) := hp
  refine j_mem hq.1 ?_
  have hf12 := hq.2
  clear hq hp
  rw [← ex, ← ey] at hf12
  refine j_iload_n Z dX5_tell_15 3 rfl ?_
  refine j_iconst Z (v := 0) dX5_tell_16 (by decide) ?_
  refine j_iconst Z (v := 2) dX5_tell_17 (by decide) ?_
  refine j_callSxv Z (As := [.int z, .int 0, .int 2]) (rest := []) (nA := 3) (c_X5_requireRange l hst g μ z 0 2) gX5_tell_X5_requireRange rfl rfl rfl (by decide +kernel) (by decide) rfl dX5_tell_18 rfl (Nat.le_of_ble_eq_true rfl) (by decide) (fun E μx hx => hE _ _ _ _ _ _ _ (Or.inr ⟨hx.1, by simp [k2, hf2, hf7, hf12, hx.2.1], hx.2.2⟩) (by decide) (by decide)) (fun μ9 hp => ?_)
  have hq : μ9 = μ ∧ inB z 0 2 = true := hp
  refine j_mem hq.1 ?_
  have hf18 := hq.2
  clear hq hp
  refine j_aload_n Z dX5_tell_21 0 rfl ?_
  refine j_get Z 0 (by decide) rfl rfl 2 (by decide) rfl inX5_tell_X5 lkX5_tell_23 dX5_tell_22 ?_
  refine j_get Z 2 (by decide) rfl rfl 6 (by decide) rfl inX5_tell_X0 lkX5_tell_100 dX5_tell_25 ?_
  refine j_iload_n Z dX5_tell_28 1 rfl ?_
  refine j_eq ex ?_
  refine j_ald Z 14 (by decide) rfl (ix x) rfl (by omega) (by decide) rfl dX5_tell_29 ?_
  refine j_iload_n Z dX5_tell_30 2 rfl ?_
  refine j_eq ey ?_
  refine j_ild Z (50 + (ix x)) (by omega) (gE_row (by omega)) (ix y) rfl (by omega) (by decide) dX5_tell_31 ?_
  refine j_istore Z dX5_tell_32 (by decide) [(4, .int (μ (50 + (ix x)) (ix y))), (0, .ref (g.2.1 0)), (1, .int x), (2, .int y), (3, .int z)] rfl ?_
  refine j_aload_n Z dX5_tell_34 1 rfl ?_
  refine j_get Z 0 (by decide) rfl rfl 2 (by decide) rfl inX5_tell_X5 lkX5_tell_23 dX5_tell_35 ?_
  refine j_get Z 2 (by decide) rfl rfl 6 (by decide) rfl inX5_tell_X0 lkX5_tell_100 dX5_tell_38 ?_
  refine j_iload_n Z dX5_tell_41 2 rfl ?_
  refine j_eq ex ?_
  refine j_ald Z 14 (by decide) rfl (ix x) rfl (by omega) (by decide) rfl dX5_tell_42 ?_
  refine j_iload_n Z dX5_tell_43 3 rfl ?_
  refine j_eq ey ?_
  refine j_iload_n Z dX5_tell_44 4 rfl ?_
  refine j_ist Z (50 + (ix x)) (by omega) (gE_row (by omega)) (ix y) rfl (by omega) (by decide)  dX5_tell_45 ?_
  refine j_aload_n Z dX5_tell_46 1 rfl ?_
  refine j_get Z 0 (by decide) rfl rfl 2 (by decide) rfl inX5_tell_X5 lkX5_tell_23 dX5_tell_47 ?_
  refine j_get Z 2 (by decide) rfl rfl 6 (by decide) rfl inX5_tell_X0 lkX5_tell_100 dX5_tell_50 ?_
  refine j_iload_n Z dX5_tell_53 3 rfl ?_
  refine j_eq ey ?_
  refine j_ald Z 14 (by decide) rfl (ix y) rfl (by omega) (by decide) rfl dX5_tell_54 ?_
  refine j_iload_n Z dX5_tell_55 2 rfl ?_
  refine j_eq ex ?_
  refine j_iload_n Z dX5_tell_56 4 rfl ?_
  refine j_ist Z (50 + (ix y)) (by omega) (gE_row (by omega)) (ix x) rfl (by omega) (by decide)  dX5_tell_57 ?_
  refine j_iload Z dX5_tell_58 0 rfl ?_
  exact hR _ _ _ _ _ _ (⟨rfl, rfl, by simp [k2, hf2, hf7, hf12, hf18]⟩) (by decide) (by decide) dX5_tell_60
theorem lkX5_counts_23 : Cond.fieldLink RX5 23 (TX5 2).1 (TX5 2).2.1 (TX5 2).2.2.1 ∈ wsX5_counts := by decide +kernel
theorem inX5_counts_X5 : ∀ w ∈ u_ws RX5 TX5 7, w ∈ wsX5_counts := by decide +kernel
theorem lkX5_counts_16 : Cond.fieldLink RX5 16 (TX5 1).1 (TX5 1).2.1 (TX5 1).2.2.1 ∈ wsX5_counts := by decide +kernel
set_option maxRecDepth 100000 in
set_option maxHeartbeats 4000000 in
theorem c_X5_counts (l : Launch) (hst : l.stackTraces = false) (g : gC) (μ : gM) (cnt lc wc : Nat) (hV : gV μ cnt lc wc) (x z : Int32) : vx_Met l yX5_counts wsX5_counts { frames := 8, cells := 2, slots := 12, locals := 132 } (va_Pc [.ref (g.2.1 0), .int x, .int z] (gB g μ)) (va_Qi (fun (r : Int32) (μ' : gM) => r = zB (fStand μ (ix x) z) ∧ μ' = μ ∧ k2 (fndB cnt x) (inB z 0 9999) = 0) (gPB g) (gA g)) (gPX g (fun (E : String) (μ' : gM) => (E = eI ∧ k2 (fndB cnt x) (inB z 0 9999) = 1 ∧ μ' = μ) ∨ (E = eA ∧ k2 (fndB cnt x) (inB z 0 9999) = 2 ∧ μ' = μ))) 2 12 (gA g) := by
  refine g_oXI (cc := cX5_counts) (nL := 3) (ret := (some .boolean)) (ty := .boolean) hst rfl (by decide +kernel) rfl rfl (by rintro _ _ ⟨rfl, -⟩; exact zB_n) (Nat.le_of_ble_eq_true rfl) ?_
  intro p e s m args below meth c Q Z hR hE hT
  obtain ⟨hcnt, hc, hlc, hl, hwc, hw, hs, v1, v2, v12, hm, hat⟩ := hV
  refine j_aload_n Z dX5_counts_0 0 rfl ?_
  refine j_iload_n Z dX5_counts_1 1 rfl ?_
  refine j_callVxv Z (As := [.int x]) (rest := []) (nA := 1) 0 (by decide) rfl rfl (c_X5_requireFind l hst g μ x cnt hc) gX5_counts_X5_requireFind rfl rfl rfl (by decide +kernel) (by decide) rfl dX5_counts_2 rfl (Nat.le_of_ble_eq_true rfl) (by decide) (fun E μx hx => hE _ _ _ _ _ _ _ (Or.inl ⟨hx.1, by simp [k2, hx.2.1], hx.2.2⟩) (by decide) (by decide)) (fun μ9 hp => ?_)
  have hq : μ9 = μ ∧ fndB cnt x = true := hp
  refine j_mem hq.1 ?_
  have hf2 := hq.2
  clear hq hp
  obtain ⟨ex, lx⟩ := fnd_ix hf2 hcnt
  refine j_iload_n Z dX5_counts_5 2 rfl ?_
  refine j_callSxv Z (As := [.int z]) (rest := []) (nA := 1) (c_X5_requireDay l hst g μ z) gX5_counts_X5_requireDay rfl rfl rfl (by decide +kernel) (by decide) rfl dX5_counts_6 rfl (Nat.le_of_ble_eq_true rfl) (by decide) (fun E μx hx => hE _ _ _ _ _ _ _ (Or.inr ⟨hx.1, by simp [k2, hf2, hx.2.1], hx.2.2⟩) (by decide) (by decide)) (fun μ9 hp => ?_)
  have hq : μ9 = μ ∧ inB z 0 9999 = true := hp
  refine j_mem hq.1 ?_
  have hf6 := hq.2
  clear hq hp
  refine j_aload_n Z dX5_counts_9 0 rfl ?_
  refine j_get Z 0 (by decide) rfl rfl 2 (by decide) rfl inX5_counts_X5 lkX5_counts_23 dX5_counts_10 ?_
  refine j_iload_n Z dX5_counts_13 1 rfl ?_
  refine j_eq ex ?_
  refine j_iload_n Z dX5_counts_14 2 rfl ?_
  refine j_aload_n Z dX5_counts_15 0 rfl ?_
  refine j_get Z 0 (by decide) rfl rfl 1 (by decide) rfl inX5_counts_X5 lkX5_counts_16 dX5_counts_16 ?_
  refine j_callVi Z (As := [.int (nI (ix x)), .int z, .ref (g.2.1 1)]) (rest := []) (nA := 3) 2 (by decide) rfl rfl (c_X0_standsOn l g μ (ix x) z (by omega) (hs _)) gX5_counts_X0_standsOn rfl rfl rfl (by decide +kernel) (by decide) rfl dX5_counts_19 rfl (Nat.le_of_ble_eq_true rfl) (by decide) (fun r9 μ9 hp => ?_)
  have hq : r9 = zB (fStand μ (ix x) z) ∧ μ9 = μ := hp
  refine j_mem hq.2 ?_
  refine j_eq hq.1 ?_
  clear hq hp
  exact hR _ _ _ _ _ _ (⟨rfl, rfl, by simp [k2, hf2, hf6]⟩) (by decide) (by decide) dX5_counts_22
theorem lkX5_things_46 : Cond.fieldLink RX5 46 (TX5 5).1 (TX5 5).2.1 (TX5 5).2.2.1 ∈ wsX5_things := by decide +kernel
theorem inX5_things_X5 : ∀ w ∈ u_ws RX5 TX5 7, w ∈ wsX5_things := by decide +kernel
theorem lkX5_things_23 : Cond.fieldLink RX5 23 (TX5 2).1 (TX5 2).2.1 (TX5 2).2.2.1 ∈ wsX5_things := by decide +kernel
theorem lkX5_things_72 : Cond.fieldLink RX5 72 (TX0 0).1 (TX0 0).2.1 (TX0 0).2.2.1 ∈ wsX5_things := by decide +kernel
theorem inX5_things_X0 : ∀ w ∈ u_ws RX0 TX0 7, w ∈ wsX5_things := by decide +kernel
set_option maxRecDepth 100000 in
set_option maxHeartbeats 4000000 in
theorem c_X5_things (l : Launch) (hst : l.stackTraces = false) (g : gC) (μ : gM) (cnt lc wc : Nat) (hV : gV μ cnt lc wc) (z : Int32) : vx_Met l yX5_things wsX5_things { frames := 8, cells := 1, slots := 6, locals := 132 } (va_Pc [.ref (g.2.1 0), .int z] (gB g μ)) (va_Qi (fun (r : Int32) (μ' : gM) => r = nI (cB (fun k => decide ((fSort μ cnt z (μ 23)) k = nI k)) cnt) ∧ μ' = gR μ 23 (fSort μ cnt z (μ 23)) ∧ k1 (inB z 0 9999) = 0) (gPB g) (gA g)) (gPX g (fun (E : String) (μ' : gM) => (E = eA ∧ k1 (inB z 0 9999) = 1 ∧ μ' = μ))) 1 6 (gA g) := by
  refine g_oXI (cc := cX5_things) (nL := 4) (ret := (some .int)) (ty := .int) hst rfl (by decide +kernel) rfl rfl (fun _ _ _ => rfl) (Nat.le_of_ble_eq_true rfl) ?_
  intro p e s m args below meth c Q Z hR hE hT
  obtain ⟨hcnt, hc, hlc, hl, hwc, hw, hs, v1, v2, v12, hm, hat⟩ := hV
  refine j_iload_n Z dX5_things_0 1 rfl ?_
  refine j_callSxv Z (As := [.int z]) (rest := []) (nA := 1) (c_X5_requireDay l hst g μ z) gX5_things_X5_requireDay rfl rfl rfl (by decide +kernel) (by decide) rfl dX5_things_1 rfl (Nat.le_of_ble_eq_true rfl) (by decide) (fun E μx hx => hE _ _ _ _ _ _ _ (⟨hx.1, by simp [k1, hx.2.1], hx.2.2⟩) (by decide) (by decide)) (fun μ9 hp => ?_)
  have hq : μ9 = μ ∧ inB z 0 9999 = true := hp
  refine j_mem hq.1 ?_
  have hf1 := hq.2
  clear hq hp
  refine j_aload_n Z dX5_things_4 0 rfl ?_
  refine j_get Z 0 (by decide) rfl rfl 5 (by decide) rfl inX5_things_X5 lkX5_things_46 dX5_things_5 ?_
  refine j_iload_n Z dX5_things_8 1 rfl ?_
  refine j_callVv Z (As := [.int z]) (rest := []) (nA := 1) 5 (by decide) rfl rfl (c_X3_sortFor l g μ 0 (by decide) cnt hcnt hc z hs) gX5_things_X3_sortFor rfl rfl rfl (by decide +kernel) (by decide) rfl dX5_things_9 rfl (Nat.le_of_ble_eq_true rfl) (by decide) (fun μ9 hp => ?_)
  have hq : μ9 = gR μ 23 (fSort μ cnt z (μ 23)) := hp
  generalize hS : fSort μ cnt z (μ 23) = S at hq
  refine j_mem hq ?_
  clear hq hp
  refine j_iconst Z (v := 0) dX5_things_12 (by decide) ?_
  refine j_istore_n Z dX5_things_13 (by decide) [(2, .int 0), (0, .ref (g.2.1 0)), (1, .int z)] rfl ?_
  refine j_iconst Z (v := 0) dX5_things_14 (by decide) ?_
  refine j_istore_n Z dX5_things_15 (by decide) [(3, .int 0), (2, .int 0), (0, .ref (g.2.1 0)), (1, .int z)] rfl ?_
  have lp16 : ∀ (n0 i : Nat) (b : Nat), b = cB (fun k => decide (S k = nI k)) i → cnt + 2 ≤ i + n0 → i ≤ cnt → J p l e { frames := 8, cells := 1, slots := 6, locals := 132 } s m args below meth c Q g 4 (gR μ 23 S) (1) (6) 16 [(0, .ref (g.2.1 0)), (1, .int z), (2, .int (nI b)), (3, .int (nI i))] [] := by
    intro n0
    induction n0 with
    | zero => intro i b eb hn hg; exact absurd hn (by omega)
    | succ n0 ih =>
      intro i b eb hn hg
      refine j_iload_n Z dX5_things_16 3 rfl ?_
      refine j_aload_n Z dX5_things_17 0 rfl ?_
      refine j_get Z 0 (by decide) rfl rfl 2 (by decide) rfl inX5_things_X5 lkX5_things_23 dX5_things_18 ?_
      refine j_get Z 2 (by decide) rfl rfl 0 (by decide) rfl inX5_things_X0 lkX5_things_72 dX5_things_21 ?_
      refine j_eq (y := μ 2 0) (by rw [gR_n (k := 23) (j := 2) (by omega)]) ?_
      refine j_eq hc ?_
      refine j_icmp_ge Z 47 dX5_things_24 (by decide) (fun h24 => ?_) (fun h24 => ?_)
      · skip
        have hic : i = cnt := by
          have hq := (nI_leI (a := cnt) (b := i) (by omega) (by omega)).mp h24
          omega
        rw [hic] at eb
        refine j_iload_n Z dX5_things_47 2 rfl ?_
        exact hR _ _ _ _ _ _ (⟨by rw [eb, hS], by rw [hS], by simp [k1, hf1]⟩) (by decide) (by decide) dX5_things_48
      · skip
        have hlt : i < cnt := by
          rcases Nat.lt_or_ge i cnt with q9 | q9
          · exact q9
          · exact absurd (nI_le q9 (by omega)) h24
        refine j_aload_n Z dX5_things_27 0 rfl ?_
        refine j_get Z 0 (by decide) rfl rfl 5 (by decide) rfl inX5_things_X5 lkX5_things_46 dX5_things_28 ?_
        refine j_iload_n Z dX5_things_31 3 rfl ?_
        refine j_callVi Z (As := [.int (nI i)]) (rest := []) (nA := 1) 5 (by decide) rfl rfl (c_X3_isThing l g (gR μ 23 S) 0 (by decide) i (by omega)) gX5_things_X3_isThing rfl rfl rfl (by decide +kernel) (by decide) rfl dX5_things_32 rfl (Nat.le_of_ble_eq_true rfl) (by decide) (fun r9 μ9 hp => ?_)
        have hq : r9 = zB (decide (S i = nI i)) ∧ μ9 = (gR μ 23 S) := hp
        refine j_mem hq.2 ?_
        refine j_eq hq.1 ?_
        clear hq hp
        refine j_if_eq Z 41 dX5_things_35 (by decide) (fun h35 => ?_) (fun h35 => ?_)
        · skip
          refine j_iinc Z dX5_things_41 3 rfl (nI_1 i) (by decide) [(3, .int (nI (i + 1))), (0, .ref (g.2.1 0)), (1, .int z), (2, .int (nI b))] rfl ?_
          refine j_goto Z 16 dX5_things_44 (by decide) ?_
          refine j_sub [1, 2, 3, 0] rfl ?_
          exact ih (i + 1) (b) (by rw [eb]; exact cB_0 (one_f (zB_0.mp h35)))  (by omega) (by omega)
        · skip
          refine j_iinc Z dX5_things_38 2 rfl (nI_1 b) (by decide) [(2, .int (nI (b + 1))), (0, .ref (g.2.1 0)), (1, .int z), (3, .int (nI i))] rfl ?_
          refine j_iinc Z dX5_things_41 3 rfl (nI_1 i) (by decide) [(3, .int (nI (i + 1))), (2, .int (nI (b + 1))), (0, .ref (g.2.1 0)), (1, .int z)] rfl ?_
          refine j_goto Z 16 dX5_things_44 (by decide) ?_
          refine j_sub [2, 3, 1, 0] rfl ?_
          exact ih (i + 1) (b + 1) (by rw [eb]; exact cB_1 (zB_1 h35))  (by omega) (by omega)
  refine j_sub [2, 3, 1, 0] rfl ?_
  exact lp16 (cnt + 2) 0 (0) (rfl)  (by omega) (by omega)
theorem lkX5_thingOf_46 : Cond.fieldLink RX5 46 (TX5 5).1 (TX5 5).2.1 (TX5 5).2.2.1 ∈ wsX5_thingOf := by decide +kernel
theorem inX5_thingOf_X5 : ∀ w ∈ u_ws RX5 TX5 7, w ∈ wsX5_thingOf := by decide +kernel
theorem lkX5_thingOf_121 : Cond.fieldLink RX5 121 (TX3 2).1 (TX3 2).2.1 (TX3 2).2.2.1 ∈ wsX5_thingOf := by decide +kernel
theorem inX5_thingOf_X3 : ∀ w ∈ u_ws RX3 TX3 3, w ∈ wsX5_thingOf := by decide +kernel
set_option maxRecDepth 100000 in
set_option maxHeartbeats 4000000 in
theorem c_X5_thingOf (l : Launch) (hst : l.stackTraces = false) (g : gC) (μ : gM) (cnt lc wc : Nat) (hV : gV μ cnt lc wc) (x z : Int32) : vx_Met l yX5_thingOf wsX5_thingOf { frames := 8, cells := 3, slots := 18, locals := 132 } (va_Pc [.ref (g.2.1 0), .int x, .int z] (gB g μ)) (va_Qi (fun (r : Int32) (μ' : gM) => r = fSort μ cnt z (μ 23) (ix x) ∧ μ' = gR μ 23 (fSort μ cnt z (μ 23)) ∧ k3 (fndB cnt x) (inB z 0 9999) (!decide (fSort μ cnt z (μ 23) (ix x) = -1)) = 0) (gPB g) (gA g)) (gPX g (fun (E : String) (μ' : gM) => (E = eI ∧ k3 (fndB cnt x) (inB z 0 9999) (!decide (fSort μ cnt z (μ 23) (ix x) = -1)) = 1 ∧ μ' = μ) ∨ (E = eA ∧ k3 (fndB cnt x) (inB z 0 9999) (!decide (fSort μ cnt z (μ 23) (ix x) = -1)) = 2 ∧ μ' = μ) ∨ (E = gNs ∧ k3 (fndB cnt x) (inB z 0 9999) (!decide (fSort μ cnt z (μ 23) (ix x) = -1)) = 3 ∧ μ' = gR μ 23 (fSort μ cnt z (μ 23))))) 3 18 (gA g) := by
  refine g_oXI (cc := cX5_thingOf) (nL := 3) (ret := (some .int)) (ty := .int) hst rfl (by decide +kernel) rfl rfl (fun _ _ _ => rfl) (Nat.le_of_ble_eq_true rfl) ?_
  intro p e s m args below meth c Q Z hR hE hT
  obtain ⟨hcnt, hc, hlc, hl, hwc, hw, hs, v1, v2, v12, hm, hat⟩ := hV
  refine j_aload_n Z dX5_thingOf_0 0 rfl ?_
  refine j_iload_n Z dX5_thingOf_1 1 rfl ?_
  refine j_callVxv Z (As := [.int x]) (rest := []) (nA := 1) 0 (by decide) rfl rfl (c_X5_requireFind l hst g μ x cnt hc) gX5_thingOf_X5_requireFind rfl rfl rfl (by decide +kernel) (by decide) rfl dX5_thingOf_2 rfl (Nat.le_of_ble_eq_true rfl) (by decide) (fun E μx hx => hE _ _ _ _ _ _ _ (Or.inl ⟨hx.1, by simp [k3, hx.2.1], hx.2.2⟩) (by decide) (by decide)) (fun μ9 hp => ?_)
  have hq : μ9 = μ ∧ fndB cnt x = true := hp
  refine j_mem hq.1 ?_
  have hf2 := hq.2
  clear hq hp
  obtain ⟨ex, lx⟩ := fnd_ix hf2 hcnt
  refine j_iload_n Z dX5_thingOf_5 2 rfl ?_
  refine j_callSxv Z (As := [.int z]) (rest := []) (nA := 1) (c_X5_requireDay l hst g μ z) gX5_thingOf_X5_requireDay rfl rfl rfl (by decide +kernel) (by decide) rfl dX5_thingOf_6 rfl (Nat.le_of_ble_eq_true rfl) (by decide) (fun E μx hx => hE _ _ _ _ _ _ _ (Or.inr (Or.inl ⟨hx.1, by simp [k3, hf2, hx.2.1], hx.2.2⟩)) (by decide) (by decide)) (fun μ9 hp => ?_)
  have hq : μ9 = μ ∧ inB z 0 9999 = true := hp
  refine j_mem hq.1 ?_
  have hf6 := hq.2
  clear hq hp
  refine j_aload_n Z dX5_thingOf_9 0 rfl ?_
  refine j_get Z 0 (by decide) rfl rfl 5 (by decide) rfl inX5_thingOf_X5 lkX5_thingOf_46 dX5_thingOf_10 ?_
  refine j_iload_n Z dX5_thingOf_13 2 rfl ?_
  refine j_callVv Z (As := [.int z]) (rest := []) (nA := 1) 5 (by decide) rfl rfl (c_X3_sortFor l g μ 0 (by decide) cnt hcnt hc z hs) gX5_thingOf_X3_sortFor rfl rfl rfl (by decide +kernel) (by decide) rfl dX5_thingOf_14 rfl (Nat.le_of_ble_eq_true rfl) (by decide) (fun μ9 hp => ?_)
  have hq : μ9 = gR μ 23 (fSort μ cnt z (μ 23)) := hp
  generalize hS : fSort μ cnt z (μ 23) = S at hq
  refine j_mem hq ?_
  clear hq hp
  refine j_aload_n Z dX5_thingOf_17 0 rfl ?_
  refine j_iload_n Z dX5_thingOf_18 1 rfl ?_
  refine j_eq ex ?_
  refine j_callVxv Z (As := [.int (nI (ix x))]) (rest := []) (nA := 1) 0 (by decide) rfl rfl (c_X5_requireCounting l hst g (gR μ 23 S) (ix x) (by omega)) gX5_thingOf_X5_requireCounting rfl rfl rfl (by decide +kernel) (by decide) rfl dX5_thingOf_19 rfl (Nat.le_of_ble_eq_true rfl) (by decide) (fun E μx hx => hE _ _ _ _ _ _ _ (Or.inr (Or.inr ⟨hx.1, by rw [hS]; have h9 := hx.2.1; simp [k3, hf2, hf6, show S (ix x) = -1 from h9], by rw [hS]; exact hx.2.2⟩)) (by decide) (by decide)) (fun μ9 hp => ?_)
  have hq : μ9 = (gR μ 23 S) ∧ ¬ S (ix x) = -1 := hp
  refine j_mem hq.1 ?_
  have hf19 := hq.2
  clear hq hp
  refine j_aload_n Z dX5_thingOf_22 0 rfl ?_
  refine j_get Z 0 (by decide) rfl rfl 5 (by decide) rfl inX5_thingOf_X5 lkX5_thingOf_46 dX5_thingOf_23 ?_
  refine j_get Z 5 (by decide) rfl rfl 2 (by decide) rfl inX5_thingOf_X3 lkX5_thingOf_121 dX5_thingOf_26 ?_
  refine j_iload_n Z dX5_thingOf_29 1 rfl ?_
  refine j_eq ex ?_
  refine j_ild Z 23 (by decide) (fun _ => rfl) (ix x) rfl (by omega) (by decide) dX5_thingOf_30 ?_
  refine j_eq (y := S (ix x)) (by rw [gR_s]) ?_
  exact hR _ _ _ _ _ _ (⟨by rw [hS], by rw [hS], by simp [k3, hS, hf2, hf6, hf19]⟩) (by decide) (by decide) dX5_thingOf_31
theorem lkX5_value_46 : Cond.fieldLink RX5 46 (TX5 5).1 (TX5 5).2.1 (TX5 5).2.2.1 ∈ wsX5_value := by decide +kernel
theorem inX5_value_X5 : ∀ w ∈ u_ws RX5 TX5 7, w ∈ wsX5_value := by decide +kernel
theorem lkX5_value_121 : Cond.fieldLink RX5 121 (TX3 2).1 (TX3 2).2.1 (TX3 2).2.2.1 ∈ wsX5_value := by decide +kernel
theorem inX5_value_X3 : ∀ w ∈ u_ws RX3 TX3 3, w ∈ wsX5_value := by decide +kernel
set_option maxRecDepth 100000 in
set_option maxHeartbeats 4000000 in
theorem c_X5_value (l : Launch) (hst : l.stackTraces = false) (g : gC) (μ : gM) (cnt lc wc : Nat) (hV : gV μ cnt lc wc) (x a z : Int32) : vx_Met l yX5_value wsX5_value { frames := 8, cells := 4, slots := 24, locals := 132 } (va_Pc [.ref (g.2.1 0), .int x, .int a, .int z] (gB g μ)) (va_Qi (fun (r : Int32) (μ' : gM) => r = aVal (fSort μ cnt z (μ 23)) (μ (29 + (ix a))) (fPl μ) ((fSort μ cnt z (μ 23)) (ix x)) cnt ∧ μ' = gR μ 23 (fSort μ cnt z (μ 23)) ∧ k3 (fndB cnt x) (inB a 0 1 && inB z 0 9999) (!decide (fSort μ cnt z (μ 23) (ix x) = -1)) = 0) (gPB g) (gA g)) (gPX g (fun (E : String) (μ' : gM) => (E = eI ∧ k3 (fndB cnt x) (inB a 0 1 && inB z 0 9999) (!decide (fSort μ cnt z (μ 23) (ix x) = -1)) = 1 ∧ μ' = μ) ∨ (E = eA ∧ k3 (fndB cnt x) (inB a 0 1 && inB z 0 9999) (!decide (fSort μ cnt z (μ 23) (ix x) = -1)) = 2 ∧ μ' = μ) ∨ (E = gNs ∧ k3 (fndB cnt x) (inB a 0 1 && inB z 0 9999) (!decide (fSort μ cnt z (μ 23) (ix x) = -1)) = 3 ∧ μ' = gR μ 23 (fSort μ cnt z (μ 23))))) 4 24 (gA g) := by
  refine g_oXI (cc := cX5_value) (nL := 4) (ret := (some .int)) (ty := .int) hst rfl (by decide +kernel) rfl rfl (fun _ _ _ => rfl) (Nat.le_of_ble_eq_true rfl) ?_
  intro p e s m args below meth c Q Z hR hE hT
  obtain ⟨hcnt, hc, hlc, hl, hwc, hw, hs, v1, v2, v12, hm, hat⟩ := hV
  refine j_aload_n Z dX5_value_0 0 rfl ?_
  refine j_iload_n Z dX5_value_1 1 rfl ?_
  refine j_callVxv Z (As := [.int x]) (rest := []) (nA := 1) 0 (by decide) rfl rfl (c_X5_requireFind l hst g μ x cnt hc) gX5_value_X5_requireFind rfl rfl rfl (by decide +kernel) (by decide) rfl dX5_value_2 rfl (Nat.le_of_ble_eq_true rfl) (by decide) (fun E μx hx => hE _ _ _ _ _ _ _ (Or.inl ⟨hx.1, by simp [k3, hx.2.1], hx.2.2⟩) (by decide) (by decide)) (fun μ9 hp => ?_)
  have hq : μ9 = μ ∧ fndB cnt x = true := hp
  refine j_mem hq.1 ?_
  have hf2 := hq.2
  clear hq hp
  obtain ⟨ex, lx⟩ := fnd_ix hf2 hcnt
  refine j_iload_n Z dX5_value_5 2 rfl ?_
  refine j_callSxv Z (As := [.int a]) (rest := []) (nA := 1) (c_X5_requireAttribute l hst g μ a) gX5_value_X5_requireAttribute rfl rfl rfl (by decide +kernel) (by decide) rfl dX5_value_6 rfl (Nat.le_of_ble_eq_true rfl) (by decide) (fun E μx hx => hE _ _ _ _ _ _ _ (Or.inr (Or.inl ⟨hx.1, by simp [k3, hf2, hx.2.1], hx.2.2⟩)) (by decide) (by decide)) (fun μ9 hp => ?_)
  have hq : μ9 = μ ∧ inB a 0 1 = true := hp
  refine j_mem hq.1 ?_
  have hf6 := hq.2
  clear hq hp
  obtain ⟨ea, la⟩ := vp_ix (inB_vp hf6 (N := 2) rfl) (by decide)
  refine j_iload_n Z dX5_value_9 3 rfl ?_
  refine j_callSxv Z (As := [.int z]) (rest := []) (nA := 1) (c_X5_requireDay l hst g μ z) gX5_value_X5_requireDay rfl rfl rfl (by decide +kernel) (by decide) rfl dX5_value_10 rfl (Nat.le_of_ble_eq_true rfl) (by decide) (fun E μx hx => hE _ _ _ _ _ _ _ (Or.inr (Or.inl ⟨hx.1, by simp [k3, hf2, hf6, hx.2.1], hx.2.2⟩)) (by decide) (by decide)) (fun μ9 hp => ?_)
  have hq : μ9 = μ ∧ inB z 0 9999 = true := hp
  refine j_mem hq.1 ?_
  have hf10 := hq.2
  clear hq hp
  refine j_aload_n Z dX5_value_13 0 rfl ?_
  refine j_get Z 0 (by decide) rfl rfl 5 (by decide) rfl inX5_value_X5 lkX5_value_46 dX5_value_14 ?_
  refine j_iload_n Z dX5_value_17 3 rfl ?_
  refine j_callVv Z (As := [.int z]) (rest := []) (nA := 1) 5 (by decide) rfl rfl (c_X3_sortFor l g μ 0 (by decide) cnt hcnt hc z hs) gX5_value_X3_sortFor rfl rfl rfl (by decide +kernel) (by decide) rfl dX5_value_18 rfl (Nat.le_of_ble_eq_true rfl) (by decide) (fun μ9 hp => ?_)
  have hq : μ9 = gR μ 23 (fSort μ cnt z (μ 23)) := hp
  generalize hS : fSort μ cnt z (μ 23) = S at hq
  refine j_mem hq ?_
  clear hq hp
  refine j_aload_n Z dX5_value_21 0 rfl ?_
  refine j_iload_n Z dX5_value_22 1 rfl ?_
  refine j_eq ex ?_
  refine j_callVxv Z (As := [.int (nI (ix x))]) (rest := []) (nA := 1) 0 (by decide) rfl rfl (c_X5_requireCounting l hst g (gR μ 23 S) (ix x) (by omega)) gX5_value_X5_requireCounting rfl rfl rfl (by decide +kernel) (by decide) rfl dX5_value_23 rfl (Nat.le_of_ble_eq_true rfl) (by decide) (fun E μx hx => hE _ _ _ _ _ _ _ (Or.inr (Or.inr ⟨hx.1, by rw [hS]; have h9 := hx.2.1; simp [k3, hf2, hf6, hf10, show S (ix x) = -1 from h9], by rw [hS]; exact hx.2.2⟩)) (by decide) (by decide)) (fun μ9 hp => ?_)
  have hq : μ9 = (gR μ 23 S) ∧ ¬ S (ix x) = -1 := hp
  refine j_mem hq.1 ?_
  have hf23 := hq.2
  clear hq hp
  refine j_aload_n Z dX5_value_26 0 rfl ?_
  refine j_get Z 0 (by decide) rfl rfl 5 (by decide) rfl inX5_value_X5 lkX5_value_46 dX5_value_27 ?_
  refine j_aload_n Z dX5_value_30 0 rfl ?_
  refine j_get Z 0 (by decide) rfl rfl 5 (by decide) rfl inX5_value_X5 lkX5_value_46 dX5_value_31 ?_
  refine j_get Z 5 (by decide) rfl rfl 2 (by decide) rfl inX5_value_X3 lkX5_value_121 dX5_value_34 ?_
  refine j_iload_n Z dX5_value_37 1 rfl ?_
  refine j_eq ex ?_
  refine j_ild Z 23 (by decide) (fun _ => rfl) (ix x) rfl (by omega) (by decide) dX5_value_38 ?_
  refine j_eq (y := S (ix x)) (by rw [gR_s]) ?_
  refine j_iload_n Z dX5_value_39 2 rfl ?_
  refine j_eq ea ?_
  refine j_callVi Z (As := [.int (S (ix x)), .int (nI (ix a))]) (rest := []) (nA := 2) 5 (by decide) rfl rfl (c_X3_attributeOf l g (gR μ 23 S) 0 (by decide) cnt hcnt hc (S (ix x)) (ix a) la hs) gX5_value_X3_attributeOf rfl rfl rfl (by decide +kernel) (by decide) rfl dX5_value_40 rfl (Nat.le_of_ble_eq_true rfl) (by decide) (fun r9 μ9 hp => ?_)
  have hq : r9 = fVal (gR μ 23 S) 23 (ix a) cnt (S (ix x)) ∧ μ9 = (gR μ 23 S) := hp
  rw [fVal_S la] at hq
  refine j_mem hq.2 ?_
  refine j_eq hq.1 ?_
  clear hq hp
  exact hR _ _ _ _ _ _ (⟨by rw [hS], by rw [hS], by simp [k3, hS, hf2, hf6, hf10, hf23]⟩) (by decide) (by decide) dX5_value_43
theorem lkX5_disputed_46 : Cond.fieldLink RX5 46 (TX5 5).1 (TX5 5).2.1 (TX5 5).2.2.1 ∈ wsX5_disputed := by decide +kernel
theorem inX5_disputed_X5 : ∀ w ∈ u_ws RX5 TX5 7, w ∈ wsX5_disputed := by decide +kernel
theorem lkX5_disputed_23 : Cond.fieldLink RX5 23 (TX5 2).1 (TX5 2).2.1 (TX5 2).2.2.1 ∈ wsX5_disputed := by decide +kernel
theorem lkX5_disputed_72 : Cond.fieldLink RX5 72 (TX0 0).1 (TX0 0).2.1 (TX0 0).2.2.1 ∈ wsX5_disputed := by decide +kernel
theorem inX5_disputed_X0 : ∀ w ∈ u_ws RX0 TX0 7, w ∈ wsX5_disputed := by decide +kernel
set_option maxRecDepth 100000 in
set_option maxHeartbeats 4000000 in
theorem c_X5_disputed (l : Launch) (hst : l.stackTraces = false) (g : gC) (μ : gM) (cnt lc wc : Nat) (hV : gV μ cnt lc wc) (a z : Int32) : vx_Met l yX5_disputed wsX5_disputed { frames := 8, cells := 2, slots := 12, locals := 132 } (va_Pc [.ref (g.2.1 0), .int a, .int z] (gB g μ)) (va_Qi (fun (r : Int32) (μ' : gM) => r = nI (cB (fun k => decide ((fSort μ cnt z (μ 23)) k = nI k) && uBad (fSort μ cnt z (μ 23)) (μ (29 + (ix a))) (nI k) cnt) cnt) ∧ μ' = gR μ 23 (fSort μ cnt z (μ 23)) ∧ k1 (inB a 0 1 && inB z 0 9999) = 0) (gPB g) (gA g)) (gPX g (fun (E : String) (μ' : gM) => (E = eA ∧ k1 (inB a 0 1 && inB z 0 9999) = 1 ∧ μ' = μ))) 2 12 (gA g) := by
  refine g_oXI (cc := cX5_disputed) (nL := 5) (ret := (some .int)) (ty := .int) hst rfl (by decide +kernel) rfl rfl (fun _ _ _ => rfl) (Nat.le_of_ble_eq_true rfl) ?_
  intro p e s m args below meth c Q Z hR hE hT
  obtain ⟨hcnt, hc, hlc, hl, hwc, hw, hs, v1, v2, v12, hm, hat⟩ := hV
  refine j_iload_n Z dX5_disputed_0 1 rfl ?_
  refine j_callSxv Z (As := [.int a]) (rest := []) (nA := 1) (c_X5_requireAttribute l hst g μ a) gX5_disputed_X5_requireAttribute rfl rfl rfl (by decide +kernel) (by decide) rfl dX5_disputed_1 rfl (Nat.le_of_ble_eq_true rfl) (by decide) (fun E μx hx => hE _ _ _ _ _ _ _ (⟨hx.1, by simp [k1, hx.2.1], hx.2.2⟩) (by decide) (by decide)) (fun μ9 hp => ?_)
  have hq : μ9 = μ ∧ inB a 0 1 = true := hp
  refine j_mem hq.1 ?_
  have hf1 := hq.2
  clear hq hp
  obtain ⟨ea, la⟩ := vp_ix (inB_vp hf1 (N := 2) rfl) (by decide)
  refine j_iload_n Z dX5_disputed_4 2 rfl ?_
  refine j_callSxv Z (As := [.int z]) (rest := []) (nA := 1) (c_X5_requireDay l hst g μ z) gX5_disputed_X5_requireDay rfl rfl rfl (by decide +kernel) (by decide) rfl dX5_disputed_5 rfl (Nat.le_of_ble_eq_true rfl) (by decide) (fun E μx hx => hE _ _ _ _ _ _ _ (⟨hx.1, by simp [k1, hf1, hx.2.1], hx.2.2⟩) (by decide) (by decide)) (fun μ9 hp => ?_)
  have hq : μ9 = μ ∧ inB z 0 9999 = true := hp
  refine j_mem hq.1 ?_
  have hf5 := hq.2
  clear hq hp
  refine j_aload_n Z dX5_disputed_8 0 rfl ?_
  refine j_get Z 0 (by decide) rfl rfl 5 (by decide) rfl inX5_disputed_X5 lkX5_disputed_46 dX5_disputed_9 ?_
  refine j_iload_n Z dX5_disputed_12 2 rfl ?_
  refine j_callVv Z (As := [.int z]) (rest := []) (nA := 1) 5 (by decide) rfl rfl (c_X3_sortFor l g μ 0 (by decide) cnt hcnt hc z hs) gX5_disputed_X3_sortFor rfl rfl rfl (by decide +kernel) (by decide) rfl dX5_disputed_13 rfl (Nat.le_of_ble_eq_true rfl) (by decide) (fun μ9 hp => ?_)
  have hq : μ9 = gR μ 23 (fSort μ cnt z (μ 23)) := hp
  generalize hS : fSort μ cnt z (μ 23) = S at hq
  refine j_mem hq ?_
  clear hq hp
  refine j_iconst Z (v := 0) dX5_disputed_16 (by decide) ?_
  refine j_istore_n Z dX5_disputed_17 (by decide) [(3, .int 0), (0, .ref (g.2.1 0)), (1, .int a), (2, .int z)] rfl ?_
  refine j_iconst Z (v := 0) dX5_disputed_18 (by decide) ?_
  refine j_istore Z dX5_disputed_19 (by decide) [(4, .int 0), (3, .int 0), (0, .ref (g.2.1 0)), (1, .int a), (2, .int z)] rfl ?_
  have lp21 : ∀ (n0 i : Nat) (b : Nat), b = cB (fun k => decide (S k = nI k) && uBad S (μ (29 + (ix a))) (nI k) cnt) i → cnt + 2 ≤ i + n0 → i ≤ cnt → J p l e { frames := 8, cells := 2, slots := 12, locals := 132 } s m args below meth c Q g 5 (gR μ 23 S) (2) (12) 21 [(0, .ref (g.2.1 0)), (1, .int a), (2, .int z), (3, .int (nI b)), (4, .int (nI i))] [] := by
    intro n0
    induction n0 with
    | zero => intro i b eb hn hg; exact absurd hn (by omega)
    | succ n0 ih =>
      intro i b eb hn hg
      refine j_iload Z dX5_disputed_21 4 rfl ?_
      refine j_aload_n Z dX5_disputed_23 0 rfl ?_
      refine j_get Z 0 (by decide) rfl rfl 2 (by decide) rfl inX5_disputed_X5 lkX5_disputed_23 dX5_disputed_24 ?_
      refine j_get Z 2 (by decide) rfl rfl 0 (by decide) rfl inX5_disputed_X0 lkX5_disputed_72 dX5_disputed_27 ?_
      refine j_eq (y := μ 2 0) (by rw [gR_n (k := 23) (j := 2) (by omega)]) ?_
      refine j_eq hc ?_
      refine j_icmp_ge Z 67 dX5_disputed_30 (by decide) (fun h30 => ?_) (fun h30 => ?_)
      · skip
        have hic : i = cnt := by
          have hq := (nI_leI (a := cnt) (b := i) (by omega) (by omega)).mp h30
          omega
        rw [hic] at eb
        refine j_iload_n Z dX5_disputed_67 3 rfl ?_
        exact hR _ _ _ _ _ _ (⟨by rw [eb, hS], by rw [hS], by simp [k1, hf1, hf5]⟩) (by decide) (by decide) dX5_disputed_68
      · skip
        have hlt : i < cnt := by
          rcases Nat.lt_or_ge i cnt with q9 | q9
          · exact q9
          · exact absurd (nI_le q9 (by omega)) h30
        refine j_aload_n Z dX5_disputed_33 0 rfl ?_
        refine j_get Z 0 (by decide) rfl rfl 5 (by decide) rfl inX5_disputed_X5 lkX5_disputed_46 dX5_disputed_34 ?_
        refine j_iload Z dX5_disputed_37 4 rfl ?_
        refine j_callVi Z (As := [.int (nI i)]) (rest := []) (nA := 1) 5 (by decide) rfl rfl (c_X3_isThing l g (gR μ 23 S) 0 (by decide) i (by omega)) gX5_disputed_X3_isThing rfl rfl rfl (by decide +kernel) (by decide) rfl dX5_disputed_39 rfl (Nat.le_of_ble_eq_true rfl) (by decide) (fun r9 μ9 hp => ?_)
        have hq : r9 = zB (decide (S i = nI i)) ∧ μ9 = (gR μ 23 S) := hp
        refine j_mem hq.2 ?_
        refine j_eq hq.1 ?_
        clear hq hp
        refine j_if_eq Z 61 dX5_disputed_42 (by decide) (fun h42 => ?_) (fun h42 => ?_)
        · skip
          refine j_iinc Z dX5_disputed_61 4 rfl (nI_1 i) (by decide) [(4, .int (nI (i + 1))), (0, .ref (g.2.1 0)), (1, .int a), (2, .int z), (3, .int (nI b))] rfl ?_
          refine j_goto Z 21 dX5_disputed_64 (by decide) ?_
          refine j_sub [1, 2, 3, 4, 0] rfl ?_
          exact ih (i + 1) (b) (by rw [eb]; exact cB_0 (and_f1 (zB_0.mp h42)))  (by omega) (by omega)
        · skip
          refine j_aload_n Z dX5_disputed_45 0 rfl ?_
          refine j_get Z 0 (by decide) rfl rfl 5 (by decide) rfl inX5_disputed_X5 lkX5_disputed_46 dX5_disputed_46 ?_
          refine j_iload Z dX5_disputed_49 4 rfl ?_
          refine j_iload_n Z dX5_disputed_51 1 rfl ?_
          refine j_eq ea ?_
          refine j_callVi Z (As := [.int (nI i), .int (nI (ix a))]) (rest := []) (nA := 2) 5 (by decide) rfl rfl (c_X3_hasUnlikeValues l g (gR μ 23 S) 0 (by decide) cnt hcnt hc (nI i) (ix a) la) gX5_disputed_X3_hasUnlikeValues rfl rfl rfl (by decide +kernel) (by decide) rfl dX5_disputed_52 rfl (Nat.le_of_ble_eq_true rfl) (by decide) (fun r9 μ9 hp => ?_)
          have hq : r9 = zB (uBad S ((gR μ 23 S) (29 + (ix a))) (nI i) cnt) ∧ μ9 = (gR μ 23 S) := hp
          rw [gR_n (k := 23) (j := 29 + (ix a)) (by omega)] at hq
          refine j_mem hq.2 ?_
          refine j_eq hq.1 ?_
          clear hq hp
          refine j_if_eq Z 61 dX5_disputed_55 (by decide) (fun h55 => ?_) (fun h55 => ?_)
          · skip
            refine j_iinc Z dX5_disputed_61 4 rfl (nI_1 i) (by decide) [(4, .int (nI (i + 1))), (0, .ref (g.2.1 0)), (1, .int a), (2, .int z), (3, .int (nI b))] rfl ?_
            refine j_goto Z 21 dX5_disputed_64 (by decide) ?_
            refine j_sub [1, 2, 3, 4, 0] rfl ?_
            exact ih (i + 1) (b) (by rw [eb]; exact cB_0 (and_f2 (zB_0.mp h55)))  (by omega) (by omega)
          · skip
            refine j_iinc Z dX5_disputed_58 3 rfl (nI_1 b) (by decide) [(3, .int (nI (b + 1))), (0, .ref (g.2.1 0)), (1, .int a), (2, .int z), (4, .int (nI i))] rfl ?_
            refine j_iinc Z dX5_disputed_61 4 rfl (nI_1 i) (by decide) [(4, .int (nI (i + 1))), (3, .int (nI (b + 1))), (0, .ref (g.2.1 0)), (1, .int a), (2, .int z)] rfl ?_
            refine j_goto Z 21 dX5_disputed_64 (by decide) ?_
            refine j_sub [2, 3, 4, 1, 0] rfl ?_
            exact ih (i + 1) (b + 1) (by rw [eb]; exact cB_1 (and_t (zB_1 h42) (zB_1 h55)))  (by omega) (by omega)
  refine j_sub [2, 3, 4, 1, 0] rfl ?_
  exact lp21 (cnt + 2) 0 (0) (rfl)  (by omega) (by omega)
theorem lkX5_link_30 : Cond.fieldLink RX5 30 (TX5 3).1 (TX5 3).2.1 (TX5 3).2.2.1 ∈ wsX5_link := by decide +kernel
theorem inX5_link_X5 : ∀ w ∈ u_ws RX5 TX5 7, w ∈ wsX5_link := by decide +kernel
theorem lkX5_link_134 : Cond.fieldLink RX5 134 (TX1 0).1 (TX1 0).2.1 (TX1 0).2.2.1 ∈ wsX5_link := by decide +kernel
theorem inX5_link_X1 : ∀ w ∈ u_ws RX1 TX1 5, w ∈ wsX5_link := by decide +kernel
theorem thX5_link_57 : Cond.classLink RX5 57 "java/lang/IllegalStateException" ∈ wsX5_link ∧ Cond.initialized "java/lang/IllegalStateException" ∈ wsX5_link ∧ ∀ w ∈ (vx_atS RX5 61 "java/lang/IllegalStateException" gNm).filter goodWord, w ∈ wsX5_link := ⟨by decide +kernel, by decide +kernel, by decide +kernel⟩
set_option maxRecDepth 100000 in
set_option maxHeartbeats 4000000 in
theorem c_X5_link (l : Launch) (hst : l.stackTraces = false) (g : gC) (μ : gM) (cnt lc wc : Nat) (hV : gV μ cnt lc wc) (x y z : Int32) : vx_Met l yX5_link wsX5_link { frames := 7, cells := 5, slots := 30, locals := 112 } (va_Pc [.ref (g.2.1 0), .int x, .int y, .int z] (gB g μ)) (va_Qi (fun (r : Int32) (μ' : gM) => r = nI (lc + 1) ∧ μ' = (gU (gU (gU (gU μ 15 lc x) 16 lc y) 17 lc z) 3 0 (nI (lc + 1))) ∧ k3 (fndB cnt x && fndB cnt y) (!decide (x = y) && inB z 0 3) (decide (lc < 40)) = 0) (gPB g) (gA g)) (gPX g (fun (E : String) (μ' : gM) => (E = eI ∧ k3 (fndB cnt x && fndB cnt y) (!decide (x = y) && inB z 0 3) (decide (lc < 40)) = 1 ∧ μ' = μ) ∨ (E = eA ∧ k3 (fndB cnt x && fndB cnt y) (!decide (x = y) && inB z 0 3) (decide (lc < 40)) = 2 ∧ μ' = μ) ∨ (E = eS ∧ k3 (fndB cnt x && fndB cnt y) (!decide (x = y) && inB z 0 3) (decide (lc < 40)) = 3 ∧ μ' = μ))) 5 30 (gA g) := by
  refine g_oXI (cc := cX5_link) (nL := 4) (ret := (some .int)) (ty := .int) hst rfl (by decide +kernel) rfl rfl (fun _ _ _ => rfl) (Nat.le_of_ble_eq_true rfl) ?_
  intro p e s m args below meth c Q Z hR hE hT
  obtain ⟨hcnt, hc, hlc, hl, hwc, hw, hs, v1, v2, v12, hm, hat⟩ := hV
  refine j_aload_n Z dX5_link_0 0 rfl ?_
  refine j_iload_n Z dX5_link_1 1 rfl ?_
  refine j_callVxv Z (As := [.int x]) (rest := []) (nA := 1) 0 (by decide) rfl rfl (c_X5_requireFind l hst g μ x cnt hc) gX5_link_X5_requireFind rfl rfl rfl (by decide +kernel) (by decide) rfl dX5_link_2 rfl (Nat.le_of_ble_eq_true rfl) (by decide) (fun E μx hx => hE _ _ _ _ _ _ _ (Or.inl ⟨hx.1, by simp [k3, hx.2.1], hx.2.2⟩) (by decide) (by decide)) (fun μ9 hp => ?_)
  have hq : μ9 = μ ∧ fndB cnt x = true := hp
  refine j_mem hq.1 ?_
  have hf2 := hq.2
  clear hq hp
  obtain ⟨ex, lx⟩ := fnd_ix hf2 hcnt
  refine j_aload_n Z dX5_link_5 0 rfl ?_
  refine j_iload_n Z dX5_link_6 2 rfl ?_
  refine j_callVxv Z (As := [.int y]) (rest := []) (nA := 1) 0 (by decide) rfl rfl (c_X5_requireFind l hst g μ y cnt hc) gX5_link_X5_requireFind rfl rfl rfl (by decide +kernel) (by decide) rfl dX5_link_7 rfl (Nat.le_of_ble_eq_true rfl) (by decide) (fun E μx hx => hE _ _ _ _ _ _ _ (Or.inl ⟨hx.1, by simp [k3, hf2, hx.2.1], hx.2.2⟩) (by decide) (by decide)) (fun μ9 hp => ?_)
  have hq : μ9 = μ ∧ fndB cnt y = true := hp
  refine j_mem hq.1 ?_
  have hf7 := hq.2
  clear hq hp
  obtain ⟨ey, ly⟩ := fnd_ix hf7 hcnt
  refine j_iload_n Z dX5_link_10 1 rfl ?_
  refine j_iload_n Z dX5_link_11 2 rfl ?_
  refine j_callSxv Z (As := [.int x, .int y]) (rest := []) (nA := 2) (c_X5_requireUnlike l hst g μ x y) gX5_link_X5_requireUnlike rfl rfl rfl (by decide +kernel) (by decide) rfl dX5_link_12 rfl (Nat.le_of_ble_eq_true rfl) (by decide) (fun E μx hx => hE _ _ _ _ _ _ _ (Or.inr (Or.inl ⟨hx.1, by simp [k3, hf2, hf7, hx.2.1], hx.2.2⟩)) (by decide) (by decide)) (fun μ9 hp => ?_)
  have hq : μ9 = μ ∧ ¬ x = y := hp
  refine j_mem hq.1 ?_
  have hf12 := hq.2
  clear hq hp
  refine j_iload_n Z dX5_link_15 3 rfl ?_
  refine j_iconst Z (v := 0) dX5_link_16 (by decide) ?_
  refine j_iconst Z (v := 3) dX5_link_17 (by decide) ?_
  refine j_callSxv Z (As := [.int z, .int 0, .int 3]) (rest := []) (nA := 3) (c_X5_requireRange l hst g μ z 0 3) gX5_link_X5_requireRange rfl rfl rfl (by decide +kernel) (by decide) rfl dX5_link_18 rfl (Nat.le_of_ble_eq_true rfl) (by decide) (fun E μx hx => hE _ _ _ _ _ _ _ (Or.inr (Or.inl ⟨hx.1, by simp [k3, hf2, hf7, hf12, hx.2.1], hx.2.2⟩)) (by decide) (by decide)) (fun μ9 hp => ?_)
  have hq : μ9 = μ ∧ inB z 0 3 = true := hp
  refine j_mem hq.1 ?_
  have hf18 := hq.2
  clear hq hp
  refine j_aload_n Z dX5_link_21 0 rfl ?_
  refine j_get Z 0 (by decide) rfl rfl 3 (by decide) rfl inX5_link_X5 lkX5_link_30 dX5_link_22 ?_
  refine j_get Z 3 (by decide) rfl rfl 0 (by decide) rfl inX5_link_X1 lkX5_link_134 dX5_link_25 ?_
  refine j_eq hl ?_
  refine j_bipush Z (v := 40) dX5_link_28 (by decide) ?_
  refine j_icmp_lt Z 43 dX5_link_30 (by decide) (fun h30 => ?_) (fun h30 => ?_)
  · skip
    have llc : lc < 40 := (nI_ltI (by omega) (by omega)).mp h30
    refine j_aload_n Z dX5_link_43 0 rfl ?_
    refine j_get Z 0 (by decide) rfl rfl 3 (by decide) rfl inX5_link_X5 lkX5_link_30 dX5_link_44 ?_
    refine j_iload_n Z dX5_link_47 1 rfl ?_
    refine j_iload_n Z dX5_link_48 2 rfl ?_
    refine j_iload_n Z dX5_link_49 3 rfl ?_
    refine j_callVv Z (As := [.int x, .int y, .int z]) (rest := []) (nA := 3) 3 (by decide) rfl rfl (c_X1_add l g μ lc llc hl x y z) gX5_link_X1_add rfl rfl rfl (by decide +kernel) (by decide) rfl dX5_link_50 rfl (Nat.le_of_ble_eq_true rfl) (by decide) (fun μ9 hp => ?_)
    have hq : μ9 = (gU (gU (gU (gU μ 15 lc x) 16 lc y) 17 lc z) 3 0 (nI (lc + 1))) := hp
    refine j_mem hq ?_
    clear hq hp
    refine j_aload_n Z dX5_link_53 0 rfl ?_
    refine j_get Z 0 (by decide) rfl rfl 3 (by decide) rfl inX5_link_X5 lkX5_link_30 dX5_link_54 ?_
    refine j_get Z 3 (by decide) rfl rfl 0 (by decide) rfl inX5_link_X1 lkX5_link_134 dX5_link_57 ?_
    refine j_eq (y := (nI (lc + 1))) (by rw [gU_s, upd_s]) ?_
    exact hR _ _ _ _ _ _ (⟨rfl, rfl, by simp [k3, hf2, hf7, hf12, hf18, llc, h30]⟩) (by decide) (by decide) dX5_link_60
  · skip
    have llc : ¬ lc < 40 := fun q => h30 (nI_lt (a := lc) (b := 40) q (by omega))
    exact hT "java/lang/IllegalStateException" "no more links can be told" 57 135 61 (vx_atS RX5 61 "java/lang/IllegalStateException" gNm) _ _ _ _ _ _ gOk_S thX5_link_57 (by decide +kernel) dX5_link_33 dX5_link_36 dX5_link_37 dX5_link_39 dX5_link_42 (Or.inr (Or.inr ⟨rfl, by simp [k3, hf2, hf7, hf12, hf18, llc, h30], rfl⟩)) (by decide) (by decide) (by decide)
theorem lkX5_impact_46 : Cond.fieldLink RX5 46 (TX5 5).1 (TX5 5).2.1 (TX5 5).2.2.1 ∈ wsX5_impact := by decide +kernel
theorem inX5_impact_X5 : ∀ w ∈ u_ws RX5 TX5 7, w ∈ wsX5_impact := by decide +kernel
theorem lkX5_impact_30 : Cond.fieldLink RX5 30 (TX5 3).1 (TX5 3).2.1 (TX5 3).2.2.1 ∈ wsX5_impact := by decide +kernel
theorem lkX5_impact_121 : Cond.fieldLink RX5 121 (TX3 2).1 (TX3 2).2.1 (TX3 2).2.2.1 ∈ wsX5_impact := by decide +kernel
theorem inX5_impact_X3 : ∀ w ∈ u_ws RX3 TX3 3, w ∈ wsX5_impact := by decide +kernel
set_option maxRecDepth 100000 in
set_option maxHeartbeats 4000000 in
theorem c_X5_impact (l : Launch) (hst : l.stackTraces = false) (g : gC) (μ : gM) (cnt lc wc : Nat) (hV : gV μ cnt lc wc) (x z : Int32) : vx_Met l yX5_impact wsX5_impact { frames := 8, cells := 3, slots := 18, locals := 132 } (va_Pc [.ref (g.2.1 0), .int x, .int z] (gB g μ)) (va_Qi (fun (r : Int32) (μ' : gM) => r = nI (cB (fun k => !decide ((gFail μ (fSort μ cnt z (μ 23)) lc (ix ((fSort μ cnt z (μ 23)) (ix x)))) k = 0)) 60) ∧ μ' = gR (gR μ 23 (fSort μ cnt z (μ 23))) 18 (gFail μ (fSort μ cnt z (μ 23)) lc (ix ((fSort μ cnt z (μ 23)) (ix x)))) ∧ k3 (fndB cnt x) (inB z 0 9999) (!decide (fSort μ cnt z (μ 23) (ix x) = -1)) = 0) (gPB g) (gA g)) (gPX g (fun (E : String) (μ' : gM) => (E = eI ∧ k3 (fndB cnt x) (inB z 0 9999) (!decide (fSort μ cnt z (μ 23) (ix x) = -1)) = 1 ∧ μ' = μ) ∨ (E = eA ∧ k3 (fndB cnt x) (inB z 0 9999) (!decide (fSort μ cnt z (μ 23) (ix x) = -1)) = 2 ∧ μ' = μ) ∨ (E = gNs ∧ k3 (fndB cnt x) (inB z 0 9999) (!decide (fSort μ cnt z (μ 23) (ix x) = -1)) = 3 ∧ μ' = gR μ 23 (fSort μ cnt z (μ 23))))) 3 18 (gA g) := by
  refine g_oXI (cc := cX5_impact) (nL := 3) (ret := (some .int)) (ty := .int) hst rfl (by decide +kernel) rfl rfl (fun _ _ _ => rfl) (Nat.le_of_ble_eq_true rfl) ?_
  intro p e s m args below meth c Q Z hR hE hT
  obtain ⟨hcnt, hc, hlc, hl, hwc, hw, hs, v1, v2, v12, hm, hat⟩ := hV
  refine j_aload_n Z dX5_impact_0 0 rfl ?_
  refine j_iload_n Z dX5_impact_1 1 rfl ?_
  refine j_callVxv Z (As := [.int x]) (rest := []) (nA := 1) 0 (by decide) rfl rfl (c_X5_requireFind l hst g μ x cnt hc) gX5_impact_X5_requireFind rfl rfl rfl (by decide +kernel) (by decide) rfl dX5_impact_2 rfl (Nat.le_of_ble_eq_true rfl) (by decide) (fun E μx hx => hE _ _ _ _ _ _ _ (Or.inl ⟨hx.1, by simp [k3, hx.2.1], hx.2.2⟩) (by decide) (by decide)) (fun μ9 hp => ?_)
  have hq : μ9 = μ ∧ fndB cnt x = true := hp
  refine j_mem hq.1 ?_
  have hf2 := hq.2
  clear hq hp
  obtain ⟨ex, lx⟩ := fnd_ix hf2 hcnt
  refine j_iload_n Z dX5_impact_5 2 rfl ?_
  refine j_callSxv Z (As := [.int z]) (rest := []) (nA := 1) (c_X5_requireDay l hst g μ z) gX5_impact_X5_requireDay rfl rfl rfl (by decide +kernel) (by decide) rfl dX5_impact_6 rfl (Nat.le_of_ble_eq_true rfl) (by decide) (fun E μx hx => hE _ _ _ _ _ _ _ (Or.inr (Or.inl ⟨hx.1, by simp [k3, hf2, hx.2.1], hx.2.2⟩)) (by decide) (by decide)) (fun μ9 hp => ?_)
  have hq : μ9 = μ ∧ inB z 0 9999 = true := hp
  refine j_mem hq.1 ?_
  have hf6 := hq.2
  clear hq hp
  refine j_aload_n Z dX5_impact_9 0 rfl ?_
  refine j_get Z 0 (by decide) rfl rfl 5 (by decide) rfl inX5_impact_X5 lkX5_impact_46 dX5_impact_10 ?_
  refine j_iload_n Z dX5_impact_13 2 rfl ?_
  refine j_callVv Z (As := [.int z]) (rest := []) (nA := 1) 5 (by decide) rfl rfl (c_X3_sortFor l g μ 0 (by decide) cnt hcnt hc z hs) gX5_impact_X3_sortFor rfl rfl rfl (by decide +kernel) (by decide) rfl dX5_impact_14 rfl (Nat.le_of_ble_eq_true rfl) (by decide) (fun μ9 hp => ?_)
  have hq : μ9 = gR μ 23 (fSort μ cnt z (μ 23)) := hp
  generalize hS : fSort μ cnt z (μ 23) = S at hq
  refine j_mem hq ?_
  clear hq hp
  refine j_aload_n Z dX5_impact_17 0 rfl ?_
  refine j_iload_n Z dX5_impact_18 1 rfl ?_
  refine j_eq ex ?_
  refine j_callVxv Z (As := [.int (nI (ix x))]) (rest := []) (nA := 1) 0 (by decide) rfl rfl (c_X5_requireCounting l hst g (gR μ 23 S) (ix x) (by omega)) gX5_impact_X5_requireCounting rfl rfl rfl (by decide +kernel) (by decide) rfl dX5_impact_19 rfl (Nat.le_of_ble_eq_true rfl) (by decide) (fun E μx hx => hE _ _ _ _ _ _ _ (Or.inr (Or.inr ⟨hx.1, by rw [hS]; have h9 := hx.2.1; simp [k3, hf2, hf6, show S (ix x) = -1 from h9], by rw [hS]; exact hx.2.2⟩)) (by decide) (by decide)) (fun μ9 hp => ?_)
  have hq : μ9 = (gR μ 23 S) ∧ ¬ S (ix x) = -1 := hp
  refine j_mem hq.1 ?_
  have hf19 := hq.2
  clear hq hp
  obtain ⟨eq, lq⟩ := vp_ix ((gS_vp hS hcnt lx).resolve_left hf19) (by decide)
  refine j_aload_n Z dX5_impact_22 0 rfl ?_
  refine j_get Z 0 (by decide) rfl rfl 3 (by decide) rfl inX5_impact_X5 lkX5_impact_30 dX5_impact_23 ?_
  refine j_aload_n Z dX5_impact_26 0 rfl ?_
  refine j_get Z 0 (by decide) rfl rfl 5 (by decide) rfl inX5_impact_X5 lkX5_impact_46 dX5_impact_27 ?_
  refine j_get Z 5 (by decide) rfl rfl 2 (by decide) rfl inX5_impact_X3 lkX5_impact_121 dX5_impact_30 ?_
  refine j_iload_n Z dX5_impact_33 1 rfl ?_
  refine j_eq ex ?_
  refine j_ild Z 23 (by decide) (fun _ => rfl) (ix x) rfl (by omega) (by decide) dX5_impact_34 ?_
  refine j_eq (y := S (ix x)) (by rw [gR_s]) ?_
  refine j_eq eq ?_
  refine j_aload_n Z dX5_impact_35 0 rfl ?_
  refine j_get Z 0 (by decide) rfl rfl 5 (by decide) rfl inX5_impact_X5 lkX5_impact_46 dX5_impact_36 ?_
  refine j_callVv Z (As := [.int (nI (ix (S (ix x)))), .ref (g.2.1 5)]) (rest := []) (nA := 2) 3 (by decide) rfl rfl (c_X1_failFrom l g (gR μ 23 S) (ix (S (ix x))) lq lc hlc hl v1 v2 (fun k hk => gS_vp hS hcnt (v12 k hk).1) (fun k hk => gS_vp hS hcnt (v12 k hk).2)) gX5_impact_X1_failFrom rfl rfl rfl (by decide +kernel) (by decide) rfl dX5_impact_39 rfl (Nat.le_of_ble_eq_true rfl) (by decide) (fun μ9 hp => ?_)
  have hq : μ9 = gR (gR μ 23 S) 18 (gFail μ S lc (ix (S (ix x)))) := hp
  generalize hF : gFail μ S lc (ix (S (ix x))) = F at hq
  refine j_mem hq ?_
  clear hq hp
  refine j_aload_n Z dX5_impact_42 0 rfl ?_
  refine j_get Z 0 (by decide) rfl rfl 3 (by decide) rfl inX5_impact_X5 lkX5_impact_30 dX5_impact_43 ?_
  refine j_callVi Z (As := []) (rest := []) (nA := 0) 3 (by decide) rfl rfl (c_X1_failures l g (gR (gR μ 23 S) 18 F)) gX5_impact_X1_failures rfl rfl rfl (by decide +kernel) (by decide) rfl dX5_impact_46 rfl (Nat.le_of_ble_eq_true rfl) (by decide) (fun r9 μ9 hp => ?_)
  have hq : r9 = nI (cB (fun k => !decide (F k = 0)) 60) ∧ μ9 = (gR (gR μ 23 S) 18 F) := hp
  refine j_mem hq.2 ?_
  refine j_eq hq.1 ?_
  clear hq hp
  exact hR _ _ _ _ _ _ (⟨by rw [hS, hF], by rw [hS, hF], by simp [k3, hS, hf2, hf6, hf19]⟩) (by decide) (by decide) dX5_impact_49
theorem lkX5_failsWith_46 : Cond.fieldLink RX5 46 (TX5 5).1 (TX5 5).2.1 (TX5 5).2.2.1 ∈ wsX5_failsWith := by decide +kernel
theorem inX5_failsWith_X5 : ∀ w ∈ u_ws RX5 TX5 7, w ∈ wsX5_failsWith := by decide +kernel
theorem lkX5_failsWith_30 : Cond.fieldLink RX5 30 (TX5 3).1 (TX5 3).2.1 (TX5 3).2.2.1 ∈ wsX5_failsWith := by decide +kernel
theorem lkX5_failsWith_121 : Cond.fieldLink RX5 121 (TX3 2).1 (TX3 2).2.1 (TX3 2).2.2.1 ∈ wsX5_failsWith := by decide +kernel
theorem inX5_failsWith_X3 : ∀ w ∈ u_ws RX3 TX3 3, w ∈ wsX5_failsWith := by decide +kernel
theorem lkX5_failsWith_148 : Cond.fieldLink RX5 148 (TX1 4).1 (TX1 4).2.1 (TX1 4).2.2.1 ∈ wsX5_failsWith := by decide +kernel
theorem inX5_failsWith_X1 : ∀ w ∈ u_ws RX1 TX1 5, w ∈ wsX5_failsWith := by decide +kernel
set_option maxRecDepth 100000 in
set_option maxHeartbeats 4000000 in
theorem c_X5_failsWith (l : Launch) (hst : l.stackTraces = false) (g : gC) (μ : gM) (cnt lc wc : Nat) (hV : gV μ cnt lc wc) (x y z : Int32) : vx_Met l yX5_failsWith wsX5_failsWith { frames := 8, cells := 5, slots := 30, locals := 132 } (va_Pc [.ref (g.2.1 0), .int x, .int y, .int z] (gB g μ)) (va_Qi (fun (r : Int32) (μ' : gM) => r = zB (!decide ((gFail μ (fSort μ cnt z (μ 23)) lc (ix ((fSort μ cnt z (μ 23)) (ix y)))) (ix ((fSort μ cnt z (μ 23)) (ix x))) = 0)) ∧ μ' = gR (gR μ 23 (fSort μ cnt z (μ 23))) 18 (gFail μ (fSort μ cnt z (μ 23)) lc (ix ((fSort μ cnt z (μ 23)) (ix y)))) ∧ k3 (fndB cnt x && fndB cnt y) (inB z 0 9999) (!decide (fSort μ cnt z (μ 23) (ix x) = -1) && !decide (fSort μ cnt z (μ 23) (ix y) = -1)) = 0) (gPB g) (gA g)) (gPX g (fun (E : String) (μ' : gM) => (E = eI ∧ k3 (fndB cnt x && fndB cnt y) (inB z 0 9999) (!decide (fSort μ cnt z (μ 23) (ix x) = -1) && !decide (fSort μ cnt z (μ 23) (ix y) = -1)) = 1 ∧ μ' = μ) ∨ (E = eA ∧ k3 (fndB cnt x && fndB cnt y) (inB z 0 9999) (!decide (fSort μ cnt z (μ 23) (ix x) = -1) && !decide (fSort μ cnt z (μ 23) (ix y) = -1)) = 2 ∧ μ' = μ) ∨ (E = gNs ∧ k3 (fndB cnt x && fndB cnt y) (inB z 0 9999) (!decide (fSort μ cnt z (μ 23) (ix x) = -1) && !decide (fSort μ cnt z (μ 23) (ix y) = -1)) = 3 ∧ μ' = gR μ 23 (fSort μ cnt z (μ 23))))) 5 30 (gA g) := by
  refine g_oXI (cc := cX5_failsWith) (nL := 4) (ret := (some .boolean)) (ty := .boolean) hst rfl (by decide +kernel) rfl rfl (by rintro _ _ ⟨rfl, -⟩; exact zB_n) (Nat.le_of_ble_eq_true rfl) ?_
  intro p e s m args below meth c Q Z hR hE hT
  obtain ⟨hcnt, hc, hlc, hl, hwc, hw, hs, v1, v2, v12, hm, hat⟩ := hV
  refine j_aload_n Z dX5_failsWith_0 0 rfl ?_
  refine j_iload_n Z dX5_failsWith_1 1 rfl ?_
  refine j_callVxv Z (As := [.int x]) (rest := []) (nA := 1) 0 (by decide) rfl rfl (c_X5_requireFind l hst g μ x cnt hc) gX5_failsWith_X5_requireFind rfl rfl rfl (by decide +kernel) (by decide) rfl dX5_failsWith_2 rfl (Nat.le_of_ble_eq_true rfl) (by decide) (fun E μx hx => hE _ _ _ _ _ _ _ (Or.inl ⟨hx.1, by simp [k3, hx.2.1], hx.2.2⟩) (by decide) (by decide)) (fun μ9 hp => ?_)
  have hq : μ9 = μ ∧ fndB cnt x = true := hp
  refine j_mem hq.1 ?_
  have hf2 := hq.2
  clear hq hp
  obtain ⟨ex, lx⟩ := fnd_ix hf2 hcnt
  refine j_aload_n Z dX5_failsWith_5 0 rfl ?_
  refine j_iload_n Z dX5_failsWith_6 2 rfl ?_
  refine j_callVxv Z (As := [.int y]) (rest := []) (nA := 1) 0 (by decide) rfl rfl (c_X5_requireFind l hst g μ y cnt hc) gX5_failsWith_X5_requireFind rfl rfl rfl (by decide +kernel) (by decide) rfl dX5_failsWith_7 rfl (Nat.le_of_ble_eq_true rfl) (by decide) (fun E μx hx => hE _ _ _ _ _ _ _ (Or.inl ⟨hx.1, by simp [k3, hf2, hx.2.1], hx.2.2⟩) (by decide) (by decide)) (fun μ9 hp => ?_)
  have hq : μ9 = μ ∧ fndB cnt y = true := hp
  refine j_mem hq.1 ?_
  have hf7 := hq.2
  clear hq hp
  obtain ⟨ey, ly⟩ := fnd_ix hf7 hcnt
  refine j_iload_n Z dX5_failsWith_10 3 rfl ?_
  refine j_callSxv Z (As := [.int z]) (rest := []) (nA := 1) (c_X5_requireDay l hst g μ z) gX5_failsWith_X5_requireDay rfl rfl rfl (by decide +kernel) (by decide) rfl dX5_failsWith_11 rfl (Nat.le_of_ble_eq_true rfl) (by decide) (fun E μx hx => hE _ _ _ _ _ _ _ (Or.inr (Or.inl ⟨hx.1, by simp [k3, hf2, hf7, hx.2.1], hx.2.2⟩)) (by decide) (by decide)) (fun μ9 hp => ?_)
  have hq : μ9 = μ ∧ inB z 0 9999 = true := hp
  refine j_mem hq.1 ?_
  have hf11 := hq.2
  clear hq hp
  refine j_aload_n Z dX5_failsWith_14 0 rfl ?_
  refine j_get Z 0 (by decide) rfl rfl 5 (by decide) rfl inX5_failsWith_X5 lkX5_failsWith_46 dX5_failsWith_15 ?_
  refine j_iload_n Z dX5_failsWith_18 3 rfl ?_
  refine j_callVv Z (As := [.int z]) (rest := []) (nA := 1) 5 (by decide) rfl rfl (c_X3_sortFor l g μ 0 (by decide) cnt hcnt hc z hs) gX5_failsWith_X3_sortFor rfl rfl rfl (by decide +kernel) (by decide) rfl dX5_failsWith_19 rfl (Nat.le_of_ble_eq_true rfl) (by decide) (fun μ9 hp => ?_)
  have hq : μ9 = gR μ 23 (fSort μ cnt z (μ 23)) := hp
  generalize hS : fSort μ cnt z (μ 23) = S at hq
  refine j_mem hq ?_
  clear hq hp
  refine j_aload_n Z dX5_failsWith_22 0 rfl ?_
  refine j_iload_n Z dX5_failsWith_23 1 rfl ?_
  refine j_eq ex ?_
  refine j_callVxv Z (As := [.int (nI (ix x))]) (rest := []) (nA := 1) 0 (by decide) rfl rfl (c_X5_requireCounting l hst g (gR μ 23 S) (ix x) (by omega)) gX5_failsWith_X5_requireCounting rfl rfl rfl (by decide +kernel) (by decide) rfl dX5_failsWith_24 rfl (Nat.le_of_ble_eq_true rfl) (by decide) (fun E μx hx => hE _ _ _ _ _ _ _ (Or.inr (Or.inr ⟨hx.1, by rw [hS]; have h9 := hx.2.1; simp [k3, hf2, hf7, hf11, show S (ix x) = -1 from h9], by rw [hS]; exact hx.2.2⟩)) (by decide) (by decide)) (fun μ9 hp => ?_)
  have hq : μ9 = (gR μ 23 S) ∧ ¬ S (ix x) = -1 := hp
  refine j_mem hq.1 ?_
  have hf24 := hq.2
  clear hq hp
  obtain ⟨ep, lp⟩ := vp_ix ((gS_vp hS hcnt lx).resolve_left hf24) (by decide)
  refine j_aload_n Z dX5_failsWith_27 0 rfl ?_
  refine j_iload_n Z dX5_failsWith_28 2 rfl ?_
  refine j_eq ey ?_
  refine j_callVxv Z (As := [.int (nI (ix y))]) (rest := []) (nA := 1) 0 (by decide) rfl rfl (c_X5_requireCounting l hst g (gR μ 23 S) (ix y) (by omega)) gX5_failsWith_X5_requireCounting rfl rfl rfl (by decide +kernel) (by decide) rfl dX5_failsWith_29 rfl (Nat.le_of_ble_eq_true rfl) (by decide) (fun E μx hx => hE _ _ _ _ _ _ _ (Or.inr (Or.inr ⟨hx.1, by rw [hS]; have h9 := hx.2.1; simp [k3, hf2, hf7, hf11, hf24, show S (ix y) = -1 from h9], by rw [hS]; exact hx.2.2⟩)) (by decide) (by decide)) (fun μ9 hp => ?_)
  have hq : μ9 = (gR μ 23 S) ∧ ¬ S (ix y) = -1 := hp
  refine j_mem hq.1 ?_
  have hf29 := hq.2
  clear hq hp
  obtain ⟨eq, lq⟩ := vp_ix ((gS_vp hS hcnt ly).resolve_left hf29) (by decide)
  refine j_aload_n Z dX5_failsWith_32 0 rfl ?_
  refine j_get Z 0 (by decide) rfl rfl 3 (by decide) rfl inX5_failsWith_X5 lkX5_failsWith_30 dX5_failsWith_33 ?_
  refine j_aload_n Z dX5_failsWith_36 0 rfl ?_
  refine j_get Z 0 (by decide) rfl rfl 5 (by decide) rfl inX5_failsWith_X5 lkX5_failsWith_46 dX5_failsWith_37 ?_
  refine j_get Z 5 (by decide) rfl rfl 2 (by decide) rfl inX5_failsWith_X3 lkX5_failsWith_121 dX5_failsWith_40 ?_
  refine j_iload_n Z dX5_failsWith_43 2 rfl ?_
  refine j_eq ey ?_
  refine j_ild Z 23 (by decide) (fun _ => rfl) (ix y) rfl (by omega) (by decide) dX5_failsWith_44 ?_
  refine j_eq (y := S (ix y)) (by rw [gR_s]) ?_
  refine j_eq eq ?_
  refine j_aload_n Z dX5_failsWith_45 0 rfl ?_
  refine j_get Z 0 (by decide) rfl rfl 5 (by decide) rfl inX5_failsWith_X5 lkX5_failsWith_46 dX5_failsWith_46 ?_
  refine j_callVv Z (As := [.int (nI (ix (S (ix y)))), .ref (g.2.1 5)]) (rest := []) (nA := 2) 3 (by decide) rfl rfl (c_X1_failFrom l g (gR μ 23 S) (ix (S (ix y))) lq lc hlc hl v1 v2 (fun k hk => gS_vp hS hcnt (v12 k hk).1) (fun k hk => gS_vp hS hcnt (v12 k hk).2)) gX5_failsWith_X1_failFrom rfl rfl rfl (by decide +kernel) (by decide) rfl dX5_failsWith_49 rfl (Nat.le_of_ble_eq_true rfl) (by decide) (fun μ9 hp => ?_)
  have hq : μ9 = gR (gR μ 23 S) 18 (gFail μ S lc (ix (S (ix y)))) := hp
  generalize hF : gFail μ S lc (ix (S (ix y))) = F at hq
  refine j_mem hq ?_
  clear hq hp
  refine j_aload_n Z dX5_failsWith_52 0 rfl ?_
  refine j_get Z 0 (by decide) rfl rfl 3 (by decide) rfl inX5_failsWith_X5 lkX5_failsWith_30 dX5_failsWith_53 ?_
  refine j_get Z 3 (by decide) rfl rfl 4 (by decide) rfl inX5_failsWith_X1 lkX5_failsWith_148 dX5_failsWith_56 ?_
  refine j_aload_n Z dX5_failsWith_59 0 rfl ?_
  refine j_get Z 0 (by decide) rfl rfl 5 (by decide) rfl inX5_failsWith_X5 lkX5_failsWith_46 dX5_failsWith_60 ?_
  refine j_get Z 5 (by decide) rfl rfl 2 (by decide) rfl inX5_failsWith_X3 lkX5_failsWith_121 dX5_failsWith_63 ?_
  refine j_iload_n Z dX5_failsWith_66 1 rfl ?_
  refine j_eq ex ?_
  refine j_ild Z 23 (by decide) (fun _ => rfl) (ix x) rfl (by omega) (by decide) dX5_failsWith_67 ?_
  refine j_eq (y := S (ix x)) (by rw [gR_n (k := 18) (j := 23) (by omega), gR_s]) ?_
  refine j_eq ep ?_
  refine j_zld Z 18 (by decide) (fun _ => rfl) (ix (S (ix x))) rfl (by omega) (by decide) dX5_failsWith_68 ?_
  refine j_eq (y := F (ix (S (ix x)))) (by rw [gR_s]) ?_
  exact hR _ _ _ _ _ _ (⟨by rw [hS, hF]; refine bit_zB ?_; rw [← hF]; exact bitR_F _ lp, by rw [hS, hF], by simp [k3, hS, hf2, hf7, hf11, hf24, hf29]⟩) (by decide) (by decide) dX5_failsWith_69
theorem lkX5_wish_37 : Cond.fieldLink RX5 37 (TX5 4).1 (TX5 4).2.1 (TX5 4).2.2.1 ∈ wsX5_wish := by decide +kernel
theorem inX5_wish_X5 : ∀ w ∈ u_ws RX5 TX5 7, w ∈ wsX5_wish := by decide +kernel
theorem lkX5_wish_151 : Cond.fieldLink RX5 151 (TX4 0).1 (TX4 0).2.1 (TX4 0).2.2.1 ∈ wsX5_wish := by decide +kernel
theorem inX5_wish_X4 : ∀ w ∈ u_ws RX4 TX4 5, w ∈ wsX5_wish := by decide +kernel
theorem thX5_wish_57 : Cond.classLink RX5 57 "java/lang/IllegalStateException" ∈ wsX5_wish ∧ Cond.initialized "java/lang/IllegalStateException" ∈ wsX5_wish ∧ ∀ w ∈ (vx_atS RX5 61 "java/lang/IllegalStateException" gNm).filter goodWord, w ∈ wsX5_wish := ⟨by decide +kernel, by decide +kernel, by decide +kernel⟩
set_option maxRecDepth 100000 in
set_option maxHeartbeats 4000000 in
theorem c_X5_wish (l : Launch) (hst : l.stackTraces = false) (g : gC) (μ : gM) (cnt lc wc : Nat) (hV : gV μ cnt lc wc) (a1 a2 a3 a4 : Int32) : vx_Met l yX5_wish wsX5_wish { frames := 8, cells := 5, slots := 30, locals := 132 } (va_Pc [.ref (g.2.1 0), .int a1, .int a2, .int a3, .int a4] (gB g μ)) (va_Qi (fun (r : Int32) (μ' : gM) => r = nI wc ∧ μ' = (gU (gU (gU (gU (gU μ 19 wc a1) 20 wc a2) 21 wc a3) 22 wc a4) 4 0 (nI (wc + 1))) ∧ k2 (inB a1 0 2 && inB a2 1 99 && inB a3 0 1 && inB a4 0 99) (decide (wc < 20)) = 0) (gPB g) (gA g)) (gPX g (fun (E : String) (μ' : gM) => (E = eA ∧ k2 (inB a1 0 2 && inB a2 1 99 && inB a3 0 1 && inB a4 0 99) (decide (wc < 20)) = 1 ∧ μ' = μ) ∨ (E = eS ∧ k2 (inB a1 0 2 && inB a2 1 99 && inB a3 0 1 && inB a4 0 99) (decide (wc < 20)) = 2 ∧ μ' = μ))) 5 30 (gA g) := by
  refine g_oXI (cc := cX5_wish) (nL := 5) (ret := (some .int)) (ty := .int) hst rfl (by decide +kernel) rfl rfl (fun _ _ _ => rfl) (Nat.le_of_ble_eq_true rfl) ?_
  intro p e s m args below meth c Q Z hR hE hT
  obtain ⟨hcnt, hc, hlc, hl, hwc, hw, hs, v1, v2, v12, hm, hat⟩ := hV
  refine j_iload_n Z dX5_wish_0 1 rfl ?_
  refine j_iconst Z (v := 0) dX5_wish_1 (by decide) ?_
  refine j_iconst Z (v := 2) dX5_wish_2 (by decide) ?_
  refine j_callSxv Z (As := [.int a1, .int 0, .int 2]) (rest := []) (nA := 3) (c_X5_requireRange l hst g μ a1 0 2) gX5_wish_X5_requireRange rfl rfl rfl (by decide +kernel) (by decide) rfl dX5_wish_3 rfl (Nat.le_of_ble_eq_true rfl) (by decide) (fun E μx hx => hE _ _ _ _ _ _ _ (Or.inl ⟨hx.1, by simp [k2, hx.2.1], hx.2.2⟩) (by decide) (by decide)) (fun μ9 hp => ?_)
  have hq : μ9 = μ ∧ inB a1 0 2 = true := hp
  refine j_mem hq.1 ?_
  have hf3 := hq.2
  clear hq hp
  refine j_iload_n Z dX5_wish_6 2 rfl ?_
  refine j_iconst Z (v := 1) dX5_wish_7 (by decide) ?_
  refine j_bipush Z (v := 99) dX5_wish_8 (by decide) ?_
  refine j_callSxv Z (As := [.int a2, .int 1, .int 99]) (rest := []) (nA := 3) (c_X5_requireRange l hst g μ a2 1 99) gX5_wish_X5_requireRange rfl rfl rfl (by decide +kernel) (by decide) rfl dX5_wish_10 rfl (Nat.le_of_ble_eq_true rfl) (by decide) (fun E μx hx => hE _ _ _ _ _ _ _ (Or.inl ⟨hx.1, by simp [k2, hf3, hx.2.1], hx.2.2⟩) (by decide) (by decide)) (fun μ9 hp => ?_)
  have hq : μ9 = μ ∧ inB a2 1 99 = true := hp
  refine j_mem hq.1 ?_
  have hf10 := hq.2
  clear hq hp
  refine j_iload_n Z dX5_wish_13 3 rfl ?_
  refine j_callSxv Z (As := [.int a3]) (rest := []) (nA := 1) (c_X5_requireAttribute l hst g μ a3) gX5_wish_X5_requireAttribute rfl rfl rfl (by decide +kernel) (by decide) rfl dX5_wish_14 rfl (Nat.le_of_ble_eq_true rfl) (by decide) (fun E μx hx => hE _ _ _ _ _ _ _ (Or.inl ⟨hx.1, by simp [k2, hf3, hf10, hx.2.1], hx.2.2⟩) (by decide) (by decide)) (fun μ9 hp => ?_)
  have hq : μ9 = μ ∧ inB a3 0 1 = true := hp
  refine j_mem hq.1 ?_
  have hf14 := hq.2
  clear hq hp
  refine j_iload Z dX5_wish_17 4 rfl ?_
  refine j_iconst Z (v := 0) dX5_wish_19 (by decide) ?_
  refine j_bipush Z (v := 99) dX5_wish_20 (by decide) ?_
  refine j_callSxv Z (As := [.int a4, .int 0, .int 99]) (rest := []) (nA := 3) (c_X5_requireRange l hst g μ a4 0 99) gX5_wish_X5_requireRange rfl rfl rfl (by decide +kernel) (by decide) rfl dX5_wish_22 rfl (Nat.le_of_ble_eq_true rfl) (by decide) (fun E μx hx => hE _ _ _ _ _ _ _ (Or.inl ⟨hx.1, by simp [k2, hf3, hf10, hf14, hx.2.1], hx.2.2⟩) (by decide) (by decide)) (fun μ9 hp => ?_)
  have hq : μ9 = μ ∧ inB a4 0 99 = true := hp
  refine j_mem hq.1 ?_
  have hf22 := hq.2
  clear hq hp
  refine j_aload_n Z dX5_wish_25 0 rfl ?_
  refine j_get Z 0 (by decide) rfl rfl 4 (by decide) rfl inX5_wish_X5 lkX5_wish_37 dX5_wish_26 ?_
  refine j_get Z 4 (by decide) rfl rfl 0 (by decide) rfl inX5_wish_X4 lkX5_wish_151 dX5_wish_29 ?_
  refine j_eq hw ?_
  refine j_bipush Z (v := 20) dX5_wish_32 (by decide) ?_
  refine j_icmp_lt Z 47 dX5_wish_34 (by decide) (fun h34 => ?_) (fun h34 => ?_)
  · skip
    have lwc : wc < 20 := (nI_ltI (by omega) (by omega)).mp h34
    refine j_aload_n Z dX5_wish_47 0 rfl ?_
    refine j_get Z 0 (by decide) rfl rfl 4 (by decide) rfl inX5_wish_X5 lkX5_wish_37 dX5_wish_48 ?_
    refine j_iload_n Z dX5_wish_51 1 rfl ?_
    refine j_iload_n Z dX5_wish_52 2 rfl ?_
    refine j_iload_n Z dX5_wish_53 3 rfl ?_
    refine j_iload Z dX5_wish_54 4 rfl ?_
    refine j_callVi Z (As := [.int a1, .int a2, .int a3, .int a4]) (rest := []) (nA := 4) 4 (by decide) rfl rfl (c_X4_add l g μ wc lwc hw a1 a2 a3 a4) gX5_wish_X4_add rfl rfl rfl (by decide +kernel) (by decide) rfl dX5_wish_56 rfl (Nat.le_of_ble_eq_true rfl) (by decide) (fun r9 μ9 hp => ?_)
    have hq : r9 = nI wc ∧ μ9 = (gU (gU (gU (gU (gU μ 19 wc a1) 20 wc a2) 21 wc a3) 22 wc a4) 4 0 (nI (wc + 1))) := hp
    refine j_mem hq.2 ?_
    refine j_eq hq.1 ?_
    clear hq hp
    exact hR _ _ _ _ _ _ (⟨rfl, rfl, by simp [k2, hf3, hf10, hf14, hf22, lwc, h34]⟩) (by decide) (by decide) dX5_wish_59
  · skip
    have lwc : ¬ wc < 20 := fun q => h34 (nI_lt (a := wc) (b := 20) q (by omega))
    exact hT "java/lang/IllegalStateException" "no more wishes can be told" 57 152 61 (vx_atS RX5 61 "java/lang/IllegalStateException" gNm) _ _ _ _ _ _ gOk_S thX5_wish_57 (by decide +kernel) dX5_wish_37 dX5_wish_40 dX5_wish_41 dX5_wish_43 dX5_wish_46 (Or.inr ⟨rfl, by simp [k2, hf3, hf10, hf14, hf22, lwc, h34], rfl⟩) (by decide) (by decide) (by decide)
theorem thX5_differing_157 : Cond.classLink RX5 157 "java/lang/IndexOutOfBoundsException" ∈ wsX5_differing ∧ Cond.initialized "java/lang/IndexOutOfBoundsException" ∈ wsX5_differing ∧ ∀ w ∈ (vx_atS RX5 161 "java/lang/IndexOutOfBoundsException" gNm).filter goodWord, w ∈ wsX5_differing := ⟨by decide +kernel, by decide +kernel, by decide +kernel⟩
theorem lkX5_differing_37 : Cond.fieldLink RX5 37 (TX5 4).1 (TX5 4).2.1 (TX5 4).2.2.1 ∈ wsX5_differing := by decide +kernel
theorem inX5_differing_X5 : ∀ w ∈ u_ws RX5 TX5 7, w ∈ wsX5_differing := by decide +kernel
theorem lkX5_differing_151 : Cond.fieldLink RX5 151 (TX4 0).1 (TX4 0).2.1 (TX4 0).2.2.1 ∈ wsX5_differing := by decide +kernel
theorem inX5_differing_X4 : ∀ w ∈ u_ws RX4 TX4 5, w ∈ wsX5_differing := by decide +kernel
theorem lkX5_differing_46 : Cond.fieldLink RX5 46 (TX5 5).1 (TX5 5).2.1 (TX5 5).2.2.1 ∈ wsX5_differing := by decide +kernel
theorem lkX5_differing_23 : Cond.fieldLink RX5 23 (TX5 2).1 (TX5 2).2.1 (TX5 2).2.2.1 ∈ wsX5_differing := by decide +kernel
theorem lkX5_differing_72 : Cond.fieldLink RX5 72 (TX0 0).1 (TX0 0).2.1 (TX0 0).2.2.1 ∈ wsX5_differing := by decide +kernel
theorem inX5_differing_X0 : ∀ w ∈ u_ws RX0 TX0 7, w ∈ wsX5_differing := by decide +kernel
set_option maxRecDepth 100000 in
set_option maxHeartbeats 4000000 in
theorem c_X5_differing (l : Launch) (hst : l.stackTraces = false) (g : gC) (μ : gM) (cnt lc wc : Nat) (hV : gV μ cnt lc wc) (x z : Int32) : vx_Met l yX5_differing wsX5_differing { frames := 8, cells := 1, slots := 6, locals := 132 } (va_Pc [.ref (g.2.1 0), .int x, .int z] (gB g μ)) (va_Qi (fun (r : Int32) (μ' : gM) => r = nI (cB (fun k => decide ((fSort μ cnt z (μ 23)) k = nI k) && (hMark (fSort μ cnt z (μ 23)) (μ (26 + ix (μ 19 (ix x)))) (nI k) (μ 20 (ix x)) cnt && !decide (aVal (fSort μ cnt z (μ 23)) (μ (29 + ix (μ 21 (ix x)))) (fPl μ) (nI k) cnt = μ 22 (ix x)))) cnt) ∧ μ' = gR μ 23 (fSort μ cnt z (μ 23)) ∧ k2 (fndB wc x) (inB z 0 9999) = 0) (gPB g) (gA g)) (gPX g (fun (E : String) (μ' : gM) => (E = eI ∧ k2 (fndB wc x) (inB z 0 9999) = 1 ∧ μ' = μ) ∨ (E = eA ∧ k2 (fndB wc x) (inB z 0 9999) = 2 ∧ μ' = μ))) 1 6 (gA g) := by
  refine g_oXI (cc := cX5_differing) (nL := 5) (ret := (some .int)) (ty := .int) hst rfl (by decide +kernel) rfl rfl (fun _ _ _ => rfl) (Nat.le_of_ble_eq_true rfl) ?_
  intro p e s m args below meth c Q Z hR hE hT
  obtain ⟨hcnt, hc, hlc, hl, hwc, hw, hs, v1, v2, v12, hm, hat⟩ := hV
  refine j_iload_n Z dX5_differing_0 1 rfl ?_
  refine j_if_lt Z 15 dX5_differing_1 (by decide) (fun h1 => ?_) (fun h1 => ?_)
  · skip
    exact hT "java/lang/IndexOutOfBoundsException" "there is no such wish" 157 159 161 (vx_atS RX5 161 "java/lang/IndexOutOfBoundsException" gNm) _ _ _ _ _ _ gOk_I thX5_differing_157 (by decide +kernel) dX5_differing_15 dX5_differing_18 dX5_differing_19 dX5_differing_21 dX5_differing_24 (Or.inl ⟨rfl, by simp [k2, fndB_f1 (n := wc) h1], rfl⟩) (by decide) (by decide) (by decide)
  · skip
    refine j_iload_n Z dX5_differing_4 1 rfl ?_
    refine j_aload_n Z dX5_differing_5 0 rfl ?_
    refine j_get Z 0 (by decide) rfl rfl 4 (by decide) rfl inX5_differing_X5 lkX5_differing_37 dX5_differing_6 ?_
    refine j_get Z 4 (by decide) rfl rfl 0 (by decide) rfl inX5_differing_X4 lkX5_differing_151 dX5_differing_9 ?_
    refine j_eq hw ?_
    refine j_icmp_lt Z 25 dX5_differing_12 (by decide) (fun h12 => ?_) (fun h12 => ?_)
    · skip
      have hfw := fndB_t (n := wc) h1 h12
      obtain ⟨i0, l0, e0⟩ := fndB_s hfw (by omega)
      have ex : x = nI (ix x) := by rw [e0, ix_nI (by omega)]
      have lx : ix x < wc := by rw [e0, ix_nI (by omega)]; exact l0
      refine j_iload_n Z dX5_differing_25 2 rfl ?_
      refine j_callSxv Z (As := [.int z]) (rest := []) (nA := 1) (c_X5_requireDay l hst g μ z) gX5_differing_X5_requireDay rfl rfl rfl (by decide +kernel) (by decide) rfl dX5_differing_26 rfl (Nat.le_of_ble_eq_true rfl) (by decide) (fun E μx hx => hE _ _ _ _ _ _ _ (Or.inr ⟨hx.1, by simp [k2, hfw, hx.2.1], hx.2.2⟩) (by decide) (by decide)) (fun μ9 hp => ?_)
      have hq : μ9 = μ ∧ inB z 0 9999 = true := hp
      refine j_mem hq.1 ?_
      have hf26 := hq.2
      clear hq hp
      refine j_aload_n Z dX5_differing_29 0 rfl ?_
      refine j_get Z 0 (by decide) rfl rfl 5 (by decide) rfl inX5_differing_X5 lkX5_differing_46 dX5_differing_30 ?_
      refine j_iload_n Z dX5_differing_33 2 rfl ?_
      refine j_callVv Z (As := [.int z]) (rest := []) (nA := 1) 5 (by decide) rfl rfl (c_X3_sortFor l g μ 0 (by decide) cnt hcnt hc z hs) gX5_differing_X3_sortFor rfl rfl rfl (by decide +kernel) (by decide) rfl dX5_differing_34 rfl (Nat.le_of_ble_eq_true rfl) (by decide) (fun μ9 hp => ?_)
      have hq : μ9 = gR μ 23 (fSort μ cnt z (μ 23)) := hp
      generalize hS : fSort μ cnt z (μ 23) = S at hq
      refine j_mem hq ?_
      clear hq hp
      refine j_iconst Z (v := 0) dX5_differing_37 (by decide) ?_
      refine j_istore_n Z dX5_differing_38 (by decide) [(3, .int 0), (0, .ref (g.2.1 0)), (1, .int x), (2, .int z)] rfl ?_
      refine j_iconst Z (v := 0) dX5_differing_39 (by decide) ?_
      refine j_istore Z dX5_differing_40 (by decide) [(4, .int 0), (3, .int 0), (0, .ref (g.2.1 0)), (1, .int x), (2, .int z)] rfl ?_
      have lp42 : ∀ (n0 i : Nat) (b : Nat), b = cB (fun k => decide (S k = nI k) && (hMark S (μ (26 + ix (μ 19 (ix x)))) (nI k) (μ 20 (ix x)) cnt && !decide (aVal S (μ (29 + ix (μ 21 (ix x)))) (fPl μ) (nI k) cnt = μ 22 (ix x)))) i → cnt + 2 ≤ i + n0 → i ≤ cnt → J p l e { frames := 8, cells := 1, slots := 6, locals := 132 } s m args below meth c Q g 5 (gR μ 23 S) (1) (6) 42 [(0, .ref (g.2.1 0)), (1, .int x), (2, .int z), (3, .int (nI b)), (4, .int (nI i))] [] := by
        intro n0
        induction n0 with
        | zero => intro i b eb hn hg; exact absurd hn (by omega)
        | succ n0 ih =>
          intro i b eb hn hg
          refine j_iload Z dX5_differing_42 4 rfl ?_
          refine j_aload_n Z dX5_differing_44 0 rfl ?_
          refine j_get Z 0 (by decide) rfl rfl 2 (by decide) rfl inX5_differing_X5 lkX5_differing_23 dX5_differing_45 ?_
          refine j_get Z 2 (by decide) rfl rfl 0 (by decide) rfl inX5_differing_X0 lkX5_differing_72 dX5_differing_48 ?_
          refine j_eq (y := μ 2 0) (by rw [gR_n (k := 23) (j := 2) (by omega)]) ?_
          refine j_eq hc ?_
          refine j_icmp_ge Z 92 dX5_differing_51 (by decide) (fun h51 => ?_) (fun h51 => ?_)
          · skip
            have hic : i = cnt := by
              have hq := (nI_leI (a := cnt) (b := i) (by omega) (by omega)).mp h51
              omega
            rw [hic] at eb
            refine j_iload_n Z dX5_differing_92 3 rfl ?_
            exact hR _ _ _ _ _ _ (⟨by rw [eb, hS], by rw [hS], by simp [k2, hfw, hf26]⟩) (by decide) (by decide) dX5_differing_93
          · skip
            have hlt : i < cnt := by
              rcases Nat.lt_or_ge i cnt with q9 | q9
              · exact q9
              · exact absurd (nI_le q9 (by omega)) h51
            refine j_aload_n Z dX5_differing_54 0 rfl ?_
            refine j_get Z 0 (by decide) rfl rfl 5 (by decide) rfl inX5_differing_X5 lkX5_differing_46 dX5_differing_55 ?_
            refine j_iload Z dX5_differing_58 4 rfl ?_
            refine j_callVi Z (As := [.int (nI i)]) (rest := []) (nA := 1) 5 (by decide) rfl rfl (c_X3_isThing l g (gR μ 23 S) 0 (by decide) i (by omega)) gX5_differing_X3_isThing rfl rfl rfl (by decide +kernel) (by decide) rfl dX5_differing_60 rfl (Nat.le_of_ble_eq_true rfl) (by decide) (fun r9 μ9 hp => ?_)
            have hq : r9 = zB (decide (S i = nI i)) ∧ μ9 = (gR μ 23 S) := hp
            refine j_mem hq.2 ?_
            refine j_eq hq.1 ?_
            clear hq hp
            refine j_if_eq Z 86 dX5_differing_63 (by decide) (fun h63 => ?_) (fun h63 => ?_)
            · skip
              refine j_iinc Z dX5_differing_86 4 rfl (nI_1 i) (by decide) [(4, .int (nI (i + 1))), (0, .ref (g.2.1 0)), (1, .int x), (2, .int z), (3, .int (nI b))] rfl ?_
              refine j_goto Z 42 dX5_differing_89 (by decide) ?_
              refine j_sub [1, 2, 3, 4, 0] rfl ?_
              exact ih (i + 1) (b) (by rw [eb]; exact cB_0 (and_f1 (zB_0.mp h63)))  (by omega) (by omega)
            · skip
              refine j_aload_n Z dX5_differing_66 0 rfl ?_
              refine j_get Z 0 (by decide) rfl rfl 4 (by decide) rfl inX5_differing_X5 lkX5_differing_37 dX5_differing_67 ?_
              refine j_iload Z dX5_differing_70 4 rfl ?_
              refine j_iload_n Z dX5_differing_72 1 rfl ?_
              refine j_eq ex ?_
              refine j_aload_n Z dX5_differing_73 0 rfl ?_
              refine j_get Z 0 (by decide) rfl rfl 5 (by decide) rfl inX5_differing_X5 lkX5_differing_46 dX5_differing_74 ?_
              refine j_callVi Z (As := [.int (nI i), .int (nI (ix x)), .ref (g.2.1 5)]) (rest := []) (nA := 3) 4 (by decide) rfl rfl (c_X4_isMissedBy l g (gR μ 23 S) cnt hcnt hc (nI i) (ix x) (by omega) hs hm hat) gX5_differing_X4_isMissedBy rfl rfl rfl (by decide +kernel) (by decide) rfl dX5_differing_77 rfl (Nat.le_of_ble_eq_true rfl) (by decide) (fun r9 μ9 hp => ?_)
              have hq : r9 = zB (hMark S ((gR μ 23 S) (26 + ix (μ 19 (ix x)))) (nI i) (μ 20 (ix x)) cnt && !decide (fVal (gR μ 23 S) 23 (ix (μ 21 (ix x))) cnt (nI i) = μ 22 (ix x))) ∧ μ9 = (gR μ 23 S) := hp
              rw [fVal_S (vp_ix (hat _) (by decide)).2, gR_n (k := 23) (j := 26 + ix (μ 19 (ix x))) (by have := (vp_ix (hm (ix x)) (by decide)).2; omega)] at hq
              refine j_mem hq.2 ?_
              refine j_eq hq.1 ?_
              clear hq hp
              refine j_if_eq Z 86 dX5_differing_80 (by decide) (fun h80 => ?_) (fun h80 => ?_)
              · skip
                refine j_iinc Z dX5_differing_86 4 rfl (nI_1 i) (by decide) [(4, .int (nI (i + 1))), (0, .ref (g.2.1 0)), (1, .int x), (2, .int z), (3, .int (nI b))] rfl ?_
                refine j_goto Z 42 dX5_differing_89 (by decide) ?_
                refine j_sub [1, 2, 3, 4, 0] rfl ?_
                exact ih (i + 1) (b) (by rw [eb]; exact cB_0 (and_f2 (zB_0.mp h80)))  (by omega) (by omega)
              · skip
                refine j_iinc Z dX5_differing_83 3 rfl (nI_1 b) (by decide) [(3, .int (nI (b + 1))), (0, .ref (g.2.1 0)), (1, .int x), (2, .int z), (4, .int (nI i))] rfl ?_
                refine j_iinc Z dX5_differing_86 4 rfl (nI_1 i) (by decide) [(4, .int (nI (i + 1))), (3, .int (nI (b + 1))), (0, .ref (g.2.1 0)), (1, .int x), (2, .int z)] rfl ?_
                refine j_goto Z 42 dX5_differing_89 (by decide) ?_
                refine j_sub [2, 3, 4, 1, 0] rfl ?_
                exact ih (i + 1) (b + 1) (by rw [eb]; exact cB_1 (and_t (zB_1 h63) (zB_1 h80)))  (by omega) (by omega)
      refine j_sub [2, 3, 4, 1, 0] rfl ?_
      exact lp42 (cnt + 2) 0 (0) (rfl)  (by omega) (by omega)
    · skip
      exact hT "java/lang/IndexOutOfBoundsException" "there is no such wish" 157 159 161 (vx_atS RX5 161 "java/lang/IndexOutOfBoundsException" gNm) _ _ _ _ _ _ gOk_I thX5_differing_157 (by decide +kernel) dX5_differing_15 dX5_differing_18 dX5_differing_19 dX5_differing_21 dX5_differing_24 (Or.inl ⟨rfl, by simp [k2, fndB_f2 (n := wc) h12], rfl⟩) (by decide) (by decide) (by decide)
theorem lkX5_hasAnotherValue_46 : Cond.fieldLink RX5 46 (TX5 5).1 (TX5 5).2.1 (TX5 5).2.2.1 ∈ wsX5_hasAnotherValue := by decide +kernel
theorem inX5_hasAnotherValue_X5 : ∀ w ∈ u_ws RX5 TX5 7, w ∈ wsX5_hasAnotherValue := by decide +kernel
theorem lkX5_hasAnotherValue_121 : Cond.fieldLink RX5 121 (TX3 2).1 (TX3 2).2.1 (TX3 2).2.2.1 ∈ wsX5_hasAnotherValue := by decide +kernel
theorem inX5_hasAnotherValue_X3 : ∀ w ∈ u_ws RX3 TX3 3, w ∈ wsX5_hasAnotherValue := by decide +kernel
theorem lkX5_hasAnotherValue_50 : Cond.fieldLink RX5 50 (TX5 6).1 (TX5 6).2.1 (TX5 6).2.2.1 ∈ wsX5_hasAnotherValue := by decide +kernel
set_option maxRecDepth 100000 in
set_option maxHeartbeats 4000000 in
theorem c_X5_hasAnotherValue (l : Launch) (g : gC) (μ : gM) (cnt : Nat) (hcnt : cnt ≤ 60) (hc : μ 2 0 = nI cnt) (i a : Nat) (hi : i < 60) (ha : a < 2) (hs : ∀ k, vp_in (μ 9 k) 4) : Met l yX5_hasAnotherValue wsX5_hasAnotherValue { frames := 2, cells := 0, slots := 0, locals := 48 } (va_Pc [.ref (g.2.1 0), .int (nI i), .int (nI a)] (gB g μ)) (va_Qi (fun (r : Int32) (μ' : gM) => r = zB (!decide (μ 23 i = -1) && !decide (μ 24 i = -1) && !decide (fVal μ 23 a cnt (μ 23 i) = fVal μ 24 a cnt (μ 24 i))) ∧ μ' = μ) (gPB g) (gA g)) 0 0 (gA g) := by
  refine g_ofI (cc := cX5_hasAnotherValue) (nL := 5) (ret := (some .boolean)) (ty := .boolean) (by decide +kernel) rfl rfl (by rintro _ _ ⟨rfl, -⟩; exact zB_n) (Nat.le_of_ble_eq_true rfl) ?_
  intro p e s m args below meth c Q Z hR
  refine j_aload_n Z dX5_hasAnotherValue_0 0 rfl ?_
  refine j_get Z 0 (by decide) rfl rfl 5 (by decide) rfl inX5_hasAnotherValue_X5 lkX5_hasAnotherValue_46 dX5_hasAnotherValue_1 ?_
  refine j_get Z 5 (by decide) rfl rfl 2 (by decide) rfl inX5_hasAnotherValue_X3 lkX5_hasAnotherValue_121 dX5_hasAnotherValue_4 ?_
  refine j_iload_n Z dX5_hasAnotherValue_7 1 rfl ?_
  refine j_ild Z 23 (by decide) (fun _ => rfl) i rfl (by omega) (by decide) dX5_hasAnotherValue_8 ?_
  refine j_istore_n Z dX5_hasAnotherValue_9 (by decide) [(3, .int (μ 23 i)), (0, .ref (g.2.1 0)), (1, .int (nI i)), (2, .int (nI a))] rfl ?_
  refine j_aload_n Z dX5_hasAnotherValue_10 1 rfl ?_
  refine j_get Z 0 (by decide) rfl rfl 6 (by decide) rfl inX5_hasAnotherValue_X5 lkX5_hasAnotherValue_50 dX5_hasAnotherValue_11 ?_
  refine j_get Z 6 (by decide) rfl rfl 2 (by decide) rfl inX5_hasAnotherValue_X3 lkX5_hasAnotherValue_121 dX5_hasAnotherValue_14 ?_
  refine j_iload_n Z dX5_hasAnotherValue_17 2 rfl ?_
  refine j_ild Z 24 (by decide) (fun _ => rfl) i rfl (by omega) (by decide) dX5_hasAnotherValue_18 ?_
  refine j_istore Z dX5_hasAnotherValue_19 (by decide) [(4, .int (μ 24 i)), (3, .int (μ 23 i)), (0, .ref (g.2.1 0)), (1, .int (nI i)), (2, .int (nI a))] rfl ?_
  refine j_iload_n Z dX5_hasAnotherValue_21 1 rfl ?_
  refine j_iconst Z (v := -1) dX5_hasAnotherValue_22 (by decide) ?_
  refine j_icmp_eq Z 58 dX5_hasAnotherValue_23 (by decide) (fun h23 => ?_) (fun h23 => ?_)
  · skip
    refine j_iconst Z (v := 0) dX5_hasAnotherValue_58 (by decide) ?_
    exact hR _ _ _ _ _ _ (⟨by simp [zB, h23], rfl⟩) (by decide) (by decide) dX5_hasAnotherValue_59
  · skip
    refine j_iload Z dX5_hasAnotherValue_26 0 rfl ?_
    refine j_iconst Z (v := -1) dX5_hasAnotherValue_28 (by decide) ?_
    refine j_icmp_eq Z 58 dX5_hasAnotherValue_29 (by decide) (fun h29 => ?_) (fun h29 => ?_)
    · skip
      refine j_iconst Z (v := 0) dX5_hasAnotherValue_58 (by decide) ?_
      exact hR _ _ _ _ _ _ (⟨by simp [zB, h23, h29], rfl⟩) (by decide) (by decide) dX5_hasAnotherValue_59
    · skip
      refine j_aload_n Z dX5_hasAnotherValue_32 2 rfl ?_
      refine j_get Z 0 (by decide) rfl rfl 5 (by decide) rfl inX5_hasAnotherValue_X5 lkX5_hasAnotherValue_46 dX5_hasAnotherValue_33 ?_
      refine j_iload_n Z dX5_hasAnotherValue_36 1 rfl ?_
      refine j_iload_n Z dX5_hasAnotherValue_37 4 rfl ?_
      refine j_callVi Z (As := [.int (μ 23 i), .int (nI a)]) (rest := []) (nA := 2) 5 (by decide) rfl rfl (c_X3_attributeOf l g μ 0 (by decide) cnt hcnt hc (μ 23 i) a ha hs) gX5_hasAnotherValue_X3_attributeOf rfl rfl rfl (by decide +kernel) (by decide) rfl dX5_hasAnotherValue_38 rfl (Nat.le_of_ble_eq_true rfl) (by decide) (fun r9 μ9 hp => ?_)
      have hq : r9 = fVal μ 23 a cnt (μ 23 i) ∧ μ9 = μ := hp
      refine j_mem hq.2 ?_
      refine j_eq hq.1 ?_
      clear hq hp
      refine j_aload_n Z dX5_hasAnotherValue_41 2 rfl ?_
      refine j_get Z 0 (by decide) rfl rfl 6 (by decide) rfl inX5_hasAnotherValue_X5 lkX5_hasAnotherValue_50 dX5_hasAnotherValue_42 ?_
      refine j_iload Z dX5_hasAnotherValue_45 0 rfl ?_
      refine j_iload_n Z dX5_hasAnotherValue_47 4 rfl ?_
      refine j_callVi Z (As := [.int (μ 24 i), .int (nI a)]) (rest := [.int (fVal μ 23 a cnt (μ 23 i))]) (nA := 2) 6 (by decide) rfl rfl (c_X3_attributeOf l g μ 1 (by decide) cnt hcnt hc (μ 24 i) a ha hs) gX5_hasAnotherValue_X3_attributeOf rfl rfl rfl (by decide +kernel) (by decide) rfl dX5_hasAnotherValue_48 rfl (Nat.le_of_ble_eq_true rfl) (by decide) (fun r9 μ9 hp => ?_)
      have hq : r9 = fVal μ 24 a cnt (μ 24 i) ∧ μ9 = μ := hp
      refine j_mem hq.2 ?_
      refine j_eq hq.1 ?_
      clear hq hp
      refine j_icmp_eq Z 58 dX5_hasAnotherValue_51 (by decide) (fun h51 => ?_) (fun h51 => ?_)
      · skip
        refine j_iconst Z (v := 0) dX5_hasAnotherValue_58 (by decide) ?_
        exact hR _ _ _ _ _ _ (⟨by simp [zB, h23, h29, h51], rfl⟩) (by decide) (by decide) dX5_hasAnotherValue_59
      · skip
        refine j_iconst Z (v := 1) dX5_hasAnotherValue_54 (by decide) ?_
        refine j_goto Z 59 dX5_hasAnotherValue_55 (by decide) ?_
        exact hR _ _ _ _ _ _ (⟨by simp [zB, h23, h29, h51], rfl⟩) (by decide) (by decide) dX5_hasAnotherValue_59
theorem lkX5_changed_46 : Cond.fieldLink RX5 46 (TX5 5).1 (TX5 5).2.1 (TX5 5).2.2.1 ∈ wsX5_changed := by decide +kernel
theorem inX5_changed_X5 : ∀ w ∈ u_ws RX5 TX5 7, w ∈ wsX5_changed := by decide +kernel
theorem lkX5_changed_50 : Cond.fieldLink RX5 50 (TX5 6).1 (TX5 6).2.1 (TX5 6).2.2.1 ∈ wsX5_changed := by decide +kernel
theorem lkX5_changed_23 : Cond.fieldLink RX5 23 (TX5 2).1 (TX5 2).2.1 (TX5 2).2.2.1 ∈ wsX5_changed := by decide +kernel
theorem lkX5_changed_72 : Cond.fieldLink RX5 72 (TX0 0).1 (TX0 0).2.1 (TX0 0).2.2.1 ∈ wsX5_changed := by decide +kernel
theorem inX5_changed_X0 : ∀ w ∈ u_ws RX0 TX0 7, w ∈ wsX5_changed := by decide +kernel
set_option maxRecDepth 100000 in
set_option maxHeartbeats 4000000 in
theorem c_X5_changed (l : Launch) (hst : l.stackTraces = false) (g : gC) (μ : gM) (cnt lc wc : Nat) (hV : gV μ cnt lc wc) (a y z : Int32) : vx_Met l yX5_changed wsX5_changed { frames := 8, cells := 3, slots := 18, locals := 132 } (va_Pc [.ref (g.2.1 0), .int a, .int y, .int z] (gB g μ)) (va_Qi (fun (r : Int32) (μ' : gM) => r = nI (cB (fun k => havB (fSort μ cnt y (μ 23)) (fSort μ cnt z (μ 24)) (μ (29 + (ix a))) (fPl μ) cnt k) cnt) ∧ μ' = gR (gR μ 23 (fSort μ cnt y (μ 23))) 24 (fSort μ cnt z (μ 24)) ∧ k1 (inB a 0 1 && inB y 0 9999 && inB z 0 9999) = 0) (gPB g) (gA g)) (gPX g (fun (E : String) (μ' : gM) => (E = eA ∧ k1 (inB a 0 1 && inB y 0 9999 && inB z 0 9999) = 1 ∧ μ' = μ))) 3 18 (gA g) := by
  refine g_oXI (cc := cX5_changed) (nL := 6) (ret := (some .int)) (ty := .int) hst rfl (by decide +kernel) rfl rfl (fun _ _ _ => rfl) (Nat.le_of_ble_eq_true rfl) ?_
  intro p e s m args below meth c Q Z hR hE hT
  obtain ⟨hcnt, hc, hlc, hl, hwc, hw, hs, v1, v2, v12, hm, hat⟩ := hV
  refine j_iload_n Z dX5_changed_0 1 rfl ?_
  refine j_callSxv Z (As := [.int a]) (rest := []) (nA := 1) (c_X5_requireAttribute l hst g μ a) gX5_changed_X5_requireAttribute rfl rfl rfl (by decide +kernel) (by decide) rfl dX5_changed_1 rfl (Nat.le_of_ble_eq_true rfl) (by decide) (fun E μx hx => hE _ _ _ _ _ _ _ (⟨hx.1, by simp [k1, hx.2.1], hx.2.2⟩) (by decide) (by decide)) (fun μ9 hp => ?_)
  have hq : μ9 = μ ∧ inB a 0 1 = true := hp
  refine j_mem hq.1 ?_
  have hf1 := hq.2
  clear hq hp
  obtain ⟨ea, la⟩ := vp_ix (inB_vp hf1 (N := 2) rfl) (by decide)
  refine j_iload_n Z dX5_changed_4 2 rfl ?_
  refine j_callSxv Z (As := [.int y]) (rest := []) (nA := 1) (c_X5_requireDay l hst g μ y) gX5_changed_X5_requireDay rfl rfl rfl (by decide +kernel) (by decide) rfl dX5_changed_5 rfl (Nat.le_of_ble_eq_true rfl) (by decide) (fun E μx hx => hE _ _ _ _ _ _ _ (⟨hx.1, by simp [k1, hf1, hx.2.1], hx.2.2⟩) (by decide) (by decide)) (fun μ9 hp => ?_)
  have hq : μ9 = μ ∧ inB y 0 9999 = true := hp
  refine j_mem hq.1 ?_
  have hf5 := hq.2
  clear hq hp
  refine j_iload_n Z dX5_changed_8 3 rfl ?_
  refine j_callSxv Z (As := [.int z]) (rest := []) (nA := 1) (c_X5_requireDay l hst g μ z) gX5_changed_X5_requireDay rfl rfl rfl (by decide +kernel) (by decide) rfl dX5_changed_9 rfl (Nat.le_of_ble_eq_true rfl) (by decide) (fun E μx hx => hE _ _ _ _ _ _ _ (⟨hx.1, by simp [k1, hf1, hf5, hx.2.1], hx.2.2⟩) (by decide) (by decide)) (fun μ9 hp => ?_)
  have hq : μ9 = μ ∧ inB z 0 9999 = true := hp
  refine j_mem hq.1 ?_
  have hf9 := hq.2
  clear hq hp
  refine j_aload_n Z dX5_changed_12 0 rfl ?_
  refine j_get Z 0 (by decide) rfl rfl 5 (by decide) rfl inX5_changed_X5 lkX5_changed_46 dX5_changed_13 ?_
  refine j_iload_n Z dX5_changed_16 2 rfl ?_
  refine j_callVv Z (As := [.int y]) (rest := []) (nA := 1) 5 (by decide) rfl rfl (c_X3_sortFor l g μ 0 (by decide) cnt hcnt hc y hs) gX5_changed_X3_sortFor rfl rfl rfl (by decide +kernel) (by decide) rfl dX5_changed_17 rfl (Nat.le_of_ble_eq_true rfl) (by decide) (fun μ9 hp => ?_)
  have hq : μ9 = gR μ 23 (fSort μ cnt y (μ 23)) := hp
  generalize hS : fSort μ cnt y (μ 23) = S at hq
  refine j_mem hq ?_
  clear hq hp
  refine j_aload_n Z dX5_changed_20 0 rfl ?_
  refine j_get Z 0 (by decide) rfl rfl 6 (by decide) rfl inX5_changed_X5 lkX5_changed_50 dX5_changed_21 ?_
  refine j_iload_n Z dX5_changed_24 3 rfl ?_
  refine j_callVv Z (As := [.int z]) (rest := []) (nA := 1) 6 (by decide) rfl rfl (c_X3_sortFor l g (gR μ 23 S) 1 (by decide) cnt hcnt hc z hs) gX5_changed_X3_sortFor rfl rfl rfl (by decide +kernel) (by decide) rfl dX5_changed_25 rfl (Nat.le_of_ble_eq_true rfl) (by decide) (fun μ9 hp => ?_)
  have hq : μ9 = gR (gR μ 23 S) 24 (fSort (gR μ 23 S) cnt z (μ 24)) := hp
  rw [fSort_R] at hq; generalize hT2 : fSort μ cnt z (μ 24) = T at hq
  refine j_mem hq ?_
  clear hq hp
  refine j_iconst Z (v := 0) dX5_changed_28 (by decide) ?_
  refine j_istore Z dX5_changed_29 (by decide) [(4, .int 0), (0, .ref (g.2.1 0)), (1, .int a), (2, .int y), (3, .int z)] rfl ?_
  refine j_iconst Z (v := 0) dX5_changed_31 (by decide) ?_
  refine j_istore Z dX5_changed_32 (by decide) [(5, .int 0), (4, .int 0), (0, .ref (g.2.1 0)), (1, .int a), (2, .int y), (3, .int z)] rfl ?_
  have lp34 : ∀ (n0 i : Nat) (b : Nat), b = cB (fun k => havB S T (μ (29 + (ix a))) (fPl μ) cnt k) i → cnt + 2 ≤ i + n0 → i ≤ cnt → J p l e { frames := 8, cells := 3, slots := 18, locals := 132 } s m args below meth c Q g 6 (gR (gR μ 23 S) 24 T) (3) (18) 34 [(0, .ref (g.2.1 0)), (1, .int a), (2, .int y), (3, .int z), (4, .int (nI b)), (5, .int (nI i))] [] := by
    intro n0
    induction n0 with
    | zero => intro i b eb hn hg; exact absurd hn (by omega)
    | succ n0 ih =>
      intro i b eb hn hg
      refine j_iload Z dX5_changed_34 5 rfl ?_
      refine j_aload_n Z dX5_changed_36 0 rfl ?_
      refine j_get Z 0 (by decide) rfl rfl 2 (by decide) rfl inX5_changed_X5 lkX5_changed_23 dX5_changed_37 ?_
      refine j_get Z 2 (by decide) rfl rfl 0 (by decide) rfl inX5_changed_X0 lkX5_changed_72 dX5_changed_40 ?_
      refine j_eq (y := μ 2 0) (by rw [gR_n (k := 24) (j := 2) (by omega), gR_n (k := 23) (j := 2) (by omega)]) ?_
      refine j_eq hc ?_
      refine j_icmp_ge Z 65 dX5_changed_43 (by decide) (fun h43 => ?_) (fun h43 => ?_)
      · skip
        have hic : i = cnt := by
          have hq := (nI_leI (a := cnt) (b := i) (by omega) (by omega)).mp h43
          omega
        rw [hic] at eb
        refine j_iload Z dX5_changed_65 4 rfl ?_
        exact hR _ _ _ _ _ _ (⟨by rw [eb, hS, hT2], by rw [hS, hT2], by simp [k1, hf1, hf5, hf9]⟩) (by decide) (by decide) dX5_changed_67
      · skip
        have hlt : i < cnt := by
          rcases Nat.lt_or_ge i cnt with q9 | q9
          · exact q9
          · exact absurd (nI_le q9 (by omega)) h43
        refine j_aload_n Z dX5_changed_46 0 rfl ?_
        refine j_iload Z dX5_changed_47 5 rfl ?_
        refine j_iload_n Z dX5_changed_49 1 rfl ?_
        refine j_eq ea ?_
        refine j_callVi Z (As := [.int (nI i), .int (nI (ix a))]) (rest := []) (nA := 2) 0 (by decide) rfl rfl (c_X5_hasAnotherValue l g (gR (gR μ 23 S) 24 T) cnt hcnt hc i (ix a) (by omega) la hs) gX5_changed_X5_hasAnotherValue rfl rfl rfl (by decide +kernel) (by decide) rfl dX5_changed_50 rfl (Nat.le_of_ble_eq_true rfl) (by decide) (fun r9 μ9 hp => ?_)
        have hq : r9 = zB (!decide (S i = -1) && !decide (T i = -1) && !decide (fVal (gR (gR μ 23 S) 24 T) 23 (ix a) cnt (S i) = fVal (gR (gR μ 23 S) 24 T) 24 (ix a) cnt (T i))) ∧ μ9 = (gR (gR μ 23 S) 24 T) := hp
        rw [fVal_R (t := 24) (t' := 23) (Or.inr rfl) (by decide) la, fVal_S la, show fVal (gR (gR μ 23 S) 24 T) 24 (ix a) cnt (T i) = aVal T (μ (29 + (ix a))) (fPl μ) (T i) cnt from fVal_T la] at hq
        refine j_mem hq.2 ?_
        refine j_eq hq.1 ?_
        clear hq hp
        refine j_if_eq Z 59 dX5_changed_53 (by decide) (fun h53 => ?_) (fun h53 => ?_)
        · skip
          refine j_iinc Z dX5_changed_59 5 rfl (nI_1 i) (by decide) [(5, .int (nI (i + 1))), (0, .ref (g.2.1 0)), (1, .int a), (2, .int y), (3, .int z), (4, .int (nI b))] rfl ?_
          refine j_goto Z 34 dX5_changed_62 (by decide) ?_
          refine j_sub [1, 2, 3, 4, 5, 0] rfl ?_
          exact ih (i + 1) (b) (by rw [eb]; exact cB_0 (one_f (zB_0.mp h53)))  (by omega) (by omega)
        · skip
          refine j_iinc Z dX5_changed_56 4 rfl (nI_1 b) (by decide) [(4, .int (nI (b + 1))), (0, .ref (g.2.1 0)), (1, .int a), (2, .int y), (3, .int z), (5, .int (nI i))] rfl ?_
          refine j_iinc Z dX5_changed_59 5 rfl (nI_1 i) (by decide) [(5, .int (nI (i + 1))), (4, .int (nI (b + 1))), (0, .ref (g.2.1 0)), (1, .int a), (2, .int y), (3, .int z)] rfl ?_
          refine j_goto Z 34 dX5_changed_62 (by decide) ?_
          refine j_sub [2, 3, 4, 5, 1, 0] rfl ?_
          exact ih (i + 1) (b + 1) (by rw [eb]; exact cB_1 (zB_1 h53))  (by omega) (by omega)
  refine j_sub [2, 3, 4, 5, 1, 0] rfl ?_
  exact lp34 (cnt + 2) 0 (0) (rfl)  (by omega) (by omega)
