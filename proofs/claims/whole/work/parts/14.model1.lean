theorem lkX6_thrown_66 : Cond.fieldLink RX6 66 (TX6 0).1 (TX6 0).2.1 (TX6 0).2.2.1 ∈ wsX6_thrown := by decide +kernel
theorem inX6_thrown_X6 : ∀ w ∈ u_ws RX6 TX6 23, w ∈ wsX6_thrown := by decide +kernel
set_option maxRecDepth 100000 in
set_option maxHeartbeats 4000000 in
theorem c_X6_thrown (l : Launch) (g : gC) (μ : gM)  : Met l yX6_thrown wsX6_thrown { frames := 0, cells := 0, slots := 0, locals := 0 } (va_Pc [.ref (g.2.1 31)] (gB g μ)) (va_Qi (fun (r : Int32) (μ' : gM) => r = μ 31 0 ∧ μ' = μ) (gPB g) (gA g)) 0 0 (gA g) := by
  refine g_ofI (cc := cX6_thrown) (nL := 1) (ret := (some .int)) (ty := .int) (by decide +kernel) rfl rfl (fun _ _ _ => rfl) (Nat.le_of_ble_eq_true rfl) ?_
  intro p e s m args below meth c Q Z hR
  refine j_aload_n Z dX6_thrown_0 0 rfl ?_
  refine j_get Z 31 (by decide) rfl rfl 0 (by decide) rfl inX6_thrown_X6 lkX6_thrown_66 dX6_thrown_1 ?_
  exact hR _ _ _ _ _ _ (⟨rfl, rfl⟩) (by decide) (by decide) dX6_thrown_4
theorem lkX6_refused_66 : Cond.fieldLink RX6 66 (TX6 0).1 (TX6 0).2.1 (TX6 0).2.2.1 ∈ wsX6_refused := by decide +kernel
theorem inX6_refused_X6 : ∀ w ∈ u_ws RX6 TX6 23, w ∈ wsX6_refused := by decide +kernel
set_option maxRecDepth 100000 in
set_option maxHeartbeats 4000000 in
theorem c_X6_refused (l : Launch) (g : gC) (μ : gM) (v : Int32) : Met l yX6_refused wsX6_refused { frames := 0, cells := 0, slots := 0, locals := 0 } (va_Pc [.ref (g.2.1 31), .int v] (gB g μ)) (va_Qi (fun (r : Int32) (μ' : gM) => r = zB (decide (¬ v = 0)) ∧ μ' = gU μ 31 0 v) (gPB g) (gA g)) 0 0 (gA g) := by
  refine g_ofI (cc := cX6_refused) (nL := 2) (ret := (some .boolean)) (ty := .boolean) (by decide +kernel) rfl rfl (by rintro _ _ ⟨rfl, -⟩; exact zB_n) (Nat.le_of_ble_eq_true rfl) ?_
  intro p e s m args below meth c Q Z hR
  refine j_aload_n Z dX6_refused_0 0 rfl ?_
  refine j_iload_n Z dX6_refused_1 1 rfl ?_
  refine j_put Z 31 (by decide) (fun _ => rfl) rfl tyX6 tyX6_ok nmX6 0 (by decide) rfl (Nat.le_of_ble_eq_true rfl) rfl (by decide +kernel) inX6_refused_X6 lkX6_refused_66 dX6_refused_2 ?_
  refine j_iload_n Z dX6_refused_5 1 rfl ?_
  refine j_if_eq Z 13 dX6_refused_6 (by decide) (fun h6 => ?_) (fun h6 => ?_)
  · skip
    refine j_iconst Z (v := 0) dX6_refused_13 (by decide) ?_
    exact hR _ _ _ _ _ _ (⟨by simp [zB, h6], rfl⟩) (by decide) (by decide) dX6_refused_14
  · skip
    refine j_iconst Z (v := 1) dX6_refused_9 (by decide) ?_
    refine j_goto Z 14 dX6_refused_10 (by decide) ?_
    exact hR _ _ _ _ _ _ (⟨by simp [zB, h6], rfl⟩) (by decide) (by decide) dX6_refused_14
set_option maxRecDepth 100000 in
set_option maxHeartbeats 4000000 in
theorem c_X6_in (l : Launch) (g : gC) (μ : gM) (x lo hi : Int32) : Met l yX6_in wsX6_in { frames := 0, cells := 0, slots := 0, locals := 0 } (va_Pc [.int x, .int lo, .int hi] (gB g μ)) (va_Qi (fun (r : Int32) (μ' : gM) => r = zB (inB x lo hi) ∧ μ' = μ) (gPB g) (gA g)) 0 0 (gA g) := by
  refine g_ofI (cc := cX6_in) (nL := 3) (ret := (some .boolean)) (ty := .boolean) (by decide +kernel) rfl rfl (by rintro _ _ ⟨rfl, -⟩; exact zB_n) (Nat.le_of_ble_eq_true rfl) ?_
  intro p e s m args below meth c Q Z hR
  refine j_iload_n Z dX6_in_0 0 rfl ?_
  refine j_iload_n Z dX6_in_1 1 rfl ?_
  refine j_icmp_lt Z 14 dX6_in_2 (by decide) (fun h2 => ?_) (fun h2 => ?_)
  · skip
    refine j_iconst Z (v := 0) dX6_in_14 (by decide) ?_
    exact hR _ _ _ _ _ _ (⟨zB_f (inB_f1 h2), rfl⟩) (by decide) (by decide) dX6_in_15
  · skip
    refine j_iload_n Z dX6_in_5 0 rfl ?_
    refine j_iload_n Z dX6_in_6 2 rfl ?_
    refine j_icmp_gt Z 14 dX6_in_7 (by decide) (fun h7 => ?_) (fun h7 => ?_)
    · skip
      refine j_iconst Z (v := 0) dX6_in_14 (by decide) ?_
      exact hR _ _ _ _ _ _ (⟨zB_f (inB_f3 h7), rfl⟩) (by decide) (by decide) dX6_in_15
    · skip
      refine j_iconst Z (v := 1) dX6_in_10 (by decide) ?_
      refine j_goto Z 15 dX6_in_11 (by decide) ?_
      exact hR _ _ _ _ _ _ (⟨zB_t (inB_t3 h2 h7), rfl⟩) (by decide) (by decide) dX6_in_15
theorem lkX6_isFind_70 : Cond.fieldLink RX6 70 (TX6 4).1 (TX6 4).2.1 (TX6 4).2.2.1 ∈ wsX6_isFind := by decide +kernel
theorem inX6_isFind_X6 : ∀ w ∈ u_ws RX6 TX6 23, w ∈ wsX6_isFind := by decide +kernel
set_option maxRecDepth 100000 in
set_option maxHeartbeats 4000000 in
theorem c_X6_isFind (l : Launch) (g : gC) (μ : gM) (cnt : Nat) (hcnt : cnt ≤ 60) (mc : μ 31 4 = nI cnt) (x : Int32) : Met l yX6_isFind wsX6_isFind { frames := 1, cells := 0, slots := 0, locals := 22 } (va_Pc [.ref (g.2.1 31), .int x] (gB g μ)) (va_Qi (fun (r : Int32) (μ' : gM) => r = zB (fndB cnt x) ∧ μ' = μ) (gPB g) (gA g)) 0 0 (gA g) := by
  refine g_ofI (cc := cX6_isFind) (nL := 2) (ret := (some .boolean)) (ty := .boolean) (by decide +kernel) rfl rfl (by rintro _ _ ⟨rfl, -⟩; exact zB_n) (Nat.le_of_ble_eq_true rfl) ?_
  intro p e s m args below meth c Q Z hR
  refine j_iload_n Z dX6_isFind_0 1 rfl ?_
  refine j_iconst Z (v := 0) dX6_isFind_1 (by decide) ?_
  refine j_aload_n Z dX6_isFind_2 0 rfl ?_
  refine j_get Z 31 (by decide) rfl rfl 4 (by decide) rfl inX6_isFind_X6 lkX6_isFind_70 dX6_isFind_3 ?_
  refine j_eq mc ?_
  refine j_iconst Z (v := 1) dX6_isFind_6 (by decide) ?_
  refine j_isub Z dX6_isFind_7 ?_
  refine j_callSi Z (As := [.int x, .int 0, .int ((nI cnt) - 1)]) (rest := []) (nA := 3) (c_X6_in l g μ x 0 ((nI cnt) - 1)) gX6_isFind_X6_in rfl rfl rfl (by decide +kernel) (by decide) rfl dX6_isFind_8 rfl (Nat.le_of_ble_eq_true rfl) (by decide) (fun r9 μ9 hp => ?_)
  have hq : r9 = zB (inB x 0 ((nI cnt) - 1)) ∧ μ9 = μ := hp
  refine j_mem hq.2 ?_
  refine j_eq hq.1 ?_
  clear hq hp
  exact hR _ _ _ _ _ _ (⟨by rw [inB_cnt hcnt], rfl⟩) (by decide) (by decide) dX6_isFind_11
set_option maxRecDepth 100000 in
set_option maxHeartbeats 4000000 in
theorem c_X6_isDay (l : Launch) (g : gC) (μ : gM) (x : Int32) : Met l yX6_isDay wsX6_isDay { frames := 1, cells := 0, slots := 0, locals := 22 } (va_Pc [.int x] (gB g μ)) (va_Qi (fun (r : Int32) (μ' : gM) => r = zB (inB x 0 9999) ∧ μ' = μ) (gPB g) (gA g)) 0 0 (gA g) := by
  refine g_ofI (cc := cX6_isDay) (nL := 1) (ret := (some .boolean)) (ty := .boolean) (by decide +kernel) rfl rfl (by rintro _ _ ⟨rfl, -⟩; exact zB_n) (Nat.le_of_ble_eq_true rfl) ?_
  intro p e s m args below meth c Q Z hR
  refine j_iload_n Z dX6_isDay_0 0 rfl ?_
  refine j_iconst Z (v := 0) dX6_isDay_1 (by decide) ?_
  refine j_sipush Z (v := 9999) dX6_isDay_2 (by decide) ?_
  refine j_callSi Z (As := [.int x, .int 0, .int 9999]) (rest := []) (nA := 3) (c_X6_in l g μ x 0 9999) gX6_isDay_X6_in rfl rfl rfl (by decide +kernel) (by decide) rfl dX6_isDay_5 rfl (Nat.le_of_ble_eq_true rfl) (by decide) (fun r9 μ9 hp => ?_)
  have hq : r9 = zB (inB x 0 9999) ∧ μ9 = μ := hp
  refine j_mem hq.2 ?_
  refine j_eq hq.1 ?_
  clear hq hp
  exact hR _ _ _ _ _ _ (⟨rfl, rfl⟩) (by decide) (by decide) dX6_isDay_8
theorem lkX6_pass_77 : Cond.fieldLink RX6 77 (TX6 1).1 (TX6 1).2.1 (TX6 1).2.2.1 ∈ wsX6_pass := by decide +kernel
theorem inX6_pass_X6 : ∀ w ∈ u_ws RX6 TX6 23, w ∈ wsX6_pass := by decide +kernel
set_option maxRecDepth 100000 in
set_option maxHeartbeats 4000000 in
theorem c_X6_pass (l : Launch) (g : gC) (μ : gM) (cnt lc wc : Nat) (pl : Nat → Nat) (hV : mV μ cnt lc wc pl) (x : Int32) (v : Int32) (ev : v = k2 (inB x 1 1000) (decide (μ 31 1 + x ≤ 9999))) : Met l yX6_pass wsX6_pass { frames := 1, cells := 0, slots := 0, locals := 22 } (va_Pc [.ref (g.2.1 31), .int x] (gB g μ)) (va_Qi (fun (r : Int32) (μ' : gM) => r = (if v = 0 then μ 31 1 + x else 0) ∧ μ' = (if v = 0 then gU (gU μ 31 0 v) 31 1 (μ 31 1 + x) else gU μ 31 0 v)) (gPB g) (gA g)) 0 0 (gA g) := by
  refine g_ofI (cc := cX6_pass) (nL := 2) (ret := (some .int)) (ty := .int) (by decide +kernel) rfl rfl (fun _ _ _ => rfl) (Nat.le_of_ble_eq_true rfl) ?_
  intro p e s m args below meth c Q Z hR
  obtain ⟨hcnt, mc, hlc, ml, hwc, mw, ms, m1, m2, m12, mm, ma, mt, mp, md⟩ := hV
  have jp33 : J p l e { frames := 1, cells := 0, slots := 0, locals := 22 } s m args below meth c Q g 2 μ (0) (0) 33 [(0, .ref (g.2.1 31)), (1, .int x)] [.int v, .ref (g.2.1 31)] := by
    refine j_callVi Z (As := [.int v]) (rest := []) (nA := 1) 31 (by decide) rfl rfl (c_X6_refused l g μ v) gX6_pass_X6_refused rfl rfl rfl (by decide +kernel) (by decide) rfl dX6_pass_33 rfl (Nat.le_of_ble_eq_true rfl) (by decide) (fun r9 μ9 hp => ?_)
    have hq : r9 = zB (decide (¬ v = 0)) ∧ μ9 = (gU μ 31 0 v) := hp
    refine j_mem hq.2 ?_
    refine j_eq hq.1 ?_
    clear hq hp
    refine j_if_eq Z 41 dX6_pass_36 (by decide) (fun h36 => ?_) (fun h36 => ?_)
    · skip
      have f36 := zB_0.mp h36
      have hv := dec_ne f36
      refine j_aload_n Z dX6_pass_41 0 rfl ?_
      refine j_dup Z dX6_pass_42 rfl ?_
      refine j_get Z 31 (by decide) rfl rfl 1 (by decide) rfl inX6_pass_X6 lkX6_pass_77 dX6_pass_43 ?_
      refine j_eq (y := μ 31 1) (by rw [gU_s, upd_n (i := 0) (j := 1) (by decide)]) ?_
      refine j_iload_n Z dX6_pass_46 1 rfl ?_
      refine j_iadd Z dX6_pass_47 ?_
      refine j_put Z 31 (by decide) (fun _ => rfl) rfl tyX6 tyX6_ok nmX6 1 (by decide) rfl (Nat.le_of_ble_eq_true rfl) rfl (by decide +kernel) inX6_pass_X6 lkX6_pass_77 dX6_pass_48 ?_
      refine j_aload_n Z dX6_pass_51 0 rfl ?_
      refine j_get Z 31 (by decide) rfl rfl 1 (by decide) rfl inX6_pass_X6 lkX6_pass_77 dX6_pass_52 ?_
      refine j_eq (y := ((μ 31 1) + x)) (by rw [gU_s, upd_s]) ?_
      exact hR _ _ _ _ _ _ (⟨by rw [if_pos hv], by rw [if_pos hv]⟩) (by decide) (by decide) dX6_pass_55
    · skip
      have f36 := zB_1 h36
      have hv := dec_ne1 f36
      refine j_iconst Z (v := 0) dX6_pass_39 (by decide) ?_
      exact hR _ _ _ _ _ _ (⟨(if_neg hv).symm, (if_neg hv).symm⟩) (by decide) (by decide) dX6_pass_40
  refine j_aload_n Z dX6_pass_0 0 rfl ?_
  refine j_iload_n Z dX6_pass_1 1 rfl ?_
  refine j_iconst Z (v := 1) dX6_pass_2 (by decide) ?_
  refine j_sipush Z (v := 1000) dX6_pass_3 (by decide) ?_
  refine j_callSi Z (As := [.int x, .int 1, .int 1000]) (rest := [.ref (g.2.1 31)]) (nA := 3) (c_X6_in l g μ x 1 1000) gX6_pass_X6_in rfl rfl rfl (by decide +kernel) (by decide) rfl dX6_pass_6 rfl (Nat.le_of_ble_eq_true rfl) (by decide) (fun r9 μ9 hp => ?_)
  have hq : r9 = zB (inB x 1 1000) ∧ μ9 = μ := hp
  refine j_mem hq.2 ?_
  refine j_eq hq.1 ?_
  clear hq hp
  refine j_if_ne Z 16 dX6_pass_9 (by decide) (fun h9 => ?_) (fun h9 => ?_)
  · skip
    have f9 := zB_1 h9
    refine j_aload_n Z dX6_pass_16 0 rfl ?_
    refine j_get Z 31 (by decide) rfl rfl 1 (by decide) rfl inX6_pass_X6 lkX6_pass_77 dX6_pass_17 ?_
    refine j_iload_n Z dX6_pass_20 1 rfl ?_
    refine j_iadd Z dX6_pass_21 ?_
    refine j_sipush Z (v := 9999) dX6_pass_22 (by decide) ?_
    refine j_icmp_le Z 32 dX6_pass_25 (by decide) (fun h25 => ?_) (fun h25 => ?_)
    · skip
      refine j_iconst Z (v := 0) dX6_pass_32 (by decide) ?_
      refine j_sub [0, 1] rfl ?_
      exact j_eq (by rw [ev]; simp [k2, f9, h25]) jp33
    · skip
      refine j_iconst Z (v := 2) dX6_pass_28 (by decide) ?_
      refine j_goto Z 33 dX6_pass_29 (by decide) ?_
      refine j_sub [0, 1] rfl ?_
      exact j_eq (by rw [ev]; simp [k2, f9, h25]) jp33
  · skip
    have f9 := zB_0.mp h9
    refine j_iconst Z (v := 1) dX6_pass_12 (by decide) ?_
    refine j_goto Z 33 dX6_pass_13 (by decide) ?_
    refine j_sub [0, 1] rfl ?_
    exact j_eq (by rw [ev]; simp [k2, f9]) jp33
theorem lkX6_today_66 : Cond.fieldLink RX6 66 (TX6 0).1 (TX6 0).2.1 (TX6 0).2.2.1 ∈ wsX6_today := by decide +kernel
theorem inX6_today_X6 : ∀ w ∈ u_ws RX6 TX6 23, w ∈ wsX6_today := by decide +kernel
theorem lkX6_today_77 : Cond.fieldLink RX6 77 (TX6 1).1 (TX6 1).2.1 (TX6 1).2.2.1 ∈ wsX6_today := by decide +kernel
set_option maxRecDepth 100000 in
set_option maxHeartbeats 4000000 in
theorem c_X6_today (l : Launch) (g : gC) (μ : gM)  : Met l yX6_today wsX6_today { frames := 0, cells := 0, slots := 0, locals := 0 } (va_Pc [.ref (g.2.1 31)] (gB g μ)) (va_Qi (fun (r : Int32) (μ' : gM) => r = μ 31 1 ∧ μ' = gU μ 31 0 0) (gPB g) (gA g)) 0 0 (gA g) := by
  refine g_ofI (cc := cX6_today) (nL := 1) (ret := (some .int)) (ty := .int) (by decide +kernel) rfl rfl (fun _ _ _ => rfl) (Nat.le_of_ble_eq_true rfl) ?_
  intro p e s m args below meth c Q Z hR
  refine j_aload_n Z dX6_today_0 0 rfl ?_
  refine j_iconst Z (v := 0) dX6_today_1 (by decide) ?_
  refine j_put Z 31 (by decide) (fun _ => rfl) rfl tyX6 tyX6_ok nmX6 0 (by decide) rfl (Nat.le_of_ble_eq_true rfl) rfl (by decide +kernel) inX6_today_X6 lkX6_today_66 dX6_today_2 ?_
  refine j_aload_n Z dX6_today_5 0 rfl ?_
  refine j_get Z 31 (by decide) rfl rfl 1 (by decide) rfl inX6_today_X6 lkX6_today_77 dX6_today_6 ?_
  refine j_eq (y := μ 31 1) (by rw [gU_s, upd_n (i := 0) (j := 1) (by decide)]) ?_
  exact hR _ _ _ _ _ _ (⟨rfl, rfl⟩) (by decide) (by decide) dX6_today_9
theorem lkX6_setTerm_7 : Cond.fieldLink RX6 7 (TX6 2).1 (TX6 2).2.1 (TX6 2).2.2.1 ∈ wsX6_setTerm := by decide +kernel
theorem inX6_setTerm_X6 : ∀ w ∈ u_ws RX6 TX6 23, w ∈ wsX6_setTerm := by decide +kernel
set_option maxRecDepth 100000 in
set_option maxHeartbeats 4000000 in
theorem c_X6_setTerm (l : Launch) (g : gC) (μ : gM) (cnt lc wc : Nat) (pl : Nat → Nat) (hV : mV μ cnt lc wc pl) (x y : Int32) (v : Int32) (ev : v = k1 (inB x 0 3 && inB y 1 999)) : Met l yX6_setTerm wsX6_setTerm { frames := 1, cells := 0, slots := 0, locals := 22 } (va_Pc [.ref (g.2.1 31), .int x, .int y] (gB g μ)) (va_Qi (fun (r : Int32) (μ' : gM) => r = (if v = 0 then μ 32 (ix x) else 0) ∧ μ' = (if v = 0 then gU (gU μ 31 0 v) 32 (ix x) y else gU μ 31 0 v)) (gPB g) (gA g)) 0 0 (gA g) := by
  refine g_ofI (cc := cX6_setTerm) (nL := 4) (ret := (some .int)) (ty := .int) (by decide +kernel) rfl rfl (fun _ _ _ => rfl) (Nat.le_of_ble_eq_true rfl) ?_
  intro p e s m args below meth c Q Z hR
  obtain ⟨hcnt, mc, hlc, ml, hwc, mw, ms, m1, m2, m12, mm, ma, mt, mp, md⟩ := hV
  refine j_aload_n Z dX6_setTerm_0 0 rfl ?_
  have jp26 : J p l e { frames := 1, cells := 0, slots := 0, locals := 22 } s m args below meth c Q g 4 μ (0) (0) 26 [(0, .ref (g.2.1 31)), (1, .int x), (2, .int y)] [.int v, .ref (g.2.1 31)] := by
    refine j_callVi Z (As := [.int v]) (rest := []) (nA := 1) 31 (by decide) rfl rfl (c_X6_refused l g μ v) gX6_setTerm_X6_refused rfl rfl rfl (by decide +kernel) (by decide) rfl dX6_setTerm_26 rfl (Nat.le_of_ble_eq_true rfl) (by decide) (fun r9 μ9 hp => ?_)
    have hq : r9 = zB (decide (¬ v = 0)) ∧ μ9 = (gU μ 31 0 v) := hp
    refine j_mem hq.2 ?_
    refine j_eq hq.1 ?_
    clear hq hp
    refine j_if_eq Z 34 dX6_setTerm_29 (by decide) (fun h29 => ?_) (fun h29 => ?_)
    · skip
      have f29 := zB_0.mp h29
      have hv := dec_ne f29
      have hk := k1_z (ev.symm.trans hv)
      simp only [Bool.and_eq_true] at hk
      obtain ⟨ex, lx⟩ := vp_ix (inB_vp hk.1 (N := 4) rfl) (by decide)
      refine j_aload_n Z dX6_setTerm_34 0 rfl ?_
      refine j_get Z 31 (by decide) rfl rfl 2 (by decide) rfl inX6_setTerm_X6 lkX6_setTerm_7 dX6_setTerm_35 ?_
      refine j_iload_n Z dX6_setTerm_38 1 rfl ?_
      refine j_eq ex ?_
      refine j_ild Z 32 (by decide) (fun _ => rfl) (ix x) rfl (by omega) (by decide) dX6_setTerm_39 ?_
      refine j_eq (y := μ 32 (ix x)) (by rw [gU_n (k := 31) (j := 32) (by omega)]) ?_
      refine j_istore_n Z dX6_setTerm_40 (by decide) [(3, .int (μ 32 (ix x))), (0, .ref (g.2.1 31)), (1, .int x), (2, .int y)] rfl ?_
      refine j_aload_n Z dX6_setTerm_41 1 rfl ?_
      refine j_get Z 31 (by decide) rfl rfl 2 (by decide) rfl inX6_setTerm_X6 lkX6_setTerm_7 dX6_setTerm_42 ?_
      refine j_iload_n Z dX6_setTerm_45 2 rfl ?_
      refine j_eq ex ?_
      refine j_iload_n Z dX6_setTerm_46 3 rfl ?_
      refine j_ist Z 32 (by decide) (fun _ => rfl) (ix x) rfl (by omega) (by decide)  dX6_setTerm_47 ?_
      refine j_iload_n Z dX6_setTerm_48 0 rfl ?_
      exact hR _ _ _ _ _ _ (⟨by rw [if_pos hv], by rw [if_pos hv]⟩) (by decide) (by decide) dX6_setTerm_49
    · skip
      have f29 := zB_1 h29
      have hv := dec_ne1 f29
      refine j_iconst Z (v := 0) dX6_setTerm_32 (by decide) ?_
      exact hR _ _ _ _ _ _ (⟨(if_neg hv).symm, (if_neg hv).symm⟩) (by decide) (by decide) dX6_setTerm_33
  refine j_iload_n Z dX6_setTerm_1 1 rfl ?_
  refine j_iconst Z (v := 0) dX6_setTerm_2 (by decide) ?_
  refine j_iconst Z (v := 3) dX6_setTerm_3 (by decide) ?_
  refine j_callSi Z (As := [.int x, .int 0, .int 3]) (rest := [.ref (g.2.1 31)]) (nA := 3) (c_X6_in l g μ x 0 3) gX6_setTerm_X6_in rfl rfl rfl (by decide +kernel) (by decide) rfl dX6_setTerm_4 rfl (Nat.le_of_ble_eq_true rfl) (by decide) (fun r9 μ9 hp => ?_)
  have hq : r9 = zB (inB x 0 3) ∧ μ9 = μ := hp
  refine j_mem hq.2 ?_
  refine j_eq hq.1 ?_
  clear hq hp
  refine j_if_eq Z 25 dX6_setTerm_7 (by decide) (fun h7 => ?_) (fun h7 => ?_)
  · skip
    have f7 := zB_0.mp h7
    refine j_iconst Z (v := 1) dX6_setTerm_25 (by decide) ?_
    refine j_sub [0, 1, 2] rfl ?_
    exact j_eq (by rw [ev]; simp [k1, f7]) jp26
  · skip
    have f7 := zB_1 h7
    refine j_iload_n Z dX6_setTerm_10 2 rfl ?_
    refine j_iconst Z (v := 1) dX6_setTerm_11 (by decide) ?_
    refine j_sipush Z (v := 999) dX6_setTerm_12 (by decide) ?_
    refine j_callSi Z (As := [.int y, .int 1, .int 999]) (rest := [.ref (g.2.1 31)]) (nA := 3) (c_X6_in l g μ y 1 999) gX6_setTerm_X6_in rfl rfl rfl (by decide +kernel) (by decide) rfl dX6_setTerm_15 rfl (Nat.le_of_ble_eq_true rfl) (by decide) (fun r9 μ9 hp => ?_)
    have hq : r9 = zB (inB y 1 999) ∧ μ9 = μ := hp
    refine j_mem hq.2 ?_
    refine j_eq hq.1 ?_
    clear hq hp
    refine j_if_eq Z 25 dX6_setTerm_18 (by decide) (fun h18 => ?_) (fun h18 => ?_)
    · skip
      have f18 := zB_0.mp h18
      refine j_iconst Z (v := 1) dX6_setTerm_25 (by decide) ?_
      refine j_sub [0, 1, 2] rfl ?_
      exact j_eq (by rw [ev]; simp [k1, f7, f18]) jp26
    · skip
      have f18 := zB_1 h18
      refine j_iconst Z (v := 0) dX6_setTerm_21 (by decide) ?_
      refine j_goto Z 26 dX6_setTerm_22 (by decide) ?_
      refine j_sub [0, 1, 2] rfl ?_
      exact j_eq (by rw [ev]; simp [k1, f7, f18]) jp26
theorem lkX6_rankOf_13 : Cond.fieldLink RX6 13 (TX6 3).1 (TX6 3).2.1 (TX6 3).2.2.1 ∈ wsX6_rankOf := by decide +kernel
theorem inX6_rankOf_X6 : ∀ w ∈ u_ws RX6 TX6 23, w ∈ wsX6_rankOf := by decide +kernel
set_option maxRecDepth 100000 in
set_option maxHeartbeats 4000000 in
theorem c_X6_rankOf (l : Launch) (g : gC) (μ : gM) (q rk : Nat) (hp : rk < 4) (hps : μ 33 rk = nI q) (hlt : ∀ j, j < rk → ¬ μ 33 j = nI q) : Met l yX6_rankOf wsX6_rankOf { frames := 0, cells := 0, slots := 0, locals := 0 } (va_Pc [.ref (g.2.1 31), .int (nI q)] (gB g μ)) (va_Qi (fun (r : Int32) (μ' : gM) => r = nI rk ∧ μ' = μ) (gPB g) (gA g)) 0 0 (gA g) := by
  refine g_ofI (cc := cX6_rankOf) (nL := 3) (ret := (some .int)) (ty := .int) (by decide +kernel) rfl rfl (fun _ _ _ => rfl) (Nat.le_of_ble_eq_true rfl) ?_
  intro p e s m args below meth c Q Z hR
  refine j_iconst Z (v := 0) dX6_rankOf_0 (by decide) ?_
  refine j_istore_n Z dX6_rankOf_1 (by decide) [(2, .int 0), (0, .ref (g.2.1 31)), (1, .int (nI q))] rfl ?_
  have lp2 : ∀ (nlp2 i : Nat) , rk + 2 ≤ i + nlp2 → i ≤ rk → J p l e { frames := 0, cells := 0, slots := 0, locals := 0 } s m args below meth c Q g 3 μ (0) (0) 2 [(0, .ref (g.2.1 31)), (1, .int (nI q)), (2, .int (nI i))] [] := by
    intro nlp2
    induction nlp2 with
    | zero => intro i hn hg; exact absurd hn (by omega)
    | succ nlp2 ihlp2 =>
      intro i hn hg
      refine j_aload_n Z dX6_rankOf_2 0 rfl ?_
      refine j_get Z 31 (by decide) rfl rfl 3 (by decide) rfl inX6_rankOf_X6 lkX6_rankOf_13 dX6_rankOf_3 ?_
      refine j_iload_n Z dX6_rankOf_6 2 rfl ?_
      refine j_ild Z 33 (by decide) (fun _ => rfl) i rfl (by omega) (by decide) dX6_rankOf_7 ?_
      refine j_iload_n Z dX6_rankOf_8 1 rfl ?_
      refine j_icmp_eq Z 18 dX6_rankOf_9 (by decide) (fun h9 => ?_) (fun h9 => ?_)
      · skip
        have hip : i = rk := by
          rcases Nat.lt_or_ge i rk with q9 | q9
          · exact absurd h9 (hlt i q9)
          · omega
        refine j_iload_n Z dX6_rankOf_18 2 rfl ?_
        exact hR _ _ _ _ _ _ (⟨by rw [hip], rfl⟩) (by decide) (by decide) dX6_rankOf_19
      · skip
        have hlt2 : i < rk := by
          rcases Nat.lt_or_ge i rk with q9 | q9
          · exact q9
          · exact absurd (by rw [show i = rk by omega]; exact hps) h9
        refine j_iinc Z dX6_rankOf_12 2 rfl (nI_1 i) (by decide) [(2, .int (nI (i + 1))), (0, .ref (g.2.1 31)), (1, .int (nI q))] rfl ?_
        refine j_goto Z 2 dX6_rankOf_15 (by decide) ?_
        refine j_sub [1, 2, 0] rfl ?_
        exact ihlp2 (i + 1)    (by omega) (by omega)
  refine j_sub [1, 2, 0] rfl ?_
  exact lp2 (rk + 2) 0    (by omega) (by omega)
theorem lkX6_putFirst_13 : Cond.fieldLink RX6 13 (TX6 3).1 (TX6 3).2.1 (TX6 3).2.2.1 ∈ wsX6_putFirst := by decide +kernel
theorem inX6_putFirst_X6 : ∀ w ∈ u_ws RX6 TX6 23, w ∈ wsX6_putFirst := by decide +kernel
set_option maxRecDepth 100000 in
set_option maxHeartbeats 4000000 in
theorem c_X6_putFirst (l : Launch) (g : gC) (μ : gM) (cnt lc wc : Nat) (pl : Nat → Nat) (hV : mV μ cnt lc wc pl) (x : Int32) (v : Int32) (ev : v = k1 (inB x 0 3)) : Met l yX6_putFirst wsX6_putFirst { frames := 1, cells := 0, slots := 0, locals := 22 } (va_Pc [.ref (g.2.1 31), .int x] (gB g μ)) (va_Qi (fun (r : Int32) (μ' : gM) => r = (if v = 0 then nI (pl (ix x)) else 0) ∧ μ' = (if v = 0 then gR (gU μ 31 0 v) 33 (upd (oMv (pl (ix x)) (pl (ix x)) (μ 33)) 0 x) else gU μ 31 0 v)) (gPB g) (gA g)) 0 0 (gA g) := by
  refine g_ofI (cc := cX6_putFirst) (nL := 4) (ret := (some .int)) (ty := .int) (by decide +kernel) rfl rfl (fun _ _ _ => rfl) (Nat.le_of_ble_eq_true rfl) ?_
  intro p e s m args below meth c Q Z hR
  obtain ⟨hcnt, mc, hlc, ml, hwc, mw, ms, m1, m2, m12, mm, ma, mt, mp, md⟩ := hV
  refine j_aload_n Z dX6_putFirst_0 0 rfl ?_
  have jp15 : J p l e { frames := 1, cells := 0, slots := 0, locals := 22 } s m args below meth c Q g 4 μ (0) (0) 15 [(0, .ref (g.2.1 31)), (1, .int x)] [.int v, .ref (g.2.1 31)] := by
    refine j_callVi Z (As := [.int v]) (rest := []) (nA := 1) 31 (by decide) rfl rfl (c_X6_refused l g μ v) gX6_putFirst_X6_refused rfl rfl rfl (by decide +kernel) (by decide) rfl dX6_putFirst_15 rfl (Nat.le_of_ble_eq_true rfl) (by decide) (fun r9 μ9 hp => ?_)
    have hq : r9 = zB (decide (¬ v = 0)) ∧ μ9 = (gU μ 31 0 v) := hp
    refine j_mem hq.2 ?_
    refine j_eq hq.1 ?_
    clear hq hp
    refine j_if_eq Z 23 dX6_putFirst_18 (by decide) (fun h18 => ?_) (fun h18 => ?_)
    · skip
      have f18 := zB_0.mp h18
      have hv := dec_ne f18
      have hk := k1_z (ev.symm.trans hv)
      obtain ⟨ex, lx⟩ := vp_ix (inB_vp hk (N := 4) rfl) (by decide)
      refine j_aload_n Z dX6_putFirst_23 0 rfl ?_
      refine j_iload_n Z dX6_putFirst_24 1 rfl ?_
      refine j_eq ex ?_
      refine j_callVi Z (As := [.int (nI (ix x))]) (rest := []) (nA := 1) 31 (by decide) rfl rfl (c_X6_rankOf l g (gU μ 31 0 v) (ix x) (pl (ix x)) (mp (ix x) lx).1 (mp (ix x) lx).2.1 (mp (ix x) lx).2.2) gX6_putFirst_X6_rankOf rfl rfl rfl (by decide +kernel) (by decide) rfl dX6_putFirst_25 rfl (Nat.le_of_ble_eq_true rfl) (by decide) (fun r9 μ9 hp => ?_)
      have hq : r9 = nI (pl (ix x)) ∧ μ9 = (gU μ 31 0 v) := hp
      refine j_mem hq.2 ?_
      refine j_eq hq.1 ?_
      clear hq hp
      have lp := (mp (ix x) lx).1
      refine j_istore_n Z dX6_putFirst_28 (by decide) [(2, .int (nI (pl (ix x)))), (0, .ref (g.2.1 31)), (1, .int x)] rfl ?_
      refine j_iload_n Z dX6_putFirst_29 0 rfl ?_
      refine j_istore_n Z dX6_putFirst_30 (by decide) [(3, .int (nI (pl (ix x)))), (2, .int (nI (pl (ix x)))), (0, .ref (g.2.1 31)), (1, .int x)] rfl ?_
      have lp31 : ∀ (nlp31 t : Nat) (r : Nat → Int32), r = oMv (pl (ix x)) t (μ 33) → (pl (ix x)) + 2 ≤ t + nlp31 → t ≤ (pl (ix x)) → J p l e { frames := 1, cells := 0, slots := 0, locals := 22 } s m args below meth c Q g 4 (gR (gU μ 31 0 v) 33 r) (0) (0) 31 [(0, .ref (g.2.1 31)), (1, .int x), (2, .int (nI (pl (ix x)))), (3, .int (nI ((pl (ix x)) - t)))] [] := by
        intro nlp31
        induction nlp31 with
        | zero => intro t r er hn hg; exact absurd hn (by omega)
        | succ nlp31 ihlp31 =>
          intro t r er hn hg
          refine j_iload_n Z dX6_putFirst_31 3 rfl ?_
          refine j_if_le Z 55 dX6_putFirst_32 (by decide) (fun h32 => ?_) (fun h32 => ?_)
          · skip
            have hz := nI_le0 (by omega) h32
            have htp : t = pl (ix x) := by omega
            refine j_aload_n Z dX6_putFirst_55 0 rfl ?_
            refine j_get Z 31 (by decide) rfl rfl 3 (by decide) rfl inX6_putFirst_X6 lkX6_putFirst_13 dX6_putFirst_56 ?_
            refine j_iconst Z (v := 0) dX6_putFirst_59 (by decide) ?_
            refine j_iload_n Z dX6_putFirst_60 1 rfl ?_
            refine j_eq ex ?_
            refine j_ist Z 33 (by decide) (fun _ => rfl) 0 (by decide) (by decide) (by decide)  dX6_putFirst_61 ?_
            refine j_mem (μ' := (gR (gU μ 31 0 v) 33 (upd r 0 (nI (ix x))))) gU_R ?_
            refine j_iload_n Z dX6_putFirst_62 2 rfl ?_
            exact hR _ _ _ _ _ _ (⟨by rw [if_pos hv], by rw [if_pos hv]; rw [er, htp, ← ex]⟩) (by decide) (by decide) dX6_putFirst_63
          · skip
            have hlt2 : t < pl (ix x) := by
              rcases Nat.lt_or_ge t (pl (ix x)) with q9 | q9
              · exact q9
              · exact absurd (by rw [show pl (ix x) - t = 0 by omega]; decide) h32
            refine j_aload_n Z dX6_putFirst_35 0 rfl ?_
            refine j_get Z 31 (by decide) rfl rfl 3 (by decide) rfl inX6_putFirst_X6 lkX6_putFirst_13 dX6_putFirst_36 ?_
            refine j_iload_n Z dX6_putFirst_39 3 rfl ?_
            refine j_aload_n Z dX6_putFirst_40 0 rfl ?_
            refine j_get Z 31 (by decide) rfl rfl 3 (by decide) rfl inX6_putFirst_X6 lkX6_putFirst_13 dX6_putFirst_41 ?_
            refine j_iload_n Z dX6_putFirst_44 3 rfl ?_
            refine j_iconst Z (v := 1) dX6_putFirst_45 (by decide) ?_
            refine j_isub Z dX6_putFirst_46 ?_
            refine j_eq (pk_sub (a := ((pl (ix x)) - t)) (b := 1) (by omega)) ?_
            refine j_ild Z 33 (by decide) (fun _ => rfl) (((pl (ix x)) - t) - 1) rfl (by omega) (by decide) dX6_putFirst_47 ?_
            refine j_eq (y := r (((pl (ix x)) - t) - 1)) (by rw [gR_s]) ?_
            refine j_ist Z 33 (by decide) (fun _ => rfl) ((pl (ix x)) - t) rfl (by omega) (by decide)  dX6_putFirst_48 ?_
            refine j_mem (μ' := (gR (gU μ 31 0 v) 33 (upd r ((pl (ix x)) - t) (r (((pl (ix x)) - t) - 1))))) gU_R ?_
            refine j_iinc Z dX6_putFirst_49 3 rfl (nI_dn hlt2) (by decide) [(3, .int (nI ((pl (ix x)) - (t + 1)))), (0, .ref (g.2.1 31)), (1, .int x), (2, .int (nI (pl (ix x))))] rfl ?_
            refine j_goto Z 31 dX6_putFirst_52 (by decide) ?_
            refine j_sub [1, 2, 3, 0] rfl ?_
            exact ihlp31 (t + 1) (upd r ((pl (ix x)) - t) (r (((pl (ix x)) - t) - 1))) (by rw [er, oMv_at hlt2]; exact oMv_s hlt2)  (by omega) (by omega)
      refine j_sub [2, 3, 1, 0] rfl ?_
      refine j_mem (gR_id (k := 33) (r := μ 33) rfl) ?_
      exact lp31 ((pl (ix x)) + 2) 0 (μ 33) (oMv_0)  (by omega) (by omega)
    · skip
      have f18 := zB_1 h18
      have hv := dec_ne1 f18
      refine j_iconst Z (v := 0) dX6_putFirst_21 (by decide) ?_
      exact hR _ _ _ _ _ _ (⟨(if_neg hv).symm, (if_neg hv).symm⟩) (by decide) (by decide) dX6_putFirst_22
  refine j_iload_n Z dX6_putFirst_1 1 rfl ?_
  refine j_iconst Z (v := 0) dX6_putFirst_2 (by decide) ?_
  refine j_iconst Z (v := 3) dX6_putFirst_3 (by decide) ?_
  refine j_callSi Z (As := [.int x, .int 0, .int 3]) (rest := [.ref (g.2.1 31)]) (nA := 3) (c_X6_in l g μ x 0 3) gX6_putFirst_X6_in rfl rfl rfl (by decide +kernel) (by decide) rfl dX6_putFirst_4 rfl (Nat.le_of_ble_eq_true rfl) (by decide) (fun r9 μ9 hp => ?_)
  have hq : r9 = zB (inB x 0 3) ∧ μ9 = μ := hp
  refine j_mem hq.2 ?_
  refine j_eq hq.1 ?_
  clear hq hp
  refine j_if_eq Z 14 dX6_putFirst_7 (by decide) (fun h7 => ?_) (fun h7 => ?_)
  · skip
    have f7 := zB_0.mp h7
    refine j_iconst Z (v := 1) dX6_putFirst_14 (by decide) ?_
    refine j_sub [0, 1] rfl ?_
    exact j_eq (by rw [ev]; simp [k1, f7]) jp15
  · skip
    have f7 := zB_1 h7
    refine j_iconst Z (v := 0) dX6_putFirst_10 (by decide) ?_
    refine j_goto Z 15 dX6_putFirst_11 (by decide) ?_
    refine j_sub [0, 1] rfl ?_
    exact j_eq (by rw [ev]; simp [k1, f7]) jp15
theorem lkX6_find_70 : Cond.fieldLink RX6 70 (TX6 4).1 (TX6 4).2.1 (TX6 4).2.2.1 ∈ wsX6_find := by decide +kernel
theorem inX6_find_X6 : ∀ w ∈ u_ws RX6 TX6 23, w ∈ wsX6_find := by decide +kernel
theorem lkX6_find_16 : Cond.fieldLink RX6 16 (TX6 5).1 (TX6 5).2.1 (TX6 5).2.2.1 ∈ wsX6_find := by decide +kernel
theorem lkX6_find_19 : Cond.fieldLink RX6 19 (TX6 6).1 (TX6 6).2.1 (TX6 6).2.2.1 ∈ wsX6_find := by decide +kernel
theorem lkX6_find_77 : Cond.fieldLink RX6 77 (TX6 1).1 (TX6 1).2.1 (TX6 1).2.2.1 ∈ wsX6_find := by decide +kernel
theorem lkX6_find_22 : Cond.fieldLink RX6 22 (TX6 7).1 (TX6 7).2.1 (TX6 7).2.2.1 ∈ wsX6_find := by decide +kernel
theorem lkX6_find_25 : Cond.fieldLink RX6 25 (TX6 8).1 (TX6 8).2.1 (TX6 8).2.2.1 ∈ wsX6_find := by decide +kernel
set_option maxRecDepth 100000 in
set_option maxHeartbeats 4000000 in
theorem c_X6_find (l : Launch) (g : gC) (μ : gM) (cnt lc wc : Nat) (pl : Nat → Nat) (hV : mV μ cnt lc wc pl) (a1 a2 a3 a4 a5 a6 : Int32) (v : Int32) (ev : v = k2 (inB a1 0 3 && inB a2 0 99 && inB a3 0 99 && inB a4 0 99 && inB a5 (-1) 99 && inB a6 (-1) 99) (decide (cnt < 60))) : Met l yX6_find wsX6_find { frames := 1, cells := 0, slots := 0, locals := 22 } (va_Pc [.ref (g.2.1 31), .int a1, .int a2, .int a3, .int a4, .int a5, .int a6] (gB g μ)) (va_Qi (fun (r : Int32) (μ' : gM) => r = (if v = 0 then nI cnt else 0) ∧ μ' = (if v = 0 then (gU (gU (gU (gU (gU (gU (gU (gU (gU μ 31 0 v) 34 cnt a1) 35 cnt (μ 31 1)) 36 (3 * cnt) a2) 36 ((3 * cnt) + 1) a3) 36 ((3 * cnt) + 2) a4) 37 (2 * cnt) a5) 37 ((2 * cnt) + 1) a6) 31 4 (nI (cnt + 1))) else gU μ 31 0 v)) (gPB g) (gA g)) 0 0 (gA g) := by
  refine g_ofI (cc := cX6_find) (nL := 8) (ret := (some .int)) (ty := .int) (by decide +kernel) rfl rfl (fun _ _ _ => rfl) (Nat.le_of_ble_eq_true rfl) ?_
  intro p e s m args below meth c Q Z hR
  obtain ⟨hcnt, mc, hlc, ml, hwc, mw, ms, m1, m2, m12, mm, ma, mt, mp, md⟩ := hV
  have jp67 : J p l e { frames := 1, cells := 0, slots := 0, locals := 22 } s m args below meth c Q g 8 μ (0) (0) 67 [(0, .ref (g.2.1 31)), (1, .int a1), (2, .int a2), (3, .int a3), (4, .int a4), (5, .int a5), (6, .int a6)] [.int (zB (inB a1 0 3 && inB a2 0 99 && inB a3 0 99 && inB a4 0 99 && inB a5 (-1) 99 && inB a6 (-1) 99))] := by
    refine j_istore Z dX6_find_67 (by decide) [(7, .int (zB (inB a1 0 3 && inB a2 0 99 && inB a3 0 99 && inB a4 0 99 && inB a5 (-1) 99 && inB a6 (-1) 99))), (0, .ref (g.2.1 31)), (1, .int a1), (2, .int a2), (3, .int a3), (4, .int a4), (5, .int a5), (6, .int a6)] rfl ?_
    have jp93 : J p l e { frames := 1, cells := 0, slots := 0, locals := 22 } s m args below meth c Q g 8 μ (0) (0) 93 [(7, .int (zB (inB a1 0 3 && inB a2 0 99 && inB a3 0 99 && inB a4 0 99 && inB a5 (-1) 99 && inB a6 (-1) 99))), (0, .ref (g.2.1 31)), (1, .int a1), (2, .int a2), (3, .int a3), (4, .int a4), (5, .int a5), (6, .int a6)] [.int v, .ref (g.2.1 31)] := by
      refine j_callVi Z (As := [.int v]) (rest := []) (nA := 1) 31 (by decide) rfl rfl (c_X6_refused l g μ v) gX6_find_X6_refused rfl rfl rfl (by decide +kernel) (by decide) rfl dX6_find_93 rfl (Nat.le_of_ble_eq_true rfl) (by decide) (fun r9 μ9 hp => ?_)
      have hq : r9 = zB (decide (¬ v = 0)) ∧ μ9 = (gU μ 31 0 v) := hp
      refine j_mem hq.2 ?_
      refine j_eq hq.1 ?_
      clear hq hp
      refine j_if_eq Z 101 dX6_find_96 (by decide) (fun h96 => ?_) (fun h96 => ?_)
      · skip
        have f96 := zB_0.mp h96
        have hv := dec_ne f96
        have hk := k2_z (ev.symm.trans hv)
        have lcnt : cnt < 60 := of_decide_eq_true hk.2
        refine j_aload_n Z dX6_find_101 1 rfl ?_
        refine j_get Z 31 (by decide) rfl rfl 5 (by decide) rfl inX6_find_X6 lkX6_find_16 dX6_find_102 ?_
        refine j_aload_n Z dX6_find_105 1 rfl ?_
        refine j_get Z 31 (by decide) rfl rfl 4 (by decide) rfl inX6_find_X6 lkX6_find_70 dX6_find_106 ?_
        refine j_eq (y := μ 31 4) (by rw [gU_s, upd_n (i := 0) (j := 4) (by decide)]) ?_
        refine j_eq mc ?_
        refine j_iload_n Z dX6_find_109 2 rfl ?_
        refine j_ist Z 34 (by decide) (fun _ => rfl) cnt rfl (by omega) (by decide)  dX6_find_110 ?_
        refine j_aload_n Z dX6_find_111 1 rfl ?_
        refine j_get Z 31 (by decide) rfl rfl 6 (by decide) rfl inX6_find_X6 lkX6_find_19 dX6_find_112 ?_
        refine j_aload_n Z dX6_find_115 1 rfl ?_
        refine j_get Z 31 (by decide) rfl rfl 4 (by decide) rfl inX6_find_X6 lkX6_find_70 dX6_find_116 ?_
        refine j_eq (y := μ 31 4) (by rw [gU_n (k := 34) (j := 31) (by omega), gU_s, upd_n (i := 0) (j := 4) (by decide)]) ?_
        refine j_eq mc ?_
        refine j_aload_n Z dX6_find_119 1 rfl ?_
        refine j_get Z 31 (by decide) rfl rfl 1 (by decide) rfl inX6_find_X6 lkX6_find_77 dX6_find_120 ?_
        refine j_eq (y := μ 31 1) (by rw [gU_n (k := 34) (j := 31) (by omega), gU_s, upd_n (i := 0) (j := 1) (by decide)]) ?_
        refine j_ist Z 35 (by decide) (fun _ => rfl) cnt rfl (by omega) (by decide)  dX6_find_123 ?_
        refine j_aload_n Z dX6_find_124 1 rfl ?_
        refine j_get Z 31 (by decide) rfl rfl 7 (by decide) rfl inX6_find_X6 lkX6_find_22 dX6_find_125 ?_
        refine j_iconst Z (v := 3) dX6_find_128 (by decide) ?_
        refine j_aload_n Z dX6_find_129 1 rfl ?_
        refine j_get Z 31 (by decide) rfl rfl 4 (by decide) rfl inX6_find_X6 lkX6_find_70 dX6_find_130 ?_
        refine j_eq (y := μ 31 4) (by rw [gU_n (k := 35) (j := 31) (by omega), gU_n (k := 34) (j := 31) (by omega), gU_s, upd_n (i := 0) (j := 4) (by decide)]) ?_
        refine j_eq mc ?_
        refine j_imul Z dX6_find_133 ?_
        refine j_eq (pk_mul 3 cnt) ?_
        refine j_iload_n Z dX6_find_134 3 rfl ?_
        refine j_ist Z 36 (by decide) (fun _ => rfl) (3 * cnt) rfl (by omega) (by decide)  dX6_find_135 ?_
        refine j_aload_n Z dX6_find_136 1 rfl ?_
        refine j_get Z 31 (by decide) rfl rfl 7 (by decide) rfl inX6_find_X6 lkX6_find_22 dX6_find_137 ?_
        refine j_iconst Z (v := 3) dX6_find_140 (by decide) ?_
        refine j_aload_n Z dX6_find_141 1 rfl ?_
        refine j_get Z 31 (by decide) rfl rfl 4 (by decide) rfl inX6_find_X6 lkX6_find_70 dX6_find_142 ?_
        refine j_eq (y := μ 31 4) (by rw [gU_n (k := 36) (j := 31) (by omega), gU_n (k := 35) (j := 31) (by omega), gU_n (k := 34) (j := 31) (by omega), gU_s, upd_n (i := 0) (j := 4) (by decide)]) ?_
        refine j_eq mc ?_
        refine j_imul Z dX6_find_145 ?_
        refine j_eq (pk_mul 3 cnt) ?_
        refine j_iconst Z (v := 1) dX6_find_146 (by decide) ?_
        refine j_iadd Z dX6_find_147 ?_
        refine j_eq (nI_add (3 * cnt) 1) ?_
        refine j_iload_n Z dX6_find_148 4 rfl ?_
        refine j_ist Z 36 (by decide) (fun _ => rfl) ((3 * cnt) + 1) rfl (by omega) (by decide)  dX6_find_149 ?_
        refine j_aload_n Z dX6_find_150 1 rfl ?_
        refine j_get Z 31 (by decide) rfl rfl 7 (by decide) rfl inX6_find_X6 lkX6_find_22 dX6_find_151 ?_
        refine j_iconst Z (v := 3) dX6_find_154 (by decide) ?_
        refine j_aload_n Z dX6_find_155 1 rfl ?_
        refine j_get Z 31 (by decide) rfl rfl 4 (by decide) rfl inX6_find_X6 lkX6_find_70 dX6_find_156 ?_
        refine j_eq (y := μ 31 4) (by rw [gU_n (k := 36) (j := 31) (by omega), gU_n (k := 36) (j := 31) (by omega), gU_n (k := 35) (j := 31) (by omega), gU_n (k := 34) (j := 31) (by omega), gU_s, upd_n (i := 0) (j := 4) (by decide)]) ?_
        refine j_eq mc ?_
        refine j_imul Z dX6_find_159 ?_
        refine j_eq (pk_mul 3 cnt) ?_
        refine j_iconst Z (v := 2) dX6_find_160 (by decide) ?_
        refine j_iadd Z dX6_find_161 ?_
        refine j_eq (nI_add (3 * cnt) 2) ?_
        refine j_iload Z dX6_find_162 5 rfl ?_
        refine j_ist Z 36 (by decide) (fun _ => rfl) ((3 * cnt) + 2) rfl (by omega) (by decide)  dX6_find_164 ?_
        refine j_aload_n Z dX6_find_165 1 rfl ?_
        refine j_get Z 31 (by decide) rfl rfl 8 (by decide) rfl inX6_find_X6 lkX6_find_25 dX6_find_166 ?_
        refine j_iconst Z (v := 2) dX6_find_169 (by decide) ?_
        refine j_aload_n Z dX6_find_170 1 rfl ?_
        refine j_get Z 31 (by decide) rfl rfl 4 (by decide) rfl inX6_find_X6 lkX6_find_70 dX6_find_171 ?_
        refine j_eq (y := μ 31 4) (by rw [gU_n (k := 36) (j := 31) (by omega), gU_n (k := 36) (j := 31) (by omega), gU_n (k := 36) (j := 31) (by omega), gU_n (k := 35) (j := 31) (by omega), gU_n (k := 34) (j := 31) (by omega), gU_s, upd_n (i := 0) (j := 4) (by decide)]) ?_
        refine j_eq mc ?_
        refine j_imul Z dX6_find_174 ?_
        refine j_eq (pk_mul 2 cnt) ?_
        refine j_iload Z dX6_find_175 6 rfl ?_
        refine j_ist Z 37 (by decide) (fun _ => rfl) (2 * cnt) rfl (by omega) (by decide)  dX6_find_177 ?_
        refine j_aload_n Z dX6_find_178 1 rfl ?_
        refine j_get Z 31 (by decide) rfl rfl 8 (by decide) rfl inX6_find_X6 lkX6_find_25 dX6_find_179 ?_
        refine j_iconst Z (v := 2) dX6_find_182 (by decide) ?_
        refine j_aload_n Z dX6_find_183 1 rfl ?_
        refine j_get Z 31 (by decide) rfl rfl 4 (by decide) rfl inX6_find_X6 lkX6_find_70 dX6_find_184 ?_
        refine j_eq (y := μ 31 4) (by rw [gU_n (k := 37) (j := 31) (by omega), gU_n (k := 36) (j := 31) (by omega), gU_n (k := 36) (j := 31) (by omega), gU_n (k := 36) (j := 31) (by omega), gU_n (k := 35) (j := 31) (by omega), gU_n (k := 34) (j := 31) (by omega), gU_s, upd_n (i := 0) (j := 4) (by decide)]) ?_
        refine j_eq mc ?_
        refine j_imul Z dX6_find_187 ?_
        refine j_eq (pk_mul 2 cnt) ?_
        refine j_iconst Z (v := 1) dX6_find_188 (by decide) ?_
        refine j_iadd Z dX6_find_189 ?_
        refine j_eq (nI_add (2 * cnt) 1) ?_
        refine j_iload Z dX6_find_190 7 rfl ?_
        refine j_ist Z 37 (by decide) (fun _ => rfl) ((2 * cnt) + 1) rfl (by omega) (by decide)  dX6_find_192 ?_
        refine j_aload_n Z dX6_find_193 1 rfl ?_
        refine j_dup Z dX6_find_194 rfl ?_
        refine j_get Z 31 (by decide) rfl rfl 4 (by decide) rfl inX6_find_X6 lkX6_find_70 dX6_find_195 ?_
        refine j_eq (y := μ 31 4) (by rw [gU_n (k := 37) (j := 31) (by omega), gU_n (k := 37) (j := 31) (by omega), gU_n (k := 36) (j := 31) (by omega), gU_n (k := 36) (j := 31) (by omega), gU_n (k := 36) (j := 31) (by omega), gU_n (k := 35) (j := 31) (by omega), gU_n (k := 34) (j := 31) (by omega), gU_s, upd_n (i := 0) (j := 4) (by decide)]) ?_
        refine j_eq mc ?_
        refine j_iconst Z (v := 1) dX6_find_198 (by decide) ?_
        refine j_iadd Z dX6_find_199 ?_
        refine j_eq (nI_add cnt 1) ?_
        refine j_put Z 31 (by decide) (fun _ => rfl) rfl tyX6 tyX6_ok nmX6 4 (by decide) rfl (Nat.le_of_ble_eq_true rfl) rfl (by decide +kernel) inX6_find_X6 lkX6_find_70 dX6_find_200 ?_
        refine j_aload_n Z dX6_find_203 1 rfl ?_
        refine j_get Z 31 (by decide) rfl rfl 4 (by decide) rfl inX6_find_X6 lkX6_find_70 dX6_find_204 ?_
        refine j_eq (y := (nI (cnt + 1))) (by rw [gU_s, upd_s]) ?_
        refine j_iconst Z (v := 1) dX6_find_207 (by decide) ?_
        refine j_isub Z dX6_find_208 ?_
        exact hR _ _ _ _ _ _ (⟨by rw [if_pos hv]; rw [nI_pred], by rw [if_pos hv]⟩) (by decide) (by decide) dX6_find_209
      · skip
        have f96 := zB_1 h96
        have hv := dec_ne1 f96
        refine j_iconst Z (v := 0) dX6_find_99 (by decide) ?_
        exact hR _ _ _ _ _ _ (⟨(if_neg hv).symm, (if_neg hv).symm⟩) (by decide) (by decide) dX6_find_100
    refine j_aload_n Z dX6_find_69 1 rfl ?_
    refine j_iload Z dX6_find_70 0 rfl ?_
    refine j_if_ne Z 79 dX6_find_72 (by decide) (fun h72 => ?_) (fun h72 => ?_)
    · skip
      have f72 := zB_1 h72
      refine j_aload_n Z dX6_find_79 1 rfl ?_
      refine j_get Z 31 (by decide) rfl rfl 4 (by decide) rfl inX6_find_X6 lkX6_find_70 dX6_find_80 ?_
      refine j_eq mc ?_
      refine j_bipush Z (v := 60) dX6_find_83 (by decide) ?_
      refine j_icmp_ne Z 92 dX6_find_85 (by decide) (fun h85 => ?_) (fun h85 => ?_)
      · skip
        have lcnt : cnt < 60 := by
          rcases Nat.lt_or_ge cnt 60 with q9 | q9
          · exact q9
          · exact absurd (show nI cnt = nI 60 by rw [show cnt = 60 by omega]) h85
        refine j_iconst Z (v := 0) dX6_find_92 (by decide) ?_
        refine j_sub [0, 1, 2, 3, 4, 5, 6, 7] rfl ?_
        exact j_eq (by rw [ev]; simp [k2, f72, lcnt]) jp93
      · skip
        have lcnt : ¬ cnt < 60 := by
          have q9 := (nI_eq (a := cnt) (b := 60) (by omega) (by decide)).mp h85
          omega
        refine j_iconst Z (v := 2) dX6_find_88 (by decide) ?_
        refine j_goto Z 93 dX6_find_89 (by decide) ?_
        refine j_sub [0, 1, 2, 3, 4, 5, 6, 7] rfl ?_
        exact j_eq (by rw [ev]; simp [k2, f72, lcnt]) jp93
    · skip
      have f72 := zB_0.mp h72
      refine j_iconst Z (v := 1) dX6_find_75 (by decide) ?_
      refine j_goto Z 93 dX6_find_76 (by decide) ?_
      refine j_sub [0, 1, 2, 3, 4, 5, 6, 7] rfl ?_
      exact j_eq (by rw [ev]; simp [k2, f72]) jp93
  refine j_iload_n Z dX6_find_0 1 rfl ?_
  refine j_iconst Z (v := 0) dX6_find_1 (by decide) ?_
  refine j_iconst Z (v := 3) dX6_find_2 (by decide) ?_
  refine j_callSi Z (As := [.int a1, .int 0, .int 3]) (rest := []) (nA := 3) (c_X6_in l g μ a1 0 3) gX6_find_X6_in rfl rfl rfl (by decide +kernel) (by decide) rfl dX6_find_3 rfl (Nat.le_of_ble_eq_true rfl) (by decide) (fun r9 μ9 hp => ?_)
  have hq : r9 = zB (inB a1 0 3) ∧ μ9 = μ := hp
  refine j_mem hq.2 ?_
  refine j_eq hq.1 ?_
  clear hq hp
  refine j_if_eq Z 66 dX6_find_6 (by decide) (fun h6 => ?_) (fun h6 => ?_)
  · skip
    have f6 := zB_0.mp h6
    refine j_iconst Z (v := 0) dX6_find_66 (by decide) ?_
    refine j_sub [0, 1, 2, 3, 4, 5, 6] rfl ?_
    exact j_eq (by simp [zB, f6]) jp67
  · skip
    have f6 := zB_1 h6
    refine j_iload_n Z dX6_find_9 2 rfl ?_
    refine j_iconst Z (v := 0) dX6_find_10 (by decide) ?_
    refine j_bipush Z (v := 99) dX6_find_11 (by decide) ?_
    refine j_callSi Z (As := [.int a2, .int 0, .int 99]) (rest := []) (nA := 3) (c_X6_in l g μ a2 0 99) gX6_find_X6_in rfl rfl rfl (by decide +kernel) (by decide) rfl dX6_find_13 rfl (Nat.le_of_ble_eq_true rfl) (by decide) (fun r9 μ9 hp => ?_)
    have hq : r9 = zB (inB a2 0 99) ∧ μ9 = μ := hp
    refine j_mem hq.2 ?_
    refine j_eq hq.1 ?_
    clear hq hp
    refine j_if_eq Z 66 dX6_find_16 (by decide) (fun h16 => ?_) (fun h16 => ?_)
    · skip
      have f16 := zB_0.mp h16
      refine j_iconst Z (v := 0) dX6_find_66 (by decide) ?_
      refine j_sub [0, 1, 2, 3, 4, 5, 6] rfl ?_
      exact j_eq (by simp [zB, f6, f16]) jp67
    · skip
      have f16 := zB_1 h16
      refine j_iload_n Z dX6_find_19 3 rfl ?_
      refine j_iconst Z (v := 0) dX6_find_20 (by decide) ?_
      refine j_bipush Z (v := 99) dX6_find_21 (by decide) ?_
      refine j_callSi Z (As := [.int a3, .int 0, .int 99]) (rest := []) (nA := 3) (c_X6_in l g μ a3 0 99) gX6_find_X6_in rfl rfl rfl (by decide +kernel) (by decide) rfl dX6_find_23 rfl (Nat.le_of_ble_eq_true rfl) (by decide) (fun r9 μ9 hp => ?_)
      have hq : r9 = zB (inB a3 0 99) ∧ μ9 = μ := hp
      refine j_mem hq.2 ?_
      refine j_eq hq.1 ?_
      clear hq hp
      refine j_if_eq Z 66 dX6_find_26 (by decide) (fun h26 => ?_) (fun h26 => ?_)
      · skip
        have f26 := zB_0.mp h26
        refine j_iconst Z (v := 0) dX6_find_66 (by decide) ?_
        refine j_sub [0, 1, 2, 3, 4, 5, 6] rfl ?_
        exact j_eq (by simp [zB, f6, f16, f26]) jp67
      · skip
        have f26 := zB_1 h26
        refine j_iload Z dX6_find_29 4 rfl ?_
        refine j_iconst Z (v := 0) dX6_find_31 (by decide) ?_
        refine j_bipush Z (v := 99) dX6_find_32 (by decide) ?_
        refine j_callSi Z (As := [.int a4, .int 0, .int 99]) (rest := []) (nA := 3) (c_X6_in l g μ a4 0 99) gX6_find_X6_in rfl rfl rfl (by decide +kernel) (by decide) rfl dX6_find_34 rfl (Nat.le_of_ble_eq_true rfl) (by decide) (fun r9 μ9 hp => ?_)
        have hq : r9 = zB (inB a4 0 99) ∧ μ9 = μ := hp
        refine j_mem hq.2 ?_
        refine j_eq hq.1 ?_
        clear hq hp
        refine j_if_eq Z 66 dX6_find_37 (by decide) (fun h37 => ?_) (fun h37 => ?_)
        · skip
          have f37 := zB_0.mp h37
          refine j_iconst Z (v := 0) dX6_find_66 (by decide) ?_
          refine j_sub [0, 1, 2, 3, 4, 5, 6] rfl ?_
          exact j_eq (by simp [zB, f6, f16, f26, f37]) jp67
        · skip
          have f37 := zB_1 h37
          refine j_iload Z dX6_find_40 5 rfl ?_
          refine j_iconst Z (v := -1) dX6_find_42 (by decide) ?_
          refine j_bipush Z (v := 99) dX6_find_43 (by decide) ?_
          refine j_callSi Z (As := [.int a5, .int (-1), .int 99]) (rest := []) (nA := 3) (c_X6_in l g μ a5 (-1) 99) gX6_find_X6_in rfl rfl rfl (by decide +kernel) (by decide) rfl dX6_find_45 rfl (Nat.le_of_ble_eq_true rfl) (by decide) (fun r9 μ9 hp => ?_)
          have hq : r9 = zB (inB a5 (-1) 99) ∧ μ9 = μ := hp
          refine j_mem hq.2 ?_
          refine j_eq hq.1 ?_
          clear hq hp
          refine j_if_eq Z 66 dX6_find_48 (by decide) (fun h48 => ?_) (fun h48 => ?_)
          · skip
            have f48 := zB_0.mp h48
            refine j_iconst Z (v := 0) dX6_find_66 (by decide) ?_
            refine j_sub [0, 1, 2, 3, 4, 5, 6] rfl ?_
            exact j_eq (by simp [zB, f6, f16, f26, f37, f48]) jp67
          · skip
            have f48 := zB_1 h48
            refine j_iload Z dX6_find_51 6 rfl ?_
            refine j_iconst Z (v := -1) dX6_find_53 (by decide) ?_
            refine j_bipush Z (v := 99) dX6_find_54 (by decide) ?_
            refine j_callSi Z (As := [.int a6, .int (-1), .int 99]) (rest := []) (nA := 3) (c_X6_in l g μ a6 (-1) 99) gX6_find_X6_in rfl rfl rfl (by decide +kernel) (by decide) rfl dX6_find_56 rfl (Nat.le_of_ble_eq_true rfl) (by decide) (fun r9 μ9 hp => ?_)
            have hq : r9 = zB (inB a6 (-1) 99) ∧ μ9 = μ := hp
            refine j_mem hq.2 ?_
            refine j_eq hq.1 ?_
            clear hq hp
            refine j_if_eq Z 66 dX6_find_59 (by decide) (fun h59 => ?_) (fun h59 => ?_)
            · skip
              have f59 := zB_0.mp h59
              refine j_iconst Z (v := 0) dX6_find_66 (by decide) ?_
              refine j_sub [0, 1, 2, 3, 4, 5, 6] rfl ?_
              exact j_eq (by simp [zB, f6, f16, f26, f37, f48, f59]) jp67
            · skip
              have f59 := zB_1 h59
              refine j_iconst Z (v := 1) dX6_find_62 (by decide) ?_
              refine j_goto Z 67 dX6_find_63 (by decide) ?_
              refine j_sub [0, 1, 2, 3, 4, 5, 6] rfl ?_
              exact j_eq (by simp [zB, f6, f16, f26, f37, f48, f59]) jp67
