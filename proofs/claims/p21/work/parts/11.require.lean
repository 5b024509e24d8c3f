theorem thX5_requireRange_169 : Cond.classLink RX5 169 "java/lang/IllegalArgumentException" ∈ wsX5_requireRange ∧ Cond.initialized "java/lang/IllegalArgumentException" ∈ wsX5_requireRange ∧ ∀ w ∈ (vx_atS RX5 173 "java/lang/IllegalArgumentException" gNm).filter goodWord, w ∈ wsX5_requireRange := ⟨by decide +kernel, by decide +kernel, by decide +kernel⟩
set_option maxRecDepth 100000 in
set_option maxHeartbeats 4000000 in
theorem c_X5_requireRange (l : Launch) (hst : l.stackTraces = false) (g : gC) (μ : gM) (x lo hi : Int32) : vx_Met l yX5_requireRange wsX5_requireRange { frames := 6, cells := 1, slots := 6, locals := 90 } (va_Pc [.int x, .int lo, .int hi] (gB g μ)) (va_Qv (fun μ' : gM => μ' = μ ∧ inB x lo hi = true) (gPB g) (gA g)) (gPX g (fun (E : String) (μ' : gM) => E = eA ∧ inB x lo hi = false ∧ μ' = μ)) 1 6 (gA g) := by
  refine g_oXV (cc := cX5_requireRange) (nL := 3) (ret := none) hst rfl (by decide +kernel) rfl rfl  (Nat.le_of_ble_eq_true rfl) ?_
  intro p e s m args below meth c Q Z hR hE hT
  refine j_iload_n Z dX5_requireRange_0 0 rfl ?_
  refine j_iload_n Z dX5_requireRange_1 1 rfl ?_
  refine j_icmp_lt Z 10 dX5_requireRange_2 (by decide) (fun h2 => ?_) (fun h2 => ?_)
  · skip
    exact hT "java/lang/IllegalArgumentException" "a parameter is out of range" 169 171 173 (vx_atS RX5 173 "java/lang/IllegalArgumentException" gNm) _ _ _ _ _ _ gOk_A thX5_requireRange_169 (by decide +kernel) dX5_requireRange_10 dX5_requireRange_13 dX5_requireRange_14 dX5_requireRange_16 dX5_requireRange_19 (⟨rfl, inB_f1 h2, rfl⟩) (by decide) (by decide) (by decide)
  · skip
    refine j_iload_n Z dX5_requireRange_5 0 rfl ?_
    refine j_iload_n Z dX5_requireRange_6 2 rfl ?_
    refine j_icmp_le Z 20 dX5_requireRange_7 (by decide) (fun h7 => ?_) (fun h7 => ?_)
    · skip
      exact hR _ _ _ _ _ (⟨rfl, inB_t h2 h7⟩) (by decide) (by decide) dX5_requireRange_20
    · skip
      exact hT "java/lang/IllegalArgumentException" "a parameter is out of range" 169 171 173 (vx_atS RX5 173 "java/lang/IllegalArgumentException" gNm) _ _ _ _ _ _ gOk_A thX5_requireRange_169 (by decide +kernel) dX5_requireRange_10 dX5_requireRange_13 dX5_requireRange_14 dX5_requireRange_16 dX5_requireRange_19 (⟨rfl, inB_f2 h7, rfl⟩) (by decide) (by decide) (by decide)
set_option maxRecDepth 100000 in
set_option maxHeartbeats 4000000 in
theorem c_X5_requireDay (l : Launch) (hst : l.stackTraces = false) (g : gC) (μ : gM) (x : Int32) : vx_Met l yX5_requireDay wsX5_requireDay { frames := 7, cells := 1, slots := 6, locals := 112 } (va_Pc [.int x] (gB g μ)) (va_Qv (fun μ' : gM => μ' = μ ∧ inB x 0 9999 = true) (gPB g) (gA g)) (gPX g (fun (E : String) (μ' : gM) => E = eA ∧ inB x 0 9999 = false ∧ μ' = μ)) 1 6 (gA g) := by
  refine g_oXV (cc := cX5_requireDay) (nL := 1) (ret := none) hst rfl (by decide +kernel) rfl rfl  (Nat.le_of_ble_eq_true rfl) ?_
  intro p e s m args below meth c Q Z hR hE hT
  refine j_iload_n Z dX5_requireDay_0 0 rfl ?_
  refine j_iconst Z (v := 0) dX5_requireDay_1 (by decide) ?_
  refine j_sipush Z (v := 9999) dX5_requireDay_2 (by decide) ?_
  refine j_callSxv Z (As := [.int x, .int 0, .int 9999]) (rest := []) (nA := 3) (c_X5_requireRange l hst g μ x 0 9999) gX5_requireDay_X5_requireRange rfl rfl rfl (by decide +kernel) (by decide) rfl dX5_requireDay_5 rfl (Nat.le_of_ble_eq_true rfl) (by decide) (fun E μx hx => hE _ _ _ _ _ _ _ (hx) (by decide) (by decide)) (fun μ9 hp => ?_)
  have hq : μ9 = μ ∧ inB x 0 9999 = true := hp
  refine j_mem hq.1 ?_
  have hf5 := hq.2
  clear hq hp
  exact hR _ _ _ _ _ (⟨rfl, hf5⟩) (by decide) (by decide) dX5_requireDay_8
set_option maxRecDepth 100000 in
set_option maxHeartbeats 4000000 in
theorem c_X5_requireAttribute (l : Launch) (hst : l.stackTraces = false) (g : gC) (μ : gM) (x : Int32) : vx_Met l yX5_requireAttribute wsX5_requireAttribute { frames := 7, cells := 1, slots := 6, locals := 112 } (va_Pc [.int x] (gB g μ)) (va_Qv (fun μ' : gM => μ' = μ ∧ inB x 0 1 = true) (gPB g) (gA g)) (gPX g (fun (E : String) (μ' : gM) => E = eA ∧ inB x 0 1 = false ∧ μ' = μ)) 1 6 (gA g) := by
  refine g_oXV (cc := cX5_requireAttribute) (nL := 1) (ret := none) hst rfl (by decide +kernel) rfl rfl  (Nat.le_of_ble_eq_true rfl) ?_
  intro p e s m args below meth c Q Z hR hE hT
  refine j_iload_n Z dX5_requireAttribute_0 0 rfl ?_
  refine j_iconst Z (v := 0) dX5_requireAttribute_1 (by decide) ?_
  refine j_iconst Z (v := 1) dX5_requireAttribute_2 (by decide) ?_
  refine j_callSxv Z (As := [.int x, .int 0, .int 1]) (rest := []) (nA := 3) (c_X5_requireRange l hst g μ x 0 1) gX5_requireAttribute_X5_requireRange rfl rfl rfl (by decide +kernel) (by decide) rfl dX5_requireAttribute_3 rfl (Nat.le_of_ble_eq_true rfl) (by decide) (fun E μx hx => hE _ _ _ _ _ _ _ (hx) (by decide) (by decide)) (fun μ9 hp => ?_)
  have hq : μ9 = μ ∧ inB x 0 1 = true := hp
  refine j_mem hq.1 ?_
  have hf3 := hq.2
  clear hq hp
  exact hR _ _ _ _ _ (⟨rfl, hf3⟩) (by decide) (by decide) dX5_requireAttribute_6
theorem thX5_requireUnlike_169 : Cond.classLink RX5 169 "java/lang/IllegalArgumentException" ∈ wsX5_requireUnlike ∧ Cond.initialized "java/lang/IllegalArgumentException" ∈ wsX5_requireUnlike ∧ ∀ w ∈ (vx_atS RX5 173 "java/lang/IllegalArgumentException" gNm).filter goodWord, w ∈ wsX5_requireUnlike := ⟨by decide +kernel, by decide +kernel, by decide +kernel⟩
set_option maxRecDepth 100000 in
set_option maxHeartbeats 4000000 in
theorem c_X5_requireUnlike (l : Launch) (hst : l.stackTraces = false) (g : gC) (μ : gM) (x y : Int32) : vx_Met l yX5_requireUnlike wsX5_requireUnlike { frames := 6, cells := 1, slots := 6, locals := 90 } (va_Pc [.int x, .int y] (gB g μ)) (va_Qv (fun μ' : gM => μ' = μ ∧ ¬ x = y) (gPB g) (gA g)) (gPX g (fun (E : String) (μ' : gM) => E = eA ∧ x = y ∧ μ' = μ)) 1 6 (gA g) := by
  refine g_oXV (cc := cX5_requireUnlike) (nL := 2) (ret := none) hst rfl (by decide +kernel) rfl rfl  (Nat.le_of_ble_eq_true rfl) ?_
  intro p e s m args below meth c Q Z hR hE hT
  refine j_iload_n Z dX5_requireUnlike_0 0 rfl ?_
  refine j_iload_n Z dX5_requireUnlike_1 1 rfl ?_
  refine j_icmp_ne Z 15 dX5_requireUnlike_2 (by decide) (fun h2 => ?_) (fun h2 => ?_)
  · skip
    exact hR _ _ _ _ _ (⟨rfl, h2⟩) (by decide) (by decide) dX5_requireUnlike_15
  · skip
    exact hT "java/lang/IllegalArgumentException" "both finds are the same" 169 174 173 (vx_atS RX5 173 "java/lang/IllegalArgumentException" gNm) _ _ _ _ _ _ gOk_A thX5_requireUnlike_169 (by decide +kernel) dX5_requireUnlike_5 dX5_requireUnlike_8 dX5_requireUnlike_9 dX5_requireUnlike_11 dX5_requireUnlike_14 (⟨rfl, h2, rfl⟩) (by decide) (by decide) (by decide)
theorem thX5_requireFind_157 : Cond.classLink RX5 157 "java/lang/IndexOutOfBoundsException" ∈ wsX5_requireFind ∧ Cond.initialized "java/lang/IndexOutOfBoundsException" ∈ wsX5_requireFind ∧ ∀ w ∈ (vx_atS RX5 161 "java/lang/IndexOutOfBoundsException" gNm).filter goodWord, w ∈ wsX5_requireFind := ⟨by decide +kernel, by decide +kernel, by decide +kernel⟩
theorem lkX5_requireFind_23 : Cond.fieldLink RX5 23 (TX5 2).1 (TX5 2).2.1 (TX5 2).2.2.1 ∈ wsX5_requireFind := by decide +kernel
theorem inX5_requireFind_X5 : ∀ w ∈ u_ws RX5 TX5 7, w ∈ wsX5_requireFind := by decide +kernel
theorem lkX5_requireFind_72 : Cond.fieldLink RX5 72 (TX0 0).1 (TX0 0).2.1 (TX0 0).2.2.1 ∈ wsX5_requireFind := by decide +kernel
theorem inX5_requireFind_X0 : ∀ w ∈ u_ws RX0 TX0 7, w ∈ wsX5_requireFind := by decide +kernel
set_option maxRecDepth 100000 in
set_option maxHeartbeats 4000000 in
theorem c_X5_requireFind (l : Launch) (hst : l.stackTraces = false) (g : gC) (μ : gM) (x : Int32) (cnt : Nat) (hc : μ 2 0 = nI cnt) : vx_Met l yX5_requireFind wsX5_requireFind { frames := 6, cells := 1, slots := 6, locals := 90 } (va_Pc [.ref (g.2.1 0), .int x] (gB g μ)) (va_Qv (fun μ' : gM => μ' = μ ∧ fndB cnt x = true) (gPB g) (gA g)) (gPX g (fun (E : String) (μ' : gM) => E = eI ∧ fndB cnt x = false ∧ μ' = μ)) 1 6 (gA g) := by
  refine g_oXV (cc := cX5_requireFind) (nL := 2) (ret := none) hst rfl (by decide +kernel) rfl rfl  (Nat.le_of_ble_eq_true rfl) ?_
  intro p e s m args below meth c Q Z hR hE hT
  refine j_iload_n Z dX5_requireFind_0 1 rfl ?_
  refine j_if_lt Z 15 dX5_requireFind_1 (by decide) (fun h1 => ?_) (fun h1 => ?_)
  · skip
    exact hT "java/lang/IndexOutOfBoundsException" "there is no such find" 157 176 161 (vx_atS RX5 161 "java/lang/IndexOutOfBoundsException" gNm) _ _ _ _ _ _ gOk_I thX5_requireFind_157 (by decide +kernel) dX5_requireFind_15 dX5_requireFind_18 dX5_requireFind_19 dX5_requireFind_21 dX5_requireFind_24 (⟨rfl, fndB_f1 h1, rfl⟩) (by decide) (by decide) (by decide)
  · skip
    refine j_iload_n Z dX5_requireFind_4 1 rfl ?_
    refine j_aload_n Z dX5_requireFind_5 0 rfl ?_
    refine j_get Z 0 (by decide) rfl rfl 2 (by decide) rfl inX5_requireFind_X5 lkX5_requireFind_23 dX5_requireFind_6 ?_
    refine j_get Z 2 (by decide) rfl rfl 0 (by decide) rfl inX5_requireFind_X0 lkX5_requireFind_72 dX5_requireFind_9 ?_
    refine j_eq hc ?_
    refine j_icmp_lt Z 25 dX5_requireFind_12 (by decide) (fun h12 => ?_) (fun h12 => ?_)
    · skip
      exact hR _ _ _ _ _ (⟨rfl, fndB_t h1 h12⟩) (by decide) (by decide) dX5_requireFind_25
    · skip
      exact hT "java/lang/IndexOutOfBoundsException" "there is no such find" 157 176 161 (vx_atS RX5 161 "java/lang/IndexOutOfBoundsException" gNm) _ _ _ _ _ _ gOk_I thX5_requireFind_157 (by decide +kernel) dX5_requireFind_15 dX5_requireFind_18 dX5_requireFind_19 dX5_requireFind_21 dX5_requireFind_24 (⟨rfl, fndB_f2 h12, rfl⟩) (by decide) (by decide) (by decide)
theorem lkX5_requireCounting_46 : Cond.fieldLink RX5 46 (TX5 5).1 (TX5 5).2.1 (TX5 5).2.2.1 ∈ wsX5_requireCounting := by decide +kernel
theorem inX5_requireCounting_X5 : ∀ w ∈ u_ws RX5 TX5 7, w ∈ wsX5_requireCounting := by decide +kernel
theorem lkX5_requireCounting_121 : Cond.fieldLink RX5 121 (TX3 2).1 (TX3 2).2.1 (TX3 2).2.2.1 ∈ wsX5_requireCounting := by decide +kernel
theorem inX5_requireCounting_X3 : ∀ w ∈ u_ws RX3 TX3 3, w ∈ wsX5_requireCounting := by decide +kernel
theorem thX5_requireCounting_178 : Cond.classLink RX5 178 gNs ∈ wsX5_requireCounting ∧ Cond.initialized gNs ∈ wsX5_requireCounting ∧ ∀ w ∈ (gNsAt RX5 182).filter goodWord, w ∈ wsX5_requireCounting := ⟨by decide +kernel, by decide +kernel, by decide +kernel⟩
set_option maxRecDepth 100000 in
set_option maxHeartbeats 4000000 in
theorem c_X5_requireCounting (l : Launch) (hst : l.stackTraces = false) (g : gC) (μ : gM) (i : Nat) (hi : i < 60) : vx_Met l yX5_requireCounting wsX5_requireCounting { frames := 6, cells := 1, slots := 6, locals := 90 } (va_Pc [.ref (g.2.1 0), .int (nI i)] (gB g μ)) (va_Qv (fun μ' : gM => μ' = μ ∧ ¬ μ 23 i = -1) (gPB g) (gA g)) (gPX g (fun (E : String) (μ' : gM) => E = gNs ∧ μ 23 i = -1 ∧ μ' = μ)) 1 6 (gA g) := by
  refine g_oXV (cc := cX5_requireCounting) (nL := 2) (ret := none) hst rfl (by decide +kernel) rfl rfl  (Nat.le_of_ble_eq_true rfl) ?_
  intro p e s m args below meth c Q Z hR hE hT
  refine j_aload_n Z dX5_requireCounting_0 0 rfl ?_
  refine j_get Z 0 (by decide) rfl rfl 5 (by decide) rfl inX5_requireCounting_X5 lkX5_requireCounting_46 dX5_requireCounting_1 ?_
  refine j_get Z 5 (by decide) rfl rfl 2 (by decide) rfl inX5_requireCounting_X3 lkX5_requireCounting_121 dX5_requireCounting_4 ?_
  refine j_iload_n Z dX5_requireCounting_7 1 rfl ?_
  refine j_ild Z 23 (by decide) (fun _ => rfl) i rfl (by omega) (by decide) dX5_requireCounting_8 ?_
  refine j_iconst Z (v := -1) dX5_requireCounting_9 (by decide) ?_
  refine j_icmp_ne Z 23 dX5_requireCounting_10 (by decide) (fun h10 => ?_) (fun h10 => ?_)
  · skip
    exact hR _ _ _ _ _ (⟨rfl, h10⟩) (by decide) (by decide) dX5_requireCounting_23
  · skip
    exact hT gNs "the find does not count on that day" 178 180 182 (gNsAt RX5 182) _ _ _ _ _ _ gOk_N thX5_requireCounting_178 (by decide +kernel) dX5_requireCounting_13 dX5_requireCounting_16 dX5_requireCounting_17 dX5_requireCounting_19 dX5_requireCounting_22 (⟨rfl, h10, rfl⟩) (by decide) (by decide) (by decide)
