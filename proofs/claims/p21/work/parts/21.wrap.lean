theorem mwL_passes_c13 : Cond.classLink RL 13 "java/lang/IllegalArgumentException" ∈ wsL_passes := by decide +kernel
theorem mwL_passes_k15 : Cond.constant RL 15 (-2000000002) ∈ wsL_passes := by decide +kernel
theorem mwL_passes_c16 : Cond.classLink RL 16 "java/lang/IllegalStateException" ∈ wsL_passes := by decide +kernel
theorem mwL_passes_k18 : Cond.constant RL 18 (-2000000003) ∈ wsL_passes := by decide +kernel
set_option maxRecDepth 100000 in
set_option maxHeartbeats 4000000 in
theorem c_L_passes (l : Launch) (hst : l.stackTraces = false) (g : gC) (μ : gM) (cnt lc wc : Nat) (hV : gV μ cnt lc wc) (x : Int32) : Met l yL_passes wsL_passes { frames := 8, cells := 2, slots := 12, locals := 133 } (va_Pc [.ref (g.2.1 0), .int x] (gBW g μ)) (va_Qi (fun (r : Int32) (μ' : gM) => (r = (μ 0 0 + x) ∧ k2 (inB x 1 1000) (decide (μ 0 0 + x ≤ 9999)) = 0 ∧ μ' = gU μ 0 0 (μ 0 0 + x)) ∨ (r = -2000000002 ∧ k2 (inB x 1 1000) (decide (μ 0 0 + x ≤ 9999)) = 1 ∧ μ' = μ) ∨ (r = -2000000003 ∧ k2 (inB x 1 1000) (decide (μ 0 0 + x ≤ 9999)) = 2 ∧ μ' = μ)) (gPB g) (gA g)) 2 12 (gA g) := by
  refine g_oW (cc := cL_passes) (nL := 3) (hh := [(0, 5, 6, 13), (0, 5, 10, 16)]) (by decide +kernel) rfl (Nat.le_of_ble_eq_true rfl) ?_
  intro p e s m args below meth c Q Z ht hN hR
  refine j_aload_n Z dL_passes_0 0 rfl ?_
  refine j_iload_n Z dL_passes_1 1 rfl ?_
  have jxE : ∀ (E : String) (μx : gM), (fun (E : String) (μ' : gM) => (E = eA ∧ k2 (inB x 1 1000) (decide (μ 0 0 + x ≤ 9999)) = 1 ∧ μ' = μ) ∨ (E = eS ∧ k2 (inB x 1 1000) (decide (μ 0 0 + x ≤ 9999)) = 2 ∧ μ' = μ)) E μx → JX p l e { frames := 8, cells := 2, slots := 12, locals := 133 } s m args below meth c Q g 3 μx (0 + 2) (0 + 12) E 2 [(0, .ref (g.2.1 0)), (1, .int x)] [] := by
    intro E μx hx
    rcases hx with ⟨rfl, hk, hm⟩ | ⟨rfl, hk, hm⟩
    · refine jx_catch Z hN (E := eA) [] { startPc := 0, endPc := 5, handlerPc := 6, catchType := 13 } [{ startPc := 0, endPc := 5, handlerPc := 10, catchType := 16 }] (ht.trans rfl) (List.forall_mem_nil _) (by decide) (by decide) mwL_passes_c13 (by decide +kernel) (fun q => ?_)
      refine j_astore_n Z dL_passes_6 (by decide) ([(2, .ref q), (0, .ref (g.2.1 0)), (1, .int x)]) rfl ?_
      refine j_ldc Z mwL_passes_k15 dL_passes_7 ?_
      exact hR _ _ _ _ _ _ (Or.inr (Or.inl ⟨rfl, hk, hm⟩)) (by decide) (by decide) dL_passes_9
    · refine jx_catch Z hN (E := eS) [{ startPc := 0, endPc := 5, handlerPc := 6, catchType := 13 }] { startPc := 0, endPc := 5, handlerPc := 10, catchType := 16 } [] (ht.trans rfl) (List.forall_mem_cons.mpr ⟨⟨by decide, eA, mwL_passes_c13, by decide +kernel⟩, (List.forall_mem_nil _)⟩) (by decide) (by decide) mwL_passes_c16 (by decide +kernel) (fun q => ?_)
      refine j_astore_n Z dL_passes_10 (by decide) ([(2, .ref q), (0, .ref (g.2.1 0)), (1, .int x)]) rfl ?_
      refine j_ldc Z mwL_passes_k18 dL_passes_11 ?_
      exact hR _ _ _ _ _ _ (Or.inr (Or.inr (⟨rfl, hk, hm⟩))) (by decide) (by decide) dL_passes_13
  refine j_callVxi Z (As := [.int x]) (rest := []) (nA := 1) 0 (by decide) rfl rfl (c_X5_pass l hst g μ cnt lc wc hV x) gL_passes_X5_pass rfl rfl rfl (by decide +kernel) (by decide) rfl dL_passes_2 rfl (Nat.le_of_ble_eq_true rfl) (by decide) jxE (fun r9 μ9 hp => ?_)
  obtain ⟨h1, h2, h3⟩ := hp
  subst h1
  subst h2
  exact hR _ _ _ _ _ _ (Or.inl ⟨rfl, h3, rfl⟩) (by decide) (by decide) dL_passes_5
theorem mwL_terms_c13 : Cond.classLink RL 13 "java/lang/IllegalArgumentException" ∈ wsL_terms := by decide +kernel
theorem mwL_terms_k15 : Cond.constant RL 15 (-2000000002) ∈ wsL_terms := by decide +kernel
set_option maxRecDepth 100000 in
set_option maxHeartbeats 4000000 in
theorem c_L_terms (l : Launch) (hst : l.stackTraces = false) (g : gC) (μ : gM) (cnt lc wc : Nat) (hV : gV μ cnt lc wc) (x y : Int32) : Met l yL_terms wsL_terms { frames := 8, cells := 2, slots := 12, locals := 135 } (va_Pc [.ref (g.2.1 0), .int x, .int y] (gBW g μ)) (va_Qi (fun (r : Int32) (μ' : gM) => (r = (μ 7 (ix x)) ∧ k1 (inB x 0 3 && inB y 1 999) = 0 ∧ μ' = gU μ 7 (ix x) y) ∨ (r = -2000000002 ∧ k1 (inB x 0 3 && inB y 1 999) = 1 ∧ μ' = μ)) (gPB g) (gA g)) 2 12 (gA g) := by
  refine g_oW (cc := cL_terms) (nL := 4) (hh := [(0, 6, 7, 13)]) (by decide +kernel) rfl (Nat.le_of_ble_eq_true rfl) ?_
  intro p e s m args below meth c Q Z ht hN hR
  refine j_aload_n Z dL_terms_0 0 rfl ?_
  refine j_iload_n Z dL_terms_1 1 rfl ?_
  refine j_iload_n Z dL_terms_2 2 rfl ?_
  have jxE : ∀ (E : String) (μx : gM), (fun (E : String) (μ' : gM) => (E = eA ∧ k1 (inB x 0 3 && inB y 1 999) = 1 ∧ μ' = μ)) E μx → JX p l e { frames := 8, cells := 2, slots := 12, locals := 135 } s m args below meth c Q g 4 μx (0 + 2) (0 + 12) E 3 [(0, .ref (g.2.1 0)), (1, .int x), (2, .int y)] [] := by
    intro E μx hx
    rcases hx with ⟨rfl, hk, hm⟩
    · refine jx_catch Z hN (E := eA) [] { startPc := 0, endPc := 6, handlerPc := 7, catchType := 13 } [] (ht.trans rfl) (List.forall_mem_nil _) (by decide) (by decide) mwL_terms_c13 (by decide +kernel) (fun q => ?_)
      refine j_astore_n Z dL_terms_7 (by decide) ([(3, .ref q), (0, .ref (g.2.1 0)), (1, .int x), (2, .int y)]) rfl ?_
      refine j_ldc Z mwL_terms_k15 dL_terms_8 ?_
      exact hR _ _ _ _ _ _ (Or.inr (⟨rfl, hk, hm⟩)) (by decide) (by decide) dL_terms_10
  refine j_callVxi Z (As := [.int x, .int y]) (rest := []) (nA := 2) 0 (by decide) rfl rfl (c_X5_setTerm l hst g μ cnt lc wc hV x y) gL_terms_X5_setTerm rfl rfl rfl (by decide +kernel) (by decide) rfl dL_terms_3 rfl (Nat.le_of_ble_eq_true rfl) (by decide) jxE (fun r9 μ9 hp => ?_)
  obtain ⟨h1, h2, h3⟩ := hp
  subst h1
  subst h2
  exact hR _ _ _ _ _ _ (Or.inl ⟨rfl, h3, rfl⟩) (by decide) (by decide) dL_terms_6
theorem mwL_firsts_c13 : Cond.classLink RL 13 "java/lang/IllegalArgumentException" ∈ wsL_firsts := by decide +kernel
theorem mwL_firsts_k15 : Cond.constant RL 15 (-2000000002) ∈ wsL_firsts := by decide +kernel
set_option maxRecDepth 100000 in
set_option maxHeartbeats 4000000 in
theorem c_L_firsts (l : Launch) (hst : l.stackTraces = false) (g : gC) (μ : gM) (cnt lc wc : Nat) (hV : gV μ cnt lc wc) (x : Int32) : Met l yL_firsts wsL_firsts { frames := 8, cells := 1, slots := 6, locals := 133 } (va_Pc [.ref (g.2.1 0), .int x] (gBW g μ)) (va_Qi (fun (r : Int32) (μ' : gM) => (r = (μ 8 (ix x)) ∧ k1 (inB x 0 3) = 0 ∧ μ' = gR μ 8 (upd (pMv 4 (μ 8 (ix x)) (μ 8)) (ix x) 0)) ∨ (r = -2000000002 ∧ k1 (inB x 0 3) = 1 ∧ μ' = μ)) (gPB g) (gA g)) 1 6 (gA g) := by
  refine g_oW (cc := cL_firsts) (nL := 3) (hh := [(0, 5, 6, 13)]) (by decide +kernel) rfl (Nat.le_of_ble_eq_true rfl) ?_
  intro p e s m args below meth c Q Z ht hN hR
  refine j_aload_n Z dL_firsts_0 0 rfl ?_
  refine j_iload_n Z dL_firsts_1 1 rfl ?_
  have jxE : ∀ (E : String) (μx : gM), (fun (E : String) (μ' : gM) => (E = eA ∧ k1 (inB x 0 3) = 1 ∧ μ' = μ)) E μx → JX p l e { frames := 8, cells := 1, slots := 6, locals := 133 } s m args below meth c Q g 3 μx (0 + 1) (0 + 6) E 2 [(0, .ref (g.2.1 0)), (1, .int x)] [] := by
    intro E μx hx
    rcases hx with ⟨rfl, hk, hm⟩
    · refine jx_catch Z hN (E := eA) [] { startPc := 0, endPc := 5, handlerPc := 6, catchType := 13 } [] (ht.trans rfl) (List.forall_mem_nil _) (by decide) (by decide) mwL_firsts_c13 (by decide +kernel) (fun q => ?_)
      refine j_astore_n Z dL_firsts_6 (by decide) ([(2, .ref q), (0, .ref (g.2.1 0)), (1, .int x)]) rfl ?_
      refine j_ldc Z mwL_firsts_k15 dL_firsts_7 ?_
      exact hR _ _ _ _ _ _ (Or.inr (⟨rfl, hk, hm⟩)) (by decide) (by decide) dL_firsts_9
  refine j_callVxi Z (As := [.int x]) (rest := []) (nA := 1) 0 (by decide) rfl rfl (c_X5_putFirst l hst g μ cnt lc wc hV x) gL_firsts_X5_putFirst rfl rfl rfl (by decide +kernel) (by decide) rfl dL_firsts_2 rfl (Nat.le_of_ble_eq_true rfl) (by decide) jxE (fun r9 μ9 hp => ?_)
  obtain ⟨h1, h2, h3⟩ := hp
  subst h1
  subst h2
  exact hR _ _ _ _ _ _ (Or.inl ⟨rfl, h3, rfl⟩) (by decide) (by decide) dL_firsts_5
theorem mwL_finds_c13 : Cond.classLink RL 13 "java/lang/IllegalArgumentException" ∈ wsL_finds := by decide +kernel
theorem mwL_finds_k15 : Cond.constant RL 15 (-2000000002) ∈ wsL_finds := by decide +kernel
theorem mwL_finds_c16 : Cond.classLink RL 16 "java/lang/IllegalStateException" ∈ wsL_finds := by decide +kernel
theorem mwL_finds_k18 : Cond.constant RL 18 (-2000000003) ∈ wsL_finds := by decide +kernel
set_option maxRecDepth 100000 in
set_option maxHeartbeats 4000000 in
theorem c_L_finds (l : Launch) (hst : l.stackTraces = false) (g : gC) (μ : gM) (cnt lc wc : Nat) (hV : gV μ cnt lc wc) (a1 a2 a3 a4 a5 a6 : Int32) : Met l yL_finds wsL_finds { frames := 8, cells := 7, slots := 42, locals := 139 } (va_Pc [.ref (g.2.1 0), .int a1, .int a2, .int a3, .int a4, .int a5, .int a6] (gBW g μ)) (va_Qi (fun (r : Int32) (μ' : gM) => (r = (nI cnt) ∧ k2 (inB a1 0 3 && inB a2 0 99 && inB a3 0 99 && inB a4 0 99 && inB a5 (-1) 99 && inB a6 (-1) 99) (decide (cnt < 60)) = 0 ∧ μ' = (gU (gU (gU (gU (gU (gU (gU (gU μ 9 cnt a1) 10 cnt (μ 0 0)) 2 0 (nI (cnt + 1))) 26 cnt a2) 27 cnt a3) 28 cnt a4) 29 cnt a5) 30 cnt a6)) ∨ (r = -2000000002 ∧ k2 (inB a1 0 3 && inB a2 0 99 && inB a3 0 99 && inB a4 0 99 && inB a5 (-1) 99 && inB a6 (-1) 99) (decide (cnt < 60)) = 1 ∧ μ' = μ) ∨ (r = -2000000003 ∧ k2 (inB a1 0 3 && inB a2 0 99 && inB a3 0 99 && inB a4 0 99 && inB a5 (-1) 99 && inB a6 (-1) 99) (decide (cnt < 60)) = 2 ∧ μ' = μ)) (gPB g) (gA g)) 7 42 (gA g) := by
  refine g_oW (cc := cL_finds) (nL := 8) (hh := [(0, 13, 14, 13), (0, 13, 19, 16)]) (by decide +kernel) rfl (Nat.le_of_ble_eq_true rfl) ?_
  intro p e s m args below meth c Q Z ht hN hR
  refine j_aload_n Z dL_finds_0 0 rfl ?_
  refine j_iload_n Z dL_finds_1 1 rfl ?_
  refine j_iload_n Z dL_finds_2 2 rfl ?_
  refine j_iload_n Z dL_finds_3 3 rfl ?_
  refine j_iload Z dL_finds_4 4 rfl ?_
  refine j_iload Z dL_finds_6 5 rfl ?_
  refine j_iload Z dL_finds_8 6 rfl ?_
  have jxE : ∀ (E : String) (μx : gM), (fun (E : String) (μ' : gM) => (E = eA ∧ k2 (inB a1 0 3 && inB a2 0 99 && inB a3 0 99 && inB a4 0 99 && inB a5 (-1) 99 && inB a6 (-1) 99) (decide (cnt < 60)) = 1 ∧ μ' = μ) ∨ (E = eS ∧ k2 (inB a1 0 3 && inB a2 0 99 && inB a3 0 99 && inB a4 0 99 && inB a5 (-1) 99 && inB a6 (-1) 99) (decide (cnt < 60)) = 2 ∧ μ' = μ)) E μx → JX p l e { frames := 8, cells := 7, slots := 42, locals := 139 } s m args below meth c Q g 8 μx (0 + 7) (0 + 42) E 10 [(0, .ref (g.2.1 0)), (1, .int a1), (2, .int a2), (3, .int a3), (4, .int a4), (5, .int a5), (6, .int a6)] [] := by
    intro E μx hx
    rcases hx with ⟨rfl, hk, hm⟩ | ⟨rfl, hk, hm⟩
    · refine jx_catch Z hN (E := eA) [] { startPc := 0, endPc := 13, handlerPc := 14, catchType := 13 } [{ startPc := 0, endPc := 13, handlerPc := 19, catchType := 16 }] (ht.trans rfl) (List.forall_mem_nil _) (by decide) (by decide) mwL_finds_c13 (by decide +kernel) (fun q => ?_)
      refine j_astore Z dL_finds_14 (by decide) ([(7, .ref q), (0, .ref (g.2.1 0)), (1, .int a1), (2, .int a2), (3, .int a3), (4, .int a4), (5, .int a5), (6, .int a6)]) rfl ?_
      refine j_ldc Z mwL_finds_k15 dL_finds_16 ?_
      exact hR _ _ _ _ _ _ (Or.inr (Or.inl ⟨rfl, hk, hm⟩)) (by decide) (by decide) dL_finds_18
    · refine jx_catch Z hN (E := eS) [{ startPc := 0, endPc := 13, handlerPc := 14, catchType := 13 }] { startPc := 0, endPc := 13, handlerPc := 19, catchType := 16 } [] (ht.trans rfl) (List.forall_mem_cons.mpr ⟨⟨by decide, eA, mwL_finds_c13, by decide +kernel⟩, (List.forall_mem_nil _)⟩) (by decide) (by decide) mwL_finds_c16 (by decide +kernel) (fun q => ?_)
      refine j_astore Z dL_finds_19 (by decide) ([(7, .ref q), (0, .ref (g.2.1 0)), (1, .int a1), (2, .int a2), (3, .int a3), (4, .int a4), (5, .int a5), (6, .int a6)]) rfl ?_
      refine j_ldc Z mwL_finds_k18 dL_finds_21 ?_
      exact hR _ _ _ _ _ _ (Or.inr (Or.inr (⟨rfl, hk, hm⟩))) (by decide) (by decide) dL_finds_23
  refine j_callVxi Z (As := [.int a1, .int a2, .int a3, .int a4, .int a5, .int a6]) (rest := []) (nA := 6) 0 (by decide) rfl rfl (c_X5_find l hst g μ cnt lc wc hV a1 a2 a3 a4 a5 a6) gL_finds_X5_find rfl rfl rfl (by decide +kernel) (by decide) rfl dL_finds_10 rfl (Nat.le_of_ble_eq_true rfl) (by decide) jxE (fun r9 μ9 hp => ?_)
  obtain ⟨h1, h2, h3⟩ := hp
  subst h1
  subst h2
  exact hR _ _ _ _ _ _ (Or.inl ⟨rfl, h3, rfl⟩) (by decide) (by decide) dL_finds_13
theorem mwL_strikes_c34 : Cond.classLink RL 34 "java/lang/IndexOutOfBoundsException" ∈ wsL_strikes := by decide +kernel
theorem mwL_strikes_k36 : Cond.constant RL 36 (-2000000001) ∈ wsL_strikes := by decide +kernel
set_option maxRecDepth 100000 in
set_option maxHeartbeats 4000000 in
theorem c_L_strikes (l : Launch) (hst : l.stackTraces = false) (g : gC) (μ : gM) (cnt lc wc : Nat) (hV : gV μ cnt lc wc) (x : Int32) : Met l yL_strikes wsL_strikes { frames := 8, cells := 1, slots := 6, locals := 133 } (va_Pc [.ref (g.2.1 0), .int x] (gBW g μ)) (va_Qi (fun (r : Int32) (μ' : gM) => (r = (zB (decide (μ 11 (ix x) = 0))) ∧ k1 (fndB cnt x) = 0 ∧ μ' = gU μ 11 (ix x) 1) ∨ (r = -2000000001 ∧ k1 (fndB cnt x) = 1 ∧ μ' = μ)) (gPB g) (gA g)) 1 6 (gA g) := by
  refine g_oW (cc := cL_strikes) (nL := 3) (hh := [(0, 13, 14, 34)]) (by decide +kernel) rfl (Nat.le_of_ble_eq_true rfl) ?_
  intro p e s m args below meth c Q Z ht hN hR
  refine j_aload_n Z dL_strikes_0 0 rfl ?_
  refine j_iload_n Z dL_strikes_1 1 rfl ?_
  have jxE : ∀ (E : String) (μx : gM), (fun (E : String) (μ' : gM) => (E = eI ∧ k1 (fndB cnt x) = 1 ∧ μ' = μ)) E μx → JX p l e { frames := 8, cells := 1, slots := 6, locals := 133 } s m args below meth c Q g 3 μx (0 + 1) (0 + 6) E 2 [(0, .ref (g.2.1 0)), (1, .int x)] [] := by
    intro E μx hx
    rcases hx with ⟨rfl, hk, hm⟩
    · refine jx_catch Z hN (E := eI) [] { startPc := 0, endPc := 13, handlerPc := 14, catchType := 34 } [] (ht.trans rfl) (List.forall_mem_nil _) (by decide) (by decide) mwL_strikes_c34 (by decide +kernel) (fun q => ?_)
      refine j_astore_n Z dL_strikes_14 (by decide) ([(2, .ref q), (0, .ref (g.2.1 0)), (1, .int x)]) rfl ?_
      refine j_ldc Z mwL_strikes_k36 dL_strikes_15 ?_
      exact hR _ _ _ _ _ _ (Or.inr (⟨rfl, hk, hm⟩)) (by decide) (by decide) dL_strikes_17
  refine j_callVxi Z (As := [.int x]) (rest := []) (nA := 1) 0 (by decide) rfl rfl (c_X5_strike l hst g μ cnt lc wc hV x) gL_strikes_X5_strike rfl rfl rfl (by decide +kernel) (by decide) rfl dL_strikes_2 rfl (Nat.le_of_ble_eq_true rfl) (by decide) jxE (fun r9 μ9 hp => ?_)
  obtain ⟨h1, h2, h3⟩ := hp
  subst h1
  subst h2
  refine j_if_eq Z 12 dL_strikes_5 (by decide) (fun h9 => ?_) (fun h9 => ?_)
  · refine j_iconst Z (v := 0) dL_strikes_12 (by decide) ?_
    exact hR _ _ _ _ _ _ (Or.inl ⟨h9.symm, h3, rfl⟩) (by decide) (by decide) dL_strikes_13
  · refine j_iconst Z (v := 1) dL_strikes_8 (by decide) ?_
    refine j_goto Z 13 dL_strikes_9 (by decide) ?_
    exact hR _ _ _ _ _ _ (Or.inl ⟨(zB_one h9).symm, h3, rfl⟩) (by decide) (by decide) dL_strikes_13
theorem mwL_tells_c34 : Cond.classLink RL 34 "java/lang/IndexOutOfBoundsException" ∈ wsL_tells := by decide +kernel
theorem mwL_tells_k36 : Cond.constant RL 36 (-2000000001) ∈ wsL_tells := by decide +kernel
theorem mwL_tells_c13 : Cond.classLink RL 13 "java/lang/IllegalArgumentException" ∈ wsL_tells := by decide +kernel
theorem mwL_tells_k15 : Cond.constant RL 15 (-2000000002) ∈ wsL_tells := by decide +kernel
set_option maxRecDepth 100000 in
set_option maxHeartbeats 4000000 in
theorem c_L_tells (l : Launch) (hst : l.stackTraces = false) (g : gC) (μ : gM) (cnt lc wc : Nat) (hV : gV μ cnt lc wc) (x y z : Int32) : Met l yL_tells wsL_tells { frames := 8, cells := 4, slots := 24, locals := 136 } (va_Pc [.ref (g.2.1 0), .int x, .int y, .int z] (gBW g μ)) (va_Qi (fun (r : Int32) (μ' : gM) => (r = (μ (50 + (ix x)) (ix y)) ∧ k2 (fndB cnt x && fndB cnt y) (!decide (x = y) && inB z 0 2) = 0 ∧ μ' = (gU (gU μ (50 + (ix x)) (ix y) z) (50 + (ix y)) (ix x) z)) ∨ (r = -2000000001 ∧ k2 (fndB cnt x && fndB cnt y) (!decide (x = y) && inB z 0 2) = 1 ∧ μ' = μ) ∨ (r = -2000000002 ∧ k2 (fndB cnt x && fndB cnt y) (!decide (x = y) && inB z 0 2) = 2 ∧ μ' = μ)) (gPB g) (gA g)) 4 24 (gA g) := by
  refine g_oW (cc := cL_tells) (nL := 5) (hh := [(0, 7, 8, 34), (0, 7, 13, 13)]) (by decide +kernel) rfl (Nat.le_of_ble_eq_true rfl) ?_
  intro p e s m args below meth c Q Z ht hN hR
  refine j_aload_n Z dL_tells_0 0 rfl ?_
  refine j_iload_n Z dL_tells_1 1 rfl ?_
  refine j_iload_n Z dL_tells_2 2 rfl ?_
  refine j_iload_n Z dL_tells_3 3 rfl ?_
  have jxE : ∀ (E : String) (μx : gM), (fun (E : String) (μ' : gM) => (E = eI ∧ k2 (fndB cnt x && fndB cnt y) (!decide (x = y) && inB z 0 2) = 1 ∧ μ' = μ) ∨ (E = eA ∧ k2 (fndB cnt x && fndB cnt y) (!decide (x = y) && inB z 0 2) = 2 ∧ μ' = μ)) E μx → JX p l e { frames := 8, cells := 4, slots := 24, locals := 136 } s m args below meth c Q g 5 μx (0 + 4) (0 + 24) E 4 [(0, .ref (g.2.1 0)), (1, .int x), (2, .int y), (3, .int z)] [] := by
    intro E μx hx
    rcases hx with ⟨rfl, hk, hm⟩ | ⟨rfl, hk, hm⟩
    · refine jx_catch Z hN (E := eI) [] { startPc := 0, endPc := 7, handlerPc := 8, catchType := 34 } [{ startPc := 0, endPc := 7, handlerPc := 13, catchType := 13 }] (ht.trans rfl) (List.forall_mem_nil _) (by decide) (by decide) mwL_tells_c34 (by decide +kernel) (fun q => ?_)
      refine j_astore Z dL_tells_8 (by decide) ([(4, .ref q), (0, .ref (g.2.1 0)), (1, .int x), (2, .int y), (3, .int z)]) rfl ?_
      refine j_ldc Z mwL_tells_k36 dL_tells_10 ?_
      exact hR _ _ _ _ _ _ (Or.inr (Or.inl ⟨rfl, hk, hm⟩)) (by decide) (by decide) dL_tells_12
    · refine jx_catch Z hN (E := eA) [{ startPc := 0, endPc := 7, handlerPc := 8, catchType := 34 }] { startPc := 0, endPc := 7, handlerPc := 13, catchType := 13 } [] (ht.trans rfl) (List.forall_mem_cons.mpr ⟨⟨by decide, eI, mwL_tells_c34, by decide +kernel⟩, (List.forall_mem_nil _)⟩) (by decide) (by decide) mwL_tells_c13 (by decide +kernel) (fun q => ?_)
      refine j_astore Z dL_tells_13 (by decide) ([(4, .ref q), (0, .ref (g.2.1 0)), (1, .int x), (2, .int y), (3, .int z)]) rfl ?_
      refine j_ldc Z mwL_tells_k15 dL_tells_15 ?_
      exact hR _ _ _ _ _ _ (Or.inr (Or.inr (⟨rfl, hk, hm⟩))) (by decide) (by decide) dL_tells_17
  refine j_callVxi Z (As := [.int x, .int y, .int z]) (rest := []) (nA := 3) 0 (by decide) rfl rfl (c_X5_tell l hst g μ cnt lc wc hV x y z) gL_tells_X5_tell rfl rfl rfl (by decide +kernel) (by decide) rfl dL_tells_4 rfl (Nat.le_of_ble_eq_true rfl) (by decide) jxE (fun r9 μ9 hp => ?_)
  obtain ⟨h1, h2, h3⟩ := hp
  subst h1
  subst h2
  exact hR _ _ _ _ _ _ (Or.inl ⟨rfl, h3, rfl⟩) (by decide) (by decide) dL_tells_7
theorem mwL_counts_c34 : Cond.classLink RL 34 "java/lang/IndexOutOfBoundsException" ∈ wsL_counts := by decide +kernel
theorem mwL_counts_k36 : Cond.constant RL 36 (-2000000001) ∈ wsL_counts := by decide +kernel
theorem mwL_counts_c13 : Cond.classLink RL 13 "java/lang/IllegalArgumentException" ∈ wsL_counts := by decide +kernel
theorem mwL_counts_k15 : Cond.constant RL 15 (-2000000002) ∈ wsL_counts := by decide +kernel
set_option maxRecDepth 100000 in
set_option maxHeartbeats 4000000 in
theorem c_L_counts (l : Launch) (hst : l.stackTraces = false) (g : gC) (μ : gM) (cnt lc wc : Nat) (hV : gV μ cnt lc wc) (x z : Int32) : Met l yL_counts wsL_counts { frames := 9, cells := 2, slots := 12, locals := 154 } (va_Pc [.ref (g.2.1 0), .int x, .int z] (gBW g μ)) (va_Qi (fun (r : Int32) (μ' : gM) => (r = (zB (fStand μ (ix x) z)) ∧ k2 (fndB cnt x) (inB z 0 9999) = 0 ∧ μ' = μ) ∨ (r = -2000000001 ∧ k2 (fndB cnt x) (inB z 0 9999) = 1 ∧ μ' = μ) ∨ (r = -2000000002 ∧ k2 (fndB cnt x) (inB z 0 9999) = 2 ∧ μ' = μ)) (gPB g) (gA g)) 2 12 (gA g) := by
  refine g_oW (cc := cL_counts) (nL := 4) (hh := [(0, 14, 15, 34), (0, 14, 19, 13)]) (by decide +kernel) rfl (Nat.le_of_ble_eq_true rfl) ?_
  intro p e s m args below meth c Q Z ht hN hR
  refine j_aload_n Z dL_counts_0 0 rfl ?_
  refine j_iload_n Z dL_counts_1 1 rfl ?_
  refine j_iload_n Z dL_counts_2 2 rfl ?_
  have jxE : ∀ (E : String) (μx : gM), (fun (E : String) (μ' : gM) => (E = eI ∧ k2 (fndB cnt x) (inB z 0 9999) = 1 ∧ μ' = μ) ∨ (E = eA ∧ k2 (fndB cnt x) (inB z 0 9999) = 2 ∧ μ' = μ)) E μx → JX p l e { frames := 9, cells := 2, slots := 12, locals := 154 } s m args below meth c Q g 4 μx (0 + 2) (0 + 12) E 3 [(0, .ref (g.2.1 0)), (1, .int x), (2, .int z)] [] := by
    intro E μx hx
    rcases hx with ⟨rfl, hk, hm⟩ | ⟨rfl, hk, hm⟩
    · refine jx_catch Z hN (E := eI) [] { startPc := 0, endPc := 14, handlerPc := 15, catchType := 34 } [{ startPc := 0, endPc := 14, handlerPc := 19, catchType := 13 }] (ht.trans rfl) (List.forall_mem_nil _) (by decide) (by decide) mwL_counts_c34 (by decide +kernel) (fun q => ?_)
      refine j_astore_n Z dL_counts_15 (by decide) ([(3, .ref q), (0, .ref (g.2.1 0)), (1, .int x), (2, .int z)]) rfl ?_
      refine j_ldc Z mwL_counts_k36 dL_counts_16 ?_
      exact hR _ _ _ _ _ _ (Or.inr (Or.inl ⟨rfl, hk, hm⟩)) (by decide) (by decide) dL_counts_18
    · refine jx_catch Z hN (E := eA) [{ startPc := 0, endPc := 14, handlerPc := 15, catchType := 34 }] { startPc := 0, endPc := 14, handlerPc := 19, catchType := 13 } [] (ht.trans rfl) (List.forall_mem_cons.mpr ⟨⟨by decide, eI, mwL_counts_c34, by decide +kernel⟩, (List.forall_mem_nil _)⟩) (by decide) (by decide) mwL_counts_c13 (by decide +kernel) (fun q => ?_)
      refine j_astore_n Z dL_counts_19 (by decide) ([(3, .ref q), (0, .ref (g.2.1 0)), (1, .int x), (2, .int z)]) rfl ?_
      refine j_ldc Z mwL_counts_k15 dL_counts_20 ?_
      exact hR _ _ _ _ _ _ (Or.inr (Or.inr (⟨rfl, hk, hm⟩))) (by decide) (by decide) dL_counts_22
  refine j_callVxi Z (As := [.int x, .int z]) (rest := []) (nA := 2) 0 (by decide) rfl rfl (c_X5_counts l hst g μ cnt lc wc hV x z) gL_counts_X5_counts rfl rfl rfl (by decide +kernel) (by decide) rfl dL_counts_3 rfl (Nat.le_of_ble_eq_true rfl) (by decide) jxE (fun r9 μ9 hp => ?_)
  obtain ⟨h1, h2, h3⟩ := hp
  subst h1
  subst h2
  refine j_if_eq Z 13 dL_counts_6 (by decide) (fun h9 => ?_) (fun h9 => ?_)
  · refine j_iconst Z (v := 0) dL_counts_13 (by decide) ?_
    exact hR _ _ _ _ _ _ (Or.inl ⟨h9.symm, h3, rfl⟩) (by decide) (by decide) dL_counts_14
  · refine j_iconst Z (v := 1) dL_counts_9 (by decide) ?_
    refine j_goto Z 14 dL_counts_10 (by decide) ?_
    exact hR _ _ _ _ _ _ (Or.inl ⟨(zB_one h9).symm, h3, rfl⟩) (by decide) (by decide) dL_counts_14
theorem mwL_things_c13 : Cond.classLink RL 13 "java/lang/IllegalArgumentException" ∈ wsL_things := by decide +kernel
theorem mwL_things_k15 : Cond.constant RL 15 (-2000000002) ∈ wsL_things := by decide +kernel
set_option maxRecDepth 100000 in
set_option maxHeartbeats 4000000 in
theorem c_L_things (l : Launch) (hst : l.stackTraces = false) (g : gC) (μ : gM) (cnt lc wc : Nat) (hV : gV μ cnt lc wc) (z : Int32) : Met l yL_things wsL_things { frames := 9, cells := 1, slots := 6, locals := 155 } (va_Pc [.ref (g.2.1 0), .int z] (gBW g μ)) (va_Qi (fun (r : Int32) (μ' : gM) => (r = (nI (cB (fun k => decide ((fSort μ cnt z (μ 23)) k = nI k)) cnt)) ∧ k1 (inB z 0 9999) = 0 ∧ μ' = gR μ 23 (fSort μ cnt z (μ 23))) ∨ (r = -2000000002 ∧ k1 (inB z 0 9999) = 1 ∧ μ' = μ)) (gPB g) (gA g)) 1 6 (gA g) := by
  refine g_oW (cc := cL_things) (nL := 3) (hh := [(0, 5, 6, 13)]) (by decide +kernel) rfl (Nat.le_of_ble_eq_true rfl) ?_
  intro p e s m args below meth c Q Z ht hN hR
  refine j_aload_n Z dL_things_0 0 rfl ?_
  refine j_iload_n Z dL_things_1 1 rfl ?_
  have jxE : ∀ (E : String) (μx : gM), (fun (E : String) (μ' : gM) => (E = eA ∧ k1 (inB z 0 9999) = 1 ∧ μ' = μ)) E μx → JX p l e { frames := 9, cells := 1, slots := 6, locals := 155 } s m args below meth c Q g 3 μx (0 + 1) (0 + 6) E 2 [(0, .ref (g.2.1 0)), (1, .int z)] [] := by
    intro E μx hx
    rcases hx with ⟨rfl, hk, hm⟩
    · refine jx_catch Z hN (E := eA) [] { startPc := 0, endPc := 5, handlerPc := 6, catchType := 13 } [] (ht.trans rfl) (List.forall_mem_nil _) (by decide) (by decide) mwL_things_c13 (by decide +kernel) (fun q => ?_)
      refine j_astore_n Z dL_things_6 (by decide) ([(2, .ref q), (0, .ref (g.2.1 0)), (1, .int z)]) rfl ?_
      refine j_ldc Z mwL_things_k15 dL_things_7 ?_
      exact hR _ _ _ _ _ _ (Or.inr (⟨rfl, hk, hm⟩)) (by decide) (by decide) dL_things_9
  refine j_callVxi Z (As := [.int z]) (rest := []) (nA := 1) 0 (by decide) rfl rfl (c_X5_things l hst g μ cnt lc wc hV z) gL_things_X5_things rfl rfl rfl (by decide +kernel) (by decide) rfl dL_things_2 rfl (Nat.le_of_ble_eq_true rfl) (by decide) jxE (fun r9 μ9 hp => ?_)
  obtain ⟨h1, h2, h3⟩ := hp
  subst h1
  subst h2
  exact hR _ _ _ _ _ _ (Or.inl ⟨rfl, h3, rfl⟩) (by decide) (by decide) dL_things_5
theorem mwL_thing_c34 : Cond.classLink RL 34 "java/lang/IndexOutOfBoundsException" ∈ wsL_thing := by decide +kernel
theorem mwL_thing_k36 : Cond.constant RL 36 (-2000000001) ∈ wsL_thing := by decide +kernel
theorem mwL_thing_c13 : Cond.classLink RL 13 "java/lang/IllegalArgumentException" ∈ wsL_thing := by decide +kernel
theorem mwL_thing_k15 : Cond.constant RL 15 (-2000000002) ∈ wsL_thing := by decide +kernel
theorem mwL_thing_c51 : Cond.classLink RL 51 "java/util/NoSuchElementException" ∈ wsL_thing := by decide +kernel
theorem mwL_thing_k53 : Cond.constant RL 53 (-2000000004) ∈ wsL_thing := by decide +kernel
set_option maxRecDepth 100000 in
set_option maxHeartbeats 4000000 in
theorem c_L_thing (l : Launch) (hst : l.stackTraces = false) (g : gC) (μ : gM) (cnt lc wc : Nat) (hV : gV μ cnt lc wc) (x z : Int32) : Met l yL_thing wsL_thing { frames := 9, cells := 3, slots := 18, locals := 154 } (va_Pc [.ref (g.2.1 0), .int x, .int z] (gBW g μ)) (va_Qi (fun (r : Int32) (μ' : gM) => (r = (fSort μ cnt z (μ 23) (ix x)) ∧ k3 (fndB cnt x) (inB z 0 9999) (!decide (fSort μ cnt z (μ 23) (ix x) = -1)) = 0 ∧ μ' = gR μ 23 (fSort μ cnt z (μ 23))) ∨ (r = -2000000001 ∧ k3 (fndB cnt x) (inB z 0 9999) (!decide (fSort μ cnt z (μ 23) (ix x) = -1)) = 1 ∧ μ' = μ) ∨ (r = -2000000002 ∧ k3 (fndB cnt x) (inB z 0 9999) (!decide (fSort μ cnt z (μ 23) (ix x) = -1)) = 2 ∧ μ' = μ) ∨ (r = -2000000004 ∧ k3 (fndB cnt x) (inB z 0 9999) (!decide (fSort μ cnt z (μ 23) (ix x) = -1)) = 3 ∧ μ' = gR μ 23 (fSort μ cnt z (μ 23)))) (gPB g) (gA g)) 3 18 (gA g) := by
  refine g_oW (cc := cL_thing) (nL := 4) (hh := [(0, 6, 7, 34), (0, 6, 11, 13), (0, 6, 15, 51)]) (by decide +kernel) rfl (Nat.le_of_ble_eq_true rfl) ?_
  intro p e s m args below meth c Q Z ht hN hR
  refine j_aload_n Z dL_thing_0 0 rfl ?_
  refine j_iload_n Z dL_thing_1 1 rfl ?_
  refine j_iload_n Z dL_thing_2 2 rfl ?_
  have jxE : ∀ (E : String) (μx : gM), (fun (E : String) (μ' : gM) => (E = eI ∧ k3 (fndB cnt x) (inB z 0 9999) (!decide (fSort μ cnt z (μ 23) (ix x) = -1)) = 1 ∧ μ' = μ) ∨ (E = eA ∧ k3 (fndB cnt x) (inB z 0 9999) (!decide (fSort μ cnt z (μ 23) (ix x) = -1)) = 2 ∧ μ' = μ) ∨ (E = gNs ∧ k3 (fndB cnt x) (inB z 0 9999) (!decide (fSort μ cnt z (μ 23) (ix x) = -1)) = 3 ∧ μ' = gR μ 23 (fSort μ cnt z (μ 23)))) E μx → JX p l e { frames := 9, cells := 3, slots := 18, locals := 154 } s m args below meth c Q g 4 μx (0 + 3) (0 + 18) E 3 [(0, .ref (g.2.1 0)), (1, .int x), (2, .int z)] [] := by
    intro E μx hx
    rcases hx with ⟨rfl, hk, hm⟩ | ⟨rfl, hk, hm⟩ | ⟨rfl, hk, hm⟩
    · refine jx_catch Z hN (E := eI) [] { startPc := 0, endPc := 6, handlerPc := 7, catchType := 34 } [{ startPc := 0, endPc := 6, handlerPc := 11, catchType := 13 }, { startPc := 0, endPc := 6, handlerPc := 15, catchType := 51 }] (ht.trans rfl) (List.forall_mem_nil _) (by decide) (by decide) mwL_thing_c34 (by decide +kernel) (fun q => ?_)
      refine j_astore_n Z dL_thing_7 (by decide) ([(3, .ref q), (0, .ref (g.2.1 0)), (1, .int x), (2, .int z)]) rfl ?_
      refine j_ldc Z mwL_thing_k36 dL_thing_8 ?_
      exact hR _ _ _ _ _ _ (Or.inr (Or.inl ⟨rfl, hk, hm⟩)) (by decide) (by decide) dL_thing_10
    · refine jx_catch Z hN (E := eA) [{ startPc := 0, endPc := 6, handlerPc := 7, catchType := 34 }] { startPc := 0, endPc := 6, handlerPc := 11, catchType := 13 } [{ startPc := 0, endPc := 6, handlerPc := 15, catchType := 51 }] (ht.trans rfl) (List.forall_mem_cons.mpr ⟨⟨by decide, eI, mwL_thing_c34, by decide +kernel⟩, (List.forall_mem_nil _)⟩) (by decide) (by decide) mwL_thing_c13 (by decide +kernel) (fun q => ?_)
      refine j_astore_n Z dL_thing_11 (by decide) ([(3, .ref q), (0, .ref (g.2.1 0)), (1, .int x), (2, .int z)]) rfl ?_
      refine j_ldc Z mwL_thing_k15 dL_thing_12 ?_
      exact hR _ _ _ _ _ _ (Or.inr (Or.inr (Or.inl ⟨rfl, hk, hm⟩))) (by decide) (by decide) dL_thing_14
    · refine jx_catch Z hN (E := gNs) [{ startPc := 0, endPc := 6, handlerPc := 7, catchType := 34 }, { startPc := 0, endPc := 6, handlerPc := 11, catchType := 13 }] { startPc := 0, endPc := 6, handlerPc := 15, catchType := 51 } [] (ht.trans rfl) (List.forall_mem_cons.mpr ⟨⟨by decide, eI, mwL_thing_c34, by decide +kernel⟩, (List.forall_mem_cons.mpr ⟨⟨by decide, eA, mwL_thing_c13, by decide +kernel⟩, (List.forall_mem_nil _)⟩)⟩) (by decide) (by decide) mwL_thing_c51 (by decide +kernel) (fun q => ?_)
      refine j_astore_n Z dL_thing_15 (by decide) ([(3, .ref q), (0, .ref (g.2.1 0)), (1, .int x), (2, .int z)]) rfl ?_
      refine j_ldc Z mwL_thing_k53 dL_thing_16 ?_
      exact hR _ _ _ _ _ _ (Or.inr (Or.inr (Or.inr (⟨rfl, hk, hm⟩)))) (by decide) (by decide) dL_thing_18
  refine j_callVxi Z (As := [.int x, .int z]) (rest := []) (nA := 2) 0 (by decide) rfl rfl (c_X5_thingOf l hst g μ cnt lc wc hV x z) gL_thing_X5_thingOf rfl rfl rfl (by decide +kernel) (by decide) rfl dL_thing_3 rfl (Nat.le_of_ble_eq_true rfl) (by decide) jxE (fun r9 μ9 hp => ?_)
  obtain ⟨h1, h2, h3⟩ := hp
  subst h1
  subst h2
  exact hR _ _ _ _ _ _ (Or.inl ⟨rfl, h3, rfl⟩) (by decide) (by decide) dL_thing_6
theorem mwL_value_c34 : Cond.classLink RL 34 "java/lang/IndexOutOfBoundsException" ∈ wsL_value := by decide +kernel
theorem mwL_value_k36 : Cond.constant RL 36 (-2000000001) ∈ wsL_value := by decide +kernel
theorem mwL_value_c13 : Cond.classLink RL 13 "java/lang/IllegalArgumentException" ∈ wsL_value := by decide +kernel
theorem mwL_value_k15 : Cond.constant RL 15 (-2000000002) ∈ wsL_value := by decide +kernel
theorem mwL_value_c51 : Cond.classLink RL 51 "java/util/NoSuchElementException" ∈ wsL_value := by decide +kernel
theorem mwL_value_k53 : Cond.constant RL 53 (-2000000004) ∈ wsL_value := by decide +kernel
set_option maxRecDepth 100000 in
set_option maxHeartbeats 4000000 in
theorem c_L_value (l : Launch) (hst : l.stackTraces = false) (g : gC) (μ : gM) (cnt lc wc : Nat) (hV : gV μ cnt lc wc) (x a z : Int32) : Met l yL_value wsL_value { frames := 9, cells := 4, slots := 24, locals := 155 } (va_Pc [.ref (g.2.1 0), .int x, .int a, .int z] (gBW g μ)) (va_Qi (fun (r : Int32) (μ' : gM) => (r = (aVal (fSort μ cnt z (μ 23)) (μ (29 + (ix a))) (fPl μ) ((fSort μ cnt z (μ 23)) (ix x)) cnt) ∧ k3 (fndB cnt x) (inB a 0 1 && inB z 0 9999) (!decide (fSort μ cnt z (μ 23) (ix x) = -1)) = 0 ∧ μ' = gR μ 23 (fSort μ cnt z (μ 23))) ∨ (r = -2000000001 ∧ k3 (fndB cnt x) (inB a 0 1 && inB z 0 9999) (!decide (fSort μ cnt z (μ 23) (ix x) = -1)) = 1 ∧ μ' = μ) ∨ (r = -2000000002 ∧ k3 (fndB cnt x) (inB a 0 1 && inB z 0 9999) (!decide (fSort μ cnt z (μ 23) (ix x) = -1)) = 2 ∧ μ' = μ) ∨ (r = -2000000004 ∧ k3 (fndB cnt x) (inB a 0 1 && inB z 0 9999) (!decide (fSort μ cnt z (μ 23) (ix x) = -1)) = 3 ∧ μ' = gR μ 23 (fSort μ cnt z (μ 23)))) (gPB g) (gA g)) 4 24 (gA g) := by
  refine g_oW (cc := cL_value) (nL := 5) (hh := [(0, 7, 8, 34), (0, 7, 13, 13), (0, 7, 18, 51)]) (by decide +kernel) rfl (Nat.le_of_ble_eq_true rfl) ?_
  intro p e s m args below meth c Q Z ht hN hR
  refine j_aload_n Z dL_value_0 0 rfl ?_
  refine j_iload_n Z dL_value_1 1 rfl ?_
  refine j_iload_n Z dL_value_2 2 rfl ?_
  refine j_iload_n Z dL_value_3 3 rfl ?_
  have jxE : ∀ (E : String) (μx : gM), (fun (E : String) (μ' : gM) => (E = eI ∧ k3 (fndB cnt x) (inB a 0 1 && inB z 0 9999) (!decide (fSort μ cnt z (μ 23) (ix x) = -1)) = 1 ∧ μ' = μ) ∨ (E = eA ∧ k3 (fndB cnt x) (inB a 0 1 && inB z 0 9999) (!decide (fSort μ cnt z (μ 23) (ix x) = -1)) = 2 ∧ μ' = μ) ∨ (E = gNs ∧ k3 (fndB cnt x) (inB a 0 1 && inB z 0 9999) (!decide (fSort μ cnt z (μ 23) (ix x) = -1)) = 3 ∧ μ' = gR μ 23 (fSort μ cnt z (μ 23)))) E μx → JX p l e { frames := 9, cells := 4, slots := 24, locals := 155 } s m args below meth c Q g 5 μx (0 + 4) (0 + 24) E 4 [(0, .ref (g.2.1 0)), (1, .int x), (2, .int a), (3, .int z)] [] := by
    intro E μx hx
    rcases hx with ⟨rfl, hk, hm⟩ | ⟨rfl, hk, hm⟩ | ⟨rfl, hk, hm⟩
    · refine jx_catch Z hN (E := eI) [] { startPc := 0, endPc := 7, handlerPc := 8, catchType := 34 } [{ startPc := 0, endPc := 7, handlerPc := 13, catchType := 13 }, { startPc := 0, endPc := 7, handlerPc := 18, catchType := 51 }] (ht.trans rfl) (List.forall_mem_nil _) (by decide) (by decide) mwL_value_c34 (by decide +kernel) (fun q => ?_)
      refine j_astore Z dL_value_8 (by decide) ([(4, .ref q), (0, .ref (g.2.1 0)), (1, .int x), (2, .int a), (3, .int z)]) rfl ?_
      refine j_ldc Z mwL_value_k36 dL_value_10 ?_
      exact hR _ _ _ _ _ _ (Or.inr (Or.inl ⟨rfl, hk, hm⟩)) (by decide) (by decide) dL_value_12
    · refine jx_catch Z hN (E := eA) [{ startPc := 0, endPc := 7, handlerPc := 8, catchType := 34 }] { startPc := 0, endPc := 7, handlerPc := 13, catchType := 13 } [{ startPc := 0, endPc := 7, handlerPc := 18, catchType := 51 }] (ht.trans rfl) (List.forall_mem_cons.mpr ⟨⟨by decide, eI, mwL_value_c34, by decide +kernel⟩, (List.forall_mem_nil _)⟩) (by decide) (by decide) mwL_value_c13 (by decide +kernel) (fun q => ?_)
      refine j_astore Z dL_value_13 (by decide) ([(4, .ref q), (0, .ref (g.2.1 0)), (1, .int x), (2, .int a), (3, .int z)]) rfl ?_
      refine j_ldc Z mwL_value_k15 dL_value_15 ?_
      exact hR _ _ _ _ _ _ (Or.inr (Or.inr (Or.inl ⟨rfl, hk, hm⟩))) (by decide) (by decide) dL_value_17
    · refine jx_catch Z hN (E := gNs) [{ startPc := 0, endPc := 7, handlerPc := 8, catchType := 34 }, { startPc := 0, endPc := 7, handlerPc := 13, catchType := 13 }] { startPc := 0, endPc := 7, handlerPc := 18, catchType := 51 } [] (ht.trans rfl) (List.forall_mem_cons.mpr ⟨⟨by decide, eI, mwL_value_c34, by decide +kernel⟩, (List.forall_mem_cons.mpr ⟨⟨by decide, eA, mwL_value_c13, by decide +kernel⟩, (List.forall_mem_nil _)⟩)⟩) (by decide) (by decide) mwL_value_c51 (by decide +kernel) (fun q => ?_)
      refine j_astore Z dL_value_18 (by decide) ([(4, .ref q), (0, .ref (g.2.1 0)), (1, .int x), (2, .int a), (3, .int z)]) rfl ?_
      refine j_ldc Z mwL_value_k53 dL_value_20 ?_
      exact hR _ _ _ _ _ _ (Or.inr (Or.inr (Or.inr (⟨rfl, hk, hm⟩)))) (by decide) (by decide) dL_value_22
  refine j_callVxi Z (As := [.int x, .int a, .int z]) (rest := []) (nA := 3) 0 (by decide) rfl rfl (c_X5_value l hst g μ cnt lc wc hV x a z) gL_value_X5_value rfl rfl rfl (by decide +kernel) (by decide) rfl dL_value_4 rfl (Nat.le_of_ble_eq_true rfl) (by decide) jxE (fun r9 μ9 hp => ?_)
  obtain ⟨h1, h2, h3⟩ := hp
  subst h1
  subst h2
  exact hR _ _ _ _ _ _ (Or.inl ⟨rfl, h3, rfl⟩) (by decide) (by decide) dL_value_7
theorem mwL_disputed_c13 : Cond.classLink RL 13 "java/lang/IllegalArgumentException" ∈ wsL_disputed := by decide +kernel
theorem mwL_disputed_k15 : Cond.constant RL 15 (-2000000002) ∈ wsL_disputed := by decide +kernel
set_option maxRecDepth 100000 in
set_option maxHeartbeats 4000000 in
theorem c_L_disputed (l : Launch) (hst : l.stackTraces = false) (g : gC) (μ : gM) (cnt lc wc : Nat) (hV : gV μ cnt lc wc) (a z : Int32) : Met l yL_disputed wsL_disputed { frames := 9, cells := 2, slots := 12, locals := 156 } (va_Pc [.ref (g.2.1 0), .int a, .int z] (gBW g μ)) (va_Qi (fun (r : Int32) (μ' : gM) => (r = (nI (cB (fun k => decide ((fSort μ cnt z (μ 23)) k = nI k) && uBad (fSort μ cnt z (μ 23)) (μ (29 + (ix a))) (nI k) cnt) cnt)) ∧ k1 (inB a 0 1 && inB z 0 9999) = 0 ∧ μ' = gR μ 23 (fSort μ cnt z (μ 23))) ∨ (r = -2000000002 ∧ k1 (inB a 0 1 && inB z 0 9999) = 1 ∧ μ' = μ)) (gPB g) (gA g)) 2 12 (gA g) := by
  refine g_oW (cc := cL_disputed) (nL := 4) (hh := [(0, 6, 7, 13)]) (by decide +kernel) rfl (Nat.le_of_ble_eq_true rfl) ?_
  intro p e s m args below meth c Q Z ht hN hR
  refine j_aload_n Z dL_disputed_0 0 rfl ?_
  refine j_iload_n Z dL_disputed_1 1 rfl ?_
  refine j_iload_n Z dL_disputed_2 2 rfl ?_
  have jxE : ∀ (E : String) (μx : gM), (fun (E : String) (μ' : gM) => (E = eA ∧ k1 (inB a 0 1 && inB z 0 9999) = 1 ∧ μ' = μ)) E μx → JX p l e { frames := 9, cells := 2, slots := 12, locals := 156 } s m args below meth c Q g 4 μx (0 + 2) (0 + 12) E 3 [(0, .ref (g.2.1 0)), (1, .int a), (2, .int z)] [] := by
    intro E μx hx
    rcases hx with ⟨rfl, hk, hm⟩
    · refine jx_catch Z hN (E := eA) [] { startPc := 0, endPc := 6, handlerPc := 7, catchType := 13 } [] (ht.trans rfl) (List.forall_mem_nil _) (by decide) (by decide) mwL_disputed_c13 (by decide +kernel) (fun q => ?_)
      refine j_astore_n Z dL_disputed_7 (by decide) ([(3, .ref q), (0, .ref (g.2.1 0)), (1, .int a), (2, .int z)]) rfl ?_
      refine j_ldc Z mwL_disputed_k15 dL_disputed_8 ?_
      exact hR _ _ _ _ _ _ (Or.inr (⟨rfl, hk, hm⟩)) (by decide) (by decide) dL_disputed_10
  refine j_callVxi Z (As := [.int a, .int z]) (rest := []) (nA := 2) 0 (by decide) rfl rfl (c_X5_disputed l hst g μ cnt lc wc hV a z) gL_disputed_X5_disputed rfl rfl rfl (by decide +kernel) (by decide) rfl dL_disputed_3 rfl (Nat.le_of_ble_eq_true rfl) (by decide) jxE (fun r9 μ9 hp => ?_)
  obtain ⟨h1, h2, h3⟩ := hp
  subst h1
  subst h2
  exact hR _ _ _ _ _ _ (Or.inl ⟨rfl, h3, rfl⟩) (by decide) (by decide) dL_disputed_6
theorem mwL_links_c34 : Cond.classLink RL 34 "java/lang/IndexOutOfBoundsException" ∈ wsL_links := by decide +kernel
theorem mwL_links_k36 : Cond.constant RL 36 (-2000000001) ∈ wsL_links := by decide +kernel
theorem mwL_links_c13 : Cond.classLink RL 13 "java/lang/IllegalArgumentException" ∈ wsL_links := by decide +kernel
theorem mwL_links_k15 : Cond.constant RL 15 (-2000000002) ∈ wsL_links := by decide +kernel
theorem mwL_links_c16 : Cond.classLink RL 16 "java/lang/IllegalStateException" ∈ wsL_links := by decide +kernel
theorem mwL_links_k18 : Cond.constant RL 18 (-2000000003) ∈ wsL_links := by decide +kernel
set_option maxRecDepth 100000 in
set_option maxHeartbeats 4000000 in
theorem c_L_links (l : Launch) (hst : l.stackTraces = false) (g : gC) (μ : gM) (cnt lc wc : Nat) (hV : gV μ cnt lc wc) (x y z : Int32) : Met l yL_links wsL_links { frames := 8, cells := 5, slots := 30, locals := 135 } (va_Pc [.ref (g.2.1 0), .int x, .int y, .int z] (gBW g μ)) (va_Qi (fun (r : Int32) (μ' : gM) => (r = (nI (lc + 1)) ∧ k3 (fndB cnt x && fndB cnt y) (!decide (x = y) && inB z 0 3) (decide (lc < 40)) = 0 ∧ μ' = (gU (gU (gU (gU μ 15 lc x) 16 lc y) 17 lc z) 3 0 (nI (lc + 1)))) ∨ (r = -2000000001 ∧ k3 (fndB cnt x && fndB cnt y) (!decide (x = y) && inB z 0 3) (decide (lc < 40)) = 1 ∧ μ' = μ) ∨ (r = -2000000002 ∧ k3 (fndB cnt x && fndB cnt y) (!decide (x = y) && inB z 0 3) (decide (lc < 40)) = 2 ∧ μ' = μ) ∨ (r = -2000000003 ∧ k3 (fndB cnt x && fndB cnt y) (!decide (x = y) && inB z 0 3) (decide (lc < 40)) = 3 ∧ μ' = μ)) (gPB g) (gA g)) 5 30 (gA g) := by
  refine g_oW (cc := cL_links) (nL := 5) (hh := [(0, 7, 8, 34), (0, 7, 13, 13), (0, 7, 18, 16)]) (by decide +kernel) rfl (Nat.le_of_ble_eq_true rfl) ?_
  intro p e s m args below meth c Q Z ht hN hR
  refine j_aload_n Z dL_links_0 0 rfl ?_
  refine j_iload_n Z dL_links_1 1 rfl ?_
  refine j_iload_n Z dL_links_2 2 rfl ?_
  refine j_iload_n Z dL_links_3 3 rfl ?_
  have jxE : ∀ (E : String) (μx : gM), (fun (E : String) (μ' : gM) => (E = eI ∧ k3 (fndB cnt x && fndB cnt y) (!decide (x = y) && inB z 0 3) (decide (lc < 40)) = 1 ∧ μ' = μ) ∨ (E = eA ∧ k3 (fndB cnt x && fndB cnt y) (!decide (x = y) && inB z 0 3) (decide (lc < 40)) = 2 ∧ μ' = μ) ∨ (E = eS ∧ k3 (fndB cnt x && fndB cnt y) (!decide (x = y) && inB z 0 3) (decide (lc < 40)) = 3 ∧ μ' = μ)) E μx → JX p l e { frames := 8, cells := 5, slots := 30, locals := 135 } s m args below meth c Q g 5 μx (0 + 5) (0 + 30) E 4 [(0, .ref (g.2.1 0)), (1, .int x), (2, .int y), (3, .int z)] [] := by
    intro E μx hx
    rcases hx with ⟨rfl, hk, hm⟩ | ⟨rfl, hk, hm⟩ | ⟨rfl, hk, hm⟩
    · refine jx_catch Z hN (E := eI) [] { startPc := 0, endPc := 7, handlerPc := 8, catchType := 34 } [{ startPc := 0, endPc := 7, handlerPc := 13, catchType := 13 }, { startPc := 0, endPc := 7, handlerPc := 18, catchType := 16 }] (ht.trans rfl) (List.forall_mem_nil _) (by decide) (by decide) mwL_links_c34 (by decide +kernel) (fun q => ?_)
      refine j_astore Z dL_links_8 (by decide) ([(4, .ref q), (0, .ref (g.2.1 0)), (1, .int x), (2, .int y), (3, .int z)]) rfl ?_
      refine j_ldc Z mwL_links_k36 dL_links_10 ?_
      exact hR _ _ _ _ _ _ (Or.inr (Or.inl ⟨rfl, hk, hm⟩)) (by decide) (by decide) dL_links_12
    · refine jx_catch Z hN (E := eA) [{ startPc := 0, endPc := 7, handlerPc := 8, catchType := 34 }] { startPc := 0, endPc := 7, handlerPc := 13, catchType := 13 } [{ startPc := 0, endPc := 7, handlerPc := 18, catchType := 16 }] (ht.trans rfl) (List.forall_mem_cons.mpr ⟨⟨by decide, eI, mwL_links_c34, by decide +kernel⟩, (List.forall_mem_nil _)⟩) (by decide) (by decide) mwL_links_c13 (by decide +kernel) (fun q => ?_)
      refine j_astore Z dL_links_13 (by decide) ([(4, .ref q), (0, .ref (g.2.1 0)), (1, .int x), (2, .int y), (3, .int z)]) rfl ?_
      refine j_ldc Z mwL_links_k15 dL_links_15 ?_
      exact hR _ _ _ _ _ _ (Or.inr (Or.inr (Or.inl ⟨rfl, hk, hm⟩))) (by decide) (by decide) dL_links_17
    · refine jx_catch Z hN (E := eS) [{ startPc := 0, endPc := 7, handlerPc := 8, catchType := 34 }, { startPc := 0, endPc := 7, handlerPc := 13, catchType := 13 }] { startPc := 0, endPc := 7, handlerPc := 18, catchType := 16 } [] (ht.trans rfl) (List.forall_mem_cons.mpr ⟨⟨by decide, eI, mwL_links_c34, by decide +kernel⟩, (List.forall_mem_cons.mpr ⟨⟨by decide, eA, mwL_links_c13, by decide +kernel⟩, (List.forall_mem_nil _)⟩)⟩) (by decide) (by decide) mwL_links_c16 (by decide +kernel) (fun q => ?_)
      refine j_astore Z dL_links_18 (by decide) ([(4, .ref q), (0, .ref (g.2.1 0)), (1, .int x), (2, .int y), (3, .int z)]) rfl ?_
      refine j_ldc Z mwL_links_k18 dL_links_20 ?_
      exact hR _ _ _ _ _ _ (Or.inr (Or.inr (Or.inr (⟨rfl, hk, hm⟩)))) (by decide) (by decide) dL_links_22
  refine j_callVxi Z (As := [.int x, .int y, .int z]) (rest := []) (nA := 3) 0 (by decide) rfl rfl (c_X5_link l hst g μ cnt lc wc hV x y z) gL_links_X5_link rfl rfl rfl (by decide +kernel) (by decide) rfl dL_links_4 rfl (Nat.le_of_ble_eq_true rfl) (by decide) jxE (fun r9 μ9 hp => ?_)
  obtain ⟨h1, h2, h3⟩ := hp
  subst h1
  subst h2
  exact hR _ _ _ _ _ _ (Or.inl ⟨rfl, h3, rfl⟩) (by decide) (by decide) dL_links_7
theorem mwL_impact_c34 : Cond.classLink RL 34 "java/lang/IndexOutOfBoundsException" ∈ wsL_impact := by decide +kernel
theorem mwL_impact_k36 : Cond.constant RL 36 (-2000000001) ∈ wsL_impact := by decide +kernel
theorem mwL_impact_c13 : Cond.classLink RL 13 "java/lang/IllegalArgumentException" ∈ wsL_impact := by decide +kernel
theorem mwL_impact_k15 : Cond.constant RL 15 (-2000000002) ∈ wsL_impact := by decide +kernel
theorem mwL_impact_c51 : Cond.classLink RL 51 "java/util/NoSuchElementException" ∈ wsL_impact := by decide +kernel
theorem mwL_impact_k53 : Cond.constant RL 53 (-2000000004) ∈ wsL_impact := by decide +kernel
set_option maxRecDepth 100000 in
set_option maxHeartbeats 4000000 in
theorem c_L_impact (l : Launch) (hst : l.stackTraces = false) (g : gC) (μ : gM) (cnt lc wc : Nat) (hV : gV μ cnt lc wc) (x z : Int32) : Met l yL_impact wsL_impact { frames := 9, cells := 3, slots := 18, locals := 154 } (va_Pc [.ref (g.2.1 0), .int x, .int z] (gBW g μ)) (va_Qi (fun (r : Int32) (μ' : gM) => (r = (nI (cB (fun k => !decide ((gFail μ (fSort μ cnt z (μ 23)) lc (ix ((fSort μ cnt z (μ 23)) (ix x)))) k = 0)) 60)) ∧ k3 (fndB cnt x) (inB z 0 9999) (!decide (fSort μ cnt z (μ 23) (ix x) = -1)) = 0 ∧ μ' = gR (gR μ 23 (fSort μ cnt z (μ 23))) 18 (gFail μ (fSort μ cnt z (μ 23)) lc (ix ((fSort μ cnt z (μ 23)) (ix x))))) ∨ (r = -2000000001 ∧ k3 (fndB cnt x) (inB z 0 9999) (!decide (fSort μ cnt z (μ 23) (ix x) = -1)) = 1 ∧ μ' = μ) ∨ (r = -2000000002 ∧ k3 (fndB cnt x) (inB z 0 9999) (!decide (fSort μ cnt z (μ 23) (ix x) = -1)) = 2 ∧ μ' = μ) ∨ (r = -2000000004 ∧ k3 (fndB cnt x) (inB z 0 9999) (!decide (fSort μ cnt z (μ 23) (ix x) = -1)) = 3 ∧ μ' = gR μ 23 (fSort μ cnt z (μ 23)))) (gPB g) (gA g)) 3 18 (gA g) := by
  refine g_oW (cc := cL_impact) (nL := 4) (hh := [(0, 6, 7, 34), (0, 6, 11, 13), (0, 6, 15, 51)]) (by decide +kernel) rfl (Nat.le_of_ble_eq_true rfl) ?_
  intro p e s m args below meth c Q Z ht hN hR
  refine j_aload_n Z dL_impact_0 0 rfl ?_
  refine j_iload_n Z dL_impact_1 1 rfl ?_
  refine j_iload_n Z dL_impact_2 2 rfl ?_
  have jxE : ∀ (E : String) (μx : gM), (fun (E : String) (μ' : gM) => (E = eI ∧ k3 (fndB cnt x) (inB z 0 9999) (!decide (fSort μ cnt z (μ 23) (ix x) = -1)) = 1 ∧ μ' = μ) ∨ (E = eA ∧ k3 (fndB cnt x) (inB z 0 9999) (!decide (fSort μ cnt z (μ 23) (ix x) = -1)) = 2 ∧ μ' = μ) ∨ (E = gNs ∧ k3 (fndB cnt x) (inB z 0 9999) (!decide (fSort μ cnt z (μ 23) (ix x) = -1)) = 3 ∧ μ' = gR μ 23 (fSort μ cnt z (μ 23)))) E μx → JX p l e { frames := 9, cells := 3, slots := 18, locals := 154 } s m args below meth c Q g 4 μx (0 + 3) (0 + 18) E 3 [(0, .ref (g.2.1 0)), (1, .int x), (2, .int z)] [] := by
    intro E μx hx
    rcases hx with ⟨rfl, hk, hm⟩ | ⟨rfl, hk, hm⟩ | ⟨rfl, hk, hm⟩
    · refine jx_catch Z hN (E := eI) [] { startPc := 0, endPc := 6, handlerPc := 7, catchType := 34 } [{ startPc := 0, endPc := 6, handlerPc := 11, catchType := 13 }, { startPc := 0, endPc := 6, handlerPc := 15, catchType := 51 }] (ht.trans rfl) (List.forall_mem_nil _) (by decide) (by decide) mwL_impact_c34 (by decide +kernel) (fun q => ?_)
      refine j_astore_n Z dL_impact_7 (by decide) ([(3, .ref q), (0, .ref (g.2.1 0)), (1, .int x), (2, .int z)]) rfl ?_
      refine j_ldc Z mwL_impact_k36 dL_impact_8 ?_
      exact hR _ _ _ _ _ _ (Or.inr (Or.inl ⟨rfl, hk, hm⟩)) (by decide) (by decide) dL_impact_10
    · refine jx_catch Z hN (E := eA) [{ startPc := 0, endPc := 6, handlerPc := 7, catchType := 34 }] { startPc := 0, endPc := 6, handlerPc := 11, catchType := 13 } [{ startPc := 0, endPc := 6, handlerPc := 15, catchType := 51 }] (ht.trans rfl) (List.forall_mem_cons.mpr ⟨⟨by decide, eI, mwL_impact_c34, by decide +kernel⟩, (List.forall_mem_nil _)⟩) (by decide) (by decide) mwL_impact_c13 (by decide +kernel) (fun q => ?_)
      refine j_astore_n Z dL_impact_11 (by decide) ([(3, .ref q), (0, .ref (g.2.1 0)), (1, .int x), (2, .int z)]) rfl ?_
      refine j_ldc Z mwL_impact_k15 dL_impact_12 ?_
      exact hR _ _ _ _ _ _ (Or.inr (Or.inr (Or.inl ⟨rfl, hk, hm⟩))) (by decide) (by decide) dL_impact_14
    · refine jx_catch Z hN (E := gNs) [{ startPc := 0, endPc := 6, handlerPc := 7, catchType := 34 }, { startPc := 0, endPc := 6, handlerPc := 11, catchType := 13 }] { startPc := 0, endPc := 6, handlerPc := 15, catchType := 51 } [] (ht.trans rfl) (List.forall_mem_cons.mpr ⟨⟨by decide, eI, mwL_impact_c34, by decide +kernel⟩, (List.forall_mem_cons.mpr ⟨⟨by decide, eA, mwL_impact_c13, by decide +kernel⟩, (List.forall_mem_nil _)⟩)⟩) (by decide) (by decide) mwL_impact_c51 (by decide +kernel) (fun q => ?_)
      refine j_astore_n Z dL_impact_15 (by decide) ([(3, .ref q), (0, .ref (g.2.1 0)), (1, .int x), (2, .int z)]) rfl ?_
      refine j_ldc Z mwL_impact_k53 dL_impact_16 ?_
      exact hR _ _ _ _ _ _ (Or.inr (Or.inr (Or.inr (⟨rfl, hk, hm⟩)))) (by decide) (by decide) dL_impact_18
  refine j_callVxi Z (As := [.int x, .int z]) (rest := []) (nA := 2) 0 (by decide) rfl rfl (c_X5_impact l hst g μ cnt lc wc hV x z) gL_impact_X5_impact rfl rfl rfl (by decide +kernel) (by decide) rfl dL_impact_3 rfl (Nat.le_of_ble_eq_true rfl) (by decide) jxE (fun r9 μ9 hp => ?_)
  obtain ⟨h1, h2, h3⟩ := hp
  subst h1
  subst h2
  exact hR _ _ _ _ _ _ (Or.inl ⟨rfl, h3, rfl⟩) (by decide) (by decide) dL_impact_6
theorem mwL_fails_c34 : Cond.classLink RL 34 "java/lang/IndexOutOfBoundsException" ∈ wsL_fails := by decide +kernel
theorem mwL_fails_k36 : Cond.constant RL 36 (-2000000001) ∈ wsL_fails := by decide +kernel
theorem mwL_fails_c13 : Cond.classLink RL 13 "java/lang/IllegalArgumentException" ∈ wsL_fails := by decide +kernel
theorem mwL_fails_k15 : Cond.constant RL 15 (-2000000002) ∈ wsL_fails := by decide +kernel
theorem mwL_fails_c51 : Cond.classLink RL 51 "java/util/NoSuchElementException" ∈ wsL_fails := by decide +kernel
theorem mwL_fails_k53 : Cond.constant RL 53 (-2000000004) ∈ wsL_fails := by decide +kernel
set_option maxRecDepth 100000 in
set_option maxHeartbeats 4000000 in
theorem c_L_fails (l : Launch) (hst : l.stackTraces = false) (g : gC) (μ : gM) (cnt lc wc : Nat) (hV : gV μ cnt lc wc) (x y z : Int32) : Met l yL_fails wsL_fails { frames := 9, cells := 5, slots := 30, locals := 155 } (va_Pc [.ref (g.2.1 0), .int x, .int y, .int z] (gBW g μ)) (va_Qi (fun (r : Int32) (μ' : gM) => (r = (zB (!decide ((gFail μ (fSort μ cnt z (μ 23)) lc (ix ((fSort μ cnt z (μ 23)) (ix y)))) (ix ((fSort μ cnt z (μ 23)) (ix x))) = 0))) ∧ k3 (fndB cnt x && fndB cnt y) (inB z 0 9999) (!decide (fSort μ cnt z (μ 23) (ix x) = -1) && !decide (fSort μ cnt z (μ 23) (ix y) = -1)) = 0 ∧ μ' = gR (gR μ 23 (fSort μ cnt z (μ 23))) 18 (gFail μ (fSort μ cnt z (μ 23)) lc (ix ((fSort μ cnt z (μ 23)) (ix y))))) ∨ (r = -2000000001 ∧ k3 (fndB cnt x && fndB cnt y) (inB z 0 9999) (!decide (fSort μ cnt z (μ 23) (ix x) = -1) && !decide (fSort μ cnt z (μ 23) (ix y) = -1)) = 1 ∧ μ' = μ) ∨ (r = -2000000002 ∧ k3 (fndB cnt x && fndB cnt y) (inB z 0 9999) (!decide (fSort μ cnt z (μ 23) (ix x) = -1) && !decide (fSort μ cnt z (μ 23) (ix y) = -1)) = 2 ∧ μ' = μ) ∨ (r = -2000000004 ∧ k3 (fndB cnt x && fndB cnt y) (inB z 0 9999) (!decide (fSort μ cnt z (μ 23) (ix x) = -1) && !decide (fSort μ cnt z (μ 23) (ix y) = -1)) = 3 ∧ μ' = gR μ 23 (fSort μ cnt z (μ 23)))) (gPB g) (gA g)) 5 30 (gA g) := by
  refine g_oW (cc := cL_fails) (nL := 5) (hh := [(0, 15, 16, 34), (0, 15, 21, 13), (0, 15, 26, 51)]) (by decide +kernel) rfl (Nat.le_of_ble_eq_true rfl) ?_
  intro p e s m args below meth c Q Z ht hN hR
  refine j_aload_n Z dL_fails_0 0 rfl ?_
  refine j_iload_n Z dL_fails_1 1 rfl ?_
  refine j_iload_n Z dL_fails_2 2 rfl ?_
  refine j_iload_n Z dL_fails_3 3 rfl ?_
  have jxE : ∀ (E : String) (μx : gM), (fun (E : String) (μ' : gM) => (E = eI ∧ k3 (fndB cnt x && fndB cnt y) (inB z 0 9999) (!decide (fSort μ cnt z (μ 23) (ix x) = -1) && !decide (fSort μ cnt z (μ 23) (ix y) = -1)) = 1 ∧ μ' = μ) ∨ (E = eA ∧ k3 (fndB cnt x && fndB cnt y) (inB z 0 9999) (!decide (fSort μ cnt z (μ 23) (ix x) = -1) && !decide (fSort μ cnt z (μ 23) (ix y) = -1)) = 2 ∧ μ' = μ) ∨ (E = gNs ∧ k3 (fndB cnt x && fndB cnt y) (inB z 0 9999) (!decide (fSort μ cnt z (μ 23) (ix x) = -1) && !decide (fSort μ cnt z (μ 23) (ix y) = -1)) = 3 ∧ μ' = gR μ 23 (fSort μ cnt z (μ 23)))) E μx → JX p l e { frames := 9, cells := 5, slots := 30, locals := 155 } s m args below meth c Q g 5 μx (0 + 5) (0 + 30) E 4 [(0, .ref (g.2.1 0)), (1, .int x), (2, .int y), (3, .int z)] [] := by
    intro E μx hx
    rcases hx with ⟨rfl, hk, hm⟩ | ⟨rfl, hk, hm⟩ | ⟨rfl, hk, hm⟩
    · refine jx_catch Z hN (E := eI) [] { startPc := 0, endPc := 15, handlerPc := 16, catchType := 34 } [{ startPc := 0, endPc := 15, handlerPc := 21, catchType := 13 }, { startPc := 0, endPc := 15, handlerPc := 26, catchType := 51 }] (ht.trans rfl) (List.forall_mem_nil _) (by decide) (by decide) mwL_fails_c34 (by decide +kernel) (fun q => ?_)
      refine j_astore Z dL_fails_16 (by decide) ([(4, .ref q), (0, .ref (g.2.1 0)), (1, .int x), (2, .int y), (3, .int z)]) rfl ?_
      refine j_ldc Z mwL_fails_k36 dL_fails_18 ?_
      exact hR _ _ _ _ _ _ (Or.inr (Or.inl ⟨rfl, hk, hm⟩)) (by decide) (by decide) dL_fails_20
    · refine jx_catch Z hN (E := eA) [{ startPc := 0, endPc := 15, handlerPc := 16, catchType := 34 }] { startPc := 0, endPc := 15, handlerPc := 21, catchType := 13 } [{ startPc := 0, endPc := 15, handlerPc := 26, catchType := 51 }] (ht.trans rfl) (List.forall_mem_cons.mpr ⟨⟨by decide, eI, mwL_fails_c34, by decide +kernel⟩, (List.forall_mem_nil _)⟩) (by decide) (by decide) mwL_fails_c13 (by decide +kernel) (fun q => ?_)
      refine j_astore Z dL_fails_21 (by decide) ([(4, .ref q), (0, .ref (g.2.1 0)), (1, .int x), (2, .int y), (3, .int z)]) rfl ?_
      refine j_ldc Z mwL_fails_k15 dL_fails_23 ?_
      exact hR _ _ _ _ _ _ (Or.inr (Or.inr (Or.inl ⟨rfl, hk, hm⟩))) (by decide) (by decide) dL_fails_25
    · refine jx_catch Z hN (E := gNs) [{ startPc := 0, endPc := 15, handlerPc := 16, catchType := 34 }, { startPc := 0, endPc := 15, handlerPc := 21, catchType := 13 }] { startPc := 0, endPc := 15, handlerPc := 26, catchType := 51 } [] (ht.trans rfl) (List.forall_mem_cons.mpr ⟨⟨by decide, eI, mwL_fails_c34, by decide +kernel⟩, (List.forall_mem_cons.mpr ⟨⟨by decide, eA, mwL_fails_c13, by decide +kernel⟩, (List.forall_mem_nil _)⟩)⟩) (by decide) (by decide) mwL_fails_c51 (by decide +kernel) (fun q => ?_)
      refine j_astore Z dL_fails_26 (by decide) ([(4, .ref q), (0, .ref (g.2.1 0)), (1, .int x), (2, .int y), (3, .int z)]) rfl ?_
      refine j_ldc Z mwL_fails_k53 dL_fails_28 ?_
      exact hR _ _ _ _ _ _ (Or.inr (Or.inr (Or.inr (⟨rfl, hk, hm⟩)))) (by decide) (by decide) dL_fails_30
  refine j_callVxi Z (As := [.int x, .int y, .int z]) (rest := []) (nA := 3) 0 (by decide) rfl rfl (c_X5_failsWith l hst g μ cnt lc wc hV x y z) gL_fails_X5_failsWith rfl rfl rfl (by decide +kernel) (by decide) rfl dL_fails_4 rfl (Nat.le_of_ble_eq_true rfl) (by decide) jxE (fun r9 μ9 hp => ?_)
  obtain ⟨h1, h2, h3⟩ := hp
  subst h1
  subst h2
  refine j_if_eq Z 14 dL_fails_7 (by decide) (fun h9 => ?_) (fun h9 => ?_)
  · refine j_iconst Z (v := 0) dL_fails_14 (by decide) ?_
    exact hR _ _ _ _ _ _ (Or.inl ⟨h9.symm, h3, rfl⟩) (by decide) (by decide) dL_fails_15
  · refine j_iconst Z (v := 1) dL_fails_10 (by decide) ?_
    refine j_goto Z 15 dL_fails_11 (by decide) ?_
    exact hR _ _ _ _ _ _ (Or.inl ⟨(zB_one h9).symm, h3, rfl⟩) (by decide) (by decide) dL_fails_15
theorem mwL_wishes_c13 : Cond.classLink RL 13 "java/lang/IllegalArgumentException" ∈ wsL_wishes := by decide +kernel
theorem mwL_wishes_k15 : Cond.constant RL 15 (-2000000002) ∈ wsL_wishes := by decide +kernel
theorem mwL_wishes_c16 : Cond.classLink RL 16 "java/lang/IllegalStateException" ∈ wsL_wishes := by decide +kernel
theorem mwL_wishes_k18 : Cond.constant RL 18 (-2000000003) ∈ wsL_wishes := by decide +kernel
set_option maxRecDepth 100000 in
set_option maxHeartbeats 4000000 in
theorem c_L_wishes (l : Launch) (hst : l.stackTraces = false) (g : gC) (μ : gM) (cnt lc wc : Nat) (hV : gV μ cnt lc wc) (a1 a2 a3 a4 : Int32) : Met l yL_wishes wsL_wishes { frames := 9, cells := 5, slots := 30, locals := 156 } (va_Pc [.ref (g.2.1 0), .int a1, .int a2, .int a3, .int a4] (gBW g μ)) (va_Qi (fun (r : Int32) (μ' : gM) => (r = (nI wc) ∧ k2 (inB a1 0 2 && inB a2 1 99 && inB a3 0 1 && inB a4 0 99) (decide (wc < 20)) = 0 ∧ μ' = (gU (gU (gU (gU (gU μ 19 wc a1) 20 wc a2) 21 wc a3) 22 wc a4) 4 0 (nI (wc + 1)))) ∨ (r = -2000000002 ∧ k2 (inB a1 0 2 && inB a2 1 99 && inB a3 0 1 && inB a4 0 99) (decide (wc < 20)) = 1 ∧ μ' = μ) ∨ (r = -2000000003 ∧ k2 (inB a1 0 2 && inB a2 1 99 && inB a3 0 1 && inB a4 0 99) (decide (wc < 20)) = 2 ∧ μ' = μ)) (gPB g) (gA g)) 5 30 (gA g) := by
  refine g_oW (cc := cL_wishes) (nL := 6) (hh := [(0, 9, 10, 13), (0, 9, 15, 16)]) (by decide +kernel) rfl (Nat.le_of_ble_eq_true rfl) ?_
  intro p e s m args below meth c Q Z ht hN hR
  refine j_aload_n Z dL_wishes_0 0 rfl ?_
  refine j_iload_n Z dL_wishes_1 1 rfl ?_
  refine j_iload_n Z dL_wishes_2 2 rfl ?_
  refine j_iload_n Z dL_wishes_3 3 rfl ?_
  refine j_iload Z dL_wishes_4 4 rfl ?_
  have jxE : ∀ (E : String) (μx : gM), (fun (E : String) (μ' : gM) => (E = eA ∧ k2 (inB a1 0 2 && inB a2 1 99 && inB a3 0 1 && inB a4 0 99) (decide (wc < 20)) = 1 ∧ μ' = μ) ∨ (E = eS ∧ k2 (inB a1 0 2 && inB a2 1 99 && inB a3 0 1 && inB a4 0 99) (decide (wc < 20)) = 2 ∧ μ' = μ)) E μx → JX p l e { frames := 9, cells := 5, slots := 30, locals := 156 } s m args below meth c Q g 6 μx (0 + 5) (0 + 30) E 6 [(0, .ref (g.2.1 0)), (1, .int a1), (2, .int a2), (3, .int a3), (4, .int a4)] [] := by
    intro E μx hx
    rcases hx with ⟨rfl, hk, hm⟩ | ⟨rfl, hk, hm⟩
    · refine jx_catch Z hN (E := eA) [] { startPc := 0, endPc := 9, handlerPc := 10, catchType := 13 } [{ startPc := 0, endPc := 9, handlerPc := 15, catchType := 16 }] (ht.trans rfl) (List.forall_mem_nil _) (by decide) (by decide) mwL_wishes_c13 (by decide +kernel) (fun q => ?_)
      refine j_astore Z dL_wishes_10 (by decide) ([(5, .ref q), (0, .ref (g.2.1 0)), (1, .int a1), (2, .int a2), (3, .int a3), (4, .int a4)]) rfl ?_
      refine j_ldc Z mwL_wishes_k15 dL_wishes_12 ?_
      exact hR _ _ _ _ _ _ (Or.inr (Or.inl ⟨rfl, hk, hm⟩)) (by decide) (by decide) dL_wishes_14
    · refine jx_catch Z hN (E := eS) [{ startPc := 0, endPc := 9, handlerPc := 10, catchType := 13 }] { startPc := 0, endPc := 9, handlerPc := 15, catchType := 16 } [] (ht.trans rfl) (List.forall_mem_cons.mpr ⟨⟨by decide, eA, mwL_wishes_c13, by decide +kernel⟩, (List.forall_mem_nil _)⟩) (by decide) (by decide) mwL_wishes_c16 (by decide +kernel) (fun q => ?_)
      refine j_astore Z dL_wishes_15 (by decide) ([(5, .ref q), (0, .ref (g.2.1 0)), (1, .int a1), (2, .int a2), (3, .int a3), (4, .int a4)]) rfl ?_
      refine j_ldc Z mwL_wishes_k18 dL_wishes_17 ?_
      exact hR _ _ _ _ _ _ (Or.inr (Or.inr (⟨rfl, hk, hm⟩))) (by decide) (by decide) dL_wishes_19
  refine j_callVxi Z (As := [.int a1, .int a2, .int a3, .int a4]) (rest := []) (nA := 4) 0 (by decide) rfl rfl (c_X5_wish l hst g μ cnt lc wc hV a1 a2 a3 a4) gL_wishes_X5_wish rfl rfl rfl (by decide +kernel) (by decide) rfl dL_wishes_6 rfl (Nat.le_of_ble_eq_true rfl) (by decide) jxE (fun r9 μ9 hp => ?_)
  obtain ⟨h1, h2, h3⟩ := hp
  subst h1
  subst h2
  exact hR _ _ _ _ _ _ (Or.inl ⟨rfl, h3, rfl⟩) (by decide) (by decide) dL_wishes_9
theorem mwL_differing_c34 : Cond.classLink RL 34 "java/lang/IndexOutOfBoundsException" ∈ wsL_differing := by decide +kernel
theorem mwL_differing_k36 : Cond.constant RL 36 (-2000000001) ∈ wsL_differing := by decide +kernel
theorem mwL_differing_c13 : Cond.classLink RL 13 "java/lang/IllegalArgumentException" ∈ wsL_differing := by decide +kernel
theorem mwL_differing_k15 : Cond.constant RL 15 (-2000000002) ∈ wsL_differing := by decide +kernel
set_option maxRecDepth 100000 in
set_option maxHeartbeats 4000000 in
theorem c_L_differing (l : Launch) (hst : l.stackTraces = false) (g : gC) (μ : gM) (cnt lc wc : Nat) (hV : gV μ cnt lc wc) (x z : Int32) : Met l yL_differing wsL_differing { frames := 9, cells := 1, slots := 6, locals := 156 } (va_Pc [.ref (g.2.1 0), .int x, .int z] (gBW g μ)) (va_Qi (fun (r : Int32) (μ' : gM) => (r = (nI (cB (fun k => decide ((fSort μ cnt z (μ 23)) k = nI k) && (hMark (fSort μ cnt z (μ 23)) (μ (26 + ix (μ 19 (ix x)))) (nI k) (μ 20 (ix x)) cnt && !decide (aVal (fSort μ cnt z (μ 23)) (μ (29 + ix (μ 21 (ix x)))) (fPl μ) (nI k) cnt = μ 22 (ix x)))) cnt)) ∧ k2 (fndB wc x) (inB z 0 9999) = 0 ∧ μ' = gR μ 23 (fSort μ cnt z (μ 23))) ∨ (r = -2000000001 ∧ k2 (fndB wc x) (inB z 0 9999) = 1 ∧ μ' = μ) ∨ (r = -2000000002 ∧ k2 (fndB wc x) (inB z 0 9999) = 2 ∧ μ' = μ)) (gPB g) (gA g)) 1 6 (gA g) := by
  refine g_oW (cc := cL_differing) (nL := 4) (hh := [(0, 6, 7, 34), (0, 6, 11, 13)]) (by decide +kernel) rfl (Nat.le_of_ble_eq_true rfl) ?_
  intro p e s m args below meth c Q Z ht hN hR
  refine j_aload_n Z dL_differing_0 0 rfl ?_
  refine j_iload_n Z dL_differing_1 1 rfl ?_
  refine j_iload_n Z dL_differing_2 2 rfl ?_
  have jxE : ∀ (E : String) (μx : gM), (fun (E : String) (μ' : gM) => (E = eI ∧ k2 (fndB wc x) (inB z 0 9999) = 1 ∧ μ' = μ) ∨ (E = eA ∧ k2 (fndB wc x) (inB z 0 9999) = 2 ∧ μ' = μ)) E μx → JX p l e { frames := 9, cells := 1, slots := 6, locals := 156 } s m args below meth c Q g 4 μx (0 + 1) (0 + 6) E 3 [(0, .ref (g.2.1 0)), (1, .int x), (2, .int z)] [] := by
    intro E μx hx
    rcases hx with ⟨rfl, hk, hm⟩ | ⟨rfl, hk, hm⟩
    · refine jx_catch Z hN (E := eI) [] { startPc := 0, endPc := 6, handlerPc := 7, catchType := 34 } [{ startPc := 0, endPc := 6, handlerPc := 11, catchType := 13 }] (ht.trans rfl) (List.forall_mem_nil _) (by decide) (by decide) mwL_differing_c34 (by decide +kernel) (fun q => ?_)
      refine j_astore_n Z dL_differing_7 (by decide) ([(3, .ref q), (0, .ref (g.2.1 0)), (1, .int x), (2, .int z)]) rfl ?_
      refine j_ldc Z mwL_differing_k36 dL_differing_8 ?_
      exact hR _ _ _ _ _ _ (Or.inr (Or.inl ⟨rfl, hk, hm⟩)) (by decide) (by decide) dL_differing_10
    · refine jx_catch Z hN (E := eA) [{ startPc := 0, endPc := 6, handlerPc := 7, catchType := 34 }] { startPc := 0, endPc := 6, handlerPc := 11, catchType := 13 } [] (ht.trans rfl) (List.forall_mem_cons.mpr ⟨⟨by decide, eI, mwL_differing_c34, by decide +kernel⟩, (List.forall_mem_nil _)⟩) (by decide) (by decide) mwL_differing_c13 (by decide +kernel) (fun q => ?_)
      refine j_astore_n Z dL_differing_11 (by decide) ([(3, .ref q), (0, .ref (g.2.1 0)), (1, .int x), (2, .int z)]) rfl ?_
      refine j_ldc Z mwL_differing_k15 dL_differing_12 ?_
      exact hR _ _ _ _ _ _ (Or.inr (Or.inr (⟨rfl, hk, hm⟩))) (by decide) (by decide) dL_differing_14
  refine j_callVxi Z (As := [.int x, .int z]) (rest := []) (nA := 2) 0 (by decide) rfl rfl (c_X5_differing l hst g μ cnt lc wc hV x z) gL_differing_X5_differing rfl rfl rfl (by decide +kernel) (by decide) rfl dL_differing_3 rfl (Nat.le_of_ble_eq_true rfl) (by decide) jxE (fun r9 μ9 hp => ?_)
  obtain ⟨h1, h2, h3⟩ := hp
  subst h1
  subst h2
  exact hR _ _ _ _ _ _ (Or.inl ⟨rfl, h3, rfl⟩) (by decide) (by decide) dL_differing_6
theorem mwL_changed_c13 : Cond.classLink RL 13 "java/lang/IllegalArgumentException" ∈ wsL_changed := by decide +kernel
theorem mwL_changed_k15 : Cond.constant RL 15 (-2000000002) ∈ wsL_changed := by decide +kernel
set_option maxRecDepth 100000 in
set_option maxHeartbeats 4000000 in
theorem c_L_changed (l : Launch) (hst : l.stackTraces = false) (g : gC) (μ : gM) (cnt lc wc : Nat) (hV : gV μ cnt lc wc) (a y z : Int32) : Met l yL_changed wsL_changed { frames := 9, cells := 3, slots := 18, locals := 157 } (va_Pc [.ref (g.2.1 0), .int a, .int y, .int z] (gBW g μ)) (va_Qi (fun (r : Int32) (μ' : gM) => (r = (nI (cB (fun k => havB (fSort μ cnt y (μ 23)) (fSort μ cnt z (μ 24)) (μ (29 + (ix a))) (fPl μ) cnt k) cnt)) ∧ k1 (inB a 0 1 && inB y 0 9999 && inB z 0 9999) = 0 ∧ μ' = gR (gR μ 23 (fSort μ cnt y (μ 23))) 24 (fSort μ cnt z (μ 24))) ∨ (r = -2000000002 ∧ k1 (inB a 0 1 && inB y 0 9999 && inB z 0 9999) = 1 ∧ μ' = μ)) (gPB g) (gA g)) 3 18 (gA g) := by
  refine g_oW (cc := cL_changed) (nL := 5) (hh := [(0, 7, 8, 13)]) (by decide +kernel) rfl (Nat.le_of_ble_eq_true rfl) ?_
  intro p e s m args below meth c Q Z ht hN hR
  refine j_aload_n Z dL_changed_0 0 rfl ?_
  refine j_iload_n Z dL_changed_1 1 rfl ?_
  refine j_iload_n Z dL_changed_2 2 rfl ?_
  refine j_iload_n Z dL_changed_3 3 rfl ?_
  have jxE : ∀ (E : String) (μx : gM), (fun (E : String) (μ' : gM) => (E = eA ∧ k1 (inB a 0 1 && inB y 0 9999 && inB z 0 9999) = 1 ∧ μ' = μ)) E μx → JX p l e { frames := 9, cells := 3, slots := 18, locals := 157 } s m args below meth c Q g 5 μx (0 + 3) (0 + 18) E 4 [(0, .ref (g.2.1 0)), (1, .int a), (2, .int y), (3, .int z)] [] := by
    intro E μx hx
    rcases hx with ⟨rfl, hk, hm⟩
    · refine jx_catch Z hN (E := eA) [] { startPc := 0, endPc := 7, handlerPc := 8, catchType := 13 } [] (ht.trans rfl) (List.forall_mem_nil _) (by decide) (by decide) mwL_changed_c13 (by decide +kernel) (fun q => ?_)
      refine j_astore Z dL_changed_8 (by decide) ([(4, .ref q), (0, .ref (g.2.1 0)), (1, .int a), (2, .int y), (3, .int z)]) rfl ?_
      refine j_ldc Z mwL_changed_k15 dL_changed_10 ?_
      exact hR _ _ _ _ _ _ (Or.inr (⟨rfl, hk, hm⟩)) (by decide) (by decide) dL_changed_12
  refine j_callVxi Z (As := [.int a, .int y, .int z]) (rest := []) (nA := 3) 0 (by decide) rfl rfl (c_X5_changed l hst g μ cnt lc wc hV a y z) gL_changed_X5_changed rfl rfl rfl (by decide +kernel) (by decide) rfl dL_changed_4 rfl (Nat.le_of_ble_eq_true rfl) (by decide) jxE (fun r9 μ9 hp => ?_)
  obtain ⟨h1, h2, h3⟩ := hp
  subst h1
  subst h2
  exact hR _ _ _ _ _ _ (Or.inl ⟨rfl, h3, rfl⟩) (by decide) (by decide) dL_changed_7
