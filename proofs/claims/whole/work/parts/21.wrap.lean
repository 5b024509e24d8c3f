theorem mwL_pass_c13 : Cond.classLink RL 13 "java/lang/IllegalArgumentException" ∈ wsL_pass := by decide +kernel
theorem mwL_pass_c15 : Cond.classLink RL 15 "java/lang/IllegalStateException" ∈ wsL_pass := by decide +kernel
set_option maxRecDepth 100000 in
set_option maxHeartbeats 4000000 in
theorem c_L_pass (l : Launch) (hst : l.stackTraces = false) (g : gC) (μ : gM) (cnt lc wc : Nat) (hV : gV μ cnt lc wc) (x : Int32) : Met l yL_pass wsL_pass { frames := 8, cells := 2, slots := 12, locals := 133 } (va_Pc [.ref (g.2.1 0), .int x, .ref (g.2.1 25)] (gBW g μ)) (va_Qi (fun (r : Int32) (μ' : gM) => (r = 0 ∧ k2 (inB x 1 1000) (decide (μ 0 0 + x ≤ 9999)) = 0 ∧ μ' = gU (gU μ 0 0 (μ 0 0 + x)) 25 0 (μ 0 0 + x)) ∨ (r = 1 ∧ k2 (inB x 1 1000) (decide (μ 0 0 + x ≤ 9999)) = 1 ∧ μ' = μ) ∨ (r = 2 ∧ k2 (inB x 1 1000) (decide (μ 0 0 + x ≤ 9999)) = 2 ∧ μ' = μ)) (gPB g) (gA g)) 2 12 (gA g) := by
  refine g_oW (cc := cL_pass) (nL := 4) (hh := [(0, 9, 12, 13), (0, 9, 15, 15)]) (by decide +kernel) rfl (Nat.le_of_ble_eq_true rfl) ?_
  intro p e s m args below meth c Q Z ht hN hR
  refine j_aload_n Z dL_pass_0 2 rfl ?_
  refine j_iconst Z (v := 0) dL_pass_1 (by decide) ?_
  refine j_aload_n Z dL_pass_2 0 rfl ?_
  refine j_iload_n Z dL_pass_3 1 rfl ?_
  have jxE : ∀ (E : String) (μx : gM), (fun (E : String) (μ' : gM) => (E = eA ∧ k2 (inB x 1 1000) (decide (μ 0 0 + x ≤ 9999)) = 1 ∧ μ' = μ) ∨ (E = eS ∧ k2 (inB x 1 1000) (decide (μ 0 0 + x ≤ 9999)) = 2 ∧ μ' = μ)) E μx → JX p l e { frames := 8, cells := 2, slots := 12, locals := 133 } s m args below meth c Q g 4 μx (0 + 2) (0 + 12) E 4 [(0, .ref (g.2.1 0)), (1, .int x), (2, .ref (g.2.1 25))] [.int 0, .ref (g.2.1 25)] := by
    intro E μx hx
    rcases hx with ⟨rfl, hk, hm⟩ | ⟨rfl, hk, hm⟩
    · refine jx_catch Z hN (E := eA) [] { startPc := 0, endPc := 9, handlerPc := 12, catchType := 13 } [{ startPc := 0, endPc := 9, handlerPc := 15, catchType := 15 }] (ht.trans rfl) (List.forall_mem_nil _) (by decide) (by decide) mwL_pass_c13 (by decide +kernel) (fun q => ?_)
      refine j_astore_n Z dL_pass_12 (by decide) ([(3, .ref q), (0, .ref (g.2.1 0)), (1, .int x), (2, .ref (g.2.1 25))]) rfl ?_
      refine j_iconst Z (v := 1) dL_pass_13 (by decide) ?_
      exact hR _ _ _ _ _ _ (Or.inr (Or.inl ⟨rfl, hk, hm⟩)) (by decide) (by decide) dL_pass_14
    · refine jx_catch Z hN (E := eS) [{ startPc := 0, endPc := 9, handlerPc := 12, catchType := 13 }] { startPc := 0, endPc := 9, handlerPc := 15, catchType := 15 } [] (ht.trans rfl) (List.forall_mem_cons.mpr ⟨⟨by decide, eA, mwL_pass_c13, by decide +kernel⟩, (List.forall_mem_nil _)⟩) (by decide) (by decide) mwL_pass_c15 (by decide +kernel) (fun q => ?_)
      refine j_astore_n Z dL_pass_15 (by decide) ([(3, .ref q), (0, .ref (g.2.1 0)), (1, .int x), (2, .ref (g.2.1 25))]) rfl ?_
      refine j_iconst Z (v := 2) dL_pass_16 (by decide) ?_
      exact hR _ _ _ _ _ _ (Or.inr (Or.inr (⟨rfl, hk, hm⟩))) (by decide) (by decide) dL_pass_17
  refine j_callVxi Z (As := [.int x]) (rest := [.int 0, .ref (g.2.1 25)]) (nA := 1) 0 (by decide) rfl rfl (c_X5_pass l hst g μ cnt lc wc hV x) gL_pass_X5_pass rfl rfl rfl (by decide +kernel) (by decide) rfl dL_pass_4 rfl (Nat.le_of_ble_eq_true rfl) (by decide) jxE (fun r9 μ9 hp => ?_)
  obtain ⟨h1, h2, h3⟩ := hp
  subst h1
  subst h2
  refine j_i2l Z dL_pass_7 rfl ?_
  refine j_lst Z 25 (by decide) (fun _ => rfl) (v := μ 0 0 + x) rfl 0 (by decide) (by decide) (by decide) dL_pass_8 ?_
  refine j_goto Z 18 dL_pass_9 (by decide) ?_
  refine j_iconst Z (v := 0) dL_pass_18 (by decide) ?_
  exact hR _ _ _ _ _ _ (Or.inl ⟨rfl, h3, rfl⟩) (by decide) (by decide) dL_pass_19
theorem mwL_setTerm_c13 : Cond.classLink RL 13 "java/lang/IllegalArgumentException" ∈ wsL_setTerm := by decide +kernel
set_option maxRecDepth 100000 in
set_option maxHeartbeats 4000000 in
theorem c_L_setTerm (l : Launch) (hst : l.stackTraces = false) (g : gC) (μ : gM) (cnt lc wc : Nat) (hV : gV μ cnt lc wc) (x y : Int32) : Met l yL_setTerm wsL_setTerm { frames := 8, cells := 2, slots := 12, locals := 135 } (va_Pc [.ref (g.2.1 0), .int x, .int y, .ref (g.2.1 25)] (gBW g μ)) (va_Qi (fun (r : Int32) (μ' : gM) => (r = 0 ∧ k1 (inB x 0 3 && inB y 1 999) = 0 ∧ μ' = gU (gU μ 7 (ix x) y) 25 0 (μ 7 (ix x))) ∨ (r = 1 ∧ k1 (inB x 0 3 && inB y 1 999) = 1 ∧ μ' = μ)) (gPB g) (gA g)) 2 12 (gA g) := by
  refine g_oW (cc := cL_setTerm) (nL := 5) (hh := [(0, 10, 13, 13)]) (by decide +kernel) rfl (Nat.le_of_ble_eq_true rfl) ?_
  intro p e s m args below meth c Q Z ht hN hR
  refine j_aload_n Z dL_setTerm_0 3 rfl ?_
  refine j_iconst Z (v := 0) dL_setTerm_1 (by decide) ?_
  refine j_aload_n Z dL_setTerm_2 0 rfl ?_
  refine j_iload_n Z dL_setTerm_3 1 rfl ?_
  refine j_iload_n Z dL_setTerm_4 2 rfl ?_
  have jxE : ∀ (E : String) (μx : gM), (fun (E : String) (μ' : gM) => (E = eA ∧ k1 (inB x 0 3 && inB y 1 999) = 1 ∧ μ' = μ)) E μx → JX p l e { frames := 8, cells := 2, slots := 12, locals := 135 } s m args below meth c Q g 5 μx (0 + 2) (0 + 12) E 5 [(0, .ref (g.2.1 0)), (1, .int x), (2, .int y), (3, .ref (g.2.1 25))] [.int 0, .ref (g.2.1 25)] := by
    intro E μx hx
    rcases hx with ⟨rfl, hk, hm⟩
    · refine jx_catch Z hN (E := eA) [] { startPc := 0, endPc := 10, handlerPc := 13, catchType := 13 } [] (ht.trans rfl) (List.forall_mem_nil _) (by decide) (by decide) mwL_setTerm_c13 (by decide +kernel) (fun q => ?_)
      refine j_astore Z dL_setTerm_13 (by decide) ([(4, .ref q), (0, .ref (g.2.1 0)), (1, .int x), (2, .int y), (3, .ref (g.2.1 25))]) rfl ?_
      refine j_iconst Z (v := 1) dL_setTerm_15 (by decide) ?_
      exact hR _ _ _ _ _ _ (Or.inr (⟨rfl, hk, hm⟩)) (by decide) (by decide) dL_setTerm_16
  refine j_callVxi Z (As := [.int x, .int y]) (rest := [.int 0, .ref (g.2.1 25)]) (nA := 2) 0 (by decide) rfl rfl (c_X5_setTerm l hst g μ cnt lc wc hV x y) gL_setTerm_X5_setTerm rfl rfl rfl (by decide +kernel) (by decide) rfl dL_setTerm_5 rfl (Nat.le_of_ble_eq_true rfl) (by decide) jxE (fun r9 μ9 hp => ?_)
  obtain ⟨h1, h2, h3⟩ := hp
  subst h1
  subst h2
  refine j_i2l Z dL_setTerm_8 rfl ?_
  refine j_lst Z 25 (by decide) (fun _ => rfl) (v := μ 7 (ix x)) rfl 0 (by decide) (by decide) (by decide) dL_setTerm_9 ?_
  refine j_goto Z 17 dL_setTerm_10 (by decide) ?_
  refine j_iconst Z (v := 0) dL_setTerm_17 (by decide) ?_
  exact hR _ _ _ _ _ _ (Or.inl ⟨rfl, h3, rfl⟩) (by decide) (by decide) dL_setTerm_18
theorem mwL_putFirst_c13 : Cond.classLink RL 13 "java/lang/IllegalArgumentException" ∈ wsL_putFirst := by decide +kernel
set_option maxRecDepth 100000 in
set_option maxHeartbeats 4000000 in
theorem c_L_putFirst (l : Launch) (hst : l.stackTraces = false) (g : gC) (μ : gM) (cnt lc wc : Nat) (hV : gV μ cnt lc wc) (x : Int32) : Met l yL_putFirst wsL_putFirst { frames := 8, cells := 1, slots := 6, locals := 133 } (va_Pc [.ref (g.2.1 0), .int x, .ref (g.2.1 25)] (gBW g μ)) (va_Qi (fun (r : Int32) (μ' : gM) => (r = 0 ∧ k1 (inB x 0 3) = 0 ∧ μ' = gU (gR μ 8 (upd (pMv 4 (μ 8 (ix x)) (μ 8)) (ix x) 0)) 25 0 (μ 8 (ix x))) ∨ (r = 1 ∧ k1 (inB x 0 3) = 1 ∧ μ' = μ)) (gPB g) (gA g)) 1 6 (gA g) := by
  refine g_oW (cc := cL_putFirst) (nL := 4) (hh := [(0, 9, 12, 13)]) (by decide +kernel) rfl (Nat.le_of_ble_eq_true rfl) ?_
  intro p e s m args below meth c Q Z ht hN hR
  refine j_aload_n Z dL_putFirst_0 2 rfl ?_
  refine j_iconst Z (v := 0) dL_putFirst_1 (by decide) ?_
  refine j_aload_n Z dL_putFirst_2 0 rfl ?_
  refine j_iload_n Z dL_putFirst_3 1 rfl ?_
  have jxE : ∀ (E : String) (μx : gM), (fun (E : String) (μ' : gM) => (E = eA ∧ k1 (inB x 0 3) = 1 ∧ μ' = μ)) E μx → JX p l e { frames := 8, cells := 1, slots := 6, locals := 133 } s m args below meth c Q g 4 μx (0 + 1) (0 + 6) E 4 [(0, .ref (g.2.1 0)), (1, .int x), (2, .ref (g.2.1 25))] [.int 0, .ref (g.2.1 25)] := by
    intro E μx hx
    rcases hx with ⟨rfl, hk, hm⟩
    · refine jx_catch Z hN (E := eA) [] { startPc := 0, endPc := 9, handlerPc := 12, catchType := 13 } [] (ht.trans rfl) (List.forall_mem_nil _) (by decide) (by decide) mwL_putFirst_c13 (by decide +kernel) (fun q => ?_)
      refine j_astore_n Z dL_putFirst_12 (by decide) ([(3, .ref q), (0, .ref (g.2.1 0)), (1, .int x), (2, .ref (g.2.1 25))]) rfl ?_
      refine j_iconst Z (v := 1) dL_putFirst_13 (by decide) ?_
      exact hR _ _ _ _ _ _ (Or.inr (⟨rfl, hk, hm⟩)) (by decide) (by decide) dL_putFirst_14
  refine j_callVxi Z (As := [.int x]) (rest := [.int 0, .ref (g.2.1 25)]) (nA := 1) 0 (by decide) rfl rfl (c_X5_putFirst l hst g μ cnt lc wc hV x) gL_putFirst_X5_putFirst rfl rfl rfl (by decide +kernel) (by decide) rfl dL_putFirst_4 rfl (Nat.le_of_ble_eq_true rfl) (by decide) jxE (fun r9 μ9 hp => ?_)
  obtain ⟨h1, h2, h3⟩ := hp
  subst h1
  subst h2
  refine j_i2l Z dL_putFirst_7 rfl ?_
  refine j_lst Z 25 (by decide) (fun _ => rfl) (v := μ 8 (ix x)) rfl 0 (by decide) (by decide) (by decide) dL_putFirst_8 ?_
  refine j_goto Z 15 dL_putFirst_9 (by decide) ?_
  refine j_iconst Z (v := 0) dL_putFirst_15 (by decide) ?_
  exact hR _ _ _ _ _ _ (Or.inl ⟨rfl, h3, rfl⟩) (by decide) (by decide) dL_putFirst_16
theorem mwL_find_c13 : Cond.classLink RL 13 "java/lang/IllegalArgumentException" ∈ wsL_find := by decide +kernel
theorem mwL_find_c15 : Cond.classLink RL 15 "java/lang/IllegalStateException" ∈ wsL_find := by decide +kernel
set_option maxRecDepth 100000 in
set_option maxHeartbeats 4000000 in
theorem c_L_find (l : Launch) (hst : l.stackTraces = false) (g : gC) (μ : gM) (cnt lc wc : Nat) (hV : gV μ cnt lc wc) (a1 a2 a3 a4 a5 a6 : Int32) : Met l yL_find wsL_find { frames := 8, cells := 7, slots := 42, locals := 139 } (va_Pc [.ref (g.2.1 0), .int a1, .int a2, .int a3, .int a4, .int a5, .int a6, .ref (g.2.1 25)] (gBW g μ)) (va_Qi (fun (r : Int32) (μ' : gM) => (r = 0 ∧ k2 (inB a1 0 3 && inB a2 0 99 && inB a3 0 99 && inB a4 0 99 && inB a5 (-1) 99 && inB a6 (-1) 99) (decide (cnt < 60)) = 0 ∧ μ' = gU (gU (gU (gU (gU (gU (gU (gU (gU μ 9 cnt a1) 10 cnt (μ 0 0)) 2 0 (nI (cnt + 1))) 26 cnt a2) 27 cnt a3) 28 cnt a4) 29 cnt a5) 30 cnt a6) 25 0 (nI cnt)) ∨ (r = 1 ∧ k2 (inB a1 0 3 && inB a2 0 99 && inB a3 0 99 && inB a4 0 99 && inB a5 (-1) 99 && inB a6 (-1) 99) (decide (cnt < 60)) = 1 ∧ μ' = μ) ∨ (r = 2 ∧ k2 (inB a1 0 3 && inB a2 0 99 && inB a3 0 99 && inB a4 0 99 && inB a5 (-1) 99 && inB a6 (-1) 99) (decide (cnt < 60)) = 2 ∧ μ' = μ)) (gPB g) (gA g)) 7 42 (gA g) := by
  refine g_oW (cc := cL_find) (nL := 9) (hh := [(0, 18, 21, 13), (0, 18, 25, 15)]) (by decide +kernel) rfl (Nat.le_of_ble_eq_true rfl) ?_
  intro p e s m args below meth c Q Z ht hN hR
  refine j_aload Z dL_find_0 7 rfl ?_
  refine j_iconst Z (v := 0) dL_find_2 (by decide) ?_
  refine j_aload_n Z dL_find_3 0 rfl ?_
  refine j_iload_n Z dL_find_4 1 rfl ?_
  refine j_iload_n Z dL_find_5 2 rfl ?_
  refine j_iload_n Z dL_find_6 3 rfl ?_
  refine j_iload Z dL_find_7 4 rfl ?_
  refine j_iload Z dL_find_9 5 rfl ?_
  refine j_iload Z dL_find_11 6 rfl ?_
  have jxE : ∀ (E : String) (μx : gM), (fun (E : String) (μ' : gM) => (E = eA ∧ k2 (inB a1 0 3 && inB a2 0 99 && inB a3 0 99 && inB a4 0 99 && inB a5 (-1) 99 && inB a6 (-1) 99) (decide (cnt < 60)) = 1 ∧ μ' = μ) ∨ (E = eS ∧ k2 (inB a1 0 3 && inB a2 0 99 && inB a3 0 99 && inB a4 0 99 && inB a5 (-1) 99 && inB a6 (-1) 99) (decide (cnt < 60)) = 2 ∧ μ' = μ)) E μx → JX p l e { frames := 8, cells := 7, slots := 42, locals := 139 } s m args below meth c Q g 9 μx (0 + 7) (0 + 42) E 13 [(0, .ref (g.2.1 0)), (1, .int a1), (2, .int a2), (3, .int a3), (4, .int a4), (5, .int a5), (6, .int a6), (7, .ref (g.2.1 25))] [.int 0, .ref (g.2.1 25)] := by
    intro E μx hx
    rcases hx with ⟨rfl, hk, hm⟩ | ⟨rfl, hk, hm⟩
    · refine jx_catch Z hN (E := eA) [] { startPc := 0, endPc := 18, handlerPc := 21, catchType := 13 } [{ startPc := 0, endPc := 18, handlerPc := 25, catchType := 15 }] (ht.trans rfl) (List.forall_mem_nil _) (by decide) (by decide) mwL_find_c13 (by decide +kernel) (fun q => ?_)
      refine j_astore Z dL_find_21 (by decide) ([(8, .ref q), (0, .ref (g.2.1 0)), (1, .int a1), (2, .int a2), (3, .int a3), (4, .int a4), (5, .int a5), (6, .int a6), (7, .ref (g.2.1 25))]) rfl ?_
      refine j_iconst Z (v := 1) dL_find_23 (by decide) ?_
      exact hR _ _ _ _ _ _ (Or.inr (Or.inl ⟨rfl, hk, hm⟩)) (by decide) (by decide) dL_find_24
    · refine jx_catch Z hN (E := eS) [{ startPc := 0, endPc := 18, handlerPc := 21, catchType := 13 }] { startPc := 0, endPc := 18, handlerPc := 25, catchType := 15 } [] (ht.trans rfl) (List.forall_mem_cons.mpr ⟨⟨by decide, eA, mwL_find_c13, by decide +kernel⟩, (List.forall_mem_nil _)⟩) (by decide) (by decide) mwL_find_c15 (by decide +kernel) (fun q => ?_)
      refine j_astore Z dL_find_25 (by decide) ([(8, .ref q), (0, .ref (g.2.1 0)), (1, .int a1), (2, .int a2), (3, .int a3), (4, .int a4), (5, .int a5), (6, .int a6), (7, .ref (g.2.1 25))]) rfl ?_
      refine j_iconst Z (v := 2) dL_find_27 (by decide) ?_
      exact hR _ _ _ _ _ _ (Or.inr (Or.inr (⟨rfl, hk, hm⟩))) (by decide) (by decide) dL_find_28
  refine j_callVxi Z (As := [.int a1, .int a2, .int a3, .int a4, .int a5, .int a6]) (rest := [.int 0, .ref (g.2.1 25)]) (nA := 6) 0 (by decide) rfl rfl (c_X5_find l hst g μ cnt lc wc hV a1 a2 a3 a4 a5 a6) gL_find_X5_find rfl rfl rfl (by decide +kernel) (by decide) rfl dL_find_13 rfl (Nat.le_of_ble_eq_true rfl) (by decide) jxE (fun r9 μ9 hp => ?_)
  obtain ⟨h1, h2, h3⟩ := hp
  subst h1
  subst h2
  refine j_i2l Z dL_find_16 rfl ?_
  refine j_lst Z 25 (by decide) (fun _ => rfl) (v := nI cnt) rfl 0 (by decide) (by decide) (by decide) dL_find_17 ?_
  refine j_goto Z 29 dL_find_18 (by decide) ?_
  refine j_iconst Z (v := 0) dL_find_29 (by decide) ?_
  exact hR _ _ _ _ _ _ (Or.inl ⟨rfl, h3, rfl⟩) (by decide) (by decide) dL_find_30
theorem mwL_strike_c32 : Cond.classLink RL 32 "java/lang/IndexOutOfBoundsException" ∈ wsL_strike := by decide +kernel
set_option maxRecDepth 100000 in
set_option maxHeartbeats 4000000 in
theorem c_L_strike (l : Launch) (hst : l.stackTraces = false) (g : gC) (μ : gM) (cnt lc wc : Nat) (hV : gV μ cnt lc wc) (x : Int32) : Met l yL_strike wsL_strike { frames := 8, cells := 1, slots := 6, locals := 133 } (va_Pc [.ref (g.2.1 0), .int x, .ref (g.2.1 25)] (gBW g μ)) (va_Qi (fun (r : Int32) (μ' : gM) => (r = 0 ∧ k1 (fndB cnt x) = 0 ∧ μ' = gU (gU μ 11 (ix x) 1) 25 0 (zB (decide (μ 11 (ix x) = 0)))) ∨ (r = 1 ∧ k1 (fndB cnt x) = 1 ∧ μ' = μ)) (gPB g) (gA g)) 1 6 (gA g) := by
  refine g_oW (cc := cL_strike) (nL := 4) (hh := [(0, 16, 19, 32)]) (by decide +kernel) rfl (Nat.le_of_ble_eq_true rfl) ?_
  intro p e s m args below meth c Q Z ht hN hR
  refine j_aload_n Z dL_strike_0 2 rfl ?_
  refine j_iconst Z (v := 0) dL_strike_1 (by decide) ?_
  refine j_aload_n Z dL_strike_2 0 rfl ?_
  refine j_iload_n Z dL_strike_3 1 rfl ?_
  have jxE : ∀ (E : String) (μx : gM), (fun (E : String) (μ' : gM) => (E = eI ∧ k1 (fndB cnt x) = 1 ∧ μ' = μ)) E μx → JX p l e { frames := 8, cells := 1, slots := 6, locals := 133 } s m args below meth c Q g 4 μx (0 + 1) (0 + 6) E 4 [(0, .ref (g.2.1 0)), (1, .int x), (2, .ref (g.2.1 25))] [.int 0, .ref (g.2.1 25)] := by
    intro E μx hx
    rcases hx with ⟨rfl, hk, hm⟩
    · refine jx_catch Z hN (E := eI) [] { startPc := 0, endPc := 16, handlerPc := 19, catchType := 32 } [] (ht.trans rfl) (List.forall_mem_nil _) (by decide) (by decide) mwL_strike_c32 (by decide +kernel) (fun q => ?_)
      refine j_astore_n Z dL_strike_19 (by decide) ([(3, .ref q), (0, .ref (g.2.1 0)), (1, .int x), (2, .ref (g.2.1 25))]) rfl ?_
      refine j_iconst Z (v := 1) dL_strike_20 (by decide) ?_
      exact hR _ _ _ _ _ _ (Or.inr (⟨rfl, hk, hm⟩)) (by decide) (by decide) dL_strike_21
  refine j_callVxi Z (As := [.int x]) (rest := [.int 0, .ref (g.2.1 25)]) (nA := 1) 0 (by decide) rfl rfl (c_X5_strike l hst g μ cnt lc wc hV x) gL_strike_X5_strike rfl rfl rfl (by decide +kernel) (by decide) rfl dL_strike_4 rfl (Nat.le_of_ble_eq_true rfl) (by decide) jxE (fun r9 μ9 hp => ?_)
  obtain ⟨h1, h2, h3⟩ := hp
  subst h1
  subst h2
  refine j_if_eq Z 14 dL_strike_7 (by decide) (fun h9 => ?_) (fun h9 => ?_)
  · refine j_lconst Z (v := 0) dL_strike_14 (by decide) ?_
    refine j_lst Z 25 (by decide) (fun _ => rfl) (v := 0) (by decide) 0 (by decide) (by decide) (by decide) dL_strike_15 ?_
    refine j_goto Z 22 dL_strike_16 (by decide) ?_
    refine j_iconst Z (v := 0) dL_strike_22 (by decide) ?_
    exact hR _ _ _ _ _ _ (Or.inl ⟨rfl, h3, by rw [h9]⟩) (by decide) (by decide) dL_strike_23
  · refine j_lconst Z (v := 1) dL_strike_10 (by decide) ?_
    refine j_goto Z 15 dL_strike_11 (by decide) ?_
    refine j_lst Z 25 (by decide) (fun _ => rfl) (v := 1) (by decide) 0 (by decide) (by decide) (by decide) dL_strike_15 ?_
    refine j_goto Z 22 dL_strike_16 (by decide) ?_
    refine j_iconst Z (v := 0) dL_strike_22 (by decide) ?_
    exact hR _ _ _ _ _ _ (Or.inl ⟨rfl, h3, by rw [zB_one h9]⟩) (by decide) (by decide) dL_strike_23
theorem mwL_tell_c32 : Cond.classLink RL 32 "java/lang/IndexOutOfBoundsException" ∈ wsL_tell := by decide +kernel
theorem mwL_tell_c13 : Cond.classLink RL 13 "java/lang/IllegalArgumentException" ∈ wsL_tell := by decide +kernel
set_option maxRecDepth 100000 in
set_option maxHeartbeats 4000000 in
theorem c_L_tell (l : Launch) (hst : l.stackTraces = false) (g : gC) (μ : gM) (cnt lc wc : Nat) (hV : gV μ cnt lc wc) (x y z : Int32) : Met l yL_tell wsL_tell { frames := 8, cells := 4, slots := 24, locals := 136 } (va_Pc [.ref (g.2.1 0), .int x, .int y, .int z, .ref (g.2.1 25)] (gBW g μ)) (va_Qi (fun (r : Int32) (μ' : gM) => (r = 0 ∧ k2 (fndB cnt x && fndB cnt y) (!decide (x = y) && inB z 0 2) = 0 ∧ μ' = gU (gU (gU μ (50 + (ix x)) (ix y) z) (50 + (ix y)) (ix x) z) 25 0 (μ (50 + (ix x)) (ix y))) ∨ (r = 1 ∧ k2 (fndB cnt x && fndB cnt y) (!decide (x = y) && inB z 0 2) = 1 ∧ μ' = μ) ∨ (r = 2 ∧ k2 (fndB cnt x && fndB cnt y) (!decide (x = y) && inB z 0 2) = 2 ∧ μ' = μ)) (gPB g) (gA g)) 4 24 (gA g) := by
  refine g_oW (cc := cL_tell) (nL := 6) (hh := [(0, 12, 15, 32), (0, 12, 19, 13)]) (by decide +kernel) rfl (Nat.le_of_ble_eq_true rfl) ?_
  intro p e s m args below meth c Q Z ht hN hR
  refine j_aload Z dL_tell_0 4 rfl ?_
  refine j_iconst Z (v := 0) dL_tell_2 (by decide) ?_
  refine j_aload_n Z dL_tell_3 0 rfl ?_
  refine j_iload_n Z dL_tell_4 1 rfl ?_
  refine j_iload_n Z dL_tell_5 2 rfl ?_
  refine j_iload_n Z dL_tell_6 3 rfl ?_
  have jxE : ∀ (E : String) (μx : gM), (fun (E : String) (μ' : gM) => (E = eI ∧ k2 (fndB cnt x && fndB cnt y) (!decide (x = y) && inB z 0 2) = 1 ∧ μ' = μ) ∨ (E = eA ∧ k2 (fndB cnt x && fndB cnt y) (!decide (x = y) && inB z 0 2) = 2 ∧ μ' = μ)) E μx → JX p l e { frames := 8, cells := 4, slots := 24, locals := 136 } s m args below meth c Q g 6 μx (0 + 4) (0 + 24) E 7 [(0, .ref (g.2.1 0)), (1, .int x), (2, .int y), (3, .int z), (4, .ref (g.2.1 25))] [.int 0, .ref (g.2.1 25)] := by
    intro E μx hx
    rcases hx with ⟨rfl, hk, hm⟩ | ⟨rfl, hk, hm⟩
    · refine jx_catch Z hN (E := eI) [] { startPc := 0, endPc := 12, handlerPc := 15, catchType := 32 } [{ startPc := 0, endPc := 12, handlerPc := 19, catchType := 13 }] (ht.trans rfl) (List.forall_mem_nil _) (by decide) (by decide) mwL_tell_c32 (by decide +kernel) (fun q => ?_)
      refine j_astore Z dL_tell_15 (by decide) ([(5, .ref q), (0, .ref (g.2.1 0)), (1, .int x), (2, .int y), (3, .int z), (4, .ref (g.2.1 25))]) rfl ?_
      refine j_iconst Z (v := 1) dL_tell_17 (by decide) ?_
      exact hR _ _ _ _ _ _ (Or.inr (Or.inl ⟨rfl, hk, hm⟩)) (by decide) (by decide) dL_tell_18
    · refine jx_catch Z hN (E := eA) [{ startPc := 0, endPc := 12, handlerPc := 15, catchType := 32 }] { startPc := 0, endPc := 12, handlerPc := 19, catchType := 13 } [] (ht.trans rfl) (List.forall_mem_cons.mpr ⟨⟨by decide, eI, mwL_tell_c32, by decide +kernel⟩, (List.forall_mem_nil _)⟩) (by decide) (by decide) mwL_tell_c13 (by decide +kernel) (fun q => ?_)
      refine j_astore Z dL_tell_19 (by decide) ([(5, .ref q), (0, .ref (g.2.1 0)), (1, .int x), (2, .int y), (3, .int z), (4, .ref (g.2.1 25))]) rfl ?_
      refine j_iconst Z (v := 2) dL_tell_21 (by decide) ?_
      exact hR _ _ _ _ _ _ (Or.inr (Or.inr (⟨rfl, hk, hm⟩))) (by decide) (by decide) dL_tell_22
  refine j_callVxi Z (As := [.int x, .int y, .int z]) (rest := [.int 0, .ref (g.2.1 25)]) (nA := 3) 0 (by decide) rfl rfl (c_X5_tell l hst g μ cnt lc wc hV x y z) gL_tell_X5_tell rfl rfl rfl (by decide +kernel) (by decide) rfl dL_tell_7 rfl (Nat.le_of_ble_eq_true rfl) (by decide) jxE (fun r9 μ9 hp => ?_)
  obtain ⟨h1, h2, h3⟩ := hp
  subst h1
  subst h2
  refine j_i2l Z dL_tell_10 rfl ?_
  refine j_lst Z 25 (by decide) (fun _ => rfl) (v := μ (50 + (ix x)) (ix y)) rfl 0 (by decide) (by decide) (by decide) dL_tell_11 ?_
  refine j_goto Z 23 dL_tell_12 (by decide) ?_
  refine j_iconst Z (v := 0) dL_tell_23 (by decide) ?_
  exact hR _ _ _ _ _ _ (Or.inl ⟨rfl, h3, rfl⟩) (by decide) (by decide) dL_tell_24
theorem mwL_counts_c32 : Cond.classLink RL 32 "java/lang/IndexOutOfBoundsException" ∈ wsL_counts := by decide +kernel
theorem mwL_counts_c13 : Cond.classLink RL 13 "java/lang/IllegalArgumentException" ∈ wsL_counts := by decide +kernel
set_option maxRecDepth 100000 in
set_option maxHeartbeats 4000000 in
theorem c_L_counts (l : Launch) (hst : l.stackTraces = false) (g : gC) (μ : gM) (cnt lc wc : Nat) (hV : gV μ cnt lc wc) (x z : Int32) : Met l yL_counts wsL_counts { frames := 9, cells := 2, slots := 12, locals := 154 } (va_Pc [.ref (g.2.1 0), .int x, .int z, .ref (g.2.1 25)] (gBW g μ)) (va_Qi (fun (r : Int32) (μ' : gM) => (r = 0 ∧ k2 (fndB cnt x) (inB z 0 9999) = 0 ∧ μ' = gU μ 25 0 (zB (fStand μ (ix x) z))) ∨ (r = 1 ∧ k2 (fndB cnt x) (inB z 0 9999) = 1 ∧ μ' = μ) ∨ (r = 2 ∧ k2 (fndB cnt x) (inB z 0 9999) = 2 ∧ μ' = μ)) (gPB g) (gA g)) 2 12 (gA g) := by
  refine g_oW (cc := cL_counts) (nL := 5) (hh := [(0, 17, 20, 32), (0, 17, 24, 13)]) (by decide +kernel) rfl (Nat.le_of_ble_eq_true rfl) ?_
  intro p e s m args below meth c Q Z ht hN hR
  refine j_aload_n Z dL_counts_0 3 rfl ?_
  refine j_iconst Z (v := 0) dL_counts_1 (by decide) ?_
  refine j_aload_n Z dL_counts_2 0 rfl ?_
  refine j_iload_n Z dL_counts_3 1 rfl ?_
  refine j_iload_n Z dL_counts_4 2 rfl ?_
  have jxE : ∀ (E : String) (μx : gM), (fun (E : String) (μ' : gM) => (E = eI ∧ k2 (fndB cnt x) (inB z 0 9999) = 1 ∧ μ' = μ) ∨ (E = eA ∧ k2 (fndB cnt x) (inB z 0 9999) = 2 ∧ μ' = μ)) E μx → JX p l e { frames := 9, cells := 2, slots := 12, locals := 154 } s m args below meth c Q g 5 μx (0 + 2) (0 + 12) E 5 [(0, .ref (g.2.1 0)), (1, .int x), (2, .int z), (3, .ref (g.2.1 25))] [.int 0, .ref (g.2.1 25)] := by
    intro E μx hx
    rcases hx with ⟨rfl, hk, hm⟩ | ⟨rfl, hk, hm⟩
    · refine jx_catch Z hN (E := eI) [] { startPc := 0, endPc := 17, handlerPc := 20, catchType := 32 } [{ startPc := 0, endPc := 17, handlerPc := 24, catchType := 13 }] (ht.trans rfl) (List.forall_mem_nil _) (by decide) (by decide) mwL_counts_c32 (by decide +kernel) (fun q => ?_)
      refine j_astore Z dL_counts_20 (by decide) ([(4, .ref q), (0, .ref (g.2.1 0)), (1, .int x), (2, .int z), (3, .ref (g.2.1 25))]) rfl ?_
      refine j_iconst Z (v := 1) dL_counts_22 (by decide) ?_
      exact hR _ _ _ _ _ _ (Or.inr (Or.inl ⟨rfl, hk, hm⟩)) (by decide) (by decide) dL_counts_23
    · refine jx_catch Z hN (E := eA) [{ startPc := 0, endPc := 17, handlerPc := 20, catchType := 32 }] { startPc := 0, endPc := 17, handlerPc := 24, catchType := 13 } [] (ht.trans rfl) (List.forall_mem_cons.mpr ⟨⟨by decide, eI, mwL_counts_c32, by decide +kernel⟩, (List.forall_mem_nil _)⟩) (by decide) (by decide) mwL_counts_c13 (by decide +kernel) (fun q => ?_)
      refine j_astore Z dL_counts_24 (by decide) ([(4, .ref q), (0, .ref (g.2.1 0)), (1, .int x), (2, .int z), (3, .ref (g.2.1 25))]) rfl ?_
      refine j_iconst Z (v := 2) dL_counts_26 (by decide) ?_
      exact hR _ _ _ _ _ _ (Or.inr (Or.inr (⟨rfl, hk, hm⟩))) (by decide) (by decide) dL_counts_27
  refine j_callVxi Z (As := [.int x, .int z]) (rest := [.int 0, .ref (g.2.1 25)]) (nA := 2) 0 (by decide) rfl rfl (c_X5_counts l hst g μ cnt lc wc hV x z) gL_counts_X5_counts rfl rfl rfl (by decide +kernel) (by decide) rfl dL_counts_5 rfl (Nat.le_of_ble_eq_true rfl) (by decide) jxE (fun r9 μ9 hp => ?_)
  obtain ⟨h1, h2, h3⟩ := hp
  subst h1
  subst h2
  refine j_if_eq Z 15 dL_counts_8 (by decide) (fun h9 => ?_) (fun h9 => ?_)
  · refine j_lconst Z (v := 0) dL_counts_15 (by decide) ?_
    refine j_lst Z 25 (by decide) (fun _ => rfl) (v := 0) (by decide) 0 (by decide) (by decide) (by decide) dL_counts_16 ?_
    refine j_goto Z 28 dL_counts_17 (by decide) ?_
    refine j_iconst Z (v := 0) dL_counts_28 (by decide) ?_
    exact hR _ _ _ _ _ _ (Or.inl ⟨rfl, h3, by rw [h9]⟩) (by decide) (by decide) dL_counts_29
  · refine j_lconst Z (v := 1) dL_counts_11 (by decide) ?_
    refine j_goto Z 16 dL_counts_12 (by decide) ?_
    refine j_lst Z 25 (by decide) (fun _ => rfl) (v := 1) (by decide) 0 (by decide) (by decide) (by decide) dL_counts_16 ?_
    refine j_goto Z 28 dL_counts_17 (by decide) ?_
    refine j_iconst Z (v := 0) dL_counts_28 (by decide) ?_
    exact hR _ _ _ _ _ _ (Or.inl ⟨rfl, h3, by rw [zB_one h9]⟩) (by decide) (by decide) dL_counts_29
theorem mwL_things_c13 : Cond.classLink RL 13 "java/lang/IllegalArgumentException" ∈ wsL_things := by decide +kernel
set_option maxRecDepth 100000 in
set_option maxHeartbeats 4000000 in
theorem c_L_things (l : Launch) (hst : l.stackTraces = false) (g : gC) (μ : gM) (cnt lc wc : Nat) (hV : gV μ cnt lc wc) (z : Int32) : Met l yL_things wsL_things { frames := 9, cells := 1, slots := 6, locals := 155 } (va_Pc [.ref (g.2.1 0), .int z, .ref (g.2.1 25)] (gBW g μ)) (va_Qi (fun (r : Int32) (μ' : gM) => (r = 0 ∧ k1 (inB z 0 9999) = 0 ∧ μ' = gU (gR μ 23 (fSort μ cnt z (μ 23))) 25 0 (nI (cB (fun k => decide ((fSort μ cnt z (μ 23)) k = nI k)) cnt))) ∨ (r = 1 ∧ k1 (inB z 0 9999) = 1 ∧ μ' = μ)) (gPB g) (gA g)) 1 6 (gA g) := by
  refine g_oW (cc := cL_things) (nL := 4) (hh := [(0, 9, 12, 13)]) (by decide +kernel) rfl (Nat.le_of_ble_eq_true rfl) ?_
  intro p e s m args below meth c Q Z ht hN hR
  refine j_aload_n Z dL_things_0 2 rfl ?_
  refine j_iconst Z (v := 0) dL_things_1 (by decide) ?_
  refine j_aload_n Z dL_things_2 0 rfl ?_
  refine j_iload_n Z dL_things_3 1 rfl ?_
  have jxE : ∀ (E : String) (μx : gM), (fun (E : String) (μ' : gM) => (E = eA ∧ k1 (inB z 0 9999) = 1 ∧ μ' = μ)) E μx → JX p l e { frames := 9, cells := 1, slots := 6, locals := 155 } s m args below meth c Q g 4 μx (0 + 1) (0 + 6) E 4 [(0, .ref (g.2.1 0)), (1, .int z), (2, .ref (g.2.1 25))] [.int 0, .ref (g.2.1 25)] := by
    intro E μx hx
    rcases hx with ⟨rfl, hk, hm⟩
    · refine jx_catch Z hN (E := eA) [] { startPc := 0, endPc := 9, handlerPc := 12, catchType := 13 } [] (ht.trans rfl) (List.forall_mem_nil _) (by decide) (by decide) mwL_things_c13 (by decide +kernel) (fun q => ?_)
      refine j_astore_n Z dL_things_12 (by decide) ([(3, .ref q), (0, .ref (g.2.1 0)), (1, .int z), (2, .ref (g.2.1 25))]) rfl ?_
      refine j_iconst Z (v := 1) dL_things_13 (by decide) ?_
      exact hR _ _ _ _ _ _ (Or.inr (⟨rfl, hk, hm⟩)) (by decide) (by decide) dL_things_14
  refine j_callVxi Z (As := [.int z]) (rest := [.int 0, .ref (g.2.1 25)]) (nA := 1) 0 (by decide) rfl rfl (c_X5_things l hst g μ cnt lc wc hV z) gL_things_X5_things rfl rfl rfl (by decide +kernel) (by decide) rfl dL_things_4 rfl (Nat.le_of_ble_eq_true rfl) (by decide) jxE (fun r9 μ9 hp => ?_)
  obtain ⟨h1, h2, h3⟩ := hp
  subst h1
  subst h2
  refine j_i2l Z dL_things_7 rfl ?_
  refine j_lst Z 25 (by decide) (fun _ => rfl) (v := nI (cB (fun k => decide ((fSort μ cnt z (μ 23)) k = nI k)) cnt)) rfl 0 (by decide) (by decide) (by decide) dL_things_8 ?_
  refine j_goto Z 15 dL_things_9 (by decide) ?_
  refine j_iconst Z (v := 0) dL_things_15 (by decide) ?_
  exact hR _ _ _ _ _ _ (Or.inl ⟨rfl, h3, rfl⟩) (by decide) (by decide) dL_things_16
theorem mwL_thingOf_c32 : Cond.classLink RL 32 "java/lang/IndexOutOfBoundsException" ∈ wsL_thingOf := by decide +kernel
theorem mwL_thingOf_c13 : Cond.classLink RL 13 "java/lang/IllegalArgumentException" ∈ wsL_thingOf := by decide +kernel
theorem mwL_thingOf_c48 : Cond.classLink RL 48 "java/util/NoSuchElementException" ∈ wsL_thingOf := by decide +kernel
set_option maxRecDepth 100000 in
set_option maxHeartbeats 4000000 in
theorem c_L_thingOf (l : Launch) (hst : l.stackTraces = false) (g : gC) (μ : gM) (cnt lc wc : Nat) (hV : gV μ cnt lc wc) (x z : Int32) : Met l yL_thingOf wsL_thingOf { frames := 9, cells := 3, slots := 18, locals := 154 } (va_Pc [.ref (g.2.1 0), .int x, .int z, .ref (g.2.1 25)] (gBW g μ)) (va_Qi (fun (r : Int32) (μ' : gM) => (r = 0 ∧ k3 (fndB cnt x) (inB z 0 9999) (!decide (fSort μ cnt z (μ 23) (ix x) = -1)) = 0 ∧ μ' = gU (gR μ 23 (fSort μ cnt z (μ 23))) 25 0 (fSort μ cnt z (μ 23) (ix x))) ∨ (r = 1 ∧ k3 (fndB cnt x) (inB z 0 9999) (!decide (fSort μ cnt z (μ 23) (ix x) = -1)) = 1 ∧ μ' = μ) ∨ (r = 2 ∧ k3 (fndB cnt x) (inB z 0 9999) (!decide (fSort μ cnt z (μ 23) (ix x) = -1)) = 2 ∧ μ' = μ) ∨ (r = 3 ∧ k3 (fndB cnt x) (inB z 0 9999) (!decide (fSort μ cnt z (μ 23) (ix x) = -1)) = 3 ∧ μ' = gR μ 23 (fSort μ cnt z (μ 23)))) (gPB g) (gA g)) 3 18 (gA g) := by
  refine g_oW (cc := cL_thingOf) (nL := 5) (hh := [(0, 10, 13, 32), (0, 10, 17, 13), (0, 10, 21, 48)]) (by decide +kernel) rfl (Nat.le_of_ble_eq_true rfl) ?_
  intro p e s m args below meth c Q Z ht hN hR
  refine j_aload_n Z dL_thingOf_0 3 rfl ?_
  refine j_iconst Z (v := 0) dL_thingOf_1 (by decide) ?_
  refine j_aload_n Z dL_thingOf_2 0 rfl ?_
  refine j_iload_n Z dL_thingOf_3 1 rfl ?_
  refine j_iload_n Z dL_thingOf_4 2 rfl ?_
  have jxE : ∀ (E : String) (μx : gM), (fun (E : String) (μ' : gM) => (E = eI ∧ k3 (fndB cnt x) (inB z 0 9999) (!decide (fSort μ cnt z (μ 23) (ix x) = -1)) = 1 ∧ μ' = μ) ∨ (E = eA ∧ k3 (fndB cnt x) (inB z 0 9999) (!decide (fSort μ cnt z (μ 23) (ix x) = -1)) = 2 ∧ μ' = μ) ∨ (E = gNs ∧ k3 (fndB cnt x) (inB z 0 9999) (!decide (fSort μ cnt z (μ 23) (ix x) = -1)) = 3 ∧ μ' = gR μ 23 (fSort μ cnt z (μ 23)))) E μx → JX p l e { frames := 9, cells := 3, slots := 18, locals := 154 } s m args below meth c Q g 5 μx (0 + 3) (0 + 18) E 5 [(0, .ref (g.2.1 0)), (1, .int x), (2, .int z), (3, .ref (g.2.1 25))] [.int 0, .ref (g.2.1 25)] := by
    intro E μx hx
    rcases hx with ⟨rfl, hk, hm⟩ | ⟨rfl, hk, hm⟩ | ⟨rfl, hk, hm⟩
    · refine jx_catch Z hN (E := eI) [] { startPc := 0, endPc := 10, handlerPc := 13, catchType := 32 } [{ startPc := 0, endPc := 10, handlerPc := 17, catchType := 13 }, { startPc := 0, endPc := 10, handlerPc := 21, catchType := 48 }] (ht.trans rfl) (List.forall_mem_nil _) (by decide) (by decide) mwL_thingOf_c32 (by decide +kernel) (fun q => ?_)
      refine j_astore Z dL_thingOf_13 (by decide) ([(4, .ref q), (0, .ref (g.2.1 0)), (1, .int x), (2, .int z), (3, .ref (g.2.1 25))]) rfl ?_
      refine j_iconst Z (v := 1) dL_thingOf_15 (by decide) ?_
      exact hR _ _ _ _ _ _ (Or.inr (Or.inl ⟨rfl, hk, hm⟩)) (by decide) (by decide) dL_thingOf_16
    · refine jx_catch Z hN (E := eA) [{ startPc := 0, endPc := 10, handlerPc := 13, catchType := 32 }] { startPc := 0, endPc := 10, handlerPc := 17, catchType := 13 } [{ startPc := 0, endPc := 10, handlerPc := 21, catchType := 48 }] (ht.trans rfl) (List.forall_mem_cons.mpr ⟨⟨by decide, eI, mwL_thingOf_c32, by decide +kernel⟩, (List.forall_mem_nil _)⟩) (by decide) (by decide) mwL_thingOf_c13 (by decide +kernel) (fun q => ?_)
      refine j_astore Z dL_thingOf_17 (by decide) ([(4, .ref q), (0, .ref (g.2.1 0)), (1, .int x), (2, .int z), (3, .ref (g.2.1 25))]) rfl ?_
      refine j_iconst Z (v := 2) dL_thingOf_19 (by decide) ?_
      exact hR _ _ _ _ _ _ (Or.inr (Or.inr (Or.inl ⟨rfl, hk, hm⟩))) (by decide) (by decide) dL_thingOf_20
    · refine jx_catch Z hN (E := gNs) [{ startPc := 0, endPc := 10, handlerPc := 13, catchType := 32 }, { startPc := 0, endPc := 10, handlerPc := 17, catchType := 13 }] { startPc := 0, endPc := 10, handlerPc := 21, catchType := 48 } [] (ht.trans rfl) (List.forall_mem_cons.mpr ⟨⟨by decide, eI, mwL_thingOf_c32, by decide +kernel⟩, (List.forall_mem_cons.mpr ⟨⟨by decide, eA, mwL_thingOf_c13, by decide +kernel⟩, (List.forall_mem_nil _)⟩)⟩) (by decide) (by decide) mwL_thingOf_c48 (by decide +kernel) (fun q => ?_)
      refine j_astore Z dL_thingOf_21 (by decide) ([(4, .ref q), (0, .ref (g.2.1 0)), (1, .int x), (2, .int z), (3, .ref (g.2.1 25))]) rfl ?_
      refine j_iconst Z (v := 3) dL_thingOf_23 (by decide) ?_
      exact hR _ _ _ _ _ _ (Or.inr (Or.inr (Or.inr (⟨rfl, hk, hm⟩)))) (by decide) (by decide) dL_thingOf_24
  refine j_callVxi Z (As := [.int x, .int z]) (rest := [.int 0, .ref (g.2.1 25)]) (nA := 2) 0 (by decide) rfl rfl (c_X5_thingOf l hst g μ cnt lc wc hV x z) gL_thingOf_X5_thingOf rfl rfl rfl (by decide +kernel) (by decide) rfl dL_thingOf_5 rfl (Nat.le_of_ble_eq_true rfl) (by decide) jxE (fun r9 μ9 hp => ?_)
  obtain ⟨h1, h2, h3⟩ := hp
  subst h1
  subst h2
  refine j_i2l Z dL_thingOf_8 rfl ?_
  refine j_lst Z 25 (by decide) (fun _ => rfl) (v := fSort μ cnt z (μ 23) (ix x)) rfl 0 (by decide) (by decide) (by decide) dL_thingOf_9 ?_
  refine j_goto Z 25 dL_thingOf_10 (by decide) ?_
  refine j_iconst Z (v := 0) dL_thingOf_25 (by decide) ?_
  exact hR _ _ _ _ _ _ (Or.inl ⟨rfl, h3, rfl⟩) (by decide) (by decide) dL_thingOf_26
theorem mwL_value_c32 : Cond.classLink RL 32 "java/lang/IndexOutOfBoundsException" ∈ wsL_value := by decide +kernel
theorem mwL_value_c13 : Cond.classLink RL 13 "java/lang/IllegalArgumentException" ∈ wsL_value := by decide +kernel
theorem mwL_value_c48 : Cond.classLink RL 48 "java/util/NoSuchElementException" ∈ wsL_value := by decide +kernel
set_option maxRecDepth 100000 in
set_option maxHeartbeats 4000000 in
theorem c_L_value (l : Launch) (hst : l.stackTraces = false) (g : gC) (μ : gM) (cnt lc wc : Nat) (hV : gV μ cnt lc wc) (x a z : Int32) : Met l yL_value wsL_value { frames := 9, cells := 4, slots := 24, locals := 155 } (va_Pc [.ref (g.2.1 0), .int x, .int a, .int z, .ref (g.2.1 25)] (gBW g μ)) (va_Qi (fun (r : Int32) (μ' : gM) => (r = 0 ∧ k3 (fndB cnt x) (inB a 0 1 && inB z 0 9999) (!decide (fSort μ cnt z (μ 23) (ix x) = -1)) = 0 ∧ μ' = gU (gR μ 23 (fSort μ cnt z (μ 23))) 25 0 (aVal (fSort μ cnt z (μ 23)) (μ (29 + (ix a))) (fPl μ) ((fSort μ cnt z (μ 23)) (ix x)) cnt)) ∨ (r = 1 ∧ k3 (fndB cnt x) (inB a 0 1 && inB z 0 9999) (!decide (fSort μ cnt z (μ 23) (ix x) = -1)) = 1 ∧ μ' = μ) ∨ (r = 2 ∧ k3 (fndB cnt x) (inB a 0 1 && inB z 0 9999) (!decide (fSort μ cnt z (μ 23) (ix x) = -1)) = 2 ∧ μ' = μ) ∨ (r = 3 ∧ k3 (fndB cnt x) (inB a 0 1 && inB z 0 9999) (!decide (fSort μ cnt z (μ 23) (ix x) = -1)) = 3 ∧ μ' = gR μ 23 (fSort μ cnt z (μ 23)))) (gPB g) (gA g)) 4 24 (gA g) := by
  refine g_oW (cc := cL_value) (nL := 6) (hh := [(0, 12, 15, 32), (0, 12, 19, 13), (0, 12, 23, 48)]) (by decide +kernel) rfl (Nat.le_of_ble_eq_true rfl) ?_
  intro p e s m args below meth c Q Z ht hN hR
  refine j_aload Z dL_value_0 4 rfl ?_
  refine j_iconst Z (v := 0) dL_value_2 (by decide) ?_
  refine j_aload_n Z dL_value_3 0 rfl ?_
  refine j_iload_n Z dL_value_4 1 rfl ?_
  refine j_iload_n Z dL_value_5 2 rfl ?_
  refine j_iload_n Z dL_value_6 3 rfl ?_
  have jxE : ∀ (E : String) (μx : gM), (fun (E : String) (μ' : gM) => (E = eI ∧ k3 (fndB cnt x) (inB a 0 1 && inB z 0 9999) (!decide (fSort μ cnt z (μ 23) (ix x) = -1)) = 1 ∧ μ' = μ) ∨ (E = eA ∧ k3 (fndB cnt x) (inB a 0 1 && inB z 0 9999) (!decide (fSort μ cnt z (μ 23) (ix x) = -1)) = 2 ∧ μ' = μ) ∨ (E = gNs ∧ k3 (fndB cnt x) (inB a 0 1 && inB z 0 9999) (!decide (fSort μ cnt z (μ 23) (ix x) = -1)) = 3 ∧ μ' = gR μ 23 (fSort μ cnt z (μ 23)))) E μx → JX p l e { frames := 9, cells := 4, slots := 24, locals := 155 } s m args below meth c Q g 6 μx (0 + 4) (0 + 24) E 7 [(0, .ref (g.2.1 0)), (1, .int x), (2, .int a), (3, .int z), (4, .ref (g.2.1 25))] [.int 0, .ref (g.2.1 25)] := by
    intro E μx hx
    rcases hx with ⟨rfl, hk, hm⟩ | ⟨rfl, hk, hm⟩ | ⟨rfl, hk, hm⟩
    · refine jx_catch Z hN (E := eI) [] { startPc := 0, endPc := 12, handlerPc := 15, catchType := 32 } [{ startPc := 0, endPc := 12, handlerPc := 19, catchType := 13 }, { startPc := 0, endPc := 12, handlerPc := 23, catchType := 48 }] (ht.trans rfl) (List.forall_mem_nil _) (by decide) (by decide) mwL_value_c32 (by decide +kernel) (fun q => ?_)
      refine j_astore Z dL_value_15 (by decide) ([(5, .ref q), (0, .ref (g.2.1 0)), (1, .int x), (2, .int a), (3, .int z), (4, .ref (g.2.1 25))]) rfl ?_
      refine j_iconst Z (v := 1) dL_value_17 (by decide) ?_
      exact hR _ _ _ _ _ _ (Or.inr (Or.inl ⟨rfl, hk, hm⟩)) (by decide) (by decide) dL_value_18
    · refine jx_catch Z hN (E := eA) [{ startPc := 0, endPc := 12, handlerPc := 15, catchType := 32 }] { startPc := 0, endPc := 12, handlerPc := 19, catchType := 13 } [{ startPc := 0, endPc := 12, handlerPc := 23, catchType := 48 }] (ht.trans rfl) (List.forall_mem_cons.mpr ⟨⟨by decide, eI, mwL_value_c32, by decide +kernel⟩, (List.forall_mem_nil _)⟩) (by decide) (by decide) mwL_value_c13 (by decide +kernel) (fun q => ?_)
      refine j_astore Z dL_value_19 (by decide) ([(5, .ref q), (0, .ref (g.2.1 0)), (1, .int x), (2, .int a), (3, .int z), (4, .ref (g.2.1 25))]) rfl ?_
      refine j_iconst Z (v := 2) dL_value_21 (by decide) ?_
      exact hR _ _ _ _ _ _ (Or.inr (Or.inr (Or.inl ⟨rfl, hk, hm⟩))) (by decide) (by decide) dL_value_22
    · refine jx_catch Z hN (E := gNs) [{ startPc := 0, endPc := 12, handlerPc := 15, catchType := 32 }, { startPc := 0, endPc := 12, handlerPc := 19, catchType := 13 }] { startPc := 0, endPc := 12, handlerPc := 23, catchType := 48 } [] (ht.trans rfl) (List.forall_mem_cons.mpr ⟨⟨by decide, eI, mwL_value_c32, by decide +kernel⟩, (List.forall_mem_cons.mpr ⟨⟨by decide, eA, mwL_value_c13, by decide +kernel⟩, (List.forall_mem_nil _)⟩)⟩) (by decide) (by decide) mwL_value_c48 (by decide +kernel) (fun q => ?_)
      refine j_astore Z dL_value_23 (by decide) ([(5, .ref q), (0, .ref (g.2.1 0)), (1, .int x), (2, .int a), (3, .int z), (4, .ref (g.2.1 25))]) rfl ?_
      refine j_iconst Z (v := 3) dL_value_25 (by decide) ?_
      exact hR _ _ _ _ _ _ (Or.inr (Or.inr (Or.inr (⟨rfl, hk, hm⟩)))) (by decide) (by decide) dL_value_26
  refine j_callVxi Z (As := [.int x, .int a, .int z]) (rest := [.int 0, .ref (g.2.1 25)]) (nA := 3) 0 (by decide) rfl rfl (c_X5_value l hst g μ cnt lc wc hV x a z) gL_value_X5_value rfl rfl rfl (by decide +kernel) (by decide) rfl dL_value_7 rfl (Nat.le_of_ble_eq_true rfl) (by decide) jxE (fun r9 μ9 hp => ?_)
  obtain ⟨h1, h2, h3⟩ := hp
  subst h1
  subst h2
  refine j_i2l Z dL_value_10 rfl ?_
  refine j_lst Z 25 (by decide) (fun _ => rfl) (v := aVal (fSort μ cnt z (μ 23)) (μ (29 + (ix a))) (fPl μ) ((fSort μ cnt z (μ 23)) (ix x)) cnt) rfl 0 (by decide) (by decide) (by decide) dL_value_11 ?_
  refine j_goto Z 27 dL_value_12 (by decide) ?_
  refine j_iconst Z (v := 0) dL_value_27 (by decide) ?_
  exact hR _ _ _ _ _ _ (Or.inl ⟨rfl, h3, rfl⟩) (by decide) (by decide) dL_value_28
theorem mwL_disputed_c13 : Cond.classLink RL 13 "java/lang/IllegalArgumentException" ∈ wsL_disputed := by decide +kernel
set_option maxRecDepth 100000 in
set_option maxHeartbeats 4000000 in
theorem c_L_disputed (l : Launch) (hst : l.stackTraces = false) (g : gC) (μ : gM) (cnt lc wc : Nat) (hV : gV μ cnt lc wc) (a z : Int32) : Met l yL_disputed wsL_disputed { frames := 9, cells := 2, slots := 12, locals := 156 } (va_Pc [.ref (g.2.1 0), .int a, .int z, .ref (g.2.1 25)] (gBW g μ)) (va_Qi (fun (r : Int32) (μ' : gM) => (r = 0 ∧ k1 (inB a 0 1 && inB z 0 9999) = 0 ∧ μ' = gU (gR μ 23 (fSort μ cnt z (μ 23))) 25 0 (nI (cB (fun k => decide ((fSort μ cnt z (μ 23)) k = nI k) && uBad (fSort μ cnt z (μ 23)) (μ (29 + (ix a))) (nI k) cnt) cnt))) ∨ (r = 1 ∧ k1 (inB a 0 1 && inB z 0 9999) = 1 ∧ μ' = μ)) (gPB g) (gA g)) 2 12 (gA g) := by
  refine g_oW (cc := cL_disputed) (nL := 5) (hh := [(0, 10, 13, 13)]) (by decide +kernel) rfl (Nat.le_of_ble_eq_true rfl) ?_
  intro p e s m args below meth c Q Z ht hN hR
  refine j_aload_n Z dL_disputed_0 3 rfl ?_
  refine j_iconst Z (v := 0) dL_disputed_1 (by decide) ?_
  refine j_aload_n Z dL_disputed_2 0 rfl ?_
  refine j_iload_n Z dL_disputed_3 1 rfl ?_
  refine j_iload_n Z dL_disputed_4 2 rfl ?_
  have jxE : ∀ (E : String) (μx : gM), (fun (E : String) (μ' : gM) => (E = eA ∧ k1 (inB a 0 1 && inB z 0 9999) = 1 ∧ μ' = μ)) E μx → JX p l e { frames := 9, cells := 2, slots := 12, locals := 156 } s m args below meth c Q g 5 μx (0 + 2) (0 + 12) E 5 [(0, .ref (g.2.1 0)), (1, .int a), (2, .int z), (3, .ref (g.2.1 25))] [.int 0, .ref (g.2.1 25)] := by
    intro E μx hx
    rcases hx with ⟨rfl, hk, hm⟩
    · refine jx_catch Z hN (E := eA) [] { startPc := 0, endPc := 10, handlerPc := 13, catchType := 13 } [] (ht.trans rfl) (List.forall_mem_nil _) (by decide) (by decide) mwL_disputed_c13 (by decide +kernel) (fun q => ?_)
      refine j_astore Z dL_disputed_13 (by decide) ([(4, .ref q), (0, .ref (g.2.1 0)), (1, .int a), (2, .int z), (3, .ref (g.2.1 25))]) rfl ?_
      refine j_iconst Z (v := 1) dL_disputed_15 (by decide) ?_
      exact hR _ _ _ _ _ _ (Or.inr (⟨rfl, hk, hm⟩)) (by decide) (by decide) dL_disputed_16
  refine j_callVxi Z (As := [.int a, .int z]) (rest := [.int 0, .ref (g.2.1 25)]) (nA := 2) 0 (by decide) rfl rfl (c_X5_disputed l hst g μ cnt lc wc hV a z) gL_disputed_X5_disputed rfl rfl rfl (by decide +kernel) (by decide) rfl dL_disputed_5 rfl (Nat.le_of_ble_eq_true rfl) (by decide) jxE (fun r9 μ9 hp => ?_)
  obtain ⟨h1, h2, h3⟩ := hp
  subst h1
  subst h2
  refine j_i2l Z dL_disputed_8 rfl ?_
  refine j_lst Z 25 (by decide) (fun _ => rfl) (v := nI (cB (fun k => decide ((fSort μ cnt z (μ 23)) k = nI k) && uBad (fSort μ cnt z (μ 23)) (μ (29 + (ix a))) (nI k) cnt) cnt)) rfl 0 (by decide) (by decide) (by decide) dL_disputed_9 ?_
  refine j_goto Z 17 dL_disputed_10 (by decide) ?_
  refine j_iconst Z (v := 0) dL_disputed_17 (by decide) ?_
  exact hR _ _ _ _ _ _ (Or.inl ⟨rfl, h3, rfl⟩) (by decide) (by decide) dL_disputed_18
theorem mwL_link_c32 : Cond.classLink RL 32 "java/lang/IndexOutOfBoundsException" ∈ wsL_link := by decide +kernel
theorem mwL_link_c13 : Cond.classLink RL 13 "java/lang/IllegalArgumentException" ∈ wsL_link := by decide +kernel
theorem mwL_link_c15 : Cond.classLink RL 15 "java/lang/IllegalStateException" ∈ wsL_link := by decide +kernel
set_option maxRecDepth 100000 in
set_option maxHeartbeats 4000000 in
theorem c_L_link (l : Launch) (hst : l.stackTraces = false) (g : gC) (μ : gM) (cnt lc wc : Nat) (hV : gV μ cnt lc wc) (x y z : Int32) : Met l yL_link wsL_link { frames := 8, cells := 5, slots := 30, locals := 135 } (va_Pc [.ref (g.2.1 0), .int x, .int y, .int z, .ref (g.2.1 25)] (gBW g μ)) (va_Qi (fun (r : Int32) (μ' : gM) => (r = 0 ∧ k3 (fndB cnt x && fndB cnt y) (!decide (x = y) && inB z 0 3) (decide (lc < 40)) = 0 ∧ μ' = gU (gU (gU (gU (gU μ 15 lc x) 16 lc y) 17 lc z) 3 0 (nI (lc + 1))) 25 0 (nI (lc + 1))) ∨ (r = 1 ∧ k3 (fndB cnt x && fndB cnt y) (!decide (x = y) && inB z 0 3) (decide (lc < 40)) = 1 ∧ μ' = μ) ∨ (r = 2 ∧ k3 (fndB cnt x && fndB cnt y) (!decide (x = y) && inB z 0 3) (decide (lc < 40)) = 2 ∧ μ' = μ) ∨ (r = 3 ∧ k3 (fndB cnt x && fndB cnt y) (!decide (x = y) && inB z 0 3) (decide (lc < 40)) = 3 ∧ μ' = μ)) (gPB g) (gA g)) 5 30 (gA g) := by
  refine g_oW (cc := cL_link) (nL := 6) (hh := [(0, 12, 15, 32), (0, 12, 19, 13), (0, 12, 23, 15)]) (by decide +kernel) rfl (Nat.le_of_ble_eq_true rfl) ?_
  intro p e s m args below meth c Q Z ht hN hR
  refine j_aload Z dL_link_0 4 rfl ?_
  refine j_iconst Z (v := 0) dL_link_2 (by decide) ?_
  refine j_aload_n Z dL_link_3 0 rfl ?_
  refine j_iload_n Z dL_link_4 1 rfl ?_
  refine j_iload_n Z dL_link_5 2 rfl ?_
  refine j_iload_n Z dL_link_6 3 rfl ?_
  have jxE : ∀ (E : String) (μx : gM), (fun (E : String) (μ' : gM) => (E = eI ∧ k3 (fndB cnt x && fndB cnt y) (!decide (x = y) && inB z 0 3) (decide (lc < 40)) = 1 ∧ μ' = μ) ∨ (E = eA ∧ k3 (fndB cnt x && fndB cnt y) (!decide (x = y) && inB z 0 3) (decide (lc < 40)) = 2 ∧ μ' = μ) ∨ (E = eS ∧ k3 (fndB cnt x && fndB cnt y) (!decide (x = y) && inB z 0 3) (decide (lc < 40)) = 3 ∧ μ' = μ)) E μx → JX p l e { frames := 8, cells := 5, slots := 30, locals := 135 } s m args below meth c Q g 6 μx (0 + 5) (0 + 30) E 7 [(0, .ref (g.2.1 0)), (1, .int x), (2, .int y), (3, .int z), (4, .ref (g.2.1 25))] [.int 0, .ref (g.2.1 25)] := by
    intro E μx hx
    rcases hx with ⟨rfl, hk, hm⟩ | ⟨rfl, hk, hm⟩ | ⟨rfl, hk, hm⟩
    · refine jx_catch Z hN (E := eI) [] { startPc := 0, endPc := 12, handlerPc := 15, catchType := 32 } [{ startPc := 0, endPc := 12, handlerPc := 19, catchType := 13 }, { startPc := 0, endPc := 12, handlerPc := 23, catchType := 15 }] (ht.trans rfl) (List.forall_mem_nil _) (by decide) (by decide) mwL_link_c32 (by decide +kernel) (fun q => ?_)
      refine j_astore Z dL_link_15 (by decide) ([(5, .ref q), (0, .ref (g.2.1 0)), (1, .int x), (2, .int y), (3, .int z), (4, .ref (g.2.1 25))]) rfl ?_
      refine j_iconst Z (v := 1) dL_link_17 (by decide) ?_
      exact hR _ _ _ _ _ _ (Or.inr (Or.inl ⟨rfl, hk, hm⟩)) (by decide) (by decide) dL_link_18
    · refine jx_catch Z hN (E := eA) [{ startPc := 0, endPc := 12, handlerPc := 15, catchType := 32 }] { startPc := 0, endPc := 12, handlerPc := 19, catchType := 13 } [{ startPc := 0, endPc := 12, handlerPc := 23, catchType := 15 }] (ht.trans rfl) (List.forall_mem_cons.mpr ⟨⟨by decide, eI, mwL_link_c32, by decide +kernel⟩, (List.forall_mem_nil _)⟩) (by decide) (by decide) mwL_link_c13 (by decide +kernel) (fun q => ?_)
      refine j_astore Z dL_link_19 (by decide) ([(5, .ref q), (0, .ref (g.2.1 0)), (1, .int x), (2, .int y), (3, .int z), (4, .ref (g.2.1 25))]) rfl ?_
      refine j_iconst Z (v := 2) dL_link_21 (by decide) ?_
      exact hR _ _ _ _ _ _ (Or.inr (Or.inr (Or.inl ⟨rfl, hk, hm⟩))) (by decide) (by decide) dL_link_22
    · refine jx_catch Z hN (E := eS) [{ startPc := 0, endPc := 12, handlerPc := 15, catchType := 32 }, { startPc := 0, endPc := 12, handlerPc := 19, catchType := 13 }] { startPc := 0, endPc := 12, handlerPc := 23, catchType := 15 } [] (ht.trans rfl) (List.forall_mem_cons.mpr ⟨⟨by decide, eI, mwL_link_c32, by decide +kernel⟩, (List.forall_mem_cons.mpr ⟨⟨by decide, eA, mwL_link_c13, by decide +kernel⟩, (List.forall_mem_nil _)⟩)⟩) (by decide) (by decide) mwL_link_c15 (by decide +kernel) (fun q => ?_)
      refine j_astore Z dL_link_23 (by decide) ([(5, .ref q), (0, .ref (g.2.1 0)), (1, .int x), (2, .int y), (3, .int z), (4, .ref (g.2.1 25))]) rfl ?_
      refine j_iconst Z (v := 3) dL_link_25 (by decide) ?_
      exact hR _ _ _ _ _ _ (Or.inr (Or.inr (Or.inr (⟨rfl, hk, hm⟩)))) (by decide) (by decide) dL_link_26
  refine j_callVxi Z (As := [.int x, .int y, .int z]) (rest := [.int 0, .ref (g.2.1 25)]) (nA := 3) 0 (by decide) rfl rfl (c_X5_link l hst g μ cnt lc wc hV x y z) gL_link_X5_link rfl rfl rfl (by decide +kernel) (by decide) rfl dL_link_7 rfl (Nat.le_of_ble_eq_true rfl) (by decide) jxE (fun r9 μ9 hp => ?_)
  obtain ⟨h1, h2, h3⟩ := hp
  subst h1
  subst h2
  refine j_i2l Z dL_link_10 rfl ?_
  refine j_lst Z 25 (by decide) (fun _ => rfl) (v := nI (lc + 1)) rfl 0 (by decide) (by decide) (by decide) dL_link_11 ?_
  refine j_goto Z 27 dL_link_12 (by decide) ?_
  refine j_iconst Z (v := 0) dL_link_27 (by decide) ?_
  exact hR _ _ _ _ _ _ (Or.inl ⟨rfl, h3, rfl⟩) (by decide) (by decide) dL_link_28
theorem mwL_impact_c32 : Cond.classLink RL 32 "java/lang/IndexOutOfBoundsException" ∈ wsL_impact := by decide +kernel
theorem mwL_impact_c13 : Cond.classLink RL 13 "java/lang/IllegalArgumentException" ∈ wsL_impact := by decide +kernel
theorem mwL_impact_c48 : Cond.classLink RL 48 "java/util/NoSuchElementException" ∈ wsL_impact := by decide +kernel
set_option maxRecDepth 100000 in
set_option maxHeartbeats 4000000 in
theorem c_L_impact (l : Launch) (hst : l.stackTraces = false) (g : gC) (μ : gM) (cnt lc wc : Nat) (hV : gV μ cnt lc wc) (x z : Int32) : Met l yL_impact wsL_impact { frames := 9, cells := 3, slots := 18, locals := 154 } (va_Pc [.ref (g.2.1 0), .int x, .int z, .ref (g.2.1 25)] (gBW g μ)) (va_Qi (fun (r : Int32) (μ' : gM) => (r = 0 ∧ k3 (fndB cnt x) (inB z 0 9999) (!decide (fSort μ cnt z (μ 23) (ix x) = -1)) = 0 ∧ μ' = gU (gR (gR μ 23 (fSort μ cnt z (μ 23))) 18 (gFail μ (fSort μ cnt z (μ 23)) lc (ix ((fSort μ cnt z (μ 23)) (ix x))))) 25 0 (nI (cB (fun k => !decide ((gFail μ (fSort μ cnt z (μ 23)) lc (ix ((fSort μ cnt z (μ 23)) (ix x)))) k = 0)) 60))) ∨ (r = 1 ∧ k3 (fndB cnt x) (inB z 0 9999) (!decide (fSort μ cnt z (μ 23) (ix x) = -1)) = 1 ∧ μ' = μ) ∨ (r = 2 ∧ k3 (fndB cnt x) (inB z 0 9999) (!decide (fSort μ cnt z (μ 23) (ix x) = -1)) = 2 ∧ μ' = μ) ∨ (r = 3 ∧ k3 (fndB cnt x) (inB z 0 9999) (!decide (fSort μ cnt z (μ 23) (ix x) = -1)) = 3 ∧ μ' = gR μ 23 (fSort μ cnt z (μ 23)))) (gPB g) (gA g)) 3 18 (gA g) := by
  refine g_oW (cc := cL_impact) (nL := 5) (hh := [(0, 10, 13, 32), (0, 10, 17, 13), (0, 10, 21, 48)]) (by decide +kernel) rfl (Nat.le_of_ble_eq_true rfl) ?_
  intro p e s m args below meth c Q Z ht hN hR
  refine j_aload_n Z dL_impact_0 3 rfl ?_
  refine j_iconst Z (v := 0) dL_impact_1 (by decide) ?_
  refine j_aload_n Z dL_impact_2 0 rfl ?_
  refine j_iload_n Z dL_impact_3 1 rfl ?_
  refine j_iload_n Z dL_impact_4 2 rfl ?_
  have jxE : ∀ (E : String) (μx : gM), (fun (E : String) (μ' : gM) => (E = eI ∧ k3 (fndB cnt x) (inB z 0 9999) (!decide (fSort μ cnt z (μ 23) (ix x) = -1)) = 1 ∧ μ' = μ) ∨ (E = eA ∧ k3 (fndB cnt x) (inB z 0 9999) (!decide (fSort μ cnt z (μ 23) (ix x) = -1)) = 2 ∧ μ' = μ) ∨ (E = gNs ∧ k3 (fndB cnt x) (inB z 0 9999) (!decide (fSort μ cnt z (μ 23) (ix x) = -1)) = 3 ∧ μ' = gR μ 23 (fSort μ cnt z (μ 23)))) E μx → JX p l e { frames := 9, cells := 3, slots := 18, locals := 154 } s m args below meth c Q g 5 μx (0 + 3) (0 + 18) E 5 [(0, .ref (g.2.1 0)), (1, .int x), (2, .int z), (3, .ref (g.2.1 25))] [.int 0, .ref (g.2.1 25)] := by
    intro E μx hx
    rcases hx with ⟨rfl, hk, hm⟩ | ⟨rfl, hk, hm⟩ | ⟨rfl, hk, hm⟩
    · refine jx_catch Z hN (E := eI) [] { startPc := 0, endPc := 10, handlerPc := 13, catchType := 32 } [{ startPc := 0, endPc := 10, handlerPc := 17, catchType := 13 }, { startPc := 0, endPc := 10, handlerPc := 21, catchType := 48 }] (ht.trans rfl) (List.forall_mem_nil _) (by decide) (by decide) mwL_impact_c32 (by decide +kernel) (fun q => ?_)
      refine j_astore Z dL_impact_13 (by decide) ([(4, .ref q), (0, .ref (g.2.1 0)), (1, .int x), (2, .int z), (3, .ref (g.2.1 25))]) rfl ?_
      refine j_iconst Z (v := 1) dL_impact_15 (by decide) ?_
      exact hR _ _ _ _ _ _ (Or.inr (Or.inl ⟨rfl, hk, hm⟩)) (by decide) (by decide) dL_impact_16
    · refine jx_catch Z hN (E := eA) [{ startPc := 0, endPc := 10, handlerPc := 13, catchType := 32 }] { startPc := 0, endPc := 10, handlerPc := 17, catchType := 13 } [{ startPc := 0, endPc := 10, handlerPc := 21, catchType := 48 }] (ht.trans rfl) (List.forall_mem_cons.mpr ⟨⟨by decide, eI, mwL_impact_c32, by decide +kernel⟩, (List.forall_mem_nil _)⟩) (by decide) (by decide) mwL_impact_c13 (by decide +kernel) (fun q => ?_)
      refine j_astore Z dL_impact_17 (by decide) ([(4, .ref q), (0, .ref (g.2.1 0)), (1, .int x), (2, .int z), (3, .ref (g.2.1 25))]) rfl ?_
      refine j_iconst Z (v := 2) dL_impact_19 (by decide) ?_
      exact hR _ _ _ _ _ _ (Or.inr (Or.inr (Or.inl ⟨rfl, hk, hm⟩))) (by decide) (by decide) dL_impact_20
    · refine jx_catch Z hN (E := gNs) [{ startPc := 0, endPc := 10, handlerPc := 13, catchType := 32 }, { startPc := 0, endPc := 10, handlerPc := 17, catchType := 13 }] { startPc := 0, endPc := 10, handlerPc := 21, catchType := 48 } [] (ht.trans rfl) (List.forall_mem_cons.mpr ⟨⟨by decide, eI, mwL_impact_c32, by decide +kernel⟩, (List.forall_mem_cons.mpr ⟨⟨by decide, eA, mwL_impact_c13, by decide +kernel⟩, (List.forall_mem_nil _)⟩)⟩) (by decide) (by decide) mwL_impact_c48 (by decide +kernel) (fun q => ?_)
      refine j_astore Z dL_impact_21 (by decide) ([(4, .ref q), (0, .ref (g.2.1 0)), (1, .int x), (2, .int z), (3, .ref (g.2.1 25))]) rfl ?_
      refine j_iconst Z (v := 3) dL_impact_23 (by decide) ?_
      exact hR _ _ _ _ _ _ (Or.inr (Or.inr (Or.inr (⟨rfl, hk, hm⟩)))) (by decide) (by decide) dL_impact_24
  refine j_callVxi Z (As := [.int x, .int z]) (rest := [.int 0, .ref (g.2.1 25)]) (nA := 2) 0 (by decide) rfl rfl (c_X5_impact l hst g μ cnt lc wc hV x z) gL_impact_X5_impact rfl rfl rfl (by decide +kernel) (by decide) rfl dL_impact_5 rfl (Nat.le_of_ble_eq_true rfl) (by decide) jxE (fun r9 μ9 hp => ?_)
  obtain ⟨h1, h2, h3⟩ := hp
  subst h1
  subst h2
  refine j_i2l Z dL_impact_8 rfl ?_
  refine j_lst Z 25 (by decide) (fun _ => rfl) (v := nI (cB (fun k => !decide ((gFail μ (fSort μ cnt z (μ 23)) lc (ix ((fSort μ cnt z (μ 23)) (ix x)))) k = 0)) 60)) rfl 0 (by decide) (by decide) (by decide) dL_impact_9 ?_
  refine j_goto Z 25 dL_impact_10 (by decide) ?_
  refine j_iconst Z (v := 0) dL_impact_25 (by decide) ?_
  exact hR _ _ _ _ _ _ (Or.inl ⟨rfl, h3, rfl⟩) (by decide) (by decide) dL_impact_26
theorem mwL_failsWith_c32 : Cond.classLink RL 32 "java/lang/IndexOutOfBoundsException" ∈ wsL_failsWith := by decide +kernel
theorem mwL_failsWith_c13 : Cond.classLink RL 13 "java/lang/IllegalArgumentException" ∈ wsL_failsWith := by decide +kernel
theorem mwL_failsWith_c48 : Cond.classLink RL 48 "java/util/NoSuchElementException" ∈ wsL_failsWith := by decide +kernel
set_option maxRecDepth 100000 in
set_option maxHeartbeats 4000000 in
theorem c_L_failsWith (l : Launch) (hst : l.stackTraces = false) (g : gC) (μ : gM) (cnt lc wc : Nat) (hV : gV μ cnt lc wc) (x y z : Int32) : Met l yL_failsWith wsL_failsWith { frames := 9, cells := 5, slots := 30, locals := 155 } (va_Pc [.ref (g.2.1 0), .int x, .int y, .int z, .ref (g.2.1 25)] (gBW g μ)) (va_Qi (fun (r : Int32) (μ' : gM) => (r = 0 ∧ k3 (fndB cnt x && fndB cnt y) (inB z 0 9999) (!decide (fSort μ cnt z (μ 23) (ix x) = -1) && !decide (fSort μ cnt z (μ 23) (ix y) = -1)) = 0 ∧ μ' = gU (gR (gR μ 23 (fSort μ cnt z (μ 23))) 18 (gFail μ (fSort μ cnt z (μ 23)) lc (ix ((fSort μ cnt z (μ 23)) (ix y))))) 25 0 (zB (!decide ((gFail μ (fSort μ cnt z (μ 23)) lc (ix ((fSort μ cnt z (μ 23)) (ix y)))) (ix ((fSort μ cnt z (μ 23)) (ix x))) = 0)))) ∨ (r = 1 ∧ k3 (fndB cnt x && fndB cnt y) (inB z 0 9999) (!decide (fSort μ cnt z (μ 23) (ix x) = -1) && !decide (fSort μ cnt z (μ 23) (ix y) = -1)) = 1 ∧ μ' = μ) ∨ (r = 2 ∧ k3 (fndB cnt x && fndB cnt y) (inB z 0 9999) (!decide (fSort μ cnt z (μ 23) (ix x) = -1) && !decide (fSort μ cnt z (μ 23) (ix y) = -1)) = 2 ∧ μ' = μ) ∨ (r = 3 ∧ k3 (fndB cnt x && fndB cnt y) (inB z 0 9999) (!decide (fSort μ cnt z (μ 23) (ix x) = -1) && !decide (fSort μ cnt z (μ 23) (ix y) = -1)) = 3 ∧ μ' = gR μ 23 (fSort μ cnt z (μ 23)))) (gPB g) (gA g)) 5 30 (gA g) := by
  refine g_oW (cc := cL_failsWith) (nL := 6) (hh := [(0, 19, 22, 32), (0, 19, 26, 13), (0, 19, 30, 48)]) (by decide +kernel) rfl (Nat.le_of_ble_eq_true rfl) ?_
  intro p e s m args below meth c Q Z ht hN hR
  refine j_aload Z dL_failsWith_0 4 rfl ?_
  refine j_iconst Z (v := 0) dL_failsWith_2 (by decide) ?_
  refine j_aload_n Z dL_failsWith_3 0 rfl ?_
  refine j_iload_n Z dL_failsWith_4 1 rfl ?_
  refine j_iload_n Z dL_failsWith_5 2 rfl ?_
  refine j_iload_n Z dL_failsWith_6 3 rfl ?_
  have jxE : ∀ (E : String) (μx : gM), (fun (E : String) (μ' : gM) => (E = eI ∧ k3 (fndB cnt x && fndB cnt y) (inB z 0 9999) (!decide (fSort μ cnt z (μ 23) (ix x) = -1) && !decide (fSort μ cnt z (μ 23) (ix y) = -1)) = 1 ∧ μ' = μ) ∨ (E = eA ∧ k3 (fndB cnt x && fndB cnt y) (inB z 0 9999) (!decide (fSort μ cnt z (μ 23) (ix x) = -1) && !decide (fSort μ cnt z (μ 23) (ix y) = -1)) = 2 ∧ μ' = μ) ∨ (E = gNs ∧ k3 (fndB cnt x && fndB cnt y) (inB z 0 9999) (!decide (fSort μ cnt z (μ 23) (ix x) = -1) && !decide (fSort μ cnt z (μ 23) (ix y) = -1)) = 3 ∧ μ' = gR μ 23 (fSort μ cnt z (μ 23)))) E μx → JX p l e { frames := 9, cells := 5, slots := 30, locals := 155 } s m args below meth c Q g 6 μx (0 + 5) (0 + 30) E 7 [(0, .ref (g.2.1 0)), (1, .int x), (2, .int y), (3, .int z), (4, .ref (g.2.1 25))] [.int 0, .ref (g.2.1 25)] := by
    intro E μx hx
    rcases hx with ⟨rfl, hk, hm⟩ | ⟨rfl, hk, hm⟩ | ⟨rfl, hk, hm⟩
    · refine jx_catch Z hN (E := eI) [] { startPc := 0, endPc := 19, handlerPc := 22, catchType := 32 } [{ startPc := 0, endPc := 19, handlerPc := 26, catchType := 13 }, { startPc := 0, endPc := 19, handlerPc := 30, catchType := 48 }] (ht.trans rfl) (List.forall_mem_nil _) (by decide) (by decide) mwL_failsWith_c32 (by decide +kernel) (fun q => ?_)
      refine j_astore Z dL_failsWith_22 (by decide) ([(5, .ref q), (0, .ref (g.2.1 0)), (1, .int x), (2, .int y), (3, .int z), (4, .ref (g.2.1 25))]) rfl ?_
      refine j_iconst Z (v := 1) dL_failsWith_24 (by decide) ?_
      exact hR _ _ _ _ _ _ (Or.inr (Or.inl ⟨rfl, hk, hm⟩)) (by decide) (by decide) dL_failsWith_25
    · refine jx_catch Z hN (E := eA) [{ startPc := 0, endPc := 19, handlerPc := 22, catchType := 32 }] { startPc := 0, endPc := 19, handlerPc := 26, catchType := 13 } [{ startPc := 0, endPc := 19, handlerPc := 30, catchType := 48 }] (ht.trans rfl) (List.forall_mem_cons.mpr ⟨⟨by decide, eI, mwL_failsWith_c32, by decide +kernel⟩, (List.forall_mem_nil _)⟩) (by decide) (by decide) mwL_failsWith_c13 (by decide +kernel) (fun q => ?_)
      refine j_astore Z dL_failsWith_26 (by decide) ([(5, .ref q), (0, .ref (g.2.1 0)), (1, .int x), (2, .int y), (3, .int z), (4, .ref (g.2.1 25))]) rfl ?_
      refine j_iconst Z (v := 2) dL_failsWith_28 (by decide) ?_
      exact hR _ _ _ _ _ _ (Or.inr (Or.inr (Or.inl ⟨rfl, hk, hm⟩))) (by decide) (by decide) dL_failsWith_29
    · refine jx_catch Z hN (E := gNs) [{ startPc := 0, endPc := 19, handlerPc := 22, catchType := 32 }, { startPc := 0, endPc := 19, handlerPc := 26, catchType := 13 }] { startPc := 0, endPc := 19, handlerPc := 30, catchType := 48 } [] (ht.trans rfl) (List.forall_mem_cons.mpr ⟨⟨by decide, eI, mwL_failsWith_c32, by decide +kernel⟩, (List.forall_mem_cons.mpr ⟨⟨by decide, eA, mwL_failsWith_c13, by decide +kernel⟩, (List.forall_mem_nil _)⟩)⟩) (by decide) (by decide) mwL_failsWith_c48 (by decide +kernel) (fun q => ?_)
      refine j_astore Z dL_failsWith_30 (by decide) ([(5, .ref q), (0, .ref (g.2.1 0)), (1, .int x), (2, .int y), (3, .int z), (4, .ref (g.2.1 25))]) rfl ?_
      refine j_iconst Z (v := 3) dL_failsWith_32 (by decide) ?_
      exact hR _ _ _ _ _ _ (Or.inr (Or.inr (Or.inr (⟨rfl, hk, hm⟩)))) (by decide) (by decide) dL_failsWith_33
  refine j_callVxi Z (As := [.int x, .int y, .int z]) (rest := [.int 0, .ref (g.2.1 25)]) (nA := 3) 0 (by decide) rfl rfl (c_X5_failsWith l hst g μ cnt lc wc hV x y z) gL_failsWith_X5_failsWith rfl rfl rfl (by decide +kernel) (by decide) rfl dL_failsWith_7 rfl (Nat.le_of_ble_eq_true rfl) (by decide) jxE (fun r9 μ9 hp => ?_)
  obtain ⟨h1, h2, h3⟩ := hp
  subst h1
  subst h2
  refine j_if_eq Z 17 dL_failsWith_10 (by decide) (fun h9 => ?_) (fun h9 => ?_)
  · refine j_lconst Z (v := 0) dL_failsWith_17 (by decide) ?_
    refine j_lst Z 25 (by decide) (fun _ => rfl) (v := 0) (by decide) 0 (by decide) (by decide) (by decide) dL_failsWith_18 ?_
    refine j_goto Z 34 dL_failsWith_19 (by decide) ?_
    refine j_iconst Z (v := 0) dL_failsWith_34 (by decide) ?_
    exact hR _ _ _ _ _ _ (Or.inl ⟨rfl, h3, by rw [h9]⟩) (by decide) (by decide) dL_failsWith_35
  · refine j_lconst Z (v := 1) dL_failsWith_13 (by decide) ?_
    refine j_goto Z 18 dL_failsWith_14 (by decide) ?_
    refine j_lst Z 25 (by decide) (fun _ => rfl) (v := 1) (by decide) 0 (by decide) (by decide) (by decide) dL_failsWith_18 ?_
    refine j_goto Z 34 dL_failsWith_19 (by decide) ?_
    refine j_iconst Z (v := 0) dL_failsWith_34 (by decide) ?_
    exact hR _ _ _ _ _ _ (Or.inl ⟨rfl, h3, by rw [zB_one h9]⟩) (by decide) (by decide) dL_failsWith_35
theorem mwL_wish_c13 : Cond.classLink RL 13 "java/lang/IllegalArgumentException" ∈ wsL_wish := by decide +kernel
theorem mwL_wish_c15 : Cond.classLink RL 15 "java/lang/IllegalStateException" ∈ wsL_wish := by decide +kernel
set_option maxRecDepth 100000 in
set_option maxHeartbeats 4000000 in
theorem c_L_wish (l : Launch) (hst : l.stackTraces = false) (g : gC) (μ : gM) (cnt lc wc : Nat) (hV : gV μ cnt lc wc) (a1 a2 a3 a4 : Int32) : Met l yL_wish wsL_wish { frames := 9, cells := 5, slots := 30, locals := 156 } (va_Pc [.ref (g.2.1 0), .int a1, .int a2, .int a3, .int a4, .ref (g.2.1 25)] (gBW g μ)) (va_Qi (fun (r : Int32) (μ' : gM) => (r = 0 ∧ k2 (inB a1 0 2 && inB a2 1 99 && inB a3 0 1 && inB a4 0 99) (decide (wc < 20)) = 0 ∧ μ' = gU (gU (gU (gU (gU (gU μ 19 wc a1) 20 wc a2) 21 wc a3) 22 wc a4) 4 0 (nI (wc + 1))) 25 0 (nI wc)) ∨ (r = 1 ∧ k2 (inB a1 0 2 && inB a2 1 99 && inB a3 0 1 && inB a4 0 99) (decide (wc < 20)) = 1 ∧ μ' = μ) ∨ (r = 2 ∧ k2 (inB a1 0 2 && inB a2 1 99 && inB a3 0 1 && inB a4 0 99) (decide (wc < 20)) = 2 ∧ μ' = μ)) (gPB g) (gA g)) 5 30 (gA g) := by
  refine g_oW (cc := cL_wish) (nL := 7) (hh := [(0, 14, 17, 13), (0, 14, 21, 15)]) (by decide +kernel) rfl (Nat.le_of_ble_eq_true rfl) ?_
  intro p e s m args below meth c Q Z ht hN hR
  refine j_aload Z dL_wish_0 5 rfl ?_
  refine j_iconst Z (v := 0) dL_wish_2 (by decide) ?_
  refine j_aload_n Z dL_wish_3 0 rfl ?_
  refine j_iload_n Z dL_wish_4 1 rfl ?_
  refine j_iload_n Z dL_wish_5 2 rfl ?_
  refine j_iload_n Z dL_wish_6 3 rfl ?_
  refine j_iload Z dL_wish_7 4 rfl ?_
  have jxE : ∀ (E : String) (μx : gM), (fun (E : String) (μ' : gM) => (E = eA ∧ k2 (inB a1 0 2 && inB a2 1 99 && inB a3 0 1 && inB a4 0 99) (decide (wc < 20)) = 1 ∧ μ' = μ) ∨ (E = eS ∧ k2 (inB a1 0 2 && inB a2 1 99 && inB a3 0 1 && inB a4 0 99) (decide (wc < 20)) = 2 ∧ μ' = μ)) E μx → JX p l e { frames := 9, cells := 5, slots := 30, locals := 156 } s m args below meth c Q g 7 μx (0 + 5) (0 + 30) E 9 [(0, .ref (g.2.1 0)), (1, .int a1), (2, .int a2), (3, .int a3), (4, .int a4), (5, .ref (g.2.1 25))] [.int 0, .ref (g.2.1 25)] := by
    intro E μx hx
    rcases hx with ⟨rfl, hk, hm⟩ | ⟨rfl, hk, hm⟩
    · refine jx_catch Z hN (E := eA) [] { startPc := 0, endPc := 14, handlerPc := 17, catchType := 13 } [{ startPc := 0, endPc := 14, handlerPc := 21, catchType := 15 }] (ht.trans rfl) (List.forall_mem_nil _) (by decide) (by decide) mwL_wish_c13 (by decide +kernel) (fun q => ?_)
      refine j_astore Z dL_wish_17 (by decide) ([(6, .ref q), (0, .ref (g.2.1 0)), (1, .int a1), (2, .int a2), (3, .int a3), (4, .int a4), (5, .ref (g.2.1 25))]) rfl ?_
      refine j_iconst Z (v := 1) dL_wish_19 (by decide) ?_
      exact hR _ _ _ _ _ _ (Or.inr (Or.inl ⟨rfl, hk, hm⟩)) (by decide) (by decide) dL_wish_20
    · refine jx_catch Z hN (E := eS) [{ startPc := 0, endPc := 14, handlerPc := 17, catchType := 13 }] { startPc := 0, endPc := 14, handlerPc := 21, catchType := 15 } [] (ht.trans rfl) (List.forall_mem_cons.mpr ⟨⟨by decide, eA, mwL_wish_c13, by decide +kernel⟩, (List.forall_mem_nil _)⟩) (by decide) (by decide) mwL_wish_c15 (by decide +kernel) (fun q => ?_)
      refine j_astore Z dL_wish_21 (by decide) ([(6, .ref q), (0, .ref (g.2.1 0)), (1, .int a1), (2, .int a2), (3, .int a3), (4, .int a4), (5, .ref (g.2.1 25))]) rfl ?_
      refine j_iconst Z (v := 2) dL_wish_23 (by decide) ?_
      exact hR _ _ _ _ _ _ (Or.inr (Or.inr (⟨rfl, hk, hm⟩))) (by decide) (by decide) dL_wish_24
  refine j_callVxi Z (As := [.int a1, .int a2, .int a3, .int a4]) (rest := [.int 0, .ref (g.2.1 25)]) (nA := 4) 0 (by decide) rfl rfl (c_X5_wish l hst g μ cnt lc wc hV a1 a2 a3 a4) gL_wish_X5_wish rfl rfl rfl (by decide +kernel) (by decide) rfl dL_wish_9 rfl (Nat.le_of_ble_eq_true rfl) (by decide) jxE (fun r9 μ9 hp => ?_)
  obtain ⟨h1, h2, h3⟩ := hp
  subst h1
  subst h2
  refine j_i2l Z dL_wish_12 rfl ?_
  refine j_lst Z 25 (by decide) (fun _ => rfl) (v := nI wc) rfl 0 (by decide) (by decide) (by decide) dL_wish_13 ?_
  refine j_goto Z 25 dL_wish_14 (by decide) ?_
  refine j_iconst Z (v := 0) dL_wish_25 (by decide) ?_
  exact hR _ _ _ _ _ _ (Or.inl ⟨rfl, h3, rfl⟩) (by decide) (by decide) dL_wish_26
theorem mwL_differing_c32 : Cond.classLink RL 32 "java/lang/IndexOutOfBoundsException" ∈ wsL_differing := by decide +kernel
theorem mwL_differing_c13 : Cond.classLink RL 13 "java/lang/IllegalArgumentException" ∈ wsL_differing := by decide +kernel
set_option maxRecDepth 100000 in
set_option maxHeartbeats 4000000 in
theorem c_L_differing (l : Launch) (hst : l.stackTraces = false) (g : gC) (μ : gM) (cnt lc wc : Nat) (hV : gV μ cnt lc wc) (x z : Int32) : Met l yL_differing wsL_differing { frames := 9, cells := 1, slots := 6, locals := 156 } (va_Pc [.ref (g.2.1 0), .int x, .int z, .ref (g.2.1 25)] (gBW g μ)) (va_Qi (fun (r : Int32) (μ' : gM) => (r = 0 ∧ k2 (fndB wc x) (inB z 0 9999) = 0 ∧ μ' = gU (gR μ 23 (fSort μ cnt z (μ 23))) 25 0 (nI (cB (fun k => decide ((fSort μ cnt z (μ 23)) k = nI k) && (hMark (fSort μ cnt z (μ 23)) (μ (26 + ix (μ 19 (ix x)))) (nI k) (μ 20 (ix x)) cnt && !decide (aVal (fSort μ cnt z (μ 23)) (μ (29 + ix (μ 21 (ix x)))) (fPl μ) (nI k) cnt = μ 22 (ix x)))) cnt))) ∨ (r = 1 ∧ k2 (fndB wc x) (inB z 0 9999) = 1 ∧ μ' = μ) ∨ (r = 2 ∧ k2 (fndB wc x) (inB z 0 9999) = 2 ∧ μ' = μ)) (gPB g) (gA g)) 1 6 (gA g) := by
  refine g_oW (cc := cL_differing) (nL := 5) (hh := [(0, 10, 13, 32), (0, 10, 17, 13)]) (by decide +kernel) rfl (Nat.le_of_ble_eq_true rfl) ?_
  intro p e s m args below meth c Q Z ht hN hR
  refine j_aload_n Z dL_differing_0 3 rfl ?_
  refine j_iconst Z (v := 0) dL_differing_1 (by decide) ?_
  refine j_aload_n Z dL_differing_2 0 rfl ?_
  refine j_iload_n Z dL_differing_3 1 rfl ?_
  refine j_iload_n Z dL_differing_4 2 rfl ?_
  have jxE : ∀ (E : String) (μx : gM), (fun (E : String) (μ' : gM) => (E = eI ∧ k2 (fndB wc x) (inB z 0 9999) = 1 ∧ μ' = μ) ∨ (E = eA ∧ k2 (fndB wc x) (inB z 0 9999) = 2 ∧ μ' = μ)) E μx → JX p l e { frames := 9, cells := 1, slots := 6, locals := 156 } s m args below meth c Q g 5 μx (0 + 1) (0 + 6) E 5 [(0, .ref (g.2.1 0)), (1, .int x), (2, .int z), (3, .ref (g.2.1 25))] [.int 0, .ref (g.2.1 25)] := by
    intro E μx hx
    rcases hx with ⟨rfl, hk, hm⟩ | ⟨rfl, hk, hm⟩
    · refine jx_catch Z hN (E := eI) [] { startPc := 0, endPc := 10, handlerPc := 13, catchType := 32 } [{ startPc := 0, endPc := 10, handlerPc := 17, catchType := 13 }] (ht.trans rfl) (List.forall_mem_nil _) (by decide) (by decide) mwL_differing_c32 (by decide +kernel) (fun q => ?_)
      refine j_astore Z dL_differing_13 (by decide) ([(4, .ref q), (0, .ref (g.2.1 0)), (1, .int x), (2, .int z), (3, .ref (g.2.1 25))]) rfl ?_
      refine j_iconst Z (v := 1) dL_differing_15 (by decide) ?_
      exact hR _ _ _ _ _ _ (Or.inr (Or.inl ⟨rfl, hk, hm⟩)) (by decide) (by decide) dL_differing_16
    · refine jx_catch Z hN (E := eA) [{ startPc := 0, endPc := 10, handlerPc := 13, catchType := 32 }] { startPc := 0, endPc := 10, handlerPc := 17, catchType := 13 } [] (ht.trans rfl) (List.forall_mem_cons.mpr ⟨⟨by decide, eI, mwL_differing_c32, by decide +kernel⟩, (List.forall_mem_nil _)⟩) (by decide) (by decide) mwL_differing_c13 (by decide +kernel) (fun q => ?_)
      refine j_astore Z dL_differing_17 (by decide) ([(4, .ref q), (0, .ref (g.2.1 0)), (1, .int x), (2, .int z), (3, .ref (g.2.1 25))]) rfl ?_
      refine j_iconst Z (v := 2) dL_differing_19 (by decide) ?_
      exact hR _ _ _ _ _ _ (Or.inr (Or.inr (⟨rfl, hk, hm⟩))) (by decide) (by decide) dL_differing_20
  refine j_callVxi Z (As := [.int x, .int z]) (rest := [.int 0, .ref (g.2.1 25)]) (nA := 2) 0 (by decide) rfl rfl (c_X5_differing l hst g μ cnt lc wc hV x z) gL_differing_X5_differing rfl rfl rfl (by decide +kernel) (by decide) rfl dL_differing_5 rfl (Nat.le_of_ble_eq_true rfl) (by decide) jxE (fun r9 μ9 hp => ?_)
  obtain ⟨h1, h2, h3⟩ := hp
  subst h1
  subst h2
  refine j_i2l Z dL_differing_8 rfl ?_
  refine j_lst Z 25 (by decide) (fun _ => rfl) (v := nI (cB (fun k => decide ((fSort μ cnt z (μ 23)) k = nI k) && (hMark (fSort μ cnt z (μ 23)) (μ (26 + ix (μ 19 (ix x)))) (nI k) (μ 20 (ix x)) cnt && !decide (aVal (fSort μ cnt z (μ 23)) (μ (29 + ix (μ 21 (ix x)))) (fPl μ) (nI k) cnt = μ 22 (ix x)))) cnt)) rfl 0 (by decide) (by decide) (by decide) dL_differing_9 ?_
  refine j_goto Z 21 dL_differing_10 (by decide) ?_
  refine j_iconst Z (v := 0) dL_differing_21 (by decide) ?_
  exact hR _ _ _ _ _ _ (Or.inl ⟨rfl, h3, rfl⟩) (by decide) (by decide) dL_differing_22
theorem mwL_changed_c13 : Cond.classLink RL 13 "java/lang/IllegalArgumentException" ∈ wsL_changed := by decide +kernel
set_option maxRecDepth 100000 in
set_option maxHeartbeats 4000000 in
theorem c_L_changed (l : Launch) (hst : l.stackTraces = false) (g : gC) (μ : gM) (cnt lc wc : Nat) (hV : gV μ cnt lc wc) (a y z : Int32) : Met l yL_changed wsL_changed { frames := 9, cells := 3, slots := 18, locals := 157 } (va_Pc [.ref (g.2.1 0), .int a, .int y, .int z, .ref (g.2.1 25)] (gBW g μ)) (va_Qi (fun (r : Int32) (μ' : gM) => (r = 0 ∧ k1 (inB a 0 1 && inB y 0 9999 && inB z 0 9999) = 0 ∧ μ' = gU (gR (gR μ 23 (fSort μ cnt y (μ 23))) 24 (fSort μ cnt z (μ 24))) 25 0 (nI (cB (fun k => havB (fSort μ cnt y (μ 23)) (fSort μ cnt z (μ 24)) (μ (29 + (ix a))) (fPl μ) cnt k) cnt))) ∨ (r = 1 ∧ k1 (inB a 0 1 && inB y 0 9999 && inB z 0 9999) = 1 ∧ μ' = μ)) (gPB g) (gA g)) 3 18 (gA g) := by
  refine g_oW (cc := cL_changed) (nL := 6) (hh := [(0, 12, 15, 13)]) (by decide +kernel) rfl (Nat.le_of_ble_eq_true rfl) ?_
  intro p e s m args below meth c Q Z ht hN hR
  refine j_aload Z dL_changed_0 4 rfl ?_
  refine j_iconst Z (v := 0) dL_changed_2 (by decide) ?_
  refine j_aload_n Z dL_changed_3 0 rfl ?_
  refine j_iload_n Z dL_changed_4 1 rfl ?_
  refine j_iload_n Z dL_changed_5 2 rfl ?_
  refine j_iload_n Z dL_changed_6 3 rfl ?_
  have jxE : ∀ (E : String) (μx : gM), (fun (E : String) (μ' : gM) => (E = eA ∧ k1 (inB a 0 1 && inB y 0 9999 && inB z 0 9999) = 1 ∧ μ' = μ)) E μx → JX p l e { frames := 9, cells := 3, slots := 18, locals := 157 } s m args below meth c Q g 6 μx (0 + 3) (0 + 18) E 7 [(0, .ref (g.2.1 0)), (1, .int a), (2, .int y), (3, .int z), (4, .ref (g.2.1 25))] [.int 0, .ref (g.2.1 25)] := by
    intro E μx hx
    rcases hx with ⟨rfl, hk, hm⟩
    · refine jx_catch Z hN (E := eA) [] { startPc := 0, endPc := 12, handlerPc := 15, catchType := 13 } [] (ht.trans rfl) (List.forall_mem_nil _) (by decide) (by decide) mwL_changed_c13 (by decide +kernel) (fun q => ?_)
      refine j_astore Z dL_changed_15 (by decide) ([(5, .ref q), (0, .ref (g.2.1 0)), (1, .int a), (2, .int y), (3, .int z), (4, .ref (g.2.1 25))]) rfl ?_
      refine j_iconst Z (v := 1) dL_changed_17 (by decide) ?_
      exact hR _ _ _ _ _ _ (Or.inr (⟨rfl, hk, hm⟩)) (by decide) (by decide) dL_changed_18
  refine j_callVxi Z (As := [.int a, .int y, .int z]) (rest := [.int 0, .ref (g.2.1 25)]) (nA := 3) 0 (by decide) rfl rfl (c_X5_changed l hst g μ cnt lc wc hV a y z) gL_changed_X5_changed rfl rfl rfl (by decide +kernel) (by decide) rfl dL_changed_7 rfl (Nat.le_of_ble_eq_true rfl) (by decide) jxE (fun r9 μ9 hp => ?_)
  obtain ⟨h1, h2, h3⟩ := hp
  subst h1
  subst h2
  refine j_i2l Z dL_changed_10 rfl ?_
  refine j_lst Z 25 (by decide) (fun _ => rfl) (v := nI (cB (fun k => havB (fSort μ cnt y (μ 23)) (fSort μ cnt z (μ 24)) (μ (29 + (ix a))) (fPl μ) cnt k) cnt)) rfl 0 (by decide) (by decide) (by decide) dL_changed_11 ?_
  refine j_goto Z 19 dL_changed_12 (by decide) ?_
  refine j_iconst Z (v := 0) dL_changed_19 (by decide) ?_
  exact hR _ _ _ _ _ _ (Or.inl ⟨rfl, h3, rfl⟩) (by decide) (by decide) dL_changed_20
