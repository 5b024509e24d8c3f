theorem pk_sub9 {d : Nat} (h : 9 ≤ d) : nI d - 9 = nI (d - 9) := by
  have e : nI d = nI (d - 9) + 9 := by
    rw [show (9 : Int32) = nI 9 from rfl, nI_add, show d - 9 + 9 = d by omega]
  rw [e, Int32.add_sub_cancel]
set_option maxRecDepth 100000 in
set_option maxHeartbeats 16000000 in
theorem law_all {p : Program} {l : Launch} {e : Env} {s : State} {m : MethodId} {below : List Frame} {meth : Method} {c : Code} {b L : Nat} {xs : Nat → Int32} {g : gC} {μ : gM} {Q : State → Prop} (hst : l.stackTraces = false) (Z : gF p l e room_1 s m #[Value.ref b] below meth c cL_law 9 wsL_law RL g) (hN : gN s) (hX : va_X b L xs s s.heap) (hbl : b < s.heap.size) (hbA : ¬ gA g b) (hL : L ≤ 260) (KB : ∀ (μ' : gM) (k n : Nat) (L : List (Nat × Value)), k ≤ 600074 → n ≤ 7301550 → J p l e room_1 s m #[Value.ref b] below meth c Q g 9 μ' k n 390 L [.int 1]) (R0 : Rel μ 0 0 0) : J p l e room_1 s m #[Value.ref b] below meth c Q g 9 μ 200 9200 20 [(3, .ref (g.2.1 25)), (2, .ref (g.2.1 31)), (1, .ref (g.2.1 0)), (0, .ref b)] [] := by
  refine j_bipush Z (v := 16) dL_law_20 (by decide) ?_
  refine j_aload_n Z dL_law_22 3 rfl ?_
  refine j_iconst Z (v := 0) dL_law_23 (by decide) ?_
  refine j_eq (y := nI 0) rfl ?_
  refine j_callXi Z hX hbl hbA (As := [.ref b, .int (nI 0)]) (rest := [.int 16]) (nA := 2) (c_L_drawn l g μ b L 0 xs hL (by omega)) gL_law_L_drawn rfl rfl rfl (by decide +kernel) (by decide) rfl dL_law_24 rfl (Nat.le_of_ble_eq_true rfl) ⟨by show _ ≤ 600074; omega, by show _ ≤ 7301550; omega⟩ (fun r1 μ1 hp => ?_)
  obtain ⟨hr, hm⟩ := hp
  refine j_mem hm ?_
  obtain ⟨a1, ha1, e9⟩ := nI_of hr
  refine j_eq e9 ?_
  clear e9 hr hm
  refine j_bipush Z (v := 29) dL_law_27 (by decide) ?_
  refine j_iremN Z (a := a1) (b := 29) dL_law_29 (by decide) (by omega) (by omega) (by omega) ?_
  refine j_iadd Z dL_law_30 ?_
  refine j_eq (nI_add 16 (a1 % 29)) ?_
  obtain ⟨T, hT, eT⟩ : ∃ T, T ≤ 44 ∧ (16 + (a1 % 29)) = T := ⟨_, by omega, rfl⟩
  refine j_eq (congrArg nI eT) ?_
  refine j_istore Z dL_law_31 (by decide) [(4, .int (nI T)), (3, .ref (g.2.1 25)), (2, .ref (g.2.1 31)), (1, .ref (g.2.1 0)), (0, .ref b)] rfl ?_
  refine j_iconst Z (v := 1) dL_law_33 (by decide) ?_
  refine j_istore Z dL_law_34 (by decide) [(5, .int 1), (4, .int (nI T)), (3, .ref (g.2.1 25)), (2, .ref (g.2.1 31)), (1, .ref (g.2.1 0)), (0, .ref b)] rfl ?_
  refine j_iconst Z (v := 0) dL_law_36 (by decide) ?_
  refine j_istore Z dL_law_37 (by decide) [(6, .int 0), (5, .int 1), (4, .int (nI T)), (3, .ref (g.2.1 25)), (2, .ref (g.2.1 31)), (1, .ref (g.2.1 0)), (0, .ref b)] rfl ?_
  have LP : ∀ (n t : Nat) (ξ : gM) (cnt lc wc : Nat), t + n = T → Rel ξ cnt lc wc → J p l e room_1 s m #[Value.ref b] below meth c Q g 9 ξ (200 + 3522 * t) (9200 + 21132 * t) 39 [(6, .int (nI t)), (5, .int 1), (4, .int (nI T)), (3, .ref (g.2.1 25)), (2, .ref (g.2.1 31)), (1, .ref (g.2.1 0)), (0, .ref b)] [] := by
    intro n
    induction n with
    | zero =>
      intro t ξ cnt lc wc hk R
      have h60 := R.1.c60
      have hwc : wc ≤ 20 := R.1.1.2.2.2.2.1
      refine j_iload Z dL_law_39 0 rfl ?_
      refine j_iload Z dL_law_41 2 rfl ?_
      refine j_icmp_ge Z 291 dL_law_43 (by decide) (fun _ => ?_) (fun h => absurd ((nI_leI (by omega) (by omega)).mpr (by omega)) h)
      refine j_aload_n Z dL_law_291 5 rfl ?_
      obtain ⟨dd, hd, ed⟩ := R.1.2.2.1
      refine j_callVi Z (As := []) (rest := []) (nA := 0) 0 (by decide) rfl rfl (c_X5_today l g ξ) gL_law_X5_today rfl rfl rfl (by decide +kernel) (by decide) rfl dL_law_292 rfl (Nat.le_of_ble_eq_true rfl) ⟨by show _ ≤ 600074; omega, by show _ ≤ 7301550; omega⟩ (fun r2 μ2 hp => ?_)
      obtain ⟨e1, e2⟩ := hp
      refine j_mem e2 ?_
      refine j_eq (e1.trans ed) ?_
      clear e1 e2
      refine j_istore Z dL_law_295 (by decide) [(6, .int (nI dd)), (5, .int 1), (4, .int (nI T)), (3, .ref (g.2.1 25)), (2, .ref (g.2.1 31)), (1, .ref (g.2.1 0)), (0, .ref b)] rfl ?_
      refine j_iload Z dL_law_297 1 rfl ?_
      refine j_if_eq Z 389 dL_law_299 (by decide) (fun h => absurd h (by decide)) (fun _ => ?_)
      refine j_aload_n Z dL_law_302 5 rfl ?_
      refine j_aload_n Z dL_law_303 4 rfl ?_
      refine j_aload_n Z dL_law_304 3 rfl ?_
      refine j_iconst Z (v := 0) dL_law_305 (by decide) ?_
      refine j_eq (y := nI 0) rfl ?_
      refine j_callBi Z hN (As := [.ref (g.2.1 0), .ref (g.2.1 31), .ref (g.2.1 25), .int (nI 0)]) (rest := []) (nA := 4) (c_L_alike l hst g ξ cnt lc wc 0 R (by omega)) gL_law_L_alike rfl rfl rfl (by decide +kernel) (by decide) rfl dL_law_306 rfl (Nat.le_of_ble_eq_true rfl) ⟨by show _ ≤ 600074; omega, by show _ ≤ 7301550; omega⟩ (fun r3 μ3 hp => ?_)
      obtain ⟨e1, R9⟩ := hp
      refine j_eq e1 ?_
      clear e1
      refine j_all (fun ξ => Rel ξ cnt lc wc) (R9) (fun ξ4 R4 => ?_)
      refine j_if_eq Z 389 dL_law_309 (by decide) (fun h => absurd h (by decide)) (fun _ => ?_)
      refine j_aload_n Z dL_law_312 5 rfl ?_
      refine j_aload_n Z dL_law_313 3 rfl ?_
      refine j_iload Z dL_law_314 0 rfl ?_
      refine j_aload_n Z dL_law_316 6 rfl ?_
      refine j_iconst Z (v := 0) dL_law_317 (by decide) ?_
      refine j_eq (y := nI 0) rfl ?_
      refine j_callXi Z hX hbl hbA (As := [.ref b, .int (nI 0)]) (rest := [.int (nI dd), .ref (g.2.1 25), .ref (g.2.1 0)]) (nA := 2) (c_L_drawn l g ξ4 b L 0 xs hL (by omega)) gL_law_L_drawn rfl rfl rfl (by decide +kernel) (by decide) rfl dL_law_318 rfl (Nat.le_of_ble_eq_true rfl) ⟨by show _ ≤ 600074; omega, by show _ ≤ 7301550; omega⟩ (fun r5 μ5 hp => ?_)
      obtain ⟨hr, hm⟩ := hp
      refine j_mem hm ?_
      obtain ⟨a5, ha5, e9⟩ := nI_of hr
      refine j_eq e9 ?_
      clear e9 hr hm
      refine j_bipush Z (v := 29) dL_law_321 (by decide) ?_
      refine j_idivN Z (a := a5) (b := 29) dL_law_323 (by decide) (by omega) (by omega) (by omega) ?_
      refine j_callBi Z hN (As := [.ref (g.2.1 0), .ref (g.2.1 25), .int (nI dd), .int (nI (a5 / 29))]) (rest := []) (nA := 4) (c_L_holds l hst g ξ4 cnt lc wc dd (a5 / 29) R4.1 R4.2.2.2.1 R4.2.2.2.2 (by omega) (by omega)) gL_law_L_holds rfl rfl rfl (by decide +kernel) (by decide) rfl dL_law_324 rfl (Nat.le_of_ble_eq_true rfl) ⟨by show _ ≤ 600074; omega, by show _ ≤ 7301550; omega⟩ (fun r6 μ6 hp => ?_)
      obtain ⟨e1, S9⟩ := hp
      refine j_eq e1 ?_
      clear e1
      refine j_all (fun ξ => Rel ξ cnt lc wc) (R4.scA S9) (fun ξ7 R7 => ?_)
      refine j_if_eq Z 389 dL_law_327 (by decide) (fun h => absurd h (by decide)) (fun _ => ?_)
      refine j_aload_n Z dL_law_330 4 rfl ?_
      refine j_aload_n Z dL_law_331 3 rfl ?_
      have J348 : ∀ d : Nat, d ≤ 9999 → J p l e room_1 s m #[Value.ref b] below meth c Q g 9 ξ7 (200 + 3522 * t + 3100) (9200 + 21132 * t + 18600) 348 [(6, .int (nI dd)), (5, .int 1), (4, .int (nI T)), (3, .ref (g.2.1 25)), (2, .ref (g.2.1 31)), (1, .ref (g.2.1 0)), (0, .ref b)] [.int (nI d), .ref (g.2.1 25), .ref (g.2.1 31)] := by
        intro d hd9
        refine j_aload_n Z dL_law_348 6 rfl ?_
        refine j_iconst Z (v := 0) dL_law_349 (by decide) ?_
        refine j_eq (y := nI 0) rfl ?_
        refine j_callXi Z hX hbl hbA (As := [.ref b, .int (nI 0)]) (rest := [.int (nI d), .ref (g.2.1 25), .ref (g.2.1 31)]) (nA := 2) (c_L_drawn l g ξ7 b L 0 xs hL (by omega)) gL_law_L_drawn rfl rfl rfl (by decide +kernel) (by decide) rfl dL_law_350 rfl (Nat.le_of_ble_eq_true rfl) ⟨by show _ ≤ 600074; omega, by show _ ≤ 7301550; omega⟩ (fun r8 μ8 hp => ?_)
        obtain ⟨hr, hm⟩ := hp
        refine j_mem hm ?_
        obtain ⟨a8, ha8, e9⟩ := nI_of hr
        refine j_eq e9 ?_
        clear e9 hr hm
        refine j_bipush Z (v := 31) dL_law_353 (by decide) ?_
        refine j_idivN Z (a := a8) (b := 31) dL_law_355 (by decide) (by omega) (by omega) (by omega) ?_
        refine j_sw ?_
        refine j_callBi (gF_sw Z) hN (As := [.ref (g.2.1 31), .ref (g.2.1 25), .int (nI d), .int (nI (a8 / 31))]) (rest := []) (nA := 4) (c_L_holds l hst (gSw g) (sw ξ7) cnt lc wc d (a8 / 31) R7.2.1 R7.2.2.2.1 R7.2.2.2.2 (by omega) (by omega)) gL_law_L_holds rfl rfl rfl (by decide +kernel) (by decide) rfl dL_law_356 rfl (Nat.le_of_ble_eq_true rfl) ⟨by show _ ≤ 600074; omega, by show _ ≤ 7301550; omega⟩ (fun r9 μ9 hp => ?_)
        obtain ⟨e1, S9⟩ := hp
        refine j_bk ?_
        refine j_eq e1 ?_
        clear e1
        refine j_all (fun ξ => Rel ξ cnt lc wc) (R7.scB S9) (fun ξ10 R10 => ?_)
        refine j_if_eq Z 389 dL_law_359 (by decide) (fun h => absurd h (by decide)) (fun _ => ?_)
        refine j_aload_n Z dL_law_362 3 rfl ?_
        refine j_iconst Z (v := 0) dL_law_363 (by decide) ?_
        refine j_ild Z 25 (by decide) (fun _ => rfl) 0 (by decide) (by decide) (by decide) dL_law_364 ?_
        refine j_eq (y := nI cnt) R10.2.2.2.1 ?_
        refine j_iconst Z (v := 2) dL_law_365 (by decide) ?_
        refine j_icmp_lt Z 385 dL_law_366 (by decide) (fun h366 => ?_) (fun h366 => ?_)
        · skip
          refine j_iconst Z (v := 1) dL_law_385 (by decide) ?_
          refine j_goto Z 390 dL_law_386 (by decide) ?_
          exact KB _ _ _ _ (by omega) (by omega)
        · skip
          refine j_aload_n Z dL_law_369 5 rfl ?_
          refine j_aload_n Z dL_law_370 3 rfl ?_
          refine j_aload_n Z dL_law_371 6 rfl ?_
          refine j_iconst Z (v := 0) dL_law_372 (by decide) ?_
          refine j_eq (y := nI 0) rfl ?_
          refine j_callXi Z hX hbl hbA (As := [.ref b, .int (nI 0)]) (rest := [.ref (g.2.1 25), .ref (g.2.1 0)]) (nA := 2) (c_L_drawn l g ξ10 b L 0 xs hL (by omega)) gL_law_L_drawn rfl rfl rfl (by decide +kernel) (by decide) rfl dL_law_373 rfl (Nat.le_of_ble_eq_true rfl) ⟨by show _ ≤ 600074; omega, by show _ ≤ 7301550; omega⟩ (fun r11 μ11 hp => ?_)
          obtain ⟨hr, hm⟩ := hp
          refine j_mem hm ?_
          obtain ⟨a11, ha11, e9⟩ := nI_of hr
          refine j_eq e9 ?_
          clear e9 hr hm
          refine j_bipush Z (v := 37) dL_law_376 (by decide) ?_
          refine j_idivN Z (a := a11) (b := 37) dL_law_378 (by decide) (by omega) (by omega) (by omega) ?_
          have hc2 : 2 ≤ cnt := Nat.not_lt.mp (fun q => h366 ((nI_ltI (b := 2) (by omega) (by omega)).mpr q))
          refine j_callBi Z hN (As := [.ref (g.2.1 0), .ref (g.2.1 25), .int (nI (a11 / 37))]) (rest := []) (nA := 3) (c_L_parts l hst g ξ10 cnt lc wc (a11 / 37) R10.1 R10.2.2.2.1 hc2 (by omega)) gL_law_L_parts rfl rfl rfl (by decide +kernel) (by decide) rfl dL_law_379 rfl (Nat.le_of_ble_eq_true rfl) ⟨by show _ ≤ 600074; omega, by show _ ≤ 7301550; omega⟩ (fun r12 μ12 hp => ?_)
          refine j_eq hp ?_
          refine j_if_eq Z 389 dL_law_382 (by decide) (fun h => absurd h (by decide)) (fun _ => ?_)
          refine j_iconst Z (v := 1) dL_law_385 (by decide) ?_
          refine j_goto Z 390 dL_law_386 (by decide) ?_
          exact KB _ _ _ _ (by omega) (by omega)
      refine j_iload Z dL_law_332 0 rfl ?_
      refine j_bipush Z (v := 9) dL_law_334 (by decide) ?_
      refine j_icmp_ge Z 343 dL_law_336 (by decide) (fun h336 => ?_) (fun h336 => ?_)
      · skip
        refine j_iload Z dL_law_343 0 rfl ?_
        refine j_bipush Z (v := 9) dL_law_345 (by decide) ?_
        refine j_isub Z dL_law_347 ?_
        refine j_eq (y := nI (dd - 9)) (pk_sub9 ((nI_leI (a := 9) (by omega) (by omega)).mp h336)) ?_
        exact J348 (dd - 9) (by omega)
      · skip
        refine j_iconst Z (v := 0) dL_law_339 (by decide) ?_
        refine j_goto Z 348 dL_law_340 (by decide) ?_
        exact J348 0 (by omega)
    | succ n ih =>
      intro t ξ cnt lc wc hk R
      have h60 := R.1.c60
      have hwc : wc ≤ 20 := R.1.1.2.2.2.2.1
      refine j_iload Z dL_law_39 0 rfl ?_
      refine j_iload Z dL_law_41 2 rfl ?_
      refine j_icmp_ge Z 291 dL_law_43 (by decide) (fun h => absurd h (fun q => by have := (nI_leI (by omega) (by omega)).mp q; omega)) (fun _ => ?_)
      refine j_iload Z dL_law_46 1 rfl ?_
      refine j_if_eq Z 291 dL_law_48 (by decide) (fun h => absurd h (by decide)) (fun _ => ?_)
      refine j_aload_n Z dL_law_51 6 rfl ?_
      refine j_iconst Z (v := 1) dL_law_52 (by decide) ?_
      refine j_iload Z dL_law_53 0 rfl ?_
      refine j_iadd Z dL_law_55 ?_
      refine j_eq (nI_add 1 t) ?_
      refine j_callXi Z hX hbl hbA (As := [.ref b, .int (nI (1 + t))]) (rest := []) (nA := 2) (c_L_drawn l g ξ b L (1 + t) xs hL (by omega)) gL_law_L_drawn rfl rfl rfl (by decide +kernel) (by decide) rfl dL_law_56 rfl (Nat.le_of_ble_eq_true rfl) ⟨by show _ ≤ 600074; omega, by show _ ≤ 7301550; omega⟩ (fun r13 μ13 hp => ?_)
      obtain ⟨hr, hm⟩ := hp
      refine j_mem hm ?_
      obtain ⟨a13, ha13, e9⟩ := nI_of hr
      refine j_eq e9 ?_
      clear e9 hr hm
      refine j_istore Z dL_law_59 (by decide) [(7, .int (nI a13)), (6, .int (nI t)), (5, .int 1), (4, .int (nI T)), (3, .ref (g.2.1 25)), (2, .ref (g.2.1 31)), (1, .ref (g.2.1 0)), (0, .ref b)] rfl ?_
      have J80 : ∀ a : Nat, a < 2 ^ 31 → J p l e room_1 s m #[Value.ref b] below meth c Q g 9 ξ (200 + 3522 * t + 0) (9200 + 21132 * t + 0) 80 [(6, .int (nI t)), (5, .int 1), (4, .int (nI T)), (3, .ref (g.2.1 25)), (2, .ref (g.2.1 31)), (1, .ref (g.2.1 0)), (0, .ref b)] [.int (nI a)] := by
        intro a ha
        refine j_istore Z dL_law_80 (by decide) [(7, .int (nI a)), (6, .int (nI t)), (5, .int 1), (4, .int (nI T)), (3, .ref (g.2.1 25)), (2, .ref (g.2.1 31)), (1, .ref (g.2.1 0)), (0, .ref b)] rfl ?_
        refine j_aload_n Z dL_law_82 6 rfl ?_
        refine j_aload_n Z dL_law_83 4 rfl ?_
        refine j_iload Z dL_law_84 0 rfl ?_
        refine j_callBi Z hN (As := [.ref (g.2.1 0), .ref (g.2.1 25), .int (nI a)]) (rest := []) (nA := 3) (c_L_act l hst g ξ cnt lc wc a R.1 R.2.2.2.1 R.2.2.2.2 ha) gL_law_L_act rfl rfl rfl (by decide +kernel) (by decide) rfl dL_law_86 rfl (Nat.le_of_ble_eq_true rfl) ⟨by show _ ≤ 600074; omega, by show _ ≤ 7301550; omega⟩ (fun r14 μ14 hp => ?_)
        obtain ⟨e1, e2⟩ := hp
        obtain ⟨dn, hdn⟩ : ∃ dn, dn = actR ξ cnt lc wc a := ⟨_, rfl⟩
        refine j_mem e2 ?_
        refine j_eq (e1.trans hdn.symm) ?_
        clear e1 e2
        obtain ⟨I2, q25⟩ := law_a1 a R
        refine j_istore Z dL_law_89 (by decide) [(8, .int dn), (7, .int (nI a)), (6, .int (nI t)), (5, .int 1), (4, .int (nI T)), (3, .ref (g.2.1 25)), (2, .ref (g.2.1 31)), (1, .ref (g.2.1 0)), (0, .ref b)] rfl ?_
        refine j_aload_n Z dL_law_91 6 rfl ?_
        refine j_aload_n Z dL_law_92 5 rfl ?_
        refine j_iload Z dL_law_93 1 rfl ?_
        refine j_sipush Z (v := 9973) dL_law_95 (by decide) ?_
        refine j_iremN Z (a := a) (b := 9973) dL_law_98 (by decide) (by omega) (by omega) (by omega) ?_
        refine j_sw ?_
        refine j_callBi (gF_sw Z) hN (As := [.ref (g.2.1 31), .ref (g.2.1 25), .int (nI (a % 9973))]) (rest := []) (nA := 3) (c_L_refuses l hst (gSw g) (sw (actM ξ cnt lc wc a)) cnt lc wc (a % 9973) I2 ((congrFun q25 0).trans R.2.2.2.1) ((congrFun q25 2).trans R.2.2.2.2) (by omega)) gL_law_L_refuses rfl rfl rfl (by decide +kernel) (by decide) rfl dL_law_99 rfl (Nat.le_of_ble_eq_true rfl) ⟨by show _ ≤ 600074; omega, by show _ ≤ 7301550; omega⟩ (fun r15 μ15 hp => ?_)
        obtain ⟨e1, S1⟩ := hp
        refine j_bk ?_
        refine j_eq e1 ?_
        clear e1
        refine j_if_eq Z 121 dL_law_102 (by decide) (fun h => absurd h (by decide)) (fun _ => ?_)
        refine j_aload_n Z dL_law_105 6 rfl ?_
        refine j_aload_n Z dL_law_106 5 rfl ?_
        refine j_iload Z dL_law_107 1 rfl ?_
        refine j_sw ?_
        refine j_mem (sw_sw _) ?_
        refine j_callBi (gF_sw Z) hN (As := [.ref (g.2.1 31), .ref (g.2.1 25), .int (nI a)]) (rest := []) (nA := 3) (c_L_act l hst (gSw g) μ15 cnt lc wc a (I2.sc S1) ((congrFun ((S1.1 25 (by decide) (by decide) (by decide)).trans q25) 0).trans R.2.2.2.1) ((congrFun ((S1.1 25 (by decide) (by decide) (by decide)).trans q25) 2).trans R.2.2.2.2) ha) gL_law_L_act rfl rfl rfl (by decide +kernel) (by decide) rfl dL_law_109 rfl (Nat.le_of_ble_eq_true rfl) ⟨by show _ ≤ 600074; omega, by show _ ≤ 7301550; omega⟩ (fun r16 μ16 hp => ?_)
        obtain ⟨e1, e2⟩ := hp
        obtain ⟨er, lc1, R1⟩ := law_act a R S1
        refine j_mem e2 ?_
        refine j_bk ?_
        refine j_eq (e1.trans (er.trans hdn.symm)) ?_
        clear e1 e2 er
        obtain ⟨c1, hc1⟩ : ∃ c1, c1 = aC ξ cnt lc wc a := ⟨_, rfl⟩
        obtain ⟨w1, hw1⟩ : ∃ w1, w1 = aW ξ cnt lc wc a := ⟨_, rfl⟩
        rw [← hc1, ← hw1] at R1
        have hcA : a % 16 < 6 → 0 ≤ dn → nI cnt + 1 = nI c1 := fun h1 h2 => by rw [hc1]; unfold aC; rw [← hdn, if_pos ⟨h1, h2⟩]; exact nI_1 cnt
        have hcB : ¬ (a % 16 < 6 ∧ 0 ≤ dn) → nI cnt + 0 = nI c1 := fun h1 => by rw [hc1]; unfold aC; rw [← hdn, if_neg h1]; exact Int32.add_zero _
        have hwA : ¬ a % 16 < 15 → 0 ≤ dn → nI wc + 1 = nI w1 := fun h1 h2 => by rw [hw1]; unfold aW; rw [← hdn, if_pos ⟨h1, h2⟩]; exact nI_1 wc
        have hwB : ¬ (¬ a % 16 < 15 ∧ 0 ≤ dn) → nI wc + 0 = nI w1 := fun h1 => by rw [hw1]; unfold aW; rw [← hdn, if_neg h1]; exact Int32.add_zero _
        refine j_all (fun ξ => Rn ξ c1 lc1 w1 cnt wc) (R1) (fun ξ17 R17 => ?_)
        refine j_iload Z dL_law_112 0 rfl ?_
        refine j_icmp_ne Z 121 dL_law_114 (by decide) (fun h => absurd rfl h) (fun _ => ?_)
        refine j_iconst Z (v := 1) dL_law_117 (by decide) ?_
        refine j_goto Z 122 dL_law_118 (by decide) ?_
        refine j_istore Z dL_law_122 (by decide) [(5, .int 1), (8, .int dn), (7, .int (nI a)), (6, .int (nI t)), (4, .int (nI T)), (3, .ref (g.2.1 25)), (2, .ref (g.2.1 31)), (1, .ref (g.2.1 0)), (0, .ref b)] rfl ?_
        refine j_aload_n Z dL_law_124 5 rfl ?_
        refine j_iconst Z (v := 0) dL_law_125 (by decide) ?_
        refine j_dup2 Z dL_law_126 rfl rfl ?_
        refine j_ild Z 25 (by decide) (fun _ => rfl) 0 (by decide) (by decide) (by decide) dL_law_127 ?_
        refine j_eq (y := nI cnt) R17.2.1 ?_
        have J148 : ∀ v : Int32, nI cnt + v = nI c1 → J p l e room_1 s m #[Value.ref b] below meth c Q g 9 ξ17 (200 + 3522 * t + 218) (9200 + 21132 * t + 1308) 148 [(5, .int 1), (8, .int dn), (7, .int (nI a)), (6, .int (nI t)), (4, .int (nI T)), (3, .ref (g.2.1 25)), (2, .ref (g.2.1 31)), (1, .ref (g.2.1 0)), (0, .ref b)] [.int v, .int (nI cnt), .int 0, .ref (g.2.1 25)] := by
          intro v hv
          refine j_iadd Z dL_law_148 ?_
          refine j_eq (y := nI c1) hv ?_
          refine j_ist Z 25 (by decide) (fun _ => rfl) 0 (by decide) (by decide) (by decide) dL_law_149 ?_
          refine j_all (fun ξ => Rn ξ c1 lc1 w1 c1 wc) (R17.u0 c1) (fun ξ18 R18 => ?_)
          refine j_aload_n Z dL_law_150 5 rfl ?_
          refine j_iconst Z (v := 1) dL_law_151 (by decide) ?_
          refine j_dup2 Z dL_law_152 rfl rfl ?_
          refine j_ild Z 25 (by decide) (fun _ => rfl) 1 (by decide) (by decide) (by decide) dL_law_153 ?_
          have J184 : ∀ v : Int32, J p l e room_1 s m #[Value.ref b] below meth c Q g 9 ξ18 (200 + 3522 * t + 218) (9200 + 21132 * t + 1308) 184 [(5, .int 1), (8, .int dn), (7, .int (nI a)), (6, .int (nI t)), (4, .int (nI T)), (3, .ref (g.2.1 25)), (2, .ref (g.2.1 31)), (1, .ref (g.2.1 0)), (0, .ref b)] [.int v, .int (ξ18 25 1), .int 1, .ref (g.2.1 25)] := by
            intro v
            refine j_iadd Z dL_law_184 ?_
            refine j_ist Z 25 (by decide) (fun _ => rfl) 1 (by decide) (by decide) (by decide) dL_law_185 ?_
            refine j_all (fun ξ => Rn ξ c1 lc1 w1 c1 wc) (R18.u1 _) (fun ξ19 R19 => ?_)
            refine j_aload_n Z dL_law_186 5 rfl ?_
            refine j_iconst Z (v := 2) dL_law_187 (by decide) ?_
            refine j_dup2 Z dL_law_188 rfl rfl ?_
            refine j_ild Z 25 (by decide) (fun _ => rfl) 2 (by decide) (by decide) (by decide) dL_law_189 ?_
            refine j_eq (y := nI wc) R19.2.2 ?_
            have J210 : ∀ v : Int32, nI wc + v = nI w1 → J p l e room_1 s m #[Value.ref b] below meth c Q g 9 ξ19 (200 + 3522 * t + 218) (9200 + 21132 * t + 1308) 210 [(5, .int 1), (8, .int dn), (7, .int (nI a)), (6, .int (nI t)), (4, .int (nI T)), (3, .ref (g.2.1 25)), (2, .ref (g.2.1 31)), (1, .ref (g.2.1 0)), (0, .ref b)] [.int v, .int (nI wc), .int 2, .ref (g.2.1 25)] := by
              intro v hv
              refine j_iadd Z dL_law_210 ?_
              refine j_eq (y := nI w1) hv ?_
              refine j_ist Z 25 (by decide) (fun _ => rfl) 2 (by decide) (by decide) (by decide) dL_law_211 ?_
              refine j_all (fun ξ => Rel ξ c1 lc1 w1) ((R19.u2 w1).rel) (fun ξ20 R20 => ?_)
              refine j_iload Z dL_law_212 0 rfl ?_
              refine j_if_eq Z 282 dL_law_214 (by decide) (fun h => absurd h (by decide)) (fun _ => ?_)
              refine j_aload_n Z dL_law_217 6 rfl ?_
              refine j_aload_n Z dL_law_218 5 rfl ?_
              refine j_iload Z dL_law_219 2 rfl ?_
              refine j_sipush Z (v := 499) dL_law_221 (by decide) ?_
              refine j_iremN Z (a := a) (b := 499) dL_law_224 (by decide) (by omega) (by omega) (by omega) ?_
              refine j_sw ?_
              refine j_callBi (gF_sw Z) hN (As := [.ref (g.2.1 31), .ref (g.2.1 25), .int (nI (a % 499))]) (rest := []) (nA := 3) (c_L_refuses l hst (gSw g) (sw ξ20) c1 lc1 w1 (a % 499) R20.2.1 R20.2.2.2.1 R20.2.2.2.2 (by omega)) gL_law_L_refuses rfl rfl rfl (by decide +kernel) (by decide) rfl dL_law_225 rfl (Nat.le_of_ble_eq_true rfl) ⟨by show _ ≤ 600074; omega, by show _ ≤ 7301550; omega⟩ (fun r21 μ21 hp => ?_)
              obtain ⟨e1, S9⟩ := hp
              refine j_bk ?_
              refine j_eq e1 ?_
              clear e1
              refine j_all (fun ξ => Rel ξ c1 lc1 w1) (R20.scB S9) (fun ξ22 R22 => ?_)
              refine j_if_eq Z 282 dL_law_228 (by decide) (fun h => absurd h (by decide)) (fun _ => ?_)
              have J278 : ∀ ξ : gM, Rel ξ c1 lc1 w1 → J p l e room_1 s m #[Value.ref b] below meth c Q g 9 ξ (200 + 3522 * t + 3522) (9200 + 21132 * t + 21132) 278 [(5, .int 1), (8, .int dn), (7, .int (nI a)), (6, .int (nI t)), (4, .int (nI T)), (3, .ref (g.2.1 25)), (2, .ref (g.2.1 31)), (1, .ref (g.2.1 0)), (0, .ref b)] [] := by
                intro ξ R
                refine j_iconst Z (v := 1) dL_law_278 (by decide) ?_
                refine j_goto Z 283 dL_law_279 (by decide) ?_
                refine j_istore Z dL_law_283 (by decide) [(5, .int 1), (8, .int dn), (7, .int (nI a)), (6, .int (nI t)), (4, .int (nI T)), (3, .ref (g.2.1 25)), (2, .ref (g.2.1 31)), (1, .ref (g.2.1 0)), (0, .ref b)] rfl ?_
                refine j_iinc Z dL_law_285 3 rfl (nI_1 t) (by decide) [(6, .int (nI (t + 1))), (5, .int 1), (8, .int dn), (7, .int (nI a)), (4, .int (nI T)), (3, .ref (g.2.1 25)), (2, .ref (g.2.1 31)), (1, .ref (g.2.1 0)), (0, .ref b)] rfl ?_
                refine j_goto Z 39 dL_law_288 (by decide) ?_
                exact j_sub [0, 1, 4, 5, 6, 7, 8] rfl (j_wide (k' := 200 + 3522 * (t + 1)) (n' := 9200 + 21132 * (t + 1)) (by omega) (by omega) (ih (t + 1) _ c1 lc1 w1 (by omega) R))
              have J252 : ∀ ξ : gM, Rel ξ c1 lc1 w1 → J p l e room_1 s m #[Value.ref b] below meth c Q g 9 ξ (200 + 3522 * t + 1622) (9200 + 21132 * t + 9732) 252 [(5, .int 1), (8, .int dn), (7, .int (nI a)), (6, .int (nI t)), (4, .int (nI T)), (3, .ref (g.2.1 25)), (2, .ref (g.2.1 31)), (1, .ref (g.2.1 0)), (0, .ref b)] [] := by
                intro ξ R
                refine j_iload Z dL_law_252 3 rfl ?_
                refine j_bipush Z (v := 8) dL_law_254 (by decide) ?_
                refine j_iremN Z (a := t) (b := 8) dL_law_256 (by decide) (by omega) (by omega) (by omega) ?_
                refine j_bipush Z (v := 7) dL_law_257 (by decide) ?_
                refine j_icmp_lt Z 278 dL_law_259 (by decide) (fun h259 => ?_) (fun h259 => ?_)
                · skip
                  exact j_wide (k' := 200 + 3522 * t + 3522) (n' := 9200 + 21132 * t + 21132) (by omega) (by omega) (J278 _ R)
                · skip
                  refine j_aload_n Z dL_law_262 6 rfl ?_
                  refine j_aload_n Z dL_law_263 5 rfl ?_
                  refine j_aload_n Z dL_law_264 7 rfl ?_
                  obtain ⟨dd, hd, ed⟩ := R.1.2.2.1
                  refine j_callVi Z (As := []) (rest := [.ref (g.2.1 25), .ref (g.2.1 31)]) (nA := 0) 0 (by decide) rfl rfl (c_X5_today l g ξ) gL_law_X5_today rfl rfl rfl (by decide +kernel) (by decide) rfl dL_law_265 rfl (Nat.le_of_ble_eq_true rfl) ⟨by show _ ≤ 600074; omega, by show _ ≤ 7301550; omega⟩ (fun r23 μ23 hp => ?_)
                  obtain ⟨e1, e2⟩ := hp
                  refine j_mem e2 ?_
                  refine j_eq (e1.trans ed) ?_
                  clear e1 e2
                  refine j_iload Z dL_law_268 2 rfl ?_
                  refine j_iconst Z (v := 3) dL_law_270 (by decide) ?_
                  refine j_idivN Z (a := a) (b := 3) dL_law_271 (by decide) (by omega) (by omega) (by omega) ?_
                  refine j_sw ?_
                  refine j_callBi (gF_sw Z) hN (As := [.ref (g.2.1 31), .ref (g.2.1 25), .int (nI dd), .int (nI (a / 3))]) (rest := []) (nA := 4) (c_L_holds l hst (gSw g) (sw ξ) c1 lc1 w1 dd (a / 3) R.2.1 R.2.2.2.1 R.2.2.2.2 (by omega) (by omega)) gL_law_L_holds rfl rfl rfl (by decide +kernel) (by decide) rfl dL_law_272 rfl (Nat.le_of_ble_eq_true rfl) ⟨by show _ ≤ 600074; omega, by show _ ≤ 7301550; omega⟩ (fun r24 μ24 hp => ?_)
                  obtain ⟨e1, S9⟩ := hp
                  refine j_bk ?_
                  refine j_eq e1 ?_
                  clear e1
                  refine j_all (fun ξ => Rel ξ c1 lc1 w1) (R.scB S9) (fun ξ25 R25 => ?_)
                  refine j_if_eq Z 282 dL_law_275 (by decide) (fun h => absurd h (by decide)) (fun _ => ?_)
                  exact j_wide (k' := 200 + 3522 * t + 3522) (n' := 9200 + 21132 * t + 21132) (by omega) (by omega) (J278 _ R25)
              refine j_iload Z dL_law_231 3 rfl ?_
              refine j_iconst Z (v := 3) dL_law_233 (by decide) ?_
              refine j_iremN Z (a := t) (b := 3) dL_law_234 (by decide) (by omega) (by omega) (by omega) ?_
              refine j_if_gt Z 252 dL_law_235 (by decide) (fun h235 => ?_) (fun h235 => ?_)
              · skip
                exact j_wide (k' := 200 + 3522 * t + 1622) (n' := 9200 + 21132 * t + 9732) (by omega) (by omega) (J252 _ R22)
              · skip
                refine j_aload_n Z dL_law_238 7 rfl ?_
                refine j_aload_n Z dL_law_239 6 rfl ?_
                refine j_aload_n Z dL_law_240 5 rfl ?_
                refine j_iload Z dL_law_241 2 rfl ?_
                refine j_bipush Z (v := 7) dL_law_243 (by decide) ?_
                refine j_idivN Z (a := a) (b := 7) dL_law_245 (by decide) (by omega) (by omega) (by omega) ?_
                refine j_callBi Z hN (As := [.ref (g.2.1 0), .ref (g.2.1 31), .ref (g.2.1 25), .int (nI (a / 7))]) (rest := []) (nA := 4) (c_L_alike l hst g ξ22 c1 lc1 w1 (a / 7) R22 (by omega)) gL_law_L_alike rfl rfl rfl (by decide +kernel) (by decide) rfl dL_law_246 rfl (Nat.le_of_ble_eq_true rfl) ⟨by show _ ≤ 600074; omega, by show _ ≤ 7301550; omega⟩ (fun r26 μ26 hp => ?_)
                obtain ⟨e1, R9⟩ := hp
                refine j_eq e1 ?_
                clear e1
                refine j_all (fun ξ => Rel ξ c1 lc1 w1) (R9) (fun ξ27 R27 => ?_)
                refine j_if_eq Z 282 dL_law_249 (by decide) (fun h => absurd h (by decide)) (fun _ => ?_)
                exact j_wide (k' := 200 + 3522 * t + 1622) (n' := 9200 + 21132 * t + 9732) (by omega) (by omega) (J252 _ R27)
            refine j_iload Z dL_law_190 2 rfl ?_
            refine j_bipush Z (v := 16) dL_law_192 (by decide) ?_
            refine j_iremN Z (a := a) (b := 16) dL_law_194 (by decide) (by omega) (by omega) (by omega) ?_
            refine j_bipush Z (v := 15) dL_law_195 (by decide) ?_
            refine j_icmp_ne Z 209 dL_law_197 (by decide) (fun h197 => ?_) (fun h197 => ?_)
            · skip
              refine j_iconst Z (v := 0) dL_law_209 (by decide) ?_
              exact J210 0 (hwB (fun q => h197 (by rw [show a % 16 = 15 by omega]; rfl)))
            · skip
              refine j_iload Z dL_law_200 1 rfl ?_
              refine j_if_lt Z 209 dL_law_202 (by decide) (fun h202 => ?_) (fun h202 => ?_)
              · skip
                refine j_iconst Z (v := 0) dL_law_209 (by decide) ?_
                exact J210 0 (hwB (fun q => absurd h202 (Int32.not_lt.mpr q.2)))
              · skip
                refine j_iconst Z (v := 1) dL_law_205 (by decide) ?_
                refine j_goto Z 210 dL_law_206 (by decide) ?_
                exact J210 1 (hwA (by have := (nI_eq (b := 15) (by omega) (by omega)).mp h197; omega) (Int32.not_lt.mp h202))
          refine j_iload Z dL_law_154 2 rfl ?_
          refine j_bipush Z (v := 16) dL_law_156 (by decide) ?_
          refine j_iremN Z (a := a) (b := 16) dL_law_158 (by decide) (by omega) (by omega) (by omega) ?_
          refine j_bipush Z (v := 13) dL_law_159 (by decide) ?_
          refine j_icmp_eq Z 174 dL_law_161 (by decide) (fun h161 => ?_) (fun h161 => ?_)
          · skip
            refine j_iload Z dL_law_174 1 rfl ?_
            refine j_if_lt Z 183 dL_law_176 (by decide) (fun h176 => ?_) (fun h176 => ?_)
            · skip
              refine j_iconst Z (v := 0) dL_law_183 (by decide) ?_
              exact J184 0
            · skip
              refine j_iconst Z (v := 1) dL_law_179 (by decide) ?_
              refine j_goto Z 184 dL_law_180 (by decide) ?_
              exact J184 1
          · skip
            refine j_iload Z dL_law_164 2 rfl ?_
            refine j_bipush Z (v := 16) dL_law_166 (by decide) ?_
            refine j_iremN Z (a := a) (b := 16) dL_law_168 (by decide) (by omega) (by omega) (by omega) ?_
            refine j_bipush Z (v := 14) dL_law_169 (by decide) ?_
            refine j_icmp_ne Z 183 dL_law_171 (by decide) (fun h171 => ?_) (fun h171 => ?_)
            · skip
              refine j_iconst Z (v := 0) dL_law_183 (by decide) ?_
              exact J184 0
            · skip
              refine j_iload Z dL_law_174 1 rfl ?_
              refine j_if_lt Z 183 dL_law_176 (by decide) (fun h176 => ?_) (fun h176 => ?_)
              · skip
                refine j_iconst Z (v := 0) dL_law_183 (by decide) ?_
                exact J184 0
              · skip
                refine j_iconst Z (v := 1) dL_law_179 (by decide) ?_
                refine j_goto Z 184 dL_law_180 (by decide) ?_
                exact J184 1
        refine j_iload Z dL_law_128 2 rfl ?_
        refine j_bipush Z (v := 16) dL_law_130 (by decide) ?_
        refine j_iremN Z (a := a) (b := 16) dL_law_132 (by decide) (by omega) (by omega) (by omega) ?_
        refine j_bipush Z (v := 6) dL_law_133 (by decide) ?_
        refine j_icmp_ge Z 147 dL_law_135 (by decide) (fun h135 => ?_) (fun h135 => ?_)
        · skip
          refine j_iconst Z (v := 0) dL_law_147 (by decide) ?_
          exact J148 0 (hcB (fun q => by have := (nI_leI (a := 6) (by omega) (by omega)).mp h135; omega))
        · skip
          refine j_iload Z dL_law_138 1 rfl ?_
          refine j_if_lt Z 147 dL_law_140 (by decide) (fun h140 => ?_) (fun h140 => ?_)
          · skip
            refine j_iconst Z (v := 0) dL_law_147 (by decide) ?_
            exact J148 0 (hcB (fun q => absurd h140 (Int32.not_lt.mpr q.2)))
          · skip
            refine j_iconst Z (v := 1) dL_law_143 (by decide) ?_
            refine j_goto Z 148 dL_law_144 (by decide) ?_
            exact J148 1 (hcA (by have : ¬ 6 ≤ a % 16 := fun q => h135 ((nI_leI (a := 6) (by omega) (by omega)).mpr q); omega) (Int32.not_lt.mp h140))
      refine j_iload Z dL_law_61 1 rfl ?_
      refine j_iconst Z (v := 5) dL_law_63 (by decide) ?_
      refine j_icmp_ge Z 78 dL_law_64 (by decide) (fun h64 => ?_) (fun h64 => ?_)
      · skip
        refine j_iload Z dL_law_78 0 rfl ?_
        exact j_sub [1, 2, 3, 4, 5, 6, 7] rfl (J80 (a13) (by omega))
      · skip
        refine j_iload Z dL_law_67 0 rfl ?_
        refine j_bipush Z (v := 16) dL_law_69 (by decide) ?_
        refine j_idivN Z (a := a13) (b := 16) dL_law_71 (by decide) (by omega) (by omega) (by omega) ?_
        refine j_bipush Z (v := 16) dL_law_72 (by decide) ?_
        refine j_imul Z dL_law_74 ?_
        refine j_eq (nI_mulN (a := (a13 / 16)) (b := 16) (by omega)) ?_
        refine j_goto Z 80 dL_law_75 (by decide) ?_
        exact j_sub [1, 2, 3, 4, 5, 6, 7] rfl (J80 (((a13 / 16) * 16)) (by omega))
  exact j_sub [0, 1, 2, 3, 4, 5, 6] rfl (LP T 0 _ 0 0 0 (by omega) R0)
