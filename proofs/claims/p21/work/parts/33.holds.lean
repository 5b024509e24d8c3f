theorem nI_nN {k : Nat} (h : k < 2 ^ 31) : ¬ (-2000000004 : Int32) = nI k := fun q => nI_pos h (by rw [← q]; decide)
theorem stand_of {μ : gM} {n o : Nat} {z : Int32} (hn : n ≤ 60) (ho : o < n) (h : tT μ n z o = nI o) : fStand μ o z = true := by
  cases q : fStand μ o z
  · have := (tT_neg hn ho).mpr q
    rw [h] at this
    exact absurd this (nI_nm (by omega))
  · rfl
theorem mwL_holds_k53 : Cond.constant RL 53 (-2000000004) ∈ wsL_holds := by decide +kernel
set_option maxRecDepth 100000 in
set_option maxHeartbeats 8000000 in
theorem c_L_holds (l : Launch) (hst : l.stackTraces = false) (g : gC) (μ : gM) (cnt lc wc dd x : Nat) (I : I1 μ cnt lc wc) (hn0 : μ 25 0 = nI cnt) (hn2 : μ 25 2 = nI wc) (hd : dd ≤ 9999) (hx : x < 2 ^ 31) : Met l yL_holds wsL_holds { frames := 10, cells := 1900, slots := 11400, locals := 181 } (va_Pc [.ref (g.2.1 0), .ref (g.2.1 25), .int (nI dd), .int (nI x)] (gBW g μ)) (va_Qi (fun (r : Int32) (μ' : gM) => r = 1 ∧ Sc cnt μ μ') (gPB g) (gA g)) 1900 11400 (gA g) := by
  refine g_oB (cc := cL_holds) (nL := 11) (ret := (some .boolean)) (ty := .boolean) (by decide +kernel) rfl rfl (by rintro _ _ ⟨rfl, -⟩; rfl) (Nat.le_of_ble_eq_true rfl) ?_
  intro p e s m args below meth c Q Z hN hR
  have S0 := I.rf
  have h60 := I.c60
  have hday : inB (nI dd) 0 9999 = true := inB_in (m := 9999) (by decide) hd (by decide)
  refine j_iconst Z (v := 0) dL_holds_0 (by decide) ?_
  refine j_istore Z dL_holds_1 (by decide) [(4, .int 0), (0, .ref (g.2.1 0)), (1, .ref (g.2.1 25)), (2, .int (nI dd)), (3, .int (nI x))] rfl ?_
  refine j_iconst Z (v := 1) dL_holds_3 (by decide) ?_
  refine j_istore Z dL_holds_4 (by decide) [(5, .int 1), (4, .int 0), (0, .ref (g.2.1 0)), (1, .ref (g.2.1 25)), (2, .int (nI dd)), (3, .int (nI x))] rfl ?_
  refine j_iconst Z (v := 0) dL_holds_6 (by decide) ?_
  refine j_istore Z dL_holds_7 (by decide) [(6, .int 0), (5, .int 1), (4, .int 0), (0, .ref (g.2.1 0)), (1, .ref (g.2.1 25)), (2, .int (nI dd)), (3, .int (nI x))] rfl ?_
  have LP : ∀ (n k : Nat) (ξ : gM), k + n = cnt → Sc cnt μ ξ → J p l e { frames := 10, cells := 1900, slots := 11400, locals := 181 } s m args below meth c Q g 11 ξ (0 + 16 * k) (0 + 96 * k) 9 [(6, .int (nI k)), (5, .int 1), (4, .int (nI (cB (fun j => decide (tT μ cnt (nI dd) j = nI j)) k))), (0, .ref (g.2.1 0)), (1, .ref (g.2.1 25)), (2, .int (nI dd)), (3, .int (nI x))] [] := by
    intro n
    induction n with
    | zero =>
      intro k ξ hk S
      refine j_iload Z dL_holds_9 0 rfl ?_
      refine j_aload_n Z dL_holds_11 4 rfl ?_
      refine j_iconst Z (v := 0) dL_holds_12 (by decide) ?_
      refine j_ild Z 25 (by decide) (fun _ => rfl) 0 (by decide) (by decide) (by decide) dL_holds_13 ?_
      refine j_eq ((congrFun (S.1 25 (by decide) (by decide) (by decide)) 0).trans hn0) ?_
      refine j_icmp_ge Z 156 dL_holds_14 (by decide) (fun _ => ?_) (fun h => absurd ((nI_leI (by omega) (by omega)).mpr (by omega)) h)
      have hkc : k = cnt := by omega
      have e4 : nI (cB (fun j => decide (tT μ cnt (nI dd) j = nI j)) k) = nI (nT μ cnt (nI dd)) := by rw [hkc]; rfl
      rw [e4]
      have hT60 : nT μ cnt (nI dd) ≤ cnt := cB_le _ _
      refine j_iload Z dL_holds_156 1 rfl ?_
      refine j_if_eq Z 198 dL_holds_158 (by decide) (fun h => absurd h (by decide)) (fun _ => ?_)
      refine j_iload Z dL_holds_161 2 rfl ?_
      refine j_aload_n Z dL_holds_163 3 rfl ?_
      refine j_iload_n Z dL_holds_164 5 rfl ?_
      refine j_callSWi Z hN (As := [.ref (g.2.1 0), .int (nI dd)]) (rest := [.int (nI (nT μ cnt (nI dd)))]) (nA := 2) (c_L_things l hst g ξ cnt lc wc (I.sc S).1 (nI dd)) gL_holds_L_things rfl rfl rfl (by decide +kernel) (by decide) rfl dL_holds_165 rfl (Nat.le_of_ble_eq_true rfl) ⟨by show _ ≤ 1900; omega, by show _ ≤ 11400; omega⟩ (fun r1 μ1 hp => ?_)
      have S1 := (n_things I S hp).1
      have e1 := (n_things I S hp).2.2 (hday)
      clear hp
      refine j_eq (y := nI (nT μ cnt (nI dd))) e1 ?_
      clear e1
      refine j_icmp_ne Z 198 dL_holds_168 (by decide) (fun h => absurd rfl h) (fun _ => ?_)
      refine j_aload_n Z dL_holds_171 3 rfl ?_
      refine j_iconst Z (v := 0) dL_holds_172 (by decide) ?_
      refine j_iload_n Z dL_holds_173 5 rfl ?_
      refine j_callSWi Z hN (As := [.ref (g.2.1 0), .int 0, .int (nI dd)]) (rest := []) (nA := 3) (c_L_disputed l hst g μ1 cnt lc wc (I.sc S1).1 0 (nI dd)) gL_holds_L_disputed rfl rfl rfl (by decide +kernel) (by decide) rfl dL_holds_174 rfl (Nat.le_of_ble_eq_true rfl) ⟨by show _ ≤ 1900; omega, by show _ ≤ 11400; omega⟩ (fun r2 μ2 hp => ?_)
      have S2 := (n_disputed I S1 hp).1
      have e2 := (n_disputed I S1 hp).2.2 (and2t (by decide) hday)
      clear hp
      refine j_eq (y := nI (cB (fun k => decide (tT μ cnt (nI dd) k = nI k) && uBad (tT μ cnt (nI dd)) (μ (29 + ix 0)) (nI k) cnt) cnt)) e2 ?_
      clear e2
      refine j_iload Z dL_holds_177 2 rfl ?_
      refine j_icmp_gt Z 198 dL_holds_179 (by decide) (fun h => absurd h (fun q => by have h1 : cB (fun k => decide (tT μ cnt (nI dd) k = nI k) && uBad (tT μ cnt (nI dd)) (μ (29 + ix 0)) (nI k) cnt) cnt ≤ nT μ cnt (nI dd) := cB_mono (fun j _ hj => ((Bool.and_eq_true _ _).mp hj).1); have := (nI_ltI (by omega) (by omega)).mp q; omega)) (fun _ => ?_)
      refine j_aload_n Z dL_holds_182 3 rfl ?_
      refine j_iload_n Z dL_holds_183 6 rfl ?_
      refine j_iconst Z (v := 2) dL_holds_184 (by decide) ?_
      refine j_iremN Z (a := x) (b := 2) dL_holds_185 (by decide) (by omega) (by omega) (by omega) ?_
      refine j_iload_n Z dL_holds_186 5 rfl ?_
      refine j_iload_n Z dL_holds_187 5 rfl ?_
      refine j_callSWi Z hN (As := [.ref (g.2.1 0), .int (nI (x % 2)), .int (nI dd), .int (nI dd)]) (rest := []) (nA := 4) (c_L_changed l hst g μ2 cnt lc wc (I.sc S2).1 (nI (x % 2)) (nI dd) (nI dd)) gL_holds_L_changed rfl rfl rfl (by decide +kernel) (by decide) rfl dL_holds_188 rfl (Nat.le_of_ble_eq_true rfl) ⟨by show _ ≤ 1900; omega, by show _ ≤ 11400; omega⟩ (fun r3 μ3 hp => ?_)
      have S3 := (n_changed I S2 hp).1
      have e3 := (n_changed I S2 hp).2.2 (and3t (inB_in (m := 1) (by decide) (by omega) (by decide)) hday hday)
      clear hp
      refine j_eq (y := 0) (e3.trans (congrArg nI (cB_zero (fun j _ => by unfold havB; rw [ne_f, Bool.and_false])))) ?_
      clear e3
      refine j_if_ne Z 198 dL_holds_191 (by decide) (fun h => absurd h (by decide)) (fun _ => ?_)
      refine j_iconst Z (v := 1) dL_holds_194 (by decide) ?_
      refine j_goto Z 199 dL_holds_195 (by decide) ?_
      refine j_istore Z dL_holds_199 (by decide) [(5, .int 1), (6, .int (nI k)), (4, .int (nI (nT μ cnt (nI dd)))), (0, .ref (g.2.1 0)), (1, .ref (g.2.1 25)), (2, .int (nI dd)), (3, .int (nI x))] rfl ?_
      refine j_aload_n Z dL_holds_201 4 rfl ?_
      refine j_iconst Z (v := 0) dL_holds_202 (by decide) ?_
      refine j_ild Z 25 (by decide) (fun _ => rfl) 0 (by decide) (by decide) (by decide) dL_holds_203 ?_
      refine j_eq ((congrFun (S3.1 25 (by decide) (by decide) (by decide)) 0).trans hn0) ?_
      refine j_if_ne Z 211 dL_holds_204 (by decide) (fun h204 => ?_) (fun h204 => ?_)
      · skip
        have hc0 := nI_n0 h204
        obtain ⟨one, hon, eone⟩ : ∃ one, one < cnt ∧ x % cnt = one := ⟨_, Nat.mod_lt _ hc0, rfl⟩
        have hone : fndB cnt (nI one) = true := fndB_nI hon (by omega)
        refine j_iload_n Z dL_holds_211 6 rfl ?_
        refine j_aload_n Z dL_holds_212 4 rfl ?_
        refine j_iconst Z (v := 0) dL_holds_213 (by decide) ?_
        refine j_ild Z 25 (by decide) (fun _ => rfl) 0 (by decide) (by decide) (by decide) dL_holds_214 ?_
        refine j_eq ((congrFun (S3.1 25 (by decide) (by decide) (by decide)) 0).trans hn0) ?_
        refine j_iremN Z (a := x) (b := cnt) dL_holds_215 rfl (by omega) (by omega) (by omega) ?_
        refine j_eq (congrArg nI eone) ?_
        refine j_istore Z dL_holds_216 (by decide) [(6, .int (nI one)), (5, .int 1), (4, .int (nI (nT μ cnt (nI dd)))), (0, .ref (g.2.1 0)), (1, .ref (g.2.1 25)), (2, .int (nI dd)), (3, .int (nI x))] rfl ?_
        refine j_iload Z dL_holds_218 1 rfl ?_
        refine j_if_eq Z 401 dL_holds_220 (by decide) (fun h => absurd h (by decide)) (fun _ => ?_)
        refine j_aload_n Z dL_holds_223 4 rfl ?_
        refine j_iconst Z (v := 0) dL_holds_224 (by decide) ?_
        refine j_ild Z 25 (by decide) (fun _ => rfl) 0 (by decide) (by decide) (by decide) dL_holds_225 ?_
        refine j_eq ((congrFun (S3.1 25 (by decide) (by decide) (by decide)) 0).trans hn0) ?_
        refine j_if_le Z 401 dL_holds_226 (by decide) (fun h => absurd h (nI_nle hc0 (by omega))) (fun _ => ?_)
        cases hs1 : fStand μ one (nI dd)
        · skip
          refine j_aload_n Z dL_holds_229 3 rfl ?_
          refine j_iload Z dL_holds_230 0 rfl ?_
          refine j_iload_n Z dL_holds_232 5 rfl ?_
          refine j_callSWi Z hN (As := [.ref (g.2.1 0), .int (nI one), .int (nI dd)]) (rest := []) (nA := 3) (c_L_counts l hst g μ3 cnt lc wc (I.sc S3).1 (nI one) (nI dd)) gL_holds_L_counts rfl rfl rfl (by decide +kernel) (by decide) rfl dL_holds_233 rfl (Nat.le_of_ble_eq_true rfl) ⟨by show _ ≤ 1900; omega, by show _ ≤ 11400; omega⟩ (fun r4 μ4 hp => ?_)
          have S4 := (n_counts I S3 hp).1
          have e4 := (n_counts I S3 hp).2.2.2 (hone) (hday)
          clear hp
          refine j_eq (y := 0) (e4.trans (by rw [ix_nI (by omega), hs1]; rfl)) ?_
          clear e4
          refine j_iconst Z (v := 1) dL_holds_236 (by decide) ?_
          refine j_icmp_ne Z 401 dL_holds_237 (by decide) (fun _ => ?_) (fun h => absurd h (by decide))
          refine j_iload Z dL_holds_401 1 rfl ?_
          exact hR _ _ _ _ _ _ (⟨rfl, S4⟩) (by omega) (by omega) dL_holds_403
        · skip
          obtain ⟨q, hq, eq1, eq2⟩ := tT_lab I.c60 hon hs1
          refine j_aload_n Z dL_holds_229 3 rfl ?_
          refine j_iload Z dL_holds_230 0 rfl ?_
          refine j_iload_n Z dL_holds_232 5 rfl ?_
          refine j_callSWi Z hN (As := [.ref (g.2.1 0), .int (nI one), .int (nI dd)]) (rest := []) (nA := 3) (c_L_counts l hst g μ3 cnt lc wc (I.sc S3).1 (nI one) (nI dd)) gL_holds_L_counts rfl rfl rfl (by decide +kernel) (by decide) rfl dL_holds_233 rfl (Nat.le_of_ble_eq_true rfl) ⟨by show _ ≤ 1900; omega, by show _ ≤ 11400; omega⟩ (fun r5 μ5 hp => ?_)
          have S5 := (n_counts I S3 hp).1
          have e5 := (n_counts I S3 hp).2.2.2 (hone) (hday)
          clear hp
          refine j_eq (y := 1) (e5.trans (by rw [ix_nI (by omega), hs1]; rfl)) ?_
          clear e5
          refine j_iconst Z (v := 1) dL_holds_236 (by decide) ?_
          refine j_icmp_ne Z 401 dL_holds_237 (by decide) (fun h => absurd rfl h) (fun _ => ?_)
          refine j_aload_n Z dL_holds_240 3 rfl ?_
          refine j_iload Z dL_holds_241 0 rfl ?_
          refine j_iload_n Z dL_holds_243 5 rfl ?_
          refine j_callSWi Z hN (As := [.ref (g.2.1 0), .int (nI one), .int (nI dd)]) (rest := []) (nA := 3) (c_L_impact l hst g μ5 cnt lc wc (I.sc S5).1 (nI one) (nI dd)) gL_holds_L_impact rfl rfl rfl (by decide +kernel) (by decide) rfl dL_holds_244 rfl (Nat.le_of_ble_eq_true rfl) ⟨by show _ ≤ 1900; omega, by show _ ≤ 11400; omega⟩ (fun r6 μ6 hp => ?_)
          have S6 := (n_impact I S5 hp).1
          have e6 := (n_impact I S5 hp).2.2.2.2 (hone) (hday) (by rw [ix_nI (by omega)]; exact hs1)
          clear hp
          refine j_eq (y := nI (cB (gFm μ cnt lc (nI dd) q) 60)) (e6.trans (by rw [show ix (nI one) = one from ix_nI (by omega), eq1, show ix (nI q) = q from ix_nI (by omega)])) ?_
          clear e6
          refine j_istore Z dL_holds_247 (by decide) [(7, .int (nI (cB (gFm μ cnt lc (nI dd) q) 60))), (6, .int (nI one)), (5, .int 1), (4, .int (nI (nT μ cnt (nI dd)))), (0, .ref (g.2.1 0)), (1, .ref (g.2.1 25)), (2, .int (nI dd)), (3, .int (nI x))] rfl ?_
          refine j_iconst Z (v := 0) dL_holds_249 (by decide) ?_
          refine j_istore Z dL_holds_250 (by decide) [(8, .int 0), (7, .int (nI (cB (gFm μ cnt lc (nI dd) q) 60))), (6, .int (nI one)), (5, .int 1), (4, .int (nI (nT μ cnt (nI dd)))), (0, .ref (g.2.1 0)), (1, .ref (g.2.1 25)), (2, .int (nI dd)), (3, .int (nI x))] rfl ?_
          refine j_iconst Z (v := 0) dL_holds_252 (by decide) ?_
          refine j_istore Z dL_holds_253 (by decide) [(9, .int 0), (8, .int 0), (7, .int (nI (cB (gFm μ cnt lc (nI dd) q) 60))), (6, .int (nI one)), (5, .int 1), (4, .int (nI (nT μ cnt (nI dd)))), (0, .ref (g.2.1 0)), (1, .ref (g.2.1 25)), (2, .int (nI dd)), (3, .int (nI x))] rfl ?_
          have hq60 : q < 60 := by omega
          have hfr : ∀ j, j < 60 → gFm μ cnt lc (nI dd) q j = true → j < cnt ∧ tT μ cnt (nI dd) j = nI j := fun j hj h => I.f_root (by omega) eq2 hj h
          have hM60 : cB (gFm μ cnt lc (nI dd) q) 60 ≤ 60 := cB_le _ _
          have LQ : ∀ (n j : Nat) (ξ : gM), j + n = cnt → Sc cnt μ ξ → J p l e { frames := 10, cells := 1900, slots := 11400, locals := 181 } s m args below meth c Q g 11 ξ (0 + 16 * k + 11 + 13 * j) (0 + 96 * k + 66 + 78 * j) 255 [(9, .int (nI j)), (8, .int (nI (cB (gFm μ cnt lc (nI dd) q) j))), (5, .int 1), (7, .int (nI (cB (gFm μ cnt lc (nI dd) q) 60))), (6, .int (nI one)), (4, .int (nI (nT μ cnt (nI dd)))), (0, .ref (g.2.1 0)), (1, .ref (g.2.1 25)), (2, .int (nI dd)), (3, .int (nI x))] [] := by
            intro n
            induction n with
            | zero =>
              intro j ξ hj S
              refine j_iload Z dL_holds_255 0 rfl ?_
              refine j_aload_n Z dL_holds_257 7 rfl ?_
              refine j_iconst Z (v := 0) dL_holds_258 (by decide) ?_
              refine j_ild Z 25 (by decide) (fun _ => rfl) 0 (by decide) (by decide) (by decide) dL_holds_259 ?_
              refine j_eq ((congrFun (S.1 25 (by decide) (by decide) (by decide)) 0).trans hn0) ?_
              refine j_icmp_ge Z 356 dL_holds_260 (by decide) (fun _ => ?_) (fun h => absurd ((nI_leI (by omega) (by omega)).mpr (by omega)) h)
              have hjc : j = cnt := by omega
              have e60 : cB (gFm μ cnt lc (nI dd) q) 60 = cB (gFm μ cnt lc (nI dd) q) cnt := by
                have h1 := cB_tail (p := gFm μ cnt lc (nI dd) q) (n := cnt) (60 - cnt) (fun i h1 h2 => by
                  cases h9 : gFm μ cnt lc (nI dd) q i
                  · rfl
                  · have := (hfr i (by omega) h9).1; omega)
                rw [show cnt + (60 - cnt) = 60 by omega] at h1
                exact h1
              have e8 : nI (cB (gFm μ cnt lc (nI dd) q) j) = nI (cB (gFm μ cnt lc (nI dd) q) 60) := by rw [hjc, e60]
              rw [e8]
              have hM1 : 1 ≤ cB (gFm μ cnt lc (nI dd) q) 60 := cB_pos hq60 (I.f_self hq60)
              have hMT : cB (gFm μ cnt lc (nI dd) q) 60 ≤ nT μ cnt (nI dd) := by rw [e60]; exact cB_mono (fun i hi h9 => by rw [decide_eq_true_eq]; exact (hfr i (by omega) h9).2)
              refine j_iload Z dL_holds_356 2 rfl ?_
              refine j_if_eq Z 398 dL_holds_358 (by decide) (fun h => absurd h (by decide)) (fun _ => ?_)
              refine j_iload Z dL_holds_361 1 rfl ?_
              refine j_iload Z dL_holds_363 3 rfl ?_
              refine j_icmp_ne Z 398 dL_holds_365 (by decide) (fun h => absurd rfl h) (fun _ => ?_)
              refine j_iload Z dL_holds_368 3 rfl ?_
              refine j_iconst Z (v := 1) dL_holds_370 (by decide) ?_
              refine j_icmp_lt Z 398 dL_holds_371 (by decide) (fun h => absurd h (fun q9 => by have := (nI_ltI (b := 1) (by omega) (by omega)).mp q9; omega)) (fun _ => ?_)
              refine j_iload Z dL_holds_374 3 rfl ?_
              refine j_iload Z dL_holds_376 5 rfl ?_
              refine j_icmp_gt Z 398 dL_holds_378 (by decide) (fun h => absurd h (fun q9 => by have := (nI_ltI (by omega) (by omega)).mp q9; omega)) (fun _ => ?_)
              refine j_aload_n Z dL_holds_381 6 rfl ?_
              refine j_iload Z dL_holds_382 4 rfl ?_
              refine j_iload Z dL_holds_384 4 rfl ?_
              refine j_iload_n Z dL_holds_386 8 rfl ?_
              refine j_callSWi Z hN (As := [.ref (g.2.1 0), .int (nI one), .int (nI one), .int (nI dd)]) (rest := []) (nA := 4) (c_L_fails l hst g ξ cnt lc wc (I.sc S).1 (nI one) (nI one) (nI dd)) gL_holds_L_fails rfl rfl rfl (by decide +kernel) (by decide) rfl dL_holds_387 rfl (Nat.le_of_ble_eq_true rfl) ⟨by show _ ≤ 1900; omega, by show _ ≤ 11400; omega⟩ (fun r7 μ7 hp => ?_)
              have S7 := (n_fails I S hp).1
              have e7 := (n_fails I S hp).2.2.2.2 (and2t hone hone) (hday) (and2t (by rw [ix_nI (by omega)]; exact hs1) (by rw [ix_nI (by omega)]; exact hs1))
              clear hp
              refine j_eq (y := 1) (e7.trans (by rw [show ix (nI one) = one from ix_nI (by omega), eq1, show ix (nI q) = q from ix_nI (by omega), I.f_self hq60]; rfl)) ?_
              clear e7
              refine j_iconst Z (v := 1) dL_holds_390 (by decide) ?_
              refine j_icmp_ne Z 398 dL_holds_391 (by decide) (fun h => absurd rfl h) (fun _ => ?_)
              refine j_iconst Z (v := 1) dL_holds_394 (by decide) ?_
              refine j_goto Z 399 dL_holds_395 (by decide) ?_
              refine j_istore Z dL_holds_399 (by decide) [(5, .int 1), (9, .int (nI j)), (8, .int (nI (cB (gFm μ cnt lc (nI dd) q) 60))), (7, .int (nI (cB (gFm μ cnt lc (nI dd) q) 60))), (6, .int (nI one)), (4, .int (nI (nT μ cnt (nI dd)))), (0, .ref (g.2.1 0)), (1, .ref (g.2.1 25)), (2, .int (nI dd)), (3, .int (nI x))] rfl ?_
              refine j_iload Z dL_holds_401 0 rfl ?_
              exact hR _ _ _ _ _ _ (⟨rfl, S7⟩) (by omega) (by omega) dL_holds_403
            | succ n ih =>
              intro j ξ hj S
              refine j_iload Z dL_holds_255 0 rfl ?_
              refine j_aload_n Z dL_holds_257 7 rfl ?_
              refine j_iconst Z (v := 0) dL_holds_258 (by decide) ?_
              refine j_ild Z 25 (by decide) (fun _ => rfl) 0 (by decide) (by decide) (by decide) dL_holds_259 ?_
              refine j_eq ((congrFun (S.1 25 (by decide) (by decide) (by decide)) 0).trans hn0) ?_
              refine j_icmp_ge Z 356 dL_holds_260 (by decide) (fun h => absurd h (fun q => by have := (nI_leI (by omega) (by omega)).mp q; omega)) (fun _ => ?_)
              refine j_iload Z dL_holds_263 2 rfl ?_
              refine j_if_eq Z 356 dL_holds_265 (by decide) (fun h => absurd h (by decide)) (fun _ => ?_)
              cases hs : fStand μ j (nI dd)
              · skip
                have hjf : fndB cnt (nI j) = true := fndB_nI (by omega) (by omega)
                refine j_aload_n Z dL_holds_268 6 rfl ?_
                refine j_iload Z dL_holds_269 0 rfl ?_
                refine j_iload_n Z dL_holds_271 8 rfl ?_
                refine j_callSWi Z hN (As := [.ref (g.2.1 0), .int (nI j), .int (nI dd)]) (rest := []) (nA := 3) (c_L_counts l hst g ξ cnt lc wc (I.sc S).1 (nI j) (nI dd)) gL_holds_L_counts rfl rfl rfl (by decide +kernel) (by decide) rfl dL_holds_272 rfl (Nat.le_of_ble_eq_true rfl) ⟨by show _ ≤ 1900; omega, by show _ ≤ 11400; omega⟩ (fun r8 μ8 hp => ?_)
                have S8 := (n_counts I S hp).1
                have e8 := (n_counts I S hp).2.2.2 (hjf) (hday)
                clear hp
                refine j_eq (y := 0) (e8.trans (by rw [ix_nI (by omega), hs]; rfl)) ?_
                clear e8
                refine j_iconst Z (v := 1) dL_holds_275 (by decide) ?_
                refine j_icmp_ne Z 296 dL_holds_276 (by decide) (fun _ => ?_) (fun h => absurd h (by decide))
                refine j_iconst Z (v := 0) dL_holds_296 (by decide) ?_
                refine j_istore Z dL_holds_297 (by decide) [(10, .int 0), (9, .int (nI j)), (8, .int (nI (cB (gFm μ cnt lc (nI dd) q) j))), (5, .int 1), (7, .int (nI (cB (gFm μ cnt lc (nI dd) q) 60))), (6, .int (nI one)), (4, .int (nI (nT μ cnt (nI dd)))), (0, .ref (g.2.1 0)), (1, .ref (g.2.1 25)), (2, .int (nI dd)), (3, .int (nI x))] rfl ?_
                refine j_iload Z dL_holds_299 2 rfl ?_
                refine j_iload Z dL_holds_301 0 rfl ?_
                refine j_if_eq Z 322 dL_holds_303 (by decide) (fun _ => ?_) (fun h => absurd h (by decide))
                refine j_iconst Z (v := 0) dL_holds_322 (by decide) ?_
                refine j_iadd Z dL_holds_323 ?_
                refine j_eq (y := nI (cB (gFm μ cnt lc (nI dd) q) (j + 1))) (by rw [← cB_0 (fun h9 => by have h8 := (hfr j (by omega) h9).2; rw [(tT_neg I.c60 (by omega)).mpr hs] at h8; exact nI_nm (by omega) h8.symm)]; exact Int32.add_zero _) ?_
                refine j_istore Z dL_holds_324 (by decide) [(8, .int (nI (cB (gFm μ cnt lc (nI dd) q) (j + 1)))), (10, .int 0), (9, .int (nI j)), (5, .int 1), (7, .int (nI (cB (gFm μ cnt lc (nI dd) q) 60))), (6, .int (nI one)), (4, .int (nI (nT μ cnt (nI dd)))), (0, .ref (g.2.1 0)), (1, .ref (g.2.1 25)), (2, .int (nI dd)), (3, .int (nI x))] rfl ?_
                refine j_iload Z dL_holds_326 1 rfl ?_
                refine j_if_eq Z 343 dL_holds_328 (by decide) (fun _ => ?_) (fun h => absurd h (by decide))
                refine j_iconst Z (v := 1) dL_holds_343 (by decide) ?_
                refine j_goto Z 348 dL_holds_344 (by decide) ?_
                refine j_istore Z dL_holds_348 (by decide) [(5, .int 1), (8, .int (nI (cB (gFm μ cnt lc (nI dd) q) (j + 1)))), (10, .int 0), (9, .int (nI j)), (7, .int (nI (cB (gFm μ cnt lc (nI dd) q) 60))), (6, .int (nI one)), (4, .int (nI (nT μ cnt (nI dd)))), (0, .ref (g.2.1 0)), (1, .ref (g.2.1 25)), (2, .int (nI dd)), (3, .int (nI x))] rfl ?_
                refine j_iinc Z dL_holds_350 3 rfl (nI_1 j) (by decide) [(9, .int (nI (j + 1))), (5, .int 1), (8, .int (nI (cB (gFm μ cnt lc (nI dd) q) (j + 1)))), (10, .int 0), (7, .int (nI (cB (gFm μ cnt lc (nI dd) q) 60))), (6, .int (nI one)), (4, .int (nI (nT μ cnt (nI dd)))), (0, .ref (g.2.1 0)), (1, .ref (g.2.1 25)), (2, .int (nI dd)), (3, .int (nI x))] rfl ?_
                refine j_goto Z 255 dL_holds_353 (by decide) ?_
                exact j_sub [0, 2, 1, 4, 5, 6, 7, 8, 9, 10] rfl (j_wide (k' := 0 + 16 * k + 11 + 13 * (j + 1)) (n' := 0 + 96 * k + 66 + 78 * (j + 1)) (by omega) (by omega) (ih (j + 1) _ (by omega) S8))
              · skip
                have hjf : fndB cnt (nI j) = true := fndB_nI (by omega) (by omega)
                obtain ⟨o, ho, eo, eo2⟩ := tT_lab I.c60 (show j < cnt by omega) hs
                refine j_aload_n Z dL_holds_268 6 rfl ?_
                refine j_iload Z dL_holds_269 0 rfl ?_
                refine j_iload_n Z dL_holds_271 8 rfl ?_
                refine j_callSWi Z hN (As := [.ref (g.2.1 0), .int (nI j), .int (nI dd)]) (rest := []) (nA := 3) (c_L_counts l hst g ξ cnt lc wc (I.sc S).1 (nI j) (nI dd)) gL_holds_L_counts rfl rfl rfl (by decide +kernel) (by decide) rfl dL_holds_272 rfl (Nat.le_of_ble_eq_true rfl) ⟨by show _ ≤ 1900; omega, by show _ ≤ 11400; omega⟩ (fun r9 μ9 hp => ?_)
                have S9 := (n_counts I S hp).1
                have e9 := (n_counts I S hp).2.2.2 (hjf) (hday)
                clear hp
                refine j_eq (y := 1) (e9.trans (by rw [ix_nI (by omega), hs]; rfl)) ?_
                clear e9
                refine j_iconst Z (v := 1) dL_holds_275 (by decide) ?_
                refine j_icmp_ne Z 296 dL_holds_276 (by decide) (fun h => absurd rfl h) (fun _ => ?_)
                refine j_aload_n Z dL_holds_279 6 rfl ?_
                refine j_iload Z dL_holds_280 0 rfl ?_
                refine j_iload Z dL_holds_282 4 rfl ?_
                refine j_iload_n Z dL_holds_284 8 rfl ?_
                refine j_callSWi Z hN (As := [.ref (g.2.1 0), .int (nI j), .int (nI one), .int (nI dd)]) (rest := []) (nA := 4) (c_L_fails l hst g μ9 cnt lc wc (I.sc S9).1 (nI j) (nI one) (nI dd)) gL_holds_L_fails rfl rfl rfl (by decide +kernel) (by decide) rfl dL_holds_285 rfl (Nat.le_of_ble_eq_true rfl) ⟨by show _ ≤ 1900; omega, by show _ ≤ 11400; omega⟩ (fun r10 μ10 hp => ?_)
                cases hg : gFm μ cnt lc (nI dd) q o
                · skip
                  have S10 := (n_fails I S9 hp).1
                  have e10 := (n_fails I S9 hp).2.2.2.2 (and2t hjf hone) (hday) (and2t (by rw [ix_nI (by omega)]; exact hs) (by rw [ix_nI (by omega)]; exact hs1))
                  clear hp
                  refine j_eq (y := 0) (e10.trans (by rw [show ix (nI j) = j from ix_nI (by omega), show ix (nI one) = one from ix_nI (by omega), eq1, eo, show ix (nI q) = q from ix_nI (by omega), show ix (nI o) = o from ix_nI (by omega), hg]; rfl)) ?_
                  clear e10
                  refine j_iconst Z (v := 1) dL_holds_288 (by decide) ?_
                  refine j_icmp_ne Z 296 dL_holds_289 (by decide) (fun _ => ?_) (fun h => absurd h (by decide))
                  refine j_iconst Z (v := 0) dL_holds_296 (by decide) ?_
                  refine j_istore Z dL_holds_297 (by decide) [(10, .int 0), (9, .int (nI j)), (8, .int (nI (cB (gFm μ cnt lc (nI dd) q) j))), (5, .int 1), (7, .int (nI (cB (gFm μ cnt lc (nI dd) q) 60))), (6, .int (nI one)), (4, .int (nI (nT μ cnt (nI dd)))), (0, .ref (g.2.1 0)), (1, .ref (g.2.1 25)), (2, .int (nI dd)), (3, .int (nI x))] rfl ?_
                  refine j_iload Z dL_holds_299 2 rfl ?_
                  refine j_iload Z dL_holds_301 0 rfl ?_
                  refine j_if_eq Z 322 dL_holds_303 (by decide) (fun _ => ?_) (fun h => absurd h (by decide))
                  refine j_iconst Z (v := 0) dL_holds_322 (by decide) ?_
                  refine j_iadd Z dL_holds_323 ?_
                  refine j_eq (y := nI (cB (gFm μ cnt lc (nI dd) q) (j + 1))) (by rw [← cB_0 (fun h9 => by have h8 := (hfr j (by omega) h9).2; rw [eo] at h8; rw [(nI_eq (by omega) (by omega)).mp h8] at hg; rw [hg] at h9; cases h9)]; exact Int32.add_zero _) ?_
                  refine j_istore Z dL_holds_324 (by decide) [(8, .int (nI (cB (gFm μ cnt lc (nI dd) q) (j + 1)))), (10, .int 0), (9, .int (nI j)), (5, .int 1), (7, .int (nI (cB (gFm μ cnt lc (nI dd) q) 60))), (6, .int (nI one)), (4, .int (nI (nT μ cnt (nI dd)))), (0, .ref (g.2.1 0)), (1, .ref (g.2.1 25)), (2, .int (nI dd)), (3, .int (nI x))] rfl ?_
                  refine j_iload Z dL_holds_326 1 rfl ?_
                  refine j_if_eq Z 343 dL_holds_328 (by decide) (fun _ => ?_) (fun h => absurd h (by decide))
                  refine j_iconst Z (v := 1) dL_holds_343 (by decide) ?_
                  refine j_goto Z 348 dL_holds_344 (by decide) ?_
                  refine j_istore Z dL_holds_348 (by decide) [(5, .int 1), (8, .int (nI (cB (gFm μ cnt lc (nI dd) q) (j + 1)))), (10, .int 0), (9, .int (nI j)), (7, .int (nI (cB (gFm μ cnt lc (nI dd) q) 60))), (6, .int (nI one)), (4, .int (nI (nT μ cnt (nI dd)))), (0, .ref (g.2.1 0)), (1, .ref (g.2.1 25)), (2, .int (nI dd)), (3, .int (nI x))] rfl ?_
                  refine j_iinc Z dL_holds_350 3 rfl (nI_1 j) (by decide) [(9, .int (nI (j + 1))), (5, .int 1), (8, .int (nI (cB (gFm μ cnt lc (nI dd) q) (j + 1)))), (10, .int 0), (7, .int (nI (cB (gFm μ cnt lc (nI dd) q) 60))), (6, .int (nI one)), (4, .int (nI (nT μ cnt (nI dd)))), (0, .ref (g.2.1 0)), (1, .ref (g.2.1 25)), (2, .int (nI dd)), (3, .int (nI x))] rfl ?_
                  refine j_goto Z 255 dL_holds_353 (by decide) ?_
                  exact j_sub [0, 2, 1, 4, 5, 6, 7, 8, 9, 10] rfl (j_wide (k' := 0 + 16 * k + 11 + 13 * (j + 1)) (n' := 0 + 96 * k + 66 + 78 * (j + 1)) (by omega) (by omega) (ih (j + 1) _ (by omega) S10))
                · skip
                  have S10 := (n_fails I S9 hp).1
                  have e10 := (n_fails I S9 hp).2.2.2.2 (and2t hjf hone) (hday) (and2t (by rw [ix_nI (by omega)]; exact hs) (by rw [ix_nI (by omega)]; exact hs1))
                  clear hp
                  refine j_eq (y := 1) (e10.trans (by rw [show ix (nI j) = j from ix_nI (by omega), show ix (nI one) = one from ix_nI (by omega), eq1, eo, show ix (nI q) = q from ix_nI (by omega), show ix (nI o) = o from ix_nI (by omega), hg]; rfl)) ?_
                  clear e10
                  refine j_iconst Z (v := 1) dL_holds_288 (by decide) ?_
                  refine j_icmp_ne Z 296 dL_holds_289 (by decide) (fun h => absurd rfl h) (fun _ => ?_)
                  refine j_iconst Z (v := 1) dL_holds_292 (by decide) ?_
                  refine j_goto Z 297 dL_holds_293 (by decide) ?_
                  refine j_istore Z dL_holds_297 (by decide) [(10, .int 1), (9, .int (nI j)), (8, .int (nI (cB (gFm μ cnt lc (nI dd) q) j))), (5, .int 1), (7, .int (nI (cB (gFm μ cnt lc (nI dd) q) 60))), (6, .int (nI one)), (4, .int (nI (nT μ cnt (nI dd)))), (0, .ref (g.2.1 0)), (1, .ref (g.2.1 25)), (2, .int (nI dd)), (3, .int (nI x))] rfl ?_
                  refine j_iload Z dL_holds_299 2 rfl ?_
                  refine j_iload Z dL_holds_301 0 rfl ?_
                  refine j_if_eq Z 322 dL_holds_303 (by decide) (fun h => absurd h (by decide)) (fun _ => ?_)
                  have J324 : ∀ ξ : gM, Sc cnt μ ξ → J p l e { frames := 10, cells := 1900, slots := 11400, locals := 181 } s m args below meth c Q g 11 ξ (0 + 16 * k + 11 + 13 * j + 7 + 3) (0 + 96 * k + 66 + 78 * j + 42 + 18) 324 [(10, .int 1), (9, .int (nI j)), (8, .int (nI (cB (gFm μ cnt lc (nI dd) q) j))), (5, .int 1), (7, .int (nI (cB (gFm μ cnt lc (nI dd) q) 60))), (6, .int (nI one)), (4, .int (nI (nT μ cnt (nI dd)))), (0, .ref (g.2.1 0)), (1, .ref (g.2.1 25)), (2, .int (nI dd)), (3, .int (nI x))] [.int (nI (cB (gFm μ cnt lc (nI dd) q) (j + 1)))] := by
                    intro ξ S
                    refine j_istore Z dL_holds_324 (by decide) [(8, .int (nI (cB (gFm μ cnt lc (nI dd) q) (j + 1)))), (10, .int 1), (9, .int (nI j)), (5, .int 1), (7, .int (nI (cB (gFm μ cnt lc (nI dd) q) 60))), (6, .int (nI one)), (4, .int (nI (nT μ cnt (nI dd)))), (0, .ref (g.2.1 0)), (1, .ref (g.2.1 25)), (2, .int (nI dd)), (3, .int (nI x))] rfl ?_
                    refine j_iload Z dL_holds_326 1 rfl ?_
                    refine j_if_eq Z 343 dL_holds_328 (by decide) (fun h => absurd h (by decide)) (fun _ => ?_)
                    refine j_aload_n Z dL_holds_331 7 rfl ?_
                    refine j_iload Z dL_holds_332 2 rfl ?_
                    refine j_iload_n Z dL_holds_334 9 rfl ?_
                    refine j_callSWi Z hN (As := [.ref (g.2.1 0), .int (nI j), .int (nI dd)]) (rest := []) (nA := 3) (c_L_impact l hst g ξ cnt lc wc (I.sc S).1 (nI j) (nI dd)) gL_holds_L_impact rfl rfl rfl (by decide +kernel) (by decide) rfl dL_holds_335 rfl (Nat.le_of_ble_eq_true rfl) ⟨by show _ ≤ 1900; omega, by show _ ≤ 11400; omega⟩ (fun r11 μ11 hp => ?_)
                    have S11 := (n_impact I S hp).1
                    have e11 := (n_impact I S hp).2.2.2.2 (hjf) (hday) (by rw [ix_nI (by omega)]; exact hs)
                    clear hp
                    refine j_eq (y := nI (cB (gFm μ cnt lc (nI dd) o) 60)) (e11.trans (by rw [show ix (nI j) = j from ix_nI (by omega), eo, show ix (nI o) = o from ix_nI (by omega)])) ?_
                    clear e11
                    refine j_iload Z dL_holds_338 4 rfl ?_
                    refine j_icmp_gt Z 347 dL_holds_340 (by decide) (fun h => absurd h (fun q9 => by have h1 : cB (gFm μ cnt lc (nI dd) o) 60 ≤ cB (gFm μ cnt lc (nI dd) q) 60 := cB_mono (fun i hi h9 => I.f_sub hq60 hg hi h9); have := (nI_ltI (by omega) (by omega)).mp q9; omega)) (fun _ => ?_)
                    refine j_iconst Z (v := 1) dL_holds_343 (by decide) ?_
                    refine j_goto Z 348 dL_holds_344 (by decide) ?_
                    refine j_istore Z dL_holds_348 (by decide) [(5, .int 1), (8, .int (nI (cB (gFm μ cnt lc (nI dd) q) (j + 1)))), (10, .int 1), (9, .int (nI j)), (7, .int (nI (cB (gFm μ cnt lc (nI dd) q) 60))), (6, .int (nI one)), (4, .int (nI (nT μ cnt (nI dd)))), (0, .ref (g.2.1 0)), (1, .ref (g.2.1 25)), (2, .int (nI dd)), (3, .int (nI x))] rfl ?_
                    refine j_iinc Z dL_holds_350 3 rfl (nI_1 j) (by decide) [(9, .int (nI (j + 1))), (5, .int 1), (8, .int (nI (cB (gFm μ cnt lc (nI dd) q) (j + 1)))), (10, .int 1), (7, .int (nI (cB (gFm μ cnt lc (nI dd) q) 60))), (6, .int (nI one)), (4, .int (nI (nT μ cnt (nI dd)))), (0, .ref (g.2.1 0)), (1, .ref (g.2.1 25)), (2, .int (nI dd)), (3, .int (nI x))] rfl ?_
                    refine j_goto Z 255 dL_holds_353 (by decide) ?_
                    exact j_sub [0, 2, 1, 4, 5, 6, 7, 8, 9, 10] rfl (j_wide (k' := 0 + 16 * k + 11 + 13 * (j + 1)) (n' := 0 + 96 * k + 66 + 78 * (j + 1)) (by omega) (by omega) (ih (j + 1) _ (by omega) S11))
                  refine j_aload_n Z dL_holds_306 7 rfl ?_
                  refine j_iload Z dL_holds_307 1 rfl ?_
                  refine j_iload_n Z dL_holds_309 9 rfl ?_
                  refine j_callSWi Z hN (As := [.ref (g.2.1 0), .int (nI j), .int (nI dd)]) (rest := [.int (nI (cB (gFm μ cnt lc (nI dd) q) j))]) (nA := 3) (c_L_thing l hst g μ10 cnt lc wc (I.sc S10).1 (nI j) (nI dd)) gL_holds_L_thing rfl rfl rfl (by decide +kernel) (by decide) rfl dL_holds_310 rfl (Nat.le_of_ble_eq_true rfl) ⟨by show _ ≤ 1900; omega, by show _ ≤ 11400; omega⟩ (fun r12 μ12 hp => ?_)
                  have S12 := (n_thing I S10 hp).1
                  have e12 := (n_thing I S10 hp).2.2.2.2 (hjf) (hday) (by rw [ix_nI (by omega)]; exact hs)
                  clear hp
                  refine j_eq (y := nI o) (e12.trans (by rw [ix_nI (by omega), eo])) ?_
                  clear e12
                  refine j_iload Z dL_holds_313 1 rfl ?_
                  refine j_icmp_ne Z 322 dL_holds_315 (by decide) (fun h315 => ?_) (fun h315 => ?_)
                  · skip
                    refine j_iconst Z (v := 0) dL_holds_322 (by decide) ?_
                    refine j_iadd Z dL_holds_323 ?_
                    refine j_eq (y := nI (cB (gFm μ cnt lc (nI dd) q) (j + 1))) (by rw [← cB_0 (fun h9 => h315 (by have h8 := (hfr j (by omega) h9).2; rw [eo] at h8; exact h8))]; exact Int32.add_zero _) ?_
                    exact j_wide (by omega) (by omega) (J324 _ S12)
                  · skip
                    refine j_iconst Z (v := 1) dL_holds_318 (by decide) ?_
                    refine j_goto Z 323 dL_holds_319 (by decide) ?_
                    refine j_iadd Z dL_holds_323 ?_
                    refine j_eq (y := nI (cB (gFm μ cnt lc (nI dd) q) (j + 1))) (by rw [nI_1, cB_1 (by rw [← (nI_eq (by omega) (by omega)).mp h315]; exact hg)]) ?_
                    exact j_wide (by omega) (by omega) (J324 _ S12)
          exact j_sub [0, 1, 4, 2, 3, 5, 6, 7, 8, 9] rfl (LQ cnt 0 _ (by omega) S6)
      · skip
        have hc0 := nI_z0 (by omega) h204
        refine j_iconst Z (v := 0) dL_holds_207 (by decide) ?_
        refine j_goto Z 216 dL_holds_208 (by decide) ?_
        refine j_istore Z dL_holds_216 (by decide) [(6, .int 0), (5, .int 1), (4, .int (nI (nT μ cnt (nI dd)))), (0, .ref (g.2.1 0)), (1, .ref (g.2.1 25)), (2, .int (nI dd)), (3, .int (nI x))] rfl ?_
        refine j_iload Z dL_holds_218 1 rfl ?_
        refine j_if_eq Z 401 dL_holds_220 (by decide) (fun h => absurd h (by decide)) (fun _ => ?_)
        refine j_aload_n Z dL_holds_223 4 rfl ?_
        refine j_iconst Z (v := 0) dL_holds_224 (by decide) ?_
        refine j_ild Z 25 (by decide) (fun _ => rfl) 0 (by decide) (by decide) (by decide) dL_holds_225 ?_
        refine j_eq ((congrFun (S3.1 25 (by decide) (by decide) (by decide)) 0).trans hn0) ?_
        refine j_if_le Z 401 dL_holds_226 (by decide) (fun _ => ?_) (fun h => absurd (show nI cnt ≤ 0 by rw [hc0]; decide) h)
        refine j_iload Z dL_holds_401 1 rfl ?_
        exact hR _ _ _ _ _ _ (⟨rfl, S3⟩) (by omega) (by omega) dL_holds_403
    | succ n ih =>
      intro k ξ hk S
      refine j_iload Z dL_holds_9 0 rfl ?_
      refine j_aload_n Z dL_holds_11 4 rfl ?_
      refine j_iconst Z (v := 0) dL_holds_12 (by decide) ?_
      refine j_ild Z 25 (by decide) (fun _ => rfl) 0 (by decide) (by decide) (by decide) dL_holds_13 ?_
      refine j_eq ((congrFun (S.1 25 (by decide) (by decide) (by decide)) 0).trans hn0) ?_
      refine j_icmp_ge Z 156 dL_holds_14 (by decide) (fun h => absurd h (fun q => by have := (nI_leI (by omega) (by omega)).mp q; omega)) (fun _ => ?_)
      refine j_iload Z dL_holds_17 1 rfl ?_
      refine j_if_eq Z 156 dL_holds_19 (by decide) (fun h => absurd h (by decide)) (fun _ => ?_)
      cases hs : fStand μ k (nI dd)
      · skip
        have hkf : fndB cnt (nI k) = true := fndB_nI (by omega) (by omega)
        refine j_aload_n Z dL_holds_22 3 rfl ?_
        refine j_iload Z dL_holds_23 0 rfl ?_
        refine j_iload_n Z dL_holds_25 5 rfl ?_
        refine j_callSWi Z hN (As := [.ref (g.2.1 0), .int (nI k), .int (nI dd)]) (rest := []) (nA := 3) (c_L_thing l hst g ξ cnt lc wc (I.sc S).1 (nI k) (nI dd)) gL_holds_L_thing rfl rfl rfl (by decide +kernel) (by decide) rfl dL_holds_26 rfl (Nat.le_of_ble_eq_true rfl) ⟨by show _ ≤ 1900; omega, by show _ ≤ 11400; omega⟩ (fun r13 μ13 hp => ?_)
        have S13 := (n_thing I S hp).1
        have e13 := (n_thing I S hp).2.2.2.1 (hkf) (hday) (by rw [ix_nI (by omega)]; exact hs)
        clear hp
        refine j_eq e13 ?_
        clear e13
        refine j_istore Z dL_holds_29 (by decide) [(7, .int (-2000000004)), (6, .int (nI k)), (5, .int 1), (4, .int (nI (cB (fun j => decide (tT μ cnt (nI dd) j = nI j)) k))), (0, .ref (g.2.1 0)), (1, .ref (g.2.1 25)), (2, .int (nI dd)), (3, .int (nI x))] rfl ?_
        refine j_aload_n Z dL_holds_31 4 rfl ?_
        refine j_iload Z dL_holds_32 1 rfl ?_
        refine j_iload_n Z dL_holds_34 6 rfl ?_
        refine j_callSWi Z hN (As := [.ref (g.2.1 0), .int (nI k), .int (nI dd)]) (rest := []) (nA := 3) (c_L_counts l hst g μ13 cnt lc wc (I.sc S13).1 (nI k) (nI dd)) gL_holds_L_counts rfl rfl rfl (by decide +kernel) (by decide) rfl dL_holds_35 rfl (Nat.le_of_ble_eq_true rfl) ⟨by show _ ≤ 1900; omega, by show _ ≤ 11400; omega⟩ (fun r14 μ14 hp => ?_)
        have S14 := (n_counts I S13 hp).1
        have e14 := (n_counts I S13 hp).2.2.2 (hkf) (hday)
        clear hp
        refine j_eq (y := 0) (e14.trans (by rw [ix_nI (by omega), hs]; rfl)) ?_
        clear e14
        refine j_iconst Z (v := 1) dL_holds_38 (by decide) ?_
        refine j_icmp_ne Z 46 dL_holds_39 (by decide) (fun _ => ?_) (fun h => absurd h (by decide))
        refine j_iconst Z (v := 0) dL_holds_46 (by decide) ?_
        refine j_istore Z dL_holds_47 (by decide) [(8, .int 0), (7, .int (-2000000004)), (6, .int (nI k)), (5, .int 1), (4, .int (nI (cB (fun j => decide (tT μ cnt (nI dd) j = nI j)) k))), (0, .ref (g.2.1 0)), (1, .ref (g.2.1 25)), (2, .int (nI dd)), (3, .int (nI x))] rfl ?_
        refine j_iload Z dL_holds_49 4 rfl ?_
        refine j_iload Z dL_holds_51 1 rfl ?_
        refine j_iload Z dL_holds_53 2 rfl ?_
        refine j_icmp_ne Z 62 dL_holds_55 (by decide) (fun _ => ?_) (fun h => absurd h (nI_nN (by omega)))
        refine j_iconst Z (v := 0) dL_holds_62 (by decide) ?_
        refine j_iadd Z dL_holds_63 ?_
        refine j_eq (y := nI (cB (fun j => decide (tT μ cnt (nI dd) j = nI j)) (k + 1))) (by rw [← cB_0 (fun q => by rw [decide_eq_true_eq, (tT_neg I.c60 (by omega)).mpr hs] at q; exact nI_nm (by omega) q.symm)]; exact Int32.add_zero _) ?_
        refine j_istore Z dL_holds_64 (by decide) [(4, .int (nI (cB (fun j => decide (tT μ cnt (nI dd) j = nI j)) (k + 1)))), (8, .int 0), (7, .int (-2000000004)), (6, .int (nI k)), (5, .int 1), (0, .ref (g.2.1 0)), (1, .ref (g.2.1 25)), (2, .int (nI dd)), (3, .int (nI x))] rfl ?_
        refine j_iload Z dL_holds_66 2 rfl ?_
        refine j_ldc Z mwL_holds_k53 dL_holds_68 ?_
        refine j_icmp_ne Z 77 dL_holds_70 (by decide) (fun h => absurd rfl h) (fun _ => ?_)
        refine j_iconst Z (v := 1) dL_holds_73 (by decide) ?_
        refine j_goto Z 78 dL_holds_74 (by decide) ?_
        refine j_iload Z dL_holds_78 1 rfl ?_
        refine j_if_ne Z 87 dL_holds_80 (by decide) (fun h => absurd h (by decide)) (fun _ => ?_)
        refine j_iconst Z (v := 1) dL_holds_83 (by decide) ?_
        refine j_goto Z 88 dL_holds_84 (by decide) ?_
        refine j_icmp_ne Z 147 dL_holds_88 (by decide) (fun h => absurd rfl h) (fun _ => ?_)
        refine j_iload Z dL_holds_91 1 rfl ?_
        refine j_if_eq Z 143 dL_holds_93 (by decide) (fun _ => ?_) (fun h => absurd h (by decide))
        refine j_iconst Z (v := 1) dL_holds_143 (by decide) ?_
        refine j_goto Z 148 dL_holds_144 (by decide) ?_
        refine j_istore Z dL_holds_148 (by decide) [(5, .int 1), (4, .int (nI (cB (fun j => decide (tT μ cnt (nI dd) j = nI j)) (k + 1)))), (8, .int 0), (7, .int (-2000000004)), (6, .int (nI k)), (0, .ref (g.2.1 0)), (1, .ref (g.2.1 25)), (2, .int (nI dd)), (3, .int (nI x))] rfl ?_
        refine j_iinc Z dL_holds_150 4 rfl (nI_1 k) (by decide) [(6, .int (nI (k + 1))), (5, .int 1), (4, .int (nI (cB (fun j => decide (tT μ cnt (nI dd) j = nI j)) (k + 1)))), (8, .int 0), (7, .int (-2000000004)), (0, .ref (g.2.1 0)), (1, .ref (g.2.1 25)), (2, .int (nI dd)), (3, .int (nI x))] rfl ?_
        refine j_goto Z 9 dL_holds_153 (by decide) ?_
        exact j_sub [0, 1, 2, 5, 6, 7, 8] rfl (j_wide (k' := 0 + 16 * (k + 1)) (n' := 0 + 96 * (k + 1)) (by omega) (by omega) (ih (k + 1) _ (by omega) S14))
      · skip
        have hkf : fndB cnt (nI k) = true := fndB_nI (by omega) (by omega)
        obtain ⟨o, ho, eo, eo2⟩ := tT_lab I.c60 (show k < cnt by omega) hs
        have hso : fStand μ o (nI dd) = true := stand_of I.c60 (by omega) eo2
        have hof : fndB cnt (nI o) = true := fndB_nI (by omega) (by omega)
        refine j_aload_n Z dL_holds_22 3 rfl ?_
        refine j_iload Z dL_holds_23 0 rfl ?_
        refine j_iload_n Z dL_holds_25 5 rfl ?_
        refine j_callSWi Z hN (As := [.ref (g.2.1 0), .int (nI k), .int (nI dd)]) (rest := []) (nA := 3) (c_L_thing l hst g ξ cnt lc wc (I.sc S).1 (nI k) (nI dd)) gL_holds_L_thing rfl rfl rfl (by decide +kernel) (by decide) rfl dL_holds_26 rfl (Nat.le_of_ble_eq_true rfl) ⟨by show _ ≤ 1900; omega, by show _ ≤ 11400; omega⟩ (fun r15 μ15 hp => ?_)
        have S15 := (n_thing I S hp).1
        have e15 := (n_thing I S hp).2.2.2.2 (hkf) (hday) (by rw [ix_nI (by omega)]; exact hs)
        clear hp
        refine j_eq (y := nI o) (e15.trans (by rw [ix_nI (by omega), eo])) ?_
        clear e15
        refine j_istore Z dL_holds_29 (by decide) [(7, .int (nI o)), (6, .int (nI k)), (5, .int 1), (4, .int (nI (cB (fun j => decide (tT μ cnt (nI dd) j = nI j)) k))), (0, .ref (g.2.1 0)), (1, .ref (g.2.1 25)), (2, .int (nI dd)), (3, .int (nI x))] rfl ?_
        refine j_aload_n Z dL_holds_31 4 rfl ?_
        refine j_iload Z dL_holds_32 1 rfl ?_
        refine j_iload_n Z dL_holds_34 6 rfl ?_
        refine j_callSWi Z hN (As := [.ref (g.2.1 0), .int (nI k), .int (nI dd)]) (rest := []) (nA := 3) (c_L_counts l hst g μ15 cnt lc wc (I.sc S15).1 (nI k) (nI dd)) gL_holds_L_counts rfl rfl rfl (by decide +kernel) (by decide) rfl dL_holds_35 rfl (Nat.le_of_ble_eq_true rfl) ⟨by show _ ≤ 1900; omega, by show _ ≤ 11400; omega⟩ (fun r16 μ16 hp => ?_)
        have S16 := (n_counts I S15 hp).1
        have e16 := (n_counts I S15 hp).2.2.2 (hkf) (hday)
        clear hp
        refine j_eq (y := 1) (e16.trans (by rw [ix_nI (by omega), hs]; rfl)) ?_
        clear e16
        refine j_iconst Z (v := 1) dL_holds_38 (by decide) ?_
        refine j_icmp_ne Z 46 dL_holds_39 (by decide) (fun h => absurd rfl h) (fun _ => ?_)
        refine j_iconst Z (v := 1) dL_holds_42 (by decide) ?_
        refine j_goto Z 47 dL_holds_43 (by decide) ?_
        refine j_istore Z dL_holds_47 (by decide) [(8, .int 1), (7, .int (nI o)), (6, .int (nI k)), (5, .int 1), (4, .int (nI (cB (fun j => decide (tT μ cnt (nI dd) j = nI j)) k))), (0, .ref (g.2.1 0)), (1, .ref (g.2.1 25)), (2, .int (nI dd)), (3, .int (nI x))] rfl ?_
        have J64 : J p l e { frames := 10, cells := 1900, slots := 11400, locals := 181 } s m args below meth c Q g 11 μ16 (0 + 16 * k + 5) (0 + 96 * k + 30) 64 [(8, .int 1), (7, .int (nI o)), (6, .int (nI k)), (5, .int 1), (4, .int (nI (cB (fun j => decide (tT μ cnt (nI dd) j = nI j)) k))), (0, .ref (g.2.1 0)), (1, .ref (g.2.1 25)), (2, .int (nI dd)), (3, .int (nI x))] [.int (nI (cB (fun j => decide (tT μ cnt (nI dd) j = nI j)) (k + 1)))] := by
          refine j_istore Z dL_holds_64 (by decide) [(4, .int (nI (cB (fun j => decide (tT μ cnt (nI dd) j = nI j)) (k + 1)))), (8, .int 1), (7, .int (nI o)), (6, .int (nI k)), (5, .int 1), (0, .ref (g.2.1 0)), (1, .ref (g.2.1 25)), (2, .int (nI dd)), (3, .int (nI x))] rfl ?_
          refine j_iload Z dL_holds_66 2 rfl ?_
          refine j_ldc Z mwL_holds_k53 dL_holds_68 ?_
          refine j_icmp_ne Z 77 dL_holds_70 (by decide) (fun _ => ?_) (fun h => absurd h.symm (nI_nN (by omega)))
          refine j_iconst Z (v := 0) dL_holds_77 (by decide) ?_
          refine j_iload Z dL_holds_78 1 rfl ?_
          refine j_if_ne Z 87 dL_holds_80 (by decide) (fun _ => ?_) (fun h => absurd h (by decide))
          refine j_iconst Z (v := 0) dL_holds_87 (by decide) ?_
          refine j_icmp_ne Z 147 dL_holds_88 (by decide) (fun h => absurd rfl h) (fun _ => ?_)
          refine j_iload Z dL_holds_91 1 rfl ?_
          refine j_if_eq Z 143 dL_holds_93 (by decide) (fun h => absurd h (by decide)) (fun _ => ?_)
          refine j_iload Z dL_holds_96 2 rfl ?_
          refine j_if_lt Z 147 dL_holds_98 (by decide) (fun h => absurd h (nI_pos (by omega))) (fun _ => ?_)
          refine j_iload Z dL_holds_101 2 rfl ?_
          refine j_iload Z dL_holds_103 3 rfl ?_
          refine j_icmp_gt Z 147 dL_holds_105 (by decide) (fun h => absurd h (fun q => by have := (nI_ltI (by omega) (by omega)).mp q; omega)) (fun _ => ?_)
          refine j_aload_n Z dL_holds_108 5 rfl ?_
          refine j_iload Z dL_holds_109 2 rfl ?_
          refine j_iload_n Z dL_holds_111 7 rfl ?_
          refine j_callSWi Z hN (As := [.ref (g.2.1 0), .int (nI o), .int (nI dd)]) (rest := []) (nA := 3) (c_L_thing l hst g μ16 cnt lc wc (I.sc S16).1 (nI o) (nI dd)) gL_holds_L_thing rfl rfl rfl (by decide +kernel) (by decide) rfl dL_holds_112 rfl (Nat.le_of_ble_eq_true rfl) ⟨by show _ ≤ 1900; omega, by show _ ≤ 11400; omega⟩ (fun r17 μ17 hp => ?_)
          have S17 := (n_thing I S16 hp).1
          have e17 := (n_thing I S16 hp).2.2.2.2 (hof) (hday) (by rw [ix_nI (by omega)]; exact hso)
          clear hp
          refine j_eq (y := nI o) (e17.trans (by rw [ix_nI (by omega), eo2])) ?_
          clear e17
          refine j_iload Z dL_holds_115 2 rfl ?_
          refine j_icmp_ne Z 147 dL_holds_117 (by decide) (fun h => absurd rfl h) (fun _ => ?_)
          refine j_aload_n Z dL_holds_120 5 rfl ?_
          refine j_iload Z dL_holds_121 2 rfl ?_
          refine j_iload_n Z dL_holds_123 8 rfl ?_
          refine j_iconst Z (v := 2) dL_holds_124 (by decide) ?_
          refine j_iremN Z (a := x) (b := 2) dL_holds_125 (by decide) (by omega) (by omega) (by omega) ?_
          refine j_iload_n Z dL_holds_126 7 rfl ?_
          refine j_callSWi Z hN (As := [.ref (g.2.1 0), .int (nI o), .int (nI (x % 2)), .int (nI dd)]) (rest := []) (nA := 4) (c_L_value l hst g μ17 cnt lc wc (I.sc S17).1 (nI o) (nI (x % 2)) (nI dd)) gL_holds_L_value rfl rfl rfl (by decide +kernel) (by decide) rfl dL_holds_127 rfl (Nat.le_of_ble_eq_true rfl) ⟨by show _ ≤ 1900; omega, by show _ ≤ 11400; omega⟩ (fun r18 μ18 hp => ?_)
          have S18 := (n_value I S17 hp).1
          have e18 := (n_value I S17 hp).2.2.2.2 (hof) (and2t (inB_in (m := 1) (by decide) (by omega) (by decide)) hday) (by rw [ix_nI (by omega)]; exact hso)
          clear hp
          refine j_eq (y := aVal (tT μ cnt (nI dd)) (μ (29 + ix (nI (x % 2)))) (fPl μ) (nI o) cnt) (e18.trans (by rw [show ix (nI o) = o from ix_nI (by omega), eo2])) ?_
          clear e18
          refine j_aload_n Z dL_holds_130 5 rfl ?_
          refine j_iload Z dL_holds_131 3 rfl ?_
          refine j_iload_n Z dL_holds_133 8 rfl ?_
          refine j_iconst Z (v := 2) dL_holds_134 (by decide) ?_
          refine j_iremN Z (a := x) (b := 2) dL_holds_135 (by decide) (by omega) (by omega) (by omega) ?_
          refine j_iload_n Z dL_holds_136 7 rfl ?_
          refine j_callSWi Z hN (As := [.ref (g.2.1 0), .int (nI k), .int (nI (x % 2)), .int (nI dd)]) (rest := [.int (aVal (tT μ cnt (nI dd)) (μ (29 + ix (nI (x % 2)))) (fPl μ) (nI o) cnt)]) (nA := 4) (c_L_value l hst g μ18 cnt lc wc (I.sc S18).1 (nI k) (nI (x % 2)) (nI dd)) gL_holds_L_value rfl rfl rfl (by decide +kernel) (by decide) rfl dL_holds_137 rfl (Nat.le_of_ble_eq_true rfl) ⟨by show _ ≤ 1900; omega, by show _ ≤ 11400; omega⟩ (fun r19 μ19 hp => ?_)
          have S19 := (n_value I S18 hp).1
          have e19 := (n_value I S18 hp).2.2.2.2 (hkf) (and2t (inB_in (m := 1) (by decide) (by omega) (by decide)) hday) (by rw [ix_nI (by omega)]; exact hs)
          clear hp
          refine j_eq (y := aVal (tT μ cnt (nI dd)) (μ (29 + ix (nI (x % 2)))) (fPl μ) (nI o) cnt) (e19.trans (by rw [show ix (nI k) = k from ix_nI (by omega), eo])) ?_
          clear e19
          refine j_icmp_ne Z 147 dL_holds_140 (by decide) (fun h => absurd rfl h) (fun _ => ?_)
          refine j_iconst Z (v := 1) dL_holds_143 (by decide) ?_
          refine j_goto Z 148 dL_holds_144 (by decide) ?_
          refine j_istore Z dL_holds_148 (by decide) [(5, .int 1), (4, .int (nI (cB (fun j => decide (tT μ cnt (nI dd) j = nI j)) (k + 1)))), (8, .int 1), (7, .int (nI o)), (6, .int (nI k)), (0, .ref (g.2.1 0)), (1, .ref (g.2.1 25)), (2, .int (nI dd)), (3, .int (nI x))] rfl ?_
          refine j_iinc Z dL_holds_150 4 rfl (nI_1 k) (by decide) [(6, .int (nI (k + 1))), (5, .int 1), (4, .int (nI (cB (fun j => decide (tT μ cnt (nI dd) j = nI j)) (k + 1)))), (8, .int 1), (7, .int (nI o)), (0, .ref (g.2.1 0)), (1, .ref (g.2.1 25)), (2, .int (nI dd)), (3, .int (nI x))] rfl ?_
          refine j_goto Z 9 dL_holds_153 (by decide) ?_
          exact j_sub [0, 1, 2, 5, 6, 7, 8] rfl (j_wide (k' := 0 + 16 * (k + 1)) (n' := 0 + 96 * (k + 1)) (by omega) (by omega) (ih (k + 1) _ (by omega) S19))
        refine j_iload Z dL_holds_49 4 rfl ?_
        refine j_iload Z dL_holds_51 1 rfl ?_
        refine j_iload Z dL_holds_53 2 rfl ?_
        refine j_icmp_ne Z 62 dL_holds_55 (by decide) (fun h55 => ?_) (fun h55 => ?_)
        · skip
          refine j_iconst Z (v := 0) dL_holds_62 (by decide) ?_
          refine j_iadd Z dL_holds_63 ?_
          refine j_eq (y := nI (cB (fun j => decide (tT μ cnt (nI dd) j = nI j)) (k + 1))) (by rw [← cB_0 (fun q => h55 (by rw [decide_eq_true_eq] at q; exact eo.symm.trans q))]; exact Int32.add_zero _) ?_
          exact J64
        · skip
          refine j_iconst Z (v := 1) dL_holds_58 (by decide) ?_
          refine j_goto Z 63 dL_holds_59 (by decide) ?_
          refine j_iadd Z dL_holds_63 ?_
          refine j_eq (y := nI (cB (fun j => decide (tT μ cnt (nI dd) j = nI j)) (k + 1))) (by rw [nI_1, cB_1 (by rw [decide_eq_true_eq]; exact eo.trans h55)]) ?_
          exact J64
  exact j_sub [0, 1, 2, 3, 4, 5, 6] rfl (LP cnt 0 _ (by omega) S0)
