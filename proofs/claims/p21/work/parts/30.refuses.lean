theorem mwL_refuses_k15 : Cond.constant RL 15 (-2000000002) ∈ wsL_refuses := by decide +kernel
theorem mwL_refuses_k36 : Cond.constant RL 36 (-2000000001) ∈ wsL_refuses := by decide +kernel
theorem mwL_refuses_k53 : Cond.constant RL 53 (-2000000004) ∈ wsL_refuses := by decide +kernel
set_option maxRecDepth 100000 in
set_option maxHeartbeats 8000000 in
theorem c_L_refuses (l : Launch) (hst : l.stackTraces = false) (g : gC) (μ : gM) (cnt lc wc a : Nat) (I : I1 μ cnt lc wc) (hn0 : μ 25 0 = nI cnt) (hn2 : μ 25 2 = nI wc) (ha : a ≤ 9972) : Met l yL_refuses wsL_refuses { frames := 10, cells := 204, slots := 1224, locals := 181 } (va_Pc [.ref (g.2.1 0), .ref (g.2.1 25), .int (nI a)] (gBW g μ)) (va_Qi (fun (r : Int32) (μ' : gM) => r = 1 ∧ Sc cnt μ μ') (gPB g) (gA g)) 204 1224 (gA g) := by
  refine g_oB (cc := cL_refuses) (nL := 10) (ret := (some .boolean)) (ty := .boolean) (by decide +kernel) rfl rfl (by rintro _ _ ⟨rfl, -⟩; rfl) (Nat.le_of_ble_eq_true rfl) ?_
  intro p e s m args below meth c Q Z hN hR
  have S0 := I.rf
  have h60 := I.c60
  have hwc : wc ≤ 20 := I.1.2.2.2.2.1
  obtain ⟨dd, hd, ed⟩ := I.2.2.1
  have hday : inB (nI dd) 0 9999 = true := inB_in (m := 9999) (by decide) hd (by decide)
  have J23 : ∀ v : Int32, fndB cnt v = false → J p l e { frames := 10, cells := 204, slots := 1224, locals := 181 } s m args below meth c Q g 10 μ (0) (0) 23 [(0, .ref (g.2.1 0)), (1, .ref (g.2.1 25)), (2, .int (nI a))] [.int v] := by
    intro v hv
    refine j_istore_n Z dL_refuses_23 (by decide) [(3, .int v), (0, .ref (g.2.1 0)), (1, .ref (g.2.1 25)), (2, .int (nI a))] rfl ?_
    have J45 : ∀ w : Int32, inB w 0 3 = false → J p l e { frames := 10, cells := 204, slots := 1224, locals := 181 } s m args below meth c Q g 10 μ (0) (0) 45 [(3, .int v), (0, .ref (g.2.1 0)), (1, .ref (g.2.1 25)), (2, .int (nI a))] [.int w] := by
      intro w hw
      refine j_istore Z dL_refuses_45 (by decide) [(4, .int w), (3, .int v), (0, .ref (g.2.1 0)), (1, .ref (g.2.1 25)), (2, .int (nI a))] rfl ?_
      have J67 : ∀ u : Int32, inB u 0 9999 = false → J p l e { frames := 10, cells := 204, slots := 1224, locals := 181 } s m args below meth c Q g 10 μ (0) (0) 67 [(4, .int w), (3, .int v), (0, .ref (g.2.1 0)), (1, .ref (g.2.1 25)), (2, .int (nI a))] [.int u] := by
        intro u hu
        refine j_istore Z dL_refuses_67 (by decide) [(5, .int u), (4, .int w), (3, .int v), (0, .ref (g.2.1 0)), (1, .ref (g.2.1 25)), (2, .int (nI a))] rfl ?_
        refine j_aload_n Z dL_refuses_69 3 rfl ?_
        refine j_iconst Z (v := 0) dL_refuses_70 (by decide) ?_
        refine j_callSWi Z hN (As := [.ref (g.2.1 0), .int 0]) (rest := []) (nA := 2) (c_L_passes l hst g μ cnt lc wc (I.sc S0).1 0) gL_refuses_L_passes rfl rfl rfl (by decide +kernel) (by decide) rfl dL_refuses_71 rfl (Nat.le_of_ble_eq_true rfl) (by decide) (fun r1 μ1 hp => ?_)
        obtain ⟨e1, S1⟩ := (n_passes I S0 hp).1 (by decide)
        clear hp
        refine j_eq e1 ?_
        clear e1
        refine j_ldc Z mwL_refuses_k15 dL_refuses_74 ?_
        refine j_icmp_ne Z 517 dL_refuses_76 (by decide) (fun h => absurd rfl h) (fun _ => ?_)
        refine j_aload_n Z dL_refuses_79 3 rfl ?_
        refine j_sipush Z (v := 1001) dL_refuses_80 (by decide) ?_
        refine j_iload_n Z dL_refuses_83 5 rfl ?_
        refine j_iadd Z dL_refuses_84 ?_
        refine j_eq (nI_add 1001 a) ?_
        refine j_callSWi Z hN (As := [.ref (g.2.1 0), .int (nI (1001 + a))]) (rest := []) (nA := 2) (c_L_passes l hst g μ1 cnt lc wc (I.sc S1).1 (nI (1001 + a))) gL_refuses_L_passes rfl rfl rfl (by decide +kernel) (by decide) rfl dL_refuses_85 rfl (Nat.le_of_ble_eq_true rfl) (by decide) (fun r2 μ2 hp => ?_)
        obtain ⟨e2, S2⟩ := (n_passes I S1 hp).1 (inB_hi (m := 1000) (by decide) (by omega) (by omega))
        clear hp
        refine j_eq e2 ?_
        clear e2
        refine j_ldc Z mwL_refuses_k15 dL_refuses_88 ?_
        refine j_icmp_ne Z 517 dL_refuses_90 (by decide) (fun h => absurd rfl h) (fun _ => ?_)
        refine j_aload_n Z dL_refuses_93 3 rfl ?_
        refine j_iload Z dL_refuses_94 1 rfl ?_
        refine j_iconst Z (v := 5) dL_refuses_96 (by decide) ?_
        refine j_callSWi Z hN (As := [.ref (g.2.1 0), .int w, .int 5]) (rest := []) (nA := 3) (c_L_terms l hst g μ2 cnt lc wc (I.sc S2).1 w 5) gL_refuses_L_terms rfl rfl rfl (by decide +kernel) (by decide) rfl dL_refuses_97 rfl (Nat.le_of_ble_eq_true rfl) (by decide) (fun r3 μ3 hp => ?_)
        obtain ⟨e3, S3⟩ := (n_terms I S2 hp) (and2 (Or.inl hw))
        clear hp
        refine j_eq e3 ?_
        clear e3
        refine j_ldc Z mwL_refuses_k15 dL_refuses_100 ?_
        refine j_icmp_ne Z 517 dL_refuses_102 (by decide) (fun h => absurd rfl h) (fun _ => ?_)
        refine j_aload_n Z dL_refuses_105 3 rfl ?_
        refine j_iload_n Z dL_refuses_106 5 rfl ?_
        refine j_iconst Z (v := 4) dL_refuses_107 (by decide) ?_
        refine j_iremN Z (a := a) (b := 4) dL_refuses_108 (by decide) (by omega) (by omega) (by omega) ?_
        refine j_sipush Z (v := 1000) dL_refuses_109 (by decide) ?_
        refine j_iload_n Z dL_refuses_112 5 rfl ?_
        refine j_iadd Z dL_refuses_113 ?_
        refine j_eq (nI_add 1000 a) ?_
        refine j_callSWi Z hN (As := [.ref (g.2.1 0), .int (nI (a % 4)), .int (nI (1000 + a))]) (rest := []) (nA := 3) (c_L_terms l hst g μ3 cnt lc wc (I.sc S3).1 (nI (a % 4)) (nI (1000 + a))) gL_refuses_L_terms rfl rfl rfl (by decide +kernel) (by decide) rfl dL_refuses_114 rfl (Nat.le_of_ble_eq_true rfl) (by decide) (fun r4 μ4 hp => ?_)
        obtain ⟨e4, S4⟩ := (n_terms I S3 hp) (and2 (Or.inr (inB_hi (m := 999) (by decide) (by omega) (by omega))))
        clear hp
        refine j_eq e4 ?_
        clear e4
        refine j_ldc Z mwL_refuses_k15 dL_refuses_117 ?_
        refine j_icmp_ne Z 517 dL_refuses_119 (by decide) (fun h => absurd rfl h) (fun _ => ?_)
        refine j_aload_n Z dL_refuses_122 3 rfl ?_
        refine j_iload_n Z dL_refuses_123 5 rfl ?_
        refine j_iconst Z (v := 4) dL_refuses_124 (by decide) ?_
        refine j_iremN Z (a := a) (b := 4) dL_refuses_125 (by decide) (by omega) (by omega) (by omega) ?_
        refine j_iload_n Z dL_refuses_126 5 rfl ?_
        refine j_ineg Z dL_refuses_127 ?_
        refine j_callSWi Z hN (As := [.ref (g.2.1 0), .int (nI (a % 4)), .int (-(nI a))]) (rest := []) (nA := 3) (c_L_terms l hst g μ4 cnt lc wc (I.sc S4).1 (nI (a % 4)) (-(nI a))) gL_refuses_L_terms rfl rfl rfl (by decide +kernel) (by decide) rfl dL_refuses_128 rfl (Nat.le_of_ble_eq_true rfl) (by decide) (fun r5 μ5 hp => ?_)
        obtain ⟨e5, S5⟩ := (n_terms I S4 hp) (and2 (Or.inr (inB_f1 (ng0 (by omega)))))
        clear hp
        refine j_eq e5 ?_
        clear e5
        refine j_ldc Z mwL_refuses_k15 dL_refuses_131 ?_
        refine j_icmp_ne Z 517 dL_refuses_133 (by decide) (fun h => absurd rfl h) (fun _ => ?_)
        refine j_aload_n Z dL_refuses_136 3 rfl ?_
        refine j_iload Z dL_refuses_137 1 rfl ?_
        refine j_callSWi Z hN (As := [.ref (g.2.1 0), .int w]) (rest := []) (nA := 2) (c_L_firsts l hst g μ5 cnt lc wc (I.sc S5).1 w) gL_refuses_L_firsts rfl rfl rfl (by decide +kernel) (by decide) rfl dL_refuses_139 rfl (Nat.le_of_ble_eq_true rfl) (by decide) (fun r6 μ6 hp => ?_)
        obtain ⟨e6, S6⟩ := (n_firsts I S5 hp) (hw)
        clear hp
        refine j_eq e6 ?_
        clear e6
        refine j_ldc Z mwL_refuses_k15 dL_refuses_142 ?_
        refine j_icmp_ne Z 517 dL_refuses_144 (by decide) (fun h => absurd rfl h) (fun _ => ?_)
        refine j_aload_n Z dL_refuses_147 3 rfl ?_
        refine j_iload Z dL_refuses_148 1 rfl ?_
        refine j_iconst Z (v := 0) dL_refuses_150 (by decide) ?_
        refine j_iconst Z (v := 0) dL_refuses_151 (by decide) ?_
        refine j_iconst Z (v := 0) dL_refuses_152 (by decide) ?_
        refine j_iconst Z (v := 0) dL_refuses_153 (by decide) ?_
        refine j_iconst Z (v := 0) dL_refuses_154 (by decide) ?_
        refine j_callSWi Z hN (As := [.ref (g.2.1 0), .int w, .int 0, .int 0, .int 0, .int 0, .int 0]) (rest := []) (nA := 7) (c_L_finds l hst g μ6 cnt lc wc (I.sc S6).1 w 0 0 0 0 0) gL_refuses_L_finds rfl rfl rfl (by decide +kernel) (by decide) rfl dL_refuses_155 rfl (Nat.le_of_ble_eq_true rfl) (by decide) (fun r7 μ7 hp => ?_)
        obtain ⟨e7, S7⟩ := (n_finds I S6 hp).1 (and6 (Or.inl hw))
        clear hp
        refine j_eq e7 ?_
        clear e7
        refine j_ldc Z mwL_refuses_k15 dL_refuses_158 ?_
        refine j_icmp_ne Z 517 dL_refuses_160 (by decide) (fun h => absurd rfl h) (fun _ => ?_)
        refine j_aload_n Z dL_refuses_163 3 rfl ?_
        refine j_iconst Z (v := 0) dL_refuses_164 (by decide) ?_
        refine j_bipush Z (v := 100) dL_refuses_165 (by decide) ?_
        refine j_iload_n Z dL_refuses_167 5 rfl ?_
        refine j_iadd Z dL_refuses_168 ?_
        refine j_eq (nI_add 100 a) ?_
        refine j_iconst Z (v := 0) dL_refuses_169 (by decide) ?_
        refine j_iconst Z (v := 0) dL_refuses_170 (by decide) ?_
        refine j_iconst Z (v := 0) dL_refuses_171 (by decide) ?_
        refine j_iconst Z (v := 0) dL_refuses_172 (by decide) ?_
        refine j_callSWi Z hN (As := [.ref (g.2.1 0), .int 0, .int (nI (100 + a)), .int 0, .int 0, .int 0, .int 0]) (rest := []) (nA := 7) (c_L_finds l hst g μ7 cnt lc wc (I.sc S7).1 0 (nI (100 + a)) 0 0 0 0) gL_refuses_L_finds rfl rfl rfl (by decide +kernel) (by decide) rfl dL_refuses_173 rfl (Nat.le_of_ble_eq_true rfl) (by decide) (fun r8 μ8 hp => ?_)
        obtain ⟨e8, S8⟩ := (n_finds I S7 hp).1 (and6 (Or.inr (Or.inl (inB_hi (m := 99) (by decide) (by omega) (by omega)))))
        clear hp
        refine j_eq e8 ?_
        clear e8
        refine j_ldc Z mwL_refuses_k15 dL_refuses_176 ?_
        refine j_icmp_ne Z 517 dL_refuses_178 (by decide) (fun h => absurd rfl h) (fun _ => ?_)
        refine j_aload_n Z dL_refuses_181 3 rfl ?_
        refine j_iconst Z (v := 0) dL_refuses_182 (by decide) ?_
        refine j_iconst Z (v := 0) dL_refuses_183 (by decide) ?_
        refine j_iconst Z (v := -1) dL_refuses_184 (by decide) ?_
        refine j_iload_n Z dL_refuses_185 5 rfl ?_
        refine j_isub Z dL_refuses_186 ?_
        refine j_iconst Z (v := 0) dL_refuses_187 (by decide) ?_
        refine j_iconst Z (v := 0) dL_refuses_188 (by decide) ?_
        refine j_iconst Z (v := 0) dL_refuses_189 (by decide) ?_
        refine j_callSWi Z hN (As := [.ref (g.2.1 0), .int 0, .int 0, .int ((-1) - (nI a)), .int 0, .int 0, .int 0]) (rest := []) (nA := 7) (c_L_finds l hst g μ8 cnt lc wc (I.sc S8).1 0 0 ((-1) - (nI a)) 0 0 0) gL_refuses_L_finds rfl rfl rfl (by decide +kernel) (by decide) rfl dL_refuses_190 rfl (Nat.le_of_ble_eq_true rfl) (by decide) (fun r9 μ9 hp => ?_)
        obtain ⟨e9, S9⟩ := (n_finds I S8 hp).1 (and6 (Or.inr (Or.inr (Or.inl (inB_f1 (ng1 (by omega)))))))
        clear hp
        refine j_eq e9 ?_
        clear e9
        refine j_ldc Z mwL_refuses_k15 dL_refuses_193 ?_
        refine j_icmp_ne Z 517 dL_refuses_195 (by decide) (fun h => absurd rfl h) (fun _ => ?_)
        refine j_aload_n Z dL_refuses_198 3 rfl ?_
        refine j_iconst Z (v := 0) dL_refuses_199 (by decide) ?_
        refine j_iconst Z (v := 0) dL_refuses_200 (by decide) ?_
        refine j_iconst Z (v := 0) dL_refuses_201 (by decide) ?_
        refine j_bipush Z (v := 100) dL_refuses_202 (by decide) ?_
        refine j_iconst Z (v := 0) dL_refuses_204 (by decide) ?_
        refine j_iconst Z (v := 0) dL_refuses_205 (by decide) ?_
        refine j_callSWi Z hN (As := [.ref (g.2.1 0), .int 0, .int 0, .int 0, .int 100, .int 0, .int 0]) (rest := []) (nA := 7) (c_L_finds l hst g μ9 cnt lc wc (I.sc S9).1 0 0 0 100 0 0) gL_refuses_L_finds rfl rfl rfl (by decide +kernel) (by decide) rfl dL_refuses_206 rfl (Nat.le_of_ble_eq_true rfl) (by decide) (fun r10 μ10 hp => ?_)
        obtain ⟨e10, S10⟩ := (n_finds I S9 hp).1 (and6 (Or.inr (Or.inr (Or.inr (Or.inl (by decide))))))
        clear hp
        refine j_eq e10 ?_
        clear e10
        refine j_ldc Z mwL_refuses_k15 dL_refuses_209 ?_
        refine j_icmp_ne Z 517 dL_refuses_211 (by decide) (fun h => absurd rfl h) (fun _ => ?_)
        refine j_aload_n Z dL_refuses_214 3 rfl ?_
        refine j_iconst Z (v := 0) dL_refuses_215 (by decide) ?_
        refine j_iconst Z (v := 0) dL_refuses_216 (by decide) ?_
        refine j_iconst Z (v := 0) dL_refuses_217 (by decide) ?_
        refine j_iconst Z (v := 0) dL_refuses_218 (by decide) ?_
        refine j_bipush Z (v := -2) dL_refuses_219 (by decide) ?_
        refine j_iload_n Z dL_refuses_221 5 rfl ?_
        refine j_isub Z dL_refuses_222 ?_
        refine j_iconst Z (v := 0) dL_refuses_223 (by decide) ?_
        refine j_callSWi Z hN (As := [.ref (g.2.1 0), .int 0, .int 0, .int 0, .int 0, .int ((-2) - (nI a)), .int 0]) (rest := []) (nA := 7) (c_L_finds l hst g μ10 cnt lc wc (I.sc S10).1 0 0 0 0 ((-2) - (nI a)) 0) gL_refuses_L_finds rfl rfl rfl (by decide +kernel) (by decide) rfl dL_refuses_224 rfl (Nat.le_of_ble_eq_true rfl) (by decide) (fun r11 μ11 hp => ?_)
        obtain ⟨e11, S11⟩ := (n_finds I S10 hp).1 (and6 (Or.inr (Or.inr (Or.inr (Or.inr (Or.inl (inB_f1 (ng2 (by omega)))))))))
        clear hp
        refine j_eq e11 ?_
        clear e11
        refine j_ldc Z mwL_refuses_k15 dL_refuses_227 ?_
        refine j_icmp_ne Z 517 dL_refuses_229 (by decide) (fun h => absurd rfl h) (fun _ => ?_)
        refine j_aload_n Z dL_refuses_232 3 rfl ?_
        refine j_iconst Z (v := 0) dL_refuses_233 (by decide) ?_
        refine j_iconst Z (v := 0) dL_refuses_234 (by decide) ?_
        refine j_iconst Z (v := 0) dL_refuses_235 (by decide) ?_
        refine j_iconst Z (v := 0) dL_refuses_236 (by decide) ?_
        refine j_iconst Z (v := 0) dL_refuses_237 (by decide) ?_
        refine j_bipush Z (v := 100) dL_refuses_238 (by decide) ?_
        refine j_iload_n Z dL_refuses_240 5 rfl ?_
        refine j_iadd Z dL_refuses_241 ?_
        refine j_eq (nI_add 100 a) ?_
        refine j_callSWi Z hN (As := [.ref (g.2.1 0), .int 0, .int 0, .int 0, .int 0, .int 0, .int (nI (100 + a))]) (rest := []) (nA := 7) (c_L_finds l hst g μ11 cnt lc wc (I.sc S11).1 0 0 0 0 0 (nI (100 + a))) gL_refuses_L_finds rfl rfl rfl (by decide +kernel) (by decide) rfl dL_refuses_242 rfl (Nat.le_of_ble_eq_true rfl) (by decide) (fun r12 μ12 hp => ?_)
        obtain ⟨e12, S12⟩ := (n_finds I S11 hp).1 (and6 (Or.inr (Or.inr (Or.inr (Or.inr (Or.inr (inB_hi (m := 99) (by decide) (by omega) (by omega))))))))
        clear hp
        refine j_eq e12 ?_
        clear e12
        refine j_ldc Z mwL_refuses_k15 dL_refuses_245 ?_
        refine j_icmp_ne Z 517 dL_refuses_247 (by decide) (fun h => absurd rfl h) (fun _ => ?_)
        refine j_aload_n Z dL_refuses_250 3 rfl ?_
        refine j_iload_n Z dL_refuses_251 2 rfl ?_
        refine j_callSWi Z hN (As := [.ref (g.2.1 0), .int v]) (rest := []) (nA := 2) (c_L_strikes l hst g μ12 cnt lc wc (I.sc S12).1 v) gL_refuses_L_strikes rfl rfl rfl (by decide +kernel) (by decide) rfl dL_refuses_252 rfl (Nat.le_of_ble_eq_true rfl) (by decide) (fun r13 μ13 hp => ?_)
        obtain ⟨e13, S13⟩ := (n_strikes I S12 hp) (hv)
        clear hp
        refine j_eq e13 ?_
        clear e13
        refine j_ldc Z mwL_refuses_k36 dL_refuses_255 ?_
        refine j_icmp_ne Z 517 dL_refuses_257 (by decide) (fun h => absurd rfl h) (fun _ => ?_)
        refine j_aload_n Z dL_refuses_260 3 rfl ?_
        refine j_iload_n Z dL_refuses_261 2 rfl ?_
        refine j_iload_n Z dL_refuses_262 2 rfl ?_
        refine j_bipush Z (v := 9) dL_refuses_263 (by decide) ?_
        refine j_callSWi Z hN (As := [.ref (g.2.1 0), .int v, .int v, .int 9]) (rest := []) (nA := 4) (c_L_tells l hst g μ13 cnt lc wc (I.sc S13).1 v v 9) gL_refuses_L_tells rfl rfl rfl (by decide +kernel) (by decide) rfl dL_refuses_265 rfl (Nat.le_of_ble_eq_true rfl) (by decide) (fun r14 μ14 hp => ?_)
        obtain ⟨e14, S14⟩ := (n_tells I S13 hp).1 (and2 (Or.inl hv))
        clear hp
        refine j_eq e14 ?_
        clear e14
        refine j_ldc Z mwL_refuses_k36 dL_refuses_268 ?_
        refine j_icmp_ne Z 517 dL_refuses_270 (by decide) (fun h => absurd rfl h) (fun _ => ?_)
        refine j_aload_n Z dL_refuses_273 3 rfl ?_
        refine j_iload_n Z dL_refuses_274 2 rfl ?_
        refine j_iload Z dL_refuses_275 0 rfl ?_
        refine j_callSWi Z hN (As := [.ref (g.2.1 0), .int v, .int u]) (rest := []) (nA := 3) (c_L_counts l hst g μ14 cnt lc wc (I.sc S14).1 v u) gL_refuses_L_counts rfl rfl rfl (by decide +kernel) (by decide) rfl dL_refuses_277 rfl (Nat.le_of_ble_eq_true rfl) (by decide) (fun r15 μ15 hp => ?_)
        have S15 := (n_counts I S14 hp).1
        have e15 := (n_counts I S14 hp).2.1 (hv)
        clear hp
        refine j_eq e15 ?_
        clear e15
        refine j_ldc Z mwL_refuses_k36 dL_refuses_280 ?_
        refine j_icmp_ne Z 517 dL_refuses_282 (by decide) (fun h => absurd rfl h) (fun _ => ?_)
        refine j_aload_n Z dL_refuses_285 3 rfl ?_
        refine j_iload Z dL_refuses_286 0 rfl ?_
        refine j_callSWi Z hN (As := [.ref (g.2.1 0), .int u]) (rest := []) (nA := 2) (c_L_things l hst g μ15 cnt lc wc (I.sc S15).1 u) gL_refuses_L_things rfl rfl rfl (by decide +kernel) (by decide) rfl dL_refuses_288 rfl (Nat.le_of_ble_eq_true rfl) (by decide) (fun r16 μ16 hp => ?_)
        have S16 := (n_things I S15 hp).1
        have e16 := (n_things I S15 hp).2.1 (hu)
        clear hp
        refine j_eq e16 ?_
        clear e16
        refine j_ldc Z mwL_refuses_k15 dL_refuses_291 ?_
        refine j_icmp_ne Z 517 dL_refuses_293 (by decide) (fun h => absurd rfl h) (fun _ => ?_)
        refine j_aload_n Z dL_refuses_296 3 rfl ?_
        refine j_iload_n Z dL_refuses_297 2 rfl ?_
        refine j_iload Z dL_refuses_298 0 rfl ?_
        refine j_callSWi Z hN (As := [.ref (g.2.1 0), .int v, .int u]) (rest := []) (nA := 3) (c_L_thing l hst g μ16 cnt lc wc (I.sc S16).1 v u) gL_refuses_L_thing rfl rfl rfl (by decide +kernel) (by decide) rfl dL_refuses_300 rfl (Nat.le_of_ble_eq_true rfl) (by decide) (fun r17 μ17 hp => ?_)
        have S17 := (n_thing I S16 hp).1
        have e17 := (n_thing I S16 hp).2.1 (hv)
        clear hp
        refine j_eq e17 ?_
        clear e17
        refine j_ldc Z mwL_refuses_k36 dL_refuses_303 ?_
        refine j_icmp_ne Z 517 dL_refuses_305 (by decide) (fun h => absurd rfl h) (fun _ => ?_)
        refine j_aload_n Z dL_refuses_308 3 rfl ?_
        refine j_iload_n Z dL_refuses_309 2 rfl ?_
        refine j_bipush Z (v := 9) dL_refuses_310 (by decide) ?_
        refine j_iload Z dL_refuses_312 0 rfl ?_
        refine j_callSWi Z hN (As := [.ref (g.2.1 0), .int v, .int 9, .int u]) (rest := []) (nA := 4) (c_L_value l hst g μ17 cnt lc wc (I.sc S17).1 v 9 u) gL_refuses_L_value rfl rfl rfl (by decide +kernel) (by decide) rfl dL_refuses_314 rfl (Nat.le_of_ble_eq_true rfl) (by decide) (fun r18 μ18 hp => ?_)
        have S18 := (n_value I S17 hp).1
        have e18 := (n_value I S17 hp).2.1 (hv)
        clear hp
        refine j_eq e18 ?_
        clear e18
        refine j_ldc Z mwL_refuses_k36 dL_refuses_317 ?_
        refine j_icmp_ne Z 517 dL_refuses_319 (by decide) (fun h => absurd rfl h) (fun _ => ?_)
        refine j_aload_n Z dL_refuses_322 3 rfl ?_
        refine j_iconst Z (v := 2) dL_refuses_323 (by decide) ?_
        refine j_iload_n Z dL_refuses_324 5 rfl ?_
        refine j_iadd Z dL_refuses_325 ?_
        refine j_eq (nI_add 2 a) ?_
        refine j_iconst Z (v := 0) dL_refuses_326 (by decide) ?_
        refine j_callSWi Z hN (As := [.ref (g.2.1 0), .int (nI (2 + a)), .int 0]) (rest := []) (nA := 3) (c_L_disputed l hst g μ18 cnt lc wc (I.sc S18).1 (nI (2 + a)) 0) gL_refuses_L_disputed rfl rfl rfl (by decide +kernel) (by decide) rfl dL_refuses_327 rfl (Nat.le_of_ble_eq_true rfl) (by decide) (fun r19 μ19 hp => ?_)
        have S19 := (n_disputed I S18 hp).1
        have e19 := (n_disputed I S18 hp).2.1 (and2 (Or.inl (inB_hi (m := 1) (by decide) (by omega) (by omega))))
        clear hp
        refine j_eq e19 ?_
        clear e19
        refine j_ldc Z mwL_refuses_k15 dL_refuses_330 ?_
        refine j_icmp_ne Z 517 dL_refuses_332 (by decide) (fun h => absurd rfl h) (fun _ => ?_)
        refine j_aload_n Z dL_refuses_335 3 rfl ?_
        refine j_iconst Z (v := 0) dL_refuses_336 (by decide) ?_
        refine j_iload Z dL_refuses_337 0 rfl ?_
        refine j_callSWi Z hN (As := [.ref (g.2.1 0), .int 0, .int u]) (rest := []) (nA := 3) (c_L_disputed l hst g μ19 cnt lc wc (I.sc S19).1 0 u) gL_refuses_L_disputed rfl rfl rfl (by decide +kernel) (by decide) rfl dL_refuses_339 rfl (Nat.le_of_ble_eq_true rfl) (by decide) (fun r20 μ20 hp => ?_)
        have S20 := (n_disputed I S19 hp).1
        have e20 := (n_disputed I S19 hp).2.1 (and2 (Or.inr hu))
        clear hp
        refine j_eq e20 ?_
        clear e20
        refine j_ldc Z mwL_refuses_k15 dL_refuses_342 ?_
        refine j_icmp_ne Z 517 dL_refuses_344 (by decide) (fun h => absurd rfl h) (fun _ => ?_)
        refine j_aload_n Z dL_refuses_347 3 rfl ?_
        refine j_iload_n Z dL_refuses_348 2 rfl ?_
        refine j_iload_n Z dL_refuses_349 2 rfl ?_
        refine j_bipush Z (v := 9) dL_refuses_350 (by decide) ?_
        refine j_callSWi Z hN (As := [.ref (g.2.1 0), .int v, .int v, .int 9]) (rest := []) (nA := 4) (c_L_links l hst g μ20 cnt lc wc (I.sc S20).1 v v 9) gL_refuses_L_links rfl rfl rfl (by decide +kernel) (by decide) rfl dL_refuses_352 rfl (Nat.le_of_ble_eq_true rfl) (by decide) (fun r21 μ21 hp => ?_)
        obtain ⟨e21, S21⟩ := (n_links I S20 hp).1 (and2 (Or.inl hv))
        clear hp
        refine j_eq e21 ?_
        clear e21
        refine j_ldc Z mwL_refuses_k36 dL_refuses_355 ?_
        refine j_icmp_ne Z 517 dL_refuses_357 (by decide) (fun h => absurd rfl h) (fun _ => ?_)
        refine j_aload_n Z dL_refuses_360 3 rfl ?_
        refine j_iload_n Z dL_refuses_361 2 rfl ?_
        refine j_iload Z dL_refuses_362 0 rfl ?_
        refine j_callSWi Z hN (As := [.ref (g.2.1 0), .int v, .int u]) (rest := []) (nA := 3) (c_L_impact l hst g μ21 cnt lc wc (I.sc S21).1 v u) gL_refuses_L_impact rfl rfl rfl (by decide +kernel) (by decide) rfl dL_refuses_364 rfl (Nat.le_of_ble_eq_true rfl) (by decide) (fun r22 μ22 hp => ?_)
        have S22 := (n_impact I S21 hp).1
        have e22 := (n_impact I S21 hp).2.1 (hv)
        clear hp
        refine j_eq e22 ?_
        clear e22
        refine j_ldc Z mwL_refuses_k36 dL_refuses_367 ?_
        refine j_icmp_ne Z 517 dL_refuses_369 (by decide) (fun h => absurd rfl h) (fun _ => ?_)
        refine j_aload_n Z dL_refuses_372 3 rfl ?_
        refine j_iload_n Z dL_refuses_373 2 rfl ?_
        refine j_iconst Z (v := 0) dL_refuses_374 (by decide) ?_
        refine j_iload Z dL_refuses_375 0 rfl ?_
        refine j_callSWi Z hN (As := [.ref (g.2.1 0), .int v, .int 0, .int u]) (rest := []) (nA := 4) (c_L_fails l hst g μ22 cnt lc wc (I.sc S22).1 v 0 u) gL_refuses_L_fails rfl rfl rfl (by decide +kernel) (by decide) rfl dL_refuses_377 rfl (Nat.le_of_ble_eq_true rfl) (by decide) (fun r23 μ23 hp => ?_)
        have S23 := (n_fails I S22 hp).1
        have e23 := (n_fails I S22 hp).2.1 (and2 (Or.inl hv))
        clear hp
        refine j_eq e23 ?_
        clear e23
        refine j_ldc Z mwL_refuses_k36 dL_refuses_380 ?_
        refine j_icmp_ne Z 517 dL_refuses_382 (by decide) (fun h => absurd rfl h) (fun _ => ?_)
        refine j_aload_n Z dL_refuses_385 3 rfl ?_
        refine j_iconst Z (v := 3) dL_refuses_386 (by decide) ?_
        refine j_iload_n Z dL_refuses_387 5 rfl ?_
        refine j_iadd Z dL_refuses_388 ?_
        refine j_eq (nI_add 3 a) ?_
        refine j_iconst Z (v := 1) dL_refuses_389 (by decide) ?_
        refine j_iconst Z (v := 0) dL_refuses_390 (by decide) ?_
        refine j_iconst Z (v := 0) dL_refuses_391 (by decide) ?_
        refine j_callSWi Z hN (As := [.ref (g.2.1 0), .int (nI (3 + a)), .int 1, .int 0, .int 0]) (rest := []) (nA := 5) (c_L_wishes l hst g μ23 cnt lc wc (I.sc S23).1 (nI (3 + a)) 1 0 0) gL_refuses_L_wishes rfl rfl rfl (by decide +kernel) (by decide) rfl dL_refuses_392 rfl (Nat.le_of_ble_eq_true rfl) (by decide) (fun r24 μ24 hp => ?_)
        obtain ⟨e24, S24⟩ := (n_wishes I S23 hp).1 (and4 (Or.inl (inB_hi (m := 2) (by decide) (by omega) (by omega))))
        clear hp
        refine j_eq e24 ?_
        clear e24
        refine j_ldc Z mwL_refuses_k15 dL_refuses_395 ?_
        refine j_icmp_ne Z 517 dL_refuses_397 (by decide) (fun h => absurd rfl h) (fun _ => ?_)
        refine j_aload_n Z dL_refuses_400 3 rfl ?_
        refine j_iconst Z (v := 0) dL_refuses_401 (by decide) ?_
        refine j_iconst Z (v := 0) dL_refuses_402 (by decide) ?_
        refine j_iconst Z (v := 0) dL_refuses_403 (by decide) ?_
        refine j_iconst Z (v := 0) dL_refuses_404 (by decide) ?_
        refine j_callSWi Z hN (As := [.ref (g.2.1 0), .int 0, .int 0, .int 0, .int 0]) (rest := []) (nA := 5) (c_L_wishes l hst g μ24 cnt lc wc (I.sc S24).1 0 0 0 0) gL_refuses_L_wishes rfl rfl rfl (by decide +kernel) (by decide) rfl dL_refuses_405 rfl (Nat.le_of_ble_eq_true rfl) (by decide) (fun r25 μ25 hp => ?_)
        obtain ⟨e25, S25⟩ := (n_wishes I S24 hp).1 (and4 (Or.inr (Or.inl (by decide))))
        clear hp
        refine j_eq e25 ?_
        clear e25
        refine j_ldc Z mwL_refuses_k15 dL_refuses_408 ?_
        refine j_icmp_ne Z 517 dL_refuses_410 (by decide) (fun h => absurd rfl h) (fun _ => ?_)
        refine j_aload_n Z dL_refuses_413 3 rfl ?_
        refine j_iconst Z (v := 0) dL_refuses_414 (by decide) ?_
        refine j_iconst Z (v := 1) dL_refuses_415 (by decide) ?_
        refine j_iconst Z (v := 2) dL_refuses_416 (by decide) ?_
        refine j_iload_n Z dL_refuses_417 5 rfl ?_
        refine j_iadd Z dL_refuses_418 ?_
        refine j_eq (nI_add 2 a) ?_
        refine j_iconst Z (v := 0) dL_refuses_419 (by decide) ?_
        refine j_callSWi Z hN (As := [.ref (g.2.1 0), .int 0, .int 1, .int (nI (2 + a)), .int 0]) (rest := []) (nA := 5) (c_L_wishes l hst g μ25 cnt lc wc (I.sc S25).1 0 1 (nI (2 + a)) 0) gL_refuses_L_wishes rfl rfl rfl (by decide +kernel) (by decide) rfl dL_refuses_420 rfl (Nat.le_of_ble_eq_true rfl) (by decide) (fun r26 μ26 hp => ?_)
        obtain ⟨e26, S26⟩ := (n_wishes I S25 hp).1 (and4 (Or.inr (Or.inr (Or.inl (inB_hi (m := 1) (by decide) (by omega) (by omega))))))
        clear hp
        refine j_eq e26 ?_
        clear e26
        refine j_ldc Z mwL_refuses_k15 dL_refuses_423 ?_
        refine j_icmp_ne Z 517 dL_refuses_425 (by decide) (fun h => absurd rfl h) (fun _ => ?_)
        refine j_aload_n Z dL_refuses_428 3 rfl ?_
        refine j_iconst Z (v := 0) dL_refuses_429 (by decide) ?_
        refine j_iconst Z (v := 1) dL_refuses_430 (by decide) ?_
        refine j_iconst Z (v := 0) dL_refuses_431 (by decide) ?_
        refine j_bipush Z (v := 100) dL_refuses_432 (by decide) ?_
        refine j_iload_n Z dL_refuses_434 5 rfl ?_
        refine j_iadd Z dL_refuses_435 ?_
        refine j_eq (nI_add 100 a) ?_
        refine j_callSWi Z hN (As := [.ref (g.2.1 0), .int 0, .int 1, .int 0, .int (nI (100 + a))]) (rest := []) (nA := 5) (c_L_wishes l hst g μ26 cnt lc wc (I.sc S26).1 0 1 0 (nI (100 + a))) gL_refuses_L_wishes rfl rfl rfl (by decide +kernel) (by decide) rfl dL_refuses_436 rfl (Nat.le_of_ble_eq_true rfl) (by decide) (fun r27 μ27 hp => ?_)
        obtain ⟨e27, S27⟩ := (n_wishes I S26 hp).1 (and4 (Or.inr (Or.inr (Or.inr (inB_hi (m := 99) (by decide) (by omega) (by omega))))))
        clear hp
        refine j_eq e27 ?_
        clear e27
        refine j_ldc Z mwL_refuses_k15 dL_refuses_439 ?_
        refine j_icmp_ne Z 517 dL_refuses_441 (by decide) (fun h => absurd rfl h) (fun _ => ?_)
        refine j_aload_n Z dL_refuses_444 3 rfl ?_
        refine j_aload_n Z dL_refuses_445 4 rfl ?_
        refine j_iconst Z (v := 2) dL_refuses_446 (by decide) ?_
        refine j_ild Z 25 (by decide) (fun _ => rfl) 2 (by decide) (by decide) (by decide) dL_refuses_447 ?_
        refine j_eq ((congrFun (S27.1 25 (by decide) (by decide) (by decide)) 2).trans hn2) ?_
        refine j_iload_n Z dL_refuses_448 5 rfl ?_
        refine j_iadd Z dL_refuses_449 ?_
        refine j_eq (nI_add wc a) ?_
        refine j_iconst Z (v := 0) dL_refuses_450 (by decide) ?_
        refine j_callSWi Z hN (As := [.ref (g.2.1 0), .int (nI (wc + a)), .int 0]) (rest := []) (nA := 3) (c_L_differing l hst g μ27 cnt lc wc (I.sc S27).1 (nI (wc + a)) 0) gL_refuses_L_differing rfl rfl rfl (by decide +kernel) (by decide) rfl dL_refuses_451 rfl (Nat.le_of_ble_eq_true rfl) (by decide) (fun r28 μ28 hp => ?_)
        have S28 := (n_differing I S27 hp).1
        have e28 := (n_differing I S27 hp).2.1 (fndB_hi (by omega) (by omega))
        clear hp
        refine j_eq e28 ?_
        clear e28
        refine j_ldc Z mwL_refuses_k36 dL_refuses_454 ?_
        refine j_icmp_ne Z 517 dL_refuses_456 (by decide) (fun h => absurd rfl h) (fun _ => ?_)
        refine j_aload_n Z dL_refuses_459 3 rfl ?_
        refine j_iconst Z (v := -1) dL_refuses_460 (by decide) ?_
        refine j_iload_n Z dL_refuses_461 5 rfl ?_
        refine j_isub Z dL_refuses_462 ?_
        refine j_iload Z dL_refuses_463 0 rfl ?_
        refine j_callSWi Z hN (As := [.ref (g.2.1 0), .int ((-1) - (nI a)), .int u]) (rest := []) (nA := 3) (c_L_differing l hst g μ28 cnt lc wc (I.sc S28).1 ((-1) - (nI a)) u) gL_refuses_L_differing rfl rfl rfl (by decide +kernel) (by decide) rfl dL_refuses_465 rfl (Nat.le_of_ble_eq_true rfl) (by decide) (fun r29 μ29 hp => ?_)
        have S29 := (n_differing I S28 hp).1
        have e29 := (n_differing I S28 hp).2.1 (fndB_f1 (ng1 (by omega)))
        clear hp
        refine j_eq e29 ?_
        clear e29
        refine j_ldc Z mwL_refuses_k36 dL_refuses_468 ?_
        refine j_icmp_ne Z 517 dL_refuses_470 (by decide) (fun h => absurd rfl h) (fun _ => ?_)
        refine j_aload_n Z dL_refuses_473 3 rfl ?_
        refine j_iconst Z (v := 0) dL_refuses_474 (by decide) ?_
        refine j_iload Z dL_refuses_475 0 rfl ?_
        refine j_iconst Z (v := 0) dL_refuses_477 (by decide) ?_
        refine j_callSWi Z hN (As := [.ref (g.2.1 0), .int 0, .int u, .int 0]) (rest := []) (nA := 4) (c_L_changed l hst g μ29 cnt lc wc (I.sc S29).1 0 u 0) gL_refuses_L_changed rfl rfl rfl (by decide +kernel) (by decide) rfl dL_refuses_478 rfl (Nat.le_of_ble_eq_true rfl) (by decide) (fun r30 μ30 hp => ?_)
        have S30 := (n_changed I S29 hp).1
        have e30 := (n_changed I S29 hp).2.1 (and3 (Or.inr (Or.inl hu)))
        clear hp
        refine j_eq e30 ?_
        clear e30
        refine j_ldc Z mwL_refuses_k15 dL_refuses_481 ?_
        refine j_icmp_ne Z 517 dL_refuses_483 (by decide) (fun h => absurd rfl h) (fun _ => ?_)
        refine j_aload_n Z dL_refuses_486 3 rfl ?_
        refine j_iconst Z (v := 0) dL_refuses_487 (by decide) ?_
        refine j_iconst Z (v := 0) dL_refuses_488 (by decide) ?_
        refine j_iload Z dL_refuses_489 0 rfl ?_
        refine j_callSWi Z hN (As := [.ref (g.2.1 0), .int 0, .int 0, .int u]) (rest := []) (nA := 4) (c_L_changed l hst g μ30 cnt lc wc (I.sc S30).1 0 0 u) gL_refuses_L_changed rfl rfl rfl (by decide +kernel) (by decide) rfl dL_refuses_491 rfl (Nat.le_of_ble_eq_true rfl) (by decide) (fun r31 μ31 hp => ?_)
        have S31 := (n_changed I S30 hp).1
        have e31 := (n_changed I S30 hp).2.1 (and3 (Or.inr (Or.inr hu)))
        clear hp
        refine j_eq e31 ?_
        clear e31
        refine j_ldc Z mwL_refuses_k15 dL_refuses_494 ?_
        refine j_icmp_ne Z 517 dL_refuses_496 (by decide) (fun h => absurd rfl h) (fun _ => ?_)
        refine j_aload_n Z dL_refuses_499 3 rfl ?_
        refine j_iconst Z (v := -1) dL_refuses_500 (by decide) ?_
        refine j_iload_n Z dL_refuses_501 5 rfl ?_
        refine j_isub Z dL_refuses_502 ?_
        refine j_iconst Z (v := 0) dL_refuses_503 (by decide) ?_
        refine j_iconst Z (v := 0) dL_refuses_504 (by decide) ?_
        refine j_callSWi Z hN (As := [.ref (g.2.1 0), .int ((-1) - (nI a)), .int 0, .int 0]) (rest := []) (nA := 4) (c_L_changed l hst g μ31 cnt lc wc (I.sc S31).1 ((-1) - (nI a)) 0 0) gL_refuses_L_changed rfl rfl rfl (by decide +kernel) (by decide) rfl dL_refuses_505 rfl (Nat.le_of_ble_eq_true rfl) (by decide) (fun r32 μ32 hp => ?_)
        have S32 := (n_changed I S31 hp).1
        have e32 := (n_changed I S31 hp).2.1 (and3 (Or.inl (inB_f1 (ng1 (by omega)))))
        clear hp
        refine j_eq e32 ?_
        clear e32
        refine j_ldc Z mwL_refuses_k15 dL_refuses_508 ?_
        refine j_icmp_ne Z 517 dL_refuses_510 (by decide) (fun h => absurd rfl h) (fun _ => ?_)
        refine j_iconst Z (v := 1) dL_refuses_513 (by decide) ?_
        refine j_goto Z 518 dL_refuses_514 (by decide) ?_
        refine j_istore Z dL_refuses_518 (by decide) [(6, .int 1), (5, .int u), (4, .int w), (3, .int v), (0, .ref (g.2.1 0)), (1, .ref (g.2.1 25)), (2, .int (nI a))] rfl ?_
        have JB : ∀ (μX : gM), Sc cnt μ μX → J p l e { frames := 10, cells := 204, slots := 1224, locals := 181 } s m args below meth c Q g 10 μX (200) (1200) 856 [(6, .int 1), (5, .int u), (4, .int w), (3, .int v), (0, .ref (g.2.1 0)), (1, .ref (g.2.1 25)), (2, .int (nI a))] [] := by
          intro μX SX
          refine j_iload Z dL_refuses_856 0 rfl ?_
          refine j_if_eq Z 887 dL_refuses_858 (by decide) (fun h => absurd h (by decide)) (fun _ => ?_)
          refine j_aload_n Z dL_refuses_861 5 rfl ?_
          refine j_iconst Z (v := 2) dL_refuses_862 (by decide) ?_
          refine j_ild Z 25 (by decide) (fun _ => rfl) 2 (by decide) (by decide) (by decide) dL_refuses_863 ?_
          refine j_eq ((congrFun (SX.1 25 (by decide) (by decide) (by decide)) 2).trans hn2) ?_
          refine j_if_eq Z 883 dL_refuses_864 (by decide) (fun h864 => ?_) (fun h864 => ?_)
          · skip
            refine j_iconst Z (v := 1) dL_refuses_883 (by decide) ?_
            refine j_goto Z 888 dL_refuses_884 (by decide) ?_
            exact hR _ _ _ _ _ _ (⟨rfl, SX⟩) (by decide) (by decide) dL_refuses_888
          · skip
            have hw0 := nI_n0 h864
            refine j_aload_n Z dL_refuses_867 4 rfl ?_
            refine j_iload_n Z dL_refuses_868 6 rfl ?_
            refine j_aload_n Z dL_refuses_869 5 rfl ?_
            refine j_iconst Z (v := 2) dL_refuses_870 (by decide) ?_
            refine j_ild Z 25 (by decide) (fun _ => rfl) 2 (by decide) (by decide) (by decide) dL_refuses_871 ?_
            refine j_eq ((congrFun (SX.1 25 (by decide) (by decide) (by decide)) 2).trans hn2) ?_
            refine j_iremN Z (a := a) (b := wc) dL_refuses_872 rfl (by omega) (by omega) (by omega) ?_
            refine j_iload Z dL_refuses_873 1 rfl ?_
            refine j_callSWi Z hN (As := [.ref (g.2.1 0), .int (nI (a % wc)), .int u]) (rest := []) (nA := 3) (c_L_differing l hst g μX cnt lc wc (I.sc SX).1 (nI (a % wc)) u) gL_refuses_L_differing rfl rfl rfl (by decide +kernel) (by decide) rfl dL_refuses_875 rfl (Nat.le_of_ble_eq_true rfl) (by decide) (fun r33 μ33 hp => ?_)
            have S33 := (n_differing I SX hp).1
            have e33 := (n_differing I SX hp).2.2.1 (fndB_nI (Nat.mod_lt _ hw0) (by omega)) (hu)
            clear hp
            refine j_eq e33 ?_
            clear e33
            refine j_ldc Z mwL_refuses_k15 dL_refuses_878 ?_
            refine j_icmp_ne Z 887 dL_refuses_880 (by decide) (fun h => absurd rfl h) (fun _ => ?_)
            refine j_iconst Z (v := 1) dL_refuses_883 (by decide) ?_
            refine j_goto Z 888 dL_refuses_884 (by decide) ?_
            exact hR _ _ _ _ _ _ (⟨rfl, S33⟩) (by decide) (by decide) dL_refuses_888
        refine j_iload Z dL_refuses_520 0 rfl ?_
        refine j_if_eq Z 856 dL_refuses_522 (by decide) (fun h => absurd h (by decide)) (fun _ => ?_)
        refine j_aload_n Z dL_refuses_525 5 rfl ?_
        refine j_iconst Z (v := 0) dL_refuses_526 (by decide) ?_
        refine j_ild Z 25 (by decide) (fun _ => rfl) 0 (by decide) (by decide) (by decide) dL_refuses_527 ?_
        refine j_eq ((congrFun (S32.1 25 (by decide) (by decide) (by decide)) 0).trans hn0) ?_
        refine j_if_le Z 856 dL_refuses_528 (by decide) (fun h528 => ?_) (fun h528 => ?_)
        · skip
          exact j_sub [0, 1, 2, 3, 4, 5, 6] rfl (j_wide (k' := 200) (n' := 1200) (by decide) (by decide) (JB _ S32))
        · skip
          have hc0 := nI_g0 h528
          obtain ⟨one, ho, eo⟩ : ∃ one, one < cnt ∧ a % cnt = one := ⟨_, Nat.mod_lt _ hc0, rfl⟩
          have hone : fndB cnt (nI one) = true := fndB_nI ho (by omega)
          obtain ⟨oth, hot, eot⟩ : ∃ oth, oth < cnt ∧ (one + 1) % cnt = oth := ⟨_, Nat.mod_lt _ hc0, rfl⟩
          have hoth : fndB cnt (nI oth) = true := fndB_nI hot (by omega)
          refine j_iload_n Z dL_refuses_531 6 rfl ?_
          refine j_aload_n Z dL_refuses_532 5 rfl ?_
          refine j_iconst Z (v := 0) dL_refuses_533 (by decide) ?_
          refine j_ild Z 25 (by decide) (fun _ => rfl) 0 (by decide) (by decide) (by decide) dL_refuses_534 ?_
          refine j_eq ((congrFun (S32.1 25 (by decide) (by decide) (by decide)) 0).trans hn0) ?_
          refine j_iremN Z (a := a) (b := cnt) dL_refuses_535 rfl (by omega) (by omega) (by omega) ?_
          refine j_eq (congrArg nI eo) ?_
          refine j_istore Z dL_refuses_536 (by decide) [(7, .int (nI one)), (6, .int 1), (5, .int u), (4, .int w), (3, .int v), (0, .ref (g.2.1 0)), (1, .ref (g.2.1 25)), (2, .int (nI a))] rfl ?_
          refine j_aload_n Z dL_refuses_538 5 rfl ?_
          refine j_iload Z dL_refuses_539 0 rfl ?_
          refine j_iload Z dL_refuses_541 0 rfl ?_
          refine j_iconst Z (v := 1) dL_refuses_543 (by decide) ?_
          refine j_callSWi Z hN (As := [.ref (g.2.1 0), .int (nI one), .int (nI one), .int 1]) (rest := []) (nA := 4) (c_L_tells l hst g μ32 cnt lc wc (I.sc S32).1 (nI one) (nI one) 1) gL_refuses_L_tells rfl rfl rfl (by decide +kernel) (by decide) rfl dL_refuses_544 rfl (Nat.le_of_ble_eq_true rfl) (by decide) (fun r34 μ34 hp => ?_)
          obtain ⟨e34, S34⟩ := (n_tells I S32 hp).2 (and2t hone hone) (and2 (Or.inl ne_f))
          clear hp
          refine j_eq e34 ?_
          clear e34
          refine j_ldc Z mwL_refuses_k15 dL_refuses_547 ?_
          refine j_icmp_ne Z 692 dL_refuses_549 (by decide) (fun h => absurd rfl h) (fun _ => ?_)
          refine j_aload_n Z dL_refuses_552 5 rfl ?_
          refine j_iload Z dL_refuses_553 0 rfl ?_
          refine j_iload_n Z dL_refuses_555 4 rfl ?_
          refine j_iconst Z (v := 1) dL_refuses_556 (by decide) ?_
          refine j_callSWi Z hN (As := [.ref (g.2.1 0), .int (nI one), .int v, .int 1]) (rest := []) (nA := 4) (c_L_tells l hst g μ34 cnt lc wc (I.sc S34).1 (nI one) v 1) gL_refuses_L_tells rfl rfl rfl (by decide +kernel) (by decide) rfl dL_refuses_557 rfl (Nat.le_of_ble_eq_true rfl) (by decide) (fun r35 μ35 hp => ?_)
          obtain ⟨e35, S35⟩ := (n_tells I S34 hp).1 (and2 (Or.inr hv))
          clear hp
          refine j_eq e35 ?_
          clear e35
          refine j_ldc Z mwL_refuses_k36 dL_refuses_560 ?_
          refine j_icmp_ne Z 692 dL_refuses_562 (by decide) (fun h => absurd rfl h) (fun _ => ?_)
          refine j_aload_n Z dL_refuses_565 5 rfl ?_
          refine j_iload Z dL_refuses_566 0 rfl ?_
          refine j_iload Z dL_refuses_568 2 rfl ?_
          refine j_callSWi Z hN (As := [.ref (g.2.1 0), .int (nI one), .int u]) (rest := []) (nA := 3) (c_L_counts l hst g μ35 cnt lc wc (I.sc S35).1 (nI one) u) gL_refuses_L_counts rfl rfl rfl (by decide +kernel) (by decide) rfl dL_refuses_570 rfl (Nat.le_of_ble_eq_true rfl) (by decide) (fun r36 μ36 hp => ?_)
          have S36 := (n_counts I S35 hp).1
          have e36 := (n_counts I S35 hp).2.2.1 (hone) (hu)
          clear hp
          refine j_eq e36 ?_
          clear e36
          refine j_ldc Z mwL_refuses_k15 dL_refuses_573 ?_
          refine j_icmp_ne Z 692 dL_refuses_575 (by decide) (fun h => absurd rfl h) (fun _ => ?_)
          refine j_aload_n Z dL_refuses_578 5 rfl ?_
          refine j_iload Z dL_refuses_579 0 rfl ?_
          refine j_iload Z dL_refuses_581 2 rfl ?_
          refine j_callSWi Z hN (As := [.ref (g.2.1 0), .int (nI one), .int u]) (rest := []) (nA := 3) (c_L_thing l hst g μ36 cnt lc wc (I.sc S36).1 (nI one) u) gL_refuses_L_thing rfl rfl rfl (by decide +kernel) (by decide) rfl dL_refuses_583 rfl (Nat.le_of_ble_eq_true rfl) (by decide) (fun r37 μ37 hp => ?_)
          have S37 := (n_thing I S36 hp).1
          have e37 := (n_thing I S36 hp).2.2.1 (hone) (hu)
          clear hp
          refine j_eq e37 ?_
          clear e37
          refine j_ldc Z mwL_refuses_k15 dL_refuses_586 ?_
          refine j_icmp_ne Z 692 dL_refuses_588 (by decide) (fun h => absurd rfl h) (fun _ => ?_)
          refine j_aload_n Z dL_refuses_591 5 rfl ?_
          refine j_iload Z dL_refuses_592 0 rfl ?_
          refine j_iconst Z (v := 2) dL_refuses_594 (by decide) ?_
          refine j_iload_n Z dL_refuses_595 7 rfl ?_
          refine j_iadd Z dL_refuses_596 ?_
          refine j_eq (nI_add 2 a) ?_
          refine j_iconst Z (v := 0) dL_refuses_597 (by decide) ?_
          refine j_callSWi Z hN (As := [.ref (g.2.1 0), .int (nI one), .int (nI (2 + a)), .int 0]) (rest := []) (nA := 4) (c_L_value l hst g μ37 cnt lc wc (I.sc S37).1 (nI one) (nI (2 + a)) 0) gL_refuses_L_value rfl rfl rfl (by decide +kernel) (by decide) rfl dL_refuses_598 rfl (Nat.le_of_ble_eq_true rfl) (by decide) (fun r38 μ38 hp => ?_)
          have S38 := (n_value I S37 hp).1
          have e38 := (n_value I S37 hp).2.2.1 (hone) (and2 (Or.inl (inB_hi (m := 1) (by decide) (by omega) (by omega))))
          clear hp
          refine j_eq e38 ?_
          clear e38
          refine j_ldc Z mwL_refuses_k15 dL_refuses_601 ?_
          refine j_icmp_ne Z 692 dL_refuses_603 (by decide) (fun h => absurd rfl h) (fun _ => ?_)
          refine j_aload_n Z dL_refuses_606 5 rfl ?_
          refine j_iload Z dL_refuses_607 0 rfl ?_
          refine j_iconst Z (v := 0) dL_refuses_609 (by decide) ?_
          refine j_iload Z dL_refuses_610 2 rfl ?_
          refine j_callSWi Z hN (As := [.ref (g.2.1 0), .int (nI one), .int 0, .int u]) (rest := []) (nA := 4) (c_L_value l hst g μ38 cnt lc wc (I.sc S38).1 (nI one) 0 u) gL_refuses_L_value rfl rfl rfl (by decide +kernel) (by decide) rfl dL_refuses_612 rfl (Nat.le_of_ble_eq_true rfl) (by decide) (fun r39 μ39 hp => ?_)
          have S39 := (n_value I S38 hp).1
          have e39 := (n_value I S38 hp).2.2.1 (hone) (and2 (Or.inr hu))
          clear hp
          refine j_eq e39 ?_
          clear e39
          refine j_ldc Z mwL_refuses_k15 dL_refuses_615 ?_
          refine j_icmp_ne Z 692 dL_refuses_617 (by decide) (fun h => absurd rfl h) (fun _ => ?_)
          refine j_aload_n Z dL_refuses_620 5 rfl ?_
          refine j_iload Z dL_refuses_621 0 rfl ?_
          refine j_iload Z dL_refuses_623 0 rfl ?_
          refine j_iconst Z (v := 0) dL_refuses_625 (by decide) ?_
          refine j_callSWi Z hN (As := [.ref (g.2.1 0), .int (nI one), .int (nI one), .int 0]) (rest := []) (nA := 4) (c_L_links l hst g μ39 cnt lc wc (I.sc S39).1 (nI one) (nI one) 0) gL_refuses_L_links rfl rfl rfl (by decide +kernel) (by decide) rfl dL_refuses_626 rfl (Nat.le_of_ble_eq_true rfl) (by decide) (fun r40 μ40 hp => ?_)
          obtain ⟨e40, S40⟩ := (n_links I S39 hp).2.1 (and2t hone hone) (and2 (Or.inl ne_f))
          clear hp
          refine j_eq e40 ?_
          clear e40
          refine j_ldc Z mwL_refuses_k15 dL_refuses_629 ?_
          refine j_icmp_ne Z 692 dL_refuses_631 (by decide) (fun h => absurd rfl h) (fun _ => ?_)
          refine j_aload_n Z dL_refuses_634 5 rfl ?_
          refine j_iload_n Z dL_refuses_635 4 rfl ?_
          refine j_iload Z dL_refuses_636 0 rfl ?_
          refine j_iconst Z (v := 0) dL_refuses_638 (by decide) ?_
          refine j_callSWi Z hN (As := [.ref (g.2.1 0), .int v, .int (nI one), .int 0]) (rest := []) (nA := 4) (c_L_links l hst g μ40 cnt lc wc (I.sc S40).1 v (nI one) 0) gL_refuses_L_links rfl rfl rfl (by decide +kernel) (by decide) rfl dL_refuses_639 rfl (Nat.le_of_ble_eq_true rfl) (by decide) (fun r41 μ41 hp => ?_)
          obtain ⟨e41, S41⟩ := (n_links I S40 hp).1 (and2 (Or.inl hv))
          clear hp
          refine j_eq e41 ?_
          clear e41
          refine j_ldc Z mwL_refuses_k36 dL_refuses_642 ?_
          refine j_icmp_ne Z 692 dL_refuses_644 (by decide) (fun h => absurd rfl h) (fun _ => ?_)
          refine j_aload_n Z dL_refuses_647 5 rfl ?_
          refine j_iload Z dL_refuses_648 0 rfl ?_
          refine j_iload Z dL_refuses_650 2 rfl ?_
          refine j_callSWi Z hN (As := [.ref (g.2.1 0), .int (nI one), .int u]) (rest := []) (nA := 3) (c_L_impact l hst g μ41 cnt lc wc (I.sc S41).1 (nI one) u) gL_refuses_L_impact rfl rfl rfl (by decide +kernel) (by decide) rfl dL_refuses_652 rfl (Nat.le_of_ble_eq_true rfl) (by decide) (fun r42 μ42 hp => ?_)
          have S42 := (n_impact I S41 hp).1
          have e42 := (n_impact I S41 hp).2.2.1 (hone) (hu)
          clear hp
          refine j_eq e42 ?_
          clear e42
          refine j_ldc Z mwL_refuses_k15 dL_refuses_655 ?_
          refine j_icmp_ne Z 692 dL_refuses_657 (by decide) (fun h => absurd rfl h) (fun _ => ?_)
          refine j_aload_n Z dL_refuses_660 5 rfl ?_
          refine j_iload Z dL_refuses_661 0 rfl ?_
          refine j_iload_n Z dL_refuses_663 4 rfl ?_
          refine j_iconst Z (v := 0) dL_refuses_664 (by decide) ?_
          refine j_callSWi Z hN (As := [.ref (g.2.1 0), .int (nI one), .int v, .int 0]) (rest := []) (nA := 4) (c_L_fails l hst g μ42 cnt lc wc (I.sc S42).1 (nI one) v 0) gL_refuses_L_fails rfl rfl rfl (by decide +kernel) (by decide) rfl dL_refuses_665 rfl (Nat.le_of_ble_eq_true rfl) (by decide) (fun r43 μ43 hp => ?_)
          have S43 := (n_fails I S42 hp).1
          have e43 := (n_fails I S42 hp).2.1 (and2 (Or.inr hv))
          clear hp
          refine j_eq e43 ?_
          clear e43
          refine j_ldc Z mwL_refuses_k36 dL_refuses_668 ?_
          refine j_icmp_ne Z 692 dL_refuses_670 (by decide) (fun h => absurd rfl h) (fun _ => ?_)
          refine j_aload_n Z dL_refuses_673 5 rfl ?_
          refine j_iload Z dL_refuses_674 0 rfl ?_
          refine j_iload Z dL_refuses_676 0 rfl ?_
          refine j_iload Z dL_refuses_678 2 rfl ?_
          refine j_callSWi Z hN (As := [.ref (g.2.1 0), .int (nI one), .int (nI one), .int u]) (rest := []) (nA := 4) (c_L_fails l hst g μ43 cnt lc wc (I.sc S43).1 (nI one) (nI one) u) gL_refuses_L_fails rfl rfl rfl (by decide +kernel) (by decide) rfl dL_refuses_680 rfl (Nat.le_of_ble_eq_true rfl) (by decide) (fun r44 μ44 hp => ?_)
          have S44 := (n_fails I S43 hp).1
          have e44 := (n_fails I S43 hp).2.2.1 (and2t hone hone) (hu)
          clear hp
          refine j_eq e44 ?_
          clear e44
          refine j_ldc Z mwL_refuses_k15 dL_refuses_683 ?_
          refine j_icmp_ne Z 692 dL_refuses_685 (by decide) (fun h => absurd rfl h) (fun _ => ?_)
          refine j_iconst Z (v := 1) dL_refuses_688 (by decide) ?_
          refine j_goto Z 693 dL_refuses_689 (by decide) ?_
          refine j_istore Z dL_refuses_693 (by decide) [(6, .int 1), (7, .int (nI one)), (5, .int u), (4, .int w), (3, .int v), (0, .ref (g.2.1 0)), (1, .ref (g.2.1 25)), (2, .int (nI a))] rfl ?_
          refine j_iload Z dL_refuses_695 1 rfl ?_
          refine j_iconst Z (v := 1) dL_refuses_697 (by decide) ?_
          refine j_iadd Z dL_refuses_698 ?_
          refine j_eq (nI_add one 1) ?_
          refine j_aload_n Z dL_refuses_699 6 rfl ?_
          refine j_iconst Z (v := 0) dL_refuses_700 (by decide) ?_
          refine j_ild Z 25 (by decide) (fun _ => rfl) 0 (by decide) (by decide) (by decide) dL_refuses_701 ?_
          refine j_eq ((congrFun (S44.1 25 (by decide) (by decide) (by decide)) 0).trans hn0) ?_
          refine j_iremN Z (a := (one + 1)) (b := cnt) dL_refuses_702 rfl (by omega) (by omega) (by omega) ?_
          refine j_eq (congrArg nI eot) ?_
          refine j_istore Z dL_refuses_703 (by decide) [(8, .int (nI oth)), (6, .int 1), (7, .int (nI one)), (5, .int u), (4, .int w), (3, .int v), (0, .ref (g.2.1 0)), (1, .ref (g.2.1 25)), (2, .int (nI a))] rfl ?_
          have JC : ∀ (μY : gM), Sc cnt μ μY → J p l e { frames := 10, cells := 204, slots := 1224, locals := 181 } s m args below meth c Q g 10 μY (173) (1038) 771 [(6, .int 1), (8, .int (nI oth)), (7, .int (nI one)), (5, .int u), (4, .int w), (3, .int v), (0, .ref (g.2.1 0)), (1, .ref (g.2.1 25)), (2, .int (nI a))] [] := by
            intro μY SY
            refine j_aload_n Z dL_refuses_771 6 rfl ?_
            refine j_callVi Z (As := []) (rest := []) (nA := 0) 0 (by decide) rfl rfl (c_X5_today l g μY) gL_refuses_X5_today rfl rfl rfl (by decide +kernel) (by decide) rfl dL_refuses_772 rfl (Nat.le_of_ble_eq_true rfl) (by decide) (fun r45 μ45 hp => ?_)
            obtain ⟨e1, e2⟩ := hp
            refine j_mem e2 ?_
            refine j_eq e1 ?_
            clear e1 e2
            refine j_eq ((congrFun (SY.1 0 (by decide) (by decide) (by decide)) 0).trans ed) ?_
            refine j_istore Z dL_refuses_775 (by decide) [(9, .int (nI dd)), (6, .int 1), (8, .int (nI oth)), (7, .int (nI one)), (5, .int u), (4, .int w), (3, .int v), (0, .ref (g.2.1 0)), (1, .ref (g.2.1 25)), (2, .int (nI a))] rfl ?_
            refine j_iload Z dL_refuses_777 1 rfl ?_
            refine j_if_eq Z 853 dL_refuses_779 (by decide) (fun h => absurd h (by decide)) (fun _ => ?_)
            refine j_aload_n Z dL_refuses_782 7 rfl ?_
            refine j_iload Z dL_refuses_783 3 rfl ?_
            refine j_iload Z dL_refuses_785 0 rfl ?_
            refine j_callSWi Z hN (As := [.ref (g.2.1 0), .int (nI one), .int (nI dd)]) (rest := []) (nA := 3) (c_L_counts l hst g μY cnt lc wc (I.sc SY).1 (nI one) (nI dd)) gL_refuses_L_counts rfl rfl rfl (by decide +kernel) (by decide) rfl dL_refuses_787 rfl (Nat.le_of_ble_eq_true rfl) (by decide) (fun r46 μ46 hp => ?_)
            have S46 := (n_counts I SY hp).1
            have e46 := (n_counts I SY hp).2.2.2 (hone) (hday)
            clear hp
            refine j_eq (y := zB (fStand μ one (nI dd))) (e46.trans (by rw [ix_nI (by omega)])) ?_
            clear e46
            refine j_iconst Z (v := 1) dL_refuses_790 (by decide) ?_
            refine j_icmp_eq Z 849 dL_refuses_791 (by decide) (fun h791 => ?_) (fun h791 => ?_)
            · skip
              refine j_iconst Z (v := 1) dL_refuses_849 (by decide) ?_
              refine j_goto Z 854 dL_refuses_850 (by decide) ?_
              refine j_istore Z dL_refuses_854 (by decide) [(6, .int 1), (9, .int (nI dd)), (8, .int (nI oth)), (7, .int (nI one)), (5, .int u), (4, .int w), (3, .int v), (0, .ref (g.2.1 0)), (1, .ref (g.2.1 25)), (2, .int (nI a))] rfl ?_
              exact j_sub [0, 4, 5, 6, 7, 8, 9] rfl (j_wide (k' := 200) (n' := 1200) (by decide) (by decide) (JB _ S46))
            · skip
              have hs : fStand μ (ix (nI one)) (nI dd) = false := by rw [ix_nI (by omega)]; exact zB_no1 h791
              refine j_aload_n Z dL_refuses_794 7 rfl ?_
              refine j_iload Z dL_refuses_795 3 rfl ?_
              refine j_iload Z dL_refuses_797 0 rfl ?_
              refine j_callSWi Z hN (As := [.ref (g.2.1 0), .int (nI one), .int (nI dd)]) (rest := []) (nA := 3) (c_L_thing l hst g μ46 cnt lc wc (I.sc S46).1 (nI one) (nI dd)) gL_refuses_L_thing rfl rfl rfl (by decide +kernel) (by decide) rfl dL_refuses_799 rfl (Nat.le_of_ble_eq_true rfl) (by decide) (fun r47 μ47 hp => ?_)
              have S47 := (n_thing I S46 hp).1
              have e47 := (n_thing I S46 hp).2.2.2.1 (hone) (hday) (hs)
              clear hp
              refine j_eq e47 ?_
              clear e47
              refine j_ldc Z mwL_refuses_k53 dL_refuses_802 ?_
              refine j_icmp_ne Z 853 dL_refuses_804 (by decide) (fun h => absurd rfl h) (fun _ => ?_)
              refine j_aload_n Z dL_refuses_807 7 rfl ?_
              refine j_iload Z dL_refuses_808 3 rfl ?_
              refine j_iconst Z (v := 0) dL_refuses_810 (by decide) ?_
              refine j_iload Z dL_refuses_811 0 rfl ?_
              refine j_callSWi Z hN (As := [.ref (g.2.1 0), .int (nI one), .int 0, .int (nI dd)]) (rest := []) (nA := 4) (c_L_value l hst g μ47 cnt lc wc (I.sc S47).1 (nI one) 0 (nI dd)) gL_refuses_L_value rfl rfl rfl (by decide +kernel) (by decide) rfl dL_refuses_813 rfl (Nat.le_of_ble_eq_true rfl) (by decide) (fun r48 μ48 hp => ?_)
              have S48 := (n_value I S47 hp).1
              have e48 := (n_value I S47 hp).2.2.2.1 (hone) (and2t (by decide) hday) (hs)
              clear hp
              refine j_eq e48 ?_
              clear e48
              refine j_ldc Z mwL_refuses_k53 dL_refuses_816 ?_
              refine j_icmp_ne Z 853 dL_refuses_818 (by decide) (fun h => absurd rfl h) (fun _ => ?_)
              refine j_aload_n Z dL_refuses_821 7 rfl ?_
              refine j_iload Z dL_refuses_822 3 rfl ?_
              refine j_iload Z dL_refuses_824 0 rfl ?_
              refine j_callSWi Z hN (As := [.ref (g.2.1 0), .int (nI one), .int (nI dd)]) (rest := []) (nA := 3) (c_L_impact l hst g μ48 cnt lc wc (I.sc S48).1 (nI one) (nI dd)) gL_refuses_L_impact rfl rfl rfl (by decide +kernel) (by decide) rfl dL_refuses_826 rfl (Nat.le_of_ble_eq_true rfl) (by decide) (fun r49 μ49 hp => ?_)
              have S49 := (n_impact I S48 hp).1
              have e49 := (n_impact I S48 hp).2.2.2.1 (hone) (hday) (hs)
              clear hp
              refine j_eq e49 ?_
              clear e49
              refine j_ldc Z mwL_refuses_k53 dL_refuses_829 ?_
              refine j_icmp_ne Z 853 dL_refuses_831 (by decide) (fun h => absurd rfl h) (fun _ => ?_)
              refine j_aload_n Z dL_refuses_834 7 rfl ?_
              refine j_iload Z dL_refuses_835 3 rfl ?_
              refine j_iload Z dL_refuses_837 3 rfl ?_
              refine j_iload Z dL_refuses_839 0 rfl ?_
              refine j_callSWi Z hN (As := [.ref (g.2.1 0), .int (nI one), .int (nI one), .int (nI dd)]) (rest := []) (nA := 4) (c_L_fails l hst g μ49 cnt lc wc (I.sc S49).1 (nI one) (nI one) (nI dd)) gL_refuses_L_fails rfl rfl rfl (by decide +kernel) (by decide) rfl dL_refuses_841 rfl (Nat.le_of_ble_eq_true rfl) (by decide) (fun r50 μ50 hp => ?_)
              have S50 := (n_fails I S49 hp).1
              have e50 := (n_fails I S49 hp).2.2.2.1 (and2t hone hone) (hday) (and2 (Or.inl hs))
              clear hp
              refine j_eq e50 ?_
              clear e50
              refine j_ldc Z mwL_refuses_k53 dL_refuses_844 ?_
              refine j_icmp_ne Z 853 dL_refuses_846 (by decide) (fun h => absurd rfl h) (fun _ => ?_)
              refine j_iconst Z (v := 1) dL_refuses_849 (by decide) ?_
              refine j_goto Z 854 dL_refuses_850 (by decide) ?_
              refine j_istore Z dL_refuses_854 (by decide) [(6, .int 1), (9, .int (nI dd)), (8, .int (nI oth)), (7, .int (nI one)), (5, .int u), (4, .int w), (3, .int v), (0, .ref (g.2.1 0)), (1, .ref (g.2.1 25)), (2, .int (nI a))] rfl ?_
              exact j_sub [0, 4, 5, 6, 7, 8, 9] rfl (j_wide (k' := 200) (n' := 1200) (by decide) (by decide) (JB _ S50))
          refine j_iload Z dL_refuses_705 1 rfl ?_
          refine j_if_eq Z 768 dL_refuses_707 (by decide) (fun h => absurd h (by decide)) (fun _ => ?_)
          refine j_iload Z dL_refuses_710 0 rfl ?_
          refine j_iload Z dL_refuses_712 2 rfl ?_
          refine j_icmp_eq Z 764 dL_refuses_714 (by decide) (fun h714 => ?_) (fun h714 => ?_)
          · skip
            refine j_iconst Z (v := 1) dL_refuses_764 (by decide) ?_
            refine j_goto Z 769 dL_refuses_765 (by decide) ?_
            refine j_istore Z dL_refuses_769 (by decide) [(6, .int 1), (8, .int (nI oth)), (7, .int (nI one)), (5, .int u), (4, .int w), (3, .int v), (0, .ref (g.2.1 0)), (1, .ref (g.2.1 25)), (2, .int (nI a))] rfl ?_
            exact j_sub [0, 1, 2, 3, 4, 5, 6, 7, 8] rfl (j_wide (k' := 173) (n' := 1038) (by decide) (by decide) (JC _ S44))
          · skip
            refine j_aload_n Z dL_refuses_717 6 rfl ?_
            refine j_iload Z dL_refuses_718 2 rfl ?_
            refine j_iload Z dL_refuses_720 0 rfl ?_
            refine j_iconst Z (v := 3) dL_refuses_722 (by decide) ?_
            refine j_iload_n Z dL_refuses_723 8 rfl ?_
            refine j_iadd Z dL_refuses_724 ?_
            refine j_eq (nI_add 3 a) ?_
            refine j_callSWi Z hN (As := [.ref (g.2.1 0), .int (nI one), .int (nI oth), .int (nI (3 + a))]) (rest := []) (nA := 4) (c_L_tells l hst g μ44 cnt lc wc (I.sc S44).1 (nI one) (nI oth) (nI (3 + a))) gL_refuses_L_tells rfl rfl rfl (by decide +kernel) (by decide) rfl dL_refuses_725 rfl (Nat.le_of_ble_eq_true rfl) (by decide) (fun r51 μ51 hp => ?_)
            obtain ⟨e51, S51⟩ := (n_tells I S44 hp).2 (and2t hone hoth) (and2 (Or.inr (inB_hi (m := 2) (by decide) (by omega) (by omega))))
            clear hp
            refine j_eq e51 ?_
            clear e51
            refine j_ldc Z mwL_refuses_k15 dL_refuses_728 ?_
            refine j_icmp_ne Z 768 dL_refuses_730 (by decide) (fun h => absurd rfl h) (fun _ => ?_)
            refine j_aload_n Z dL_refuses_733 6 rfl ?_
            refine j_iload Z dL_refuses_734 2 rfl ?_
            refine j_iload Z dL_refuses_736 0 rfl ?_
            refine j_iconst Z (v := -1) dL_refuses_738 (by decide) ?_
            refine j_iload_n Z dL_refuses_739 8 rfl ?_
            refine j_isub Z dL_refuses_740 ?_
            refine j_callSWi Z hN (As := [.ref (g.2.1 0), .int (nI one), .int (nI oth), .int ((-1) - (nI a))]) (rest := []) (nA := 4) (c_L_tells l hst g μ51 cnt lc wc (I.sc S51).1 (nI one) (nI oth) ((-1) - (nI a))) gL_refuses_L_tells rfl rfl rfl (by decide +kernel) (by decide) rfl dL_refuses_741 rfl (Nat.le_of_ble_eq_true rfl) (by decide) (fun r52 μ52 hp => ?_)
            obtain ⟨e52, S52⟩ := (n_tells I S51 hp).2 (and2t hone hoth) (and2 (Or.inr (inB_f1 (ng1 (by omega)))))
            clear hp
            refine j_eq e52 ?_
            clear e52
            refine j_ldc Z mwL_refuses_k15 dL_refuses_744 ?_
            refine j_icmp_ne Z 768 dL_refuses_746 (by decide) (fun h => absurd rfl h) (fun _ => ?_)
            refine j_aload_n Z dL_refuses_749 6 rfl ?_
            refine j_iload Z dL_refuses_750 2 rfl ?_
            refine j_iload Z dL_refuses_752 0 rfl ?_
            refine j_iload Z dL_refuses_754 4 rfl ?_
            refine j_callSWi Z hN (As := [.ref (g.2.1 0), .int (nI one), .int (nI oth), .int w]) (rest := []) (nA := 4) (c_L_links l hst g μ52 cnt lc wc (I.sc S52).1 (nI one) (nI oth) w) gL_refuses_L_links rfl rfl rfl (by decide +kernel) (by decide) rfl dL_refuses_756 rfl (Nat.le_of_ble_eq_true rfl) (by decide) (fun r53 μ53 hp => ?_)
            obtain ⟨e53, S53⟩ := (n_links I S52 hp).2.1 (and2t hone hoth) (and2 (Or.inr hw))
            clear hp
            refine j_eq e53 ?_
            clear e53
            refine j_ldc Z mwL_refuses_k15 dL_refuses_759 ?_
            refine j_icmp_ne Z 768 dL_refuses_761 (by decide) (fun h => absurd rfl h) (fun _ => ?_)
            refine j_iconst Z (v := 1) dL_refuses_764 (by decide) ?_
            refine j_goto Z 769 dL_refuses_765 (by decide) ?_
            refine j_istore Z dL_refuses_769 (by decide) [(6, .int 1), (8, .int (nI oth)), (7, .int (nI one)), (5, .int u), (4, .int w), (3, .int v), (0, .ref (g.2.1 0)), (1, .ref (g.2.1 25)), (2, .int (nI a))] rfl ?_
            exact j_sub [0, 1, 2, 3, 4, 5, 6, 7, 8] rfl (j_wide (k' := 173) (n' := 1038) (by decide) (by decide) (JC _ S53))
      refine j_iload_n Z dL_refuses_47 4 rfl ?_
      refine j_iconst Z (v := 2) dL_refuses_48 (by decide) ?_
      refine j_iremN Z (a := a) (b := 2) dL_refuses_49 (by decide) (by omega) (by omega) (by omega) ?_
      refine j_if_ne Z 62 dL_refuses_50 (by decide) (fun h50 => ?_) (fun h50 => ?_)
      · skip
        refine j_sipush Z (v := 10000) dL_refuses_62 (by decide) ?_
        refine j_iload_n Z dL_refuses_65 4 rfl ?_
        refine j_iadd Z dL_refuses_66 ?_
        refine j_eq (nI_add 10000 a) ?_
        exact J67 _ (inB_hi (m := 9999) (by decide) (by omega) (by omega))
      · skip
        refine j_iconst Z (v := -1) dL_refuses_53 (by decide) ?_
        refine j_iload_n Z dL_refuses_54 4 rfl ?_
        refine j_bipush Z (v := 50) dL_refuses_55 (by decide) ?_
        refine j_iremN Z (a := a) (b := 50) dL_refuses_57 (by decide) (by omega) (by omega) (by omega) ?_
        refine j_isub Z dL_refuses_58 ?_
        refine j_goto Z 67 dL_refuses_59 (by decide) ?_
        exact J67 _ (inB_f1 (ng1 (by omega)))
    refine j_iload_n Z dL_refuses_24 3 rfl ?_
    refine j_iconst Z (v := 2) dL_refuses_25 (by decide) ?_
    refine j_iremN Z (a := a) (b := 2) dL_refuses_26 (by decide) (by omega) (by omega) (by omega) ?_
    refine j_if_ne Z 39 dL_refuses_27 (by decide) (fun h27 => ?_) (fun h27 => ?_)
    · skip
      refine j_iconst Z (v := 4) dL_refuses_39 (by decide) ?_
      refine j_iload_n Z dL_refuses_40 3 rfl ?_
      refine j_bipush Z (v := 50) dL_refuses_41 (by decide) ?_
      refine j_iremN Z (a := a) (b := 50) dL_refuses_43 (by decide) (by omega) (by omega) (by omega) ?_
      refine j_iadd Z dL_refuses_44 ?_
      refine j_eq (nI_add 4 (a % 50)) ?_
      exact J45 _ (inB_hi (m := 3) (by decide) (by omega) (by omega))
    · skip
      refine j_iconst Z (v := -1) dL_refuses_30 (by decide) ?_
      refine j_iload_n Z dL_refuses_31 3 rfl ?_
      refine j_bipush Z (v := 50) dL_refuses_32 (by decide) ?_
      refine j_iremN Z (a := a) (b := 50) dL_refuses_34 (by decide) (by omega) (by omega) (by omega) ?_
      refine j_isub Z dL_refuses_35 ?_
      refine j_goto Z 45 dL_refuses_36 (by decide) ?_
      exact J45 _ (inB_f1 (ng1 (by omega)))
  refine j_iload_n Z dL_refuses_0 2 rfl ?_
  refine j_iconst Z (v := 2) dL_refuses_1 (by decide) ?_
  refine j_iremN Z (a := a) (b := 2) dL_refuses_2 (by decide) (by omega) (by omega) (by omega) ?_
  refine j_if_ne Z 15 dL_refuses_3 (by decide) (fun h3 => ?_) (fun h3 => ?_)
  · skip
    refine j_aload_n Z dL_refuses_15 1 rfl ?_
    refine j_iconst Z (v := 0) dL_refuses_16 (by decide) ?_
    refine j_ild Z 25 (by decide) (fun _ => rfl) 0 (by decide) (by decide) (by decide) dL_refuses_17 ?_
    refine j_eq ((congrFun (S0.1 25 (by decide) (by decide) (by decide)) 0).trans hn0) ?_
    refine j_iload_n Z dL_refuses_18 2 rfl ?_
    refine j_bipush Z (v := 50) dL_refuses_19 (by decide) ?_
    refine j_iremN Z (a := a) (b := 50) dL_refuses_21 (by decide) (by omega) (by omega) (by omega) ?_
    refine j_iadd Z dL_refuses_22 ?_
    refine j_eq (nI_add cnt (a % 50)) ?_
    exact J23 _ (fndB_hi (by omega) (by omega))
  · skip
    refine j_iconst Z (v := -1) dL_refuses_6 (by decide) ?_
    refine j_iload_n Z dL_refuses_7 2 rfl ?_
    refine j_bipush Z (v := 50) dL_refuses_8 (by decide) ?_
    refine j_iremN Z (a := a) (b := 50) dL_refuses_10 (by decide) (by omega) (by omega) (by omega) ?_
    refine j_isub Z dL_refuses_11 ?_
    refine j_goto Z 23 dL_refuses_12 (by decide) ?_
    exact J23 _ (fndB_f1 (ng1 (by omega)))
