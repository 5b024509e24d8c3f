set_option maxRecDepth 100000 in
set_option maxHeartbeats 8000000 in
theorem c_L_act (l : Launch) (hst : l.stackTraces = false) (g : gC) (μ : gM) (cnt lc wc a : Nat) (I : I1 μ cnt lc wc) (hn0 : μ 25 0 = nI cnt) (hn2 : μ 25 2 = nI wc) (ha : a < 2 ^ 31) : Met l yL_act wsL_act { frames := 10, cells := 7, slots := 42, locals := 181 } (va_Pc [.ref (g.2.1 0), .ref (g.2.1 25), .int (nI a)] (gBW g μ)) (va_Qi (fun (r : Int32) (μ' : gM) => r = actR μ cnt lc wc a ∧ μ' = actM μ cnt lc wc a) (gPB g) (gA g)) 7 42 (gA g) := by
  refine g_oB (cc := cL_act) (nL := 6) (ret := (some .int)) (ty := .int) (by decide +kernel) rfl rfl (fun _ _ _ => rfl) (Nat.le_of_ble_eq_true rfl) ?_
  intro p e s m args below meth c Q Z hN hR
  have S0 := I.rf
  have h60 := I.c60
  have hwc : wc ≤ 20 := I.1.2.2.2.2.1
  refine j_iload_n Z dL_act_0 2 rfl ?_
  refine j_bipush Z (v := 16) dL_act_1 (by decide) ?_
  refine j_idivN Z (a := a) (b := 16) dL_act_3 (by decide) (by omega) (by omega) (by omega) ?_
  refine j_istore_n Z dL_act_4 (by decide) [(3, .int (nI (a / 16))), (0, .ref (g.2.1 0)), (1, .ref (g.2.1 25)), (2, .int (nI a))] rfl ?_
  have J20 : J p l e { frames := 10, cells := 7, slots := 42, locals := 181 } s m args below meth c Q g 6 μ (0) (0) 20 [(3, .int (nI (a / 16))), (0, .ref (g.2.1 0)), (1, .ref (g.2.1 25)), (2, .int (nI a))] [.int (nI (aOne cnt (a / 16)))] := by
    refine j_istore Z dL_act_20 (by decide) [(4, .int (nI (aOne cnt (a / 16)))), (3, .int (nI (a / 16))), (0, .ref (g.2.1 0)), (1, .ref (g.2.1 25)), (2, .int (nI a))] rfl ?_
    have J40 : J p l e { frames := 10, cells := 7, slots := 42, locals := 181 } s m args below meth c Q g 6 μ (0) (0) 40 [(4, .int (nI (aOne cnt (a / 16)))), (3, .int (nI (a / 16))), (0, .ref (g.2.1 0)), (1, .ref (g.2.1 25)), (2, .int (nI a))] [.int (nI (aOne cnt (a / 16 / 24)))] := by
      refine j_istore Z dL_act_40 (by decide) [(5, .int (nI (aOne cnt (a / 16 / 24)))), (4, .int (nI (aOne cnt (a / 16)))), (3, .int (nI (a / 16))), (0, .ref (g.2.1 0)), (1, .ref (g.2.1 25)), (2, .int (nI a))] rfl ?_
      refine j_iload_n Z dL_act_42 5 rfl ?_
      refine j_bipush Z (v := 16) dL_act_43 (by decide) ?_
      refine j_iremN Z (a := a) (b := 16) dL_act_45 (by decide) (by omega) (by omega) (by omega) ?_
      have KA : a % 16 < 6 → J p l e { frames := 10, cells := 7, slots := 42, locals := 181 } s m args below meth c Q g 6 μ (0) (0) 120 [(5, .int (nI (aOne cnt (a / 16 / 24)))), (4, .int (nI (aOne cnt (a / 16)))), (3, .int (nI (a / 16))), (0, .ref (g.2.1 0)), (1, .ref (g.2.1 25)), (2, .int (nI a))] [] := by
        intro hq
        refine j_aload_n Z dL_act_120 3 rfl ?_
        refine j_iload_n Z dL_act_121 2 rfl ?_
        refine j_iconst Z (v := 4) dL_act_122 (by decide) ?_
        refine j_iremN Z (a := (a / 16)) (b := 4) dL_act_123 (by decide) (by omega) (by omega) (by omega) ?_
        have J144 : J p l e { frames := 10, cells := 7, slots := 42, locals := 181 } s m args below meth c Q g 6 μ (0) (0) 144 [(5, .int (nI (aOne cnt (a / 16 / 24)))), (4, .int (nI (aOne cnt (a / 16)))), (3, .int (nI (a / 16))), (0, .ref (g.2.1 0)), (1, .ref (g.2.1 25)), (2, .int (nI a))] [.int (aSer (a / 16)), .int (nI ((a / 16) % 4)), .ref (g.2.1 0)] := by
          refine j_iload_n Z dL_act_144 2 rfl ?_
          refine j_bipush Z (v := 48) dL_act_145 (by decide) ?_
          refine j_idivN Z (a := (a / 16)) (b := 48) dL_act_147 (by decide) (by omega) (by omega) (by omega) ?_
          refine j_iconst Z (v := 4) dL_act_148 (by decide) ?_
          refine j_iremN Z (a := ((a / 16) / 48)) (b := 4) dL_act_149 (by decide) (by omega) (by omega) (by omega) ?_
          refine j_iload_n Z dL_act_150 2 rfl ?_
          refine j_sipush Z (v := 192) dL_act_151 (by decide) ?_
          refine j_idivN Z (a := (a / 16)) (b := 192) dL_act_154 (by decide) (by omega) (by omega) (by omega) ?_
          refine j_iconst Z (v := 3) dL_act_155 (by decide) ?_
          refine j_iremN Z (a := ((a / 16) / 192)) (b := 3) dL_act_156 (by decide) (by omega) (by omega) (by omega) ?_
          refine j_iload_n Z dL_act_157 2 rfl ?_
          refine j_sipush Z (v := 576) dL_act_158 (by decide) ?_
          refine j_idivN Z (a := (a / 16)) (b := 576) dL_act_161 (by decide) (by omega) (by omega) (by omega) ?_
          refine j_iconst Z (v := 5) dL_act_162 (by decide) ?_
          refine j_iremN Z (a := ((a / 16) / 576)) (b := 5) dL_act_163 (by decide) (by omega) (by omega) (by omega) ?_
          refine j_iconst Z (v := 1) dL_act_164 (by decide) ?_
          refine j_isub Z dL_act_165 ?_
          refine j_iload_n Z dL_act_166 2 rfl ?_
          refine j_sipush Z (v := 2880) dL_act_167 (by decide) ?_
          refine j_idivN Z (a := (a / 16)) (b := 2880) dL_act_170 (by decide) (by omega) (by omega) (by omega) ?_
          refine j_iconst Z (v := 3) dL_act_171 (by decide) ?_
          refine j_iremN Z (a := ((a / 16) / 2880)) (b := 3) dL_act_172 (by decide) (by omega) (by omega) (by omega) ?_
          refine j_iconst Z (v := 1) dL_act_173 (by decide) ?_
          refine j_isub Z dL_act_174 ?_
          refine j_callSWi Z hN (As := [.ref (g.2.1 0), .int (nI ((a / 16) % 4)), .int (aSer (a / 16)), .int (nI (((a / 16) / 48) % 4)), .int (nI (((a / 16) / 192) % 3)), .int ((nI (((a / 16) / 576) % 5)) - 1), .int ((nI (((a / 16) / 2880) % 3)) - 1)]) (rest := []) (nA := 7) (c_L_finds l hst g μ cnt lc wc (I.sc S0).1 (nI ((a / 16) % 4)) (aSer (a / 16)) (nI (((a / 16) / 48) % 4)) (nI (((a / 16) / 192) % 3)) ((nI (((a / 16) / 576) % 5)) - 1) ((nI (((a / 16) / 2880) % 3)) - 1)) gL_act_L_finds rfl rfl rfl (by decide +kernel) (by decide) rfl dL_act_175 rfl (Nat.le_of_ble_eq_true rfl) (by decide) (fun r1 μ1 hp => ?_)
          obtain ⟨e1, e2⟩ := x_finds (cnt := cnt) (lc := lc) (wc := wc) hp
          clear hp
          refine j_mem e2 ?_
          refine j_eq e1 ?_
          clear e1 e2
          exact hR _ _ _ _ _ _ (⟨by unfold actR; rw [if_pos hq], by unfold actM; rw [if_pos hq]⟩) (by decide) (by decide) dL_act_178
        refine j_iload_n Z dL_act_124 2 rfl ?_
        refine j_iconst Z (v := 4) dL_act_125 (by decide) ?_
        refine j_idivN Z (a := (a / 16)) (b := 4) dL_act_126 (by decide) (by omega) (by omega) (by omega) ?_
        refine j_iconst Z (v := 3) dL_act_127 (by decide) ?_
        refine j_iremN Z (a := ((a / 16) / 4)) (b := 3) dL_act_128 (by decide) (by omega) (by omega) (by omega) ?_
        refine j_if_ne Z 143 dL_act_129 (by decide) (fun h129 => ?_) (fun h129 => ?_)
        · skip
          refine j_iconst Z (v := 0) dL_act_143 (by decide) ?_
          refine j_eq (y := aSer (a / 16)) (by unfold aSer; rw [if_neg (fun q => h129 (by rw [q]; rfl))]) ?_
          exact J144
        · skip
          refine j_iconst Z (v := 1) dL_act_132 (by decide) ?_
          refine j_iload_n Z dL_act_133 2 rfl ?_
          refine j_bipush Z (v := 12) dL_act_134 (by decide) ?_
          refine j_idivN Z (a := (a / 16)) (b := 12) dL_act_136 (by decide) (by omega) (by omega) (by omega) ?_
          refine j_iconst Z (v := 4) dL_act_137 (by decide) ?_
          refine j_iremN Z (a := ((a / 16) / 12)) (b := 4) dL_act_138 (by decide) (by omega) (by omega) (by omega) ?_
          refine j_iadd Z dL_act_139 ?_
          refine j_eq (nI_add 1 (((a / 16) / 12) % 4)) ?_
          refine j_goto Z 144 dL_act_140 (by decide) ?_
          refine j_eq (y := aSer (a / 16)) (by unfold aSer; rw [if_pos (nI_z0 (by omega) h129)]) ?_
          exact J144
      have KB : ¬ a % 16 < 6 ∧ a % 16 < 8 → J p l e { frames := 10, cells := 7, slots := 42, locals := 181 } s m args below meth c Q g 6 μ (0) (0) 179 [(5, .int (nI (aOne cnt (a / 16 / 24)))), (4, .int (nI (aOne cnt (a / 16)))), (3, .int (nI (a / 16))), (0, .ref (g.2.1 0)), (1, .ref (g.2.1 25)), (2, .int (nI a))] [] := by
        intro hq
        refine j_aload_n Z dL_act_179 3 rfl ?_
        refine j_iconst Z (v := 1) dL_act_180 (by decide) ?_
        refine j_iload_n Z dL_act_181 2 rfl ?_
        refine j_bipush Z (v := 15) dL_act_182 (by decide) ?_
        refine j_iremN Z (a := (a / 16)) (b := 15) dL_act_184 (by decide) (by omega) (by omega) (by omega) ?_
        refine j_iadd Z dL_act_185 ?_
        refine j_eq (nI_add 1 ((a / 16) % 15)) ?_
        refine j_callSWi Z hN (As := [.ref (g.2.1 0), .int (nI (1 + ((a / 16) % 15)))]) (rest := []) (nA := 2) (c_L_passes l hst g μ cnt lc wc (I.sc S0).1 (nI (1 + ((a / 16) % 15)))) gL_act_L_passes rfl rfl rfl (by decide +kernel) (by decide) rfl dL_act_186 rfl (Nat.le_of_ble_eq_true rfl) (by decide) (fun r2 μ2 hp => ?_)
        obtain ⟨e1, e2⟩ := x_passes (cnt := cnt) (lc := lc) (wc := wc) hp
        clear hp
        refine j_mem e2 ?_
        refine j_eq e1 ?_
        clear e1 e2
        exact hR _ _ _ _ _ _ (⟨by unfold actR; rw [if_neg (by omega), if_pos (by omega)], by unfold actM; rw [if_neg (by omega), if_pos (by omega)]⟩) (by decide) (by decide) dL_act_189
      have KC : a % 16 = 8 → J p l e { frames := 10, cells := 7, slots := 42, locals := 181 } s m args below meth c Q g 6 μ (0) (0) 190 [(5, .int (nI (aOne cnt (a / 16 / 24)))), (4, .int (nI (aOne cnt (a / 16)))), (3, .int (nI (a / 16))), (0, .ref (g.2.1 0)), (1, .ref (g.2.1 25)), (2, .int (nI a))] [] := by
        intro hq
        refine j_aload_n Z dL_act_190 3 rfl ?_
        refine j_iload_n Z dL_act_191 2 rfl ?_
        refine j_iconst Z (v := 4) dL_act_192 (by decide) ?_
        refine j_iremN Z (a := (a / 16)) (b := 4) dL_act_193 (by decide) (by omega) (by omega) (by omega) ?_
        refine j_iconst Z (v := 1) dL_act_194 (by decide) ?_
        refine j_iload_n Z dL_act_195 2 rfl ?_
        refine j_iconst Z (v := 4) dL_act_196 (by decide) ?_
        refine j_idivN Z (a := (a / 16)) (b := 4) dL_act_197 (by decide) (by omega) (by omega) (by omega) ?_
        refine j_bipush Z (v := 80) dL_act_198 (by decide) ?_
        refine j_iremN Z (a := ((a / 16) / 4)) (b := 80) dL_act_200 (by decide) (by omega) (by omega) (by omega) ?_
        refine j_iadd Z dL_act_201 ?_
        refine j_eq (nI_add 1 (((a / 16) / 4) % 80)) ?_
        refine j_callSWi Z hN (As := [.ref (g.2.1 0), .int (nI ((a / 16) % 4)), .int (nI (1 + (((a / 16) / 4) % 80)))]) (rest := []) (nA := 3) (c_L_terms l hst g μ cnt lc wc (I.sc S0).1 (nI ((a / 16) % 4)) (nI (1 + (((a / 16) / 4) % 80)))) gL_act_L_terms rfl rfl rfl (by decide +kernel) (by decide) rfl dL_act_202 rfl (Nat.le_of_ble_eq_true rfl) (by decide) (fun r3 μ3 hp => ?_)
        obtain ⟨e1, e2⟩ := x_terms (cnt := cnt) (lc := lc) (wc := wc) hp
        clear hp
        refine j_mem e2 ?_
        refine j_eq e1 ?_
        clear e1 e2
        exact hR _ _ _ _ _ _ (⟨by unfold actR; rw [if_neg (by omega), if_neg (by omega), if_pos (by omega)], by unfold actM; rw [if_neg (by omega), if_neg (by omega), if_pos (by omega)]⟩) (by decide) (by decide) dL_act_205
      have KD : a % 16 = 9 → J p l e { frames := 10, cells := 7, slots := 42, locals := 181 } s m args below meth c Q g 6 μ (0) (0) 206 [(5, .int (nI (aOne cnt (a / 16 / 24)))), (4, .int (nI (aOne cnt (a / 16)))), (3, .int (nI (a / 16))), (0, .ref (g.2.1 0)), (1, .ref (g.2.1 25)), (2, .int (nI a))] [] := by
        intro hq
        refine j_aload_n Z dL_act_206 3 rfl ?_
        refine j_iload_n Z dL_act_207 2 rfl ?_
        refine j_iconst Z (v := 4) dL_act_208 (by decide) ?_
        refine j_iremN Z (a := (a / 16)) (b := 4) dL_act_209 (by decide) (by omega) (by omega) (by omega) ?_
        refine j_callSWi Z hN (As := [.ref (g.2.1 0), .int (nI ((a / 16) % 4))]) (rest := []) (nA := 2) (c_L_firsts l hst g μ cnt lc wc (I.sc S0).1 (nI ((a / 16) % 4))) gL_act_L_firsts rfl rfl rfl (by decide +kernel) (by decide) rfl dL_act_210 rfl (Nat.le_of_ble_eq_true rfl) (by decide) (fun r4 μ4 hp => ?_)
        obtain ⟨e1, e2⟩ := x_firsts (cnt := cnt) (lc := lc) (wc := wc) hp
        clear hp
        refine j_mem e2 ?_
        refine j_eq e1 ?_
        clear e1 e2
        exact hR _ _ _ _ _ _ (⟨by unfold actR; rw [if_neg (by omega), if_neg (by omega), if_neg (by omega), if_pos (by omega)], by unfold actM; rw [if_neg (by omega), if_neg (by omega), if_neg (by omega), if_pos (by omega)]⟩) (by decide) (by decide) dL_act_213
      have KE : a % 16 = 10 → J p l e { frames := 10, cells := 7, slots := 42, locals := 181 } s m args below meth c Q g 6 μ (0) (0) 214 [(5, .int (nI (aOne cnt (a / 16 / 24)))), (4, .int (nI (aOne cnt (a / 16)))), (3, .int (nI (a / 16))), (0, .ref (g.2.1 0)), (1, .ref (g.2.1 25)), (2, .int (nI a))] [] := by
        intro hq
        refine j_iload_n Z dL_act_214 2 rfl ?_
        refine j_sipush Z (v := 576) dL_act_215 (by decide) ?_
        refine j_idivN Z (a := (a / 16)) (b := 576) dL_act_218 (by decide) (by omega) (by omega) (by omega) ?_
        refine j_iconst Z (v := 3) dL_act_219 (by decide) ?_
        refine j_iremN Z (a := ((a / 16) / 576)) (b := 3) dL_act_220 (by decide) (by omega) (by omega) (by omega) ?_
        refine j_if_ne Z 233 dL_act_221 (by decide) (fun h221 => ?_) (fun h221 => ?_)
        · skip
          refine j_aload_n Z dL_act_233 3 rfl ?_
          refine j_callVi Z (As := []) (rest := []) (nA := 0) 0 (by decide) rfl rfl (c_X5_today l g μ) gL_act_X5_today rfl rfl rfl (by decide +kernel) (by decide) rfl dL_act_234 rfl (Nat.le_of_ble_eq_true rfl) (by decide) (fun r5 μ5 hp => ?_)
          obtain ⟨e1, e2⟩ := hp
          refine j_mem e2 ?_
          refine j_eq e1 ?_
          clear e1 e2
          refine j_eq rfl ?_
          exact hR _ _ _ _ _ _ (⟨by unfold actR; rw [if_neg (by omega), if_neg (by omega), if_neg (by omega), if_neg (by omega), if_pos (by omega), if_neg (fun q => h221 (by rw [q]; rfl))], by unfold actM; rw [if_neg (by omega), if_neg (by omega), if_neg (by omega), if_neg (by omega), if_pos (by omega), if_neg (fun q => h221 (by rw [q]; rfl))]⟩) (by decide) (by decide) dL_act_237
        · skip
          refine j_aload_n Z dL_act_224 3 rfl ?_
          refine j_iload Z dL_act_225 1 rfl ?_
          refine j_callSWi Z hN (As := [.ref (g.2.1 0), .int (nI (aOne cnt (a / 16)))]) (rest := []) (nA := 2) (c_L_strikes l hst g μ cnt lc wc (I.sc S0).1 (nI (aOne cnt (a / 16)))) gL_act_L_strikes rfl rfl rfl (by decide +kernel) (by decide) rfl dL_act_227 rfl (Nat.le_of_ble_eq_true rfl) (by decide) (fun r6 μ6 hp => ?_)
          obtain ⟨e1, e2⟩ := x_strikes (cnt := cnt) (lc := lc) (wc := wc) hp
          clear hp
          refine j_mem e2 ?_
          refine j_eq e1 ?_
          clear e1 e2
          refine j_goto Z 237 dL_act_230 (by decide) ?_
          exact hR _ _ _ _ _ _ (⟨by unfold actR; rw [if_neg (by omega), if_neg (by omega), if_neg (by omega), if_neg (by omega), if_pos (by omega), if_pos (nI_z0 (by omega) h221)], by unfold actM; rw [if_neg (by omega), if_neg (by omega), if_neg (by omega), if_neg (by omega), if_pos (by omega), if_pos (nI_z0 (by omega) h221)]⟩) (by decide) (by decide) dL_act_237
      have KF : ¬ a % 16 < 11 ∧ a % 16 < 13 → J p l e { frames := 10, cells := 7, slots := 42, locals := 181 } s m args below meth c Q g 6 μ (0) (0) 238 [(5, .int (nI (aOne cnt (a / 16 / 24)))), (4, .int (nI (aOne cnt (a / 16)))), (3, .int (nI (a / 16))), (0, .ref (g.2.1 0)), (1, .ref (g.2.1 25)), (2, .int (nI a))] [] := by
        intro hq
        refine j_aload_n Z dL_act_238 3 rfl ?_
        refine j_iload Z dL_act_239 1 rfl ?_
        refine j_iload Z dL_act_241 0 rfl ?_
        refine j_iload_n Z dL_act_243 2 rfl ?_
        refine j_sipush Z (v := 576) dL_act_244 (by decide) ?_
        refine j_idivN Z (a := (a / 16)) (b := 576) dL_act_247 (by decide) (by omega) (by omega) (by omega) ?_
        refine j_iconst Z (v := 3) dL_act_248 (by decide) ?_
        refine j_iremN Z (a := ((a / 16) / 576)) (b := 3) dL_act_249 (by decide) (by omega) (by omega) (by omega) ?_
        refine j_callSWi Z hN (As := [.ref (g.2.1 0), .int (nI (aOne cnt (a / 16))), .int (nI (aOne cnt (a / 16 / 24))), .int (nI (((a / 16) / 576) % 3))]) (rest := []) (nA := 4) (c_L_tells l hst g μ cnt lc wc (I.sc S0).1 (nI (aOne cnt (a / 16))) (nI (aOne cnt (a / 16 / 24))) (nI (((a / 16) / 576) % 3))) gL_act_L_tells rfl rfl rfl (by decide +kernel) (by decide) rfl dL_act_250 rfl (Nat.le_of_ble_eq_true rfl) (by decide) (fun r7 μ7 hp => ?_)
        obtain ⟨e1, e2⟩ := x_tells (cnt := cnt) (lc := lc) (wc := wc) hp
        clear hp
        refine j_mem e2 ?_
        refine j_eq e1 ?_
        clear e1 e2
        exact hR _ _ _ _ _ _ (⟨by unfold actR; rw [if_neg (by omega), if_neg (by omega), if_neg (by omega), if_neg (by omega), if_neg (by omega), if_pos (by omega)], by unfold actM; rw [if_neg (by omega), if_neg (by omega), if_neg (by omega), if_neg (by omega), if_neg (by omega), if_pos (by omega)]⟩) (by decide) (by decide) dL_act_253
      have KG : ¬ a % 16 < 13 ∧ a % 16 < 15 → J p l e { frames := 10, cells := 7, slots := 42, locals := 181 } s m args below meth c Q g 6 μ (0) (0) 254 [(5, .int (nI (aOne cnt (a / 16 / 24)))), (4, .int (nI (aOne cnt (a / 16)))), (3, .int (nI (a / 16))), (0, .ref (g.2.1 0)), (1, .ref (g.2.1 25)), (2, .int (nI a))] [] := by
        intro hq
        refine j_aload_n Z dL_act_254 3 rfl ?_
        refine j_iload Z dL_act_255 1 rfl ?_
        refine j_iload Z dL_act_257 0 rfl ?_
        refine j_iload_n Z dL_act_259 2 rfl ?_
        refine j_sipush Z (v := 576) dL_act_260 (by decide) ?_
        refine j_idivN Z (a := (a / 16)) (b := 576) dL_act_263 (by decide) (by omega) (by omega) (by omega) ?_
        refine j_iconst Z (v := 3) dL_act_264 (by decide) ?_
        refine j_iremN Z (a := ((a / 16) / 576)) (b := 3) dL_act_265 (by decide) (by omega) (by omega) (by omega) ?_
        refine j_callSWi Z hN (As := [.ref (g.2.1 0), .int (nI (aOne cnt (a / 16))), .int (nI (aOne cnt (a / 16 / 24))), .int (nI (((a / 16) / 576) % 3))]) (rest := []) (nA := 4) (c_L_links l hst g μ cnt lc wc (I.sc S0).1 (nI (aOne cnt (a / 16))) (nI (aOne cnt (a / 16 / 24))) (nI (((a / 16) / 576) % 3))) gL_act_L_links rfl rfl rfl (by decide +kernel) (by decide) rfl dL_act_266 rfl (Nat.le_of_ble_eq_true rfl) (by decide) (fun r8 μ8 hp => ?_)
        obtain ⟨e1, e2⟩ := x_links (cnt := cnt) (lc := lc) (wc := wc) hp
        clear hp
        refine j_mem e2 ?_
        refine j_eq e1 ?_
        clear e1 e2
        exact hR _ _ _ _ _ _ (⟨by unfold actR; rw [if_neg (by omega), if_neg (by omega), if_neg (by omega), if_neg (by omega), if_neg (by omega), if_neg (by omega), if_pos (by omega)], by unfold actM; rw [if_neg (by omega), if_neg (by omega), if_neg (by omega), if_neg (by omega), if_neg (by omega), if_neg (by omega), if_pos (by omega)]⟩) (by decide) (by decide) dL_act_269
      have KH : a % 16 = 15 → J p l e { frames := 10, cells := 7, slots := 42, locals := 181 } s m args below meth c Q g 6 μ (0) (0) 270 [(5, .int (nI (aOne cnt (a / 16 / 24)))), (4, .int (nI (aOne cnt (a / 16)))), (3, .int (nI (a / 16))), (0, .ref (g.2.1 0)), (1, .ref (g.2.1 25)), (2, .int (nI a))] [] := by
        intro hq
        refine j_aload_n Z dL_act_270 3 rfl ?_
        refine j_iload_n Z dL_act_271 2 rfl ?_
        refine j_iconst Z (v := 3) dL_act_272 (by decide) ?_
        refine j_iremN Z (a := (a / 16)) (b := 3) dL_act_273 (by decide) (by omega) (by omega) (by omega) ?_
        refine j_iconst Z (v := 1) dL_act_274 (by decide) ?_
        refine j_iload_n Z dL_act_275 2 rfl ?_
        refine j_iconst Z (v := 3) dL_act_276 (by decide) ?_
        refine j_idivN Z (a := (a / 16)) (b := 3) dL_act_277 (by decide) (by omega) (by omega) (by omega) ?_
        refine j_iconst Z (v := 3) dL_act_278 (by decide) ?_
        refine j_iremN Z (a := ((a / 16) / 3)) (b := 3) dL_act_279 (by decide) (by omega) (by omega) (by omega) ?_
        refine j_iadd Z dL_act_280 ?_
        refine j_eq (nI_add 1 (((a / 16) / 3) % 3)) ?_
        refine j_iload_n Z dL_act_281 2 rfl ?_
        refine j_bipush Z (v := 9) dL_act_282 (by decide) ?_
        refine j_idivN Z (a := (a / 16)) (b := 9) dL_act_284 (by decide) (by omega) (by omega) (by omega) ?_
        refine j_iconst Z (v := 2) dL_act_285 (by decide) ?_
        refine j_iremN Z (a := ((a / 16) / 9)) (b := 2) dL_act_286 (by decide) (by omega) (by omega) (by omega) ?_
        refine j_iload_n Z dL_act_287 2 rfl ?_
        refine j_bipush Z (v := 18) dL_act_288 (by decide) ?_
        refine j_idivN Z (a := (a / 16)) (b := 18) dL_act_290 (by decide) (by omega) (by omega) (by omega) ?_
        refine j_iconst Z (v := 4) dL_act_291 (by decide) ?_
        refine j_iremN Z (a := ((a / 16) / 18)) (b := 4) dL_act_292 (by decide) (by omega) (by omega) (by omega) ?_
        refine j_callSWi Z hN (As := [.ref (g.2.1 0), .int (nI ((a / 16) % 3)), .int (nI (1 + (((a / 16) / 3) % 3))), .int (nI (((a / 16) / 9) % 2)), .int (nI (((a / 16) / 18) % 4))]) (rest := []) (nA := 5) (c_L_wishes l hst g μ cnt lc wc (I.sc S0).1 (nI ((a / 16) % 3)) (nI (1 + (((a / 16) / 3) % 3))) (nI (((a / 16) / 9) % 2)) (nI (((a / 16) / 18) % 4))) gL_act_L_wishes rfl rfl rfl (by decide +kernel) (by decide) rfl dL_act_293 rfl (Nat.le_of_ble_eq_true rfl) (by decide) (fun r9 μ9 hp => ?_)
        obtain ⟨e1, e2⟩ := x_wishes (cnt := cnt) (lc := lc) (wc := wc) hp
        clear hp
        refine j_mem e2 ?_
        refine j_eq e1 ?_
        clear e1 e2
        exact hR _ _ _ _ _ _ (⟨by unfold actR; rw [if_neg (by omega), if_neg (by omega), if_neg (by omega), if_neg (by omega), if_neg (by omega), if_neg (by omega), if_neg (by omega)], by unfold actM; rw [if_neg (by omega), if_neg (by omega), if_neg (by omega), if_neg (by omega), if_neg (by omega), if_neg (by omega), if_neg (by omega)]⟩) (by decide) (by decide) dL_act_296
      rcases (show a % 16 = 0 ∨ a % 16 = 1 ∨ a % 16 = 2 ∨ a % 16 = 3 ∨ a % 16 = 4 ∨ a % 16 = 5 ∨ a % 16 = 6 ∨ a % 16 = 7 ∨ a % 16 = 8 ∨ a % 16 = 9 ∨ a % 16 = 10 ∨ a % 16 = 11 ∨ a % 16 = 12 ∨ a % 16 = 13 ∨ a % 16 = 14 ∨ a % 16 = 15 by omega) with h | h | h | h | h | h | h | h | h | h | h | h | h | h | h | h
      · refine j_eq (congrArg nI h) ?_
        exact j_tsIn Z 120 dL_act_46 (by decide) (by decide) rfl (by decide) (KA (by omega))
      · refine j_eq (congrArg nI h) ?_
        exact j_tsIn Z 120 dL_act_46 (by decide) (by decide) rfl (by decide) (KA (by omega))
      · refine j_eq (congrArg nI h) ?_
        exact j_tsIn Z 120 dL_act_46 (by decide) (by decide) rfl (by decide) (KA (by omega))
      · refine j_eq (congrArg nI h) ?_
        exact j_tsIn Z 120 dL_act_46 (by decide) (by decide) rfl (by decide) (KA (by omega))
      · refine j_eq (congrArg nI h) ?_
        exact j_tsIn Z 120 dL_act_46 (by decide) (by decide) rfl (by decide) (KA (by omega))
      · refine j_eq (congrArg nI h) ?_
        exact j_tsIn Z 120 dL_act_46 (by decide) (by decide) rfl (by decide) (KA (by omega))
      · refine j_eq (congrArg nI h) ?_
        exact j_tsIn Z 179 dL_act_46 (by decide) (by decide) rfl (by decide) (KB (by omega))
      · refine j_eq (congrArg nI h) ?_
        exact j_tsIn Z 179 dL_act_46 (by decide) (by decide) rfl (by decide) (KB (by omega))
      · refine j_eq (congrArg nI h) ?_
        exact j_tsIn Z 190 dL_act_46 (by decide) (by decide) rfl (by decide) (KC (by omega))
      · refine j_eq (congrArg nI h) ?_
        exact j_tsIn Z 206 dL_act_46 (by decide) (by decide) rfl (by decide) (KD (by omega))
      · refine j_eq (congrArg nI h) ?_
        exact j_tsIn Z 214 dL_act_46 (by decide) (by decide) rfl (by decide) (KE (by omega))
      · refine j_eq (congrArg nI h) ?_
        exact j_tsIn Z 238 dL_act_46 (by decide) (by decide) rfl (by decide) (KF (by omega))
      · refine j_eq (congrArg nI h) ?_
        exact j_tsIn Z 238 dL_act_46 (by decide) (by decide) rfl (by decide) (KF (by omega))
      · refine j_eq (congrArg nI h) ?_
        exact j_tsIn Z 254 dL_act_46 (by decide) (by decide) rfl (by decide) (KG (by omega))
      · refine j_eq (congrArg nI h) ?_
        exact j_tsIn Z 254 dL_act_46 (by decide) (by decide) rfl (by decide) (KG (by omega))
      · refine j_eq (congrArg nI h) ?_
        exact j_tsOut Z 270 dL_act_46 (by decide) (by decide) (KH (by omega))
    refine j_aload_n Z dL_act_22 3 rfl ?_
    refine j_iconst Z (v := 0) dL_act_23 (by decide) ?_
    refine j_ild Z 25 (by decide) (fun _ => rfl) 0 (by decide) (by decide) (by decide) dL_act_24 ?_
    refine j_eq ((congrFun (S0.1 25 (by decide) (by decide) (by decide)) 0).trans hn0) ?_
    refine j_if_ne Z 32 dL_act_25 (by decide) (fun h25 => ?_) (fun h25 => ?_)
    · skip
      have hc0 := nI_n0 h25
      refine j_iload_n Z dL_act_32 1 rfl ?_
      refine j_bipush Z (v := 24) dL_act_33 (by decide) ?_
      refine j_idivN Z (a := (a / 16)) (b := 24) dL_act_35 (by decide) (by omega) (by omega) (by omega) ?_
      refine j_aload_n Z dL_act_36 3 rfl ?_
      refine j_iconst Z (v := 0) dL_act_37 (by decide) ?_
      refine j_ild Z 25 (by decide) (fun _ => rfl) 0 (by decide) (by decide) (by decide) dL_act_38 ?_
      refine j_eq ((congrFun (S0.1 25 (by decide) (by decide) (by decide)) 0).trans hn0) ?_
      refine j_iremN Z (a := ((a / 16) / 24)) (b := cnt) dL_act_39 rfl (by omega) (by omega) (by omega) ?_
      refine j_eq (y := nI (aOne cnt (a / 16 / 24))) (by unfold aOne; rw [if_neg (by omega)]) ?_
      exact J40
    · skip
      have hc0 := nI_z0 (by omega) h25
      refine j_iconst Z (v := 0) dL_act_28 (by decide) ?_
      refine j_goto Z 40 dL_act_29 (by decide) ?_
      refine j_eq (y := nI (aOne cnt (a / 16 / 24))) (by unfold aOne; rw [if_pos hc0]; rfl) ?_
      exact J40
  refine j_aload_n Z dL_act_5 2 rfl ?_
  refine j_iconst Z (v := 0) dL_act_6 (by decide) ?_
  refine j_ild Z 25 (by decide) (fun _ => rfl) 0 (by decide) (by decide) (by decide) dL_act_7 ?_
  refine j_eq ((congrFun (S0.1 25 (by decide) (by decide) (by decide)) 0).trans hn0) ?_
  refine j_if_ne Z 15 dL_act_8 (by decide) (fun h8 => ?_) (fun h8 => ?_)
  · skip
    have hc0 := nI_n0 h8
    refine j_iload_n Z dL_act_15 0 rfl ?_
    refine j_aload_n Z dL_act_16 2 rfl ?_
    refine j_iconst Z (v := 0) dL_act_17 (by decide) ?_
    refine j_ild Z 25 (by decide) (fun _ => rfl) 0 (by decide) (by decide) (by decide) dL_act_18 ?_
    refine j_eq ((congrFun (S0.1 25 (by decide) (by decide) (by decide)) 0).trans hn0) ?_
    refine j_iremN Z (a := (a / 16)) (b := cnt) dL_act_19 rfl (by omega) (by omega) (by omega) ?_
    refine j_eq (y := nI (aOne cnt (a / 16))) (by unfold aOne; rw [if_neg (by omega)]) ?_
    exact J20
  · skip
    have hc0 := nI_z0 (by omega) h8
    refine j_iconst Z (v := 0) dL_act_11 (by decide) ?_
    refine j_goto Z 20 dL_act_12 (by decide) ?_
    refine j_eq (y := nI (aOne cnt (a / 16))) (by unfold aOne; rw [if_pos hc0]; rfl) ?_
    exact J20
