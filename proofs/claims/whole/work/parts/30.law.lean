set_option maxRecDepth 100000 in
set_option maxHeartbeats 4000000 in
theorem law_128 {p : Program} {l : Launch} {e : Env} {s : State} {m : MethodId} {below : List Frame} {meth : Method} {c : Code} {b L : Nat} {xs : Nat → Int32} {g : gC} {Q : State → Prop} (hst : l.stackTraces = false) (Z : gF p l e room_1 s m #[Value.ref b] below meth c cL_law 7 wsL_law RL g) (hN : gN s) (hX : va_X b L xs s s.heap) (hbl : b < s.heap.size) (hg : g.2.2.2 = s.heap.size) (hL : L ≤ 3584) {t : Nat} (ht : t < 512) (hi : 7 * t + 7 ≤ L) (KB : ∀ (μ' : gM) (cnt' lc' wc' : Nat) (pl' : Nat → Nat) (k' n' : Nat), RR μ' cnt' lc' wc' pl' → k' ≤ 120 + 7 * (t + 1) → n' ≤ 9100 + 42 * (t + 1) → J p l e room_1 s m #[Value.ref b] below meth c Q g 7 μ' k' n' 1404 [(0, .ref b), (1, .ref (g.2.1 0)), (2, .ref (g.2.1 31)), (3, .ref (g.2.1 25)), (4, .int (nI (7 * t)))] []) {μ : gM} {cnt lc wc : Nat} {pl : Nat → Nat} : RR μ cnt lc wc pl → J p l e room_1 s m #[Value.ref b] below meth c Q g 7 μ (120 + 7 * t) (9100 + 42 * t) 128 [(0, .ref b), (1, .ref (g.2.1 0)), (2, .ref (g.2.1 31)), (3, .ref (g.2.1 25)), (4, .int (nI (7 * t)))] [] := by
  intro h
  refine j_aload_n Z dL_law_128 1 rfl ?_
  refine j_aload_n Z dL_law_129 0 rfl ?_
  refine j_iload Z dL_law_130 4 rfl ?_
  refine j_iconst Z (v := 1) dL_law_132 (by decide) ?_
  refine j_iadd Z dL_law_133 ?_
  refine j_eq (nI_add (7 * t) 1) ?_
  refine j_sld Z hX hbl hg (by omega) (7 * t + 1) (by omega) dL_law_134 ?_
  refine j_aload_n Z dL_law_135 3 rfl ?_
  refine j_callSWi Z hN (As := [.ref (g.2.1 0), .int (xs (7 * t + 1)), .ref (g.2.1 25)]) (rest := []) (nA := 3) (c_L_pass l hst g μ cnt lc wc h.1 (xs (7 * t + 1))) gL_law_L_pass rfl rfl rfl (by decide +kernel) (by decide) rfl dL_law_136 rfl (Nat.le_of_ble_eq_true rfl) (rm_k ht (by decide) (by decide)) (fun r9 μ9 hp => ?_)
  refine j_istore Z dL_law_139 (by decide) [(5, .int r9), (0, .ref b), (1, .ref (g.2.1 0)), (2, .ref (g.2.1 31)), (3, .ref (g.2.1 25)), (4, .int (nI (7 * t)))] rfl ?_
  refine j_aload_n Z dL_law_141 3 rfl ?_
  refine j_aload_n Z dL_law_142 1 rfl ?_
  refine j_iload Z dL_law_143 5 rfl ?_
  refine j_iconst Z (v := 1) dL_law_145 (by decide) ?_
  refine j_iadd Z dL_law_146 ?_
  refine j_eq (nI_add (7 * t) 1) ?_
  refine j_sld Z hX hbl hg (by omega) (7 * t + 1) (by omega) dL_law_147 ?_
  refine j_callVi Z (As := [.int (xs (7 * t + 1))]) (rest := []) (nA := 1) 31 (by decide) rfl rfl (c_X6_pass l g μ9 cnt lc wc pl (m9_pass h (xs (7 * t + 1)) hp) (xs (7 * t + 1)) _ rfl) gL_law_X6_pass rfl rfl rfl (by decide +kernel) (by decide) rfl dL_law_148 rfl (Nat.le_of_ble_eq_true rfl) (rm_k0 ht (by decide) (by decide)) (fun r6 μ10 h6 => ?_)
  have hs := st_pass h (xs (7 * t + 1)) hp rfl h6
  clear hp h6
  obtain ⟨s1, s2, cnt', lc', wc', pl', h'⟩ := hs
  refine j_istore Z dL_law_151 (by decide) [(6, .int r6), (5, .int r9), (0, .ref b), (1, .ref (g.2.1 0)), (2, .ref (g.2.1 31)), (3, .ref (g.2.1 25)), (4, .int (nI (7 * t)))] rfl ?_
  refine j_aload_n Z dL_law_153 4 rfl ?_
  refine j_callVi Z (As := []) (rest := []) (nA := 0) 31 (by decide) rfl rfl (c_X6_thrown l g μ10) gL_law_X6_thrown rfl rfl rfl (by decide +kernel) (by decide) rfl dL_law_154 rfl (Nat.le_of_ble_eq_true rfl) (rm_k0 ht (by decide) (by decide)) (fun r7 μ7 h7 => ?_)
  obtain ⟨rfl, rfl⟩ := h7
  refine j_iload Z dL_law_157 1 rfl ?_
  refine j_icmp_eq Z 164 dL_law_159 (by decide) (fun h8 => ?_) (fun h8 => absurd s1 h8)
  refine j_iload Z dL_law_164 1 rfl ?_
  have jb : J p l e room_1 s m #[Value.ref b] below meth c Q g 7 μ7 (120 + 7 * t + 2 + 0 + 0) (9100 + 42 * t + 12 + 0 + 0) 181 [(6, .int r6), (5, .int r9), (0, .ref b), (1, .ref (g.2.1 0)), (2, .ref (g.2.1 31)), (3, .ref (g.2.1 25)), (4, .int (nI (7 * t)))] [] := by
    refine j_goto Z 1404 dL_law_181 (by decide) ?_
    exact j_sub [2, 3, 4, 5, 6] rfl (KB _ cnt' lc' wc' pl' _ _ h' (by omega) (by omega))
  refine j_if_ne Z 181 dL_law_166 (by decide) (fun h7 => jb) (fun h7 => ?_)
  have e2 := s2 h7
  refine j_aload_n Z dL_law_169 5 rfl ?_
  refine j_iconst Z (v := 0) dL_law_170 (by decide) ?_
  refine j_lld Z 25 (by decide) (fun _ => rfl) 0 (by decide) (by decide) (by decide) dL_law_171 ?_
  refine j_iload Z dL_law_172 0 rfl ?_
  refine j_i2l Z dL_law_174 rfl ?_
  refine j_lcmp Z dL_law_175 ?_
  refine j_if_eq Z 181 dL_law_176 (by decide) (fun h6 => jb) (fun h6 => absurd (by rw [e2]; exact lg_same _) h6)
set_option maxRecDepth 100000 in
set_option maxHeartbeats 4000000 in
theorem law_184 {p : Program} {l : Launch} {e : Env} {s : State} {m : MethodId} {below : List Frame} {meth : Method} {c : Code} {b L : Nat} {xs : Nat → Int32} {g : gC} {Q : State → Prop} (hst : l.stackTraces = false) (Z : gF p l e room_1 s m #[Value.ref b] below meth c cL_law 7 wsL_law RL g) (hN : gN s) (hX : va_X b L xs s s.heap) (hbl : b < s.heap.size) (hg : g.2.2.2 = s.heap.size) (hL : L ≤ 3584) {t : Nat} (ht : t < 512) (hi : 7 * t + 7 ≤ L) (KB : ∀ (μ' : gM) (cnt' lc' wc' : Nat) (pl' : Nat → Nat) (k' n' : Nat), RR μ' cnt' lc' wc' pl' → k' ≤ 120 + 7 * (t + 1) → n' ≤ 9100 + 42 * (t + 1) → J p l e room_1 s m #[Value.ref b] below meth c Q g 7 μ' k' n' 1404 [(0, .ref b), (1, .ref (g.2.1 0)), (2, .ref (g.2.1 31)), (3, .ref (g.2.1 25)), (4, .int (nI (7 * t)))] []) {μ : gM} {cnt lc wc : Nat} {pl : Nat → Nat} : RR μ cnt lc wc pl → J p l e room_1 s m #[Value.ref b] below meth c Q g 7 μ (120 + 7 * t) (9100 + 42 * t) 184 [(0, .ref b), (1, .ref (g.2.1 0)), (2, .ref (g.2.1 31)), (3, .ref (g.2.1 25)), (4, .int (nI (7 * t)))] [] := by
  intro h
  refine j_aload_n Z dL_law_184 1 rfl ?_
  refine j_callVi Z (As := []) (rest := []) (nA := 0) 0 (by decide) rfl rfl (c_X5_today l g μ) gL_law_X5_today rfl rfl rfl (by decide +kernel) (by decide) rfl dL_law_185 rfl (Nat.le_of_ble_eq_true rfl) (rm_k ht (by decide) (by decide)) (fun r9 μ9 hp => ?_)
  obtain ⟨rfl, rfl⟩ := hp
  refine j_aload_n Z dL_law_188 2 rfl ?_
  refine j_callVi Z (As := []) (rest := [.int (μ9 0 0)]) (nA := 0) 31 (by decide) rfl rfl (c_X6_today l g μ9) gL_law_X6_today rfl rfl rfl (by decide +kernel) (by decide) rfl dL_law_189 rfl (Nat.le_of_ble_eq_true rfl) (rm_k0 (mc := 0) (ms := 0) ht (by decide) (by decide)) (fun r6 μ10 h6 => ?_)
  obtain ⟨rfl, rfl⟩ := h6
  refine j_icmp_eq Z 1404 dL_law_192 (by decide) (fun h9 => ?_) (fun h9 => absurd h.day h9)
  exact KB _ cnt lc wc pl _ _ (h.u31 0) (by omega) (by omega)
set_option maxRecDepth 100000 in
set_option maxHeartbeats 4000000 in
theorem law_197 {p : Program} {l : Launch} {e : Env} {s : State} {m : MethodId} {below : List Frame} {meth : Method} {c : Code} {b L : Nat} {xs : Nat → Int32} {g : gC} {Q : State → Prop} (hst : l.stackTraces = false) (Z : gF p l e room_1 s m #[Value.ref b] below meth c cL_law 7 wsL_law RL g) (hN : gN s) (hX : va_X b L xs s s.heap) (hbl : b < s.heap.size) (hg : g.2.2.2 = s.heap.size) (hL : L ≤ 3584) {t : Nat} (ht : t < 512) (hi : 7 * t + 7 ≤ L) (KB : ∀ (μ' : gM) (cnt' lc' wc' : Nat) (pl' : Nat → Nat) (k' n' : Nat), RR μ' cnt' lc' wc' pl' → k' ≤ 120 + 7 * (t + 1) → n' ≤ 9100 + 42 * (t + 1) → J p l e room_1 s m #[Value.ref b] below meth c Q g 7 μ' k' n' 1404 [(0, .ref b), (1, .ref (g.2.1 0)), (2, .ref (g.2.1 31)), (3, .ref (g.2.1 25)), (4, .int (nI (7 * t)))] []) {μ : gM} {cnt lc wc : Nat} {pl : Nat → Nat} : RR μ cnt lc wc pl → J p l e room_1 s m #[Value.ref b] below meth c Q g 7 μ (120 + 7 * t) (9100 + 42 * t) 197 [(0, .ref b), (1, .ref (g.2.1 0)), (2, .ref (g.2.1 31)), (3, .ref (g.2.1 25)), (4, .int (nI (7 * t)))] [] := by
  intro h
  refine j_aload_n Z dL_law_197 1 rfl ?_
  refine j_aload_n Z dL_law_198 0 rfl ?_
  refine j_iload Z dL_law_199 4 rfl ?_
  refine j_iconst Z (v := 1) dL_law_201 (by decide) ?_
  refine j_iadd Z dL_law_202 ?_
  refine j_eq (nI_add (7 * t) 1) ?_
  refine j_sld Z hX hbl hg (by omega) (7 * t + 1) (by omega) dL_law_203 ?_
  refine j_aload_n Z dL_law_204 0 rfl ?_
  refine j_iload Z dL_law_205 4 rfl ?_
  refine j_iconst Z (v := 2) dL_law_207 (by decide) ?_
  refine j_iadd Z dL_law_208 ?_
  refine j_eq (nI_add (7 * t) 2) ?_
  refine j_sld Z hX hbl hg (by omega) (7 * t + 2) (by omega) dL_law_209 ?_
  refine j_aload_n Z dL_law_210 3 rfl ?_
  refine j_callSWi Z hN (As := [.ref (g.2.1 0), .int (xs (7 * t + 1)), .int (xs (7 * t + 2)), .ref (g.2.1 25)]) (rest := []) (nA := 4) (c_L_setTerm l hst g μ cnt lc wc h.1 (xs (7 * t + 1)) (xs (7 * t + 2))) gL_law_L_setTerm rfl rfl rfl (by decide +kernel) (by decide) rfl dL_law_211 rfl (Nat.le_of_ble_eq_true rfl) (rm_k ht (by decide) (by decide)) (fun r9 μ9 hp => ?_)
  refine j_istore Z dL_law_214 (by decide) [(5, .int r9), (0, .ref b), (1, .ref (g.2.1 0)), (2, .ref (g.2.1 31)), (3, .ref (g.2.1 25)), (4, .int (nI (7 * t)))] rfl ?_
  refine j_aload_n Z dL_law_216 3 rfl ?_
  refine j_aload_n Z dL_law_217 1 rfl ?_
  refine j_iload Z dL_law_218 5 rfl ?_
  refine j_iconst Z (v := 1) dL_law_220 (by decide) ?_
  refine j_iadd Z dL_law_221 ?_
  refine j_eq (nI_add (7 * t) 1) ?_
  refine j_sld Z hX hbl hg (by omega) (7 * t + 1) (by omega) dL_law_222 ?_
  refine j_aload_n Z dL_law_223 1 rfl ?_
  refine j_iload Z dL_law_224 5 rfl ?_
  refine j_iconst Z (v := 2) dL_law_226 (by decide) ?_
  refine j_iadd Z dL_law_227 ?_
  refine j_eq (nI_add (7 * t) 2) ?_
  refine j_sld Z hX hbl hg (by omega) (7 * t + 2) (by omega) dL_law_228 ?_
  refine j_callVi Z (As := [.int (xs (7 * t + 1)), .int (xs (7 * t + 2))]) (rest := []) (nA := 2) 31 (by decide) rfl rfl (c_X6_setTerm l g μ9 cnt lc wc pl (m9_setTerm h (xs (7 * t + 1)) (xs (7 * t + 2)) hp) (xs (7 * t + 1)) (xs (7 * t + 2)) _ rfl) gL_law_X6_setTerm rfl rfl rfl (by decide +kernel) (by decide) rfl dL_law_229 rfl (Nat.le_of_ble_eq_true rfl) (rm_k0 ht (by decide) (by decide)) (fun r6 μ10 h6 => ?_)
  have hs := st_setTerm h (xs (7 * t + 1)) (xs (7 * t + 2)) hp rfl h6
  clear hp h6
  obtain ⟨s1, s2, cnt', lc', wc', pl', h'⟩ := hs
  refine j_istore Z dL_law_232 (by decide) [(6, .int r6), (5, .int r9), (0, .ref b), (1, .ref (g.2.1 0)), (2, .ref (g.2.1 31)), (3, .ref (g.2.1 25)), (4, .int (nI (7 * t)))] rfl ?_
  refine j_aload_n Z dL_law_234 4 rfl ?_
  refine j_callVi Z (As := []) (rest := []) (nA := 0) 31 (by decide) rfl rfl (c_X6_thrown l g μ10) gL_law_X6_thrown rfl rfl rfl (by decide +kernel) (by decide) rfl dL_law_235 rfl (Nat.le_of_ble_eq_true rfl) (rm_k0 ht (by decide) (by decide)) (fun r7 μ7 h7 => ?_)
  obtain ⟨rfl, rfl⟩ := h7
  refine j_iload Z dL_law_238 1 rfl ?_
  refine j_icmp_eq Z 245 dL_law_240 (by decide) (fun h8 => ?_) (fun h8 => absurd s1 h8)
  refine j_iload Z dL_law_245 1 rfl ?_
  have jb : J p l e room_1 s m #[Value.ref b] below meth c Q g 7 μ7 (120 + 7 * t + 2 + 0 + 0) (9100 + 42 * t + 12 + 0 + 0) 262 [(6, .int r6), (5, .int r9), (0, .ref b), (1, .ref (g.2.1 0)), (2, .ref (g.2.1 31)), (3, .ref (g.2.1 25)), (4, .int (nI (7 * t)))] [] := by
    refine j_goto Z 1404 dL_law_262 (by decide) ?_
    exact j_sub [2, 3, 4, 5, 6] rfl (KB _ cnt' lc' wc' pl' _ _ h' (by omega) (by omega))
  refine j_if_ne Z 262 dL_law_247 (by decide) (fun h7 => jb) (fun h7 => ?_)
  have e2 := s2 h7
  refine j_aload_n Z dL_law_250 5 rfl ?_
  refine j_iconst Z (v := 0) dL_law_251 (by decide) ?_
  refine j_lld Z 25 (by decide) (fun _ => rfl) 0 (by decide) (by decide) (by decide) dL_law_252 ?_
  refine j_iload Z dL_law_253 0 rfl ?_
  refine j_i2l Z dL_law_255 rfl ?_
  refine j_lcmp Z dL_law_256 ?_
  refine j_if_eq Z 262 dL_law_257 (by decide) (fun h6 => jb) (fun h6 => absurd (by rw [e2]; exact lg_same _) h6)
set_option maxRecDepth 100000 in
set_option maxHeartbeats 4000000 in
theorem law_265 {p : Program} {l : Launch} {e : Env} {s : State} {m : MethodId} {below : List Frame} {meth : Method} {c : Code} {b L : Nat} {xs : Nat → Int32} {g : gC} {Q : State → Prop} (hst : l.stackTraces = false) (Z : gF p l e room_1 s m #[Value.ref b] below meth c cL_law 7 wsL_law RL g) (hN : gN s) (hX : va_X b L xs s s.heap) (hbl : b < s.heap.size) (hg : g.2.2.2 = s.heap.size) (hL : L ≤ 3584) {t : Nat} (ht : t < 512) (hi : 7 * t + 7 ≤ L) (KB : ∀ (μ' : gM) (cnt' lc' wc' : Nat) (pl' : Nat → Nat) (k' n' : Nat), RR μ' cnt' lc' wc' pl' → k' ≤ 120 + 7 * (t + 1) → n' ≤ 9100 + 42 * (t + 1) → J p l e room_1 s m #[Value.ref b] below meth c Q g 7 μ' k' n' 1404 [(0, .ref b), (1, .ref (g.2.1 0)), (2, .ref (g.2.1 31)), (3, .ref (g.2.1 25)), (4, .int (nI (7 * t)))] []) {μ : gM} {cnt lc wc : Nat} {pl : Nat → Nat} : RR μ cnt lc wc pl → J p l e room_1 s m #[Value.ref b] below meth c Q g 7 μ (120 + 7 * t) (9100 + 42 * t) 265 [(0, .ref b), (1, .ref (g.2.1 0)), (2, .ref (g.2.1 31)), (3, .ref (g.2.1 25)), (4, .int (nI (7 * t)))] [] := by
  intro h
  refine j_aload_n Z dL_law_265 1 rfl ?_
  refine j_aload_n Z dL_law_266 0 rfl ?_
  refine j_iload Z dL_law_267 4 rfl ?_
  refine j_iconst Z (v := 1) dL_law_269 (by decide) ?_
  refine j_iadd Z dL_law_270 ?_
  refine j_eq (nI_add (7 * t) 1) ?_
  refine j_sld Z hX hbl hg (by omega) (7 * t + 1) (by omega) dL_law_271 ?_
  refine j_aload_n Z dL_law_272 3 rfl ?_
  refine j_callSWi Z hN (As := [.ref (g.2.1 0), .int (xs (7 * t + 1)), .ref (g.2.1 25)]) (rest := []) (nA := 3) (c_L_putFirst l hst g μ cnt lc wc h.1 (xs (7 * t + 1))) gL_law_L_putFirst rfl rfl rfl (by decide +kernel) (by decide) rfl dL_law_273 rfl (Nat.le_of_ble_eq_true rfl) (rm_k ht (by decide) (by decide)) (fun r9 μ9 hp => ?_)
  refine j_istore Z dL_law_276 (by decide) [(5, .int r9), (0, .ref b), (1, .ref (g.2.1 0)), (2, .ref (g.2.1 31)), (3, .ref (g.2.1 25)), (4, .int (nI (7 * t)))] rfl ?_
  refine j_aload_n Z dL_law_278 3 rfl ?_
  refine j_aload_n Z dL_law_279 1 rfl ?_
  refine j_iload Z dL_law_280 5 rfl ?_
  refine j_iconst Z (v := 1) dL_law_282 (by decide) ?_
  refine j_iadd Z dL_law_283 ?_
  refine j_eq (nI_add (7 * t) 1) ?_
  refine j_sld Z hX hbl hg (by omega) (7 * t + 1) (by omega) dL_law_284 ?_
  refine j_callVi Z (As := [.int (xs (7 * t + 1))]) (rest := []) (nA := 1) 31 (by decide) rfl rfl (c_X6_putFirst l g μ9 cnt lc wc pl (m9_putFirst h (xs (7 * t + 1)) hp) (xs (7 * t + 1)) _ rfl) gL_law_X6_putFirst rfl rfl rfl (by decide +kernel) (by decide) rfl dL_law_285 rfl (Nat.le_of_ble_eq_true rfl) (rm_k0 ht (by decide) (by decide)) (fun r6 μ10 h6 => ?_)
  have hs := st_putFirst h (xs (7 * t + 1)) hp rfl h6
  clear hp h6
  obtain ⟨s1, s2, cnt', lc', wc', pl', h'⟩ := hs
  refine j_istore Z dL_law_288 (by decide) [(6, .int r6), (5, .int r9), (0, .ref b), (1, .ref (g.2.1 0)), (2, .ref (g.2.1 31)), (3, .ref (g.2.1 25)), (4, .int (nI (7 * t)))] rfl ?_
  refine j_aload_n Z dL_law_290 4 rfl ?_
  refine j_callVi Z (As := []) (rest := []) (nA := 0) 31 (by decide) rfl rfl (c_X6_thrown l g μ10) gL_law_X6_thrown rfl rfl rfl (by decide +kernel) (by decide) rfl dL_law_291 rfl (Nat.le_of_ble_eq_true rfl) (rm_k0 ht (by decide) (by decide)) (fun r7 μ7 h7 => ?_)
  obtain ⟨rfl, rfl⟩ := h7
  refine j_iload Z dL_law_294 1 rfl ?_
  refine j_icmp_eq Z 301 dL_law_296 (by decide) (fun h8 => ?_) (fun h8 => absurd s1 h8)
  refine j_iload Z dL_law_301 1 rfl ?_
  have jb : J p l e room_1 s m #[Value.ref b] below meth c Q g 7 μ7 (120 + 7 * t + 1 + 0 + 0) (9100 + 42 * t + 6 + 0 + 0) 318 [(6, .int r6), (5, .int r9), (0, .ref b), (1, .ref (g.2.1 0)), (2, .ref (g.2.1 31)), (3, .ref (g.2.1 25)), (4, .int (nI (7 * t)))] [] := by
    refine j_goto Z 1404 dL_law_318 (by decide) ?_
    exact j_sub [2, 3, 4, 5, 6] rfl (KB _ cnt' lc' wc' pl' _ _ h' (by omega) (by omega))
  refine j_if_ne Z 318 dL_law_303 (by decide) (fun h7 => jb) (fun h7 => ?_)
  have e2 := s2 h7
  refine j_aload_n Z dL_law_306 5 rfl ?_
  refine j_iconst Z (v := 0) dL_law_307 (by decide) ?_
  refine j_lld Z 25 (by decide) (fun _ => rfl) 0 (by decide) (by decide) (by decide) dL_law_308 ?_
  refine j_iload Z dL_law_309 0 rfl ?_
  refine j_i2l Z dL_law_311 rfl ?_
  refine j_lcmp Z dL_law_312 ?_
  refine j_if_eq Z 318 dL_law_313 (by decide) (fun h6 => jb) (fun h6 => absurd (by rw [e2]; exact lg_same _) h6)
set_option maxRecDepth 100000 in
set_option maxHeartbeats 4000000 in
theorem law_321 {p : Program} {l : Launch} {e : Env} {s : State} {m : MethodId} {below : List Frame} {meth : Method} {c : Code} {b L : Nat} {xs : Nat → Int32} {g : gC} {Q : State → Prop} (hst : l.stackTraces = false) (Z : gF p l e room_1 s m #[Value.ref b] below meth c cL_law 7 wsL_law RL g) (hN : gN s) (hX : va_X b L xs s s.heap) (hbl : b < s.heap.size) (hg : g.2.2.2 = s.heap.size) (hL : L ≤ 3584) {t : Nat} (ht : t < 512) (hi : 7 * t + 7 ≤ L) (KB : ∀ (μ' : gM) (cnt' lc' wc' : Nat) (pl' : Nat → Nat) (k' n' : Nat), RR μ' cnt' lc' wc' pl' → k' ≤ 120 + 7 * (t + 1) → n' ≤ 9100 + 42 * (t + 1) → J p l e room_1 s m #[Value.ref b] below meth c Q g 7 μ' k' n' 1404 [(0, .ref b), (1, .ref (g.2.1 0)), (2, .ref (g.2.1 31)), (3, .ref (g.2.1 25)), (4, .int (nI (7 * t)))] []) {μ : gM} {cnt lc wc : Nat} {pl : Nat → Nat} : RR μ cnt lc wc pl → J p l e room_1 s m #[Value.ref b] below meth c Q g 7 μ (120 + 7 * t) (9100 + 42 * t) 321 [(0, .ref b), (1, .ref (g.2.1 0)), (2, .ref (g.2.1 31)), (3, .ref (g.2.1 25)), (4, .int (nI (7 * t)))] [] := by
  intro h
  refine j_aload_n Z dL_law_321 1 rfl ?_
  refine j_aload_n Z dL_law_322 0 rfl ?_
  refine j_iload Z dL_law_323 4 rfl ?_
  refine j_iconst Z (v := 1) dL_law_325 (by decide) ?_
  refine j_iadd Z dL_law_326 ?_
  refine j_eq (nI_add (7 * t) 1) ?_
  refine j_sld Z hX hbl hg (by omega) (7 * t + 1) (by omega) dL_law_327 ?_
  refine j_aload_n Z dL_law_328 0 rfl ?_
  refine j_iload Z dL_law_329 4 rfl ?_
  refine j_iconst Z (v := 2) dL_law_331 (by decide) ?_
  refine j_iadd Z dL_law_332 ?_
  refine j_eq (nI_add (7 * t) 2) ?_
  refine j_sld Z hX hbl hg (by omega) (7 * t + 2) (by omega) dL_law_333 ?_
  refine j_aload_n Z dL_law_334 0 rfl ?_
  refine j_iload Z dL_law_335 4 rfl ?_
  refine j_iconst Z (v := 3) dL_law_337 (by decide) ?_
  refine j_iadd Z dL_law_338 ?_
  refine j_eq (nI_add (7 * t) 3) ?_
  refine j_sld Z hX hbl hg (by omega) (7 * t + 3) (by omega) dL_law_339 ?_
  refine j_aload_n Z dL_law_340 0 rfl ?_
  refine j_iload Z dL_law_341 4 rfl ?_
  refine j_iconst Z (v := 4) dL_law_343 (by decide) ?_
  refine j_iadd Z dL_law_344 ?_
  refine j_eq (nI_add (7 * t) 4) ?_
  refine j_sld Z hX hbl hg (by omega) (7 * t + 4) (by omega) dL_law_345 ?_
  refine j_aload_n Z dL_law_346 0 rfl ?_
  refine j_iload Z dL_law_347 4 rfl ?_
  refine j_iconst Z (v := 5) dL_law_349 (by decide) ?_
  refine j_iadd Z dL_law_350 ?_
  refine j_eq (nI_add (7 * t) 5) ?_
  refine j_sld Z hX hbl hg (by omega) (7 * t + 5) (by omega) dL_law_351 ?_
  refine j_aload_n Z dL_law_352 0 rfl ?_
  refine j_iload Z dL_law_353 4 rfl ?_
  refine j_bipush Z (v := 6) dL_law_355 (by decide) ?_
  refine j_iadd Z dL_law_357 ?_
  refine j_eq (nI_add (7 * t) 6) ?_
  refine j_sld Z hX hbl hg (by omega) (7 * t + 6) (by omega) dL_law_358 ?_
  refine j_aload_n Z dL_law_359 3 rfl ?_
  refine j_callSWi Z hN (As := [.ref (g.2.1 0), .int (xs (7 * t + 1)), .int (xs (7 * t + 2)), .int (xs (7 * t + 3)), .int (xs (7 * t + 4)), .int (xs (7 * t + 5)), .int (xs (7 * t + 6)), .ref (g.2.1 25)]) (rest := []) (nA := 8) (c_L_find l hst g μ cnt lc wc h.1 (xs (7 * t + 1)) (xs (7 * t + 2)) (xs (7 * t + 3)) (xs (7 * t + 4)) (xs (7 * t + 5)) (xs (7 * t + 6))) gL_law_L_find rfl rfl rfl (by decide +kernel) (by decide) rfl dL_law_360 rfl (Nat.le_of_ble_eq_true rfl) (rm_k ht (by decide) (by decide)) (fun r9 μ9 hp => ?_)
  refine j_istore Z dL_law_363 (by decide) [(5, .int r9), (0, .ref b), (1, .ref (g.2.1 0)), (2, .ref (g.2.1 31)), (3, .ref (g.2.1 25)), (4, .int (nI (7 * t)))] rfl ?_
  refine j_aload_n Z dL_law_365 3 rfl ?_
  refine j_aload_n Z dL_law_366 1 rfl ?_
  refine j_iload Z dL_law_367 5 rfl ?_
  refine j_iconst Z (v := 1) dL_law_369 (by decide) ?_
  refine j_iadd Z dL_law_370 ?_
  refine j_eq (nI_add (7 * t) 1) ?_
  refine j_sld Z hX hbl hg (by omega) (7 * t + 1) (by omega) dL_law_371 ?_
  refine j_aload_n Z dL_law_372 1 rfl ?_
  refine j_iload Z dL_law_373 5 rfl ?_
  refine j_iconst Z (v := 2) dL_law_375 (by decide) ?_
  refine j_iadd Z dL_law_376 ?_
  refine j_eq (nI_add (7 * t) 2) ?_
  refine j_sld Z hX hbl hg (by omega) (7 * t + 2) (by omega) dL_law_377 ?_
  refine j_aload_n Z dL_law_378 1 rfl ?_
  refine j_iload Z dL_law_379 5 rfl ?_
  refine j_iconst Z (v := 3) dL_law_381 (by decide) ?_
  refine j_iadd Z dL_law_382 ?_
  refine j_eq (nI_add (7 * t) 3) ?_
  refine j_sld Z hX hbl hg (by omega) (7 * t + 3) (by omega) dL_law_383 ?_
  refine j_aload_n Z dL_law_384 1 rfl ?_
  refine j_iload Z dL_law_385 5 rfl ?_
  refine j_iconst Z (v := 4) dL_law_387 (by decide) ?_
  refine j_iadd Z dL_law_388 ?_
  refine j_eq (nI_add (7 * t) 4) ?_
  refine j_sld Z hX hbl hg (by omega) (7 * t + 4) (by omega) dL_law_389 ?_
  refine j_aload_n Z dL_law_390 1 rfl ?_
  refine j_iload Z dL_law_391 5 rfl ?_
  refine j_iconst Z (v := 5) dL_law_393 (by decide) ?_
  refine j_iadd Z dL_law_394 ?_
  refine j_eq (nI_add (7 * t) 5) ?_
  refine j_sld Z hX hbl hg (by omega) (7 * t + 5) (by omega) dL_law_395 ?_
  refine j_aload_n Z dL_law_396 1 rfl ?_
  refine j_iload Z dL_law_397 5 rfl ?_
  refine j_bipush Z (v := 6) dL_law_399 (by decide) ?_
  refine j_iadd Z dL_law_401 ?_
  refine j_eq (nI_add (7 * t) 6) ?_
  refine j_sld Z hX hbl hg (by omega) (7 * t + 6) (by omega) dL_law_402 ?_
  refine j_callVi Z (As := [.int (xs (7 * t + 1)), .int (xs (7 * t + 2)), .int (xs (7 * t + 3)), .int (xs (7 * t + 4)), .int (xs (7 * t + 5)), .int (xs (7 * t + 6))]) (rest := []) (nA := 6) 31 (by decide) rfl rfl (c_X6_find l g μ9 cnt lc wc pl (m9_find h (xs (7 * t + 1)) (xs (7 * t + 2)) (xs (7 * t + 3)) (xs (7 * t + 4)) (xs (7 * t + 5)) (xs (7 * t + 6)) hp) (xs (7 * t + 1)) (xs (7 * t + 2)) (xs (7 * t + 3)) (xs (7 * t + 4)) (xs (7 * t + 5)) (xs (7 * t + 6)) _ rfl) gL_law_X6_find rfl rfl rfl (by decide +kernel) (by decide) rfl dL_law_403 rfl (Nat.le_of_ble_eq_true rfl) (rm_k0 ht (by decide) (by decide)) (fun r6 μ10 h6 => ?_)
  have hs := st_find h (xs (7 * t + 1)) (xs (7 * t + 2)) (xs (7 * t + 3)) (xs (7 * t + 4)) (xs (7 * t + 5)) (xs (7 * t + 6)) hp rfl h6
  clear hp h6
  obtain ⟨s1, s2, cnt', lc', wc', pl', h'⟩ := hs
  refine j_istore Z dL_law_406 (by decide) [(6, .int r6), (5, .int r9), (0, .ref b), (1, .ref (g.2.1 0)), (2, .ref (g.2.1 31)), (3, .ref (g.2.1 25)), (4, .int (nI (7 * t)))] rfl ?_
  refine j_aload_n Z dL_law_408 4 rfl ?_
  refine j_callVi Z (As := []) (rest := []) (nA := 0) 31 (by decide) rfl rfl (c_X6_thrown l g μ10) gL_law_X6_thrown rfl rfl rfl (by decide +kernel) (by decide) rfl dL_law_409 rfl (Nat.le_of_ble_eq_true rfl) (rm_k0 ht (by decide) (by decide)) (fun r7 μ7 h7 => ?_)
  obtain ⟨rfl, rfl⟩ := h7
  refine j_iload Z dL_law_412 1 rfl ?_
  refine j_icmp_eq Z 419 dL_law_414 (by decide) (fun h8 => ?_) (fun h8 => absurd s1 h8)
  refine j_iload Z dL_law_419 1 rfl ?_
  have jb : J p l e room_1 s m #[Value.ref b] below meth c Q g 7 μ7 (120 + 7 * t + 7 + 0 + 0) (9100 + 42 * t + 42 + 0 + 0) 436 [(6, .int r6), (5, .int r9), (0, .ref b), (1, .ref (g.2.1 0)), (2, .ref (g.2.1 31)), (3, .ref (g.2.1 25)), (4, .int (nI (7 * t)))] [] := by
    refine j_goto Z 1404 dL_law_436 (by decide) ?_
    exact j_sub [2, 3, 4, 5, 6] rfl (KB _ cnt' lc' wc' pl' _ _ h' (by omega) (by omega))
  refine j_if_ne Z 436 dL_law_421 (by decide) (fun h7 => jb) (fun h7 => ?_)
  have e2 := s2 h7
  refine j_aload_n Z dL_law_424 5 rfl ?_
  refine j_iconst Z (v := 0) dL_law_425 (by decide) ?_
  refine j_lld Z 25 (by decide) (fun _ => rfl) 0 (by decide) (by decide) (by decide) dL_law_426 ?_
  refine j_iload Z dL_law_427 0 rfl ?_
  refine j_i2l Z dL_law_429 rfl ?_
  refine j_lcmp Z dL_law_430 ?_
  refine j_if_eq Z 436 dL_law_431 (by decide) (fun h6 => jb) (fun h6 => absurd (by rw [e2]; exact lg_same _) h6)
set_option maxRecDepth 100000 in
set_option maxHeartbeats 4000000 in
theorem law_439 {p : Program} {l : Launch} {e : Env} {s : State} {m : MethodId} {below : List Frame} {meth : Method} {c : Code} {b L : Nat} {xs : Nat → Int32} {g : gC} {Q : State → Prop} (hst : l.stackTraces = false) (Z : gF p l e room_1 s m #[Value.ref b] below meth c cL_law 7 wsL_law RL g) (hN : gN s) (hX : va_X b L xs s s.heap) (hbl : b < s.heap.size) (hg : g.2.2.2 = s.heap.size) (hL : L ≤ 3584) {t : Nat} (ht : t < 512) (hi : 7 * t + 7 ≤ L) (KB : ∀ (μ' : gM) (cnt' lc' wc' : Nat) (pl' : Nat → Nat) (k' n' : Nat), RR μ' cnt' lc' wc' pl' → k' ≤ 120 + 7 * (t + 1) → n' ≤ 9100 + 42 * (t + 1) → J p l e room_1 s m #[Value.ref b] below meth c Q g 7 μ' k' n' 1404 [(0, .ref b), (1, .ref (g.2.1 0)), (2, .ref (g.2.1 31)), (3, .ref (g.2.1 25)), (4, .int (nI (7 * t)))] []) {μ : gM} {cnt lc wc : Nat} {pl : Nat → Nat} : RR μ cnt lc wc pl → J p l e room_1 s m #[Value.ref b] below meth c Q g 7 μ (120 + 7 * t) (9100 + 42 * t) 439 [(0, .ref b), (1, .ref (g.2.1 0)), (2, .ref (g.2.1 31)), (3, .ref (g.2.1 25)), (4, .int (nI (7 * t)))] [] := by
  intro h
  refine j_aload_n Z dL_law_439 1 rfl ?_
  refine j_aload_n Z dL_law_440 0 rfl ?_
  refine j_iload Z dL_law_441 4 rfl ?_
  refine j_iconst Z (v := 1) dL_law_443 (by decide) ?_
  refine j_iadd Z dL_law_444 ?_
  refine j_eq (nI_add (7 * t) 1) ?_
  refine j_sld Z hX hbl hg (by omega) (7 * t + 1) (by omega) dL_law_445 ?_
  refine j_aload_n Z dL_law_446 3 rfl ?_
  refine j_callSWi Z hN (As := [.ref (g.2.1 0), .int (xs (7 * t + 1)), .ref (g.2.1 25)]) (rest := []) (nA := 3) (c_L_strike l hst g μ cnt lc wc h.1 (xs (7 * t + 1))) gL_law_L_strike rfl rfl rfl (by decide +kernel) (by decide) rfl dL_law_447 rfl (Nat.le_of_ble_eq_true rfl) (rm_k ht (by decide) (by decide)) (fun r9 μ9 hp => ?_)
  refine j_istore Z dL_law_450 (by decide) [(5, .int r9), (0, .ref b), (1, .ref (g.2.1 0)), (2, .ref (g.2.1 31)), (3, .ref (g.2.1 25)), (4, .int (nI (7 * t)))] rfl ?_
  refine j_aload_n Z dL_law_452 3 rfl ?_
  refine j_aload_n Z dL_law_453 1 rfl ?_
  refine j_iload Z dL_law_454 5 rfl ?_
  refine j_iconst Z (v := 1) dL_law_456 (by decide) ?_
  refine j_iadd Z dL_law_457 ?_
  refine j_eq (nI_add (7 * t) 1) ?_
  refine j_sld Z hX hbl hg (by omega) (7 * t + 1) (by omega) dL_law_458 ?_
  refine j_callVi Z (As := [.int (xs (7 * t + 1))]) (rest := []) (nA := 1) 31 (by decide) rfl rfl (c_X6_strike l g μ9 cnt lc wc pl (m9_strike h (xs (7 * t + 1)) hp) (xs (7 * t + 1)) _ rfl) gL_law_X6_strike rfl rfl rfl (by decide +kernel) (by decide) rfl dL_law_459 rfl (Nat.le_of_ble_eq_true rfl) (rm_k0 ht (by decide) (by decide)) (fun r6 μ10 h6 => ?_)
  have hs := st_strike h (xs (7 * t + 1)) hp rfl h6
  have hb6 : r6 = 0 ∨ r6 = 1 := by rw [h6.1]; exact ite_01
  clear hp h6
  obtain ⟨s1, s2, cnt', lc', wc', pl', h'⟩ := hs
  refine j_istore Z dL_law_462 (by decide) [(6, .int r6), (5, .int r9), (0, .ref b), (1, .ref (g.2.1 0)), (2, .ref (g.2.1 31)), (3, .ref (g.2.1 25)), (4, .int (nI (7 * t)))] rfl ?_
  refine j_aload_n Z dL_law_464 4 rfl ?_
  refine j_callVi Z (As := []) (rest := []) (nA := 0) 31 (by decide) rfl rfl (c_X6_thrown l g μ10) gL_law_X6_thrown rfl rfl rfl (by decide +kernel) (by decide) rfl dL_law_465 rfl (Nat.le_of_ble_eq_true rfl) (rm_k0 ht (by decide) (by decide)) (fun r7 μ7 h7 => ?_)
  obtain ⟨rfl, rfl⟩ := h7
  refine j_iload Z dL_law_468 1 rfl ?_
  refine j_icmp_eq Z 475 dL_law_470 (by decide) (fun h8 => ?_) (fun h8 => absurd s1 h8)
  refine j_iload Z dL_law_475 1 rfl ?_
  have jb : J p l e room_1 s m #[Value.ref b] below meth c Q g 7 μ7 (120 + 7 * t + 1 + 0 + 0) (9100 + 42 * t + 6 + 0 + 0) 499 [(6, .int r6), (5, .int r9), (0, .ref b), (1, .ref (g.2.1 0)), (2, .ref (g.2.1 31)), (3, .ref (g.2.1 25)), (4, .int (nI (7 * t)))] [] := by
    refine j_goto Z 1404 dL_law_499 (by decide) ?_
    exact j_sub [2, 3, 4, 5, 6] rfl (KB _ cnt' lc' wc' pl' _ _ h' (by omega) (by omega))
  refine j_if_ne Z 499 dL_law_477 (by decide) (fun h7 => jb) (fun h7 => ?_)
  have e2 := s2 h7
  refine j_aload_n Z dL_law_480 5 rfl ?_
  refine j_iconst Z (v := 0) dL_law_481 (by decide) ?_
  refine j_lld Z 25 (by decide) (fun _ => rfl) 0 (by decide) (by decide) (by decide) dL_law_482 ?_
  refine j_iload Z dL_law_483 0 rfl ?_
  refine j_if_eq Z 492 dL_law_485 (by decide) (fun h6 => ?_) (fun h6 => ?_)
  · refine j_lconst Z (v := 0) dL_law_492 (by decide) ?_
    refine j_lcmp Z dL_law_493 ?_
    exact j_if_eq Z 499 dL_law_494 (by decide) (fun _ => jb) (fun h5 => absurd (by rw [e2, h6]; exact lg_same _) h5)
  · refine j_lconst Z (v := 1) dL_law_488 (by decide) ?_
    refine j_goto Z 493 dL_law_489 (by decide) ?_
    refine j_lcmp Z dL_law_493 ?_
    exact j_if_eq Z 499 dL_law_494 (by decide) (fun _ => jb) (fun h5 => absurd (by rw [e2, hb6.resolve_left h6]; exact lg_same _) h5)
set_option maxRecDepth 100000 in
set_option maxHeartbeats 4000000 in
theorem law_502 {p : Program} {l : Launch} {e : Env} {s : State} {m : MethodId} {below : List Frame} {meth : Method} {c : Code} {b L : Nat} {xs : Nat → Int32} {g : gC} {Q : State → Prop} (hst : l.stackTraces = false) (Z : gF p l e room_1 s m #[Value.ref b] below meth c cL_law 7 wsL_law RL g) (hN : gN s) (hX : va_X b L xs s s.heap) (hbl : b < s.heap.size) (hg : g.2.2.2 = s.heap.size) (hL : L ≤ 3584) {t : Nat} (ht : t < 512) (hi : 7 * t + 7 ≤ L) (KB : ∀ (μ' : gM) (cnt' lc' wc' : Nat) (pl' : Nat → Nat) (k' n' : Nat), RR μ' cnt' lc' wc' pl' → k' ≤ 120 + 7 * (t + 1) → n' ≤ 9100 + 42 * (t + 1) → J p l e room_1 s m #[Value.ref b] below meth c Q g 7 μ' k' n' 1404 [(0, .ref b), (1, .ref (g.2.1 0)), (2, .ref (g.2.1 31)), (3, .ref (g.2.1 25)), (4, .int (nI (7 * t)))] []) {μ : gM} {cnt lc wc : Nat} {pl : Nat → Nat} : RR μ cnt lc wc pl → J p l e room_1 s m #[Value.ref b] below meth c Q g 7 μ (120 + 7 * t) (9100 + 42 * t) 502 [(0, .ref b), (1, .ref (g.2.1 0)), (2, .ref (g.2.1 31)), (3, .ref (g.2.1 25)), (4, .int (nI (7 * t)))] [] := by
  intro h
  refine j_aload_n Z dL_law_502 1 rfl ?_
  refine j_aload_n Z dL_law_503 0 rfl ?_
  refine j_iload Z dL_law_504 4 rfl ?_
  refine j_iconst Z (v := 1) dL_law_506 (by decide) ?_
  refine j_iadd Z dL_law_507 ?_
  refine j_eq (nI_add (7 * t) 1) ?_
  refine j_sld Z hX hbl hg (by omega) (7 * t + 1) (by omega) dL_law_508 ?_
  refine j_aload_n Z dL_law_509 0 rfl ?_
  refine j_iload Z dL_law_510 4 rfl ?_
  refine j_iconst Z (v := 2) dL_law_512 (by decide) ?_
  refine j_iadd Z dL_law_513 ?_
  refine j_eq (nI_add (7 * t) 2) ?_
  refine j_sld Z hX hbl hg (by omega) (7 * t + 2) (by omega) dL_law_514 ?_
  refine j_aload_n Z dL_law_515 0 rfl ?_
  refine j_iload Z dL_law_516 4 rfl ?_
  refine j_iconst Z (v := 3) dL_law_518 (by decide) ?_
  refine j_iadd Z dL_law_519 ?_
  refine j_eq (nI_add (7 * t) 3) ?_
  refine j_sld Z hX hbl hg (by omega) (7 * t + 3) (by omega) dL_law_520 ?_
  refine j_aload_n Z dL_law_521 3 rfl ?_
  refine j_callSWi Z hN (As := [.ref (g.2.1 0), .int (xs (7 * t + 1)), .int (xs (7 * t + 2)), .int (xs (7 * t + 3)), .ref (g.2.1 25)]) (rest := []) (nA := 5) (c_L_tell l hst g μ cnt lc wc h.1 (xs (7 * t + 1)) (xs (7 * t + 2)) (xs (7 * t + 3))) gL_law_L_tell rfl rfl rfl (by decide +kernel) (by decide) rfl dL_law_522 rfl (Nat.le_of_ble_eq_true rfl) (rm_k ht (by decide) (by decide)) (fun r9 μ9 hp => ?_)
  refine j_istore Z dL_law_525 (by decide) [(5, .int r9), (0, .ref b), (1, .ref (g.2.1 0)), (2, .ref (g.2.1 31)), (3, .ref (g.2.1 25)), (4, .int (nI (7 * t)))] rfl ?_
  refine j_aload_n Z dL_law_527 3 rfl ?_
  refine j_aload_n Z dL_law_528 1 rfl ?_
  refine j_iload Z dL_law_529 5 rfl ?_
  refine j_iconst Z (v := 1) dL_law_531 (by decide) ?_
  refine j_iadd Z dL_law_532 ?_
  refine j_eq (nI_add (7 * t) 1) ?_
  refine j_sld Z hX hbl hg (by omega) (7 * t + 1) (by omega) dL_law_533 ?_
  refine j_aload_n Z dL_law_534 1 rfl ?_
  refine j_iload Z dL_law_535 5 rfl ?_
  refine j_iconst Z (v := 2) dL_law_537 (by decide) ?_
  refine j_iadd Z dL_law_538 ?_
  refine j_eq (nI_add (7 * t) 2) ?_
  refine j_sld Z hX hbl hg (by omega) (7 * t + 2) (by omega) dL_law_539 ?_
  refine j_aload_n Z dL_law_540 1 rfl ?_
  refine j_iload Z dL_law_541 5 rfl ?_
  refine j_iconst Z (v := 3) dL_law_543 (by decide) ?_
  refine j_iadd Z dL_law_544 ?_
  refine j_eq (nI_add (7 * t) 3) ?_
  refine j_sld Z hX hbl hg (by omega) (7 * t + 3) (by omega) dL_law_545 ?_
  refine j_callVi Z (As := [.int (xs (7 * t + 1)), .int (xs (7 * t + 2)), .int (xs (7 * t + 3))]) (rest := []) (nA := 3) 31 (by decide) rfl rfl (c_X6_tell l g μ9 cnt lc wc pl (m9_tell h (xs (7 * t + 1)) (xs (7 * t + 2)) (xs (7 * t + 3)) hp) (xs (7 * t + 1)) (xs (7 * t + 2)) (xs (7 * t + 3)) _ rfl) gL_law_X6_tell rfl rfl rfl (by decide +kernel) (by decide) rfl dL_law_546 rfl (Nat.le_of_ble_eq_true rfl) (rm_k0 ht (by decide) (by decide)) (fun r6 μ10 h6 => ?_)
  have hs := st_tell h (xs (7 * t + 1)) (xs (7 * t + 2)) (xs (7 * t + 3)) hp rfl h6
  clear hp h6
  obtain ⟨s1, s2, cnt', lc', wc', pl', h'⟩ := hs
  refine j_istore Z dL_law_549 (by decide) [(6, .int r6), (5, .int r9), (0, .ref b), (1, .ref (g.2.1 0)), (2, .ref (g.2.1 31)), (3, .ref (g.2.1 25)), (4, .int (nI (7 * t)))] rfl ?_
  refine j_aload_n Z dL_law_551 4 rfl ?_
  refine j_callVi Z (As := []) (rest := []) (nA := 0) 31 (by decide) rfl rfl (c_X6_thrown l g μ10) gL_law_X6_thrown rfl rfl rfl (by decide +kernel) (by decide) rfl dL_law_552 rfl (Nat.le_of_ble_eq_true rfl) (rm_k0 ht (by decide) (by decide)) (fun r7 μ7 h7 => ?_)
  obtain ⟨rfl, rfl⟩ := h7
  refine j_iload Z dL_law_555 1 rfl ?_
  refine j_icmp_eq Z 562 dL_law_557 (by decide) (fun h8 => ?_) (fun h8 => absurd s1 h8)
  refine j_iload Z dL_law_562 1 rfl ?_
  have jb : J p l e room_1 s m #[Value.ref b] below meth c Q g 7 μ7 (120 + 7 * t + 4 + 0 + 0) (9100 + 42 * t + 24 + 0 + 0) 579 [(6, .int r6), (5, .int r9), (0, .ref b), (1, .ref (g.2.1 0)), (2, .ref (g.2.1 31)), (3, .ref (g.2.1 25)), (4, .int (nI (7 * t)))] [] := by
    refine j_goto Z 1404 dL_law_579 (by decide) ?_
    exact j_sub [2, 3, 4, 5, 6] rfl (KB _ cnt' lc' wc' pl' _ _ h' (by omega) (by omega))
  refine j_if_ne Z 579 dL_law_564 (by decide) (fun h7 => jb) (fun h7 => ?_)
  have e2 := s2 h7
  refine j_aload_n Z dL_law_567 5 rfl ?_
  refine j_iconst Z (v := 0) dL_law_568 (by decide) ?_
  refine j_lld Z 25 (by decide) (fun _ => rfl) 0 (by decide) (by decide) (by decide) dL_law_569 ?_
  refine j_iload Z dL_law_570 0 rfl ?_
  refine j_i2l Z dL_law_572 rfl ?_
  refine j_lcmp Z dL_law_573 ?_
  refine j_if_eq Z 579 dL_law_574 (by decide) (fun h6 => jb) (fun h6 => absurd (by rw [e2]; exact lg_same _) h6)
set_option maxRecDepth 100000 in
set_option maxHeartbeats 4000000 in
theorem law_582 {p : Program} {l : Launch} {e : Env} {s : State} {m : MethodId} {below : List Frame} {meth : Method} {c : Code} {b L : Nat} {xs : Nat → Int32} {g : gC} {Q : State → Prop} (hst : l.stackTraces = false) (Z : gF p l e room_1 s m #[Value.ref b] below meth c cL_law 7 wsL_law RL g) (hN : gN s) (hX : va_X b L xs s s.heap) (hbl : b < s.heap.size) (hg : g.2.2.2 = s.heap.size) (hL : L ≤ 3584) {t : Nat} (ht : t < 512) (hi : 7 * t + 7 ≤ L) (KB : ∀ (μ' : gM) (cnt' lc' wc' : Nat) (pl' : Nat → Nat) (k' n' : Nat), RR μ' cnt' lc' wc' pl' → k' ≤ 120 + 7 * (t + 1) → n' ≤ 9100 + 42 * (t + 1) → J p l e room_1 s m #[Value.ref b] below meth c Q g 7 μ' k' n' 1404 [(0, .ref b), (1, .ref (g.2.1 0)), (2, .ref (g.2.1 31)), (3, .ref (g.2.1 25)), (4, .int (nI (7 * t)))] []) {μ : gM} {cnt lc wc : Nat} {pl : Nat → Nat} : RR μ cnt lc wc pl → J p l e room_1 s m #[Value.ref b] below meth c Q g 7 μ (120 + 7 * t) (9100 + 42 * t) 582 [(0, .ref b), (1, .ref (g.2.1 0)), (2, .ref (g.2.1 31)), (3, .ref (g.2.1 25)), (4, .int (nI (7 * t)))] [] := by
  intro h
  refine j_aload_n Z dL_law_582 1 rfl ?_
  refine j_aload_n Z dL_law_583 0 rfl ?_
  refine j_iload Z dL_law_584 4 rfl ?_
  refine j_iconst Z (v := 1) dL_law_586 (by decide) ?_
  refine j_iadd Z dL_law_587 ?_
  refine j_eq (nI_add (7 * t) 1) ?_
  refine j_sld Z hX hbl hg (by omega) (7 * t + 1) (by omega) dL_law_588 ?_
  refine j_aload_n Z dL_law_589 0 rfl ?_
  refine j_iload Z dL_law_590 4 rfl ?_
  refine j_iconst Z (v := 2) dL_law_592 (by decide) ?_
  refine j_iadd Z dL_law_593 ?_
  refine j_eq (nI_add (7 * t) 2) ?_
  refine j_sld Z hX hbl hg (by omega) (7 * t + 2) (by omega) dL_law_594 ?_
  refine j_aload_n Z dL_law_595 3 rfl ?_
  refine j_callSWi Z hN (As := [.ref (g.2.1 0), .int (xs (7 * t + 1)), .int (xs (7 * t + 2)), .ref (g.2.1 25)]) (rest := []) (nA := 4) (c_L_counts l hst g μ cnt lc wc h.1 (xs (7 * t + 1)) (xs (7 * t + 2))) gL_law_L_counts rfl rfl rfl (by decide +kernel) (by decide) rfl dL_law_596 rfl (Nat.le_of_ble_eq_true rfl) (rm_k ht (by decide) (by decide)) (fun r9 μ9 hp => ?_)
  refine j_istore Z dL_law_599 (by decide) [(5, .int r9), (0, .ref b), (1, .ref (g.2.1 0)), (2, .ref (g.2.1 31)), (3, .ref (g.2.1 25)), (4, .int (nI (7 * t)))] rfl ?_
  refine j_aload_n Z dL_law_601 3 rfl ?_
  refine j_aload_n Z dL_law_602 1 rfl ?_
  refine j_iload Z dL_law_603 5 rfl ?_
  refine j_iconst Z (v := 1) dL_law_605 (by decide) ?_
  refine j_iadd Z dL_law_606 ?_
  refine j_eq (nI_add (7 * t) 1) ?_
  refine j_sld Z hX hbl hg (by omega) (7 * t + 1) (by omega) dL_law_607 ?_
  refine j_aload_n Z dL_law_608 1 rfl ?_
  refine j_iload Z dL_law_609 5 rfl ?_
  refine j_iconst Z (v := 2) dL_law_611 (by decide) ?_
  refine j_iadd Z dL_law_612 ?_
  refine j_eq (nI_add (7 * t) 2) ?_
  refine j_sld Z hX hbl hg (by omega) (7 * t + 2) (by omega) dL_law_613 ?_
  refine j_callVi Z (As := [.int (xs (7 * t + 1)), .int (xs (7 * t + 2))]) (rest := []) (nA := 2) 31 (by decide) rfl rfl (c_X6_counts l g μ9 cnt lc wc pl (m9_counts h (xs (7 * t + 1)) (xs (7 * t + 2)) hp) (xs (7 * t + 1)) (xs (7 * t + 2)) _ rfl) gL_law_X6_counts rfl rfl rfl (by decide +kernel) (by decide) rfl dL_law_614 rfl (Nat.le_of_ble_eq_true rfl) (rm_k0 ht (by decide) (by decide)) (fun r6 μ10 h6 => ?_)
  have hs := st_counts h (xs (7 * t + 1)) (xs (7 * t + 2)) hp rfl h6
  have hb6 : r6 = 0 ∨ r6 = 1 := by rw [h6.1]; exact ite_01
  clear hp h6
  obtain ⟨s1, s2, cnt', lc', wc', pl', h'⟩ := hs
  refine j_istore Z dL_law_617 (by decide) [(6, .int r6), (5, .int r9), (0, .ref b), (1, .ref (g.2.1 0)), (2, .ref (g.2.1 31)), (3, .ref (g.2.1 25)), (4, .int (nI (7 * t)))] rfl ?_
  refine j_aload_n Z dL_law_619 4 rfl ?_
  refine j_callVi Z (As := []) (rest := []) (nA := 0) 31 (by decide) rfl rfl (c_X6_thrown l g μ10) gL_law_X6_thrown rfl rfl rfl (by decide +kernel) (by decide) rfl dL_law_620 rfl (Nat.le_of_ble_eq_true rfl) (rm_k0 ht (by decide) (by decide)) (fun r7 μ7 h7 => ?_)
  obtain ⟨rfl, rfl⟩ := h7
  refine j_iload Z dL_law_623 1 rfl ?_
  refine j_icmp_eq Z 630 dL_law_625 (by decide) (fun h8 => ?_) (fun h8 => absurd s1 h8)
  refine j_iload Z dL_law_630 1 rfl ?_
  have jb : J p l e room_1 s m #[Value.ref b] below meth c Q g 7 μ7 (120 + 7 * t + 2 + 0 + 0) (9100 + 42 * t + 12 + 0 + 0) 654 [(6, .int r6), (5, .int r9), (0, .ref b), (1, .ref (g.2.1 0)), (2, .ref (g.2.1 31)), (3, .ref (g.2.1 25)), (4, .int (nI (7 * t)))] [] := by
    refine j_goto Z 1404 dL_law_654 (by decide) ?_
    exact j_sub [2, 3, 4, 5, 6] rfl (KB _ cnt' lc' wc' pl' _ _ h' (by omega) (by omega))
  refine j_if_ne Z 654 dL_law_632 (by decide) (fun h7 => jb) (fun h7 => ?_)
  have e2 := s2 h7
  refine j_aload_n Z dL_law_635 5 rfl ?_
  refine j_iconst Z (v := 0) dL_law_636 (by decide) ?_
  refine j_lld Z 25 (by decide) (fun _ => rfl) 0 (by decide) (by decide) (by decide) dL_law_637 ?_
  refine j_iload Z dL_law_638 0 rfl ?_
  refine j_if_eq Z 647 dL_law_640 (by decide) (fun h6 => ?_) (fun h6 => ?_)
  · refine j_lconst Z (v := 0) dL_law_647 (by decide) ?_
    refine j_lcmp Z dL_law_648 ?_
    exact j_if_eq Z 654 dL_law_649 (by decide) (fun _ => jb) (fun h5 => absurd (by rw [e2, h6]; exact lg_same _) h5)
  · refine j_lconst Z (v := 1) dL_law_643 (by decide) ?_
    refine j_goto Z 648 dL_law_644 (by decide) ?_
    refine j_lcmp Z dL_law_648 ?_
    exact j_if_eq Z 654 dL_law_649 (by decide) (fun _ => jb) (fun h5 => absurd (by rw [e2, hb6.resolve_left h6]; exact lg_same _) h5)
set_option maxRecDepth 100000 in
set_option maxHeartbeats 4000000 in
theorem law_657 {p : Program} {l : Launch} {e : Env} {s : State} {m : MethodId} {below : List Frame} {meth : Method} {c : Code} {b L : Nat} {xs : Nat → Int32} {g : gC} {Q : State → Prop} (hst : l.stackTraces = false) (Z : gF p l e room_1 s m #[Value.ref b] below meth c cL_law 7 wsL_law RL g) (hN : gN s) (hX : va_X b L xs s s.heap) (hbl : b < s.heap.size) (hg : g.2.2.2 = s.heap.size) (hL : L ≤ 3584) {t : Nat} (ht : t < 512) (hi : 7 * t + 7 ≤ L) (KB : ∀ (μ' : gM) (cnt' lc' wc' : Nat) (pl' : Nat → Nat) (k' n' : Nat), RR μ' cnt' lc' wc' pl' → k' ≤ 120 + 7 * (t + 1) → n' ≤ 9100 + 42 * (t + 1) → J p l e room_1 s m #[Value.ref b] below meth c Q g 7 μ' k' n' 1404 [(0, .ref b), (1, .ref (g.2.1 0)), (2, .ref (g.2.1 31)), (3, .ref (g.2.1 25)), (4, .int (nI (7 * t)))] []) {μ : gM} {cnt lc wc : Nat} {pl : Nat → Nat} : RR μ cnt lc wc pl → J p l e room_1 s m #[Value.ref b] below meth c Q g 7 μ (120 + 7 * t) (9100 + 42 * t) 657 [(0, .ref b), (1, .ref (g.2.1 0)), (2, .ref (g.2.1 31)), (3, .ref (g.2.1 25)), (4, .int (nI (7 * t)))] [] := by
  intro h
  refine j_aload_n Z dL_law_657 1 rfl ?_
  refine j_aload_n Z dL_law_658 0 rfl ?_
  refine j_iload Z dL_law_659 4 rfl ?_
  refine j_iconst Z (v := 1) dL_law_661 (by decide) ?_
  refine j_iadd Z dL_law_662 ?_
  refine j_eq (nI_add (7 * t) 1) ?_
  refine j_sld Z hX hbl hg (by omega) (7 * t + 1) (by omega) dL_law_663 ?_
  refine j_aload_n Z dL_law_664 3 rfl ?_
  refine j_callSWi Z hN (As := [.ref (g.2.1 0), .int (xs (7 * t + 1)), .ref (g.2.1 25)]) (rest := []) (nA := 3) (c_L_things l hst g μ cnt lc wc h.1 (xs (7 * t + 1))) gL_law_L_things rfl rfl rfl (by decide +kernel) (by decide) rfl dL_law_665 rfl (Nat.le_of_ble_eq_true rfl) (rm_k ht (by decide) (by decide)) (fun r9 μ9 hp => ?_)
  refine j_istore Z dL_law_668 (by decide) [(5, .int r9), (0, .ref b), (1, .ref (g.2.1 0)), (2, .ref (g.2.1 31)), (3, .ref (g.2.1 25)), (4, .int (nI (7 * t)))] rfl ?_
  refine j_aload_n Z dL_law_670 3 rfl ?_
  refine j_aload_n Z dL_law_671 1 rfl ?_
  refine j_iload Z dL_law_672 5 rfl ?_
  refine j_iconst Z (v := 1) dL_law_674 (by decide) ?_
  refine j_iadd Z dL_law_675 ?_
  refine j_eq (nI_add (7 * t) 1) ?_
  refine j_sld Z hX hbl hg (by omega) (7 * t + 1) (by omega) dL_law_676 ?_
  refine j_callVi Z (As := [.int (xs (7 * t + 1))]) (rest := []) (nA := 1) 31 (by decide) rfl rfl (c_X6_things l g μ9 cnt lc wc pl (m9_things h (xs (7 * t + 1)) hp) (xs (7 * t + 1)) _ rfl) gL_law_X6_things rfl rfl rfl (by decide +kernel) (by decide) rfl dL_law_677 rfl (Nat.le_of_ble_eq_true rfl) (rm_k0 ht (by decide) (by decide)) (fun r6 μ10 h6 => ?_)
  have hs := st_things h (xs (7 * t + 1)) hp rfl h6
  clear hp h6
  obtain ⟨s1, s2, cnt', lc', wc', pl', h'⟩ := hs
  refine j_istore Z dL_law_680 (by decide) [(6, .int r6), (5, .int r9), (0, .ref b), (1, .ref (g.2.1 0)), (2, .ref (g.2.1 31)), (3, .ref (g.2.1 25)), (4, .int (nI (7 * t)))] rfl ?_
  refine j_aload_n Z dL_law_682 4 rfl ?_
  refine j_callVi Z (As := []) (rest := []) (nA := 0) 31 (by decide) rfl rfl (c_X6_thrown l g μ10) gL_law_X6_thrown rfl rfl rfl (by decide +kernel) (by decide) rfl dL_law_683 rfl (Nat.le_of_ble_eq_true rfl) (rm_k0 ht (by decide) (by decide)) (fun r7 μ7 h7 => ?_)
  obtain ⟨rfl, rfl⟩ := h7
  refine j_iload Z dL_law_686 1 rfl ?_
  refine j_icmp_eq Z 693 dL_law_688 (by decide) (fun h8 => ?_) (fun h8 => absurd s1 h8)
  refine j_iload Z dL_law_693 1 rfl ?_
  have jb : J p l e room_1 s m #[Value.ref b] below meth c Q g 7 μ7 (120 + 7 * t + 1 + 0 + 0) (9100 + 42 * t + 6 + 0 + 0) 710 [(6, .int r6), (5, .int r9), (0, .ref b), (1, .ref (g.2.1 0)), (2, .ref (g.2.1 31)), (3, .ref (g.2.1 25)), (4, .int (nI (7 * t)))] [] := by
    refine j_goto Z 1404 dL_law_710 (by decide) ?_
    exact j_sub [2, 3, 4, 5, 6] rfl (KB _ cnt' lc' wc' pl' _ _ h' (by omega) (by omega))
  refine j_if_ne Z 710 dL_law_695 (by decide) (fun h7 => jb) (fun h7 => ?_)
  have e2 := s2 h7
  refine j_aload_n Z dL_law_698 5 rfl ?_
  refine j_iconst Z (v := 0) dL_law_699 (by decide) ?_
  refine j_lld Z 25 (by decide) (fun _ => rfl) 0 (by decide) (by decide) (by decide) dL_law_700 ?_
  refine j_iload Z dL_law_701 0 rfl ?_
  refine j_i2l Z dL_law_703 rfl ?_
  refine j_lcmp Z dL_law_704 ?_
  refine j_if_eq Z 710 dL_law_705 (by decide) (fun h6 => jb) (fun h6 => absurd (by rw [e2]; exact lg_same _) h6)
set_option maxRecDepth 100000 in
set_option maxHeartbeats 4000000 in
theorem law_713 {p : Program} {l : Launch} {e : Env} {s : State} {m : MethodId} {below : List Frame} {meth : Method} {c : Code} {b L : Nat} {xs : Nat → Int32} {g : gC} {Q : State → Prop} (hst : l.stackTraces = false) (Z : gF p l e room_1 s m #[Value.ref b] below meth c cL_law 7 wsL_law RL g) (hN : gN s) (hX : va_X b L xs s s.heap) (hbl : b < s.heap.size) (hg : g.2.2.2 = s.heap.size) (hL : L ≤ 3584) {t : Nat} (ht : t < 512) (hi : 7 * t + 7 ≤ L) (KB : ∀ (μ' : gM) (cnt' lc' wc' : Nat) (pl' : Nat → Nat) (k' n' : Nat), RR μ' cnt' lc' wc' pl' → k' ≤ 120 + 7 * (t + 1) → n' ≤ 9100 + 42 * (t + 1) → J p l e room_1 s m #[Value.ref b] below meth c Q g 7 μ' k' n' 1404 [(0, .ref b), (1, .ref (g.2.1 0)), (2, .ref (g.2.1 31)), (3, .ref (g.2.1 25)), (4, .int (nI (7 * t)))] []) {μ : gM} {cnt lc wc : Nat} {pl : Nat → Nat} : RR μ cnt lc wc pl → J p l e room_1 s m #[Value.ref b] below meth c Q g 7 μ (120 + 7 * t) (9100 + 42 * t) 713 [(0, .ref b), (1, .ref (g.2.1 0)), (2, .ref (g.2.1 31)), (3, .ref (g.2.1 25)), (4, .int (nI (7 * t)))] [] := by
  intro h
  refine j_aload_n Z dL_law_713 1 rfl ?_
  refine j_aload_n Z dL_law_714 0 rfl ?_
  refine j_iload Z dL_law_715 4 rfl ?_
  refine j_iconst Z (v := 1) dL_law_717 (by decide) ?_
  refine j_iadd Z dL_law_718 ?_
  refine j_eq (nI_add (7 * t) 1) ?_
  refine j_sld Z hX hbl hg (by omega) (7 * t + 1) (by omega) dL_law_719 ?_
  refine j_aload_n Z dL_law_720 0 rfl ?_
  refine j_iload Z dL_law_721 4 rfl ?_
  refine j_iconst Z (v := 2) dL_law_723 (by decide) ?_
  refine j_iadd Z dL_law_724 ?_
  refine j_eq (nI_add (7 * t) 2) ?_
  refine j_sld Z hX hbl hg (by omega) (7 * t + 2) (by omega) dL_law_725 ?_
  refine j_aload_n Z dL_law_726 3 rfl ?_
  refine j_callSWi Z hN (As := [.ref (g.2.1 0), .int (xs (7 * t + 1)), .int (xs (7 * t + 2)), .ref (g.2.1 25)]) (rest := []) (nA := 4) (c_L_thingOf l hst g μ cnt lc wc h.1 (xs (7 * t + 1)) (xs (7 * t + 2))) gL_law_L_thingOf rfl rfl rfl (by decide +kernel) (by decide) rfl dL_law_727 rfl (Nat.le_of_ble_eq_true rfl) (rm_k ht (by decide) (by decide)) (fun r9 μ9 hp => ?_)
  refine j_istore Z dL_law_730 (by decide) [(5, .int r9), (0, .ref b), (1, .ref (g.2.1 0)), (2, .ref (g.2.1 31)), (3, .ref (g.2.1 25)), (4, .int (nI (7 * t)))] rfl ?_
  refine j_aload_n Z dL_law_732 3 rfl ?_
  refine j_aload_n Z dL_law_733 1 rfl ?_
  refine j_iload Z dL_law_734 5 rfl ?_
  refine j_iconst Z (v := 1) dL_law_736 (by decide) ?_
  refine j_iadd Z dL_law_737 ?_
  refine j_eq (nI_add (7 * t) 1) ?_
  refine j_sld Z hX hbl hg (by omega) (7 * t + 1) (by omega) dL_law_738 ?_
  refine j_aload_n Z dL_law_739 1 rfl ?_
  refine j_iload Z dL_law_740 5 rfl ?_
  refine j_iconst Z (v := 2) dL_law_742 (by decide) ?_
  refine j_iadd Z dL_law_743 ?_
  refine j_eq (nI_add (7 * t) 2) ?_
  refine j_sld Z hX hbl hg (by omega) (7 * t + 2) (by omega) dL_law_744 ?_
  refine j_callVi Z (As := [.int (xs (7 * t + 1)), .int (xs (7 * t + 2))]) (rest := []) (nA := 2) 31 (by decide) rfl rfl (c_X6_thingOf l g μ9 cnt lc wc pl (m9_thingOf h (xs (7 * t + 1)) (xs (7 * t + 2)) hp) (xs (7 * t + 1)) (xs (7 * t + 2)) _ rfl) gL_law_X6_thingOf rfl rfl rfl (by decide +kernel) (by decide) rfl dL_law_745 rfl (Nat.le_of_ble_eq_true rfl) (rm_k0 ht (by decide) (by decide)) (fun r6 μ10 h6 => ?_)
  have hs := st_thingOf h (xs (7 * t + 1)) (xs (7 * t + 2)) hp rfl h6
  clear hp h6
  obtain ⟨s1, s2, cnt', lc', wc', pl', h'⟩ := hs
  refine j_istore Z dL_law_748 (by decide) [(6, .int r6), (5, .int r9), (0, .ref b), (1, .ref (g.2.1 0)), (2, .ref (g.2.1 31)), (3, .ref (g.2.1 25)), (4, .int (nI (7 * t)))] rfl ?_
  refine j_aload_n Z dL_law_750 4 rfl ?_
  refine j_callVi Z (As := []) (rest := []) (nA := 0) 31 (by decide) rfl rfl (c_X6_thrown l g μ10) gL_law_X6_thrown rfl rfl rfl (by decide +kernel) (by decide) rfl dL_law_751 rfl (Nat.le_of_ble_eq_true rfl) (rm_k0 ht (by decide) (by decide)) (fun r7 μ7 h7 => ?_)
  obtain ⟨rfl, rfl⟩ := h7
  refine j_iload Z dL_law_754 1 rfl ?_
  refine j_icmp_eq Z 761 dL_law_756 (by decide) (fun h8 => ?_) (fun h8 => absurd s1 h8)
  refine j_iload Z dL_law_761 1 rfl ?_
  have jb : J p l e room_1 s m #[Value.ref b] below meth c Q g 7 μ7 (120 + 7 * t + 3 + 0 + 0) (9100 + 42 * t + 18 + 0 + 0) 778 [(6, .int r6), (5, .int r9), (0, .ref b), (1, .ref (g.2.1 0)), (2, .ref (g.2.1 31)), (3, .ref (g.2.1 25)), (4, .int (nI (7 * t)))] [] := by
    refine j_goto Z 1404 dL_law_778 (by decide) ?_
    exact j_sub [2, 3, 4, 5, 6] rfl (KB _ cnt' lc' wc' pl' _ _ h' (by omega) (by omega))
  refine j_if_ne Z 778 dL_law_763 (by decide) (fun h7 => jb) (fun h7 => ?_)
  have e2 := s2 h7
  refine j_aload_n Z dL_law_766 5 rfl ?_
  refine j_iconst Z (v := 0) dL_law_767 (by decide) ?_
  refine j_lld Z 25 (by decide) (fun _ => rfl) 0 (by decide) (by decide) (by decide) dL_law_768 ?_
  refine j_iload Z dL_law_769 0 rfl ?_
  refine j_i2l Z dL_law_771 rfl ?_
  refine j_lcmp Z dL_law_772 ?_
  refine j_if_eq Z 778 dL_law_773 (by decide) (fun h6 => jb) (fun h6 => absurd (by rw [e2]; exact lg_same _) h6)
set_option maxRecDepth 100000 in
set_option maxHeartbeats 4000000 in
theorem law_781 {p : Program} {l : Launch} {e : Env} {s : State} {m : MethodId} {below : List Frame} {meth : Method} {c : Code} {b L : Nat} {xs : Nat → Int32} {g : gC} {Q : State → Prop} (hst : l.stackTraces = false) (Z : gF p l e room_1 s m #[Value.ref b] below meth c cL_law 7 wsL_law RL g) (hN : gN s) (hX : va_X b L xs s s.heap) (hbl : b < s.heap.size) (hg : g.2.2.2 = s.heap.size) (hL : L ≤ 3584) {t : Nat} (ht : t < 512) (hi : 7 * t + 7 ≤ L) (KB : ∀ (μ' : gM) (cnt' lc' wc' : Nat) (pl' : Nat → Nat) (k' n' : Nat), RR μ' cnt' lc' wc' pl' → k' ≤ 120 + 7 * (t + 1) → n' ≤ 9100 + 42 * (t + 1) → J p l e room_1 s m #[Value.ref b] below meth c Q g 7 μ' k' n' 1404 [(0, .ref b), (1, .ref (g.2.1 0)), (2, .ref (g.2.1 31)), (3, .ref (g.2.1 25)), (4, .int (nI (7 * t)))] []) {μ : gM} {cnt lc wc : Nat} {pl : Nat → Nat} : RR μ cnt lc wc pl → J p l e room_1 s m #[Value.ref b] below meth c Q g 7 μ (120 + 7 * t) (9100 + 42 * t) 781 [(0, .ref b), (1, .ref (g.2.1 0)), (2, .ref (g.2.1 31)), (3, .ref (g.2.1 25)), (4, .int (nI (7 * t)))] [] := by
  intro h
  refine j_aload_n Z dL_law_781 1 rfl ?_
  refine j_aload_n Z dL_law_782 0 rfl ?_
  refine j_iload Z dL_law_783 4 rfl ?_
  refine j_iconst Z (v := 1) dL_law_785 (by decide) ?_
  refine j_iadd Z dL_law_786 ?_
  refine j_eq (nI_add (7 * t) 1) ?_
  refine j_sld Z hX hbl hg (by omega) (7 * t + 1) (by omega) dL_law_787 ?_
  refine j_aload_n Z dL_law_788 0 rfl ?_
  refine j_iload Z dL_law_789 4 rfl ?_
  refine j_iconst Z (v := 2) dL_law_791 (by decide) ?_
  refine j_iadd Z dL_law_792 ?_
  refine j_eq (nI_add (7 * t) 2) ?_
  refine j_sld Z hX hbl hg (by omega) (7 * t + 2) (by omega) dL_law_793 ?_
  refine j_aload_n Z dL_law_794 0 rfl ?_
  refine j_iload Z dL_law_795 4 rfl ?_
  refine j_iconst Z (v := 3) dL_law_797 (by decide) ?_
  refine j_iadd Z dL_law_798 ?_
  refine j_eq (nI_add (7 * t) 3) ?_
  refine j_sld Z hX hbl hg (by omega) (7 * t + 3) (by omega) dL_law_799 ?_
  refine j_aload_n Z dL_law_800 3 rfl ?_
  refine j_callSWi Z hN (As := [.ref (g.2.1 0), .int (xs (7 * t + 1)), .int (xs (7 * t + 2)), .int (xs (7 * t + 3)), .ref (g.2.1 25)]) (rest := []) (nA := 5) (c_L_value l hst g μ cnt lc wc h.1 (xs (7 * t + 1)) (xs (7 * t + 2)) (xs (7 * t + 3))) gL_law_L_value rfl rfl rfl (by decide +kernel) (by decide) rfl dL_law_801 rfl (Nat.le_of_ble_eq_true rfl) (rm_k ht (by decide) (by decide)) (fun r9 μ9 hp => ?_)
  refine j_istore Z dL_law_804 (by decide) [(5, .int r9), (0, .ref b), (1, .ref (g.2.1 0)), (2, .ref (g.2.1 31)), (3, .ref (g.2.1 25)), (4, .int (nI (7 * t)))] rfl ?_
  refine j_aload_n Z dL_law_806 3 rfl ?_
  refine j_aload_n Z dL_law_807 1 rfl ?_
  refine j_iload Z dL_law_808 5 rfl ?_
  refine j_iconst Z (v := 1) dL_law_810 (by decide) ?_
  refine j_iadd Z dL_law_811 ?_
  refine j_eq (nI_add (7 * t) 1) ?_
  refine j_sld Z hX hbl hg (by omega) (7 * t + 1) (by omega) dL_law_812 ?_
  refine j_aload_n Z dL_law_813 1 rfl ?_
  refine j_iload Z dL_law_814 5 rfl ?_
  refine j_iconst Z (v := 2) dL_law_816 (by decide) ?_
  refine j_iadd Z dL_law_817 ?_
  refine j_eq (nI_add (7 * t) 2) ?_
  refine j_sld Z hX hbl hg (by omega) (7 * t + 2) (by omega) dL_law_818 ?_
  refine j_aload_n Z dL_law_819 1 rfl ?_
  refine j_iload Z dL_law_820 5 rfl ?_
  refine j_iconst Z (v := 3) dL_law_822 (by decide) ?_
  refine j_iadd Z dL_law_823 ?_
  refine j_eq (nI_add (7 * t) 3) ?_
  refine j_sld Z hX hbl hg (by omega) (7 * t + 3) (by omega) dL_law_824 ?_
  refine j_callVi Z (As := [.int (xs (7 * t + 1)), .int (xs (7 * t + 2)), .int (xs (7 * t + 3))]) (rest := []) (nA := 3) 31 (by decide) rfl rfl (c_X6_value l g μ9 cnt lc wc pl (m9_value h (xs (7 * t + 1)) (xs (7 * t + 2)) (xs (7 * t + 3)) hp) (xs (7 * t + 1)) (xs (7 * t + 2)) (xs (7 * t + 3)) _ rfl) gL_law_X6_value rfl rfl rfl (by decide +kernel) (by decide) rfl dL_law_825 rfl (Nat.le_of_ble_eq_true rfl) (rm_k0 ht (by decide) (by decide)) (fun r6 μ10 h6 => ?_)
  have hs := st_value h (xs (7 * t + 1)) (xs (7 * t + 2)) (xs (7 * t + 3)) hp rfl h6
  clear hp h6
  obtain ⟨s1, s2, cnt', lc', wc', pl', h'⟩ := hs
  refine j_istore Z dL_law_828 (by decide) [(6, .int r6), (5, .int r9), (0, .ref b), (1, .ref (g.2.1 0)), (2, .ref (g.2.1 31)), (3, .ref (g.2.1 25)), (4, .int (nI (7 * t)))] rfl ?_
  refine j_aload_n Z dL_law_830 4 rfl ?_
  refine j_callVi Z (As := []) (rest := []) (nA := 0) 31 (by decide) rfl rfl (c_X6_thrown l g μ10) gL_law_X6_thrown rfl rfl rfl (by decide +kernel) (by decide) rfl dL_law_831 rfl (Nat.le_of_ble_eq_true rfl) (rm_k0 ht (by decide) (by decide)) (fun r7 μ7 h7 => ?_)
  obtain ⟨rfl, rfl⟩ := h7
  refine j_iload Z dL_law_834 1 rfl ?_
  refine j_icmp_eq Z 841 dL_law_836 (by decide) (fun h8 => ?_) (fun h8 => absurd s1 h8)
  refine j_iload Z dL_law_841 1 rfl ?_
  have jb : J p l e room_1 s m #[Value.ref b] below meth c Q g 7 μ7 (120 + 7 * t + 4 + 0 + 0) (9100 + 42 * t + 24 + 0 + 0) 858 [(6, .int r6), (5, .int r9), (0, .ref b), (1, .ref (g.2.1 0)), (2, .ref (g.2.1 31)), (3, .ref (g.2.1 25)), (4, .int (nI (7 * t)))] [] := by
    refine j_goto Z 1404 dL_law_858 (by decide) ?_
    exact j_sub [2, 3, 4, 5, 6] rfl (KB _ cnt' lc' wc' pl' _ _ h' (by omega) (by omega))
  refine j_if_ne Z 858 dL_law_843 (by decide) (fun h7 => jb) (fun h7 => ?_)
  have e2 := s2 h7
  refine j_aload_n Z dL_law_846 5 rfl ?_
  refine j_iconst Z (v := 0) dL_law_847 (by decide) ?_
  refine j_lld Z 25 (by decide) (fun _ => rfl) 0 (by decide) (by decide) (by decide) dL_law_848 ?_
  refine j_iload Z dL_law_849 0 rfl ?_
  refine j_i2l Z dL_law_851 rfl ?_
  refine j_lcmp Z dL_law_852 ?_
  refine j_if_eq Z 858 dL_law_853 (by decide) (fun h6 => jb) (fun h6 => absurd (by rw [e2]; exact lg_same _) h6)
set_option maxRecDepth 100000 in
set_option maxHeartbeats 4000000 in
theorem law_861 {p : Program} {l : Launch} {e : Env} {s : State} {m : MethodId} {below : List Frame} {meth : Method} {c : Code} {b L : Nat} {xs : Nat → Int32} {g : gC} {Q : State → Prop} (hst : l.stackTraces = false) (Z : gF p l e room_1 s m #[Value.ref b] below meth c cL_law 7 wsL_law RL g) (hN : gN s) (hX : va_X b L xs s s.heap) (hbl : b < s.heap.size) (hg : g.2.2.2 = s.heap.size) (hL : L ≤ 3584) {t : Nat} (ht : t < 512) (hi : 7 * t + 7 ≤ L) (KB : ∀ (μ' : gM) (cnt' lc' wc' : Nat) (pl' : Nat → Nat) (k' n' : Nat), RR μ' cnt' lc' wc' pl' → k' ≤ 120 + 7 * (t + 1) → n' ≤ 9100 + 42 * (t + 1) → J p l e room_1 s m #[Value.ref b] below meth c Q g 7 μ' k' n' 1404 [(0, .ref b), (1, .ref (g.2.1 0)), (2, .ref (g.2.1 31)), (3, .ref (g.2.1 25)), (4, .int (nI (7 * t)))] []) {μ : gM} {cnt lc wc : Nat} {pl : Nat → Nat} : RR μ cnt lc wc pl → J p l e room_1 s m #[Value.ref b] below meth c Q g 7 μ (120 + 7 * t) (9100 + 42 * t) 861 [(0, .ref b), (1, .ref (g.2.1 0)), (2, .ref (g.2.1 31)), (3, .ref (g.2.1 25)), (4, .int (nI (7 * t)))] [] := by
  intro h
  refine j_aload_n Z dL_law_861 1 rfl ?_
  refine j_aload_n Z dL_law_862 0 rfl ?_
  refine j_iload Z dL_law_863 4 rfl ?_
  refine j_iconst Z (v := 1) dL_law_865 (by decide) ?_
  refine j_iadd Z dL_law_866 ?_
  refine j_eq (nI_add (7 * t) 1) ?_
  refine j_sld Z hX hbl hg (by omega) (7 * t + 1) (by omega) dL_law_867 ?_
  refine j_aload_n Z dL_law_868 0 rfl ?_
  refine j_iload Z dL_law_869 4 rfl ?_
  refine j_iconst Z (v := 2) dL_law_871 (by decide) ?_
  refine j_iadd Z dL_law_872 ?_
  refine j_eq (nI_add (7 * t) 2) ?_
  refine j_sld Z hX hbl hg (by omega) (7 * t + 2) (by omega) dL_law_873 ?_
  refine j_aload_n Z dL_law_874 3 rfl ?_
  refine j_callSWi Z hN (As := [.ref (g.2.1 0), .int (xs (7 * t + 1)), .int (xs (7 * t + 2)), .ref (g.2.1 25)]) (rest := []) (nA := 4) (c_L_disputed l hst g μ cnt lc wc h.1 (xs (7 * t + 1)) (xs (7 * t + 2))) gL_law_L_disputed rfl rfl rfl (by decide +kernel) (by decide) rfl dL_law_875 rfl (Nat.le_of_ble_eq_true rfl) (rm_k ht (by decide) (by decide)) (fun r9 μ9 hp => ?_)
  refine j_istore Z dL_law_878 (by decide) [(5, .int r9), (0, .ref b), (1, .ref (g.2.1 0)), (2, .ref (g.2.1 31)), (3, .ref (g.2.1 25)), (4, .int (nI (7 * t)))] rfl ?_
  refine j_aload_n Z dL_law_880 3 rfl ?_
  refine j_aload_n Z dL_law_881 1 rfl ?_
  refine j_iload Z dL_law_882 5 rfl ?_
  refine j_iconst Z (v := 1) dL_law_884 (by decide) ?_
  refine j_iadd Z dL_law_885 ?_
  refine j_eq (nI_add (7 * t) 1) ?_
  refine j_sld Z hX hbl hg (by omega) (7 * t + 1) (by omega) dL_law_886 ?_
  refine j_aload_n Z dL_law_887 1 rfl ?_
  refine j_iload Z dL_law_888 5 rfl ?_
  refine j_iconst Z (v := 2) dL_law_890 (by decide) ?_
  refine j_iadd Z dL_law_891 ?_
  refine j_eq (nI_add (7 * t) 2) ?_
  refine j_sld Z hX hbl hg (by omega) (7 * t + 2) (by omega) dL_law_892 ?_
  refine j_callVi Z (As := [.int (xs (7 * t + 1)), .int (xs (7 * t + 2))]) (rest := []) (nA := 2) 31 (by decide) rfl rfl (c_X6_disputed l g μ9 cnt lc wc pl (m9_disputed h (xs (7 * t + 1)) (xs (7 * t + 2)) hp) (xs (7 * t + 1)) (xs (7 * t + 2)) _ rfl) gL_law_X6_disputed rfl rfl rfl (by decide +kernel) (by decide) rfl dL_law_893 rfl (Nat.le_of_ble_eq_true rfl) (rm_k0 ht (by decide) (by decide)) (fun r6 μ10 h6 => ?_)
  have hs := st_disputed h (xs (7 * t + 1)) (xs (7 * t + 2)) hp rfl h6
  clear hp h6
  obtain ⟨s1, s2, cnt', lc', wc', pl', h'⟩ := hs
  refine j_istore Z dL_law_896 (by decide) [(6, .int r6), (5, .int r9), (0, .ref b), (1, .ref (g.2.1 0)), (2, .ref (g.2.1 31)), (3, .ref (g.2.1 25)), (4, .int (nI (7 * t)))] rfl ?_
  refine j_aload_n Z dL_law_898 4 rfl ?_
  refine j_callVi Z (As := []) (rest := []) (nA := 0) 31 (by decide) rfl rfl (c_X6_thrown l g μ10) gL_law_X6_thrown rfl rfl rfl (by decide +kernel) (by decide) rfl dL_law_899 rfl (Nat.le_of_ble_eq_true rfl) (rm_k0 ht (by decide) (by decide)) (fun r7 μ7 h7 => ?_)
  obtain ⟨rfl, rfl⟩ := h7
  refine j_iload Z dL_law_902 1 rfl ?_
  refine j_icmp_eq Z 909 dL_law_904 (by decide) (fun h8 => ?_) (fun h8 => absurd s1 h8)
  refine j_iload Z dL_law_909 1 rfl ?_
  have jb : J p l e room_1 s m #[Value.ref b] below meth c Q g 7 μ7 (120 + 7 * t + 2 + 0 + 0) (9100 + 42 * t + 12 + 0 + 0) 926 [(6, .int r6), (5, .int r9), (0, .ref b), (1, .ref (g.2.1 0)), (2, .ref (g.2.1 31)), (3, .ref (g.2.1 25)), (4, .int (nI (7 * t)))] [] := by
    refine j_goto Z 1404 dL_law_926 (by decide) ?_
    exact j_sub [2, 3, 4, 5, 6] rfl (KB _ cnt' lc' wc' pl' _ _ h' (by omega) (by omega))
  refine j_if_ne Z 926 dL_law_911 (by decide) (fun h7 => jb) (fun h7 => ?_)
  have e2 := s2 h7
  refine j_aload_n Z dL_law_914 5 rfl ?_
  refine j_iconst Z (v := 0) dL_law_915 (by decide) ?_
  refine j_lld Z 25 (by decide) (fun _ => rfl) 0 (by decide) (by decide) (by decide) dL_law_916 ?_
  refine j_iload Z dL_law_917 0 rfl ?_
  refine j_i2l Z dL_law_919 rfl ?_
  refine j_lcmp Z dL_law_920 ?_
  refine j_if_eq Z 926 dL_law_921 (by decide) (fun h6 => jb) (fun h6 => absurd (by rw [e2]; exact lg_same _) h6)
set_option maxRecDepth 100000 in
set_option maxHeartbeats 4000000 in
theorem law_929 {p : Program} {l : Launch} {e : Env} {s : State} {m : MethodId} {below : List Frame} {meth : Method} {c : Code} {b L : Nat} {xs : Nat → Int32} {g : gC} {Q : State → Prop} (hst : l.stackTraces = false) (Z : gF p l e room_1 s m #[Value.ref b] below meth c cL_law 7 wsL_law RL g) (hN : gN s) (hX : va_X b L xs s s.heap) (hbl : b < s.heap.size) (hg : g.2.2.2 = s.heap.size) (hL : L ≤ 3584) {t : Nat} (ht : t < 512) (hi : 7 * t + 7 ≤ L) (KB : ∀ (μ' : gM) (cnt' lc' wc' : Nat) (pl' : Nat → Nat) (k' n' : Nat), RR μ' cnt' lc' wc' pl' → k' ≤ 120 + 7 * (t + 1) → n' ≤ 9100 + 42 * (t + 1) → J p l e room_1 s m #[Value.ref b] below meth c Q g 7 μ' k' n' 1404 [(0, .ref b), (1, .ref (g.2.1 0)), (2, .ref (g.2.1 31)), (3, .ref (g.2.1 25)), (4, .int (nI (7 * t)))] []) {μ : gM} {cnt lc wc : Nat} {pl : Nat → Nat} : RR μ cnt lc wc pl → J p l e room_1 s m #[Value.ref b] below meth c Q g 7 μ (120 + 7 * t) (9100 + 42 * t) 929 [(0, .ref b), (1, .ref (g.2.1 0)), (2, .ref (g.2.1 31)), (3, .ref (g.2.1 25)), (4, .int (nI (7 * t)))] [] := by
  intro h
  refine j_aload_n Z dL_law_929 1 rfl ?_
  refine j_aload_n Z dL_law_930 0 rfl ?_
  refine j_iload Z dL_law_931 4 rfl ?_
  refine j_iconst Z (v := 1) dL_law_933 (by decide) ?_
  refine j_iadd Z dL_law_934 ?_
  refine j_eq (nI_add (7 * t) 1) ?_
  refine j_sld Z hX hbl hg (by omega) (7 * t + 1) (by omega) dL_law_935 ?_
  refine j_aload_n Z dL_law_936 0 rfl ?_
  refine j_iload Z dL_law_937 4 rfl ?_
  refine j_iconst Z (v := 2) dL_law_939 (by decide) ?_
  refine j_iadd Z dL_law_940 ?_
  refine j_eq (nI_add (7 * t) 2) ?_
  refine j_sld Z hX hbl hg (by omega) (7 * t + 2) (by omega) dL_law_941 ?_
  refine j_aload_n Z dL_law_942 0 rfl ?_
  refine j_iload Z dL_law_943 4 rfl ?_
  refine j_iconst Z (v := 3) dL_law_945 (by decide) ?_
  refine j_iadd Z dL_law_946 ?_
  refine j_eq (nI_add (7 * t) 3) ?_
  refine j_sld Z hX hbl hg (by omega) (7 * t + 3) (by omega) dL_law_947 ?_
  refine j_aload_n Z dL_law_948 3 rfl ?_
  refine j_callSWi Z hN (As := [.ref (g.2.1 0), .int (xs (7 * t + 1)), .int (xs (7 * t + 2)), .int (xs (7 * t + 3)), .ref (g.2.1 25)]) (rest := []) (nA := 5) (c_L_link l hst g μ cnt lc wc h.1 (xs (7 * t + 1)) (xs (7 * t + 2)) (xs (7 * t + 3))) gL_law_L_link rfl rfl rfl (by decide +kernel) (by decide) rfl dL_law_949 rfl (Nat.le_of_ble_eq_true rfl) (rm_k ht (by decide) (by decide)) (fun r9 μ9 hp => ?_)
  refine j_istore Z dL_law_952 (by decide) [(5, .int r9), (0, .ref b), (1, .ref (g.2.1 0)), (2, .ref (g.2.1 31)), (3, .ref (g.2.1 25)), (4, .int (nI (7 * t)))] rfl ?_
  refine j_aload_n Z dL_law_954 3 rfl ?_
  refine j_aload_n Z dL_law_955 1 rfl ?_
  refine j_iload Z dL_law_956 5 rfl ?_
  refine j_iconst Z (v := 1) dL_law_958 (by decide) ?_
  refine j_iadd Z dL_law_959 ?_
  refine j_eq (nI_add (7 * t) 1) ?_
  refine j_sld Z hX hbl hg (by omega) (7 * t + 1) (by omega) dL_law_960 ?_
  refine j_aload_n Z dL_law_961 1 rfl ?_
  refine j_iload Z dL_law_962 5 rfl ?_
  refine j_iconst Z (v := 2) dL_law_964 (by decide) ?_
  refine j_iadd Z dL_law_965 ?_
  refine j_eq (nI_add (7 * t) 2) ?_
  refine j_sld Z hX hbl hg (by omega) (7 * t + 2) (by omega) dL_law_966 ?_
  refine j_aload_n Z dL_law_967 1 rfl ?_
  refine j_iload Z dL_law_968 5 rfl ?_
  refine j_iconst Z (v := 3) dL_law_970 (by decide) ?_
  refine j_iadd Z dL_law_971 ?_
  refine j_eq (nI_add (7 * t) 3) ?_
  refine j_sld Z hX hbl hg (by omega) (7 * t + 3) (by omega) dL_law_972 ?_
  refine j_callVi Z (As := [.int (xs (7 * t + 1)), .int (xs (7 * t + 2)), .int (xs (7 * t + 3))]) (rest := []) (nA := 3) 31 (by decide) rfl rfl (c_X6_link l g μ9 cnt lc wc pl (m9_link h (xs (7 * t + 1)) (xs (7 * t + 2)) (xs (7 * t + 3)) hp) (xs (7 * t + 1)) (xs (7 * t + 2)) (xs (7 * t + 3)) _ rfl) gL_law_X6_link rfl rfl rfl (by decide +kernel) (by decide) rfl dL_law_973 rfl (Nat.le_of_ble_eq_true rfl) (rm_k0 ht (by decide) (by decide)) (fun r6 μ10 h6 => ?_)
  have hs := st_link h (xs (7 * t + 1)) (xs (7 * t + 2)) (xs (7 * t + 3)) hp rfl h6
  clear hp h6
  obtain ⟨s1, s2, cnt', lc', wc', pl', h'⟩ := hs
  refine j_istore Z dL_law_976 (by decide) [(6, .int r6), (5, .int r9), (0, .ref b), (1, .ref (g.2.1 0)), (2, .ref (g.2.1 31)), (3, .ref (g.2.1 25)), (4, .int (nI (7 * t)))] rfl ?_
  refine j_aload_n Z dL_law_978 4 rfl ?_
  refine j_callVi Z (As := []) (rest := []) (nA := 0) 31 (by decide) rfl rfl (c_X6_thrown l g μ10) gL_law_X6_thrown rfl rfl rfl (by decide +kernel) (by decide) rfl dL_law_979 rfl (Nat.le_of_ble_eq_true rfl) (rm_k0 ht (by decide) (by decide)) (fun r7 μ7 h7 => ?_)
  obtain ⟨rfl, rfl⟩ := h7
  refine j_iload Z dL_law_982 1 rfl ?_
  refine j_icmp_eq Z 989 dL_law_984 (by decide) (fun h8 => ?_) (fun h8 => absurd s1 h8)
  refine j_iload Z dL_law_989 1 rfl ?_
  have jb : J p l e room_1 s m #[Value.ref b] below meth c Q g 7 μ7 (120 + 7 * t + 5 + 0 + 0) (9100 + 42 * t + 30 + 0 + 0) 1006 [(6, .int r6), (5, .int r9), (0, .ref b), (1, .ref (g.2.1 0)), (2, .ref (g.2.1 31)), (3, .ref (g.2.1 25)), (4, .int (nI (7 * t)))] [] := by
    refine j_goto Z 1404 dL_law_1006 (by decide) ?_
    exact j_sub [2, 3, 4, 5, 6] rfl (KB _ cnt' lc' wc' pl' _ _ h' (by omega) (by omega))
  refine j_if_ne Z 1006 dL_law_991 (by decide) (fun h7 => jb) (fun h7 => ?_)
  have e2 := s2 h7
  refine j_aload_n Z dL_law_994 5 rfl ?_
  refine j_iconst Z (v := 0) dL_law_995 (by decide) ?_
  refine j_lld Z 25 (by decide) (fun _ => rfl) 0 (by decide) (by decide) (by decide) dL_law_996 ?_
  refine j_iload Z dL_law_997 0 rfl ?_
  refine j_i2l Z dL_law_999 rfl ?_
  refine j_lcmp Z dL_law_1000 ?_
  refine j_if_eq Z 1006 dL_law_1001 (by decide) (fun h6 => jb) (fun h6 => absurd (by rw [e2]; exact lg_same _) h6)
set_option maxRecDepth 100000 in
set_option maxHeartbeats 4000000 in
theorem law_1009 {p : Program} {l : Launch} {e : Env} {s : State} {m : MethodId} {below : List Frame} {meth : Method} {c : Code} {b L : Nat} {xs : Nat → Int32} {g : gC} {Q : State → Prop} (hst : l.stackTraces = false) (Z : gF p l e room_1 s m #[Value.ref b] below meth c cL_law 7 wsL_law RL g) (hN : gN s) (hX : va_X b L xs s s.heap) (hbl : b < s.heap.size) (hg : g.2.2.2 = s.heap.size) (hL : L ≤ 3584) {t : Nat} (ht : t < 512) (hi : 7 * t + 7 ≤ L) (KB : ∀ (μ' : gM) (cnt' lc' wc' : Nat) (pl' : Nat → Nat) (k' n' : Nat), RR μ' cnt' lc' wc' pl' → k' ≤ 120 + 7 * (t + 1) → n' ≤ 9100 + 42 * (t + 1) → J p l e room_1 s m #[Value.ref b] below meth c Q g 7 μ' k' n' 1404 [(0, .ref b), (1, .ref (g.2.1 0)), (2, .ref (g.2.1 31)), (3, .ref (g.2.1 25)), (4, .int (nI (7 * t)))] []) {μ : gM} {cnt lc wc : Nat} {pl : Nat → Nat} : RR μ cnt lc wc pl → J p l e room_1 s m #[Value.ref b] below meth c Q g 7 μ (120 + 7 * t) (9100 + 42 * t) 1009 [(0, .ref b), (1, .ref (g.2.1 0)), (2, .ref (g.2.1 31)), (3, .ref (g.2.1 25)), (4, .int (nI (7 * t)))] [] := by
  intro h
  refine j_aload_n Z dL_law_1009 1 rfl ?_
  refine j_aload_n Z dL_law_1010 0 rfl ?_
  refine j_iload Z dL_law_1011 4 rfl ?_
  refine j_iconst Z (v := 1) dL_law_1013 (by decide) ?_
  refine j_iadd Z dL_law_1014 ?_
  refine j_eq (nI_add (7 * t) 1) ?_
  refine j_sld Z hX hbl hg (by omega) (7 * t + 1) (by omega) dL_law_1015 ?_
  refine j_aload_n Z dL_law_1016 0 rfl ?_
  refine j_iload Z dL_law_1017 4 rfl ?_
  refine j_iconst Z (v := 2) dL_law_1019 (by decide) ?_
  refine j_iadd Z dL_law_1020 ?_
  refine j_eq (nI_add (7 * t) 2) ?_
  refine j_sld Z hX hbl hg (by omega) (7 * t + 2) (by omega) dL_law_1021 ?_
  refine j_aload_n Z dL_law_1022 3 rfl ?_
  refine j_callSWi Z hN (As := [.ref (g.2.1 0), .int (xs (7 * t + 1)), .int (xs (7 * t + 2)), .ref (g.2.1 25)]) (rest := []) (nA := 4) (c_L_impact l hst g μ cnt lc wc h.1 (xs (7 * t + 1)) (xs (7 * t + 2))) gL_law_L_impact rfl rfl rfl (by decide +kernel) (by decide) rfl dL_law_1023 rfl (Nat.le_of_ble_eq_true rfl) (rm_k ht (by decide) (by decide)) (fun r9 μ9 hp => ?_)
  refine j_istore Z dL_law_1026 (by decide) [(5, .int r9), (0, .ref b), (1, .ref (g.2.1 0)), (2, .ref (g.2.1 31)), (3, .ref (g.2.1 25)), (4, .int (nI (7 * t)))] rfl ?_
  refine j_aload_n Z dL_law_1028 3 rfl ?_
  refine j_aload_n Z dL_law_1029 1 rfl ?_
  refine j_iload Z dL_law_1030 5 rfl ?_
  refine j_iconst Z (v := 1) dL_law_1032 (by decide) ?_
  refine j_iadd Z dL_law_1033 ?_
  refine j_eq (nI_add (7 * t) 1) ?_
  refine j_sld Z hX hbl hg (by omega) (7 * t + 1) (by omega) dL_law_1034 ?_
  refine j_aload_n Z dL_law_1035 1 rfl ?_
  refine j_iload Z dL_law_1036 5 rfl ?_
  refine j_iconst Z (v := 2) dL_law_1038 (by decide) ?_
  refine j_iadd Z dL_law_1039 ?_
  refine j_eq (nI_add (7 * t) 2) ?_
  refine j_sld Z hX hbl hg (by omega) (7 * t + 2) (by omega) dL_law_1040 ?_
  refine j_callVi Z (As := [.int (xs (7 * t + 1)), .int (xs (7 * t + 2))]) (rest := []) (nA := 2) 31 (by decide) rfl rfl (c_X6_impact l g μ9 cnt lc wc pl (m9_impact h (xs (7 * t + 1)) (xs (7 * t + 2)) hp) (xs (7 * t + 1)) (xs (7 * t + 2)) _ rfl) gL_law_X6_impact rfl rfl rfl (by decide +kernel) (by decide) rfl dL_law_1041 rfl (Nat.le_of_ble_eq_true rfl) (rm_k0 ht (by decide) (by decide)) (fun r6 μ10 h6 => ?_)
  have hs := st_impact h (xs (7 * t + 1)) (xs (7 * t + 2)) hp rfl h6
  clear hp h6
  obtain ⟨s1, s2, cnt', lc', wc', pl', h'⟩ := hs
  refine j_istore Z dL_law_1044 (by decide) [(6, .int r6), (5, .int r9), (0, .ref b), (1, .ref (g.2.1 0)), (2, .ref (g.2.1 31)), (3, .ref (g.2.1 25)), (4, .int (nI (7 * t)))] rfl ?_
  refine j_aload_n Z dL_law_1046 4 rfl ?_
  refine j_callVi Z (As := []) (rest := []) (nA := 0) 31 (by decide) rfl rfl (c_X6_thrown l g μ10) gL_law_X6_thrown rfl rfl rfl (by decide +kernel) (by decide) rfl dL_law_1047 rfl (Nat.le_of_ble_eq_true rfl) (rm_k0 ht (by decide) (by decide)) (fun r7 μ7 h7 => ?_)
  obtain ⟨rfl, rfl⟩ := h7
  refine j_iload Z dL_law_1050 1 rfl ?_
  refine j_icmp_eq Z 1057 dL_law_1052 (by decide) (fun h8 => ?_) (fun h8 => absurd s1 h8)
  refine j_iload Z dL_law_1057 1 rfl ?_
  have jb : J p l e room_1 s m #[Value.ref b] below meth c Q g 7 μ7 (120 + 7 * t + 3 + 0 + 0) (9100 + 42 * t + 18 + 0 + 0) 1074 [(6, .int r6), (5, .int r9), (0, .ref b), (1, .ref (g.2.1 0)), (2, .ref (g.2.1 31)), (3, .ref (g.2.1 25)), (4, .int (nI (7 * t)))] [] := by
    refine j_goto Z 1404 dL_law_1074 (by decide) ?_
    exact j_sub [2, 3, 4, 5, 6] rfl (KB _ cnt' lc' wc' pl' _ _ h' (by omega) (by omega))
  refine j_if_ne Z 1074 dL_law_1059 (by decide) (fun h7 => jb) (fun h7 => ?_)
  have e2 := s2 h7
  refine j_aload_n Z dL_law_1062 5 rfl ?_
  refine j_iconst Z (v := 0) dL_law_1063 (by decide) ?_
  refine j_lld Z 25 (by decide) (fun _ => rfl) 0 (by decide) (by decide) (by decide) dL_law_1064 ?_
  refine j_iload Z dL_law_1065 0 rfl ?_
  refine j_i2l Z dL_law_1067 rfl ?_
  refine j_lcmp Z dL_law_1068 ?_
  refine j_if_eq Z 1074 dL_law_1069 (by decide) (fun h6 => jb) (fun h6 => absurd (by rw [e2]; exact lg_same _) h6)
set_option maxRecDepth 100000 in
set_option maxHeartbeats 4000000 in
theorem law_1077 {p : Program} {l : Launch} {e : Env} {s : State} {m : MethodId} {below : List Frame} {meth : Method} {c : Code} {b L : Nat} {xs : Nat → Int32} {g : gC} {Q : State → Prop} (hst : l.stackTraces = false) (Z : gF p l e room_1 s m #[Value.ref b] below meth c cL_law 7 wsL_law RL g) (hN : gN s) (hX : va_X b L xs s s.heap) (hbl : b < s.heap.size) (hg : g.2.2.2 = s.heap.size) (hL : L ≤ 3584) {t : Nat} (ht : t < 512) (hi : 7 * t + 7 ≤ L) (KB : ∀ (μ' : gM) (cnt' lc' wc' : Nat) (pl' : Nat → Nat) (k' n' : Nat), RR μ' cnt' lc' wc' pl' → k' ≤ 120 + 7 * (t + 1) → n' ≤ 9100 + 42 * (t + 1) → J p l e room_1 s m #[Value.ref b] below meth c Q g 7 μ' k' n' 1404 [(0, .ref b), (1, .ref (g.2.1 0)), (2, .ref (g.2.1 31)), (3, .ref (g.2.1 25)), (4, .int (nI (7 * t)))] []) {μ : gM} {cnt lc wc : Nat} {pl : Nat → Nat} : RR μ cnt lc wc pl → J p l e room_1 s m #[Value.ref b] below meth c Q g 7 μ (120 + 7 * t) (9100 + 42 * t) 1077 [(0, .ref b), (1, .ref (g.2.1 0)), (2, .ref (g.2.1 31)), (3, .ref (g.2.1 25)), (4, .int (nI (7 * t)))] [] := by
  intro h
  refine j_aload_n Z dL_law_1077 1 rfl ?_
  refine j_aload_n Z dL_law_1078 0 rfl ?_
  refine j_iload Z dL_law_1079 4 rfl ?_
  refine j_iconst Z (v := 1) dL_law_1081 (by decide) ?_
  refine j_iadd Z dL_law_1082 ?_
  refine j_eq (nI_add (7 * t) 1) ?_
  refine j_sld Z hX hbl hg (by omega) (7 * t + 1) (by omega) dL_law_1083 ?_
  refine j_aload_n Z dL_law_1084 0 rfl ?_
  refine j_iload Z dL_law_1085 4 rfl ?_
  refine j_iconst Z (v := 2) dL_law_1087 (by decide) ?_
  refine j_iadd Z dL_law_1088 ?_
  refine j_eq (nI_add (7 * t) 2) ?_
  refine j_sld Z hX hbl hg (by omega) (7 * t + 2) (by omega) dL_law_1089 ?_
  refine j_aload_n Z dL_law_1090 0 rfl ?_
  refine j_iload Z dL_law_1091 4 rfl ?_
  refine j_iconst Z (v := 3) dL_law_1093 (by decide) ?_
  refine j_iadd Z dL_law_1094 ?_
  refine j_eq (nI_add (7 * t) 3) ?_
  refine j_sld Z hX hbl hg (by omega) (7 * t + 3) (by omega) dL_law_1095 ?_
  refine j_aload_n Z dL_law_1096 3 rfl ?_
  refine j_callSWi Z hN (As := [.ref (g.2.1 0), .int (xs (7 * t + 1)), .int (xs (7 * t + 2)), .int (xs (7 * t + 3)), .ref (g.2.1 25)]) (rest := []) (nA := 5) (c_L_failsWith l hst g μ cnt lc wc h.1 (xs (7 * t + 1)) (xs (7 * t + 2)) (xs (7 * t + 3))) gL_law_L_failsWith rfl rfl rfl (by decide +kernel) (by decide) rfl dL_law_1097 rfl (Nat.le_of_ble_eq_true rfl) (rm_k ht (by decide) (by decide)) (fun r9 μ9 hp => ?_)
  refine j_istore Z dL_law_1100 (by decide) [(5, .int r9), (0, .ref b), (1, .ref (g.2.1 0)), (2, .ref (g.2.1 31)), (3, .ref (g.2.1 25)), (4, .int (nI (7 * t)))] rfl ?_
  refine j_aload_n Z dL_law_1102 3 rfl ?_
  refine j_aload_n Z dL_law_1103 1 rfl ?_
  refine j_iload Z dL_law_1104 5 rfl ?_
  refine j_iconst Z (v := 1) dL_law_1106 (by decide) ?_
  refine j_iadd Z dL_law_1107 ?_
  refine j_eq (nI_add (7 * t) 1) ?_
  refine j_sld Z hX hbl hg (by omega) (7 * t + 1) (by omega) dL_law_1108 ?_
  refine j_aload_n Z dL_law_1109 1 rfl ?_
  refine j_iload Z dL_law_1110 5 rfl ?_
  refine j_iconst Z (v := 2) dL_law_1112 (by decide) ?_
  refine j_iadd Z dL_law_1113 ?_
  refine j_eq (nI_add (7 * t) 2) ?_
  refine j_sld Z hX hbl hg (by omega) (7 * t + 2) (by omega) dL_law_1114 ?_
  refine j_aload_n Z dL_law_1115 1 rfl ?_
  refine j_iload Z dL_law_1116 5 rfl ?_
  refine j_iconst Z (v := 3) dL_law_1118 (by decide) ?_
  refine j_iadd Z dL_law_1119 ?_
  refine j_eq (nI_add (7 * t) 3) ?_
  refine j_sld Z hX hbl hg (by omega) (7 * t + 3) (by omega) dL_law_1120 ?_
  refine j_callVi Z (As := [.int (xs (7 * t + 1)), .int (xs (7 * t + 2)), .int (xs (7 * t + 3))]) (rest := []) (nA := 3) 31 (by decide) rfl rfl (c_X6_failsWith l g μ9 cnt lc wc pl (m9_failsWith h (xs (7 * t + 1)) (xs (7 * t + 2)) (xs (7 * t + 3)) hp) (xs (7 * t + 1)) (xs (7 * t + 2)) (xs (7 * t + 3)) _ rfl) gL_law_X6_failsWith rfl rfl rfl (by decide +kernel) (by decide) rfl dL_law_1121 rfl (Nat.le_of_ble_eq_true rfl) (rm_k0 ht (by decide) (by decide)) (fun r6 μ10 h6 => ?_)
  have hs := st_failsWith h (xs (7 * t + 1)) (xs (7 * t + 2)) (xs (7 * t + 3)) hp rfl h6
  have hb6 : r6 = 0 ∨ r6 = 1 := by rw [h6.1]; exact ite_01
  clear hp h6
  obtain ⟨s1, s2, cnt', lc', wc', pl', h'⟩ := hs
  refine j_istore Z dL_law_1124 (by decide) [(6, .int r6), (5, .int r9), (0, .ref b), (1, .ref (g.2.1 0)), (2, .ref (g.2.1 31)), (3, .ref (g.2.1 25)), (4, .int (nI (7 * t)))] rfl ?_
  refine j_aload_n Z dL_law_1126 4 rfl ?_
  refine j_callVi Z (As := []) (rest := []) (nA := 0) 31 (by decide) rfl rfl (c_X6_thrown l g μ10) gL_law_X6_thrown rfl rfl rfl (by decide +kernel) (by decide) rfl dL_law_1127 rfl (Nat.le_of_ble_eq_true rfl) (rm_k0 ht (by decide) (by decide)) (fun r7 μ7 h7 => ?_)
  obtain ⟨rfl, rfl⟩ := h7
  refine j_iload Z dL_law_1130 1 rfl ?_
  refine j_icmp_eq Z 1137 dL_law_1132 (by decide) (fun h8 => ?_) (fun h8 => absurd s1 h8)
  refine j_iload Z dL_law_1137 1 rfl ?_
  have jb : J p l e room_1 s m #[Value.ref b] below meth c Q g 7 μ7 (120 + 7 * t + 5 + 0 + 0) (9100 + 42 * t + 30 + 0 + 0) 1161 [(6, .int r6), (5, .int r9), (0, .ref b), (1, .ref (g.2.1 0)), (2, .ref (g.2.1 31)), (3, .ref (g.2.1 25)), (4, .int (nI (7 * t)))] [] := by
    refine j_goto Z 1404 dL_law_1161 (by decide) ?_
    exact j_sub [2, 3, 4, 5, 6] rfl (KB _ cnt' lc' wc' pl' _ _ h' (by omega) (by omega))
  refine j_if_ne Z 1161 dL_law_1139 (by decide) (fun h7 => jb) (fun h7 => ?_)
  have e2 := s2 h7
  refine j_aload_n Z dL_law_1142 5 rfl ?_
  refine j_iconst Z (v := 0) dL_law_1143 (by decide) ?_
  refine j_lld Z 25 (by decide) (fun _ => rfl) 0 (by decide) (by decide) (by decide) dL_law_1144 ?_
  refine j_iload Z dL_law_1145 0 rfl ?_
  refine j_if_eq Z 1154 dL_law_1147 (by decide) (fun h6 => ?_) (fun h6 => ?_)
  · refine j_lconst Z (v := 0) dL_law_1154 (by decide) ?_
    refine j_lcmp Z dL_law_1155 ?_
    exact j_if_eq Z 1161 dL_law_1156 (by decide) (fun _ => jb) (fun h5 => absurd (by rw [e2, h6]; exact lg_same _) h5)
  · refine j_lconst Z (v := 1) dL_law_1150 (by decide) ?_
    refine j_goto Z 1155 dL_law_1151 (by decide) ?_
    refine j_lcmp Z dL_law_1155 ?_
    exact j_if_eq Z 1161 dL_law_1156 (by decide) (fun _ => jb) (fun h5 => absurd (by rw [e2, hb6.resolve_left h6]; exact lg_same _) h5)
set_option maxRecDepth 100000 in
set_option maxHeartbeats 4000000 in
theorem law_1164 {p : Program} {l : Launch} {e : Env} {s : State} {m : MethodId} {below : List Frame} {meth : Method} {c : Code} {b L : Nat} {xs : Nat → Int32} {g : gC} {Q : State → Prop} (hst : l.stackTraces = false) (Z : gF p l e room_1 s m #[Value.ref b] below meth c cL_law 7 wsL_law RL g) (hN : gN s) (hX : va_X b L xs s s.heap) (hbl : b < s.heap.size) (hg : g.2.2.2 = s.heap.size) (hL : L ≤ 3584) {t : Nat} (ht : t < 512) (hi : 7 * t + 7 ≤ L) (KB : ∀ (μ' : gM) (cnt' lc' wc' : Nat) (pl' : Nat → Nat) (k' n' : Nat), RR μ' cnt' lc' wc' pl' → k' ≤ 120 + 7 * (t + 1) → n' ≤ 9100 + 42 * (t + 1) → J p l e room_1 s m #[Value.ref b] below meth c Q g 7 μ' k' n' 1404 [(0, .ref b), (1, .ref (g.2.1 0)), (2, .ref (g.2.1 31)), (3, .ref (g.2.1 25)), (4, .int (nI (7 * t)))] []) {μ : gM} {cnt lc wc : Nat} {pl : Nat → Nat} : RR μ cnt lc wc pl → J p l e room_1 s m #[Value.ref b] below meth c Q g 7 μ (120 + 7 * t) (9100 + 42 * t) 1164 [(0, .ref b), (1, .ref (g.2.1 0)), (2, .ref (g.2.1 31)), (3, .ref (g.2.1 25)), (4, .int (nI (7 * t)))] [] := by
  intro h
  refine j_aload_n Z dL_law_1164 1 rfl ?_
  refine j_aload_n Z dL_law_1165 0 rfl ?_
  refine j_iload Z dL_law_1166 4 rfl ?_
  refine j_iconst Z (v := 1) dL_law_1168 (by decide) ?_
  refine j_iadd Z dL_law_1169 ?_
  refine j_eq (nI_add (7 * t) 1) ?_
  refine j_sld Z hX hbl hg (by omega) (7 * t + 1) (by omega) dL_law_1170 ?_
  refine j_aload_n Z dL_law_1171 0 rfl ?_
  refine j_iload Z dL_law_1172 4 rfl ?_
  refine j_iconst Z (v := 2) dL_law_1174 (by decide) ?_
  refine j_iadd Z dL_law_1175 ?_
  refine j_eq (nI_add (7 * t) 2) ?_
  refine j_sld Z hX hbl hg (by omega) (7 * t + 2) (by omega) dL_law_1176 ?_
  refine j_aload_n Z dL_law_1177 0 rfl ?_
  refine j_iload Z dL_law_1178 4 rfl ?_
  refine j_iconst Z (v := 3) dL_law_1180 (by decide) ?_
  refine j_iadd Z dL_law_1181 ?_
  refine j_eq (nI_add (7 * t) 3) ?_
  refine j_sld Z hX hbl hg (by omega) (7 * t + 3) (by omega) dL_law_1182 ?_
  refine j_aload_n Z dL_law_1183 0 rfl ?_
  refine j_iload Z dL_law_1184 4 rfl ?_
  refine j_iconst Z (v := 4) dL_law_1186 (by decide) ?_
  refine j_iadd Z dL_law_1187 ?_
  refine j_eq (nI_add (7 * t) 4) ?_
  refine j_sld Z hX hbl hg (by omega) (7 * t + 4) (by omega) dL_law_1188 ?_
  refine j_aload_n Z dL_law_1189 3 rfl ?_
  refine j_callSWi Z hN (As := [.ref (g.2.1 0), .int (xs (7 * t + 1)), .int (xs (7 * t + 2)), .int (xs (7 * t + 3)), .int (xs (7 * t + 4)), .ref (g.2.1 25)]) (rest := []) (nA := 6) (c_L_wish l hst g μ cnt lc wc h.1 (xs (7 * t + 1)) (xs (7 * t + 2)) (xs (7 * t + 3)) (xs (7 * t + 4))) gL_law_L_wish rfl rfl rfl (by decide +kernel) (by decide) rfl dL_law_1190 rfl (Nat.le_of_ble_eq_true rfl) (rm_k ht (by decide) (by decide)) (fun r9 μ9 hp => ?_)
  refine j_istore Z dL_law_1193 (by decide) [(5, .int r9), (0, .ref b), (1, .ref (g.2.1 0)), (2, .ref (g.2.1 31)), (3, .ref (g.2.1 25)), (4, .int (nI (7 * t)))] rfl ?_
  refine j_aload_n Z dL_law_1195 3 rfl ?_
  refine j_aload_n Z dL_law_1196 1 rfl ?_
  refine j_iload Z dL_law_1197 5 rfl ?_
  refine j_iconst Z (v := 1) dL_law_1199 (by decide) ?_
  refine j_iadd Z dL_law_1200 ?_
  refine j_eq (nI_add (7 * t) 1) ?_
  refine j_sld Z hX hbl hg (by omega) (7 * t + 1) (by omega) dL_law_1201 ?_
  refine j_aload_n Z dL_law_1202 1 rfl ?_
  refine j_iload Z dL_law_1203 5 rfl ?_
  refine j_iconst Z (v := 2) dL_law_1205 (by decide) ?_
  refine j_iadd Z dL_law_1206 ?_
  refine j_eq (nI_add (7 * t) 2) ?_
  refine j_sld Z hX hbl hg (by omega) (7 * t + 2) (by omega) dL_law_1207 ?_
  refine j_aload_n Z dL_law_1208 1 rfl ?_
  refine j_iload Z dL_law_1209 5 rfl ?_
  refine j_iconst Z (v := 3) dL_law_1211 (by decide) ?_
  refine j_iadd Z dL_law_1212 ?_
  refine j_eq (nI_add (7 * t) 3) ?_
  refine j_sld Z hX hbl hg (by omega) (7 * t + 3) (by omega) dL_law_1213 ?_
  refine j_aload_n Z dL_law_1214 1 rfl ?_
  refine j_iload Z dL_law_1215 5 rfl ?_
  refine j_iconst Z (v := 4) dL_law_1217 (by decide) ?_
  refine j_iadd Z dL_law_1218 ?_
  refine j_eq (nI_add (7 * t) 4) ?_
  refine j_sld Z hX hbl hg (by omega) (7 * t + 4) (by omega) dL_law_1219 ?_
  refine j_callVi Z (As := [.int (xs (7 * t + 1)), .int (xs (7 * t + 2)), .int (xs (7 * t + 3)), .int (xs (7 * t + 4))]) (rest := []) (nA := 4) 31 (by decide) rfl rfl (c_X6_wish l g μ9 cnt lc wc pl (m9_wish h (xs (7 * t + 1)) (xs (7 * t + 2)) (xs (7 * t + 3)) (xs (7 * t + 4)) hp) (xs (7 * t + 1)) (xs (7 * t + 2)) (xs (7 * t + 3)) (xs (7 * t + 4)) _ rfl) gL_law_X6_wish rfl rfl rfl (by decide +kernel) (by decide) rfl dL_law_1220 rfl (Nat.le_of_ble_eq_true rfl) (rm_k0 ht (by decide) (by decide)) (fun r6 μ10 h6 => ?_)
  have hs := st_wish h (xs (7 * t + 1)) (xs (7 * t + 2)) (xs (7 * t + 3)) (xs (7 * t + 4)) hp rfl h6
  clear hp h6
  obtain ⟨s1, s2, cnt', lc', wc', pl', h'⟩ := hs
  refine j_istore Z dL_law_1223 (by decide) [(6, .int r6), (5, .int r9), (0, .ref b), (1, .ref (g.2.1 0)), (2, .ref (g.2.1 31)), (3, .ref (g.2.1 25)), (4, .int (nI (7 * t)))] rfl ?_
  refine j_aload_n Z dL_law_1225 4 rfl ?_
  refine j_callVi Z (As := []) (rest := []) (nA := 0) 31 (by decide) rfl rfl (c_X6_thrown l g μ10) gL_law_X6_thrown rfl rfl rfl (by decide +kernel) (by decide) rfl dL_law_1226 rfl (Nat.le_of_ble_eq_true rfl) (rm_k0 ht (by decide) (by decide)) (fun r7 μ7 h7 => ?_)
  obtain ⟨rfl, rfl⟩ := h7
  refine j_iload Z dL_law_1229 1 rfl ?_
  refine j_icmp_eq Z 1236 dL_law_1231 (by decide) (fun h8 => ?_) (fun h8 => absurd s1 h8)
  refine j_iload Z dL_law_1236 1 rfl ?_
  have jb : J p l e room_1 s m #[Value.ref b] below meth c Q g 7 μ7 (120 + 7 * t + 5 + 0 + 0) (9100 + 42 * t + 30 + 0 + 0) 1253 [(6, .int r6), (5, .int r9), (0, .ref b), (1, .ref (g.2.1 0)), (2, .ref (g.2.1 31)), (3, .ref (g.2.1 25)), (4, .int (nI (7 * t)))] [] := by
    refine j_goto Z 1404 dL_law_1253 (by decide) ?_
    exact j_sub [2, 3, 4, 5, 6] rfl (KB _ cnt' lc' wc' pl' _ _ h' (by omega) (by omega))
  refine j_if_ne Z 1253 dL_law_1238 (by decide) (fun h7 => jb) (fun h7 => ?_)
  have e2 := s2 h7
  refine j_aload_n Z dL_law_1241 5 rfl ?_
  refine j_iconst Z (v := 0) dL_law_1242 (by decide) ?_
  refine j_lld Z 25 (by decide) (fun _ => rfl) 0 (by decide) (by decide) (by decide) dL_law_1243 ?_
  refine j_iload Z dL_law_1244 0 rfl ?_
  refine j_i2l Z dL_law_1246 rfl ?_
  refine j_lcmp Z dL_law_1247 ?_
  refine j_if_eq Z 1253 dL_law_1248 (by decide) (fun h6 => jb) (fun h6 => absurd (by rw [e2]; exact lg_same _) h6)
set_option maxRecDepth 100000 in
set_option maxHeartbeats 4000000 in
theorem law_1256 {p : Program} {l : Launch} {e : Env} {s : State} {m : MethodId} {below : List Frame} {meth : Method} {c : Code} {b L : Nat} {xs : Nat → Int32} {g : gC} {Q : State → Prop} (hst : l.stackTraces = false) (Z : gF p l e room_1 s m #[Value.ref b] below meth c cL_law 7 wsL_law RL g) (hN : gN s) (hX : va_X b L xs s s.heap) (hbl : b < s.heap.size) (hg : g.2.2.2 = s.heap.size) (hL : L ≤ 3584) {t : Nat} (ht : t < 512) (hi : 7 * t + 7 ≤ L) (KB : ∀ (μ' : gM) (cnt' lc' wc' : Nat) (pl' : Nat → Nat) (k' n' : Nat), RR μ' cnt' lc' wc' pl' → k' ≤ 120 + 7 * (t + 1) → n' ≤ 9100 + 42 * (t + 1) → J p l e room_1 s m #[Value.ref b] below meth c Q g 7 μ' k' n' 1404 [(0, .ref b), (1, .ref (g.2.1 0)), (2, .ref (g.2.1 31)), (3, .ref (g.2.1 25)), (4, .int (nI (7 * t)))] []) {μ : gM} {cnt lc wc : Nat} {pl : Nat → Nat} : RR μ cnt lc wc pl → J p l e room_1 s m #[Value.ref b] below meth c Q g 7 μ (120 + 7 * t) (9100 + 42 * t) 1256 [(0, .ref b), (1, .ref (g.2.1 0)), (2, .ref (g.2.1 31)), (3, .ref (g.2.1 25)), (4, .int (nI (7 * t)))] [] := by
  intro h
  refine j_aload_n Z dL_law_1256 1 rfl ?_
  refine j_aload_n Z dL_law_1257 0 rfl ?_
  refine j_iload Z dL_law_1258 4 rfl ?_
  refine j_iconst Z (v := 1) dL_law_1260 (by decide) ?_
  refine j_iadd Z dL_law_1261 ?_
  refine j_eq (nI_add (7 * t) 1) ?_
  refine j_sld Z hX hbl hg (by omega) (7 * t + 1) (by omega) dL_law_1262 ?_
  refine j_aload_n Z dL_law_1263 0 rfl ?_
  refine j_iload Z dL_law_1264 4 rfl ?_
  refine j_iconst Z (v := 2) dL_law_1266 (by decide) ?_
  refine j_iadd Z dL_law_1267 ?_
  refine j_eq (nI_add (7 * t) 2) ?_
  refine j_sld Z hX hbl hg (by omega) (7 * t + 2) (by omega) dL_law_1268 ?_
  refine j_aload_n Z dL_law_1269 3 rfl ?_
  refine j_callSWi Z hN (As := [.ref (g.2.1 0), .int (xs (7 * t + 1)), .int (xs (7 * t + 2)), .ref (g.2.1 25)]) (rest := []) (nA := 4) (c_L_differing l hst g μ cnt lc wc h.1 (xs (7 * t + 1)) (xs (7 * t + 2))) gL_law_L_differing rfl rfl rfl (by decide +kernel) (by decide) rfl dL_law_1270 rfl (Nat.le_of_ble_eq_true rfl) (rm_k ht (by decide) (by decide)) (fun r9 μ9 hp => ?_)
  refine j_istore Z dL_law_1273 (by decide) [(5, .int r9), (0, .ref b), (1, .ref (g.2.1 0)), (2, .ref (g.2.1 31)), (3, .ref (g.2.1 25)), (4, .int (nI (7 * t)))] rfl ?_
  refine j_aload_n Z dL_law_1275 3 rfl ?_
  refine j_aload_n Z dL_law_1276 1 rfl ?_
  refine j_iload Z dL_law_1277 5 rfl ?_
  refine j_iconst Z (v := 1) dL_law_1279 (by decide) ?_
  refine j_iadd Z dL_law_1280 ?_
  refine j_eq (nI_add (7 * t) 1) ?_
  refine j_sld Z hX hbl hg (by omega) (7 * t + 1) (by omega) dL_law_1281 ?_
  refine j_aload_n Z dL_law_1282 1 rfl ?_
  refine j_iload Z dL_law_1283 5 rfl ?_
  refine j_iconst Z (v := 2) dL_law_1285 (by decide) ?_
  refine j_iadd Z dL_law_1286 ?_
  refine j_eq (nI_add (7 * t) 2) ?_
  refine j_sld Z hX hbl hg (by omega) (7 * t + 2) (by omega) dL_law_1287 ?_
  refine j_callVi Z (As := [.int (xs (7 * t + 1)), .int (xs (7 * t + 2))]) (rest := []) (nA := 2) 31 (by decide) rfl rfl (c_X6_differing l g μ9 cnt lc wc pl (m9_differing h (xs (7 * t + 1)) (xs (7 * t + 2)) hp) (xs (7 * t + 1)) (xs (7 * t + 2)) _ rfl) gL_law_X6_differing rfl rfl rfl (by decide +kernel) (by decide) rfl dL_law_1288 rfl (Nat.le_of_ble_eq_true rfl) (rm_k0 ht (by decide) (by decide)) (fun r6 μ10 h6 => ?_)
  have hs := st_differing h (xs (7 * t + 1)) (xs (7 * t + 2)) hp rfl h6
  clear hp h6
  obtain ⟨s1, s2, cnt', lc', wc', pl', h'⟩ := hs
  refine j_istore Z dL_law_1291 (by decide) [(6, .int r6), (5, .int r9), (0, .ref b), (1, .ref (g.2.1 0)), (2, .ref (g.2.1 31)), (3, .ref (g.2.1 25)), (4, .int (nI (7 * t)))] rfl ?_
  refine j_aload_n Z dL_law_1293 4 rfl ?_
  refine j_callVi Z (As := []) (rest := []) (nA := 0) 31 (by decide) rfl rfl (c_X6_thrown l g μ10) gL_law_X6_thrown rfl rfl rfl (by decide +kernel) (by decide) rfl dL_law_1294 rfl (Nat.le_of_ble_eq_true rfl) (rm_k0 ht (by decide) (by decide)) (fun r7 μ7 h7 => ?_)
  obtain ⟨rfl, rfl⟩ := h7
  refine j_iload Z dL_law_1297 1 rfl ?_
  refine j_icmp_eq Z 1304 dL_law_1299 (by decide) (fun h8 => ?_) (fun h8 => absurd s1 h8)
  refine j_iload Z dL_law_1304 1 rfl ?_
  have jb : J p l e room_1 s m #[Value.ref b] below meth c Q g 7 μ7 (120 + 7 * t + 1 + 0 + 0) (9100 + 42 * t + 6 + 0 + 0) 1321 [(6, .int r6), (5, .int r9), (0, .ref b), (1, .ref (g.2.1 0)), (2, .ref (g.2.1 31)), (3, .ref (g.2.1 25)), (4, .int (nI (7 * t)))] [] := by
    refine j_goto Z 1404 dL_law_1321 (by decide) ?_
    exact j_sub [2, 3, 4, 5, 6] rfl (KB _ cnt' lc' wc' pl' _ _ h' (by omega) (by omega))
  refine j_if_ne Z 1321 dL_law_1306 (by decide) (fun h7 => jb) (fun h7 => ?_)
  have e2 := s2 h7
  refine j_aload_n Z dL_law_1309 5 rfl ?_
  refine j_iconst Z (v := 0) dL_law_1310 (by decide) ?_
  refine j_lld Z 25 (by decide) (fun _ => rfl) 0 (by decide) (by decide) (by decide) dL_law_1311 ?_
  refine j_iload Z dL_law_1312 0 rfl ?_
  refine j_i2l Z dL_law_1314 rfl ?_
  refine j_lcmp Z dL_law_1315 ?_
  refine j_if_eq Z 1321 dL_law_1316 (by decide) (fun h6 => jb) (fun h6 => absurd (by rw [e2]; exact lg_same _) h6)
set_option maxRecDepth 100000 in
set_option maxHeartbeats 4000000 in
theorem law_1324 {p : Program} {l : Launch} {e : Env} {s : State} {m : MethodId} {below : List Frame} {meth : Method} {c : Code} {b L : Nat} {xs : Nat → Int32} {g : gC} {Q : State → Prop} (hst : l.stackTraces = false) (Z : gF p l e room_1 s m #[Value.ref b] below meth c cL_law 7 wsL_law RL g) (hN : gN s) (hX : va_X b L xs s s.heap) (hbl : b < s.heap.size) (hg : g.2.2.2 = s.heap.size) (hL : L ≤ 3584) {t : Nat} (ht : t < 512) (hi : 7 * t + 7 ≤ L) (KB : ∀ (μ' : gM) (cnt' lc' wc' : Nat) (pl' : Nat → Nat) (k' n' : Nat), RR μ' cnt' lc' wc' pl' → k' ≤ 120 + 7 * (t + 1) → n' ≤ 9100 + 42 * (t + 1) → J p l e room_1 s m #[Value.ref b] below meth c Q g 7 μ' k' n' 1404 [(0, .ref b), (1, .ref (g.2.1 0)), (2, .ref (g.2.1 31)), (3, .ref (g.2.1 25)), (4, .int (nI (7 * t)))] []) {μ : gM} {cnt lc wc : Nat} {pl : Nat → Nat} : RR μ cnt lc wc pl → J p l e room_1 s m #[Value.ref b] below meth c Q g 7 μ (120 + 7 * t) (9100 + 42 * t) 1324 [(0, .ref b), (1, .ref (g.2.1 0)), (2, .ref (g.2.1 31)), (3, .ref (g.2.1 25)), (4, .int (nI (7 * t)))] [] := by
  intro h
  refine j_aload_n Z dL_law_1324 1 rfl ?_
  refine j_aload_n Z dL_law_1325 0 rfl ?_
  refine j_iload Z dL_law_1326 4 rfl ?_
  refine j_iconst Z (v := 1) dL_law_1328 (by decide) ?_
  refine j_iadd Z dL_law_1329 ?_
  refine j_eq (nI_add (7 * t) 1) ?_
  refine j_sld Z hX hbl hg (by omega) (7 * t + 1) (by omega) dL_law_1330 ?_
  refine j_aload_n Z dL_law_1331 0 rfl ?_
  refine j_iload Z dL_law_1332 4 rfl ?_
  refine j_iconst Z (v := 2) dL_law_1334 (by decide) ?_
  refine j_iadd Z dL_law_1335 ?_
  refine j_eq (nI_add (7 * t) 2) ?_
  refine j_sld Z hX hbl hg (by omega) (7 * t + 2) (by omega) dL_law_1336 ?_
  refine j_aload_n Z dL_law_1337 0 rfl ?_
  refine j_iload Z dL_law_1338 4 rfl ?_
  refine j_iconst Z (v := 3) dL_law_1340 (by decide) ?_
  refine j_iadd Z dL_law_1341 ?_
  refine j_eq (nI_add (7 * t) 3) ?_
  refine j_sld Z hX hbl hg (by omega) (7 * t + 3) (by omega) dL_law_1342 ?_
  refine j_aload_n Z dL_law_1343 3 rfl ?_
  refine j_callSWi Z hN (As := [.ref (g.2.1 0), .int (xs (7 * t + 1)), .int (xs (7 * t + 2)), .int (xs (7 * t + 3)), .ref (g.2.1 25)]) (rest := []) (nA := 5) (c_L_changed l hst g μ cnt lc wc h.1 (xs (7 * t + 1)) (xs (7 * t + 2)) (xs (7 * t + 3))) gL_law_L_changed rfl rfl rfl (by decide +kernel) (by decide) rfl dL_law_1344 rfl (Nat.le_of_ble_eq_true rfl) (rm_k ht (by decide) (by decide)) (fun r9 μ9 hp => ?_)
  refine j_istore Z dL_law_1347 (by decide) [(5, .int r9), (0, .ref b), (1, .ref (g.2.1 0)), (2, .ref (g.2.1 31)), (3, .ref (g.2.1 25)), (4, .int (nI (7 * t)))] rfl ?_
  refine j_aload_n Z dL_law_1349 3 rfl ?_
  refine j_aload_n Z dL_law_1350 1 rfl ?_
  refine j_iload Z dL_law_1351 5 rfl ?_
  refine j_iconst Z (v := 1) dL_law_1353 (by decide) ?_
  refine j_iadd Z dL_law_1354 ?_
  refine j_eq (nI_add (7 * t) 1) ?_
  refine j_sld Z hX hbl hg (by omega) (7 * t + 1) (by omega) dL_law_1355 ?_
  refine j_aload_n Z dL_law_1356 1 rfl ?_
  refine j_iload Z dL_law_1357 5 rfl ?_
  refine j_iconst Z (v := 2) dL_law_1359 (by decide) ?_
  refine j_iadd Z dL_law_1360 ?_
  refine j_eq (nI_add (7 * t) 2) ?_
  refine j_sld Z hX hbl hg (by omega) (7 * t + 2) (by omega) dL_law_1361 ?_
  refine j_aload_n Z dL_law_1362 1 rfl ?_
  refine j_iload Z dL_law_1363 5 rfl ?_
  refine j_iconst Z (v := 3) dL_law_1365 (by decide) ?_
  refine j_iadd Z dL_law_1366 ?_
  refine j_eq (nI_add (7 * t) 3) ?_
  refine j_sld Z hX hbl hg (by omega) (7 * t + 3) (by omega) dL_law_1367 ?_
  refine j_callVi Z (As := [.int (xs (7 * t + 1)), .int (xs (7 * t + 2)), .int (xs (7 * t + 3))]) (rest := []) (nA := 3) 31 (by decide) rfl rfl (c_X6_changed l g μ9 cnt lc wc pl (m9_changed h (xs (7 * t + 1)) (xs (7 * t + 2)) (xs (7 * t + 3)) hp) (xs (7 * t + 1)) (xs (7 * t + 2)) (xs (7 * t + 3)) _ rfl) gL_law_X6_changed rfl rfl rfl (by decide +kernel) (by decide) rfl dL_law_1368 rfl (Nat.le_of_ble_eq_true rfl) (rm_k0 ht (by decide) (by decide)) (fun r6 μ10 h6 => ?_)
  have hs := st_changed h (xs (7 * t + 1)) (xs (7 * t + 2)) (xs (7 * t + 3)) hp rfl h6
  clear hp h6
  obtain ⟨s1, s2, cnt', lc', wc', pl', h'⟩ := hs
  refine j_istore Z dL_law_1371 (by decide) [(6, .int r6), (5, .int r9), (0, .ref b), (1, .ref (g.2.1 0)), (2, .ref (g.2.1 31)), (3, .ref (g.2.1 25)), (4, .int (nI (7 * t)))] rfl ?_
  refine j_aload_n Z dL_law_1373 4 rfl ?_
  refine j_callVi Z (As := []) (rest := []) (nA := 0) 31 (by decide) rfl rfl (c_X6_thrown l g μ10) gL_law_X6_thrown rfl rfl rfl (by decide +kernel) (by decide) rfl dL_law_1374 rfl (Nat.le_of_ble_eq_true rfl) (rm_k0 ht (by decide) (by decide)) (fun r7 μ7 h7 => ?_)
  obtain ⟨rfl, rfl⟩ := h7
  refine j_iload Z dL_law_1377 1 rfl ?_
  refine j_icmp_eq Z 1384 dL_law_1379 (by decide) (fun h8 => ?_) (fun h8 => absurd s1 h8)
  refine j_iload Z dL_law_1384 1 rfl ?_
  have jb : J p l e room_1 s m #[Value.ref b] below meth c Q g 7 μ7 (120 + 7 * t + 3 + 0 + 0) (9100 + 42 * t + 18 + 0 + 0) 1401 [(6, .int r6), (5, .int r9), (0, .ref b), (1, .ref (g.2.1 0)), (2, .ref (g.2.1 31)), (3, .ref (g.2.1 25)), (4, .int (nI (7 * t)))] [] := by
    refine j_goto Z 1404 dL_law_1401 (by decide) ?_
    exact j_sub [2, 3, 4, 5, 6] rfl (KB _ cnt' lc' wc' pl' _ _ h' (by omega) (by omega))
  refine j_if_ne Z 1401 dL_law_1386 (by decide) (fun h7 => jb) (fun h7 => ?_)
  have e2 := s2 h7
  refine j_aload_n Z dL_law_1389 5 rfl ?_
  refine j_iconst Z (v := 0) dL_law_1390 (by decide) ?_
  refine j_lld Z 25 (by decide) (fun _ => rfl) 0 (by decide) (by decide) (by decide) dL_law_1391 ?_
  refine j_iload Z dL_law_1392 0 rfl ?_
  refine j_i2l Z dL_law_1394 rfl ?_
  refine j_lcmp Z dL_law_1395 ?_
  refine j_if_eq Z 1401 dL_law_1396 (by decide) (fun h6 => jb) (fun h6 => absurd (by rw [e2]; exact lg_same _) h6)
set_option maxRecDepth 100000 in
set_option maxHeartbeats 4000000 in
theorem law_loop {p : Program} {l : Launch} {e : Env} {s : State} {m : MethodId} {below : List Frame} {meth : Method} {c : Code} {b L : Nat} {xs : Nat → Int32} {g : gC} {Q : State → Prop} (hst : l.stackTraces = false) (Z : gF p l e room_1 s m #[Value.ref b] below meth c cL_law 7 wsL_law RL g) (hN : gN s) (hX : va_X b L xs s s.heap) (hbl : b < s.heap.size) (hg : g.2.2.2 = s.heap.size) (hL : L ≤ 3584) (KE : ∀ (μ' : gM) (k' n' : Nat) (L' : List (Nat × Value)), k' ≤ 601024 → n' ≤ 7293034 → J p l e room_1 s m #[Value.ref b] below meth c Q g 7 μ' k' n' 1411 L' [.int 1]) : ∀ (n t : Nat) (μ : gM) (cnt lc wc : Nat) (pl : Nat → Nat), RR μ cnt lc wc pl → 513 ≤ t + n → 7 * t ≤ L → J p l e room_1 s m #[Value.ref b] below meth c Q g 7 μ (120 + 7 * t) (9100 + 42 * t) 23 [(0, .ref b), (1, .ref (g.2.1 0)), (2, .ref (g.2.1 31)), (3, .ref (g.2.1 25)), (4, .int (nI (7 * t)))] [] := by
  intro n
  induction n with
  | zero => intro t μ cnt lc wc pl h h1 h2; exact absurd h1 (by omega)
  | succ n ih =>
    intro t μ cnt lc wc pl h h1 h2
    refine j_iload Z dL_law_23 4 rfl ?_
    refine j_aload_n Z dL_law_25 0 rfl ?_
    refine j_slen Z hX hbl hg dL_law_26 ?_
    refine j_bipush Z (v := 7) dL_law_27 (by decide) ?_
    refine j_isub Z dL_law_29 ?_
    refine j_icmp_gt Z 1410 dL_law_30 (by decide) (fun h9 => ?_) (fun h9 => ?_)
    · refine j_iconst Z (v := 1) dL_law_1410 (by decide) ?_
      exact KE _ _ _ _ (by omega) (by omega)
    · have hi := law_in hL h2 h9
      have ht : t < 512 := by omega
      have KB : ∀ (μ' : gM) (cnt' lc' wc' : Nat) (pl' : Nat → Nat) (k' n' : Nat), RR μ' cnt' lc' wc' pl' → k' ≤ 120 + 7 * (t + 1) → n' ≤ 9100 + 42 * (t + 1) → J p l e room_1 s m #[Value.ref b] below meth c Q g 7 μ' k' n' 1404 [(0, .ref b), (1, .ref (g.2.1 0)), (2, .ref (g.2.1 31)), (3, .ref (g.2.1 25)), (4, .int (nI (7 * t)))] [] := by
        intro μ' cnt' lc' wc' pl' k' n' h' hk hn
        refine j_iinc Z dL_law_1404 4 rfl (nI_add (7 * t) 7) (by decide) [(4, .int (nI (7 * (t + 1)))), (0, .ref b), (1, .ref (g.2.1 0)), (2, .ref (g.2.1 31)), (3, .ref (g.2.1 25))] rfl ?_
        refine j_goto Z 23 dL_law_1407 (by decide) ?_
        refine j_sub [1, 2, 3, 4, 0] rfl ?_
        exact j_wide hk hn (ih (t + 1) μ' cnt' lc' wc' pl' h' (by omega) (by omega))
      refine j_aload_n Z dL_law_33 0 rfl ?_
      refine j_iload Z dL_law_34 4 rfl ?_
      refine j_sld Z hX hbl hg (by omega) (7 * t) (by omega) dL_law_36 ?_
      refine j_bipush Z (v := 31) dL_law_37 (by decide) ?_
      refine j_iand Z dL_law_39 ?_
      obtain ⟨j, hj, ej⟩ := and31 (xs (7 * t))
      refine j_eq ej ?_
      clear ej
      by_cases hj18 : j < 18
      · rcases (show j = 0 ∨ j = 1 ∨ j = 2 ∨ j = 3 ∨ j = 4 ∨ j = 5 ∨ j = 6 ∨ j = 7 ∨ j = 8 ∨ j = 9 ∨ j = 10 ∨ j = 11 ∨ j = 12 ∨ j = 13 ∨ j = 14 ∨ j = 15 ∨ j = 16 ∨ j = 17 by omega) with rfl | rfl | rfl | rfl | rfl | rfl | rfl | rfl | rfl | rfl | rfl | rfl | rfl | rfl | rfl | rfl | rfl | rfl
        · exact j_tsIn Z 128 dL_law_40 (by decide) (by decide) rfl (by decide) (law_128 hst Z hN hX hbl hg hL ht hi KB h)
        · exact j_tsIn Z 184 dL_law_40 (by decide) (by decide) rfl (by decide) (law_184 hst Z hN hX hbl hg hL ht hi KB h)
        · exact j_tsIn Z 197 dL_law_40 (by decide) (by decide) rfl (by decide) (law_197 hst Z hN hX hbl hg hL ht hi KB h)
        · exact j_tsIn Z 265 dL_law_40 (by decide) (by decide) rfl (by decide) (law_265 hst Z hN hX hbl hg hL ht hi KB h)
        · exact j_tsIn Z 321 dL_law_40 (by decide) (by decide) rfl (by decide) (law_321 hst Z hN hX hbl hg hL ht hi KB h)
        · exact j_tsIn Z 439 dL_law_40 (by decide) (by decide) rfl (by decide) (law_439 hst Z hN hX hbl hg hL ht hi KB h)
        · exact j_tsIn Z 502 dL_law_40 (by decide) (by decide) rfl (by decide) (law_502 hst Z hN hX hbl hg hL ht hi KB h)
        · exact j_tsIn Z 582 dL_law_40 (by decide) (by decide) rfl (by decide) (law_582 hst Z hN hX hbl hg hL ht hi KB h)
        · exact j_tsIn Z 657 dL_law_40 (by decide) (by decide) rfl (by decide) (law_657 hst Z hN hX hbl hg hL ht hi KB h)
        · exact j_tsIn Z 713 dL_law_40 (by decide) (by decide) rfl (by decide) (law_713 hst Z hN hX hbl hg hL ht hi KB h)
        · exact j_tsIn Z 781 dL_law_40 (by decide) (by decide) rfl (by decide) (law_781 hst Z hN hX hbl hg hL ht hi KB h)
        · exact j_tsIn Z 861 dL_law_40 (by decide) (by decide) rfl (by decide) (law_861 hst Z hN hX hbl hg hL ht hi KB h)
        · exact j_tsIn Z 929 dL_law_40 (by decide) (by decide) rfl (by decide) (law_929 hst Z hN hX hbl hg hL ht hi KB h)
        · exact j_tsIn Z 1009 dL_law_40 (by decide) (by decide) rfl (by decide) (law_1009 hst Z hN hX hbl hg hL ht hi KB h)
        · exact j_tsIn Z 1077 dL_law_40 (by decide) (by decide) rfl (by decide) (law_1077 hst Z hN hX hbl hg hL ht hi KB h)
        · exact j_tsIn Z 1164 dL_law_40 (by decide) (by decide) rfl (by decide) (law_1164 hst Z hN hX hbl hg hL ht hi KB h)
        · exact j_tsIn Z 1256 dL_law_40 (by decide) (by decide) rfl (by decide) (law_1256 hst Z hN hX hbl hg hL ht hi KB h)
        · exact j_tsIn Z 1324 dL_law_40 (by decide) (by decide) rfl (by decide) (law_1324 hst Z hN hX hbl hg hL ht hi KB h)
      · refine j_tsOut Z 1404 dL_law_40 (Or.inr (by rw [nI_toInt (by omega)]; omega)) (by decide) ?_
        exact KB μ cnt lc wc pl _ _ h (by omega) (by omega)
