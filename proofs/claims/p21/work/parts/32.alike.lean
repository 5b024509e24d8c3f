set_option maxRecDepth 100000 in
set_option maxHeartbeats 8000000 in
theorem c_L_alike (l : Launch) (hst : l.stackTraces = false) (g : gC) (μ : gM) (cnt lc wc x : Nat) (R0 : Rel μ cnt lc wc) (hx : x < 2 ^ 31) : Met l yL_alike wsL_alike { frames := 10, cells := 1200, slots := 7200, locals := 179 } (va_Pc [.ref (g.2.1 0), .ref (g.2.1 31), .ref (g.2.1 25), .int (nI x)] (gBW g μ)) (va_Qi (fun (r : Int32) (μ' : gM) => r = 1 ∧ Rel μ' cnt lc wc) (gPB g) (gA g)) 1200 7200 (gA g) := by
  refine g_oB (cc := cL_alike) (nL := 7) (ret := (some .boolean)) (ty := .boolean) (by decide +kernel) rfl rfl (by rintro _ _ ⟨rfl, -⟩; rfl) (Nat.le_of_ble_eq_true rfl) ?_
  intro p e s m args below meth c Q Z hN hR
  have h60 := R0.1.c60
  have hwc : wc ≤ 20 := R0.1.1.2.2.2.2.1
  obtain ⟨dd, hd, ed⟩ := R0.1.2.2.1
  refine j_aload_n Z dL_alike_0 0 rfl ?_
  refine j_callVi Z (As := []) (rest := []) (nA := 0) 0 (by decide) rfl rfl (c_X5_today l g μ) gL_alike_X5_today rfl rfl rfl (by decide +kernel) (by decide) rfl dL_alike_1 rfl (Nat.le_of_ble_eq_true rfl) (by decide) (fun r1 μ1 hp => ?_)
  obtain ⟨e1, e2⟩ := hp
  refine j_mem e2 ?_
  refine j_eq e1 ?_
  clear e1 e2
  refine j_eq ed ?_
  refine j_istore Z dL_alike_4 (by decide) [(4, .int (nI dd)), (0, .ref (g.2.1 0)), (1, .ref (g.2.1 31)), (2, .ref (g.2.1 25)), (3, .int (nI x))] rfl ?_
  refine j_aload_n Z dL_alike_6 2 rfl ?_
  refine j_sw ?_
  refine j_callVi (gF_sw Z) (As := []) (rest := []) (nA := 0) 0 (by decide) rfl rfl (c_X5_today l (gSw g) (sw μ)) gL_alike_X5_today rfl rfl rfl (by decide +kernel) (by decide) rfl dL_alike_7 rfl (Nat.le_of_ble_eq_true rfl) (by decide) (fun r2 μ2 hp => ?_)
  obtain ⟨e1, e2⟩ := hp
  refine j_mem e2 ?_
  refine j_eq e1 ?_
  clear e1 e2
  refine j_bk ?_
  refine j_mem (sw_sw _) ?_
  refine j_eq ((congrFun (R0.2.2.1 0 (by unfold Pc; omega)) 0).trans ed) ?_
  refine j_iload Z dL_alike_10 0 rfl ?_
  refine j_icmp_ne Z 55 dL_alike_12 (by decide) (fun h => absurd rfl h) (fun _ => ?_)
  refine j_aload_n Z dL_alike_15 1 rfl ?_
  refine j_iload Z dL_alike_16 0 rfl ?_
  refine j_callSWi Z hN (As := [.ref (g.2.1 0), .int (nI dd)]) (rest := []) (nA := 2) (c_L_things l hst g μ cnt lc wc R0.1.1 (nI dd)) gL_alike_L_things rfl rfl rfl (by decide +kernel) (by decide) rfl dL_alike_18 rfl (Nat.le_of_ble_eq_true rfl) (by decide) (fun r3 μ3 hp => ?_)
  have hp3 := hp
  clear hp
  have S3 := (n_things R0.1 R0.1.rf hp3).1
  have R3 := R0.scA S3
  refine j_aload_n Z dL_alike_21 2 rfl ?_
  refine j_iload Z dL_alike_22 0 rfl ?_
  refine j_sw ?_
  refine j_callSWi (gF_sw Z) hN (As := [.ref (g.2.1 31), .int (nI dd)]) (rest := [.int r3]) (nA := 2) (c_L_things l hst (gSw g) (sw μ3) cnt lc wc R3.2.1.1 (nI dd)) gL_alike_L_things rfl rfl rfl (by decide +kernel) (by decide) rfl dL_alike_24 rfl (Nat.le_of_ble_eq_true rfl) (by decide) (fun r4 μ4 hp => ?_)
  have S4 := (n_things R3.2.1 R3.2.1.rf hp).1
  have q := v_things R0.1 R3.2.1 (S3.pe.trans R3.2.2.1) hp3 hp
  refine j_bk ?_
  refine j_eq q ?_
  refine j_all (fun ξ => Rel ξ cnt lc wc) (R3.scB S4) (fun ξ4 R4 => ?_)
  clear q hp hp3
  refine j_icmp_ne Z 55 dL_alike_27 (by decide) (fun h => absurd rfl h) (fun _ => ?_)
  refine j_aload_n Z dL_alike_30 1 rfl ?_
  refine j_iload_n Z dL_alike_31 4 rfl ?_
  refine j_iconst Z (v := 2) dL_alike_32 (by decide) ?_
  refine j_iremN Z (a := x) (b := 2) dL_alike_33 (by decide) (by omega) (by omega) (by omega) ?_
  refine j_iload Z dL_alike_34 0 rfl ?_
  refine j_callSWi Z hN (As := [.ref (g.2.1 0), .int (nI (x % 2)), .int (nI dd)]) (rest := []) (nA := 3) (c_L_disputed l hst g ξ4 cnt lc wc R4.1.1 (nI (x % 2)) (nI dd)) gL_alike_L_disputed rfl rfl rfl (by decide +kernel) (by decide) rfl dL_alike_36 rfl (Nat.le_of_ble_eq_true rfl) (by decide) (fun r5 μ5 hp => ?_)
  have hp5 := hp
  clear hp
  have S5 := (n_disputed R4.1 R4.1.rf hp5).1
  have R5 := R4.scA S5
  refine j_aload_n Z dL_alike_39 2 rfl ?_
  refine j_iload_n Z dL_alike_40 4 rfl ?_
  refine j_iconst Z (v := 2) dL_alike_41 (by decide) ?_
  refine j_iremN Z (a := x) (b := 2) dL_alike_42 (by decide) (by omega) (by omega) (by omega) ?_
  refine j_iload Z dL_alike_43 0 rfl ?_
  refine j_sw ?_
  refine j_callSWi (gF_sw Z) hN (As := [.ref (g.2.1 31), .int (nI (x % 2)), .int (nI dd)]) (rest := [.int r5]) (nA := 3) (c_L_disputed l hst (gSw g) (sw μ5) cnt lc wc R5.2.1.1 (nI (x % 2)) (nI dd)) gL_alike_L_disputed rfl rfl rfl (by decide +kernel) (by decide) rfl dL_alike_45 rfl (Nat.le_of_ble_eq_true rfl) (by decide) (fun r6 μ6 hp => ?_)
  have S6 := (n_disputed R5.2.1 R5.2.1.rf hp).1
  have q := v_disputed R4.1 R5.2.1 (S5.pe.trans R5.2.2.1) hp5 hp
  refine j_bk ?_
  refine j_eq q ?_
  refine j_all (fun ξ => Rel ξ cnt lc wc) (R5.scB S6) (fun ξ6 R6 => ?_)
  clear q hp hp5
  refine j_icmp_ne Z 55 dL_alike_48 (by decide) (fun h => absurd rfl h) (fun _ => ?_)
  refine j_iconst Z (v := 1) dL_alike_51 (by decide) ?_
  refine j_goto Z 56 dL_alike_52 (by decide) ?_
  refine j_istore Z dL_alike_56 (by decide) [(5, .int 1), (4, .int (nI dd)), (0, .ref (g.2.1 0)), (1, .ref (g.2.1 31)), (2, .ref (g.2.1 25)), (3, .int (nI x))] rfl ?_
  refine j_iconst Z (v := 0) dL_alike_58 (by decide) ?_
  refine j_istore Z dL_alike_59 (by decide) [(6, .int 0), (5, .int 1), (4, .int (nI dd)), (0, .ref (g.2.1 0)), (1, .ref (g.2.1 31)), (2, .ref (g.2.1 25)), (3, .int (nI x))] rfl ?_
  have LP : ∀ (n k : Nat) (ξ : gM), k + n = cnt → Rel ξ cnt lc wc → J p l e { frames := 10, cells := 1200, slots := 7200, locals := 179 } s m args below meth c Q g 7 ξ (6 + 18 * k) (36 + 108 * k) 61 [(6, .int (nI k)), (5, .int 1), (4, .int (nI dd)), (0, .ref (g.2.1 0)), (1, .ref (g.2.1 31)), (2, .ref (g.2.1 25)), (3, .int (nI x))] [] := by
    intro n
    induction n with
    | zero =>
      intro k ξ hk R
      refine j_iload Z dL_alike_61 0 rfl ?_
      refine j_aload_n Z dL_alike_63 5 rfl ?_
      refine j_iconst Z (v := 0) dL_alike_64 (by decide) ?_
      refine j_ild Z 25 (by decide) (fun _ => rfl) 0 (by decide) (by decide) (by decide) dL_alike_65 ?_
      refine j_eq R.2.2.2.1 ?_
      refine j_icmp_ge Z 160 dL_alike_66 (by decide) (fun _ => ?_) (fun h => absurd ((nI_leI (by omega) (by omega)).mpr (by omega)) h)
      have JF : ∀ ξ : gM, Rel ξ cnt lc wc → J p l e { frames := 10, cells := 1200, slots := 7200, locals := 179 } s m args below meth c Q g 7 ξ (6 + 18 * k + 8) (36 + 108 * k + 48) 227 [(6, .int (nI k)), (5, .int 1), (4, .int (nI dd)), (0, .ref (g.2.1 0)), (1, .ref (g.2.1 31)), (2, .ref (g.2.1 25)), (3, .int (nI x))] [] := by
        intro ξ R
        refine j_iconst Z (v := 1) dL_alike_227 (by decide) ?_
        refine j_goto Z 232 dL_alike_228 (by decide) ?_
        exact hR _ _ _ _ _ _ (⟨rfl, R⟩) (by omega) (by omega) dL_alike_232
      have JE : ∀ ξ : gM, Rel ξ cnt lc wc → J p l e { frames := 10, cells := 1200, slots := 7200, locals := 179 } s m args below meth c Q g 7 ξ (6 + 18 * k + 6) (36 + 108 * k + 36) 196 [(6, .int (nI k)), (5, .int 1), (4, .int (nI dd)), (0, .ref (g.2.1 0)), (1, .ref (g.2.1 31)), (2, .ref (g.2.1 25)), (3, .int (nI x))] [] := by
        intro ξ R
        refine j_aload_n Z dL_alike_196 5 rfl ?_
        refine j_iconst Z (v := 2) dL_alike_197 (by decide) ?_
        refine j_ild Z 25 (by decide) (fun _ => rfl) 2 (by decide) (by decide) (by decide) dL_alike_198 ?_
        refine j_eq R.2.2.2.2 ?_
        refine j_if_eq Z 227 dL_alike_199 (by decide) (fun h199 => ?_) (fun h199 => ?_)
        · skip
          exact j_sub [0, 1, 2, 3, 4, 5, 6] rfl (j_wide (k' := 6 + 18 * k + 8) (n' := 36 + 108 * k + 48) (by omega) (by omega) (JF _ R))
        · skip
          have hw0 := nI_n0 h199
          refine j_aload_n Z dL_alike_202 3 rfl ?_
          refine j_iload_n Z dL_alike_203 6 rfl ?_
          refine j_aload_n Z dL_alike_204 5 rfl ?_
          refine j_iconst Z (v := 2) dL_alike_205 (by decide) ?_
          refine j_ild Z 25 (by decide) (fun _ => rfl) 2 (by decide) (by decide) (by decide) dL_alike_206 ?_
          refine j_eq R.2.2.2.2 ?_
          refine j_iremN Z (a := x) (b := wc) dL_alike_207 rfl (by omega) (by omega) (by omega) ?_
          refine j_iload Z dL_alike_208 2 rfl ?_
          refine j_callSWi Z hN (As := [.ref (g.2.1 0), .int (nI (x % wc)), .int (nI dd)]) (rest := []) (nA := 3) (c_L_differing l hst g ξ cnt lc wc R.1.1 (nI (x % wc)) (nI dd)) gL_alike_L_differing rfl rfl rfl (by decide +kernel) (by decide) rfl dL_alike_210 rfl (Nat.le_of_ble_eq_true rfl) ⟨by show _ ≤ 1200; omega, by show _ ≤ 7200; omega⟩ (fun r7 μ7 hp => ?_)
          have hp7 := hp
          clear hp
          have S7 := (n_differing R.1 R.1.rf hp7).1
          have R7 := R.scA S7
          refine j_aload_n Z dL_alike_213 4 rfl ?_
          refine j_iload_n Z dL_alike_214 6 rfl ?_
          refine j_aload_n Z dL_alike_215 5 rfl ?_
          refine j_iconst Z (v := 2) dL_alike_216 (by decide) ?_
          refine j_ild Z 25 (by decide) (fun _ => rfl) 2 (by decide) (by decide) (by decide) dL_alike_217 ?_
          refine j_eq R7.2.2.2.2 ?_
          refine j_iremN Z (a := x) (b := wc) dL_alike_218 rfl (by omega) (by omega) (by omega) ?_
          refine j_iload Z dL_alike_219 2 rfl ?_
          refine j_sw ?_
          refine j_callSWi (gF_sw Z) hN (As := [.ref (g.2.1 31), .int (nI (x % wc)), .int (nI dd)]) (rest := [.int r7]) (nA := 3) (c_L_differing l hst (gSw g) (sw μ7) cnt lc wc R7.2.1.1 (nI (x % wc)) (nI dd)) gL_alike_L_differing rfl rfl rfl (by decide +kernel) (by decide) rfl dL_alike_221 rfl (Nat.le_of_ble_eq_true rfl) ⟨by show _ ≤ 1200; omega, by show _ ≤ 7200; omega⟩ (fun r8 μ8 hp => ?_)
          have S8 := (n_differing R7.2.1 R7.2.1.rf hp).1
          have q := v_differing R.1 R7.2.1 (S7.pe.trans R7.2.2.1) hp7 hp
          refine j_bk ?_
          refine j_eq q ?_
          refine j_all (fun ξ => Rel ξ cnt lc wc) (R7.scB S8) (fun ξ8 R8 => ?_)
          clear q hp hp7
          refine j_icmp_ne Z 231 dL_alike_224 (by decide) (fun h => absurd rfl h) (fun _ => ?_)
          exact j_sub [0, 1, 2, 3, 4, 5, 6] rfl (j_wide (k' := 6 + 18 * k + 8) (n' := 36 + 108 * k + 48) (by omega) (by omega) (JF _ R8))
      refine j_iload Z dL_alike_160 1 rfl ?_
      refine j_if_eq Z 231 dL_alike_162 (by decide) (fun h => absurd h (by decide)) (fun _ => ?_)
      refine j_aload_n Z dL_alike_165 5 rfl ?_
      refine j_iconst Z (v := 0) dL_alike_166 (by decide) ?_
      refine j_ild Z 25 (by decide) (fun _ => rfl) 0 (by decide) (by decide) (by decide) dL_alike_167 ?_
      refine j_eq R.2.2.2.1 ?_
      refine j_if_eq Z 196 dL_alike_168 (by decide) (fun h168 => ?_) (fun h168 => ?_)
      · skip
        exact j_sub [0, 1, 2, 3, 4, 5, 6] rfl (j_wide (k' := 6 + 18 * k + 6) (n' := 36 + 108 * k + 36) (by omega) (by omega) (JE _ R))
      · skip
        have hc0 := nI_n0 h168
        refine j_aload_n Z dL_alike_171 3 rfl ?_
        refine j_iload_n Z dL_alike_172 6 rfl ?_
        refine j_aload_n Z dL_alike_173 5 rfl ?_
        refine j_iconst Z (v := 0) dL_alike_174 (by decide) ?_
        refine j_ild Z 25 (by decide) (fun _ => rfl) 0 (by decide) (by decide) (by decide) dL_alike_175 ?_
        refine j_eq R.2.2.2.1 ?_
        refine j_iremN Z (a := x) (b := cnt) dL_alike_176 rfl (by omega) (by omega) (by omega) ?_
        refine j_iload Z dL_alike_177 2 rfl ?_
        refine j_callSWi Z hN (As := [.ref (g.2.1 0), .int (nI (x % cnt)), .int (nI dd)]) (rest := []) (nA := 3) (c_L_impact l hst g ξ cnt lc wc R.1.1 (nI (x % cnt)) (nI dd)) gL_alike_L_impact rfl rfl rfl (by decide +kernel) (by decide) rfl dL_alike_179 rfl (Nat.le_of_ble_eq_true rfl) ⟨by show _ ≤ 1200; omega, by show _ ≤ 7200; omega⟩ (fun r9 μ9 hp => ?_)
        have hp9 := hp
        clear hp
        have S9 := (n_impact R.1 R.1.rf hp9).1
        have R9 := R.scA S9
        refine j_aload_n Z dL_alike_182 4 rfl ?_
        refine j_iload_n Z dL_alike_183 6 rfl ?_
        refine j_aload_n Z dL_alike_184 5 rfl ?_
        refine j_iconst Z (v := 0) dL_alike_185 (by decide) ?_
        refine j_ild Z 25 (by decide) (fun _ => rfl) 0 (by decide) (by decide) (by decide) dL_alike_186 ?_
        refine j_eq R9.2.2.2.1 ?_
        refine j_iremN Z (a := x) (b := cnt) dL_alike_187 rfl (by omega) (by omega) (by omega) ?_
        refine j_iload Z dL_alike_188 2 rfl ?_
        refine j_sw ?_
        refine j_callSWi (gF_sw Z) hN (As := [.ref (g.2.1 31), .int (nI (x % cnt)), .int (nI dd)]) (rest := [.int r9]) (nA := 3) (c_L_impact l hst (gSw g) (sw μ9) cnt lc wc R9.2.1.1 (nI (x % cnt)) (nI dd)) gL_alike_L_impact rfl rfl rfl (by decide +kernel) (by decide) rfl dL_alike_190 rfl (Nat.le_of_ble_eq_true rfl) ⟨by show _ ≤ 1200; omega, by show _ ≤ 7200; omega⟩ (fun r10 μ10 hp => ?_)
        have S10 := (n_impact R9.2.1 R9.2.1.rf hp).1
        have q := v_impact R.1 R9.2.1 (S9.pe.trans R9.2.2.1) hp9 hp
        refine j_bk ?_
        refine j_eq q ?_
        refine j_all (fun ξ => Rel ξ cnt lc wc) (R9.scB S10) (fun ξ10 R10 => ?_)
        clear q hp hp9
        refine j_icmp_ne Z 231 dL_alike_193 (by decide) (fun h => absurd rfl h) (fun _ => ?_)
        exact j_sub [0, 1, 2, 3, 4, 5, 6] rfl (j_wide (k' := 6 + 18 * k + 6) (n' := 36 + 108 * k + 36) (by omega) (by omega) (JE _ R10))
    | succ n ih =>
      intro k ξ hk R
      refine j_iload Z dL_alike_61 0 rfl ?_
      refine j_aload_n Z dL_alike_63 5 rfl ?_
      refine j_iconst Z (v := 0) dL_alike_64 (by decide) ?_
      refine j_ild Z 25 (by decide) (fun _ => rfl) 0 (by decide) (by decide) (by decide) dL_alike_65 ?_
      refine j_eq R.2.2.2.1 ?_
      refine j_icmp_ge Z 160 dL_alike_66 (by decide) (fun h => absurd h (fun q => by have := (nI_leI (by omega) (by omega)).mp q; omega)) (fun _ => ?_)
      refine j_iload Z dL_alike_69 1 rfl ?_
      refine j_if_eq Z 160 dL_alike_71 (by decide) (fun h => absurd h (by decide)) (fun _ => ?_)
      have JD : ∀ ξ : gM, Rel ξ cnt lc wc → J p l e { frames := 10, cells := 1200, slots := 7200, locals := 179 } s m args below meth c Q g 7 ξ (6 + 18 * k + 18) (36 + 108 * k + 108) 147 [(6, .int (nI k)), (5, .int 1), (4, .int (nI dd)), (0, .ref (g.2.1 0)), (1, .ref (g.2.1 31)), (2, .ref (g.2.1 25)), (3, .int (nI x))] [] := by
        intro ξ R
        refine j_iconst Z (v := 1) dL_alike_147 (by decide) ?_
        refine j_goto Z 152 dL_alike_148 (by decide) ?_
        refine j_istore Z dL_alike_152 (by decide) [(5, .int 1), (6, .int (nI k)), (4, .int (nI dd)), (0, .ref (g.2.1 0)), (1, .ref (g.2.1 31)), (2, .ref (g.2.1 25)), (3, .int (nI x))] rfl ?_
        refine j_iinc Z dL_alike_154 1 rfl (nI_1 k) (by decide) [(6, .int (nI (k + 1))), (5, .int 1), (4, .int (nI dd)), (0, .ref (g.2.1 0)), (1, .ref (g.2.1 31)), (2, .ref (g.2.1 25)), (3, .int (nI x))] rfl ?_
        refine j_goto Z 61 dL_alike_157 (by decide) ?_
        exact j_sub [0, 1, 2, 3, 4, 5, 6] rfl (j_wide (k' := 6 + 18 * (k + 1)) (n' := 36 + 108 * (k + 1)) (by omega) (by omega) (ih (k + 1) _ (by omega) R))
      refine j_aload_n Z dL_alike_74 3 rfl ?_
      refine j_iload Z dL_alike_75 0 rfl ?_
      refine j_iload Z dL_alike_77 2 rfl ?_
      refine j_callSWi Z hN (As := [.ref (g.2.1 0), .int (nI k), .int (nI dd)]) (rest := []) (nA := 3) (c_L_counts l hst g ξ cnt lc wc R.1.1 (nI k) (nI dd)) gL_alike_L_counts rfl rfl rfl (by decide +kernel) (by decide) rfl dL_alike_79 rfl (Nat.le_of_ble_eq_true rfl) ⟨by show _ ≤ 1200; omega, by show _ ≤ 7200; omega⟩ (fun r11 μ11 hp => ?_)
      have hp11 := hp
      clear hp
      have S11 := (n_counts R.1 R.1.rf hp11).1
      have R11 := R.scA S11
      refine j_aload_n Z dL_alike_82 4 rfl ?_
      refine j_iload Z dL_alike_83 0 rfl ?_
      refine j_iload Z dL_alike_85 2 rfl ?_
      refine j_sw ?_
      refine j_callSWi (gF_sw Z) hN (As := [.ref (g.2.1 31), .int (nI k), .int (nI dd)]) (rest := [.int r11]) (nA := 3) (c_L_counts l hst (gSw g) (sw μ11) cnt lc wc R11.2.1.1 (nI k) (nI dd)) gL_alike_L_counts rfl rfl rfl (by decide +kernel) (by decide) rfl dL_alike_87 rfl (Nat.le_of_ble_eq_true rfl) ⟨by show _ ≤ 1200; omega, by show _ ≤ 7200; omega⟩ (fun r12 μ12 hp => ?_)
      have S12 := (n_counts R11.2.1 R11.2.1.rf hp).1
      have q := v_counts R.1 R11.2.1 (S11.pe.trans R11.2.2.1) hp11 hp
      refine j_bk ?_
      refine j_eq q ?_
      refine j_all (fun ξ => Rel ξ cnt lc wc) (R11.scB S12) (fun ξ12 R12 => ?_)
      clear q hp hp11
      refine j_icmp_ne Z 151 dL_alike_90 (by decide) (fun h => absurd rfl h) (fun _ => ?_)
      refine j_iload Z dL_alike_93 0 rfl ?_
      refine j_iconst Z (v := 3) dL_alike_95 (by decide) ?_
      refine j_iremN Z (a := k) (b := 3) dL_alike_96 (by decide) (by omega) (by omega) (by omega) ?_
      refine j_iload_n Z dL_alike_97 6 rfl ?_
      refine j_iconst Z (v := 3) dL_alike_98 (by decide) ?_
      refine j_iremN Z (a := x) (b := 3) dL_alike_99 (by decide) (by omega) (by omega) (by omega) ?_
      refine j_icmp_ne Z 147 dL_alike_100 (by decide) (fun h100 => ?_) (fun h100 => ?_)
      · skip
        exact j_sub [0, 1, 2, 3, 4, 5, 6] rfl (j_wide (k' := 6 + 18 * k + 18) (n' := 36 + 108 * k + 108) (by omega) (by omega) (JD _ R12))
      · skip
        refine j_aload_n Z dL_alike_103 3 rfl ?_
        refine j_iload Z dL_alike_104 0 rfl ?_
        refine j_iload Z dL_alike_106 2 rfl ?_
        refine j_callSWi Z hN (As := [.ref (g.2.1 0), .int (nI k), .int (nI dd)]) (rest := []) (nA := 3) (c_L_thing l hst g ξ12 cnt lc wc R12.1.1 (nI k) (nI dd)) gL_alike_L_thing rfl rfl rfl (by decide +kernel) (by decide) rfl dL_alike_108 rfl (Nat.le_of_ble_eq_true rfl) ⟨by show _ ≤ 1200; omega, by show _ ≤ 7200; omega⟩ (fun r13 μ13 hp => ?_)
        have hp13 := hp
        clear hp
        have S13 := (n_thing R12.1 R12.1.rf hp13).1
        have R13 := R12.scA S13
        refine j_aload_n Z dL_alike_111 4 rfl ?_
        refine j_iload Z dL_alike_112 0 rfl ?_
        refine j_iload Z dL_alike_114 2 rfl ?_
        refine j_sw ?_
        refine j_callSWi (gF_sw Z) hN (As := [.ref (g.2.1 31), .int (nI k), .int (nI dd)]) (rest := [.int r13]) (nA := 3) (c_L_thing l hst (gSw g) (sw μ13) cnt lc wc R13.2.1.1 (nI k) (nI dd)) gL_alike_L_thing rfl rfl rfl (by decide +kernel) (by decide) rfl dL_alike_116 rfl (Nat.le_of_ble_eq_true rfl) ⟨by show _ ≤ 1200; omega, by show _ ≤ 7200; omega⟩ (fun r14 μ14 hp => ?_)
        have S14 := (n_thing R13.2.1 R13.2.1.rf hp).1
        have q := v_thing R12.1 R13.2.1 (S13.pe.trans R13.2.2.1) hp13 hp
        refine j_bk ?_
        refine j_eq q ?_
        refine j_all (fun ξ => Rel ξ cnt lc wc) (R13.scB S14) (fun ξ14 R14 => ?_)
        clear q hp hp13
        refine j_icmp_ne Z 151 dL_alike_119 (by decide) (fun h => absurd rfl h) (fun _ => ?_)
        refine j_aload_n Z dL_alike_122 3 rfl ?_
        refine j_iload Z dL_alike_123 0 rfl ?_
        refine j_iload_n Z dL_alike_125 6 rfl ?_
        refine j_iconst Z (v := 2) dL_alike_126 (by decide) ?_
        refine j_iremN Z (a := x) (b := 2) dL_alike_127 (by decide) (by omega) (by omega) (by omega) ?_
        refine j_iload Z dL_alike_128 2 rfl ?_
        refine j_callSWi Z hN (As := [.ref (g.2.1 0), .int (nI k), .int (nI (x % 2)), .int (nI dd)]) (rest := []) (nA := 4) (c_L_value l hst g ξ14 cnt lc wc R14.1.1 (nI k) (nI (x % 2)) (nI dd)) gL_alike_L_value rfl rfl rfl (by decide +kernel) (by decide) rfl dL_alike_130 rfl (Nat.le_of_ble_eq_true rfl) ⟨by show _ ≤ 1200; omega, by show _ ≤ 7200; omega⟩ (fun r15 μ15 hp => ?_)
        have hp15 := hp
        clear hp
        have S15 := (n_value R14.1 R14.1.rf hp15).1
        have R15 := R14.scA S15
        refine j_aload_n Z dL_alike_133 4 rfl ?_
        refine j_iload Z dL_alike_134 0 rfl ?_
        refine j_iload_n Z dL_alike_136 6 rfl ?_
        refine j_iconst Z (v := 2) dL_alike_137 (by decide) ?_
        refine j_iremN Z (a := x) (b := 2) dL_alike_138 (by decide) (by omega) (by omega) (by omega) ?_
        refine j_iload Z dL_alike_139 2 rfl ?_
        refine j_sw ?_
        refine j_callSWi (gF_sw Z) hN (As := [.ref (g.2.1 31), .int (nI k), .int (nI (x % 2)), .int (nI dd)]) (rest := [.int r15]) (nA := 4) (c_L_value l hst (gSw g) (sw μ15) cnt lc wc R15.2.1.1 (nI k) (nI (x % 2)) (nI dd)) gL_alike_L_value rfl rfl rfl (by decide +kernel) (by decide) rfl dL_alike_141 rfl (Nat.le_of_ble_eq_true rfl) ⟨by show _ ≤ 1200; omega, by show _ ≤ 7200; omega⟩ (fun r16 μ16 hp => ?_)
        have S16 := (n_value R15.2.1 R15.2.1.rf hp).1
        have q := v_value R14.1 R15.2.1 (S15.pe.trans R15.2.2.1) hp15 hp
        refine j_bk ?_
        refine j_eq q ?_
        refine j_all (fun ξ => Rel ξ cnt lc wc) (R15.scB S16) (fun ξ16 R16 => ?_)
        clear q hp hp15
        refine j_icmp_ne Z 151 dL_alike_144 (by decide) (fun h => absurd rfl h) (fun _ => ?_)
        exact j_sub [0, 1, 2, 3, 4, 5, 6] rfl (j_wide (k' := 6 + 18 * k + 18) (n' := 36 + 108 * k + 108) (by omega) (by omega) (JD _ R16))
  exact j_sub [0, 1, 2, 3, 4, 5, 6] rfl (LP cnt 0 _ (by omega) R6)
