set_option maxRecDepth 100000 in
set_option maxHeartbeats 8000000 in
theorem c_L_parts (l : Launch) (hst : l.stackTraces = false) (g : gC) (μ : gM) (cnt lc wc x : Nat) (I : I1 μ cnt lc wc) (hn0 : μ 25 0 = nI cnt) (hc2 : 2 ≤ cnt) (hx : x < 2 ^ 31) : Met l yL_parts wsL_parts { frames := 10, cells := 80, slots := 480, locals := 177 } (va_Pc [.ref (g.2.1 0), .ref (g.2.1 25), .int (nI x)] (gBW g μ)) (va_Qi (fun (r : Int32) (_ : gM) => r = 1) (gPB g) (gA g)) 80 480 (gA g) := by
  refine g_oB (cc := cL_parts) (nL := 13) (ret := (some .boolean)) (ty := .boolean) (by decide +kernel) rfl rfl (by rintro _ _ rfl; rfl) (Nat.le_of_ble_eq_true rfl) ?_
  intro p e s m args below meth c Q Z hN hR
  have S0 := I.rf
  have h60 := I.c60
  obtain ⟨dd, hd, ed⟩ := I.2.2.1
  have hday : inB (nI dd) 0 9999 = true := inB_in (m := 9999) (by decide) hd (by decide)
  refine j_aload_n Z dL_parts_0 0 rfl ?_
  refine j_callVi Z (As := []) (rest := []) (nA := 0) 0 (by decide) rfl rfl (c_X5_today l g μ) gL_parts_X5_today rfl rfl rfl (by decide +kernel) (by decide) rfl dL_parts_1 rfl (Nat.le_of_ble_eq_true rfl) (by decide) (fun r1 μ1 hp => ?_)
  obtain ⟨e1, e2⟩ := hp
  refine j_mem e2 ?_
  refine j_eq e1 ?_
  clear e1 e2
  refine j_eq ed ?_
  refine j_istore_n Z dL_parts_4 (by decide) [(3, .int (nI dd)), (0, .ref (g.2.1 0)), (1, .ref (g.2.1 25)), (2, .int (nI x))] rfl ?_
  refine j_iload_n Z dL_parts_5 3 rfl ?_
  refine j_aload_n Z dL_parts_6 2 rfl ?_
  refine j_iconst Z (v := 0) dL_parts_7 (by decide) ?_
  refine j_ild Z 25 (by decide) (fun _ => rfl) 0 (by decide) (by decide) (by decide) dL_parts_8 ?_
  refine j_eq ((congrFun ((S0.1 25 (by decide) (by decide) (by decide)).trans rfl) 0).trans hn0) ?_
  refine j_iremN Z (a := x) (b := cnt) dL_parts_9 rfl (by omega) (by omega) (by omega) ?_
  obtain ⟨i, hi, ei⟩ : ∃ i, i < cnt ∧ x % cnt = i := ⟨_, Nat.mod_lt _ (by omega), rfl⟩
  refine j_eq (congrArg nI ei) ?_
  refine j_istore Z dL_parts_10 (by decide) [(4, .int (nI i)), (3, .int (nI dd)), (0, .ref (g.2.1 0)), (1, .ref (g.2.1 25)), (2, .int (nI x))] rfl ?_
  refine j_iload Z dL_parts_12 0 rfl ?_
  refine j_iconst Z (v := 1) dL_parts_14 (by decide) ?_
  refine j_iadd Z dL_parts_15 ?_
  refine j_eq (nI_add i 1) ?_
  refine j_iload_n Z dL_parts_16 4 rfl ?_
  refine j_bipush Z (v := 32) dL_parts_17 (by decide) ?_
  refine j_idivN Z (a := x) (b := 32) dL_parts_19 (by decide) (by omega) (by omega) (by omega) ?_
  refine j_aload_n Z dL_parts_20 3 rfl ?_
  refine j_iconst Z (v := 0) dL_parts_21 (by decide) ?_
  refine j_ild Z 25 (by decide) (fun _ => rfl) 0 (by decide) (by decide) (by decide) dL_parts_22 ?_
  refine j_eq ((congrFun ((S0.1 25 (by decide) (by decide) (by decide)).trans rfl) 0).trans hn0) ?_
  refine j_iconst Z (v := 1) dL_parts_23 (by decide) ?_
  refine j_isub Z dL_parts_24 ?_
  refine j_eq (y := nI (cnt - 1)) (nI_sub1 (by omega)) ?_
  refine j_iremN Z (a := (x / 32)) (b := (cnt - 1)) dL_parts_25 rfl (by omega) (by omega) (by omega) ?_
  obtain ⟨t, htt, et⟩ : ∃ t, t < cnt - 1 ∧ x / 32 % (cnt - 1) = t := ⟨_, Nat.mod_lt _ (by omega), rfl⟩
  refine j_eq (congrArg nI et) ?_
  refine j_iadd Z dL_parts_26 ?_
  refine j_eq (nI_add (i + 1) t) ?_
  refine j_aload_n Z dL_parts_27 3 rfl ?_
  refine j_iconst Z (v := 0) dL_parts_28 (by decide) ?_
  refine j_ild Z 25 (by decide) (fun _ => rfl) 0 (by decide) (by decide) (by decide) dL_parts_29 ?_
  refine j_eq ((congrFun ((S0.1 25 (by decide) (by decide) (by decide)).trans rfl) 0).trans hn0) ?_
  refine j_iremN Z (a := ((i + 1) + t)) (b := cnt) dL_parts_30 rfl (by omega) (by omega) (by omega) ?_
  obtain ⟨j, hj, ej⟩ : ∃ j, j < cnt ∧ (i + 1 + t) % cnt = j := ⟨_, Nat.mod_lt _ (by omega), rfl⟩
  have hij : ¬ i = j := fun q => oth_ne hi htt (by rw [ej]; exact q.symm)
  have hIJ : ¬ nI i = nI j := fun q => hij ((nI_eq (by omega) (by omega)).mp q)
  have fi : fndB cnt (nI i) = true := fndB_nI hi (by omega)
  have fj : fndB cnt (nI j) = true := fndB_nI hj (by omega)
  have xi : ix (nI i) = i := ix_nI (by omega)
  have xj : ix (nI j) = j := ix_nI (by omega)
  obtain ⟨w, hw0⟩ : ∃ w, w = μ (50 + i) j := ⟨_, rfl⟩
  have hsy := I.2.2.2.2.2.1 i j (by omega) (by omega)
  have hw : inB w 0 2 = true := by rw [hw0]; exact hsy.2
  refine j_eq (congrArg nI ej) ?_
  refine j_istore Z dL_parts_31 (by decide) [(5, .int (nI j)), (4, .int (nI i)), (3, .int (nI dd)), (0, .ref (g.2.1 0)), (1, .ref (g.2.1 25)), (2, .int (nI x))] rfl ?_
  refine j_aload_n Z dL_parts_33 3 rfl ?_
  refine j_iload_n Z dL_parts_34 2 rfl ?_
  refine j_callSWi Z hN (As := [.ref (g.2.1 0), .int (nI dd)]) (rest := []) (nA := 2) (c_L_things l hst g μ cnt lc wc (I.sc S0).1 (nI dd)) gL_parts_L_things rfl rfl rfl (by decide +kernel) (by decide) rfl dL_parts_35 rfl (Nat.le_of_ble_eq_true rfl) (by decide) (fun r2 μ2 hp => ?_)
  have S2 := (n_things I S0 hp).1
  have e2 := (n_things I S0 hp).2.2 (hday)
  clear hp
  refine j_eq (y := nI (nT μ cnt (nI dd))) e2 ?_
  clear e2
  refine j_istore Z dL_parts_38 (by decide) [(6, .int (nI (nT μ cnt (nI dd)))), (5, .int (nI j)), (4, .int (nI i)), (3, .int (nI dd)), (0, .ref (g.2.1 0)), (1, .ref (g.2.1 25)), (2, .int (nI x))] rfl ?_
  refine j_aload_n Z dL_parts_40 4 rfl ?_
  refine j_iload Z dL_parts_41 2 rfl ?_
  refine j_iload Z dL_parts_43 1 rfl ?_
  refine j_iconst Z (v := 1) dL_parts_45 (by decide) ?_
  refine j_callSWi Z hN (As := [.ref (g.2.1 0), .int (nI i), .int (nI j), .int 1]) (rest := []) (nA := 4) (c_L_tells l hst g μ2 cnt lc wc (I.sc S2).1 (nI i) (nI j) 1) gL_parts_L_tells rfl rfl rfl (by decide +kernel) (by decide) rfl dL_parts_46 rfl (Nat.le_of_ble_eq_true rfl) (by decide) (fun r3 μ3 hp => ?_)
  have hk : k2 (fndB cnt (nI i) && fndB cnt (nI j)) (!decide (nI i = nI j) && inB 1 0 2) = 0 := by rw [fi, fj, ne_t hIJ, show inB 1 0 2 = true by decide]; rfl
  obtain ⟨e1, e2⟩ := x_tells (cnt := cnt) (lc := lc) (wc := wc) hp
  unfold r_tells at e1
  unfold m_tells at e2
  rw [hk, kv_0, xi, xj] at e1
  rw [hk, km_0, xi, xj] at e2
  clear hk hp
  have e3 : r3 = w := e1.trans ((congrFun (S2.1 (50 + i) (by omega) (by omega) (by omega)) j).trans hw0.symm)
  refine j_eq e3 ?_
  clear e1 e3
  obtain ⟨ν1, hν1⟩ : ∃ ν1, ν1 = t2 μ2 i j 1 := ⟨_, rfl⟩
  refine j_mem (μ' := ν1) (by rw [e2, hν1]; rfl) ?_
  clear e2
  have Iν1 : I1 ν1 cnt lc wc := by rw [hν1]; exact (I.sc S2).mtell (by omega) (by omega) (by first | exact hw | decide)
  have q25ν1 : ν1 25 = μ 25 := by rw [hν1, t2_lo (by omega)]; exact (S2.1 25 (by decide) (by decide) (by decide)).trans rfl
  have pe1 : PE (t2 μ i j 1) ν1 := by rw [hν1]; exact t2_pe S2.pe
  have Sν1 := Iν1.rf
  refine j_istore Z dL_parts_49 (by decide) [(7, .int w), (6, .int (nI (nT μ cnt (nI dd)))), (5, .int (nI j)), (4, .int (nI i)), (3, .int (nI dd)), (0, .ref (g.2.1 0)), (1, .ref (g.2.1 25)), (2, .int (nI x))] rfl ?_
  have J78 : ∀ (b : Bool), (b = true → fStand ν1 i (nI dd) = true ∧ fStand ν1 j (nI dd) = true) → ∀ ξ : gM, Sc cnt ν1 ξ → J p l e { frames := 10, cells := 80, slots := 480, locals := 177 } s m args below meth c Q g 13 ξ (5 + 4) (30 + 24) 78 [(7, .int w), (6, .int (nI (nT μ cnt (nI dd)))), (5, .int (nI j)), (4, .int (nI i)), (3, .int (nI dd)), (0, .ref (g.2.1 0)), (1, .ref (g.2.1 25)), (2, .int (nI x))] [.int (zB b)] := by
    intro b hb ξ S
    refine j_istore Z dL_parts_78 (by decide) [(8, .int (zB b)), (7, .int w), (6, .int (nI (nT μ cnt (nI dd)))), (5, .int (nI j)), (4, .int (nI i)), (3, .int (nI dd)), (0, .ref (g.2.1 0)), (1, .ref (g.2.1 25)), (2, .int (nI x))] rfl ?_
    refine j_iload Z dL_parts_80 1 rfl ?_
    refine j_if_lt Z 162 dL_parts_82 (by decide) (fun h => absurd h (Int32.not_lt.mpr (inB_s hw).1)) (fun _ => ?_)
    refine j_iload Z dL_parts_85 1 rfl ?_
    refine j_iconst Z (v := 2) dL_parts_87 (by decide) ?_
    refine j_icmp_gt Z 162 dL_parts_88 (by decide) (fun h => absurd h (Int32.not_lt.mpr (inB_s hw).2)) (fun _ => ?_)
    have J113 : ∀ ξ : gM, Sc cnt ν1 ξ → J p l e { frames := 10, cells := 80, slots := 480, locals := 177 } s m args below meth c Q g 13 ξ (9 + 6) (54 + 36) 113 [(8, .int (zB b)), (7, .int w), (6, .int (nI (nT μ cnt (nI dd)))), (5, .int (nI j)), (4, .int (nI i)), (3, .int (nI dd)), (0, .ref (g.2.1 0)), (1, .ref (g.2.1 25)), (2, .int (nI x))] [] := by
      intro ξ S
      refine j_aload_n Z dL_parts_113 6 rfl ?_
      refine j_iload_n Z dL_parts_114 5 rfl ?_
      refine j_callSWi Z hN (As := [.ref (g.2.1 0), .int (nI dd)]) (rest := []) (nA := 2) (c_L_things l hst g ξ cnt lc wc (Iν1.sc S).1 (nI dd)) gL_parts_L_things rfl rfl rfl (by decide +kernel) (by decide) rfl dL_parts_115 rfl (Nat.le_of_ble_eq_true rfl) (by decide) (fun r4 μ4 hp => ?_)
      have S4 := (n_things Iν1 S hp).1
      have e4 := (n_things Iν1 S hp).2.2 (hday)
      clear hp
      refine j_eq (y := nI (nT ν1 cnt (nI dd))) e4 ?_
      clear e4
      refine j_iload Z dL_parts_118 2 rfl ?_
      refine j_icmp_gt Z 162 dL_parts_120 (by decide) (fun h => absurd h (fun q => by have h1 : nT ν1 cnt (nI dd) ≤ nT μ cnt (nI dd) := (by unfold nT; rw [pe1.things h60 (nI dd)]; exact t2_le (by omega) (by omega) h60); have h2 : nT μ cnt (nI dd) ≤ cnt := cB_le _ _; have := (nI_ltI (by omega) (by omega)).mp q; omega)) (fun _ => ?_)
      refine j_aload_n Z dL_parts_123 6 rfl ?_
      refine j_iload Z dL_parts_124 3 rfl ?_
      refine j_iload Z dL_parts_126 4 rfl ?_
      refine j_iconst Z (v := 2) dL_parts_128 (by decide) ?_
      refine j_callSWi Z hN (As := [.ref (g.2.1 0), .int (nI j), .int (nI i), .int 2]) (rest := []) (nA := 4) (c_L_tells l hst g μ4 cnt lc wc (Iν1.sc S4).1 (nI j) (nI i) 2) gL_parts_L_tells rfl rfl rfl (by decide +kernel) (by decide) rfl dL_parts_129 rfl (Nat.le_of_ble_eq_true rfl) (by decide) (fun r5 μ5 hp => ?_)
      have hk : k2 (fndB cnt (nI j) && fndB cnt (nI i)) (!decide (nI j = nI i) && inB 2 0 2) = 0 := by rw [fj, fi, ne_t (fun q => hIJ q.symm), show inB 2 0 2 = true by decide]; rfl
      obtain ⟨e1, e2⟩ := x_tells (cnt := cnt) (lc := lc) (wc := wc) hp
      unfold r_tells at e1
      unfold m_tells at e2
      rw [hk, kv_0, xi, xj] at e1
      rw [hk, km_0, xi, xj] at e2
      clear hk hp
      have e3 : r5 = 1 := e1.trans ((congrFun (S4.1 (50 + j) (by omega) (by omega) (by omega)) i).trans ((congrFun (pe1 (50 + j) (by unfold Pc; omega)) i).trans (by rw [t2_at (by omega) (by omega), if_pos (Or.inl ⟨rfl, rfl⟩)])))
      refine j_eq e3 ?_
      clear e1 e3
      obtain ⟨ν2, hν2⟩ : ∃ ν2, ν2 = t2 μ4 j i 2 := ⟨_, rfl⟩
      refine j_mem (μ' := ν2) (by rw [e2, hν2]; rfl) ?_
      clear e2
      have Iν2 : I1 ν2 cnt lc wc := by rw [hν2]; exact (Iν1.sc S4).mtell (by omega) (by omega) (by first | exact hw | decide)
      have q25ν2 : ν2 25 = μ 25 := by rw [hν2, t2_lo (by omega)]; exact (S4.1 25 (by decide) (by decide) (by decide)).trans q25ν1
      have pe2 : PE (t2 (t2 μ i j 1) j i 2) ν2 := by rw [hν2]; exact t2_pe (pe1.trans S4.pe)
      have Sν2 := Iν2.rf
      refine j_iconst Z (v := 1) dL_parts_132 (by decide) ?_
      refine j_icmp_ne Z 162 dL_parts_133 (by decide) (fun h => absurd rfl h) (fun _ => ?_)
      refine j_aload_n Z dL_parts_136 6 rfl ?_
      refine j_iload_n Z dL_parts_137 5 rfl ?_
      refine j_callSWi Z hN (As := [.ref (g.2.1 0), .int (nI dd)]) (rest := []) (nA := 2) (c_L_things l hst g ν2 cnt lc wc (Iν2.sc Sν2).1 (nI dd)) gL_parts_L_things rfl rfl rfl (by decide +kernel) (by decide) rfl dL_parts_138 rfl (Nat.le_of_ble_eq_true rfl) (by decide) (fun r6 μ6 hp => ?_)
      have S6 := (n_things Iν2 Sν2 hp).1
      have e6 := (n_things Iν2 Sν2 hp).2.2 (hday)
      clear hp
      refine j_eq (y := nI (nT ν2 cnt (nI dd))) e6 ?_
      clear e6
      refine j_if_lt Z 162 dL_parts_141 (by decide) (fun h => absurd h (nI_pos (by have h2 : nT ν2 cnt (nI dd) ≤ cnt := cB_le _ _; omega))) (fun _ => ?_)
      refine j_aload_n Z dL_parts_144 6 rfl ?_
      refine j_iload Z dL_parts_145 4 rfl ?_
      refine j_iload Z dL_parts_147 3 rfl ?_
      refine j_iload Z dL_parts_149 1 rfl ?_
      refine j_callSWi Z hN (As := [.ref (g.2.1 0), .int (nI i), .int (nI j), .int w]) (rest := []) (nA := 4) (c_L_tells l hst g μ6 cnt lc wc (Iν2.sc S6).1 (nI i) (nI j) w) gL_parts_L_tells rfl rfl rfl (by decide +kernel) (by decide) rfl dL_parts_151 rfl (Nat.le_of_ble_eq_true rfl) (by decide) (fun r7 μ7 hp => ?_)
      have hk : k2 (fndB cnt (nI i) && fndB cnt (nI j)) (!decide (nI i = nI j) && inB w 0 2) = 0 := by rw [fi, fj, ne_t hIJ, hw]; rfl
      obtain ⟨e1, e2⟩ := x_tells (cnt := cnt) (lc := lc) (wc := wc) hp
      unfold r_tells at e1
      unfold m_tells at e2
      rw [hk, kv_0, xi, xj] at e1
      rw [hk, km_0, xi, xj] at e2
      clear hk hp
      have e3 : r7 = 2 := e1.trans ((congrFun (S6.1 (50 + i) (by omega) (by omega) (by omega)) j).trans ((congrFun (pe2 (50 + i) (by unfold Pc; omega)) j).trans (by rw [t2_at (by omega) (by omega), if_pos (Or.inl ⟨rfl, rfl⟩)])))
      refine j_eq e3 ?_
      clear e1 e3
      obtain ⟨ν3, hν3⟩ : ∃ ν3, ν3 = t2 μ6 i j w := ⟨_, rfl⟩
      refine j_mem (μ' := ν3) (by rw [e2, hν3]; rfl) ?_
      clear e2
      have Iν3 : I1 ν3 cnt lc wc := by rw [hν3]; exact (Iν2.sc S6).mtell (by omega) (by omega) (by first | exact hw | decide)
      have q25ν3 : ν3 25 = μ 25 := by rw [hν3, t2_lo (by omega)]; exact (S6.1 25 (by decide) (by decide) (by decide)).trans q25ν2
      have pe3 : PE μ ν3 := by rw [hν3]; exact (t2_back (by omega) (by omega) hw0.symm (hsy.1.symm.trans hw0.symm)).trans (t2_pe (pe2.trans S6.pe))
      have Sν3 := Iν3.rf
      refine j_iconst Z (v := 2) dL_parts_154 (by decide) ?_
      refine j_icmp_ne Z 162 dL_parts_155 (by decide) (fun h => absurd rfl h) (fun _ => ?_)
      refine j_iconst Z (v := 1) dL_parts_158 (by decide) ?_
      refine j_goto Z 163 dL_parts_159 (by decide) ?_
      refine j_istore Z dL_parts_163 (by decide) [(9, .int 1), (8, .int (zB b)), (7, .int w), (6, .int (nI (nT μ cnt (nI dd)))), (5, .int (nI j)), (4, .int (nI i)), (3, .int (nI dd)), (0, .ref (g.2.1 0)), (1, .ref (g.2.1 25)), (2, .int (nI x))] rfl ?_
      refine j_aload_n Z dL_parts_165 7 rfl ?_
      refine j_iload_n Z dL_parts_166 6 rfl ?_
      refine j_callSWi Z hN (As := [.ref (g.2.1 0), .int (nI dd)]) (rest := []) (nA := 2) (c_L_things l hst g ν3 cnt lc wc (Iν3.sc Sν3).1 (nI dd)) gL_parts_L_things rfl rfl rfl (by decide +kernel) (by decide) rfl dL_parts_167 rfl (Nat.le_of_ble_eq_true rfl) (by decide) (fun r8 μ8 hp => ?_)
      have S8 := (n_things Iν3 Sν3 hp).1
      have e8 := (n_things Iν3 Sν3 hp).2.2 (hday)
      clear hp
      refine j_eq (y := nI (nT μ cnt (nI dd))) (e8.trans (by unfold nT; rw [pe3.things h60 (nI dd)])) ?_
      clear e8
      refine j_istore Z dL_parts_170 (by decide) [(10, .int (nI (nT μ cnt (nI dd)))), (9, .int 1), (8, .int (zB b)), (7, .int w), (6, .int (nI (nT μ cnt (nI dd)))), (5, .int (nI j)), (4, .int (nI i)), (3, .int (nI dd)), (0, .ref (g.2.1 0)), (1, .ref (g.2.1 25)), (2, .int (nI x))] rfl ?_
      refine j_aload_n Z dL_parts_172 8 rfl ?_
      refine j_iconst Z (v := 3) dL_parts_173 (by decide) ?_
      refine j_callSWi Z hN (As := [.ref (g.2.1 0), .int 3]) (rest := []) (nA := 2) (c_L_passes l hst g μ8 cnt lc wc (Iν3.sc S8).1 3) gL_parts_L_passes rfl rfl rfl (by decide +kernel) (by decide) rfl dL_parts_174 rfl (Nat.le_of_ble_eq_true rfl) (by decide) (fun r9 μ9 hp => ?_)
      rcases hp with ⟨e1, hk, e2⟩ | ⟨e1, hk, e2⟩ | ⟨e1, hk, e2⟩
      · skip
        obtain ⟨-, hb⟩ := k2_z hk
        have hb' := of_decide_eq_true hb
        have e0 : μ8 0 0 = nI dd := (congrFun (S8.1 0 (by decide) (by decide) (by decide)) 0).trans ((congrFun (pe3 0 (by unfold Pc; omega)) 0).trans ed)
        have I4 := (Iν3.sc S8).mpass (x := 3) (by decide) hb'
        rw [e0, show nI dd + 3 = nI (dd + 3) from nI_add dd 3] at e1 e2 hb' I4
        have hd3 : dd + 3 ≤ 9999 := (nI_leI (a := dd + 3) (b := 9999) (by omega) (by omega)).mp hb'
        obtain ⟨ν4, hν4⟩ : ∃ ν4, ν4 = gU μ8 0 0 (nI (dd + 3)) := ⟨_, rfl⟩
        rw [← hν4] at e2 I4
        refine j_mem e2 ?_
        refine j_eq e1 ?_
        clear e1 e2 hk hb
        have S4 := I4.rf
        have q254 : ν4 25 = μ 25 := by rw [hν4, gU_n (by omega)]; exact (S8.1 25 (by decide) (by decide) (by decide)).trans q25ν3
        have st4 : ∀ k d, fStand ν4 k d = fStand μ k d := fun k d => by rw [← pe3.stand, ← S8.pe.stand, hν4]; rfl
        have jn4 : ∀ a b, a < 60 → fJoin ν4 a b = fJoin μ a b := fun a b ha => by
          rw [← pe3.join ha, ← S8.pe.join ha, hν4]
          unfold fJoin
          rw [gU_n (by omega), gU_n (by omega), gU_n (by omega), gU_n (by omega)]
        have nT4 : nT ν4 cnt (nI dd) = nT μ cnt (nI dd) := by unfold nT; rw [tT_cong h60 (fun k => st4 k _) (fun a b ha _ => jn4 a b ha)]
        refine j_istore Z dL_parts_177 (by decide) [(11, .int (nI (dd + 3))), (10, .int (nI (nT μ cnt (nI dd)))), (9, .int 1), (8, .int (zB b)), (7, .int w), (6, .int (nI (nT μ cnt (nI dd)))), (5, .int (nI j)), (4, .int (nI i)), (3, .int (nI dd)), (0, .ref (g.2.1 0)), (1, .ref (g.2.1 25)), (2, .int (nI x))] rfl ?_
        refine j_aload_n Z dL_parts_179 9 rfl ?_
        refine j_iload_n Z dL_parts_180 8 rfl ?_
        refine j_callSWi Z hN (As := [.ref (g.2.1 0), .int (nI dd)]) (rest := []) (nA := 2) (c_L_things l hst g ν4 cnt lc wc (I4.sc S4).1 (nI dd)) gL_parts_L_things rfl rfl rfl (by decide +kernel) (by decide) rfl dL_parts_181 rfl (Nat.le_of_ble_eq_true rfl) (by decide) (fun r10 μ10 hp => ?_)
        have S10 := (n_things I4 S4 hp).1
        have e10 := (n_things I4 S4 hp).2.2 (hday)
        clear hp
        refine j_eq (y := nI (nT μ cnt (nI dd))) (e10.trans (by rw [nT4])) ?_
        clear e10
        refine j_istore Z dL_parts_184 (by decide) [(12, .int (nI (nT μ cnt (nI dd)))), (11, .int (nI (dd + 3))), (10, .int (nI (nT μ cnt (nI dd)))), (9, .int 1), (8, .int (zB b)), (7, .int w), (6, .int (nI (nT μ cnt (nI dd)))), (5, .int (nI j)), (4, .int (nI i)), (3, .int (nI dd)), (0, .ref (g.2.1 0)), (1, .ref (g.2.1 25)), (2, .int (nI x))] rfl ?_
        refine j_iload Z dL_parts_186 3 rfl ?_
        refine j_if_eq Z 277 dL_parts_188 (by decide) (fun h => absurd h (by decide)) (fun _ => ?_)
        refine j_iload Z dL_parts_191 2 rfl ?_
        refine j_iload Z dL_parts_193 6 rfl ?_
        refine j_icmp_ne Z 277 dL_parts_195 (by decide) (fun h => absurd rfl h) (fun _ => ?_)
        refine j_iload Z dL_parts_198 0 rfl ?_
        refine j_iload Z dL_parts_200 6 rfl ?_
        refine j_icmp_ne Z 277 dL_parts_202 (by decide) (fun h => absurd rfl h) (fun _ => ?_)
        refine j_iload Z dL_parts_205 1 rfl ?_
        refine j_if_lt Z 273 dL_parts_207 (by decide) (fun h => absurd h (nI_pos (by omega))) (fun _ => ?_)
        refine j_aload_n Z dL_parts_210 11 rfl ?_
        refine j_iconst Z (v := 0) dL_parts_211 (by decide) ?_
        refine j_ild Z 25 (by decide) (fun _ => rfl) 0 (by decide) (by decide) (by decide) dL_parts_212 ?_
        refine j_eq ((congrFun ((S10.1 25 (by decide) (by decide) (by decide)).trans q254) 0).trans hn0) ?_
        refine j_bipush Z (v := 60) dL_parts_213 (by decide) ?_
        refine j_icmp_eq Z 273 dL_parts_215 (by decide) (fun h215 => ?_) (fun h215 => ?_)
        · skip
          refine j_iconst Z (v := 1) dL_parts_273 (by decide) ?_
          refine j_goto Z 278 dL_parts_274 (by decide) ?_
          exact hR _ _ _ _ _ _ rfl (by decide) (by decide) dL_parts_278
        · skip
          have hc60 : cnt < 60 := by
            have : ¬ cnt = 60 := fun q => h215 (by rw [q]; rfl)
            omega
          refine j_aload_n Z dL_parts_218 10 rfl ?_
          refine j_iload_n Z dL_parts_219 12 rfl ?_
          refine j_iconst Z (v := 4) dL_parts_220 (by decide) ?_
          refine j_iremN Z (a := x) (b := 4) dL_parts_221 (by decide) (by omega) (by omega) (by omega) ?_
          refine j_bipush Z (v := 98) dL_parts_222 (by decide) ?_
          refine j_bipush Z (v := 97) dL_parts_224 (by decide) ?_
          refine j_bipush Z (v := 96) dL_parts_226 (by decide) ?_
          refine j_iconst Z (v := -1) dL_parts_228 (by decide) ?_
          refine j_iconst Z (v := -1) dL_parts_229 (by decide) ?_
          refine j_callSWi Z hN (As := [.ref (g.2.1 0), .int (nI (x % 4)), .int 98, .int 97, .int 96, .int (-1), .int (-1)]) (rest := []) (nA := 7) (c_L_finds l hst g μ10 cnt lc wc (I4.sc S10).1 (nI (x % 4)) 98 97 96 (-1) (-1)) gL_parts_L_finds rfl rfl rfl (by decide +kernel) (by decide) rfl dL_parts_230 rfl (Nat.le_of_ble_eq_true rfl) (by decide) (fun r11 μ11 hp => ?_)
          have ha1 : inB (nI (x % 4)) 0 3 = true := inB_in (m := 3) (by decide) (by omega) (by decide)
          have hk : k2 (inB (nI (x % 4)) 0 3 && inB 98 0 99 && inB 97 0 99 && inB 96 0 99 && inB (-1) (-1) 99 && inB (-1) (-1) 99) (decide (cnt < 60)) = 0 := by rw [ha1, decide_eq_true hc60]; decide
          obtain ⟨e1, e2⟩ := x_finds (cnt := cnt) (lc := lc) (wc := wc) hp
          unfold r_finds at e1
          unfold m_finds at e2
          rw [hk, kv_0] at e1
          rw [hk, km_0] at e2
          clear hk hp
          have I5 := (I4.sc S10).mfind (a2 := 98) (a3 := 97) (a4 := 96) (a5 := -1) (a6 := -1) ha1 hc60
          rw [← e2] at I5
          have e0 : μ10 0 0 = nI (dd + 3) := (congrFun (S10.1 0 (by decide) (by decide) (by decide)) 0).trans (by rw [hν4]; rfl)
          have c10 : μ11 10 cnt = nI (dd + 3) := by rw [e2]; exact upd_s.trans e0
          have c11 : μ11 11 cnt = 0 := by rw [e2]; exact (I4.sc S10).2.2.2.2.2.2 cnt (Nat.le_refl cnt)
          have st5 : ∀ k, k < cnt → fStand μ11 k (nI dd) = fStand μ k (nI dd) := fun k hk => by
            rw [← st4, ← S10.pe.stand, e2]
            show standB ((μ10) 11 k) (upd ((μ10) 10) cnt _ k) _ ((μ10) 7 (ix (upd ((μ10) 9) cnt _ k))) = _
            rw [upd_n (by omega), upd_n (by omega)]
            rfl
          have jn5 : ∀ a b, a < b → b < cnt → fJoin μ11 a b = fJoin μ a b := fun a b hab hb => by
            rw [← jn4 a b (by omega), ← S10.pe.join (by omega), e2]
            unfold fJoin
            rw [show ∀ m : gM, gU (gU (gU (gU (gU (gU (gU (gU m 9 cnt (nI (x % 4))) 10 cnt (μ10 0 0)) 2 0 (nI (cnt + 1))) 26 cnt 98) 27 cnt 97) 28 cnt 96) 29 cnt (-1)) 30 cnt (-1) (50 + a) = m (50 + a) from fun m => by (repeat refine (gR_n (by omega)).trans ?_); rfl]
            show joinB _ (upd ((μ10) 26) cnt _ a) (upd ((μ10) 26) cnt _ b) (upd ((μ10) 27) cnt _ a) (upd ((μ10) 27) cnt _ b) (upd ((μ10) 28) cnt _ a) (upd ((μ10) 28) cnt _ b) = _
            rw [upd_n (by omega), upd_n (by omega), upd_n (by omega), upd_n (by omega), upd_n (by omega), upd_n (by omega)]
          have s5a : fStand μ11 cnt (nI dd) = false := by
            unfold fStand standB
            rw [c10, decide_eq_true (p := nI dd < nI (dd + 3)) ((nI_ltI (by omega) (by omega)).mpr (by omega))]
            simp
          have s5b : fStand μ11 cnt (nI (dd + 3)) = true := by
            unfold fStand standB
            have h7 := (inB_s (I5.2.2.2.1 (ix (μ11 9 cnt)) (vp_ix (I5.1.2.2.2.2.2.2.1 cnt) (by decide)).2)).1
            rw [c10, c11, Int32.sub_self, decide_eq_false (Int32.lt_irrefl), decide_eq_false (Int32.not_lt.mpr h7)]
            rfl
          have nT5 : nT μ11 (cnt + 1) (nI dd) = nT μ cnt (nI dd) := nT_new (by omega) s5a st5 jn5
          have q255 : μ11 25 = μ 25 := by
            rw [e2]
            exact (S10.1 25 (by decide) (by decide) (by decide)).trans q254
          refine j_eq e1 ?_
          clear e1 e2
          have S5 := I5.rf
          have fc : fndB (cnt + 1) (nI cnt) = true := fndB_nI (by omega) (by omega)
          have xc : ix (nI cnt) = cnt := ix_nI (by omega)
          refine j_aload_n Z dL_parts_233 11 rfl ?_
          refine j_iconst Z (v := 0) dL_parts_234 (by decide) ?_
          refine j_ild Z 25 (by decide) (fun _ => rfl) 0 (by decide) (by decide) (by decide) dL_parts_235 ?_
          refine j_eq ((congrFun ((S5.1 25 (by decide) (by decide) (by decide)).trans q255) 0).trans hn0) ?_
          refine j_icmp_ne Z 277 dL_parts_236 (by decide) (fun h => absurd rfl h) (fun _ => ?_)
          refine j_aload_n Z dL_parts_239 10 rfl ?_
          refine j_iload_n Z dL_parts_240 9 rfl ?_
          refine j_callSWi Z hN (As := [.ref (g.2.1 0), .int (nI dd)]) (rest := []) (nA := 2) (c_L_things l hst g μ11 (cnt + 1) lc wc (I5.sc S5).1 (nI dd)) gL_parts_L_things rfl rfl rfl (by decide +kernel) (by decide) rfl dL_parts_241 rfl (Nat.le_of_ble_eq_true rfl) (by decide) (fun r12 μ12 hp => ?_)
          have S12 := (n_things I5 S5 hp).1
          have e12 := (n_things I5 S5 hp).2.2 (hday)
          clear hp
          refine j_eq (y := nI (nT μ cnt (nI dd))) (e12.trans (by rw [nT5])) ?_
          clear e12
          refine j_iload Z dL_parts_244 6 rfl ?_
          refine j_icmp_ne Z 277 dL_parts_246 (by decide) (fun h => absurd rfl h) (fun _ => ?_)
          refine j_aload_n Z dL_parts_249 10 rfl ?_
          refine j_aload_n Z dL_parts_250 11 rfl ?_
          refine j_iconst Z (v := 0) dL_parts_251 (by decide) ?_
          refine j_ild Z 25 (by decide) (fun _ => rfl) 0 (by decide) (by decide) (by decide) dL_parts_252 ?_
          refine j_eq ((congrFun ((S12.1 25 (by decide) (by decide) (by decide)).trans q255) 0).trans hn0) ?_
          refine j_iload_n Z dL_parts_253 9 rfl ?_
          refine j_callSWi Z hN (As := [.ref (g.2.1 0), .int (nI cnt), .int (nI dd)]) (rest := []) (nA := 3) (c_L_counts l hst g μ12 (cnt + 1) lc wc (I5.sc S12).1 (nI cnt) (nI dd)) gL_parts_L_counts rfl rfl rfl (by decide +kernel) (by decide) rfl dL_parts_254 rfl (Nat.le_of_ble_eq_true rfl) (by decide) (fun r13 μ13 hp => ?_)
          have S13 := (n_counts I5 S12 hp).1
          have e13 := (n_counts I5 S12 hp).2.2.2 (fc) (hday)
          clear hp
          refine j_eq (y := 0) (e13.trans (by rw [xc, s5a]; rfl)) ?_
          clear e13
          refine j_if_ne Z 277 dL_parts_257 (by decide) (fun h => absurd h (by decide)) (fun _ => ?_)
          refine j_aload_n Z dL_parts_260 10 rfl ?_
          refine j_aload_n Z dL_parts_261 11 rfl ?_
          refine j_iconst Z (v := 0) dL_parts_262 (by decide) ?_
          refine j_ild Z 25 (by decide) (fun _ => rfl) 0 (by decide) (by decide) (by decide) dL_parts_263 ?_
          refine j_eq ((congrFun ((S13.1 25 (by decide) (by decide) (by decide)).trans q255) 0).trans hn0) ?_
          refine j_iload Z dL_parts_264 1 rfl ?_
          refine j_callSWi Z hN (As := [.ref (g.2.1 0), .int (nI cnt), .int (nI (dd + 3))]) (rest := []) (nA := 3) (c_L_counts l hst g μ13 (cnt + 1) lc wc (I5.sc S13).1 (nI cnt) (nI (dd + 3))) gL_parts_L_counts rfl rfl rfl (by decide +kernel) (by decide) rfl dL_parts_266 rfl (Nat.le_of_ble_eq_true rfl) (by decide) (fun r14 μ14 hp => ?_)
          have S14 := (n_counts I5 S13 hp).1
          have e14 := (n_counts I5 S13 hp).2.2.2 (fc) (inB_in (m := 9999) (by decide) hd3 (by decide))
          clear hp
          refine j_eq (y := 1) (e14.trans (by rw [xc, s5b]; rfl)) ?_
          clear e14
          refine j_iconst Z (v := 1) dL_parts_269 (by decide) ?_
          refine j_icmp_ne Z 277 dL_parts_270 (by decide) (fun h => absurd rfl h) (fun _ => ?_)
          refine j_iconst Z (v := 1) dL_parts_273 (by decide) ?_
          refine j_goto Z 278 dL_parts_274 (by decide) ?_
          exact hR _ _ _ _ _ _ rfl (by decide) (by decide) dL_parts_278
      · exact absurd (k2_1 hk) (by decide)
      · skip
        refine j_mem e2 ?_
        refine j_eq e1 ?_
        clear e1 e2 hk
        refine j_istore Z dL_parts_177 (by decide) [(11, .int (-2000000003)), (10, .int (nI (nT μ cnt (nI dd)))), (9, .int 1), (8, .int (zB b)), (7, .int w), (6, .int (nI (nT μ cnt (nI dd)))), (5, .int (nI j)), (4, .int (nI i)), (3, .int (nI dd)), (0, .ref (g.2.1 0)), (1, .ref (g.2.1 25)), (2, .int (nI x))] rfl ?_
        refine j_aload_n Z dL_parts_179 9 rfl ?_
        refine j_iload_n Z dL_parts_180 8 rfl ?_
        refine j_callSWi Z hN (As := [.ref (g.2.1 0), .int (nI dd)]) (rest := []) (nA := 2) (c_L_things l hst g μ8 cnt lc wc (Iν3.sc S8).1 (nI dd)) gL_parts_L_things rfl rfl rfl (by decide +kernel) (by decide) rfl dL_parts_181 rfl (Nat.le_of_ble_eq_true rfl) (by decide) (fun r15 μ15 hp => ?_)
        have S15 := (n_things Iν3 S8 hp).1
        have e15 := (n_things Iν3 S8 hp).2.2 (hday)
        clear hp
        refine j_eq (y := nI (nT μ cnt (nI dd))) (e15.trans (by unfold nT; rw [pe3.things h60 (nI dd)])) ?_
        clear e15
        refine j_istore Z dL_parts_184 (by decide) [(12, .int (nI (nT μ cnt (nI dd)))), (11, .int (-2000000003)), (10, .int (nI (nT μ cnt (nI dd)))), (9, .int 1), (8, .int (zB b)), (7, .int w), (6, .int (nI (nT μ cnt (nI dd)))), (5, .int (nI j)), (4, .int (nI i)), (3, .int (nI dd)), (0, .ref (g.2.1 0)), (1, .ref (g.2.1 25)), (2, .int (nI x))] rfl ?_
        refine j_iload Z dL_parts_186 3 rfl ?_
        refine j_if_eq Z 277 dL_parts_188 (by decide) (fun h => absurd h (by decide)) (fun _ => ?_)
        refine j_iload Z dL_parts_191 2 rfl ?_
        refine j_iload Z dL_parts_193 6 rfl ?_
        refine j_icmp_ne Z 277 dL_parts_195 (by decide) (fun h => absurd rfl h) (fun _ => ?_)
        refine j_iload Z dL_parts_198 0 rfl ?_
        refine j_iload Z dL_parts_200 6 rfl ?_
        refine j_icmp_ne Z 277 dL_parts_202 (by decide) (fun h => absurd rfl h) (fun _ => ?_)
        refine j_iload Z dL_parts_205 1 rfl ?_
        refine j_if_lt Z 273 dL_parts_207 (by decide) (fun _ => ?_) (fun h => absurd h (by decide))
        refine j_iconst Z (v := 1) dL_parts_273 (by decide) ?_
        refine j_goto Z 278 dL_parts_274 (by decide) ?_
        exact hR _ _ _ _ _ _ rfl (by decide) (by decide) dL_parts_278
    refine j_iload Z dL_parts_91 0 rfl ?_
    refine j_if_eq Z 113 dL_parts_93 (by decide) (fun h93 => ?_) (fun h93 => ?_)
    · skip
      exact j_wide (k' := 9 + 6) (n' := 54 + 36) (by decide) (by decide) (J113 _ S)
    · skip
      obtain ⟨hsi, hsj⟩ := hb (zB_1 h93)
      refine j_aload_n Z dL_parts_96 6 rfl ?_
      refine j_iload Z dL_parts_97 4 rfl ?_
      refine j_iload_n Z dL_parts_99 5 rfl ?_
      refine j_callSWi Z hN (As := [.ref (g.2.1 0), .int (nI i), .int (nI dd)]) (rest := []) (nA := 3) (c_L_thing l hst g ξ cnt lc wc (Iν1.sc S).1 (nI i) (nI dd)) gL_parts_L_thing rfl rfl rfl (by decide +kernel) (by decide) rfl dL_parts_100 rfl (Nat.le_of_ble_eq_true rfl) (by decide) (fun r16 μ16 hp => ?_)
      have S16 := (n_thing Iν1 S hp).1
      have e16 := (n_thing Iν1 S hp).2.2.2.2 (fi) (hday) (by rw [xi]; exact hsi)
      clear hp
      refine j_eq (y := tT ν1 cnt (nI dd) i) (e16.trans (by rw [xi])) ?_
      clear e16
      refine j_aload_n Z dL_parts_103 6 rfl ?_
      refine j_iload Z dL_parts_104 3 rfl ?_
      refine j_iload_n Z dL_parts_106 5 rfl ?_
      refine j_callSWi Z hN (As := [.ref (g.2.1 0), .int (nI j), .int (nI dd)]) (rest := [.int (tT ν1 cnt (nI dd) i)]) (nA := 3) (c_L_thing l hst g μ16 cnt lc wc (Iν1.sc S16).1 (nI j) (nI dd)) gL_parts_L_thing rfl rfl rfl (by decide +kernel) (by decide) rfl dL_parts_107 rfl (Nat.le_of_ble_eq_true rfl) (by decide) (fun r17 μ17 hp => ?_)
      have S17 := (n_thing Iν1 S16 hp).1
      have e17 := (n_thing Iν1 S16 hp).2.2.2.2 (fj) (hday) (by rw [xj]; exact hsj)
      clear hp
      refine j_eq (y := tT ν1 cnt (nI dd) j) (e17.trans (by rw [xj])) ?_
      clear e17
      refine j_icmp_ne Z 162 dL_parts_110 (by decide) (fun h => absurd (by rw [pe1.things h60 (nI dd)]; exact t2_same hi hj h60 hij (by rw [← pe1.stand]; exact hsi) (by rw [← pe1.stand]; exact hsj)) h) (fun _ => ?_)
      exact j_wide (k' := 9 + 6) (n' := 54 + 36) (by decide) (by decide) (J113 _ S17)
  cases hsi : fStand ν1 i (nI dd)
  · skip
    refine j_aload_n Z dL_parts_51 5 rfl ?_
    refine j_iload Z dL_parts_52 3 rfl ?_
    refine j_iload_n Z dL_parts_54 4 rfl ?_
    refine j_callSWi Z hN (As := [.ref (g.2.1 0), .int (nI i), .int (nI dd)]) (rest := []) (nA := 3) (c_L_counts l hst g ν1 cnt lc wc (Iν1.sc Sν1).1 (nI i) (nI dd)) gL_parts_L_counts rfl rfl rfl (by decide +kernel) (by decide) rfl dL_parts_55 rfl (Nat.le_of_ble_eq_true rfl) (by decide) (fun r18 μ18 hp => ?_)
    have S18 := (n_counts Iν1 Sν1 hp).1
    have e18 := (n_counts Iν1 Sν1 hp).2.2.2 (fi) (hday)
    clear hp
    refine j_eq (y := 0) (e18.trans (by rw [xi, hsi]; rfl)) ?_
    clear e18
    refine j_iconst Z (v := 1) dL_parts_58 (by decide) ?_
    refine j_icmp_ne Z 77 dL_parts_59 (by decide) (fun _ => ?_) (fun h => absurd h (by decide))
    refine j_iconst Z (v := 0) dL_parts_77 (by decide) ?_
    refine j_eq (y := zB false) rfl ?_
    exact j_wide (k' := 5 + 4) (n' := 30 + 24) (by decide) (by decide) (J78 false (fun q => by cases q) _ S18)
  · skip
    refine j_aload_n Z dL_parts_51 5 rfl ?_
    refine j_iload Z dL_parts_52 3 rfl ?_
    refine j_iload_n Z dL_parts_54 4 rfl ?_
    refine j_callSWi Z hN (As := [.ref (g.2.1 0), .int (nI i), .int (nI dd)]) (rest := []) (nA := 3) (c_L_counts l hst g ν1 cnt lc wc (Iν1.sc Sν1).1 (nI i) (nI dd)) gL_parts_L_counts rfl rfl rfl (by decide +kernel) (by decide) rfl dL_parts_55 rfl (Nat.le_of_ble_eq_true rfl) (by decide) (fun r19 μ19 hp => ?_)
    have S19 := (n_counts Iν1 Sν1 hp).1
    have e19 := (n_counts Iν1 Sν1 hp).2.2.2 (fi) (hday)
    clear hp
    refine j_eq (y := 1) (e19.trans (by rw [xi, hsi]; rfl)) ?_
    clear e19
    refine j_iconst Z (v := 1) dL_parts_58 (by decide) ?_
    refine j_icmp_ne Z 77 dL_parts_59 (by decide) (fun h => absurd rfl h) (fun _ => ?_)
    cases hsj : fStand ν1 j (nI dd)
    · skip
      refine j_aload_n Z dL_parts_62 5 rfl ?_
      refine j_iload Z dL_parts_63 2 rfl ?_
      refine j_iload_n Z dL_parts_65 4 rfl ?_
      refine j_callSWi Z hN (As := [.ref (g.2.1 0), .int (nI j), .int (nI dd)]) (rest := []) (nA := 3) (c_L_counts l hst g μ19 cnt lc wc (Iν1.sc S19).1 (nI j) (nI dd)) gL_parts_L_counts rfl rfl rfl (by decide +kernel) (by decide) rfl dL_parts_66 rfl (Nat.le_of_ble_eq_true rfl) (by decide) (fun r20 μ20 hp => ?_)
      have S20 := (n_counts Iν1 S19 hp).1
      have e20 := (n_counts Iν1 S19 hp).2.2.2 (fj) (hday)
      clear hp
      refine j_eq (y := 0) (e20.trans (by rw [xj, hsj]; rfl)) ?_
      clear e20
      refine j_iconst Z (v := 1) dL_parts_69 (by decide) ?_
      refine j_icmp_ne Z 77 dL_parts_70 (by decide) (fun _ => ?_) (fun h => absurd h (by decide))
      refine j_iconst Z (v := 0) dL_parts_77 (by decide) ?_
      refine j_eq (y := zB false) rfl ?_
      exact j_wide (k' := 5 + 4) (n' := 30 + 24) (by decide) (by decide) (J78 false (fun q => by cases q) _ S20)
    · skip
      refine j_aload_n Z dL_parts_62 5 rfl ?_
      refine j_iload Z dL_parts_63 2 rfl ?_
      refine j_iload_n Z dL_parts_65 4 rfl ?_
      refine j_callSWi Z hN (As := [.ref (g.2.1 0), .int (nI j), .int (nI dd)]) (rest := []) (nA := 3) (c_L_counts l hst g μ19 cnt lc wc (Iν1.sc S19).1 (nI j) (nI dd)) gL_parts_L_counts rfl rfl rfl (by decide +kernel) (by decide) rfl dL_parts_66 rfl (Nat.le_of_ble_eq_true rfl) (by decide) (fun r21 μ21 hp => ?_)
      have S21 := (n_counts Iν1 S19 hp).1
      have e21 := (n_counts Iν1 S19 hp).2.2.2 (fj) (hday)
      clear hp
      refine j_eq (y := 1) (e21.trans (by rw [xj, hsj]; rfl)) ?_
      clear e21
      refine j_iconst Z (v := 1) dL_parts_69 (by decide) ?_
      refine j_icmp_ne Z 77 dL_parts_70 (by decide) (fun h => absurd rfl h) (fun _ => ?_)
      refine j_iconst Z (v := 1) dL_parts_73 (by decide) ?_
      refine j_goto Z 78 dL_parts_74 (by decide) ?_
      refine j_eq (y := zB true) rfl ?_
      exact j_wide (k' := 5 + 4) (n' := 30 + 24) (by decide) (by decide) (J78 true (fun _ => ⟨hsi, hsj⟩) _ S21)
