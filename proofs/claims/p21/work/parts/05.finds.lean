theorem lkX0_knowsSerial_28 : Cond.fieldLink RX0 28 (TX0 4).1 (TX0 4).2.1 (TX0 4).2.2.1 ∈ wsX0_knowsSerial := by decide +kernel
theorem inX0_knowsSerial_X0 : ∀ w ∈ u_ws RX0 TX0 7, w ∈ wsX0_knowsSerial := by decide +kernel
set_option maxRecDepth 100000 in
set_option maxHeartbeats 4000000 in
theorem c_X0_knowsSerial (l : Launch) (g : gC) (μ : gM) (i : Nat) (hi : i < 60) : Met l yX0_knowsSerial wsX0_knowsSerial { frames := 0, cells := 0, slots := 0, locals := 0 } (va_Pc [.ref (g.2.1 2), .int (nI i)] (gB g μ)) (va_Qi (fun (r : Int32) (μ' : gM) => r = zB (decide (μ 26 i ≠ 0)) ∧ μ' = μ) (gPB g) (gA g)) 0 0 (gA g) := by
  refine g_ofI (cc := cX0_knowsSerial) (nL := 2) (ret := (some .boolean)) (ty := .boolean) (by decide +kernel) rfl rfl (by rintro _ _ ⟨rfl, -⟩; exact zB_n) (Nat.le_of_ble_eq_true rfl) ?_
  intro p e s m args below meth c Q Z hR
  refine j_aload_n Z dX0_knowsSerial_0 0 rfl ?_
  refine j_get Z 2 (by decide) rfl rfl 4 (by decide) rfl inX0_knowsSerial_X0 lkX0_knowsSerial_28 dX0_knowsSerial_1 ?_
  refine j_iconst Z (v := 0) dX0_knowsSerial_4 (by decide) ?_
  refine j_ald Z 12 (by decide) rfl 0 (by decide) (by decide) (by decide) rfl dX0_knowsSerial_5 ?_
  refine j_iload_n Z dX0_knowsSerial_6 1 rfl ?_
  refine j_ild Z 26 (by decide) (fun _ => rfl) i rfl (by omega) (by decide) dX0_knowsSerial_7 ?_
  refine j_if_eq Z 15 dX0_knowsSerial_8 (by decide) (fun h8 => ?_) (fun h8 => ?_)
  · skip
    refine j_iconst Z (v := 0) dX0_knowsSerial_15 (by decide) ?_
    exact hR _ _ _ _ _ _ (⟨by first | (simp [zB, h8]; done) | (simp_all [zB]; done), rfl⟩) (by decide) (by decide) dX0_knowsSerial_16
  · skip
    refine j_iconst Z (v := 1) dX0_knowsSerial_11 (by decide) ?_
    refine j_goto Z 16 dX0_knowsSerial_12 (by decide) ?_
    exact hR _ _ _ _ _ _ (⟨by first | (simp [zB, h8]; done) | (simp_all [zB]; done), rfl⟩) (by decide) (by decide) dX0_knowsSerial_16
theorem lkX0_shareMark_28 : Cond.fieldLink RX0 28 (TX0 4).1 (TX0 4).2.1 (TX0 4).2.2.1 ∈ wsX0_shareMark := by decide +kernel
theorem inX0_shareMark_X0 : ∀ w ∈ u_ws RX0 TX0 7, w ∈ wsX0_shareMark := by decide +kernel
set_option maxRecDepth 100000 in
set_option maxHeartbeats 4000000 in
theorem c_X0_shareMark (l : Launch) (g : gC) (μ : gM) (q i j : Nat) (hq : q < 3) (hi : i < 60) (hj : j < 60) : Met l yX0_shareMark wsX0_shareMark { frames := 0, cells := 0, slots := 0, locals := 0 } (va_Pc [.ref (g.2.1 2), .int (nI q), .int (nI i), .int (nI j)] (gB g μ)) (va_Qi (fun (r : Int32) (μ' : gM) => r = zB (shareB (μ (26 + q) i) (μ (26 + q) j)) ∧ μ' = μ) (gPB g) (gA g)) 0 0 (gA g) := by
  refine g_ofI (cc := cX0_shareMark) (nL := 4) (ret := (some .boolean)) (ty := .boolean) (by decide +kernel) rfl rfl (by rintro _ _ ⟨rfl, -⟩; exact zB_n) (Nat.le_of_ble_eq_true rfl) ?_
  intro p e s m args below meth c Q Z hR
  refine j_aload_n Z dX0_shareMark_0 0 rfl ?_
  refine j_get Z 2 (by decide) rfl rfl 4 (by decide) rfl inX0_shareMark_X0 lkX0_shareMark_28 dX0_shareMark_1 ?_
  refine j_iload_n Z dX0_shareMark_4 1 rfl ?_
  refine j_ald Z 12 (by decide) rfl q rfl (by omega) (by decide) rfl dX0_shareMark_5 ?_
  refine j_iload_n Z dX0_shareMark_6 2 rfl ?_
  refine j_ild Z (26 + q) (by omega) (gE_row (by omega)) i rfl (by omega) (by decide) dX0_shareMark_7 ?_
  refine j_if_eq Z 34 dX0_shareMark_8 (by decide) (fun h8 => ?_) (fun h8 => ?_)
  · skip
    refine j_iconst Z (v := 0) dX0_shareMark_34 (by decide) ?_
    exact hR _ _ _ _ _ _ (⟨by first | (simp [zB, shareB, h8]; done) | (simp_all [zB, shareB]; done), rfl⟩) (by decide) (by decide) dX0_shareMark_35
  · skip
    refine j_aload_n Z dX0_shareMark_11 0 rfl ?_
    refine j_get Z 2 (by decide) rfl rfl 4 (by decide) rfl inX0_shareMark_X0 lkX0_shareMark_28 dX0_shareMark_12 ?_
    refine j_iload_n Z dX0_shareMark_15 1 rfl ?_
    refine j_ald Z 12 (by decide) rfl q rfl (by omega) (by decide) rfl dX0_shareMark_16 ?_
    refine j_iload_n Z dX0_shareMark_17 2 rfl ?_
    refine j_ild Z (26 + q) (by omega) (gE_row (by omega)) i rfl (by omega) (by decide) dX0_shareMark_18 ?_
    refine j_aload_n Z dX0_shareMark_19 0 rfl ?_
    refine j_get Z 2 (by decide) rfl rfl 4 (by decide) rfl inX0_shareMark_X0 lkX0_shareMark_28 dX0_shareMark_20 ?_
    refine j_iload_n Z dX0_shareMark_23 1 rfl ?_
    refine j_ald Z 12 (by decide) rfl q rfl (by omega) (by decide) rfl dX0_shareMark_24 ?_
    refine j_iload_n Z dX0_shareMark_25 3 rfl ?_
    refine j_ild Z (26 + q) (by omega) (gE_row (by omega)) j rfl (by omega) (by decide) dX0_shareMark_26 ?_
    refine j_icmp_ne Z 34 dX0_shareMark_27 (by decide) (fun h27 => ?_) (fun h27 => ?_)
    · skip
      refine j_iconst Z (v := 0) dX0_shareMark_34 (by decide) ?_
      exact hR _ _ _ _ _ _ (⟨by first | (simp [zB, shareB, h8, h27]; done) | (simp_all [zB, shareB]; done), rfl⟩) (by decide) (by decide) dX0_shareMark_35
    · skip
      refine j_iconst Z (v := 1) dX0_shareMark_30 (by decide) ?_
      refine j_goto Z 35 dX0_shareMark_31 (by decide) ?_
      exact hR _ _ _ _ _ _ (⟨by first | (simp [zB, shareB, h8, h27]; done) | (simp_all [zB, shareB]; done), rfl⟩) (by decide) (by decide) dX0_shareMark_35
theorem lkX0_standsOn_22 : Cond.fieldLink RX0 22 (TX0 3).1 (TX0 3).2.1 (TX0 3).2.2.1 ∈ wsX0_standsOn := by decide +kernel
theorem inX0_standsOn_X0 : ∀ w ∈ u_ws RX0 TX0 7, w ∈ wsX0_standsOn := by decide +kernel
theorem lkX0_standsOn_19 : Cond.fieldLink RX0 19 (TX0 2).1 (TX0 2).2.1 (TX0 2).2.2.1 ∈ wsX0_standsOn := by decide +kernel
theorem lkX0_standsOn_37 : Cond.fieldLink RX0 37 (TX2 0).1 (TX2 0).2.1 (TX2 0).2.2.1 ∈ wsX0_standsOn := by decide +kernel
theorem inX0_standsOn_X2 : ∀ w ∈ u_ws RX2 TX2 2, w ∈ wsX0_standsOn := by decide +kernel
theorem lkX0_standsOn_15 : Cond.fieldLink RX0 15 (TX0 1).1 (TX0 1).2.1 (TX0 1).2.2.1 ∈ wsX0_standsOn := by decide +kernel
set_option maxRecDepth 100000 in
set_option maxHeartbeats 4000000 in
theorem c_X0_standsOn (l : Launch) (g : gC) (μ : gM) (i : Nat) (d : Int32) (hi : i < 60) (hs : vp_in (μ 9 i) 4) : Met l yX0_standsOn wsX0_standsOn { frames := 0, cells := 0, slots := 0, locals := 0 } (va_Pc [.ref (g.2.1 2), .int (nI i), .int d, .ref (g.2.1 1)] (gB g μ)) (va_Qi (fun (r : Int32) (μ' : gM) => r = zB (fStand μ i d) ∧ μ' = μ) (gPB g) (gA g)) 0 0 (gA g) := by
  refine g_ofI (cc := cX0_standsOn) (nL := 4) (ret := (some .boolean)) (ty := .boolean) (by decide +kernel) rfl rfl (by rintro _ _ ⟨rfl, -⟩; exact zB_n) (Nat.le_of_ble_eq_true rfl) ?_
  intro p e s m args below meth c Q Z hR
  refine j_aload_n Z dX0_standsOn_0 0 rfl ?_
  refine j_get Z 2 (by decide) rfl rfl 3 (by decide) rfl inX0_standsOn_X0 lkX0_standsOn_22 dX0_standsOn_1 ?_
  refine j_iload_n Z dX0_standsOn_4 1 rfl ?_
  refine j_zld Z 11 (by decide) (fun _ => rfl) i rfl (by omega) (by decide) dX0_standsOn_5 ?_
  refine j_if_ne Z 45 dX0_standsOn_6 (by decide) (fun h6 => ?_) (fun h6 => ?_)
  · skip
    refine j_iconst Z (v := 0) dX0_standsOn_45 (by decide) ?_
    exact hR _ _ _ _ _ _ (⟨by first | (simp [zB, fStand, standB, h6]; done) | (simp_all [zB, fStand, standB]; done), rfl⟩) (by decide) (by decide) dX0_standsOn_46
  · skip
    refine j_aload_n Z dX0_standsOn_9 0 rfl ?_
    refine j_get Z 2 (by decide) rfl rfl 2 (by decide) rfl inX0_standsOn_X0 lkX0_standsOn_19 dX0_standsOn_10 ?_
    refine j_iload_n Z dX0_standsOn_13 1 rfl ?_
    refine j_ild Z 10 (by decide) (fun _ => rfl) i rfl (by omega) (by decide) dX0_standsOn_14 ?_
    refine j_iload_n Z dX0_standsOn_15 2 rfl ?_
    refine j_icmp_gt Z 45 dX0_standsOn_16 (by decide) (fun h16 => ?_) (fun h16 => ?_)
    · skip
      refine j_iconst Z (v := 0) dX0_standsOn_45 (by decide) ?_
      exact hR _ _ _ _ _ _ (⟨by first | (simp [zB, fStand, standB, h6, h16]; done) | (simp_all [zB, fStand, standB]; done), rfl⟩) (by decide) (by decide) dX0_standsOn_46
    · skip
      refine j_iload_n Z dX0_standsOn_19 2 rfl ?_
      refine j_aload_n Z dX0_standsOn_20 0 rfl ?_
      refine j_get Z 2 (by decide) rfl rfl 2 (by decide) rfl inX0_standsOn_X0 lkX0_standsOn_19 dX0_standsOn_21 ?_
      refine j_iload_n Z dX0_standsOn_24 1 rfl ?_
      refine j_ild Z 10 (by decide) (fun _ => rfl) i rfl (by omega) (by decide) dX0_standsOn_25 ?_
      refine j_isub Z dX0_standsOn_26 ?_
      refine j_aload_n Z dX0_standsOn_27 3 rfl ?_
      refine j_get Z 1 (by decide) rfl rfl 0 (by decide) rfl inX0_standsOn_X2 lkX0_standsOn_37 dX0_standsOn_28 ?_
      refine j_aload_n Z dX0_standsOn_31 0 rfl ?_
      refine j_get Z 2 (by decide) rfl rfl 1 (by decide) rfl inX0_standsOn_X0 lkX0_standsOn_15 dX0_standsOn_32 ?_
      refine j_iload_n Z dX0_standsOn_35 1 rfl ?_
      refine j_ild Z 9 (by decide) (fun _ => rfl) i rfl (by omega) (by decide) dX0_standsOn_36 ?_
      refine j_ild Z 7 (by decide) (fun _ => rfl) (ix (μ 9 i)) (vp_ix hs (by decide)).1 (vp_ix hs (by decide)).2 (by decide) dX0_standsOn_37 ?_
      refine j_icmp_gt Z 45 dX0_standsOn_38 (by decide) (fun h38 => ?_) (fun h38 => ?_)
      · skip
        refine j_iconst Z (v := 0) dX0_standsOn_45 (by decide) ?_
        exact hR _ _ _ _ _ _ (⟨by first | (simp [zB, fStand, standB, h6, h16, h38]; done) | (simp_all [zB, fStand, standB]; done), rfl⟩) (by decide) (by decide) dX0_standsOn_46
      · skip
        refine j_iconst Z (v := 1) dX0_standsOn_41 (by decide) ?_
        refine j_goto Z 46 dX0_standsOn_42 (by decide) ?_
        exact hR _ _ _ _ _ _ (⟨by first | (simp [zB, fStand, standB, h6, h16, h38]; done) | (simp_all [zB, fStand, standB]; done), rfl⟩) (by decide) (by decide) dX0_standsOn_46
theorem lkX0_joined_34 : Cond.fieldLink RX0 34 (TX0 6).1 (TX0 6).2.1 (TX0 6).2.2.1 ∈ wsX0_joined := by decide +kernel
theorem inX0_joined_X0 : ∀ w ∈ u_ws RX0 TX0 7, w ∈ wsX0_joined := by decide +kernel
set_option maxRecDepth 100000 in
set_option maxHeartbeats 4000000 in
theorem c_X0_joined (l : Launch) (g : gC) (μ : gM) (i j : Nat) (hi : i < 60) (hj : j < 60) : Met l yX0_joined wsX0_joined { frames := 1, cells := 0, slots := 0, locals := 23 } (va_Pc [.ref (g.2.1 2), .int (nI i), .int (nI j)] (gB g μ)) (va_Qi (fun (r : Int32) (μ' : gM) => r = zB (fJoin μ i j) ∧ μ' = μ) (gPB g) (gA g)) 0 0 (gA g) := by
  refine g_ofI (cc := cX0_joined) (nL := 3) (ret := (some .boolean)) (ty := .boolean) (by decide +kernel) rfl rfl (by rintro _ _ ⟨rfl, -⟩; exact zB_n) (Nat.le_of_ble_eq_true rfl) ?_
  intro p e s m args below meth c Q Z hR
  refine j_aload_n Z dX0_joined_0 0 rfl ?_
  refine j_get Z 2 (by decide) rfl rfl 6 (by decide) rfl inX0_joined_X0 lkX0_joined_34 dX0_joined_1 ?_
  refine j_iload_n Z dX0_joined_4 1 rfl ?_
  refine j_ald Z 14 (by decide) rfl i rfl (by omega) (by decide) rfl dX0_joined_5 ?_
  refine j_iload_n Z dX0_joined_6 2 rfl ?_
  refine j_ild Z (50 + i) (by omega) (gE_row (by omega)) j rfl (by omega) (by decide) dX0_joined_7 ?_
  refine j_if_eq Z 29 dX0_joined_8 (by decide) (fun h8 => ?_) (fun h8 => ?_)
  · skip
    refine j_aload_n Z dX0_joined_29 0 rfl ?_
    refine j_iload_n Z dX0_joined_30 1 rfl ?_
    refine j_callVi Z (As := [.int (nI i)]) (rest := []) (nA := 1) 2 (by decide) rfl rfl (c_X0_knowsSerial l g μ i (by omega)) gX0_joined_X0_knowsSerial rfl rfl rfl (by decide +kernel) (by decide) rfl dX0_joined_31 rfl (Nat.le_of_ble_eq_true rfl) (by decide) (fun r9 μ9 hp => ?_)
    have hq : r9 = zB (decide (μ 26 i ≠ 0)) ∧ μ9 = μ := hp
    refine j_mem hq.2 ?_
    refine j_eq hq.1 ?_
    clear hq hp
    refine j_if_eq Z 53 dX0_joined_34 (by decide) (fun h34 => ?_) (fun h34 => ?_)
    · skip
      refine j_aload_n Z dX0_joined_53 0 rfl ?_
      refine j_iconst Z (v := 1) dX0_joined_54 (by decide) ?_
      refine j_iload_n Z dX0_joined_55 1 rfl ?_
      refine j_iload_n Z dX0_joined_56 2 rfl ?_
      refine j_callVi Z (As := [.int 1, .int (nI i), .int (nI j)]) (rest := []) (nA := 3) 2 (by decide) rfl rfl (c_X0_shareMark l g μ 1 i j (by omega) (by omega) (by omega)) gX0_joined_X0_shareMark rfl rfl rfl (by decide +kernel) (by decide) rfl dX0_joined_57 rfl (Nat.le_of_ble_eq_true rfl) (by decide) (fun r9 μ9 hp => ?_)
      have hq : r9 = zB (shareB (μ 27 i) (μ 27 j)) ∧ μ9 = μ := hp
      refine j_mem hq.2 ?_
      refine j_eq hq.1 ?_
      clear hq hp
      refine j_if_eq Z 77 dX0_joined_60 (by decide) (fun h60 => ?_) (fun h60 => ?_)
      · skip
        refine j_iconst Z (v := 0) dX0_joined_77 (by decide) ?_
        exact hR _ _ _ _ _ _ (⟨by simp_all [zB_0, zB, fJoin, joinB], rfl⟩) (by decide) (by decide) dX0_joined_78
      · skip
        refine j_aload_n Z dX0_joined_63 0 rfl ?_
        refine j_iconst Z (v := 2) dX0_joined_64 (by decide) ?_
        refine j_iload_n Z dX0_joined_65 1 rfl ?_
        refine j_iload_n Z dX0_joined_66 2 rfl ?_
        refine j_callVi Z (As := [.int 2, .int (nI i), .int (nI j)]) (rest := []) (nA := 3) 2 (by decide) rfl rfl (c_X0_shareMark l g μ 2 i j (by omega) (by omega) (by omega)) gX0_joined_X0_shareMark rfl rfl rfl (by decide +kernel) (by decide) rfl dX0_joined_67 rfl (Nat.le_of_ble_eq_true rfl) (by decide) (fun r9 μ9 hp => ?_)
        have hq : r9 = zB (shareB (μ 28 i) (μ 28 j)) ∧ μ9 = μ := hp
        refine j_mem hq.2 ?_
        refine j_eq hq.1 ?_
        clear hq hp
        refine j_if_eq Z 77 dX0_joined_70 (by decide) (fun h70 => ?_) (fun h70 => ?_)
        · skip
          refine j_iconst Z (v := 0) dX0_joined_77 (by decide) ?_
          exact hR _ _ _ _ _ _ (⟨by simp_all [zB_0, zB, fJoin, joinB], rfl⟩) (by decide) (by decide) dX0_joined_78
        · skip
          refine j_iconst Z (v := 1) dX0_joined_73 (by decide) ?_
          refine j_goto Z 78 dX0_joined_74 (by decide) ?_
          exact hR _ _ _ _ _ _ (⟨by simp_all [zB_0, zB, fJoin, joinB], rfl⟩) (by decide) (by decide) dX0_joined_78
    · skip
      refine j_aload_n Z dX0_joined_37 0 rfl ?_
      refine j_iload_n Z dX0_joined_38 2 rfl ?_
      refine j_callVi Z (As := [.int (nI j)]) (rest := []) (nA := 1) 2 (by decide) rfl rfl (c_X0_knowsSerial l g μ j (by omega)) gX0_joined_X0_knowsSerial rfl rfl rfl (by decide +kernel) (by decide) rfl dX0_joined_39 rfl (Nat.le_of_ble_eq_true rfl) (by decide) (fun r9 μ9 hp => ?_)
      have hq : r9 = zB (decide (μ 26 j ≠ 0)) ∧ μ9 = μ := hp
      refine j_mem hq.2 ?_
      refine j_eq hq.1 ?_
      clear hq hp
      refine j_if_eq Z 53 dX0_joined_42 (by decide) (fun h42 => ?_) (fun h42 => ?_)
      · skip
        refine j_aload_n Z dX0_joined_53 0 rfl ?_
        refine j_iconst Z (v := 1) dX0_joined_54 (by decide) ?_
        refine j_iload_n Z dX0_joined_55 1 rfl ?_
        refine j_iload_n Z dX0_joined_56 2 rfl ?_
        refine j_callVi Z (As := [.int 1, .int (nI i), .int (nI j)]) (rest := []) (nA := 3) 2 (by decide) rfl rfl (c_X0_shareMark l g μ 1 i j (by omega) (by omega) (by omega)) gX0_joined_X0_shareMark rfl rfl rfl (by decide +kernel) (by decide) rfl dX0_joined_57 rfl (Nat.le_of_ble_eq_true rfl) (by decide) (fun r9 μ9 hp => ?_)
        have hq : r9 = zB (shareB (μ 27 i) (μ 27 j)) ∧ μ9 = μ := hp
        refine j_mem hq.2 ?_
        refine j_eq hq.1 ?_
        clear hq hp
        refine j_if_eq Z 77 dX0_joined_60 (by decide) (fun h60 => ?_) (fun h60 => ?_)
        · skip
          refine j_iconst Z (v := 0) dX0_joined_77 (by decide) ?_
          exact hR _ _ _ _ _ _ (⟨by simp_all [zB_0, zB, fJoin, joinB], rfl⟩) (by decide) (by decide) dX0_joined_78
        · skip
          refine j_aload_n Z dX0_joined_63 0 rfl ?_
          refine j_iconst Z (v := 2) dX0_joined_64 (by decide) ?_
          refine j_iload_n Z dX0_joined_65 1 rfl ?_
          refine j_iload_n Z dX0_joined_66 2 rfl ?_
          refine j_callVi Z (As := [.int 2, .int (nI i), .int (nI j)]) (rest := []) (nA := 3) 2 (by decide) rfl rfl (c_X0_shareMark l g μ 2 i j (by omega) (by omega) (by omega)) gX0_joined_X0_shareMark rfl rfl rfl (by decide +kernel) (by decide) rfl dX0_joined_67 rfl (Nat.le_of_ble_eq_true rfl) (by decide) (fun r9 μ9 hp => ?_)
          have hq : r9 = zB (shareB (μ 28 i) (μ 28 j)) ∧ μ9 = μ := hp
          refine j_mem hq.2 ?_
          refine j_eq hq.1 ?_
          clear hq hp
          refine j_if_eq Z 77 dX0_joined_70 (by decide) (fun h70 => ?_) (fun h70 => ?_)
          · skip
            refine j_iconst Z (v := 0) dX0_joined_77 (by decide) ?_
            exact hR _ _ _ _ _ _ (⟨by simp_all [zB_0, zB, fJoin, joinB], rfl⟩) (by decide) (by decide) dX0_joined_78
          · skip
            refine j_iconst Z (v := 1) dX0_joined_73 (by decide) ?_
            refine j_goto Z 78 dX0_joined_74 (by decide) ?_
            exact hR _ _ _ _ _ _ (⟨by simp_all [zB_0, zB, fJoin, joinB], rfl⟩) (by decide) (by decide) dX0_joined_78
      · skip
        refine j_aload_n Z dX0_joined_45 0 rfl ?_
        refine j_iconst Z (v := 0) dX0_joined_46 (by decide) ?_
        refine j_iload_n Z dX0_joined_47 1 rfl ?_
        refine j_iload_n Z dX0_joined_48 2 rfl ?_
        refine j_callVi Z (As := [.int 0, .int (nI i), .int (nI j)]) (rest := []) (nA := 3) 2 (by decide) rfl rfl (c_X0_shareMark l g μ 0 i j (by omega) (by omega) (by omega)) gX0_joined_X0_shareMark rfl rfl rfl (by decide +kernel) (by decide) rfl dX0_joined_49 rfl (Nat.le_of_ble_eq_true rfl) (by decide) (fun r9 μ9 hp => ?_)
        have hq : r9 = zB (shareB (μ 26 i) (μ 26 j)) ∧ μ9 = μ := hp
        refine j_mem hq.2 ?_
        refine j_eq hq.1 ?_
        clear hq hp
        exact hR _ _ _ _ _ _ (⟨by simp_all [zB_0, zB, fJoin, joinB], rfl⟩) (by decide) (by decide) dX0_joined_52
  · skip
    refine j_aload_n Z dX0_joined_11 0 rfl ?_
    refine j_get Z 2 (by decide) rfl rfl 6 (by decide) rfl inX0_joined_X0 lkX0_joined_34 dX0_joined_12 ?_
    refine j_iload_n Z dX0_joined_15 1 rfl ?_
    refine j_ald Z 14 (by decide) rfl i rfl (by omega) (by decide) rfl dX0_joined_16 ?_
    refine j_iload_n Z dX0_joined_17 2 rfl ?_
    refine j_ild Z (50 + i) (by omega) (gE_row (by omega)) j rfl (by omega) (by decide) dX0_joined_18 ?_
    refine j_iconst Z (v := 1) dX0_joined_19 (by decide) ?_
    refine j_icmp_ne Z 27 dX0_joined_20 (by decide) (fun h20 => ?_) (fun h20 => ?_)
    · skip
      refine j_iconst Z (v := 0) dX0_joined_27 (by decide) ?_
      exact hR _ _ _ _ _ _ (⟨by simp_all [zB_0, zB, fJoin, joinB], rfl⟩) (by decide) (by decide) dX0_joined_28
    · skip
      refine j_iconst Z (v := 1) dX0_joined_23 (by decide) ?_
      refine j_goto Z 28 dX0_joined_24 (by decide) ?_
      exact hR _ _ _ _ _ _ (⟨by simp_all [zB_0, zB, fJoin, joinB], rfl⟩) (by decide) (by decide) dX0_joined_28
theorem lkX0_putMarks_28 : Cond.fieldLink RX0 28 (TX0 4).1 (TX0 4).2.1 (TX0 4).2.2.1 ∈ wsX0_putMarks := by decide +kernel
theorem inX0_putMarks_X0 : ∀ w ∈ u_ws RX0 TX0 7, w ∈ wsX0_putMarks := by decide +kernel
set_option maxRecDepth 100000 in
set_option maxHeartbeats 4000000 in
theorem c_X0_putMarks (l : Launch) (g : gC) (μ : gM) (i : Nat) (x y z : Int32) (hi : i < 60) : Met l yX0_putMarks wsX0_putMarks { frames := 0, cells := 0, slots := 0, locals := 0 } (va_Pc [.ref (g.2.1 2), .int (nI i), .int x, .int y, .int z] (gB g μ)) (va_Qv (fun μ' : gM => μ' = gU (gU (gU μ 26 i x) 27 i y) 28 i z) (gPB g) (gA g)) 0 0 (gA g) := by
  refine g_ofV (cc := cX0_putMarks) (nL := 5) (ret := none) (by decide +kernel) rfl rfl  (Nat.le_of_ble_eq_true rfl) ?_
  intro p e s m args below meth c Q Z hR
  refine j_aload_n Z dX0_putMarks_0 0 rfl ?_
  refine j_get Z 2 (by decide) rfl rfl 4 (by decide) rfl inX0_putMarks_X0 lkX0_putMarks_28 dX0_putMarks_1 ?_
  refine j_iconst Z (v := 0) dX0_putMarks_4 (by decide) ?_
  refine j_ald Z 12 (by decide) rfl 0 (by decide) (by decide) (by decide) rfl dX0_putMarks_5 ?_
  refine j_iload_n Z dX0_putMarks_6 1 rfl ?_
  refine j_iload_n Z dX0_putMarks_7 2 rfl ?_
  refine j_ist Z 26 (by decide) (fun _ => rfl) i rfl (by omega) (by decide)  dX0_putMarks_8 ?_
  refine j_aload_n Z dX0_putMarks_9 0 rfl ?_
  refine j_get Z 2 (by decide) rfl rfl 4 (by decide) rfl inX0_putMarks_X0 lkX0_putMarks_28 dX0_putMarks_10 ?_
  refine j_iconst Z (v := 1) dX0_putMarks_13 (by decide) ?_
  refine j_ald Z 12 (by decide) rfl 1 (by decide) (by decide) (by decide) rfl dX0_putMarks_14 ?_
  refine j_iload_n Z dX0_putMarks_15 1 rfl ?_
  refine j_iload_n Z dX0_putMarks_16 3 rfl ?_
  refine j_ist Z 27 (by decide) (fun _ => rfl) i rfl (by omega) (by decide)  dX0_putMarks_17 ?_
  refine j_aload_n Z dX0_putMarks_18 0 rfl ?_
  refine j_get Z 2 (by decide) rfl rfl 4 (by decide) rfl inX0_putMarks_X0 lkX0_putMarks_28 dX0_putMarks_19 ?_
  refine j_iconst Z (v := 2) dX0_putMarks_22 (by decide) ?_
  refine j_ald Z 12 (by decide) rfl 2 (by decide) (by decide) (by decide) rfl dX0_putMarks_23 ?_
  refine j_iload_n Z dX0_putMarks_24 1 rfl ?_
  refine j_iload Z dX0_putMarks_25 4 rfl ?_
  refine j_ist Z 28 (by decide) (fun _ => rfl) i rfl (by omega) (by decide)  dX0_putMarks_27 ?_
  exact hR _ _ _ _ _ (rfl) (by decide) (by decide) dX0_putMarks_28
theorem lkX0_putAttributes_31 : Cond.fieldLink RX0 31 (TX0 5).1 (TX0 5).2.1 (TX0 5).2.2.1 ∈ wsX0_putAttributes := by decide +kernel
theorem inX0_putAttributes_X0 : ∀ w ∈ u_ws RX0 TX0 7, w ∈ wsX0_putAttributes := by decide +kernel
set_option maxRecDepth 100000 in
set_option maxHeartbeats 4000000 in
theorem c_X0_putAttributes (l : Launch) (g : gC) (μ : gM) (i : Nat) (x y : Int32) (hi : i < 60) : Met l yX0_putAttributes wsX0_putAttributes { frames := 0, cells := 0, slots := 0, locals := 0 } (va_Pc [.ref (g.2.1 2), .int (nI i), .int x, .int y] (gB g μ)) (va_Qv (fun μ' : gM => μ' = gU (gU μ 29 i x) 30 i y) (gPB g) (gA g)) 0 0 (gA g) := by
  refine g_ofV (cc := cX0_putAttributes) (nL := 4) (ret := none) (by decide +kernel) rfl rfl  (Nat.le_of_ble_eq_true rfl) ?_
  intro p e s m args below meth c Q Z hR
  refine j_aload_n Z dX0_putAttributes_0 0 rfl ?_
  refine j_get Z 2 (by decide) rfl rfl 5 (by decide) rfl inX0_putAttributes_X0 lkX0_putAttributes_31 dX0_putAttributes_1 ?_
  refine j_iconst Z (v := 0) dX0_putAttributes_4 (by decide) ?_
  refine j_ald Z 13 (by decide) rfl 0 (by decide) (by decide) (by decide) rfl dX0_putAttributes_5 ?_
  refine j_iload_n Z dX0_putAttributes_6 1 rfl ?_
  refine j_iload_n Z dX0_putAttributes_7 2 rfl ?_
  refine j_ist Z 29 (by decide) (fun _ => rfl) i rfl (by omega) (by decide)  dX0_putAttributes_8 ?_
  refine j_aload_n Z dX0_putAttributes_9 0 rfl ?_
  refine j_get Z 2 (by decide) rfl rfl 5 (by decide) rfl inX0_putAttributes_X0 lkX0_putAttributes_31 dX0_putAttributes_10 ?_
  refine j_iconst Z (v := 1) dX0_putAttributes_13 (by decide) ?_
  refine j_ald Z 13 (by decide) rfl 1 (by decide) (by decide) (by decide) rfl dX0_putAttributes_14 ?_
  refine j_iload_n Z dX0_putAttributes_15 1 rfl ?_
  refine j_iload_n Z dX0_putAttributes_16 3 rfl ?_
  refine j_ist Z 30 (by decide) (fun _ => rfl) i rfl (by omega) (by decide)  dX0_putAttributes_17 ?_
  exact hR _ _ _ _ _ (rfl) (by decide) (by decide) dX0_putAttributes_18
theorem lkX0_take_9 : Cond.fieldLink RX0 9 (TX0 0).1 (TX0 0).2.1 (TX0 0).2.2.1 ∈ wsX0_take := by decide +kernel
theorem inX0_take_X0 : ∀ w ∈ u_ws RX0 TX0 7, w ∈ wsX0_take := by decide +kernel
theorem lkX0_take_15 : Cond.fieldLink RX0 15 (TX0 1).1 (TX0 1).2.1 (TX0 1).2.2.1 ∈ wsX0_take := by decide +kernel
theorem lkX0_take_19 : Cond.fieldLink RX0 19 (TX0 2).1 (TX0 2).2.1 (TX0 2).2.2.1 ∈ wsX0_take := by decide +kernel
set_option maxRecDepth 100000 in
set_option maxHeartbeats 4000000 in
theorem c_X0_take (l : Launch) (g : gC) (μ : gM) (q : Nat) (x y : Int32) (hq : q < 60) (hc : μ 2 0 = nI q) : Met l yX0_take wsX0_take { frames := 0, cells := 0, slots := 0, locals := 0 } (va_Pc [.ref (g.2.1 2), .int x, .int y] (gB g μ)) (va_Qi (fun (r : Int32) (μ' : gM) => r = nI q ∧ μ' = gU (gU (gU μ 9 q x) 10 q y) 2 0 (nI (q + 1))) (gPB g) (gA g)) 0 0 (gA g) := by
  refine g_ofI (cc := cX0_take) (nL := 4) (ret := (some .int)) (ty := .int) (by decide +kernel) rfl rfl (fun _ _ _ => rfl) (Nat.le_of_ble_eq_true rfl) ?_
  intro p e s m args below meth c Q Z hR
  refine j_aload_n Z dX0_take_0 0 rfl ?_
  refine j_get Z 2 (by decide) rfl rfl 0 (by decide) rfl inX0_take_X0 lkX0_take_9 dX0_take_1 ?_
  refine j_eq hc ?_
  refine j_istore_n Z dX0_take_4 (by decide) [(3, .int (nI q)), (0, .ref (g.2.1 2)), (1, .int x), (2, .int y)] rfl ?_
  refine j_aload_n Z dX0_take_5 1 rfl ?_
  refine j_get Z 2 (by decide) rfl rfl 1 (by decide) rfl inX0_take_X0 lkX0_take_15 dX0_take_6 ?_
  refine j_iload_n Z dX0_take_9 0 rfl ?_
  refine j_iload_n Z dX0_take_10 2 rfl ?_
  refine j_ist Z 9 (by decide) (fun _ => rfl) q rfl (by omega) (by decide)  dX0_take_11 ?_
  refine j_aload_n Z dX0_take_12 1 rfl ?_
  refine j_get Z 2 (by decide) rfl rfl 2 (by decide) rfl inX0_take_X0 lkX0_take_19 dX0_take_13 ?_
  refine j_iload_n Z dX0_take_16 0 rfl ?_
  refine j_iload_n Z dX0_take_17 3 rfl ?_
  refine j_ist Z 10 (by decide) (fun _ => rfl) q rfl (by omega) (by decide)  dX0_take_18 ?_
  refine j_aload_n Z dX0_take_19 1 rfl ?_
  refine j_dup Z dX0_take_20 rfl ?_
  refine j_get Z 2 (by decide) rfl rfl 0 (by decide) rfl inX0_take_X0 lkX0_take_9 dX0_take_21 ?_
  refine j_eq (y := μ 2 0) (by rw [gU_n (k := 10) (j := 2) (by omega), gU_n (k := 9) (j := 2) (by omega)]) ?_
  refine j_eq hc ?_
  refine j_iconst Z (v := 1) dX0_take_24 (by decide) ?_
  refine j_iadd Z dX0_take_25 ?_
  refine j_eq (nI_1 q) ?_
  refine j_put Z 2 (by decide) (fun _ => rfl) rfl tyX0 tyX0_ok nmX0 0 (by decide) rfl (Nat.le_of_ble_eq_true rfl) rfl (by decide +kernel) inX0_take_X0 lkX0_take_9 dX0_take_26 ?_
  refine j_iload_n Z dX0_take_29 0 rfl ?_
  exact hR _ _ _ _ _ _ (⟨rfl, rfl⟩) (by decide) (by decide) dX0_take_30
