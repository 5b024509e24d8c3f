theorem lkX6_looked_57 : Cond.fieldLink RX6 57 (TX6 20).1 (TX6 20).2.1 (TX6 20).2.2.1 ∈ wsX6_looked := by decide +kernel
theorem inX6_looked_X6 : ∀ w ∈ u_ws RX6 TX6 23, w ∈ wsX6_looked := by decide +kernel
set_option maxRecDepth 100000 in
set_option maxHeartbeats 4000000 in
theorem c_X6_looked (l : Launch) (g : gC) (μ : gM) (cnt : Nat) (hcnt : cnt ≤ 60) (mc : μ 31 4 = nI cnt) (ms : ∀ k, vp_in (μ 34 k) 4) (x y : Int32) (b : Bool) : Met l yX6_looked wsX6_looked { frames := 3, cells := 0, slots := 0, locals := 72 } (va_Pc [.ref (g.2.1 31), .int x, .int y, .int (zB b)] (gB g μ)) (va_Qi (fun (r : Int32) (μ' : gM) => r = lkC μ cnt x y b ∧ μ' = lkM μ cnt y (fndB cnt x && (b && inB y 0 9999))) (gPB g) (gA g)) 0 0 (gA g) := by
  refine g_ofI (cc := cX6_looked) (nL := 4) (ret := (some .int)) (ty := .int) (by decide +kernel) rfl rfl (fun _ _ _ => rfl) (Nat.le_of_ble_eq_true rfl) ?_
  intro p e s m args below meth c Q Z hR
  refine j_aload_n Z dX6_looked_0 0 rfl ?_
  refine j_iload_n Z dX6_looked_1 1 rfl ?_
  refine j_callVi Z (As := [.int x]) (rest := []) (nA := 1) 31 (by decide) rfl rfl (c_X6_isFind l g μ cnt hcnt mc x) gX6_looked_X6_isFind rfl rfl rfl (by decide +kernel) (by decide) rfl dX6_looked_2 rfl (Nat.le_of_ble_eq_true rfl) (by decide) (fun r9 μ9 hp => ?_)
  have hq : r9 = zB (fndB cnt x) ∧ μ9 = μ := hp
  refine j_mem hq.2 ?_
  refine j_eq hq.1 ?_
  clear hq hp
  refine j_if_eq Z 19 dX6_looked_5 (by decide) (fun h5 => ?_) (fun h5 => ?_)
  · skip
    have f5 := zB_0.mp h5
    refine j_aload_n Z dX6_looked_19 0 rfl ?_
    refine j_iload_n Z dX6_looked_20 1 rfl ?_
    refine j_callVi Z (As := [.int x]) (rest := []) (nA := 1) 31 (by decide) rfl rfl (c_X6_isFind l g μ cnt hcnt mc x) gX6_looked_X6_isFind rfl rfl rfl (by decide +kernel) (by decide) rfl dX6_looked_21 rfl (Nat.le_of_ble_eq_true rfl) (by decide) (fun r9 μ9 hp => ?_)
    have hq : r9 = zB (fndB cnt x) ∧ μ9 = μ := hp
    refine j_mem hq.2 ?_
    refine j_eq hq.1 ?_
    clear hq hp
    refine j_if_eq Z 31 dX6_looked_24 (by decide) (fun h24 => ?_) (fun h24 => ?_)
    · skip
      have f24 := zB_0.mp h24
      refine j_iconst Z (v := 1) dX6_looked_31 (by decide) ?_
      exact hR _ _ _ _ _ _ (⟨by first | (simp [lkC, k3, f5, f24]; done) | simp_all [lkC, k3], by first | (simp [lkM, f5, f24]; done) | simp_all [lkM]⟩) (by decide) (by decide) dX6_looked_32
    · skip
      have f24 := zB_1 h24
      refine j_iconst Z (v := 2) dX6_looked_27 (by decide) ?_
      refine j_goto Z 32 dX6_looked_28 (by decide) ?_
      exact hR _ _ _ _ _ _ (⟨by first | (simp [lkC, k3, f5, f24]; done) | simp_all [lkC, k3], by first | (simp [lkM, f5, f24]; done) | simp_all [lkM]⟩) (by decide) (by decide) dX6_looked_32
  · skip
    have f5 := zB_1 h5
    refine j_iload_n Z dX6_looked_8 3 rfl ?_
    refine j_if_eq Z 19 dX6_looked_9 (by decide) (fun h9 => ?_) (fun h9 => ?_)
    · skip
      have f9 := zB_0.mp h9
      refine j_aload_n Z dX6_looked_19 0 rfl ?_
      refine j_iload_n Z dX6_looked_20 1 rfl ?_
      refine j_callVi Z (As := [.int x]) (rest := []) (nA := 1) 31 (by decide) rfl rfl (c_X6_isFind l g μ cnt hcnt mc x) gX6_looked_X6_isFind rfl rfl rfl (by decide +kernel) (by decide) rfl dX6_looked_21 rfl (Nat.le_of_ble_eq_true rfl) (by decide) (fun r9 μ9 hp => ?_)
      have hq : r9 = zB (fndB cnt x) ∧ μ9 = μ := hp
      refine j_mem hq.2 ?_
      refine j_eq hq.1 ?_
      clear hq hp
      refine j_if_eq Z 31 dX6_looked_24 (by decide) (fun h24 => ?_) (fun h24 => ?_)
      · skip
        have f24 := zB_0.mp h24
        refine j_iconst Z (v := 1) dX6_looked_31 (by decide) ?_
        exact hR _ _ _ _ _ _ (⟨by first | (simp [lkC, k3, f5, f9, f24]; done) | simp_all [lkC, k3], by first | (simp [lkM, f5, f9, f24]; done) | simp_all [lkM]⟩) (by decide) (by decide) dX6_looked_32
      · skip
        have f24 := zB_1 h24
        refine j_iconst Z (v := 2) dX6_looked_27 (by decide) ?_
        refine j_goto Z 32 dX6_looked_28 (by decide) ?_
        exact hR _ _ _ _ _ _ (⟨by first | (simp [lkC, k3, f5, f9, f24]; done) | simp_all [lkC, k3], by first | (simp [lkM, f5, f9, f24]; done) | simp_all [lkM]⟩) (by decide) (by decide) dX6_looked_32
    · skip
      have f9 := zB_1 h9
      refine j_iload_n Z dX6_looked_12 2 rfl ?_
      refine j_callSi Z (As := [.int y]) (rest := []) (nA := 1) (c_X6_isDay l g μ y) gX6_looked_X6_isDay rfl rfl rfl (by decide +kernel) (by decide) rfl dX6_looked_13 rfl (Nat.le_of_ble_eq_true rfl) (by decide) (fun r9 μ9 hp => ?_)
      have hq : r9 = zB (inB y 0 9999) ∧ μ9 = μ := hp
      refine j_mem hq.2 ?_
      refine j_eq hq.1 ?_
      clear hq hp
      refine j_if_ne Z 33 dX6_looked_16 (by decide) (fun h16 => ?_) (fun h16 => ?_)
      · skip
        have f16 := zB_1 h16
        obtain ⟨ex, lx⟩ := fnd_ix f5 hcnt
        refine j_aload_n Z dX6_looked_33 0 rfl ?_
        refine j_iload_n Z dX6_looked_34 2 rfl ?_
        refine j_callVv Z (As := [.int y]) (rest := []) (nA := 1) 31 (by decide) rfl rfl (c_X6_lay l g μ cnt hcnt mc y ms) gX6_looked_X6_lay rfl rfl rfl (by decide +kernel) (by decide) rfl dX6_looked_35 rfl (Nat.le_of_ble_eq_true rfl) (by decide) (fun μ9 hp => ?_)
        have hq : μ9 = (gR μ 47 (mSort μ cnt y (μ 47))) := hp
        refine j_mem hq ?_
        clear hq hp
        refine j_aload_n Z dX6_looked_38 0 rfl ?_
        refine j_get Z 31 (by decide) rfl rfl 20 (by decide) rfl inX6_looked_X6 lkX6_looked_57 dX6_looked_39 ?_
        refine j_iload_n Z dX6_looked_42 1 rfl ?_
        refine j_eq ex ?_
        refine j_ild Z 47 (by decide) (fun _ => rfl) (ix x) rfl (by omega) (by decide) dX6_looked_43 ?_
        refine j_eq (y := (mSort μ cnt y (μ 47)) (ix x)) (by rw [gR_s]) ?_
        refine j_if_ge Z 51 dX6_looked_44 (by decide) (fun h44 => ?_) (fun h44 => ?_)
        · skip
          refine j_iconst Z (v := 0) dX6_looked_51 (by decide) ?_
          exact hR _ _ _ _ _ _ (⟨by have g9 := th_neg (mSort_ok (μ := μ) (x := y) (th := μ 47) hcnt) hcnt lx; have e9 : ¬ mSort μ cnt y (μ 47) (ix x) = -1 := fun q9 => (Int32.not_le.mpr (g9.mpr q9)) h44; simp [lkC, k3, f5, f9, f16, e9], by simp [lkM, f5, f9, f16]⟩) (by decide) (by decide) dX6_looked_52
        · skip
          refine j_iconst Z (v := 3) dX6_looked_47 (by decide) ?_
          refine j_goto Z 52 dX6_looked_48 (by decide) ?_
          exact hR _ _ _ _ _ _ (⟨by have g9 := th_neg (mSort_ok (μ := μ) (x := y) (th := μ 47) hcnt) hcnt lx; have e9 : mSort μ cnt y (μ 47) (ix x) = -1 := g9.mp (Int32.not_le.mp h44); simp [lkC, k3, f5, f9, f16, e9], by simp [lkM, f5, f9, f16]⟩) (by decide) (by decide) dX6_looked_52
      · skip
        have f16 := zB_0.mp h16
        refine j_aload_n Z dX6_looked_19 0 rfl ?_
        refine j_iload_n Z dX6_looked_20 1 rfl ?_
        refine j_callVi Z (As := [.int x]) (rest := []) (nA := 1) 31 (by decide) rfl rfl (c_X6_isFind l g μ cnt hcnt mc x) gX6_looked_X6_isFind rfl rfl rfl (by decide +kernel) (by decide) rfl dX6_looked_21 rfl (Nat.le_of_ble_eq_true rfl) (by decide) (fun r9 μ9 hp => ?_)
        have hq : r9 = zB (fndB cnt x) ∧ μ9 = μ := hp
        refine j_mem hq.2 ?_
        refine j_eq hq.1 ?_
        clear hq hp
        refine j_if_eq Z 31 dX6_looked_24 (by decide) (fun h24 => ?_) (fun h24 => ?_)
        · skip
          have f24 := zB_0.mp h24
          refine j_iconst Z (v := 1) dX6_looked_31 (by decide) ?_
          exact hR _ _ _ _ _ _ (⟨by first | (simp [lkC, k3, f5, f9, f16, f24]; done) | simp_all [lkC, k3], by first | (simp [lkM, f5, f9, f16, f24]; done) | simp_all [lkM]⟩) (by decide) (by decide) dX6_looked_32
        · skip
          have f24 := zB_1 h24
          refine j_iconst Z (v := 2) dX6_looked_27 (by decide) ?_
          refine j_goto Z 32 dX6_looked_28 (by decide) ?_
          exact hR _ _ _ _ _ _ (⟨by first | (simp [lkC, k3, f5, f9, f16, f24]; done) | simp_all [lkC, k3], by first | (simp [lkM, f5, f9, f16, f24]; done) | simp_all [lkM]⟩) (by decide) (by decide) dX6_looked_32
theorem lkX6_isAhead_16 : Cond.fieldLink RX6 16 (TX6 5).1 (TX6 5).2.1 (TX6 5).2.2.1 ∈ wsX6_isAhead := by decide +kernel
theorem inX6_isAhead_X6 : ∀ w ∈ u_ws RX6 TX6 23, w ∈ wsX6_isAhead := by decide +kernel
theorem lkX6_isAhead_19 : Cond.fieldLink RX6 19 (TX6 6).1 (TX6 6).2.1 (TX6 6).2.2.1 ∈ wsX6_isAhead := by decide +kernel
set_option maxRecDepth 100000 in
set_option maxHeartbeats 4000000 in
theorem c_X6_isAhead (l : Launch) (g : gC) (μ : gM) (cnt : Nat) (hcnt : cnt ≤ 60) (ms : ∀ k, vp_in (μ 34 k) 4) (pl : Nat → Nat) (mp : ∀ s, s < 4 → pl s < 4 ∧ μ 33 (pl s) = nI s ∧ ∀ j, j < pl s → ¬ μ 33 j = nI s) (md : ∀ i j, i ≤ j → j < cnt → μ 35 i ≤ μ 35 j) (i j : Nat) (hi : i < cnt) (hj : j < i) : Met l yX6_isAhead wsX6_isAhead { frames := 1, cells := 0, slots := 0, locals := 22 } (va_Pc [.ref (g.2.1 31), .int (nI i), .int (nI j)] (gB g μ)) (va_Qi (fun (r : Int32) (μ' : gM) => r = zB (!decide (mPl μ pl j < mPl μ pl i)) ∧ μ' = μ) (gPB g) (gA g)) 0 0 (gA g) := by
  refine g_ofI (cc := cX6_isAhead) (nL := 5) (ret := (some .boolean)) (ty := .boolean) (by decide +kernel) rfl rfl (by rintro _ _ ⟨rfl, -⟩; exact zB_n) (Nat.le_of_ble_eq_true rfl) ?_
  intro p e s m args below meth c Q Z hR
  refine j_aload_n Z dX6_isAhead_0 0 rfl ?_
  refine j_aload_n Z dX6_isAhead_1 0 rfl ?_
  refine j_get Z 31 (by decide) rfl rfl 5 (by decide) rfl inX6_isAhead_X6 lkX6_isAhead_16 dX6_isAhead_2 ?_
  refine j_iload_n Z dX6_isAhead_5 1 rfl ?_
  refine j_ild Z 34 (by decide) (fun _ => rfl) i rfl (by omega) (by decide) dX6_isAhead_6 ?_
  refine j_eq (vp_ix (ms i) (by decide)).1 ?_
  refine j_callVi Z (As := [.int (nI (ix (μ 34 i)))]) (rest := []) (nA := 1) 31 (by decide) rfl rfl (c_X6_rankOf l g μ (ix (μ 34 i)) (pl (ix (μ 34 i))) (mp (ix (μ 34 i)) (vp_ix (ms i) (by decide)).2).1 (mp (ix (μ 34 i)) (vp_ix (ms i) (by decide)).2).2.1 (mp (ix (μ 34 i)) (vp_ix (ms i) (by decide)).2).2.2) gX6_isAhead_X6_rankOf rfl rfl rfl (by decide +kernel) (by decide) rfl dX6_isAhead_7 rfl (Nat.le_of_ble_eq_true rfl) (by decide) (fun r9 μ9 hp => ?_)
  have hq : r9 = nI (pl (ix (μ 34 i))) ∧ μ9 = μ := hp
  refine j_mem hq.2 ?_
  refine j_eq hq.1 ?_
  clear hq hp
  refine j_istore_n Z dX6_isAhead_10 (by decide) [(3, .int (nI (pl (ix (μ 34 i))))), (0, .ref (g.2.1 31)), (1, .int (nI i)), (2, .int (nI j))] rfl ?_
  refine j_aload_n Z dX6_isAhead_11 1 rfl ?_
  refine j_aload_n Z dX6_isAhead_12 1 rfl ?_
  refine j_get Z 31 (by decide) rfl rfl 5 (by decide) rfl inX6_isAhead_X6 lkX6_isAhead_16 dX6_isAhead_13 ?_
  refine j_iload_n Z dX6_isAhead_16 3 rfl ?_
  refine j_ild Z 34 (by decide) (fun _ => rfl) j rfl (by omega) (by decide) dX6_isAhead_17 ?_
  refine j_eq (vp_ix (ms j) (by decide)).1 ?_
  refine j_callVi Z (As := [.int (nI (ix (μ 34 j)))]) (rest := []) (nA := 1) 31 (by decide) rfl rfl (c_X6_rankOf l g μ (ix (μ 34 j)) (pl (ix (μ 34 j))) (mp (ix (μ 34 j)) (vp_ix (ms j) (by decide)).2).1 (mp (ix (μ 34 j)) (vp_ix (ms j) (by decide)).2).2.1 (mp (ix (μ 34 j)) (vp_ix (ms j) (by decide)).2).2.2) gX6_isAhead_X6_rankOf rfl rfl rfl (by decide +kernel) (by decide) rfl dX6_isAhead_18 rfl (Nat.le_of_ble_eq_true rfl) (by decide) (fun r9 μ9 hp => ?_)
  have hq : r9 = nI (pl (ix (μ 34 j))) ∧ μ9 = μ := hp
  refine j_mem hq.2 ?_
  refine j_eq hq.1 ?_
  clear hq hp
  refine j_istore Z dX6_isAhead_21 (by decide) [(4, .int (nI (pl (ix (μ 34 j))))), (3, .int (nI (pl (ix (μ 34 i))))), (0, .ref (g.2.1 31)), (1, .int (nI i)), (2, .int (nI j))] rfl ?_
  refine j_iload_n Z dX6_isAhead_23 1 rfl ?_
  refine j_iload Z dX6_isAhead_24 0 rfl ?_
  refine j_icmp_lt Z 70 dX6_isAhead_26 (by decide) (fun h26 => ?_) (fun h26 => ?_)
  · skip
    refine j_iconst Z (v := 1) dX6_isAhead_70 (by decide) ?_
    refine j_goto Z 75 dX6_isAhead_71 (by decide) ?_
    exact hR _ _ _ _ _ _ (⟨ah_lt h26, rfl⟩) (by decide) (by decide) dX6_isAhead_75
  · skip
    refine j_iload_n Z dX6_isAhead_29 1 rfl ?_
    refine j_iload Z dX6_isAhead_30 0 rfl ?_
    refine j_icmp_ne Z 74 dX6_isAhead_32 (by decide) (fun h32 => ?_) (fun h32 => ?_)
    · skip
      refine j_iconst Z (v := 0) dX6_isAhead_74 (by decide) ?_
      exact hR _ _ _ _ _ _ (⟨ah_gt h26 h32, rfl⟩) (by decide) (by decide) dX6_isAhead_75
    · skip
      refine j_aload_n Z dX6_isAhead_35 2 rfl ?_
      refine j_get Z 31 (by decide) rfl rfl 6 (by decide) rfl inX6_isAhead_X6 lkX6_isAhead_19 dX6_isAhead_36 ?_
      refine j_iload_n Z dX6_isAhead_39 3 rfl ?_
      refine j_ild Z 35 (by decide) (fun _ => rfl) i rfl (by omega) (by decide) dX6_isAhead_40 ?_
      refine j_aload_n Z dX6_isAhead_41 2 rfl ?_
      refine j_get Z 31 (by decide) rfl rfl 6 (by decide) rfl inX6_isAhead_X6 lkX6_isAhead_19 dX6_isAhead_42 ?_
      refine j_iload_n Z dX6_isAhead_45 4 rfl ?_
      refine j_ild Z 35 (by decide) (fun _ => rfl) j rfl (by omega) (by decide) dX6_isAhead_46 ?_
      refine j_icmp_gt Z 70 dX6_isAhead_47 (by decide) (fun h47 => ?_) (fun h47 => ?_)
      · skip
        refine j_iconst Z (v := 1) dX6_isAhead_70 (by decide) ?_
        refine j_goto Z 75 dX6_isAhead_71 (by decide) ?_
        exact hR _ _ _ _ _ _ (⟨ah_eq h32, rfl⟩) (by decide) (by decide) dX6_isAhead_75
      · skip
        refine j_aload_n Z dX6_isAhead_50 2 rfl ?_
        refine j_get Z 31 (by decide) rfl rfl 6 (by decide) rfl inX6_isAhead_X6 lkX6_isAhead_19 dX6_isAhead_51 ?_
        refine j_iload_n Z dX6_isAhead_54 3 rfl ?_
        refine j_ild Z 35 (by decide) (fun _ => rfl) i rfl (by omega) (by decide) dX6_isAhead_55 ?_
        refine j_aload_n Z dX6_isAhead_56 2 rfl ?_
        refine j_get Z 31 (by decide) rfl rfl 6 (by decide) rfl inX6_isAhead_X6 lkX6_isAhead_19 dX6_isAhead_57 ?_
        refine j_iload_n Z dX6_isAhead_60 4 rfl ?_
        refine j_ild Z 35 (by decide) (fun _ => rfl) j rfl (by omega) (by decide) dX6_isAhead_61 ?_
        refine j_icmp_ne Z 74 dX6_isAhead_62 (by decide) (fun h62 => ?_) (fun h62 => ?_)
        · skip
          refine j_iconst Z (v := 0) dX6_isAhead_74 (by decide) ?_
          exact hR _ _ _ _ _ _ (⟨absurd (Int32.le_antisymm (Int32.not_lt.mp h47) (md j i (by omega) hi)) h62, rfl⟩) (by decide) (by decide) dX6_isAhead_75
        · skip
          refine j_iload_n Z dX6_isAhead_65 3 rfl ?_
          refine j_iload_n Z dX6_isAhead_66 4 rfl ?_
          refine j_icmp_le Z 74 dX6_isAhead_67 (by decide) (fun h67 => ?_) (fun h67 => ?_)
          · skip
            refine j_iconst Z (v := 0) dX6_isAhead_74 (by decide) ?_
            exact hR _ _ _ _ _ _ (⟨absurd ((nI_leI (a := i) (b := j) (by omega) (by omega)).mp h67) (by omega), rfl⟩) (by decide) (by decide) dX6_isAhead_75
          · skip
            refine j_iconst Z (v := 1) dX6_isAhead_70 (by decide) ?_
            refine j_goto Z 75 dX6_isAhead_71 (by decide) ?_
            exact hR _ _ _ _ _ _ (⟨ah_eq h32, rfl⟩) (by decide) (by decide) dX6_isAhead_75
theorem lkX6_valueOf_70 : Cond.fieldLink RX6 70 (TX6 4).1 (TX6 4).2.1 (TX6 4).2.2.1 ∈ wsX6_valueOf := by decide +kernel
theorem inX6_valueOf_X6 : ∀ w ∈ u_ws RX6 TX6 23, w ∈ wsX6_valueOf := by decide +kernel
theorem lkX6_valueOf_25 : Cond.fieldLink RX6 25 (TX6 8).1 (TX6 8).2.1 (TX6 8).2.2.1 ∈ wsX6_valueOf := by decide +kernel
theorem lkX6_valueOf_57 : Cond.fieldLink RX6 57 (TX6 20).1 (TX6 20).2.1 (TX6 20).2.2.1 ∈ wsX6_valueOf := by decide +kernel
set_option maxRecDepth 100000 in
set_option maxHeartbeats 4000000 in
theorem c_X6_valueOf (l : Launch) (g : gC) (μ : gM) (cnt : Nat) (hcnt : cnt ≤ 60) (mc : μ 31 4 = nI cnt) (ms : ∀ k, vp_in (μ 34 k) 4) (pl : Nat → Nat) (mp : ∀ s, s < 4 → pl s < 4 ∧ μ 33 (pl s) = nI s ∧ ∀ j, j < pl s → ¬ μ 33 j = nI s) (md : ∀ i j, i ≤ j → j < cnt → μ 35 i ≤ μ 35 j) (mt : ∀ k, -1 ≤ μ 37 k) (x : Int32) (a : Nat) (ha : a < 2) : Met l yX6_valueOf wsX6_valueOf { frames := 2, cells := 0, slots := 0, locals := 46 } (va_Pc [.ref (g.2.1 31), .int x, .int (nI a)] (gB g μ)) (va_Qi (fun (r : Int32) (μ' : gM) => r = aVal (μ 47) (mTl μ a) (mPl μ pl) x cnt ∧ μ' = μ) (gPB g) (gA g)) 0 0 (gA g) := by
  refine g_ofI (cc := cX6_valueOf) (nL := 6) (ret := (some .int)) (ty := .int) (by decide +kernel) rfl rfl (fun _ _ _ => rfl) (Nat.le_of_ble_eq_true rfl) ?_
  intro p e s m args below meth c Q Z hR
  refine j_iconst Z (v := -1) dX6_valueOf_0 (by decide) ?_
  refine j_istore_n Z dX6_valueOf_1 (by decide) [(3, .int (-1)), (0, .ref (g.2.1 31)), (1, .int x), (2, .int (nI a))] rfl ?_
  refine j_iconst Z (v := 0) dX6_valueOf_2 (by decide) ?_
  refine j_istore Z dX6_valueOf_3 (by decide) [(4, .int 0), (3, .int (-1)), (0, .ref (g.2.1 31)), (1, .int x), (2, .int (nI a))] rfl ?_
  have lp5 : ∀ (nlp5 i : Nat) (b : Int32), b = aBest (μ 47) (mTl μ a) (mPl μ pl) x i → cnt + 2 ≤ i + nlp5 → i ≤ cnt → J p l e { frames := 2, cells := 0, slots := 0, locals := 46 } s m args below meth c Q g 6 μ (0) (0) 5 [(0, .ref (g.2.1 31)), (1, .int x), (2, .int (nI a)), (3, .int b), (4, .int (nI i))] [] := by
    intro nlp5
    induction nlp5 with
    | zero => intro i b eb hn hg; exact absurd hn (by omega)
    | succ nlp5 ihlp5 =>
      intro i b eb hn hg
      refine j_iload Z dX6_valueOf_5 4 rfl ?_
      refine j_aload_n Z dX6_valueOf_7 0 rfl ?_
      refine j_get Z 31 (by decide) rfl rfl 4 (by decide) rfl inX6_valueOf_X6 lkX6_valueOf_70 dX6_valueOf_8 ?_
      refine j_eq mc ?_
      refine j_icmp_ge Z 78 dX6_valueOf_11 (by decide) (fun h11 => ?_) (fun h11 => ?_)
      · skip
        have hic : i = cnt := by
          have hq := (nI_leI (a := cnt) (b := i) (by omega) (by omega)).mp h11
          omega
        rw [hic] at eb
        refine j_iload_n Z dX6_valueOf_78 3 rfl ?_
        refine j_if_ge Z 86 dX6_valueOf_79 (by decide) (fun h79 => ?_) (fun h79 => ?_)
        · skip
          have hb9 : ¬ b = -1 := fun q9 => absurd ((aBest_n eb hcnt).mpr q9) (Int32.not_lt.mpr h79)
          obtain ⟨j9, hj9, eb9⟩ := aBest_j eb hb9
          refine j_aload_n Z dX6_valueOf_86 0 rfl ?_
          refine j_get Z 31 (by decide) rfl rfl 8 (by decide) rfl inX6_valueOf_X6 lkX6_valueOf_25 dX6_valueOf_87 ?_
          refine j_iconst Z (v := 2) dX6_valueOf_90 (by decide) ?_
          refine j_iload_n Z dX6_valueOf_91 3 rfl ?_
          refine j_eq eb9 ?_
          refine j_imul Z dX6_valueOf_92 ?_
          refine j_eq (pk_mul 2 j9) ?_
          refine j_iload_n Z dX6_valueOf_93 2 rfl ?_
          refine j_iadd Z dX6_valueOf_94 ?_
          refine j_eq (nI_add (2 * j9) a) ?_
          refine j_ild Z 37 (by decide) (fun _ => rfl) ((2 * j9) + a) rfl (by omega) (by decide) dX6_valueOf_95 ?_
          exact hR _ _ _ _ _ _ (⟨aVal_t eb eb9 (by omega), rfl⟩) (by decide) (by decide) dX6_valueOf_96
        · skip
          refine j_iconst Z (v := -1) dX6_valueOf_82 (by decide) ?_
          refine j_goto Z 96 dX6_valueOf_83 (by decide) ?_
          exact hR _ _ _ _ _ _ (⟨aVal_f eb ((aBest_n eb hcnt).mp (Int32.not_le.mp h79)), rfl⟩) (by decide) (by decide) dX6_valueOf_96
      · skip
        have hlt : i < cnt := by
          rcases Nat.lt_or_ge i cnt with q9 | q9
          · exact q9
          · exact absurd (nI_le q9 (by omega)) h11
        have jp44 : J p l e { frames := 2, cells := 0, slots := 0, locals := 46 } s m args below meth c Q g 6 μ (0) (0) 44 [(0, .ref (g.2.1 31)), (1, .int x), (2, .int (nI a)), (3, .int b), (4, .int (nI i))] [.int (zB (tellB (μ 47) (mTl μ a) x i))] := by
          refine j_istore Z dX6_valueOf_44 (by decide) [(5, .int (zB (tellB (μ 47) (mTl μ a) x i))), (0, .ref (g.2.1 31)), (1, .int x), (2, .int (nI a)), (3, .int b), (4, .int (nI i))] rfl ?_
          have jp71 : J p l e { frames := 2, cells := 0, slots := 0, locals := 46 } s m args below meth c Q g 6 μ (0) (0) 71 [(5, .int (zB (tellB (μ 47) (mTl μ a) x i))), (0, .ref (g.2.1 31)), (1, .int x), (2, .int (nI a)), (3, .int b), (4, .int (nI i))] [.int (aNx (tellB (μ 47) (mTl μ a) x i) b (mPl μ pl (ix b)) (mPl μ pl i) i)] := by
            refine j_istore_n Z dX6_valueOf_71 (by decide) [(3, .int (aNx (tellB (μ 47) (mTl μ a) x i) b (mPl μ pl (ix b)) (mPl μ pl i) i)), (5, .int (zB (tellB (μ 47) (mTl μ a) x i))), (0, .ref (g.2.1 31)), (1, .int x), (2, .int (nI a)), (4, .int (nI i))] rfl ?_
            refine j_iinc Z dX6_valueOf_72 5 rfl (nI_1 i) (by decide) [(4, .int (nI (i + 1))), (3, .int (aNx (tellB (μ 47) (mTl μ a) x i) b (mPl μ pl (ix b)) (mPl μ pl i) i)), (5, .int (zB (tellB (μ 47) (mTl μ a) x i))), (0, .ref (g.2.1 31)), (1, .int x), (2, .int (nI a))] rfl ?_
            refine j_goto Z 5 dX6_valueOf_75 (by decide) ?_
            refine j_sub [3, 4, 5, 1, 0] rfl ?_
            exact ihlp5 (i + 1) (aNx (tellB (μ 47) (mTl μ a) x i) b (mPl μ pl (ix b)) (mPl μ pl i) i) (aNx_s eb)  (by omega) (by omega)
          refine j_iload Z dX6_valueOf_46 0 rfl ?_
          refine j_if_eq Z 70 dX6_valueOf_48 (by decide) (fun h48 => ?_) (fun h48 => ?_)
          · skip
            have f48 := zB_0.mp h48
            refine j_iload_n Z dX6_valueOf_70 4 rfl ?_
            refine j_sub [0, 1, 2, 3, 4, 5] rfl ?_
            exact j_eq (aNx_f f48) jp71
          · skip
            have f48 := zB_1 h48
            refine j_iload_n Z dX6_valueOf_51 4 rfl ?_
            refine j_if_lt Z 65 dX6_valueOf_52 (by decide) (fun h52 => ?_) (fun h52 => ?_)
            · skip
              refine j_iload Z dX6_valueOf_65 5 rfl ?_
              refine j_goto Z 71 dX6_valueOf_67 (by decide) ?_
              refine j_sub [0, 1, 2, 3, 4, 5] rfl ?_
              exact j_eq (aNx_n f48 ((aBest_n eb (by omega)).mp h52)) jp71
            · skip
              have hb9 : ¬ b = -1 := fun q9 => h52 ((aBest_n eb (by omega)).mpr q9)
              obtain ⟨j9, hj9, eb9⟩ := aBest_j eb hb9
              have ixb9 : ix b = j9 := by rw [eb9]; exact ix_nI (by omega)
              refine j_aload_n Z dX6_valueOf_55 1 rfl ?_
              refine j_iload Z dX6_valueOf_56 5 rfl ?_
              refine j_iload_n Z dX6_valueOf_58 4 rfl ?_
              refine j_eq eb9 ?_
              refine j_callVi Z (As := [.int (nI i), .int (nI j9)]) (rest := []) (nA := 2) 31 (by decide) rfl rfl (c_X6_isAhead l g μ cnt hcnt ms pl mp md i j9 (by omega) (by omega)) gX6_valueOf_X6_isAhead rfl rfl rfl (by decide +kernel) (by decide) rfl dX6_valueOf_59 rfl (Nat.le_of_ble_eq_true rfl) (by decide) (fun r9 μ9 hp => ?_)
              have hq : r9 = zB (!decide (mPl μ pl j9 < mPl μ pl i)) ∧ μ9 = μ := hp
              refine j_mem hq.2 ?_
              refine j_eq hq.1 ?_
              clear hq hp
              refine j_if_eq Z 70 dX6_valueOf_62 (by decide) (fun h62 => ?_) (fun h62 => ?_)
              · skip
                have f62 := zB_0.mp h62
                refine j_iload_n Z dX6_valueOf_70 4 rfl ?_
                refine j_eq eb9 ?_
                refine j_sub [0, 1, 2, 3, 4, 5] rfl ?_
                exact j_eq (by rw [← eb9]; exact aNx_b hb9 (by rw [ixb9]; exact of_decide_eq_true (by simpa using f62))) jp71
              · skip
                have f62 := zB_1 h62
                refine j_iload Z dX6_valueOf_65 5 rfl ?_
                refine j_goto Z 71 dX6_valueOf_67 (by decide) ?_
                refine j_sub [0, 1, 2, 3, 4, 5] rfl ?_
                exact j_eq (aNx_a f48 (by rw [ixb9]; exact of_decide_eq_false (by simpa using f62))) jp71
        refine j_aload_n Z dX6_valueOf_14 0 rfl ?_
        refine j_get Z 31 (by decide) rfl rfl 20 (by decide) rfl inX6_valueOf_X6 lkX6_valueOf_57 dX6_valueOf_15 ?_
        refine j_iload Z dX6_valueOf_18 4 rfl ?_
        refine j_ild Z 47 (by decide) (fun _ => rfl) i rfl (by omega) (by decide) dX6_valueOf_20 ?_
        refine j_iload_n Z dX6_valueOf_21 1 rfl ?_
        refine j_icmp_ne Z 43 dX6_valueOf_22 (by decide) (fun h22 => ?_) (fun h22 => ?_)
        · skip
          refine j_iconst Z (v := 0) dX6_valueOf_43 (by decide) ?_
          refine j_sub [0, 1, 2, 3, 4] rfl ?_
          exact j_eq (by simp [zB, tellB, mTl, h22]) jp44
        · skip
          refine j_aload_n Z dX6_valueOf_25 0 rfl ?_
          refine j_get Z 31 (by decide) rfl rfl 8 (by decide) rfl inX6_valueOf_X6 lkX6_valueOf_25 dX6_valueOf_26 ?_
          refine j_iconst Z (v := 2) dX6_valueOf_29 (by decide) ?_
          refine j_iload Z dX6_valueOf_30 4 rfl ?_
          refine j_imul Z dX6_valueOf_32 ?_
          refine j_eq (pk_mul 2 i) ?_
          refine j_iload_n Z dX6_valueOf_33 2 rfl ?_
          refine j_iadd Z dX6_valueOf_34 ?_
          refine j_eq (nI_add (2 * i) a) ?_
          refine j_ild Z 37 (by decide) (fun _ => rfl) ((2 * i) + a) rfl (by omega) (by decide) dX6_valueOf_35 ?_
          refine j_if_lt Z 43 dX6_valueOf_36 (by decide) (fun h36 => ?_) (fun h36 => ?_)
          · skip
            refine j_iconst Z (v := 0) dX6_valueOf_43 (by decide) ?_
            refine j_sub [0, 1, 2, 3, 4] rfl ?_
            exact j_eq (by have g1 := ge_m1 (mt (2 * i + a)); rw [g1] at h36; simp [zB, tellB, mTl, h22, h36]) jp44
          · skip
            refine j_iconst Z (v := 1) dX6_valueOf_39 (by decide) ?_
            refine j_goto Z 44 dX6_valueOf_40 (by decide) ?_
            refine j_sub [0, 1, 2, 3, 4] rfl ?_
            exact j_eq (by have g1 := ge_m1 (mt (2 * i + a)); rw [g1] at h36; simp [zB, tellB, mTl, h22, h36]) jp44
  refine j_sub [2, 3, 4, 1, 0] rfl ?_
  exact lp5 (cnt + 2) 0 ((-1)) (rfl)  (by omega) (by omega)
theorem lkX6_isOf_57 : Cond.fieldLink RX6 57 (TX6 20).1 (TX6 20).2.1 (TX6 20).2.2.1 ∈ wsX6_isOf := by decide +kernel
theorem inX6_isOf_X6 : ∀ w ∈ u_ws RX6 TX6 23, w ∈ wsX6_isOf := by decide +kernel
theorem lkX6_isOf_39 : Cond.fieldLink RX6 39 (TX6 13).1 (TX6 13).2.1 (TX6 13).2.2.1 ∈ wsX6_isOf := by decide +kernel
theorem lkX6_isOf_36 : Cond.fieldLink RX6 36 (TX6 12).1 (TX6 12).2.1 (TX6 12).2.2.1 ∈ wsX6_isOf := by decide +kernel
theorem lkX6_isOf_42 : Cond.fieldLink RX6 42 (TX6 14).1 (TX6 14).2.1 (TX6 14).2.2.1 ∈ wsX6_isOf := by decide +kernel
set_option maxRecDepth 100000 in
set_option maxHeartbeats 4000000 in
theorem c_X6_isOf (l : Launch) (g : gC) (μ : gM) (i : Nat) (hi : i < 40) (m1 : ∀ k, vp_in (μ 40 k) 60) (m2 : ∀ k, vp_in (μ 41 k) 60) (x y : Int32) : Met l yX6_isOf wsX6_isOf { frames := 0, cells := 0, slots := 0, locals := 0 } (va_Pc [.ref (g.2.1 31), .int (nI i), .int x, .int y] (gB g μ)) (va_Qi (fun (r : Int32) (μ' : gM) => r = zB (isOfB (μ 47) (μ 40) (μ 41) (μ 42) x y i) ∧ μ' = μ) (gPB g) (gA g)) 0 0 (gA g) := by
  refine g_ofI (cc := cX6_isOf) (nL := 5) (ret := (some .boolean)) (ty := .boolean) (by decide +kernel) rfl rfl (by rintro _ _ ⟨rfl, -⟩; exact zB_n) (Nat.le_of_ble_eq_true rfl) ?_
  intro p e s m args below meth c Q Z hR
  refine j_aload_n Z dX6_isOf_0 0 rfl ?_
  refine j_get Z 31 (by decide) rfl rfl 20 (by decide) rfl inX6_isOf_X6 lkX6_isOf_57 dX6_isOf_1 ?_
  refine j_aload_n Z dX6_isOf_4 0 rfl ?_
  refine j_get Z 31 (by decide) rfl rfl 13 (by decide) rfl inX6_isOf_X6 lkX6_isOf_39 dX6_isOf_5 ?_
  refine j_iload_n Z dX6_isOf_8 1 rfl ?_
  refine j_ild Z 41 (by decide) (fun _ => rfl) i rfl (by omega) (by decide) dX6_isOf_9 ?_
  refine j_ild Z 47 (by decide) (fun _ => rfl) (ix (μ 41 i)) (vp_ix (m2 i) (by decide)).1 (vp_ix (m2 i) (by decide)).2 (by decide) dX6_isOf_10 ?_
  refine j_istore Z dX6_isOf_11 (by decide) [(4, .int (μ 47 (ix (μ 41 i)))), (0, .ref (g.2.1 31)), (1, .int (nI i)), (2, .int x), (3, .int y)] rfl ?_
  refine j_aload_n Z dX6_isOf_13 1 rfl ?_
  refine j_get Z 31 (by decide) rfl rfl 20 (by decide) rfl inX6_isOf_X6 lkX6_isOf_57 dX6_isOf_14 ?_
  refine j_aload_n Z dX6_isOf_17 1 rfl ?_
  refine j_get Z 31 (by decide) rfl rfl 12 (by decide) rfl inX6_isOf_X6 lkX6_isOf_36 dX6_isOf_18 ?_
  refine j_iload_n Z dX6_isOf_21 2 rfl ?_
  refine j_ild Z 40 (by decide) (fun _ => rfl) i rfl (by omega) (by decide) dX6_isOf_22 ?_
  refine j_ild Z 47 (by decide) (fun _ => rfl) (ix (μ 40 i)) (vp_ix (m1 i) (by decide)).1 (vp_ix (m1 i) (by decide)).2 (by decide) dX6_isOf_23 ?_
  refine j_iload_n Z dX6_isOf_24 3 rfl ?_
  refine j_icmp_ne Z 53 dX6_isOf_25 (by decide) (fun h25 => ?_) (fun h25 => ?_)
  · skip
    refine j_iconst Z (v := 0) dX6_isOf_53 (by decide) ?_
    exact hR _ _ _ _ _ _ (⟨by first | (simp [zB, isOfB, h25]; done) | (simp_all [zB, isOfB]; done), rfl⟩) (by decide) (by decide) dX6_isOf_54
  · skip
    refine j_aload_n Z dX6_isOf_28 1 rfl ?_
    refine j_get Z 31 (by decide) rfl rfl 14 (by decide) rfl inX6_isOf_X6 lkX6_isOf_42 dX6_isOf_29 ?_
    refine j_iload_n Z dX6_isOf_32 2 rfl ?_
    refine j_ild Z 42 (by decide) (fun _ => rfl) i rfl (by omega) (by decide) dX6_isOf_33 ?_
    refine j_iload_n Z dX6_isOf_34 4 rfl ?_
    refine j_icmp_ne Z 53 dX6_isOf_35 (by decide) (fun h35 => ?_) (fun h35 => ?_)
    · skip
      refine j_iconst Z (v := 0) dX6_isOf_53 (by decide) ?_
      exact hR _ _ _ _ _ _ (⟨by first | (simp [zB, isOfB, h25, h35]; done) | (simp_all [zB, isOfB]; done), rfl⟩) (by decide) (by decide) dX6_isOf_54
    · skip
      refine j_iload Z dX6_isOf_38 0 rfl ?_
      refine j_if_lt Z 53 dX6_isOf_40 (by decide) (fun h40 => ?_) (fun h40 => ?_)
      · skip
        refine j_iconst Z (v := 0) dX6_isOf_53 (by decide) ?_
        exact hR _ _ _ _ _ _ (⟨by first | (simp [zB, isOfB, h25, h35, h40]; done) | (simp_all [zB, isOfB]; done), rfl⟩) (by decide) (by decide) dX6_isOf_54
      · skip
        refine j_iload Z dX6_isOf_43 0 rfl ?_
        refine j_iload_n Z dX6_isOf_45 3 rfl ?_
        refine j_icmp_eq Z 53 dX6_isOf_46 (by decide) (fun h46 => ?_) (fun h46 => ?_)
        · skip
          refine j_iconst Z (v := 0) dX6_isOf_53 (by decide) ?_
          exact hR _ _ _ _ _ _ (⟨by first | (simp [zB, isOfB, h25, h35, h40, h46]; done) | (simp_all [zB, isOfB]; done), rfl⟩) (by decide) (by decide) dX6_isOf_54
        · skip
          refine j_iconst Z (v := 1) dX6_isOf_49 (by decide) ?_
          refine j_goto Z 54 dX6_isOf_50 (by decide) ?_
          exact hR _ _ _ _ _ _ (⟨by first | (simp [zB, isOfB, h25, h35, h40, h46]; done) | (simp_all [zB, isOfB]; done), rfl⟩) (by decide) (by decide) dX6_isOf_54
theorem lkX6_falls_127 : Cond.fieldLink RX6 127 (TX6 11).1 (TX6 11).2.1 (TX6 11).2.2.1 ∈ wsX6_falls := by decide +kernel
theorem inX6_falls_X6 : ∀ w ∈ u_ws RX6 TX6 23, w ∈ wsX6_falls := by decide +kernel
theorem lkX6_falls_63 : Cond.fieldLink RX6 63 (TX6 22).1 (TX6 22).2.1 (TX6 22).2.2.1 ∈ wsX6_falls := by decide +kernel
theorem lkX6_falls_57 : Cond.fieldLink RX6 57 (TX6 20).1 (TX6 20).2.1 (TX6 20).2.2.1 ∈ wsX6_falls := by decide +kernel
theorem lkX6_falls_39 : Cond.fieldLink RX6 39 (TX6 13).1 (TX6 13).2.1 (TX6 13).2.2.1 ∈ wsX6_falls := by decide +kernel
set_option maxRecDepth 100000 in
set_option maxHeartbeats 4000000 in
theorem c_X6_falls (l : Launch) (g : gC) (μ : gM) (cnt : Nat) (hcnt : cnt ≤ 60) (mc : μ 31 4 = nI cnt) (lc : Nat) (hlc : lc ≤ 40) (ml : μ 31 11 = nI lc) (m1 : ∀ k, vp_in (μ 40 k) 60) (m2 : ∀ k, vp_in (μ 41 k) 60) (m12 : ∀ k, k < lc → ix (μ 40 k) < cnt ∧ ix (μ 41 k) < cnt) (hth : thOk cnt (μ 47)) (x : Int32) : Met l yX6_falls wsX6_falls { frames := 1, cells := 0, slots := 0, locals := 24 } (va_Pc [.ref (g.2.1 31), .int x] (gB g μ)) (va_Qi (fun (r : Int32) (μ' : gM) => r = zB (mFal (μ 47) (μ 40) (μ 41) (μ 42) (μ 49) lc x 4) ∧ μ' = μ) (gPB g) (gA g)) 0 0 (gA g) := by
  refine g_ofI (cc := cX6_falls) (nL := 7) (ret := (some .boolean)) (ty := .boolean) (by decide +kernel) rfl rfl (by rintro _ _ ⟨rfl, -⟩; exact zB_n) (Nat.le_of_ble_eq_true rfl) ?_
  intro p e s m args below meth c Q Z hR
  refine j_iconst Z (v := 0) dX6_falls_0 (by decide) ?_
  refine j_istore_n Z dX6_falls_1 (by decide) [(2, .int 0), (0, .ref (g.2.1 31)), (1, .int x)] rfl ?_
  refine j_iconst Z (v := 0) dX6_falls_2 (by decide) ?_
  refine j_istore_n Z dX6_falls_3 (by decide) [(3, .int 0), (2, .int 0), (0, .ref (g.2.1 31)), (1, .int x)] rfl ?_
  have lp4 : ∀ (nlp4 y : Nat) (d : Bool), d = mFal (μ 47) (μ 40) (μ 41) (μ 42) (μ 49) lc x y → 4 + 2 ≤ y + nlp4 → y ≤ 4 → J p l e { frames := 1, cells := 0, slots := 0, locals := 24 } s m args below meth c Q g 7 μ (0) (0) 4 [(0, .ref (g.2.1 31)), (1, .int x), (2, .int (zB d)), (3, .int (nI y))] [] := by
    intro nlp4
    induction nlp4 with
    | zero => intro y d ed hn hg; exact absurd hn (by omega)
    | succ nlp4 ihlp4 =>
      intro y d ed hn hg
      refine j_iload_n Z dX6_falls_4 3 rfl ?_
      refine j_iconst Z (v := 4) dX6_falls_5 (by decide) ?_
      refine j_icmp_ge Z 105 dX6_falls_6 (by decide) (fun h6 => ?_) (fun h6 => ?_)
      · skip
        have hic : y = 4 := by
          have hq := (nI_leI (a := 4) (b := y) (by omega) (by omega)).mp h6
          omega
        rw [hic] at ed
        refine j_iload_n Z dX6_falls_105 2 rfl ?_
        exact hR _ _ _ _ _ _ (⟨by rw [ed], rfl⟩) (by decide) (by decide) dX6_falls_106
      · skip
        have hlt : y < 4 := by
          rcases Nat.lt_or_ge y 4 with q9 | q9
          · exact q9
          · exact absurd (nI_le q9 (by omega)) h6
        refine j_iconst Z (v := 0) dX6_falls_9 (by decide) ?_
        refine j_istore Z dX6_falls_10 (by decide) [(4, .int 0), (0, .ref (g.2.1 31)), (1, .int x), (2, .int (zB d)), (3, .int (nI y))] rfl ?_
        refine j_iconst Z (v := 1) dX6_falls_12 (by decide) ?_
        refine j_istore Z dX6_falls_13 (by decide) [(5, .int 1), (4, .int 0), (0, .ref (g.2.1 31)), (1, .int x), (2, .int (zB d)), (3, .int (nI y))] rfl ?_
        refine j_iconst Z (v := 0) dX6_falls_15 (by decide) ?_
        refine j_istore Z dX6_falls_16 (by decide) [(6, .int 0), (5, .int 1), (4, .int 0), (0, .ref (g.2.1 31)), (1, .int x), (2, .int (zB d)), (3, .int (nI y))] rfl ?_
        have lq18 : ∀ (nlq18 i : Nat) (u : Bool) (w : Bool), u = mAny (μ 47) (μ 40) (μ 41) (μ 42) x (nI y) i → w = mAll (μ 47) (μ 40) (μ 41) (μ 42) (μ 49) x (nI y) i → lc + 2 ≤ i + nlq18 → i ≤ lc → J p l e { frames := 1, cells := 0, slots := 0, locals := 24 } s m args below meth c Q g 7 μ (0) (0) 18 [(0, .ref (g.2.1 31)), (1, .int x), (2, .int (zB d)), (3, .int (nI y)), (4, .int (zB u)), (5, .int (zB w)), (6, .int (nI i))] [] := by
          intro nlq18
          induction nlq18 with
          | zero => intro i u w eu ew hn hg; exact absurd hn (by omega)
          | succ nlq18 ihlq18 =>
            intro i u w eu ew hn hg
            refine j_iload Z dX6_falls_18 6 rfl ?_
            refine j_aload_n Z dX6_falls_20 0 rfl ?_
            refine j_get Z 31 (by decide) rfl rfl 11 (by decide) rfl inX6_falls_X6 lkX6_falls_127 dX6_falls_21 ?_
            refine j_eq ml ?_
            refine j_icmp_ge Z 79 dX6_falls_24 (by decide) (fun h24 => ?_) (fun h24 => ?_)
            · skip
              have hic : i = lc := by
                have hq := (nI_leI (a := lc) (b := i) (by omega) (by omega)).mp h24
                omega
              rw [hic] at eu ew
              have jp98 : J p l e { frames := 1, cells := 0, slots := 0, locals := 24 } s m args below meth c Q g 7 μ (0) (0) 98 [(0, .ref (g.2.1 31)), (1, .int x), (2, .int (zB d)), (3, .int (nI y)), (4, .int (zB u)), (5, .int (zB w)), (6, .int (nI i))] [.int (zB (d || (u && w)))] := by
                refine j_istore_n Z dX6_falls_98 (by decide) [(2, .int (zB (d || (u && w)))), (0, .ref (g.2.1 31)), (1, .int x), (3, .int (nI y)), (4, .int (zB u)), (5, .int (zB w)), (6, .int (nI i))] rfl ?_
                refine j_iinc Z dX6_falls_99 3 rfl (nI_1 y) (by decide) [(3, .int (nI (y + 1))), (2, .int (zB (d || (u && w)))), (0, .ref (g.2.1 31)), (1, .int x), (4, .int (zB u)), (5, .int (zB w)), (6, .int (nI i))] rfl ?_
                refine j_goto Z 4 dX6_falls_102 (by decide) ?_
                refine j_sub [2, 3, 1, 0] rfl ?_
                exact ihlp4 (y + 1) ((d || (u && w))) (by rw [ed, eu, ew]; rfl)  (by omega) (by omega)
              refine j_iload_n Z dX6_falls_79 2 rfl ?_
              refine j_if_ne Z 93 dX6_falls_80 (by decide) (fun h80 => ?_) (fun h80 => ?_)
              · skip
                have f80 := zB_1 h80
                refine j_iconst Z (v := 1) dX6_falls_93 (by decide) ?_
                refine j_goto Z 98 dX6_falls_94 (by decide) ?_
                refine j_sub [0, 1, 2, 3, 4, 5, 6] rfl ?_
                exact j_eq (by simp [zB, f80]) jp98
              · skip
                have f80 := zB_0.mp h80
                refine j_iload Z dX6_falls_83 4 rfl ?_
                refine j_if_eq Z 97 dX6_falls_85 (by decide) (fun h85 => ?_) (fun h85 => ?_)
                · skip
                  have f85 := zB_0.mp h85
                  refine j_iconst Z (v := 0) dX6_falls_97 (by decide) ?_
                  refine j_sub [0, 1, 2, 3, 4, 5, 6] rfl ?_
                  exact j_eq (by simp [zB, f80, f85]) jp98
                · skip
                  have f85 := zB_1 h85
                  refine j_iload Z dX6_falls_88 5 rfl ?_
                  refine j_if_eq Z 97 dX6_falls_90 (by decide) (fun h90 => ?_) (fun h90 => ?_)
                  · skip
                    have f90 := zB_0.mp h90
                    refine j_iconst Z (v := 0) dX6_falls_97 (by decide) ?_
                    refine j_sub [0, 1, 2, 3, 4, 5, 6] rfl ?_
                    exact j_eq (by simp [zB, f80, f85, f90]) jp98
                  · skip
                    have f90 := zB_1 h90
                    refine j_iconst Z (v := 1) dX6_falls_93 (by decide) ?_
                    refine j_goto Z 98 dX6_falls_94 (by decide) ?_
                    refine j_sub [0, 1, 2, 3, 4, 5, 6] rfl ?_
                    exact j_eq (by simp [zB, f80, f85, f90]) jp98
            · skip
              have hlt : i < lc := by
                rcases Nat.lt_or_ge i lc with q9 | q9
                · exact q9
                · exact absurd (nI_le q9 (by omega)) h24
              refine j_aload_n Z dX6_falls_27 0 rfl ?_
              refine j_iload Z dX6_falls_28 6 rfl ?_
              refine j_iload_n Z dX6_falls_30 1 rfl ?_
              refine j_iload_n Z dX6_falls_31 3 rfl ?_
              refine j_callVi Z (As := [.int (nI i), .int x, .int (nI y)]) (rest := []) (nA := 3) 31 (by decide) rfl rfl (c_X6_isOf l g μ i (by omega) m1 m2 x (nI y)) gX6_falls_X6_isOf rfl rfl rfl (by decide +kernel) (by decide) rfl dX6_falls_32 rfl (Nat.le_of_ble_eq_true rfl) (by decide) (fun r9 μ9 hp => ?_)
              have hq : r9 = zB (isOfB (μ 47) (μ 40) (μ 41) (μ 42) x (nI y) i) ∧ μ9 = μ := hp
              refine j_mem hq.2 ?_
              refine j_eq hq.1 ?_
              clear hq hp
              refine j_if_eq Z 73 dX6_falls_35 (by decide) (fun h35 => ?_) (fun h35 => ?_)
              · skip
                have f35 := zB_0.mp h35
                refine j_iinc Z dX6_falls_73 6 rfl (nI_1 i) (by decide) [(6, .int (nI (i + 1))), (0, .ref (g.2.1 31)), (1, .int x), (2, .int (zB d)), (3, .int (nI y)), (4, .int (zB u)), (5, .int (zB w))] rfl ?_
                refine j_goto Z 18 dX6_falls_76 (by decide) ?_
                refine j_sub [1, 2, 3, 4, 5, 6, 0] rfl ?_
                exact ihlq18 (i + 1) (u) (w) (by rw [eu]; simp [mAny, f35]) (by rw [ew]; simp [mAll, f35])  (by omega) (by omega)
              · skip
                have f35 := zB_1 h35
                have hvt : vp_in (μ 47 (ix (μ 41 i))) 60 := isOf_vp hth hcnt (m12 i (by omega)).2 f35
                refine j_iconst Z (v := 1) dX6_falls_38 (by decide) ?_
                refine j_istore Z dX6_falls_39 (by decide) [(4, .int 1), (0, .ref (g.2.1 31)), (1, .int x), (2, .int (zB d)), (3, .int (nI y)), (5, .int (zB w)), (6, .int (nI i))] rfl ?_
                have jp71 : J p l e { frames := 1, cells := 0, slots := 0, locals := 24 } s m args below meth c Q g 7 μ (0) (0) 71 [(4, .int 1), (0, .ref (g.2.1 31)), (1, .int x), (2, .int (zB d)), (3, .int (nI y)), (5, .int (zB w)), (6, .int (nI i))] [.int (zB (w && !decide (μ 49 (ix (μ 47 (ix (μ 41 i)))) = 0)))] := by
                  refine j_istore Z dX6_falls_71 (by decide) [(5, .int (zB (w && !decide (μ 49 (ix (μ 47 (ix (μ 41 i)))) = 0)))), (4, .int 1), (0, .ref (g.2.1 31)), (1, .int x), (2, .int (zB d)), (3, .int (nI y)), (6, .int (nI i))] rfl ?_
                  refine j_iinc Z dX6_falls_73 6 rfl (nI_1 i) (by decide) [(6, .int (nI (i + 1))), (5, .int (zB (w && !decide (μ 49 (ix (μ 47 (ix (μ 41 i)))) = 0)))), (4, .int 1), (0, .ref (g.2.1 31)), (1, .int x), (2, .int (zB d)), (3, .int (nI y))] rfl ?_
                  refine j_goto Z 18 dX6_falls_76 (by decide) ?_
                  refine j_sub [3, 4, 5, 6, 2, 1, 0] rfl ?_
                  exact ihlq18 (i + 1) (true) ((w && !decide (μ 49 (ix (μ 47 (ix (μ 41 i)))) = 0))) (by simp [mAny, f35]) (by rw [ew]; simp [mAll, f35])  (by omega) (by omega)
                refine j_iload Z dX6_falls_41 5 rfl ?_
                refine j_if_eq Z 70 dX6_falls_43 (by decide) (fun h43 => ?_) (fun h43 => ?_)
                · skip
                  have f43 := zB_0.mp h43
                  refine j_iconst Z (v := 0) dX6_falls_70 (by decide) ?_
                  refine j_sub [0, 1, 2, 3, 4, 5, 6] rfl ?_
                  exact j_eq (by simp [zB, f43]) jp71
                · skip
                  have f43 := zB_1 h43
                  refine j_aload_n Z dX6_falls_46 1 rfl ?_
                  refine j_get Z 31 (by decide) rfl rfl 22 (by decide) rfl inX6_falls_X6 lkX6_falls_63 dX6_falls_47 ?_
                  refine j_aload_n Z dX6_falls_50 1 rfl ?_
                  refine j_get Z 31 (by decide) rfl rfl 20 (by decide) rfl inX6_falls_X6 lkX6_falls_57 dX6_falls_51 ?_
                  refine j_aload_n Z dX6_falls_54 1 rfl ?_
                  refine j_get Z 31 (by decide) rfl rfl 13 (by decide) rfl inX6_falls_X6 lkX6_falls_39 dX6_falls_55 ?_
                  refine j_iload Z dX6_falls_58 6 rfl ?_
                  refine j_ild Z 41 (by decide) (fun _ => rfl) i rfl (by omega) (by decide) dX6_falls_60 ?_
                  refine j_ild Z 47 (by decide) (fun _ => rfl) (ix (μ 41 i)) (vp_ix (m2 i) (by decide)).1 (vp_ix (m2 i) (by decide)).2 (by decide) dX6_falls_61 ?_
                  refine j_zld Z 49 (by decide) (fun _ => rfl) (ix (μ 47 (ix (μ 41 i)))) (vp_ix hvt (by decide)).1 (vp_ix hvt (by decide)).2 (by decide) dX6_falls_62 ?_
                  refine j_if_eq Z 70 dX6_falls_63 (by decide) (fun h63 => ?_) (fun h63 => ?_)
                  · skip
                    refine j_iconst Z (v := 0) dX6_falls_70 (by decide) ?_
                    refine j_sub [0, 1, 2, 3, 4, 5, 6] rfl ?_
                    exact j_eq (by simp [zB, f43, h63]) jp71
                  · skip
                    refine j_iconst Z (v := 1) dX6_falls_66 (by decide) ?_
                    refine j_goto Z 71 dX6_falls_67 (by decide) ?_
                    refine j_sub [0, 1, 2, 3, 4, 5, 6] rfl ?_
                    exact j_eq (by simp [zB, f43, h63]) jp71
        refine j_sub [3, 4, 5, 6, 2, 1, 0] rfl ?_
        exact lq18 (lc + 2) 0 (false) (true) (rfl) (rfl)  (by omega) (by omega)
  refine j_sub [2, 3, 1, 0] rfl ?_
  exact lp4 (4 + 2) 0 (false) (rfl)  (by omega) (by omega)
theorem lkX6_spread_70 : Cond.fieldLink RX6 70 (TX6 4).1 (TX6 4).2.1 (TX6 4).2.2.1 ∈ wsX6_spread := by decide +kernel
theorem inX6_spread_X6 : ∀ w ∈ u_ws RX6 TX6 23, w ∈ wsX6_spread := by decide +kernel
theorem lkX6_spread_57 : Cond.fieldLink RX6 57 (TX6 20).1 (TX6 20).2.1 (TX6 20).2.2.1 ∈ wsX6_spread := by decide +kernel
theorem lkX6_spread_63 : Cond.fieldLink RX6 63 (TX6 22).1 (TX6 22).2.1 (TX6 22).2.2.1 ∈ wsX6_spread := by decide +kernel
set_option maxRecDepth 100000 in
set_option maxHeartbeats 4000000 in
theorem c_X6_spread (l : Launch) (g : gC) (μ : gM) (cnt : Nat) (hcnt : cnt ≤ 60) (mc : μ 31 4 = nI cnt) (lc : Nat) (hlc : lc ≤ 40) (ml : μ 31 11 = nI lc) (m1 : ∀ k, vp_in (μ 40 k) 60) (m2 : ∀ k, vp_in (μ 41 k) 60) (m12 : ∀ k, k < lc → ix (μ 40 k) < cnt ∧ ix (μ 41 k) < cnt) (hth : thOk cnt (μ 47)) (q : Nat) (hq : q < cnt) : Met l yX6_spread wsX6_spread { frames := 2, cells := 0, slots := 0, locals := 50 } (va_Pc [.ref (g.2.1 31), .int (nI q)] (gB g μ)) (va_Qi (fun (r : Int32) (μ' : gM) => r = nI (cF cnt (mFail μ lc cnt q)) ∧ μ' = gR μ 49 (mFail μ lc cnt q)) (gPB g) (gA g)) 0 0 (gA g) := by
  refine g_ofI (cc := cX6_spread) (nL := 5) (ret := (some .int)) (ty := .int) (by decide +kernel) rfl rfl (fun _ _ _ => rfl) (Nat.le_of_ble_eq_true rfl) ?_
  intro p e s m args below meth c Q Z hR
  refine j_iconst Z (v := 0) dX6_spread_0 (by decide) ?_
  refine j_istore_n Z dX6_spread_1 (by decide) [(2, .int 0), (0, .ref (g.2.1 31)), (1, .int (nI q))] rfl ?_
  have lp2 : ∀ (nlp2 i : Nat) (r : Nat → Int32), r = oneR i (nI q) (μ 49) → cnt + 2 ≤ i + nlp2 → i ≤ cnt → J p l e { frames := 2, cells := 0, slots := 0, locals := 50 } s m args below meth c Q g 5 (gR μ 49 r) (0) (0) 2 [(0, .ref (g.2.1 31)), (1, .int (nI q)), (2, .int (nI i))] [] := by
    intro nlp2
    induction nlp2 with
    | zero => intro i r er hn hg; exact absurd hn (by omega)
    | succ nlp2 ihlp2 =>
      intro i r er hn hg
      refine j_iload_n Z dX6_spread_2 2 rfl ?_
      refine j_aload_n Z dX6_spread_3 0 rfl ?_
      refine j_get Z 31 (by decide) rfl rfl 4 (by decide) rfl inX6_spread_X6 lkX6_spread_70 dX6_spread_4 ?_
      refine j_eq (y := μ 31 4) (by rw [gR_n (k := 49) (j := 31) (by omega)]) ?_
      refine j_eq mc ?_
      refine j_icmp_ge Z 32 dX6_spread_7 (by decide) (fun h7 => ?_) (fun h7 => ?_)
      · skip
        have hic : i = cnt := by
          have hq := (nI_leI (a := cnt) (b := i) (by omega) (by omega)).mp h7
          omega
        rw [hic] at er
        refine j_iconst Z (v := 1) dX6_spread_32 (by decide) ?_
        refine j_istore_n Z dX6_spread_33 (by decide) [(2, .int 1), (0, .ref (g.2.1 31)), (1, .int (nI q))] rfl ?_
        refine j_iconst Z (v := 0) dX6_spread_34 (by decide) ?_
        refine j_istore_n Z dX6_spread_35 (by decide) [(3, .int 0), (2, .int 1), (0, .ref (g.2.1 31)), (1, .int (nI q))] rfl ?_
        have lr36 : ∀ (nlr36 z9 : Nat) (f : Nat → Int32) (d : Nat) (b : Nat), d = cF cnt f → sRun (μ 47) (μ 40) (μ 41) (μ 42) lc cnt (60 - z9) f b = (mFail μ lc cnt q) → (b < cF cnt f → z9 < cF cnt f) → b ≤ 60 → 60 + 2 ≤ z9 + nlr36 → z9 ≤ 60 → J p l e { frames := 2, cells := 0, slots := 0, locals := 50 } s m args below meth c Q g 5 (gR μ 49 f) (0) (0) 36 [(0, .ref (g.2.1 31)), (1, .int (nI q)), (2, .int (nI d)), (3, .int (nI b))] [] := by
          intro nlr36
          induction nlr36 with
          | zero => intro z9 f d b hd hF hb hb6 hn hg; exact absurd hn (by omega)
          | succ nlr36 ihlr36 =>
            intro z9 f d b hd hF hb hb6 hn hg
            refine j_iload_n Z dX6_spread_36 2 rfl ?_
            refine j_iload_n Z dX6_spread_37 3 rfl ?_
            refine j_icmp_le Z 106 dX6_spread_38 (by decide) (fun h38 => ?_) (fun h38 => ?_)
            · skip
              have hd6 := cF_le cnt f
              have hbn : ¬ b < cF cnt f := by
                have q9 := (nI_leI (a := d) (b := b) (by omega) (by omega)).mp h38
                omega
              have hfin := sRun_end hF hbn
              refine j_iload_n Z dX6_spread_106 2 rfl ?_
              exact hR _ _ _ _ _ _ (⟨by rw [hd, hfin], by rw [hfin]⟩) (by decide) (by decide) dX6_spread_107
            · skip
              have hd6 := cF_le cnt f
              have hbl : b < cF cnt f := by
                rcases Nat.lt_or_ge b d with q9 | q9
                · omega
                · exact absurd (nI_le q9 (by omega)) h38
              have hzl := hb hbl
              refine j_iload_n Z dX6_spread_41 2 rfl ?_
              refine j_istore_n Z dX6_spread_42 (by decide) [(3, .int (nI d)), (0, .ref (g.2.1 31)), (1, .int (nI q)), (2, .int (nI d))] rfl ?_
              refine j_iconst Z (v := 0) dX6_spread_43 (by decide) ?_
              refine j_istore Z dX6_spread_44 (by decide) [(4, .int 0), (3, .int (nI d)), (0, .ref (g.2.1 31)), (1, .int (nI q)), (2, .int (nI d))] rfl ?_
              have ls46 : ∀ (nls46 k : Nat) (t : Nat → Int32) (u9 : Nat), t = spN (μ 47) (μ 40) (μ 41) (μ 42) lc f k → u9 = cF cnt (spN (μ 47) (μ 40) (μ 41) (μ 42) lc f k) → cnt + 2 ≤ k + nls46 → k ≤ cnt → J p l e { frames := 2, cells := 0, slots := 0, locals := 50 } s m args below meth c Q g 5 (gR μ 49 t) (0) (0) 46 [(0, .ref (g.2.1 31)), (1, .int (nI q)), (2, .int (nI u9)), (3, .int (nI d)), (4, .int (nI k))] [] := by
                intro nls46
                induction nls46 with
                | zero => intro k t u9 et eu9 hn hg; exact absurd hn (by omega)
                | succ nls46 ihls46 =>
                  intro k t u9 et eu9 hn hg
                  refine j_iload Z dX6_spread_46 4 rfl ?_
                  refine j_aload_n Z dX6_spread_48 0 rfl ?_
                  refine j_get Z 31 (by decide) rfl rfl 4 (by decide) rfl inX6_spread_X6 lkX6_spread_70 dX6_spread_49 ?_
                  refine j_eq (y := μ 31 4) (by rw [gR_n (k := 49) (j := 31) (by omega)]) ?_
                  refine j_eq mc ?_
                  refine j_icmp_ge Z 103 dX6_spread_52 (by decide) (fun h52 => ?_) (fun h52 => ?_)
                  · skip
                    have hic : k = cnt := by
                      have hq := (nI_leI (a := cnt) (b := k) (by omega) (by omega)).mp h52
                      omega
                    rw [hic] at et eu9
                    refine j_goto Z 36 dX6_spread_103 (by decide) ?_
                    refine j_sub [0, 1, 2, 3] rfl ?_
                    exact ihlr36 (z9 + 1) (t) (u9) (d)  (by rw [et, eu9]) (by rw [et, hd, ← hF]; exact (sRun_t hbl (by omega)).symm) (fun h9 => by omega) (by omega) (by omega) (by omega)
                  · skip
                    have hlt : k < cnt := by
                      rcases Nat.lt_or_ge k cnt with q9 | q9
                      · exact q9
                      · exact absurd (nI_le q9 (by omega)) h52
                    refine j_aload_n Z dX6_spread_55 0 rfl ?_
                    refine j_get Z 31 (by decide) rfl rfl 20 (by decide) rfl inX6_spread_X6 lkX6_spread_57 dX6_spread_56 ?_
                    refine j_iload Z dX6_spread_59 4 rfl ?_
                    refine j_ild Z 47 (by decide) (fun _ => rfl) k rfl (by omega) (by decide) dX6_spread_61 ?_
                    refine j_eq (y := μ 47 k) (by rw [gR_n (k := 49) (j := 47) (by omega)]) ?_
                    refine j_iload Z dX6_spread_62 4 rfl ?_
                    refine j_icmp_ne Z 97 dX6_spread_64 (by decide) (fun h64 => ?_) (fun h64 => ?_)
                    · skip
                      refine j_iinc Z dX6_spread_97 4 rfl (nI_1 k) (by decide) [(4, .int (nI (k + 1))), (0, .ref (g.2.1 31)), (1, .int (nI q)), (2, .int (nI u9)), (3, .int (nI d))] rfl ?_
                      refine j_goto Z 46 dX6_spread_100 (by decide) ?_
                      refine j_sub [1, 2, 3, 4, 0] rfl ?_
                      exact ihls46 (k + 1) (t) (u9) (spN_sf et (by simp [spC, h64])) (spN_cf et (by simp [spC, h64]) eu9)  (by omega) (by omega)
                    · skip
                      refine j_aload_n Z dX6_spread_67 0 rfl ?_
                      refine j_get Z 31 (by decide) rfl rfl 22 (by decide) rfl inX6_spread_X6 lkX6_spread_63 dX6_spread_68 ?_
                      refine j_iload Z dX6_spread_71 4 rfl ?_
                      refine j_zld Z 49 (by decide) (fun _ => rfl) k rfl (by omega) (by decide) dX6_spread_73 ?_
                      refine j_eq (y := t k) (by rw [gR_s]) ?_
                      refine j_if_ne Z 97 dX6_spread_74 (by decide) (fun h74 => ?_) (fun h74 => ?_)
                      · skip
                        refine j_iinc Z dX6_spread_97 4 rfl (nI_1 k) (by decide) [(4, .int (nI (k + 1))), (0, .ref (g.2.1 31)), (1, .int (nI q)), (2, .int (nI u9)), (3, .int (nI d))] rfl ?_
                        refine j_goto Z 46 dX6_spread_100 (by decide) ?_
                        refine j_sub [1, 2, 3, 4, 0] rfl ?_
                        exact ihls46 (k + 1) (t) (u9) (spN_sf et (by simp [spC, h74])) (spN_cf et (by simp [spC, h74]) eu9)  (by omega) (by omega)
                      · skip
                        refine j_aload_n Z dX6_spread_77 0 rfl ?_
                        refine j_iload Z dX6_spread_78 4 rfl ?_
                        refine j_callVi Z (As := [.int (nI k)]) (rest := []) (nA := 1) 31 (by decide) rfl rfl (c_X6_falls l g (gR μ 49 t) cnt hcnt mc lc hlc ml m1 m2 m12 hth (nI k)) gX6_spread_X6_falls rfl rfl rfl (by decide +kernel) (by decide) rfl dX6_spread_80 rfl (Nat.le_of_ble_eq_true rfl) (by decide) (fun r9 μ9 hp => ?_)
                        have hq : r9 = zB (mFal (μ 47) (μ 40) (μ 41) (μ 42) t lc (nI k) 4) ∧ μ9 = (gR μ 49 t) := hp
                        refine j_mem hq.2 ?_
                        refine j_eq hq.1 ?_
                        clear hq hp
                        refine j_if_eq Z 97 dX6_spread_83 (by decide) (fun h83 => ?_) (fun h83 => ?_)
                        · skip
                          have f83 := zB_0.mp h83
                          refine j_iinc Z dX6_spread_97 4 rfl (nI_1 k) (by decide) [(4, .int (nI (k + 1))), (0, .ref (g.2.1 31)), (1, .int (nI q)), (2, .int (nI u9)), (3, .int (nI d))] rfl ?_
                          refine j_goto Z 46 dX6_spread_100 (by decide) ?_
                          refine j_sub [1, 2, 3, 4, 0] rfl ?_
                          exact ihls46 (k + 1) (t) (u9) (spN_sf et (by simp [spC, f83])) (spN_cf et (by simp [spC, f83]) eu9)  (by omega) (by omega)
                        · skip
                          have f83 := zB_1 h83
                          refine j_aload_n Z dX6_spread_86 0 rfl ?_
                          refine j_get Z 31 (by decide) rfl rfl 22 (by decide) rfl inX6_spread_X6 lkX6_spread_63 dX6_spread_87 ?_
                          refine j_iload Z dX6_spread_90 4 rfl ?_
                          refine j_iconst Z (v := 1) dX6_spread_92 (by decide) ?_
                          refine j_zst Z 49 (by decide) (fun _ => rfl) k rfl (by omega) (by decide) (by decide) dX6_spread_93 ?_
                          refine j_mem (μ' := (gR μ 49 (upd t k 1))) gU_R ?_
                          refine j_iinc Z dX6_spread_94 2 rfl (nI_1 u9) (by decide) [(2, .int (nI (u9 + 1))), (0, .ref (g.2.1 31)), (1, .int (nI q)), (3, .int (nI d)), (4, .int (nI k))] rfl ?_
                          refine j_iinc Z dX6_spread_97 4 rfl (nI_1 k) (by decide) [(4, .int (nI (k + 1))), (2, .int (nI (u9 + 1))), (0, .ref (g.2.1 31)), (1, .int (nI q)), (3, .int (nI d))] rfl ?_
                          refine j_goto Z 46 dX6_spread_100 (by decide) ?_
                          refine j_sub [2, 3, 1, 4, 0] rfl ?_
                          exact ihls46 (k + 1) (upd t k 1) (u9 + 1) (spN_st et (by simp [spC, h64, h74, f83])) (spN_ct et (by simp [spC, h64, h74, f83]) eu9 hlt)  (by omega) (by omega)
              refine j_sub [2, 3, 4, 1, 0] rfl ?_
              exact ls46 (cnt + 2) 0 (f) (d) (rfl) (by rw [hd]; rfl)  (by omega) (by omega)
        refine j_sub [2, 3, 1, 0] rfl ?_
        exact lr36 (60 + 2) 0 (r) (1) (0)  (by rw [er]; exact (cF_one hcnt hq).symm) (by rw [er]; rfl) (fun h9 => h9) (by decide) (by omega) (by omega)
      · skip
        have hlt : i < cnt := by
          rcases Nat.lt_or_ge i cnt with q9 | q9
          · exact q9
          · exact absurd (nI_le q9 (by omega)) h7
        refine j_aload_n Z dX6_spread_10 0 rfl ?_
        refine j_get Z 31 (by decide) rfl rfl 22 (by decide) rfl inX6_spread_X6 lkX6_spread_63 dX6_spread_11 ?_
        refine j_iload_n Z dX6_spread_14 2 rfl ?_
        have jp25 : J p l e { frames := 2, cells := 0, slots := 0, locals := 50 } s m args below meth c Q g 5 (gR μ 49 r) (0) (0) 25 [(0, .ref (g.2.1 31)), (1, .int (nI q)), (2, .int (nI i))] [.int (if nI i = nI q then 1 else 0), .int (nI i), .ref (g.2.1 49)] := by
          refine j_zst Z 49 (by decide) (fun _ => rfl) i rfl (by omega) (by decide) ite_nar dX6_spread_25 ?_
          refine j_mem (μ' := (gR μ 49 (upd r i (if nI i = nI q then 1 else 0)))) gU_R ?_
          refine j_iinc Z dX6_spread_26 2 rfl (nI_1 i) (by decide) [(2, .int (nI (i + 1))), (0, .ref (g.2.1 31)), (1, .int (nI q))] rfl ?_
          refine j_goto Z 2 dX6_spread_29 (by decide) ?_
          refine j_sub [1, 2, 0] rfl ?_
          exact ihlp2 (i + 1) (upd r i (if nI i = nI q then 1 else 0)) (by rw [er]; exact oneR_s rfl)  (by omega) (by omega)
        refine j_iload_n Z dX6_spread_15 2 rfl ?_
        refine j_iload_n Z dX6_spread_16 1 rfl ?_
        refine j_icmp_ne Z 24 dX6_spread_17 (by decide) (fun h17 => ?_) (fun h17 => ?_)
        · skip
          refine j_iconst Z (v := 0) dX6_spread_24 (by decide) ?_
          refine j_sub [0, 1, 2] rfl ?_
          exact j_eq (by first | exact (if_pos h17).symm | exact (if_neg h17).symm) jp25
        · skip
          refine j_iconst Z (v := 1) dX6_spread_20 (by decide) ?_
          refine j_goto Z 25 dX6_spread_21 (by decide) ?_
          refine j_sub [0, 1, 2] rfl ?_
          exact j_eq (by first | exact (if_pos h17).symm | exact (if_neg h17).symm) jp25
  refine j_sub [1, 2, 0] rfl ?_
  refine j_mem (gR_id (k := 49) (r := μ 49) rfl) ?_
  exact lp2 (cnt + 2) 0 (μ 49) (oneR_0)  (by omega) (by omega)
