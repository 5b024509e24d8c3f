theorem lkX6_strike_28 : Cond.fieldLink RX6 28 (TX6 9).1 (TX6 9).2.1 (TX6 9).2.2.1 ∈ wsX6_strike := by decide +kernel
theorem inX6_strike_X6 : ∀ w ∈ u_ws RX6 TX6 23, w ∈ wsX6_strike := by decide +kernel
set_option maxRecDepth 100000 in
set_option maxHeartbeats 4000000 in
theorem c_X6_strike (l : Launch) (g : gC) (μ : gM) (cnt lc wc : Nat) (pl : Nat → Nat) (hV : mV μ cnt lc wc pl) (x : Int32) (v : Int32) (ev : v = k1 (fndB cnt x)) : Met l yX6_strike wsX6_strike { frames := 2, cells := 0, slots := 0, locals := 43 } (va_Pc [.ref (g.2.1 31), .int x] (gB g μ)) (va_Qi (fun (r : Int32) (μ' : gM) => r = (if v = 0 then zB (decide (μ 38 (ix x) = 0)) else 0) ∧ μ' = (if v = 0 then gU (gU μ 31 0 v) 38 (ix x) 1 else gU μ 31 0 v)) (gPB g) (gA g)) 0 0 (gA g) := by
  refine g_ofI (cc := cX6_strike) (nL := 3) (ret := (some .boolean)) (ty := .boolean) (by decide +kernel) rfl rfl (by rintro _ _ ⟨rfl, -⟩; exact zB_nv) (Nat.le_of_ble_eq_true rfl) ?_
  intro p e s m args below meth c Q Z hR
  obtain ⟨hcnt, mc, hlc, ml, hwc, mw, ms, m1, m2, m12, mm, ma, mt, mp, md⟩ := hV
  have jp14 : J p l e { frames := 2, cells := 0, slots := 0, locals := 43 } s m args below meth c Q g 3 μ (0) (0) 14 [(0, .ref (g.2.1 31)), (1, .int x)] [.int v, .ref (g.2.1 31)] := by
    refine j_callVi Z (As := [.int v]) (rest := []) (nA := 1) 31 (by decide) rfl rfl (c_X6_refused l g μ v) gX6_strike_X6_refused rfl rfl rfl (by decide +kernel) (by decide) rfl dX6_strike_14 rfl (Nat.le_of_ble_eq_true rfl) (by decide) (fun r9 μ9 hp => ?_)
    have hq : r9 = zB (decide (¬ v = 0)) ∧ μ9 = (gU μ 31 0 v) := hp
    refine j_mem hq.2 ?_
    refine j_eq hq.1 ?_
    clear hq hp
    refine j_if_eq Z 22 dX6_strike_17 (by decide) (fun h17 => ?_) (fun h17 => ?_)
    · skip
      have f17 := zB_0.mp h17
      have hv := dec_ne f17
      have hk := k1_z (ev.symm.trans hv)
      obtain ⟨ex, lx⟩ := fnd_ix hk hcnt
      refine j_aload_n Z dX6_strike_22 0 rfl ?_
      refine j_get Z 31 (by decide) rfl rfl 9 (by decide) rfl inX6_strike_X6 lkX6_strike_28 dX6_strike_23 ?_
      refine j_iload_n Z dX6_strike_26 1 rfl ?_
      refine j_eq ex ?_
      refine j_zld Z 38 (by decide) (fun _ => rfl) (ix x) rfl (by omega) (by decide) dX6_strike_27 ?_
      refine j_eq (y := μ 38 (ix x)) (by rw [gU_n (k := 31) (j := 38) (by omega)]) ?_
      refine j_if_ne Z 35 dX6_strike_28 (by decide) (fun h28 => ?_) (fun h28 => ?_)
      · skip
        refine j_iconst Z (v := 0) dX6_strike_35 (by decide) ?_
        refine j_istore_n Z dX6_strike_36 (by decide) [(2, .int 0), (0, .ref (g.2.1 31)), (1, .int x)] rfl ?_
        refine j_aload_n Z dX6_strike_37 1 rfl ?_
        refine j_get Z 31 (by decide) rfl rfl 9 (by decide) rfl inX6_strike_X6 lkX6_strike_28 dX6_strike_38 ?_
        refine j_iload_n Z dX6_strike_41 2 rfl ?_
        refine j_eq ex ?_
        refine j_iconst Z (v := 1) dX6_strike_42 (by decide) ?_
        refine j_zst Z 38 (by decide) (fun _ => rfl) (ix x) rfl (by omega) (by decide) (by decide) dX6_strike_43 ?_
        refine j_iload_n Z dX6_strike_44 0 rfl ?_
        exact hR _ _ _ _ _ _ (⟨by rw [if_pos hv]; simp [zB, h28], by rw [if_pos hv]⟩) (by decide) (by decide) dX6_strike_45
      · skip
        refine j_iconst Z (v := 1) dX6_strike_31 (by decide) ?_
        refine j_goto Z 36 dX6_strike_32 (by decide) ?_
        refine j_istore_n Z dX6_strike_36 (by decide) [(2, .int 1), (0, .ref (g.2.1 31)), (1, .int x)] rfl ?_
        refine j_aload_n Z dX6_strike_37 1 rfl ?_
        refine j_get Z 31 (by decide) rfl rfl 9 (by decide) rfl inX6_strike_X6 lkX6_strike_28 dX6_strike_38 ?_
        refine j_iload_n Z dX6_strike_41 2 rfl ?_
        refine j_eq ex ?_
        refine j_iconst Z (v := 1) dX6_strike_42 (by decide) ?_
        refine j_zst Z 38 (by decide) (fun _ => rfl) (ix x) rfl (by omega) (by decide) (by decide) dX6_strike_43 ?_
        refine j_iload_n Z dX6_strike_44 0 rfl ?_
        exact hR _ _ _ _ _ _ (⟨by rw [if_pos hv]; simp [zB, h28], by rw [if_pos hv]⟩) (by decide) (by decide) dX6_strike_45
    · skip
      have f17 := zB_1 h17
      have hv := dec_ne1 f17
      refine j_iconst Z (v := 0) dX6_strike_20 (by decide) ?_
      exact hR _ _ _ _ _ _ (⟨(if_neg hv).symm, (if_neg hv).symm⟩) (by decide) (by decide) dX6_strike_21
  refine j_aload_n Z dX6_strike_0 0 rfl ?_
  refine j_aload_n Z dX6_strike_1 0 rfl ?_
  refine j_iload_n Z dX6_strike_2 1 rfl ?_
  refine j_callVi Z (As := [.int x]) (rest := [.ref (g.2.1 31)]) (nA := 1) 31 (by decide) rfl rfl (c_X6_isFind l g μ cnt hcnt mc x) gX6_strike_X6_isFind rfl rfl rfl (by decide +kernel) (by decide) rfl dX6_strike_3 rfl (Nat.le_of_ble_eq_true rfl) (by decide) (fun r9 μ9 hp => ?_)
  have hq : r9 = zB (fndB cnt x) ∧ μ9 = μ := hp
  refine j_mem hq.2 ?_
  refine j_eq hq.1 ?_
  clear hq hp
  refine j_if_eq Z 13 dX6_strike_6 (by decide) (fun h6 => ?_) (fun h6 => ?_)
  · skip
    have f6 := zB_0.mp h6
    refine j_iconst Z (v := 1) dX6_strike_13 (by decide) ?_
    refine j_sub [0, 1] rfl ?_
    exact j_eq (by rw [ev]; first | (simp [k1, f6]; done) | (clear jp14; simp_all [k1])) jp14
  · skip
    have f6 := zB_1 h6
    refine j_iconst Z (v := 0) dX6_strike_9 (by decide) ?_
    refine j_goto Z 14 dX6_strike_10 (by decide) ?_
    refine j_sub [0, 1] rfl ?_
    exact j_eq (by rw [ev]; first | (simp [k1, f6]; done) | (clear jp14; simp_all [k1])) jp14
theorem lkX6_tell_32 : Cond.fieldLink RX6 32 (TX6 10).1 (TX6 10).2.1 (TX6 10).2.2.1 ∈ wsX6_tell := by decide +kernel
theorem inX6_tell_X6 : ∀ w ∈ u_ws RX6 TX6 23, w ∈ wsX6_tell := by decide +kernel
set_option maxRecDepth 100000 in
set_option maxHeartbeats 4000000 in
theorem c_X6_tell (l : Launch) (g : gC) (μ : gM) (cnt lc wc : Nat) (pl : Nat → Nat) (hV : mV μ cnt lc wc pl) (x y z : Int32) (v : Int32) (ev : v = k2 (fndB cnt x && fndB cnt y) (!decide (x = y) && inB z 0 2)) : Met l yX6_tell wsX6_tell { frames := 2, cells := 0, slots := 0, locals := 43 } (va_Pc [.ref (g.2.1 31), .int x, .int y, .int z] (gB g μ)) (va_Qi (fun (r : Int32) (μ' : gM) => r = (if v = 0 then μ 39 ((60 * (ix x)) + (ix y)) else 0) ∧ μ' = (if v = 0 then gU (gU (gU μ 31 0 v) 39 ((60 * (ix x)) + (ix y)) z) 39 ((60 * (ix y)) + (ix x)) z else gU μ 31 0 v)) (gPB g) (gA g)) 0 0 (gA g) := by
  refine g_ofI (cc := cX6_tell) (nL := 6) (ret := (some .int)) (ty := .int) (by decide +kernel) rfl rfl (fun _ _ _ => rfl) (Nat.le_of_ble_eq_true rfl) ?_
  intro p e s m args below meth c Q Z hR
  obtain ⟨hcnt, mc, hlc, ml, hwc, mw, ms, m1, m2, m12, mm, ma, mt, mp, md⟩ := hV
  have jp21 : J p l e { frames := 2, cells := 0, slots := 0, locals := 43 } s m args below meth c Q g 6 μ (0) (0) 21 [(0, .ref (g.2.1 31)), (1, .int x), (2, .int y), (3, .int z)] [.int (zB (fndB cnt x && fndB cnt y))] := by
    refine j_istore Z dX6_tell_21 (by decide) [(4, .int (zB (fndB cnt x && fndB cnt y))), (0, .ref (g.2.1 31)), (1, .int x), (2, .int y), (3, .int z)] rfl ?_
    have jp52 : J p l e { frames := 2, cells := 0, slots := 0, locals := 43 } s m args below meth c Q g 6 μ (0) (0) 52 [(4, .int (zB (fndB cnt x && fndB cnt y))), (0, .ref (g.2.1 31)), (1, .int x), (2, .int y), (3, .int z)] [.int v, .ref (g.2.1 31)] := by
      refine j_callVi Z (As := [.int v]) (rest := []) (nA := 1) 31 (by decide) rfl rfl (c_X6_refused l g μ v) gX6_tell_X6_refused rfl rfl rfl (by decide +kernel) (by decide) rfl dX6_tell_52 rfl (Nat.le_of_ble_eq_true rfl) (by decide) (fun r9 μ9 hp => ?_)
      have hq : r9 = zB (decide (¬ v = 0)) ∧ μ9 = (gU μ 31 0 v) := hp
      refine j_mem hq.2 ?_
      refine j_eq hq.1 ?_
      clear hq hp
      refine j_if_eq Z 60 dX6_tell_55 (by decide) (fun h55 => ?_) (fun h55 => ?_)
      · skip
        have f55 := zB_0.mp h55
        have hv := dec_ne f55
        have hk := k2_z (ev.symm.trans hv)
        simp only [Bool.and_eq_true] at hk
        obtain ⟨ex, lx⟩ := fnd_ix hk.1.1 hcnt
        obtain ⟨ey, ly⟩ := fnd_ix hk.1.2 hcnt
        refine j_aload_n Z dX6_tell_60 1 rfl ?_
        refine j_get Z 31 (by decide) rfl rfl 10 (by decide) rfl inX6_tell_X6 lkX6_tell_32 dX6_tell_61 ?_
        refine j_bipush Z (v := 60) dX6_tell_64 (by decide) ?_
        refine j_iload_n Z dX6_tell_66 2 rfl ?_
        refine j_eq ex ?_
        refine j_imul Z dX6_tell_67 ?_
        refine j_eq (pk_mul 60 (ix x)) ?_
        refine j_iload_n Z dX6_tell_68 3 rfl ?_
        refine j_eq ey ?_
        refine j_iadd Z dX6_tell_69 ?_
        refine j_eq (nI_add (60 * (ix x)) (ix y)) ?_
        refine j_bld Z 39 (by decide) (fun _ => rfl) ((60 * (ix x)) + (ix y)) rfl (by omega) (by decide) dX6_tell_70 ?_
        refine j_eq (y := μ 39 ((60 * (ix x)) + (ix y))) (by rw [gU_n (k := 31) (j := 39) (by omega)]) ?_
        refine j_istore Z dX6_tell_71 (by decide) [(5, .int (μ 39 ((60 * (ix x)) + (ix y)))), (4, .int (zB (fndB cnt x && fndB cnt y))), (0, .ref (g.2.1 31)), (1, .int x), (2, .int y), (3, .int z)] rfl ?_
        refine j_aload_n Z dX6_tell_73 2 rfl ?_
        refine j_get Z 31 (by decide) rfl rfl 10 (by decide) rfl inX6_tell_X6 lkX6_tell_32 dX6_tell_74 ?_
        refine j_bipush Z (v := 60) dX6_tell_77 (by decide) ?_
        refine j_iload_n Z dX6_tell_79 3 rfl ?_
        refine j_eq ex ?_
        refine j_imul Z dX6_tell_80 ?_
        refine j_eq (pk_mul 60 (ix x)) ?_
        refine j_iload_n Z dX6_tell_81 4 rfl ?_
        refine j_eq ey ?_
        refine j_iadd Z dX6_tell_82 ?_
        refine j_eq (nI_add (60 * (ix x)) (ix y)) ?_
        refine j_iload_n Z dX6_tell_83 5 rfl ?_
        refine j_i2b Z dX6_tell_84 (v := z) (tell_i2b hk.2.2) ?_
        refine j_bst Z 39 (by decide) (fun _ => rfl) ((60 * (ix x)) + (ix y)) rfl (by omega) (by decide) (tell_nar hk.2.2) dX6_tell_85 ?_
        refine j_aload_n Z dX6_tell_86 2 rfl ?_
        refine j_get Z 31 (by decide) rfl rfl 10 (by decide) rfl inX6_tell_X6 lkX6_tell_32 dX6_tell_87 ?_
        refine j_bipush Z (v := 60) dX6_tell_90 (by decide) ?_
        refine j_iload_n Z dX6_tell_92 4 rfl ?_
        refine j_eq ey ?_
        refine j_imul Z dX6_tell_93 ?_
        refine j_eq (pk_mul 60 (ix y)) ?_
        refine j_iload_n Z dX6_tell_94 3 rfl ?_
        refine j_eq ex ?_
        refine j_iadd Z dX6_tell_95 ?_
        refine j_eq (nI_add (60 * (ix y)) (ix x)) ?_
        refine j_iload_n Z dX6_tell_96 5 rfl ?_
        refine j_i2b Z dX6_tell_97 (v := z) (tell_i2b hk.2.2) ?_
        refine j_bst Z 39 (by decide) (fun _ => rfl) ((60 * (ix y)) + (ix x)) rfl (by omega) (by decide) (tell_nar hk.2.2) dX6_tell_98 ?_
        refine j_iload Z dX6_tell_99 0 rfl ?_
        exact hR _ _ _ _ _ _ (⟨by rw [if_pos hv], by rw [if_pos hv]⟩) (by decide) (by decide) dX6_tell_101
      · skip
        have f55 := zB_1 h55
        have hv := dec_ne1 f55
        refine j_iconst Z (v := 0) dX6_tell_58 (by decide) ?_
        exact hR _ _ _ _ _ _ (⟨(if_neg hv).symm, (if_neg hv).symm⟩) (by decide) (by decide) dX6_tell_59
    refine j_aload_n Z dX6_tell_23 1 rfl ?_
    refine j_iload Z dX6_tell_24 0 rfl ?_
    refine j_if_ne Z 33 dX6_tell_26 (by decide) (fun h26 => ?_) (fun h26 => ?_)
    · skip
      have f26 := zB_1 h26
      refine j_iload_n Z dX6_tell_33 2 rfl ?_
      refine j_iload_n Z dX6_tell_34 3 rfl ?_
      refine j_icmp_eq Z 51 dX6_tell_35 (by decide) (fun h35 => ?_) (fun h35 => ?_)
      · skip
        refine j_iconst Z (v := 2) dX6_tell_51 (by decide) ?_
        refine j_sub [0, 1, 2, 3, 4] rfl ?_
        exact j_eq (by rw [ev]; first | (simp [k2, f26, h35]; done) | (clear jp52; simp_all [k2])) jp52
      · skip
        refine j_iload_n Z dX6_tell_38 4 rfl ?_
        refine j_iconst Z (v := 0) dX6_tell_39 (by decide) ?_
        refine j_iconst Z (v := 2) dX6_tell_40 (by decide) ?_
        refine j_callSi Z (As := [.int z, .int 0, .int 2]) (rest := [.ref (g.2.1 31)]) (nA := 3) (c_X6_in l g μ z 0 2) gX6_tell_X6_in rfl rfl rfl (by decide +kernel) (by decide) rfl dX6_tell_41 rfl (Nat.le_of_ble_eq_true rfl) (by decide) (fun r9 μ9 hp => ?_)
        have hq : r9 = zB (inB z 0 2) ∧ μ9 = μ := hp
        refine j_mem hq.2 ?_
        refine j_eq hq.1 ?_
        clear hq hp
        refine j_if_eq Z 51 dX6_tell_44 (by decide) (fun h44 => ?_) (fun h44 => ?_)
        · skip
          have f44 := zB_0.mp h44
          refine j_iconst Z (v := 2) dX6_tell_51 (by decide) ?_
          refine j_sub [0, 1, 2, 3, 4] rfl ?_
          exact j_eq (by rw [ev]; first | (simp [k2, f26, f44, h35]; done) | (clear jp52; simp_all [k2])) jp52
        · skip
          have f44 := zB_1 h44
          refine j_iconst Z (v := 0) dX6_tell_47 (by decide) ?_
          refine j_goto Z 52 dX6_tell_48 (by decide) ?_
          refine j_sub [0, 1, 2, 3, 4] rfl ?_
          exact j_eq (by rw [ev]; first | (simp [k2, f26, f44, h35]; done) | (clear jp52; simp_all [k2])) jp52
    · skip
      have f26 := zB_0.mp h26
      refine j_iconst Z (v := 1) dX6_tell_29 (by decide) ?_
      refine j_goto Z 52 dX6_tell_30 (by decide) ?_
      refine j_sub [0, 1, 2, 3, 4] rfl ?_
      exact j_eq (by rw [ev]; first | (simp [k2, f26]; done) | (clear jp52; simp_all [k2])) jp52
  refine j_aload_n Z dX6_tell_0 0 rfl ?_
  refine j_iload_n Z dX6_tell_1 1 rfl ?_
  refine j_callVi Z (As := [.int x]) (rest := []) (nA := 1) 31 (by decide) rfl rfl (c_X6_isFind l g μ cnt hcnt mc x) gX6_tell_X6_isFind rfl rfl rfl (by decide +kernel) (by decide) rfl dX6_tell_2 rfl (Nat.le_of_ble_eq_true rfl) (by decide) (fun r9 μ9 hp => ?_)
  have hq : r9 = zB (fndB cnt x) ∧ μ9 = μ := hp
  refine j_mem hq.2 ?_
  refine j_eq hq.1 ?_
  clear hq hp
  refine j_if_eq Z 20 dX6_tell_5 (by decide) (fun h5 => ?_) (fun h5 => ?_)
  · skip
    have f5 := zB_0.mp h5
    refine j_iconst Z (v := 0) dX6_tell_20 (by decide) ?_
    refine j_sub [0, 1, 2, 3] rfl ?_
    exact j_eq (by simp [zB, f5]) jp21
  · skip
    have f5 := zB_1 h5
    refine j_aload_n Z dX6_tell_8 0 rfl ?_
    refine j_iload_n Z dX6_tell_9 2 rfl ?_
    refine j_callVi Z (As := [.int y]) (rest := []) (nA := 1) 31 (by decide) rfl rfl (c_X6_isFind l g μ cnt hcnt mc y) gX6_tell_X6_isFind rfl rfl rfl (by decide +kernel) (by decide) rfl dX6_tell_10 rfl (Nat.le_of_ble_eq_true rfl) (by decide) (fun r9 μ9 hp => ?_)
    have hq : r9 = zB (fndB cnt y) ∧ μ9 = μ := hp
    refine j_mem hq.2 ?_
    refine j_eq hq.1 ?_
    clear hq hp
    refine j_if_eq Z 20 dX6_tell_13 (by decide) (fun h13 => ?_) (fun h13 => ?_)
    · skip
      have f13 := zB_0.mp h13
      refine j_iconst Z (v := 0) dX6_tell_20 (by decide) ?_
      refine j_sub [0, 1, 2, 3] rfl ?_
      exact j_eq (by simp [zB, f5, f13]) jp21
    · skip
      have f13 := zB_1 h13
      refine j_iconst Z (v := 1) dX6_tell_16 (by decide) ?_
      refine j_goto Z 21 dX6_tell_17 (by decide) ?_
      refine j_sub [0, 1, 2, 3] rfl ?_
      exact j_eq (by simp [zB, f5, f13]) jp21
theorem lkX6_countsOn_28 : Cond.fieldLink RX6 28 (TX6 9).1 (TX6 9).2.1 (TX6 9).2.2.1 ∈ wsX6_countsOn := by decide +kernel
theorem inX6_countsOn_X6 : ∀ w ∈ u_ws RX6 TX6 23, w ∈ wsX6_countsOn := by decide +kernel
theorem lkX6_countsOn_19 : Cond.fieldLink RX6 19 (TX6 6).1 (TX6 6).2.1 (TX6 6).2.2.1 ∈ wsX6_countsOn := by decide +kernel
theorem lkX6_countsOn_7 : Cond.fieldLink RX6 7 (TX6 2).1 (TX6 2).2.1 (TX6 2).2.2.1 ∈ wsX6_countsOn := by decide +kernel
theorem lkX6_countsOn_16 : Cond.fieldLink RX6 16 (TX6 5).1 (TX6 5).2.1 (TX6 5).2.2.1 ∈ wsX6_countsOn := by decide +kernel
set_option maxRecDepth 100000 in
set_option maxHeartbeats 4000000 in
theorem c_X6_countsOn (l : Launch) (g : gC) (μ : gM) (i : Nat) (x : Int32) (hi : i < 60) (ms : ∀ k, vp_in (μ 34 k) 4) : Met l yX6_countsOn wsX6_countsOn { frames := 0, cells := 0, slots := 0, locals := 0 } (va_Pc [.ref (g.2.1 31), .int (nI i), .int x] (gB g μ)) (va_Qi (fun (r : Int32) (μ' : gM) => r = zB (mStand μ i x) ∧ μ' = μ) (gPB g) (gA g)) 0 0 (gA g) := by
  refine g_ofI (cc := cX6_countsOn) (nL := 3) (ret := (some .boolean)) (ty := .boolean) (by decide +kernel) rfl rfl (by rintro _ _ ⟨rfl, -⟩; exact zB_n) (Nat.le_of_ble_eq_true rfl) ?_
  intro p e s m args below meth c Q Z hR
  refine j_aload_n Z dX6_countsOn_0 0 rfl ?_
  refine j_get Z 31 (by decide) rfl rfl 9 (by decide) rfl inX6_countsOn_X6 lkX6_countsOn_28 dX6_countsOn_1 ?_
  refine j_iload_n Z dX6_countsOn_4 1 rfl ?_
  refine j_zld Z 38 (by decide) (fun _ => rfl) i rfl (by omega) (by decide) dX6_countsOn_5 ?_
  refine j_if_ne Z 45 dX6_countsOn_6 (by decide) (fun h6 => ?_) (fun h6 => ?_)
  · skip
    refine j_iconst Z (v := 0) dX6_countsOn_45 (by decide) ?_
    exact hR _ _ _ _ _ _ (⟨by first | (simp [zB, mStand, standB, h6]; done) | (simp_all [zB, mStand, standB]; done), rfl⟩) (by decide) (by decide) dX6_countsOn_46
  · skip
    refine j_aload_n Z dX6_countsOn_9 0 rfl ?_
    refine j_get Z 31 (by decide) rfl rfl 6 (by decide) rfl inX6_countsOn_X6 lkX6_countsOn_19 dX6_countsOn_10 ?_
    refine j_iload_n Z dX6_countsOn_13 1 rfl ?_
    refine j_ild Z 35 (by decide) (fun _ => rfl) i rfl (by omega) (by decide) dX6_countsOn_14 ?_
    refine j_iload_n Z dX6_countsOn_15 2 rfl ?_
    refine j_icmp_gt Z 45 dX6_countsOn_16 (by decide) (fun h16 => ?_) (fun h16 => ?_)
    · skip
      refine j_iconst Z (v := 0) dX6_countsOn_45 (by decide) ?_
      exact hR _ _ _ _ _ _ (⟨by first | (simp [zB, mStand, standB, h6, h16]; done) | (simp_all [zB, mStand, standB]; done), rfl⟩) (by decide) (by decide) dX6_countsOn_46
    · skip
      refine j_iload_n Z dX6_countsOn_19 2 rfl ?_
      refine j_aload_n Z dX6_countsOn_20 0 rfl ?_
      refine j_get Z 31 (by decide) rfl rfl 6 (by decide) rfl inX6_countsOn_X6 lkX6_countsOn_19 dX6_countsOn_21 ?_
      refine j_iload_n Z dX6_countsOn_24 1 rfl ?_
      refine j_ild Z 35 (by decide) (fun _ => rfl) i rfl (by omega) (by decide) dX6_countsOn_25 ?_
      refine j_isub Z dX6_countsOn_26 ?_
      refine j_aload_n Z dX6_countsOn_27 0 rfl ?_
      refine j_get Z 31 (by decide) rfl rfl 2 (by decide) rfl inX6_countsOn_X6 lkX6_countsOn_7 dX6_countsOn_28 ?_
      refine j_aload_n Z dX6_countsOn_31 0 rfl ?_
      refine j_get Z 31 (by decide) rfl rfl 5 (by decide) rfl inX6_countsOn_X6 lkX6_countsOn_16 dX6_countsOn_32 ?_
      refine j_iload_n Z dX6_countsOn_35 1 rfl ?_
      refine j_ild Z 34 (by decide) (fun _ => rfl) i rfl (by omega) (by decide) dX6_countsOn_36 ?_
      refine j_ild Z 32 (by decide) (fun _ => rfl) (ix (μ 34 i)) (vp_ix (ms i) (by decide)).1 (vp_ix (ms i) (by decide)).2 (by decide) dX6_countsOn_37 ?_
      refine j_icmp_gt Z 45 dX6_countsOn_38 (by decide) (fun h38 => ?_) (fun h38 => ?_)
      · skip
        refine j_iconst Z (v := 0) dX6_countsOn_45 (by decide) ?_
        exact hR _ _ _ _ _ _ (⟨by first | (simp [zB, mStand, standB, h6, h16, h38]; done) | (simp_all [zB, mStand, standB]; done), rfl⟩) (by decide) (by decide) dX6_countsOn_46
      · skip
        refine j_iconst Z (v := 1) dX6_countsOn_41 (by decide) ?_
        refine j_goto Z 46 dX6_countsOn_42 (by decide) ?_
        exact hR _ _ _ _ _ _ (⟨by first | (simp [zB, mStand, standB, h6, h16, h38]; done) | (simp_all [zB, mStand, standB]; done), rfl⟩) (by decide) (by decide) dX6_countsOn_46
set_option maxRecDepth 100000 in
set_option maxHeartbeats 4000000 in
theorem c_X6_counts (l : Launch) (g : gC) (μ : gM) (cnt lc wc : Nat) (pl : Nat → Nat) (hV : mV μ cnt lc wc pl) (x z : Int32) (v : Int32) (ev : v = k2 (fndB cnt x) (inB z 0 9999)) : Met l yX6_counts wsX6_counts { frames := 2, cells := 0, slots := 0, locals := 43 } (va_Pc [.ref (g.2.1 31), .int x, .int z] (gB g μ)) (va_Qi (fun (r : Int32) (μ' : gM) => r = (if v = 0 then zB (mStand μ (ix x) z) else 0) ∧ μ' = (if v = 0 then (gU μ 31 0 v) else gU μ 31 0 v)) (gPB g) (gA g)) 0 0 (gA g) := by
  refine g_ofI (cc := cX6_counts) (nL := 3) (ret := (some .boolean)) (ty := .boolean) (by decide +kernel) rfl rfl (by rintro _ _ ⟨rfl, -⟩; exact zB_nv) (Nat.le_of_ble_eq_true rfl) ?_
  intro p e s m args below meth c Q Z hR
  obtain ⟨hcnt, mc, hlc, ml, hwc, mw, ms, m1, m2, m12, mm, ma, mt, mp, md⟩ := hV
  have jp25 : J p l e { frames := 2, cells := 0, slots := 0, locals := 43 } s m args below meth c Q g 3 μ (0) (0) 25 [(0, .ref (g.2.1 31)), (1, .int x), (2, .int z)] [.int v, .ref (g.2.1 31)] := by
    refine j_callVi Z (As := [.int v]) (rest := []) (nA := 1) 31 (by decide) rfl rfl (c_X6_refused l g μ v) gX6_counts_X6_refused rfl rfl rfl (by decide +kernel) (by decide) rfl dX6_counts_25 rfl (Nat.le_of_ble_eq_true rfl) (by decide) (fun r9 μ9 hp => ?_)
    have hq : r9 = zB (decide (¬ v = 0)) ∧ μ9 = (gU μ 31 0 v) := hp
    refine j_mem hq.2 ?_
    refine j_eq hq.1 ?_
    clear hq hp
    refine j_if_ne Z 44 dX6_counts_28 (by decide) (fun h28 => ?_) (fun h28 => ?_)
    · skip
      have f28 := zB_1 h28
      have hv := dec_ne1 f28
      refine j_iconst Z (v := 0) dX6_counts_44 (by decide) ?_
      exact hR _ _ _ _ _ _ (⟨(if_neg hv).symm, (if_neg hv).symm⟩) (by decide) (by decide) dX6_counts_45
    · skip
      have f28 := zB_0.mp h28
      have hv := dec_ne f28
      have hk := k2_z (ev.symm.trans hv)
      obtain ⟨ex, lx⟩ := fnd_ix hk.1 hcnt
      refine j_aload_n Z dX6_counts_31 0 rfl ?_
      refine j_iload_n Z dX6_counts_32 1 rfl ?_
      refine j_eq ex ?_
      refine j_iload_n Z dX6_counts_33 2 rfl ?_
      refine j_callVi Z (As := [.int (nI (ix x)), .int z]) (rest := []) (nA := 2) 31 (by decide) rfl rfl (c_X6_countsOn l g (gU μ 31 0 v) (ix x) z (by omega) ms) gX6_counts_X6_countsOn rfl rfl rfl (by decide +kernel) (by decide) rfl dX6_counts_34 rfl (Nat.le_of_ble_eq_true rfl) (by decide) (fun r9 μ9 hp => ?_)
      have hq : r9 = zB (mStand μ (ix x) z) ∧ μ9 = (gU μ 31 0 v) := hp
      refine j_mem hq.2 ?_
      refine j_eq hq.1 ?_
      clear hq hp
      refine j_if_eq Z 44 dX6_counts_37 (by decide) (fun h37 => ?_) (fun h37 => ?_)
      · skip
        have f37 := zB_0.mp h37
        refine j_iconst Z (v := 0) dX6_counts_44 (by decide) ?_
        exact hR _ _ _ _ _ _ (⟨by rw [if_pos hv]; simp [zB, f37], by rw [if_pos hv]⟩) (by decide) (by decide) dX6_counts_45
      · skip
        have f37 := zB_1 h37
        refine j_iconst Z (v := 1) dX6_counts_40 (by decide) ?_
        refine j_goto Z 45 dX6_counts_41 (by decide) ?_
        exact hR _ _ _ _ _ _ (⟨by rw [if_pos hv]; simp [zB, f37], by rw [if_pos hv]⟩) (by decide) (by decide) dX6_counts_45
  refine j_aload_n Z dX6_counts_0 0 rfl ?_
  refine j_aload_n Z dX6_counts_1 0 rfl ?_
  refine j_iload_n Z dX6_counts_2 1 rfl ?_
  refine j_callVi Z (As := [.int x]) (rest := [.ref (g.2.1 31)]) (nA := 1) 31 (by decide) rfl rfl (c_X6_isFind l g μ cnt hcnt mc x) gX6_counts_X6_isFind rfl rfl rfl (by decide +kernel) (by decide) rfl dX6_counts_3 rfl (Nat.le_of_ble_eq_true rfl) (by decide) (fun r9 μ9 hp => ?_)
  have hq : r9 = zB (fndB cnt x) ∧ μ9 = μ := hp
  refine j_mem hq.2 ?_
  refine j_eq hq.1 ?_
  clear hq hp
  refine j_if_ne Z 13 dX6_counts_6 (by decide) (fun h6 => ?_) (fun h6 => ?_)
  · skip
    have f6 := zB_1 h6
    refine j_iload_n Z dX6_counts_13 2 rfl ?_
    refine j_callSi Z (As := [.int z]) (rest := [.ref (g.2.1 31)]) (nA := 1) (c_X6_isDay l g μ z) gX6_counts_X6_isDay rfl rfl rfl (by decide +kernel) (by decide) rfl dX6_counts_14 rfl (Nat.le_of_ble_eq_true rfl) (by decide) (fun r9 μ9 hp => ?_)
    have hq : r9 = zB (inB z 0 9999) ∧ μ9 = μ := hp
    refine j_mem hq.2 ?_
    refine j_eq hq.1 ?_
    clear hq hp
    refine j_if_eq Z 24 dX6_counts_17 (by decide) (fun h17 => ?_) (fun h17 => ?_)
    · skip
      have f17 := zB_0.mp h17
      refine j_iconst Z (v := 2) dX6_counts_24 (by decide) ?_
      refine j_sub [0, 1, 2] rfl ?_
      exact j_eq (by rw [ev]; first | (simp [k2, f6, f17]; done) | (clear jp25; simp_all [k2])) jp25
    · skip
      have f17 := zB_1 h17
      refine j_iconst Z (v := 0) dX6_counts_20 (by decide) ?_
      refine j_goto Z 25 dX6_counts_21 (by decide) ?_
      refine j_sub [0, 1, 2] rfl ?_
      exact j_eq (by rw [ev]; first | (simp [k2, f6, f17]; done) | (clear jp25; simp_all [k2])) jp25
  · skip
    have f6 := zB_0.mp h6
    refine j_iconst Z (v := 1) dX6_counts_9 (by decide) ?_
    refine j_goto Z 25 dX6_counts_10 (by decide) ?_
    refine j_sub [0, 1, 2] rfl ?_
    exact j_eq (by rw [ev]; first | (simp [k2, f6]; done) | (clear jp25; simp_all [k2])) jp25
theorem lkX6_haveSame_22 : Cond.fieldLink RX6 22 (TX6 7).1 (TX6 7).2.1 (TX6 7).2.2.1 ∈ wsX6_haveSame := by decide +kernel
theorem inX6_haveSame_X6 : ∀ w ∈ u_ws RX6 TX6 23, w ∈ wsX6_haveSame := by decide +kernel
set_option maxRecDepth 100000 in
set_option maxHeartbeats 4000000 in
theorem c_X6_haveSame (l : Launch) (g : gC) (μ : gM) (i j q : Nat) (hi : i < 60) (hj : j < 60) (hq : q < 3) : Met l yX6_haveSame wsX6_haveSame { frames := 0, cells := 0, slots := 0, locals := 0 } (va_Pc [.ref (g.2.1 31), .int (nI i), .int (nI j), .int (nI q)] (gB g μ)) (va_Qi (fun (r : Int32) (μ' : gM) => r = zB (shareB (μ 36 (3 * i + q)) (μ 36 (3 * j + q))) ∧ μ' = μ) (gPB g) (gA g)) 0 0 (gA g) := by
  refine g_ofI (cc := cX6_haveSame) (nL := 4) (ret := (some .boolean)) (ty := .boolean) (by decide +kernel) rfl rfl (by rintro _ _ ⟨rfl, -⟩; exact zB_n) (Nat.le_of_ble_eq_true rfl) ?_
  intro p e s m args below meth c Q Z hR
  refine j_aload_n Z dX6_haveSame_0 0 rfl ?_
  refine j_get Z 31 (by decide) rfl rfl 7 (by decide) rfl inX6_haveSame_X6 lkX6_haveSame_22 dX6_haveSame_1 ?_
  refine j_iconst Z (v := 3) dX6_haveSame_4 (by decide) ?_
  refine j_iload_n Z dX6_haveSame_5 1 rfl ?_
  refine j_imul Z dX6_haveSame_6 ?_
  refine j_eq (pk_mul 3 i) ?_
  refine j_iload_n Z dX6_haveSame_7 3 rfl ?_
  refine j_iadd Z dX6_haveSame_8 ?_
  refine j_eq (nI_add (3 * i) q) ?_
  refine j_ild Z 36 (by decide) (fun _ => rfl) ((3 * i) + q) rfl (by omega) (by decide) dX6_haveSame_9 ?_
  refine j_if_eq Z 40 dX6_haveSame_10 (by decide) (fun h10 => ?_) (fun h10 => ?_)
  · skip
    refine j_iconst Z (v := 0) dX6_haveSame_40 (by decide) ?_
    exact hR _ _ _ _ _ _ (⟨by first | (simp [zB, shareB, h10]; done) | (simp_all [zB, shareB]; done), rfl⟩) (by decide) (by decide) dX6_haveSame_41
  · skip
    refine j_aload_n Z dX6_haveSame_13 0 rfl ?_
    refine j_get Z 31 (by decide) rfl rfl 7 (by decide) rfl inX6_haveSame_X6 lkX6_haveSame_22 dX6_haveSame_14 ?_
    refine j_iconst Z (v := 3) dX6_haveSame_17 (by decide) ?_
    refine j_iload_n Z dX6_haveSame_18 1 rfl ?_
    refine j_imul Z dX6_haveSame_19 ?_
    refine j_eq (pk_mul 3 i) ?_
    refine j_iload_n Z dX6_haveSame_20 3 rfl ?_
    refine j_iadd Z dX6_haveSame_21 ?_
    refine j_eq (nI_add (3 * i) q) ?_
    refine j_ild Z 36 (by decide) (fun _ => rfl) ((3 * i) + q) rfl (by omega) (by decide) dX6_haveSame_22 ?_
    refine j_aload_n Z dX6_haveSame_23 0 rfl ?_
    refine j_get Z 31 (by decide) rfl rfl 7 (by decide) rfl inX6_haveSame_X6 lkX6_haveSame_22 dX6_haveSame_24 ?_
    refine j_iconst Z (v := 3) dX6_haveSame_27 (by decide) ?_
    refine j_iload_n Z dX6_haveSame_28 2 rfl ?_
    refine j_imul Z dX6_haveSame_29 ?_
    refine j_eq (pk_mul 3 j) ?_
    refine j_iload_n Z dX6_haveSame_30 3 rfl ?_
    refine j_iadd Z dX6_haveSame_31 ?_
    refine j_eq (nI_add (3 * j) q) ?_
    refine j_ild Z 36 (by decide) (fun _ => rfl) ((3 * j) + q) rfl (by omega) (by decide) dX6_haveSame_32 ?_
    refine j_icmp_ne Z 40 dX6_haveSame_33 (by decide) (fun h33 => ?_) (fun h33 => ?_)
    · skip
      refine j_iconst Z (v := 0) dX6_haveSame_40 (by decide) ?_
      exact hR _ _ _ _ _ _ (⟨by first | (simp [zB, shareB, h10, h33]; done) | (simp_all [zB, shareB]; done), rfl⟩) (by decide) (by decide) dX6_haveSame_41
    · skip
      refine j_iconst Z (v := 1) dX6_haveSame_36 (by decide) ?_
      refine j_goto Z 41 dX6_haveSame_37 (by decide) ?_
      exact hR _ _ _ _ _ _ (⟨by first | (simp [zB, shareB, h10, h33]; done) | (simp_all [zB, shareB]; done), rfl⟩) (by decide) (by decide) dX6_haveSame_41
theorem lkX6_areSame_32 : Cond.fieldLink RX6 32 (TX6 10).1 (TX6 10).2.1 (TX6 10).2.2.1 ∈ wsX6_areSame := by decide +kernel
theorem inX6_areSame_X6 : ∀ w ∈ u_ws RX6 TX6 23, w ∈ wsX6_areSame := by decide +kernel
theorem lkX6_areSame_22 : Cond.fieldLink RX6 22 (TX6 7).1 (TX6 7).2.1 (TX6 7).2.2.1 ∈ wsX6_areSame := by decide +kernel
set_option maxRecDepth 100000 in
set_option maxHeartbeats 4000000 in
theorem c_X6_areSame (l : Launch) (g : gC) (μ : gM) (i j : Nat) (hi : i < 60) (hj : j < 60) : Met l yX6_areSame wsX6_areSame { frames := 1, cells := 0, slots := 0, locals := 23 } (va_Pc [.ref (g.2.1 31), .int (nI i), .int (nI j)] (gB g μ)) (va_Qi (fun (r : Int32) (μ' : gM) => r = zB (joinB (μ 39 (60 * i + j)) (μ 36 (3 * i)) (μ 36 (3 * j)) (μ 36 (3 * i + 1)) (μ 36 (3 * j + 1)) (μ 36 (3 * i + 2)) (μ 36 (3 * j + 2))) ∧ μ' = μ) (gPB g) (gA g)) 0 0 (gA g) := by
  refine g_ofI (cc := cX6_areSame) (nL := 6) (ret := (some .boolean)) (ty := .boolean) (by decide +kernel) rfl rfl (by rintro _ _ ⟨rfl, -⟩; exact zB_n) (Nat.le_of_ble_eq_true rfl) ?_
  intro p e s m args below meth c Q Z hR
  refine j_aload_n Z dX6_areSame_0 0 rfl ?_
  refine j_get Z 31 (by decide) rfl rfl 10 (by decide) rfl inX6_areSame_X6 lkX6_areSame_32 dX6_areSame_1 ?_
  refine j_bipush Z (v := 60) dX6_areSame_4 (by decide) ?_
  refine j_iload_n Z dX6_areSame_6 1 rfl ?_
  refine j_imul Z dX6_areSame_7 ?_
  refine j_eq (pk_mul 60 i) ?_
  refine j_iload_n Z dX6_areSame_8 2 rfl ?_
  refine j_iadd Z dX6_areSame_9 ?_
  refine j_eq (nI_add (60 * i) j) ?_
  refine j_bld Z 39 (by decide) (fun _ => rfl) ((60 * i) + j) rfl (by omega) (by decide) dX6_areSame_10 ?_
  refine j_istore_n Z dX6_areSame_11 (by decide) [(3, .int (μ 39 ((60 * i) + j))), (0, .ref (g.2.1 31)), (1, .int (nI i)), (2, .int (nI j))] rfl ?_
  have jp39 : J p l e { frames := 1, cells := 0, slots := 0, locals := 23 } s m args below meth c Q g 6 μ (0) (0) 39 [(3, .int (μ 39 ((60 * i) + j))), (0, .ref (g.2.1 31)), (1, .int (nI i)), (2, .int (nI j))] [.int (zB (!decide (μ 36 (3 * i) = 0) && !decide (μ 36 (3 * j) = 0)))] := by
    refine j_istore Z dX6_areSame_39 (by decide) [(4, .int (zB (!decide (μ 36 (3 * i) = 0) && !decide (μ 36 (3 * j) = 0)))), (3, .int (μ 39 ((60 * i) + j))), (0, .ref (g.2.1 31)), (1, .int (nI i)), (2, .int (nI j))] rfl ?_
    have jp81 : J p l e { frames := 1, cells := 0, slots := 0, locals := 23 } s m args below meth c Q g 6 μ (0) (0) 81 [(4, .int (zB (!decide (μ 36 (3 * i) = 0) && !decide (μ 36 (3 * j) = 0)))), (3, .int (μ 39 ((60 * i) + j))), (0, .ref (g.2.1 31)), (1, .int (nI i)), (2, .int (nI j))] [.int (zB (if μ 36 (3 * i) ≠ 0 ∧ μ 36 (3 * j) ≠ 0 then shareB (μ 36 (3 * i)) (μ 36 (3 * j)) else shareB (μ 36 (3 * i + 1)) (μ 36 (3 * j + 1)) && shareB (μ 36 (3 * i + 2)) (μ 36 (3 * j + 2))))] := by
      refine j_istore Z dX6_areSame_81 (by decide) [(5, .int (zB (if μ 36 (3 * i) ≠ 0 ∧ μ 36 (3 * j) ≠ 0 then shareB (μ 36 (3 * i)) (μ 36 (3 * j)) else shareB (μ 36 (3 * i + 1)) (μ 36 (3 * j + 1)) && shareB (μ 36 (3 * i + 2)) (μ 36 (3 * j + 2))))), (4, .int (zB (!decide (μ 36 (3 * i) = 0) && !decide (μ 36 (3 * j) = 0)))), (3, .int (μ 39 ((60 * i) + j))), (0, .ref (g.2.1 31)), (1, .int (nI i)), (2, .int (nI j))] rfl ?_
      refine j_iload_n Z dX6_areSame_83 2 rfl ?_
      refine j_iconst Z (v := 1) dX6_areSame_84 (by decide) ?_
      refine j_icmp_eq Z 97 dX6_areSame_85 (by decide) (fun h85 => ?_) (fun h85 => ?_)
      · skip
        refine j_iconst Z (v := 1) dX6_areSame_97 (by decide) ?_
        refine j_goto Z 102 dX6_areSame_98 (by decide) ?_
        exact hR _ _ _ _ _ _ (⟨by unfold joinB; simp_all [zB, zB_0], rfl⟩) (by decide) (by decide) dX6_areSame_102
      · skip
        refine j_iload_n Z dX6_areSame_88 2 rfl ?_
        refine j_if_ne Z 101 dX6_areSame_89 (by decide) (fun h89 => ?_) (fun h89 => ?_)
        · skip
          refine j_iconst Z (v := 0) dX6_areSame_101 (by decide) ?_
          exact hR _ _ _ _ _ _ (⟨by unfold joinB; simp_all [zB, zB_0], rfl⟩) (by decide) (by decide) dX6_areSame_102
        · skip
          refine j_iload Z dX6_areSame_92 0 rfl ?_
          refine j_if_eq Z 101 dX6_areSame_94 (by decide) (fun h94 => ?_) (fun h94 => ?_)
          · skip
            refine j_iconst Z (v := 0) dX6_areSame_101 (by decide) ?_
            exact hR _ _ _ _ _ _ (⟨by unfold joinB; simp_all [zB, zB_0], rfl⟩) (by decide) (by decide) dX6_areSame_102
          · skip
            refine j_iconst Z (v := 1) dX6_areSame_97 (by decide) ?_
            refine j_goto Z 102 dX6_areSame_98 (by decide) ?_
            exact hR _ _ _ _ _ _ (⟨by unfold joinB; simp_all [zB, zB_0], rfl⟩) (by decide) (by decide) dX6_areSame_102
    refine j_iload Z dX6_areSame_41 0 rfl ?_
    refine j_if_eq Z 56 dX6_areSame_43 (by decide) (fun h43 => ?_) (fun h43 => ?_)
    · skip
      refine j_aload_n Z dX6_areSame_56 2 rfl ?_
      refine j_iload_n Z dX6_areSame_57 3 rfl ?_
      refine j_iload_n Z dX6_areSame_58 4 rfl ?_
      refine j_iconst Z (v := 1) dX6_areSame_59 (by decide) ?_
      refine j_callVi Z (As := [.int (nI i), .int (nI j), .int 1]) (rest := []) (nA := 3) 31 (by decide) rfl rfl (c_X6_haveSame l g μ i j 1 (by omega) (by omega) (by omega)) gX6_areSame_X6_haveSame rfl rfl rfl (by decide +kernel) (by decide) rfl dX6_areSame_60 rfl (Nat.le_of_ble_eq_true rfl) (by decide) (fun r9 μ9 hp => ?_)
      have hq : r9 = zB (shareB (μ 36 (3 * i + 1)) (μ 36 (3 * j + 1))) ∧ μ9 = μ := hp
      refine j_mem hq.2 ?_
      refine j_eq hq.1 ?_
      clear hq hp
      refine j_if_eq Z 80 dX6_areSame_63 (by decide) (fun h63 => ?_) (fun h63 => ?_)
      · skip
        refine j_iconst Z (v := 0) dX6_areSame_80 (by decide) ?_
        refine j_sub [0, 1, 2, 3, 4] rfl ?_
        exact j_eq (by simp_all [zB, zB_0]) jp81
      · skip
        refine j_aload_n Z dX6_areSame_66 2 rfl ?_
        refine j_iload_n Z dX6_areSame_67 3 rfl ?_
        refine j_iload_n Z dX6_areSame_68 4 rfl ?_
        refine j_iconst Z (v := 2) dX6_areSame_69 (by decide) ?_
        refine j_callVi Z (As := [.int (nI i), .int (nI j), .int 2]) (rest := []) (nA := 3) 31 (by decide) rfl rfl (c_X6_haveSame l g μ i j 2 (by omega) (by omega) (by omega)) gX6_areSame_X6_haveSame rfl rfl rfl (by decide +kernel) (by decide) rfl dX6_areSame_70 rfl (Nat.le_of_ble_eq_true rfl) (by decide) (fun r9 μ9 hp => ?_)
        have hq : r9 = zB (shareB (μ 36 (3 * i + 2)) (μ 36 (3 * j + 2))) ∧ μ9 = μ := hp
        refine j_mem hq.2 ?_
        refine j_eq hq.1 ?_
        clear hq hp
        refine j_if_eq Z 80 dX6_areSame_73 (by decide) (fun h73 => ?_) (fun h73 => ?_)
        · skip
          refine j_iconst Z (v := 0) dX6_areSame_80 (by decide) ?_
          refine j_sub [0, 1, 2, 3, 4] rfl ?_
          exact j_eq (by simp_all [zB, zB_0]) jp81
        · skip
          refine j_iconst Z (v := 1) dX6_areSame_76 (by decide) ?_
          refine j_goto Z 81 dX6_areSame_77 (by decide) ?_
          refine j_sub [0, 1, 2, 3, 4] rfl ?_
          exact j_eq (by simp_all [zB, zB_0]) jp81
    · skip
      refine j_aload_n Z dX6_areSame_46 2 rfl ?_
      refine j_iload_n Z dX6_areSame_47 3 rfl ?_
      refine j_iload_n Z dX6_areSame_48 4 rfl ?_
      refine j_iconst Z (v := 0) dX6_areSame_49 (by decide) ?_
      refine j_callVi Z (As := [.int (nI i), .int (nI j), .int 0]) (rest := []) (nA := 3) 31 (by decide) rfl rfl (c_X6_haveSame l g μ i j 0 (by omega) (by omega) (by omega)) gX6_areSame_X6_haveSame rfl rfl rfl (by decide +kernel) (by decide) rfl dX6_areSame_50 rfl (Nat.le_of_ble_eq_true rfl) (by decide) (fun r9 μ9 hp => ?_)
      have hq : r9 = zB (shareB (μ 36 (3 * i + 0)) (μ 36 (3 * j + 0))) ∧ μ9 = μ := hp
      refine j_mem hq.2 ?_
      refine j_eq hq.1 ?_
      clear hq hp
      refine j_goto Z 81 dX6_areSame_53 (by decide) ?_
      refine j_sub [0, 1, 2, 3, 4] rfl ?_
      exact j_eq (by have f9 := zB_1 h43; simp only [Bool.and_eq_true, Bool.not_eq_true', decide_eq_false_iff_not] at f9; rw [if_pos f9]; rfl) jp81
  refine j_aload_n Z dX6_areSame_12 1 rfl ?_
  refine j_get Z 31 (by decide) rfl rfl 7 (by decide) rfl inX6_areSame_X6 lkX6_areSame_22 dX6_areSame_13 ?_
  refine j_iconst Z (v := 3) dX6_areSame_16 (by decide) ?_
  refine j_iload_n Z dX6_areSame_17 2 rfl ?_
  refine j_imul Z dX6_areSame_18 ?_
  refine j_eq (pk_mul 3 i) ?_
  refine j_ild Z 36 (by decide) (fun _ => rfl) (3 * i) rfl (by omega) (by decide) dX6_areSame_19 ?_
  refine j_if_eq Z 38 dX6_areSame_20 (by decide) (fun h20 => ?_) (fun h20 => ?_)
  · skip
    refine j_iconst Z (v := 0) dX6_areSame_38 (by decide) ?_
    refine j_sub [0, 1, 2, 3] rfl ?_
    exact j_eq (by simp [zB, h20]) jp39
  · skip
    refine j_aload_n Z dX6_areSame_23 1 rfl ?_
    refine j_get Z 31 (by decide) rfl rfl 7 (by decide) rfl inX6_areSame_X6 lkX6_areSame_22 dX6_areSame_24 ?_
    refine j_iconst Z (v := 3) dX6_areSame_27 (by decide) ?_
    refine j_iload_n Z dX6_areSame_28 3 rfl ?_
    refine j_imul Z dX6_areSame_29 ?_
    refine j_eq (pk_mul 3 j) ?_
    refine j_ild Z 36 (by decide) (fun _ => rfl) (3 * j) rfl (by omega) (by decide) dX6_areSame_30 ?_
    refine j_if_eq Z 38 dX6_areSame_31 (by decide) (fun h31 => ?_) (fun h31 => ?_)
    · skip
      refine j_iconst Z (v := 0) dX6_areSame_38 (by decide) ?_
      refine j_sub [0, 1, 2, 3] rfl ?_
      exact j_eq (by simp [zB, h20, h31]) jp39
    · skip
      refine j_iconst Z (v := 1) dX6_areSame_34 (by decide) ?_
      refine j_goto Z 39 dX6_areSame_35 (by decide) ?_
      refine j_sub [0, 1, 2, 3] rfl ?_
      exact j_eq (by simp [zB, h20, h31]) jp39
theorem lkX6_join_70 : Cond.fieldLink RX6 70 (TX6 4).1 (TX6 4).2.1 (TX6 4).2.2.1 ∈ wsX6_join := by decide +kernel
theorem inX6_join_X6 : ∀ w ∈ u_ws RX6 TX6 23, w ∈ wsX6_join := by decide +kernel
theorem lkX6_join_57 : Cond.fieldLink RX6 57 (TX6 20).1 (TX6 20).2.1 (TX6 20).2.2.1 ∈ wsX6_join := by decide +kernel
set_option maxRecDepth 100000 in
set_option maxHeartbeats 4000000 in
theorem c_X6_join (l : Launch) (g : gC) (μ : gM) (cnt : Nat) (hcnt : cnt ≤ 60) (mc : μ 31 4 = nI cnt) (x y : Int32) : Met l yX6_join wsX6_join { frames := 0, cells := 0, slots := 0, locals := 0 } (va_Pc [.ref (g.2.1 31), .int x, .int y] (gB g μ)) (va_Qv (fun μ' : gM => μ' = gR μ 47 (sMerge cnt x y (μ 47))) (gPB g) (gA g)) 0 0 (gA g) := by
  refine g_ofV (cc := cX6_join) (nL := 6) (ret := none) (by decide +kernel) rfl rfl  (Nat.le_of_ble_eq_true rfl) ?_
  intro p e s m args below meth c Q Z hR
  have jp10 : J p l e { frames := 0, cells := 0, slots := 0, locals := 0 } s m args below meth c Q g 6 μ (0) (0) 10 [(0, .ref (g.2.1 31)), (1, .int x), (2, .int y)] [.int (iMin y x)] := by
    refine j_istore_n Z dX6_join_10 (by decide) [(3, .int (iMin y x)), (0, .ref (g.2.1 31)), (1, .int x), (2, .int y)] rfl ?_
    have jp21 : J p l e { frames := 0, cells := 0, slots := 0, locals := 0 } s m args below meth c Q g 6 μ (0) (0) 21 [(3, .int (iMin y x)), (0, .ref (g.2.1 31)), (1, .int x), (2, .int y)] [.int (iMax x y)] := by
      refine j_istore Z dX6_join_21 (by decide) [(4, .int (iMax x y)), (3, .int (iMin y x)), (0, .ref (g.2.1 31)), (1, .int x), (2, .int y)] rfl ?_
      refine j_iconst Z (v := 0) dX6_join_23 (by decide) ?_
      refine j_istore Z dX6_join_24 (by decide) [(5, .int 0), (4, .int (iMax x y)), (3, .int (iMin y x)), (0, .ref (g.2.1 31)), (1, .int x), (2, .int y)] rfl ?_
      have lp26 : ∀ (nlp26 i : Nat) (r : Nat → Int32), r = sMerge i x y (μ 47) → cnt + 2 ≤ i + nlp26 → i ≤ cnt → J p l e { frames := 0, cells := 0, slots := 0, locals := 0 } s m args below meth c Q g 6 (gR μ 47 r) (0) (0) 26 [(0, .ref (g.2.1 31)), (1, .int x), (2, .int y), (3, .int (iMin y x)), (4, .int (iMax x y)), (5, .int (nI i))] [] := by
        intro nlp26
        induction nlp26 with
        | zero => intro i r er hn hg; exact absurd hn (by omega)
        | succ nlp26 ihlp26 =>
          intro i r er hn hg
          refine j_iload Z dX6_join_26 5 rfl ?_
          refine j_aload_n Z dX6_join_28 0 rfl ?_
          refine j_get Z 31 (by decide) rfl rfl 4 (by decide) rfl inX6_join_X6 lkX6_join_70 dX6_join_29 ?_
          refine j_eq (y := μ 31 4) (by rw [gR_n (k := 47) (j := 31) (by omega)]) ?_
          refine j_eq mc ?_
          refine j_icmp_ge Z 71 dX6_join_32 (by decide) (fun h32 => ?_) (fun h32 => ?_)
          · skip
            have hic : i = cnt := by
              have hq := (nI_leI (a := cnt) (b := i) (by omega) (by omega)).mp h32
              omega
            rw [hic] at er
            exact hR _ _ _ _ _ (by rw [er]) (by decide) (by decide) dX6_join_71
          · skip
            have hlt : i < cnt := by
              rcases Nat.lt_or_ge i cnt with q9 | q9
              · exact q9
              · exact absurd (nI_le q9 (by omega)) h32
            have jp64 : J p l e { frames := 0, cells := 0, slots := 0, locals := 0 } s m args below meth c Q g 6 (gR μ 47 r) (0) (0) 64 [(0, .ref (g.2.1 31)), (1, .int x), (2, .int y), (3, .int (iMin y x)), (4, .int (iMax x y)), (5, .int (nI i))] [.int (if r i = iMax x y then iMin y x else r i), .int (nI i), .ref (g.2.1 47)] := by
              refine j_ist Z 47 (by decide) (fun _ => rfl) i rfl (by omega) (by decide)  dX6_join_64 ?_
              refine j_mem (μ' := (gR μ 47 (upd r i (if r i = iMax x y then iMin y x else r i)))) gU_R ?_
              refine j_iinc Z dX6_join_65 5 rfl (nI_1 i) (by decide) [(5, .int (nI (i + 1))), (0, .ref (g.2.1 31)), (1, .int x), (2, .int y), (3, .int (iMin y x)), (4, .int (iMax x y))] rfl ?_
              refine j_goto Z 26 dX6_join_68 (by decide) ?_
              refine j_sub [1, 2, 3, 4, 5, 0] rfl ?_
              exact ihlp26 (i + 1) (upd r i (if r i = iMax x y then iMin y x else r i)) (by rw [er]; exact sMerge_nc)  (by omega) (by omega)
            refine j_aload_n Z dX6_join_35 0 rfl ?_
            refine j_get Z 31 (by decide) rfl rfl 20 (by decide) rfl inX6_join_X6 lkX6_join_57 dX6_join_36 ?_
            refine j_iload Z dX6_join_39 5 rfl ?_
            refine j_aload_n Z dX6_join_41 0 rfl ?_
            refine j_get Z 31 (by decide) rfl rfl 20 (by decide) rfl inX6_join_X6 lkX6_join_57 dX6_join_42 ?_
            refine j_iload Z dX6_join_45 5 rfl ?_
            refine j_ild Z 47 (by decide) (fun _ => rfl) i rfl (by omega) (by decide) dX6_join_47 ?_
            refine j_eq (y := r i) (by rw [gR_s]) ?_
            refine j_iload Z dX6_join_48 4 rfl ?_
            refine j_icmp_ne Z 57 dX6_join_50 (by decide) (fun h50 => ?_) (fun h50 => ?_)
            · skip
              refine j_aload_n Z dX6_join_57 0 rfl ?_
              refine j_get Z 31 (by decide) rfl rfl 20 (by decide) rfl inX6_join_X6 lkX6_join_57 dX6_join_58 ?_
              refine j_iload Z dX6_join_61 5 rfl ?_
              refine j_ild Z 47 (by decide) (fun _ => rfl) i rfl (by omega) (by decide) dX6_join_63 ?_
              refine j_eq (y := r i) (by rw [gR_s]) ?_
              refine j_sub [0, 1, 2, 3, 4, 5] rfl ?_
              exact j_eq (by first | exact (if_pos h50).symm | exact (if_neg h50).symm) jp64
            · skip
              refine j_iload_n Z dX6_join_53 3 rfl ?_
              refine j_goto Z 64 dX6_join_54 (by decide) ?_
              refine j_sub [0, 1, 2, 3, 4, 5] rfl ?_
              exact j_eq (by first | exact (if_pos h50).symm | exact (if_neg h50).symm) jp64
      refine j_sub [3, 4, 5, 2, 1, 0] rfl ?_
      refine j_mem (gR_id (k := 47) (r := μ 47) rfl) ?_
      exact lp26 (cnt + 2) 0 (μ 47) (sMerge_0)  (by omega) (by omega)
    refine j_iload_n Z dX6_join_11 2 rfl ?_
    refine j_iload_n Z dX6_join_12 3 rfl ?_
    refine j_icmp_ge Z 20 dX6_join_13 (by decide) (fun h13 => ?_) (fun h13 => ?_)
    · skip
      refine j_iload_n Z dX6_join_20 2 rfl ?_
      refine j_sub [0, 1, 2, 3] rfl ?_
      exact j_eq (by first | exact iMax_l h13 | exact iMax_g h13) jp21
    · skip
      refine j_iload_n Z dX6_join_16 3 rfl ?_
      refine j_goto Z 21 dX6_join_17 (by decide) ?_
      refine j_sub [0, 1, 2, 3] rfl ?_
      exact j_eq (by first | exact iMax_l h13 | exact iMax_g h13) jp21
  refine j_iload_n Z dX6_join_0 1 rfl ?_
  refine j_iload_n Z dX6_join_1 2 rfl ?_
  refine j_icmp_ge Z 9 dX6_join_2 (by decide) (fun h2 => ?_) (fun h2 => ?_)
  · skip
    refine j_iload_n Z dX6_join_9 2 rfl ?_
    refine j_sub [0, 1, 2] rfl ?_
    exact j_eq (by first | exact iMin_l h2 | exact iMin_g h2) jp10
  · skip
    refine j_iload_n Z dX6_join_5 1 rfl ?_
    refine j_goto Z 10 dX6_join_6 (by decide) ?_
    refine j_sub [0, 1, 2] rfl ?_
    exact j_eq (by first | exact iMin_l h2 | exact iMin_g h2) jp10
theorem lkX6_lay_70 : Cond.fieldLink RX6 70 (TX6 4).1 (TX6 4).2.1 (TX6 4).2.2.1 ∈ wsX6_lay := by decide +kernel
theorem inX6_lay_X6 : ∀ w ∈ u_ws RX6 TX6 23, w ∈ wsX6_lay := by decide +kernel
theorem lkX6_lay_57 : Cond.fieldLink RX6 57 (TX6 20).1 (TX6 20).2.1 (TX6 20).2.2.1 ∈ wsX6_lay := by decide +kernel
set_option maxRecDepth 100000 in
set_option maxHeartbeats 4000000 in
theorem c_X6_lay (l : Launch) (g : gC) (μ : gM) (cnt : Nat) (hcnt : cnt ≤ 60) (mc : μ 31 4 = nI cnt) (x : Int32) (ms : ∀ k, vp_in (μ 34 k) 4) : Met l yX6_lay wsX6_lay { frames := 2, cells := 0, slots := 0, locals := 48 } (va_Pc [.ref (g.2.1 31), .int x] (gB g μ)) (va_Qv (fun μ' : gM => μ' = gR μ 47 (mSort μ cnt x (μ 47))) (gPB g) (gA g)) 0 0 (gA g) := by
  refine g_ofV (cc := cX6_lay) (nL := 5) (ret := none) (by decide +kernel) rfl rfl  (Nat.le_of_ble_eq_true rfl) ?_
  intro p e s m args below meth c Q Z hR
  refine j_iconst Z (v := 0) dX6_lay_0 (by decide) ?_
  refine j_istore_n Z dX6_lay_1 (by decide) [(2, .int 0), (0, .ref (g.2.1 31)), (1, .int x)] rfl ?_
  have lp2 : ∀ (nlp2 i : Nat) (r : Nat → Int32), r = s0 i (fun k => mStand μ k x) (μ 47) → cnt + 2 ≤ i + nlp2 → i ≤ cnt → J p l e { frames := 2, cells := 0, slots := 0, locals := 48 } s m args below meth c Q g 5 (gR μ 47 r) (0) (0) 2 [(0, .ref (g.2.1 31)), (1, .int x), (2, .int (nI i))] [] := by
    intro nlp2
    induction nlp2 with
    | zero => intro i r er hn hg; exact absurd hn (by omega)
    | succ nlp2 ihlp2 =>
      intro i r er hn hg
      refine j_iload_n Z dX6_lay_2 2 rfl ?_
      refine j_aload_n Z dX6_lay_3 0 rfl ?_
      refine j_get Z 31 (by decide) rfl rfl 4 (by decide) rfl inX6_lay_X6 lkX6_lay_70 dX6_lay_4 ?_
      refine j_eq (y := μ 31 4) (by rw [gR_n (k := 47) (j := 31) (by omega)]) ?_
      refine j_eq mc ?_
      refine j_icmp_ge Z 36 dX6_lay_7 (by decide) (fun h7 => ?_) (fun h7 => ?_)
      · skip
        have hic : i = cnt := by
          have hq := (nI_leI (a := cnt) (b := i) (by omega) (by omega)).mp h7
          omega
        rw [hic] at er
        refine j_iconst Z (v := 0) dX6_lay_36 (by decide) ?_
        refine j_istore_n Z dX6_lay_37 (by decide) [(2, .int 0), (0, .ref (g.2.1 31)), (1, .int x)] rfl ?_
        have lq38 : ∀ (nlq38 f : Nat) (t : Nat → Int32), t = sOut cnt (mJoin μ) (s0 cnt (fun k => mStand μ k x) (μ 47)) f → cnt + 2 ≤ f + nlq38 → f ≤ cnt → J p l e { frames := 2, cells := 0, slots := 0, locals := 48 } s m args below meth c Q g 5 (gR μ 47 t) (0) (0) 38 [(0, .ref (g.2.1 31)), (1, .int x), (2, .int (nI f))] [] := by
          intro nlq38
          induction nlq38 with
          | zero => intro f t et hn hg; exact absurd hn (by omega)
          | succ nlq38 ihlq38 =>
            intro f t et hn hg
            refine j_iload_n Z dX6_lay_38 2 rfl ?_
            refine j_aload_n Z dX6_lay_39 0 rfl ?_
            refine j_get Z 31 (by decide) rfl rfl 4 (by decide) rfl inX6_lay_X6 lkX6_lay_70 dX6_lay_40 ?_
            refine j_eq (y := μ 31 4) (by rw [gR_n (k := 47) (j := 31) (by omega)]) ?_
            refine j_eq mc ?_
            refine j_icmp_ge Z 135 dX6_lay_43 (by decide) (fun h43 => ?_) (fun h43 => ?_)
            · skip
              have hic : f = cnt := by
                have hq := (nI_leI (a := cnt) (b := f) (by omega) (by omega)).mp h43
                omega
              rw [hic] at et
              exact hR _ _ _ _ _ (by rw [et]; rfl) (by decide) (by decide) dX6_lay_135
            · skip
              have hlt : f < cnt := by
                rcases Nat.lt_or_ge f cnt with q9 | q9
                · exact q9
                · exact absurd (nI_le q9 (by omega)) h43
              have hlf := hlt
              have ht : thOk cnt t := by rw [et]; exact sOut_ok s0_ok hcnt f (by omega)
              refine j_iconst Z (v := 0) dX6_lay_46 (by decide) ?_
              refine j_istore_n Z dX6_lay_47 (by decide) [(3, .int 0), (0, .ref (g.2.1 31)), (1, .int x), (2, .int (nI f))] rfl ?_
              have lr48 : ∀ (nlr48 e9 : Nat) (r : Nat → Int32), r = sInC cnt (mJoin μ) f t e9 → f + 2 ≤ e9 + nlr48 → e9 ≤ f → J p l e { frames := 2, cells := 0, slots := 0, locals := 48 } s m args below meth c Q g 5 (gR μ 47 r) (0) (0) 48 [(0, .ref (g.2.1 31)), (1, .int x), (2, .int (nI f)), (3, .int (nI e9))] [] := by
                intro nlr48
                induction nlr48 with
                | zero => intro e9 r er hn hg; exact absurd hn (by omega)
                | succ nlr48 ihlr48 =>
                  intro e9 r er hn hg
                  refine j_iload_n Z dX6_lay_48 3 rfl ?_
                  refine j_iload_n Z dX6_lay_49 2 rfl ?_
                  refine j_icmp_ge Z 129 dX6_lay_50 (by decide) (fun h50 => ?_) (fun h50 => ?_)
                  · skip
                    have hic : e9 = f := by
                      have hq := (nI_leI (a := f) (b := e9) (by omega) (by omega)).mp h50
                      omega
                    rw [hic] at er
                    refine j_iinc Z dX6_lay_129 2 rfl (nI_1 f) (by decide) [(2, .int (nI (f + 1))), (0, .ref (g.2.1 31)), (1, .int x), (3, .int (nI e9))] rfl ?_
                    refine j_goto Z 38 dX6_lay_132 (by decide) ?_
                    refine j_sub [1, 2, 0] rfl ?_
                    exact ihlq38 (f + 1) (r) (by rw [er]; show sInC _ _ _ _ _ = if ¬ sOut cnt (mJoin μ) (s0 cnt (fun k => mStand μ k x) (μ 47)) f f = -1 then _ else _; rw [← et]; rfl)  (by omega) (by omega)
                  · skip
                    have hlt : e9 < f := by
                      rcases Nat.lt_or_ge e9 f with q9 | q9
                      · exact q9
                      · exact absurd (nI_le q9 (by omega)) h50
                    have hr : thOk cnt r := by rw [er]; exact (sInC_ok ht hcnt (by omega) (by omega)).1
                    have jp91 : J p l e { frames := 2, cells := 0, slots := 0, locals := 48 } s m args below meth c Q g 5 (gR μ 47 r) (0) (0) 91 [(0, .ref (g.2.1 31)), (1, .int x), (2, .int (nI f)), (3, .int (nI e9))] [.int (zB (!decide (r f = -1) && !decide (r e9 = -1) && !decide (r e9 = r f)))] := by
                      refine j_istore Z dX6_lay_91 (by decide) [(4, .int (zB (!decide (r f = -1) && !decide (r e9 = -1) && !decide (r e9 = r f)))), (0, .ref (g.2.1 31)), (1, .int x), (2, .int (nI f)), (3, .int (nI e9))] rfl ?_
                      refine j_iload Z dX6_lay_93 0 rfl ?_
                      refine j_if_eq Z 123 dX6_lay_95 (by decide) (fun h95 => ?_) (fun h95 => ?_)
                      · skip
                        have hA : ¬ (¬ r f = -1 ∧ ¬ r e9 = -1 ∧ ¬ r e9 = r f) := fun q => by have h9 := zB_0.mp h95; simp [q.1, q.2.1, q.2.2] at h9
                        refine j_iinc Z dX6_lay_123 4 rfl (nI_1 e9) (by decide) [(3, .int (nI (e9 + 1))), (4, .int (zB (!decide (r f = -1) && !decide (r e9 = -1) && !decide (r e9 = r f)))), (0, .ref (g.2.1 31)), (1, .int x), (2, .int (nI f))] rfl ?_
                        refine j_goto Z 48 dX6_lay_126 (by decide) ?_
                        refine j_sub [2, 3, 4, 0] rfl ?_
                        exact ihlr48 (e9 + 1) (r) (by rw [sInC_s er ht hcnt hlf (by omega)]; exact (if_neg (fun q => hA ⟨q.1, q.2.1, q.2.2.1⟩)).symm)  (by omega) (by omega)
                      · skip
                        have hA : ¬ r f = -1 ∧ ¬ r e9 = -1 ∧ ¬ r e9 = r f := by have h9 := zB_1 h95; simp only [Bool.and_eq_true, Bool.not_eq_true', decide_eq_false_iff_not] at h9; exact ⟨h9.1.1, h9.1.2, h9.2⟩
                        refine j_aload_n Z dX6_lay_98 1 rfl ?_
                        refine j_iload_n Z dX6_lay_99 3 rfl ?_
                        refine j_iload_n Z dX6_lay_100 4 rfl ?_
                        refine j_callVi Z (As := [.int (nI f), .int (nI e9)]) (rest := []) (nA := 2) 31 (by decide) rfl rfl (c_X6_areSame l g (gR μ 47 r) f e9 (by omega) (by omega)) gX6_lay_X6_areSame rfl rfl rfl (by decide +kernel) (by decide) rfl dX6_lay_101 rfl (Nat.le_of_ble_eq_true rfl) (by decide) (fun r9 μ9 hp => ?_)
                        have hq : r9 = zB (mJoin (gR μ 47 r) e9 f) ∧ μ9 = (gR μ 47 r) := hp
                        rw [mJoin_R (by omega)] at hq
                        refine j_mem hq.2 ?_
                        refine j_eq hq.1 ?_
                        clear hq hp
                        refine j_if_eq Z 123 dX6_lay_104 (by decide) (fun h104 => ?_) (fun h104 => ?_)
                        · skip
                          refine j_iinc Z dX6_lay_123 4 rfl (nI_1 e9) (by decide) [(3, .int (nI (e9 + 1))), (4, .int (zB (!decide (r f = -1) && !decide (r e9 = -1) && !decide (r e9 = r f)))), (0, .ref (g.2.1 31)), (1, .int x), (2, .int (nI f))] rfl ?_
                          refine j_goto Z 48 dX6_lay_126 (by decide) ?_
                          refine j_sub [2, 3, 4, 0] rfl ?_
                          exact ihlr48 (e9 + 1) (r) (by rw [sInC_s er ht hcnt hlf (by omega)]; exact (if_neg (fun q => by have h9 := zB_0.mp h104; rw [q.2.2.2] at h9; cases h9)).symm)  (by omega) (by omega)
                        · skip
                          refine j_aload_n Z dX6_lay_107 1 rfl ?_
                          refine j_aload_n Z dX6_lay_108 1 rfl ?_
                          refine j_get Z 31 (by decide) rfl rfl 20 (by decide) rfl inX6_lay_X6 lkX6_lay_57 dX6_lay_109 ?_
                          refine j_iload_n Z dX6_lay_112 3 rfl ?_
                          refine j_ild Z 47 (by decide) (fun _ => rfl) f rfl (by omega) (by decide) dX6_lay_113 ?_
                          refine j_eq (y := r f) (by rw [gR_s]) ?_
                          refine j_aload_n Z dX6_lay_114 1 rfl ?_
                          refine j_get Z 31 (by decide) rfl rfl 20 (by decide) rfl inX6_lay_X6 lkX6_lay_57 dX6_lay_115 ?_
                          refine j_iload_n Z dX6_lay_118 4 rfl ?_
                          refine j_ild Z 47 (by decide) (fun _ => rfl) e9 rfl (by omega) (by decide) dX6_lay_119 ?_
                          refine j_eq (y := r e9) (by rw [gR_s]) ?_
                          refine j_callVv Z (As := [.int (r f), .int (r e9)]) (rest := []) (nA := 2) 31 (by decide) rfl rfl (c_X6_join l g (gR μ 47 r) cnt hcnt mc (r f) (r e9)) gX6_lay_X6_join rfl rfl rfl (by decide +kernel) (by decide) rfl dX6_lay_120 rfl (Nat.le_of_ble_eq_true rfl) (by decide) (fun μ9 hp => ?_)
                          have hq : μ9 = gR (gR μ 47 r) 47 (sMerge cnt (r f) (r e9) r) := hp
                          rw [gR_R, sMerge_c] at hq
                          refine j_mem hq ?_
                          clear hq hp
                          refine j_iinc Z dX6_lay_123 4 rfl (nI_1 e9) (by decide) [(3, .int (nI (e9 + 1))), (4, .int (zB (!decide (r f = -1) && !decide (r e9 = -1) && !decide (r e9 = r f)))), (0, .ref (g.2.1 31)), (1, .int x), (2, .int (nI f))] rfl ?_
                          refine j_goto Z 48 dX6_lay_126 (by decide) ?_
                          refine j_sub [2, 3, 4, 0] rfl ?_
                          exact ihlr48 (e9 + 1) (sMerge cnt (r e9) (r f) r) (by rw [sInC_s er ht hcnt hlf (by omega)]; exact (if_pos ⟨hA.1, hA.2.1, hA.2.2, zB_1 h104⟩).symm)  (by omega) (by omega)
                    refine j_aload_n Z dX6_lay_53 0 rfl ?_
                    refine j_get Z 31 (by decide) rfl rfl 20 (by decide) rfl inX6_lay_X6 lkX6_lay_57 dX6_lay_54 ?_
                    refine j_iload_n Z dX6_lay_57 2 rfl ?_
                    refine j_ild Z 47 (by decide) (fun _ => rfl) f rfl (by omega) (by decide) dX6_lay_58 ?_
                    refine j_eq (y := r f) (by rw [gR_s]) ?_
                    refine j_if_lt Z 90 dX6_lay_59 (by decide) (fun h59 => ?_) (fun h59 => ?_)
                    · skip
                      refine j_iconst Z (v := 0) dX6_lay_90 (by decide) ?_
                      refine j_sub [0, 1, 2, 3] rfl ?_
                      exact j_eq (by have g1 := th_neg hr hcnt (show f < cnt by omega); have g2 := th_neg hr hcnt (show e9 < cnt by omega); rw [g1] at h59; simp [zB, h59]) jp91
                    · skip
                      refine j_aload_n Z dX6_lay_62 0 rfl ?_
                      refine j_get Z 31 (by decide) rfl rfl 20 (by decide) rfl inX6_lay_X6 lkX6_lay_57 dX6_lay_63 ?_
                      refine j_iload_n Z dX6_lay_66 3 rfl ?_
                      refine j_ild Z 47 (by decide) (fun _ => rfl) e9 rfl (by omega) (by decide) dX6_lay_67 ?_
                      refine j_eq (y := r e9) (by rw [gR_s]) ?_
                      refine j_if_lt Z 90 dX6_lay_68 (by decide) (fun h68 => ?_) (fun h68 => ?_)
                      · skip
                        refine j_iconst Z (v := 0) dX6_lay_90 (by decide) ?_
                        refine j_sub [0, 1, 2, 3] rfl ?_
                        exact j_eq (by have g1 := th_neg hr hcnt (show f < cnt by omega); have g2 := th_neg hr hcnt (show e9 < cnt by omega); rw [g1] at h59; rw [g2] at h68; simp [zB, h59, h68]) jp91
                      · skip
                        refine j_aload_n Z dX6_lay_71 0 rfl ?_
                        refine j_get Z 31 (by decide) rfl rfl 20 (by decide) rfl inX6_lay_X6 lkX6_lay_57 dX6_lay_72 ?_
                        refine j_iload_n Z dX6_lay_75 2 rfl ?_
                        refine j_ild Z 47 (by decide) (fun _ => rfl) f rfl (by omega) (by decide) dX6_lay_76 ?_
                        refine j_eq (y := r f) (by rw [gR_s]) ?_
                        refine j_aload_n Z dX6_lay_77 0 rfl ?_
                        refine j_get Z 31 (by decide) rfl rfl 20 (by decide) rfl inX6_lay_X6 lkX6_lay_57 dX6_lay_78 ?_
                        refine j_iload_n Z dX6_lay_81 3 rfl ?_
                        refine j_ild Z 47 (by decide) (fun _ => rfl) e9 rfl (by omega) (by decide) dX6_lay_82 ?_
                        refine j_eq (y := r e9) (by rw [gR_s]) ?_
                        refine j_icmp_eq Z 90 dX6_lay_83 (by decide) (fun h83 => ?_) (fun h83 => ?_)
                        · skip
                          refine j_iconst Z (v := 0) dX6_lay_90 (by decide) ?_
                          refine j_sub [0, 1, 2, 3] rfl ?_
                          exact j_eq (by have g1 := th_neg hr hcnt (show f < cnt by omega); have g2 := th_neg hr hcnt (show e9 < cnt by omega); rw [g1] at h59; rw [g2] at h68; simp [zB, h59, h68, h83, eq_comm]) jp91
                        · skip
                          refine j_iconst Z (v := 1) dX6_lay_86 (by decide) ?_
                          refine j_goto Z 91 dX6_lay_87 (by decide) ?_
                          refine j_sub [0, 1, 2, 3] rfl ?_
                          exact j_eq (by have g1 := th_neg hr hcnt (show f < cnt by omega); have g2 := th_neg hr hcnt (show e9 < cnt by omega); rw [g1] at h59; rw [g2] at h68; simp [zB, h59, h68, h83, eq_comm]) jp91
              refine j_sub [1, 2, 3, 0] rfl ?_
              exact lr48 (f + 2) 0 (t) (sInC_0)  (by omega) (by omega)
        refine j_sub [1, 2, 0] rfl ?_
        exact lq38 (cnt + 2) 0 (r) (by rw [er]; rfl)  (by omega) (by omega)
      · skip
        have hlt : i < cnt := by
          rcases Nat.lt_or_ge i cnt with q9 | q9
          · exact q9
          · exact absurd (nI_le q9 (by omega)) h7
        refine j_aload_n Z dX6_lay_10 0 rfl ?_
        refine j_get Z 31 (by decide) rfl rfl 20 (by decide) rfl inX6_lay_X6 lkX6_lay_57 dX6_lay_11 ?_
        refine j_iload_n Z dX6_lay_14 2 rfl ?_
        refine j_aload_n Z dX6_lay_15 0 rfl ?_
        refine j_iload_n Z dX6_lay_16 2 rfl ?_
        refine j_iload_n Z dX6_lay_17 1 rfl ?_
        refine j_callVi Z (As := [.int (nI i), .int x]) (rest := [.int (nI i), .ref (g.2.1 47)]) (nA := 2) 31 (by decide) rfl rfl (c_X6_countsOn l g (gR μ 47 r) i x (by omega) ms) gX6_lay_X6_countsOn rfl rfl rfl (by decide +kernel) (by decide) rfl dX6_lay_18 rfl (Nat.le_of_ble_eq_true rfl) (by decide) (fun r9 μ9 hp => ?_)
        have hq : r9 = zB (mStand (gR μ 47 r) i x) ∧ μ9 = (gR μ 47 r) := hp
        rw [mStand_R (by omega)] at hq
        refine j_mem hq.2 ?_
        refine j_eq hq.1 ?_
        clear hq hp
        refine j_if_eq Z 28 dX6_lay_21 (by decide) (fun h21 => ?_) (fun h21 => ?_)
        · skip
          refine j_iconst Z (v := -1) dX6_lay_28 (by decide) ?_
          refine j_ist Z 47 (by decide) (fun _ => rfl) i rfl (by omega) (by decide)  dX6_lay_29 ?_
          refine j_mem (μ' := (gR μ 47 (upd r i (-1)))) gU_R ?_
          refine j_iinc Z dX6_lay_30 2 rfl (nI_1 i) (by decide) [(2, .int (nI (i + 1))), (0, .ref (g.2.1 31)), (1, .int x)] rfl ?_
          refine j_goto Z 2 dX6_lay_33 (by decide) ?_
          refine j_sub [1, 2, 0] rfl ?_
          exact ihlp2 (i + 1) (upd r i (-1)) (by rw [er]; exact s0_s (by simp_all [zB_0]))  (by omega) (by omega)
        · skip
          refine j_iload_n Z dX6_lay_24 2 rfl ?_
          refine j_goto Z 29 dX6_lay_25 (by decide) ?_
          refine j_ist Z 47 (by decide) (fun _ => rfl) i rfl (by omega) (by decide)  dX6_lay_29 ?_
          refine j_mem (μ' := (gR μ 47 (upd r i (nI i)))) gU_R ?_
          refine j_iinc Z dX6_lay_30 2 rfl (nI_1 i) (by decide) [(2, .int (nI (i + 1))), (0, .ref (g.2.1 31)), (1, .int x)] rfl ?_
          refine j_goto Z 2 dX6_lay_33 (by decide) ?_
          refine j_sub [1, 2, 0] rfl ?_
          exact ihlp2 (i + 1) (upd r i (nI i)) (by rw [er]; exact s0_s (by simp_all [zB_0]))  (by omega) (by omega)
  refine j_sub [1, 2, 0] rfl ?_
  refine j_mem (gR_id (k := 47) (r := μ 47) rfl) ?_
  exact lp2 (cnt + 2) 0 (μ 47) (s0_0)  (by omega) (by omega)
theorem lkX6_countThings_70 : Cond.fieldLink RX6 70 (TX6 4).1 (TX6 4).2.1 (TX6 4).2.2.1 ∈ wsX6_countThings := by decide +kernel
theorem inX6_countThings_X6 : ∀ w ∈ u_ws RX6 TX6 23, w ∈ wsX6_countThings := by decide +kernel
theorem lkX6_countThings_57 : Cond.fieldLink RX6 57 (TX6 20).1 (TX6 20).2.1 (TX6 20).2.2.1 ∈ wsX6_countThings := by decide +kernel
set_option maxRecDepth 100000 in
set_option maxHeartbeats 4000000 in
theorem c_X6_countThings (l : Launch) (g : gC) (μ : gM) (cnt : Nat) (hcnt : cnt ≤ 60) (mc : μ 31 4 = nI cnt)  : Met l yX6_countThings wsX6_countThings { frames := 0, cells := 0, slots := 0, locals := 0 } (va_Pc [.ref (g.2.1 31)] (gB g μ)) (va_Qi (fun (r : Int32) (μ' : gM) => r = nI (cB (fun k => decide (μ 47 k = nI k)) cnt) ∧ μ' = μ) (gPB g) (gA g)) 0 0 (gA g) := by
  refine g_ofI (cc := cX6_countThings) (nL := 3) (ret := (some .int)) (ty := .int) (by decide +kernel) rfl rfl (fun _ _ _ => rfl) (Nat.le_of_ble_eq_true rfl) ?_
  intro p e s m args below meth c Q Z hR
  refine j_iconst Z (v := 0) dX6_countThings_0 (by decide) ?_
  refine j_istore_n Z dX6_countThings_1 (by decide) [(1, .int 0), (0, .ref (g.2.1 31))] rfl ?_
  refine j_iconst Z (v := 0) dX6_countThings_2 (by decide) ?_
  refine j_istore_n Z dX6_countThings_3 (by decide) [(2, .int 0), (1, .int 0), (0, .ref (g.2.1 31))] rfl ?_
  have lp4 : ∀ (nlp4 i : Nat) (b : Nat), b = cB (fun k => decide (μ 47 k = nI k)) i → cnt + 2 ≤ i + nlp4 → i ≤ cnt → J p l e { frames := 0, cells := 0, slots := 0, locals := 0 } s m args below meth c Q g 3 μ (0) (0) 4 [(0, .ref (g.2.1 31)), (1, .int (nI b)), (2, .int (nI i))] [] := by
    intro nlp4
    induction nlp4 with
    | zero => intro i b eb hn hg; exact absurd hn (by omega)
    | succ nlp4 ihlp4 =>
      intro i b eb hn hg
      refine j_iload_n Z dX6_countThings_4 2 rfl ?_
      refine j_aload_n Z dX6_countThings_5 0 rfl ?_
      refine j_get Z 31 (by decide) rfl rfl 4 (by decide) rfl inX6_countThings_X6 lkX6_countThings_70 dX6_countThings_6 ?_
      refine j_eq mc ?_
      refine j_icmp_ge Z 36 dX6_countThings_9 (by decide) (fun h9 => ?_) (fun h9 => ?_)
      · skip
        have hic : i = cnt := by
          have hq := (nI_leI (a := cnt) (b := i) (by omega) (by omega)).mp h9
          omega
        rw [hic] at eb
        refine j_iload_n Z dX6_countThings_36 1 rfl ?_
        exact hR _ _ _ _ _ _ (⟨by rw [eb], rfl⟩) (by decide) (by decide) dX6_countThings_37
      · skip
        have hlt : i < cnt := by
          rcases Nat.lt_or_ge i cnt with q9 | q9
          · exact q9
          · exact absurd (nI_le q9 (by omega)) h9
        refine j_iload_n Z dX6_countThings_12 1 rfl ?_
        have jp28 : J p l e { frames := 0, cells := 0, slots := 0, locals := 0 } s m args below meth c Q g 3 μ (0) (0) 28 [(0, .ref (g.2.1 31)), (1, .int (nI b)), (2, .int (nI i))] [.int (if μ 47 i = nI i then 1 else 0), .int (nI b)] := by
          refine j_iadd Z dX6_countThings_28 ?_
          refine j_eq (cB_add (b := b) (c := μ 47 i = nI i)) ?_
          refine j_istore_n Z dX6_countThings_29 (by decide) [(1, .int (nI (b + (if μ 47 i = nI i then 1 else 0)))), (0, .ref (g.2.1 31)), (2, .int (nI i))] rfl ?_
          refine j_iinc Z dX6_countThings_30 2 rfl (nI_1 i) (by decide) [(2, .int (nI (i + 1))), (1, .int (nI (b + (if μ 47 i = nI i then 1 else 0)))), (0, .ref (g.2.1 31))] rfl ?_
          refine j_goto Z 4 dX6_countThings_33 (by decide) ?_
          refine j_sub [2, 1, 0] rfl ?_
          exact ihlp4 (i + 1) (b + (if μ 47 i = nI i then 1 else 0)) (by rw [eb]; show _ = cB _ i + (if decide (μ 47 i = nI i) = true then 1 else 0); simp only [decide_eq_true_eq])  (by omega) (by omega)
        refine j_aload_n Z dX6_countThings_13 0 rfl ?_
        refine j_get Z 31 (by decide) rfl rfl 20 (by decide) rfl inX6_countThings_X6 lkX6_countThings_57 dX6_countThings_14 ?_
        refine j_iload_n Z dX6_countThings_17 2 rfl ?_
        refine j_ild Z 47 (by decide) (fun _ => rfl) i rfl (by omega) (by decide) dX6_countThings_18 ?_
        refine j_iload_n Z dX6_countThings_19 2 rfl ?_
        refine j_icmp_ne Z 27 dX6_countThings_20 (by decide) (fun h20 => ?_) (fun h20 => ?_)
        · skip
          refine j_iconst Z (v := 0) dX6_countThings_27 (by decide) ?_
          refine j_sub [0, 1, 2] rfl ?_
          exact j_eq (by first | exact (if_pos h20).symm | exact (if_neg h20).symm) jp28
        · skip
          refine j_iconst Z (v := 1) dX6_countThings_23 (by decide) ?_
          refine j_goto Z 28 dX6_countThings_24 (by decide) ?_
          refine j_sub [0, 1, 2] rfl ?_
          exact j_eq (by first | exact (if_pos h20).symm | exact (if_neg h20).symm) jp28
  refine j_sub [2, 1, 0] rfl ?_
  exact lp4 (cnt + 2) 0 (0) (rfl)  (by omega) (by omega)
