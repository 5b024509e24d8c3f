set_option maxRecDepth 100000 in
set_option maxHeartbeats 4000000 in
theorem c_X6_things (l : Launch) (g : gC) (μ : gM) (cnt lc wc : Nat) (pl : Nat → Nat) (hV : mV μ cnt lc wc pl) (y : Int32) (v : Int32) (ev : v = k1 (inB y 0 9999)) : Met l yX6_things wsX6_things { frames := 3, cells := 0, slots := 0, locals := 72 } (va_Pc [.ref (g.2.1 31), .int y] (gB g μ)) (va_Qi (fun (r : Int32) (μ' : gM) => r = (if v = 0 then nI (cB (fun k => decide ((mSort μ cnt y (μ 47)) k = nI k)) cnt) else 0) ∧ μ' = (if v = 0 then gR (gU μ 31 0 v) 47 (mSort μ cnt y (μ 47)) else (gU μ 31 0 v))) (gPB g) (gA g)) 0 0 (gA g) := by
  refine g_ofI (cc := cX6_things) (nL := 2) (ret := (some .int)) (ty := .int) (by decide +kernel) rfl rfl (fun _ _ _ => rfl) (Nat.le_of_ble_eq_true rfl) ?_
  intro p e s m args below meth c Q Z hR
  obtain ⟨hcnt, mc, hlc, ml, hwc, mw, ms, m1, m2, m12, mm, ma, mt, mp, md⟩ := hV
  refine j_aload_n Z dX6_things_0 0 rfl ?_
  have jp13 : J p l e { frames := 3, cells := 0, slots := 0, locals := 72 } s m args below meth c Q g 2 μ (0) (0) 13 [(0, .ref (g.2.1 31)), (1, .int y)] [.int v, .ref (g.2.1 31)] := by
    refine j_callVi Z (As := [.int v]) (rest := []) (nA := 1) 31 (by decide) rfl rfl (c_X6_refused l g μ v) gX6_things_X6_refused rfl rfl rfl (by decide +kernel) (by decide) rfl dX6_things_13 rfl (Nat.le_of_ble_eq_true rfl) (by decide) (fun r9 μ9 hp => ?_)
    have hq : r9 = zB (decide (¬ v = 0)) ∧ μ9 = (gU μ 31 0 v) := hp
    refine j_mem hq.2 ?_
    refine j_eq hq.1 ?_
    clear hq hp
    refine j_if_eq Z 21 dX6_things_16 (by decide) (fun h16 => ?_) (fun h16 => ?_)
    · skip
      have f16 := zB_0.mp h16
      have hv := dec_ne f16
      have hk := k1_z (ev.symm.trans hv)
      obtain ⟨S, hS⟩ : ∃ S, mSort μ cnt y (μ 47) = S := ⟨_, rfl⟩
      have okS : thOk cnt S := mS_ok hS hcnt
      refine j_aload_n Z dX6_things_21 0 rfl ?_
      refine j_iload_n Z dX6_things_22 1 rfl ?_
      refine j_callVv Z (As := [.int y]) (rest := []) (nA := 1) 31 (by decide) rfl rfl (c_X6_lay l g (gU μ 31 0 v) cnt hcnt mc y ms) gX6_things_X6_lay rfl rfl rfl (by decide +kernel) (by decide) rfl dX6_things_23 rfl (Nat.le_of_ble_eq_true rfl) (by decide) (fun μ9 hp => ?_)
      have hq : μ9 = gR (gU μ 31 0 v) 47 (mSort μ cnt y (μ 47)) := hp
      rw [hS] at hq
      refine j_mem hq ?_
      clear hq hp
      refine j_aload_n Z dX6_things_26 0 rfl ?_
      refine j_callVi Z (As := []) (rest := []) (nA := 0) 31 (by decide) rfl rfl (c_X6_countThings l g (gR (gU μ 31 0 v) 47 S) cnt hcnt mc) gX6_things_X6_countThings rfl rfl rfl (by decide +kernel) (by decide) rfl dX6_things_27 rfl (Nat.le_of_ble_eq_true rfl) (by decide) (fun r9 μ9 hp => ?_)
      have hq : r9 = nI (cB (fun k => decide (S k = nI k)) cnt) ∧ μ9 = (gR (gU μ 31 0 v) 47 S) := hp
      refine j_mem hq.2 ?_
      refine j_eq hq.1 ?_
      clear hq hp
      exact hR _ _ _ _ _ _ (⟨by rw [if_pos hv, hS], by rw [if_pos hv, hS]⟩) (by decide) (by decide) dX6_things_30
    · skip
      have f16 := zB_1 h16
      have hv := dec_ne1 f16
      refine j_iconst Z (v := 0) dX6_things_19 (by decide) ?_
      exact hR _ _ _ _ _ _ (⟨(if_neg hv).symm, (if_neg hv).symm⟩) (by decide) (by decide) dX6_things_20
  refine j_iload_n Z dX6_things_1 1 rfl ?_
  refine j_callSi Z (As := [.int y]) (rest := [.ref (g.2.1 31)]) (nA := 1) (c_X6_isDay l g μ y) gX6_things_X6_isDay rfl rfl rfl (by decide +kernel) (by decide) rfl dX6_things_2 rfl (Nat.le_of_ble_eq_true rfl) (by decide) (fun r9 μ9 hp => ?_)
  have hq : r9 = zB (inB y 0 9999) ∧ μ9 = μ := hp
  refine j_mem hq.2 ?_
  refine j_eq hq.1 ?_
  clear hq hp
  refine j_if_eq Z 12 dX6_things_5 (by decide) (fun h5 => ?_) (fun h5 => ?_)
  · skip
    have f5 := zB_0.mp h5
    refine j_iconst Z (v := 1) dX6_things_12 (by decide) ?_
    refine j_sub [0, 1] rfl ?_
    exact j_eq (by rw [ev]; first | (simp [k1, f5]; done) | (clear jp13; simp_all [k1])) jp13
  · skip
    have f5 := zB_1 h5
    refine j_iconst Z (v := 0) dX6_things_8 (by decide) ?_
    refine j_goto Z 13 dX6_things_9 (by decide) ?_
    refine j_sub [0, 1] rfl ?_
    exact j_eq (by rw [ev]; first | (simp [k1, f5]; done) | (clear jp13; simp_all [k1])) jp13
theorem lkX6_failsWith_57 : Cond.fieldLink RX6 57 (TX6 20).1 (TX6 20).2.1 (TX6 20).2.2.1 ∈ wsX6_failsWith := by decide +kernel
theorem inX6_failsWith_X6 : ∀ w ∈ u_ws RX6 TX6 23, w ∈ wsX6_failsWith := by decide +kernel
theorem lkX6_failsWith_63 : Cond.fieldLink RX6 63 (TX6 22).1 (TX6 22).2.1 (TX6 22).2.2.1 ∈ wsX6_failsWith := by decide +kernel
set_option maxRecDepth 100000 in
set_option maxHeartbeats 4000000 in
theorem c_X6_failsWith (l : Launch) (g : gC) (μ : gM) (cnt lc wc : Nat) (pl : Nat → Nat) (hV : mV μ cnt lc wc pl) (x y z : Int32) (v : Int32) (ev : v = k3 (fndB cnt x && fndB cnt y) (inB z 0 9999) (!decide ((mSort μ cnt z (μ 47)) (ix x) = -1) && !decide ((mSort μ cnt z (μ 47)) (ix y) = -1))) : Met l yX6_failsWith wsX6_failsWith { frames := 4, cells := 0, slots := 0, locals := 95 } (va_Pc [.ref (g.2.1 31), .int x, .int y, .int z] (gB g μ)) (va_Qi (fun (r : Int32) (μ' : gM) => r = (if v = 0 then zB (!decide ((mImp μ lc cnt z (ix y)) (ix ((mSort μ cnt z (μ 47)) (ix x))) = 0)) else 0) ∧ μ' = (if v = 0 then gR (gU (lkM μ cnt z ((fndB cnt x && fndB cnt y) && inB z 0 9999)) 31 0 v) 49 (mImp μ lc cnt z (ix y)) else (gU (lkM μ cnt z ((fndB cnt x && fndB cnt y) && inB z 0 9999)) 31 0 v))) (gPB g) (gA g)) 0 0 (gA g) := by
  refine g_ofI (cc := cX6_failsWith) (nL := 7) (ret := (some .boolean)) (ty := .boolean) (by decide +kernel) rfl rfl (by rintro _ _ ⟨rfl, -⟩; exact zB_nv) (Nat.le_of_ble_eq_true rfl) ?_
  intro p e s m args below meth c Q Z hR
  obtain ⟨hcnt, mc, hlc, ml, hwc, mw, ms, m1, m2, m12, mm, ma, mt, mp, md⟩ := hV
  have jp21 : J p l e { frames := 4, cells := 0, slots := 0, locals := 95 } s m args below meth c Q g 7 μ (0) (0) 21 [(0, .ref (g.2.1 31)), (1, .int x), (2, .int y), (3, .int z)] [.int (zB (fndB cnt x && fndB cnt y))] := by
    refine j_istore Z dX6_failsWith_21 (by decide) [(4, .int (zB (fndB cnt x && fndB cnt y))), (0, .ref (g.2.1 31)), (1, .int x), (2, .int y), (3, .int z)] rfl ?_
    have jn72 : J p l e { frames := 4, cells := 0, slots := 0, locals := 95 } s m args below meth c Q g 7 (lkM μ cnt z ((fndB cnt x && fndB cnt y) && inB z 0 9999)) (0) (0) 72 [(0, .ref (g.2.1 31)), (1, .int x), (2, .int y), (3, .int z)] [.int v, .ref (g.2.1 31)] := by
      refine j_callVi Z (As := [.int v]) (rest := []) (nA := 1) 31 (by decide) rfl rfl (c_X6_refused l g (lkM μ cnt z ((fndB cnt x && fndB cnt y) && inB z 0 9999)) v) gX6_failsWith_X6_refused rfl rfl rfl (by decide +kernel) (by decide) rfl dX6_failsWith_72 rfl (Nat.le_of_ble_eq_true rfl) (by decide) (fun r9 μ9 hp => ?_)
      have hq : r9 = zB (decide (¬ v = 0)) ∧ μ9 = (gU (lkM μ cnt z ((fndB cnt x && fndB cnt y) && inB z 0 9999)) 31 0 v) := hp
      refine j_mem hq.2 ?_
      refine j_eq hq.1 ?_
      clear hq hp
      refine j_if_eq Z 80 dX6_failsWith_75 (by decide) (fun h75 => ?_) (fun h75 => ?_)
      · skip
        have f75 := zB_0.mp h75
        have hv := dec_ne f75
        have hk := k3_z (ev.symm.trans hv)
        simp only [Bool.and_eq_true] at hk
        obtain ⟨ex, lx⟩ := fnd_ix hk.1.1 hcnt
        obtain ⟨ey, ly⟩ := fnd_ix hk.1.2 hcnt
        obtain ⟨S, hS⟩ : ∃ S, mSort μ cnt z (μ 47) = S := ⟨_, rfl⟩
        have okS : thOk cnt S := mS_ok hS hcnt
        have hm : lkM μ cnt z ((fndB cnt x && fndB cnt y) && inB z 0 9999) = gR μ 47 S := by rw [lkM_t (by simp [hk.1.1, hk.1.2, hk.2.1]), hS]
        rw [hS] at hk
        obtain ⟨q, lq, eq9⟩ := th_j okS ly hk.2.2.2
        obtain ⟨q1, lq1, eq1⟩ := th_j okS lx hk.2.2.1
        refine j_mem (μ' := (gU (gR μ 47 S) 31 0 v)) (by rw [hm]) ?_
        refine j_aload_n Z dX6_failsWith_80 0 rfl ?_
        refine j_aload_n Z dX6_failsWith_81 0 rfl ?_
        refine j_get Z 31 (by decide) rfl rfl 20 (by decide) rfl inX6_failsWith_X6 lkX6_failsWith_57 dX6_failsWith_82 ?_
        refine j_iload_n Z dX6_failsWith_85 2 rfl ?_
        refine j_eq ey ?_
        refine j_ild Z 47 (by decide) (fun _ => rfl) (ix y) rfl (by omega) (by decide) dX6_failsWith_86 ?_
        refine j_eq (y := S (ix y)) (by rw [gU_n (k := 31) (j := 47) (by omega), gR_s]) ?_
        refine j_eq eq9 ?_
        refine j_callVi Z (As := [.int (nI q)]) (rest := []) (nA := 1) 31 (by decide) rfl rfl (c_X6_spread l g (gU (gR μ 47 S) 31 0 v) cnt hcnt mc lc hlc ml m1 m2 m12 okS q (by omega)) gX6_failsWith_X6_spread rfl rfl rfl (by decide +kernel) (by decide) rfl dX6_failsWith_87 rfl (Nat.le_of_ble_eq_true rfl) (by decide) (fun r9 μ9 hp => ?_)
        have hq : r9 = nI (cF cnt (mFail (gR μ 47 S) lc cnt q)) ∧ μ9 = gR (gU (gR μ 47 S) 31 0 v) 49 (mFail (gR μ 47 S) lc cnt q) := hp
        refine j_mem hq.2 ?_
        refine j_eq hq.1 ?_
        clear hq hp
        refine j_pop Z dX6_failsWith_90 rfl ?_
        refine j_aload_n Z dX6_failsWith_91 0 rfl ?_
        refine j_get Z 31 (by decide) rfl rfl 22 (by decide) rfl inX6_failsWith_X6 lkX6_failsWith_63 dX6_failsWith_92 ?_
        refine j_aload_n Z dX6_failsWith_95 0 rfl ?_
        refine j_get Z 31 (by decide) rfl rfl 20 (by decide) rfl inX6_failsWith_X6 lkX6_failsWith_57 dX6_failsWith_96 ?_
        refine j_iload_n Z dX6_failsWith_99 1 rfl ?_
        refine j_eq ex ?_
        refine j_ild Z 47 (by decide) (fun _ => rfl) (ix x) rfl (by omega) (by decide) dX6_failsWith_100 ?_
        refine j_eq (y := S (ix x)) (by rw [gR_n (k := 49) (j := 47) (by omega), gU_n (k := 31) (j := 47) (by omega), gR_s]) ?_
        refine j_eq eq1 ?_
        refine j_zld Z 49 (by decide) (fun _ => rfl) q1 rfl (by omega) (by decide) dX6_failsWith_101 ?_
        refine j_eq (y := (mFail (gR μ 47 S) lc cnt q) q1) (by rw [gR_s]) ?_
        refine j_eq (bit_zB (bitM_F (show q1 < cnt by omega))) ?_
        exact hR _ _ _ _ _ _ (⟨by rw [if_pos hv]; unfold mImp; rw [hS, eq9, eq1, ix_nI (show q < 2 ^ 31 by omega), ix_nI (show q1 < 2 ^ 31 by omega)], by rw [if_pos hv]; unfold mImp; rw [hm, hS, eq9, ix_nI (by omega)]⟩) (by decide) (by decide) dX6_failsWith_102
      · skip
        have f75 := zB_1 h75
        have hv := dec_ne1 f75
        refine j_iconst Z (v := 0) dX6_failsWith_78 (by decide) ?_
        exact hR _ _ _ _ _ _ (⟨(if_neg hv).symm, (if_neg hv).symm⟩) (by decide) (by decide) dX6_failsWith_79
    refine j_iload Z dX6_failsWith_23 0 rfl ?_
    refine j_if_eq Z 38 dX6_failsWith_25 (by decide) (fun h25 => ?_) (fun h25 => ?_)
    · skip
      have f25 := zB_0.mp h25
      refine j_iconst Z (v := 1) dX6_failsWith_38 (by decide) ?_
      refine j_istore Z dX6_failsWith_39 (by decide) [(5, .int 1), (4, .int (zB (fndB cnt x && fndB cnt y))), (0, .ref (g.2.1 31)), (1, .int x), (2, .int y), (3, .int z)] rfl ?_
      refine j_iload Z dX6_failsWith_41 1 rfl ?_
      refine j_if_eq Z 56 dX6_failsWith_43 (by decide) (fun h43 => ?_) (fun h43 => ?_)
      · skip
        have f43 := zB_0.mp h43
        refine j_iconst Z (v := 1) dX6_failsWith_56 (by decide) ?_
        refine j_istore Z dX6_failsWith_57 (by decide) [(6, .int 1), (5, .int 1), (4, .int (zB (fndB cnt x && fndB cnt y))), (0, .ref (g.2.1 31)), (1, .int x), (2, .int y), (3, .int z)] rfl ?_
        refine j_aload_n Z dX6_failsWith_59 3 rfl ?_
        refine j_iload Z dX6_failsWith_60 1 rfl ?_
        refine j_if_ne Z 70 dX6_failsWith_62 (by decide) (fun h62 => ?_) (fun h62 => ?_)
        · skip
          refine j_iload Z dX6_failsWith_70 1 rfl ?_
          refine j_sub [3, 4, 5, 6] rfl ?_
          refine j_eq (y := v) (by rw [ev, f25]; rfl) ?_
          refine j_mem (lkM_f (μ := μ) (cnt := cnt) (y := z) (c := ((fndB cnt x && fndB cnt y) && inB z 0 9999)) (by rw [f25]; rfl)).symm ?_
          exact jn72
        · skip
          exact absurd h62 (by decide)
      · skip
        have f43 := zB_1 h43
        exact absurd (f25.symm.trans f43) (by decide)
    · skip
      have f25 := zB_1 h25
      refine j_aload_n Z dX6_failsWith_28 1 rfl ?_
      refine j_iload_n Z dX6_failsWith_29 2 rfl ?_
      refine j_iload_n Z dX6_failsWith_30 4 rfl ?_
      refine j_iconst Z (v := 1) dX6_failsWith_31 (by decide) ?_
      refine j_callVi Z (As := [.int x, .int z, .int 1]) (rest := []) (nA := 3) 31 (by decide) rfl rfl (c_X6_looked l g μ cnt hcnt mc ms x z true) gX6_failsWith_X6_looked rfl rfl rfl (by decide +kernel) (by decide) rfl dX6_failsWith_32 rfl (Nat.le_of_ble_eq_true rfl) (by decide) (fun r9 μ9 hp => ?_)
      have hq : r9 = lkC μ cnt x z true ∧ μ9 = lkM μ cnt z (fndB cnt x && (true && inB z 0 9999)) := hp
      rw [show (fndB cnt x && (true && inB z 0 9999)) = ((fndB cnt x && fndB cnt y) && inB z 0 9999) by rw [f25, (and_b f25).1]; rfl] at hq
      refine j_mem hq.2 ?_
      refine j_eq hq.1 ?_
      clear hq hp
      refine j_goto Z 39 dX6_failsWith_35 (by decide) ?_
      refine j_istore Z dX6_failsWith_39 (by decide) [(5, .int (lkC μ cnt x z true)), (4, .int (zB (fndB cnt x && fndB cnt y))), (0, .ref (g.2.1 31)), (1, .int x), (2, .int y), (3, .int z)] rfl ?_
      refine j_iload Z dX6_failsWith_41 1 rfl ?_
      refine j_if_eq Z 56 dX6_failsWith_43 (by decide) (fun h43 => ?_) (fun h43 => ?_)
      · skip
        have f43 := zB_0.mp h43
        exact absurd (f25.symm.trans f43) (by decide)
      · skip
        have f43 := zB_1 h43
        refine j_aload_n Z dX6_failsWith_46 2 rfl ?_
        refine j_iload_n Z dX6_failsWith_47 4 rfl ?_
        refine j_iload_n Z dX6_failsWith_48 5 rfl ?_
        refine j_iconst Z (v := 1) dX6_failsWith_49 (by decide) ?_
        refine j_callVi Z (As := [.int y, .int z, .int 1]) (rest := []) (nA := 3) 31 (by decide) rfl rfl (c_X6_looked l g (lkM μ cnt z ((fndB cnt x && fndB cnt y) && inB z 0 9999)) cnt hcnt (by rw [lkM_n (by decide)]; exact mc) (by rw [lkM_n (by decide)]; exact ms) y z true) gX6_failsWith_X6_looked rfl rfl rfl (by decide +kernel) (by decide) rfl dX6_failsWith_50 rfl (Nat.le_of_ble_eq_true rfl) (by decide) (fun r9 μ9 hp => ?_)
        have hq : r9 = lkC (lkM μ cnt z ((fndB cnt x && fndB cnt y) && inB z 0 9999)) cnt y z true ∧ μ9 = lkM (lkM μ cnt z ((fndB cnt x && fndB cnt y) && inB z 0 9999)) cnt z (fndB cnt y && (true && inB z 0 9999)) := hp
        rw [show (fndB cnt y && (true && inB z 0 9999)) = ((fndB cnt x && fndB cnt y) && inB z 0 9999) by rw [f25, (and_b f25).2]; rfl, lkM_2, lkC_2] at hq
        refine j_mem hq.2 ?_
        refine j_eq hq.1 ?_
        clear hq hp
        refine j_goto Z 57 dX6_failsWith_53 (by decide) ?_
        refine j_istore Z dX6_failsWith_57 (by decide) [(6, .int (lkC μ cnt y z true)), (5, .int (lkC μ cnt x z true)), (4, .int (zB (fndB cnt x && fndB cnt y))), (0, .ref (g.2.1 31)), (1, .int x), (2, .int y), (3, .int z)] rfl ?_
        refine j_aload_n Z dX6_failsWith_59 3 rfl ?_
        refine j_iload Z dX6_failsWith_60 1 rfl ?_
        refine j_if_ne Z 70 dX6_failsWith_62 (by decide) (fun h62 => ?_) (fun h62 => ?_)
        · skip
          refine j_iload Z dX6_failsWith_70 1 rfl ?_
          refine j_sub [3, 4, 5, 6] rfl ?_
          refine j_eq (y := v) (by rw [ev]; exact fw_1 f25 h62) ?_
          exact jn72
        · skip
          refine j_iload Z dX6_failsWith_65 0 rfl ?_
          refine j_goto Z 72 dX6_failsWith_67 (by decide) ?_
          refine j_sub [3, 4, 5, 6] rfl ?_
          refine j_eq (y := v) (by rw [ev]; exact fw_2 f25 h62) ?_
          exact jn72
  refine j_aload_n Z dX6_failsWith_0 0 rfl ?_
  refine j_iload_n Z dX6_failsWith_1 1 rfl ?_
  refine j_callVi Z (As := [.int x]) (rest := []) (nA := 1) 31 (by decide) rfl rfl (c_X6_isFind l g μ cnt hcnt mc x) gX6_failsWith_X6_isFind rfl rfl rfl (by decide +kernel) (by decide) rfl dX6_failsWith_2 rfl (Nat.le_of_ble_eq_true rfl) (by decide) (fun r9 μ9 hp => ?_)
  have hq : r9 = zB (fndB cnt x) ∧ μ9 = μ := hp
  refine j_mem hq.2 ?_
  refine j_eq hq.1 ?_
  clear hq hp
  refine j_if_eq Z 20 dX6_failsWith_5 (by decide) (fun h5 => ?_) (fun h5 => ?_)
  · skip
    have f5 := zB_0.mp h5
    refine j_iconst Z (v := 0) dX6_failsWith_20 (by decide) ?_
    refine j_sub [0, 1, 2, 3] rfl ?_
    exact j_eq (by simp [zB, f5]) jp21
  · skip
    have f5 := zB_1 h5
    refine j_aload_n Z dX6_failsWith_8 0 rfl ?_
    refine j_iload_n Z dX6_failsWith_9 2 rfl ?_
    refine j_callVi Z (As := [.int y]) (rest := []) (nA := 1) 31 (by decide) rfl rfl (c_X6_isFind l g μ cnt hcnt mc y) gX6_failsWith_X6_isFind rfl rfl rfl (by decide +kernel) (by decide) rfl dX6_failsWith_10 rfl (Nat.le_of_ble_eq_true rfl) (by decide) (fun r9 μ9 hp => ?_)
    have hq : r9 = zB (fndB cnt y) ∧ μ9 = μ := hp
    refine j_mem hq.2 ?_
    refine j_eq hq.1 ?_
    clear hq hp
    refine j_if_eq Z 20 dX6_failsWith_13 (by decide) (fun h13 => ?_) (fun h13 => ?_)
    · skip
      have f13 := zB_0.mp h13
      refine j_iconst Z (v := 0) dX6_failsWith_20 (by decide) ?_
      refine j_sub [0, 1, 2, 3] rfl ?_
      exact j_eq (by simp [zB, f5, f13]) jp21
    · skip
      have f13 := zB_1 h13
      refine j_iconst Z (v := 1) dX6_failsWith_16 (by decide) ?_
      refine j_goto Z 21 dX6_failsWith_17 (by decide) ?_
      refine j_sub [0, 1, 2, 3] rfl ?_
      exact j_eq (by simp [zB, f5, f13]) jp21
