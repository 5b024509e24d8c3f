theorem lkX6_thingOf_57 : Cond.fieldLink RX6 57 (TX6 20).1 (TX6 20).2.1 (TX6 20).2.2.1 ∈ wsX6_thingOf := by decide +kernel
theorem inX6_thingOf_X6 : ∀ w ∈ u_ws RX6 TX6 23, w ∈ wsX6_thingOf := by decide +kernel
set_option maxRecDepth 100000 in
set_option maxHeartbeats 4000000 in
theorem c_X6_thingOf (l : Launch) (g : gC) (μ : gM) (cnt lc wc : Nat) (pl : Nat → Nat) (hV : mV μ cnt lc wc pl) (x y : Int32) (v : Int32) (ev : v = lkC μ cnt x y true) : Met l yX6_thingOf wsX6_thingOf { frames := 4, cells := 0, slots := 0, locals := 95 } (va_Pc [.ref (g.2.1 31), .int x, .int y] (gB g μ)) (va_Qi (fun (r : Int32) (μ' : gM) => r = (if v = 0 then (mSort μ cnt y (μ 47)) (ix x) else 0) ∧ μ' = (if v = 0 then (gU (lkM μ cnt y (fndB cnt x && (true && inB y 0 9999))) 31 0 v) else (gU (lkM μ cnt y (fndB cnt x && (true && inB y 0 9999))) 31 0 v))) (gPB g) (gA g)) 0 0 (gA g) := by
  refine g_ofI (cc := cX6_thingOf) (nL := 3) (ret := (some .int)) (ty := .int) (by decide +kernel) rfl rfl (fun _ _ _ => rfl) (Nat.le_of_ble_eq_true rfl) ?_
  intro p e s m args below meth c Q Z hR
  obtain ⟨hcnt, mc, hlc, ml, hwc, mw, ms, m1, m2, m12, mm, ma, mt, mp, md⟩ := hV
  refine j_aload_n Z dX6_thingOf_0 0 rfl ?_
  refine j_aload_n Z dX6_thingOf_1 0 rfl ?_
  refine j_iload_n Z dX6_thingOf_2 1 rfl ?_
  refine j_iload_n Z dX6_thingOf_3 2 rfl ?_
  refine j_iconst Z (v := 1) dX6_thingOf_4 (by decide) ?_
  refine j_callVi Z (As := [.int x, .int y, .int 1]) (rest := [.ref (g.2.1 31)]) (nA := 3) 31 (by decide) rfl rfl (c_X6_looked l g μ cnt hcnt mc ms x y true) gX6_thingOf_X6_looked rfl rfl rfl (by decide +kernel) (by decide) rfl dX6_thingOf_5 rfl (Nat.le_of_ble_eq_true rfl) (by decide) (fun r9 μ9 hp => ?_)
  have hq : r9 = lkC μ cnt x y true ∧ μ9 = (lkM μ cnt y (fndB cnt x && (true && inB y 0 9999))) := hp
  rw [← ev] at hq
  refine j_mem hq.2 ?_
  refine j_eq hq.1 ?_
  clear hq hp
  refine j_callVi Z (As := [.int v]) (rest := []) (nA := 1) 31 (by decide) rfl rfl (c_X6_refused l g (lkM μ cnt y (fndB cnt x && (true && inB y 0 9999))) v) gX6_thingOf_X6_refused rfl rfl rfl (by decide +kernel) (by decide) rfl dX6_thingOf_8 rfl (Nat.le_of_ble_eq_true rfl) (by decide) (fun r9 μ9 hp => ?_)
  have hq : r9 = zB (decide (¬ v = 0)) ∧ μ9 = (gU (lkM μ cnt y (fndB cnt x && (true && inB y 0 9999))) 31 0 v) := hp
  refine j_mem hq.2 ?_
  refine j_eq hq.1 ?_
  clear hq hp
  refine j_if_eq Z 18 dX6_thingOf_11 (by decide) (fun h11 => ?_) (fun h11 => ?_)
  · skip
    have f11 := zB_0.mp h11
    have hv := dec_ne f11
    have hk := k3_z (ev.symm.trans hv)
    simp only [Bool.and_eq_true] at hk
    obtain ⟨ex, lx⟩ := fnd_ix hk.1 hcnt
    obtain ⟨S, hS⟩ : ∃ S, mSort μ cnt y (μ 47) = S := ⟨_, rfl⟩
    have okS : thOk cnt S := mS_ok hS hcnt
    have hm : lkM μ cnt y (fndB cnt x && (true && inB y 0 9999)) = gR μ 47 S := by rw [lkM_t (by simp [hk.1, hk.2.1]), hS]
    rw [hS] at hk
    refine j_mem (μ' := (gU (gR μ 47 S) 31 0 v)) (by rw [hm]) ?_
    refine j_aload_n Z dX6_thingOf_18 0 rfl ?_
    refine j_get Z 31 (by decide) rfl rfl 20 (by decide) rfl inX6_thingOf_X6 lkX6_thingOf_57 dX6_thingOf_19 ?_
    refine j_iload_n Z dX6_thingOf_22 1 rfl ?_
    refine j_eq ex ?_
    refine j_ild Z 47 (by decide) (fun _ => rfl) (ix x) rfl (by omega) (by decide) dX6_thingOf_23 ?_
    refine j_eq (y := S (ix x)) (by rw [gU_n (k := 31) (j := 47) (by omega), gR_s]) ?_
    exact hR _ _ _ _ _ _ (⟨by rw [if_pos hv]; rw [hS], by rw [if_pos hv]; rw [hm]⟩) (by decide) (by decide) dX6_thingOf_24
  · skip
    have f11 := zB_1 h11
    have hv := dec_ne1 f11
    refine j_iconst Z (v := 0) dX6_thingOf_14 (by decide) ?_
    refine j_goto Z 24 dX6_thingOf_15 (by decide) ?_
    exact hR _ _ _ _ _ _ (⟨(if_neg hv).symm, (if_neg hv).symm⟩) (by decide) (by decide) dX6_thingOf_24
theorem lkX6_value_57 : Cond.fieldLink RX6 57 (TX6 20).1 (TX6 20).2.1 (TX6 20).2.2.1 ∈ wsX6_value := by decide +kernel
theorem inX6_value_X6 : ∀ w ∈ u_ws RX6 TX6 23, w ∈ wsX6_value := by decide +kernel
set_option maxRecDepth 100000 in
set_option maxHeartbeats 4000000 in
theorem c_X6_value (l : Launch) (g : gC) (μ : gM) (cnt lc wc : Nat) (pl : Nat → Nat) (hV : mV μ cnt lc wc pl) (x a y : Int32) (v : Int32) (ev : v = lkC μ cnt x y (inB a 0 1)) : Met l yX6_value wsX6_value { frames := 4, cells := 0, slots := 0, locals := 95 } (va_Pc [.ref (g.2.1 31), .int x, .int a, .int y] (gB g μ)) (va_Qi (fun (r : Int32) (μ' : gM) => r = (if v = 0 then aVal (mSort μ cnt y (μ 47)) (mTl μ (ix a)) (mPl μ pl) ((mSort μ cnt y (μ 47)) (ix x)) cnt else 0) ∧ μ' = (if v = 0 then (gU (lkM μ cnt y (fndB cnt x && (inB a 0 1 && inB y 0 9999))) 31 0 v) else (gU (lkM μ cnt y (fndB cnt x && (inB a 0 1 && inB y 0 9999))) 31 0 v))) (gPB g) (gA g)) 0 0 (gA g) := by
  refine g_ofI (cc := cX6_value) (nL := 4) (ret := (some .int)) (ty := .int) (by decide +kernel) rfl rfl (fun _ _ _ => rfl) (Nat.le_of_ble_eq_true rfl) ?_
  intro p e s m args below meth c Q Z hR
  obtain ⟨hcnt, mc, hlc, ml, hwc, mw, ms, m1, m2, m12, mm, ma, mt, mp, md⟩ := hV
  refine j_aload_n Z dX6_value_0 0 rfl ?_
  refine j_aload_n Z dX6_value_1 0 rfl ?_
  refine j_iload_n Z dX6_value_2 1 rfl ?_
  refine j_iload_n Z dX6_value_3 3 rfl ?_
  refine j_iload_n Z dX6_value_4 2 rfl ?_
  refine j_iconst Z (v := 0) dX6_value_5 (by decide) ?_
  refine j_iconst Z (v := 1) dX6_value_6 (by decide) ?_
  refine j_callSi Z (As := [.int a, .int 0, .int 1]) (rest := [.int y, .int x, .ref (g.2.1 31), .ref (g.2.1 31)]) (nA := 3) (c_X6_in l g μ a 0 1) gX6_value_X6_in rfl rfl rfl (by decide +kernel) (by decide) rfl dX6_value_7 rfl (Nat.le_of_ble_eq_true rfl) (by decide) (fun r9 μ9 hp => ?_)
  have hq : r9 = zB (inB a 0 1) ∧ μ9 = μ := hp
  refine j_mem hq.2 ?_
  refine j_eq hq.1 ?_
  clear hq hp
  refine j_callVi Z (As := [.int x, .int y, .int (zB (inB a 0 1))]) (rest := [.ref (g.2.1 31)]) (nA := 3) 31 (by decide) rfl rfl (c_X6_looked l g μ cnt hcnt mc ms x y (inB a 0 1)) gX6_value_X6_looked rfl rfl rfl (by decide +kernel) (by decide) rfl dX6_value_10 rfl (Nat.le_of_ble_eq_true rfl) (by decide) (fun r9 μ9 hp => ?_)
  have hq : r9 = lkC μ cnt x y (inB a 0 1) ∧ μ9 = (lkM μ cnt y (fndB cnt x && (inB a 0 1 && inB y 0 9999))) := hp
  rw [← ev] at hq
  refine j_mem hq.2 ?_
  refine j_eq hq.1 ?_
  clear hq hp
  refine j_callVi Z (As := [.int v]) (rest := []) (nA := 1) 31 (by decide) rfl rfl (c_X6_refused l g (lkM μ cnt y (fndB cnt x && (inB a 0 1 && inB y 0 9999))) v) gX6_value_X6_refused rfl rfl rfl (by decide +kernel) (by decide) rfl dX6_value_13 rfl (Nat.le_of_ble_eq_true rfl) (by decide) (fun r9 μ9 hp => ?_)
  have hq : r9 = zB (decide (¬ v = 0)) ∧ μ9 = (gU (lkM μ cnt y (fndB cnt x && (inB a 0 1 && inB y 0 9999))) 31 0 v) := hp
  refine j_mem hq.2 ?_
  refine j_eq hq.1 ?_
  clear hq hp
  refine j_if_eq Z 23 dX6_value_16 (by decide) (fun h16 => ?_) (fun h16 => ?_)
  · skip
    have f16 := zB_0.mp h16
    have hv := dec_ne f16
    have hk := k3_z (ev.symm.trans hv)
    simp only [Bool.and_eq_true] at hk
    obtain ⟨ex, lx⟩ := fnd_ix hk.1 hcnt
    obtain ⟨S, hS⟩ : ∃ S, mSort μ cnt y (μ 47) = S := ⟨_, rfl⟩
    have okS : thOk cnt S := mS_ok hS hcnt
    have hm : lkM μ cnt y (fndB cnt x && (inB a 0 1 && inB y 0 9999)) = gR μ 47 S := by rw [lkM_t (by simp [hk.1, hk.2.1]), hS]
    rw [hS] at hk
    obtain ⟨ea, la⟩ := vp_ix (inB_vp hk.2.1.1 (N := 2) rfl) (by decide)
    refine j_mem (μ' := (gU (gR μ 47 S) 31 0 v)) (by rw [hm]) ?_
    refine j_aload_n Z dX6_value_23 0 rfl ?_
    refine j_aload_n Z dX6_value_24 0 rfl ?_
    refine j_get Z 31 (by decide) rfl rfl 20 (by decide) rfl inX6_value_X6 lkX6_value_57 dX6_value_25 ?_
    refine j_iload_n Z dX6_value_28 1 rfl ?_
    refine j_eq ex ?_
    refine j_ild Z 47 (by decide) (fun _ => rfl) (ix x) rfl (by omega) (by decide) dX6_value_29 ?_
    refine j_eq (y := S (ix x)) (by rw [gU_n (k := 31) (j := 47) (by omega), gR_s]) ?_
    refine j_iload_n Z dX6_value_30 2 rfl ?_
    refine j_eq ea ?_
    refine j_callVi Z (As := [.int (S (ix x)), .int (nI (ix a))]) (rest := []) (nA := 2) 31 (by decide) rfl rfl (c_X6_valueOf l g (gU (gR μ 47 S) 31 0 v) cnt hcnt mc ms pl mp md mt (S (ix x)) (ix a) (by omega)) gX6_value_X6_valueOf rfl rfl rfl (by decide +kernel) (by decide) rfl dX6_value_31 rfl (Nat.le_of_ble_eq_true rfl) (by decide) (fun r9 μ9 hp => ?_)
    have hq : r9 = aVal S (mTl μ (ix a)) (mPl μ pl) (S (ix x)) cnt ∧ μ9 = (gU (gR μ 47 S) 31 0 v) := hp
    refine j_mem hq.2 ?_
    refine j_eq hq.1 ?_
    clear hq hp
    exact hR _ _ _ _ _ _ (⟨by rw [if_pos hv]; rw [hS], by rw [if_pos hv]; rw [hm]⟩) (by decide) (by decide) dX6_value_34
  · skip
    have f16 := zB_1 h16
    have hv := dec_ne1 f16
    refine j_iconst Z (v := 0) dX6_value_19 (by decide) ?_
    refine j_goto Z 34 dX6_value_20 (by decide) ?_
    exact hR _ _ _ _ _ _ (⟨(if_neg hv).symm, (if_neg hv).symm⟩) (by decide) (by decide) dX6_value_34
theorem lkX6_disputed_70 : Cond.fieldLink RX6 70 (TX6 4).1 (TX6 4).2.1 (TX6 4).2.2.1 ∈ wsX6_disputed := by decide +kernel
theorem inX6_disputed_X6 : ∀ w ∈ u_ws RX6 TX6 23, w ∈ wsX6_disputed := by decide +kernel
theorem lkX6_disputed_57 : Cond.fieldLink RX6 57 (TX6 20).1 (TX6 20).2.1 (TX6 20).2.2.1 ∈ wsX6_disputed := by decide +kernel
theorem lkX6_disputed_25 : Cond.fieldLink RX6 25 (TX6 8).1 (TX6 8).2.1 (TX6 8).2.2.1 ∈ wsX6_disputed := by decide +kernel
set_option maxRecDepth 100000 in
set_option maxHeartbeats 4000000 in
theorem c_X6_disputed (l : Launch) (g : gC) (μ : gM) (cnt lc wc : Nat) (pl : Nat → Nat) (hV : mV μ cnt lc wc pl) (a y : Int32) (v : Int32) (ev : v = k1 (inB a 0 1 && inB y 0 9999)) : Met l yX6_disputed wsX6_disputed { frames := 3, cells := 0, slots := 0, locals := 72 } (va_Pc [.ref (g.2.1 31), .int a, .int y] (gB g μ)) (va_Qi (fun (r : Int32) (μ' : gM) => r = (if v = 0 then nI (cB (fun k => dPre (mSort μ cnt y (μ 47)) (mTl μ (ix a)) (mPl μ pl) cnt k cnt) cnt) else 0) ∧ μ' = (if v = 0 then gR (gU μ 31 0 v) 47 (mSort μ cnt y (μ 47)) else (gU μ 31 0 v))) (gPB g) (gA g)) 0 0 (gA g) := by
  refine g_ofI (cc := cX6_disputed) (nL := 8) (ret := (some .int)) (ty := .int) (by decide +kernel) rfl rfl (fun _ _ _ => rfl) (Nat.le_of_ble_eq_true rfl) ?_
  intro p e s m args below meth c Q Z hR
  obtain ⟨hcnt, mc, hlc, ml, hwc, mw, ms, m1, m2, m12, mm, ma, mt, mp, md⟩ := hV
  refine j_aload_n Z dX6_disputed_0 0 rfl ?_
  have jp22 : J p l e { frames := 3, cells := 0, slots := 0, locals := 72 } s m args below meth c Q g 8 μ (0) (0) 22 [(0, .ref (g.2.1 31)), (1, .int a), (2, .int y)] [.int v, .ref (g.2.1 31)] := by
    refine j_callVi Z (As := [.int v]) (rest := []) (nA := 1) 31 (by decide) rfl rfl (c_X6_refused l g μ v) gX6_disputed_X6_refused rfl rfl rfl (by decide +kernel) (by decide) rfl dX6_disputed_22 rfl (Nat.le_of_ble_eq_true rfl) (by decide) (fun r9 μ9 hp => ?_)
    have hq : r9 = zB (decide (¬ v = 0)) ∧ μ9 = (gU μ 31 0 v) := hp
    refine j_mem hq.2 ?_
    refine j_eq hq.1 ?_
    clear hq hp
    refine j_if_eq Z 30 dX6_disputed_25 (by decide) (fun h25 => ?_) (fun h25 => ?_)
    · skip
      have f25 := zB_0.mp h25
      have hv := dec_ne f25
      have hk := k1_z (ev.symm.trans hv)
      simp only [Bool.and_eq_true] at hk
      obtain ⟨ea, la⟩ := vp_ix (inB_vp hk.1 (N := 2) rfl) (by decide)
      obtain ⟨S, hS⟩ : ∃ S, mSort μ cnt y (μ 47) = S := ⟨_, rfl⟩
      have okS : thOk cnt S := mS_ok hS hcnt
      refine j_aload_n Z dX6_disputed_30 0 rfl ?_
      refine j_iload_n Z dX6_disputed_31 2 rfl ?_
      refine j_callVv Z (As := [.int y]) (rest := []) (nA := 1) 31 (by decide) rfl rfl (c_X6_lay l g (gU μ 31 0 v) cnt hcnt mc y ms) gX6_disputed_X6_lay rfl rfl rfl (by decide +kernel) (by decide) rfl dX6_disputed_32 rfl (Nat.le_of_ble_eq_true rfl) (by decide) (fun μ9 hp => ?_)
      have hq : μ9 = gR (gU μ 31 0 v) 47 (mSort μ cnt y (μ 47)) := hp
      rw [hS] at hq
      refine j_mem hq ?_
      clear hq hp
      refine j_iconst Z (v := 0) dX6_disputed_35 (by decide) ?_
      refine j_istore_n Z dX6_disputed_36 (by decide) [(3, .int 0), (0, .ref (g.2.1 31)), (1, .int a), (2, .int y)] rfl ?_
      refine j_iconst Z (v := 0) dX6_disputed_37 (by decide) ?_
      refine j_istore Z dX6_disputed_38 (by decide) [(4, .int 0), (3, .int 0), (0, .ref (g.2.1 31)), (1, .int a), (2, .int y)] rfl ?_
      have lp40 : ∀ (nlp40 t9 : Nat) (b9 : Nat), b9 = cB (fun k => dPre S (mTl μ (ix a)) (mPl μ pl) cnt k cnt) t9 → cnt + 2 ≤ t9 + nlp40 → t9 ≤ cnt → J p l e { frames := 3, cells := 0, slots := 0, locals := 72 } s m args below meth c Q g 8 (gR (gU μ 31 0 v) 47 S) (0) (0) 40 [(0, .ref (g.2.1 31)), (1, .int a), (2, .int y), (3, .int (nI b9)), (4, .int (nI t9))] [] := by
        intro nlp40
        induction nlp40 with
        | zero => intro t9 b9 eb9 hn hg; exact absurd hn (by omega)
        | succ nlp40 ihlp40 =>
          intro t9 b9 eb9 hn hg
          refine j_iload Z dX6_disputed_40 4 rfl ?_
          refine j_aload_n Z dX6_disputed_42 0 rfl ?_
          refine j_get Z 31 (by decide) rfl rfl 4 (by decide) rfl inX6_disputed_X6 lkX6_disputed_70 dX6_disputed_43 ?_
          refine j_eq (y := μ 31 4) (by rw [gR_n (k := 47) (j := 31) (by omega), gU_s, upd_n (i := 0) (j := 4) (by decide)]) ?_
          refine j_eq mc ?_
          refine j_icmp_ge Z 173 dX6_disputed_46 (by decide) (fun h46 => ?_) (fun h46 => ?_)
          · skip
            have hic : t9 = cnt := by
              have hq := (nI_leI (a := cnt) (b := t9) (by omega) (by omega)).mp h46
              omega
            rw [hic] at eb9
            refine j_iload_n Z dX6_disputed_173 3 rfl ?_
            exact hR _ _ _ _ _ _ (⟨by rw [if_pos hv]; rw [eb9, hS], by rw [if_pos hv]; rw [hS]⟩) (by decide) (by decide) dX6_disputed_174
          · skip
            have hlt : t9 < cnt := by
              rcases Nat.lt_or_ge t9 cnt with q9 | q9
              · exact q9
              · exact absurd (nI_le q9 (by omega)) h46
            refine j_iconst Z (v := 0) dX6_disputed_49 (by decide) ?_
            refine j_istore Z dX6_disputed_50 (by decide) [(5, .int 0), (0, .ref (g.2.1 31)), (1, .int a), (2, .int y), (3, .int (nI b9)), (4, .int (nI t9))] rfl ?_
            have jp75 : J p l e { frames := 3, cells := 0, slots := 0, locals := 72 } s m args below meth c Q g 8 (gR (gU μ 31 0 v) 47 S) (0) (0) 75 [(5, .int 0), (0, .ref (g.2.1 31)), (1, .int a), (2, .int y), (3, .int (nI b9)), (4, .int (nI t9))] [.int (ownV S (mTl μ (ix a)) (mPl μ pl) cnt t9)] := by
              refine j_istore Z dX6_disputed_75 (by decide) [(6, .int (ownV S (mTl μ (ix a)) (mPl μ pl) cnt t9)), (5, .int 0), (0, .ref (g.2.1 31)), (1, .int a), (2, .int y), (3, .int (nI b9)), (4, .int (nI t9))] rfl ?_
              have jn154 : ∀ (s9 : Bool), s9 = dPre S (mTl μ (ix a)) (mPl μ pl) cnt t9 cnt → J p l e { frames := 3, cells := 0, slots := 0, locals := 72 } s m args below meth c Q g 8 (gR (gU μ 31 0 v) 47 S) (0) (0) 154 [(0, .ref (g.2.1 31)), (1, .int a), (2, .int y), (3, .int (nI b9)), (4, .int (nI t9)), (5, .int (zB s9))] [] := by
                intro s9 hs9
                refine j_iload_n Z dX6_disputed_154 3 rfl ?_
                have jp165 : J p l e { frames := 3, cells := 0, slots := 0, locals := 72 } s m args below meth c Q g 8 (gR (gU μ 31 0 v) 47 S) (0) (0) 165 [(0, .ref (g.2.1 31)), (1, .int a), (2, .int y), (3, .int (nI b9)), (4, .int (nI t9)), (5, .int (zB s9))] [.int (if s9 = true then 1 else 0), .int (nI b9)] := by
                  refine j_iadd Z dX6_disputed_165 ?_
                  refine j_eq (cB_add (b := b9) (c := s9 = true)) ?_
                  refine j_istore_n Z dX6_disputed_166 (by decide) [(3, .int (nI (b9 + (if s9 = true then 1 else 0)))), (0, .ref (g.2.1 31)), (1, .int a), (2, .int y), (4, .int (nI t9)), (5, .int (zB s9))] rfl ?_
                  refine j_iinc Z dX6_disputed_167 4 rfl (nI_1 t9) (by decide) [(4, .int (nI (t9 + 1))), (3, .int (nI (b9 + (if s9 = true then 1 else 0)))), (0, .ref (g.2.1 31)), (1, .int a), (2, .int y), (5, .int (zB s9))] rfl ?_
                  refine j_goto Z 40 dX6_disputed_170 (by decide) ?_
                  refine j_sub [2, 3, 4, 1, 0] rfl ?_
                  exact ihlp40 (t9 + 1) (b9 + (if s9 = true then 1 else 0)) (by rw [eb9, hs9]; rfl)  (by omega) (by omega)
                refine j_iload Z dX6_disputed_155 5 rfl ?_
                refine j_if_eq Z 164 dX6_disputed_157 (by decide) (fun h157 => ?_) (fun h157 => ?_)
                · skip
                  have f157 := zB_0.mp h157
                  refine j_iconst Z (v := 0) dX6_disputed_164 (by decide) ?_
                  refine j_sub [0, 1, 2, 3, 4, 5] rfl ?_
                  exact j_eq (by rw [f157]; rfl) jp165
                · skip
                  have f157 := zB_1 h157
                  refine j_iconst Z (v := 1) dX6_disputed_160 (by decide) ?_
                  refine j_goto Z 165 dX6_disputed_161 (by decide) ?_
                  refine j_sub [0, 1, 2, 3, 4, 5] rfl ?_
                  exact j_eq (by rw [f157]; rfl) jp165
              refine j_iconst Z (v := 0) dX6_disputed_77 (by decide) ?_
              refine j_istore Z dX6_disputed_78 (by decide) [(7, .int 0), (6, .int (ownV S (mTl μ (ix a)) (mPl μ pl) cnt t9)), (5, .int 0), (0, .ref (g.2.1 31)), (1, .int a), (2, .int y), (3, .int (nI b9)), (4, .int (nI t9))] rfl ?_
              have lq80 : ∀ (nlq80 i : Nat) (s8 : Bool), s8 = dPre S (mTl μ (ix a)) (mPl μ pl) cnt t9 i → cnt + 2 ≤ i + nlq80 → i ≤ cnt → J p l e { frames := 3, cells := 0, slots := 0, locals := 72 } s m args below meth c Q g 8 (gR (gU μ 31 0 v) 47 S) (0) (0) 80 [(0, .ref (g.2.1 31)), (1, .int a), (2, .int y), (3, .int (nI b9)), (4, .int (nI t9)), (5, .int (zB s8)), (6, .int (ownV S (mTl μ (ix a)) (mPl μ pl) cnt t9)), (7, .int (nI i))] [] := by
                intro nlq80
                induction nlq80 with
                | zero => intro i s8 es8 hn hg; exact absurd hn (by omega)
                | succ nlq80 ihlq80 =>
                  intro i s8 es8 hn hg
                  refine j_iload Z dX6_disputed_80 7 rfl ?_
                  refine j_aload_n Z dX6_disputed_82 0 rfl ?_
                  refine j_get Z 31 (by decide) rfl rfl 4 (by decide) rfl inX6_disputed_X6 lkX6_disputed_70 dX6_disputed_83 ?_
                  refine j_eq (y := μ 31 4) (by rw [gR_n (k := 47) (j := 31) (by omega), gU_s, upd_n (i := 0) (j := 4) (by decide)]) ?_
                  refine j_eq mc ?_
                  refine j_icmp_ge Z 154 dX6_disputed_86 (by decide) (fun h86 => ?_) (fun h86 => ?_)
                  · skip
                    have hic : i = cnt := by
                      have hq := (nI_leI (a := cnt) (b := i) (by omega) (by omega)).mp h86
                      omega
                    rw [hic] at es8
                    skip
                    refine j_sub [0, 1, 2, 3, 4, 5] rfl ?_
                    exact jn154 _ es8
                  · skip
                    have hlt : i < cnt := by
                      rcases Nat.lt_or_ge i cnt with q9 | q9
                      · exact q9
                      · exact absurd (nI_le q9 (by omega)) h86
                    refine j_iload Z dX6_disputed_89 6 rfl ?_
                    refine j_if_lt Z 154 dX6_disputed_91 (by decide) (fun h91 => ?_) (fun h91 => ?_)
                    · skip
                      refine j_sub [0, 1, 2, 3, 4, 5] rfl ?_
                      exact jn154 _ (dPre_n es8 h91)
                    · skip
                      have jp146 : J p l e { frames := 3, cells := 0, slots := 0, locals := 72 } s m args below meth c Q g 8 (gR (gU μ 31 0 v) 47 S) (0) (0) 146 [(0, .ref (g.2.1 31)), (1, .int a), (2, .int y), (3, .int (nI b9)), (4, .int (nI t9)), (5, .int (zB s8)), (6, .int (ownV S (mTl μ (ix a)) (mPl μ pl) cnt t9)), (7, .int (nI i))] [.int (zB (s8 || (decide (S i = nI t9) && !decide (mTl μ (ix a) i < 0) && !decide (mTl μ (ix a) i = ownV S (mTl μ (ix a)) (mPl μ pl) cnt t9))))] := by
                        refine j_istore Z dX6_disputed_146 (by decide) [(5, .int (zB (s8 || (decide (S i = nI t9) && !decide (mTl μ (ix a) i < 0) && !decide (mTl μ (ix a) i = ownV S (mTl μ (ix a)) (mPl μ pl) cnt t9))))), (0, .ref (g.2.1 31)), (1, .int a), (2, .int y), (3, .int (nI b9)), (4, .int (nI t9)), (6, .int (ownV S (mTl μ (ix a)) (mPl μ pl) cnt t9)), (7, .int (nI i))] rfl ?_
                        refine j_iinc Z dX6_disputed_148 7 rfl (nI_1 i) (by decide) [(7, .int (nI (i + 1))), (5, .int (zB (s8 || (decide (S i = nI t9) && !decide (mTl μ (ix a) i < 0) && !decide (mTl μ (ix a) i = ownV S (mTl μ (ix a)) (mPl μ pl) cnt t9))))), (0, .ref (g.2.1 31)), (1, .int a), (2, .int y), (3, .int (nI b9)), (4, .int (nI t9)), (6, .int (ownV S (mTl μ (ix a)) (mPl μ pl) cnt t9))] rfl ?_
                        refine j_goto Z 80 dX6_disputed_151 (by decide) ?_
                        refine j_sub [2, 3, 4, 5, 6, 1, 7, 0] rfl ?_
                        exact ihlq80 (i + 1) ((s8 || (decide (S i = nI t9) && !decide (mTl μ (ix a) i < 0) && !decide (mTl μ (ix a) i = ownV S (mTl μ (ix a)) (mPl μ pl) cnt t9)))) (dPre_s es8 h91)  (by omega) (by omega)
                      refine j_iload Z dX6_disputed_94 5 rfl ?_
                      refine j_if_ne Z 141 dX6_disputed_96 (by decide) (fun h96 => ?_) (fun h96 => ?_)
                      · skip
                        have f96 := zB_1 h96
                        refine j_iconst Z (v := 1) dX6_disputed_141 (by decide) ?_
                        refine j_goto Z 146 dX6_disputed_142 (by decide) ?_
                        refine j_sub [0, 1, 2, 3, 4, 5, 6, 7] rfl ?_
                        exact j_eq (by simp [zB, mTl, f96]) jp146
                      · skip
                        have f96 := zB_0.mp h96
                        refine j_aload_n Z dX6_disputed_99 0 rfl ?_
                        refine j_get Z 31 (by decide) rfl rfl 20 (by decide) rfl inX6_disputed_X6 lkX6_disputed_57 dX6_disputed_100 ?_
                        refine j_iload Z dX6_disputed_103 7 rfl ?_
                        refine j_ild Z 47 (by decide) (fun _ => rfl) i rfl (by omega) (by decide) dX6_disputed_105 ?_
                        refine j_eq (y := S i) (by rw [gR_s]) ?_
                        refine j_iload Z dX6_disputed_106 4 rfl ?_
                        refine j_icmp_ne Z 145 dX6_disputed_108 (by decide) (fun h108 => ?_) (fun h108 => ?_)
                        · skip
                          refine j_iconst Z (v := 0) dX6_disputed_145 (by decide) ?_
                          refine j_sub [0, 1, 2, 3, 4, 5, 6, 7] rfl ?_
                          exact j_eq (by simp [zB, mTl, f96, h108]) jp146
                        · skip
                          refine j_aload_n Z dX6_disputed_111 0 rfl ?_
                          refine j_get Z 31 (by decide) rfl rfl 8 (by decide) rfl inX6_disputed_X6 lkX6_disputed_25 dX6_disputed_112 ?_
                          refine j_iconst Z (v := 2) dX6_disputed_115 (by decide) ?_
                          refine j_iload Z dX6_disputed_116 7 rfl ?_
                          refine j_imul Z dX6_disputed_118 ?_
                          refine j_eq (pk_mul 2 i) ?_
                          refine j_iload_n Z dX6_disputed_119 1 rfl ?_
                          refine j_eq ea ?_
                          refine j_iadd Z dX6_disputed_120 ?_
                          refine j_eq (nI_add (2 * i) (ix a)) ?_
                          refine j_ild Z 37 (by decide) (fun _ => rfl) ((2 * i) + (ix a)) rfl (by omega) (by decide) dX6_disputed_121 ?_
                          refine j_eq (y := μ 37 ((2 * i) + (ix a))) (by rw [gR_n (k := 47) (j := 37) (by omega), gU_n (k := 31) (j := 37) (by omega)]) ?_
                          refine j_if_lt Z 145 dX6_disputed_122 (by decide) (fun h122 => ?_) (fun h122 => ?_)
                          · skip
                            refine j_iconst Z (v := 0) dX6_disputed_145 (by decide) ?_
                            refine j_sub [0, 1, 2, 3, 4, 5, 6, 7] rfl ?_
                            exact j_eq (by simp [zB, mTl, f96, h108, h122]) jp146
                          · skip
                            refine j_aload_n Z dX6_disputed_125 0 rfl ?_
                            refine j_get Z 31 (by decide) rfl rfl 8 (by decide) rfl inX6_disputed_X6 lkX6_disputed_25 dX6_disputed_126 ?_
                            refine j_iconst Z (v := 2) dX6_disputed_129 (by decide) ?_
                            refine j_iload Z dX6_disputed_130 7 rfl ?_
                            refine j_imul Z dX6_disputed_132 ?_
                            refine j_eq (pk_mul 2 i) ?_
                            refine j_iload_n Z dX6_disputed_133 1 rfl ?_
                            refine j_eq ea ?_
                            refine j_iadd Z dX6_disputed_134 ?_
                            refine j_eq (nI_add (2 * i) (ix a)) ?_
                            refine j_ild Z 37 (by decide) (fun _ => rfl) ((2 * i) + (ix a)) rfl (by omega) (by decide) dX6_disputed_135 ?_
                            refine j_eq (y := μ 37 ((2 * i) + (ix a))) (by rw [gR_n (k := 47) (j := 37) (by omega), gU_n (k := 31) (j := 37) (by omega)]) ?_
                            refine j_iload Z dX6_disputed_136 6 rfl ?_
                            refine j_icmp_eq Z 145 dX6_disputed_138 (by decide) (fun h138 => ?_) (fun h138 => ?_)
                            · skip
                              refine j_iconst Z (v := 0) dX6_disputed_145 (by decide) ?_
                              refine j_sub [0, 1, 2, 3, 4, 5, 6, 7] rfl ?_
                              exact j_eq (by simp [zB, mTl, f96, h108, h122, h138]) jp146
                            · skip
                              refine j_iconst Z (v := 1) dX6_disputed_141 (by decide) ?_
                              refine j_goto Z 146 dX6_disputed_142 (by decide) ?_
                              refine j_sub [0, 1, 2, 3, 4, 5, 6, 7] rfl ?_
                              exact j_eq (by simp [zB, mTl, f96, h108, h122, h138]) jp146
              refine j_sub [3, 4, 5, 6, 7, 2, 1, 0] rfl ?_
              exact lq80 (cnt + 2) 0 (false) (dPre_0)  (by omega) (by omega)
            refine j_aload_n Z dX6_disputed_52 1 rfl ?_
            refine j_get Z 31 (by decide) rfl rfl 20 (by decide) rfl inX6_disputed_X6 lkX6_disputed_57 dX6_disputed_53 ?_
            refine j_iload Z dX6_disputed_56 5 rfl ?_
            refine j_ild Z 47 (by decide) (fun _ => rfl) t9 rfl (by omega) (by decide) dX6_disputed_58 ?_
            refine j_eq (y := S t9) (by rw [gR_s]) ?_
            refine j_iload Z dX6_disputed_59 5 rfl ?_
            refine j_icmp_ne Z 74 dX6_disputed_61 (by decide) (fun h61 => ?_) (fun h61 => ?_)
            · skip
              refine j_iconst Z (v := -1) dX6_disputed_74 (by decide) ?_
              refine j_sub [0, 1, 2, 3, 4, 5] rfl ?_
              exact j_eq (by first | exact (if_pos h61).symm | exact (if_neg h61).symm) jp75
            · skip
              refine j_aload_n Z dX6_disputed_64 1 rfl ?_
              refine j_iload Z dX6_disputed_65 5 rfl ?_
              refine j_iload_n Z dX6_disputed_67 2 rfl ?_
              refine j_eq ea ?_
              refine j_callVi Z (As := [.int (nI t9), .int (nI (ix a))]) (rest := []) (nA := 2) 31 (by decide) rfl rfl (c_X6_valueOf l g (gR (gU μ 31 0 v) 47 S) cnt hcnt mc ms pl mp md mt (nI t9) (ix a) (by omega)) gX6_disputed_X6_valueOf rfl rfl rfl (by decide +kernel) (by decide) rfl dX6_disputed_68 rfl (Nat.le_of_ble_eq_true rfl) (by decide) (fun r9 μ9 hp => ?_)
              have hq : r9 = aVal S (mTl μ (ix a)) (mPl μ pl) (nI t9) cnt ∧ μ9 = (gR (gU μ 31 0 v) 47 S) := hp
              refine j_mem hq.2 ?_
              refine j_eq hq.1 ?_
              clear hq hp
              refine j_goto Z 75 dX6_disputed_71 (by decide) ?_
              refine j_sub [0, 1, 2, 3, 4, 5] rfl ?_
              exact j_eq (by first | exact (if_pos h61).symm | exact (if_neg h61).symm) jp75
      refine j_sub [2, 3, 4, 1, 0] rfl ?_
      exact lp40 (cnt + 2) 0 (0) (rfl)  (by omega) (by omega)
    · skip
      have f25 := zB_1 h25
      have hv := dec_ne1 f25
      refine j_iconst Z (v := 0) dX6_disputed_28 (by decide) ?_
      exact hR _ _ _ _ _ _ (⟨(if_neg hv).symm, (if_neg hv).symm⟩) (by decide) (by decide) dX6_disputed_29
  refine j_iload_n Z dX6_disputed_1 1 rfl ?_
  refine j_iconst Z (v := 0) dX6_disputed_2 (by decide) ?_
  refine j_iconst Z (v := 1) dX6_disputed_3 (by decide) ?_
  refine j_callSi Z (As := [.int a, .int 0, .int 1]) (rest := [.ref (g.2.1 31)]) (nA := 3) (c_X6_in l g μ a 0 1) gX6_disputed_X6_in rfl rfl rfl (by decide +kernel) (by decide) rfl dX6_disputed_4 rfl (Nat.le_of_ble_eq_true rfl) (by decide) (fun r9 μ9 hp => ?_)
  have hq : r9 = zB (inB a 0 1) ∧ μ9 = μ := hp
  refine j_mem hq.2 ?_
  refine j_eq hq.1 ?_
  clear hq hp
  refine j_if_eq Z 21 dX6_disputed_7 (by decide) (fun h7 => ?_) (fun h7 => ?_)
  · skip
    have f7 := zB_0.mp h7
    refine j_iconst Z (v := 1) dX6_disputed_21 (by decide) ?_
    refine j_sub [0, 1, 2] rfl ?_
    exact j_eq (by rw [ev]; first | (simp [k1, f7]; done) | (clear jp22; simp_all [k1])) jp22
  · skip
    have f7 := zB_1 h7
    refine j_iload_n Z dX6_disputed_10 2 rfl ?_
    refine j_callSi Z (As := [.int y]) (rest := [.ref (g.2.1 31)]) (nA := 1) (c_X6_isDay l g μ y) gX6_disputed_X6_isDay rfl rfl rfl (by decide +kernel) (by decide) rfl dX6_disputed_11 rfl (Nat.le_of_ble_eq_true rfl) (by decide) (fun r9 μ9 hp => ?_)
    have hq : r9 = zB (inB y 0 9999) ∧ μ9 = μ := hp
    refine j_mem hq.2 ?_
    refine j_eq hq.1 ?_
    clear hq hp
    refine j_if_eq Z 21 dX6_disputed_14 (by decide) (fun h14 => ?_) (fun h14 => ?_)
    · skip
      have f14 := zB_0.mp h14
      refine j_iconst Z (v := 1) dX6_disputed_21 (by decide) ?_
      refine j_sub [0, 1, 2] rfl ?_
      exact j_eq (by rw [ev]; first | (simp [k1, f7, f14]; done) | (clear jp22; simp_all [k1])) jp22
    · skip
      have f14 := zB_1 h14
      refine j_iconst Z (v := 0) dX6_disputed_17 (by decide) ?_
      refine j_goto Z 22 dX6_disputed_18 (by decide) ?_
      refine j_sub [0, 1, 2] rfl ?_
      exact j_eq (by rw [ev]; first | (simp [k1, f7, f14]; done) | (clear jp22; simp_all [k1])) jp22
theorem lkX6_link_36 : Cond.fieldLink RX6 36 (TX6 12).1 (TX6 12).2.1 (TX6 12).2.2.1 ∈ wsX6_link := by decide +kernel
theorem inX6_link_X6 : ∀ w ∈ u_ws RX6 TX6 23, w ∈ wsX6_link := by decide +kernel
theorem lkX6_link_127 : Cond.fieldLink RX6 127 (TX6 11).1 (TX6 11).2.1 (TX6 11).2.2.1 ∈ wsX6_link := by decide +kernel
theorem lkX6_link_39 : Cond.fieldLink RX6 39 (TX6 13).1 (TX6 13).2.1 (TX6 13).2.2.1 ∈ wsX6_link := by decide +kernel
theorem lkX6_link_42 : Cond.fieldLink RX6 42 (TX6 14).1 (TX6 14).2.1 (TX6 14).2.2.1 ∈ wsX6_link := by decide +kernel
set_option maxRecDepth 100000 in
set_option maxHeartbeats 4000000 in
theorem c_X6_link (l : Launch) (g : gC) (μ : gM) (cnt lc wc : Nat) (pl : Nat → Nat) (hV : mV μ cnt lc wc pl) (x y z : Int32) (v : Int32) (ev : v = k3 (fndB cnt x && fndB cnt y) (!decide (x = y) && inB z 0 3) (decide (lc < 40))) : Met l yX6_link wsX6_link { frames := 2, cells := 0, slots := 0, locals := 43 } (va_Pc [.ref (g.2.1 31), .int x, .int y, .int z] (gB g μ)) (va_Qi (fun (r : Int32) (μ' : gM) => r = (if v = 0 then nI (lc + 1) else 0) ∧ μ' = (if v = 0 then (gU (gU (gU (gU (gU μ 31 0 v) 40 lc x) 41 lc y) 42 lc z) 31 11 (nI (lc + 1))) else gU μ 31 0 v)) (gPB g) (gA g)) 0 0 (gA g) := by
  refine g_ofI (cc := cX6_link) (nL := 5) (ret := (some .int)) (ty := .int) (by decide +kernel) rfl rfl (fun _ _ _ => rfl) (Nat.le_of_ble_eq_true rfl) ?_
  intro p e s m args below meth c Q Z hR
  obtain ⟨hcnt, mc, hlc, ml, hwc, mw, ms, m1, m2, m12, mm, ma, mt, mp, md⟩ := hV
  have jp21 : J p l e { frames := 2, cells := 0, slots := 0, locals := 43 } s m args below meth c Q g 5 μ (0) (0) 21 [(0, .ref (g.2.1 31)), (1, .int x), (2, .int y), (3, .int z)] [.int (zB (fndB cnt x && fndB cnt y))] := by
    refine j_istore Z dX6_link_21 (by decide) [(4, .int (zB (fndB cnt x && fndB cnt y))), (0, .ref (g.2.1 31)), (1, .int x), (2, .int y), (3, .int z)] rfl ?_
    have jp65 : J p l e { frames := 2, cells := 0, slots := 0, locals := 43 } s m args below meth c Q g 5 μ (0) (0) 65 [(4, .int (zB (fndB cnt x && fndB cnt y))), (0, .ref (g.2.1 31)), (1, .int x), (2, .int y), (3, .int z)] [.int v, .ref (g.2.1 31)] := by
      refine j_callVi Z (As := [.int v]) (rest := []) (nA := 1) 31 (by decide) rfl rfl (c_X6_refused l g μ v) gX6_link_X6_refused rfl rfl rfl (by decide +kernel) (by decide) rfl dX6_link_65 rfl (Nat.le_of_ble_eq_true rfl) (by decide) (fun r9 μ9 hp => ?_)
      have hq : r9 = zB (decide (¬ v = 0)) ∧ μ9 = (gU μ 31 0 v) := hp
      refine j_mem hq.2 ?_
      refine j_eq hq.1 ?_
      clear hq hp
      refine j_if_eq Z 73 dX6_link_68 (by decide) (fun h68 => ?_) (fun h68 => ?_)
      · skip
        have f68 := zB_0.mp h68
        have hv := dec_ne f68
        have hk := k3_z (ev.symm.trans hv)
        have llc : lc < 40 := of_decide_eq_true hk.2.2
        refine j_aload_n Z dX6_link_73 1 rfl ?_
        refine j_get Z 31 (by decide) rfl rfl 12 (by decide) rfl inX6_link_X6 lkX6_link_36 dX6_link_74 ?_
        refine j_aload_n Z dX6_link_77 1 rfl ?_
        refine j_get Z 31 (by decide) rfl rfl 11 (by decide) rfl inX6_link_X6 lkX6_link_127 dX6_link_78 ?_
        refine j_eq (y := μ 31 11) (by rw [gU_s, upd_n (i := 0) (j := 11) (by decide)]) ?_
        refine j_eq ml ?_
        refine j_iload_n Z dX6_link_81 2 rfl ?_
        refine j_ist Z 40 (by decide) (fun _ => rfl) lc rfl (by omega) (by decide)  dX6_link_82 ?_
        refine j_aload_n Z dX6_link_83 1 rfl ?_
        refine j_get Z 31 (by decide) rfl rfl 13 (by decide) rfl inX6_link_X6 lkX6_link_39 dX6_link_84 ?_
        refine j_aload_n Z dX6_link_87 1 rfl ?_
        refine j_get Z 31 (by decide) rfl rfl 11 (by decide) rfl inX6_link_X6 lkX6_link_127 dX6_link_88 ?_
        refine j_eq (y := μ 31 11) (by rw [gU_n (k := 40) (j := 31) (by omega), gU_s, upd_n (i := 0) (j := 11) (by decide)]) ?_
        refine j_eq ml ?_
        refine j_iload_n Z dX6_link_91 3 rfl ?_
        refine j_ist Z 41 (by decide) (fun _ => rfl) lc rfl (by omega) (by decide)  dX6_link_92 ?_
        refine j_aload_n Z dX6_link_93 1 rfl ?_
        refine j_get Z 31 (by decide) rfl rfl 14 (by decide) rfl inX6_link_X6 lkX6_link_42 dX6_link_94 ?_
        refine j_aload_n Z dX6_link_97 1 rfl ?_
        refine j_get Z 31 (by decide) rfl rfl 11 (by decide) rfl inX6_link_X6 lkX6_link_127 dX6_link_98 ?_
        refine j_eq (y := μ 31 11) (by rw [gU_n (k := 41) (j := 31) (by omega), gU_n (k := 40) (j := 31) (by omega), gU_s, upd_n (i := 0) (j := 11) (by decide)]) ?_
        refine j_eq ml ?_
        refine j_iload_n Z dX6_link_101 4 rfl ?_
        refine j_ist Z 42 (by decide) (fun _ => rfl) lc rfl (by omega) (by decide)  dX6_link_102 ?_
        refine j_aload_n Z dX6_link_103 1 rfl ?_
        refine j_dup Z dX6_link_104 rfl ?_
        refine j_get Z 31 (by decide) rfl rfl 11 (by decide) rfl inX6_link_X6 lkX6_link_127 dX6_link_105 ?_
        refine j_eq (y := μ 31 11) (by rw [gU_n (k := 42) (j := 31) (by omega), gU_n (k := 41) (j := 31) (by omega), gU_n (k := 40) (j := 31) (by omega), gU_s, upd_n (i := 0) (j := 11) (by decide)]) ?_
        refine j_eq ml ?_
        refine j_iconst Z (v := 1) dX6_link_108 (by decide) ?_
        refine j_iadd Z dX6_link_109 ?_
        refine j_eq (nI_add lc 1) ?_
        refine j_put Z 31 (by decide) (fun _ => rfl) rfl tyX6 tyX6_ok nmX6 11 (by decide) rfl (Nat.le_of_ble_eq_true rfl) rfl (by decide +kernel) inX6_link_X6 lkX6_link_127 dX6_link_110 ?_
        refine j_aload_n Z dX6_link_113 1 rfl ?_
        refine j_get Z 31 (by decide) rfl rfl 11 (by decide) rfl inX6_link_X6 lkX6_link_127 dX6_link_114 ?_
        refine j_eq (y := (nI (lc + 1))) (by rw [gU_s, upd_s]) ?_
        exact hR _ _ _ _ _ _ (⟨by rw [if_pos hv], by rw [if_pos hv]⟩) (by decide) (by decide) dX6_link_117
      · skip
        have f68 := zB_1 h68
        have hv := dec_ne1 f68
        refine j_iconst Z (v := 0) dX6_link_71 (by decide) ?_
        exact hR _ _ _ _ _ _ (⟨(if_neg hv).symm, (if_neg hv).symm⟩) (by decide) (by decide) dX6_link_72
    refine j_aload_n Z dX6_link_23 1 rfl ?_
    refine j_iload Z dX6_link_24 0 rfl ?_
    refine j_if_ne Z 33 dX6_link_26 (by decide) (fun h26 => ?_) (fun h26 => ?_)
    · skip
      have f26 := zB_1 h26
      refine j_iload_n Z dX6_link_33 2 rfl ?_
      refine j_iload_n Z dX6_link_34 3 rfl ?_
      refine j_icmp_eq Z 47 dX6_link_35 (by decide) (fun h35 => ?_) (fun h35 => ?_)
      · skip
        refine j_iconst Z (v := 2) dX6_link_47 (by decide) ?_
        refine j_goto Z 65 dX6_link_48 (by decide) ?_
        refine j_sub [0, 1, 2, 3, 4] rfl ?_
        exact j_eq (by rw [ev]; first | (simp [k3, f26, h35]; done) | (clear jp65; simp_all [k3])) jp65
      · skip
        refine j_iload_n Z dX6_link_38 4 rfl ?_
        refine j_iconst Z (v := 0) dX6_link_39 (by decide) ?_
        refine j_iconst Z (v := 3) dX6_link_40 (by decide) ?_
        refine j_callSi Z (As := [.int z, .int 0, .int 3]) (rest := [.ref (g.2.1 31)]) (nA := 3) (c_X6_in l g μ z 0 3) gX6_link_X6_in rfl rfl rfl (by decide +kernel) (by decide) rfl dX6_link_41 rfl (Nat.le_of_ble_eq_true rfl) (by decide) (fun r9 μ9 hp => ?_)
        have hq : r9 = zB (inB z 0 3) ∧ μ9 = μ := hp
        refine j_mem hq.2 ?_
        refine j_eq hq.1 ?_
        clear hq hp
        refine j_if_ne Z 51 dX6_link_44 (by decide) (fun h44 => ?_) (fun h44 => ?_)
        · skip
          have f44 := zB_1 h44
          refine j_aload_n Z dX6_link_51 1 rfl ?_
          refine j_get Z 31 (by decide) rfl rfl 11 (by decide) rfl inX6_link_X6 lkX6_link_127 dX6_link_52 ?_
          refine j_eq ml ?_
          refine j_bipush Z (v := 40) dX6_link_55 (by decide) ?_
          refine j_icmp_ne Z 64 dX6_link_57 (by decide) (fun h57 => ?_) (fun h57 => ?_)
          · skip
            have llc : lc < 40 := by
              rcases Nat.lt_or_ge lc 40 with q9 | q9
              · exact q9
              · exact absurd (show nI lc = nI 40 by rw [show lc = 40 by omega]) h57
            refine j_iconst Z (v := 0) dX6_link_64 (by decide) ?_
            refine j_sub [0, 1, 2, 3, 4] rfl ?_
            exact j_eq (by rw [ev]; first | (simp [k3, f26, f44, llc, h35]; done) | (clear jp65; simp_all [k3])) jp65
          · skip
            have llc : ¬ lc < 40 := by
              have q9 := (nI_eq (a := lc) (b := 40) (by omega) (by decide)).mp h57
              omega
            refine j_iconst Z (v := 3) dX6_link_60 (by decide) ?_
            refine j_goto Z 65 dX6_link_61 (by decide) ?_
            refine j_sub [0, 1, 2, 3, 4] rfl ?_
            exact j_eq (by rw [ev]; first | (simp [k3, f26, f44, llc, h35]; done) | (clear jp65; simp_all [k3])) jp65
        · skip
          have f44 := zB_0.mp h44
          refine j_iconst Z (v := 2) dX6_link_47 (by decide) ?_
          refine j_goto Z 65 dX6_link_48 (by decide) ?_
          refine j_sub [0, 1, 2, 3, 4] rfl ?_
          exact j_eq (by rw [ev]; first | (simp [k3, f26, f44, h35]; done) | (clear jp65; simp_all [k3])) jp65
    · skip
      have f26 := zB_0.mp h26
      refine j_iconst Z (v := 1) dX6_link_29 (by decide) ?_
      refine j_goto Z 65 dX6_link_30 (by decide) ?_
      refine j_sub [0, 1, 2, 3, 4] rfl ?_
      exact j_eq (by rw [ev]; first | (simp [k3, f26]; done) | (clear jp65; simp_all [k3])) jp65
  refine j_aload_n Z dX6_link_0 0 rfl ?_
  refine j_iload_n Z dX6_link_1 1 rfl ?_
  refine j_callVi Z (As := [.int x]) (rest := []) (nA := 1) 31 (by decide) rfl rfl (c_X6_isFind l g μ cnt hcnt mc x) gX6_link_X6_isFind rfl rfl rfl (by decide +kernel) (by decide) rfl dX6_link_2 rfl (Nat.le_of_ble_eq_true rfl) (by decide) (fun r9 μ9 hp => ?_)
  have hq : r9 = zB (fndB cnt x) ∧ μ9 = μ := hp
  refine j_mem hq.2 ?_
  refine j_eq hq.1 ?_
  clear hq hp
  refine j_if_eq Z 20 dX6_link_5 (by decide) (fun h5 => ?_) (fun h5 => ?_)
  · skip
    have f5 := zB_0.mp h5
    refine j_iconst Z (v := 0) dX6_link_20 (by decide) ?_
    refine j_sub [0, 1, 2, 3] rfl ?_
    exact j_eq (by simp [zB, f5]) jp21
  · skip
    have f5 := zB_1 h5
    refine j_aload_n Z dX6_link_8 0 rfl ?_
    refine j_iload_n Z dX6_link_9 2 rfl ?_
    refine j_callVi Z (As := [.int y]) (rest := []) (nA := 1) 31 (by decide) rfl rfl (c_X6_isFind l g μ cnt hcnt mc y) gX6_link_X6_isFind rfl rfl rfl (by decide +kernel) (by decide) rfl dX6_link_10 rfl (Nat.le_of_ble_eq_true rfl) (by decide) (fun r9 μ9 hp => ?_)
    have hq : r9 = zB (fndB cnt y) ∧ μ9 = μ := hp
    refine j_mem hq.2 ?_
    refine j_eq hq.1 ?_
    clear hq hp
    refine j_if_eq Z 20 dX6_link_13 (by decide) (fun h13 => ?_) (fun h13 => ?_)
    · skip
      have f13 := zB_0.mp h13
      refine j_iconst Z (v := 0) dX6_link_20 (by decide) ?_
      refine j_sub [0, 1, 2, 3] rfl ?_
      exact j_eq (by simp [zB, f5, f13]) jp21
    · skip
      have f13 := zB_1 h13
      refine j_iconst Z (v := 1) dX6_link_16 (by decide) ?_
      refine j_goto Z 21 dX6_link_17 (by decide) ?_
      refine j_sub [0, 1, 2, 3] rfl ?_
      exact j_eq (by simp [zB, f5, f13]) jp21
theorem lkX6_impact_57 : Cond.fieldLink RX6 57 (TX6 20).1 (TX6 20).2.1 (TX6 20).2.2.1 ∈ wsX6_impact := by decide +kernel
theorem inX6_impact_X6 : ∀ w ∈ u_ws RX6 TX6 23, w ∈ wsX6_impact := by decide +kernel
set_option maxRecDepth 100000 in
set_option maxHeartbeats 4000000 in
theorem c_X6_impact (l : Launch) (g : gC) (μ : gM) (cnt lc wc : Nat) (pl : Nat → Nat) (hV : mV μ cnt lc wc pl) (x y : Int32) (v : Int32) (ev : v = lkC μ cnt x y true) : Met l yX6_impact wsX6_impact { frames := 4, cells := 0, slots := 0, locals := 95 } (va_Pc [.ref (g.2.1 31), .int x, .int y] (gB g μ)) (va_Qi (fun (r : Int32) (μ' : gM) => r = (if v = 0 then nI (cF cnt (mImp μ lc cnt y (ix x))) else 0) ∧ μ' = (if v = 0 then gR (gU (lkM μ cnt y (fndB cnt x && (true && inB y 0 9999))) 31 0 v) 49 (mImp μ lc cnt y (ix x)) else (gU (lkM μ cnt y (fndB cnt x && (true && inB y 0 9999))) 31 0 v))) (gPB g) (gA g)) 0 0 (gA g) := by
  refine g_ofI (cc := cX6_impact) (nL := 3) (ret := (some .int)) (ty := .int) (by decide +kernel) rfl rfl (fun _ _ _ => rfl) (Nat.le_of_ble_eq_true rfl) ?_
  intro p e s m args below meth c Q Z hR
  obtain ⟨hcnt, mc, hlc, ml, hwc, mw, ms, m1, m2, m12, mm, ma, mt, mp, md⟩ := hV
  refine j_aload_n Z dX6_impact_0 0 rfl ?_
  refine j_aload_n Z dX6_impact_1 0 rfl ?_
  refine j_iload_n Z dX6_impact_2 1 rfl ?_
  refine j_iload_n Z dX6_impact_3 2 rfl ?_
  refine j_iconst Z (v := 1) dX6_impact_4 (by decide) ?_
  refine j_callVi Z (As := [.int x, .int y, .int 1]) (rest := [.ref (g.2.1 31)]) (nA := 3) 31 (by decide) rfl rfl (c_X6_looked l g μ cnt hcnt mc ms x y true) gX6_impact_X6_looked rfl rfl rfl (by decide +kernel) (by decide) rfl dX6_impact_5 rfl (Nat.le_of_ble_eq_true rfl) (by decide) (fun r9 μ9 hp => ?_)
  have hq : r9 = lkC μ cnt x y true ∧ μ9 = (lkM μ cnt y (fndB cnt x && (true && inB y 0 9999))) := hp
  rw [← ev] at hq
  refine j_mem hq.2 ?_
  refine j_eq hq.1 ?_
  clear hq hp
  refine j_callVi Z (As := [.int v]) (rest := []) (nA := 1) 31 (by decide) rfl rfl (c_X6_refused l g (lkM μ cnt y (fndB cnt x && (true && inB y 0 9999))) v) gX6_impact_X6_refused rfl rfl rfl (by decide +kernel) (by decide) rfl dX6_impact_8 rfl (Nat.le_of_ble_eq_true rfl) (by decide) (fun r9 μ9 hp => ?_)
  have hq : r9 = zB (decide (¬ v = 0)) ∧ μ9 = (gU (lkM μ cnt y (fndB cnt x && (true && inB y 0 9999))) 31 0 v) := hp
  refine j_mem hq.2 ?_
  refine j_eq hq.1 ?_
  clear hq hp
  refine j_if_eq Z 18 dX6_impact_11 (by decide) (fun h11 => ?_) (fun h11 => ?_)
  · skip
    have f11 := zB_0.mp h11
    have hv := dec_ne f11
    have hk := k3_z (ev.symm.trans hv)
    simp only [Bool.and_eq_true] at hk
    obtain ⟨ex, lx⟩ := fnd_ix hk.1 hcnt
    obtain ⟨S, hS⟩ : ∃ S, mSort μ cnt y (μ 47) = S := ⟨_, rfl⟩
    have okS : thOk cnt S := mS_ok hS hcnt
    have hm : lkM μ cnt y (fndB cnt x && (true && inB y 0 9999)) = gR μ 47 S := by rw [lkM_t (by simp [hk.1, hk.2.1]), hS]
    rw [hS] at hk
    obtain ⟨q, lq, eq9⟩ := th_j okS lx hk.2.2
    refine j_mem (μ' := (gU (gR μ 47 S) 31 0 v)) (by rw [hm]) ?_
    refine j_aload_n Z dX6_impact_18 0 rfl ?_
    refine j_aload_n Z dX6_impact_19 0 rfl ?_
    refine j_get Z 31 (by decide) rfl rfl 20 (by decide) rfl inX6_impact_X6 lkX6_impact_57 dX6_impact_20 ?_
    refine j_iload_n Z dX6_impact_23 1 rfl ?_
    refine j_eq ex ?_
    refine j_ild Z 47 (by decide) (fun _ => rfl) (ix x) rfl (by omega) (by decide) dX6_impact_24 ?_
    refine j_eq (y := S (ix x)) (by rw [gU_n (k := 31) (j := 47) (by omega), gR_s]) ?_
    refine j_eq eq9 ?_
    refine j_callVi Z (As := [.int (nI q)]) (rest := []) (nA := 1) 31 (by decide) rfl rfl (c_X6_spread l g (gU (gR μ 47 S) 31 0 v) cnt hcnt mc lc hlc ml m1 m2 m12 okS q (by omega)) gX6_impact_X6_spread rfl rfl rfl (by decide +kernel) (by decide) rfl dX6_impact_25 rfl (Nat.le_of_ble_eq_true rfl) (by decide) (fun r9 μ9 hp => ?_)
    have hq : r9 = nI (cF cnt (mFail (gR μ 47 S) lc cnt q)) ∧ μ9 = gR (gU (gR μ 47 S) 31 0 v) 49 (mFail (gR μ 47 S) lc cnt q) := hp
    refine j_mem hq.2 ?_
    refine j_eq hq.1 ?_
    clear hq hp
    exact hR _ _ _ _ _ _ (⟨by rw [if_pos hv]; unfold mImp; rw [hS, eq9, ix_nI (by omega)], by rw [if_pos hv]; unfold mImp; rw [hm, hS, eq9, ix_nI (by omega)]⟩) (by decide) (by decide) dX6_impact_28
  · skip
    have f11 := zB_1 h11
    have hv := dec_ne1 f11
    refine j_iconst Z (v := 0) dX6_impact_14 (by decide) ?_
    refine j_goto Z 28 dX6_impact_15 (by decide) ?_
    exact hR _ _ _ _ _ _ (⟨(if_neg hv).symm, (if_neg hv).symm⟩) (by decide) (by decide) dX6_impact_28
theorem lkX6_wish_139 : Cond.fieldLink RX6 139 (TX6 15).1 (TX6 15).2.1 (TX6 15).2.2.1 ∈ wsX6_wish := by decide +kernel
theorem inX6_wish_X6 : ∀ w ∈ u_ws RX6 TX6 23, w ∈ wsX6_wish := by decide +kernel
theorem lkX6_wish_45 : Cond.fieldLink RX6 45 (TX6 16).1 (TX6 16).2.1 (TX6 16).2.2.1 ∈ wsX6_wish := by decide +kernel
theorem lkX6_wish_48 : Cond.fieldLink RX6 48 (TX6 17).1 (TX6 17).2.1 (TX6 17).2.2.1 ∈ wsX6_wish := by decide +kernel
theorem lkX6_wish_51 : Cond.fieldLink RX6 51 (TX6 18).1 (TX6 18).2.1 (TX6 18).2.2.1 ∈ wsX6_wish := by decide +kernel
theorem lkX6_wish_54 : Cond.fieldLink RX6 54 (TX6 19).1 (TX6 19).2.1 (TX6 19).2.2.1 ∈ wsX6_wish := by decide +kernel
set_option maxRecDepth 100000 in
set_option maxHeartbeats 4000000 in
theorem c_X6_wish (l : Launch) (g : gC) (μ : gM) (cnt lc wc : Nat) (pl : Nat → Nat) (hV : mV μ cnt lc wc pl) (a1 a2 a3 a4 : Int32) (v : Int32) (ev : v = k2 (inB a1 0 2 && inB a2 1 99 && inB a3 0 1 && inB a4 0 99) (decide (wc < 20))) : Met l yX6_wish wsX6_wish { frames := 1, cells := 0, slots := 0, locals := 22 } (va_Pc [.ref (g.2.1 31), .int a1, .int a2, .int a3, .int a4] (gB g μ)) (va_Qi (fun (r : Int32) (μ' : gM) => r = (if v = 0 then nI wc else 0) ∧ μ' = (if v = 0 then (gU (gU (gU (gU (gU (gU μ 31 0 v) 43 wc a1) 44 wc a2) 45 wc a3) 46 wc a4) 31 15 (nI (wc + 1))) else gU μ 31 0 v)) (gPB g) (gA g)) 0 0 (gA g) := by
  refine g_ofI (cc := cX6_wish) (nL := 6) (ret := (some .int)) (ty := .int) (by decide +kernel) rfl rfl (fun _ _ _ => rfl) (Nat.le_of_ble_eq_true rfl) ?_
  intro p e s m args below meth c Q Z hR
  obtain ⟨hcnt, mc, hlc, ml, hwc, mw, ms, m1, m2, m12, mm, ma, mt, mp, md⟩ := hV
  have jp44 : J p l e { frames := 1, cells := 0, slots := 0, locals := 22 } s m args below meth c Q g 6 μ (0) (0) 44 [(0, .ref (g.2.1 31)), (1, .int a1), (2, .int a2), (3, .int a3), (4, .int a4)] [.int (zB (inB a1 0 2 && inB a2 1 99 && inB a3 0 1 && inB a4 0 99))] := by
    refine j_istore Z dX6_wish_44 (by decide) [(5, .int (zB (inB a1 0 2 && inB a2 1 99 && inB a3 0 1 && inB a4 0 99))), (0, .ref (g.2.1 31)), (1, .int a1), (2, .int a2), (3, .int a3), (4, .int a4)] rfl ?_
    have jp70 : J p l e { frames := 1, cells := 0, slots := 0, locals := 22 } s m args below meth c Q g 6 μ (0) (0) 70 [(5, .int (zB (inB a1 0 2 && inB a2 1 99 && inB a3 0 1 && inB a4 0 99))), (0, .ref (g.2.1 31)), (1, .int a1), (2, .int a2), (3, .int a3), (4, .int a4)] [.int v, .ref (g.2.1 31)] := by
      refine j_callVi Z (As := [.int v]) (rest := []) (nA := 1) 31 (by decide) rfl rfl (c_X6_refused l g μ v) gX6_wish_X6_refused rfl rfl rfl (by decide +kernel) (by decide) rfl dX6_wish_70 rfl (Nat.le_of_ble_eq_true rfl) (by decide) (fun r9 μ9 hp => ?_)
      have hq : r9 = zB (decide (¬ v = 0)) ∧ μ9 = (gU μ 31 0 v) := hp
      refine j_mem hq.2 ?_
      refine j_eq hq.1 ?_
      clear hq hp
      refine j_if_eq Z 78 dX6_wish_73 (by decide) (fun h73 => ?_) (fun h73 => ?_)
      · skip
        have f73 := zB_0.mp h73
        have hv := dec_ne f73
        have hk := k2_z (ev.symm.trans hv)
        have lwc : wc < 20 := of_decide_eq_true hk.2
        refine j_aload_n Z dX6_wish_78 1 rfl ?_
        refine j_get Z 31 (by decide) rfl rfl 16 (by decide) rfl inX6_wish_X6 lkX6_wish_45 dX6_wish_79 ?_
        refine j_aload_n Z dX6_wish_82 1 rfl ?_
        refine j_get Z 31 (by decide) rfl rfl 15 (by decide) rfl inX6_wish_X6 lkX6_wish_139 dX6_wish_83 ?_
        refine j_eq (y := μ 31 15) (by rw [gU_s, upd_n (i := 0) (j := 15) (by decide)]) ?_
        refine j_eq mw ?_
        refine j_iload_n Z dX6_wish_86 2 rfl ?_
        refine j_ist Z 43 (by decide) (fun _ => rfl) wc rfl (by omega) (by decide)  dX6_wish_87 ?_
        refine j_aload_n Z dX6_wish_88 1 rfl ?_
        refine j_get Z 31 (by decide) rfl rfl 17 (by decide) rfl inX6_wish_X6 lkX6_wish_48 dX6_wish_89 ?_
        refine j_aload_n Z dX6_wish_92 1 rfl ?_
        refine j_get Z 31 (by decide) rfl rfl 15 (by decide) rfl inX6_wish_X6 lkX6_wish_139 dX6_wish_93 ?_
        refine j_eq (y := μ 31 15) (by rw [gU_n (k := 43) (j := 31) (by omega), gU_s, upd_n (i := 0) (j := 15) (by decide)]) ?_
        refine j_eq mw ?_
        refine j_iload_n Z dX6_wish_96 3 rfl ?_
        refine j_ist Z 44 (by decide) (fun _ => rfl) wc rfl (by omega) (by decide)  dX6_wish_97 ?_
        refine j_aload_n Z dX6_wish_98 1 rfl ?_
        refine j_get Z 31 (by decide) rfl rfl 18 (by decide) rfl inX6_wish_X6 lkX6_wish_51 dX6_wish_99 ?_
        refine j_aload_n Z dX6_wish_102 1 rfl ?_
        refine j_get Z 31 (by decide) rfl rfl 15 (by decide) rfl inX6_wish_X6 lkX6_wish_139 dX6_wish_103 ?_
        refine j_eq (y := μ 31 15) (by rw [gU_n (k := 44) (j := 31) (by omega), gU_n (k := 43) (j := 31) (by omega), gU_s, upd_n (i := 0) (j := 15) (by decide)]) ?_
        refine j_eq mw ?_
        refine j_iload_n Z dX6_wish_106 4 rfl ?_
        refine j_ist Z 45 (by decide) (fun _ => rfl) wc rfl (by omega) (by decide)  dX6_wish_107 ?_
        refine j_aload_n Z dX6_wish_108 1 rfl ?_
        refine j_get Z 31 (by decide) rfl rfl 19 (by decide) rfl inX6_wish_X6 lkX6_wish_54 dX6_wish_109 ?_
        refine j_aload_n Z dX6_wish_112 1 rfl ?_
        refine j_get Z 31 (by decide) rfl rfl 15 (by decide) rfl inX6_wish_X6 lkX6_wish_139 dX6_wish_113 ?_
        refine j_eq (y := μ 31 15) (by rw [gU_n (k := 45) (j := 31) (by omega), gU_n (k := 44) (j := 31) (by omega), gU_n (k := 43) (j := 31) (by omega), gU_s, upd_n (i := 0) (j := 15) (by decide)]) ?_
        refine j_eq mw ?_
        refine j_iload Z dX6_wish_116 5 rfl ?_
        refine j_ist Z 46 (by decide) (fun _ => rfl) wc rfl (by omega) (by decide)  dX6_wish_118 ?_
        refine j_aload_n Z dX6_wish_119 1 rfl ?_
        refine j_dup Z dX6_wish_120 rfl ?_
        refine j_get Z 31 (by decide) rfl rfl 15 (by decide) rfl inX6_wish_X6 lkX6_wish_139 dX6_wish_121 ?_
        refine j_eq (y := μ 31 15) (by rw [gU_n (k := 46) (j := 31) (by omega), gU_n (k := 45) (j := 31) (by omega), gU_n (k := 44) (j := 31) (by omega), gU_n (k := 43) (j := 31) (by omega), gU_s, upd_n (i := 0) (j := 15) (by decide)]) ?_
        refine j_eq mw ?_
        refine j_iconst Z (v := 1) dX6_wish_124 (by decide) ?_
        refine j_iadd Z dX6_wish_125 ?_
        refine j_eq (nI_add wc 1) ?_
        refine j_put Z 31 (by decide) (fun _ => rfl) rfl tyX6 tyX6_ok nmX6 15 (by decide) rfl (Nat.le_of_ble_eq_true rfl) rfl (by decide +kernel) inX6_wish_X6 lkX6_wish_139 dX6_wish_126 ?_
        refine j_aload_n Z dX6_wish_129 1 rfl ?_
        refine j_get Z 31 (by decide) rfl rfl 15 (by decide) rfl inX6_wish_X6 lkX6_wish_139 dX6_wish_130 ?_
        refine j_eq (y := (nI (wc + 1))) (by rw [gU_s, upd_s]) ?_
        refine j_iconst Z (v := 1) dX6_wish_133 (by decide) ?_
        refine j_isub Z dX6_wish_134 ?_
        exact hR _ _ _ _ _ _ (⟨by rw [if_pos hv]; rw [nI_pred], by rw [if_pos hv]⟩) (by decide) (by decide) dX6_wish_135
      · skip
        have f73 := zB_1 h73
        have hv := dec_ne1 f73
        refine j_iconst Z (v := 0) dX6_wish_76 (by decide) ?_
        exact hR _ _ _ _ _ _ (⟨(if_neg hv).symm, (if_neg hv).symm⟩) (by decide) (by decide) dX6_wish_77
    refine j_aload_n Z dX6_wish_46 1 rfl ?_
    refine j_iload Z dX6_wish_47 0 rfl ?_
    refine j_if_ne Z 56 dX6_wish_49 (by decide) (fun h49 => ?_) (fun h49 => ?_)
    · skip
      have f49 := zB_1 h49
      refine j_aload_n Z dX6_wish_56 1 rfl ?_
      refine j_get Z 31 (by decide) rfl rfl 15 (by decide) rfl inX6_wish_X6 lkX6_wish_139 dX6_wish_57 ?_
      refine j_eq mw ?_
      refine j_bipush Z (v := 20) dX6_wish_60 (by decide) ?_
      refine j_icmp_ne Z 69 dX6_wish_62 (by decide) (fun h62 => ?_) (fun h62 => ?_)
      · skip
        have lwc : wc < 20 := by
          rcases Nat.lt_or_ge wc 20 with q9 | q9
          · exact q9
          · exact absurd (show nI wc = nI 20 by rw [show wc = 20 by omega]) h62
        refine j_iconst Z (v := 0) dX6_wish_69 (by decide) ?_
        refine j_sub [0, 1, 2, 3, 4, 5] rfl ?_
        exact j_eq (by rw [ev]; first | (simp [k2, f49, lwc]; done) | (clear jp70; simp_all [k2])) jp70
      · skip
        have lwc : ¬ wc < 20 := by
          have q9 := (nI_eq (a := wc) (b := 20) (by omega) (by decide)).mp h62
          omega
        refine j_iconst Z (v := 2) dX6_wish_65 (by decide) ?_
        refine j_goto Z 70 dX6_wish_66 (by decide) ?_
        refine j_sub [0, 1, 2, 3, 4, 5] rfl ?_
        exact j_eq (by rw [ev]; first | (simp [k2, f49, lwc]; done) | (clear jp70; simp_all [k2])) jp70
    · skip
      have f49 := zB_0.mp h49
      refine j_iconst Z (v := 1) dX6_wish_52 (by decide) ?_
      refine j_goto Z 70 dX6_wish_53 (by decide) ?_
      refine j_sub [0, 1, 2, 3, 4, 5] rfl ?_
      exact j_eq (by rw [ev]; first | (simp [k2, f49]; done) | (clear jp70; simp_all [k2])) jp70
  refine j_iload_n Z dX6_wish_0 1 rfl ?_
  refine j_iconst Z (v := 0) dX6_wish_1 (by decide) ?_
  refine j_iconst Z (v := 2) dX6_wish_2 (by decide) ?_
  refine j_callSi Z (As := [.int a1, .int 0, .int 2]) (rest := []) (nA := 3) (c_X6_in l g μ a1 0 2) gX6_wish_X6_in rfl rfl rfl (by decide +kernel) (by decide) rfl dX6_wish_3 rfl (Nat.le_of_ble_eq_true rfl) (by decide) (fun r9 μ9 hp => ?_)
  have hq : r9 = zB (inB a1 0 2) ∧ μ9 = μ := hp
  refine j_mem hq.2 ?_
  refine j_eq hq.1 ?_
  clear hq hp
  refine j_if_eq Z 43 dX6_wish_6 (by decide) (fun h6 => ?_) (fun h6 => ?_)
  · skip
    have f6 := zB_0.mp h6
    refine j_iconst Z (v := 0) dX6_wish_43 (by decide) ?_
    refine j_sub [0, 1, 2, 3, 4] rfl ?_
    exact j_eq (by simp [zB, f6]) jp44
  · skip
    have f6 := zB_1 h6
    refine j_iload_n Z dX6_wish_9 2 rfl ?_
    refine j_iconst Z (v := 1) dX6_wish_10 (by decide) ?_
    refine j_bipush Z (v := 99) dX6_wish_11 (by decide) ?_
    refine j_callSi Z (As := [.int a2, .int 1, .int 99]) (rest := []) (nA := 3) (c_X6_in l g μ a2 1 99) gX6_wish_X6_in rfl rfl rfl (by decide +kernel) (by decide) rfl dX6_wish_13 rfl (Nat.le_of_ble_eq_true rfl) (by decide) (fun r9 μ9 hp => ?_)
    have hq : r9 = zB (inB a2 1 99) ∧ μ9 = μ := hp
    refine j_mem hq.2 ?_
    refine j_eq hq.1 ?_
    clear hq hp
    refine j_if_eq Z 43 dX6_wish_16 (by decide) (fun h16 => ?_) (fun h16 => ?_)
    · skip
      have f16 := zB_0.mp h16
      refine j_iconst Z (v := 0) dX6_wish_43 (by decide) ?_
      refine j_sub [0, 1, 2, 3, 4] rfl ?_
      exact j_eq (by simp [zB, f6, f16]) jp44
    · skip
      have f16 := zB_1 h16
      refine j_iload_n Z dX6_wish_19 3 rfl ?_
      refine j_iconst Z (v := 0) dX6_wish_20 (by decide) ?_
      refine j_iconst Z (v := 1) dX6_wish_21 (by decide) ?_
      refine j_callSi Z (As := [.int a3, .int 0, .int 1]) (rest := []) (nA := 3) (c_X6_in l g μ a3 0 1) gX6_wish_X6_in rfl rfl rfl (by decide +kernel) (by decide) rfl dX6_wish_22 rfl (Nat.le_of_ble_eq_true rfl) (by decide) (fun r9 μ9 hp => ?_)
      have hq : r9 = zB (inB a3 0 1) ∧ μ9 = μ := hp
      refine j_mem hq.2 ?_
      refine j_eq hq.1 ?_
      clear hq hp
      refine j_if_eq Z 43 dX6_wish_25 (by decide) (fun h25 => ?_) (fun h25 => ?_)
      · skip
        have f25 := zB_0.mp h25
        refine j_iconst Z (v := 0) dX6_wish_43 (by decide) ?_
        refine j_sub [0, 1, 2, 3, 4] rfl ?_
        exact j_eq (by simp [zB, f6, f16, f25]) jp44
      · skip
        have f25 := zB_1 h25
        refine j_iload Z dX6_wish_28 4 rfl ?_
        refine j_iconst Z (v := 0) dX6_wish_30 (by decide) ?_
        refine j_bipush Z (v := 99) dX6_wish_31 (by decide) ?_
        refine j_callSi Z (As := [.int a4, .int 0, .int 99]) (rest := []) (nA := 3) (c_X6_in l g μ a4 0 99) gX6_wish_X6_in rfl rfl rfl (by decide +kernel) (by decide) rfl dX6_wish_33 rfl (Nat.le_of_ble_eq_true rfl) (by decide) (fun r9 μ9 hp => ?_)
        have hq : r9 = zB (inB a4 0 99) ∧ μ9 = μ := hp
        refine j_mem hq.2 ?_
        refine j_eq hq.1 ?_
        clear hq hp
        refine j_if_eq Z 43 dX6_wish_36 (by decide) (fun h36 => ?_) (fun h36 => ?_)
        · skip
          have f36 := zB_0.mp h36
          refine j_iconst Z (v := 0) dX6_wish_43 (by decide) ?_
          refine j_sub [0, 1, 2, 3, 4] rfl ?_
          exact j_eq (by simp [zB, f6, f16, f25, f36]) jp44
        · skip
          have f36 := zB_1 h36
          refine j_iconst Z (v := 1) dX6_wish_39 (by decide) ?_
          refine j_goto Z 44 dX6_wish_40 (by decide) ?_
          refine j_sub [0, 1, 2, 3, 4] rfl ?_
          exact j_eq (by simp [zB, f6, f16, f25, f36]) jp44
theorem lkX6_differing_139 : Cond.fieldLink RX6 139 (TX6 15).1 (TX6 15).2.1 (TX6 15).2.2.1 ∈ wsX6_differing := by decide +kernel
theorem inX6_differing_X6 : ∀ w ∈ u_ws RX6 TX6 23, w ∈ wsX6_differing := by decide +kernel
theorem lkX6_differing_70 : Cond.fieldLink RX6 70 (TX6 4).1 (TX6 4).2.1 (TX6 4).2.2.1 ∈ wsX6_differing := by decide +kernel
theorem lkX6_differing_51 : Cond.fieldLink RX6 51 (TX6 18).1 (TX6 18).2.1 (TX6 18).2.2.1 ∈ wsX6_differing := by decide +kernel
theorem lkX6_differing_54 : Cond.fieldLink RX6 54 (TX6 19).1 (TX6 19).2.1 (TX6 19).2.2.1 ∈ wsX6_differing := by decide +kernel
theorem lkX6_differing_57 : Cond.fieldLink RX6 57 (TX6 20).1 (TX6 20).2.1 (TX6 20).2.2.1 ∈ wsX6_differing := by decide +kernel
theorem lkX6_differing_22 : Cond.fieldLink RX6 22 (TX6 7).1 (TX6 7).2.1 (TX6 7).2.2.1 ∈ wsX6_differing := by decide +kernel
theorem lkX6_differing_45 : Cond.fieldLink RX6 45 (TX6 16).1 (TX6 16).2.1 (TX6 16).2.2.1 ∈ wsX6_differing := by decide +kernel
theorem lkX6_differing_48 : Cond.fieldLink RX6 48 (TX6 17).1 (TX6 17).2.1 (TX6 17).2.2.1 ∈ wsX6_differing := by decide +kernel
set_option maxRecDepth 100000 in
set_option maxHeartbeats 4000000 in
theorem c_X6_differing (l : Launch) (g : gC) (μ : gM) (cnt lc wc : Nat) (pl : Nat → Nat) (hV : mV μ cnt lc wc pl) (x y : Int32) (v : Int32) (ev : v = k2 (fndB wc x) (inB y 0 9999)) : Met l yX6_differing wsX6_differing { frames := 3, cells := 0, slots := 0, locals := 72 } (va_Pc [.ref (g.2.1 31), .int x, .int y] (gB g μ)) (va_Qi (fun (r : Int32) (μ' : gM) => r = (if v = 0 then nI (cB (fun k => wMk (mSort μ cnt y (μ 47)) (fun k => μ 36 (3 * k + ix (μ 43 (ix x)))) (nI k) (μ 44 (ix x)) k cnt && !decide (aVal (mSort μ cnt y (μ 47)) (mTl μ (ix (μ 45 (ix x)))) (mPl μ pl) (nI k) cnt = μ 46 (ix x))) cnt) else 0) ∧ μ' = (if v = 0 then gR (gU μ 31 0 v) 47 (mSort μ cnt y (μ 47)) else (gU μ 31 0 v))) (gPB g) (gA g)) 0 0 (gA g) := by
  refine g_ofI (cc := cX6_differing) (nL := 7) (ret := (some .int)) (ty := .int) (by decide +kernel) rfl rfl (fun _ _ _ => rfl) (Nat.le_of_ble_eq_true rfl) ?_
  intro p e s m args below meth c Q Z hR
  obtain ⟨hcnt, mc, hlc, ml, hwc, mw, ms, m1, m2, m12, mm, ma, mt, mp, md⟩ := hV
  have l43 : ix (μ 43 (ix x)) < 3 := (vp_ix (mm _) (by decide)).2
  have l45 : ix (μ 45 (ix x)) < 2 := (vp_ix (ma _) (by decide)).2
  refine j_aload_n Z dX6_differing_0 0 rfl ?_
  have jp31 : J p l e { frames := 3, cells := 0, slots := 0, locals := 72 } s m args below meth c Q g 7 μ (0) (0) 31 [(0, .ref (g.2.1 31)), (1, .int x), (2, .int y)] [.int v, .ref (g.2.1 31)] := by
    refine j_callVi Z (As := [.int v]) (rest := []) (nA := 1) 31 (by decide) rfl rfl (c_X6_refused l g μ v) gX6_differing_X6_refused rfl rfl rfl (by decide +kernel) (by decide) rfl dX6_differing_31 rfl (Nat.le_of_ble_eq_true rfl) (by decide) (fun r9 μ9 hp => ?_)
    have hq : r9 = zB (decide (¬ v = 0)) ∧ μ9 = (gU μ 31 0 v) := hp
    refine j_mem hq.2 ?_
    refine j_eq hq.1 ?_
    clear hq hp
    refine j_if_eq Z 39 dX6_differing_34 (by decide) (fun h34 => ?_) (fun h34 => ?_)
    · skip
      have f34 := zB_0.mp h34
      have hv := dec_ne f34
      have hk := k2_z (ev.symm.trans hv)
      obtain ⟨ex, lx⟩ := fnd_ix hk.1 (show wc ≤ 60 by omega)
      obtain ⟨S, hS⟩ : ∃ S, mSort μ cnt y (μ 47) = S := ⟨_, rfl⟩
      have okS : thOk cnt S := mS_ok hS hcnt
      refine j_aload_n Z dX6_differing_39 0 rfl ?_
      refine j_iload_n Z dX6_differing_40 2 rfl ?_
      refine j_callVv Z (As := [.int y]) (rest := []) (nA := 1) 31 (by decide) rfl rfl (c_X6_lay l g (gU μ 31 0 v) cnt hcnt mc y ms) gX6_differing_X6_lay rfl rfl rfl (by decide +kernel) (by decide) rfl dX6_differing_41 rfl (Nat.le_of_ble_eq_true rfl) (by decide) (fun μ9 hp => ?_)
      have hq : μ9 = gR (gU μ 31 0 v) 47 (mSort μ cnt y (μ 47)) := hp
      rw [hS] at hq
      refine j_mem hq ?_
      clear hq hp
      refine j_iconst Z (v := 0) dX6_differing_44 (by decide) ?_
      refine j_istore_n Z dX6_differing_45 (by decide) [(3, .int 0), (0, .ref (g.2.1 31)), (1, .int x), (2, .int y)] rfl ?_
      refine j_iconst Z (v := 0) dX6_differing_46 (by decide) ?_
      refine j_istore Z dX6_differing_47 (by decide) [(4, .int 0), (3, .int 0), (0, .ref (g.2.1 31)), (1, .int x), (2, .int y)] rfl ?_
      have lp49 : ∀ (nlp49 t9 : Nat) (b9 : Nat), b9 = cB (fun k => wMk S (fun k => μ 36 (3 * k + ix (μ 43 (ix x)))) (nI k) (μ 44 (ix x)) k cnt && !decide (aVal S (mTl μ (ix (μ 45 (ix x)))) (mPl μ pl) (nI k) cnt = μ 46 (ix x))) t9 → cnt + 2 ≤ t9 + nlp49 → t9 ≤ cnt → J p l e { frames := 3, cells := 0, slots := 0, locals := 72 } s m args below meth c Q g 7 (gR (gU μ 31 0 v) 47 S) (0) (0) 49 [(0, .ref (g.2.1 31)), (1, .int x), (2, .int y), (3, .int (nI b9)), (4, .int (nI t9))] [] := by
        intro nlp49
        induction nlp49 with
        | zero => intro t9 b9 eb9 hn hg; exact absurd hn (by omega)
        | succ nlp49 ihlp49 =>
          intro t9 b9 eb9 hn hg
          refine j_iload Z dX6_differing_49 4 rfl ?_
          refine j_aload_n Z dX6_differing_51 0 rfl ?_
          refine j_get Z 31 (by decide) rfl rfl 4 (by decide) rfl inX6_differing_X6 lkX6_differing_70 dX6_differing_52 ?_
          refine j_eq (y := μ 31 4) (by rw [gR_n (k := 47) (j := 31) (by omega), gU_s, upd_n (i := 0) (j := 4) (by decide)]) ?_
          refine j_eq mc ?_
          refine j_icmp_ge Z 180 dX6_differing_55 (by decide) (fun h55 => ?_) (fun h55 => ?_)
          · skip
            have hic : t9 = cnt := by
              have hq := (nI_leI (a := cnt) (b := t9) (by omega) (by omega)).mp h55
              omega
            rw [hic] at eb9
            refine j_iload_n Z dX6_differing_180 3 rfl ?_
            exact hR _ _ _ _ _ _ (⟨by rw [if_pos hv]; rw [eb9, hS], by rw [if_pos hv]; rw [hS]⟩) (by decide) (by decide) dX6_differing_181
          · skip
            have hlt : t9 < cnt := by
              rcases Nat.lt_or_ge t9 cnt with q9 | q9
              · exact q9
              · exact absurd (nI_le q9 (by omega)) h55
            refine j_iconst Z (v := 0) dX6_differing_58 (by decide) ?_
            refine j_istore Z dX6_differing_59 (by decide) [(5, .int 0), (0, .ref (g.2.1 31)), (1, .int x), (2, .int y), (3, .int (nI b9)), (4, .int (nI t9))] rfl ?_
            refine j_iconst Z (v := 0) dX6_differing_61 (by decide) ?_
            refine j_istore Z dX6_differing_62 (by decide) [(6, .int 0), (5, .int 0), (0, .ref (g.2.1 31)), (1, .int x), (2, .int y), (3, .int (nI b9)), (4, .int (nI t9))] rfl ?_
            have lq64 : ∀ (nlq64 i : Nat) (s8 : Bool), s8 = wMk S (fun k => μ 36 (3 * k + ix (μ 43 (ix x)))) (nI t9) (μ 44 (ix x)) t9 i → cnt + 2 ≤ i + nlq64 → i ≤ cnt → J p l e { frames := 3, cells := 0, slots := 0, locals := 72 } s m args below meth c Q g 7 (gR (gU μ 31 0 v) 47 S) (0) (0) 64 [(0, .ref (g.2.1 31)), (1, .int x), (2, .int y), (3, .int (nI b9)), (4, .int (nI t9)), (5, .int (zB s8)), (6, .int (nI i))] [] := by
              intro nlq64
              induction nlq64 with
              | zero => intro i s8 es8 hn hg; exact absurd hn (by omega)
              | succ nlq64 ihlq64 =>
                intro i s8 es8 hn hg
                refine j_iload Z dX6_differing_64 6 rfl ?_
                refine j_aload_n Z dX6_differing_66 0 rfl ?_
                refine j_get Z 31 (by decide) rfl rfl 4 (by decide) rfl inX6_differing_X6 lkX6_differing_70 dX6_differing_67 ?_
                refine j_eq (y := μ 31 4) (by rw [gR_n (k := 47) (j := 31) (by omega), gU_s, upd_n (i := 0) (j := 4) (by decide)]) ?_
                refine j_eq mc ?_
                refine j_icmp_ge Z 140 dX6_differing_70 (by decide) (fun h70 => ?_) (fun h70 => ?_)
                · skip
                  have hic : i = cnt := by
                    have hq := (nI_leI (a := cnt) (b := i) (by omega) (by omega)).mp h70
                    omega
                  rw [hic] at es8
                  refine j_iload_n Z dX6_differing_140 3 rfl ?_
                  have jp172 : J p l e { frames := 3, cells := 0, slots := 0, locals := 72 } s m args below meth c Q g 7 (gR (gU μ 31 0 v) 47 S) (0) (0) 172 [(0, .ref (g.2.1 31)), (1, .int x), (2, .int y), (3, .int (nI b9)), (4, .int (nI t9)), (5, .int (zB s8)), (6, .int (nI i))] [.int (if (s8 && !decide (aVal S (mTl μ (ix (μ 45 (ix x)))) (mPl μ pl) (nI t9) cnt = μ 46 (ix x))) = true then 1 else 0), .int (nI b9)] := by
                    refine j_iadd Z dX6_differing_172 ?_
                    refine j_eq (cB_add (b := b9) (c := (s8 && !decide (aVal S (mTl μ (ix (μ 45 (ix x)))) (mPl μ pl) (nI t9) cnt = μ 46 (ix x))) = true)) ?_
                    refine j_istore_n Z dX6_differing_173 (by decide) [(3, .int (nI (b9 + (if (s8 && !decide (aVal S (mTl μ (ix (μ 45 (ix x)))) (mPl μ pl) (nI t9) cnt = μ 46 (ix x))) = true then 1 else 0)))), (0, .ref (g.2.1 31)), (1, .int x), (2, .int y), (4, .int (nI t9)), (5, .int (zB s8)), (6, .int (nI i))] rfl ?_
                    refine j_iinc Z dX6_differing_174 4 rfl (nI_1 t9) (by decide) [(4, .int (nI (t9 + 1))), (3, .int (nI (b9 + (if (s8 && !decide (aVal S (mTl μ (ix (μ 45 (ix x)))) (mPl μ pl) (nI t9) cnt = μ 46 (ix x))) = true then 1 else 0)))), (0, .ref (g.2.1 31)), (1, .int x), (2, .int y), (5, .int (zB s8)), (6, .int (nI i))] rfl ?_
                    refine j_goto Z 49 dX6_differing_177 (by decide) ?_
                    refine j_sub [2, 3, 4, 1, 0] rfl ?_
                    exact ihlp49 (t9 + 1) (b9 + (if (s8 && !decide (aVal S (mTl μ (ix (μ 45 (ix x)))) (mPl μ pl) (nI t9) cnt = μ 46 (ix x))) = true then 1 else 0)) (by rw [eb9, es8]; rfl)  (by omega) (by omega)
                  refine j_iload Z dX6_differing_141 5 rfl ?_
                  refine j_if_eq Z 171 dX6_differing_143 (by decide) (fun h143 => ?_) (fun h143 => ?_)
                  · skip
                    have f143 := zB_0.mp h143
                    refine j_iconst Z (v := 0) dX6_differing_171 (by decide) ?_
                    refine j_sub [0, 1, 2, 3, 4, 5, 6] rfl ?_
                    exact j_eq (by simp [f143]) jp172
                  · skip
                    have f143 := zB_1 h143
                    refine j_aload_n Z dX6_differing_146 0 rfl ?_
                    refine j_iload Z dX6_differing_147 4 rfl ?_
                    refine j_aload_n Z dX6_differing_149 0 rfl ?_
                    refine j_get Z 31 (by decide) rfl rfl 18 (by decide) rfl inX6_differing_X6 lkX6_differing_51 dX6_differing_150 ?_
                    refine j_iload_n Z dX6_differing_153 1 rfl ?_
                    refine j_eq ex ?_
                    refine j_ild Z 45 (by decide) (fun _ => rfl) (ix x) rfl (by omega) (by decide) dX6_differing_154 ?_
                    refine j_eq (y := μ 45 (ix x)) (by rw [gR_n (k := 47) (j := 45) (by omega), gU_n (k := 31) (j := 45) (by omega)]) ?_
                    refine j_eq (vp_ix (ma _) (by decide)).1 ?_
                    refine j_callVi Z (As := [.int (nI t9), .int (nI (ix (μ 45 (ix x))))]) (rest := [.int (nI b9)]) (nA := 2) 31 (by decide) rfl rfl (c_X6_valueOf l g (gR (gU μ 31 0 v) 47 S) cnt hcnt mc ms pl mp md mt (nI t9) (ix (μ 45 (ix x))) (by omega)) gX6_differing_X6_valueOf rfl rfl rfl (by decide +kernel) (by decide) rfl dX6_differing_155 rfl (Nat.le_of_ble_eq_true rfl) (by decide) (fun r9 μ9 hp => ?_)
                    have hq : r9 = aVal S (mTl μ (ix (μ 45 (ix x)))) (mPl μ pl) (nI t9) cnt ∧ μ9 = (gR (gU μ 31 0 v) 47 S) := hp
                    refine j_mem hq.2 ?_
                    refine j_eq hq.1 ?_
                    clear hq hp
                    refine j_aload_n Z dX6_differing_158 0 rfl ?_
                    refine j_get Z 31 (by decide) rfl rfl 19 (by decide) rfl inX6_differing_X6 lkX6_differing_54 dX6_differing_159 ?_
                    refine j_iload_n Z dX6_differing_162 1 rfl ?_
                    refine j_eq ex ?_
                    refine j_ild Z 46 (by decide) (fun _ => rfl) (ix x) rfl (by omega) (by decide) dX6_differing_163 ?_
                    refine j_eq (y := μ 46 (ix x)) (by rw [gR_n (k := 47) (j := 46) (by omega), gU_n (k := 31) (j := 46) (by omega)]) ?_
                    refine j_icmp_eq Z 171 dX6_differing_164 (by decide) (fun h164 => ?_) (fun h164 => ?_)
                    · skip
                      refine j_iconst Z (v := 0) dX6_differing_171 (by decide) ?_
                      refine j_sub [0, 1, 2, 3, 4, 5, 6] rfl ?_
                      exact j_eq (by simp [f143, h164]) jp172
                    · skip
                      refine j_iconst Z (v := 1) dX6_differing_167 (by decide) ?_
                      refine j_goto Z 172 dX6_differing_168 (by decide) ?_
                      refine j_sub [0, 1, 2, 3, 4, 5, 6] rfl ?_
                      exact j_eq (by simp [f143, h164]) jp172
                · skip
                  have hlt : i < cnt := by
                    rcases Nat.lt_or_ge i cnt with q9 | q9
                    · exact q9
                    · exact absurd (nI_le q9 (by omega)) h70
                  have jp132 : J p l e { frames := 3, cells := 0, slots := 0, locals := 72 } s m args below meth c Q g 7 (gR (gU μ 31 0 v) 47 S) (0) (0) 132 [(0, .ref (g.2.1 31)), (1, .int x), (2, .int y), (3, .int (nI b9)), (4, .int (nI t9)), (5, .int (zB s8)), (6, .int (nI i))] [.int (zB (s8 || (decide (S t9 = nI t9) && (decide (S i = nI t9) && decide ((fun k => μ 36 (3 * k + ix (μ 43 (ix x)))) i = μ 44 (ix x))))))] := by
                    refine j_istore Z dX6_differing_132 (by decide) [(5, .int (zB (s8 || (decide (S t9 = nI t9) && (decide (S i = nI t9) && decide ((fun k => μ 36 (3 * k + ix (μ 43 (ix x)))) i = μ 44 (ix x))))))), (0, .ref (g.2.1 31)), (1, .int x), (2, .int y), (3, .int (nI b9)), (4, .int (nI t9)), (6, .int (nI i))] rfl ?_
                    refine j_iinc Z dX6_differing_134 6 rfl (nI_1 i) (by decide) [(6, .int (nI (i + 1))), (5, .int (zB (s8 || (decide (S t9 = nI t9) && (decide (S i = nI t9) && decide ((fun k => μ 36 (3 * k + ix (μ 43 (ix x)))) i = μ 44 (ix x))))))), (0, .ref (g.2.1 31)), (1, .int x), (2, .int y), (3, .int (nI b9)), (4, .int (nI t9))] rfl ?_
                    refine j_goto Z 64 dX6_differing_137 (by decide) ?_
                    refine j_sub [2, 3, 4, 5, 6, 1, 0] rfl ?_
                    exact ihlq64 (i + 1) ((s8 || (decide (S t9 = nI t9) && (decide (S i = nI t9) && decide ((fun k => μ 36 (3 * k + ix (μ 43 (ix x)))) i = μ 44 (ix x)))))) (wMk_s es8)  (by omega) (by omega)
                  refine j_iload Z dX6_differing_73 5 rfl ?_
                  refine j_if_ne Z 127 dX6_differing_75 (by decide) (fun h75 => ?_) (fun h75 => ?_)
                  · skip
                    have f75 := zB_1 h75
                    refine j_iconst Z (v := 1) dX6_differing_127 (by decide) ?_
                    refine j_goto Z 132 dX6_differing_128 (by decide) ?_
                    refine j_sub [0, 1, 2, 3, 4, 5, 6] rfl ?_
                    exact j_eq (by simp [zB, f75]) jp132
                  · skip
                    have f75 := zB_0.mp h75
                    refine j_aload_n Z dX6_differing_78 0 rfl ?_
                    refine j_get Z 31 (by decide) rfl rfl 20 (by decide) rfl inX6_differing_X6 lkX6_differing_57 dX6_differing_79 ?_
                    refine j_iload Z dX6_differing_82 4 rfl ?_
                    refine j_ild Z 47 (by decide) (fun _ => rfl) t9 rfl (by omega) (by decide) dX6_differing_84 ?_
                    refine j_eq (y := S t9) (by rw [gR_s]) ?_
                    refine j_iload Z dX6_differing_85 4 rfl ?_
                    refine j_icmp_ne Z 131 dX6_differing_87 (by decide) (fun h87 => ?_) (fun h87 => ?_)
                    · skip
                      refine j_iconst Z (v := 0) dX6_differing_131 (by decide) ?_
                      refine j_sub [0, 1, 2, 3, 4, 5, 6] rfl ?_
                      exact j_eq (by simp [zB, f75, h87]) jp132
                    · skip
                      refine j_aload_n Z dX6_differing_90 0 rfl ?_
                      refine j_get Z 31 (by decide) rfl rfl 20 (by decide) rfl inX6_differing_X6 lkX6_differing_57 dX6_differing_91 ?_
                      refine j_iload Z dX6_differing_94 6 rfl ?_
                      refine j_ild Z 47 (by decide) (fun _ => rfl) i rfl (by omega) (by decide) dX6_differing_96 ?_
                      refine j_eq (y := S i) (by rw [gR_s]) ?_
                      refine j_iload Z dX6_differing_97 4 rfl ?_
                      refine j_icmp_ne Z 131 dX6_differing_99 (by decide) (fun h99 => ?_) (fun h99 => ?_)
                      · skip
                        refine j_iconst Z (v := 0) dX6_differing_131 (by decide) ?_
                        refine j_sub [0, 1, 2, 3, 4, 5, 6] rfl ?_
                        exact j_eq (by simp [zB, f75, h87, h99]) jp132
                      · skip
                        refine j_aload_n Z dX6_differing_102 0 rfl ?_
                        refine j_get Z 31 (by decide) rfl rfl 7 (by decide) rfl inX6_differing_X6 lkX6_differing_22 dX6_differing_103 ?_
                        refine j_iconst Z (v := 3) dX6_differing_106 (by decide) ?_
                        refine j_iload Z dX6_differing_107 6 rfl ?_
                        refine j_imul Z dX6_differing_109 ?_
                        refine j_eq (pk_mul 3 i) ?_
                        refine j_aload_n Z dX6_differing_110 0 rfl ?_
                        refine j_get Z 31 (by decide) rfl rfl 16 (by decide) rfl inX6_differing_X6 lkX6_differing_45 dX6_differing_111 ?_
                        refine j_iload_n Z dX6_differing_114 1 rfl ?_
                        refine j_eq ex ?_
                        refine j_ild Z 43 (by decide) (fun _ => rfl) (ix x) rfl (by omega) (by decide) dX6_differing_115 ?_
                        refine j_eq (y := μ 43 (ix x)) (by rw [gR_n (k := 47) (j := 43) (by omega), gU_n (k := 31) (j := 43) (by omega)]) ?_
                        refine j_eq (vp_ix (mm _) (by decide)).1 ?_
                        refine j_iadd Z dX6_differing_116 ?_
                        refine j_eq (nI_add (3 * i) (ix (μ 43 (ix x)))) ?_
                        refine j_ild Z 36 (by decide) (fun _ => rfl) ((3 * i) + (ix (μ 43 (ix x)))) rfl (by omega) (by decide) dX6_differing_117 ?_
                        refine j_eq (y := μ 36 ((3 * i) + (ix (μ 43 (ix x))))) (by rw [gR_n (k := 47) (j := 36) (by omega), gU_n (k := 31) (j := 36) (by omega)]) ?_
                        refine j_aload_n Z dX6_differing_118 0 rfl ?_
                        refine j_get Z 31 (by decide) rfl rfl 17 (by decide) rfl inX6_differing_X6 lkX6_differing_48 dX6_differing_119 ?_
                        refine j_iload_n Z dX6_differing_122 1 rfl ?_
                        refine j_eq ex ?_
                        refine j_ild Z 44 (by decide) (fun _ => rfl) (ix x) rfl (by omega) (by decide) dX6_differing_123 ?_
                        refine j_eq (y := μ 44 (ix x)) (by rw [gR_n (k := 47) (j := 44) (by omega), gU_n (k := 31) (j := 44) (by omega)]) ?_
                        refine j_icmp_ne Z 131 dX6_differing_124 (by decide) (fun h124 => ?_) (fun h124 => ?_)
                        · skip
                          refine j_iconst Z (v := 0) dX6_differing_131 (by decide) ?_
                          refine j_sub [0, 1, 2, 3, 4, 5, 6] rfl ?_
                          exact j_eq (by simp [zB, f75, h87, h99, h124]) jp132
                        · skip
                          refine j_iconst Z (v := 1) dX6_differing_127 (by decide) ?_
                          refine j_goto Z 132 dX6_differing_128 (by decide) ?_
                          refine j_sub [0, 1, 2, 3, 4, 5, 6] rfl ?_
                          exact j_eq (by simp [zB, f75, h87, h99, h124]) jp132
            refine j_sub [2, 3, 4, 5, 6, 1, 0] rfl ?_
            exact lq64 (cnt + 2) 0 (false) (wMk_0)  (by omega) (by omega)
      refine j_sub [2, 3, 4, 1, 0] rfl ?_
      exact lp49 (cnt + 2) 0 (0) (rfl)  (by omega) (by omega)
    · skip
      have f34 := zB_1 h34
      have hv := dec_ne1 f34
      refine j_iconst Z (v := 0) dX6_differing_37 (by decide) ?_
      exact hR _ _ _ _ _ _ (⟨(if_neg hv).symm, (if_neg hv).symm⟩) (by decide) (by decide) dX6_differing_38
  refine j_iload_n Z dX6_differing_1 1 rfl ?_
  refine j_iconst Z (v := 0) dX6_differing_2 (by decide) ?_
  refine j_aload_n Z dX6_differing_3 0 rfl ?_
  refine j_get Z 31 (by decide) rfl rfl 15 (by decide) rfl inX6_differing_X6 lkX6_differing_139 dX6_differing_4 ?_
  refine j_eq mw ?_
  refine j_iconst Z (v := 1) dX6_differing_7 (by decide) ?_
  refine j_isub Z dX6_differing_8 ?_
  refine j_callSi Z (As := [.int x, .int 0, .int ((nI wc) - 1)]) (rest := [.ref (g.2.1 31)]) (nA := 3) (c_X6_in l g μ x 0 ((nI wc) - 1)) gX6_differing_X6_in rfl rfl rfl (by decide +kernel) (by decide) rfl dX6_differing_9 rfl (Nat.le_of_ble_eq_true rfl) (by decide) (fun r9 μ9 hp => ?_)
  have hq : r9 = zB (inB x 0 (nI wc - 1)) ∧ μ9 = μ := hp
  rw [inB_cnt (show wc ≤ 60 by omega)] at hq
  refine j_mem hq.2 ?_
  refine j_eq hq.1 ?_
  clear hq hp
  refine j_if_ne Z 19 dX6_differing_12 (by decide) (fun h12 => ?_) (fun h12 => ?_)
  · skip
    have f12 := zB_1 h12
    refine j_iload_n Z dX6_differing_19 2 rfl ?_
    refine j_callSi Z (As := [.int y]) (rest := [.ref (g.2.1 31)]) (nA := 1) (c_X6_isDay l g μ y) gX6_differing_X6_isDay rfl rfl rfl (by decide +kernel) (by decide) rfl dX6_differing_20 rfl (Nat.le_of_ble_eq_true rfl) (by decide) (fun r9 μ9 hp => ?_)
    have hq : r9 = zB (inB y 0 9999) ∧ μ9 = μ := hp
    refine j_mem hq.2 ?_
    refine j_eq hq.1 ?_
    clear hq hp
    refine j_if_eq Z 30 dX6_differing_23 (by decide) (fun h23 => ?_) (fun h23 => ?_)
    · skip
      have f23 := zB_0.mp h23
      refine j_iconst Z (v := 2) dX6_differing_30 (by decide) ?_
      refine j_sub [0, 1, 2] rfl ?_
      exact j_eq (by rw [ev]; first | (simp [k2, f12, f23]; done) | (clear jp31; simp_all [k2])) jp31
    · skip
      have f23 := zB_1 h23
      refine j_iconst Z (v := 0) dX6_differing_26 (by decide) ?_
      refine j_goto Z 31 dX6_differing_27 (by decide) ?_
      refine j_sub [0, 1, 2] rfl ?_
      exact j_eq (by rw [ev]; first | (simp [k2, f12, f23]; done) | (clear jp31; simp_all [k2])) jp31
  · skip
    have f12 := zB_0.mp h12
    refine j_iconst Z (v := 1) dX6_differing_15 (by decide) ?_
    refine j_goto Z 31 dX6_differing_16 (by decide) ?_
    refine j_sub [0, 1, 2] rfl ?_
    exact j_eq (by rw [ev]; first | (simp [k2, f12]; done) | (clear jp31; simp_all [k2])) jp31
theorem lkX6_changed_70 : Cond.fieldLink RX6 70 (TX6 4).1 (TX6 4).2.1 (TX6 4).2.2.1 ∈ wsX6_changed := by decide +kernel
theorem inX6_changed_X6 : ∀ w ∈ u_ws RX6 TX6 23, w ∈ wsX6_changed := by decide +kernel
theorem lkX6_changed_57 : Cond.fieldLink RX6 57 (TX6 20).1 (TX6 20).2.1 (TX6 20).2.2.1 ∈ wsX6_changed := by decide +kernel
theorem lkX6_changed_60 : Cond.fieldLink RX6 60 (TX6 21).1 (TX6 21).2.1 (TX6 21).2.2.1 ∈ wsX6_changed := by decide +kernel
set_option maxRecDepth 100000 in
set_option maxHeartbeats 4000000 in
theorem c_X6_changed (l : Launch) (g : gC) (μ : gM) (cnt lc wc : Nat) (pl : Nat → Nat) (hV : mV μ cnt lc wc pl) (a y z : Int32) (v : Int32) (ev : v = k1 (inB a 0 1 && inB y 0 9999 && inB z 0 9999)) : Met l yX6_changed wsX6_changed { frames := 3, cells := 0, slots := 0, locals := 72 } (va_Pc [.ref (g.2.1 31), .int a, .int y, .int z] (gB g μ)) (va_Qi (fun (r : Int32) (μ' : gM) => r = (if v = 0 then nI (cB (fun k => cDif (mSort μ cnt z (mSort μ cnt y (μ 47))) (mTl μ (ix a)) (mPl μ pl) (cRow (mSort μ cnt y (μ 47)) (mTl μ (ix a)) (mPl μ pl) (μ 48) cnt cnt) cnt k) cnt) else 0) ∧ μ' = (if v = 0 then gR (gR (gR (gU μ 31 0 v) 47 (mSort μ cnt y (μ 47))) 48 (cRow (mSort μ cnt y (μ 47)) (mTl μ (ix a)) (mPl μ pl) (μ 48) cnt cnt)) 47 (mSort μ cnt z (mSort μ cnt y (μ 47))) else (gU μ 31 0 v))) (gPB g) (gA g)) 0 0 (gA g) := by
  refine g_ofI (cc := cX6_changed) (nL := 6) (ret := (some .int)) (ty := .int) (by decide +kernel) rfl rfl (fun _ _ _ => rfl) (Nat.le_of_ble_eq_true rfl) ?_
  intro p e s m args below meth c Q Z hR
  obtain ⟨hcnt, mc, hlc, ml, hwc, mw, ms, m1, m2, m12, mm, ma, mt, mp, md⟩ := hV
  refine j_aload_n Z dX6_changed_0 0 rfl ?_
  have jp29 : J p l e { frames := 3, cells := 0, slots := 0, locals := 72 } s m args below meth c Q g 6 μ (0) (0) 29 [(0, .ref (g.2.1 31)), (1, .int a), (2, .int y), (3, .int z)] [.int v, .ref (g.2.1 31)] := by
    refine j_callVi Z (As := [.int v]) (rest := []) (nA := 1) 31 (by decide) rfl rfl (c_X6_refused l g μ v) gX6_changed_X6_refused rfl rfl rfl (by decide +kernel) (by decide) rfl dX6_changed_29 rfl (Nat.le_of_ble_eq_true rfl) (by decide) (fun r9 μ9 hp => ?_)
    have hq : r9 = zB (decide (¬ v = 0)) ∧ μ9 = (gU μ 31 0 v) := hp
    refine j_mem hq.2 ?_
    refine j_eq hq.1 ?_
    clear hq hp
    refine j_if_eq Z 37 dX6_changed_32 (by decide) (fun h32 => ?_) (fun h32 => ?_)
    · skip
      have f32 := zB_0.mp h32
      have hv := dec_ne f32
      have hk := k1_z (ev.symm.trans hv)
      simp only [Bool.and_eq_true] at hk
      obtain ⟨ea, la⟩ := vp_ix (inB_vp hk.1.1 (N := 2) rfl) (by decide)
      obtain ⟨S, hS⟩ : ∃ S, mSort μ cnt y (μ 47) = S := ⟨_, rfl⟩
      have okS : thOk cnt S := mS_ok hS hcnt
      obtain ⟨S2, hS2⟩ : ∃ S2, mSort μ cnt z S = S2 := ⟨_, rfl⟩
      have okS2 : thOk cnt S2 := mS_ok hS2 hcnt
      refine j_aload_n Z dX6_changed_37 0 rfl ?_
      refine j_iload_n Z dX6_changed_38 2 rfl ?_
      refine j_callVv Z (As := [.int y]) (rest := []) (nA := 1) 31 (by decide) rfl rfl (c_X6_lay l g (gU μ 31 0 v) cnt hcnt mc y ms) gX6_changed_X6_lay rfl rfl rfl (by decide +kernel) (by decide) rfl dX6_changed_39 rfl (Nat.le_of_ble_eq_true rfl) (by decide) (fun μ9 hp => ?_)
      have hq : μ9 = gR (gU μ 31 0 v) 47 (mSort μ cnt y (μ 47)) := hp
      rw [hS] at hq
      refine j_mem hq ?_
      clear hq hp
      refine j_iconst Z (v := 0) dX6_changed_42 (by decide) ?_
      refine j_istore Z dX6_changed_43 (by decide) [(4, .int 0), (0, .ref (g.2.1 31)), (1, .int a), (2, .int y), (3, .int z)] rfl ?_
      have lp45 : ∀ (nlp45 i : Nat) (r : Nat → Int32), r = cRow S (mTl μ (ix a)) (mPl μ pl) (μ 48) cnt i → cnt + 2 ≤ i + nlp45 → i ≤ cnt → J p l e { frames := 3, cells := 0, slots := 0, locals := 72 } s m args below meth c Q g 6 (gR (gR (gU μ 31 0 v) 47 S) 48 r) (0) (0) 45 [(0, .ref (g.2.1 31)), (1, .int a), (2, .int y), (3, .int z), (4, .int (nI i))] [] := by
        intro nlp45
        induction nlp45 with
        | zero => intro i r er hn hg; exact absurd hn (by omega)
        | succ nlp45 ihlp45 =>
          intro i r er hn hg
          refine j_iload Z dX6_changed_45 4 rfl ?_
          refine j_aload_n Z dX6_changed_47 0 rfl ?_
          refine j_get Z 31 (by decide) rfl rfl 4 (by decide) rfl inX6_changed_X6 lkX6_changed_70 dX6_changed_48 ?_
          refine j_eq (y := μ 31 4) (by rw [gR_n (k := 48) (j := 31) (by omega), gR_n (k := 47) (j := 31) (by omega), gU_s, upd_n (i := 0) (j := 4) (by decide)]) ?_
          refine j_eq mc ?_
          refine j_icmp_ge Z 94 dX6_changed_51 (by decide) (fun h51 => ?_) (fun h51 => ?_)
          · skip
            have hic : i = cnt := by
              have hq := (nI_leI (a := cnt) (b := i) (by omega) (by omega)).mp h51
              omega
            rw [hic] at er
            refine j_aload_n Z dX6_changed_94 0 rfl ?_
            refine j_iload_n Z dX6_changed_95 3 rfl ?_
            refine j_callVv Z (As := [.int z]) (rest := []) (nA := 1) 31 (by decide) rfl rfl (c_X6_lay l g (gR (gR (gU μ 31 0 v) 47 S) 48 r) cnt hcnt mc z ms) gX6_changed_X6_lay rfl rfl rfl (by decide +kernel) (by decide) rfl dX6_changed_96 rfl (Nat.le_of_ble_eq_true rfl) (by decide) (fun μ9 hp => ?_)
            have hq : μ9 = gR (gR (gR (gU μ 31 0 v) 47 S) 48 r) 47 (mSort μ cnt z S) := hp
            rw [hS2] at hq
            refine j_mem hq ?_
            clear hq hp
            refine j_iconst Z (v := 0) dX6_changed_99 (by decide) ?_
            refine j_istore Z dX6_changed_100 (by decide) [(4, .int 0), (0, .ref (g.2.1 31)), (1, .int a), (2, .int y), (3, .int z)] rfl ?_
            refine j_iconst Z (v := 0) dX6_changed_102 (by decide) ?_
            refine j_istore Z dX6_changed_103 (by decide) [(5, .int 0), (4, .int 0), (0, .ref (g.2.1 31)), (1, .int a), (2, .int y), (3, .int z)] rfl ?_
            have lq105 : ∀ (nlq105 i9 : Nat) (b9 : Nat), b9 = cB (fun k => cDif S2 (mTl μ (ix a)) (mPl μ pl) r cnt k) i9 → cnt + 2 ≤ i9 + nlq105 → i9 ≤ cnt → J p l e { frames := 3, cells := 0, slots := 0, locals := 72 } s m args below meth c Q g 6 (gR (gR (gR (gU μ 31 0 v) 47 S) 48 r) 47 S2) (0) (0) 105 [(0, .ref (g.2.1 31)), (1, .int a), (2, .int y), (3, .int z), (4, .int (nI b9)), (5, .int (nI i9))] [] := by
              intro nlq105
              induction nlq105 with
              | zero => intro i9 b9 eb9 hn hg; exact absurd hn (by omega)
              | succ nlq105 ihlq105 =>
                intro i9 b9 eb9 hn hg
                refine j_iload Z dX6_changed_105 5 rfl ?_
                refine j_aload_n Z dX6_changed_107 0 rfl ?_
                refine j_get Z 31 (by decide) rfl rfl 4 (by decide) rfl inX6_changed_X6 lkX6_changed_70 dX6_changed_108 ?_
                refine j_eq (y := μ 31 4) (by rw [gR_n (k := 47) (j := 31) (by omega), gR_n (k := 48) (j := 31) (by omega), gR_n (k := 47) (j := 31) (by omega), gU_s, upd_n (i := 0) (j := 4) (by decide)]) ?_
                refine j_eq mc ?_
                refine j_icmp_ge Z 174 dX6_changed_111 (by decide) (fun h111 => ?_) (fun h111 => ?_)
                · skip
                  have hic : i9 = cnt := by
                    have hq := (nI_leI (a := cnt) (b := i9) (by omega) (by omega)).mp h111
                    omega
                  rw [hic] at eb9
                  refine j_iload Z dX6_changed_174 4 rfl ?_
                  exact hR _ _ _ _ _ _ (⟨by rw [if_pos hv]; rw [eb9, er, hS, hS2], by rw [if_pos hv]; rw [er, hS, hS2]⟩) (by decide) (by decide) dX6_changed_176
                · skip
                  have hlt : i9 < cnt := by
                    rcases Nat.lt_or_ge i9 cnt with q9 | q9
                    · exact q9
                    · exact absurd (nI_le q9 (by omega)) h111
                  refine j_iload Z dX6_changed_114 4 rfl ?_
                  have jp165 : J p l e { frames := 3, cells := 0, slots := 0, locals := 72 } s m args below meth c Q g 6 (gR (gR (gR (gU μ 31 0 v) 47 S) 48 r) 47 S2) (0) (0) 165 [(0, .ref (g.2.1 31)), (1, .int a), (2, .int y), (3, .int z), (4, .int (nI b9)), (5, .int (nI i9))] [.int (if cDif S2 (mTl μ (ix a)) (mPl μ pl) r cnt i9 = true then 1 else 0), .int (nI b9)] := by
                    refine j_iadd Z dX6_changed_165 ?_
                    refine j_eq (cB_add (b := b9) (c := cDif S2 (mTl μ (ix a)) (mPl μ pl) r cnt i9 = true)) ?_
                    refine j_istore Z dX6_changed_166 (by decide) [(4, .int (nI (b9 + (if cDif S2 (mTl μ (ix a)) (mPl μ pl) r cnt i9 = true then 1 else 0)))), (0, .ref (g.2.1 31)), (1, .int a), (2, .int y), (3, .int z), (5, .int (nI i9))] rfl ?_
                    refine j_iinc Z dX6_changed_168 5 rfl (nI_1 i9) (by decide) [(5, .int (nI (i9 + 1))), (4, .int (nI (b9 + (if cDif S2 (mTl μ (ix a)) (mPl μ pl) r cnt i9 = true then 1 else 0)))), (0, .ref (g.2.1 31)), (1, .int a), (2, .int y), (3, .int z)] rfl ?_
                    refine j_goto Z 105 dX6_changed_171 (by decide) ?_
                    refine j_sub [2, 3, 4, 5, 1, 0] rfl ?_
                    exact ihlq105 (i9 + 1) (b9 + (if cDif S2 (mTl μ (ix a)) (mPl μ pl) r cnt i9 = true then 1 else 0)) (by rw [eb9]; rfl)  (by omega) (by omega)
                  refine j_aload_n Z dX6_changed_116 0 rfl ?_
                  refine j_get Z 31 (by decide) rfl rfl 20 (by decide) rfl inX6_changed_X6 lkX6_changed_57 dX6_changed_117 ?_
                  refine j_iload Z dX6_changed_120 5 rfl ?_
                  refine j_ild Z 47 (by decide) (fun _ => rfl) i9 rfl (by omega) (by decide) dX6_changed_122 ?_
                  refine j_eq (y := S2 i9) (by rw [gR_s]) ?_
                  refine j_if_lt Z 164 dX6_changed_123 (by decide) (fun h123 => ?_) (fun h123 => ?_)
                  · skip
                    refine j_iconst Z (v := 0) dX6_changed_164 (by decide) ?_
                    refine j_sub [0, 1, 2, 3, 4, 5] rfl ?_
                    exact j_eq (by first | (simp [cDif, ← Int32.not_le, h123]; done) | (simp [cDif, h123]; done)) jp165
                  · skip
                    refine j_aload_n Z dX6_changed_126 0 rfl ?_
                    refine j_get Z 31 (by decide) rfl rfl 21 (by decide) rfl inX6_changed_X6 lkX6_changed_60 dX6_changed_127 ?_
                    refine j_iload Z dX6_changed_130 5 rfl ?_
                    refine j_ild Z 48 (by decide) (fun _ => rfl) i9 rfl (by omega) (by decide) dX6_changed_132 ?_
                    refine j_eq (y := r i9) (by rw [gR_n (k := 47) (j := 48) (by omega), gR_s]) ?_
                    refine j_bipush Z (v := -2) dX6_changed_133 (by decide) ?_
                    refine j_icmp_le Z 164 dX6_changed_135 (by decide) (fun h135 => ?_) (fun h135 => ?_)
                    · skip
                      refine j_iconst Z (v := 0) dX6_changed_164 (by decide) ?_
                      refine j_sub [0, 1, 2, 3, 4, 5] rfl ?_
                      exact j_eq (by first | (simp [cDif, ← Int32.not_le, h123, h135]; done) | (simp [cDif, h123, h135]; done)) jp165
                    · skip
                      refine j_aload_n Z dX6_changed_138 0 rfl ?_
                      refine j_aload_n Z dX6_changed_139 0 rfl ?_
                      refine j_get Z 31 (by decide) rfl rfl 20 (by decide) rfl inX6_changed_X6 lkX6_changed_57 dX6_changed_140 ?_
                      refine j_iload Z dX6_changed_143 5 rfl ?_
                      refine j_ild Z 47 (by decide) (fun _ => rfl) i9 rfl (by omega) (by decide) dX6_changed_145 ?_
                      refine j_eq (y := S2 i9) (by rw [gR_s]) ?_
                      refine j_iload_n Z dX6_changed_146 1 rfl ?_
                      refine j_eq ea ?_
                      refine j_callVi Z (As := [.int (S2 i9), .int (nI (ix a))]) (rest := [.int (nI b9)]) (nA := 2) 31 (by decide) rfl rfl (c_X6_valueOf l g (gR (gR (gR (gU μ 31 0 v) 47 S) 48 r) 47 S2) cnt hcnt mc ms pl mp md mt (S2 i9) (ix a) (by omega)) gX6_changed_X6_valueOf rfl rfl rfl (by decide +kernel) (by decide) rfl dX6_changed_147 rfl (Nat.le_of_ble_eq_true rfl) (by decide) (fun r9 μ9 hp => ?_)
                      have hq : r9 = aVal S2 (mTl μ (ix a)) (mPl μ pl) (S2 i9) cnt ∧ μ9 = (gR (gR (gR (gU μ 31 0 v) 47 S) 48 r) 47 S2) := hp
                      refine j_mem hq.2 ?_
                      refine j_eq hq.1 ?_
                      clear hq hp
                      refine j_aload_n Z dX6_changed_150 0 rfl ?_
                      refine j_get Z 31 (by decide) rfl rfl 21 (by decide) rfl inX6_changed_X6 lkX6_changed_60 dX6_changed_151 ?_
                      refine j_iload Z dX6_changed_154 5 rfl ?_
                      refine j_ild Z 48 (by decide) (fun _ => rfl) i9 rfl (by omega) (by decide) dX6_changed_156 ?_
                      refine j_eq (y := r i9) (by rw [gR_n (k := 47) (j := 48) (by omega), gR_s]) ?_
                      refine j_icmp_eq Z 164 dX6_changed_157 (by decide) (fun h157 => ?_) (fun h157 => ?_)
                      · skip
                        refine j_iconst Z (v := 0) dX6_changed_164 (by decide) ?_
                        refine j_sub [0, 1, 2, 3, 4, 5] rfl ?_
                        exact j_eq (by first | (simp [cDif, ← Int32.not_le, h123, h135, h157]; done) | (simp [cDif, h123, h135, h157]; done)) jp165
                      · skip
                        refine j_iconst Z (v := 1) dX6_changed_160 (by decide) ?_
                        refine j_goto Z 165 dX6_changed_161 (by decide) ?_
                        refine j_sub [0, 1, 2, 3, 4, 5] rfl ?_
                        exact j_eq (by first | (simp [cDif, ← Int32.not_le, h123, h135, h157]; done) | (simp [cDif, h123, h135, h157]; done)) jp165
            refine j_sub [2, 3, 4, 5, 1, 0] rfl ?_
            exact lq105 (cnt + 2) 0 (0) (rfl)  (by omega) (by omega)
          · skip
            have hlt : i < cnt := by
              rcases Nat.lt_or_ge i cnt with q9 | q9
              · exact q9
              · exact absurd (nI_le q9 (by omega)) h51
            refine j_aload_n Z dX6_changed_54 0 rfl ?_
            refine j_get Z 31 (by decide) rfl rfl 21 (by decide) rfl inX6_changed_X6 lkX6_changed_60 dX6_changed_55 ?_
            refine j_iload Z dX6_changed_58 4 rfl ?_
            have jp87 : J p l e { frames := 3, cells := 0, slots := 0, locals := 72 } s m args below meth c Q g 6 (gR (gR (gU μ 31 0 v) 47 S) 48 r) (0) (0) 87 [(0, .ref (g.2.1 31)), (1, .int a), (2, .int y), (3, .int z), (4, .int (nI i))] [.int (if S i < 0 then -2 else aVal S (mTl μ (ix a)) (mPl μ pl) (S i) cnt), .int (nI i), .ref (g.2.1 48)] := by
              refine j_ist Z 48 (by decide) (fun _ => rfl) i rfl (by omega) (by decide)  dX6_changed_87 ?_
              refine j_mem (μ' := (gR (gR (gU μ 31 0 v) 47 S) 48 (upd r i (if S i < 0 then -2 else aVal S (mTl μ (ix a)) (mPl μ pl) (S i) cnt)))) gU_R ?_
              refine j_iinc Z dX6_changed_88 4 rfl (nI_1 i) (by decide) [(4, .int (nI (i + 1))), (0, .ref (g.2.1 31)), (1, .int a), (2, .int y), (3, .int z)] rfl ?_
              refine j_goto Z 45 dX6_changed_91 (by decide) ?_
              refine j_sub [1, 2, 3, 4, 0] rfl ?_
              exact ihlp45 (i + 1) (upd r i (if S i < 0 then -2 else aVal S (mTl μ (ix a)) (mPl μ pl) (S i) cnt)) (cRow_s er rfl)  (by omega) (by omega)
            refine j_aload_n Z dX6_changed_60 0 rfl ?_
            refine j_get Z 31 (by decide) rfl rfl 20 (by decide) rfl inX6_changed_X6 lkX6_changed_57 dX6_changed_61 ?_
            refine j_iload Z dX6_changed_64 4 rfl ?_
            refine j_ild Z 47 (by decide) (fun _ => rfl) i rfl (by omega) (by decide) dX6_changed_66 ?_
            refine j_eq (y := S i) (by rw [gR_n (k := 48) (j := 47) (by omega), gR_s]) ?_
            refine j_if_ge Z 75 dX6_changed_67 (by decide) (fun h67 => ?_) (fun h67 => ?_)
            · skip
              refine j_aload_n Z dX6_changed_75 0 rfl ?_
              refine j_aload_n Z dX6_changed_76 0 rfl ?_
              refine j_get Z 31 (by decide) rfl rfl 20 (by decide) rfl inX6_changed_X6 lkX6_changed_57 dX6_changed_77 ?_
              refine j_iload Z dX6_changed_80 4 rfl ?_
              refine j_ild Z 47 (by decide) (fun _ => rfl) i rfl (by omega) (by decide) dX6_changed_82 ?_
              refine j_eq (y := S i) (by rw [gR_n (k := 48) (j := 47) (by omega), gR_s]) ?_
              refine j_iload_n Z dX6_changed_83 1 rfl ?_
              refine j_eq ea ?_
              refine j_callVi Z (As := [.int (S i), .int (nI (ix a))]) (rest := [.int (nI i), .ref (g.2.1 48)]) (nA := 2) 31 (by decide) rfl rfl (c_X6_valueOf l g (gR (gR (gU μ 31 0 v) 47 S) 48 r) cnt hcnt mc ms pl mp md mt (S i) (ix a) (by omega)) gX6_changed_X6_valueOf rfl rfl rfl (by decide +kernel) (by decide) rfl dX6_changed_84 rfl (Nat.le_of_ble_eq_true rfl) (by decide) (fun r9 μ9 hp => ?_)
              have hq : r9 = aVal S (mTl μ (ix a)) (mPl μ pl) (S i) cnt ∧ μ9 = (gR (gR (gU μ 31 0 v) 47 S) 48 r) := hp
              refine j_mem hq.2 ?_
              refine j_eq hq.1 ?_
              clear hq hp
              refine j_sub [0, 1, 2, 3, 4] rfl ?_
              exact j_eq (by first | exact (if_pos (Int32.not_le.mp h67)).symm | exact (if_neg (Int32.not_lt.mpr h67)).symm) jp87
            · skip
              refine j_bipush Z (v := -2) dX6_changed_70 (by decide) ?_
              refine j_goto Z 87 dX6_changed_72 (by decide) ?_
              refine j_sub [0, 1, 2, 3, 4] rfl ?_
              exact j_eq (by first | exact (if_pos (Int32.not_le.mp h67)).symm | exact (if_neg (Int32.not_lt.mpr h67)).symm) jp87
      refine j_sub [1, 2, 3, 4, 0] rfl ?_
      refine j_mem (gR_id (k := 48) (r := μ 48) rfl) ?_
      exact lp45 (cnt + 2) 0 (μ 48) (cRow_0)  (by omega) (by omega)
    · skip
      have f32 := zB_1 h32
      have hv := dec_ne1 f32
      refine j_iconst Z (v := 0) dX6_changed_35 (by decide) ?_
      exact hR _ _ _ _ _ _ (⟨(if_neg hv).symm, (if_neg hv).symm⟩) (by decide) (by decide) dX6_changed_36
  refine j_iload_n Z dX6_changed_1 1 rfl ?_
  refine j_iconst Z (v := 0) dX6_changed_2 (by decide) ?_
  refine j_iconst Z (v := 1) dX6_changed_3 (by decide) ?_
  refine j_callSi Z (As := [.int a, .int 0, .int 1]) (rest := [.ref (g.2.1 31)]) (nA := 3) (c_X6_in l g μ a 0 1) gX6_changed_X6_in rfl rfl rfl (by decide +kernel) (by decide) rfl dX6_changed_4 rfl (Nat.le_of_ble_eq_true rfl) (by decide) (fun r9 μ9 hp => ?_)
  have hq : r9 = zB (inB a 0 1) ∧ μ9 = μ := hp
  refine j_mem hq.2 ?_
  refine j_eq hq.1 ?_
  clear hq hp
  refine j_if_eq Z 28 dX6_changed_7 (by decide) (fun h7 => ?_) (fun h7 => ?_)
  · skip
    have f7 := zB_0.mp h7
    refine j_iconst Z (v := 1) dX6_changed_28 (by decide) ?_
    refine j_sub [0, 1, 2, 3] rfl ?_
    exact j_eq (by rw [ev]; first | (simp [k1, f7]; done) | (clear jp29; simp_all [k1])) jp29
  · skip
    have f7 := zB_1 h7
    refine j_iload_n Z dX6_changed_10 2 rfl ?_
    refine j_callSi Z (As := [.int y]) (rest := [.ref (g.2.1 31)]) (nA := 1) (c_X6_isDay l g μ y) gX6_changed_X6_isDay rfl rfl rfl (by decide +kernel) (by decide) rfl dX6_changed_11 rfl (Nat.le_of_ble_eq_true rfl) (by decide) (fun r9 μ9 hp => ?_)
    have hq : r9 = zB (inB y 0 9999) ∧ μ9 = μ := hp
    refine j_mem hq.2 ?_
    refine j_eq hq.1 ?_
    clear hq hp
    refine j_if_eq Z 28 dX6_changed_14 (by decide) (fun h14 => ?_) (fun h14 => ?_)
    · skip
      have f14 := zB_0.mp h14
      refine j_iconst Z (v := 1) dX6_changed_28 (by decide) ?_
      refine j_sub [0, 1, 2, 3] rfl ?_
      exact j_eq (by rw [ev]; first | (simp [k1, f7, f14]; done) | (clear jp29; simp_all [k1])) jp29
    · skip
      have f14 := zB_1 h14
      refine j_iload_n Z dX6_changed_17 3 rfl ?_
      refine j_callSi Z (As := [.int z]) (rest := [.ref (g.2.1 31)]) (nA := 1) (c_X6_isDay l g μ z) gX6_changed_X6_isDay rfl rfl rfl (by decide +kernel) (by decide) rfl dX6_changed_18 rfl (Nat.le_of_ble_eq_true rfl) (by decide) (fun r9 μ9 hp => ?_)
      have hq : r9 = zB (inB z 0 9999) ∧ μ9 = μ := hp
      refine j_mem hq.2 ?_
      refine j_eq hq.1 ?_
      clear hq hp
      refine j_if_eq Z 28 dX6_changed_21 (by decide) (fun h21 => ?_) (fun h21 => ?_)
      · skip
        have f21 := zB_0.mp h21
        refine j_iconst Z (v := 1) dX6_changed_28 (by decide) ?_
        refine j_sub [0, 1, 2, 3] rfl ?_
        exact j_eq (by rw [ev]; first | (simp [k1, f7, f14, f21]; done) | (clear jp29; simp_all [k1])) jp29
      · skip
        have f21 := zB_1 h21
        refine j_iconst Z (v := 0) dX6_changed_24 (by decide) ?_
        refine j_goto Z 29 dX6_changed_25 (by decide) ?_
        refine j_sub [0, 1, 2, 3] rfl ?_
        exact j_eq (by rw [ev]; first | (simp [k1, f7, f14, f21]; done) | (clear jp29; simp_all [k1])) jp29
