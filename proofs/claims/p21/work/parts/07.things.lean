theorem lkX3_isThing_9 : Cond.fieldLink RX3 9 (TX3 2).1 (TX3 2).2.1 (TX3 2).2.2.1 ∈ wsX3_isThing := by decide +kernel
theorem inX3_isThing_X3 : ∀ w ∈ u_ws RX3 TX3 3, w ∈ wsX3_isThing := by decide +kernel
set_option maxRecDepth 100000 in
set_option maxHeartbeats 4000000 in
theorem c_X3_isThing (l : Launch) (g : gC) (μ : gM) (d : Nat) (hd : d < 2) (i : Nat) (hi : i < 60) : Met l yX3_isThing wsX3_isThing { frames := 0, cells := 0, slots := 0, locals := 0 } (va_Pc [.ref (g.2.1 (5 + d)), .int (nI i)] (gB g μ)) (va_Qi (fun (r : Int32) (μ' : gM) => r = zB (decide (μ (23 + d) i = nI i)) ∧ μ' = μ) (gPB g) (gA g)) 0 0 (gA g) := by
  refine g_ofI (cc := cX3_isThing) (nL := 2) (ret := (some .boolean)) (ty := .boolean) (by decide +kernel) rfl rfl (by rintro _ _ ⟨rfl, -⟩; exact zB_n) (Nat.le_of_ble_eq_true rfl) ?_
  intro p e s m args below meth c Q Z hR
  refine j_aload_n Z dX3_isThing_0 0 rfl ?_
  refine j_get Z (5 + d) (by omega) (gE_th hd) rfl 2 (by decide) rfl inX3_isThing_X3 lkX3_isThing_9 dX3_isThing_1 ?_
  refine j_iload_n Z dX3_isThing_4 1 rfl ?_
  refine j_ild Z (23 + d) (by omega) (gE_row (by omega)) i rfl (by omega) (by decide) dX3_isThing_5 ?_
  refine j_iload_n Z dX3_isThing_6 1 rfl ?_
  refine j_icmp_ne Z 14 dX3_isThing_7 (by decide) (fun h7 => ?_) (fun h7 => ?_)
  · skip
    refine j_iconst Z (v := 0) dX3_isThing_14 (by decide) ?_
    exact hR _ _ _ _ _ _ (⟨by first | (simp [zB, h7]; done) | (simp_all [zB]; done), rfl⟩) (by decide) (by decide) dX3_isThing_15
  · skip
    refine j_iconst Z (v := 1) dX3_isThing_10 (by decide) ?_
    refine j_goto Z 15 dX3_isThing_11 (by decide) ?_
    exact hR _ _ _ _ _ _ (⟨by first | (simp [zB, h7]; done) | (simp_all [zB]; done), rfl⟩) (by decide) (by decide) dX3_isThing_15
theorem lkX3_tells_9 : Cond.fieldLink RX3 9 (TX3 2).1 (TX3 2).2.1 (TX3 2).2.2.1 ∈ wsX3_tells := by decide +kernel
theorem inX3_tells_X3 : ∀ w ∈ u_ws RX3 TX3 3, w ∈ wsX3_tells := by decide +kernel
theorem lkX3_tells_15 : Cond.fieldLink RX3 15 (TX3 0).1 (TX3 0).2.1 (TX3 0).2.2.1 ∈ wsX3_tells := by decide +kernel
theorem lkX3_tells_61 : Cond.fieldLink RX3 61 (TX0 5).1 (TX0 5).2.1 (TX0 5).2.2.1 ∈ wsX3_tells := by decide +kernel
theorem inX3_tells_X0 : ∀ w ∈ u_ws RX0 TX0 7, w ∈ wsX3_tells := by decide +kernel
set_option maxRecDepth 100000 in
set_option maxHeartbeats 4000000 in
theorem c_X3_tells (l : Launch) (g : gC) (μ : gM) (d : Nat) (hd : d < 2) (x : Int32) (a i : Nat) (ha : a < 2) (hi : i < 60) : Met l yX3_tells wsX3_tells { frames := 0, cells := 0, slots := 0, locals := 0 } (va_Pc [.ref (g.2.1 (5 + d)), .int x, .int (nI a), .int (nI i)] (gB g μ)) (va_Qi (fun (r : Int32) (μ' : gM) => r = zB (tellB (μ (23 + d)) (μ (29 + a)) x i) ∧ μ' = μ) (gPB g) (gA g)) 0 0 (gA g) := by
  refine g_ofI (cc := cX3_tells) (nL := 4) (ret := (some .boolean)) (ty := .boolean) (by decide +kernel) rfl rfl (by rintro _ _ ⟨rfl, -⟩; exact zB_n) (Nat.le_of_ble_eq_true rfl) ?_
  intro p e s m args below meth c Q Z hR
  refine j_aload_n Z dX3_tells_0 0 rfl ?_
  refine j_get Z (5 + d) (by omega) (gE_th hd) rfl 2 (by decide) rfl inX3_tells_X3 lkX3_tells_9 dX3_tells_1 ?_
  refine j_iload_n Z dX3_tells_4 3 rfl ?_
  refine j_ild Z (23 + d) (by omega) (gE_row (by omega)) i rfl (by omega) (by decide) dX3_tells_5 ?_
  refine j_iload_n Z dX3_tells_6 1 rfl ?_
  refine j_icmp_ne Z 29 dX3_tells_7 (by decide) (fun h7 => ?_) (fun h7 => ?_)
  · skip
    refine j_iconst Z (v := 0) dX3_tells_29 (by decide) ?_
    exact hR _ _ _ _ _ _ (⟨by first | (simp [zB, tellB, h7]; done) | (simp_all [zB, tellB]; done), rfl⟩) (by decide) (by decide) dX3_tells_30
  · skip
    refine j_aload_n Z dX3_tells_10 0 rfl ?_
    refine j_get Z (5 + d) (by omega) (gE_th hd) rfl 0 (by decide) rfl inX3_tells_X3 lkX3_tells_15 dX3_tells_11 ?_
    refine j_get Z 2 (by decide) rfl rfl 5 (by decide) rfl inX3_tells_X0 lkX3_tells_61 dX3_tells_14 ?_
    refine j_iload_n Z dX3_tells_17 2 rfl ?_
    refine j_ald Z 13 (by decide) rfl a rfl (by omega) (by decide) rfl dX3_tells_18 ?_
    refine j_iload_n Z dX3_tells_19 3 rfl ?_
    refine j_ild Z (29 + a) (by omega) (gE_row (by omega)) i rfl (by omega) (by decide) dX3_tells_20 ?_
    refine j_iconst Z (v := -1) dX3_tells_21 (by decide) ?_
    refine j_icmp_eq Z 29 dX3_tells_22 (by decide) (fun h22 => ?_) (fun h22 => ?_)
    · skip
      refine j_iconst Z (v := 0) dX3_tells_29 (by decide) ?_
      exact hR _ _ _ _ _ _ (⟨by first | (simp [zB, tellB, h7, h22]; done) | (simp_all [zB, tellB]; done), rfl⟩) (by decide) (by decide) dX3_tells_30
    · skip
      refine j_iconst Z (v := 1) dX3_tells_25 (by decide) ?_
      refine j_goto Z 30 dX3_tells_26 (by decide) ?_
      exact hR _ _ _ _ _ _ (⟨by first | (simp [zB, tellB, h7, h22]; done) | (simp_all [zB, tellB]; done), rfl⟩) (by decide) (by decide) dX3_tells_30
theorem lkX3_goesBefore_19 : Cond.fieldLink RX3 19 (TX3 1).1 (TX3 1).2.1 (TX3 1).2.2.1 ∈ wsX3_goesBefore := by decide +kernel
theorem inX3_goesBefore_X3 : ∀ w ∈ u_ws RX3 TX3 3, w ∈ wsX3_goesBefore := by decide +kernel
theorem lkX3_goesBefore_65 : Cond.fieldLink RX3 65 (TX2 1).1 (TX2 1).2.1 (TX2 1).2.2.1 ∈ wsX3_goesBefore := by decide +kernel
theorem inX3_goesBefore_X2 : ∀ w ∈ u_ws RX2 TX2 2, w ∈ wsX3_goesBefore := by decide +kernel
theorem lkX3_goesBefore_15 : Cond.fieldLink RX3 15 (TX3 0).1 (TX3 0).2.1 (TX3 0).2.2.1 ∈ wsX3_goesBefore := by decide +kernel
theorem lkX3_goesBefore_70 : Cond.fieldLink RX3 70 (TX0 1).1 (TX0 1).2.1 (TX0 1).2.2.1 ∈ wsX3_goesBefore := by decide +kernel
theorem inX3_goesBefore_X0 : ∀ w ∈ u_ws RX0 TX0 7, w ∈ wsX3_goesBefore := by decide +kernel
set_option maxRecDepth 100000 in
set_option maxHeartbeats 4000000 in
theorem c_X3_goesBefore (l : Launch) (g : gC) (μ : gM) (d : Nat) (hd : d < 2) (i j : Nat) (hi : i < 60) (hj : j < 60) (hs : ∀ k, vp_in (μ 9 k) 4) : Met l yX3_goesBefore wsX3_goesBefore { frames := 0, cells := 0, slots := 0, locals := 0 } (va_Pc [.ref (g.2.1 (5 + d)), .int (nI i), .int (nI j)] (gB g μ)) (va_Qi (fun (r : Int32) (μ' : gM) => r = zB (!decide (fPl μ j < fPl μ i)) ∧ μ' = μ) (gPB g) (gA g)) 0 0 (gA g) := by
  refine g_ofI (cc := cX3_goesBefore) (nL := 5) (ret := (some .boolean)) (ty := .boolean) (by decide +kernel) rfl rfl (by rintro _ _ ⟨rfl, -⟩; exact zB_n) (Nat.le_of_ble_eq_true rfl) ?_
  intro p e s m args below meth c Q Z hR
  refine j_aload_n Z dX3_goesBefore_0 0 rfl ?_
  refine j_get Z (5 + d) (by omega) (gE_th hd) rfl 1 (by decide) rfl inX3_goesBefore_X3 lkX3_goesBefore_19 dX3_goesBefore_1 ?_
  refine j_get Z 1 (by decide) rfl rfl 1 (by decide) rfl inX3_goesBefore_X2 lkX3_goesBefore_65 dX3_goesBefore_4 ?_
  refine j_aload_n Z dX3_goesBefore_7 0 rfl ?_
  refine j_get Z (5 + d) (by omega) (gE_th hd) rfl 0 (by decide) rfl inX3_goesBefore_X3 lkX3_goesBefore_15 dX3_goesBefore_8 ?_
  refine j_get Z 2 (by decide) rfl rfl 1 (by decide) rfl inX3_goesBefore_X0 lkX3_goesBefore_70 dX3_goesBefore_11 ?_
  refine j_iload_n Z dX3_goesBefore_14 1 rfl ?_
  refine j_ild Z 9 (by decide) (fun _ => rfl) i rfl (by omega) (by decide) dX3_goesBefore_15 ?_
  refine j_ild Z 8 (by decide) (fun _ => rfl) (ix (μ 9 i)) (vp_ix (hs i) (by decide)).1 (vp_ix (hs i) (by decide)).2 (by decide) dX3_goesBefore_16 ?_
  refine j_istore_n Z dX3_goesBefore_17 (by decide) [(3, .int (μ 8 (ix (μ 9 i)))), (0, .ref (g.2.1 (5 + d))), (1, .int (nI i)), (2, .int (nI j))] rfl ?_
  refine j_aload_n Z dX3_goesBefore_18 1 rfl ?_
  refine j_get Z (5 + d) (by omega) (gE_th hd) rfl 1 (by decide) rfl inX3_goesBefore_X3 lkX3_goesBefore_19 dX3_goesBefore_19 ?_
  refine j_get Z 1 (by decide) rfl rfl 1 (by decide) rfl inX3_goesBefore_X2 lkX3_goesBefore_65 dX3_goesBefore_22 ?_
  refine j_aload_n Z dX3_goesBefore_25 1 rfl ?_
  refine j_get Z (5 + d) (by omega) (gE_th hd) rfl 0 (by decide) rfl inX3_goesBefore_X3 lkX3_goesBefore_15 dX3_goesBefore_26 ?_
  refine j_get Z 2 (by decide) rfl rfl 1 (by decide) rfl inX3_goesBefore_X0 lkX3_goesBefore_70 dX3_goesBefore_29 ?_
  refine j_iload_n Z dX3_goesBefore_32 3 rfl ?_
  refine j_ild Z 9 (by decide) (fun _ => rfl) j rfl (by omega) (by decide) dX3_goesBefore_33 ?_
  refine j_ild Z 8 (by decide) (fun _ => rfl) (ix (μ 9 j)) (vp_ix (hs j) (by decide)).1 (vp_ix (hs j) (by decide)).2 (by decide) dX3_goesBefore_34 ?_
  refine j_istore Z dX3_goesBefore_35 (by decide) [(4, .int (μ 8 (ix (μ 9 j)))), (3, .int (μ 8 (ix (μ 9 i)))), (0, .ref (g.2.1 (5 + d))), (1, .int (nI i)), (2, .int (nI j))] rfl ?_
  refine j_iload_n Z dX3_goesBefore_37 1 rfl ?_
  refine j_iload Z dX3_goesBefore_38 0 rfl ?_
  refine j_icmp_gt Z 47 dX3_goesBefore_40 (by decide) (fun h40 => ?_) (fun h40 => ?_)
  · skip
    refine j_iconst Z (v := 0) dX3_goesBefore_47 (by decide) ?_
    exact hR _ _ _ _ _ _ (⟨by first | (simp [zB, fPl, h40]; done) | (simp_all [zB, fPl]; done), rfl⟩) (by decide) (by decide) dX3_goesBefore_48
  · skip
    refine j_iconst Z (v := 1) dX3_goesBefore_43 (by decide) ?_
    refine j_goto Z 48 dX3_goesBefore_44 (by decide) ?_
    exact hR _ _ _ _ _ _ (⟨by first | (simp [zB, fPl, h40]; done) | (simp_all [zB, fPl]; done), rfl⟩) (by decide) (by decide) dX3_goesBefore_48
theorem mmaX3_merge_45 : Cond.methodLink RX3 45 Lib.Math.min.name ∈ wsX3_merge := by decide +kernel
theorem mmbX3_merge_45 : Cond.static Lib.Math.min.name ∈ wsX3_merge := by decide +kernel
theorem mmcX3_merge_45 : Cond.initialized "java/lang/Math" ∈ wsX3_merge := by decide +kernel
theorem mmeX3_merge_45 : Cond.code Lib.Math.min.name Lib.Math.min.code 2 (some .int) ∈ wsX3_merge := by decide +kernel
theorem mmaX3_merge_51 : Cond.methodLink RX3 51 Lib.Math.max.name ∈ wsX3_merge := by decide +kernel
theorem mmbX3_merge_51 : Cond.static Lib.Math.max.name ∈ wsX3_merge := by decide +kernel
theorem mmcX3_merge_51 : Cond.initialized "java/lang/Math" ∈ wsX3_merge := by decide +kernel
theorem mmeX3_merge_51 : Cond.code Lib.Math.max.name Lib.Math.max.code 2 (some .int) ∈ wsX3_merge := by decide +kernel
theorem lkX3_merge_15 : Cond.fieldLink RX3 15 (TX3 0).1 (TX3 0).2.1 (TX3 0).2.2.1 ∈ wsX3_merge := by decide +kernel
theorem inX3_merge_X3 : ∀ w ∈ u_ws RX3 TX3 3, w ∈ wsX3_merge := by decide +kernel
theorem lkX3_merge_23 : Cond.fieldLink RX3 23 (TX0 0).1 (TX0 0).2.1 (TX0 0).2.2.1 ∈ wsX3_merge := by decide +kernel
theorem inX3_merge_X0 : ∀ w ∈ u_ws RX0 TX0 7, w ∈ wsX3_merge := by decide +kernel
theorem lkX3_merge_9 : Cond.fieldLink RX3 9 (TX3 2).1 (TX3 2).2.1 (TX3 2).2.2.1 ∈ wsX3_merge := by decide +kernel
set_option maxRecDepth 100000 in
set_option maxHeartbeats 4000000 in
theorem c_X3_merge (l : Launch) (g : gC) (μ : gM) (d : Nat) (hd : d < 2) (cnt : Nat) (hcnt : cnt ≤ 60) (hc : μ 2 0 = nI cnt) (x y : Int32) : Met l yX3_merge wsX3_merge { frames := 1, cells := 0, slots := 0, locals := 21 } (va_Pc [.ref (g.2.1 (5 + d)), .int x, .int y] (gB g μ)) (va_Qv (fun μ' : gM => μ' = gR μ (23 + d) (sMerge cnt x y (μ (23 + d)))) (gPB g) (gA g)) 0 0 (gA g) := by
  refine g_ofV (cc := cX3_merge) (nL := 6) (ret := none) (by decide +kernel) rfl rfl  (Nat.le_of_ble_eq_true rfl) ?_
  intro p e s m args below meth c Q Z hR
  refine j_iload_n Z dX3_merge_0 1 rfl ?_
  refine j_iload_n Z dX3_merge_1 2 rfl ?_
  refine j_mmin Z mmaX3_merge_45 mmbX3_merge_45 mmcX3_merge_45 mmeX3_merge_45 (by decide) dX3_merge_2 ?_
  refine j_istore_n Z dX3_merge_5 (by decide) [(3, .int (iMin x y)), (0, .ref (g.2.1 (5 + d))), (1, .int x), (2, .int y)] rfl ?_
  refine j_iload_n Z dX3_merge_6 2 rfl ?_
  refine j_iload_n Z dX3_merge_7 3 rfl ?_
  refine j_mmax Z mmaX3_merge_51 mmbX3_merge_51 mmcX3_merge_51 mmeX3_merge_51 (by decide) dX3_merge_8 ?_
  refine j_istore Z dX3_merge_11 (by decide) [(4, .int (iMax x y)), (3, .int (iMin x y)), (0, .ref (g.2.1 (5 + d))), (1, .int x), (2, .int y)] rfl ?_
  refine j_iconst Z (v := 0) dX3_merge_13 (by decide) ?_
  refine j_istore Z dX3_merge_14 (by decide) [(5, .int 0), (4, .int (iMax x y)), (3, .int (iMin x y)), (0, .ref (g.2.1 (5 + d))), (1, .int x), (2, .int y)] rfl ?_
  have lp16 : ∀ (n0 i : Nat) (r : Nat → Int32), r = sMerge i x y (μ (23 + d)) → cnt + 2 ≤ i + n0 → i ≤ cnt → J p l e { frames := 1, cells := 0, slots := 0, locals := 21 } s m args below meth c Q g 6 (gR μ (23 + d) r) (0) (0) 16 [(0, .ref (g.2.1 (5 + d))), (1, .int x), (2, .int y), (3, .int (iMin x y)), (4, .int (iMax x y)), (5, .int (nI i))] [] := by
    intro n0
    induction n0 with
    | zero => intro i r er hn hg; exact absurd hn (by omega)
    | succ n0 ih =>
      intro i r er hn hg
      refine j_iload Z dX3_merge_16 5 rfl ?_
      refine j_aload_n Z dX3_merge_18 0 rfl ?_
      refine j_get Z (5 + d) (by omega) (gE_th hd) rfl 0 (by decide) rfl inX3_merge_X3 lkX3_merge_15 dX3_merge_19 ?_
      refine j_get Z 2 (by decide) rfl rfl 0 (by decide) rfl inX3_merge_X0 lkX3_merge_23 dX3_merge_22 ?_
      refine j_eq (y := μ 2 0) (by rw [gR_n (k := (23 + d)) (j := 2) (by omega)]) ?_
      refine j_eq hc ?_
      refine j_icmp_ge Z 54 dX3_merge_25 (by decide) (fun h25 => ?_) (fun h25 => ?_)
      · skip
        have hic : i = cnt := by
          have hq := (nI_leI (a := cnt) (b := i) (by omega) (by omega)).mp h25
          omega
        rw [hic] at er
        exact hR _ _ _ _ _ (by rw [er]) (by decide) (by decide) dX3_merge_54
      · skip
        have hlt : i < cnt := by
          rcases Nat.lt_or_ge i cnt with q9 | q9
          · exact q9
          · exact absurd (nI_le q9 (by omega)) h25
        refine j_aload_n Z dX3_merge_28 0 rfl ?_
        refine j_get Z (5 + d) (by omega) (gE_th hd) rfl 2 (by decide) rfl inX3_merge_X3 lkX3_merge_9 dX3_merge_29 ?_
        refine j_iload Z dX3_merge_32 5 rfl ?_
        refine j_ild Z (23 + d) (by omega) (gE_row (by omega)) i rfl (by omega) (by decide) dX3_merge_34 ?_
        refine j_eq (y := r i) (by rw [gR_s]) ?_
        refine j_iload Z dX3_merge_35 4 rfl ?_
        refine j_icmp_ne Z 48 dX3_merge_37 (by decide) (fun h37 => ?_) (fun h37 => ?_)
        · skip
          refine j_iinc Z dX3_merge_48 5 rfl (nI_1 i) (by decide) [(5, .int (nI (i + 1))), (0, .ref (g.2.1 (5 + d))), (1, .int x), (2, .int y), (3, .int (iMin x y)), (4, .int (iMax x y))] rfl ?_
          refine j_goto Z 16 dX3_merge_51 (by decide) ?_
          refine j_sub [1, 2, 3, 4, 5, 0] rfl ?_
          exact ih (i + 1) (r) (by rw [er] at h37 ⊢; exact sMerge_ne h37)  (by omega) (by omega)
        · skip
          refine j_aload_n Z dX3_merge_40 0 rfl ?_
          refine j_get Z (5 + d) (by omega) (gE_th hd) rfl 2 (by decide) rfl inX3_merge_X3 lkX3_merge_9 dX3_merge_41 ?_
          refine j_iload Z dX3_merge_44 5 rfl ?_
          refine j_iload_n Z dX3_merge_46 3 rfl ?_
          refine j_ist Z (23 + d) (by omega) (gE_row (by omega)) i rfl (by omega) (by decide)  dX3_merge_47 ?_
          refine j_mem (μ' := (gR μ (23 + d) (upd r i (iMin x y)))) gU_R ?_
          refine j_iinc Z dX3_merge_48 5 rfl (nI_1 i) (by decide) [(5, .int (nI (i + 1))), (0, .ref (g.2.1 (5 + d))), (1, .int x), (2, .int y), (3, .int (iMin x y)), (4, .int (iMax x y))] rfl ?_
          refine j_goto Z 16 dX3_merge_51 (by decide) ?_
          refine j_sub [1, 2, 3, 4, 5, 0] rfl ?_
          exact ih (i + 1) (upd r i (iMin x y)) (by rw [er] at h37 ⊢; exact sMerge_eq h37)  (by omega) (by omega)
  refine j_sub [3, 4, 5, 2, 1, 0] rfl ?_
  refine j_mem (gR_id (k := (23 + d)) (r := μ (23 + d)) rfl) ?_
  exact lp16 (cnt + 2) 0 (μ (23 + d)) (sMerge_0)  (by omega) (by omega)
theorem lkX3_joinToEarlier_9 : Cond.fieldLink RX3 9 (TX3 2).1 (TX3 2).2.1 (TX3 2).2.2.1 ∈ wsX3_joinToEarlier := by decide +kernel
theorem inX3_joinToEarlier_X3 : ∀ w ∈ u_ws RX3 TX3 3, w ∈ wsX3_joinToEarlier := by decide +kernel
theorem lkX3_joinToEarlier_15 : Cond.fieldLink RX3 15 (TX3 0).1 (TX3 0).2.1 (TX3 0).2.2.1 ∈ wsX3_joinToEarlier := by decide +kernel
set_option maxRecDepth 100000 in
set_option maxHeartbeats 4000000 in
theorem c_X3_joinToEarlier (l : Launch) (g : gC) (μ : gM) (d : Nat) (hd : d < 2) (cnt : Nat) (hcnt : cnt ≤ 60) (hc : μ 2 0 = nI cnt) (f : Nat) (hf : f < cnt) : Met l yX3_joinToEarlier wsX3_joinToEarlier { frames := 2, cells := 0, slots := 0, locals := 46 } (va_Pc [.ref (g.2.1 (5 + d)), .int (nI f)] (gB g μ)) (va_Qv (fun μ' : gM => μ' = gR μ (23 + d) (sIn cnt (fJoin μ) f (μ (23 + d)) f)) (gPB g) (gA g)) 0 0 (gA g) := by
  refine g_ofV (cc := cX3_joinToEarlier) (nL := 3) (ret := none) (by decide +kernel) rfl rfl  (Nat.le_of_ble_eq_true rfl) ?_
  intro p e s m args below meth c Q Z hR
  refine j_iconst Z (v := 0) dX3_joinToEarlier_0 (by decide) ?_
  refine j_istore_n Z dX3_joinToEarlier_1 (by decide) [(2, .int 0), (0, .ref (g.2.1 (5 + d))), (1, .int (nI f))] rfl ?_
  have lp2 : ∀ (n0 i : Nat) (r : Nat → Int32), r = sIn cnt (fJoin μ) f (μ (23 + d)) i → f + 2 ≤ i + n0 → i ≤ f → J p l e { frames := 2, cells := 0, slots := 0, locals := 46 } s m args below meth c Q g 3 (gR μ (23 + d) r) (0) (0) 2 [(0, .ref (g.2.1 (5 + d))), (1, .int (nI f)), (2, .int (nI i))] [] := by
    intro n0
    induction n0 with
    | zero => intro i r er hn hg; exact absurd hn (by omega)
    | succ n0 ih =>
      intro i r er hn hg
      refine j_iload_n Z dX3_joinToEarlier_2 2 rfl ?_
      refine j_iload_n Z dX3_joinToEarlier_3 1 rfl ?_
      refine j_icmp_ge Z 66 dX3_joinToEarlier_4 (by decide) (fun h4 => ?_) (fun h4 => ?_)
      · skip
        have hic : i = f := by
          have hq := (nI_leI (a := f) (b := i) (by omega) (by omega)).mp h4
          omega
        rw [hic] at er
        exact hR _ _ _ _ _ (by rw [er]) (by decide) (by decide) dX3_joinToEarlier_66
      · skip
        have hlt : i < f := by
          rcases Nat.lt_or_ge i f with q9 | q9
          · exact q9
          · exact absurd (nI_le q9 (by omega)) h4
        refine j_aload_n Z dX3_joinToEarlier_7 0 rfl ?_
        refine j_get Z (5 + d) (by omega) (gE_th hd) rfl 2 (by decide) rfl inX3_joinToEarlier_X3 lkX3_joinToEarlier_9 dX3_joinToEarlier_8 ?_
        refine j_iload_n Z dX3_joinToEarlier_11 2 rfl ?_
        refine j_ild Z (23 + d) (by omega) (gE_row (by omega)) i rfl (by omega) (by decide) dX3_joinToEarlier_12 ?_
        refine j_eq (y := r i) (by rw [gR_s]) ?_
        refine j_iconst Z (v := -1) dX3_joinToEarlier_13 (by decide) ?_
        refine j_icmp_eq Z 60 dX3_joinToEarlier_14 (by decide) (fun h14 => ?_) (fun h14 => ?_)
        · skip
          refine j_iinc Z dX3_joinToEarlier_60 2 rfl (nI_1 i) (by decide) [(2, .int (nI (i + 1))), (0, .ref (g.2.1 (5 + d))), (1, .int (nI f))] rfl ?_
          refine j_goto Z 2 dX3_joinToEarlier_63 (by decide) ?_
          refine j_sub [1, 2, 0] rfl ?_
          exact ih (i + 1) (r) (by show _ = sStep cnt (fJoin μ) f i (sIn cnt (fJoin μ) f (μ (23 + d)) i); rw [← er]; exact sStep_0 (fun q => by simp_all [zB_0]))  (by omega) (by omega)
        · skip
          refine j_aload_n Z dX3_joinToEarlier_17 0 rfl ?_
          refine j_get Z (5 + d) (by omega) (gE_th hd) rfl 2 (by decide) rfl inX3_joinToEarlier_X3 lkX3_joinToEarlier_9 dX3_joinToEarlier_18 ?_
          refine j_iload_n Z dX3_joinToEarlier_21 2 rfl ?_
          refine j_ild Z (23 + d) (by omega) (gE_row (by omega)) i rfl (by omega) (by decide) dX3_joinToEarlier_22 ?_
          refine j_eq (y := r i) (by rw [gR_s]) ?_
          refine j_aload_n Z dX3_joinToEarlier_23 0 rfl ?_
          refine j_get Z (5 + d) (by omega) (gE_th hd) rfl 2 (by decide) rfl inX3_joinToEarlier_X3 lkX3_joinToEarlier_9 dX3_joinToEarlier_24 ?_
          refine j_iload_n Z dX3_joinToEarlier_27 1 rfl ?_
          refine j_ild Z (23 + d) (by omega) (gE_row (by omega)) f rfl (by omega) (by decide) dX3_joinToEarlier_28 ?_
          refine j_eq (y := r f) (by rw [gR_s]) ?_
          refine j_icmp_eq Z 60 dX3_joinToEarlier_29 (by decide) (fun h29 => ?_) (fun h29 => ?_)
          · skip
            refine j_iinc Z dX3_joinToEarlier_60 2 rfl (nI_1 i) (by decide) [(2, .int (nI (i + 1))), (0, .ref (g.2.1 (5 + d))), (1, .int (nI f))] rfl ?_
            refine j_goto Z 2 dX3_joinToEarlier_63 (by decide) ?_
            refine j_sub [1, 2, 0] rfl ?_
            exact ih (i + 1) (r) (by show _ = sStep cnt (fJoin μ) f i (sIn cnt (fJoin μ) f (μ (23 + d)) i); rw [← er]; exact sStep_0 (fun q => by simp_all [zB_0]))  (by omega) (by omega)
          · skip
            refine j_aload_n Z dX3_joinToEarlier_32 0 rfl ?_
            refine j_get Z (5 + d) (by omega) (gE_th hd) rfl 0 (by decide) rfl inX3_joinToEarlier_X3 lkX3_joinToEarlier_15 dX3_joinToEarlier_33 ?_
            refine j_iload_n Z dX3_joinToEarlier_36 2 rfl ?_
            refine j_iload_n Z dX3_joinToEarlier_37 1 rfl ?_
            refine j_callVi Z (As := [.int (nI i), .int (nI f)]) (rest := []) (nA := 2) 2 (by decide) rfl rfl (c_X0_joined l g (gR μ (23 + d) r) i f (by omega) (by omega)) gX3_joinToEarlier_X0_joined rfl rfl rfl (by decide +kernel) (by decide) rfl dX3_joinToEarlier_38 rfl (Nat.le_of_ble_eq_true rfl) (by decide) (fun r9 μ9 hp => ?_)
            have hq : r9 = zB (fJoin (gR μ (23 + d) r) i f) ∧ μ9 = (gR μ (23 + d) r) := hp
            rw [fJoin_R (by omega)] at hq
            refine j_mem hq.2 ?_
            refine j_eq hq.1 ?_
            clear hq hp
            refine j_if_eq Z 60 dX3_joinToEarlier_41 (by decide) (fun h41 => ?_) (fun h41 => ?_)
            · skip
              refine j_iinc Z dX3_joinToEarlier_60 2 rfl (nI_1 i) (by decide) [(2, .int (nI (i + 1))), (0, .ref (g.2.1 (5 + d))), (1, .int (nI f))] rfl ?_
              refine j_goto Z 2 dX3_joinToEarlier_63 (by decide) ?_
              refine j_sub [1, 2, 0] rfl ?_
              exact ih (i + 1) (r) (by show _ = sStep cnt (fJoin μ) f i (sIn cnt (fJoin μ) f (μ (23 + d)) i); rw [← er]; exact sStep_0 (fun q => by simp_all [zB_0]))  (by omega) (by omega)
            · skip
              refine j_aload_n Z dX3_joinToEarlier_44 0 rfl ?_
              refine j_aload_n Z dX3_joinToEarlier_45 0 rfl ?_
              refine j_get Z (5 + d) (by omega) (gE_th hd) rfl 2 (by decide) rfl inX3_joinToEarlier_X3 lkX3_joinToEarlier_9 dX3_joinToEarlier_46 ?_
              refine j_iload_n Z dX3_joinToEarlier_49 2 rfl ?_
              refine j_ild Z (23 + d) (by omega) (gE_row (by omega)) i rfl (by omega) (by decide) dX3_joinToEarlier_50 ?_
              refine j_eq (y := r i) (by rw [gR_s]) ?_
              refine j_aload_n Z dX3_joinToEarlier_51 0 rfl ?_
              refine j_get Z (5 + d) (by omega) (gE_th hd) rfl 2 (by decide) rfl inX3_joinToEarlier_X3 lkX3_joinToEarlier_9 dX3_joinToEarlier_52 ?_
              refine j_iload_n Z dX3_joinToEarlier_55 1 rfl ?_
              refine j_ild Z (23 + d) (by omega) (gE_row (by omega)) f rfl (by omega) (by decide) dX3_joinToEarlier_56 ?_
              refine j_eq (y := r f) (by rw [gR_s]) ?_
              refine j_callVv Z (As := [.int (r i), .int (r f)]) (rest := []) (nA := 2) (5 + d) (by omega) (gE_th hd) rfl (c_X3_merge l g (gR μ (23 + d) r) d hd cnt hcnt (by rw [gR_n (k := (23 + d)) (j := 2) (by omega)]; exact hc) (r i) (r f)) gX3_joinToEarlier_X3_merge rfl rfl rfl (by decide +kernel) (by decide) rfl dX3_joinToEarlier_57 rfl (Nat.le_of_ble_eq_true rfl) (by decide) (fun μ9 hp => ?_)
              have hq : μ9 = gR (gR μ (23 + d) r) (23 + d) (sMerge cnt (r i) (r f) ((gR μ (23 + d) r) (23 + d))) := hp
              rw [gR_R, gR_s] at hq
              refine j_mem hq ?_
              clear hq hp
              refine j_iinc Z dX3_joinToEarlier_60 2 rfl (nI_1 i) (by decide) [(2, .int (nI (i + 1))), (0, .ref (g.2.1 (5 + d))), (1, .int (nI f))] rfl ?_
              refine j_goto Z 2 dX3_joinToEarlier_63 (by decide) ?_
              refine j_sub [1, 2, 0] rfl ?_
              exact ih (i + 1) (sMerge cnt (r i) (r f) r) (by show _ = sStep cnt (fJoin μ) f i (sIn cnt (fJoin μ) f (μ (23 + d)) i); rw [← er]; exact sStep_1 ⟨h14, h29, by simpa [zB_0] using h41⟩)  (by omega) (by omega)
  refine j_sub [1, 2, 0] rfl ?_
  refine j_mem (gR_id (k := (23 + d)) (r := μ (23 + d)) rfl) ?_
  exact lp2 (f + 2) 0 (μ (23 + d)) (rfl)  (by omega) (by omega)
theorem lkX3_sortFor_15 : Cond.fieldLink RX3 15 (TX3 0).1 (TX3 0).2.1 (TX3 0).2.2.1 ∈ wsX3_sortFor := by decide +kernel
theorem inX3_sortFor_X3 : ∀ w ∈ u_ws RX3 TX3 3, w ∈ wsX3_sortFor := by decide +kernel
theorem lkX3_sortFor_23 : Cond.fieldLink RX3 23 (TX0 0).1 (TX0 0).2.1 (TX0 0).2.2.1 ∈ wsX3_sortFor := by decide +kernel
theorem inX3_sortFor_X0 : ∀ w ∈ u_ws RX0 TX0 7, w ∈ wsX3_sortFor := by decide +kernel
theorem lkX3_sortFor_9 : Cond.fieldLink RX3 9 (TX3 2).1 (TX3 2).2.1 (TX3 2).2.2.1 ∈ wsX3_sortFor := by decide +kernel
theorem lkX3_sortFor_19 : Cond.fieldLink RX3 19 (TX3 1).1 (TX3 1).2.1 (TX3 1).2.2.1 ∈ wsX3_sortFor := by decide +kernel
set_option maxRecDepth 100000 in
set_option maxHeartbeats 4000000 in
theorem c_X3_sortFor (l : Launch) (g : gC) (μ : gM) (d : Nat) (hd : d < 2) (cnt : Nat) (hcnt : cnt ≤ 60) (hc : μ 2 0 = nI cnt) (x : Int32) (hs : ∀ k, vp_in (μ 9 k) 4) : Met l yX3_sortFor wsX3_sortFor { frames := 3, cells := 0, slots := 0, locals := 68 } (va_Pc [.ref (g.2.1 (5 + d)), .int x] (gB g μ)) (va_Qv (fun μ' : gM => μ' = gR μ (23 + d) (fSort μ cnt x (μ (23 + d)))) (gPB g) (gA g)) 0 0 (gA g) := by
  refine g_ofV (cc := cX3_sortFor) (nL := 3) (ret := none) (by decide +kernel) rfl rfl  (Nat.le_of_ble_eq_true rfl) ?_
  intro p e s m args below meth c Q Z hR
  refine j_iconst Z (v := 0) dX3_sortFor_0 (by decide) ?_
  refine j_istore_n Z dX3_sortFor_1 (by decide) [(2, .int 0), (0, .ref (g.2.1 (5 + d))), (1, .int x)] rfl ?_
  have lp2 : ∀ (n0 i : Nat) (r : Nat → Int32), r = s0 i (fun k => fStand μ k x) (μ (23 + d)) → cnt + 2 ≤ i + n0 → i ≤ cnt → J p l e { frames := 3, cells := 0, slots := 0, locals := 68 } s m args below meth c Q g 3 (gR μ (23 + d) r) (0) (0) 2 [(0, .ref (g.2.1 (5 + d))), (1, .int x), (2, .int (nI i))] [] := by
    intro n0
    induction n0 with
    | zero => intro i r er hn hg; exact absurd hn (by omega)
    | succ n0 ih =>
      intro i r er hn hg
      refine j_iload_n Z dX3_sortFor_2 2 rfl ?_
      refine j_aload_n Z dX3_sortFor_3 0 rfl ?_
      refine j_get Z (5 + d) (by omega) (gE_th hd) rfl 0 (by decide) rfl inX3_sortFor_X3 lkX3_sortFor_15 dX3_sortFor_4 ?_
      refine j_get Z 2 (by decide) rfl rfl 0 (by decide) rfl inX3_sortFor_X0 lkX3_sortFor_23 dX3_sortFor_7 ?_
      refine j_eq (y := μ 2 0) (by rw [gR_n (k := (23 + d)) (j := 2) (by omega)]) ?_
      refine j_eq hc ?_
      refine j_icmp_ge Z 46 dX3_sortFor_10 (by decide) (fun h10 => ?_) (fun h10 => ?_)
      · skip
        have hic : i = cnt := by
          have hq := (nI_leI (a := cnt) (b := i) (by omega) (by omega)).mp h10
          omega
        rw [hic] at er
        refine j_iconst Z (v := 1) dX3_sortFor_46 (by decide) ?_
        refine j_istore_n Z dX3_sortFor_47 (by decide) [(2, .int 1), (0, .ref (g.2.1 (5 + d))), (1, .int x)] rfl ?_
        have lq48 : ∀ (n0 f : Nat) (r2 : Nat → Int32), r2 = sOut cnt (fJoin μ) (s0 cnt (fun k => fStand μ k x) (μ (23 + d))) f → cnt + 2 ≤ f + n0 → f ≤ cnt ∨ f = 1 → J p l e { frames := 3, cells := 0, slots := 0, locals := 68 } s m args below meth c Q g 3 (gR μ (23 + d) r2) (0) (0) 48 [(0, .ref (g.2.1 (5 + d))), (1, .int x), (2, .int (nI f))] [] := by
          intro n0
          induction n0 with
          | zero => intro f r2 er2 hn hg; exact absurd hn (by omega)
          | succ n0 ih =>
            intro f r2 er2 hn hg
            refine j_iload_n Z dX3_sortFor_48 2 rfl ?_
            refine j_aload_n Z dX3_sortFor_49 0 rfl ?_
            refine j_get Z (5 + d) (by omega) (gE_th hd) rfl 0 (by decide) rfl inX3_sortFor_X3 lkX3_sortFor_15 dX3_sortFor_50 ?_
            refine j_get Z 2 (by decide) rfl rfl 0 (by decide) rfl inX3_sortFor_X0 lkX3_sortFor_23 dX3_sortFor_53 ?_
            refine j_eq (y := μ 2 0) (by rw [gR_n (k := (23 + d)) (j := 2) (by omega)]) ?_
            refine j_eq hc ?_
            refine j_icmp_ge Z 80 dX3_sortFor_56 (by decide) (fun h56 => ?_) (fun h56 => ?_)
            · skip
              have hge : cnt ≤ f := (nI_leI (a := cnt) (b := f) (by omega) (by omega)).mp h56
              exact hR _ _ _ _ _ (by rw [er2, sOut_end hge hg]; rfl) (by decide) (by decide) dX3_sortFor_80
            · skip
              have hlt : f < cnt := by
                rcases Nat.lt_or_ge f cnt with q9 | q9
                · exact q9
                · exact absurd (nI_le q9 (by omega)) h56
              refine j_aload_n Z dX3_sortFor_59 0 rfl ?_
              refine j_get Z (5 + d) (by omega) (gE_th hd) rfl 2 (by decide) rfl inX3_sortFor_X3 lkX3_sortFor_9 dX3_sortFor_60 ?_
              refine j_iload_n Z dX3_sortFor_63 2 rfl ?_
              refine j_ild Z (23 + d) (by omega) (gE_row (by omega)) f rfl (by omega) (by decide) dX3_sortFor_64 ?_
              refine j_eq (y := r2 f) (by rw [gR_s]) ?_
              refine j_iconst Z (v := -1) dX3_sortFor_65 (by decide) ?_
              refine j_icmp_eq Z 74 dX3_sortFor_66 (by decide) (fun h66 => ?_) (fun h66 => ?_)
              · skip
                refine j_iinc Z dX3_sortFor_74 2 rfl (nI_1 f) (by decide) [(2, .int (nI (f + 1))), (0, .ref (g.2.1 (5 + d))), (1, .int x)] rfl ?_
                refine j_goto Z 48 dX3_sortFor_77 (by decide) ?_
                refine j_sub [1, 2, 0] rfl ?_
                exact ih (f + 1) (r2) (by show _ = if ¬ sOut cnt (fJoin μ) (s0 cnt (fun k => fStand μ k x) (μ (23 + d))) f f = -1 then _ else _; rw [← er2, if_neg (fun q => q h66)])  (by omega) (by omega)
              · skip
                refine j_aload_n Z dX3_sortFor_69 0 rfl ?_
                refine j_iload_n Z dX3_sortFor_70 2 rfl ?_
                refine j_callVv Z (As := [.int (nI f)]) (rest := []) (nA := 1) (5 + d) (by omega) (gE_th hd) rfl (c_X3_joinToEarlier l g (gR μ (23 + d) r2) d hd cnt hcnt (by rw [gR_n (k := (23 + d)) (j := 2) (by omega)]; exact hc) f (by omega)) gX3_sortFor_X3_joinToEarlier rfl rfl rfl (by decide +kernel) (by decide) rfl dX3_sortFor_71 rfl (Nat.le_of_ble_eq_true rfl) (by decide) (fun μ9 hp => ?_)
                have hq : μ9 = gR (gR μ (23 + d) r2) (23 + d) (sIn cnt (fJoin (gR μ (23 + d) r2)) f ((gR μ (23 + d) r2) (23 + d)) f) := hp
                rw [gR_R, gR_s, show fJoin (gR μ (23 + d) r2) = fJoin μ from funext fun _ => funext fun _ => fJoin_R (by omega)] at hq
                refine j_mem hq ?_
                clear hq hp
                refine j_iinc Z dX3_sortFor_74 2 rfl (nI_1 f) (by decide) [(2, .int (nI (f + 1))), (0, .ref (g.2.1 (5 + d))), (1, .int x)] rfl ?_
                refine j_goto Z 48 dX3_sortFor_77 (by decide) ?_
                refine j_sub [1, 2, 0] rfl ?_
                exact ih (f + 1) (sIn cnt (fJoin μ) f r2 f) (by show _ = if ¬ sOut cnt (fJoin μ) (s0 cnt (fun k => fStand μ k x) (μ (23 + d))) f f = -1 then _ else _; rw [← er2, if_pos h66])  (by omega) (by omega)
        refine j_sub [1, 2, 0] rfl ?_
        exact lq48 (cnt + 2) 1 (r) (er.trans sOut_1.symm)  (by omega) (by omega)
      · skip
        have hlt : i < cnt := by
          rcases Nat.lt_or_ge i cnt with q9 | q9
          · exact q9
          · exact absurd (nI_le q9 (by omega)) h10
        refine j_aload_n Z dX3_sortFor_13 0 rfl ?_
        refine j_get Z (5 + d) (by omega) (gE_th hd) rfl 2 (by decide) rfl inX3_sortFor_X3 lkX3_sortFor_9 dX3_sortFor_14 ?_
        refine j_iload_n Z dX3_sortFor_17 2 rfl ?_
        refine j_aload_n Z dX3_sortFor_18 0 rfl ?_
        refine j_get Z (5 + d) (by omega) (gE_th hd) rfl 0 (by decide) rfl inX3_sortFor_X3 lkX3_sortFor_15 dX3_sortFor_19 ?_
        refine j_iload_n Z dX3_sortFor_22 2 rfl ?_
        refine j_iload_n Z dX3_sortFor_23 1 rfl ?_
        refine j_aload_n Z dX3_sortFor_24 0 rfl ?_
        refine j_get Z (5 + d) (by omega) (gE_th hd) rfl 1 (by decide) rfl inX3_sortFor_X3 lkX3_sortFor_19 dX3_sortFor_25 ?_
        refine j_callVi Z (As := [.int (nI i), .int x, .ref (g.2.1 1)]) (rest := [.int (nI i), .ref (g.2.1 (23 + d))]) (nA := 3) 2 (by decide) rfl rfl (c_X0_standsOn l g (gR μ (23 + d) r) i x (by omega) (by rw [gR_n (k := (23 + d)) (j := 9) (by omega)]; exact hs _)) gX3_sortFor_X0_standsOn rfl rfl rfl (by decide +kernel) (by decide) rfl dX3_sortFor_28 rfl (Nat.le_of_ble_eq_true rfl) (by decide) (fun r9 μ9 hp => ?_)
        have hq : r9 = zB (fStand (gR μ (23 + d) r) i x) ∧ μ9 = (gR μ (23 + d) r) := hp
        rw [fStand_R (by omega)] at hq
        refine j_mem hq.2 ?_
        refine j_eq hq.1 ?_
        clear hq hp
        refine j_if_eq Z 38 dX3_sortFor_31 (by decide) (fun h31 => ?_) (fun h31 => ?_)
        · skip
          refine j_iconst Z (v := -1) dX3_sortFor_38 (by decide) ?_
          refine j_ist Z (23 + d) (by omega) (gE_row (by omega)) i rfl (by omega) (by decide)  dX3_sortFor_39 ?_
          refine j_mem (μ' := (gR μ (23 + d) (upd r i (-1)))) gU_R ?_
          refine j_iinc Z dX3_sortFor_40 2 rfl (nI_1 i) (by decide) [(2, .int (nI (i + 1))), (0, .ref (g.2.1 (5 + d))), (1, .int x)] rfl ?_
          refine j_goto Z 2 dX3_sortFor_43 (by decide) ?_
          refine j_sub [1, 2, 0] rfl ?_
          exact ih (i + 1) (upd r i (-1)) (by rw [er]; exact s0_s (by simp_all [zB_0]))  (by omega) (by omega)
        · skip
          refine j_iload_n Z dX3_sortFor_34 2 rfl ?_
          refine j_goto Z 39 dX3_sortFor_35 (by decide) ?_
          refine j_ist Z (23 + d) (by omega) (gE_row (by omega)) i rfl (by omega) (by decide)  dX3_sortFor_39 ?_
          refine j_mem (μ' := (gR μ (23 + d) (upd r i (nI i)))) gU_R ?_
          refine j_iinc Z dX3_sortFor_40 2 rfl (nI_1 i) (by decide) [(2, .int (nI (i + 1))), (0, .ref (g.2.1 (5 + d))), (1, .int x)] rfl ?_
          refine j_goto Z 2 dX3_sortFor_43 (by decide) ?_
          refine j_sub [1, 2, 0] rfl ?_
          exact ih (i + 1) (upd r i (nI i)) (by rw [er]; exact s0_s (by simp_all [zB_0]))  (by omega) (by omega)
  refine j_sub [1, 2, 0] rfl ?_
  refine j_mem (gR_id (k := (23 + d)) (r := μ (23 + d)) rfl) ?_
  exact lp2 (cnt + 2) 0 (μ (23 + d)) (s0_0)  (by omega) (by omega)
theorem lkX3_attributeOf_15 : Cond.fieldLink RX3 15 (TX3 0).1 (TX3 0).2.1 (TX3 0).2.2.1 ∈ wsX3_attributeOf := by decide +kernel
theorem inX3_attributeOf_X3 : ∀ w ∈ u_ws RX3 TX3 3, w ∈ wsX3_attributeOf := by decide +kernel
theorem lkX3_attributeOf_23 : Cond.fieldLink RX3 23 (TX0 0).1 (TX0 0).2.1 (TX0 0).2.2.1 ∈ wsX3_attributeOf := by decide +kernel
theorem inX3_attributeOf_X0 : ∀ w ∈ u_ws RX0 TX0 7, w ∈ wsX3_attributeOf := by decide +kernel
theorem lkX3_attributeOf_61 : Cond.fieldLink RX3 61 (TX0 5).1 (TX0 5).2.1 (TX0 5).2.2.1 ∈ wsX3_attributeOf := by decide +kernel
set_option maxRecDepth 100000 in
set_option maxHeartbeats 4000000 in
theorem c_X3_attributeOf (l : Launch) (g : gC) (μ : gM) (d : Nat) (hd : d < 2) (cnt : Nat) (hcnt : cnt ≤ 60) (hc : μ 2 0 = nI cnt) (x : Int32) (a : Nat) (ha : a < 2) (hs : ∀ k, vp_in (μ 9 k) 4) : Met l yX3_attributeOf wsX3_attributeOf { frames := 1, cells := 0, slots := 0, locals := 24 } (va_Pc [.ref (g.2.1 (5 + d)), .int x, .int (nI a)] (gB g μ)) (va_Qi (fun (r : Int32) (μ' : gM) => r = fVal μ (23 + d) a cnt x ∧ μ' = μ) (gPB g) (gA g)) 0 0 (gA g) := by
  refine g_ofI (cc := cX3_attributeOf) (nL := 5) (ret := (some .int)) (ty := .int) (by decide +kernel) rfl rfl (fun _ _ _ => rfl) (Nat.le_of_ble_eq_true rfl) ?_
  intro p e s m args below meth c Q Z hR
  refine j_iconst Z (v := -1) dX3_attributeOf_0 (by decide) ?_
  refine j_istore_n Z dX3_attributeOf_1 (by decide) [(3, .int (-1)), (0, .ref (g.2.1 (5 + d))), (1, .int x), (2, .int (nI a))] rfl ?_
  refine j_iconst Z (v := 0) dX3_attributeOf_2 (by decide) ?_
  refine j_istore Z dX3_attributeOf_3 (by decide) [(4, .int 0), (3, .int (-1)), (0, .ref (g.2.1 (5 + d))), (1, .int x), (2, .int (nI a))] rfl ?_
  have lp5 : ∀ (n0 i : Nat) (b : Int32), b = aBest (μ (23 + d)) (μ (29 + a)) (fPl μ) x i → cnt + 2 ≤ i + n0 → i ≤ cnt → J p l e { frames := 1, cells := 0, slots := 0, locals := 24 } s m args below meth c Q g 5 μ (0) (0) 5 [(0, .ref (g.2.1 (5 + d))), (1, .int x), (2, .int (nI a)), (3, .int b), (4, .int (nI i))] [] := by
    intro n0
    induction n0 with
    | zero => intro i b eb hn hg; exact absurd hn (by omega)
    | succ n0 ih =>
      intro i b eb hn hg
      refine j_iload Z dX3_attributeOf_5 4 rfl ?_
      refine j_aload_n Z dX3_attributeOf_7 0 rfl ?_
      refine j_get Z (5 + d) (by omega) (gE_th hd) rfl 0 (by decide) rfl inX3_attributeOf_X3 lkX3_attributeOf_15 dX3_attributeOf_8 ?_
      refine j_get Z 2 (by decide) rfl rfl 0 (by decide) rfl inX3_attributeOf_X0 lkX3_attributeOf_23 dX3_attributeOf_11 ?_
      refine j_eq hc ?_
      refine j_icmp_ge Z 52 dX3_attributeOf_14 (by decide) (fun h14 => ?_) (fun h14 => ?_)
      · skip
        have hic : i = cnt := by
          have hq := (nI_leI (a := cnt) (b := i) (by omega) (by omega)).mp h14
          omega
        rw [hic] at eb
        refine j_iload_n Z dX3_attributeOf_52 3 rfl ?_
        refine j_iconst Z (v := -1) dX3_attributeOf_53 (by decide) ?_
        refine j_icmp_ne Z 61 dX3_attributeOf_54 (by decide) (fun h54 => ?_) (fun h54 => ?_)
        · skip
          refine j_aload_n Z dX3_attributeOf_61 0 rfl ?_
          refine j_get Z (5 + d) (by omega) (gE_th hd) rfl 0 (by decide) rfl inX3_attributeOf_X3 lkX3_attributeOf_15 dX3_attributeOf_62 ?_
          refine j_get Z 2 (by decide) rfl rfl 5 (by decide) rfl inX3_attributeOf_X0 lkX3_attributeOf_61 dX3_attributeOf_65 ?_
          refine j_iload_n Z dX3_attributeOf_68 2 rfl ?_
          refine j_ald Z 13 (by decide) rfl a rfl (by omega) (by decide) rfl dX3_attributeOf_69 ?_
          refine j_iload_n Z dX3_attributeOf_70 3 rfl ?_
          refine j_ild Z (29 + a) (by omega) (gE_row (by omega)) (ix b) (vp_ix (aBest_vp eb (by omega) h54) (by decide)).1 (vp_ix (aBest_vp eb (by omega) h54) (by decide)).2 (by decide) dX3_attributeOf_71 ?_
          exact hR _ _ _ _ _ _ (⟨by unfold fVal aVal; rw [← eb]; first | exact (if_pos h54).symm | exact (if_neg h54).symm, rfl⟩) (by decide) (by decide) dX3_attributeOf_72
        · skip
          refine j_iconst Z (v := -1) dX3_attributeOf_57 (by decide) ?_
          refine j_goto Z 72 dX3_attributeOf_58 (by decide) ?_
          exact hR _ _ _ _ _ _ (⟨by unfold fVal aVal; rw [← eb]; first | exact (if_pos h54).symm | exact (if_neg h54).symm, rfl⟩) (by decide) (by decide) dX3_attributeOf_72
      · skip
        have hlt : i < cnt := by
          rcases Nat.lt_or_ge i cnt with q9 | q9
          · exact q9
          · exact absurd (nI_le q9 (by omega)) h14
        refine j_aload_n Z dX3_attributeOf_17 0 rfl ?_
        refine j_iload_n Z dX3_attributeOf_18 1 rfl ?_
        refine j_iload_n Z dX3_attributeOf_19 2 rfl ?_
        refine j_iload Z dX3_attributeOf_20 4 rfl ?_
        refine j_callVi Z (As := [.int x, .int (nI a), .int (nI i)]) (rest := []) (nA := 3) (5 + d) (by omega) (gE_th hd) rfl (c_X3_tells l g μ d hd x a i (by omega) (by omega)) gX3_attributeOf_X3_tells rfl rfl rfl (by decide +kernel) (by decide) rfl dX3_attributeOf_22 rfl (Nat.le_of_ble_eq_true rfl) (by decide) (fun r9 μ9 hp => ?_)
        have hq : r9 = zB (tellB (μ (23 + d)) (μ (29 + a)) x i) ∧ μ9 = μ := hp
        refine j_mem hq.2 ?_
        refine j_eq hq.1 ?_
        clear hq hp
        refine j_if_eq Z 46 dX3_attributeOf_25 (by decide) (fun h25 => ?_) (fun h25 => ?_)
        · skip
          refine j_iinc Z dX3_attributeOf_46 4 rfl (nI_1 i) (by decide) [(4, .int (nI (i + 1))), (0, .ref (g.2.1 (5 + d))), (1, .int x), (2, .int (nI a)), (3, .int b)] rfl ?_
          refine j_goto Z 5 dX3_attributeOf_49 (by decide) ?_
          refine j_sub [1, 2, 3, 4, 0] rfl ?_
          exact ih (i + 1) (b) (by show _ = if tellB _ _ _ _ = true ∧ (aBest (μ (23 + d)) (μ (29 + a)) (fPl μ) x i = -1 ∨ ¬ fPl μ (ix (aBest (μ (23 + d)) (μ (29 + a)) (fPl μ) x i)) < _) then _ else aBest (μ (23 + d)) (μ (29 + a)) (fPl μ) x i; rw [← eb]; exact (if_neg (fun q => by have h9 := zB_0.mp h25; rw [q.1] at h9; cases h9)).symm)  (by omega) (by omega)
        · skip
          refine j_iload_n Z dX3_attributeOf_28 3 rfl ?_
          refine j_iconst Z (v := -1) dX3_attributeOf_29 (by decide) ?_
          refine j_icmp_eq Z 43 dX3_attributeOf_30 (by decide) (fun h30 => ?_) (fun h30 => ?_)
          · skip
            refine j_iload Z dX3_attributeOf_43 4 rfl ?_
            refine j_istore_n Z dX3_attributeOf_45 (by decide) [(3, .int (nI i)), (0, .ref (g.2.1 (5 + d))), (1, .int x), (2, .int (nI a)), (4, .int (nI i))] rfl ?_
            refine j_iinc Z dX3_attributeOf_46 4 rfl (nI_1 i) (by decide) [(4, .int (nI (i + 1))), (3, .int (nI i)), (0, .ref (g.2.1 (5 + d))), (1, .int x), (2, .int (nI a))] rfl ?_
            refine j_goto Z 5 dX3_attributeOf_49 (by decide) ?_
            refine j_sub [2, 3, 4, 1, 0] rfl ?_
            exact ih (i + 1) (nI i) (by show _ = if tellB _ _ _ _ = true ∧ (aBest (μ (23 + d)) (μ (29 + a)) (fPl μ) x i = -1 ∨ ¬ fPl μ (ix (aBest (μ (23 + d)) (μ (29 + a)) (fPl μ) x i)) < _) then _ else aBest (μ (23 + d)) (μ (29 + a)) (fPl μ) x i; rw [← eb]; exact (if_pos ⟨zB_1 h25, Or.inl h30⟩).symm)  (by omega) (by omega)
          · skip
            have hb60 := vp_ix (aBest_vp eb (by omega) h30) (by decide)
            refine j_aload_n Z dX3_attributeOf_33 0 rfl ?_
            refine j_iload Z dX3_attributeOf_34 4 rfl ?_
            refine j_iload_n Z dX3_attributeOf_36 3 rfl ?_
            refine j_eq hb60.1 ?_
            refine j_callVi Z (As := [.int (nI i), .int (nI (ix b))]) (rest := []) (nA := 2) (5 + d) (by omega) (gE_th hd) rfl (c_X3_goesBefore l g μ d hd i (ix b) (by omega) hb60.2 hs) gX3_attributeOf_X3_goesBefore rfl rfl rfl (by decide +kernel) (by decide) rfl dX3_attributeOf_37 rfl (Nat.le_of_ble_eq_true rfl) (by decide) (fun r9 μ9 hp => ?_)
            have hq : r9 = zB (!decide (fPl μ (ix b) < fPl μ i)) ∧ μ9 = μ := hp
            refine j_mem hq.2 ?_
            refine j_eq hq.1 ?_
            clear hq hp
            refine j_if_eq Z 46 dX3_attributeOf_40 (by decide) (fun h40 => ?_) (fun h40 => ?_)
            · skip
              refine j_iinc Z dX3_attributeOf_46 4 rfl (nI_1 i) (by decide) [(4, .int (nI (i + 1))), (0, .ref (g.2.1 (5 + d))), (1, .int x), (2, .int (nI a)), (3, .int b)] rfl ?_
              refine j_goto Z 5 dX3_attributeOf_49 (by decide) ?_
              refine j_sub [1, 2, 3, 4, 0] rfl ?_
              exact ih (i + 1) (b) (by show _ = if tellB _ _ _ _ = true ∧ (aBest (μ (23 + d)) (μ (29 + a)) (fPl μ) x i = -1 ∨ ¬ fPl μ (ix (aBest (μ (23 + d)) (μ (29 + a)) (fPl μ) x i)) < _) then _ else aBest (μ (23 + d)) (μ (29 + a)) (fPl μ) x i; rw [← eb]; exact (if_neg (fun q => q.2.elim h30 (fun q2 => q2 (nB_0 h40)))).symm)  (by omega) (by omega)
            · skip
              refine j_iload Z dX3_attributeOf_43 4 rfl ?_
              refine j_istore_n Z dX3_attributeOf_45 (by decide) [(3, .int (nI i)), (0, .ref (g.2.1 (5 + d))), (1, .int x), (2, .int (nI a)), (4, .int (nI i))] rfl ?_
              refine j_iinc Z dX3_attributeOf_46 4 rfl (nI_1 i) (by decide) [(4, .int (nI (i + 1))), (3, .int (nI i)), (0, .ref (g.2.1 (5 + d))), (1, .int x), (2, .int (nI a))] rfl ?_
              refine j_goto Z 5 dX3_attributeOf_49 (by decide) ?_
              refine j_sub [2, 3, 4, 1, 0] rfl ?_
              exact ih (i + 1) (nI i) (by show _ = if tellB _ _ _ _ = true ∧ (aBest (μ (23 + d)) (μ (29 + a)) (fPl μ) x i = -1 ∨ ¬ fPl μ (ix (aBest (μ (23 + d)) (μ (29 + a)) (fPl μ) x i)) < _) then _ else aBest (μ (23 + d)) (μ (29 + a)) (fPl μ) x i; rw [← eb]; exact (if_pos ⟨zB_1 h25, Or.inr (nB_1 h40)⟩).symm)  (by omega) (by omega)
  refine j_sub [2, 3, 4, 1, 0] rfl ?_
  exact lp5 (cnt + 2) 0 (-1) (rfl)  (by omega) (by omega)
theorem lkX3_hasUnlikeValues_15 : Cond.fieldLink RX3 15 (TX3 0).1 (TX3 0).2.1 (TX3 0).2.2.1 ∈ wsX3_hasUnlikeValues := by decide +kernel
theorem inX3_hasUnlikeValues_X3 : ∀ w ∈ u_ws RX3 TX3 3, w ∈ wsX3_hasUnlikeValues := by decide +kernel
theorem lkX3_hasUnlikeValues_23 : Cond.fieldLink RX3 23 (TX0 0).1 (TX0 0).2.1 (TX0 0).2.2.1 ∈ wsX3_hasUnlikeValues := by decide +kernel
theorem inX3_hasUnlikeValues_X0 : ∀ w ∈ u_ws RX0 TX0 7, w ∈ wsX3_hasUnlikeValues := by decide +kernel
theorem lkX3_hasUnlikeValues_61 : Cond.fieldLink RX3 61 (TX0 5).1 (TX0 5).2.1 (TX0 5).2.2.1 ∈ wsX3_hasUnlikeValues := by decide +kernel
set_option maxRecDepth 100000 in
set_option maxHeartbeats 4000000 in
theorem c_X3_hasUnlikeValues (l : Launch) (g : gC) (μ : gM) (d : Nat) (hd : d < 2) (cnt : Nat) (hcnt : cnt ≤ 60) (hc : μ 2 0 = nI cnt) (x : Int32) (a : Nat) (ha : a < 2) : Met l yX3_hasUnlikeValues wsX3_hasUnlikeValues { frames := 1, cells := 0, slots := 0, locals := 23 } (va_Pc [.ref (g.2.1 (5 + d)), .int x, .int (nI a)] (gB g μ)) (va_Qi (fun (r : Int32) (μ' : gM) => r = zB (uBad (μ (23 + d)) (μ (29 + a)) x cnt) ∧ μ' = μ) (gPB g) (gA g)) 0 0 (gA g) := by
  refine g_ofI (cc := cX3_hasUnlikeValues) (nL := 6) (ret := (some .boolean)) (ty := .boolean) (by decide +kernel) rfl rfl (by rintro _ _ ⟨rfl, -⟩; exact zB_n) (Nat.le_of_ble_eq_true rfl) ?_
  intro p e s m args below meth c Q Z hR
  refine j_iconst Z (v := -1) dX3_hasUnlikeValues_0 (by decide) ?_
  refine j_istore_n Z dX3_hasUnlikeValues_1 (by decide) [(3, .int (-1)), (0, .ref (g.2.1 (5 + d))), (1, .int x), (2, .int (nI a))] rfl ?_
  refine j_iconst Z (v := 0) dX3_hasUnlikeValues_2 (by decide) ?_
  refine j_istore Z dX3_hasUnlikeValues_3 (by decide) [(4, .int 0), (3, .int (-1)), (0, .ref (g.2.1 (5 + d))), (1, .int x), (2, .int (nI a))] rfl ?_
  have lp5 : ∀ (n0 i : Nat) (b : Int32), b = uSeen (μ (23 + d)) (μ (29 + a)) x i → uBad (μ (23 + d)) (μ (29 + a)) x i = false → cnt + 2 ≤ i + n0 → i ≤ cnt → J p l e { frames := 1, cells := 0, slots := 0, locals := 23 } s m args below meth c Q g 6 μ (0) (0) 5 [(0, .ref (g.2.1 (5 + d))), (1, .int x), (2, .int (nI a)), (3, .int b), (4, .int (nI i))] [] := by
    intro n0
    induction n0 with
    | zero => intro i b eb hbad hn hg; exact absurd hn (by omega)
    | succ n0 ih =>
      intro i b eb hbad hn hg
      refine j_iload Z dX3_hasUnlikeValues_5 4 rfl ?_
      refine j_aload_n Z dX3_hasUnlikeValues_7 0 rfl ?_
      refine j_get Z (5 + d) (by omega) (gE_th hd) rfl 0 (by decide) rfl inX3_hasUnlikeValues_X3 lkX3_hasUnlikeValues_15 dX3_hasUnlikeValues_8 ?_
      refine j_get Z 2 (by decide) rfl rfl 0 (by decide) rfl inX3_hasUnlikeValues_X0 lkX3_hasUnlikeValues_23 dX3_hasUnlikeValues_11 ?_
      refine j_eq hc ?_
      refine j_icmp_ge Z 64 dX3_hasUnlikeValues_14 (by decide) (fun h14 => ?_) (fun h14 => ?_)
      · skip
        have hic : i = cnt := by
          have hq := (nI_leI (a := cnt) (b := i) (by omega) (by omega)).mp h14
          omega
        rw [hic] at eb
        refine j_iconst Z (v := 0) dX3_hasUnlikeValues_64 (by decide) ?_
        exact hR _ _ _ _ _ _ (⟨zB_f (by rw [← hic]; exact hbad), rfl⟩) (by decide) (by decide) dX3_hasUnlikeValues_65
      · skip
        have hlt : i < cnt := by
          rcases Nat.lt_or_ge i cnt with q9 | q9
          · exact q9
          · exact absurd (nI_le q9 (by omega)) h14
        refine j_aload_n Z dX3_hasUnlikeValues_17 0 rfl ?_
        refine j_iload_n Z dX3_hasUnlikeValues_18 1 rfl ?_
        refine j_iload_n Z dX3_hasUnlikeValues_19 2 rfl ?_
        refine j_iload Z dX3_hasUnlikeValues_20 4 rfl ?_
        refine j_callVi Z (As := [.int x, .int (nI a), .int (nI i)]) (rest := []) (nA := 3) (5 + d) (by omega) (gE_th hd) rfl (c_X3_tells l g μ d hd x a i (by omega) (by omega)) gX3_hasUnlikeValues_X3_tells rfl rfl rfl (by decide +kernel) (by decide) rfl dX3_hasUnlikeValues_22 rfl (Nat.le_of_ble_eq_true rfl) (by decide) (fun r9 μ9 hp => ?_)
        have hq : r9 = zB (tellB (μ (23 + d)) (μ (29 + a)) x i) ∧ μ9 = μ := hp
        refine j_mem hq.2 ?_
        refine j_eq hq.1 ?_
        clear hq hp
        refine j_if_eq Z 58 dX3_hasUnlikeValues_25 (by decide) (fun h25 => ?_) (fun h25 => ?_)
        · skip
          refine j_iinc Z dX3_hasUnlikeValues_58 4 rfl (nI_1 i) (by decide) [(4, .int (nI (i + 1))), (0, .ref (g.2.1 (5 + d))), (1, .int x), (2, .int (nI a)), (3, .int b)] rfl ?_
          refine j_goto Z 5 dX3_hasUnlikeValues_61 (by decide) ?_
          refine j_sub [1, 2, 3, 4, 0] rfl ?_
          exact ih (i + 1) (b) (by simp_all [uSeen, zB_0]) (by simp_all [uBad, zB_0]) (by omega) (by omega)
        · skip
          refine j_aload_n Z dX3_hasUnlikeValues_28 0 rfl ?_
          refine j_get Z (5 + d) (by omega) (gE_th hd) rfl 0 (by decide) rfl inX3_hasUnlikeValues_X3 lkX3_hasUnlikeValues_15 dX3_hasUnlikeValues_29 ?_
          refine j_get Z 2 (by decide) rfl rfl 5 (by decide) rfl inX3_hasUnlikeValues_X0 lkX3_hasUnlikeValues_61 dX3_hasUnlikeValues_32 ?_
          refine j_iload_n Z dX3_hasUnlikeValues_35 2 rfl ?_
          refine j_ald Z 13 (by decide) rfl a rfl (by omega) (by decide) rfl dX3_hasUnlikeValues_36 ?_
          refine j_iload Z dX3_hasUnlikeValues_37 4 rfl ?_
          refine j_ild Z (29 + a) (by omega) (gE_row (by omega)) i rfl (by omega) (by decide) dX3_hasUnlikeValues_39 ?_
          refine j_istore Z dX3_hasUnlikeValues_40 (by decide) [(5, .int (μ (29 + a) i)), (0, .ref (g.2.1 (5 + d))), (1, .int x), (2, .int (nI a)), (3, .int b), (4, .int (nI i))] rfl ?_
          refine j_iload_n Z dX3_hasUnlikeValues_42 4 rfl ?_
          refine j_iconst Z (v := -1) dX3_hasUnlikeValues_43 (by decide) ?_
          refine j_icmp_eq Z 55 dX3_hasUnlikeValues_44 (by decide) (fun h44 => ?_) (fun h44 => ?_)
          · skip
            refine j_iload Z dX3_hasUnlikeValues_55 0 rfl ?_
            refine j_istore_n Z dX3_hasUnlikeValues_57 (by decide) [(3, .int (μ (29 + a) i)), (5, .int (μ (29 + a) i)), (0, .ref (g.2.1 (5 + d))), (1, .int x), (2, .int (nI a)), (4, .int (nI i))] rfl ?_
            refine j_iinc Z dX3_hasUnlikeValues_58 5 rfl (nI_1 i) (by decide) [(4, .int (nI (i + 1))), (3, .int (μ (29 + a) i)), (5, .int (μ (29 + a) i)), (0, .ref (g.2.1 (5 + d))), (1, .int x), (2, .int (nI a))] rfl ?_
            refine j_goto Z 5 dX3_hasUnlikeValues_61 (by decide) ?_
            refine j_sub [3, 4, 5, 1, 0] rfl ?_
            exact ih (i + 1) (μ (29 + a) i) (by simp_all [uSeen, zB_0]) (by simp_all [uBad, zB_0]) (by omega) (by omega)
          · skip
            refine j_iload Z dX3_hasUnlikeValues_47 0 rfl ?_
            refine j_iload_n Z dX3_hasUnlikeValues_49 4 rfl ?_
            refine j_icmp_eq Z 55 dX3_hasUnlikeValues_50 (by decide) (fun h50 => ?_) (fun h50 => ?_)
            · skip
              refine j_iload Z dX3_hasUnlikeValues_55 0 rfl ?_
              refine j_istore_n Z dX3_hasUnlikeValues_57 (by decide) [(3, .int (μ (29 + a) i)), (5, .int (μ (29 + a) i)), (0, .ref (g.2.1 (5 + d))), (1, .int x), (2, .int (nI a)), (4, .int (nI i))] rfl ?_
              refine j_iinc Z dX3_hasUnlikeValues_58 5 rfl (nI_1 i) (by decide) [(4, .int (nI (i + 1))), (3, .int (μ (29 + a) i)), (5, .int (μ (29 + a) i)), (0, .ref (g.2.1 (5 + d))), (1, .int x), (2, .int (nI a))] rfl ?_
              refine j_goto Z 5 dX3_hasUnlikeValues_61 (by decide) ?_
              refine j_sub [3, 4, 5, 1, 0] rfl ?_
              exact ih (i + 1) (μ (29 + a) i) (by simp_all [uSeen, zB_0]) (by simp_all [uBad, zB_0]) (by omega) (by omega)
            · skip
              refine j_iconst Z (v := 1) dX3_hasUnlikeValues_53 (by decide) ?_
              exact hR _ _ _ _ _ _ (⟨zB_t (uBad_up (i := i + 1) (by simp_all [uBad, zB_0]) (by omega)), rfl⟩) (by decide) (by decide) dX3_hasUnlikeValues_54
  refine j_sub [2, 3, 4, 1, 0] rfl ?_
  exact lp5 (cnt + 2) 0 (-1) (rfl) (rfl) (by omega) (by omega)
theorem lkX3_hasMark_15 : Cond.fieldLink RX3 15 (TX3 0).1 (TX3 0).2.1 (TX3 0).2.2.1 ∈ wsX3_hasMark := by decide +kernel
theorem inX3_hasMark_X3 : ∀ w ∈ u_ws RX3 TX3 3, w ∈ wsX3_hasMark := by decide +kernel
theorem lkX3_hasMark_23 : Cond.fieldLink RX3 23 (TX0 0).1 (TX0 0).2.1 (TX0 0).2.2.1 ∈ wsX3_hasMark := by decide +kernel
theorem inX3_hasMark_X0 : ∀ w ∈ u_ws RX0 TX0 7, w ∈ wsX3_hasMark := by decide +kernel
theorem lkX3_hasMark_9 : Cond.fieldLink RX3 9 (TX3 2).1 (TX3 2).2.1 (TX3 2).2.2.1 ∈ wsX3_hasMark := by decide +kernel
theorem lkX3_hasMark_73 : Cond.fieldLink RX3 73 (TX0 4).1 (TX0 4).2.1 (TX0 4).2.2.1 ∈ wsX3_hasMark := by decide +kernel
set_option maxRecDepth 100000 in
set_option maxHeartbeats 4000000 in
theorem c_X3_hasMark (l : Launch) (g : gC) (μ : gM) (d : Nat) (hd : d < 2) (cnt : Nat) (hcnt : cnt ≤ 60) (hc : μ 2 0 = nI cnt) (x y : Int32) (q : Nat) (hq : q < 3) : Met l yX3_hasMark wsX3_hasMark { frames := 0, cells := 0, slots := 0, locals := 0 } (va_Pc [.ref (g.2.1 (5 + d)), .int x, .int (nI q), .int y] (gB g μ)) (va_Qi (fun (r : Int32) (μ' : gM) => r = zB (hMark (μ (23 + d)) (μ (26 + q)) x y cnt) ∧ μ' = μ) (gPB g) (gA g)) 0 0 (gA g) := by
  refine g_ofI (cc := cX3_hasMark) (nL := 5) (ret := (some .boolean)) (ty := .boolean) (by decide +kernel) rfl rfl (by rintro _ _ ⟨rfl, -⟩; exact zB_n) (Nat.le_of_ble_eq_true rfl) ?_
  intro p e s m args below meth c Q Z hR
  refine j_iconst Z (v := 0) dX3_hasMark_0 (by decide) ?_
  refine j_istore Z dX3_hasMark_1 (by decide) [(4, .int 0), (0, .ref (g.2.1 (5 + d))), (1, .int x), (2, .int (nI q)), (3, .int y)] rfl ?_
  have lp3 : ∀ (n0 i : Nat) , hMark (μ (23 + d)) (μ (26 + q)) x y i = false → cnt + 2 ≤ i + n0 → i ≤ cnt → J p l e { frames := 0, cells := 0, slots := 0, locals := 0 } s m args below meth c Q g 5 μ (0) (0) 3 [(0, .ref (g.2.1 (5 + d))), (1, .int x), (2, .int (nI q)), (3, .int y), (4, .int (nI i))] [] := by
    intro n0
    induction n0 with
    | zero => intro i hbad hn hg; exact absurd hn (by omega)
    | succ n0 ih =>
      intro i hbad hn hg
      refine j_iload Z dX3_hasMark_3 4 rfl ?_
      refine j_aload_n Z dX3_hasMark_5 0 rfl ?_
      refine j_get Z (5 + d) (by omega) (gE_th hd) rfl 0 (by decide) rfl inX3_hasMark_X3 lkX3_hasMark_15 dX3_hasMark_6 ?_
      refine j_get Z 2 (by decide) rfl rfl 0 (by decide) rfl inX3_hasMark_X0 lkX3_hasMark_23 dX3_hasMark_9 ?_
      refine j_eq hc ?_
      refine j_icmp_ge Z 50 dX3_hasMark_12 (by decide) (fun h12 => ?_) (fun h12 => ?_)
      · skip
        have hic : i = cnt := by
          have hq := (nI_leI (a := cnt) (b := i) (by omega) (by omega)).mp h12
          omega
        refine j_iconst Z (v := 0) dX3_hasMark_50 (by decide) ?_
        exact hR _ _ _ _ _ _ (⟨zB_f (by rw [← hic]; exact hbad), rfl⟩) (by decide) (by decide) dX3_hasMark_51
      · skip
        have hlt : i < cnt := by
          rcases Nat.lt_or_ge i cnt with q9 | q9
          · exact q9
          · exact absurd (nI_le q9 (by omega)) h12
        refine j_aload_n Z dX3_hasMark_15 0 rfl ?_
        refine j_get Z (5 + d) (by omega) (gE_th hd) rfl 2 (by decide) rfl inX3_hasMark_X3 lkX3_hasMark_9 dX3_hasMark_16 ?_
        refine j_iload Z dX3_hasMark_19 4 rfl ?_
        refine j_ild Z (23 + d) (by omega) (gE_row (by omega)) i rfl (by omega) (by decide) dX3_hasMark_21 ?_
        refine j_iload_n Z dX3_hasMark_22 1 rfl ?_
        refine j_icmp_ne Z 44 dX3_hasMark_23 (by decide) (fun h23 => ?_) (fun h23 => ?_)
        · skip
          refine j_iinc Z dX3_hasMark_44 4 rfl (nI_1 i) (by decide) [(4, .int (nI (i + 1))), (0, .ref (g.2.1 (5 + d))), (1, .int x), (2, .int (nI q)), (3, .int y)] rfl ?_
          refine j_goto Z 3 dX3_hasMark_47 (by decide) ?_
          refine j_sub [1, 2, 3, 4, 0] rfl ?_
          exact ih (i + 1)   (by simp_all [hMark]) (by omega) (by omega)
        · skip
          refine j_aload_n Z dX3_hasMark_26 0 rfl ?_
          refine j_get Z (5 + d) (by omega) (gE_th hd) rfl 0 (by decide) rfl inX3_hasMark_X3 lkX3_hasMark_15 dX3_hasMark_27 ?_
          refine j_get Z 2 (by decide) rfl rfl 4 (by decide) rfl inX3_hasMark_X0 lkX3_hasMark_73 dX3_hasMark_30 ?_
          refine j_iload_n Z dX3_hasMark_33 2 rfl ?_
          refine j_ald Z 12 (by decide) rfl q rfl (by omega) (by decide) rfl dX3_hasMark_34 ?_
          refine j_iload Z dX3_hasMark_35 4 rfl ?_
          refine j_ild Z (26 + q) (by omega) (gE_row (by omega)) i rfl (by omega) (by decide) dX3_hasMark_37 ?_
          refine j_iload_n Z dX3_hasMark_38 3 rfl ?_
          refine j_icmp_ne Z 44 dX3_hasMark_39 (by decide) (fun h39 => ?_) (fun h39 => ?_)
          · skip
            refine j_iinc Z dX3_hasMark_44 4 rfl (nI_1 i) (by decide) [(4, .int (nI (i + 1))), (0, .ref (g.2.1 (5 + d))), (1, .int x), (2, .int (nI q)), (3, .int y)] rfl ?_
            refine j_goto Z 3 dX3_hasMark_47 (by decide) ?_
            refine j_sub [1, 2, 3, 4, 0] rfl ?_
            exact ih (i + 1)   (by simp_all [hMark]) (by omega) (by omega)
          · skip
            refine j_iconst Z (v := 1) dX3_hasMark_42 (by decide) ?_
            exact hR _ _ _ _ _ _ (⟨zB_t (hMark_up (i := i + 1) (by simp_all [hMark]) (by omega)), rfl⟩) (by decide) (by decide) dX3_hasMark_43
  refine j_sub [1, 2, 3, 4, 0] rfl ?_
  exact lp3 (cnt + 2) 0   (rfl) (by omega) (by omega)
