theorem lkX1_holds_33 : Cond.fieldLink RX1 33 (TX3 2).1 (TX3 2).2.1 (TX3 2).2.2.1 ∈ wsX1_holds := by decide +kernel
theorem inX1_holds_X3 : ∀ w ∈ u_ws RX3 TX3 3, w ∈ wsX1_holds := by decide +kernel
theorem lkX1_holds_15 : Cond.fieldLink RX1 15 (TX1 1).1 (TX1 1).2.1 (TX1 1).2.2.1 ∈ wsX1_holds := by decide +kernel
theorem inX1_holds_X1 : ∀ w ∈ u_ws RX1 TX1 5, w ∈ wsX1_holds := by decide +kernel
theorem lkX1_holds_19 : Cond.fieldLink RX1 19 (TX1 2).1 (TX1 2).2.1 (TX1 2).2.2.1 ∈ wsX1_holds := by decide +kernel
set_option maxRecDepth 100000 in
set_option maxHeartbeats 4000000 in
theorem c_X1_holds (l : Launch) (g : gC) (μ : gM) (i : Nat) (hi : i < 40) (h1 : ∀ k, vp_in (μ 15 k) 60) (h2 : ∀ k, vp_in (μ 16 k) 60)  : Met l yX1_holds wsX1_holds { frames := 0, cells := 0, slots := 0, locals := 0 } (va_Pc [.ref (g.2.1 3), .int (nI i), .ref (g.2.1 5)] (gB g μ)) (va_Qi (fun (r : Int32) (μ' : gM) => r = zB (holdB (μ 23) (μ 15) (μ 16) i) ∧ μ' = μ) (gPB g) (gA g)) 0 0 (gA g) := by
  refine g_ofI (cc := cX1_holds) (nL := 5) (ret := (some .boolean)) (ty := .boolean) (by decide +kernel) rfl rfl (by rintro _ _ ⟨rfl, -⟩; exact zB_n) (Nat.le_of_ble_eq_true rfl) ?_
  intro p e s m args below meth c Q Z hR
  refine j_aload_n Z dX1_holds_0 2 rfl ?_
  refine j_get Z 5 (by decide) rfl rfl 2 (by decide) rfl inX1_holds_X3 lkX1_holds_33 dX1_holds_1 ?_
  refine j_aload_n Z dX1_holds_4 0 rfl ?_
  refine j_get Z 3 (by decide) rfl rfl 1 (by decide) rfl inX1_holds_X1 lkX1_holds_15 dX1_holds_5 ?_
  refine j_iload_n Z dX1_holds_8 1 rfl ?_
  refine j_ild Z 15 (by decide) (fun _ => rfl) i rfl (by omega) (by decide) dX1_holds_9 ?_
  refine j_ild Z 23 (by decide) (fun _ => rfl) (ix (μ 15 i)) (vp_ix (h1 i) (by decide)).1 (vp_ix (h1 i) (by decide)).2 (by decide) dX1_holds_10 ?_
  refine j_istore_n Z dX1_holds_11 (by decide) [(3, .int (μ 23 (ix (μ 15 i)))), (0, .ref (g.2.1 3)), (1, .int (nI i)), (2, .ref (g.2.1 5))] rfl ?_
  refine j_aload_n Z dX1_holds_12 3 rfl ?_
  refine j_get Z 5 (by decide) rfl rfl 2 (by decide) rfl inX1_holds_X3 lkX1_holds_33 dX1_holds_13 ?_
  refine j_aload_n Z dX1_holds_16 1 rfl ?_
  refine j_get Z 3 (by decide) rfl rfl 2 (by decide) rfl inX1_holds_X1 lkX1_holds_19 dX1_holds_17 ?_
  refine j_iload_n Z dX1_holds_20 2 rfl ?_
  refine j_ild Z 16 (by decide) (fun _ => rfl) i rfl (by omega) (by decide) dX1_holds_21 ?_
  refine j_ild Z 23 (by decide) (fun _ => rfl) (ix (μ 16 i)) (vp_ix (h2 i) (by decide)).1 (vp_ix (h2 i) (by decide)).2 (by decide) dX1_holds_22 ?_
  refine j_istore Z dX1_holds_23 (by decide) [(4, .int (μ 23 (ix (μ 16 i)))), (3, .int (μ 23 (ix (μ 15 i)))), (0, .ref (g.2.1 3)), (1, .int (nI i)), (2, .ref (g.2.1 5))] rfl ?_
  refine j_iload_n Z dX1_holds_25 1 rfl ?_
  refine j_iconst Z (v := -1) dX1_holds_26 (by decide) ?_
  refine j_icmp_eq Z 46 dX1_holds_27 (by decide) (fun h27 => ?_) (fun h27 => ?_)
  · skip
    refine j_iconst Z (v := 0) dX1_holds_46 (by decide) ?_
    exact hR _ _ _ _ _ _ (⟨by first | (simp [zB, holdB, h27]; done) | (simp_all [zB, holdB]; done), rfl⟩) (by decide) (by decide) dX1_holds_47
  · skip
    refine j_iload Z dX1_holds_30 0 rfl ?_
    refine j_iconst Z (v := -1) dX1_holds_32 (by decide) ?_
    refine j_icmp_eq Z 46 dX1_holds_33 (by decide) (fun h33 => ?_) (fun h33 => ?_)
    · skip
      refine j_iconst Z (v := 0) dX1_holds_46 (by decide) ?_
      exact hR _ _ _ _ _ _ (⟨by first | (simp [zB, holdB, h27, h33]; done) | (simp_all [zB, holdB]; done), rfl⟩) (by decide) (by decide) dX1_holds_47
    · skip
      refine j_iload_n Z dX1_holds_36 1 rfl ?_
      refine j_iload Z dX1_holds_37 0 rfl ?_
      refine j_icmp_eq Z 46 dX1_holds_39 (by decide) (fun h39 => ?_) (fun h39 => ?_)
      · skip
        refine j_iconst Z (v := 0) dX1_holds_46 (by decide) ?_
        exact hR _ _ _ _ _ _ (⟨by first | (simp [zB, holdB, h27, h33, h39]; done) | (simp_all [zB, holdB]; done), rfl⟩) (by decide) (by decide) dX1_holds_47
      · skip
        refine j_iconst Z (v := 1) dX1_holds_42 (by decide) ?_
        refine j_goto Z 47 dX1_holds_43 (by decide) ?_
        exact hR _ _ _ _ _ _ (⟨by first | (simp [zB, holdB, h27, h33, h39]; done) | (simp_all [zB, holdB]; done), rfl⟩) (by decide) (by decide) dX1_holds_47
theorem lkX1_lost_9 : Cond.fieldLink RX1 9 (TX1 0).1 (TX1 0).2.1 (TX1 0).2.2.1 ∈ wsX1_lost := by decide +kernel
theorem inX1_lost_X1 : ∀ w ∈ u_ws RX1 TX1 5, w ∈ wsX1_lost := by decide +kernel
theorem lkX1_lost_22 : Cond.fieldLink RX1 22 (TX1 3).1 (TX1 3).2.1 (TX1 3).2.2.1 ∈ wsX1_lost := by decide +kernel
theorem lkX1_lost_33 : Cond.fieldLink RX1 33 (TX3 2).1 (TX3 2).2.1 (TX3 2).2.2.1 ∈ wsX1_lost := by decide +kernel
theorem inX1_lost_X3 : ∀ w ∈ u_ws RX3 TX3 3, w ∈ wsX1_lost := by decide +kernel
theorem lkX1_lost_15 : Cond.fieldLink RX1 15 (TX1 1).1 (TX1 1).2.1 (TX1 1).2.2.1 ∈ wsX1_lost := by decide +kernel
theorem lkX1_lost_25 : Cond.fieldLink RX1 25 (TX1 4).1 (TX1 4).2.1 (TX1 4).2.2.1 ∈ wsX1_lost := by decide +kernel
theorem lkX1_lost_19 : Cond.fieldLink RX1 19 (TX1 2).1 (TX1 2).2.1 (TX1 2).2.2.1 ∈ wsX1_lost := by decide +kernel
set_option maxRecDepth 100000 in
set_option maxHeartbeats 4000000 in
theorem c_X1_lost (l : Launch) (g : gC) (μ : gM) (x y : Int32) (lc : Nat) (hlc : lc ≤ 40) (hl : μ 3 0 = nI lc) (h1 : ∀ k, vp_in (μ 15 k) 60) (h2 : ∀ k, vp_in (μ 16 k) 60) (h4 : ∀ k, k < lc → μ 23 (ix (μ 16 k)) = -1 ∨ vp_in (μ 23 (ix (μ 16 k))) 60)  : Met l yX1_lost wsX1_lost { frames := 1, cells := 0, slots := 0, locals := 24 } (va_Pc [.ref (g.2.1 3), .int x, .int y, .ref (g.2.1 5)] (gB g μ)) (va_Qi (fun (r : Int32) (μ' : gM) => r = zB (lostN (μ 23) (μ 15) (μ 16) (μ 17) (μ 18) x y lc) ∧ μ' = μ) (gPB g) (gA g)) 0 0 (gA g) := by
  refine g_ofI (cc := cX1_lost) (nL := 5) (ret := (some .boolean)) (ty := .boolean) (by decide +kernel) rfl rfl (by rintro _ _ ⟨rfl, -⟩; exact zB_n) (Nat.le_of_ble_eq_true rfl) ?_
  intro p e s m args below meth c Q Z hR
  refine j_iconst Z (v := 0) dX1_lost_0 (by decide) ?_
  refine j_istore Z dX1_lost_1 (by decide) [(4, .int 0), (0, .ref (g.2.1 3)), (1, .int x), (2, .int y), (3, .ref (g.2.1 5))] rfl ?_
  have lp3 : ∀ (n0 i : Nat) , lostN (μ 23) (μ 15) (μ 16) (μ 17) (μ 18) x y i = true → lc + 2 ≤ i + n0 → i ≤ lc → J p l e { frames := 1, cells := 0, slots := 0, locals := 24 } s m args below meth c Q g 5 μ (0) (0) 3 [(0, .ref (g.2.1 3)), (1, .int x), (2, .int y), (3, .ref (g.2.1 5)), (4, .int (nI i))] [] := by
    intro n0
    induction n0 with
    | zero => intro i hok hn hg; exact absurd hn (by omega)
    | succ n0 ih =>
      intro i hok hn hg
      refine j_iload Z dX1_lost_3 4 rfl ?_
      refine j_aload_n Z dX1_lost_5 0 rfl ?_
      refine j_get Z 3 (by decide) rfl rfl 0 (by decide) rfl inX1_lost_X1 lkX1_lost_9 dX1_lost_6 ?_
      refine j_eq hl ?_
      refine j_icmp_ge Z 77 dX1_lost_9 (by decide) (fun h9 => ?_) (fun h9 => ?_)
      · skip
        have hic : i = lc := by
          have hq := (nI_leI (a := lc) (b := i) (by omega) (by omega)).mp h9
          omega
        refine j_iconst Z (v := 1) dX1_lost_77 (by decide) ?_
        exact hR _ _ _ _ _ _ (⟨zB_t (by rw [← hic]; exact hok), rfl⟩) (by decide) (by decide) dX1_lost_78
      · skip
        have hlt : i < lc := by
          rcases Nat.lt_or_ge i lc with q9 | q9
          · exact q9
          · exact absurd (nI_le q9 (by omega)) h9
        refine j_aload_n Z dX1_lost_12 0 rfl ?_
        refine j_get Z 3 (by decide) rfl rfl 3 (by decide) rfl inX1_lost_X1 lkX1_lost_22 dX1_lost_13 ?_
        refine j_iload Z dX1_lost_16 4 rfl ?_
        refine j_ild Z 17 (by decide) (fun _ => rfl) i rfl (by omega) (by decide) dX1_lost_18 ?_
        refine j_iload_n Z dX1_lost_19 2 rfl ?_
        refine j_icmp_ne Z 71 dX1_lost_20 (by decide) (fun h20 => ?_) (fun h20 => ?_)
        · skip
          refine j_iinc Z dX1_lost_71 4 rfl (nI_1 i) (by decide) [(4, .int (nI (i + 1))), (0, .ref (g.2.1 3)), (1, .int x), (2, .int y), (3, .ref (g.2.1 5))] rfl ?_
          refine j_goto Z 3 dX1_lost_74 (by decide) ?_
          refine j_sub [1, 2, 3, 4, 0] rfl ?_
          exact ih (i + 1)   (by show (lostN _ _ _ _ _ _ _ _ && !blockB _ _ _ _ _ _ _ _) = true; rw [hok]; simp_all [blockB, zB_0]) (by omega) (by omega)
        · skip
          refine j_aload_n Z dX1_lost_23 3 rfl ?_
          refine j_get Z 5 (by decide) rfl rfl 2 (by decide) rfl inX1_lost_X3 lkX1_lost_33 dX1_lost_24 ?_
          refine j_aload_n Z dX1_lost_27 0 rfl ?_
          refine j_get Z 3 (by decide) rfl rfl 1 (by decide) rfl inX1_lost_X1 lkX1_lost_15 dX1_lost_28 ?_
          refine j_iload Z dX1_lost_31 4 rfl ?_
          refine j_ild Z 15 (by decide) (fun _ => rfl) i rfl (by omega) (by decide) dX1_lost_33 ?_
          refine j_ild Z 23 (by decide) (fun _ => rfl) (ix (μ 15 i)) (vp_ix (h1 i) (by decide)).1 (vp_ix (h1 i) (by decide)).2 (by decide) dX1_lost_34 ?_
          refine j_iload_n Z dX1_lost_35 1 rfl ?_
          refine j_icmp_ne Z 71 dX1_lost_36 (by decide) (fun h36 => ?_) (fun h36 => ?_)
          · skip
            refine j_iinc Z dX1_lost_71 4 rfl (nI_1 i) (by decide) [(4, .int (nI (i + 1))), (0, .ref (g.2.1 3)), (1, .int x), (2, .int y), (3, .ref (g.2.1 5))] rfl ?_
            refine j_goto Z 3 dX1_lost_74 (by decide) ?_
            refine j_sub [1, 2, 3, 4, 0] rfl ?_
            exact ih (i + 1)   (by show (lostN _ _ _ _ _ _ _ _ && !blockB _ _ _ _ _ _ _ _) = true; rw [hok]; simp_all [blockB, zB_0]) (by omega) (by omega)
          · skip
            refine j_aload_n Z dX1_lost_39 0 rfl ?_
            refine j_iload Z dX1_lost_40 4 rfl ?_
            refine j_aload_n Z dX1_lost_42 3 rfl ?_
            refine j_callVi Z (As := [.int (nI i), .ref (g.2.1 5)]) (rest := []) (nA := 2) 3 (by decide) rfl rfl (c_X1_holds l g μ i (by omega) h1 h2) gX1_lost_X1_holds rfl rfl rfl (by decide +kernel) (by decide) rfl dX1_lost_43 rfl (Nat.le_of_ble_eq_true rfl) (by decide) (fun r9 μ9 hp => ?_)
            have hq : r9 = zB (holdB (μ 23) (μ 15) (μ 16) i) ∧ μ9 = μ := hp
            refine j_mem hq.2 ?_
            refine j_eq hq.1 ?_
            clear hq hp
            refine j_if_eq Z 71 dX1_lost_46 (by decide) (fun h46 => ?_) (fun h46 => ?_)
            · skip
              refine j_iinc Z dX1_lost_71 4 rfl (nI_1 i) (by decide) [(4, .int (nI (i + 1))), (0, .ref (g.2.1 3)), (1, .int x), (2, .int y), (3, .ref (g.2.1 5))] rfl ?_
              refine j_goto Z 3 dX1_lost_74 (by decide) ?_
              refine j_sub [1, 2, 3, 4, 0] rfl ?_
              exact ih (i + 1)   (by show (lostN _ _ _ _ _ _ _ _ && !blockB _ _ _ _ _ _ _ _) = true; rw [hok]; simp_all [blockB, zB_0]) (by omega) (by omega)
            · skip
              refine j_aload_n Z dX1_lost_49 0 rfl ?_
              refine j_get Z 3 (by decide) rfl rfl 4 (by decide) rfl inX1_lost_X1 lkX1_lost_25 dX1_lost_50 ?_
              refine j_aload_n Z dX1_lost_53 3 rfl ?_
              refine j_get Z 5 (by decide) rfl rfl 2 (by decide) rfl inX1_lost_X3 lkX1_lost_33 dX1_lost_54 ?_
              refine j_aload_n Z dX1_lost_57 0 rfl ?_
              refine j_get Z 3 (by decide) rfl rfl 2 (by decide) rfl inX1_lost_X1 lkX1_lost_19 dX1_lost_58 ?_
              refine j_iload Z dX1_lost_61 4 rfl ?_
              refine j_ild Z 16 (by decide) (fun _ => rfl) i rfl (by omega) (by decide) dX1_lost_63 ?_
              refine j_ild Z 23 (by decide) (fun _ => rfl) (ix (μ 16 i)) (vp_ix (h2 i) (by decide)).1 (vp_ix (h2 i) (by decide)).2 (by decide) dX1_lost_64 ?_
              refine j_zld Z 18 (by decide) (fun _ => rfl) (ix (μ 23 (ix (μ 16 i)))) (vp_ix ((h4 i hlt).resolve_left (by simp_all [zB_0, holdB])) (by decide)).1 (vp_ix ((h4 i hlt).resolve_left (by simp_all [zB_0, holdB])) (by decide)).2 (by decide) dX1_lost_65 ?_
              refine j_if_ne Z 71 dX1_lost_66 (by decide) (fun h66 => ?_) (fun h66 => ?_)
              · skip
                refine j_iinc Z dX1_lost_71 4 rfl (nI_1 i) (by decide) [(4, .int (nI (i + 1))), (0, .ref (g.2.1 3)), (1, .int x), (2, .int y), (3, .ref (g.2.1 5))] rfl ?_
                refine j_goto Z 3 dX1_lost_74 (by decide) ?_
                refine j_sub [1, 2, 3, 4, 0] rfl ?_
                exact ih (i + 1)   (by show (lostN _ _ _ _ _ _ _ _ && !blockB _ _ _ _ _ _ _ _) = true; rw [hok]; simp_all [blockB, zB_0]) (by omega) (by omega)
              · skip
                refine j_iconst Z (v := 0) dX1_lost_69 (by decide) ?_
                exact hR _ _ _ _ _ _ (⟨zB_f (lostN_dn (i := i + 1) (by show (lostN _ _ _ _ _ _ _ _ && !blockB _ _ _ _ _ _ _ _) = false; rw [hok]; simp_all [blockB, zB_0]) (by omega)), rfl⟩) (by decide) (by decide) dX1_lost_70
  refine j_sub [1, 2, 3, 4, 0] rfl ?_
  exact lp3 (lc + 2) 0   (rfl) (by omega) (by omega)
theorem lkX1_failMore_9 : Cond.fieldLink RX1 9 (TX1 0).1 (TX1 0).2.1 (TX1 0).2.2.1 ∈ wsX1_failMore := by decide +kernel
theorem inX1_failMore_X1 : ∀ w ∈ u_ws RX1 TX1 5, w ∈ wsX1_failMore := by decide +kernel
theorem lkX1_failMore_33 : Cond.fieldLink RX1 33 (TX3 2).1 (TX3 2).2.1 (TX3 2).2.2.1 ∈ wsX1_failMore := by decide +kernel
theorem inX1_failMore_X3 : ∀ w ∈ u_ws RX3 TX3 3, w ∈ wsX1_failMore := by decide +kernel
theorem lkX1_failMore_15 : Cond.fieldLink RX1 15 (TX1 1).1 (TX1 1).2.1 (TX1 1).2.2.1 ∈ wsX1_failMore := by decide +kernel
theorem lkX1_failMore_25 : Cond.fieldLink RX1 25 (TX1 4).1 (TX1 4).2.1 (TX1 4).2.2.1 ∈ wsX1_failMore := by decide +kernel
theorem lkX1_failMore_22 : Cond.fieldLink RX1 22 (TX1 3).1 (TX1 3).2.1 (TX1 3).2.2.1 ∈ wsX1_failMore := by decide +kernel
set_option maxRecDepth 100000 in
set_option maxHeartbeats 4000000 in
theorem c_X1_failMore (l : Launch) (g : gC) (μ : gM) (lc : Nat) (hlc : lc ≤ 40) (hl : μ 3 0 = nI lc) (h1 : ∀ k, vp_in (μ 15 k) 60) (h2 : ∀ k, vp_in (μ 16 k) 60) (h3 : ∀ k, k < lc → μ 23 (ix (μ 15 k)) = -1 ∨ vp_in (μ 23 (ix (μ 15 k))) 60) (h4 : ∀ k, k < lc → μ 23 (ix (μ 16 k)) = -1 ∨ vp_in (μ 23 (ix (μ 16 k))) 60)  : Met l yX1_failMore wsX1_failMore { frames := 2, cells := 0, slots := 0, locals := 48 } (va_Pc [.ref (g.2.1 3), .ref (g.2.1 5)] (gB g μ)) (va_Qi (fun (r : Int32) (μ' : gM) => r = zB (fmM (μ 23) (μ 15) (μ 16) (μ 17) lc (μ 18) lc) ∧ μ' = gR μ 18 (fmN (μ 23) (μ 15) (μ 16) (μ 17) lc (μ 18) lc)) (gPB g) (gA g)) 0 0 (gA g) := by
  refine g_ofI (cc := cX1_failMore) (nL := 5) (ret := (some .boolean)) (ty := .boolean) (by decide +kernel) rfl rfl (by rintro _ _ ⟨rfl, -⟩; exact zB_n) (Nat.le_of_ble_eq_true rfl) ?_
  intro p e s m args below meth c Q Z hR
  refine j_iconst Z (v := 0) dX1_failMore_0 (by decide) ?_
  refine j_istore_n Z dX1_failMore_1 (by decide) [(2, .int 0), (0, .ref (g.2.1 3)), (1, .ref (g.2.1 5))] rfl ?_
  refine j_iconst Z (v := 0) dX1_failMore_2 (by decide) ?_
  refine j_istore_n Z dX1_failMore_3 (by decide) [(3, .int 0), (2, .int 0), (0, .ref (g.2.1 3)), (1, .ref (g.2.1 5))] rfl ?_
  have lp4 : ∀ (n0 i : Nat) (f : Nat → Int32) (b : Bool), f = fmN (μ 23) (μ 15) (μ 16) (μ 17) lc (μ 18) i → b = fmM (μ 23) (μ 15) (μ 16) (μ 17) lc (μ 18) i → lc + 2 ≤ i + n0 → i ≤ lc → J p l e { frames := 2, cells := 0, slots := 0, locals := 48 } s m args below meth c Q g 5 (gR μ 18 f) (0) (0) 4 [(0, .ref (g.2.1 3)), (1, .ref (g.2.1 5)), (2, .int (zB b)), (3, .int (nI i))] [] := by
    intro n0
    induction n0 with
    | zero => intro i f b ef eb hn hg; exact absurd hn (by omega)
    | succ n0 ih =>
      intro i f b ef eb hn hg
      refine j_iload_n Z dX1_failMore_4 3 rfl ?_
      refine j_aload_n Z dX1_failMore_5 0 rfl ?_
      refine j_get Z 3 (by decide) rfl rfl 0 (by decide) rfl inX1_failMore_X1 lkX1_failMore_9 dX1_failMore_6 ?_
      refine j_eq (y := μ 3 0) (by rw [gR_n (k := 18) (j := 3) (by omega)]) ?_
      refine j_eq hl ?_
      refine j_icmp_ge Z 76 dX1_failMore_9 (by decide) (fun h9 => ?_) (fun h9 => ?_)
      · skip
        have hic : i = lc := by
          have hq := (nI_leI (a := lc) (b := i) (by omega) (by omega)).mp h9
          omega
        rw [hic] at ef eb
        refine j_iload_n Z dX1_failMore_76 2 rfl ?_
        exact hR _ _ _ _ _ _ (⟨by rw [eb], by rw [ef]⟩) (by decide) (by decide) dX1_failMore_77
      · skip
        have hlt : i < lc := by
          rcases Nat.lt_or_ge i lc with q9 | q9
          · exact q9
          · exact absurd (nI_le q9 (by omega)) h9
        refine j_aload_n Z dX1_failMore_12 1 rfl ?_
        refine j_get Z 5 (by decide) rfl rfl 2 (by decide) rfl inX1_failMore_X3 lkX1_failMore_33 dX1_failMore_13 ?_
        refine j_aload_n Z dX1_failMore_16 0 rfl ?_
        refine j_get Z 3 (by decide) rfl rfl 1 (by decide) rfl inX1_failMore_X1 lkX1_failMore_15 dX1_failMore_17 ?_
        refine j_iload_n Z dX1_failMore_20 3 rfl ?_
        refine j_ild Z 15 (by decide) (fun _ => rfl) i rfl (by omega) (by decide) dX1_failMore_21 ?_
        refine j_eq (y := μ 15 i) (by rw [gR_n (k := 18) (j := 15) (by omega)]) ?_
        refine j_ild Z 23 (by decide) (fun _ => rfl) (ix (μ 15 i)) (vp_ix (h1 i) (by decide)).1 (vp_ix (h1 i) (by decide)).2 (by decide) dX1_failMore_22 ?_
        refine j_eq (y := μ 23 (ix (μ 15 i))) (by rw [gR_n (k := 18) (j := 23) (by omega)]) ?_
        refine j_istore Z dX1_failMore_23 (by decide) [(4, .int (μ 23 (ix (μ 15 i)))), (0, .ref (g.2.1 3)), (1, .ref (g.2.1 5)), (2, .int (zB b)), (3, .int (nI i))] rfl ?_
        refine j_aload_n Z dX1_failMore_25 1 rfl ?_
        refine j_iload_n Z dX1_failMore_26 4 rfl ?_
        refine j_aload_n Z dX1_failMore_27 2 rfl ?_
        refine j_callVi Z (As := [.int (nI i), .ref (g.2.1 5)]) (rest := []) (nA := 2) 3 (by decide) rfl rfl (c_X1_holds l g (gR μ 18 f) i (by omega) h1 h2) gX1_failMore_X1_holds rfl rfl rfl (by decide +kernel) (by decide) rfl dX1_failMore_28 rfl (Nat.le_of_ble_eq_true rfl) (by decide) (fun r9 μ9 hp => ?_)
        have hq : r9 = zB (holdB (μ 23) (μ 15) (μ 16) i) ∧ μ9 = (gR μ 18 f) := hp
        refine j_mem hq.2 ?_
        refine j_eq hq.1 ?_
        clear hq hp
        refine j_if_eq Z 70 dX1_failMore_31 (by decide) (fun h31 => ?_) (fun h31 => ?_)
        · skip
          refine j_iinc Z dX1_failMore_70 4 rfl (nI_1 i) (by decide) [(3, .int (nI (i + 1))), (4, .int (μ 23 (ix (μ 15 i)))), (0, .ref (g.2.1 3)), (1, .ref (g.2.1 5)), (2, .int (zB b))] rfl ?_
          refine j_goto Z 4 dX1_failMore_73 (by decide) ?_
          refine j_sub [2, 3, 4, 0] rfl ?_
          exact ih (i + 1) (f) (b) (by show _ = if fmC _ _ _ _ _ (fmN (μ 23) (μ 15) (μ 16) (μ 17) lc (μ 18) i) _ = true then _ else _; rw [← ef]; refine (if_neg ?_).symm; simp_all [fmC, zB_0]) (by show _ = (fmM (μ 23) (μ 15) (μ 16) (μ 17) lc (μ 18) i || fmC _ _ _ _ _ (fmN (μ 23) (μ 15) (μ 16) (μ 17) lc (μ 18) i) _); rw [← ef, ← eb]; simp_all [fmC, zB_0])  (by omega) (by omega)
        · skip
          refine j_aload_n Z dX1_failMore_34 1 rfl ?_
          refine j_get Z 3 (by decide) rfl rfl 4 (by decide) rfl inX1_failMore_X1 lkX1_failMore_25 dX1_failMore_35 ?_
          refine j_iload Z dX1_failMore_38 0 rfl ?_
          refine j_zld Z 18 (by decide) (fun _ => rfl) (ix (μ 23 (ix (μ 15 i)))) (vp_ix ((h3 i hlt).resolve_left (by simp_all [zB_0, holdB])) (by decide)).1 (vp_ix ((h3 i hlt).resolve_left (by simp_all [zB_0, holdB])) (by decide)).2 (by decide) dX1_failMore_40 ?_
          refine j_eq (y := f (ix (μ 23 (ix (μ 15 i))))) (by rw [gR_s]) ?_
          refine j_if_ne Z 70 dX1_failMore_41 (by decide) (fun h41 => ?_) (fun h41 => ?_)
          · skip
            refine j_iinc Z dX1_failMore_70 4 rfl (nI_1 i) (by decide) [(3, .int (nI (i + 1))), (4, .int (μ 23 (ix (μ 15 i)))), (0, .ref (g.2.1 3)), (1, .ref (g.2.1 5)), (2, .int (zB b))] rfl ?_
            refine j_goto Z 4 dX1_failMore_73 (by decide) ?_
            refine j_sub [2, 3, 4, 0] rfl ?_
            exact ih (i + 1) (f) (b) (by show _ = if fmC _ _ _ _ _ (fmN (μ 23) (μ 15) (μ 16) (μ 17) lc (μ 18) i) _ = true then _ else _; rw [← ef]; refine (if_neg ?_).symm; simp_all [fmC, zB_0]) (by show _ = (fmM (μ 23) (μ 15) (μ 16) (μ 17) lc (μ 18) i || fmC _ _ _ _ _ (fmN (μ 23) (μ 15) (μ 16) (μ 17) lc (μ 18) i) _); rw [← ef, ← eb]; simp_all [fmC, zB_0])  (by omega) (by omega)
          · skip
            refine j_aload_n Z dX1_failMore_44 1 rfl ?_
            refine j_iload Z dX1_failMore_45 0 rfl ?_
            refine j_aload_n Z dX1_failMore_47 1 rfl ?_
            refine j_get Z 3 (by decide) rfl rfl 3 (by decide) rfl inX1_failMore_X1 lkX1_failMore_22 dX1_failMore_48 ?_
            refine j_iload_n Z dX1_failMore_51 4 rfl ?_
            refine j_ild Z 17 (by decide) (fun _ => rfl) i rfl (by omega) (by decide) dX1_failMore_52 ?_
            refine j_eq (y := μ 17 i) (by rw [gR_n (k := 18) (j := 17) (by omega)]) ?_
            refine j_aload_n Z dX1_failMore_53 2 rfl ?_
            refine j_callVi Z (As := [.int (μ 23 (ix (μ 15 i))), .int (μ 17 i), .ref (g.2.1 5)]) (rest := []) (nA := 3) 3 (by decide) rfl rfl (c_X1_lost l g (gR μ 18 f) (μ 23 (ix (μ 15 i))) (μ 17 i) lc hlc hl h1 h2 h4) gX1_failMore_X1_lost rfl rfl rfl (by decide +kernel) (by decide) rfl dX1_failMore_54 rfl (Nat.le_of_ble_eq_true rfl) (by decide) (fun r9 μ9 hp => ?_)
            have hq : r9 = zB (lostN (μ 23) (μ 15) (μ 16) (μ 17) f (μ 23 (ix (μ 15 i))) (μ 17 i) lc) ∧ μ9 = (gR μ 18 f) := hp
            refine j_mem hq.2 ?_
            refine j_eq hq.1 ?_
            clear hq hp
            refine j_if_eq Z 70 dX1_failMore_57 (by decide) (fun h57 => ?_) (fun h57 => ?_)
            · skip
              refine j_iinc Z dX1_failMore_70 4 rfl (nI_1 i) (by decide) [(3, .int (nI (i + 1))), (4, .int (μ 23 (ix (μ 15 i)))), (0, .ref (g.2.1 3)), (1, .ref (g.2.1 5)), (2, .int (zB b))] rfl ?_
              refine j_goto Z 4 dX1_failMore_73 (by decide) ?_
              refine j_sub [2, 3, 4, 0] rfl ?_
              exact ih (i + 1) (f) (b) (by show _ = if fmC _ _ _ _ _ (fmN (μ 23) (μ 15) (μ 16) (μ 17) lc (μ 18) i) _ = true then _ else _; rw [← ef]; refine (if_neg ?_).symm; simp_all [fmC, zB_0]) (by show _ = (fmM (μ 23) (μ 15) (μ 16) (μ 17) lc (μ 18) i || fmC _ _ _ _ _ (fmN (μ 23) (μ 15) (μ 16) (μ 17) lc (μ 18) i) _); rw [← ef, ← eb]; simp_all [fmC, zB_0])  (by omega) (by omega)
            · skip
              refine j_aload_n Z dX1_failMore_60 1 rfl ?_
              refine j_get Z 3 (by decide) rfl rfl 4 (by decide) rfl inX1_failMore_X1 lkX1_failMore_25 dX1_failMore_61 ?_
              refine j_iload Z dX1_failMore_64 0 rfl ?_
              refine j_iconst Z (v := 1) dX1_failMore_66 (by decide) ?_
              refine j_zst Z 18 (by decide) (fun _ => rfl) (ix (μ 23 (ix (μ 15 i)))) (vp_ix ((h3 i hlt).resolve_left (by simp_all [zB_0, holdB])) (by decide)).1 (vp_ix ((h3 i hlt).resolve_left (by simp_all [zB_0, holdB])) (by decide)).2 (by decide) (by decide) dX1_failMore_67 ?_
              refine j_mem (μ' := (gR μ 18 (upd f (ix (μ 23 (ix (μ 15 i)))) 1))) gU_R ?_
              refine j_iconst Z (v := 1) dX1_failMore_68 (by decide) ?_
              refine j_istore_n Z dX1_failMore_69 (by decide) [(2, .int 1), (4, .int (μ 23 (ix (μ 15 i)))), (0, .ref (g.2.1 3)), (1, .ref (g.2.1 5)), (3, .int (nI i))] rfl ?_
              refine j_iinc Z dX1_failMore_70 4 rfl (nI_1 i) (by decide) [(3, .int (nI (i + 1))), (2, .int 1), (4, .int (μ 23 (ix (μ 15 i)))), (0, .ref (g.2.1 3)), (1, .ref (g.2.1 5))] rfl ?_
              refine j_goto Z 4 dX1_failMore_73 (by decide) ?_
              refine j_sub [3, 4, 1, 0] rfl ?_
              exact ih (i + 1) (upd f (ix (μ 23 (ix (μ 15 i)))) 1) (true) (by show _ = if fmC _ _ _ _ _ (fmN (μ 23) (μ 15) (μ 16) (μ 17) lc (μ 18) i) _ = true then _ else _; rw [← ef]; refine (if_pos ?_).symm; simp_all [fmC, zB_0]) (by show _ = (fmM (μ 23) (μ 15) (μ 16) (μ 17) lc (μ 18) i || fmC _ _ _ _ _ (fmN (μ 23) (μ 15) (μ 16) (μ 17) lc (μ 18) i) _); rw [← ef, ← eb]; simp_all [fmC, zB_0])  (by omega) (by omega)
  refine j_sub [2, 3, 1, 0] rfl ?_
  refine j_mem (gR_id (k := 18) (r := μ 18) rfl) ?_
  exact lp4 (lc + 2) 0 (μ 18) (false) (rfl) (rfl)  (by omega) (by omega)
theorem lkX1_failFrom_25 : Cond.fieldLink RX1 25 (TX1 4).1 (TX1 4).2.1 (TX1 4).2.2.1 ∈ wsX1_failFrom := by decide +kernel
theorem inX1_failFrom_X1 : ∀ w ∈ u_ws RX1 TX1 5, w ∈ wsX1_failFrom := by decide +kernel
set_option maxRecDepth 100000 in
set_option maxHeartbeats 4000000 in
theorem c_X1_failFrom (l : Launch) (g : gC) (μ : gM) (q : Nat) (hq : q < 60) (lc : Nat) (hlc : lc ≤ 40) (hl : μ 3 0 = nI lc) (h1 : ∀ k, vp_in (μ 15 k) 60) (h2 : ∀ k, vp_in (μ 16 k) 60) (h3 : ∀ k, k < lc → μ 23 (ix (μ 15 k)) = -1 ∨ vp_in (μ 23 (ix (μ 15 k))) 60) (h4 : ∀ k, k < lc → μ 23 (ix (μ 16 k)) = -1 ∨ vp_in (μ 23 (ix (μ 16 k))) 60)  : Met l yX1_failFrom wsX1_failFrom { frames := 3, cells := 0, slots := 0, locals := 72 } (va_Pc [.ref (g.2.1 3), .int (nI q), .ref (g.2.1 5)] (gB g μ)) (va_Qv (fun μ' : gM => μ' = gR μ 18 (fFail μ lc q)) (gPB g) (gA g)) 0 0 (gA g) := by
  refine g_ofV (cc := cX1_failFrom) (nL := 5) (ret := none) (by decide +kernel) rfl rfl  (Nat.le_of_ble_eq_true rfl) ?_
  intro p e s m args below meth c Q Z hR
  refine j_iconst Z (v := 0) dX1_failFrom_0 (by decide) ?_
  refine j_istore_n Z dX1_failFrom_1 (by decide) [(3, .int 0), (0, .ref (g.2.1 3)), (1, .int (nI q)), (2, .ref (g.2.1 5))] rfl ?_
  have lp2 : ∀ (n0 i : Nat) (f : Nat → Int32), f = zRow i (μ 18) → 60 + 2 ≤ i + n0 → i ≤ 60 → J p l e { frames := 3, cells := 0, slots := 0, locals := 72 } s m args below meth c Q g 5 (gR μ 18 f) (0) (0) 2 [(0, .ref (g.2.1 3)), (1, .int (nI q)), (2, .ref (g.2.1 5)), (3, .int (nI i))] [] := by
    intro n0
    induction n0 with
    | zero => intro i f ef hn hg; exact absurd hn (by omega)
    | succ n0 ih =>
      intro i f ef hn hg
      refine j_iload_n Z dX1_failFrom_2 3 rfl ?_
      refine j_bipush Z (v := 60) dX1_failFrom_3 (by decide) ?_
      refine j_icmp_ge Z 21 dX1_failFrom_5 (by decide) (fun h5 => ?_) (fun h5 => ?_)
      · skip
        have hic : i = 60 := by
          have hq := (nI_leI (a := 60) (b := i) (by omega) (by omega)).mp h5
          omega
        rw [hic] at ef
        refine j_aload_n Z dX1_failFrom_21 0 rfl ?_
        refine j_get Z 3 (by decide) rfl rfl 4 (by decide) rfl inX1_failFrom_X1 lkX1_failFrom_25 dX1_failFrom_22 ?_
        refine j_iload_n Z dX1_failFrom_25 1 rfl ?_
        refine j_iconst Z (v := 1) dX1_failFrom_26 (by decide) ?_
        refine j_zst Z 18 (by decide) (fun _ => rfl) q rfl (by omega) (by decide) (by decide) dX1_failFrom_27 ?_
        refine j_mem (μ' := (gR μ 18 (upd f q 1))) gU_R ?_
        refine j_iconst Z (v := 1) dX1_failFrom_28 (by decide) ?_
        refine j_istore_n Z dX1_failFrom_29 (by decide) [(3, .int 1), (0, .ref (g.2.1 3)), (1, .int (nI q)), (2, .ref (g.2.1 5))] rfl ?_
        refine j_iconst Z (v := 0) dX1_failFrom_30 (by decide) ?_
        refine j_istore Z dX1_failFrom_31 (by decide) [(4, .int 0), (3, .int 1), (0, .ref (g.2.1 3)), (1, .int (nI q)), (2, .ref (g.2.1 5))] rfl ?_
        have lq33 : ∀ (n0 i : Nat) (f : Nat → Int32) (b : Bool), fRun (μ 23) (μ 15) (μ 16) (μ 17) lc (60 - i) f b = fRun (μ 23) (μ 15) (μ 16) (μ 17) lc 60 (upd (zRow 60 (μ 18)) q 1) true → 60 + 2 ≤ i + n0 → i ≤ 60 → J p l e { frames := 3, cells := 0, slots := 0, locals := 72 } s m args below meth c Q g 5 (gR μ 18 f) (0) (0) 33 [(0, .ref (g.2.1 3)), (1, .int (nI q)), (2, .ref (g.2.1 5)), (3, .int (zB b)), (4, .int (nI i))] [] := by
          intro n0
          induction n0 with
          | zero => intro i f b hF hn hg; exact absurd hn (by omega)
          | succ n0 ih =>
            intro i f b hF hn hg
            refine j_iload_n Z dX1_failFrom_33 3 rfl ?_
            refine j_if_eq Z 56 dX1_failFrom_34 (by decide) (fun h34 => ?_) (fun h34 => ?_)
            · skip
              have hmo := fRun_f (th := μ 23) (nd := μ 15) (nn := μ 16) (gp := μ 17) (lc := lc) (n := 60 - i) (f := f) (zB_0.mp h34)
              exact hR _ _ _ _ _ (by show _ = gR μ 18 (fFail μ lc q); rw [show fFail μ lc q = _ from hF.symm, hmo]) (by decide) (by decide) dX1_failFrom_56
            · skip
              refine j_iload Z dX1_failFrom_37 4 rfl ?_
              refine j_bipush Z (v := 60) dX1_failFrom_39 (by decide) ?_
              refine j_icmp_ge Z 56 dX1_failFrom_41 (by decide) (fun h41 => ?_) (fun h41 => ?_)
              · skip
                have hic : i = 60 := by
                  have hq := (nI_leI (a := 60) (b := i) (by omega) (by omega)).mp h41
                  omega
                exact hR _ _ _ _ _ (by show _ = gR μ 18 (fFail μ lc q); rw [show fFail μ lc q = _ from hF.symm, fRun_0 (by omega)]) (by decide) (by decide) dX1_failFrom_56
              · skip
                have hlt : i < 60 := by
                  rcases Nat.lt_or_ge i 60 with q9 | q9
                  · exact q9
                  · exact absurd (nI_le q9 (by omega)) h41
                refine j_aload_n Z dX1_failFrom_44 0 rfl ?_
                refine j_aload_n Z dX1_failFrom_45 2 rfl ?_
                refine j_callVi Z (As := [.ref (g.2.1 5)]) (rest := []) (nA := 1) 3 (by decide) rfl rfl (c_X1_failMore l g (gR μ 18 f) lc hlc hl h1 h2 h3 h4) gX1_failFrom_X1_failMore rfl rfl rfl (by decide +kernel) (by decide) rfl dX1_failFrom_46 rfl (Nat.le_of_ble_eq_true rfl) (by decide) (fun r9 μ9 hp => ?_)
                have hq : r9 = zB (fmM (μ 23) (μ 15) (μ 16) (μ 17) lc f lc) ∧ μ9 = gR (gR μ 18 f) 18 (fmN (μ 23) (μ 15) (μ 16) (μ 17) lc f lc) := hp
                rw [gR_R] at hq
                refine j_mem hq.2 ?_
                refine j_eq hq.1 ?_
                clear hq hp
                refine j_istore_n Z dX1_failFrom_49 (by decide) [(3, .int (zB (fmM (μ 23) (μ 15) (μ 16) (μ 17) lc f lc))), (0, .ref (g.2.1 3)), (1, .int (nI q)), (2, .ref (g.2.1 5)), (4, .int (nI i))] rfl ?_
                refine j_iinc Z dX1_failFrom_50 4 rfl (nI_1 i) (by decide) [(4, .int (nI (i + 1))), (3, .int (zB (fmM (μ 23) (μ 15) (μ 16) (μ 17) lc f lc))), (0, .ref (g.2.1 3)), (1, .int (nI q)), (2, .ref (g.2.1 5))] rfl ?_
                refine j_goto Z 33 dX1_failFrom_53 (by decide) ?_
                refine j_sub [2, 3, 4, 1, 0] rfl ?_
                exact ih (i + 1) (fmN (μ 23) (μ 15) (μ 16) (μ 17) lc f lc) ((fmM (μ 23) (μ 15) (μ 16) (μ 17) lc f lc))  (by rw [← hF]; exact (fRun_t (by simpa [zB_0] using h34) (by omega)).symm) (by omega) (by omega)
        refine j_sub [2, 3, 4, 1, 0] rfl ?_
        rw [ef]
        exact lq33 (60 + 2) 0 (upd (zRow 60 (μ 18)) q 1) (true)  (rfl) (by omega) (by omega)
      · skip
        have hlt : i < 60 := by
          rcases Nat.lt_or_ge i 60 with q9 | q9
          · exact q9
          · exact absurd (nI_le q9 (by omega)) h5
        refine j_aload_n Z dX1_failFrom_8 0 rfl ?_
        refine j_get Z 3 (by decide) rfl rfl 4 (by decide) rfl inX1_failFrom_X1 lkX1_failFrom_25 dX1_failFrom_9 ?_
        refine j_iload_n Z dX1_failFrom_12 3 rfl ?_
        refine j_iconst Z (v := 0) dX1_failFrom_13 (by decide) ?_
        refine j_zst Z 18 (by decide) (fun _ => rfl) i rfl (by omega) (by decide) (by decide) dX1_failFrom_14 ?_
        refine j_mem (μ' := (gR μ 18 (upd f i 0))) gU_R ?_
        refine j_iinc Z dX1_failFrom_15 3 rfl (nI_1 i) (by decide) [(3, .int (nI (i + 1))), (0, .ref (g.2.1 3)), (1, .int (nI q)), (2, .ref (g.2.1 5))] rfl ?_
        refine j_goto Z 2 dX1_failFrom_18 (by decide) ?_
        refine j_sub [1, 2, 3, 0] rfl ?_
        exact ih (i + 1) (upd f i 0) (by rw [ef]; exact zRow_s)  (by omega) (by omega)
  refine j_sub [1, 2, 3, 0] rfl ?_
  refine j_mem (gR_id (k := 18) (r := μ 18) rfl) ?_
  exact lp2 (60 + 2) 0 (μ 18) (zRow_0)  (by omega) (by omega)
theorem lkX1_failures_25 : Cond.fieldLink RX1 25 (TX1 4).1 (TX1 4).2.1 (TX1 4).2.2.1 ∈ wsX1_failures := by decide +kernel
theorem inX1_failures_X1 : ∀ w ∈ u_ws RX1 TX1 5, w ∈ wsX1_failures := by decide +kernel
set_option maxRecDepth 100000 in
set_option maxHeartbeats 4000000 in
theorem c_X1_failures (l : Launch) (g : gC) (μ : gM)  : Met l yX1_failures wsX1_failures { frames := 0, cells := 0, slots := 0, locals := 0 } (va_Pc [.ref (g.2.1 3)] (gB g μ)) (va_Qi (fun (r : Int32) (μ' : gM) => r = nI (cB (fun k => !decide (μ 18 k = 0)) 60) ∧ μ' = μ) (gPB g) (gA g)) 0 0 (gA g) := by
  refine g_ofI (cc := cX1_failures) (nL := 3) (ret := (some .int)) (ty := .int) (by decide +kernel) rfl rfl (fun _ _ _ => rfl) (Nat.le_of_ble_eq_true rfl) ?_
  intro p e s m args below meth c Q Z hR
  refine j_iconst Z (v := 0) dX1_failures_0 (by decide) ?_
  refine j_istore_n Z dX1_failures_1 (by decide) [(1, .int 0), (0, .ref (g.2.1 3))] rfl ?_
  refine j_iconst Z (v := 0) dX1_failures_2 (by decide) ?_
  refine j_istore_n Z dX1_failures_3 (by decide) [(2, .int 0), (1, .int 0), (0, .ref (g.2.1 3))] rfl ?_
  have lp4 : ∀ (n0 i : Nat) (b : Nat), b = cB (fun k => !decide (μ 18 k = 0)) i → 60 + 2 ≤ i + n0 → i ≤ 60 → J p l e { frames := 0, cells := 0, slots := 0, locals := 0 } s m args below meth c Q g 3 μ (0) (0) 4 [(0, .ref (g.2.1 3)), (1, .int (nI b)), (2, .int (nI i))] [] := by
    intro n0
    induction n0 with
    | zero => intro i b eb hn hg; exact absurd hn (by omega)
    | succ n0 ih =>
      intro i b eb hn hg
      refine j_iload_n Z dX1_failures_4 2 rfl ?_
      refine j_bipush Z (v := 60) dX1_failures_5 (by decide) ?_
      refine j_icmp_ge Z 28 dX1_failures_7 (by decide) (fun h7 => ?_) (fun h7 => ?_)
      · skip
        have hic : i = 60 := by
          have hq := (nI_leI (a := 60) (b := i) (by omega) (by omega)).mp h7
          omega
        rw [hic] at eb
        refine j_iload_n Z dX1_failures_28 1 rfl ?_
        exact hR _ _ _ _ _ _ (⟨by rw [eb], rfl⟩) (by decide) (by decide) dX1_failures_29
      · skip
        have hlt : i < 60 := by
          rcases Nat.lt_or_ge i 60 with q9 | q9
          · exact q9
          · exact absurd (nI_le q9 (by omega)) h7
        refine j_aload_n Z dX1_failures_10 0 rfl ?_
        refine j_get Z 3 (by decide) rfl rfl 4 (by decide) rfl inX1_failures_X1 lkX1_failures_25 dX1_failures_11 ?_
        refine j_iload_n Z dX1_failures_14 2 rfl ?_
        refine j_zld Z 18 (by decide) (fun _ => rfl) i rfl (by omega) (by decide) dX1_failures_15 ?_
        refine j_if_eq Z 22 dX1_failures_16 (by decide) (fun h16 => ?_) (fun h16 => ?_)
        · skip
          refine j_iinc Z dX1_failures_22 2 rfl (nI_1 i) (by decide) [(2, .int (nI (i + 1))), (0, .ref (g.2.1 3)), (1, .int (nI b))] rfl ?_
          refine j_goto Z 4 dX1_failures_25 (by decide) ?_
          refine j_sub [1, 2, 0] rfl ?_
          exact ih (i + 1) (b) (by rw [eb]; exact cB_0 (by simp_all))  (by omega) (by omega)
        · skip
          refine j_iinc Z dX1_failures_19 1 rfl (nI_1 b) (by decide) [(1, .int (nI (b + 1))), (0, .ref (g.2.1 3)), (2, .int (nI i))] rfl ?_
          refine j_iinc Z dX1_failures_22 2 rfl (nI_1 i) (by decide) [(2, .int (nI (i + 1))), (1, .int (nI (b + 1))), (0, .ref (g.2.1 3))] rfl ?_
          refine j_goto Z 4 dX1_failures_25 (by decide) ?_
          refine j_sub [2, 1, 0] rfl ?_
          exact ih (i + 1) (b + 1) (by rw [eb]; exact cB_1 (by simp_all))  (by omega) (by omega)
  refine j_sub [2, 1, 0] rfl ?_
  exact lp4 (60 + 2) 0 (0) (rfl)  (by omega) (by omega)
theorem lkX1_add_15 : Cond.fieldLink RX1 15 (TX1 1).1 (TX1 1).2.1 (TX1 1).2.2.1 ∈ wsX1_add := by decide +kernel
theorem inX1_add_X1 : ∀ w ∈ u_ws RX1 TX1 5, w ∈ wsX1_add := by decide +kernel
theorem lkX1_add_9 : Cond.fieldLink RX1 9 (TX1 0).1 (TX1 0).2.1 (TX1 0).2.2.1 ∈ wsX1_add := by decide +kernel
theorem lkX1_add_19 : Cond.fieldLink RX1 19 (TX1 2).1 (TX1 2).2.1 (TX1 2).2.2.1 ∈ wsX1_add := by decide +kernel
theorem lkX1_add_22 : Cond.fieldLink RX1 22 (TX1 3).1 (TX1 3).2.1 (TX1 3).2.2.1 ∈ wsX1_add := by decide +kernel
set_option maxRecDepth 100000 in
set_option maxHeartbeats 4000000 in
theorem c_X1_add (l : Launch) (g : gC) (μ : gM) (lc : Nat) (hlc : lc < 40) (hl : μ 3 0 = nI lc) (x y z : Int32) : Met l yX1_add wsX1_add { frames := 0, cells := 0, slots := 0, locals := 0 } (va_Pc [.ref (g.2.1 3), .int x, .int y, .int z] (gB g μ)) (va_Qv (fun μ' : gM => μ' = gU (gU (gU (gU μ 15 lc x) 16 lc y) 17 lc z) 3 0 (nI (lc + 1))) (gPB g) (gA g)) 0 0 (gA g) := by
  refine g_ofV (cc := cX1_add) (nL := 4) (ret := none) (by decide +kernel) rfl rfl  (Nat.le_of_ble_eq_true rfl) ?_
  intro p e s m args below meth c Q Z hR
  refine j_aload_n Z dX1_add_0 0 rfl ?_
  refine j_get Z 3 (by decide) rfl rfl 1 (by decide) rfl inX1_add_X1 lkX1_add_15 dX1_add_1 ?_
  refine j_aload_n Z dX1_add_4 0 rfl ?_
  refine j_get Z 3 (by decide) rfl rfl 0 (by decide) rfl inX1_add_X1 lkX1_add_9 dX1_add_5 ?_
  refine j_eq hl ?_
  refine j_iload_n Z dX1_add_8 1 rfl ?_
  refine j_ist Z 15 (by decide) (fun _ => rfl) lc rfl (by omega) (by decide)  dX1_add_9 ?_
  refine j_aload_n Z dX1_add_10 0 rfl ?_
  refine j_get Z 3 (by decide) rfl rfl 2 (by decide) rfl inX1_add_X1 lkX1_add_19 dX1_add_11 ?_
  refine j_aload_n Z dX1_add_14 0 rfl ?_
  refine j_get Z 3 (by decide) rfl rfl 0 (by decide) rfl inX1_add_X1 lkX1_add_9 dX1_add_15 ?_
  refine j_eq (y := μ 3 0) (by rw [gU_n (k := 15) (j := 3) (by omega)]) ?_
  refine j_eq hl ?_
  refine j_iload_n Z dX1_add_18 2 rfl ?_
  refine j_ist Z 16 (by decide) (fun _ => rfl) lc rfl (by omega) (by decide)  dX1_add_19 ?_
  refine j_aload_n Z dX1_add_20 0 rfl ?_
  refine j_get Z 3 (by decide) rfl rfl 3 (by decide) rfl inX1_add_X1 lkX1_add_22 dX1_add_21 ?_
  refine j_aload_n Z dX1_add_24 0 rfl ?_
  refine j_get Z 3 (by decide) rfl rfl 0 (by decide) rfl inX1_add_X1 lkX1_add_9 dX1_add_25 ?_
  refine j_eq (y := μ 3 0) (by rw [gU_n (k := 16) (j := 3) (by omega), gU_n (k := 15) (j := 3) (by omega)]) ?_
  refine j_eq hl ?_
  refine j_iload_n Z dX1_add_28 3 rfl ?_
  refine j_ist Z 17 (by decide) (fun _ => rfl) lc rfl (by omega) (by decide)  dX1_add_29 ?_
  refine j_aload_n Z dX1_add_30 0 rfl ?_
  refine j_dup Z dX1_add_31 rfl ?_
  refine j_get Z 3 (by decide) rfl rfl 0 (by decide) rfl inX1_add_X1 lkX1_add_9 dX1_add_32 ?_
  refine j_eq (y := μ 3 0) (by rw [gU_n (k := 17) (j := 3) (by omega), gU_n (k := 16) (j := 3) (by omega), gU_n (k := 15) (j := 3) (by omega)]) ?_
  refine j_eq hl ?_
  refine j_iconst Z (v := 1) dX1_add_35 (by decide) ?_
  refine j_iadd Z dX1_add_36 ?_
  refine j_eq (nI_1 lc) ?_
  refine j_put Z 3 (by decide) (fun _ => rfl) rfl tyX1 tyX1_ok nmX1 0 (by decide) rfl (Nat.le_of_ble_eq_true rfl) rfl (by decide +kernel) inX1_add_X1 lkX1_add_9 dX1_add_37 ?_
  exact hR _ _ _ _ _ (rfl) (by decide) (by decide) dX1_add_40
theorem lkX4_add_9 : Cond.fieldLink RX4 9 (TX4 0).1 (TX4 0).2.1 (TX4 0).2.2.1 ∈ wsX4_add := by decide +kernel
theorem inX4_add_X4 : ∀ w ∈ u_ws RX4 TX4 5, w ∈ wsX4_add := by decide +kernel
theorem lkX4_add_15 : Cond.fieldLink RX4 15 (TX4 1).1 (TX4 1).2.1 (TX4 1).2.2.1 ∈ wsX4_add := by decide +kernel
theorem lkX4_add_19 : Cond.fieldLink RX4 19 (TX4 2).1 (TX4 2).2.1 (TX4 2).2.2.1 ∈ wsX4_add := by decide +kernel
theorem lkX4_add_22 : Cond.fieldLink RX4 22 (TX4 3).1 (TX4 3).2.1 (TX4 3).2.2.1 ∈ wsX4_add := by decide +kernel
theorem lkX4_add_25 : Cond.fieldLink RX4 25 (TX4 4).1 (TX4 4).2.1 (TX4 4).2.2.1 ∈ wsX4_add := by decide +kernel
set_option maxRecDepth 100000 in
set_option maxHeartbeats 4000000 in
theorem c_X4_add (l : Launch) (g : gC) (μ : gM) (wc : Nat) (hwc : wc < 20) (hw : μ 4 0 = nI wc) (x y z w : Int32) : Met l yX4_add wsX4_add { frames := 0, cells := 0, slots := 0, locals := 0 } (va_Pc [.ref (g.2.1 4), .int x, .int y, .int z, .int w] (gB g μ)) (va_Qi (fun (r : Int32) (μ' : gM) => r = nI wc ∧ μ' = gU (gU (gU (gU (gU μ 19 wc x) 20 wc y) 21 wc z) 22 wc w) 4 0 (nI (wc + 1))) (gPB g) (gA g)) 0 0 (gA g) := by
  refine g_ofI (cc := cX4_add) (nL := 6) (ret := (some .int)) (ty := .int) (by decide +kernel) rfl rfl (fun _ _ _ => rfl) (Nat.le_of_ble_eq_true rfl) ?_
  intro p e s m args below meth c Q Z hR
  refine j_aload_n Z dX4_add_0 0 rfl ?_
  refine j_get Z 4 (by decide) rfl rfl 0 (by decide) rfl inX4_add_X4 lkX4_add_9 dX4_add_1 ?_
  refine j_eq hw ?_
  refine j_istore Z dX4_add_4 (by decide) [(5, .int (nI wc)), (0, .ref (g.2.1 4)), (1, .int x), (2, .int y), (3, .int z), (4, .int w)] rfl ?_
  refine j_aload_n Z dX4_add_6 1 rfl ?_
  refine j_get Z 4 (by decide) rfl rfl 1 (by decide) rfl inX4_add_X4 lkX4_add_15 dX4_add_7 ?_
  refine j_iload Z dX4_add_10 0 rfl ?_
  refine j_iload_n Z dX4_add_12 2 rfl ?_
  refine j_ist Z 19 (by decide) (fun _ => rfl) wc rfl (by omega) (by decide)  dX4_add_13 ?_
  refine j_aload_n Z dX4_add_14 1 rfl ?_
  refine j_get Z 4 (by decide) rfl rfl 2 (by decide) rfl inX4_add_X4 lkX4_add_19 dX4_add_15 ?_
  refine j_iload Z dX4_add_18 0 rfl ?_
  refine j_iload_n Z dX4_add_20 3 rfl ?_
  refine j_ist Z 20 (by decide) (fun _ => rfl) wc rfl (by omega) (by decide)  dX4_add_21 ?_
  refine j_aload_n Z dX4_add_22 1 rfl ?_
  refine j_get Z 4 (by decide) rfl rfl 3 (by decide) rfl inX4_add_X4 lkX4_add_22 dX4_add_23 ?_
  refine j_iload Z dX4_add_26 0 rfl ?_
  refine j_iload_n Z dX4_add_28 4 rfl ?_
  refine j_ist Z 21 (by decide) (fun _ => rfl) wc rfl (by omega) (by decide)  dX4_add_29 ?_
  refine j_aload_n Z dX4_add_30 1 rfl ?_
  refine j_get Z 4 (by decide) rfl rfl 4 (by decide) rfl inX4_add_X4 lkX4_add_25 dX4_add_31 ?_
  refine j_iload Z dX4_add_34 0 rfl ?_
  refine j_iload Z dX4_add_36 5 rfl ?_
  refine j_ist Z 22 (by decide) (fun _ => rfl) wc rfl (by omega) (by decide)  dX4_add_38 ?_
  refine j_aload_n Z dX4_add_39 1 rfl ?_
  refine j_dup Z dX4_add_40 rfl ?_
  refine j_get Z 4 (by decide) rfl rfl 0 (by decide) rfl inX4_add_X4 lkX4_add_9 dX4_add_41 ?_
  refine j_eq (y := μ 4 0) (by rw [gU_n (k := 22) (j := 4) (by omega), gU_n (k := 21) (j := 4) (by omega), gU_n (k := 20) (j := 4) (by omega), gU_n (k := 19) (j := 4) (by omega)]) ?_
  refine j_eq hw ?_
  refine j_iconst Z (v := 1) dX4_add_44 (by decide) ?_
  refine j_iadd Z dX4_add_45 ?_
  refine j_eq (nI_1 wc) ?_
  refine j_put Z 4 (by decide) (fun _ => rfl) rfl tyX4 tyX4_ok nmX4 0 (by decide) rfl (Nat.le_of_ble_eq_true rfl) rfl (by decide +kernel) inX4_add_X4 lkX4_add_9 dX4_add_46 ?_
  refine j_iload Z dX4_add_49 0 rfl ?_
  exact hR _ _ _ _ _ _ (⟨rfl, rfl⟩) (by decide) (by decide) dX4_add_51
theorem lkX4_isMissedBy_15 : Cond.fieldLink RX4 15 (TX4 1).1 (TX4 1).2.1 (TX4 1).2.2.1 ∈ wsX4_isMissedBy := by decide +kernel
theorem inX4_isMissedBy_X4 : ∀ w ∈ u_ws RX4 TX4 5, w ∈ wsX4_isMissedBy := by decide +kernel
theorem lkX4_isMissedBy_19 : Cond.fieldLink RX4 19 (TX4 2).1 (TX4 2).2.1 (TX4 2).2.2.1 ∈ wsX4_isMissedBy := by decide +kernel
theorem lkX4_isMissedBy_22 : Cond.fieldLink RX4 22 (TX4 3).1 (TX4 3).2.1 (TX4 3).2.2.1 ∈ wsX4_isMissedBy := by decide +kernel
theorem lkX4_isMissedBy_25 : Cond.fieldLink RX4 25 (TX4 4).1 (TX4 4).2.1 (TX4 4).2.2.1 ∈ wsX4_isMissedBy := by decide +kernel
set_option maxRecDepth 100000 in
set_option maxHeartbeats 4000000 in
theorem c_X4_isMissedBy (l : Launch) (g : gC) (μ : gM) (cnt : Nat) (hcnt : cnt ≤ 60) (hc : μ 2 0 = nI cnt) (x : Int32) (i : Nat) (hi : i < 20) (hs : ∀ k, vp_in (μ 9 k) 4) (hm : ∀ k, vp_in (μ 19 k) 3) (hat : ∀ k, vp_in (μ 21 k) 2) : Met l yX4_isMissedBy wsX4_isMissedBy { frames := 2, cells := 0, slots := 0, locals := 48 } (va_Pc [.ref (g.2.1 4), .int x, .int (nI i), .ref (g.2.1 5)] (gB g μ)) (va_Qi (fun (r : Int32) (μ' : gM) => r = zB (hMark (μ 23) (μ (26 + ix (μ 19 i))) x (μ 20 i) cnt && !decide (fVal μ 23 (ix (μ 21 i)) cnt x = μ 22 i)) ∧ μ' = μ) (gPB g) (gA g)) 0 0 (gA g) := by
  refine g_ofI (cc := cX4_isMissedBy) (nL := 4) (ret := (some .boolean)) (ty := .boolean) (by decide +kernel) rfl rfl (by rintro _ _ ⟨rfl, -⟩; exact zB_n) (Nat.le_of_ble_eq_true rfl) ?_
  intro p e s m args below meth c Q Z hR
  refine j_aload_n Z dX4_isMissedBy_0 3 rfl ?_
  refine j_iload_n Z dX4_isMissedBy_1 1 rfl ?_
  refine j_aload_n Z dX4_isMissedBy_2 0 rfl ?_
  refine j_get Z 4 (by decide) rfl rfl 1 (by decide) rfl inX4_isMissedBy_X4 lkX4_isMissedBy_15 dX4_isMissedBy_3 ?_
  refine j_iload_n Z dX4_isMissedBy_6 2 rfl ?_
  refine j_ild Z 19 (by decide) (fun _ => rfl) i rfl (by omega) (by decide) dX4_isMissedBy_7 ?_
  refine j_eq (vp_ix (hm i) (by decide)).1 ?_
  refine j_aload_n Z dX4_isMissedBy_8 0 rfl ?_
  refine j_get Z 4 (by decide) rfl rfl 2 (by decide) rfl inX4_isMissedBy_X4 lkX4_isMissedBy_19 dX4_isMissedBy_9 ?_
  refine j_iload_n Z dX4_isMissedBy_12 2 rfl ?_
  refine j_ild Z 20 (by decide) (fun _ => rfl) i rfl (by omega) (by decide) dX4_isMissedBy_13 ?_
  refine j_callVi Z (As := [.int x, .int (nI (ix (μ 19 i))), .int (μ 20 i)]) (rest := []) (nA := 3) 5 (by decide) rfl rfl (c_X3_hasMark l g μ 0 (by decide) cnt hcnt hc x (μ 20 i) (ix (μ 19 i)) (vp_ix (hm i) (by decide)).2) gX4_isMissedBy_X3_hasMark rfl rfl rfl (by decide +kernel) (by decide) rfl dX4_isMissedBy_14 rfl (Nat.le_of_ble_eq_true rfl) (by decide) (fun r9 μ9 hp => ?_)
  have hq : r9 = zB (hMark (μ 23) (μ (26 + ix (μ 19 i))) x (μ 20 i) cnt) ∧ μ9 = μ := hp
  refine j_mem hq.2 ?_
  refine j_eq hq.1 ?_
  clear hq hp
  refine j_if_eq Z 44 dX4_isMissedBy_17 (by decide) (fun h17 => ?_) (fun h17 => ?_)
  · skip
    refine j_iconst Z (v := 0) dX4_isMissedBy_44 (by decide) ?_
    exact hR _ _ _ _ _ _ (⟨by simp_all [zB_0, zB], rfl⟩) (by decide) (by decide) dX4_isMissedBy_45
  · skip
    refine j_aload_n Z dX4_isMissedBy_20 3 rfl ?_
    refine j_iload_n Z dX4_isMissedBy_21 1 rfl ?_
    refine j_aload_n Z dX4_isMissedBy_22 0 rfl ?_
    refine j_get Z 4 (by decide) rfl rfl 3 (by decide) rfl inX4_isMissedBy_X4 lkX4_isMissedBy_22 dX4_isMissedBy_23 ?_
    refine j_iload_n Z dX4_isMissedBy_26 2 rfl ?_
    refine j_ild Z 21 (by decide) (fun _ => rfl) i rfl (by omega) (by decide) dX4_isMissedBy_27 ?_
    refine j_eq (vp_ix (hat i) (by decide)).1 ?_
    refine j_callVi Z (As := [.int x, .int (nI (ix (μ 21 i)))]) (rest := []) (nA := 2) 5 (by decide) rfl rfl (c_X3_attributeOf l g μ 0 (by decide) cnt hcnt hc x (ix (μ 21 i)) (vp_ix (hat i) (by decide)).2 hs) gX4_isMissedBy_X3_attributeOf rfl rfl rfl (by decide +kernel) (by decide) rfl dX4_isMissedBy_28 rfl (Nat.le_of_ble_eq_true rfl) (by decide) (fun r9 μ9 hp => ?_)
    have hq : r9 = fVal μ 23 (ix (μ 21 i)) cnt x ∧ μ9 = μ := hp
    refine j_mem hq.2 ?_
    refine j_eq hq.1 ?_
    clear hq hp
    refine j_aload_n Z dX4_isMissedBy_31 0 rfl ?_
    refine j_get Z 4 (by decide) rfl rfl 4 (by decide) rfl inX4_isMissedBy_X4 lkX4_isMissedBy_25 dX4_isMissedBy_32 ?_
    refine j_iload_n Z dX4_isMissedBy_35 2 rfl ?_
    refine j_ild Z 22 (by decide) (fun _ => rfl) i rfl (by omega) (by decide) dX4_isMissedBy_36 ?_
    refine j_icmp_eq Z 44 dX4_isMissedBy_37 (by decide) (fun h37 => ?_) (fun h37 => ?_)
    · skip
      refine j_iconst Z (v := 0) dX4_isMissedBy_44 (by decide) ?_
      exact hR _ _ _ _ _ _ (⟨by simp_all [zB_0, zB], rfl⟩) (by decide) (by decide) dX4_isMissedBy_45
    · skip
      refine j_iconst Z (v := 1) dX4_isMissedBy_40 (by decide) ?_
      refine j_goto Z 45 dX4_isMissedBy_41 (by decide) ?_
      exact hR _ _ _ _ _ _ (⟨by simp_all [zB_0, zB], rfl⟩) (by decide) (by decide) dX4_isMissedBy_45
theorem lkX2_moveToFront_15 : Cond.fieldLink RX2 15 (TX2 1).1 (TX2 1).2.1 (TX2 1).2.2.1 ∈ wsX2_moveToFront := by decide +kernel
theorem inX2_moveToFront_X2 : ∀ w ∈ u_ws RX2 TX2 2, w ∈ wsX2_moveToFront := by decide +kernel
set_option maxRecDepth 100000 in
set_option maxHeartbeats 4000000 in
theorem c_X2_moveToFront (l : Launch) (g : gC) (μ : gM) (q : Nat) (hq : q < 4) : Met l yX2_moveToFront wsX2_moveToFront { frames := 0, cells := 0, slots := 0, locals := 0 } (va_Pc [.ref (g.2.1 1), .int (nI q)] (gB g μ)) (va_Qi (fun (r : Int32) (μ' : gM) => r = μ 8 q ∧ μ' = gR μ 8 (upd (pMv 4 (μ 8 q) (μ 8)) q 0)) (gPB g) (gA g)) 0 0 (gA g) := by
  refine g_ofI (cc := cX2_moveToFront) (nL := 4) (ret := (some .int)) (ty := .int) (by decide +kernel) rfl rfl (fun _ _ _ => rfl) (Nat.le_of_ble_eq_true rfl) ?_
  intro p e s m args below meth c Q Z hR
  refine j_aload_n Z dX2_moveToFront_0 0 rfl ?_
  refine j_get Z 1 (by decide) rfl rfl 1 (by decide) rfl inX2_moveToFront_X2 lkX2_moveToFront_15 dX2_moveToFront_1 ?_
  refine j_iload_n Z dX2_moveToFront_4 1 rfl ?_
  refine j_ild Z 8 (by decide) (fun _ => rfl) q rfl (by omega) (by decide) dX2_moveToFront_5 ?_
  refine j_istore_n Z dX2_moveToFront_6 (by decide) [(2, .int (μ 8 q)), (0, .ref (g.2.1 1)), (1, .int (nI q))] rfl ?_
  refine j_iconst Z (v := 0) dX2_moveToFront_7 (by decide) ?_
  refine j_istore_n Z dX2_moveToFront_8 (by decide) [(3, .int 0), (2, .int (μ 8 q)), (0, .ref (g.2.1 1)), (1, .int (nI q))] rfl ?_
  have lp9 : ∀ (n0 i : Nat) (r : Nat → Int32), r = pMv i (μ 8 q) (μ 8) → 4 + 2 ≤ i + n0 → i ≤ 4 → J p l e { frames := 0, cells := 0, slots := 0, locals := 0 } s m args below meth c Q g 4 (gR μ 8 r) (0) (0) 9 [(0, .ref (g.2.1 1)), (1, .int (nI q)), (2, .int (μ 8 q)), (3, .int (nI i))] [] := by
    intro n0
    induction n0 with
    | zero => intro i r er hn hg; exact absurd hn (by omega)
    | succ n0 ih =>
      intro i r er hn hg
      refine j_iload_n Z dX2_moveToFront_9 3 rfl ?_
      refine j_iconst Z (v := 4) dX2_moveToFront_10 (by decide) ?_
      refine j_icmp_ge Z 40 dX2_moveToFront_11 (by decide) (fun h11 => ?_) (fun h11 => ?_)
      · skip
        have hic : i = 4 := by
          have hq := (nI_leI (a := 4) (b := i) (by omega) (by omega)).mp h11
          omega
        rw [hic] at er
        refine j_aload_n Z dX2_moveToFront_40 0 rfl ?_
        refine j_get Z 1 (by decide) rfl rfl 1 (by decide) rfl inX2_moveToFront_X2 lkX2_moveToFront_15 dX2_moveToFront_41 ?_
        refine j_iload_n Z dX2_moveToFront_44 1 rfl ?_
        refine j_iconst Z (v := 0) dX2_moveToFront_45 (by decide) ?_
        refine j_ist Z 8 (by decide) (fun _ => rfl) q rfl (by omega) (by decide)  dX2_moveToFront_46 ?_
        refine j_mem (μ' := (gR μ 8 (upd r q 0))) gU_R ?_
        refine j_iload_n Z dX2_moveToFront_47 2 rfl ?_
        exact hR _ _ _ _ _ _ (⟨rfl, by rw [er]⟩) (by decide) (by decide) dX2_moveToFront_48
      · skip
        have hlt : i < 4 := by
          rcases Nat.lt_or_ge i 4 with q9 | q9
          · exact q9
          · exact absurd (nI_le q9 (by omega)) h11
        refine j_aload_n Z dX2_moveToFront_14 0 rfl ?_
        refine j_get Z 1 (by decide) rfl rfl 1 (by decide) rfl inX2_moveToFront_X2 lkX2_moveToFront_15 dX2_moveToFront_15 ?_
        refine j_iload_n Z dX2_moveToFront_18 3 rfl ?_
        refine j_ild Z 8 (by decide) (fun _ => rfl) i rfl (by omega) (by decide) dX2_moveToFront_19 ?_
        refine j_eq (y := r i) (by rw [gR_s]) ?_
        refine j_iload_n Z dX2_moveToFront_20 2 rfl ?_
        refine j_icmp_ge Z 34 dX2_moveToFront_21 (by decide) (fun h21 => ?_) (fun h21 => ?_)
        · skip
          refine j_iinc Z dX2_moveToFront_34 3 rfl (nI_1 i) (by decide) [(3, .int (nI (i + 1))), (0, .ref (g.2.1 1)), (1, .int (nI q)), (2, .int (μ 8 q))] rfl ?_
          refine j_goto Z 9 dX2_moveToFront_37 (by decide) ?_
          refine j_sub [1, 2, 3, 0] rfl ?_
          exact ih (i + 1) (r) (by rw [er] at h21 ⊢; exact pMv_ge h21)  (by omega) (by omega)
        · skip
          refine j_aload_n Z dX2_moveToFront_24 0 rfl ?_
          refine j_get Z 1 (by decide) rfl rfl 1 (by decide) rfl inX2_moveToFront_X2 lkX2_moveToFront_15 dX2_moveToFront_25 ?_
          refine j_iload_n Z dX2_moveToFront_28 3 rfl ?_
          refine j_dup2 Z dX2_moveToFront_29 rfl rfl ?_
          refine j_ild Z 8 (by decide) (fun _ => rfl) i rfl (by omega) (by decide) dX2_moveToFront_30 ?_
          refine j_eq (y := r i) (by rw [gR_s]) ?_
          refine j_iconst Z (v := 1) dX2_moveToFront_31 (by decide) ?_
          refine j_iadd Z dX2_moveToFront_32 ?_
          refine j_ist Z 8 (by decide) (fun _ => rfl) i rfl (by omega) (by decide)  dX2_moveToFront_33 ?_
          refine j_mem (μ' := (gR μ 8 (upd r i ((r i) + 1)))) gU_R ?_
          refine j_iinc Z dX2_moveToFront_34 3 rfl (nI_1 i) (by decide) [(3, .int (nI (i + 1))), (0, .ref (g.2.1 1)), (1, .int (nI q)), (2, .int (μ 8 q))] rfl ?_
          refine j_goto Z 9 dX2_moveToFront_37 (by decide) ?_
          refine j_sub [1, 2, 3, 0] rfl ?_
          exact ih (i + 1) (upd r i ((r i) + 1)) (by rw [er] at h21 ⊢; exact pMv_lt (Int32.not_le.mp h21))  (by omega) (by omega)
  refine j_sub [2, 3, 1, 0] rfl ?_
  refine j_mem (gR_id (k := 8) (r := μ 8) rfl) ?_
  exact lp9 (4 + 2) 0 (μ 8) (pMv_0)  (by omega) (by omega)
