theorem mkX2_o1 : Cond.methodLink RX2 3 objectInit ∈ wsX2_init := by decide +kernel
theorem mkX2_o2 : Cond.instanceMethod objectInit ∈ wsX2_init := by decide +kernel
theorem mkX2_o3 : Cond.code objectInit ⟨#[0xb1]⟩ 1 none ∈ wsX2_init := by decide +kernel
theorem mkX2_a0 : Cond.arrayClass .int ∈ wsX2_init := by decide +kernel
theorem mkX2_f9 : Cond.fieldLink RX2 9 (TX2 0).1 (TX2 0).2.1 (TX2 0).2.2.1 ∈ wsX2_init := by decide +kernel
theorem mkiX2_X2 : ∀ w ∈ u_ws RX2 TX2 2, w ∈ wsX2_init := by decide +kernel
theorem mkX2_f15 : Cond.fieldLink RX2 15 (TX2 1).1 (TX2 1).2.1 (TX2 1).2.2.1 ∈ wsX2_init := by decide +kernel
def WX2 (ac : Nat → ClassId) (h0 : Nat)  (u : Nat → Nat) : va_W := [(h0, .inr (2, [.ref (u 7), .ref (u 8)])), (u 7, .inl (ac 0, 4, .inl (upd (upd (upd (upd (fun _ => 0) 0 30) 1 30) 2 30) 3 30))), (u 8, .inl (ac 0, 4, .inl (upd (upd (upd (upd (fun _ => 0) 0 0) 1 1) 2 2) 3 3)))]
set_option maxRecDepth 100000 in
set_option maxHeartbeats 4000000 in
theorem c_X2_init (l : Launch) (g0 : va_G) (ac : Nat → ClassId) (h0 sz : Nat)  : Met l yX2_init wsX2_init { frames := 1, cells := 2, slots := 8, locals := 12 } (kPre g0 ac h0 (.inr (2, [.null, .null])) [] sz) (kPost g0 h0 (.inr (2, [.null, .null])) sz (WX2 ac h0 )) 2 8 (va_A [(h0, (.inr (2, [.null, .null])))] sz) := by
  refine k_of (cc := cX2_init) (nL := 2) (by decide +kernel) rfl rfl (Nat.le_of_ble_eq_true rfl) ?_
  intro p e s m args below meth c Q Z hm hR
  refine jc_aload_n Z dX2_init_0 0 rfl ?_
  refine jc_oinit Z mkX2_o1 mkX2_o2 mkX2_o3 (by decide) dX2_init_1 ?_
  refine jc_aload_n Z dX2_init_4 0 rfl ?_
  refine jc_iconst Z (v := 4) dX2_init_5 (by decide) ?_
  refine jc_newa Z mkX2_a0 rfl 0 rfl (4, .inl (fun _ => 0)) (fun _ => rfl) (by decide) (by decide) (by decide) (by decide) dX2_init_6 (fun q7 => ?_)
  refine jc_w (W1 := [(h0, .inr (2, [.null, .null])), (q7, .inl (ac 0, 4, .inl (fun _ => 0)))]) rfl ?_
  refine jc_putF Z hm 0 rfl rfl tyX2 tyX2_ok nmX2 0 (by decide) rfl rfl rfl rfl (Nat.le_of_ble_eq_true rfl) mkiX2_X2 mkX2_f9 dX2_init_8 ?_
  refine jc_w (W1 := [(h0, .inr (2, [.ref q7, .null])), (q7, .inl (ac 0, 4, .inl (fun _ => 0)))]) rfl ?_
  refine jc_aload_n Z dX2_init_11 0 rfl ?_
  refine jc_iconst Z (v := 4) dX2_init_12 (by decide) ?_
  refine jc_newa Z mkX2_a0 rfl 0 rfl (4, .inl (fun _ => 0)) (fun _ => rfl) (by decide) (by decide) (by decide) (by decide) dX2_init_13 (fun q8 => ?_)
  refine jc_w (W1 := [(h0, .inr (2, [.ref q7, .null])), (q7, .inl (ac 0, 4, .inl (fun _ => 0))), (q8, .inl (ac 0, 4, .inl (fun _ => 0)))]) rfl ?_
  refine jc_putF Z hm 0 rfl rfl tyX2 tyX2_ok nmX2 1 (by decide) rfl rfl rfl rfl (Nat.le_of_ble_eq_true rfl) mkiX2_X2 mkX2_f15 dX2_init_15 ?_
  refine jc_w (W1 := [(h0, .inr (2, [.ref q7, .ref q8])), (q7, .inl (ac 0, 4, .inl (fun _ => 0))), (q8, .inl (ac 0, 4, .inl (fun _ => 0)))]) rfl ?_
  refine jc_iconst Z (v := 0) dX2_init_18 (by decide) ?_
  refine jc_istore_n Z dX2_init_19 (by decide) [(1, .int 0), (0, .ref h0)] rfl ?_
  refine jc_iload_n Z dX2_init_20 0 rfl ?_
  refine jc_iconst Z (v := 4) dX2_init_21 (by decide) ?_
  refine jc_geF Z 46 dX2_init_22 (by decide) (by decide) ?_
  refine jc_aload_n Z dX2_init_25 1 rfl ?_
  refine jc_get Z 0 rfl rfl 0 (by decide) rfl mkiX2_X2 mkX2_f9 dX2_init_26 ?_
  refine jc_iload_n Z dX2_init_29 0 rfl ?_
  refine jc_bipush Z (v := 30) dX2_init_30 (by decide) ?_
  refine jc_ist Z 1 rfl 0 (by decide) (by decide) (by decide) dX2_init_32 ?_
  refine jc_w (W1 := [(h0, .inr (2, [.ref q7, .ref q8])), (q7, .inl (ac 0, 4, .inl (upd (fun _ => 0) 0 30))), (q8, .inl (ac 0, 4, .inl (fun _ => 0)))]) rfl ?_
  refine jc_aload_n Z dX2_init_33 1 rfl ?_
  refine jc_get Z 0 rfl rfl 1 (by decide) rfl mkiX2_X2 mkX2_f15 dX2_init_34 ?_
  refine jc_iload_n Z dX2_init_37 0 rfl ?_
  refine jc_iload_n Z dX2_init_38 0 rfl ?_
  refine jc_ist Z 2 rfl 0 (by decide) (by decide) (by decide) dX2_init_39 ?_
  refine jc_w (W1 := [(h0, .inr (2, [.ref q7, .ref q8])), (q7, .inl (ac 0, 4, .inl (upd (fun _ => 0) 0 30))), (q8, .inl (ac 0, 4, .inl (upd (fun _ => 0) 0 0)))]) rfl ?_
  refine jc_iinc Z dX2_init_40 0 rfl (by decide) (by decide) [(1, .int 1), (0, .ref h0)] rfl ?_
  refine jc_goto Z 20 dX2_init_43 (by decide) ?_
  refine jc_iload_n Z dX2_init_20 0 rfl ?_
  refine jc_iconst Z (v := 4) dX2_init_21 (by decide) ?_
  refine jc_geF Z 46 dX2_init_22 (by decide) (by decide) ?_
  refine jc_aload_n Z dX2_init_25 1 rfl ?_
  refine jc_get Z 0 rfl rfl 0 (by decide) rfl mkiX2_X2 mkX2_f9 dX2_init_26 ?_
  refine jc_iload_n Z dX2_init_29 0 rfl ?_
  refine jc_bipush Z (v := 30) dX2_init_30 (by decide) ?_
  refine jc_ist Z 1 rfl 1 (by decide) (by decide) (by decide) dX2_init_32 ?_
  refine jc_w (W1 := [(h0, .inr (2, [.ref q7, .ref q8])), (q7, .inl (ac 0, 4, .inl (upd (upd (fun _ => 0) 0 30) 1 30))), (q8, .inl (ac 0, 4, .inl (upd (fun _ => 0) 0 0)))]) rfl ?_
  refine jc_aload_n Z dX2_init_33 1 rfl ?_
  refine jc_get Z 0 rfl rfl 1 (by decide) rfl mkiX2_X2 mkX2_f15 dX2_init_34 ?_
  refine jc_iload_n Z dX2_init_37 0 rfl ?_
  refine jc_iload_n Z dX2_init_38 0 rfl ?_
  refine jc_ist Z 2 rfl 1 (by decide) (by decide) (by decide) dX2_init_39 ?_
  refine jc_w (W1 := [(h0, .inr (2, [.ref q7, .ref q8])), (q7, .inl (ac 0, 4, .inl (upd (upd (fun _ => 0) 0 30) 1 30))), (q8, .inl (ac 0, 4, .inl (upd (upd (fun _ => 0) 0 0) 1 1)))]) rfl ?_
  refine jc_iinc Z dX2_init_40 0 rfl (by decide) (by decide) [(1, .int 2), (0, .ref h0)] rfl ?_
  refine jc_goto Z 20 dX2_init_43 (by decide) ?_
  refine jc_iload_n Z dX2_init_20 0 rfl ?_
  refine jc_iconst Z (v := 4) dX2_init_21 (by decide) ?_
  refine jc_geF Z 46 dX2_init_22 (by decide) (by decide) ?_
  refine jc_aload_n Z dX2_init_25 1 rfl ?_
  refine jc_get Z 0 rfl rfl 0 (by decide) rfl mkiX2_X2 mkX2_f9 dX2_init_26 ?_
  refine jc_iload_n Z dX2_init_29 0 rfl ?_
  refine jc_bipush Z (v := 30) dX2_init_30 (by decide) ?_
  refine jc_ist Z 1 rfl 2 (by decide) (by decide) (by decide) dX2_init_32 ?_
  refine jc_w (W1 := [(h0, .inr (2, [.ref q7, .ref q8])), (q7, .inl (ac 0, 4, .inl (upd (upd (upd (fun _ => 0) 0 30) 1 30) 2 30))), (q8, .inl (ac 0, 4, .inl (upd (upd (fun _ => 0) 0 0) 1 1)))]) rfl ?_
  refine jc_aload_n Z dX2_init_33 1 rfl ?_
  refine jc_get Z 0 rfl rfl 1 (by decide) rfl mkiX2_X2 mkX2_f15 dX2_init_34 ?_
  refine jc_iload_n Z dX2_init_37 0 rfl ?_
  refine jc_iload_n Z dX2_init_38 0 rfl ?_
  refine jc_ist Z 2 rfl 2 (by decide) (by decide) (by decide) dX2_init_39 ?_
  refine jc_w (W1 := [(h0, .inr (2, [.ref q7, .ref q8])), (q7, .inl (ac 0, 4, .inl (upd (upd (upd (fun _ => 0) 0 30) 1 30) 2 30))), (q8, .inl (ac 0, 4, .inl (upd (upd (upd (fun _ => 0) 0 0) 1 1) 2 2)))]) rfl ?_
  refine jc_iinc Z dX2_init_40 0 rfl (by decide) (by decide) [(1, .int 3), (0, .ref h0)] rfl ?_
  refine jc_goto Z 20 dX2_init_43 (by decide) ?_
  refine jc_iload_n Z dX2_init_20 0 rfl ?_
  refine jc_iconst Z (v := 4) dX2_init_21 (by decide) ?_
  refine jc_geF Z 46 dX2_init_22 (by decide) (by decide) ?_
  refine jc_aload_n Z dX2_init_25 1 rfl ?_
  refine jc_get Z 0 rfl rfl 0 (by decide) rfl mkiX2_X2 mkX2_f9 dX2_init_26 ?_
  refine jc_iload_n Z dX2_init_29 0 rfl ?_
  refine jc_bipush Z (v := 30) dX2_init_30 (by decide) ?_
  refine jc_ist Z 1 rfl 3 (by decide) (by decide) (by decide) dX2_init_32 ?_
  refine jc_w (W1 := [(h0, .inr (2, [.ref q7, .ref q8])), (q7, .inl (ac 0, 4, .inl (upd (upd (upd (upd (fun _ => 0) 0 30) 1 30) 2 30) 3 30))), (q8, .inl (ac 0, 4, .inl (upd (upd (upd (fun _ => 0) 0 0) 1 1) 2 2)))]) rfl ?_
  refine jc_aload_n Z dX2_init_33 1 rfl ?_
  refine jc_get Z 0 rfl rfl 1 (by decide) rfl mkiX2_X2 mkX2_f15 dX2_init_34 ?_
  refine jc_iload_n Z dX2_init_37 0 rfl ?_
  refine jc_iload_n Z dX2_init_38 0 rfl ?_
  refine jc_ist Z 2 rfl 3 (by decide) (by decide) (by decide) dX2_init_39 ?_
  refine jc_w (W1 := [(h0, .inr (2, [.ref q7, .ref q8])), (q7, .inl (ac 0, 4, .inl (upd (upd (upd (upd (fun _ => 0) 0 30) 1 30) 2 30) 3 30))), (q8, .inl (ac 0, 4, .inl (upd (upd (upd (upd (fun _ => 0) 0 0) 1 1) 2 2) 3 3)))]) rfl ?_
  refine jc_iinc Z dX2_init_40 0 rfl (by decide) (by decide) [(1, .int 4), (0, .ref h0)] rfl ?_
  refine jc_goto Z 20 dX2_init_43 (by decide) ?_
  refine jc_iload_n Z dX2_init_20 0 rfl ?_
  refine jc_iconst Z (v := 4) dX2_init_21 (by decide) ?_
  refine jc_geT Z 46 dX2_init_22 (by decide) (by decide) ?_
  exact hR _ (fun k => if k = 7 then q7 else q8) _ _ _ _ rfl (by decide) (by decide) dX2_init_46
theorem mkX0_o1 : Cond.methodLink RX0 3 objectInit ∈ wsX0_init := by decide +kernel
theorem mkX0_o2 : Cond.instanceMethod objectInit ∈ wsX0_init := by decide +kernel
theorem mkX0_o3 : Cond.code objectInit ⟨#[0xb1]⟩ 1 none ∈ wsX0_init := by decide +kernel
theorem mkX0_f9 : Cond.fieldLink RX0 9 (TX0 0).1 (TX0 0).2.1 (TX0 0).2.2.1 ∈ wsX0_init := by decide +kernel
theorem mkiX0_X0 : ∀ w ∈ u_ws RX0 TX0 7, w ∈ wsX0_init := by decide +kernel
theorem mkX0_a0 : Cond.arrayClass .int ∈ wsX0_init := by decide +kernel
theorem mkX0_f15 : Cond.fieldLink RX0 15 (TX0 1).1 (TX0 1).2.1 (TX0 1).2.2.1 ∈ wsX0_init := by decide +kernel
theorem mkX0_f19 : Cond.fieldLink RX0 19 (TX0 2).1 (TX0 2).2.1 (TX0 2).2.2.1 ∈ wsX0_init := by decide +kernel
theorem mkX0_a1 : Cond.arrayClass .boolean ∈ wsX0_init := by decide +kernel
theorem mkX0_f22 : Cond.fieldLink RX0 22 (TX0 3).1 (TX0 3).2.1 (TX0 3).2.2.1 ∈ wsX0_init := by decide +kernel
theorem mkX0_m : Cond.classLink RX0 26 "[[I" ∈ wsX0_init := by decide +kernel
theorem mkX0_f28 : Cond.fieldLink RX0 28 (TX0 4).1 (TX0 4).2.1 (TX0 4).2.2.1 ∈ wsX0_init := by decide +kernel
theorem mkX0_f31 : Cond.fieldLink RX0 31 (TX0 5).1 (TX0 5).2.1 (TX0 5).2.2.1 ∈ wsX0_init := by decide +kernel
theorem mkX0_f34 : Cond.fieldLink RX0 34 (TX0 6).1 (TX0 6).2.1 (TX0 6).2.2.1 ∈ wsX0_init := by decide +kernel
def WX0 (ac : Nat → ClassId) (h0 : Nat)  (u : (Nat → Nat) × (Nat → Nat) × (Nat → Nat) × (Nat → Nat)) : va_W := [(h0, .inr (0, [.int 0, .ref (u.1 9), .ref (u.1 10), .ref (u.1 11), .ref (u.1 12), .ref (u.1 13), .ref (u.1 14)])), (u.1 9, .inl (ac 0, 60, .inl (fun _ => 0))), (u.1 10, .inl (ac 0, 60, .inl (fun _ => 0))), (u.1 11, .inl (ac 1, 60, .inl (fun _ => 0))), (u.1 12, .inl (ac 4, 3, .inr (.inr (.inr (.inr (fun i => some (u.2.1 i))))))), (u.2.1 0, .inl (ac 0, 60, .inl (fun _ => 0))), (u.2.1 1, .inl (ac 0, 60, .inl (fun _ => 0))), (u.2.1 2, .inl (ac 0, 60, .inl (fun _ => 0))), (u.1 13, .inl (ac 4, 2, .inr (.inr (.inr (.inr (fun i => some (u.2.2.1 i))))))), (u.2.2.1 0, .inl (ac 0, 60, .inl (fun _ => 0))), (u.2.2.1 1, .inl (ac 0, 60, .inl (fun _ => 0))), (u.1 14, .inl (ac 4, 60, .inr (.inr (.inr (.inr (fun i => some (u.2.2.2 i)))))))] ++ (List.range 60).map (fun i => (u.2.2.2 i, .inl (ac 0, 60, .inl (fun _ => 0))))
set_option maxRecDepth 100000 in
set_option maxHeartbeats 4000000 in
theorem c_X0_init (l : Launch) (g0 : va_G) (ac : Nat → ClassId) (h0 sz : Nat)  : Met l yX0_init wsX0_init { frames := 1, cells := 71, slots := 4145, locals := 12 } (kPre g0 ac h0 (.inr (0, [.int 0, .null, .null, .null, .null, .null, .null])) [] sz) (kPost g0 h0 (.inr (0, [.int 0, .null, .null, .null, .null, .null, .null])) sz (WX0 ac h0 )) 71 4145 (va_A [(h0, (.inr (0, [.int 0, .null, .null, .null, .null, .null, .null])))] sz) := by
  refine k_of (cc := cX0_init) (nL := 1) (by decide +kernel) rfl rfl (Nat.le_of_ble_eq_true rfl) ?_
  intro p e s m args below meth c Q Z hm hR
  refine jc_aload_n Z dX0_init_0 0 rfl ?_
  refine jc_oinit Z mkX0_o1 mkX0_o2 mkX0_o3 (by decide) dX0_init_1 ?_
  refine jc_aload_n Z dX0_init_4 0 rfl ?_
  refine jc_iconst Z (v := 0) dX0_init_5 (by decide) ?_
  refine jc_put Z 0 rfl rfl tyX0 tyX0_ok nmX0 0 (by decide) rfl rfl rfl (Nat.le_of_ble_eq_true rfl) mkiX0_X0 mkX0_f9 dX0_init_6 ?_
  refine jc_w (W1 := [(h0, .inr (0, [.int 0, .null, .null, .null, .null, .null, .null]))]) rfl ?_
  refine jc_aload_n Z dX0_init_9 0 rfl ?_
  refine jc_bipush Z (v := 60) dX0_init_10 (by decide) ?_
  refine jc_newa Z mkX0_a0 rfl 0 rfl (60, .inl (fun _ => 0)) (fun _ => rfl) (by decide) (by decide) (by decide) (by decide) dX0_init_12 (fun q9 => ?_)
  refine jc_w (W1 := [(h0, .inr (0, [.int 0, .null, .null, .null, .null, .null, .null])), (q9, .inl (ac 0, 60, .inl (fun _ => 0)))]) rfl ?_
  refine jc_putF Z hm 0 rfl rfl tyX0 tyX0_ok nmX0 1 (by decide) rfl rfl rfl rfl (Nat.le_of_ble_eq_true rfl) mkiX0_X0 mkX0_f15 dX0_init_14 ?_
  refine jc_w (W1 := [(h0, .inr (0, [.int 0, .ref q9, .null, .null, .null, .null, .null])), (q9, .inl (ac 0, 60, .inl (fun _ => 0)))]) rfl ?_
  refine jc_aload_n Z dX0_init_17 0 rfl ?_
  refine jc_bipush Z (v := 60) dX0_init_18 (by decide) ?_
  refine jc_newa Z mkX0_a0 rfl 0 rfl (60, .inl (fun _ => 0)) (fun _ => rfl) (by decide) (by decide) (by decide) (by decide) dX0_init_20 (fun q10 => ?_)
  refine jc_w (W1 := [(h0, .inr (0, [.int 0, .ref q9, .null, .null, .null, .null, .null])), (q9, .inl (ac 0, 60, .inl (fun _ => 0))), (q10, .inl (ac 0, 60, .inl (fun _ => 0)))]) rfl ?_
  refine jc_putF Z hm 0 rfl rfl tyX0 tyX0_ok nmX0 2 (by decide) rfl rfl rfl rfl (Nat.le_of_ble_eq_true rfl) mkiX0_X0 mkX0_f19 dX0_init_22 ?_
  refine jc_w (W1 := [(h0, .inr (0, [.int 0, .ref q9, .ref q10, .null, .null, .null, .null])), (q9, .inl (ac 0, 60, .inl (fun _ => 0))), (q10, .inl (ac 0, 60, .inl (fun _ => 0)))]) rfl ?_
  refine jc_aload_n Z dX0_init_25 0 rfl ?_
  refine jc_bipush Z (v := 60) dX0_init_26 (by decide) ?_
  refine jc_newa Z mkX0_a1 rfl 1 rfl (60, .inl (fun _ => 0)) (fun _ => rfl) (by decide) (by decide) (by decide) (by decide) dX0_init_28 (fun q11 => ?_)
  refine jc_w (W1 := [(h0, .inr (0, [.int 0, .ref q9, .ref q10, .null, .null, .null, .null])), (q9, .inl (ac 0, 60, .inl (fun _ => 0))), (q10, .inl (ac 0, 60, .inl (fun _ => 0))), (q11, .inl (ac 1, 60, .inl (fun _ => 0)))]) rfl ?_
  refine jc_putF Z hm 0 rfl rfl tyX0 tyX0_ok nmX0 3 (by decide) rfl rfl rfl rfl (Nat.le_of_ble_eq_true rfl) mkiX0_X0 mkX0_f22 dX0_init_30 ?_
  refine jc_w (W1 := [(h0, .inr (0, [.int 0, .ref q9, .ref q10, .ref q11, .null, .null, .null])), (q9, .inl (ac 0, 60, .inl (fun _ => 0))), (q10, .inl (ac 0, 60, .inl (fun _ => 0))), (q11, .inl (ac 1, 60, .inl (fun _ => 0)))]) rfl ?_
  refine jc_aload_n Z dX0_init_33 0 rfl ?_
  refine jc_iconst Z (v := 3) dX0_init_34 (by decide) ?_
  refine jc_bipush Z (v := 60) dX0_init_35 (by decide) ?_
  refine jc_mna Z (N' := 3) (K' := 60) mkX0_m mkX0_a0 (by decide) (by decide) (by decide) (by decide) (by decide) (by decide) (fun c9 => by show _ = arrV c9 60 (fun _ => .int 0); rw [← arrV_new]; rfl) (by decide) dX0_init_37 (fun q12 r12 => ?_)
  refine jc_w (W1 := [(h0, .inr (0, [.int 0, .ref q9, .ref q10, .ref q11, .null, .null, .null])), (q9, .inl (ac 0, 60, .inl (fun _ => 0))), (q10, .inl (ac 0, 60, .inl (fun _ => 0))), (q11, .inl (ac 1, 60, .inl (fun _ => 0))), (q12, .inl (ac 4, 3, .inr (.inr (.inr (.inr (fun i => some (r12 i))))))), (r12 0, .inl (ac 0, 60, .inl (fun _ => 0))), (r12 1, .inl (ac 0, 60, .inl (fun _ => 0))), (r12 2, .inl (ac 0, 60, .inl (fun _ => 0)))]) rfl ?_
  refine jc_putF Z hm 0 rfl rfl tyX0 tyX0_ok nmX0 4 (by decide) rfl rfl rfl rfl (Nat.le_of_ble_eq_true rfl) mkiX0_X0 mkX0_f28 dX0_init_41 ?_
  refine jc_w (W1 := [(h0, .inr (0, [.int 0, .ref q9, .ref q10, .ref q11, .ref q12, .null, .null])), (q9, .inl (ac 0, 60, .inl (fun _ => 0))), (q10, .inl (ac 0, 60, .inl (fun _ => 0))), (q11, .inl (ac 1, 60, .inl (fun _ => 0))), (q12, .inl (ac 4, 3, .inr (.inr (.inr (.inr (fun i => some (r12 i))))))), (r12 0, .inl (ac 0, 60, .inl (fun _ => 0))), (r12 1, .inl (ac 0, 60, .inl (fun _ => 0))), (r12 2, .inl (ac 0, 60, .inl (fun _ => 0)))]) rfl ?_
  refine jc_aload_n Z dX0_init_44 0 rfl ?_
  refine jc_iconst Z (v := 2) dX0_init_45 (by decide) ?_
  refine jc_bipush Z (v := 60) dX0_init_46 (by decide) ?_
  refine jc_mna Z (N' := 2) (K' := 60) mkX0_m mkX0_a0 (by decide) (by decide) (by decide) (by decide) (by decide) (by decide) (fun c9 => by show _ = arrV c9 60 (fun _ => .int 0); rw [← arrV_new]; rfl) (by decide) dX0_init_48 (fun q13 r13 => ?_)
  refine jc_w (W1 := [(h0, .inr (0, [.int 0, .ref q9, .ref q10, .ref q11, .ref q12, .null, .null])), (q9, .inl (ac 0, 60, .inl (fun _ => 0))), (q10, .inl (ac 0, 60, .inl (fun _ => 0))), (q11, .inl (ac 1, 60, .inl (fun _ => 0))), (q12, .inl (ac 4, 3, .inr (.inr (.inr (.inr (fun i => some (r12 i))))))), (r12 0, .inl (ac 0, 60, .inl (fun _ => 0))), (r12 1, .inl (ac 0, 60, .inl (fun _ => 0))), (r12 2, .inl (ac 0, 60, .inl (fun _ => 0))), (q13, .inl (ac 4, 2, .inr (.inr (.inr (.inr (fun i => some (r13 i))))))), (r13 0, .inl (ac 0, 60, .inl (fun _ => 0))), (r13 1, .inl (ac 0, 60, .inl (fun _ => 0)))]) rfl ?_
  refine jc_putF Z hm 0 rfl rfl tyX0 tyX0_ok nmX0 5 (by decide) rfl rfl rfl rfl (Nat.le_of_ble_eq_true rfl) mkiX0_X0 mkX0_f31 dX0_init_52 ?_
  refine jc_w (W1 := [(h0, .inr (0, [.int 0, .ref q9, .ref q10, .ref q11, .ref q12, .ref q13, .null])), (q9, .inl (ac 0, 60, .inl (fun _ => 0))), (q10, .inl (ac 0, 60, .inl (fun _ => 0))), (q11, .inl (ac 1, 60, .inl (fun _ => 0))), (q12, .inl (ac 4, 3, .inr (.inr (.inr (.inr (fun i => some (r12 i))))))), (r12 0, .inl (ac 0, 60, .inl (fun _ => 0))), (r12 1, .inl (ac 0, 60, .inl (fun _ => 0))), (r12 2, .inl (ac 0, 60, .inl (fun _ => 0))), (q13, .inl (ac 4, 2, .inr (.inr (.inr (.inr (fun i => some (r13 i))))))), (r13 0, .inl (ac 0, 60, .inl (fun _ => 0))), (r13 1, .inl (ac 0, 60, .inl (fun _ => 0)))]) rfl ?_
  refine jc_aload_n Z dX0_init_55 0 rfl ?_
  refine jc_bipush Z (v := 60) dX0_init_56 (by decide) ?_
  refine jc_bipush Z (v := 60) dX0_init_58 (by decide) ?_
  refine jc_mna Z (N' := 60) (K' := 60) mkX0_m mkX0_a0 (by decide) (by decide) (by decide) (by decide) (by decide) (by decide) (fun c9 => by show _ = arrV c9 60 (fun _ => .int 0); rw [← arrV_new]; rfl) (by decide) dX0_init_60 (fun q14 r14 => ?_)
  refine jc_w (W1 := [(h0, .inr (0, [.int 0, .ref q9, .ref q10, .ref q11, .ref q12, .ref q13, .null])), (q9, .inl (ac 0, 60, .inl (fun _ => 0))), (q10, .inl (ac 0, 60, .inl (fun _ => 0))), (q11, .inl (ac 1, 60, .inl (fun _ => 0))), (q12, .inl (ac 4, 3, .inr (.inr (.inr (.inr (fun i => some (r12 i))))))), (r12 0, .inl (ac 0, 60, .inl (fun _ => 0))), (r12 1, .inl (ac 0, 60, .inl (fun _ => 0))), (r12 2, .inl (ac 0, 60, .inl (fun _ => 0))), (q13, .inl (ac 4, 2, .inr (.inr (.inr (.inr (fun i => some (r13 i))))))), (r13 0, .inl (ac 0, 60, .inl (fun _ => 0))), (r13 1, .inl (ac 0, 60, .inl (fun _ => 0))), (q14, .inl (ac 4, 60, .inr (.inr (.inr (.inr (fun i => some (r14 i)))))))] ++ (List.range 60).map (fun i => (r14 i, .inl (ac 0, 60, .inl (fun _ => 0))))) rfl ?_
  refine jc_putF Z hm 0 rfl rfl tyX0 tyX0_ok nmX0 6 (by decide) rfl rfl rfl rfl (Nat.le_of_ble_eq_true rfl) mkiX0_X0 mkX0_f34 dX0_init_64 ?_
  refine jc_w (W1 := [(h0, .inr (0, [.int 0, .ref q9, .ref q10, .ref q11, .ref q12, .ref q13, .ref q14])), (q9, .inl (ac 0, 60, .inl (fun _ => 0))), (q10, .inl (ac 0, 60, .inl (fun _ => 0))), (q11, .inl (ac 1, 60, .inl (fun _ => 0))), (q12, .inl (ac 4, 3, .inr (.inr (.inr (.inr (fun i => some (r12 i))))))), (r12 0, .inl (ac 0, 60, .inl (fun _ => 0))), (r12 1, .inl (ac 0, 60, .inl (fun _ => 0))), (r12 2, .inl (ac 0, 60, .inl (fun _ => 0))), (q13, .inl (ac 4, 2, .inr (.inr (.inr (.inr (fun i => some (r13 i))))))), (r13 0, .inl (ac 0, 60, .inl (fun _ => 0))), (r13 1, .inl (ac 0, 60, .inl (fun _ => 0))), (q14, .inl (ac 4, 60, .inr (.inr (.inr (.inr (fun i => some (r14 i)))))))] ++ (List.range 60).map (fun i => (r14 i, .inl (ac 0, 60, .inl (fun _ => 0))))) rfl ?_
  exact hR _ ((fun k => if k = 9 then q9 else if k = 10 then q10 else if k = 11 then q11 else if k = 12 then q12 else if k = 13 then q13 else q14, r12, r13, r14)) _ _ _ _ rfl (by decide) (by decide) dX0_init_67
theorem mkX1_o1 : Cond.methodLink RX1 3 objectInit ∈ wsX1_init := by decide +kernel
theorem mkX1_o2 : Cond.instanceMethod objectInit ∈ wsX1_init := by decide +kernel
theorem mkX1_o3 : Cond.code objectInit ⟨#[0xb1]⟩ 1 none ∈ wsX1_init := by decide +kernel
theorem mkX1_f9 : Cond.fieldLink RX1 9 (TX1 0).1 (TX1 0).2.1 (TX1 0).2.2.1 ∈ wsX1_init := by decide +kernel
theorem mkiX1_X1 : ∀ w ∈ u_ws RX1 TX1 5, w ∈ wsX1_init := by decide +kernel
theorem mkX1_a0 : Cond.arrayClass .int ∈ wsX1_init := by decide +kernel
theorem mkX1_f15 : Cond.fieldLink RX1 15 (TX1 1).1 (TX1 1).2.1 (TX1 1).2.2.1 ∈ wsX1_init := by decide +kernel
theorem mkX1_f19 : Cond.fieldLink RX1 19 (TX1 2).1 (TX1 2).2.1 (TX1 2).2.2.1 ∈ wsX1_init := by decide +kernel
theorem mkX1_f22 : Cond.fieldLink RX1 22 (TX1 3).1 (TX1 3).2.1 (TX1 3).2.2.1 ∈ wsX1_init := by decide +kernel
theorem mkX1_a1 : Cond.arrayClass .boolean ∈ wsX1_init := by decide +kernel
theorem mkX1_f25 : Cond.fieldLink RX1 25 (TX1 4).1 (TX1 4).2.1 (TX1 4).2.2.1 ∈ wsX1_init := by decide +kernel
def WX1 (ac : Nat → ClassId) (h0 : Nat)  (u : Nat → Nat) : va_W := [(h0, .inr (1, [.int 0, .ref (u 15), .ref (u 16), .ref (u 17), .ref (u 18)])), (u 15, .inl (ac 0, 40, .inl (fun _ => 0))), (u 16, .inl (ac 0, 40, .inl (fun _ => 0))), (u 17, .inl (ac 0, 40, .inl (fun _ => 0))), (u 18, .inl (ac 1, 60, .inl (fun _ => 0)))]
set_option maxRecDepth 100000 in
set_option maxHeartbeats 4000000 in
theorem c_X1_init (l : Launch) (g0 : va_G) (ac : Nat → ClassId) (h0 sz : Nat)  : Met l yX1_init wsX1_init { frames := 1, cells := 4, slots := 180, locals := 12 } (kPre g0 ac h0 (.inr (1, [.int 0, .null, .null, .null, .null])) [] sz) (kPost g0 h0 (.inr (1, [.int 0, .null, .null, .null, .null])) sz (WX1 ac h0 )) 4 180 (va_A [(h0, (.inr (1, [.int 0, .null, .null, .null, .null])))] sz) := by
  refine k_of (cc := cX1_init) (nL := 1) (by decide +kernel) rfl rfl (Nat.le_of_ble_eq_true rfl) ?_
  intro p e s m args below meth c Q Z hm hR
  refine jc_aload_n Z dX1_init_0 0 rfl ?_
  refine jc_oinit Z mkX1_o1 mkX1_o2 mkX1_o3 (by decide) dX1_init_1 ?_
  refine jc_aload_n Z dX1_init_4 0 rfl ?_
  refine jc_iconst Z (v := 0) dX1_init_5 (by decide) ?_
  refine jc_put Z 0 rfl rfl tyX1 tyX1_ok nmX1 0 (by decide) rfl rfl rfl (Nat.le_of_ble_eq_true rfl) mkiX1_X1 mkX1_f9 dX1_init_6 ?_
  refine jc_w (W1 := [(h0, .inr (1, [.int 0, .null, .null, .null, .null]))]) rfl ?_
  refine jc_aload_n Z dX1_init_9 0 rfl ?_
  refine jc_bipush Z (v := 40) dX1_init_10 (by decide) ?_
  refine jc_newa Z mkX1_a0 rfl 0 rfl (40, .inl (fun _ => 0)) (fun _ => rfl) (by decide) (by decide) (by decide) (by decide) dX1_init_12 (fun q15 => ?_)
  refine jc_w (W1 := [(h0, .inr (1, [.int 0, .null, .null, .null, .null])), (q15, .inl (ac 0, 40, .inl (fun _ => 0)))]) rfl ?_
  refine jc_putF Z hm 0 rfl rfl tyX1 tyX1_ok nmX1 1 (by decide) rfl rfl rfl rfl (Nat.le_of_ble_eq_true rfl) mkiX1_X1 mkX1_f15 dX1_init_14 ?_
  refine jc_w (W1 := [(h0, .inr (1, [.int 0, .ref q15, .null, .null, .null])), (q15, .inl (ac 0, 40, .inl (fun _ => 0)))]) rfl ?_
  refine jc_aload_n Z dX1_init_17 0 rfl ?_
  refine jc_bipush Z (v := 40) dX1_init_18 (by decide) ?_
  refine jc_newa Z mkX1_a0 rfl 0 rfl (40, .inl (fun _ => 0)) (fun _ => rfl) (by decide) (by decide) (by decide) (by decide) dX1_init_20 (fun q16 => ?_)
  refine jc_w (W1 := [(h0, .inr (1, [.int 0, .ref q15, .null, .null, .null])), (q15, .inl (ac 0, 40, .inl (fun _ => 0))), (q16, .inl (ac 0, 40, .inl (fun _ => 0)))]) rfl ?_
  refine jc_putF Z hm 0 rfl rfl tyX1 tyX1_ok nmX1 2 (by decide) rfl rfl rfl rfl (Nat.le_of_ble_eq_true rfl) mkiX1_X1 mkX1_f19 dX1_init_22 ?_
  refine jc_w (W1 := [(h0, .inr (1, [.int 0, .ref q15, .ref q16, .null, .null])), (q15, .inl (ac 0, 40, .inl (fun _ => 0))), (q16, .inl (ac 0, 40, .inl (fun _ => 0)))]) rfl ?_
  refine jc_aload_n Z dX1_init_25 0 rfl ?_
  refine jc_bipush Z (v := 40) dX1_init_26 (by decide) ?_
  refine jc_newa Z mkX1_a0 rfl 0 rfl (40, .inl (fun _ => 0)) (fun _ => rfl) (by decide) (by decide) (by decide) (by decide) dX1_init_28 (fun q17 => ?_)
  refine jc_w (W1 := [(h0, .inr (1, [.int 0, .ref q15, .ref q16, .null, .null])), (q15, .inl (ac 0, 40, .inl (fun _ => 0))), (q16, .inl (ac 0, 40, .inl (fun _ => 0))), (q17, .inl (ac 0, 40, .inl (fun _ => 0)))]) rfl ?_
  refine jc_putF Z hm 0 rfl rfl tyX1 tyX1_ok nmX1 3 (by decide) rfl rfl rfl rfl (Nat.le_of_ble_eq_true rfl) mkiX1_X1 mkX1_f22 dX1_init_30 ?_
  refine jc_w (W1 := [(h0, .inr (1, [.int 0, .ref q15, .ref q16, .ref q17, .null])), (q15, .inl (ac 0, 40, .inl (fun _ => 0))), (q16, .inl (ac 0, 40, .inl (fun _ => 0))), (q17, .inl (ac 0, 40, .inl (fun _ => 0)))]) rfl ?_
  refine jc_aload_n Z dX1_init_33 0 rfl ?_
  refine jc_bipush Z (v := 60) dX1_init_34 (by decide) ?_
  refine jc_newa Z mkX1_a1 rfl 1 rfl (60, .inl (fun _ => 0)) (fun _ => rfl) (by decide) (by decide) (by decide) (by decide) dX1_init_36 (fun q18 => ?_)
  refine jc_w (W1 := [(h0, .inr (1, [.int 0, .ref q15, .ref q16, .ref q17, .null])), (q15, .inl (ac 0, 40, .inl (fun _ => 0))), (q16, .inl (ac 0, 40, .inl (fun _ => 0))), (q17, .inl (ac 0, 40, .inl (fun _ => 0))), (q18, .inl (ac 1, 60, .inl (fun _ => 0)))]) rfl ?_
  refine jc_putF Z hm 0 rfl rfl tyX1 tyX1_ok nmX1 4 (by decide) rfl rfl rfl rfl (Nat.le_of_ble_eq_true rfl) mkiX1_X1 mkX1_f25 dX1_init_38 ?_
  refine jc_w (W1 := [(h0, .inr (1, [.int 0, .ref q15, .ref q16, .ref q17, .ref q18])), (q15, .inl (ac 0, 40, .inl (fun _ => 0))), (q16, .inl (ac 0, 40, .inl (fun _ => 0))), (q17, .inl (ac 0, 40, .inl (fun _ => 0))), (q18, .inl (ac 1, 60, .inl (fun _ => 0)))]) rfl ?_
  exact hR _ (fun k => if k = 15 then q15 else if k = 16 then q16 else if k = 17 then q17 else q18) _ _ _ _ rfl (by decide) (by decide) dX1_init_41
theorem mkX4_o1 : Cond.methodLink RX4 3 objectInit ∈ wsX4_init := by decide +kernel
theorem mkX4_o2 : Cond.instanceMethod objectInit ∈ wsX4_init := by decide +kernel
theorem mkX4_o3 : Cond.code objectInit ⟨#[0xb1]⟩ 1 none ∈ wsX4_init := by decide +kernel
theorem mkX4_f9 : Cond.fieldLink RX4 9 (TX4 0).1 (TX4 0).2.1 (TX4 0).2.2.1 ∈ wsX4_init := by decide +kernel
theorem mkiX4_X4 : ∀ w ∈ u_ws RX4 TX4 5, w ∈ wsX4_init := by decide +kernel
theorem mkX4_a0 : Cond.arrayClass .int ∈ wsX4_init := by decide +kernel
theorem mkX4_f15 : Cond.fieldLink RX4 15 (TX4 1).1 (TX4 1).2.1 (TX4 1).2.2.1 ∈ wsX4_init := by decide +kernel
theorem mkX4_f19 : Cond.fieldLink RX4 19 (TX4 2).1 (TX4 2).2.1 (TX4 2).2.2.1 ∈ wsX4_init := by decide +kernel
theorem mkX4_f22 : Cond.fieldLink RX4 22 (TX4 3).1 (TX4 3).2.1 (TX4 3).2.2.1 ∈ wsX4_init := by decide +kernel
theorem mkX4_f25 : Cond.fieldLink RX4 25 (TX4 4).1 (TX4 4).2.1 (TX4 4).2.2.1 ∈ wsX4_init := by decide +kernel
def WX4 (ac : Nat → ClassId) (h0 : Nat)  (u : Nat → Nat) : va_W := [(h0, .inr (4, [.int 0, .ref (u 19), .ref (u 20), .ref (u 21), .ref (u 22)])), (u 19, .inl (ac 0, 20, .inl (fun _ => 0))), (u 20, .inl (ac 0, 20, .inl (fun _ => 0))), (u 21, .inl (ac 0, 20, .inl (fun _ => 0))), (u 22, .inl (ac 0, 20, .inl (fun _ => 0)))]
set_option maxRecDepth 100000 in
set_option maxHeartbeats 4000000 in
theorem c_X4_init (l : Launch) (g0 : va_G) (ac : Nat → ClassId) (h0 sz : Nat)  : Met l yX4_init wsX4_init { frames := 1, cells := 4, slots := 80, locals := 12 } (kPre g0 ac h0 (.inr (4, [.int 0, .null, .null, .null, .null])) [] sz) (kPost g0 h0 (.inr (4, [.int 0, .null, .null, .null, .null])) sz (WX4 ac h0 )) 4 80 (va_A [(h0, (.inr (4, [.int 0, .null, .null, .null, .null])))] sz) := by
  refine k_of (cc := cX4_init) (nL := 1) (by decide +kernel) rfl rfl (Nat.le_of_ble_eq_true rfl) ?_
  intro p e s m args below meth c Q Z hm hR
  refine jc_aload_n Z dX4_init_0 0 rfl ?_
  refine jc_oinit Z mkX4_o1 mkX4_o2 mkX4_o3 (by decide) dX4_init_1 ?_
  refine jc_aload_n Z dX4_init_4 0 rfl ?_
  refine jc_iconst Z (v := 0) dX4_init_5 (by decide) ?_
  refine jc_put Z 0 rfl rfl tyX4 tyX4_ok nmX4 0 (by decide) rfl rfl rfl (Nat.le_of_ble_eq_true rfl) mkiX4_X4 mkX4_f9 dX4_init_6 ?_
  refine jc_w (W1 := [(h0, .inr (4, [.int 0, .null, .null, .null, .null]))]) rfl ?_
  refine jc_aload_n Z dX4_init_9 0 rfl ?_
  refine jc_bipush Z (v := 20) dX4_init_10 (by decide) ?_
  refine jc_newa Z mkX4_a0 rfl 0 rfl (20, .inl (fun _ => 0)) (fun _ => rfl) (by decide) (by decide) (by decide) (by decide) dX4_init_12 (fun q19 => ?_)
  refine jc_w (W1 := [(h0, .inr (4, [.int 0, .null, .null, .null, .null])), (q19, .inl (ac 0, 20, .inl (fun _ => 0)))]) rfl ?_
  refine jc_putF Z hm 0 rfl rfl tyX4 tyX4_ok nmX4 1 (by decide) rfl rfl rfl rfl (Nat.le_of_ble_eq_true rfl) mkiX4_X4 mkX4_f15 dX4_init_14 ?_
  refine jc_w (W1 := [(h0, .inr (4, [.int 0, .ref q19, .null, .null, .null])), (q19, .inl (ac 0, 20, .inl (fun _ => 0)))]) rfl ?_
  refine jc_aload_n Z dX4_init_17 0 rfl ?_
  refine jc_bipush Z (v := 20) dX4_init_18 (by decide) ?_
  refine jc_newa Z mkX4_a0 rfl 0 rfl (20, .inl (fun _ => 0)) (fun _ => rfl) (by decide) (by decide) (by decide) (by decide) dX4_init_20 (fun q20 => ?_)
  refine jc_w (W1 := [(h0, .inr (4, [.int 0, .ref q19, .null, .null, .null])), (q19, .inl (ac 0, 20, .inl (fun _ => 0))), (q20, .inl (ac 0, 20, .inl (fun _ => 0)))]) rfl ?_
  refine jc_putF Z hm 0 rfl rfl tyX4 tyX4_ok nmX4 2 (by decide) rfl rfl rfl rfl (Nat.le_of_ble_eq_true rfl) mkiX4_X4 mkX4_f19 dX4_init_22 ?_
  refine jc_w (W1 := [(h0, .inr (4, [.int 0, .ref q19, .ref q20, .null, .null])), (q19, .inl (ac 0, 20, .inl (fun _ => 0))), (q20, .inl (ac 0, 20, .inl (fun _ => 0)))]) rfl ?_
  refine jc_aload_n Z dX4_init_25 0 rfl ?_
  refine jc_bipush Z (v := 20) dX4_init_26 (by decide) ?_
  refine jc_newa Z mkX4_a0 rfl 0 rfl (20, .inl (fun _ => 0)) (fun _ => rfl) (by decide) (by decide) (by decide) (by decide) dX4_init_28 (fun q21 => ?_)
  refine jc_w (W1 := [(h0, .inr (4, [.int 0, .ref q19, .ref q20, .null, .null])), (q19, .inl (ac 0, 20, .inl (fun _ => 0))), (q20, .inl (ac 0, 20, .inl (fun _ => 0))), (q21, .inl (ac 0, 20, .inl (fun _ => 0)))]) rfl ?_
  refine jc_putF Z hm 0 rfl rfl tyX4 tyX4_ok nmX4 3 (by decide) rfl rfl rfl rfl (Nat.le_of_ble_eq_true rfl) mkiX4_X4 mkX4_f22 dX4_init_30 ?_
  refine jc_w (W1 := [(h0, .inr (4, [.int 0, .ref q19, .ref q20, .ref q21, .null])), (q19, .inl (ac 0, 20, .inl (fun _ => 0))), (q20, .inl (ac 0, 20, .inl (fun _ => 0))), (q21, .inl (ac 0, 20, .inl (fun _ => 0)))]) rfl ?_
  refine jc_aload_n Z dX4_init_33 0 rfl ?_
  refine jc_bipush Z (v := 20) dX4_init_34 (by decide) ?_
  refine jc_newa Z mkX4_a0 rfl 0 rfl (20, .inl (fun _ => 0)) (fun _ => rfl) (by decide) (by decide) (by decide) (by decide) dX4_init_36 (fun q22 => ?_)
  refine jc_w (W1 := [(h0, .inr (4, [.int 0, .ref q19, .ref q20, .ref q21, .null])), (q19, .inl (ac 0, 20, .inl (fun _ => 0))), (q20, .inl (ac 0, 20, .inl (fun _ => 0))), (q21, .inl (ac 0, 20, .inl (fun _ => 0))), (q22, .inl (ac 0, 20, .inl (fun _ => 0)))]) rfl ?_
  refine jc_putF Z hm 0 rfl rfl tyX4 tyX4_ok nmX4 4 (by decide) rfl rfl rfl rfl (Nat.le_of_ble_eq_true rfl) mkiX4_X4 mkX4_f25 dX4_init_38 ?_
  refine jc_w (W1 := [(h0, .inr (4, [.int 0, .ref q19, .ref q20, .ref q21, .ref q22])), (q19, .inl (ac 0, 20, .inl (fun _ => 0))), (q20, .inl (ac 0, 20, .inl (fun _ => 0))), (q21, .inl (ac 0, 20, .inl (fun _ => 0))), (q22, .inl (ac 0, 20, .inl (fun _ => 0)))]) rfl ?_
  exact hR _ (fun k => if k = 19 then q19 else if k = 20 then q20 else if k = 21 then q21 else q22) _ _ _ _ rfl (by decide) (by decide) dX4_init_41
theorem mkX3_o1 : Cond.methodLink RX3 3 objectInit ∈ wsX3_init := by decide +kernel
theorem mkX3_o2 : Cond.instanceMethod objectInit ∈ wsX3_init := by decide +kernel
theorem mkX3_o3 : Cond.code objectInit ⟨#[0xb1]⟩ 1 none ∈ wsX3_init := by decide +kernel
theorem mkX3_a0 : Cond.arrayClass .int ∈ wsX3_init := by decide +kernel
theorem mkX3_f9 : Cond.fieldLink RX3 9 (TX3 2).1 (TX3 2).2.1 (TX3 2).2.2.1 ∈ wsX3_init := by decide +kernel
theorem mkiX3_X3 : ∀ w ∈ u_ws RX3 TX3 3, w ∈ wsX3_init := by decide +kernel
theorem mkX3_f15 : Cond.fieldLink RX3 15 (TX3 0).1 (TX3 0).2.1 (TX3 0).2.2.1 ∈ wsX3_init := by decide +kernel
theorem mkX3_f19 : Cond.fieldLink RX3 19 (TX3 1).1 (TX3 1).2.1 (TX3 1).2.2.1 ∈ wsX3_init := by decide +kernel
def WX3 (ac : Nat → ClassId) (h0 : Nat) (f9 : Nat) (s9 : Nat) (u : Nat → Nat) : va_W := [(h0, .inr (3, [.ref f9, .ref s9, .ref (u 23)])), (u 23, .inl (ac 0, 60, .inl (fun _ => 0)))]
set_option maxRecDepth 100000 in
set_option maxHeartbeats 4000000 in
theorem c_X3_init (l : Launch) (g0 : va_G) (ac : Nat → ClassId) (h0 sz : Nat) (f9 : Nat) (s9 : Nat) : Met l yX3_init wsX3_init { frames := 1, cells := 1, slots := 60, locals := 12 } (kPre g0 ac h0 (.inr (3, [.null, .null, .null])) [.ref f9, .ref s9] sz) (kPost g0 h0 (.inr (3, [.null, .null, .null])) sz (WX3 ac h0 f9 s9)) 1 60 (va_A [(h0, (.inr (3, [.null, .null, .null])))] sz) := by
  refine k_of (cc := cX3_init) (nL := 3) (by decide +kernel) rfl rfl (Nat.le_of_ble_eq_true rfl) ?_
  intro p e s m args below meth c Q Z hm hR
  refine jc_aload_n Z dX3_init_0 0 rfl ?_
  refine jc_oinit Z mkX3_o1 mkX3_o2 mkX3_o3 (by decide) dX3_init_1 ?_
  refine jc_aload_n Z dX3_init_4 0 rfl ?_
  refine jc_bipush Z (v := 60) dX3_init_5 (by decide) ?_
  refine jc_newa Z mkX3_a0 rfl 0 rfl (60, .inl (fun _ => 0)) (fun _ => rfl) (by decide) (by decide) (by decide) (by decide) dX3_init_7 (fun q23 => ?_)
  refine jc_w (W1 := [(h0, .inr (3, [.null, .null, .null])), (q23, .inl (ac 0, 60, .inl (fun _ => 0)))]) rfl ?_
  refine jc_putF Z hm 0 rfl rfl tyX3 tyX3_ok nmX3 2 (by decide) rfl rfl rfl rfl (Nat.le_of_ble_eq_true rfl) mkiX3_X3 mkX3_f9 dX3_init_9 ?_
  refine jc_w (W1 := [(h0, .inr (3, [.null, .null, .ref q23])), (q23, .inl (ac 0, 60, .inl (fun _ => 0)))]) rfl ?_
  refine jc_aload_n Z dX3_init_12 0 rfl ?_
  refine jc_aload_n Z dX3_init_13 1 rfl ?_
  refine jc_putF Z hm 0 rfl rfl tyX3 tyX3_ok nmX3 0 (by decide) rfl rfl rfl rfl (Nat.le_of_ble_eq_true rfl) mkiX3_X3 mkX3_f15 dX3_init_14 ?_
  refine jc_w (W1 := [(h0, .inr (3, [.ref f9, .null, .ref q23])), (q23, .inl (ac 0, 60, .inl (fun _ => 0)))]) rfl ?_
  refine jc_aload_n Z dX3_init_17 0 rfl ?_
  refine jc_aload_n Z dX3_init_18 2 rfl ?_
  refine jc_putF Z hm 0 rfl rfl tyX3 tyX3_ok nmX3 1 (by decide) rfl rfl rfl rfl (Nat.le_of_ble_eq_true rfl) mkiX3_X3 mkX3_f19 dX3_init_19 ?_
  refine jc_w (W1 := [(h0, .inr (3, [.ref f9, .ref s9, .ref q23])), (q23, .inl (ac 0, 60, .inl (fun _ => 0)))]) rfl ?_
  exact hR _ (fun _ => q23) _ _ _ _ rfl (by decide) (by decide) dX3_init_22
theorem mkX5_o1 : Cond.methodLink RX5 1 objectInit ∈ wsX5_init := by decide +kernel
theorem mkX5_o2 : Cond.instanceMethod objectInit ∈ wsX5_init := by decide +kernel
theorem mkX5_o3 : Cond.code objectInit ⟨#[0xb1]⟩ 1 none ∈ wsX5_init := by decide +kernel
theorem mkX5_f7 : Cond.fieldLink RX5 7 (TX5 0).1 (TX5 0).2.1 (TX5 0).2.2.1 ∈ wsX5_init := by decide +kernel
theorem mkiX5_X5 : ∀ w ∈ u_ws RX5 TX5 7, w ∈ wsX5_init := by decide +kernel
theorem mkiX5_X2 : ∀ w ∈ u_ws RX2 TX2 2, w ∈ wsX5_init := by decide +kernel
theorem mkX5_cX2 : Cond.classLink RX5 13 RX2 ∈ wsX5_init := by decide +kernel
theorem mkX5_iX2 : Cond.instantiable RX2 2 ∈ wsX5_init := by decide +kernel
theorem mkX5_tX2 : Cond.initialized RX2 ∈ wsX5_init := by decide +kernel
theorem mkX5_lX2 : Cond.methodLink RX5 15 yX2_init ∈ wsX5_init := by decide +kernel
theorem mkX5_nX2 : Cond.instanceMethod yX2_init ∈ wsX5_init := by decide +kernel
theorem mkX5_f16 : Cond.fieldLink RX5 16 (TX5 1).1 (TX5 1).2.1 (TX5 1).2.2.1 ∈ wsX5_init := by decide +kernel
theorem mkiX5_X0 : ∀ w ∈ u_ws RX0 TX0 7, w ∈ wsX5_init := by decide +kernel
theorem mkX5_cX0 : Cond.classLink RX5 20 RX0 ∈ wsX5_init := by decide +kernel
theorem mkX5_iX0 : Cond.instantiable RX0 7 ∈ wsX5_init := by decide +kernel
theorem mkX5_tX0 : Cond.initialized RX0 ∈ wsX5_init := by decide +kernel
theorem mkX5_nX0 : Cond.instanceMethod yX0_init ∈ wsX5_init := by decide +kernel
theorem mkX5_f23 : Cond.fieldLink RX5 23 (TX5 2).1 (TX5 2).2.1 (TX5 2).2.2.1 ∈ wsX5_init := by decide +kernel
theorem mkiX5_X1 : ∀ w ∈ u_ws RX1 TX1 5, w ∈ wsX5_init := by decide +kernel
theorem mkX5_cX1 : Cond.classLink RX5 27 RX1 ∈ wsX5_init := by decide +kernel
theorem mkX5_iX1 : Cond.instantiable RX1 5 ∈ wsX5_init := by decide +kernel
theorem mkX5_tX1 : Cond.initialized RX1 ∈ wsX5_init := by decide +kernel
theorem mkX5_nX1 : Cond.instanceMethod yX1_init ∈ wsX5_init := by decide +kernel
theorem mkX5_f30 : Cond.fieldLink RX5 30 (TX5 3).1 (TX5 3).2.1 (TX5 3).2.2.1 ∈ wsX5_init := by decide +kernel
theorem mkiX5_X4 : ∀ w ∈ u_ws RX4 TX4 5, w ∈ wsX5_init := by decide +kernel
theorem mkX5_cX4 : Cond.classLink RX5 34 RX4 ∈ wsX5_init := by decide +kernel
theorem mkX5_iX4 : Cond.instantiable RX4 5 ∈ wsX5_init := by decide +kernel
theorem mkX5_tX4 : Cond.initialized RX4 ∈ wsX5_init := by decide +kernel
theorem mkX5_nX4 : Cond.instanceMethod yX4_init ∈ wsX5_init := by decide +kernel
theorem mkX5_f37 : Cond.fieldLink RX5 37 (TX5 4).1 (TX5 4).2.1 (TX5 4).2.2.1 ∈ wsX5_init := by decide +kernel
theorem mkiX5_X3 : ∀ w ∈ u_ws RX3 TX3 3, w ∈ wsX5_init := by decide +kernel
theorem mkX5_cX3 : Cond.classLink RX5 41 RX3 ∈ wsX5_init := by decide +kernel
theorem mkX5_iX3 : Cond.instantiable RX3 3 ∈ wsX5_init := by decide +kernel
theorem mkX5_tX3 : Cond.initialized RX3 ∈ wsX5_init := by decide +kernel
theorem mkX5_lX3 : Cond.methodLink RX5 43 yX3_init ∈ wsX5_init := by decide +kernel
theorem mkX5_nX3 : Cond.instanceMethod yX3_init ∈ wsX5_init := by decide +kernel
theorem mkX5_f46 : Cond.fieldLink RX5 46 (TX5 5).1 (TX5 5).2.1 (TX5 5).2.2.1 ∈ wsX5_init := by decide +kernel
theorem mkX5_f50 : Cond.fieldLink RX5 50 (TX5 6).1 (TX5 6).2.1 (TX5 6).2.2.1 ∈ wsX5_init := by decide +kernel
def WX5 (ac : Nat → ClassId) (h0 : Nat)  (u : (Nat → Nat) × (Nat → Nat) × ((Nat → Nat) × (Nat → Nat) × (Nat → Nat) × (Nat → Nat)) × (Nat → Nat) × (Nat → Nat) × (Nat → Nat) × (Nat → Nat)) : va_W := [(h0, .inr (5, [.int 0, .ref (u.1 1), .ref (u.1 2), .ref (u.1 3), .ref (u.1 4), .ref (u.1 5), .ref (u.1 6)]))] ++ WX2 ac (u.1 1) u.2.1 ++ WX0 ac (u.1 2) u.2.2.1 ++ WX1 ac (u.1 3) u.2.2.2.1 ++ WX4 ac (u.1 4) u.2.2.2.2.1 ++ WX3 ac (u.1 5) (u.1 2) (u.1 1) u.2.2.2.2.2.1 ++ WX3 ac (u.1 6) (u.1 2) (u.1 1) u.2.2.2.2.2.2
set_option maxRecDepth 100000 in
set_option maxHeartbeats 4000000 in
theorem c_X5_init (l : Launch) (g0 : va_G) (ac : Nat → ClassId) (h0 sz : Nat)  : Met l yX5_init wsX5_init { frames := 2, cells := 89, slots := 4558, locals := 34 } (kPre g0 ac h0 (.inr (5, [.int 0, .null, .null, .null, .null, .null, .null])) [] sz) (kPost g0 h0 (.inr (5, [.int 0, .null, .null, .null, .null, .null, .null])) sz (WX5 ac h0 )) 89 4558 (va_A [(h0, (.inr (5, [.int 0, .null, .null, .null, .null, .null, .null])))] sz) := by
  refine k_of (cc := cX5_init) (nL := 1) (by decide +kernel) rfl rfl (Nat.le_of_ble_eq_true rfl) ?_
  intro p e s m args below meth c Q Z hm hR
  refine jc_aload_n Z dX5_init_0 0 rfl ?_
  refine jc_oinit Z mkX5_o1 mkX5_o2 mkX5_o3 (by decide) dX5_init_1 ?_
  refine jc_aload_n Z dX5_init_4 0 rfl ?_
  refine jc_iconst Z (v := 0) dX5_init_5 (by decide) ?_
  refine jc_put Z 0 rfl rfl tyX5 tyX5_ok nmX5 0 (by decide) rfl rfl rfl (Nat.le_of_ble_eq_true rfl) mkiX5_X5 mkX5_f7 dX5_init_6 ?_
  refine jc_w (W1 := [(h0, .inr (5, [.int 0, .null, .null, .null, .null, .null, .null]))]) rfl ?_
  refine jc_aload_n Z dX5_init_9 0 rfl ?_
  refine jc_new Z (ci := 2) tyX2 tyX2_ok mkiX5_X2 mkX5_cX2 mkX5_iX2 mkX5_tX2 rfl [.null, .null] (fun j hj => by rcases (show j = 0 ∨ j = 1 by omega) with rfl | rfl <;> rfl) (by decide) dX5_init_10 (fun q1 _ => ?_)
  refine jc_dup Z dX5_init_13 rfl ?_
  refine jc_call (R := { frames := 2, cells := 89, slots := 4558, locals := 34 }) (k := 1) (n := 2) (nA := 0) (e0 := (.inr (2, [.null, .null]))) Z (As := []) (rest := [.ref q1, .ref h0]) (W1 := [(h0, .inr (5, [.int 0, .null, .null, .null, .null, .null, .null]))]) (q := q1) (fun sz9 => c_X2_init l g0 ac q1 sz9 ) rfl gX5_init_X2_init rfl rfl rfl mkX5_tX2 (Or.inl mkX5_lX2) mkX5_nX2 rfl (by decide +kernel) (by decide) rfl dX5_init_14 rfl (Nat.le_of_ble_eq_true rfl) (by decide) (fun u1 => ?_)
  refine jc_w (W1 := [(h0, .inr (5, [.int 0, .null, .null, .null, .null, .null, .null]))] ++ WX2 ac q1 u1) rfl ?_
  refine jc_putF Z hm 0 rfl rfl tyX5 tyX5_ok nmX5 1 (by decide) rfl rfl rfl rfl (Nat.le_of_ble_eq_true rfl) mkiX5_X5 mkX5_f16 dX5_init_17 ?_
  refine jc_w (W1 := [(h0, .inr (5, [.int 0, .ref q1, .null, .null, .null, .null, .null]))] ++ WX2 ac q1 u1) rfl ?_
  refine jc_aload_n Z dX5_init_20 0 rfl ?_
  refine jc_new Z (ci := 0) tyX0 tyX0_ok mkiX5_X0 mkX5_cX0 mkX5_iX0 mkX5_tX0 rfl [.int 0, .null, .null, .null, .null, .null, .null] (fun j hj => by rcases (show j = 0 ∨ j = 1 ∨ j = 2 ∨ j = 3 ∨ j = 4 ∨ j = 5 ∨ j = 6 by omega) with rfl | rfl | rfl | rfl | rfl | rfl | rfl <;> rfl) (by decide) dX5_init_21 (fun q2 _ => ?_)
  refine jc_dup Z dX5_init_24 rfl ?_
  refine jc_call (R := { frames := 2, cells := 89, slots := 4558, locals := 34 }) (k := 4) (n := 17) (nA := 0) (e0 := (.inr (0, [.int 0, .null, .null, .null, .null, .null, .null]))) Z (As := []) (rest := [.ref q2, .ref h0]) (W1 := [(h0, .inr (5, [.int 0, .ref q1, .null, .null, .null, .null, .null]))] ++ WX2 ac q1 u1) (q := q2) (fun sz9 => c_X0_init l g0 ac q2 sz9 ) rfl gX5_init_X0_init_n22 rfl rfl rfl mkX5_tX0 (Or.inr ⟨rfl, by decide +kernel⟩) mkX5_nX0 rfl (by decide +kernel) (by decide) rfl dX5_init_25 rfl (Nat.le_of_ble_eq_true rfl) (by decide) (fun u2 => ?_)
  refine jc_w (W1 := [(h0, .inr (5, [.int 0, .ref q1, .null, .null, .null, .null, .null]))] ++ WX2 ac q1 u1 ++ WX0 ac q2 u2) rfl ?_
  refine jc_putF Z hm 0 rfl rfl tyX5 tyX5_ok nmX5 2 (by decide) rfl rfl rfl rfl (Nat.le_of_ble_eq_true rfl) mkiX5_X5 mkX5_f23 dX5_init_28 ?_
  refine jc_w (W1 := [(h0, .inr (5, [.int 0, .ref q1, .ref q2, .null, .null, .null, .null]))] ++ WX2 ac q1 u1 ++ WX0 ac q2 u2) rfl ?_
  refine jc_aload_n Z dX5_init_31 0 rfl ?_
  refine jc_new Z (ci := 1) tyX1 tyX1_ok mkiX5_X1 mkX5_cX1 mkX5_iX1 mkX5_tX1 rfl [.int 0, .null, .null, .null, .null] (fun j hj => by rcases (show j = 0 ∨ j = 1 ∨ j = 2 ∨ j = 3 ∨ j = 4 by omega) with rfl | rfl | rfl | rfl | rfl <;> rfl) (by decide) dX5_init_32 (fun q3 _ => ?_)
  refine jc_dup Z dX5_init_35 rfl ?_
  refine jc_call (R := { frames := 2, cells := 89, slots := 4558, locals := 34 }) (k := 76) (n := 4167) (nA := 0) (e0 := (.inr (1, [.int 0, .null, .null, .null, .null]))) Z (As := []) (rest := [.ref q3, .ref h0]) (W1 := [(h0, .inr (5, [.int 0, .ref q1, .ref q2, .null, .null, .null, .null]))] ++ WX2 ac q1 u1 ++ WX0 ac q2 u2) (q := q3) (fun sz9 => c_X1_init l g0 ac q3 sz9 ) rfl gX5_init_X1_init_n29 rfl rfl rfl mkX5_tX1 (Or.inr ⟨rfl, by decide +kernel⟩) mkX5_nX1 rfl (by decide +kernel) (by decide) rfl dX5_init_36 rfl (Nat.le_of_ble_eq_true rfl) (by decide) (fun u3 => ?_)
  refine jc_w (W1 := [(h0, .inr (5, [.int 0, .ref q1, .ref q2, .null, .null, .null, .null]))] ++ WX2 ac q1 u1 ++ WX0 ac q2 u2 ++ WX1 ac q3 u3) rfl ?_
  refine jc_putF Z hm 0 rfl rfl tyX5 tyX5_ok nmX5 3 (by decide) rfl rfl rfl rfl (Nat.le_of_ble_eq_true rfl) mkiX5_X5 mkX5_f30 dX5_init_39 ?_
  refine jc_w (W1 := [(h0, .inr (5, [.int 0, .ref q1, .ref q2, .ref q3, .null, .null, .null]))] ++ WX2 ac q1 u1 ++ WX0 ac q2 u2 ++ WX1 ac q3 u3) rfl ?_
  refine jc_aload_n Z dX5_init_42 0 rfl ?_
  refine jc_new Z (ci := 4) tyX4 tyX4_ok mkiX5_X4 mkX5_cX4 mkX5_iX4 mkX5_tX4 rfl [.int 0, .null, .null, .null, .null] (fun j hj => by rcases (show j = 0 ∨ j = 1 ∨ j = 2 ∨ j = 3 ∨ j = 4 by omega) with rfl | rfl | rfl | rfl | rfl <;> rfl) (by decide) dX5_init_43 (fun q4 _ => ?_)
  refine jc_dup Z dX5_init_46 rfl ?_
  refine jc_call (R := { frames := 2, cells := 89, slots := 4558, locals := 34 }) (k := 81) (n := 4352) (nA := 0) (e0 := (.inr (4, [.int 0, .null, .null, .null, .null]))) Z (As := []) (rest := [.ref q4, .ref h0]) (W1 := [(h0, .inr (5, [.int 0, .ref q1, .ref q2, .ref q3, .null, .null, .null]))] ++ WX2 ac q1 u1 ++ WX0 ac q2 u2 ++ WX1 ac q3 u3) (q := q4) (fun sz9 => c_X4_init l g0 ac q4 sz9 ) rfl gX5_init_X4_init_n36 rfl rfl rfl mkX5_tX4 (Or.inr ⟨rfl, by decide +kernel⟩) mkX5_nX4 rfl (by decide +kernel) (by decide) rfl dX5_init_47 rfl (Nat.le_of_ble_eq_true rfl) (by decide) (fun u4 => ?_)
  refine jc_w (W1 := [(h0, .inr (5, [.int 0, .ref q1, .ref q2, .ref q3, .null, .null, .null]))] ++ WX2 ac q1 u1 ++ WX0 ac q2 u2 ++ WX1 ac q3 u3 ++ WX4 ac q4 u4) rfl ?_
  refine jc_putF Z hm 0 rfl rfl tyX5 tyX5_ok nmX5 4 (by decide) rfl rfl rfl rfl (Nat.le_of_ble_eq_true rfl) mkiX5_X5 mkX5_f37 dX5_init_50 ?_
  refine jc_w (W1 := [(h0, .inr (5, [.int 0, .ref q1, .ref q2, .ref q3, .ref q4, .null, .null]))] ++ WX2 ac q1 u1 ++ WX0 ac q2 u2 ++ WX1 ac q3 u3 ++ WX4 ac q4 u4) rfl ?_
  refine jc_aload_n Z dX5_init_53 0 rfl ?_
  refine jc_new Z (ci := 3) tyX3 tyX3_ok mkiX5_X3 mkX5_cX3 mkX5_iX3 mkX5_tX3 rfl [.null, .null, .null] (fun j hj => by rcases (show j = 0 ∨ j = 1 ∨ j = 2 by omega) with rfl | rfl | rfl <;> rfl) (by decide) dX5_init_54 (fun q5 _ => ?_)
  refine jc_dup Z dX5_init_57 rfl ?_
  refine jc_aload_n Z dX5_init_58 0 rfl ?_
  refine jc_get Z 0 rfl rfl 2 (by decide) rfl mkiX5_X5 mkX5_f23 dX5_init_59 ?_
  refine jc_aload_n Z dX5_init_62 0 rfl ?_
  refine jc_get Z 0 rfl rfl 1 (by decide) rfl mkiX5_X5 mkX5_f16 dX5_init_63 ?_
  refine jc_call (R := { frames := 2, cells := 89, slots := 4558, locals := 34 }) (k := 86) (n := 4435) (nA := 2) (e0 := (.inr (3, [.null, .null, .null]))) Z (As := [.ref q2, .ref q1]) (rest := [.ref q5, .ref h0]) (W1 := [(h0, .inr (5, [.int 0, .ref q1, .ref q2, .ref q3, .ref q4, .null, .null]))] ++ WX2 ac q1 u1 ++ WX0 ac q2 u2 ++ WX1 ac q3 u3 ++ WX4 ac q4 u4) (q := q5) (fun sz9 => c_X3_init l g0 ac q5 sz9 q2 q1) rfl gX5_init_X3_init rfl rfl rfl mkX5_tX3 (Or.inl mkX5_lX3) mkX5_nX3 rfl (by decide +kernel) (by decide) rfl dX5_init_66 rfl (Nat.le_of_ble_eq_true rfl) (by decide) (fun u5 => ?_)
  refine jc_w (W1 := [(h0, .inr (5, [.int 0, .ref q1, .ref q2, .ref q3, .ref q4, .null, .null]))] ++ WX2 ac q1 u1 ++ WX0 ac q2 u2 ++ WX1 ac q3 u3 ++ WX4 ac q4 u4 ++ WX3 ac q5 q2 q1 u5) rfl ?_
  refine jc_putF Z hm 0 rfl rfl tyX5 tyX5_ok nmX5 5 (by decide) rfl rfl rfl rfl (Nat.le_of_ble_eq_true rfl) mkiX5_X5 mkX5_f46 dX5_init_69 ?_
  refine jc_w (W1 := [(h0, .inr (5, [.int 0, .ref q1, .ref q2, .ref q3, .ref q4, .ref q5, .null]))] ++ WX2 ac q1 u1 ++ WX0 ac q2 u2 ++ WX1 ac q3 u3 ++ WX4 ac q4 u4 ++ WX3 ac q5 q2 q1 u5) rfl ?_
  refine jc_aload_n Z dX5_init_72 0 rfl ?_
  refine jc_new Z (ci := 3) tyX3 tyX3_ok mkiX5_X3 mkX5_cX3 mkX5_iX3 mkX5_tX3 rfl [.null, .null, .null] (fun j hj => by rcases (show j = 0 ∨ j = 1 ∨ j = 2 by omega) with rfl | rfl | rfl <;> rfl) (by decide) dX5_init_73 (fun q6 _ => ?_)
  refine jc_dup Z dX5_init_76 rfl ?_
  refine jc_aload_n Z dX5_init_77 0 rfl ?_
  refine jc_get Z 0 rfl rfl 2 (by decide) rfl mkiX5_X5 mkX5_f23 dX5_init_78 ?_
  refine jc_aload_n Z dX5_init_81 0 rfl ?_
  refine jc_get Z 0 rfl rfl 1 (by decide) rfl mkiX5_X5 mkX5_f16 dX5_init_82 ?_
  refine jc_call (R := { frames := 2, cells := 89, slots := 4558, locals := 34 }) (k := 88) (n := 4498) (nA := 2) (e0 := (.inr (3, [.null, .null, .null]))) Z (As := [.ref q2, .ref q1]) (rest := [.ref q6, .ref h0]) (W1 := [(h0, .inr (5, [.int 0, .ref q1, .ref q2, .ref q3, .ref q4, .ref q5, .null]))] ++ WX2 ac q1 u1 ++ WX0 ac q2 u2 ++ WX1 ac q3 u3 ++ WX4 ac q4 u4 ++ WX3 ac q5 q2 q1 u5) (q := q6) (fun sz9 => c_X3_init l g0 ac q6 sz9 q2 q1) rfl gX5_init_X3_init rfl rfl rfl mkX5_tX3 (Or.inl mkX5_lX3) mkX5_nX3 rfl (by decide +kernel) (by decide) rfl dX5_init_85 rfl (Nat.le_of_ble_eq_true rfl) (by decide) (fun u6 => ?_)
  refine jc_w (W1 := [(h0, .inr (5, [.int 0, .ref q1, .ref q2, .ref q3, .ref q4, .ref q5, .null]))] ++ WX2 ac q1 u1 ++ WX0 ac q2 u2 ++ WX1 ac q3 u3 ++ WX4 ac q4 u4 ++ WX3 ac q5 q2 q1 u5 ++ WX3 ac q6 q2 q1 u6) rfl ?_
  refine jc_putF Z hm 0 rfl rfl tyX5 tyX5_ok nmX5 6 (by decide) rfl rfl rfl rfl (Nat.le_of_ble_eq_true rfl) mkiX5_X5 mkX5_f50 dX5_init_88 ?_
  refine jc_w (W1 := [(h0, .inr (5, [.int 0, .ref q1, .ref q2, .ref q3, .ref q4, .ref q5, .ref q6]))] ++ WX2 ac q1 u1 ++ WX0 ac q2 u2 ++ WX1 ac q3 u3 ++ WX4 ac q4 u4 ++ WX3 ac q5 q2 q1 u5 ++ WX3 ac q6 q2 q1 u6) rfl ?_
  exact hR _ ((fun k => if k = 1 then q1 else if k = 2 then q2 else if k = 3 then q3 else if k = 4 then q4 else if k = 5 then q5 else q6, u1, u2, u3, u4, u5, u6)) _ _ _ _ rfl (by decide) (by decide) dX5_init_91
