/-! small words that the reference's walk asks for -/
theorem upd_id {f : Nat → Int32} {i : Nat} : upd f i (f i) = f := by
  funext j
  by_cases h : j = i
  · subst h; exact upd_s
  · exact upd_n h
theorem cB_add {b : Nat} {c : Prop} [Decidable c] : nI b + (if c then 1 else 0) = nI (b + (if c then 1 else 0)) := by
  by_cases h : c
  · rw [if_pos h, if_pos h]; exact nI_1 b
  · rw [if_neg h, if_neg h]; exact nI_add b 0
theorem tell_i2b {z : Int32} (h : inB z 0 2 = true) : z.toInt8.toInt32 = z := by
  obtain ⟨j, hj, rfl⟩ := inB_nI h (n := 2) rfl
  rcases (show j = 0 ∨ j = 1 ∨ j = 2 by omega) with rfl | rfl | rfl <;> decide
theorem tell_nar {z : Int32} (h : inB z 0 2 = true) : vp_nar .byte z = z := by
  rw [vp_nar_byte]; exact tell_i2b h
theorem zB_nv {v : Int32} {b : Bool} : narrow .boolean (.int (if v = 0 then zB b else 0)) = .int (if v = 0 then zB b else 0) := by
  by_cases q : v = 0
  · rw [if_pos q]; exact zB_n
  · rw [if_neg q]; rfl
theorem sMerge_nx {n : Nat} {x y : Int32} {th : Nat → Int32} : upd (sMerge n x y th) n (if sMerge n x y th n = iMax x y then iMin x y else sMerge n x y th n) = sMerge (n + 1) x y th := by
  by_cases q : sMerge n x y th n = iMax x y
  · rw [if_pos q]; exact sMerge_eq q
  · rw [if_neg q, upd_id]; exact sMerge_ne q
theorem sMerge_nc {n : Nat} {x y : Int32} {th : Nat → Int32} : upd (sMerge n x y th) n (if sMerge n x y th n = iMax x y then iMin y x else sMerge n x y th n) = sMerge (n + 1) x y th := by
  rw [iMin_c y x]; exact sMerge_nx
theorem iMax_l {x y : Int32} (h : y ≤ x) : x = iMax x y := (if_neg (Int32.not_lt.mpr h)).symm
theorem iMax_g {x y : Int32} (h : ¬ y ≤ x) : y = iMax x y := (if_pos (Int32.not_le.mp h)).symm
theorem iMin_l {x y : Int32} (h : y ≤ x) : y = iMin y x := (if_neg (Int32.not_lt.mpr h)).symm
theorem iMin_g {x y : Int32} (h : ¬ y ≤ x) : x = iMin y x := (if_pos (Int32.not_le.mp h)).symm
