/-! small words that the reference's walk asks for -/
theorem upd_id {f : Nat → Int32} {i : Nat} : upd f i (f i) = f := by
  funext j
  by_cases h : j = i
  · subst h; exact upd_s
  · exact upd_n h
theorem cB_add {b : Nat} {c : Prop} [Decidable c] : nI b + (if c then 1 else 0) = nI (b + (if c then 1 else 0)) := by
  by_cases h : c
  · rw [if_pos h, if_pos h]; exact nI_1 b
  · rw [if_neg h, if_neg h]; exact nI_add b 0
theorem tell_i2b {z : Int32} (h : inB z 0 2 = true) : z.toInt8.toInt32 = z := by
  obtain ⟨j, hj, rfl⟩ := inB_nI h (n := 2) rfl
  rcases (show j = 0 ∨ j = 1 ∨ j = 2 by omega) with rfl | rfl | rfl <;> decide
theorem tell_nar {z : Int32} (h : inB z 0 2 = true) : vp_nar .byte z = z := by
  rw [vp_nar_byte]; exact tell_i2b h
