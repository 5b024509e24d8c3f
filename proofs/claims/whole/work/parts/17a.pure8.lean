theorem and_b {a b : Bool} (h : (a && b) = true) : a = true ∧ b = true := by
  rw [Bool.and_eq_true] at h; exact h
theorem fw_2 {μ : gM} {cnt : Nat} {x y z : Int32} (h : (fndB cnt x && fndB cnt y) = true) (h0 : lkC μ cnt x z true = 0) : lkC μ cnt y z true = k3 (fndB cnt x && fndB cnt y) (inB z 0 9999) (!decide (mSort μ cnt z (μ 47) (ix x) = -1) && !decide (mSort μ cnt z (μ 47) (ix y) = -1)) := by
  unfold lkC at h0 ⊢
  have h3 := k3_z h0
  rw [h, (and_b h).2, h3.2.2]
  rfl
theorem fw_1 {μ : gM} {cnt : Nat} {x y z : Int32} (h : (fndB cnt x && fndB cnt y) = true) (h0 : ¬ lkC μ cnt x z true = 0) : lkC μ cnt x z true = k3 (fndB cnt x && fndB cnt y) (inB z 0 9999) (!decide (mSort μ cnt z (μ 47) (ix x) = -1) && !decide (mSort μ cnt z (μ 47) (ix y) = -1)) := by
  unfold lkC at h0 ⊢
  have hx := (and_b h).1
  rw [hx] at h0
  rw [h, hx]
  revert h0
  cases inB z 0 9999 <;> cases (!decide (mSort μ cnt z (μ 47) (ix x) = -1)) <;> intro h0 <;> first | rfl | exact absurd rfl h0
