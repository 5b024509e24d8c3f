/-! what the walks say of numbers and of cells -/
def ix (x : Int32) : Nat := x.toNatClampNeg
theorem ix_nI {i : Nat} (h : i < 2 ^ 31) : ix (nI i) = i := nI_clamp h
theorem vp_ix {x : Int32} {N : Nat} (h : vp_in x N) (hN : N ≤ 4096) : x = nI (ix x) ∧ ix x < N := by
  obtain ⟨j, hj, rfl⟩ := vp_in_of h (by omega)
  rw [ix_nI (by omega)]
  exact ⟨rfl, hj⟩
def zB (b : Bool) : Int32 := if b then 1 else 0
theorem zB_0 {b : Bool} : zB b = 0 ↔ b = false := by cases b <;> decide
theorem zB_1 {b : Bool} (h : ¬ zB b = 0) : b = true := by
  cases b
  · exact absurd (by decide) h
  · rfl
theorem nB_0 {P : Prop} [Decidable P] (h : zB (!decide P) = 0) : P := by
  have h1 := zB_0.mp h
  rw [Bool.not_eq_false', decide_eq_true_eq] at h1
  exact h1
theorem nB_1 {P : Prop} [Decidable P] (h : ¬ zB (!decide P) = 0) : ¬ P := by
  have h1 := zB_1 h
  rw [Bool.not_eq_true', decide_eq_false_iff_not] at h1
  exact h1
theorem zB_n {b : Bool} : narrow .boolean (.int (zB b)) = .int (zB b) := by cases b <;> rfl
theorem zB_nar {b : Bool} : vp_nar .boolean (zB b) = zB b := by cases b <;> rfl
theorem zB_t {b : Bool} (h : b = true) : (1 : Int32) = zB b := by rw [h]; rfl
theorem zB_f {b : Bool} (h : b = false) : (0 : Int32) = zB b := by rw [h]; rfl
abbrev iMax (x y : Int32) : Int32 := if x < y then y else x
abbrev iMin (x y : Int32) : Int32 := if y < x then y else x
theorem gE_row {g : gC} {a : Nat} (h : a = 23 ∨ a = 24 ∨ a = 26 ∨ a = 27 ∨ a = 28 ∨ a = 29 ∨ a = 30 ∨ (50 ≤ a ∧ a < 110)) : ∀ r : Nat → Int32, gE g r a = .inl (g.2.2.1 0, 60, .inl r) := by
  intro r
  rcases h with rfl | rfl | rfl | rfl | rfl | rfl | rfl | h
  · rfl
  · rfl
  · rfl
  · rfl
  · rfl
  · rfl
  · rfl
  · unfold gE
    rw [if_neg (show ¬ (110 ≤ a ∧ a < 114) by omega), List.getD_eq_getElem?_getD, List.getElem?_eq_none (show (gL g r).length ≤ a from h.1)]
    rfl
theorem gE_th {g : gC} {r : Nat → Int32} {d : Nat} (hd : d < 2) : gE g r (5 + d) = .inr (3, [.ref (g.2.1 2), .ref (g.2.1 1), .ref (g.2.1 (23 + d))]) := by
  rcases (show d = 0 ∨ d = 1 by omega) with rfl | rfl <;> rfl
theorem upd_s {f : Nat → Int32} {i : Nat} {x : Int32} : upd f i x i = x := if_pos rfl
theorem upd_n {f : Nat → Int32} {i j : Nat} {x : Int32} (h : j ≠ i) : upd f i x j = f j := if_neg h
/-! ===== pure words ===== -/
/-- a find counts on a day -/
def standB (k cam d trm : Int32) : Bool := decide (k = 0) && !decide (d < cam) && !decide (trm < d - cam)
def fStand (μ : gM) (i : Nat) (d : Int32) : Bool := standB (μ 11 i) (μ 10 i) d (μ 7 (ix (μ 9 i)))
def shareB (x y : Int32) : Bool := decide (x ≠ 0) && decide (x = y)
/-- two finds are joined at once -/
def joinB (t s1 s2 n1 n2 a1 a2 : Int32) : Bool := if t = 0 then (if s1 ≠ 0 ∧ s2 ≠ 0 then shareB s1 s2 else shareB n1 n2 && shareB a1 a2) else decide (t = 1)
def fJoin (μ : gM) (i j : Nat) : Bool := joinB (μ (50 + i) j) (μ 26 i) (μ 26 j) (μ 27 i) (μ 27 j) (μ 28 i) (μ 28 j)
