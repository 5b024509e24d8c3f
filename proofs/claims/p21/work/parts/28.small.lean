/-! small words for the law's numbers -/
theorem inB_hi {n m : Nat} {lo hi : Int32} (hm : hi = nI m) (h : m < n) (hn : n < 2 ^ 31) : inB (nI n) lo hi = false := inB_f2 (fun q => by
  rw [hm] at q
  have := (nI_leI hn (by omega)).mp q
  omega)
theorem inB_in {n m : Nat} {hi : Int32} (hm : hi = nI m) (h : n ≤ m) (hn : m < 2 ^ 31) : inB (nI n) 0 hi = true := inB_t (nI_pos (by omega)) (by rw [hm]; exact (nI_leI (by omega) hn).mpr h)
theorem fndB_nI {n i : Nat} (h : i < n) (hn : n < 2 ^ 31) : fndB n (nI i) = true := fndB_t (nI_pos (by omega)) ((nI_ltI (by omega) hn).mpr h)
theorem fndB_hi {n i : Nat} (h : n ≤ i) (hi : i < 2 ^ 31) : fndB n (nI i) = false := fndB_f2 (fun q => by
  have := (nI_ltI hi (by omega)).mp q
  omega)
theorem ng_toInt {c : Int32} {z : Int} {k : Nat} (hc : c.toInt = z) (h1 : -2 ^ 31 ≤ z - k) (h2 : z - k < 2 ^ 31) (hk : k < 2 ^ 31) : (c - nI k).toInt = z - k := by
  rw [Int32.toInt_sub, hc, nI_toInt hk]
  exact Int.bmod_eq_of_le (by omega) (by omega)
theorem ng1 {k : Nat} (h : k < 2 ^ 31) : (-1) - nI k < (0 : Int32) := by
  rw [Int32.lt_iff_toInt_lt, ng_toInt (z := -1) (by decide) (by omega) (by omega) h, show (0 : Int32).toInt = 0 by decide]
  omega
theorem ng2 {k : Nat} (h : k < 2 ^ 30) : (-2) - nI k < (-1 : Int32) := by
  rw [Int32.lt_iff_toInt_lt, ng_toInt (z := -2) (by decide) (by omega) (by omega) (by omega), show (-1 : Int32).toInt = -1 by decide]
  omega
theorem ng0 {k : Nat} (h : k < 2 ^ 31) : -(nI k) < (1 : Int32) := by
  rw [← Int32.zero_sub, Int32.lt_iff_toInt_lt, ng_toInt (z := 0) (by decide) (by omega) (by omega) h, show (1 : Int32).toInt = 1 by decide]
  omega
theorem and6 {a b c d e f : Bool} (h : a = false ∨ b = false ∨ c = false ∨ d = false ∨ e = false ∨ f = false) : (a && b && c && d && e && f) = false := by
  rcases h with h | h | h | h | h | h <;> simp [h]
theorem and4 {a b c d : Bool} (h : a = false ∨ b = false ∨ c = false ∨ d = false) : (a && b && c && d) = false := by
  rcases h with h | h | h | h <;> simp [h]
theorem and3 {a b c : Bool} (h : a = false ∨ b = false ∨ c = false) : (a && b && c) = false := by
  rcases h with h | h | h <;> simp [h]
theorem and2 {a b : Bool} (h : a = false ∨ b = false) : (a && b) = false := by
  rcases h with h | h <;> simp [h]
theorem and2t {a b : Bool} (h1 : a = true) (h2 : b = true) : (a && b) = true := by rw [h1, h2]; rfl
theorem and3t {a b c : Bool} (h1 : a = true) (h2 : b = true) (h3 : c = true) : (a && b && c) = true := by rw [h1, h2, h3]; rfl
theorem nI_n0 {n : Nat} (h : ¬ nI n = 0) : 0 < n := by
  rcases Nat.eq_zero_or_pos n with q | q
  · subst q; exact absurd rfl h
  · exact q
theorem nI_z0 {n : Nat} (hn : n < 2 ^ 31) (h : nI n = 0) : n = 0 := (nI_eq hn (show 0 < 2 ^ 31 by decide)).mp h
theorem nI_g0 {n : Nat} (h : ¬ nI n ≤ 0) : 0 < n := nI_n0 (fun q => h (by rw [q]; decide))
theorem zB_no1 {b : Bool} (h : ¬ zB b = 1) : b = false := by
  cases b
  · rfl
  · exact absurd rfl h
theorem zB_is1 {b : Bool} (h : zB b = 1) : b = true := by
  cases b
  · exact absurd h (by decide)
  · rfl
theorem ne_f {x : Int32} : (!decide (x = x)) = false := by rw [decide_eq_true rfl]; rfl
theorem ne_t {x y : Int32} (h : ¬ x = y) : (!decide (x = y)) = true := by rw [decide_eq_false h]; rfl
