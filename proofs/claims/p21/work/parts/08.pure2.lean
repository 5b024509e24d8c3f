/-! links, failures, the order of sources: pure words -/
def holdB (th nd nn : Nat → Int32) (i : Nat) : Bool := decide (¬ th (ix (nd i)) = -1) && decide (¬ th (ix (nn i)) = -1) && decide (¬ th (ix (nd i)) = th (ix (nn i)))
/-- link i keeps thing x up in group y -/
def blockB (th nd nn gp f : Nat → Int32) (x y : Int32) (i : Nat) : Bool := decide (gp i = y) && decide (th (ix (nd i)) = x) && holdB th nd nn i && decide (f (ix (th (ix (nn i)))) = 0)
def lostN (th nd nn gp f : Nat → Int32) (x y : Int32) : Nat → Bool
  | 0 => true
  | i + 1 => lostN th nd nn gp f x y i && !blockB th nd nn gp f x y i
theorem lostN_dn {th nd nn gp f : Nat → Int32} {x y : Int32} {i n : Nat} (h : lostN th nd nn gp f x y i = false) (hn : i ≤ n) : lostN th nd nn gp f x y n = false := by
  induction n with
  | zero => rw [← Nat.le_zero.mp hn]; exact h
  | succ n ih =>
    by_cases hi : i = n + 1
    · rw [← hi]; exact h
    · show (lostN th nd nn gp f x y n && _) = false
      rw [ih (by omega)]; rfl
/-- link i lets its thing fail -/
def fmC (th nd nn gp : Nat → Int32) (lc : Nat) (f : Nat → Int32) (i : Nat) : Bool := holdB th nd nn i && decide (f (ix (th (ix (nd i)))) = 0) && lostN th nd nn gp f (th (ix (nd i))) (gp i) lc
/-- a round over the first links -/
def fmN (th nd nn gp : Nat → Int32) (lc : Nat) (f : Nat → Int32) : Nat → Nat → Int32
  | 0 => f
  | i + 1 => if fmC th nd nn gp lc (fmN th nd nn gp lc f i) i = true then upd (fmN th nd nn gp lc f i) (ix (th (ix (nd i)))) 1 else fmN th nd nn gp lc f i
def fmM (th nd nn gp : Nat → Int32) (lc : Nat) (f : Nat → Int32) : Nat → Bool
  | 0 => false
  | i + 1 => fmM th nd nn gp lc f i || fmC th nd nn gp lc (fmN th nd nn gp lc f i) i
/-- rounds while more fails -/
def fRun (th nd nn gp : Nat → Int32) (lc : Nat) : Nat → (Nat → Int32) → Bool → Nat → Int32
  | 0, f, _ => f
  | n + 1, f, b => if b = true then fRun th nd nn gp lc n (fmN th nd nn gp lc f lc) (fmM th nd nn gp lc f lc) else f
theorem fRun_f {th nd nn gp : Nat → Int32} {lc n : Nat} {f : Nat → Int32} {b : Bool} (h : b = false) : fRun th nd nn gp lc n f b = f := by
  cases n with
  | zero => rfl
  | succ n => exact if_neg (by rw [h]; decide)
theorem fRun_t {th nd nn gp : Nat → Int32} {lc n m : Nat} {f : Nat → Int32} {b : Bool} (h : b = true) (hn : n = m + 1) : fRun th nd nn gp lc n f b = fRun th nd nn gp lc m (fmN th nd nn gp lc f lc) (fmM th nd nn gp lc f lc) := by
  subst hn
  exact if_pos h
theorem fRun_0 {th nd nn gp : Nat → Int32} {lc n : Nat} {f : Nat → Int32} {b : Bool} (hn : n = 0) : fRun th nd nn gp lc n f b = f := by
  subst hn
  rfl
/-- zeros to n -/
def zRow (n : Nat) (f : Nat → Int32) : Nat → Int32 := fun k => if k < n then 0 else f k
theorem zRow_0 {f : Nat → Int32} : f = zRow 0 f := by
  funext k
  exact (if_neg (Nat.not_lt_zero k)).symm
theorem zRow_s {n : Nat} {f : Nat → Int32} : upd (zRow n f) n 0 = zRow (n + 1) f := by
  funext k
  by_cases hk : k = n
  · subst hk
    rw [upd_s]
    exact (if_pos (Nat.lt_succ_self k)).symm
  · rw [upd_n hk]
    unfold zRow
    by_cases h2 : k < n
    · rw [if_pos h2, if_pos (by omega)]
    · rw [if_neg h2, if_neg (by omega)]
/-- what fails with thing q -/
def fFail (μ : gM) (lc q : Nat) : Nat → Int32 := fRun (μ 23) (μ 15) (μ 16) (μ 17) lc 60 (upd (zRow 60 (μ 18)) q 1) true
/-- the places ahead of b go back by one -/
def pMv (n : Nat) (b : Int32) (pl : Nat → Int32) : Nat → Int32 := fun k => if k < n ∧ pl k < b then pl k + 1 else pl k
theorem pMv_0 {b : Int32} {pl : Nat → Int32} : pl = pMv 0 b pl := by
  funext k
  exact (if_neg (fun h => absurd h.1 (Nat.not_lt_zero k))).symm
theorem pMv_at {n : Nat} {b : Int32} {pl : Nat → Int32} : pMv n b pl n = pl n := if_neg (fun h => absurd h.1 (Nat.lt_irrefl n))
theorem pMv_lt {n : Nat} {b : Int32} {pl : Nat → Int32} (h : pMv n b pl n < b) : upd (pMv n b pl) n (pMv n b pl n + 1) = pMv (n + 1) b pl := by
  rw [pMv_at] at h ⊢
  funext k
  by_cases hk : k = n
  · subst hk
    rw [upd_s]
    exact (if_pos ⟨Nat.lt_succ_self k, h⟩).symm
  · rw [upd_n hk]
    unfold pMv
    by_cases h2 : k < n ∧ pl k < b
    · rw [if_pos h2, if_pos ⟨by omega, h2.2⟩]
    · rw [if_neg h2, if_neg (fun h3 => h2 ⟨by omega, h3.2⟩)]
theorem pMv_ge {n : Nat} {b : Int32} {pl : Nat → Int32} (h : b ≤ pMv n b pl n) : pMv n b pl = pMv (n + 1) b pl := by
  rw [pMv_at] at h
  funext k
  unfold pMv
  by_cases h2 : k < n ∧ pl k < b
  · rw [if_pos h2, if_pos ⟨by omega, h2.2⟩]
  · rw [if_neg h2, if_neg (fun h3 => ?_)]
    by_cases hk : k = n
    · subst hk
      exact absurd h (Int32.not_le.mpr h3.2)
    · exact h2 ⟨by omega, h3.2⟩
