theorem and_t {a b : Bool} (ha : a = true) (hb : b = true) : (a && b) = true := by rw [ha, hb]; rfl
theorem and_f1 {a b : Bool} (ha : a = false) : ¬ (a && b) = true := by rw [ha, Bool.false_and]; decide
theorem and_f2 {a b : Bool} (hb : b = false) : ¬ (a && b) = true := by rw [hb, Bool.and_false]; decide
theorem one_f {a : Bool} (ha : a = false) : ¬ a = true := by rw [ha]; decide
/-! the face: more pure words -/
theorem inB_vp {x hi : Int32} {N : Nat} (h : inB x 0 hi = true) (hn : hi.toInt + 1 = N) : vp_in x N := by
  have h1 := inB_s h
  rw [Int32.le_iff_toInt_le, Int32.le_iff_toInt_le] at h1
  rw [vp_in_iff]
  have h0 : (0 : Int32).toInt = 0 := by decide
  omega
theorem fnd_ix {n : Nat} {x : Int32} (h : fndB n x = true) (hn : n ≤ 60) : x = nI (ix x) ∧ ix x < n := by
  obtain ⟨i, hi, rfl⟩ := fndB_s h (by omega)
  rw [ix_nI (by omega)]
  exact ⟨rfl, hi⟩
theorem fnd_vp {n : Nat} {x : Int32} (h : fndB n x = true) (hn : n ≤ 60) : vp_in x 60 := by
  obtain ⟨i, hi, rfl⟩ := fndB_s h (by omega)
  exact vp_in_nI (by omega) (by omega)
theorem gS_vp {μ : gM} {n : Nat} {x : Int32} {th S : Nat → Int32} (hS : fSort μ n x th = S) (hn : n ≤ 60) {k : Nat} (hk : k < n) : S k = -1 ∨ vp_in (S k) 60 := by
  subst hS
  exact thOk_vp (fSort_ok hn) hn hk
theorem fVal_S {μ : gM} {S : Nat → Int32} {a n : Nat} {x : Int32} (ha : a < 2) : fVal (gR μ 23 S) 23 a n x = aVal S (μ (29 + a)) (fPl μ) x n := by
  unfold fVal
  rw [gR_s, gR_n (k := 23) (j := 29 + a) (by omega)]
  rfl
theorem fVal_T {μ : gM} {S T : Nat → Int32} {a n : Nat} {x : Int32} (ha : a < 2) : fVal (gR (gR μ 23 S) 24 T) 24 a n x = aVal T (μ (29 + a)) (fPl μ) x n := by
  unfold fVal
  rw [gR_s, gR_n (k := 24) (j := 29 + a) (by omega), gR_n (k := 23) (j := 29 + a) (by omega)]
  rfl
theorem fSort_R {μ : gM} {r : Nat → Int32} {n : Nat} {x : Int32} {th : Nat → Int32} : fSort (gR μ 23 r) n x th = fSort μ n x th := by
  unfold fSort
  rw [show fJoin (gR μ 23 r) = fJoin μ from funext fun _ => funext fun _ => fJoin_R (by omega), show (fun k => fStand (gR μ 23 r) k x) = fun k => fStand μ k x from funext fun _ => fStand_R (by omega)]
/-- what fails with thing q, the things being S -/
def gFail (μ : gM) (S : Nat → Int32) (lc q : Nat) : Nat → Int32 := fRun S (μ 15) (μ 16) (μ 17) lc 60 (upd (zRow 60 (μ 18)) q 1) true
theorem gFail_e {μ : gM} {S : Nat → Int32} {lc q : Nat} : fFail (gR μ 23 S) lc q = gFail μ S lc q := rfl
def bitR (f : Nat → Int32) : Prop := ∀ k, k < 60 → f k = 0 ∨ f k = 1
theorem bitR_u {f : Nat → Int32} {q : Nat} (h : bitR f) : bitR (upd f q 1) := by
  intro k hk
  by_cases e : k = q
  · subst e; rw [upd_s]; exact Or.inr rfl
  · rw [upd_n e]; exact h k hk
theorem bitR_z {f : Nat → Int32} : bitR (zRow 60 f) := fun k hk => Or.inl (if_pos hk)
theorem bitR_N {th nd nn gp f : Nat → Int32} {lc : Nat} (h : bitR f) : ∀ i : Nat, bitR (fmN th nd nn gp lc f i)
  | 0 => h
  | i + 1 => by
    have h1 := bitR_N (th := th) (nd := nd) (nn := nn) (gp := gp) (lc := lc) h i
    unfold fmN
    by_cases q : fmC th nd nn gp lc (fmN th nd nn gp lc f i) i = true
    · rw [if_pos q]; exact bitR_u h1
    · rw [if_neg q]; exact h1
theorem bitR_r {th nd nn gp : Nat → Int32} {lc : Nat} : ∀ (n : Nat) (f : Nat → Int32) (b : Bool), bitR f → bitR (fRun th nd nn gp lc n f b)
  | 0, f, b, h => h
  | n + 1, f, b, h => by
    unfold fRun
    by_cases q : b = true
    · rw [if_pos q]; exact bitR_r n _ _ (bitR_N h lc)
    · rw [if_neg q]; exact h
theorem bitR_F {μ : gM} {S : Nat → Int32} {lc q : Nat} : bitR (gFail μ S lc q) := bitR_r 60 _ _ (bitR_u bitR_z)
theorem bit_zB {x : Int32} (h : x = 0 ∨ x = 1) : x = zB (!decide (x = 0)) := by
  rcases h with rfl | rfl <;> decide
/-- a thing of find i has another value on the other day -/
def havB (S1 S2 tl pl : Nat → Int32) (n i : Nat) : Bool := !decide (S1 i = -1) && !decide (S2 i = -1) && !decide (aVal S1 tl pl (S1 i) n = aVal S2 tl pl (S2 i) n)
