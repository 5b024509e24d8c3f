/-! the reference's looks, values and spreads: pure words -/
def lkC (μ : gM) (cnt : Nat) (x y : Int32) (b : Bool) : Int32 := k3 (fndB cnt x) (b && inB y 0 9999) (!decide (mSort μ cnt y (μ 47) (ix x) = -1))
def lkM (μ : gM) (cnt : Nat) (y : Int32) (c : Bool) : gM := if c = true then gR μ 47 (mSort μ cnt y (μ 47)) else μ
theorem lkM_t {μ : gM} {cnt : Nat} {y : Int32} {c : Bool} (h : c = true) : lkM μ cnt y c = gR μ 47 (mSort μ cnt y (μ 47)) := if_pos h
theorem lkM_f {μ : gM} {cnt : Nat} {y : Int32} {c : Bool} (h : c = false) : lkM μ cnt y c = μ := if_neg (by rw [h]; decide)
theorem lkM_n {μ : gM} {cnt k : Nat} {y : Int32} {c : Bool} (h : k ≠ 47) : lkM μ cnt y c k = μ k := by
  cases c
  · rfl
  · exact gR_n h
theorem lkC_2 {μ : gM} {cnt : Nat} {x y : Int32} {c : Bool} : lkC (lkM μ cnt y c) cnt x y true = lkC μ cnt x y true := by
  cases c
  · rfl
  · unfold lkC lkM
    rw [if_pos rfl, mSort_R (by omega), gR_s]
    show k3 _ _ (!decide (mSort μ cnt y (mSort μ cnt y (μ 47)) (ix x) = -1)) = _
    rw [show mSort μ cnt y (mSort μ cnt y (μ 47)) = mSort μ cnt y (μ 47) from sAll_idem]
theorem lkM_2 {μ : gM} {cnt : Nat} {y : Int32} {c : Bool} : lkM (lkM μ cnt y c) cnt y c = lkM μ cnt y c := by
  cases c
  · rfl
  · unfold lkM
    rw [if_pos rfl, if_pos rfl, mSort_R (by omega), gR_s, gR_R]
    rw [show mSort μ cnt y (mSort μ cnt y (μ 47)) = mSort μ cnt y (μ 47) from sAll_idem]
/-- the better of two finds -/
def aNx (t : Bool) (b pb pi : Int32) (i : Nat) : Int32 := if t = true ∧ (b = -1 ∨ ¬ pb < pi) then nI i else b
theorem aNx_f {t : Bool} {b pb pi : Int32} {i : Nat} (h : t = false) : b = aNx t b pb pi i := (if_neg (fun q => by rw [h] at q; cases q.1)).symm
theorem aNx_n {t : Bool} {b pb pi : Int32} {i : Nat} (h : t = true) (hb : b = -1) : nI i = aNx t b pb pi i := (if_pos ⟨h, Or.inl hb⟩).symm
theorem aNx_a {t : Bool} {b pb pi : Int32} {i : Nat} (h : t = true) (ha : ¬ pb < pi) : nI i = aNx t b pb pi i := (if_pos ⟨h, Or.inr ha⟩).symm
theorem aNx_b {t : Bool} {b pb pi : Int32} {i : Nat} (hb : ¬ b = -1) (ha : pb < pi) : b = aNx t b pb pi i := (if_neg (fun q => q.2.elim hb (fun q2 => q2 ha))).symm
theorem aNx_s {th tl pl : Nat → Int32} {x b : Int32} {i : Nat} (hb : b = aBest th tl pl x i) : aNx (tellB th tl x i) b (pl (ix b)) (pl i) i = aBest th tl pl x (i + 1) := by
  subst hb; rfl
theorem aBest_n {th tl pl : Nat → Int32} {x b : Int32} {n : Nat} (hb : b = aBest th tl pl x n) (hn : n ≤ 60) : b < 0 ↔ b = -1 := by
  rcases aBest_in (th := th) (tl := tl) (pl := pl) (x := x) n with h1 | ⟨j, h1, h2⟩
  · rw [hb, h1]; decide
  · rw [hb, h2]; exact ⟨fun q => absurd q (nI_pos (by omega)), fun q => absurd q (nI_nm (by omega))⟩
theorem aBest_j {th tl pl : Nat → Int32} {x b : Int32} {n : Nat} (hb : b = aBest th tl pl x n) (h : ¬ b = -1) : ∃ j : Nat, j < n ∧ b = nI j := by
  rcases aBest_in (th := th) (tl := tl) (pl := pl) (x := x) n with h1 | ⟨j, h1, h2⟩
  · exact absurd (hb.trans h1) h
  · exact ⟨j, h1, hb.trans h2⟩
theorem aVal_f {th tl pl : Nat → Int32} {x b : Int32} {n : Nat} (hb : b = aBest th tl pl x n) (h : b = -1) : -1 = aVal th tl pl x n := (if_pos (hb.symm.trans h)).symm
theorem aVal_t {th tl pl : Nat → Int32} {x b : Int32} {n j : Nat} (hb : b = aBest th tl pl x n) (h : b = nI j) (hj : j < 60) : tl j = aVal th tl pl x n := by
  unfold aVal
  rw [← hb, h, if_neg (nI_nm (by omega)), ix_nI (by omega)]
/-- what a thing's own value is, and whether it is disputed -/
def ownV (S tl pl : Nat → Int32) (n t : Nat) : Int32 := if S t = nI t then aVal S tl pl (nI t) n else -1
def dPre (S tl pl : Nat → Int32) (n t k : Nat) : Bool := !decide (ownV S tl pl n t < 0) && dAny S tl (nI t) (ownV S tl pl n t) k
theorem dPre_0 {S tl pl : Nat → Int32} {n t : Nat} : false = dPre S tl pl n t 0 := by
  unfold dPre dAny
  rw [Bool.and_false]
theorem dPre_s {S tl pl : Nat → Int32} {n t k : Nat} {s : Bool} (es : s = dPre S tl pl n t k) (h : ¬ ownV S tl pl n t < 0) : (s || (decide (S k = nI t) && !decide (tl k < 0) && !decide (tl k = ownV S tl pl n t))) = dPre S tl pl n t (k + 1) := by
  subst es
  unfold dPre
  rw [decide_eq_false h]
  rfl
theorem dPre_n {S tl pl : Nat → Int32} {n t k k' : Nat} {s : Bool} (es : s = dPre S tl pl n t k) (h : ownV S tl pl n t < 0) : s = dPre S tl pl n t k' := by
  subst es
  unfold dPre
  rw [decide_eq_true h]
  rfl
theorem ite_nar {c : Prop} [Decidable c] : vp_nar .boolean (if c then 1 else 0) = if c then 1 else 0 := by
  by_cases h : c
  · rw [if_pos h]; rfl
  · rw [if_neg h]; rfl
theorem spN_sf {th fr to gp f r : Nat → Int32} {lc k : Nat} (er : r = spN th fr to gp lc f k) (h : spC th fr to gp lc r k = false) : r = spN th fr to gp lc f (k + 1) := by
  subst er
  exact (if_neg (by rw [h]; decide)).symm
theorem spN_st {th fr to gp f r : Nat → Int32} {lc k : Nat} (er : r = spN th fr to gp lc f k) (h : spC th fr to gp lc r k = true) : upd r k 1 = spN th fr to gp lc f (k + 1) := by
  subst er
  exact (if_pos h).symm
theorem spN_cf {th fr to gp f r : Nat → Int32} {lc k n d : Nat} (er : r = spN th fr to gp lc f k) (h : spC th fr to gp lc r k = false) (ed : d = cF n (spN th fr to gp lc f k)) : d = cF n (spN th fr to gp lc f (k + 1)) := by
  rw [← spN_sf er h, ed, er]
theorem spN_ct {th fr to gp f r : Nat → Int32} {lc k n d : Nat} (er : r = spN th fr to gp lc f k) (h : spC th fr to gp lc r k = true) (ed : d = cF n (spN th fr to gp lc f k)) (hk : k < n) : d + 1 = cF n (spN th fr to gp lc f (k + 1)) := by
  rw [← spN_st er h, ed, ← er]
  have h2 : r k = 0 := by
    unfold spC at h
    rw [Bool.and_eq_true, Bool.and_eq_true, decide_eq_true_eq, decide_eq_true_eq] at h
    exact h.1.2
  exact (cF_u hk h2).symm
theorem isOf_vp {th fr to gp : Nat → Int32} {x y : Int32} {i n : Nat} (h : thOk n th) (hn : n ≤ 60) (hi : ix (to i) < n) (hb : isOfB th fr to gp x y i = true) : vp_in (th (ix (to i))) 60 := by
  rcases thOk_vp h hn hi with h1 | h1
  · unfold isOfB at hb
    rw [h1] at hb
    exfalso
    revert hb
    have e : decide ((-1 : Int32) < 0) = true := by decide
    rw [e]
    simp
  · exact h1
theorem sRun_end {th fr to gp f F : Nat → Int32} {lc n m b : Nat} (h : sRun th fr to gp lc n m f b = F) (hb : ¬ b < cF n f) : f = F := (sRun_f hb).symm.trans h
theorem bitM_N {th fr to gp f : Nat → Int32} {lc n : Nat} (h : ∀ k, k < n → f k = 0 ∨ f k = 1) : ∀ i : Nat, ∀ k, k < n → spN th fr to gp lc f i k = 0 ∨ spN th fr to gp lc f i k = 1
  | 0 => h
  | i + 1 => by
    have h1 := bitM_N (th := th) (fr := fr) (to := to) (gp := gp) (lc := lc) h i
    unfold spN
    by_cases q : spC th fr to gp lc (spN th fr to gp lc f i) i = true
    · rw [if_pos q]
      intro k hk
      by_cases e : k = i
      · subst e; rw [upd_s]; exact Or.inr rfl
      · rw [upd_n e]; exact h1 k hk
    · rw [if_neg q]; exact h1
theorem bitM_r {th fr to gp : Nat → Int32} {lc n : Nat} : ∀ (m : Nat) (f : Nat → Int32) (b : Nat), (∀ k, k < n → f k = 0 ∨ f k = 1) → ∀ k, k < n → sRun th fr to gp lc n m f b k = 0 ∨ sRun th fr to gp lc n m f b k = 1
  | 0, f, b, h => h
  | m + 1, f, b, h => by
    unfold sRun
    by_cases q : b < cF n f
    · rw [if_pos q]; exact bitM_r m _ _ (bitM_N h n)
    · rw [if_neg q]; exact h
theorem bitM_F {μ : gM} {lc n q k : Nat} (hk : k < n) : mFail μ lc n q k = 0 ∨ mFail μ lc n q k = 1 := bitM_r 60 _ _ (fun j hj => by
    unfold oneR
    rw [if_pos hj]
    by_cases h : nI j = nI q
    · rw [if_pos h]; exact Or.inr rfl
    · rw [if_neg h]; exact Or.inl rfl) k hk
/-- what a find's thing lets fail -/
def mImp (μ : gM) (lc cnt : Nat) (y : Int32) (i : Nat) : Nat → Int32 := mFail (gR μ 47 (mSort μ cnt y (μ 47))) lc cnt (ix (mSort μ cnt y (μ 47) i))
/-- a wish's mark -/
def wMk (S mk : Nat → Int32) (x v : Int32) (t k : Nat) : Bool := decide (S t = x) && hMark S mk x v k
/-- the values of a day, thing by thing of the finds -/
def cRow (S tl pl o : Nat → Int32) (n i : Nat) : Nat → Int32 := fun k => if k < i then (if S k < 0 then -2 else aVal S tl pl (S k) n) else o k
theorem cRow_0 {S tl pl o : Nat → Int32} {n : Nat} : o = cRow S tl pl o n 0 := by
  funext k
  exact (if_neg (Nat.not_lt_zero k)).symm
theorem cRow_s {S tl pl o r : Nat → Int32} {n i : Nat} {x : Int32} (er : r = cRow S tl pl o n i) (h : x = if S i < 0 then -2 else aVal S tl pl (S i) n) : upd r i x = cRow S tl pl o n (i + 1) := by
  subst er
  subst h
  funext k
  by_cases hk : k = i
  · subst hk
    rw [upd_s]
    exact (if_pos (Nat.lt_succ_self k)).symm
  · rw [upd_n hk]
    unfold cRow
    by_cases h2 : k < i
    · rw [if_pos h2, if_pos (show k < i + 1 by omega)]
    · rw [if_neg h2, if_neg (show ¬ k < i + 1 by omega)]
/-- a find's thing has another value -/
def cDif (S tl pl o : Nat → Int32) (n k : Nat) : Bool := !decide (S k < 0) && !decide (o k ≤ -2) && !decide (aVal S tl pl (S k) n = o k)
theorem th_j {n k : Nat} {S : Nat → Int32} (h : thOk n S) (hk : k < n) (h2 : (!decide (S k = -1)) = true) : ∃ q : Nat, q ≤ k ∧ S k = nI q := by
  rw [Bool.not_eq_true', decide_eq_false_iff_not] at h2
  rcases h k hk with h1 | h1
  · exact absurd h1 h2
  · exact h1
theorem ah_lt {a b : Int32} (h : a < b) : 1 = zB (!decide (b < a)) := by
  rw [decide_eq_false (fun q => Int32.lt_irrefl (Int32.lt_trans h q))]; rfl
theorem ah_eq {a b : Int32} (h : a = b) : 1 = zB (!decide (b < a)) := by
  rw [h, decide_eq_false (Int32.lt_irrefl)]; rfl
theorem ah_gt {a b : Int32} (h1 : ¬ a < b) (h2 : ¬ a = b) : 0 = zB (!decide (b < a)) := by
  have h3 : b < a := by
    rcases Int32.lt_or_le b a with q | q
    · exact q
    · exact absurd (Int32.le_antisymm q (Int32.not_lt.mp h1)) h2
  rw [decide_eq_true h3]; rfl
theorem wMk_0 {S mk : Nat → Int32} {x v : Int32} {t : Nat} : false = wMk S mk x v t 0 := by
  unfold wMk hMark
  rw [Bool.and_false]
theorem wMk_s {S mk : Nat → Int32} {x v : Int32} {t k : Nat} {s : Bool} (es : s = wMk S mk x v t k) : (s || (decide (S t = x) && (decide (S k = x) && decide (mk k = v)))) = wMk S mk x v t (k + 1) := by
  subst es
  show (wMk S mk x v t k || _) = (decide (S t = x) && (hMark S mk x v k || (decide (S k = x) && decide (mk k = v))))
  unfold wMk
  cases decide (S t = x) <;> rfl
