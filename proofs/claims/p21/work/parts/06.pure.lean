/-! the sorting of finds into things, the value of a thing, and the like: pure words, and how they go on by one -/
theorem gU_R {μ : gM} {k i : Nat} {r : Nat → Int32} {x : Int32} : gU (gR μ k r) k i x = gR μ k (upd r i x) := by
  show gR (gR μ k r) k (upd (gR μ k r k) i x) = _
  rw [gR_R, gR_s]
theorem gR_id {μ : gM} {k : Nat} {r : Nat → Int32} (h : r = μ k) : μ = gR μ k r := by rw [h, gR_self]
theorem gRR_s {μ : gM} {k : Nat} {r : Nat → Int32} {F : (Nat → Int32) → Nat → Int32} : gR (gR μ k r) k (F (gR μ k r k)) = gR μ k (F r) := by rw [gR_R, gR_s]
theorem fJoin_R {μ : gM} {t i j : Nat} {r : Nat → Int32} (h : t = 23 ∨ t = 24) : fJoin (gR μ t r) i j = fJoin μ i j := by
  unfold fJoin
  rw [gR_n (k := t) (j := 50 + i) (by omega), gR_n (k := t) (j := 26) (by omega), gR_n (k := t) (j := 27) (by omega), gR_n (k := t) (j := 28) (by omega)]
theorem fStand_R {μ : gM} {t i : Nat} {x : Int32} {r : Nat → Int32} (h : t = 23 ∨ t = 24) : fStand (gR μ t r) i x = fStand μ i x := by
  unfold fStand
  rw [gR_n (k := t) (j := 11) (by omega), gR_n (k := t) (j := 10) (by omega), gR_n (k := t) (j := 9) (by omega), gR_n (k := t) (j := 7) (by omega)]
/-- of the first n finds, those of the higher thing go to the lower one -/
def sMerge (n : Nat) (x y : Int32) (th : Nat → Int32) : Nat → Int32 := fun k => if k < n ∧ th k = iMax x y then iMin x y else th k
theorem sMerge_0 {x y : Int32} {th : Nat → Int32} : th = sMerge 0 x y th := by
  funext k
  exact (if_neg (fun h => absurd h.1 (Nat.not_lt_zero k))).symm
theorem sMerge_at {n : Nat} {x y : Int32} {th : Nat → Int32} : sMerge n x y th n = th n := if_neg (fun h => absurd h.1 (Nat.lt_irrefl n))
theorem sMerge_eq {n : Nat} {x y : Int32} {th : Nat → Int32} (h : sMerge n x y th n = iMax x y) : upd (sMerge n x y th) n (iMin x y) = sMerge (n + 1) x y th := by
  rw [sMerge_at] at h
  funext k
  by_cases hk : k = n
  · subst hk
    rw [upd_s]
    exact (if_pos ⟨Nat.lt_succ_self k, h⟩).symm
  · rw [upd_n hk]
    unfold sMerge
    by_cases h2 : k < n ∧ th k = iMax x y
    · rw [if_pos h2, if_pos ⟨by omega, h2.2⟩]
    · rw [if_neg h2, if_neg (fun h3 => h2 ⟨by omega, h3.2⟩)]
theorem sMerge_ne {n : Nat} {x y : Int32} {th : Nat → Int32} (h : ¬ sMerge n x y th n = iMax x y) : sMerge n x y th = sMerge (n + 1) x y th := by
  rw [sMerge_at] at h
  funext k
  unfold sMerge
  by_cases h2 : k < n ∧ th k = iMax x y
  · rw [if_pos h2, if_pos ⟨by omega, h2.2⟩]
  · rw [if_neg h2, if_neg (fun h3 => ?_)]
    by_cases hk : k = n
    · subst hk
      exact h h3.2
    · exact h2 ⟨by omega, h3.2⟩
/-- find f is held against an earlier one e -/
def sStep (n : Nat) (jn : Nat → Nat → Bool) (f e : Nat) (th : Nat → Int32) : Nat → Int32 := if ¬ th e = -1 ∧ ¬ th e = th f ∧ jn e f = true then sMerge n (th e) (th f) th else th
def sIn (n : Nat) (jn : Nat → Nat → Bool) (f : Nat) (th : Nat → Int32) : Nat → Nat → Int32
  | 0 => th
  | e + 1 => sStep n jn f e (sIn n jn f th e)
def sOut (n : Nat) (jn : Nat → Nat → Bool) (th : Nat → Int32) : Nat → Nat → Int32
  | 0 => th
  | f + 1 => if ¬ sOut n jn th f f = -1 then sIn n jn f (sOut n jn th f) f else sOut n jn th f
theorem sOut_1 {n : Nat} {jn : Nat → Nat → Bool} {th : Nat → Int32} : sOut n jn th 1 = th := by
  show (if ¬ sOut n jn th 0 0 = -1 then sIn n jn 0 (sOut n jn th 0) 0 else sOut n jn th 0) = th
  by_cases h : ¬ sOut n jn th 0 0 = -1
  · rw [if_pos h]; rfl
  · rw [if_neg h]; rfl
theorem sOut_end {n i : Nat} {jn : Nat → Nat → Bool} {th : Nat → Int32} (h1 : n ≤ i) (h2 : i ≤ n ∨ i = 1) : sOut n jn th i = sOut n jn th n := by
  by_cases h : i = n
  · rw [h]
  · have hi : i = 1 := by omega
    have hn : n = 0 := by omega
    subst hi
    subst hn
    exact sOut_1
theorem sStep_1 {n f e : Nat} {jn : Nat → Nat → Bool} {th : Nat → Int32} (h : ¬ th e = -1 ∧ ¬ th e = th f ∧ jn e f = true) : sMerge n (th e) (th f) th = sStep n jn f e th := (if_pos h).symm
theorem sStep_0 {n f e : Nat} {jn : Nat → Nat → Bool} {th : Nat → Int32} (h : ¬ (¬ th e = -1 ∧ ¬ th e = th f ∧ jn e f = true)) : th = sStep n jn f e th := (if_neg h).symm
/-- of the first n finds, those that count are things of their own -/
def s0 (n : Nat) (sb : Nat → Bool) (th : Nat → Int32) : Nat → Int32 := fun k => if k < n then (if sb k = true then nI k else -1) else th k
theorem s0_0 {sb : Nat → Bool} {th : Nat → Int32} : th = s0 0 sb th := by
  funext k
  exact (if_neg (Nat.not_lt_zero k)).symm
theorem s0_s {n : Nat} {sb : Nat → Bool} {th : Nat → Int32} {x : Int32} (h : x = if sb n = true then nI n else -1) : upd (s0 n sb th) n x = s0 (n + 1) sb th := by
  subst h
  funext k
  by_cases hk : k = n
  · subst hk
    rw [upd_s]
    exact (if_pos (Nat.lt_succ_self k)).symm
  · rw [upd_n hk]
    unfold s0
    by_cases h2 : k < n
    · rw [if_pos h2, if_pos (show k < n + 1 by omega)]
    · rw [if_neg h2, if_neg (show ¬ k < n + 1 by omega)]
/-- the things of a day, over n finds -/
def sAll (n : Nat) (jn : Nat → Nat → Bool) (sb : Nat → Bool) (th : Nat → Int32) : Nat → Int32 := sOut n jn (s0 n sb th) n
def fSort (μ : gM) (n : Nat) (x : Int32) (th : Nat → Int32) : Nat → Int32 := sAll n (fJoin μ) (fun k => fStand μ k x) th
/-- the place of a find's source -/
def fPl (μ : gM) (i : Nat) : Int32 := μ 8 (ix (μ 9 i))
def tellB (th tl : Nat → Int32) (x : Int32) (i : Nat) : Bool := decide (th i = x) && decide (¬ tl i = -1)
/-- the find whose value a thing has, of the first ones -/
def aBest (th tl pl : Nat → Int32) (x : Int32) : Nat → Int32
  | 0 => -1
  | i + 1 => if tellB th tl x i = true ∧ (aBest th tl pl x i = -1 ∨ ¬ pl (ix (aBest th tl pl x i)) < pl i) then nI i else aBest th tl pl x i
theorem aBest_in {th tl pl : Nat → Int32} {x : Int32} : ∀ n : Nat, aBest th tl pl x n = -1 ∨ ∃ j : Nat, j < n ∧ aBest th tl pl x n = nI j
  | 0 => Or.inl rfl
  | n + 1 => by
    unfold aBest
    by_cases h : tellB th tl x n = true ∧ (aBest th tl pl x n = -1 ∨ ¬ pl (ix (aBest th tl pl x n)) < pl n)
    · rw [if_pos h]; exact Or.inr ⟨n, Nat.lt_succ_self n, rfl⟩
    · rw [if_neg h]
      rcases aBest_in (th := th) (tl := tl) (pl := pl) (x := x) n with h1 | ⟨j, h1, h2⟩
      · exact Or.inl h1
      · exact Or.inr ⟨j, by omega, h2⟩
theorem aBest_vp {th tl pl : Nat → Int32} {x : Int32} {n : Nat} {b : Int32} (hb : b = aBest th tl pl x n) (hn : n ≤ 60) (h : ¬ b = -1) : vp_in b 60 := by
  rcases aBest_in (th := th) (tl := tl) (pl := pl) (x := x) n with h1 | ⟨j, h1, h2⟩
  · exact absurd (hb.trans h1) h
  · rw [hb, h2]; exact vp_in_nI (by omega) (by omega)
def aVal (th tl pl : Nat → Int32) (x : Int32) (n : Nat) : Int32 := if aBest th tl pl x n = -1 then -1 else tl (ix (aBest th tl pl x n))
def fVal (μ : gM) (t a n : Nat) (x : Int32) : Int32 := aVal (μ t) (μ (29 + a)) (fPl μ) x n
/-- the last value told of a thing, and whether an unlike one was told before it -/
def uSeen (th tl : Nat → Int32) (x : Int32) : Nat → Int32
  | 0 => -1
  | i + 1 => if tellB th tl x i = true then tl i else uSeen th tl x i
def uBad (th tl : Nat → Int32) (x : Int32) : Nat → Bool
  | 0 => false
  | i + 1 => uBad th tl x i || (tellB th tl x i && !decide (uSeen th tl x i = -1) && !decide (tl i = uSeen th tl x i))
theorem uBad_up {th tl : Nat → Int32} {x : Int32} {i n : Nat} (h : uBad th tl x i = true) (hn : i ≤ n) : uBad th tl x n = true := by
  induction n with
  | zero => rw [← Nat.le_zero.mp hn]; exact h
  | succ n ih =>
    by_cases hi : i = n + 1
    · rw [← hi]; exact h
    · show (uBad th tl x n || _) = true
      rw [ih (by omega)]; rfl
/-- a thing has a mark with a value -/
def hMark (th mk : Nat → Int32) (x v : Int32) : Nat → Bool
  | 0 => false
  | i + 1 => hMark th mk x v i || (decide (th i = x) && decide (mk i = v))
theorem hMark_up {th mk : Nat → Int32} {x v : Int32} {i n : Nat} (h : hMark th mk x v i = true) (hn : i ≤ n) : hMark th mk x v n = true := by
  induction n with
  | zero => rw [← Nat.le_zero.mp hn]; exact h
  | succ n ih =>
    by_cases hi : i = n + 1
    · rw [← hi]; exact h
    · show (hMark th mk x v n || _) = true
      rw [ih (by omega)]; rfl
/-- how many numbers below n are such -/
def cB (p : Nat → Bool) : Nat → Nat
  | 0 => 0
  | i + 1 => cB p i + (if p i = true then 1 else 0)
theorem cB_le (p : Nat → Bool) : ∀ n : Nat, cB p n ≤ n
  | 0 => Nat.le_refl 0
  | n + 1 => by
    have h := cB_le p n
    show cB p n + (if p n = true then 1 else 0) ≤ n + 1
    by_cases h2 : p n = true
    · rw [if_pos h2]; omega
    · rw [if_neg h2]; omega
theorem cB_1 {p : Nat → Bool} {i : Nat} (h : p i = true) : cB p i + 1 = cB p (i + 1) := by
  show _ = cB p i + (if p i = true then 1 else 0)
  rw [if_pos h]
theorem cB_0 {p : Nat → Bool} {i : Nat} (h : ¬ p i = true) : cB p i = cB p (i + 1) := by
  show _ = cB p i + (if p i = true then 1 else 0)
  rw [if_neg h]; rfl
