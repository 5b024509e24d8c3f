/-! the face's refusals, and what holds of the class's memory between calls -/
def inB (x lo hi : Int32) : Bool := decide (lo ≤ x) && decide (x ≤ hi)
theorem inB_t {x lo hi : Int32} (h1 : ¬ x < lo) (h2 : x ≤ hi) : inB x lo hi = true := by
  unfold inB
  rw [decide_eq_true (Int32.not_lt.mp h1), decide_eq_true h2]; rfl
theorem inB_f1 {x lo hi : Int32} (h1 : x < lo) : inB x lo hi = false := by
  unfold inB
  rw [decide_eq_false (Int32.not_le.mpr h1)]; rfl
theorem inB_f2 {x lo hi : Int32} (h1 : ¬ x ≤ hi) : inB x lo hi = false := by
  unfold inB
  rw [decide_eq_false h1, Bool.and_false]
theorem inB_s {x lo hi : Int32} (h : inB x lo hi = true) : lo ≤ x ∧ x ≤ hi := by
  unfold inB at h
  rw [Bool.and_eq_true, decide_eq_true_eq, decide_eq_true_eq] at h
  exact h
def fndB (n : Nat) (x : Int32) : Bool := decide (0 ≤ x) && decide (x < nI n)
theorem fndB_t {n : Nat} {x : Int32} (h1 : ¬ x < 0) (h2 : x < nI n) : fndB n x = true := by
  unfold fndB
  rw [decide_eq_true (Int32.not_lt.mp h1), decide_eq_true h2]; rfl
theorem fndB_f1 {n : Nat} {x : Int32} (h1 : x < 0) : fndB n x = false := by
  unfold fndB
  rw [decide_eq_false (Int32.not_le.mpr h1)]; rfl
theorem fndB_f2 {n : Nat} {x : Int32} (h1 : ¬ x < nI n) : fndB n x = false := by
  unfold fndB
  rw [decide_eq_false h1, Bool.and_false]
theorem fndB_s {n : Nat} {x : Int32} (h : fndB n x = true) (hn : n < 2 ^ 31) : ∃ i : Nat, i < n ∧ x = nI i := by
  unfold fndB at h
  rw [Bool.and_eq_true, decide_eq_true_eq, decide_eq_true_eq] at h
  obtain ⟨j, hj, rfl⟩ := nI_of (Int32.not_lt.mpr h.1)
  exact ⟨j, (nI_ltI hj hn).mp h.2, rfl⟩
/-- a number of a small range -/
theorem inB_nI {x hi : Int32} {n : Nat} (h : inB x 0 hi = true) (hn : hi.toInt = n) : ∃ i : Nat, i ≤ n ∧ x = nI i := nI_of2 hn (Int32.not_lt.mpr (inB_s h).1) (inB_s h).2
def k1 (a : Bool) : Int32 := if a = true then 0 else 1
def k2 (a b : Bool) : Int32 := if a = true then (if b = true then 0 else 2) else 1
def k3 (a b c : Bool) : Int32 := if a = true then (if b = true then (if c = true then 0 else 3) else 2) else 1
def eS : String := "java/lang/IllegalStateException"
def eA : String := "java/lang/IllegalArgumentException"
def eI : String := "java/lang/IndexOutOfBoundsException"
def gV (μ : gM) (cnt lc wc : Nat) : Prop := cnt ≤ 60 ∧ μ 2 0 = nI cnt ∧ lc ≤ 40 ∧ μ 3 0 = nI lc ∧ wc ≤ 20 ∧ μ 4 0 = nI wc ∧ (∀ k, vp_in (μ 9 k) 4) ∧ (∀ k, vp_in (μ 15 k) 60) ∧ (∀ k, vp_in (μ 16 k) 60) ∧ (∀ k, k < lc → ix (μ 15 k) < cnt ∧ ix (μ 16 k) < cnt) ∧ (∀ k, vp_in (μ 19 k) 3) ∧ (∀ k, vp_in (μ 21 k) 2)
/-- the values of a sorted row: none, or a thing's number, not above the find's own -/
def thOk (n : Nat) (th : Nat → Int32) : Prop := ∀ k, k < n → th k = -1 ∨ ∃ j : Nat, j ≤ k ∧ th k = nI j
theorem thOk_vp {n k : Nat} {th : Nat → Int32} (h : thOk n th) (hn : n ≤ 60) (hk : k < n) : th k = -1 ∨ vp_in (th k) 60 := by
  rcases h k hk with h1 | ⟨j, h1, h2⟩
  · exact Or.inl h1
  · right
    rw [h2]
    exact vp_in_nI (by omega) (by omega)
theorem nI_nm {j : Nat} (h : j < 2 ^ 31) : ¬ nI j = -1 := by
  intro q
  have h1 := nI_toInt h
  rw [q] at h1
  have h2 : (-1 : Int32).toInt = -1 := by decide
  omega
theorem sMerge_ok {n a b : Nat} {th : Nat → Int32} (h : thOk n th) (hn : n ≤ 60) (ha : a < 60) (hb : b < 60) : thOk n (sMerge n (nI a) (nI b) th) := by
  intro k hk
  unfold sMerge
  by_cases hc : k < n ∧ th k = iMax (nI a) (nI b)
  · rw [if_pos hc]
    right
    have h2 := hc.2
    rcases h k hk with h3 | ⟨j, h3, h4⟩
    · exfalso
      rw [h3] at h2
      unfold iMax at h2
      by_cases q : nI a < nI b
      · rw [if_pos q] at h2; exact nI_nm (by omega) h2.symm
      · rw [if_neg q] at h2; exact nI_nm (by omega) h2.symm
    · rw [h4] at h2
      unfold iMax at h2
      unfold iMin
      by_cases q : nI a < nI b
      · rw [if_pos q] at h2
        have e := (nI_eq (by omega) (by omega)).mp h2
        have q2 := (nI_ltI (by omega) (by omega)).mp q
        rw [if_neg (fun q3 => by have := (nI_ltI (by omega) (by omega)).mp q3; omega)]
        exact ⟨a, by omega, rfl⟩
      · rw [if_neg q] at h2
        have e := (nI_eq (by omega) (by omega)).mp h2
        by_cases q3 : nI b < nI a
        · rw [if_pos q3]
          have := (nI_ltI (by omega) (by omega)).mp q3
          exact ⟨b, by omega, rfl⟩
        · rw [if_neg q3]
          exact ⟨a, by omega, rfl⟩
  · rw [if_neg hc]
    exact h k hk
theorem sStep_ok {n f e : Nat} {jn : Nat → Nat → Bool} {th : Nat → Int32} (h : thOk n th) (hn : n ≤ 60) (hf : f < n) (he : e < n) (hf1 : ¬ th f = -1) : thOk n (sStep n jn f e th) ∧ ¬ sStep n jn f e th f = -1 := by
  unfold sStep
  by_cases hc : ¬ th e = -1 ∧ ¬ th e = th f ∧ jn e f = true
  · rw [if_pos hc]
    rcases h e he with h1 | ⟨a, h1, h2⟩
    · exact absurd h1 hc.1
    rcases h f hf with h3 | ⟨b, h3, h4⟩
    · exact absurd h3 hf1
    rw [h2, h4]
    have hk := sMerge_ok (a := a) (b := b) h hn (by omega) (by omega)
    refine ⟨hk, ?_⟩
    unfold sMerge
    by_cases q : f < n ∧ th f = iMax (nI a) (nI b)
    · rw [if_pos q]
      unfold iMin
      by_cases q2 : nI b < nI a
      · rw [if_pos q2]; exact nI_nm (by omega)
      · rw [if_neg q2]; exact nI_nm (by omega)
    · rw [if_neg q]; exact hf1
  · rw [if_neg hc]
    exact ⟨h, hf1⟩
theorem sIn_ok {n f : Nat} {jn : Nat → Nat → Bool} {th : Nat → Int32} (h : thOk n th) (hn : n ≤ 60) (hf : f < n) (hf1 : ¬ th f = -1) : ∀ e : Nat, e ≤ f → thOk n (sIn n jn f th e) ∧ ¬ sIn n jn f th e f = -1
  | 0, _ => ⟨h, hf1⟩
  | e + 1, he => by
    obtain ⟨h1, h2⟩ := sIn_ok (jn := jn) h hn hf hf1 e (by omega)
    exact sStep_ok h1 hn hf (by omega) h2
theorem sOut_ok {n : Nat} {jn : Nat → Nat → Bool} {th : Nat → Int32} (h : thOk n th) (hn : n ≤ 60) : ∀ f : Nat, f ≤ n → thOk n (sOut n jn th f)
  | 0, _ => h
  | f + 1, hf => by
    have h1 := sOut_ok (jn := jn) h hn f (by omega)
    unfold sOut
    by_cases q : ¬ sOut n jn th f f = -1
    · rw [if_pos q]; exact (sIn_ok h1 hn (by omega) q f (Nat.le_refl f)).1
    · rw [if_neg q]; exact h1
theorem s0_ok {n : Nat} {sb : Nat → Bool} {th : Nat → Int32} : thOk n (s0 n sb th) := by
  intro k hk
  unfold s0
  rw [if_pos hk]
  by_cases q : sb k = true
  · rw [if_pos q]; exact Or.inr ⟨k, Nat.le_refl k, rfl⟩
  · rw [if_neg q]; exact Or.inl rfl
theorem sAll_ok {n : Nat} {jn : Nat → Nat → Bool} {sb : Nat → Bool} {th : Nat → Int32} (hn : n ≤ 60) : thOk n (sAll n jn sb th) := sOut_ok s0_ok hn n (Nat.le_refl n)
theorem fSort_ok {μ : gM} {n : Nat} {x : Int32} {th : Nat → Int32} (hn : n ≤ 60) : thOk n (fSort μ n x th) := sAll_ok hn
theorem fVal_R {μ : gM} {t t' a n : Nat} {x : Int32} {r : Nat → Int32} (h : t = 23 ∨ t = 24) (ht : t' ≠ t) (ha : a < 2) : fVal (gR μ t r) t' a n x = fVal μ t' a n x := by
  unfold fVal
  rw [gR_n (k := t) (j := t') ht, gR_n (k := t) (j := 29 + a) (by omega)]
  have e : fPl (gR μ t r) = fPl μ := by
    funext i
    unfold fPl
    rw [gR_n (k := t) (j := 8) (by omega), gR_n (k := t) (j := 9) (by omega)]
  rw [e]
