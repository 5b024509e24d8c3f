/-! the same answers: disputes, changes -/
theorem tellB_iff {th tl : Nat → Int32} {x : Int32} {i : Nat} : tellB th tl x i = true ↔ th i = x ∧ ¬ tl i = -1 := by
  unfold tellB
  rw [Bool.and_eq_true, decide_eq_true_eq, decide_eq_true_eq]
theorem uSeen_told {th tl : Nat → Int32} {x : Int32} : ∀ n : Nat, uSeen th tl x n = -1 ∨ ∃ j, j < n ∧ tellB th tl x j = true ∧ tl j = uSeen th tl x n
  | 0 => Or.inl rfl
  | n + 1 => by
    unfold uSeen
    by_cases h : tellB th tl x n = true
    · rw [if_pos h]; exact Or.inr ⟨n, by omega, h, rfl⟩
    · rw [if_neg h]
      rcases uSeen_told (th := th) (tl := tl) (x := x) n with h1 | ⟨j, h1, h2⟩
      · exact Or.inl h1
      · exact Or.inr ⟨j, by omega, h2⟩
theorem uBad_f {th tl : Nat → Int32} {x : Int32} : ∀ n : Nat, uBad th tl x n = false → ∀ i, i < n → tellB th tl x i = true → tl i = uSeen th tl x n
  | 0, _ => fun i hi => absurd hi (Nat.not_lt_zero i)
  | n + 1, h => by
    have h' : (uBad th tl x n || (tellB th tl x n && !decide (uSeen th tl x n = -1) && !decide (tl n = uSeen th tl x n))) = false := h
    rw [Bool.or_eq_false_iff] at h'
    have h1 := uBad_f n h'.1
    intro i hi ht
    unfold uSeen
    by_cases hn : tellB th tl x n = true
    · rw [if_pos hn]
      by_cases e : i = n
      · rw [e]
      · have h2 := h1 i (by omega) ht
        have h3 := h'.2
        have h4 : ¬ uSeen th tl x n = -1 := fun q => (tellB_iff.mp ht).2 (h2.trans q)
        rw [hn, decide_eq_false h4] at h3
        simp at h3
        rw [h3]; exact h2
    · rw [if_neg hn]
      by_cases e : i = n
      · subst e; exact absurd ht hn
      · exact h1 i (by omega) ht
theorem uBad_t {th tl : Nat → Int32} {x : Int32} : ∀ n : Nat, uBad th tl x n = true → ∃ i j, i < n ∧ j < n ∧ tellB th tl x i = true ∧ tellB th tl x j = true ∧ ¬ tl i = tl j
  | 0, h => by cases h
  | n + 1, h => by
    have h' : (uBad th tl x n || (tellB th tl x n && !decide (uSeen th tl x n = -1) && !decide (tl n = uSeen th tl x n))) = true := h
    rw [Bool.or_eq_true] at h'
    rcases h' with h' | h'
    · obtain ⟨i, j, h1, h2, h3⟩ := uBad_t n h'
      exact ⟨i, j, by omega, by omega, h3⟩
    · simp only [Bool.and_eq_true, Bool.not_eq_true', decide_eq_false_iff_not] at h'
      rcases uSeen_told (th := th) (tl := tl) (x := x) n with h1 | ⟨j, h1, h2, h3⟩
      · exact absurd h1 h'.1.2
      · exact ⟨n, j, by omega, by omega, h'.1.1, h2, fun q => h'.2 (q.trans h3)⟩
theorem aBest_told {th tl pl : Nat → Int32} {x : Int32} : ∀ n : Nat, n ≤ 60 → (aBest th tl pl x n = -1 ∧ ∀ i, i < n → ¬ tellB th tl x i = true) ∨ ∃ j, j < n ∧ aBest th tl pl x n = nI j ∧ tellB th tl x j = true
  | 0, _ => Or.inl ⟨rfl, fun i hi => absurd hi (Nat.not_lt_zero i)⟩
  | n + 1, hn => by
    have h1 := aBest_told (th := th) (tl := tl) (pl := pl) (x := x) n (by omega)
    unfold aBest
    by_cases h : tellB th tl x n = true ∧ (aBest th tl pl x n = -1 ∨ ¬ pl (ix (aBest th tl pl x n)) < pl n)
    · rw [if_pos h]; exact Or.inr ⟨n, by omega, rfl, h.1⟩
    · rw [if_neg h]
      rcases h1 with ⟨h1, h2⟩ | ⟨j, h1, h2⟩
      · left
        refine ⟨h1, fun i hi ht => ?_⟩
        by_cases e : i = n
        · subst e; exact h ⟨ht, Or.inl h1⟩
        · exact h2 i (by omega) ht
      · exact Or.inr ⟨j, by omega, h2⟩
theorem aVal_told {th tl pl : Nat → Int32} {x : Int32} {n : Nat} (hn : n ≤ 60) : (aVal th tl pl x n = -1 ∧ ∀ i, i < n → ¬ tellB th tl x i = true) ∨ ∃ j, j < n ∧ aVal th tl pl x n = tl j ∧ tellB th tl x j = true := by
  unfold aVal
  rcases aBest_told (th := th) (tl := tl) (pl := pl) (x := x) n hn with ⟨h1, h2⟩ | ⟨j, h1, h2, h3⟩
  · rw [if_pos h1]; exact Or.inl ⟨rfl, h2⟩
  · rw [h2, if_neg (nI_nm (by omega)), ix_nI (by omega)]
    exact Or.inr ⟨j, h1, rfl, h3⟩
theorem aVal_ge {th tl pl : Nat → Int32} {x : Int32} {n : Nat} (hn : n ≤ 60) (ht : ∀ k, -1 ≤ tl k) : -1 ≤ aVal th tl pl x n := by
  rcases aVal_told (th := th) (tl := tl) (pl := pl) (x := x) hn with ⟨h1, -⟩ | ⟨j, -, h2, -⟩
  · rw [h1]; decide
  · rw [h2]; exact ht j
theorem dAny_iff {th tl : Nat → Int32} {x own : Int32} : ∀ n : Nat, dAny th tl x own n = true ↔ ∃ k, k < n ∧ th k = x ∧ ¬ tl k < 0 ∧ ¬ tl k = own
  | 0 => ⟨fun h => (by cases h), fun ⟨i, h, _⟩ => absurd h (Nat.not_lt_zero i)⟩
  | n + 1 => by
    show (dAny th tl x own n || (decide (th n = x) && !decide (tl n < 0) && !decide (tl n = own))) = true ↔ _
    rw [Bool.or_eq_true, dAny_iff n]
    simp only [Bool.and_eq_true, Bool.not_eq_true', decide_eq_false_iff_not, decide_eq_true_eq]
    constructor
    · rintro (⟨i, h1, h2⟩ | h)
      · exact ⟨i, by omega, h2⟩
      · exact ⟨n, by omega, h.1.1, h.1.2, h.2⟩
    · rintro ⟨i, h1, h2, h3, h4⟩
      by_cases e : i = n
      · subst e; exact Or.inr ⟨⟨h2, h3⟩, h4⟩
      · exact Or.inl ⟨i, by omega, h2, h3, h4⟩
theorem disp_eq {S tl pl : Nat → Int32} {n k : Nat} (hn : n ≤ 60) (ht : ∀ k, -1 ≤ tl k) : (decide (S k = nI k) && uBad S tl (nI k) n) = dPre S tl pl n k n := by
  unfold dPre ownV
  by_cases h : S k = nI k
  · rw [if_pos h, decide_eq_true h, Bool.true_and]
    have neg : ∀ i, tl i < 0 ↔ tl i = -1 := fun i => ge_m1 (ht i)
    cases hb : uBad S tl (nI k) n with
    | true =>
      obtain ⟨i, j, h1, h2, h3, h4, h5⟩ := uBad_t n hb
      rcases aVal_told (th := S) (tl := tl) (pl := pl) (x := nI k) hn with ⟨-, h6⟩ | ⟨b, h6, h7, h8⟩
      · exact absurd h3 (h6 i h1)
      · have e1 : ¬ aVal S tl pl (nI k) n < 0 := by rw [h7, neg]; exact (tellB_iff.mp h8).2
        have e2 : dAny S tl (nI k) (aVal S tl pl (nI k) n) n = true := by
          rw [dAny_iff]
          by_cases e : tl i = aVal S tl pl (nI k) n
          · exact ⟨j, h2, (tellB_iff.mp h4).1, by rw [neg]; exact (tellB_iff.mp h4).2, fun q => h5 (e.trans q.symm)⟩
          · exact ⟨i, h1, (tellB_iff.mp h3).1, by rw [neg]; exact (tellB_iff.mp h3).2, e⟩
        rw [decide_eq_false e1, e2]; rfl
    | false =>
      have hu := uBad_f n hb
      symm
      rw [Bool.and_eq_false_iff]
      rcases aVal_told (th := S) (tl := tl) (pl := pl) (x := nI k) hn with ⟨h6, -⟩ | ⟨b, h6, h7, h8⟩
      · left
        rw [h6]; decide
      · right
        rw [← Bool.not_eq_true, dAny_iff]
        rintro ⟨i, i1, i2, i3, i4⟩
        rw [neg] at i3
        exact i4 ((hu i i1 (tellB_iff.mpr ⟨i2, i3⟩)).trans ((hu b h6 h8).symm.trans h7.symm))
  · rw [if_neg h, decide_eq_false h]
    rfl
theorem chg_eq {S1 S2 tl pl o : Nat → Int32} {n k : Nat} (hn : n ≤ 60) (ht : ∀ k, -1 ≤ tl k) (h1 : thOk n S1) (h2 : thOk n S2) (hk : k < n) : havB S1 S2 tl pl n k = cDif S2 tl pl (cRow S1 tl pl o n n) n k := by
  unfold havB cDif cRow
  rw [if_pos hk]
  have n1 := th_neg h1 hn hk
  have n2 := th_neg h2 hn hk
  by_cases q : S1 k < 0
  · rw [if_pos q, decide_eq_true (n1.mp q)]
    have e : decide ((-2 : Int32) ≤ -2) = true := by decide
    rw [e]
    simp
  · rw [if_neg q, decide_eq_false (fun z => q (n1.mpr z))]
    have hv : -1 ≤ aVal S1 tl pl (S1 k) n := aVal_ge hn ht
    have e : decide (aVal S1 tl pl (S1 k) n ≤ -2) = false := decide_eq_false (fun z => by
      rw [Int32.le_iff_toInt_le] at hv z
      have a1 : (-1 : Int32).toInt = -1 := by decide
      have a2 : (-2 : Int32).toInt = -2 := by decide
      omega)
    rw [e, decide_eq_decide.mpr n2, decide_eq_decide.mpr (show aVal S1 tl pl (S1 k) n = aVal S2 tl pl (S2 k) n ↔ aVal S2 tl pl (S2 k) n = aVal S1 tl pl (S1 k) n from ⟨Eq.symm, Eq.symm⟩)]
    cases decide (S2 k = -1) <;> rfl
