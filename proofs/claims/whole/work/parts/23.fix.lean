/-! both ways of failing end with the same things -/
def thR (n : Nat) (th : Nat → Int32) : Prop := ∀ k j : Nat, k < n → j < 60 → th k = nI j → th j = nI j
theorem s0_R {n : Nat} {sb : Nat → Bool} {th : Nat → Int32} (hn : n ≤ 60) : thR n (s0 n sb th) := by
  intro k j hk hj h
  have e0 : s0 n sb th k = if sb k = true then nI k else -1 := if_pos hk
  rw [e0] at h
  by_cases q : sb k = true
  · rw [if_pos q] at h
    have e : k = j := (nI_eq (by omega) (by omega)).mp h
    subst e
    rw [e0, if_pos q]
  · rw [if_neg q] at h
    exact absurd h.symm (nI_nm (by omega))
theorem sMerge_R {n : Nat} {x y : Int32} {th : Nat → Int32} (h : thR n th) (hx : ∃ a, a < 60 ∧ x = nI a ∧ th a = nI a) (hy : ∃ b, b < 60 ∧ y = nI b ∧ th b = nI b) : thR n (sMerge n x y th) := by
  have hlo : ∃ l, l < 60 ∧ iMin x y = nI l ∧ th l = nI l := by
    unfold iMin
    by_cases q : y < x
    · rw [if_pos q]; exact hy
    · rw [if_neg q]; exact hx
  obtain ⟨lo, h1, h2, h3⟩ := hlo
  intro k j hk hj hkj
  unfold sMerge at hkj ⊢
  by_cases q : k < n ∧ th k = iMax x y
  · rw [if_pos q, h2] at hkj
    have e : lo = j := (nI_eq (by omega) (by omega)).mp hkj
    subst e
    by_cases q2 : lo < n ∧ th lo = iMax x y
    · rw [if_pos q2, h2]
    · rw [if_neg q2, h3]
  · rw [if_neg q] at hkj
    have h4 := h k j hk hj hkj
    by_cases q2 : j < n ∧ th j = iMax x y
    · exact absurd ⟨hk, hkj.trans (h4.symm.trans q2.2)⟩ q
    · rw [if_neg q2]; exact h4
theorem thR_lab {n k : Nat} {th : Nat → Int32} (ho : thOk n th) (h : thR n th) (hn : n ≤ 60) (hk : k < n) (h1 : ¬ th k = -1) : ∃ a, a < 60 ∧ th k = nI a ∧ th a = nI a := by
  rcases ho k hk with h2 | ⟨a, h2, h3⟩
  · exact absurd h2 h1
  · exact ⟨a, by omega, h3, h k a hk (by omega) h3⟩
theorem sIn_R {n f : Nat} {jn : Nat → Nat → Bool} {th : Nat → Int32} (ho : thOk n th) (h : thR n th) (hn : n ≤ 60) (hf : f < n) (hf1 : ¬ th f = -1) : ∀ e : Nat, e ≤ f → thR n (sIn n jn f th e)
  | 0, _ => h
  | e + 1, he => by
    have h1 := sIn_R (jn := jn) ho h hn hf hf1 e (by omega)
    obtain ⟨o1, o2⟩ := sIn_ok (jn := jn) ho hn hf hf1 e (by omega)
    show thR n (sStep n jn f e (sIn n jn f th e))
    unfold sStep
    by_cases hc : ¬ sIn n jn f th e e = -1 ∧ ¬ sIn n jn f th e e = sIn n jn f th e f ∧ jn e f = true
    · rw [if_pos hc]
      exact sMerge_R h1 (thR_lab o1 h1 hn (by omega) hc.1) (thR_lab o1 h1 hn hf o2)
    · rw [if_neg hc]; exact h1
theorem sOut_R {n : Nat} {jn : Nat → Nat → Bool} {th : Nat → Int32} (ho : thOk n th) (h : thR n th) (hn : n ≤ 60) : ∀ f : Nat, f ≤ n → thR n (sOut n jn th f)
  | 0, _ => h
  | f + 1, hf => by
    have h1 := sOut_R (jn := jn) ho h hn f (by omega)
    have o1 := sOut_ok (jn := jn) ho hn f (by omega)
    unfold sOut
    by_cases q : ¬ sOut n jn th f f = -1
    · rw [if_pos q]; exact sIn_R o1 h1 hn (by omega) q f (Nat.le_refl f)
    · rw [if_neg q]; exact h1
theorem mSort_Rp {μ : gM} {n : Nat} {x : Int32} {th : Nat → Int32} (hn : n ≤ 60) : thR n (mSort μ n x th) := sOut_R s0_ok (s0_R hn) hn n (Nat.le_refl n)
/-- a thing falls by the rule, where P has failed -/
def Ru (S fr to gp : Nat → Int32) (lc : Nat) (P : Nat → Prop) (x : Nat) : Prop := ∃ y : Int32, (∃ i, i < lc ∧ isOfB S fr to gp (nI x) y i = true) ∧ ∀ i, i < lc → isOfB S fr to gp (nI x) y i = true → P (ix (S (ix (to i))))
def Cl (S fr to gp : Nat → Int32) (lc q : Nat) (P : Nat → Prop) : Prop := P q ∧ ∀ x, x < 60 → Ru S fr to gp lc P x → P x
/-- what is known of the rows -/
def FH (S fr to gp : Nat → Int32) (lc n : Nat) : Prop := n ≤ 60 ∧ thOk n S ∧ thR n S ∧ (∀ k, k < lc → ix (fr k) < n ∧ ix (to k) < n) ∧ ∀ k, k < lc → inB (gp k) 0 3 = true
theorem isOf_iff {S fr to gp : Nat → Int32} {x y : Int32} {i : Nat} : isOfB S fr to gp x y i = true ↔ S (ix (fr i)) = x ∧ gp i = y ∧ ¬ S (ix (to i)) < 0 ∧ ¬ S (ix (to i)) = x := by
  unfold isOfB
  simp only [Bool.and_eq_true, decide_eq_true_eq, Bool.not_eq_true', decide_eq_false_iff_not, and_assoc]
section FIX
variable {S fr to gp : Nat → Int32} {lc n q : Nat}
theorem FH.lab (F : FH S fr to gp lc n) {k : Nat} (hk : k < n) (h : ¬ S k < 0) : ∃ j, j ≤ k ∧ S k = nI j ∧ ix (S k) = j := by
  rcases F.2.1 k hk with h1 | ⟨j, h1, h2⟩
  · rw [h1] at h; exact absurd (by decide) h
  · exact ⟨j, h1, h2, by rw [h2]; exact ix_nI (by have := F.1; omega)⟩
theorem FH.neg (F : FH S fr to gp lc n) {k : Nat} (hk : k < n) : S k < 0 ↔ S k = -1 := th_neg F.2.1 F.1 hk
theorem hold_iff (F : FH S fr to gp lc n) {i : Nat} (hi : i < lc) {x : Int32} (hx : S (ix (fr i)) = x) (hp : ¬ x < 0) : holdB S fr to i = true ↔ ¬ S (ix (to i)) < 0 ∧ ¬ S (ix (to i)) = x := by
  obtain ⟨h1, h2⟩ := F.2.2.2.1 i hi
  unfold holdB
  simp only [Bool.and_eq_true, decide_eq_true_eq]
  rw [F.neg h2, hx]
  have hm : ¬ x = -1 := fun q => hp (by rw [q]; decide)
  exact ⟨fun h => ⟨h.1.2, fun q => h.2 q.symm⟩, fun h => ⟨⟨hm, h.1⟩, fun q => h.2 q.symm⟩⟩
theorem lost_iff {f : Nat → Int32} {x y : Int32} : ∀ m : Nat, lostN S fr to gp f x y m = true ↔ ∀ i, i < m → blockB S fr to gp f x y i = false
  | 0 => ⟨fun _ i hi => absurd hi (Nat.not_lt_zero i), fun _ => rfl⟩
  | m + 1 => by
    show (lostN S fr to gp f x y m && !blockB S fr to gp f x y m) = true ↔ _
    rw [Bool.and_eq_true, lost_iff m, Bool.not_eq_true']
    constructor
    · intro h i hi
      by_cases e : i = m
      · subst e; exact h.2
      · exact h.1 i (by omega)
    · intro h
      exact ⟨fun i hi => h i (by omega), h m (by omega)⟩
theorem block_f {f : Nat → Int32} {x y : Int32} {i : Nat} : blockB S fr to gp f x y i = false ↔ (gp i = y → S (ix (fr i)) = x → holdB S fr to i = true → ¬ f (ix (S (ix (to i)))) = 0) := by
  unfold blockB
  rw [← Bool.not_eq_true]
  simp only [Bool.and_eq_true, decide_eq_true_eq, and_assoc, not_and]
/-- a link lets its thing fail: by the rule -/
theorem fmC_Ru (F : FH S fr to gp lc n) {f : Nat → Int32} {P : Nat → Prop} (hf : ∀ k, k < 60 → ¬ f k = 0 → P k) {i : Nat} (hi : i < lc) (h : fmC S fr to gp lc f i = true) : ∃ j, j < n ∧ S (ix (fr i)) = nI j ∧ ix (S (ix (fr i))) = j ∧ f j = 0 ∧ Ru S fr to gp lc P j := by
  unfold fmC at h
  rw [Bool.and_eq_true, Bool.and_eq_true, decide_eq_true_eq] at h
  obtain ⟨⟨h1, h2⟩, h3⟩ := h
  have hm := F.2.2.2.1 i hi
  have hfr : ¬ S (ix (fr i)) = -1 := by
    unfold holdB at h1
    rw [Bool.and_eq_true, Bool.and_eq_true, decide_eq_true_eq] at h1
    exact h1.1.1
  obtain ⟨j, j1, j2, j3⟩ := F.lab hm.1 (fun q => hfr ((F.neg hm.1).mp q))
  rw [j3] at h2
  refine ⟨j, by omega, j2, j3, h2, gp i, ⟨i, hi, ?_⟩, fun i' hi' ho => ?_⟩
  · rw [isOf_iff]
    have h4 := (hold_iff F hi j2 (nI_pos (by have := F.1; omega))).mp h1
    exact ⟨j2, rfl, h4.1, h4.2⟩
  · rw [isOf_iff] at ho
    have h5 := block_f.mp ((lost_iff lc).mp h3 i' hi') ho.2.1 (ho.1.trans j2.symm) ((hold_iff F hi' ho.1 (nI_pos (by have := F.1; omega))).mpr ⟨ho.2.2.1, ho.2.2.2⟩)
    obtain ⟨a, a1, a2, a3⟩ := F.lab (F.2.2.2.1 i' hi').2 ho.2.2.1
    exact hf _ (by rw [a3]; have := F.1; have := (F.2.2.2.1 i' hi').2; omega) h5
theorem fmN_in (F : FH S fr to gp lc n) {P : Nat → Prop} (hc : Cl S fr to gp lc q P) {f : Nat → Int32} (hf : ∀ k, k < 60 → ¬ f k = 0 → P k) : ∀ m : Nat, m ≤ lc → ∀ k, k < 60 → ¬ fmN S fr to gp lc f m k = 0 → P k
  | 0, _ => hf
  | m + 1, hm => by
    have h1 := fmN_in F hc hf m (by omega)
    unfold fmN
    by_cases hq : fmC S fr to gp lc (fmN S fr to gp lc f m) m = true
    · rw [if_pos hq]
      obtain ⟨j, j1, -, j3, -, j5⟩ := fmC_Ru F h1 (show m < lc by omega) hq
      intro k hk hne
      by_cases e : k = ix (S (ix (fr m)))
      · rw [e, j3]; exact hc.2 j (by have := F.1; omega) j5
      · rw [upd_n e] at hne; exact h1 k hk hne
    · rw [if_neg hq]; exact h1
theorem fRun_in (F : FH S fr to gp lc n) {P : Nat → Prop} (hc : Cl S fr to gp lc q P) : ∀ (m : Nat) (f : Nat → Int32) (b : Bool), (∀ k, k < 60 → ¬ f k = 0 → P k) → ∀ k, k < 60 → ¬ fRun S fr to gp lc m f b k = 0 → P k
  | 0, f, b, hf => hf
  | m + 1, f, b, hf => by
    unfold fRun
    by_cases hb : b = true
    · rw [if_pos hb]; exact fRun_in F hc m _ _ (fmN_in F hc hf lc (Nat.le_refl lc))
    · rw [if_neg hb]; exact hf
/-- a round: nothing falls, or one more -/
theorem fmN_mono {f : Nat → Int32} (hq : ¬ f q = 0) : ∀ m : Nat, ¬ fmN S fr to gp lc f m q = 0
  | 0 => hq
  | m + 1 => by
    have h1 := fmN_mono hq m
    unfold fmN
    by_cases hc : fmC S fr to gp lc (fmN S fr to gp lc f m) m = true
    · rw [if_pos hc]
      by_cases e : q = ix (S (ix (fr m)))
      · rw [e, upd_s]; decide
      · rw [upd_n e]; exact h1
    · rw [if_neg hc]; exact h1
theorem fRun_mono : ∀ (m : Nat) (f : Nat → Int32) (b : Bool), ¬ f q = 0 → ¬ fRun S fr to gp lc m f b q = 0
  | 0, f, b, hq => hq
  | m + 1, f, b, hq => by
    unfold fRun
    by_cases hb : b = true
    · rw [if_pos hb]; exact fRun_mono m _ _ (fmN_mono hq lc)
    · rw [if_neg hb]; exact hq
theorem fmN_cnt (F : FH S fr to gp lc n) {f : Nat → Int32} : ∀ m : Nat, m ≤ lc → (fmM S fr to gp lc f m = false → fmN S fr to gp lc f m = f ∧ ∀ i, i < m → fmC S fr to gp lc f i = false) ∧ cF 60 f + (if fmM S fr to gp lc f m = true then 1 else 0) ≤ cF 60 (fmN S fr to gp lc f m)
  | 0, _ => ⟨fun _ => ⟨rfl, fun i hi => absurd hi (Nat.not_lt_zero i)⟩, Nat.le_refl _⟩
  | m + 1, hm => by
    obtain ⟨h1, h2⟩ := fmN_cnt F (f := f) m (by omega)
    have eM : fmM S fr to gp lc f (m + 1) = (fmM S fr to gp lc f m || fmC S fr to gp lc (fmN S fr to gp lc f m) m) := rfl
    by_cases hc : fmC S fr to gp lc (fmN S fr to gp lc f m) m = true
    · have eN : fmN S fr to gp lc f (m + 1) = upd (fmN S fr to gp lc f m) (ix (S (ix (fr m)))) 1 := if_pos hc
      rw [eM, eN, hc, Bool.or_true]
      refine ⟨fun q => (by cases q), ?_⟩
      obtain ⟨j, j1, j2, j3, j4, -⟩ := fmC_Ru F (P := fun _ => True) (fun _ _ _ => trivial) (show m < lc by omega) hc
      rw [j3, cF_u (by have := F.1; omega) j4, if_pos rfl]
      split at h2 <;> omega
    · have eN : fmN S fr to gp lc f (m + 1) = fmN S fr to gp lc f m := if_neg hc
      rw [eM, eN, Bool.eq_false_iff.mpr hc, Bool.or_false]
      refine ⟨fun q => ⟨(h1 q).1, fun i hi => ?_⟩, h2⟩
      by_cases e : i = m
      · subst e
        have := (h1 q).1
        rw [this] at hc
        exact Bool.eq_false_iff.mpr hc
      · exact (h1 q).2 i (by omega)
theorem fRun_end (F : FH S fr to gp lc n) : ∀ (m : Nat) (f : Nat → Int32), 60 < m + cF 60 f → ∀ i, i < lc → fmC S fr to gp lc (fRun S fr to gp lc m f true) i = false
  | 0, f, h => absurd (cF_le 60 f) (by omega)
  | m + 1, f, h => by
    obtain ⟨h1, h2⟩ := fmN_cnt F (f := f) lc (Nat.le_refl lc)
    have e : fRun S fr to gp lc (m + 1) f true = fRun S fr to gp lc m (fmN S fr to gp lc f lc) (fmM S fr to gp lc f lc) := if_pos rfl
    rw [e]
    cases hM : fmM S fr to gp lc f lc with
    | false =>
      rw [fRun_f rfl, (h1 hM).1]
      exact (h1 hM).2
    | true =>
      rw [hM, if_pos rfl] at h2
      exact fRun_end F m _ (by omega)
/-- what the class lets fail is closed by the rule -/
theorem fRun_Cl (F : FH S fr to gp lc n) {f : Nat → Int32} (hq : q < 60) (hf : ¬ f q = 0) (h1 : 60 < 60 + cF 60 f) : Cl S fr to gp lc q (fun k => ¬ fRun S fr to gp lc 60 f true k = 0) := by
  refine ⟨fRun_mono 60 f true hf, fun x hx hr => ?_⟩
  obtain ⟨y, ⟨i, hi, ho⟩, hall⟩ := hr
  have hend := fRun_end F 60 f h1 i hi
  rw [isOf_iff] at ho
  intro h0
  have hpos : ¬ nI x < 0 := nI_pos (by omega)
  have hhold := (hold_iff F hi ho.1 hpos).mpr ⟨ho.2.2.1, ho.2.2.2⟩
  have e1 : ix (S (ix (fr i))) = x := by rw [ho.1]; exact ix_nI (by omega)
  unfold fmC at hend
  rw [hhold, e1, h0, ho.1, ho.2.1] at hend
  have hl : lostN S fr to gp (fRun S fr to gp lc 60 f true) (nI x) y lc = true := (lost_iff lc).mpr (fun i' hi' => block_f.mpr (fun g1 g2 g3 => hall i' hi' (isOf_iff.mpr ⟨g2, g1, (hold_iff F hi' g2 hpos).mp g3⟩)))
  rw [hl] at hend
  exact absurd hend (by decide)
/-! the reference's rounds -/
theorem mAny_iff {x y : Int32} : ∀ m : Nat, mAny S fr to gp x y m = true ↔ ∃ i, i < m ∧ isOfB S fr to gp x y i = true
  | 0 => ⟨fun h => (by cases h), fun ⟨i, h, _⟩ => absurd h (Nat.not_lt_zero i)⟩
  | m + 1 => by
    show (mAny S fr to gp x y m || isOfB S fr to gp x y m) = true ↔ _
    rw [Bool.or_eq_true, mAny_iff m]
    constructor
    · rintro (⟨i, h1, h2⟩ | h)
      · exact ⟨i, by omega, h2⟩
      · exact ⟨m, by omega, h⟩
    · rintro ⟨i, h1, h2⟩
      by_cases e : i = m
      · subst e; exact Or.inr h2
      · exact Or.inl ⟨i, by omega, h2⟩
theorem mAll_iff {f : Nat → Int32} {x y : Int32} : ∀ m : Nat, mAll S fr to gp f x y m = true ↔ ∀ i, i < m → isOfB S fr to gp x y i = true → ¬ f (ix (S (ix (to i)))) = 0
  | 0 => ⟨fun _ i hi => absurd hi (Nat.not_lt_zero i), fun _ => rfl⟩
  | m + 1 => by
    show (mAll S fr to gp f x y m && (!isOfB S fr to gp x y m || !decide (f (ix (S (ix (to m)))) = 0))) = true ↔ _
    rw [Bool.and_eq_true, mAll_iff m, Bool.or_eq_true, Bool.not_eq_true', Bool.not_eq_true', decide_eq_false_iff_not]
    constructor
    · intro h i hi ho
      by_cases e : i = m
      · subst e
        rcases h.2 with h2 | h2
        · rw [h2] at ho; cases ho
        · exact h2
      · exact h.1 i (by omega) ho
    · intro h
      refine ⟨fun i hi => h i (by omega), ?_⟩
      by_cases ho : isOfB S fr to gp x y m = true
      · exact Or.inr (h m (by omega) ho)
      · exact Or.inl (Bool.eq_false_iff.mpr ho)
theorem mFal_iff {f : Nat → Int32} {x : Int32} : ∀ m : Nat, mFal S fr to gp f lc x m = true ↔ ∃ y : Nat, y < m ∧ mAny S fr to gp x (nI y) lc = true ∧ mAll S fr to gp f x (nI y) lc = true
  | 0 => ⟨fun h => (by cases h), fun ⟨i, h, _⟩ => absurd h (Nat.not_lt_zero i)⟩
  | m + 1 => by
    show (mFal S fr to gp f lc x m || (mAny S fr to gp x (nI m) lc && mAll S fr to gp f x (nI m) lc)) = true ↔ _
    rw [Bool.or_eq_true, mFal_iff m, Bool.and_eq_true]
    constructor
    · rintro (⟨i, h1, h2⟩ | h)
      · exact ⟨i, by omega, h2⟩
      · exact ⟨m, by omega, h⟩
    · rintro ⟨i, h1, h2⟩
      by_cases e : i = m
      · subst e; exact Or.inr h2
      · exact Or.inl ⟨i, by omega, h2⟩
theorem spC_Ru (F : FH S fr to gp lc n) {f : Nat → Int32} {P : Nat → Prop} (hf : ∀ k, k < n → ¬ f k = 0 → P k) {k : Nat} (hk : k < n) (h : spC S fr to gp lc f k = true) : f k = 0 ∧ Ru S fr to gp lc P k := by
  unfold spC at h
  rw [Bool.and_eq_true, Bool.and_eq_true, decide_eq_true_eq, decide_eq_true_eq] at h
  obtain ⟨y, -, h1, h2⟩ := (mFal_iff 4).mp h.2
  refine ⟨h.1.2, nI y, (mAny_iff lc).mp h1, fun i hi ho => ?_⟩
  have h3 := (mAll_iff lc).mp h2 i hi ho
  obtain ⟨a, a1, a2, a3⟩ := F.lab (F.2.2.2.1 i hi).2 (isOf_iff.mp ho).2.2.1
  exact hf _ (by rw [a3]; have := (F.2.2.2.1 i hi).2; omega) h3
theorem spN_in (F : FH S fr to gp lc n) {P : Nat → Prop} (hc : Cl S fr to gp lc q P) {f : Nat → Int32} (hf : ∀ k, k < n → ¬ f k = 0 → P k) : ∀ m : Nat, m ≤ n → ∀ k, k < n → ¬ spN S fr to gp lc f m k = 0 → P k
  | 0, _ => hf
  | m + 1, hm => by
    have h1 := spN_in F hc hf m (by omega)
    unfold spN
    by_cases hq : spC S fr to gp lc (spN S fr to gp lc f m) m = true
    · rw [if_pos hq]
      intro k hk hne
      by_cases e : k = m
      · subst e; exact hc.2 k (by have := F.1; omega) (spC_Ru F h1 hk hq).2
      · rw [upd_n e] at hne; exact h1 k hk hne
    · rw [if_neg hq]; exact h1
theorem sRun_in (F : FH S fr to gp lc n) {P : Nat → Prop} (hc : Cl S fr to gp lc q P) : ∀ (m : Nat) (f : Nat → Int32) (b : Nat), (∀ k, k < n → ¬ f k = 0 → P k) → ∀ k, k < n → ¬ sRun S fr to gp lc n m f b k = 0 → P k
  | 0, f, b, hf => hf
  | m + 1, f, b, hf => by
    unfold sRun
    by_cases hb : b < cF n f
    · rw [if_pos hb]; exact sRun_in F hc m _ _ (spN_in F hc hf n (Nat.le_refl n))
    · rw [if_neg hb]; exact hf
theorem spN_mono {f : Nat → Int32} (hq : ¬ f q = 0) : ∀ m : Nat, ¬ spN S fr to gp lc f m q = 0
  | 0 => hq
  | m + 1 => by
    have h1 := spN_mono hq m
    unfold spN
    by_cases hc : spC S fr to gp lc (spN S fr to gp lc f m) m = true
    · rw [if_pos hc]
      by_cases e : q = m
      · rw [e, upd_s]; decide
      · rw [upd_n e]; exact h1
    · rw [if_neg hc]; exact h1
theorem sRun_mono : ∀ (m : Nat) (f : Nat → Int32) (b : Nat), ¬ f q = 0 → ¬ sRun S fr to gp lc n m f b q = 0
  | 0, f, b, hq => hq
  | m + 1, f, b, hq => by
    unfold sRun
    by_cases hb : b < cF n f
    · rw [if_pos hb]; exact sRun_mono m _ _ (spN_mono hq n)
    · rw [if_neg hb]; exact hq
theorem spN_cnt {f : Nat → Int32} : ∀ m : Nat, m ≤ n → (spN S fr to gp lc f m = f ∧ ∀ k, k < m → spC S fr to gp lc f k = false) ∨ cF n f + 1 ≤ cF n (spN S fr to gp lc f m)
  | 0, _ => Or.inl ⟨rfl, fun k hk => absurd hk (Nat.not_lt_zero k)⟩
  | m + 1, hm => by
    have h1 := spN_cnt (f := f) m (by omega)
    by_cases hc : spC S fr to gp lc (spN S fr to gp lc f m) m = true
    · have eN : spN S fr to gp lc f (m + 1) = upd (spN S fr to gp lc f m) m 1 := if_pos hc
      have h0 : spN S fr to gp lc f m m = 0 := by
        unfold spC at hc
        rw [Bool.and_eq_true, Bool.and_eq_true, decide_eq_true_eq, decide_eq_true_eq] at hc
        exact hc.1.2
      right
      rw [eN, cF_u (by omega) h0]
      rcases h1 with h1 | h1
      · rw [h1.1]; omega
      · omega
    · have eN : spN S fr to gp lc f (m + 1) = spN S fr to gp lc f m := if_neg hc
      rw [eN]
      rcases h1 with h1 | h1
      · left
        refine ⟨h1.1, fun k hk => ?_⟩
        by_cases e : k = m
        · subst e
          rw [h1.1] at hc
          exact Bool.eq_false_iff.mpr hc
        · exact h1.2 k (by omega)
      · exact Or.inr h1
theorem sRun_stop : ∀ (m : Nat) (f : Nat → Int32) (b : Nat), ((b < cF n f ∧ n ≤ m + b) ∨ ∀ k, k < n → spC S fr to gp lc f k = false) → ∀ k, k < n → spC S fr to gp lc (sRun S fr to gp lc n m f b) k = false
  | 0, f, b, h => by
    rcases h with h | h
    · have := cF_le n f; omega
    · exact h
  | m + 1, f, b, h => by
    unfold sRun
    by_cases hb : b < cF n f
    · rw [if_pos hb]
      refine sRun_stop m _ _ ?_
      rcases spN_cnt (S := S) (fr := fr) (to := to) (gp := gp) (lc := lc) (f := f) n (Nat.le_refl n) with h1 | h1
      · rw [h1.1]; exact Or.inr h1.2
      · rcases h with h | h
        · exact Or.inl ⟨by omega, by omega⟩
        · exfalso
          have h2 : ∀ m : Nat, m ≤ n → spN S fr to gp lc f m = f := by
            intro m
            induction m with
            | zero => intro _; rfl
            | succ m ih =>
              intro hm
              have e := ih (by omega)
              show (if spC S fr to gp lc (spN S fr to gp lc f m) m = true then _ else _) = f
              rw [e, h m (by omega)]
              exact if_neg (by decide)
          rw [h2 n (Nat.le_refl n)] at h1
          omega
    · rw [if_neg hb]
      rcases h with h | h
      · exact absurd h.1 hb
      · exact h
theorem sRun_Cl (F : FH S fr to gp lc n) (hq : q < n) {f : Nat → Int32} (hf : ¬ f q = 0) (h1 : 0 < cF n f) : Cl S fr to gp lc q (fun k => k < n ∧ ¬ sRun S fr to gp lc n 60 f 0 k = 0) := by
  refine ⟨⟨hq, sRun_mono 60 f 0 hf⟩, fun x hx hr => ?_⟩
  obtain ⟨y, ⟨i, hi, ho⟩, hall⟩ := hr
  have hoi := isOf_iff.mp ho
  have hm := F.2.2.2.1 i hi
  have hn := F.1
  have hSx : S x = nI x := F.2.2.1 _ x hm.1 (by omega) hoi.1
  have hxn : x < n := by
    rcases F.2.1 _ hm.1 with h2 | ⟨j, h2, h3⟩
    · exact absurd (hoi.1.symm.trans h2) (nI_nm (by omega))
    · have e := (nI_eq (by omega) (by omega)).mp (hoi.1.symm.trans h3)
      omega
  refine ⟨hxn, fun h0 => ?_⟩
  have hs := sRun_stop (S := S) (fr := fr) (to := to) (gp := gp) (lc := lc) 60 f 0 (Or.inl ⟨h1, by omega⟩) x hxn
  obtain ⟨y', hy', ey⟩ := inB_nI (F.2.2.2.2 i hi) (n := 3) rfl
  have hfal : mFal S fr to gp (sRun S fr to gp lc n 60 f 0) lc (nI x) 4 = true := (mFal_iff 4).mpr ⟨y', by omega, (mAny_iff lc).mpr ⟨i, hi, by rw [← ey, hoi.2.1]; exact ho⟩, (mAll_iff lc).mpr (fun i' hi' ho' => (hall i' hi' (by rw [← hoi.2.1, ey]; exact ho')).2)⟩
  unfold spC at hs
  rw [hSx, h0, hfal] at hs
  simp at hs
/-- both end with the same things -/
theorem fail_iff (F : FH S fr to gp lc n) (hq : q < n) {r r' : Nat → Int32} {k : Nat} (hk : k < 60) : ¬ fRun S fr to gp lc 60 (upd (zRow 60 r) q 1) true k = 0 ↔ k < n ∧ ¬ sRun S fr to gp lc n 60 (oneR n (nI q) r') 0 k = 0 := by
  have hn := F.1
  have f1 : ¬ upd (zRow 60 r) q 1 q = 0 := by rw [upd_s]; decide
  have f2 : ¬ oneR n (nI q) r' q = 0 := by
    unfold oneR
    rw [if_pos hq, if_pos rfl]; decide
  have i1 : ∀ j, j < 60 → ¬ upd (zRow 60 r) q 1 j = 0 → j = q := fun j hj h => by
    by_cases e : j = q
    · exact e
    · rw [upd_n e] at h
      exact absurd (show zRow 60 r j = 0 from if_pos hj) h
  have i2 : ∀ j, j < n → ¬ oneR n (nI q) r' j = 0 → j = q := fun j hj h => by
    unfold oneR at h
    rw [if_pos hj] at h
    by_cases e : nI j = nI q
    · exact (nI_eq (by omega) (by omega)).mp e
    · rw [if_neg e] at h; exact absurd rfl h
  have c1 : 60 < 60 + cF 60 (upd (zRow 60 r) q 1) := by
    have h0 : zRow 60 r q = 0 := if_pos (by omega)
    rw [cF_u (by omega) h0]; omega
  have C1 := fRun_Cl F (q := q) (by omega) f1 c1
  have C2 := sRun_Cl F hq f2 (by rw [cF_one hn hq]; decide)
  constructor
  · intro h
    exact fRun_in F C2 60 _ true (fun j hj h9 => by rw [i1 j hj h9]; exact C2.1) k hk h
  · intro h
    exact sRun_in F C1 60 _ 0 (fun j hj h9 => by rw [i2 j hj h9]; exact C1.1) k h.1 h.2
end FIX
theorem cB_tail {p : Nat → Bool} {n : Nat} : ∀ d : Nat, (∀ k, n ≤ k → k < n + d → p k = false) → cB p (n + d) = cB p n
  | 0, _ => rfl
  | d + 1, h => by
    show cB p (n + d) + (if p (n + d) = true then 1 else 0) = _
    rw [cB_tail d (fun k h1 h2 => h k h1 (by omega)), h (n + d) (by omega) (by omega)]
    rfl
