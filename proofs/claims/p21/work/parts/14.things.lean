/-! the things of a day: classes of finds, by what is kept alone -/
theorem cB_mono {p q : Nat → Bool} : ∀ {n : Nat}, (∀ k, k < n → p k = true → q k = true) → cB p n ≤ cB q n
  | 0, _ => Nat.le_refl 0
  | n + 1, h => by
    have h1 := cB_mono (p := p) (q := q) (n := n) (fun k hk => h k (by omega))
    show cB p n + (if p n = true then 1 else 0) ≤ cB q n + (if q n = true then 1 else 0)
    by_cases hp : p n = true
    · rw [if_pos hp, if_pos (h n (by omega) hp)]; omega
    · rw [if_neg hp]; omega
theorem cB_pos {p : Nat → Bool} {q : Nat} : ∀ {n : Nat}, q < n → p q = true → 1 ≤ cB p n
  | 0, h, _ => absurd h (Nat.not_lt_zero q)
  | n + 1, h, hq => by
    show 1 ≤ cB p n + (if p n = true then 1 else 0)
    by_cases e : q = n
    · subst e; rw [if_pos hq]; omega
    · have := cB_pos (p := p) (n := n) (show q < n by omega) hq
      omega
theorem cB_zero {p : Nat → Bool} : ∀ {n : Nat}, (∀ k, k < n → p k = false) → cB p n = 0
  | 0, _ => rfl
  | n + 1, h => by
    show cB p n + (if p n = true then 1 else 0) = 0
    rw [cB_zero (fun k hk => h k (by omega)), h n (by omega)]; rfl
theorem iMM (x y : Int32) : (iMax x y = x ∧ iMin x y = y) ∨ (iMax x y = y ∧ iMin x y = x) := by
  unfold iMax iMin
  by_cases h : x < y
  · right
    rw [if_pos h, if_neg (fun q => Int32.lt_irrefl (Int32.lt_trans h q))]
    exact ⟨rfl, rfl⟩
  · left
    rw [if_neg h]
    by_cases h2 : y < x
    · rw [if_pos h2]; exact ⟨rfl, rfl⟩
    · rw [if_neg h2]; exact ⟨rfl, Int32.le_antisymm (Int32.not_lt.mp h2) (Int32.not_lt.mp h)⟩
/-- the same value at finds that are joined at once, of those that count -/
def eInv (n : Nat) (jn : Nat → Nat → Bool) (sb : Nat → Bool) (f : Nat → Int32) : Prop := ∀ i j, i < j → j < n → sb i = true → sb j = true → jn i j = true → f i = f j
/-- who counts is shown; a thing's number goes with what all joined finds share -/
def sK (n : Nat) (jn : Nat → Nat → Bool) (sb : Nat → Bool) (th : Nat → Int32) : Prop := (∀ k, k < n → (th k = -1 ↔ sb k = false)) ∧ ∀ f : Nat → Int32, eInv n jn sb f → ∀ k a, k < n → a < 60 → th k = nI a → f a = f k
theorem s0_K {n : Nat} {jn : Nat → Nat → Bool} {sb : Nat → Bool} {th : Nat → Int32} (hn : n ≤ 60) : sK n jn sb (s0 n sb th) := by
  refine ⟨fun k hk => ?_, fun f _ k a hk ha h => ?_⟩
  · have e0 : s0 n sb th k = if sb k = true then nI k else -1 := if_pos hk
    rw [e0]
    cases h : sb k
    · simp
    · simp only [if_true]
      exact ⟨fun q => absurd q (nI_nm (by omega)), fun q => by cases q⟩
  · have e0 : s0 n sb th k = if sb k = true then nI k else -1 := if_pos hk
    rw [e0] at h
    by_cases q : sb k = true
    · rw [if_pos q] at h
      rw [(nI_eq (by omega) (by omega)).mp h]
    · rw [if_neg q] at h
      exact absurd h.symm (nI_nm (by omega))
theorem sMerge_K {n a b e f : Nat} {jn : Nat → Nat → Bool} {sb : Nat → Bool} {th : Nat → Int32} (h : sK n jn sb th) (ha : a < 60) (hb : b < 60) (hef : e < f) (hf : f < n) (he1 : th e = nI a) (hf1 : th f = nI b) (hj : jn e f = true) : sK n jn sb (sMerge n (nI a) (nI b) th) := by
  have hse : sb e = true := by
    cases q : sb e
    · exact absurd (he1.symm.trans ((h.1 e (by omega)).mpr q)) (nI_nm (by omega))
    · rfl
  have hsf : sb f = true := by
    cases q : sb f
    · exact absurd (hf1.symm.trans ((h.1 f hf).mpr q)) (nI_nm (by omega))
    · rfl
  refine ⟨fun k hk => ?_, fun F hF k c hk hc hkc => ?_⟩
  · rw [← h.1 k hk]
    unfold sMerge
    by_cases q : k < n ∧ th k = iMax (nI a) (nI b)
    · rw [if_pos q, q.2]
      rcases iMM (nI a) (nI b) with ⟨h1, h2⟩ | ⟨h1, h2⟩
      · rw [h1, h2]
        exact ⟨fun z => absurd z (nI_nm (by omega)), fun z => absurd z (nI_nm (by omega))⟩
      · rw [h1, h2]
        exact ⟨fun z => absurd z (nI_nm (by omega)), fun z => absurd z (nI_nm (by omega))⟩
    · rw [if_neg q]
  · have f1 := h.2 F hF e a (by omega) ha he1
    have f2 := h.2 F hF f b hf hb hf1
    have f3 := hF e f hef hf hse hsf hj
    unfold sMerge at hkc
    by_cases q : k < n ∧ th k = iMax (nI a) (nI b)
    · rw [if_pos q] at hkc
      rcases iMM (nI a) (nI b) with ⟨h1, h2⟩ | ⟨h1, h2⟩
      · rw [h2] at hkc
        have e1 : b = c := (nI_eq (by omega) (by omega)).mp hkc
        have f4 := h.2 F hF k a hk ha (q.2.trans h1)
        rw [← e1, f2, ← f3, ← f1, f4]
      · rw [h2] at hkc
        have e1 : a = c := (nI_eq (by omega) (by omega)).mp hkc
        have f4 := h.2 F hF k b hk hb (q.2.trans h1)
        rw [← e1, f1, f3, ← f2, f4]
    · rw [if_neg q] at hkc
      exact h.2 F hF k c hk hc hkc
theorem sIn_K {n f : Nat} {jn : Nat → Nat → Bool} {sb : Nat → Bool} {th : Nat → Int32} (ho : thOk n th) (h : sK n jn sb th) (hn : n ≤ 60) (hf : f < n) (hf1 : ¬ th f = -1) : ∀ e : Nat, e ≤ f → sK n jn sb (sIn n jn f th e)
  | 0, _ => h
  | e + 1, he => by
    have h1 := sIn_K (jn := jn) ho h hn hf hf1 e (by omega)
    obtain ⟨o1, o2⟩ := sIn_ok (jn := jn) ho hn hf hf1 e (by omega)
    show sK n jn sb (sStep n jn f e (sIn n jn f th e))
    unfold sStep
    by_cases hc : ¬ sIn n jn f th e e = -1 ∧ ¬ sIn n jn f th e e = sIn n jn f th e f ∧ jn e f = true
    · rw [if_pos hc]
      rcases o1 e (by omega) with q1 | ⟨a, q1, q2⟩
      · exact absurd q1 hc.1
      rcases o1 f hf with q3 | ⟨b, q3, q4⟩
      · exact absurd q3 o2
      rw [q2, q4]
      exact sMerge_K h1 (by omega) (by omega) (by omega) hf q2 q4 hc.2.2
    · rw [if_neg hc]; exact h1
theorem sOut_K {n : Nat} {jn : Nat → Nat → Bool} {sb : Nat → Bool} {th : Nat → Int32} (ho : thOk n th) (h : sK n jn sb th) (hn : n ≤ 60) : ∀ f : Nat, f ≤ n → sK n jn sb (sOut n jn th f)
  | 0, _ => h
  | f + 1, hf => by
    have h1 := sOut_K (jn := jn) ho h hn f (by omega)
    have o1 := sOut_ok (jn := jn) ho hn f (by omega)
    unfold sOut
    by_cases q : ¬ sOut n jn th f f = -1
    · rw [if_pos q]; exact sIn_K o1 h1 hn (by omega) q f (Nat.le_refl f)
    · rw [if_neg q]; exact h1
theorem sMerge_same {n i j : Nat} {x y : Int32} {th : Nat → Int32} (hi : i < n) (hj : j < n) (h : th i = th j) : sMerge n x y th i = sMerge n x y th j := by
  unfold sMerge
  by_cases q : i < n ∧ th i = iMax x y
  · rw [if_pos q, if_pos ⟨hj, by rw [← h]; exact q.2⟩]
  · rw [if_neg q, if_neg (fun z => q ⟨hi, by rw [h]; exact z.2⟩)]
    exact h
theorem sStep_same {n f e i j : Nat} {jn : Nat → Nat → Bool} {th : Nat → Int32} (hi : i < n) (hj : j < n) (h : th i = th j) : sStep n jn f e th i = sStep n jn f e th j := by
  unfold sStep
  by_cases hc : ¬ th e = -1 ∧ ¬ th e = th f ∧ jn e f = true
  · rw [if_pos hc]; exact sMerge_same hi hj h
  · rw [if_neg hc]; exact h
theorem sStep_join {n f e : Nat} {jn : Nat → Nat → Bool} {th : Nat → Int32} (he : e < n) (hf : f < n) (h1 : ¬ th e = -1) (hj : jn e f = true) : sStep n jn f e th e = sStep n jn f e th f := by
  unfold sStep
  by_cases q : th e = th f
  · rw [if_neg (fun z => z.2.1 q)]; exact q
  · rw [if_pos ⟨h1, q, hj⟩]
    unfold sMerge
    rcases iMM (th e) (th f) with ⟨m1, m2⟩ | ⟨m1, m2⟩
    · rw [m1, m2, if_pos ⟨he, rfl⟩, if_neg (fun z => q z.2.symm)]
    · rw [m1, m2, if_neg (fun z => q z.2), if_pos ⟨hf, rfl⟩]
theorem sIn_same {n f i j : Nat} {jn : Nat → Nat → Bool} {th : Nat → Int32} (hi : i < n) (hj : j < n) (h : th i = th j) : ∀ e : Nat, sIn n jn f th e i = sIn n jn f th e j
  | 0 => h
  | e + 1 => sStep_same hi hj (sIn_same hi hj h e)
theorem sIn_E {n f : Nat} {jn : Nat → Nat → Bool} {sb : Nat → Bool} {th : Nat → Int32} (ho : thOk n th) (h : sK n jn sb th) (hn : n ≤ 60) (hf : f < n) (hf1 : ¬ th f = -1) : ∀ e : Nat, e ≤ f → ∀ i, i < e → sb i = true → jn i f = true → sIn n jn f th e i = sIn n jn f th e f
  | 0, _ => fun i hi => absurd hi (Nat.not_lt_zero i)
  | e + 1, he => by
    intro i hi hs hj
    have h1 := sIn_K (jn := jn) ho h hn hf hf1 e (by omega)
    show sStep n jn f e (sIn n jn f th e) i = sStep n jn f e (sIn n jn f th e) f
    by_cases q : i = e
    · subst q
      exact sStep_join (by omega) hf (fun z => by rw [(h1.1 i (by omega)).mp z] at hs; cases hs) hj
    · exact sStep_same (by omega) hf (sIn_E ho h hn hf hf1 e (by omega) i (by omega) hs hj)
theorem sOut_E {n : Nat} {jn : Nat → Nat → Bool} {sb : Nat → Bool} {th : Nat → Int32} (ho : thOk n th) (h : sK n jn sb th) (hn : n ≤ 60) : ∀ f : Nat, f ≤ n → ∀ i j, i < j → j < f → sb i = true → sb j = true → jn i j = true → sOut n jn th f i = sOut n jn th f j
  | 0, _ => fun i j _ hj => absurd hj (Nat.not_lt_zero j)
  | f + 1, hf => by
    intro i j hij hj hsi hsj hjn
    have h1 := sOut_K (jn := jn) ho h hn f (by omega)
    have o1 := sOut_ok (jn := jn) ho hn f (by omega)
    have ih := sOut_E ho h hn f (by omega)
    unfold sOut
    by_cases q : ¬ sOut n jn th f f = -1
    · rw [if_pos q]
      by_cases z : j = f
      · subst z
        exact sIn_E o1 h1 hn (by omega) q j (Nat.le_refl j) i hij hsi hjn
      · exact sIn_same (by omega) (by omega) (ih i j hij (by omega) hsi hsj hjn) f
    · rw [if_neg q]
      by_cases z : j = f
      · subst z
        have := (h1.1 j (by omega)).mp (Decidable.not_not.mp q)
        rw [this] at hsj; cases hsj
      · exact ih i j hij (by omega) hsi hsj hjn
/-- nothing in a row -/
def zr : Nat → Int32 := fun _ => 0
/-- the things of day z -/
def tT (μ : gM) (n : Nat) (z : Int32) : Nat → Int32 := fSort μ n z zr
section TH
variable {μ ν : gM} {n : Nat} {z : Int32}
theorem tT_eq {th : Nat → Int32} (h : ∀ k, n ≤ k → th k = 0) : fSort μ n z th = tT μ n z := by
  show sOut n (fJoin μ) (s0 n _ th) n = sOut n (fJoin μ) (s0 n _ zr) n
  rw [s0_ext (r' := zr) h]
theorem tT_out {k : Nat} (h : n ≤ k) : tT μ n z k = 0 := by
  have e : tT μ n z k = s0 n (fun k => fStand μ k z) zr k := sOut_out h n
  rw [e]
  exact if_neg (by omega)
theorem tT_ok (hn : n ≤ 60) : thOk n (tT μ n z) := fSort_ok hn
theorem tT_R (hn : n ≤ 60) : thR n (tT μ n z) := sOut_R s0_ok (s0_R hn) hn n (Nat.le_refl n)
theorem tT_K (hn : n ≤ 60) : sK n (fJoin μ) (fun k => fStand μ k z) (tT μ n z) := sOut_K s0_ok (s0_K hn) hn n (Nat.le_refl n)
theorem tT_neg (hn : n ≤ 60) {k : Nat} (hk : k < n) : tT μ n z k = -1 ↔ fStand μ k z = false := (tT_K hn).1 k hk
theorem tT_E (hn : n ≤ 60) : eInv n (fJoin μ) (fun k => fStand μ k z) (tT μ n z) := fun i j hij hj hsi hsj hjn => sOut_E s0_ok (s0_K hn) hn n (Nat.le_refl n) i j hij hj hsi hsj hjn
theorem tT_lab (hn : n ≤ 60) {k : Nat} (hk : k < n) (hs : fStand μ k z = true) : ∃ a, a ≤ k ∧ tT μ n z k = nI a ∧ tT μ n z a = nI a := by
  rcases tT_ok (μ := μ) (z := z) hn k hk with h1 | ⟨a, h1, h2⟩
  · rw [tT_neg hn hk, hs] at h1; cases h1
  · exact ⟨a, h1, h2, tT_R hn k a hk (by omega) h2⟩
/-- how many things there are -/
def nT (μ : gM) (n : Nat) (z : Int32) : Nat := cB (fun k => decide (tT μ n z k = nI k)) n
theorem tT_cong (hn : n ≤ 60) (h1 : ∀ k, fStand μ k z = fStand ν k z) (h2 : ∀ i j, i < 60 → j < 60 → fJoin μ i j = fJoin ν i j) : tT μ n z = tT ν n z := by
  show sOut n (fJoin μ) (s0 n (fun k => fStand μ k z) zr) n = sOut n (fJoin ν) (s0 n (fun k => fStand ν k z) zr) n
  rw [show (fun k => fStand μ k z) = fun k => fStand ν k z from funext h1]
  exact sOut_cong n (fun i j hij hj => h2 i j (by omega) (by omega))
/-- with more joined there are no more things -/
theorem nT_le (hn : n ≤ 60) (h1 : ∀ k, k < n → fStand μ k z = fStand ν k z) (h2 : ∀ i j, i < j → j < n → fStand μ i z = true → fStand μ j z = true → fJoin μ i j = true → fJoin ν i j = true) : nT ν n z ≤ nT μ n z := by
  refine cB_mono (fun k hk h => ?_)
  rw [decide_eq_true_eq] at h ⊢
  have hs : fStand μ k z = true := by
    rw [h1 k hk]
    cases q : fStand ν k z
    · have := (tT_neg (μ := ν) hn hk).mpr q
      rw [h] at this; exact absurd this (nI_nm (by omega))
    · rfl
  obtain ⟨a, ha, ea, -⟩ := tT_lab hn hk hs
  have hi : eInv n (fJoin μ) (fun k => fStand μ k z) (tT ν n z) := fun i j hij hj hsi hsj hjn => tT_E (μ := ν) hn i j hij hj ((h1 i (by omega)).symm.trans hsi) ((h1 j hj).symm.trans hsj) (h2 i j hij hj hsi hsj hjn)
  have e2 := (tT_K (μ := μ) hn).2 _ hi k a hk (by omega) ea
  rw [h] at e2
  rcases tT_ok (μ := ν) (z := z) hn a (by omega) with q1 | ⟨c, q1, q2⟩
  · rw [q1] at e2; exact absurd e2.symm (nI_nm (by omega))
  · rw [q2] at e2
    have := (nI_eq (by omega) (by omega)).mp e2
    have e3 : a = k := by omega
    rw [ea, e3]
end TH
