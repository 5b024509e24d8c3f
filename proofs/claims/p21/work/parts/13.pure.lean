/-! pure rows: sorting, failing -/
theorem ge_m1 {x : Int32} (h : -1 ≤ x) : x < 0 ↔ x = -1 := by
  constructor
  · intro h2
    rw [Int32.le_iff_toInt_le] at h
    rw [Int32.lt_iff_toInt_lt] at h2
    have e : (-1 : Int32).toInt = -1 := by decide
    have e0 : (0 : Int32).toInt = 0 := by decide
    exact Int32.toInt_inj.mp (by omega)
  · intro h2
    rw [h2]; decide
theorem nI_nneg {j : Nat} (h : j < 2 ^ 31) : ¬ nI j < 0 := nI_pos h
theorem th_neg {n k : Nat} {th : Nat → Int32} (h : thOk n th) (hn : n ≤ 60) (hk : k < n) : th k < 0 ↔ th k = -1 := by
  rcases h k hk with h1 | ⟨j, h1, h2⟩
  · rw [h1]; decide
  · rw [h2]
    exact ⟨fun q => absurd q (nI_pos (by omega)), fun q => absurd q (nI_nm (by omega))⟩
theorem iMax_c (x y : Int32) : iMax x y = iMax y x := by
  unfold iMax
  by_cases h : x < y
  · rw [if_pos h, if_neg (fun q => Int32.lt_irrefl (Int32.lt_trans h q))]
  · rw [if_neg h]
    by_cases h2 : y < x
    · rw [if_pos h2]
    · rw [if_neg h2]
      exact Int32.le_antisymm (Int32.not_lt.mp h2) (Int32.not_lt.mp h)
theorem iMin_c (x y : Int32) : iMin x y = iMin y x := by
  unfold iMin
  by_cases h : y < x
  · rw [if_pos h, if_neg (fun q => Int32.lt_irrefl (Int32.lt_trans h q))]
  · rw [if_neg h]
    by_cases h2 : x < y
    · rw [if_pos h2]
    · rw [if_neg h2]
      exact Int32.le_antisymm (Int32.not_lt.mp h) (Int32.not_lt.mp h2)
/-- past the n-th nothing changes -/
theorem sMerge_out {n k : Nat} {x y : Int32} {th : Nat → Int32} (h : n ≤ k) : sMerge n x y th k = th k := if_neg (fun q => by omega)
theorem sStep_out {n f e k : Nat} {jn : Nat → Nat → Bool} {th : Nat → Int32} (h : n ≤ k) : sStep n jn f e th k = th k := by
  unfold sStep
  by_cases hc : ¬ th e = -1 ∧ ¬ th e = th f ∧ jn e f = true
  · rw [if_pos hc]; exact sMerge_out h
  · rw [if_neg hc]
theorem sIn_out {n f k : Nat} {jn : Nat → Nat → Bool} {th : Nat → Int32} (h : n ≤ k) : ∀ e : Nat, sIn n jn f th e k = th k
  | 0 => rfl
  | e + 1 => (sStep_out h).trans (sIn_out h e)
theorem sOut_out {n k : Nat} {jn : Nat → Nat → Bool} {th : Nat → Int32} (h : n ≤ k) : ∀ f : Nat, sOut n jn th f k = th k
  | 0 => rfl
  | f + 1 => by
    have h1 := sOut_out (jn := jn) (th := th) h f
    unfold sOut
    by_cases q : ¬ sOut n jn th f f = -1
    · rw [if_pos q]; exact (sIn_out h f).trans h1
    · rw [if_neg q]; exact h1
/-- link i counts for thing x and group y -/
def isOfB (th fr to gp : Nat → Int32) (x y : Int32) (i : Nat) : Bool := decide (th (ix (fr i)) = x) && decide (gp i = y) && !decide (th (ix (to i)) < 0) && !decide (th (ix (to i)) = x)
def cF (n : Nat) (f : Nat → Int32) : Nat := cB (fun k => !decide (f k = 0)) n
theorem cF_le (n : Nat) (f : Nat → Int32) : cF n f ≤ n := cB_le _ n
theorem cB_cong {p q : Nat → Bool} : ∀ {n : Nat}, (∀ k, k < n → p k = q k) → cB p n = cB q n
  | 0, _ => rfl
  | n + 1, h => by
    show cB p n + _ = cB q n + _
    rw [cB_cong (fun k hk => h k (by omega)), h n (by omega)]
theorem cF_u {n k : Nat} {f : Nat → Int32} (hk : k < n) (h : f k = 0) : cF n (upd f k 1) = cF n f + 1 := by
  induction n with
  | zero => omega
  | succ n ih =>
    by_cases e : k = n
    · subst e
      have h1 : cB (fun j => !decide (upd f k 1 j = 0)) k = cB (fun j => !decide (f j = 0)) k := cB_cong (fun j hj => by rw [upd_n (by omega)])
      show cB (fun j => !decide (upd f k 1 j = 0)) k + (if (!decide (upd f k 1 k = 0)) = true then 1 else 0) = cB (fun j => !decide (f j = 0)) k + (if (!decide (f k = 0)) = true then 1 else 0) + 1
      rw [h1, upd_s, h]
      rfl
    · have h1 := ih (by omega)
      show cF n (upd f k 1) + (if (!decide (upd f k 1 n = 0)) = true then 1 else 0) = cF n f + (if (!decide (f n = 0)) = true then 1 else 0) + 1
      rw [h1, upd_n (fun q => e q.symm)]
      omega
theorem k3_z {a b c : Bool} (h : k3 a b c = 0) : a = true ∧ b = true ∧ c = true := by
  unfold k3 at h
  cases a <;> cases b <;> cases c <;> revert h <;> decide
theorem k1_z {a : Bool} (h : k1 a = 0) : a = true := by
  unfold k1 at h
  cases a <;> revert h <;> decide
theorem k2_z {a b : Bool} (h : k2 a b = 0) : a = true ∧ b = true := by
  unfold k2 at h
  cases a <;> cases b <;> revert h <;> decide
/-! THE RELATION of the class's memory and the reference's -/
theorem cB_ext {p q : Nat → Bool} {n : Nat} (h : ∀ k, k < n → p k = q k) : cB p n = cB q n := cB_cong h
theorem sIn_cong {n f : Nat} {jn jn' : Nat → Nat → Bool} {th : Nat → Int32} : ∀ e : Nat, (∀ i, i < e → jn i f = jn' i f) → sIn n jn f th e = sIn n jn' f th e
  | 0, _ => rfl
  | e + 1, h => by
    show sStep n jn f e (sIn n jn f th e) = sStep n jn' f e (sIn n jn' f th e)
    rw [sIn_cong e (fun i hi => h i (by omega))]
    unfold sStep
    rw [h e (by omega)]
theorem sOut_cong {n : Nat} {jn jn' : Nat → Nat → Bool} {th : Nat → Int32} : ∀ f : Nat, (∀ i k, i < k → k < f → jn i k = jn' i k) → sOut n jn th f = sOut n jn' th f
  | 0, _ => rfl
  | f + 1, h => by
    have h1 := sOut_cong (n := n) (th := th) f (fun i k h1 h2 => h i k h1 (by omega))
    show (if ¬ sOut n jn th f f = -1 then sIn n jn f (sOut n jn th f) f else sOut n jn th f) = (if ¬ sOut n jn' th f f = -1 then sIn n jn' f (sOut n jn' th f) f else sOut n jn' th f)
    rw [h1, sIn_cong f (fun i hi => h i f hi (by omega))]
theorem s0_ext {n : Nat} {sb : Nat → Bool} {r r' : Nat → Int32} (h : ∀ k, n ≤ k → r k = r' k) : s0 n sb r = s0 n sb r' := by
  funext k
  unfold s0
  by_cases hk : k < n
  · rw [if_pos hk, if_pos hk]
  · rw [if_neg hk, if_neg hk]; exact h k (by omega)
theorem shareB_c (x y : Int32) : shareB x y = shareB y x := by
  unfold shareB
  by_cases h : x = y
  · subst h; rfl
  · rw [decide_eq_false (p := x = y) h, decide_eq_false (p := y = x) (fun q => h q.symm), Bool.and_false, Bool.and_false]
/-! both ways of failing end with the same things -/
def thR (n : Nat) (th : Nat → Int32) : Prop := ∀ k j : Nat, k < n → j < 60 → th k = nI j → th j = nI j
theorem s0_R {n : Nat} {sb : Nat → Bool} {th : Nat → Int32} (hn : n ≤ 60) : thR n (s0 n sb th) := by
  intro k j hk hj h
  have e0 : s0 n sb th k = if sb k = true then nI k else -1 := if_pos hk
  rw [e0] at h
  by_cases q : sb k = true
  · rw [if_pos q] at h
    have e : k = j := (nI_eq (by omega) (by omega)).mp h
    subst e
    rw [e0, if_pos q]
  · rw [if_neg q] at h
    exact absurd h.symm (nI_nm (by omega))
theorem sMerge_R {n : Nat} {x y : Int32} {th : Nat → Int32} (h : thR n th) (hx : ∃ a, a < 60 ∧ x = nI a ∧ th a = nI a) (hy : ∃ b, b < 60 ∧ y = nI b ∧ th b = nI b) : thR n (sMerge n x y th) := by
  have hlo : ∃ l, l < 60 ∧ iMin x y = nI l ∧ th l = nI l := by
    unfold iMin
    by_cases q : y < x
    · rw [if_pos q]; exact hy
    · rw [if_neg q]; exact hx
  obtain ⟨lo, h1, h2, h3⟩ := hlo
  intro k j hk hj hkj
  unfold sMerge at hkj ⊢
  by_cases q : k < n ∧ th k = iMax x y
  · rw [if_pos q, h2] at hkj
    have e : lo = j := (nI_eq (by omega) (by omega)).mp hkj
    subst e
    by_cases q2 : lo < n ∧ th lo = iMax x y
    · rw [if_pos q2, h2]
    · rw [if_neg q2, h3]
  · rw [if_neg q] at hkj
    have h4 := h k j hk hj hkj
    by_cases q2 : j < n ∧ th j = iMax x y
    · exact absurd ⟨hk, hkj.trans (h4.symm.trans q2.2)⟩ q
    · rw [if_neg q2]; exact h4
theorem thR_lab {n k : Nat} {th : Nat → Int32} (ho : thOk n th) (h : thR n th) (hn : n ≤ 60) (hk : k < n) (h1 : ¬ th k = -1) : ∃ a, a < 60 ∧ th k = nI a ∧ th a = nI a := by
  rcases ho k hk with h2 | ⟨a, h2, h3⟩
  · exact absurd h2 h1
  · exact ⟨a, by omega, h3, h k a hk (by omega) h3⟩
theorem sIn_R {n f : Nat} {jn : Nat → Nat → Bool} {th : Nat → Int32} (ho : thOk n th) (h : thR n th) (hn : n ≤ 60) (hf : f < n) (hf1 : ¬ th f = -1) : ∀ e : Nat, e ≤ f → thR n (sIn n jn f th e)
  | 0, _ => h
  | e + 1, he => by
    have h1 := sIn_R (jn := jn) ho h hn hf hf1 e (by omega)
    obtain ⟨o1, o2⟩ := sIn_ok (jn := jn) ho hn hf hf1 e (by omega)
    show thR n (sStep n jn f e (sIn n jn f th e))
    unfold sStep
    by_cases hc : ¬ sIn n jn f th e e = -1 ∧ ¬ sIn n jn f th e e = sIn n jn f th e f ∧ jn e f = true
    · rw [if_pos hc]
      exact sMerge_R h1 (thR_lab o1 h1 hn (by omega) hc.1) (thR_lab o1 h1 hn hf o2)
    · rw [if_neg hc]; exact h1
theorem sOut_R {n : Nat} {jn : Nat → Nat → Bool} {th : Nat → Int32} (ho : thOk n th) (h : thR n th) (hn : n ≤ 60) : ∀ f : Nat, f ≤ n → thR n (sOut n jn th f)
  | 0, _ => h
  | f + 1, hf => by
    have h1 := sOut_R (jn := jn) ho h hn f (by omega)
    have o1 := sOut_ok (jn := jn) ho hn f (by omega)
    unfold sOut
    by_cases q : ¬ sOut n jn th f f = -1
    · rw [if_pos q]; exact sIn_R o1 h1 hn (by omega) q f (Nat.le_refl f)
    · rw [if_neg q]; exact h1
/-- a thing falls by the rule, where P has failed -/
def Ru (S fr to gp : Nat → Int32) (lc : Nat) (P : Nat → Prop) (x : Nat) : Prop := ∃ y : Int32, (∃ i, i < lc ∧ isOfB S fr to gp (nI x) y i = true) ∧ ∀ i, i < lc → isOfB S fr to gp (nI x) y i = true → P (ix (S (ix (to i))))
def Cl (S fr to gp : Nat → Int32) (lc q : Nat) (P : Nat → Prop) : Prop := P q ∧ ∀ x, x < 60 → Ru S fr to gp lc P x → P x
/-- what is known of the rows -/
def FH (S fr to gp : Nat → Int32) (lc n : Nat) : Prop := n ≤ 60 ∧ thOk n S ∧ thR n S ∧ (∀ k, k < lc → ix (fr k) < n ∧ ix (to k) < n) ∧ ∀ k, k < lc → inB (gp k) 0 3 = true
theorem isOf_iff {S fr to gp : Nat → Int32} {x y : Int32} {i : Nat} : isOfB S fr to gp x y i = true ↔ S (ix (fr i)) = x ∧ gp i = y ∧ ¬ S (ix (to i)) < 0 ∧ ¬ S (ix (to i)) = x := by
  unfold isOfB
  simp only [Bool.and_eq_true, decide_eq_true_eq, Bool.not_eq_true', decide_eq_false_iff_not, and_assoc]
section FIX
variable {S fr to gp : Nat → Int32} {lc n q : Nat}
theorem FH.lab (F : FH S fr to gp lc n) {k : Nat} (hk : k < n) (h : ¬ S k < 0) : ∃ j, j ≤ k ∧ S k = nI j ∧ ix (S k) = j := by
  rcases F.2.1 k hk with h1 | ⟨j, h1, h2⟩
  · rw [h1] at h; exact absurd (by decide) h
  · exact ⟨j, h1, h2, by rw [h2]; exact ix_nI (by have := F.1; omega)⟩
theorem FH.neg (F : FH S fr to gp lc n) {k : Nat} (hk : k < n) : S k < 0 ↔ S k = -1 := th_neg F.2.1 F.1 hk
theorem hold_iff (F : FH S fr to gp lc n) {i : Nat} (hi : i < lc) {x : Int32} (hx : S (ix (fr i)) = x) (hp : ¬ x < 0) : holdB S fr to i = true ↔ ¬ S (ix (to i)) < 0 ∧ ¬ S (ix (to i)) = x := by
  obtain ⟨h1, h2⟩ := F.2.2.2.1 i hi
  unfold holdB
  simp only [Bool.and_eq_true, decide_eq_true_eq]
  rw [F.neg h2, hx]
  have hm : ¬ x = -1 := fun q => hp (by rw [q]; decide)
  exact ⟨fun h => ⟨h.1.2, fun q => h.2 q.symm⟩, fun h => ⟨⟨hm, h.1⟩, fun q => h.2 q.symm⟩⟩
theorem lost_iff {f : Nat → Int32} {x y : Int32} : ∀ m : Nat, lostN S fr to gp f x y m = true ↔ ∀ i, i < m → blockB S fr to gp f x y i = false
  | 0 => ⟨fun _ i hi => absurd hi (Nat.not_lt_zero i), fun _ => rfl⟩
  | m + 1 => by
    show (lostN S fr to gp f x y m && !blockB S fr to gp f x y m) = true ↔ _
    rw [Bool.and_eq_true, lost_iff m, Bool.not_eq_true']
    constructor
    · intro h i hi
      by_cases e : i = m
      · subst e; exact h.2
      · exact h.1 i (by omega)
    · intro h
      exact ⟨fun i hi => h i (by omega), h m (by omega)⟩
theorem block_f {f : Nat → Int32} {x y : Int32} {i : Nat} : blockB S fr to gp f x y i = false ↔ (gp i = y → S (ix (fr i)) = x → holdB S fr to i = true → ¬ f (ix (S (ix (to i)))) = 0) := by
  unfold blockB
  rw [← Bool.not_eq_true]
  simp only [Bool.and_eq_true, decide_eq_true_eq, and_assoc, not_and]
/-- a link lets its thing fail: by the rule -/
theorem fmC_Ru (F : FH S fr to gp lc n) {f : Nat → Int32} {P : Nat → Prop} (hf : ∀ k, k < 60 → ¬ f k = 0 → P k) {i : Nat} (hi : i < lc) (h : fmC S fr to gp lc f i = true) : ∃ j, j < n ∧ S (ix (fr i)) = nI j ∧ ix (S (ix (fr i))) = j ∧ f j = 0 ∧ Ru S fr to gp lc P j := by
  unfold fmC at h
  rw [Bool.and_eq_true, Bool.and_eq_true, decide_eq_true_eq] at h
  obtain ⟨⟨h1, h2⟩, h3⟩ := h
  have hm := F.2.2.2.1 i hi
  have hfr : ¬ S (ix (fr i)) = -1 := by
    unfold holdB at h1
    rw [Bool.and_eq_true, Bool.and_eq_true, decide_eq_true_eq] at h1
    exact h1.1.1
  obtain ⟨j, j1, j2, j3⟩ := F.lab hm.1 (fun q => hfr ((F.neg hm.1).mp q))
  rw [j3] at h2
  refine ⟨j, by omega, j2, j3, h2, gp i, ⟨i, hi, ?_⟩, fun i' hi' ho => ?_⟩
  · rw [isOf_iff]
    have h4 := (hold_iff F hi j2 (nI_pos (by have := F.1; omega))).mp h1
    exact ⟨j2, rfl, h4.1, h4.2⟩
  · rw [isOf_iff] at ho
    have h5 := block_f.mp ((lost_iff lc).mp h3 i' hi') ho.2.1 (ho.1.trans j2.symm) ((hold_iff F hi' ho.1 (nI_pos (by have := F.1; omega))).mpr ⟨ho.2.2.1, ho.2.2.2⟩)
    obtain ⟨a, a1, a2, a3⟩ := F.lab (F.2.2.2.1 i' hi').2 ho.2.2.1
    exact hf _ (by rw [a3]; have := F.1; have := (F.2.2.2.1 i' hi').2; omega) h5
theorem fmN_in (F : FH S fr to gp lc n) {P : Nat → Prop} (hc : Cl S fr to gp lc q P) {f : Nat → Int32} (hf : ∀ k, k < 60 → ¬ f k = 0 → P k) : ∀ m : Nat, m ≤ lc → ∀ k, k < 60 → ¬ fmN S fr to gp lc f m k = 0 → P k
  | 0, _ => hf
  | m + 1, hm => by
    have h1 := fmN_in F hc hf m (by omega)
    unfold fmN
    by_cases hq : fmC S fr to gp lc (fmN S fr to gp lc f m) m = true
    · rw [if_pos hq]
      obtain ⟨j, j1, -, j3, -, j5⟩ := fmC_Ru F h1 (show m < lc by omega) hq
      intro k hk hne
      by_cases e : k = ix (S (ix (fr m)))
      · rw [e, j3]; exact hc.2 j (by have := F.1; omega) j5
      · rw [upd_n e] at hne; exact h1 k hk hne
    · rw [if_neg hq]; exact h1
theorem fRun_in (F : FH S fr to gp lc n) {P : Nat → Prop} (hc : Cl S fr to gp lc q P) : ∀ (m : Nat) (f : Nat → Int32) (b : Bool), (∀ k, k < 60 → ¬ f k = 0 → P k) → ∀ k, k < 60 → ¬ fRun S fr to gp lc m f b k = 0 → P k
  | 0, f, b, hf => hf
  | m + 1, f, b, hf => by
    unfold fRun
    by_cases hb : b = true
    · rw [if_pos hb]; exact fRun_in F hc m _ _ (fmN_in F hc hf lc (Nat.le_refl lc))
    · rw [if_neg hb]; exact hf
/-- a round: nothing falls, or one more -/
theorem fmN_mono {f : Nat → Int32} (hq : ¬ f q = 0) : ∀ m : Nat, ¬ fmN S fr to gp lc f m q = 0
  | 0 => hq
  | m + 1 => by
    have h1 := fmN_mono hq m
    unfold fmN
    by_cases hc : fmC S fr to gp lc (fmN S fr to gp lc f m) m = true
    · rw [if_pos hc]
      by_cases e : q = ix (S (ix (fr m)))
      · rw [e, upd_s]; decide
      · rw [upd_n e]; exact h1
    · rw [if_neg hc]; exact h1
theorem fRun_mono : ∀ (m : Nat) (f : Nat → Int32) (b : Bool), ¬ f q = 0 → ¬ fRun S fr to gp lc m f b q = 0
  | 0, f, b, hq => hq
  | m + 1, f, b, hq => by
    unfold fRun
    by_cases hb : b = true
    · rw [if_pos hb]; exact fRun_mono m _ _ (fmN_mono hq lc)
    · rw [if_neg hb]; exact hq
theorem fmN_cnt (F : FH S fr to gp lc n) {f : Nat → Int32} : ∀ m : Nat, m ≤ lc → (fmM S fr to gp lc f m = false → fmN S fr to gp lc f m = f ∧ ∀ i, i < m → fmC S fr to gp lc f i = false) ∧ cF 60 f + (if fmM S fr to gp lc f m = true then 1 else 0) ≤ cF 60 (fmN S fr to gp lc f m)
  | 0, _ => ⟨fun _ => ⟨rfl, fun i hi => absurd hi (Nat.not_lt_zero i)⟩, Nat.le_refl _⟩
  | m + 1, hm => by
    obtain ⟨h1, h2⟩ := fmN_cnt F (f := f) m (by omega)
    have eM : fmM S fr to gp lc f (m + 1) = (fmM S fr to gp lc f m || fmC S fr to gp lc (fmN S fr to gp lc f m) m) := rfl
    by_cases hc : fmC S fr to gp lc (fmN S fr to gp lc f m) m = true
    · have eN : fmN S fr to gp lc f (m + 1) = upd (fmN S fr to gp lc f m) (ix (S (ix (fr m)))) 1 := if_pos hc
      rw [eM, eN, hc, Bool.or_true]
      refine ⟨fun q => (by cases q), ?_⟩
      obtain ⟨j, j1, j2, j3, j4, -⟩ := fmC_Ru F (P := fun _ => True) (fun _ _ _ => trivial) (show m < lc by omega) hc
      rw [j3, cF_u (by have := F.1; omega) j4, if_pos rfl]
      split at h2 <;> omega
    · have eN : fmN S fr to gp lc f (m + 1) = fmN S fr to gp lc f m := if_neg hc
      rw [eM, eN, Bool.eq_false_iff.mpr hc, Bool.or_false]
      refine ⟨fun q => ⟨(h1 q).1, fun i hi => ?_⟩, h2⟩
      by_cases e : i = m
      · subst e
        have := (h1 q).1
        rw [this] at hc
        exact Bool.eq_false_iff.mpr hc
      · exact (h1 q).2 i (by omega)
theorem fRun_end (F : FH S fr to gp lc n) : ∀ (m : Nat) (f : Nat → Int32), 60 < m + cF 60 f → ∀ i, i < lc → fmC S fr to gp lc (fRun S fr to gp lc m f true) i = false
  | 0, f, h => absurd (cF_le 60 f) (by omega)
  | m + 1, f, h => by
    obtain ⟨h1, h2⟩ := fmN_cnt F (f := f) lc (Nat.le_refl lc)
    have e : fRun S fr to gp lc (m + 1) f true = fRun S fr to gp lc m (fmN S fr to gp lc f lc) (fmM S fr to gp lc f lc) := if_pos rfl
    rw [e]
    cases hM : fmM S fr to gp lc f lc with
    | false =>
      rw [fRun_f rfl, (h1 hM).1]
      exact (h1 hM).2
    | true =>
      rw [hM, if_pos rfl] at h2
      exact fRun_end F m _ (by omega)
/-- what the class lets fail is closed by the rule -/
theorem fRun_Cl (F : FH S fr to gp lc n) {f : Nat → Int32} (hq : q < 60) (hf : ¬ f q = 0) (h1 : 60 < 60 + cF 60 f) : Cl S fr to gp lc q (fun k => ¬ fRun S fr to gp lc 60 f true k = 0) := by
  refine ⟨fRun_mono 60 f true hf, fun x hx hr => ?_⟩
  obtain ⟨y, ⟨i, hi, ho⟩, hall⟩ := hr
  have hend := fRun_end F 60 f h1 i hi
  rw [isOf_iff] at ho
  intro h0
  have hpos : ¬ nI x < 0 := nI_pos (by omega)
  have hhold := (hold_iff F hi ho.1 hpos).mpr ⟨ho.2.2.1, ho.2.2.2⟩
  have e1 : ix (S (ix (fr i))) = x := by rw [ho.1]; exact ix_nI (by omega)
  unfold fmC at hend
  rw [hhold, e1, h0, ho.1, ho.2.1] at hend
  have hl : lostN S fr to gp (fRun S fr to gp lc 60 f true) (nI x) y lc = true := (lost_iff lc).mpr (fun i' hi' => block_f.mpr (fun g1 g2 g3 => hall i' hi' (isOf_iff.mpr ⟨g2, g1, (hold_iff F hi' g2 hpos).mp g3⟩)))
  rw [hl] at hend
  exact absurd hend (by decide)
end FIX
theorem cB_tail {p : Nat → Bool} {n : Nat} : ∀ d : Nat, (∀ k, n ≤ k → k < n + d → p k = false) → cB p (n + d) = cB p n
  | 0, _ => rfl
  | d + 1, h => by
    show cB p (n + d) + (if p (n + d) = true then 1 else 0) = _
    rw [cB_tail d (fun k h1 h2 => h k h1 (by omega)), h (n + d) (by omega) (by omega)]
    rfl
/-! the same answers: disputes, changes -/
theorem tellB_iff {th tl : Nat → Int32} {x : Int32} {i : Nat} : tellB th tl x i = true ↔ th i = x ∧ ¬ tl i = -1 := by
  unfold tellB
  rw [Bool.and_eq_true, decide_eq_true_eq, decide_eq_true_eq]
