/-! THE RELATION of the class's memory and the reference's -/
theorem cB_ext {p q : Nat → Bool} {n : Nat} (h : ∀ k, k < n → p k = q k) : cB p n = cB q n := cB_cong h
theorem sIn_cong {n f : Nat} {jn jn' : Nat → Nat → Bool} {th : Nat → Int32} : ∀ e : Nat, (∀ i, i < e → jn i f = jn' i f) → sIn n jn f th e = sIn n jn' f th e
  | 0, _ => rfl
  | e + 1, h => by
    show sStep n jn f e (sIn n jn f th e) = sStep n jn' f e (sIn n jn' f th e)
    rw [sIn_cong e (fun i hi => h i (by omega))]
    unfold sStep
    rw [h e (by omega)]
theorem sOut_cong {n : Nat} {jn jn' : Nat → Nat → Bool} {th : Nat → Int32} : ∀ f : Nat, (∀ i k, i < k → k < f → jn i k = jn' i k) → sOut n jn th f = sOut n jn' th f
  | 0, _ => rfl
  | f + 1, h => by
    have h1 := sOut_cong (n := n) (th := th) f (fun i k h1 h2 => h i k h1 (by omega))
    show (if ¬ sOut n jn th f f = -1 then sIn n jn f (sOut n jn th f) f else sOut n jn th f) = (if ¬ sOut n jn' th f f = -1 then sIn n jn' f (sOut n jn' th f) f else sOut n jn' th f)
    rw [h1, sIn_cong f (fun i hi => h i f hi (by omega))]
theorem s0_ext {n : Nat} {sb : Nat → Bool} {r r' : Nat → Int32} (h : ∀ k, n ≤ k → r k = r' k) : s0 n sb r = s0 n sb r' := by
  funext k
  unfold s0
  by_cases hk : k < n
  · rw [if_pos hk, if_pos hk]
  · rw [if_neg hk, if_neg hk]; exact h k (by omega)
theorem shareB_c (x y : Int32) : shareB x y = shareB y x := by
  unfold shareB
  by_cases h : x = y
  · subst h; rfl
  · rw [decide_eq_false (p := x = y) h, decide_eq_false (p := y = x) (fun q => h q.symm), Bool.and_false, Bool.and_false]
theorem joinB_c (t a b c d e f : Int32) : joinB t a b c d e f = joinB t b a d c f e := by
  unfold joinB
  by_cases h : t = 0
  · rw [if_pos h, if_pos h]
    by_cases h1 : a ≠ 0 ∧ b ≠ 0
    · rw [if_pos h1, if_pos ⟨h1.2, h1.1⟩]; exact shareB_c a b
    · rw [if_neg h1, if_neg (fun q => h1 ⟨q.2, q.1⟩), shareB_c c d, shareB_c e f]
  · rw [if_neg h, if_neg h]
/-- the rows that both keep -/
def rEq (μ : gM) : Prop := μ 7 = μ 32 ∧ μ 9 = μ 34 ∧ μ 10 = μ 35 ∧ μ 11 = μ 38 ∧ μ 15 = μ 40 ∧ μ 16 = μ 41 ∧ μ 17 = μ 42 ∧ μ 19 = μ 43 ∧ μ 20 = μ 44 ∧ μ 21 = μ 45 ∧ μ 22 = μ 46
def rMk (μ : gM) : Prop := (∀ q, q < 3 → ∀ i, μ (26 + q) i = μ 36 (3 * i + q)) ∧ (∀ a, a < 2 → ∀ i, μ (29 + a) i = μ 37 (2 * i + a))
def rTl (μ : gM) : Prop := ∀ i j, i < 60 → j < 60 → μ (50 + i) j = μ 39 (60 * i + j) ∧ μ 39 (60 * i + j) = μ 39 (60 * j + i)
def rSc (μ : gM) (cnt : Nat) : Prop := ∀ k, cnt ≤ k → μ 23 k = 0 ∧ μ 24 k = 0 ∧ μ 47 k = 0
def rDy (μ : gM) (cnt lc : Nat) : Prop := μ 0 0 = μ 31 1 ∧ (∀ i, i < cnt → μ 35 i ≤ μ 31 1) ∧ (∀ k, k < lc → inB (μ 42 k) 0 3 = true) ∧ inB (μ 31 1) 0 9999 = true
def rPl (μ : gM) (pl : Nat → Nat) : Prop := ∀ s, s < 4 → μ 8 s = nI (pl s)
def RR (μ : gM) (cnt lc wc : Nat) (pl : Nat → Nat) : Prop := gV μ cnt lc wc ∧ mV μ cnt lc wc pl ∧ rEq μ ∧ rMk μ ∧ rTl μ ∧ rSc μ cnt ∧ rDy μ cnt lc ∧ rPl μ pl
/-- what of μ the relation reads: a memory that differs elsewhere only is related too -/
def rKeep (μ μ' : gM) : Prop := (∀ k, k ≠ 0 → k ≠ 18 → k ≠ 23 → k ≠ 24 → k ≠ 25 → k ≠ 31 → k ≠ 47 → k ≠ 48 → k ≠ 49 → μ' k = μ k) ∧ μ' 0 0 = μ 0 0 ∧ μ' 31 1 = μ 31 1 ∧ μ' 31 4 = μ 31 4 ∧ μ' 31 11 = μ 31 11 ∧ μ' 31 15 = μ 31 15
theorem RR.keep {μ μ' : gM} {cnt lc wc : Nat} {pl : Nat → Nat} (h : RR μ cnt lc wc pl) (hk : rKeep μ μ') (hs : rSc μ' cnt) : RR μ' cnt lc wc pl := by
  obtain ⟨hg, hm, he, hmk, ht, -, hd, hp⟩ := h
  obtain ⟨k0, k1, k2, k3, k4, k5⟩ := hk
  have e : ∀ k, k ≠ 0 → k ≠ 18 → k ≠ 23 → k ≠ 24 → k ≠ 25 → k ≠ 31 → k ≠ 47 → k ≠ 48 → k ≠ 49 → μ' k = μ k := k0
  refine ⟨?_, ?_, ?_, ⟨fun q hq i => ?_, fun a ha i => ?_⟩, fun i j hi hj => ?_, hs, ?_, fun s hs => ?_⟩
  · unfold gV at hg ⊢
    rw [e 2 (by decide) (by decide) (by decide) (by decide) (by decide) (by decide) (by decide) (by decide) (by decide), e 3 (by decide) (by decide) (by decide) (by decide) (by decide) (by decide) (by decide) (by decide) (by decide), e 4 (by decide) (by decide) (by decide) (by decide) (by decide) (by decide) (by decide) (by decide) (by decide), e 9 (by decide) (by decide) (by decide) (by decide) (by decide) (by decide) (by decide) (by decide) (by decide), e 15 (by decide) (by decide) (by decide) (by decide) (by decide) (by decide) (by decide) (by decide) (by decide), e 16 (by decide) (by decide) (by decide) (by decide) (by decide) (by decide) (by decide) (by decide) (by decide), e 19 (by decide) (by decide) (by decide) (by decide) (by decide) (by decide) (by decide) (by decide) (by decide), e 21 (by decide) (by decide) (by decide) (by decide) (by decide) (by decide) (by decide) (by decide) (by decide)]
    exact hg
  · unfold mV at hm ⊢
    rw [k3, k4, k5, e 34 (by decide) (by decide) (by decide) (by decide) (by decide) (by decide) (by decide) (by decide) (by decide), e 40 (by decide) (by decide) (by decide) (by decide) (by decide) (by decide) (by decide) (by decide) (by decide), e 41 (by decide) (by decide) (by decide) (by decide) (by decide) (by decide) (by decide) (by decide) (by decide), e 43 (by decide) (by decide) (by decide) (by decide) (by decide) (by decide) (by decide) (by decide) (by decide), e 45 (by decide) (by decide) (by decide) (by decide) (by decide) (by decide) (by decide) (by decide) (by decide), e 37 (by decide) (by decide) (by decide) (by decide) (by decide) (by decide) (by decide) (by decide) (by decide), e 33 (by decide) (by decide) (by decide) (by decide) (by decide) (by decide) (by decide) (by decide) (by decide), e 35 (by decide) (by decide) (by decide) (by decide) (by decide) (by decide) (by decide) (by decide) (by decide)]
    exact hm
  · unfold rEq at he ⊢
    repeat rw [e _ (by decide) (by decide) (by decide) (by decide) (by decide) (by decide) (by decide) (by decide) (by decide)]
    exact he
  · rw [e (26 + q) (by omega) (by omega) (by omega) (by omega) (by omega) (by omega) (by omega) (by omega) (by omega), e 36 (by decide) (by decide) (by decide) (by decide) (by decide) (by decide) (by decide) (by decide) (by decide)]
    exact hmk.1 q hq i
  · rw [e (29 + a) (by omega) (by omega) (by omega) (by omega) (by omega) (by omega) (by omega) (by omega) (by omega), e 37 (by decide) (by decide) (by decide) (by decide) (by decide) (by decide) (by decide) (by decide) (by decide)]
    exact hmk.2 a ha i
  · rw [e (50 + i) (by omega) (by omega) (by omega) (by omega) (by omega) (by omega) (by omega) (by omega) (by omega), e 39 (by decide) (by decide) (by decide) (by decide) (by decide) (by decide) (by decide) (by decide) (by decide)]
    exact ht i j hi hj
  · unfold rDy at hd ⊢
    rw [k1, k2, e 35 (by decide) (by decide) (by decide) (by decide) (by decide) (by decide) (by decide) (by decide) (by decide), e 42 (by decide) (by decide) (by decide) (by decide) (by decide) (by decide) (by decide) (by decide) (by decide)]
    exact hd
  · rw [e 8 (by decide) (by decide) (by decide) (by decide) (by decide) (by decide) (by decide) (by decide) (by decide)]
    exact hp s hs
/-! what follows of the relation -/
section REL
variable {μ : gM} {cnt lc wc : Nat} {pl : Nat → Nat}
theorem RR.stand (h : RR μ cnt lc wc pl) (i : Nat) (d : Int32) : fStand μ i d = mStand μ i d := by
  obtain ⟨-, -, he, -⟩ := h
  unfold fStand mStand
  rw [he.2.2.2.1, he.2.2.1, he.2.1, he.1]
theorem RR.join (h : RR μ cnt lc wc pl) {i j : Nat} (hi : i < 60) (hj : j < 60) : fJoin μ i j = mJoin μ i j := by
  obtain ⟨-, -, -, hmk, ht, -⟩ := h
  unfold fJoin mJoin
  have m0 := hmk.1 0 (by decide); have m1 := hmk.1 1 (by decide); have m2 := hmk.1 2 (by decide)
  rw [joinB_c, (ht i j hi hj).1, (ht i j hi hj).2, m0 i, m0 j, show μ 27 i = _ from m1 i, show μ 27 j = _ from m1 j, show μ 28 i = _ from m2 i, show μ 28 j = _ from m2 j]
  rfl
theorem RR.sort0 (h : RR μ cnt lc wc pl) (z : Int32) (r : Nat → Int32) : fSort μ cnt z r = mSort μ cnt z r := by
  have hc : cnt ≤ 60 := h.1.1
  unfold fSort mSort
  rw [show (fun k => fStand μ k z) = fun k => mStand μ k z from funext fun k => h.stand k z]
  exact sOut_cong cnt (fun i k h1 h2 => h.join (by omega) (by omega))
theorem RR.sort (h : RR μ cnt lc wc pl) (z : Int32) : fSort μ cnt z (μ 23) = mSort μ cnt z (μ 47) := by
  rw [h.sort0]
  unfold mSort
  show sOut _ _ (s0 _ _ (μ 23)) _ = sOut _ _ (s0 _ _ (μ 47)) _
  rw [s0_ext (r' := μ 47) (fun k hk => by have := h.2.2.2.2.2.1 k hk; rw [this.1, this.2.2])]
theorem RR.sort2 (h : RR μ cnt lc wc pl) (y z : Int32) : fSort μ cnt z (μ 24) = mSort μ cnt z (mSort μ cnt y (μ 47)) := by
  rw [h.sort0]
  unfold mSort
  show sOut _ _ (s0 _ _ (μ 24)) _ = sOut _ _ (s0 _ _ (sAll _ _ _ (μ 47))) _
  rw [s0_ext (r' := sAll cnt (mJoin μ) (fun k => mStand μ k y) (μ 47)) (fun k hk => by
    have h9 := h.2.2.2.2.2.1 k hk
    have e : sAll cnt (mJoin μ) (fun k => mStand μ k y) (μ 47) k = s0 cnt (fun k => mStand μ k y) (μ 47) k := sOut_out hk cnt
    rw [h9.2.1, e]
    unfold s0
    rw [if_neg (by omega), h9.2.2])]
theorem RR.sort_out (_ : RR μ cnt lc wc pl) {z : Int32} {r : Nat → Int32} {k : Nat} (hk : cnt ≤ k) : mSort μ cnt z r k = r k := by
  have e : mSort μ cnt z r k = s0 cnt (fun k => mStand μ k z) r k := sOut_out hk cnt
  rw [e]
  exact if_neg (by omega)
theorem RR.tls (h : RR μ cnt lc wc pl) {a : Nat} (ha : a < 2) : μ (29 + a) = mTl μ a := funext fun i => h.2.2.2.1.2 a ha i
theorem RR.mks (h : RR μ cnt lc wc pl) {q : Nat} (hq : q < 3) : μ (26 + q) = fun k => μ 36 (3 * k + q) := funext fun i => h.2.2.2.1.1 q hq i
theorem RR.plc (h : RR μ cnt lc wc pl) : fPl μ = mPl μ pl := by
  funext i
  unfold fPl mPl
  have h1 := (vp_ix (h.2.1.2.2.2.2.2.2.1 i) (by decide)).2
  rw [h.2.2.1.2.1]
  exact h.2.2.2.2.2.2.2 _ h1
end REL
