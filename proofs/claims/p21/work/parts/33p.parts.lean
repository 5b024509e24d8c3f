/-! what is told of two finds and taken back; a find that comes later -/
theorem nI_sub1 {n : Nat} (h : 0 < n) : nI n - 1 = nI (n - 1) := by
  cases n with
  | zero => exact absurd h (Nat.lt_irrefl 0)
  | succ m => exact nI_pred m
theorem oth_ne {cnt o t : Nat} (ho : o < cnt) (ht : t < cnt - 1) : ¬ (o + 1 + t) % cnt = o := by
  by_cases h : o + 1 + t < cnt
  · rw [Nat.mod_eq_of_lt h]; omega
  · rw [Nat.mod_eq_sub_mod (by omega), Nat.mod_eq_of_lt (by omega)]; omega
theorem join_1 {t a b c d e f : Int32} (h : t = 1) : joinB t a b c d e f = true := by
  subst h
  unfold joinB
  rw [if_neg (by decide)]
  rfl
/-- both places of a pair -/
def t2 (μ : gM) (i j : Nat) (z : Int32) : gM := gU (gU μ (50 + i) j z) (50 + j) i z
theorem t2_at {μ : gM} {i j : Nat} {z : Int32} (hi : i < 60) (hj : j < 60) (a b : Nat) : t2 μ i j z (50 + a) b = if (a = j ∧ b = i) ∨ (a = i ∧ b = j) then z else μ (50 + a) b := tl2 hi hj a b
theorem t2_lo {μ : gM} {i j k : Nat} {z : Int32} (h : k < 50) : t2 μ i j z k = μ k := (gU_n (by omega)).trans (gU_n (by omega))
theorem t2_pe {μ ν : gM} {i j : Nat} {z : Int32} (h : PE μ ν) : PE (t2 μ i j z) (t2 ν i j z) := (h.U _ _ _).U _ _ _
theorem t2_stand {μ : gM} {i j k : Nat} {z d : Int32} : fStand (t2 μ i j z) k d = fStand μ k d := by
  unfold fStand
  rw [t2_lo (by omega), t2_lo (by omega), t2_lo (by omega), t2_lo (by omega)]
theorem t2_join {μ : gM} {i j a b : Nat} {z : Int32} (hi : i < 60) (hj : j < 60) : fJoin (t2 μ i j z) a b = joinB (if (a = j ∧ b = i) ∨ (a = i ∧ b = j) then z else μ (50 + a) b) (μ 26 a) (μ 26 b) (μ 27 a) (μ 27 b) (μ 28 a) (μ 28 b) := by
  unfold fJoin
  rw [t2_at hi hj, t2_lo (by omega), t2_lo (by omega), t2_lo (by omega)]
theorem t2_le {μ : gM} {i j n : Nat} {d : Int32} (hi : i < 60) (hj : j < 60) (hn : n ≤ 60) : nT (t2 μ i j 1) n d ≤ nT μ n d := nT_le hn (fun k _ => t2_stand.symm) (fun a b _ _ _ _ h => by
  rw [t2_join hi hj]
  by_cases q : (a = j ∧ b = i) ∨ (a = i ∧ b = j)
  · rw [if_pos q]; exact join_1 rfl
  · rw [if_neg q]; exact h)
theorem t2_same {μ : gM} {i j n : Nat} {d : Int32} (hi : i < n) (hj : j < n) (hn : n ≤ 60) (hij : ¬ i = j) (hsi : fStand (t2 μ i j 1) i d = true) (hsj : fStand (t2 μ i j 1) j d = true) : tT (t2 μ i j 1) n d i = tT (t2 μ i j 1) n d j := by
  rcases Nat.lt_or_gt_of_ne hij with h | h
  · exact tT_E hn i j h hj hsi hsj (by rw [t2_join (by omega) (by omega), if_pos (Or.inr ⟨rfl, rfl⟩)]; exact join_1 rfl)
  · exact (tT_E hn j i h hi hsj hsi (by rw [t2_join (by omega) (by omega), if_pos (Or.inl ⟨rfl, rfl⟩)]; exact join_1 rfl)).symm
theorem t2_back {μ : gM} {i j : Nat} {w : Int32} (hi : i < 60) (hj : j < 60) (h1 : μ (50 + i) j = w) (h2 : μ (50 + j) i = w) : PE μ (t2 (t2 (t2 μ i j 1) j i 2) i j w) := by
  intro k hk
  by_cases h : k < 50
  · rw [t2_lo h, t2_lo h, t2_lo h]
  · obtain ⟨a, rfl⟩ : ∃ a, k = 50 + a := ⟨k - 50, by omega⟩
    funext b
    rw [t2_at hi hj, t2_at hj hi, t2_at hi hj]
    by_cases q : (a = j ∧ b = i) ∨ (a = i ∧ b = j)
    · rw [if_pos q]
      rcases q with ⟨rfl, rfl⟩ | ⟨rfl, rfl⟩
      · exact h2.symm
      · exact h1.symm
    · rw [if_neg q, if_neg (fun z => q z.symm), if_neg q]
/-! a find more, that doesn't count on the day -/
def nQ (n : Nat) (th' th : Nat → Int32) : Prop := (∀ k, k < n → th' k = th k) ∧ th' n = -1
theorem nQ_merge {n a b : Nat} {th' th : Nat → Int32} (h : nQ n th' th) (ha : a < 60) (hb : b < 60) : nQ n (sMerge (n + 1) (nI a) (nI b) th') (sMerge n (nI a) (nI b) th) := by
  refine ⟨fun k hk => ?_, ?_⟩
  · unfold sMerge
    rw [h.1 k hk]
    by_cases q : th k = iMax (nI a) (nI b)
    · rw [if_pos ⟨by omega, q⟩, if_pos ⟨hk, q⟩]
    · rw [if_neg (fun z => q z.2), if_neg (fun z => q z.2)]
  · unfold sMerge
    rw [if_neg, h.2]
    intro z
    have h1 := z.2
    rw [h.2] at h1
    rcases iMM (nI a) (nI b) with ⟨m, -⟩ | ⟨m, -⟩
    · rw [m] at h1; exact nI_nm (by omega) h1.symm
    · rw [m] at h1; exact nI_nm (by omega) h1.symm
theorem nQ_in {n f : Nat} {jn' jn : Nat → Nat → Bool} {th' th : Nat → Int32} (h : nQ n th' th) (ho : thOk n th) (hn : n + 1 ≤ 60) (hf : f < n) (hf1 : ¬ th f = -1) (hj : ∀ i, i < f → jn' i f = jn i f) : ∀ e : Nat, e ≤ f → nQ n (sIn (n + 1) jn' f th' e) (sIn n jn f th e)
  | 0, _ => h
  | e + 1, he => by
    have h1 := nQ_in h ho hn hf hf1 hj e (by omega)
    obtain ⟨o1, o2⟩ := sIn_ok (jn := jn) ho (by omega) hf hf1 e (by omega)
    show nQ n (sStep (n + 1) jn' f e (sIn (n + 1) jn' f th' e)) (sStep n jn f e (sIn n jn f th e))
    unfold sStep
    rw [h1.1 e (by omega), h1.1 f hf, hj e (by omega)]
    by_cases hc : ¬ sIn n jn f th e e = -1 ∧ ¬ sIn n jn f th e e = sIn n jn f th e f ∧ jn e f = true
    · rw [if_pos hc, if_pos hc]
      rcases o1 e (by omega) with q1 | ⟨a, q1, q2⟩
      · exact absurd q1 hc.1
      rcases o1 f hf with q3 | ⟨b, q3, q4⟩
      · exact absurd q3 o2
      rw [q2, q4]
      exact nQ_merge h1 (by omega) (by omega)
    · rw [if_neg hc, if_neg hc]; exact h1
theorem nQ_out {n : Nat} {jn' jn : Nat → Nat → Bool} {th' th : Nat → Int32} (h : nQ n th' th) (ho : thOk n th) (hn : n + 1 ≤ 60) (hj : ∀ i j, i < j → j < n → jn' i j = jn i j) : ∀ f : Nat, f ≤ n → nQ n (sOut (n + 1) jn' th' f) (sOut n jn th f)
  | 0, _ => h
  | f + 1, hf => by
    have h1 := nQ_out h ho hn hj f (by omega)
    have o1 := sOut_ok (jn := jn) ho (by omega) f (by omega)
    unfold sOut
    rw [h1.1 f (by omega)]
    by_cases q : ¬ sOut n jn th f f = -1
    · rw [if_pos q, if_pos q]; exact nQ_in h1 o1 hn (by omega) q (fun i hi => hj i f hi (by omega)) f (Nat.le_refl f)
    · rw [if_neg q, if_neg q]; exact h1
theorem nT_new {μ ν : gM} {n : Nat} {z : Int32} (hn : n + 1 ≤ 60) (h0 : fStand ν n z = false) (h1 : ∀ k, k < n → fStand ν k z = fStand μ k z) (h2 : ∀ i j, i < j → j < n → fJoin ν i j = fJoin μ i j) : nT ν (n + 1) z = nT μ n z := by
  have hb : nQ n (s0 (n + 1) (fun k => fStand ν k z) zr) (s0 n (fun k => fStand μ k z) zr) := by
    refine ⟨fun k hk => ?_, ?_⟩
    · unfold s0
      rw [if_pos (by omega), if_pos hk]
      show (if fStand ν k z = true then nI k else -1) = (if fStand μ k z = true then nI k else -1)
      rw [h1 k hk]
    · unfold s0
      rw [if_pos (by omega)]
      show (if fStand ν n z = true then nI n else -1) = -1
      rw [h0]
      rfl
  have hq := nQ_out hb s0_ok hn h2 n (Nat.le_refl n)
  have e : tT ν (n + 1) z = sOut (n + 1) (fJoin ν) (s0 (n + 1) (fun k => fStand ν k z) zr) n := by
    show (if ¬ sOut (n + 1) (fJoin ν) (s0 (n + 1) (fun k => fStand ν k z) zr) n n = -1 then _ else _) = _
    exact if_neg (fun q => q hq.2)
  unfold nT
  have h3 : (decide (tT ν (n + 1) z n = nI n)) = false := by
    rw [e, hq.2]
    exact decide_eq_false (fun q => nI_nm (by omega) q.symm)
  show cB _ n + (if decide (tT ν (n + 1) z n = nI n) = true then 1 else 0) = _
  rw [h3]
  show cB _ n + 0 = _
  refine cB_ext (fun k hk => ?_)
  rw [e, hq.1 k hk]
  rfl
