/-! the relation behind a call that writes -/
theorem rMk_keep {μ μ' : gM} (hk : ∀ k, 26 ≤ k → k < 31 → μ' k = μ k) (h36 : μ' 36 = μ 36) (h37 : μ' 37 = μ 37) (h : rMk μ) : rMk μ' := ⟨fun q hq i => by rw [hk _ (by omega) (by omega), h36]; exact h.1 q hq i, fun a ha i => by rw [hk _ (by omega) (by omega), h37]; exact h.2 a ha i⟩
theorem rTl_keep {μ μ' : gM} (hk : ∀ k, 50 ≤ k → μ' k = μ k) (h39 : μ' 39 = μ 39) (h : rTl μ) : rTl μ' := fun i j hi hj => by rw [hk _ (by omega), h39]; exact h i j hi hj
theorem upd_all {P : Int32 → Prop} {f : Nat → Int32} {i : Nat} {x : Int32} (hf : ∀ k, P (f k)) (hx : P x) : ∀ k, P (upd f i x k) := fun k => by
  by_cases e : k = i
  · subst e; rw [upd_s]; exact hx
  · rw [upd_n e]; exact hf k
theorem upd_lt {P : Nat → Int32 → Prop} {f : Nat → Int32} {n : Nat} {x : Int32} (hf : ∀ k, k < n → P k (f k)) (hx : P n x) : ∀ k, k < n + 1 → P k (upd f n x k) := fun k hk => by
  by_cases e : k = n
  · subst e; rw [upd_s]; exact hx
  · rw [upd_n e]; exact hf k (by omega)
theorem i_le_add {d x : Int32} (hd : inB d 0 9999 = true) (hx : inB x 1 1000 = true) : d ≤ d + x ∧ (d + x ≤ 9999 → inB (d + x) 0 9999 = true) := by
  have h1 := inB_s hd
  have h2 := inB_s hx
  have a0 : (0 : Int32).toInt = 0 := by decide
  have a1 : (1 : Int32).toInt = 1 := by decide
  have a2 : (9999 : Int32).toInt = 9999 := by decide
  have a3 : (1000 : Int32).toInt = 1000 := by decide
  rw [Int32.le_iff_toInt_le, Int32.le_iff_toInt_le, a0, a2] at h1
  rw [Int32.le_iff_toInt_le, Int32.le_iff_toInt_le, a1, a3] at h2
  have e : (d + x).toInt = d.toInt + x.toInt := by
    rw [Int32.toInt_add]
    exact Int.bmod_eq_of_le (by omega) (by omega)
  refine ⟨?_, fun h => ?_⟩
  · rw [Int32.le_iff_toInt_le, e]; omega
  · unfold inB
    rw [decide_eq_true h, Bool.and_true, decide_eq_true_eq, Int32.le_iff_toInt_le, e, a0]; omega
section MV
variable {μ : gM} {cnt lc wc : Nat} {pl : Nat → Nat} {v : Int32}
theorem RR.pass (h : RR μ cnt lc wc pl) {x r : Int32} (hx : inB x 1 1000 = true) (hd : μ 0 0 + x ≤ 9999) : RR (gU (gU (gU (gU μ 0 0 (μ 0 0 + x)) 25 0 r) 31 0 v) 31 1 (μ 31 1 + x)) cnt lc wc pl := by
  obtain ⟨hg, hm, he, hmk, ht, hs, ⟨d1, d2, d3, d4⟩, hp⟩ := h
  have ha := i_le_add (d := μ 31 1) (x := x) d4 hx
  refine ⟨hg, hm, he, rMk_keep (μ := μ) (fun k h1 h2 => by (repeat refine (gR_n (by omega)).trans ?_); rfl) rfl rfl hmk, rTl_keep (μ := μ) (fun k h1 => by (repeat refine (gR_n (by omega)).trans ?_); rfl) rfl ht, hs, ⟨?_, fun i hi => ?_, d3, ?_⟩, hp⟩
  · show μ 0 0 + x = μ 31 1 + x
    rw [d1]
  · exact Int32.le_trans (d2 i hi) ha.1
  · exact ha.2 (by rw [← d1]; exact hd)
theorem RR.setTerm (h : RR μ cnt lc wc pl) {i : Nat} {y r : Int32} : RR (gU (gU (gU (gU μ 7 i y) 25 0 r) 31 0 v) 32 i y) cnt lc wc pl := by
  obtain ⟨hg, hm, he, hmk, ht, hs, hd, hp⟩ := h
  refine ⟨hg, hm, ⟨?_, he.2⟩, rMk_keep (μ := μ) (fun k h1 h2 => by (repeat refine (gR_n (by omega)).trans ?_); rfl) rfl rfl hmk, rTl_keep (μ := μ) (fun k h1 => by (repeat refine (gR_n (by omega)).trans ?_); rfl) rfl ht, hs, hd, hp⟩
  show upd (μ 7) i y = upd (μ 32) i y
  rw [he.1]
theorem RR.strike (h : RR μ cnt lc wc pl) {i : Nat} {r : Int32} : RR (gU (gU (gU (gU μ 11 i 1) 25 0 r) 31 0 v) 38 i 1) cnt lc wc pl := by
  obtain ⟨hg, hm, he, hmk, ht, hs, hd, hp⟩ := h
  refine ⟨hg, hm, ⟨he.1, he.2.1, he.2.2.1, ?_, he.2.2.2.2⟩, rMk_keep (μ := μ) (fun k h1 h2 => by (repeat refine (gR_n (by omega)).trans ?_); rfl) rfl rfl hmk, rTl_keep (μ := μ) (fun k h1 => by (repeat refine (gR_n (by omega)).trans ?_); rfl) rfl ht, hs, hd, hp⟩
  show upd (μ 11) i 1 = upd (μ 38) i 1
  rw [he.2.2.2.1]
theorem RR.link (h : RR μ cnt lc wc pl) {x y z r : Int32} (hx : fndB cnt x = true) (hy : fndB cnt y = true) (hz : inB z 0 3 = true) (hl : lc < 40) : RR (gU (gU (gU (gU (gU (gU (gU (gU (gU (gU μ 15 lc x) 16 lc y) 17 lc z) 3 0 (nI (lc + 1))) 25 0 r) 31 0 v) 40 lc x) 41 lc y) 42 lc z) 31 11 (nI (lc + 1))) cnt (lc + 1) wc pl := by
  obtain ⟨⟨g1, g2, g3, g4, g5, g6, g7, g8, g9, g10, g11, g12⟩, ⟨m1, m2, m3, m4, m5, m6, m7, m8, m9, m10, m11, m12, m13, m14, m15⟩, he, hmk, ht, hs, ⟨d1, d2, d3, d4⟩, hp⟩ := h
  have vx := fnd_vp hx g1
  have vy := fnd_vp hy g1
  have lx := (fnd_ix hx g1).2
  have ly := (fnd_ix hy g1).2
  have e15 : upd (μ 15) lc x = upd (μ 40) lc x := by rw [he.2.2.2.2.1]
  have e16 : upd (μ 16) lc y = upd (μ 41) lc y := by rw [he.2.2.2.2.2.1]
  have e17 : upd (μ 17) lc z = upd (μ 42) lc z := by rw [he.2.2.2.2.2.2.1]
  have q1 : ∀ k, k < lc + 1 → ix (upd (μ 15) lc x k) < cnt := upd_lt (P := fun _ a => ix a < cnt) (fun k hk => (g10 k hk).1) lx
  have q2 : ∀ k, k < lc + 1 → ix (upd (μ 16) lc y k) < cnt := upd_lt (P := fun _ a => ix a < cnt) (fun k hk => (g10 k hk).2) ly
  have q3 : ∀ k, k < lc + 1 → ix (upd (μ 40) lc x k) < cnt := upd_lt (P := fun _ a => ix a < cnt) (fun k hk => (m10 k hk).1) lx
  have q4 : ∀ k, k < lc + 1 → ix (upd (μ 41) lc y k) < cnt := upd_lt (P := fun _ a => ix a < cnt) (fun k hk => (m10 k hk).2) ly
  refine ⟨⟨g1, g2, by omega, rfl, g5, g6, g7, upd_all (P := fun a => vp_in a 60) g8 vx, upd_all (P := fun a => vp_in a 60) g9 vy, fun k hk => ⟨q1 k hk, q2 k hk⟩, g11, g12⟩,
    ⟨m1, m2, by omega, rfl, m5, m6, m7, upd_all (P := fun a => vp_in a 60) m8 vx, upd_all (P := fun a => vp_in a 60) m9 vy, fun k hk => ⟨q3 k hk, q4 k hk⟩, m11, m12, m13, m14, m15⟩,
    ⟨he.1, he.2.1, he.2.2.1, he.2.2.2.1, e15, e16, e17, he.2.2.2.2.2.2.2⟩, rMk_keep (μ := μ) (fun k h1 h2 => by (repeat refine (gR_n (by omega)).trans ?_); rfl) rfl rfl hmk, rTl_keep (μ := μ) (fun k h1 => by (repeat refine (gR_n (by omega)).trans ?_); rfl) rfl ht, hs, ⟨d1, d2, upd_lt (P := fun _ a => inB a 0 3 = true) d3 hz, d4⟩, hp⟩
theorem RR.wish (h : RR μ cnt lc wc pl) {a1 a2 a3 a4 r : Int32} (h1 : inB a1 0 2 = true) (h3 : inB a3 0 1 = true) (hl : wc < 20) : RR (gU (gU (gU (gU (gU (gU (gU (gU (gU (gU (gU (gU μ 19 wc a1) 20 wc a2) 21 wc a3) 22 wc a4) 4 0 (nI (wc + 1))) 25 0 r) 31 0 v) 43 wc a1) 44 wc a2) 45 wc a3) 46 wc a4) 31 15 (nI (wc + 1))) cnt lc (wc + 1) pl := by
  obtain ⟨⟨g1, g2, g3, g4, g5, g6, g7, g8, g9, g10, g11, g12⟩, ⟨m1, m2, m3, m4, m5, m6, m7, m8, m9, m10, m11, m12, m13, m14, m15⟩, he, hmk, ht, hs, hd, hp⟩ := h
  have v1 := inB_vp h1 (N := 3) rfl
  have v3 := inB_vp h3 (N := 2) rfl
  obtain ⟨e1, e2, e3, e4, e5, e6, e7, e8, e9, e10, e11⟩ := he
  refine ⟨⟨g1, g2, g3, g4, by omega, rfl, g7, g8, g9, g10, upd_all (P := fun a => vp_in a 3) g11 v1, upd_all (P := fun a => vp_in a 2) g12 v3⟩,
    ⟨m1, m2, m3, m4, by omega, rfl, m7, m8, m9, m10, upd_all (P := fun a => vp_in a 3) m11 v1, upd_all (P := fun a => vp_in a 2) m12 v3, m13, m14, m15⟩,
    ⟨e1, e2, e3, e4, e5, e6, e7, ?_, ?_, ?_, ?_⟩, rMk_keep (μ := μ) (fun k h1 h2 => by (repeat refine (gR_n (by omega)).trans ?_); rfl) rfl rfl hmk, rTl_keep (μ := μ) (fun k h1 => by (repeat refine (gR_n (by omega)).trans ?_); rfl) rfl ht, hs, hd, hp⟩
  · show upd (μ 19) wc a1 = upd (μ 43) wc a1
    rw [e8]
  · show upd (μ 20) wc a2 = upd (μ 44) wc a2
    rw [e9]
  · show upd (μ 21) wc a3 = upd (μ 45) wc a3
    rw [e10]
  · show upd (μ 22) wc a4 = upd (μ 46) wc a4
    rw [e11]
theorem RR.find (h : RR μ cnt lc wc pl) {a1 a2 a3 a4 a5 a6 r : Int32} (h1 : inB a1 0 3 = true) (h5 : inB a5 (-1) 99 = true) (h6 : inB a6 (-1) 99 = true) (hl : cnt < 60) : RR (gU (gU (gU (gU (gU (gU (gU (gU (gU (gU (gU (gU (gU (gU (gU (gU (gU (gU μ 9 cnt a1) 10 cnt (μ 0 0)) 2 0 (nI (cnt + 1))) 26 cnt a2) 27 cnt a3) 28 cnt a4) 29 cnt a5) 30 cnt a6) 25 0 r) 31 0 v) 34 cnt a1) 35 cnt (μ 31 1)) 36 (3 * cnt) a2) 36 ((3 * cnt) + 1) a3) 36 ((3 * cnt) + 2) a4) 37 (2 * cnt) a5) 37 ((2 * cnt) + 1) a6) 31 4 (nI (cnt + 1))) (cnt + 1) lc wc pl := by
  obtain ⟨⟨g1, g2, g3, g4, g5, g6, g7, g8, g9, g10, g11, g12⟩, ⟨m1, m2, m3, m4, m5, m6, m7, m8, m9, m10, m11, m12, m13, m14, m15⟩, he, hmk, ht, hs, ⟨d1, d2, d3, d4⟩, hp⟩ := h
  have v1 := inB_vp h1 (N := 4) rfl
  obtain ⟨e1, e2, e3, e4, e5⟩ := he
  refine ⟨⟨by omega, rfl, g3, g4, g5, g6, upd_all (P := fun a => vp_in a 4) g7 v1, g8, g9, fun k hk => ⟨Nat.lt_succ_of_lt (g10 k hk).1, Nat.lt_succ_of_lt (g10 k hk).2⟩, g11, g12⟩,
    ⟨by omega, rfl, m3, m4, m5, m6, upd_all (P := fun a => vp_in a 4) m7 v1, m8, m9, fun k hk => ⟨Nat.lt_succ_of_lt (m10 k hk).1, Nat.lt_succ_of_lt (m10 k hk).2⟩, m11, m12, upd_all (P := fun a => -1 ≤ a) (upd_all (P := fun a => -1 ≤ a) m13 (inB_s h5).1) (inB_s h6).1, m14, ?_⟩,
    ⟨e1, ?_, ?_, e4, e5⟩, ⟨fun q hq i => ?_, fun a ha i => ?_⟩, rTl_keep (μ := μ) (fun k h1 => by (repeat refine (gR_n (by omega)).trans ?_); rfl) rfl ht, fun k hk => hs k (by omega), ⟨d1, ?_, d3, d4⟩, hp⟩
  · intro i j hij hj
    show upd (μ 35) cnt (μ 31 1) i ≤ upd (μ 35) cnt (μ 31 1) j
    by_cases ej : j = cnt
    · subst ej
      rw [upd_s]
      by_cases ei : i = j
      · subst ei; rw [upd_s]; exact Int32.le_refl _
      · rw [upd_n ei]; exact d2 i (by omega)
    · rw [upd_n ej, upd_n (show i ≠ cnt by omega)]
      exact m15 i j hij (by omega)
  · show upd (μ 9) cnt a1 = upd (μ 34) cnt a1
    rw [e2]
  · show upd (μ 10) cnt (μ 0 0) = upd (μ 35) cnt (μ 31 1)
    rw [e3, d1]
  · have hq0 := hmk.1 q hq i
    rcases (show q = 0 ∨ q = 1 ∨ q = 2 by omega) with rfl | rfl | rfl
    · show upd (μ 26) cnt a2 i = upd (upd (upd (μ 36) (3 * cnt) a2) (3 * cnt + 1) a3) (3 * cnt + 2) a4 (3 * i + 0)
      rw [upd_n (i := 3 * cnt + 2) (by omega), upd_n (i := 3 * cnt + 1) (by omega)]
      by_cases e : i = cnt
      · subst e; rw [upd_s]; exact upd_s.symm
      · rw [upd_n e, upd_n (by omega)]; exact hq0
    · show upd (μ 27) cnt a3 i = upd (upd (upd (μ 36) (3 * cnt) a2) (3 * cnt + 1) a3) (3 * cnt + 2) a4 (3 * i + 1)
      rw [upd_n (i := 3 * cnt + 2) (by omega)]
      by_cases e : i = cnt
      · subst e; rw [upd_s]; exact upd_s.symm
      · rw [upd_n e, upd_n (by omega), upd_n (by omega)]; exact hq0
    · show upd (μ 28) cnt a4 i = upd (upd (upd (μ 36) (3 * cnt) a2) (3 * cnt + 1) a3) (3 * cnt + 2) a4 (3 * i + 2)
      by_cases e : i = cnt
      · subst e; rw [upd_s]; exact upd_s.symm
      · rw [upd_n e, upd_n (by omega), upd_n (by omega), upd_n (by omega)]; exact hq0
  · have hq0 := hmk.2 a ha i
    rcases (show a = 0 ∨ a = 1 by omega) with rfl | rfl
    · show upd (μ 29) cnt a5 i = upd (upd (μ 37) (2 * cnt) a5) (2 * cnt + 1) a6 (2 * i + 0)
      rw [upd_n (i := 2 * cnt + 1) (by omega)]
      by_cases e : i = cnt
      · subst e; rw [upd_s]; exact upd_s.symm
      · rw [upd_n e, upd_n (by omega)]; exact hq0
    · show upd (μ 30) cnt a6 i = upd (upd (μ 37) (2 * cnt) a5) (2 * cnt + 1) a6 (2 * i + 1)
      by_cases e : i = cnt
      · subst e; rw [upd_s]; exact upd_s.symm
      · rw [upd_n e, upd_n (by omega), upd_n (by omega)]; exact hq0
  · exact upd_lt (P := fun _ a => a ≤ μ 31 1) d2 (Int32.le_refl _)
theorem gV_keep {μ' : gM} (hk : ∀ k, k < 23 → μ' k = μ k) (h : gV μ cnt lc wc) : gV μ' cnt lc wc := by
  unfold gV at h ⊢
  rw [hk 2 (by decide), hk 3 (by decide), hk 4 (by decide), hk 9 (by decide), hk 15 (by decide), hk 16 (by decide), hk 19 (by decide), hk 21 (by decide)]
  exact h
theorem RR.tell (h : RR μ cnt lc wc pl) {i j : Nat} {z r : Int32} (hi : i < 60) (hj : j < 60) (hij : i ≠ j) : RR (gU (gU (gU (gU (gU (gU μ (50 + i) j z) (50 + j) i z) 25 0 r) 31 0 v) 39 (60 * i + j) z) 39 (60 * j + i) z) cnt lc wc pl := by
  obtain ⟨hg, hm, he, hmk, ht, hs, hd, hp⟩ := h
  obtain ⟨μ1, e1⟩ : ∃ μ1, gU (gU μ (50 + i) j z) (50 + j) i z = μ1 := ⟨_, rfl⟩
  have e : ∀ k, k < 50 → μ1 k = μ k := fun k hk => by rw [← e1]; exact (gU_n (by omega)).trans (gU_n (by omega))
  have et : ∀ a b, a < 60 → b < 60 → μ1 (50 + a) b = if (a = i ∧ b = j) ∨ (a = j ∧ b = i) then z else μ (50 + a) b := by
    intro a b ha hb
    rw [← e1]
    by_cases a2 : a = j
    · subst a2
      rw [gU_s]
      by_cases b2 : b = i
      · subst b2; rw [upd_s, if_pos (Or.inr ⟨rfl, rfl⟩)]
      · rw [upd_n b2, if_neg (fun q => by rcases q with q | q <;> omega)]
        rw [gU_n (by omega)]
    · rw [gU_n (by omega)]
      by_cases a3 : a = i
      · subst a3
        rw [gU_s]
        by_cases b2 : b = j
        · subst b2; rw [upd_s, if_pos (Or.inl ⟨rfl, rfl⟩)]
        · rw [upd_n b2, if_neg (fun q => by rcases q with q | q <;> omega)]
      · rw [gU_n (by omega), if_neg (fun q => by rcases q with q | q <;> omega)]
  rw [e1]
  have k39 : ∀ a b, a < 60 → b < 60 → upd (upd (μ1 39) (60 * i + j) z) (60 * j + i) z (60 * a + b) = if (a = i ∧ b = j) ∨ (a = j ∧ b = i) then z else μ 39 (60 * a + b) := by
    intro a b ha hb
    by_cases q1 : a = j ∧ b = i
    · obtain ⟨rfl, rfl⟩ := q1
      rw [upd_s, if_pos (Or.inr ⟨rfl, rfl⟩)]
    · rw [upd_n (by omega)]
      by_cases q2 : a = i ∧ b = j
      · obtain ⟨rfl, rfl⟩ := q2
        rw [upd_s, if_pos (Or.inl ⟨rfl, rfl⟩)]
      · rw [upd_n (by omega), if_neg (fun q => q.elim q2 q1), e 39 (by decide)]
  have eE : rEq μ1 := by
    unfold rEq at he ⊢
    rw [e 7 (by decide), e 9 (by decide), e 10 (by decide), e 11 (by decide), e 15 (by decide), e 16 (by decide), e 17 (by decide), e 19 (by decide), e 20 (by decide), e 21 (by decide), e 22 (by decide), e 32 (by decide), e 34 (by decide), e 35 (by decide), e 38 (by decide), e 40 (by decide), e 41 (by decide), e 42 (by decide), e 43 (by decide), e 44 (by decide), e 45 (by decide), e 46 (by decide)]
    exact he
  have eM : rMk μ1 := rMk_keep (μ := μ) (fun k h1 h2 => e k (by omega)) (e 36 (by decide)) (e 37 (by decide)) hmk
  refine ⟨(gV_keep (μ' := μ1) (fun k hk => e k (by omega)) hg : gV μ1 cnt lc wc), (mV_keep (μ' := μ1) (fun k h1 h2 => e k h2) hm : mV μ1 cnt lc wc pl), eE, rMk_keep (μ := μ1) (fun k h1 h2 => by (repeat refine (gR_n (by omega)).trans ?_); rfl) rfl rfl eM, fun a b ha hb => ?_, fun k hk => ?_, ?_, fun s hs => ?_⟩
  · have c1 : (gU (gU (gU (gU μ1 25 0 r) 31 0 v) 39 (60 * i + j) z) 39 (60 * j + i) z) (50 + a) b = μ1 (50 + a) b := by
      rw [gU_n (by omega), gU_n (by omega), gU_n (by omega), gU_n (by omega)]
    rw [c1, et a b ha hb]
    have t1 := ht a b ha hb
    have c2 : ∀ p, (gU (gU (gU (gU μ1 25 0 r) 31 0 v) 39 (60 * i + j) z) 39 (60 * j + i) z) 39 p = upd (upd (μ1 39) (60 * i + j) z) (60 * j + i) z p := fun p => rfl
    rw [c2, c2, k39 a b ha hb, k39 b a hb ha]
    refine ⟨?_, ?_⟩
    · by_cases q : (a = i ∧ b = j) ∨ (a = j ∧ b = i)
      · rw [if_pos q, if_pos q]
      · rw [if_neg q, if_neg q]; exact t1.1
    · by_cases q : (a = i ∧ b = j) ∨ (a = j ∧ b = i)
      · rw [if_pos q, if_pos (q.elim (fun z => Or.inr ⟨z.2, z.1⟩) (fun z => Or.inl ⟨z.2, z.1⟩))]
      · rw [if_neg q, if_neg (fun q2 => q (q2.elim (fun z => Or.inr ⟨z.2, z.1⟩) (fun z => Or.inl ⟨z.2, z.1⟩)))]; exact t1.2
  · show μ1 23 k = 0 ∧ μ1 24 k = 0 ∧ μ1 47 k = 0
    rw [e 23 (by decide), e 24 (by decide), e 47 (by decide)]
    exact hs k hk
  · show μ1 0 0 = μ1 31 1 ∧ (∀ i, i < cnt → μ1 35 i ≤ μ1 31 1) ∧ (∀ k, k < lc → inB (μ1 42 k) 0 3 = true) ∧ inB (μ1 31 1) 0 9999 = true
    rw [e 0 (by decide), e 31 (by decide), e 35 (by decide), e 42 (by decide)]
    exact hd
  · show μ1 8 s = nI (pl s)
    rw [e 8 (by decide)]
    exact hp s hs
/-- where each source stands when i has been put first -/
def plF (pl : Nat → Nat) (i : Nat) : Nat → Nat := fun s => if s = i then 0 else if pl s < pl i then pl s + 1 else pl s
theorem RR.putFirst (h : RR μ cnt lc wc pl) {i : Nat} {r : Int32} (hi : i < 4) : RR (gR (gU (gU (gR μ 8 (upd (pMv 4 (μ 8 i) (μ 8)) i 0)) 25 0 r) 31 0 v) 33 (upd (oMv (pl i) (pl i) (μ 33)) 0 (nI i))) cnt lc wc (plF pl i) := by
  obtain ⟨hg, ⟨m1, m2, m3, m4, m5, m6, m7, m8, m9, m10, m11, m12, m13, m14, m15⟩, he, hmk, ht, hs, hd, hp⟩ := h
  refine ⟨hg, ⟨m1, m2, m3, m4, m5, m6, m7, m8, m9, m10, m11, m12, m13, fun s hs9 => ?_, m15⟩, he, rMk_keep (μ := μ) (fun k h1 h2 => by (repeat refine (gR_n (by omega)).trans ?_); rfl) rfl rfl hmk, rTl_keep (μ := μ) (fun k h1 => by (repeat refine (gR_n (by omega)).trans ?_); rfl) rfl ht, hs, hd, fun s hs9 => ?_⟩
  · show plF pl i s < 4 ∧ upd (oMv (pl i) (pl i) (μ 33)) 0 (nI i) (plF pl i s) = nI s ∧ ∀ j, j < plF pl i s → ¬ upd (oMv (pl i) (pl i) (μ 33)) 0 (nI i) j = nI s
    obtain ⟨p1, p2, p3⟩ := m14 s hs9
    obtain ⟨o1, o2, o3⟩ := m14 i hi
    have ev : ∀ j, 0 < j → upd (oMv (pl i) (pl i) (μ 33)) 0 (nI i) j = if j ≤ pl i then μ 33 (j - 1) else μ 33 j := fun j hj => by
      rw [upd_n (by omega)]
      unfold oMv
      by_cases q : j ≤ pl i
      · rw [if_pos q, if_pos ⟨by omega, q⟩]
      · rw [if_neg q, if_neg (fun z => q z.2)]
    have e0 : ¬ s = i → ¬ upd (oMv (pl i) (pl i) (μ 33)) 0 (nI i) 0 = nI s := fun hsi => by
      rw [upd_s]
      exact fun q => hsi ((nI_eq (by omega) (by omega)).mp q).symm
    unfold plF
    by_cases hsi : s = i
    · subst hsi
      rw [if_pos rfl]
      exact ⟨by decide, upd_s, fun j hj => absurd hj (Nat.not_lt_zero j)⟩
    · rw [if_neg hsi]
      by_cases hlt : pl s < pl i
      · rw [if_pos hlt]
        refine ⟨by omega, ?_, fun j hj => ?_⟩
        · rw [ev _ (by omega), if_pos (by omega)]; exact p2
        · by_cases hj0 : j = 0
          · subst hj0; exact e0 hsi
          · rw [ev j (by omega), if_pos (by omega)]
            exact p3 (j - 1) (by omega)
      · rw [if_neg hlt]
        have hne : pl s ≠ pl i := fun q => hsi ((nI_eq (by omega) (by omega)).mp (p2.symm.trans ((congrArg (μ 33) q).trans o2)))
        refine ⟨p1, ?_, fun j hj => ?_⟩
        · rw [ev _ (by omega), if_neg (by omega)]; exact p2
        · by_cases hj0 : j = 0
          · subst hj0; exact e0 hsi
          · rw [ev j (by omega)]
            by_cases q : j ≤ pl i
            · rw [if_pos q]; exact p3 (j - 1) (by omega)
            · rw [if_neg q]; exact p3 j hj
  · show upd (pMv 4 (μ 8 i) (μ 8)) i 0 s = nI (plF pl i s)
    have q1 := hp s hs9
    have q2 := hp i hi
    have b1 := (m14 s hs9).1
    have b2 := (m14 i hi).1
    unfold plF
    by_cases hsi : s = i
    · subst hsi
      rw [upd_s, if_pos rfl]; rfl
    · rw [upd_n hsi, if_neg hsi]
      unfold pMv
      rw [q1, q2]
      by_cases hlt : pl s < pl i
      · rw [if_pos ⟨hs9, (nI_ltI (by omega) (by omega)).mpr hlt⟩, if_pos hlt]; exact nI_1 _
      · rw [if_neg (fun z => hlt ((nI_ltI (by omega) (by omega)).mp z.2)), if_neg hlt]
end MV
