/-! calls that change a register: the answer and the new memory, as functions of the old -/
def kv (k v c1 c2 c3 : Int32) : Int32 := if k = 0 then v else if k = 1 then c1 else if k = 2 then c2 else c3
def km (k : Int32) (m μ : gM) : gM := if k = 0 then m else μ
theorem kv_0 {v c1 c2 c3 : Int32} : kv 0 v c1 c2 c3 = v := if_pos rfl
theorem kv_1 {v c1 c2 c3 : Int32} : kv 1 v c1 c2 c3 = c1 := by unfold kv; rw [if_neg (by decide), if_pos rfl]
theorem kv_2 {v c1 c2 c3 : Int32} : kv 2 v c1 c2 c3 = c2 := by unfold kv; rw [if_neg (by decide), if_neg (by decide), if_pos rfl]
theorem kv_3 {v c1 c2 c3 : Int32} : kv 3 v c1 c2 c3 = c3 := by unfold kv; rw [if_neg (by decide), if_neg (by decide), if_neg (by decide)]
theorem km_0 {m μ : gM} : km 0 m μ = m := if_pos rfl
theorem km_1 {m μ : gM} : km 1 m μ = μ := if_neg (by decide)
theorem km_2 {m μ : gM} : km 2 m μ = μ := if_neg (by decide)
theorem km_3 {m μ : gM} : km 3 m μ = μ := if_neg (by decide)
theorem PE.U {μ ν : gM} (h : PE μ ν) (k i : Nat) (v : Int32) : PE (gU μ k i v) (gU ν k i v) := fun j hj => by
  by_cases e : j = k
  · subst e; rw [gU_s, gU_s, h j hj]
  · rw [gU_n e, gU_n e]; exact h j hj
theorem PE.R {μ ν : gM} (h : PE μ ν) (k : Nat) {r r' : Nat → Int32} (hr : r = r') : PE (gR μ k r) (gR ν k r') := fun j hj => by
  subst hr
  by_cases e : j = k
  · subst e; rw [gR_s, gR_s]
  · rw [gR_n e, gR_n e]; exact h j hj
theorem PE.M {μ ν m m' : gM} {k k' : Int32} (h : PE μ ν) (hm : k = 0 → PE m m') (e : k' = k) : PE (km k m μ) (km k' m' ν) := by
  subst e
  unfold km
  by_cases q : k' = 0
  · rw [if_pos q, if_pos q]; exact hm q
  · rw [if_neg q, if_neg q]; exact h
/-- only the first register's own cells are written -/
def Ow (μ μ' : gM) : Prop := ∀ k, ¬ Pc k → μ' k = μ k
theorem Ow.rf {μ : gM} : Ow μ μ := fun _ _ => rfl
theorem Ow.U {μ μ' : gM} (h : Ow μ μ') {k i : Nat} {v : Int32} (hk : Pc k) : Ow μ (gU μ' k i v) := fun j hj => (gU_n (j := j) (k := k) (fun e => hj (by rw [e]; exact hk))).trans (h j hj)
theorem Ow.R {μ μ' : gM} (h : Ow μ μ') {k : Nat} {r : Nat → Int32} (hk : Pc k) : Ow μ (gR μ' k r) := fun j hj => (gR_n (j := j) (k := k) (fun e => hj (by rw [e]; exact hk))).trans (h j hj)
theorem Ow.M {μ m : gM} {k : Int32} (h : k = 0 → Ow μ m) : Ow μ (km k m μ) := by
  unfold km
  by_cases q : k = 0
  · rw [if_pos q]; exact h q
  · rw [if_neg q]; exact Ow.rf
theorem upd_all {P : Int32 → Prop} {f : Nat → Int32} {i : Nat} {x : Int32} (hf : ∀ k, P (f k)) (hx : P x) : ∀ k, P (upd f i x k) := fun k => by
  by_cases e : k = i
  · subst e; rw [upd_s]; exact hx
  · rw [upd_n e]; exact hf k
theorem upd_lt {P : Nat → Int32 → Prop} {f : Nat → Int32} {n : Nat} {x : Int32} (hf : ∀ k, k < n → P k (f k)) (hx : P n x) : ∀ k, k < n + 1 → P k (upd f n x k) := fun k hk => by
  by_cases e : k = n
  · subst e; rw [upd_s]; exact hx
  · rw [upd_n e]; exact hf k (by omega)
theorem tl_keep {μ μ' : gM} (hk : ∀ k, 50 ≤ k → μ' k = μ k) (h : ∀ i j, i < 60 → j < 60 → μ (50 + i) j = μ (50 + j) i ∧ inB (μ (50 + i) j) 0 2 = true) : ∀ i j, i < 60 → j < 60 → μ' (50 + i) j = μ' (50 + j) i ∧ inB (μ' (50 + i) j) 0 2 = true := fun i j hi hj => by
  rw [hk (50 + i) (by omega), hk (50 + j) (by omega)]
  exact h i j hi hj
section MV
variable {μ : gM} {cnt lc wc : Nat}
theorem I1.mpass (h : I1 μ cnt lc wc) {x : Int32} (hx : inB x 1 1000 = true) (hd : μ 0 0 + x ≤ 9999) : I1 (gU μ 0 0 (μ 0 0 + x)) cnt lc wc := by
  obtain ⟨hg, hs, ⟨d, d1, d2⟩, h7, hgr, ht, h11⟩ := h
  refine ⟨hg, hs, ?_, h7, hgr, tl_keep (μ := μ) (fun k hk => gU_n (by omega)) ht, h11⟩
  obtain ⟨j, hj, rfl⟩ := nI_of2 (x := x) (M := 1000) (n := 1000) (by decide) (fun q => absurd q (Int32.not_lt.mpr (Int32.le_trans (show (0 : Int32) ≤ 1 by decide) (inB_s hx).1))) (inB_s hx).2
  rw [d2, nI_add] at hd
  refine ⟨d + j, ?_, ?_⟩
  · exact (nI_leI (a := d + j) (b := 9999) (by omega) (by omega)).mp hd
  · show upd (μ 0) 0 (μ 0 0 + nI j) 0 = _
    rw [upd_s, d2, nI_add]
theorem I1.mterm (h : I1 μ cnt lc wc) {i : Nat} {y : Int32} (hy : inB y 1 999 = true) : I1 (gU μ 7 i y) cnt lc wc := by
  obtain ⟨hg, hs, hd, h7, hgr, ht, h11⟩ := h
  refine ⟨hg, hs, hd, fun k hk => ?_, hgr, tl_keep (μ := μ) (fun k hk => gU_n (by omega)) ht, h11⟩
  show inB (upd (μ 7) i y k) 0 999 = true
  by_cases e : k = i
  · subst e
    rw [upd_s]
    unfold inB
    rw [decide_eq_true (Int32.le_trans (by decide) (inB_s hy).1), decide_eq_true (inB_s hy).2]; rfl
  · rw [upd_n e]; exact h7 k hk
theorem I1.mfirst (h : I1 μ cnt lc wc) {r : Nat → Int32} : I1 (gR μ 8 r) cnt lc wc := by
  obtain ⟨hg, hs, hd, h7, hgr, ht, h11⟩ := h
  exact ⟨hg, hs, hd, h7, hgr, tl_keep (μ := μ) (fun k hk => gR_n (by omega)) ht, h11⟩
theorem I1.mstrike (h : I1 μ cnt lc wc) {i : Nat} (hi : i < cnt) : I1 (gU μ 11 i 1) cnt lc wc := by
  obtain ⟨hg, hs, hd, h7, hgr, ht, h11⟩ := h
  exact ⟨hg, hs, hd, h7, hgr, tl_keep (μ := μ) (fun k hk => gU_n (by omega)) ht, fun k hk => (upd_n (by omega)).trans (h11 k hk)⟩
theorem I1.mlink (h : I1 μ cnt lc wc) {x y z : Int32} (hx : fndB cnt x = true) (hy : fndB cnt y = true) (hz : inB z 0 3 = true) (hl : lc < 40) : I1 (gU (gU (gU (gU μ 15 lc x) 16 lc y) 17 lc z) 3 0 (nI (lc + 1))) cnt (lc + 1) wc := by
  obtain ⟨⟨g1, g2, g3, g4, g5, g6, g7, g8, g9, g10, g11, g12⟩, hs, hd, h7, hgr, ht, h11⟩ := h
  have lx := (fnd_iz hx g1).1
  have ly := (fnd_iz hy g1).1
  have q1 : ∀ k, k < lc + 1 → ix (upd (μ 15) lc x k) < cnt := upd_lt (P := fun _ a => ix a < cnt) (fun k hk => (g10 k hk).1) lx
  have q2 : ∀ k, k < lc + 1 → ix (upd (μ 16) lc y k) < cnt := upd_lt (P := fun _ a => ix a < cnt) (fun k hk => (g10 k hk).2) ly
  exact ⟨⟨g1, g2, by omega, rfl, g5, g6, g7, upd_all (P := fun a => vp_in a 60) g8 (fnd_vp hx g1), upd_all (P := fun a => vp_in a 60) g9 (fnd_vp hy g1), fun k hk => ⟨q1 k hk, q2 k hk⟩, g11, g12⟩, hs, hd, h7, upd_lt (P := fun _ a => inB a 0 3 = true) hgr hz, tl_keep (μ := μ) (fun k h1 => by (repeat refine (gR_n (by omega)).trans ?_); rfl) ht, h11⟩
theorem I1.mwish (h : I1 μ cnt lc wc) {a1 a2 a3 a4 : Int32} (h1 : inB a1 0 2 = true) (h3 : inB a3 0 1 = true) (hl : wc < 20) : I1 (gU (gU (gU (gU (gU μ 19 wc a1) 20 wc a2) 21 wc a3) 22 wc a4) 4 0 (nI (wc + 1))) cnt lc (wc + 1) := by
  obtain ⟨⟨g1, g2, g3, g4, g5, g6, g7, g8, g9, g10, g11, g12⟩, hs, hd, h7, hgr, ht, h11⟩ := h
  exact ⟨⟨g1, g2, g3, g4, by omega, rfl, g7, g8, g9, g10, upd_all (P := fun a => vp_in a 3) g11 (inB_vp h1 (N := 3) rfl), upd_all (P := fun a => vp_in a 2) g12 (inB_vp h3 (N := 2) rfl)⟩, hs, hd, h7, hgr, tl_keep (μ := μ) (fun k h1 => by (repeat refine (gR_n (by omega)).trans ?_); rfl) ht, h11⟩
theorem I1.mfind (h : I1 μ cnt lc wc) {a1 a2 a3 a4 a5 a6 : Int32} (h1 : inB a1 0 3 = true) (hl : cnt < 60) : I1 (gU (gU (gU (gU (gU (gU (gU (gU μ 9 cnt a1) 10 cnt (μ 0 0)) 2 0 (nI (cnt + 1))) 26 cnt a2) 27 cnt a3) 28 cnt a4) 29 cnt a5) 30 cnt a6) (cnt + 1) lc wc := by
  obtain ⟨⟨g1, g2, g3, g4, g5, g6, g7, g8, g9, g10, g11, g12⟩, hs, hd, h7, hgr, ht, h11⟩ := h
  exact ⟨⟨by omega, rfl, g3, g4, g5, g6, upd_all (P := fun a => vp_in a 4) g7 (inB_vp h1 (N := 4) rfl), g8, g9, fun k hk => ⟨Nat.lt_succ_of_lt (g10 k hk).1, Nat.lt_succ_of_lt (g10 k hk).2⟩, g11, g12⟩, fun k hk => hs k (by omega), hd, h7, hgr, tl_keep (μ := μ) (fun k h1 => by (repeat refine (gR_n (by omega)).trans ?_); rfl) ht, fun k hk => h11 k (by omega)⟩
/-- told of two finds: the pair's two places -/
theorem tl2 {i j : Nat} {z : Int32} (hi : i < 60) (hj : j < 60) (a b : Nat) : gU (gU μ (50 + i) j z) (50 + j) i z (50 + a) b = if (a = j ∧ b = i) ∨ (a = i ∧ b = j) then z else μ (50 + a) b := by
  by_cases e1 : a = j
  · subst e1
    rw [gU_s]
    by_cases e2 : b = i
    · subst e2
      rw [upd_s, if_pos (Or.inl ⟨rfl, rfl⟩)]
    · rw [upd_n e2]
      by_cases e3 : a = i
      · subst e3
        rw [gU_s, upd_n e2, if_neg (fun q => e2 (q.elim (fun z => z.2) (fun z => z.2)))]
      · rw [gU_n (by omega), if_neg (fun q => q.elim (fun z => e2 z.2) (fun z => e3 z.1))]
  · rw [gU_n (by omega)]
    by_cases e3 : a = i
    · subst e3
      rw [gU_s]
      by_cases e4 : b = j
      · subst e4
        rw [upd_s, if_pos (Or.inr ⟨rfl, rfl⟩)]
      · rw [upd_n e4, if_neg (fun q => q.elim (fun z => e1 z.1) (fun z => e4 z.2))]
    · rw [gU_n (by omega), if_neg (fun q => q.elim (fun z => e1 z.1) (fun z => e3 z.1))]
theorem I1.mtell (h : I1 μ cnt lc wc) {i j : Nat} {z : Int32} (hi : i < 60) (hj : j < 60) (hz : inB z 0 2 = true) : I1 (gU (gU μ (50 + i) j z) (50 + j) i z) cnt lc wc := by
  obtain ⟨hg, hs, hd, h7, hgr, ht, h11⟩ := h
  have e : ∀ k, k < 50 → gU (gU μ (50 + i) j z) (50 + j) i z k = μ k := fun k hk => (gU_n (by omega)).trans (gU_n (by omega))
  refine ⟨?_, ?_, ?_, ?_, ?_, fun a b ha hb => ?_, by rw [e 11 (by omega)]; exact h11⟩
  · unfold gV at hg ⊢
    rw [e 2 (by omega), e 3 (by omega), e 4 (by omega), e 9 (by omega), e 15 (by omega), e 16 (by omega), e 19 (by omega), e 21 (by omega)]
    exact hg
  · rw [e 23 (by omega), e 24 (by omega)]; exact hs
  · rw [e 0 (by omega)]; exact hd
  · rw [e 7 (by omega)]; exact h7
  · rw [e 17 (by omega)]; exact hgr
  · rw [tl2 hi hj, tl2 hi hj]
    by_cases q : (a = j ∧ b = i) ∨ (a = i ∧ b = j)
    · rw [if_pos q, if_pos (q.elim (fun z => Or.inr ⟨z.2, z.1⟩) (fun z => Or.inl ⟨z.2, z.1⟩))]
      exact ⟨rfl, hz⟩
    · rw [if_neg q, if_neg (fun z => q (z.elim (fun w => Or.inr ⟨w.2, w.1⟩) (fun w => Or.inl ⟨w.2, w.1⟩)))]
      exact ht a b ha hb
end MV
