theorem RR.psk {μ : gM} {cnt lc wc : Nat} {pl : Nat → Nat} (h : RR μ cnt lc wc pl) (x : Int32) : k2 (inB x 1 1000) (decide (μ 31 1 + x ≤ 9999)) = k2 (inB x 1 1000) (decide (μ 0 0 + x ≤ 9999)) := by rw [h.day]
theorem m9_pass {μ : gM} {cnt lc wc : Nat} {pl : Nat → Nat} (h : RR μ cnt lc wc pl) (x : Int32) {r9 : Int32} {μ9 : gM} (hp : (r9 = 0 ∧ k2 (inB x 1 1000) (decide (μ 0 0 + x ≤ 9999)) = 0 ∧ μ9 = gU (gU μ 0 0 (μ 0 0 + x)) 25 0 (μ 0 0 + x)) ∨ (r9 = 1 ∧ k2 (inB x 1 1000) (decide (μ 0 0 + x ≤ 9999)) = 1 ∧ μ9 = μ) ∨ (r9 = 2 ∧ k2 (inB x 1 1000) (decide (μ 0 0 + x ≤ 9999)) = 2 ∧ μ9 = μ)) : mV μ9 cnt lc wc pl := by
  rcases hp with ⟨-, -, rfl⟩ | ⟨-, -, rfl⟩ | ⟨-, -, rfl⟩
  · exact h.2.1
  · exact h.2.1
  · exact h.2.1
theorem st_pass {μ : gM} {cnt lc wc : Nat} {pl : Nat → Nat} (h : RR μ cnt lc wc pl) (x : Int32) {r9 : Int32} {μ9 : gM} (hp : (r9 = 0 ∧ k2 (inB x 1 1000) (decide (μ 0 0 + x ≤ 9999)) = 0 ∧ μ9 = gU (gU μ 0 0 (μ 0 0 + x)) 25 0 (μ 0 0 + x)) ∨ (r9 = 1 ∧ k2 (inB x 1 1000) (decide (μ 0 0 + x ≤ 9999)) = 1 ∧ μ9 = μ) ∨ (r9 = 2 ∧ k2 (inB x 1 1000) (decide (μ 0 0 + x ≤ 9999)) = 2 ∧ μ9 = μ)) {v r6 : Int32} {μ10 : gM} (ev : v = k2 (inB x 1 1000) (decide (μ9 31 1 + x ≤ 9999))) (h6 : r6 = (if v = 0 then μ9 31 1 + x else 0) ∧ μ10 = (if v = 0 then gU (gU μ9 31 0 v) 31 1 (μ9 31 1 + x) else gU μ9 31 0 v)) : stC μ10 r9 r6 := by
  obtain ⟨e6, rfl⟩ := h6
  rcases hp with ⟨rfl, hk, rfl⟩ | ⟨rfl, hk, rfl⟩ | ⟨rfl, hk, rfl⟩
  · have hv : v = 0 := ev.trans ((h.psk x).trans hk)
    rw [if_pos hv] at e6 ⊢
    obtain ⟨k1, k2⟩ := k2_z hk
    exact ⟨hv, fun _ => by rw [e6]; show μ 0 0 + x = μ 31 1 + x; rw [h.day], cnt, lc, wc, pl, h.pass k1 (of_decide_eq_true k2)⟩
  · have hv : v = 1 := ev.trans ((h.psk x).trans hk)
    have hn : ¬ v = 0 := by rw [hv]; decide
    rw [if_neg hn] at e6 ⊢
    exact ⟨hv, fun q => absurd q (by decide), cnt, lc, wc, pl, h.u31 v⟩
  · have hv : v = 2 := ev.trans ((h.psk x).trans hk)
    have hn : ¬ v = 0 := by rw [hv]; decide
    rw [if_neg hn] at e6 ⊢
    exact ⟨hv, fun q => absurd q (by decide), cnt, lc, wc, pl, h.u31 v⟩
theorem m9_setTerm {μ : gM} {cnt lc wc : Nat} {pl : Nat → Nat} (h : RR μ cnt lc wc pl) (x y : Int32) {r9 : Int32} {μ9 : gM} (hp : (r9 = 0 ∧ k1 (inB x 0 3 && inB y 1 999) = 0 ∧ μ9 = gU (gU μ 7 (ix x) y) 25 0 (μ 7 (ix x))) ∨ (r9 = 1 ∧ k1 (inB x 0 3 && inB y 1 999) = 1 ∧ μ9 = μ)) : mV μ9 cnt lc wc pl := by
  rcases hp with ⟨-, -, rfl⟩ | ⟨-, -, rfl⟩
  · exact h.2.1
  · exact h.2.1
theorem st_setTerm {μ : gM} {cnt lc wc : Nat} {pl : Nat → Nat} (h : RR μ cnt lc wc pl) (x y : Int32) {r9 : Int32} {μ9 : gM} (hp : (r9 = 0 ∧ k1 (inB x 0 3 && inB y 1 999) = 0 ∧ μ9 = gU (gU μ 7 (ix x) y) 25 0 (μ 7 (ix x))) ∨ (r9 = 1 ∧ k1 (inB x 0 3 && inB y 1 999) = 1 ∧ μ9 = μ)) {v r6 : Int32} {μ10 : gM} (ev : v = k1 (inB x 0 3 && inB y 1 999)) (h6 : r6 = (if v = 0 then μ9 32 (ix x) else 0) ∧ μ10 = (if v = 0 then gU (gU μ9 31 0 v) 32 (ix x) y else gU μ9 31 0 v)) : stC μ10 r9 r6 := by
  obtain ⟨e6, rfl⟩ := h6
  rcases hp with ⟨rfl, hk, rfl⟩ | ⟨rfl, hk, rfl⟩
  · have hv : v = 0 := ev.trans hk
    rw [if_pos hv] at e6 ⊢
    exact ⟨hv, fun _ => by rw [e6]; exact congrFun h.2.2.1.1 _, cnt, lc, wc, pl, h.setTerm⟩
  · have hv : v = 1 := ev.trans hk
    have hn : ¬ v = 0 := by rw [hv]; decide
    rw [if_neg hn] at e6 ⊢
    exact ⟨hv, fun q => absurd q (by decide), cnt, lc, wc, pl, h.u31 v⟩
theorem m9_putFirst {μ : gM} {cnt lc wc : Nat} {pl : Nat → Nat} (h : RR μ cnt lc wc pl) (x : Int32) {r9 : Int32} {μ9 : gM} (hp : (r9 = 0 ∧ k1 (inB x 0 3) = 0 ∧ μ9 = gU (gR μ 8 (upd (pMv 4 (μ 8 (ix x)) (μ 8)) (ix x) 0)) 25 0 (μ 8 (ix x))) ∨ (r9 = 1 ∧ k1 (inB x 0 3) = 1 ∧ μ9 = μ)) : mV μ9 cnt lc wc pl := by
  rcases hp with ⟨-, -, rfl⟩ | ⟨-, -, rfl⟩
  · exact h.2.1
  · exact h.2.1
theorem st_putFirst {μ : gM} {cnt lc wc : Nat} {pl : Nat → Nat} (h : RR μ cnt lc wc pl) (x : Int32) {r9 : Int32} {μ9 : gM} (hp : (r9 = 0 ∧ k1 (inB x 0 3) = 0 ∧ μ9 = gU (gR μ 8 (upd (pMv 4 (μ 8 (ix x)) (μ 8)) (ix x) 0)) 25 0 (μ 8 (ix x))) ∨ (r9 = 1 ∧ k1 (inB x 0 3) = 1 ∧ μ9 = μ)) {v r6 : Int32} {μ10 : gM} (ev : v = k1 (inB x 0 3)) (h6 : r6 = (if v = 0 then nI (pl (ix x)) else 0) ∧ μ10 = (if v = 0 then gR (gU μ9 31 0 v) 33 (upd (oMv (pl (ix x)) (pl (ix x)) (μ9 33)) 0 x) else gU μ9 31 0 v)) : stC μ10 r9 r6 := by
  obtain ⟨e6, rfl⟩ := h6
  rcases hp with ⟨rfl, hk, rfl⟩ | ⟨rfl, hk, rfl⟩
  · have hv : v = 0 := ev.trans hk
    rw [if_pos hv] at e6 ⊢
    obtain ⟨ex, lx⟩ := vp_ix (inB_vp (k1_z hk) (N := 4) rfl) (by decide)
    refine ⟨hv, fun _ => by rw [e6]; exact h.2.2.2.2.2.2.2 _ lx, cnt, lc, wc, plF pl (ix x), ?_⟩
    have h9 := h.putFirst (v := v) (r := μ 8 (ix x)) lx
    rw [← ex] at h9
    exact h9
  · have hv : v = 1 := ev.trans hk
    have hn : ¬ v = 0 := by rw [hv]; decide
    rw [if_neg hn] at e6 ⊢
    exact ⟨hv, fun q => absurd q (by decide), cnt, lc, wc, pl, h.u31 v⟩
theorem m9_find {μ : gM} {cnt lc wc : Nat} {pl : Nat → Nat} (h : RR μ cnt lc wc pl) (a1 a2 a3 a4 a5 a6 : Int32) {r9 : Int32} {μ9 : gM} (hp : (r9 = 0 ∧ k2 (inB a1 0 3 && inB a2 0 99 && inB a3 0 99 && inB a4 0 99 && inB a5 (-1) 99 && inB a6 (-1) 99) (decide (cnt < 60)) = 0 ∧ μ9 = gU (gU (gU (gU (gU (gU (gU (gU (gU μ 9 cnt a1) 10 cnt (μ 0 0)) 2 0 (nI (cnt + 1))) 26 cnt a2) 27 cnt a3) 28 cnt a4) 29 cnt a5) 30 cnt a6) 25 0 (nI cnt)) ∨ (r9 = 1 ∧ k2 (inB a1 0 3 && inB a2 0 99 && inB a3 0 99 && inB a4 0 99 && inB a5 (-1) 99 && inB a6 (-1) 99) (decide (cnt < 60)) = 1 ∧ μ9 = μ) ∨ (r9 = 2 ∧ k2 (inB a1 0 3 && inB a2 0 99 && inB a3 0 99 && inB a4 0 99 && inB a5 (-1) 99 && inB a6 (-1) 99) (decide (cnt < 60)) = 2 ∧ μ9 = μ)) : mV μ9 cnt lc wc pl := by
  rcases hp with ⟨-, -, rfl⟩ | ⟨-, -, rfl⟩ | ⟨-, -, rfl⟩
  · exact h.2.1
  · exact h.2.1
  · exact h.2.1
theorem st_find {μ : gM} {cnt lc wc : Nat} {pl : Nat → Nat} (h : RR μ cnt lc wc pl) (a1 a2 a3 a4 a5 a6 : Int32) {r9 : Int32} {μ9 : gM} (hp : (r9 = 0 ∧ k2 (inB a1 0 3 && inB a2 0 99 && inB a3 0 99 && inB a4 0 99 && inB a5 (-1) 99 && inB a6 (-1) 99) (decide (cnt < 60)) = 0 ∧ μ9 = gU (gU (gU (gU (gU (gU (gU (gU (gU μ 9 cnt a1) 10 cnt (μ 0 0)) 2 0 (nI (cnt + 1))) 26 cnt a2) 27 cnt a3) 28 cnt a4) 29 cnt a5) 30 cnt a6) 25 0 (nI cnt)) ∨ (r9 = 1 ∧ k2 (inB a1 0 3 && inB a2 0 99 && inB a3 0 99 && inB a4 0 99 && inB a5 (-1) 99 && inB a6 (-1) 99) (decide (cnt < 60)) = 1 ∧ μ9 = μ) ∨ (r9 = 2 ∧ k2 (inB a1 0 3 && inB a2 0 99 && inB a3 0 99 && inB a4 0 99 && inB a5 (-1) 99 && inB a6 (-1) 99) (decide (cnt < 60)) = 2 ∧ μ9 = μ)) {v r6 : Int32} {μ10 : gM} (ev : v = k2 (inB a1 0 3 && inB a2 0 99 && inB a3 0 99 && inB a4 0 99 && inB a5 (-1) 99 && inB a6 (-1) 99) (decide (cnt < 60))) (h6 : r6 = (if v = 0 then nI cnt else 0) ∧ μ10 = (if v = 0 then (gU (gU (gU (gU (gU (gU (gU (gU (gU μ9 31 0 v) 34 cnt a1) 35 cnt (μ9 31 1)) 36 (3 * cnt) a2) 36 ((3 * cnt) + 1) a3) 36 ((3 * cnt) + 2) a4) 37 (2 * cnt) a5) 37 ((2 * cnt) + 1) a6) 31 4 (nI (cnt + 1))) else gU μ9 31 0 v)) : stC μ10 r9 r6 := by
  obtain ⟨e6, rfl⟩ := h6
  rcases hp with ⟨rfl, hk, rfl⟩ | ⟨rfl, hk, rfl⟩ | ⟨rfl, hk, rfl⟩
  · have hv : v = 0 := ev.trans hk
    rw [if_pos hv] at e6 ⊢
    obtain ⟨k1, k2⟩ := k2_z hk
    simp only [Bool.and_eq_true] at k1
    exact ⟨hv, fun _ => e6.symm, cnt + 1, lc, wc, pl, h.find k1.1.1.1.1.1 k1.1.2 k1.2 (of_decide_eq_true k2)⟩
  · have hv : v = 1 := ev.trans hk
    have hn : ¬ v = 0 := by rw [hv]; decide
    rw [if_neg hn] at e6 ⊢
    exact ⟨hv, fun q => absurd q (by decide), cnt, lc, wc, pl, h.u31 v⟩
  · have hv : v = 2 := ev.trans hk
    have hn : ¬ v = 0 := by rw [hv]; decide
    rw [if_neg hn] at e6 ⊢
    exact ⟨hv, fun q => absurd q (by decide), cnt, lc, wc, pl, h.u31 v⟩
theorem m9_strike {μ : gM} {cnt lc wc : Nat} {pl : Nat → Nat} (h : RR μ cnt lc wc pl) (x : Int32) {r9 : Int32} {μ9 : gM} (hp : (r9 = 0 ∧ k1 (fndB cnt x) = 0 ∧ μ9 = gU (gU μ 11 (ix x) 1) 25 0 (zB (decide (μ 11 (ix x) = 0)))) ∨ (r9 = 1 ∧ k1 (fndB cnt x) = 1 ∧ μ9 = μ)) : mV μ9 cnt lc wc pl := by
  rcases hp with ⟨-, -, rfl⟩ | ⟨-, -, rfl⟩
  · exact h.2.1
  · exact h.2.1
theorem st_strike {μ : gM} {cnt lc wc : Nat} {pl : Nat → Nat} (h : RR μ cnt lc wc pl) (x : Int32) {r9 : Int32} {μ9 : gM} (hp : (r9 = 0 ∧ k1 (fndB cnt x) = 0 ∧ μ9 = gU (gU μ 11 (ix x) 1) 25 0 (zB (decide (μ 11 (ix x) = 0)))) ∨ (r9 = 1 ∧ k1 (fndB cnt x) = 1 ∧ μ9 = μ)) {v r6 : Int32} {μ10 : gM} (ev : v = k1 (fndB cnt x)) (h6 : r6 = (if v = 0 then zB (decide (μ9 38 (ix x) = 0)) else 0) ∧ μ10 = (if v = 0 then gU (gU μ9 31 0 v) 38 (ix x) 1 else gU μ9 31 0 v)) : stC μ10 r9 r6 := by
  obtain ⟨e6, rfl⟩ := h6
  rcases hp with ⟨rfl, hk, rfl⟩ | ⟨rfl, hk, rfl⟩
  · have hv : v = 0 := ev.trans hk
    rw [if_pos hv] at e6 ⊢
    exact ⟨hv, fun _ => by rw [e6]; show zB (decide (μ 11 (ix x) = 0)) = zB (decide (μ 38 (ix x) = 0)); rw [h.2.2.1.2.2.2.1], cnt, lc, wc, pl, h.strike⟩
  · have hv : v = 1 := ev.trans hk
    have hn : ¬ v = 0 := by rw [hv]; decide
    rw [if_neg hn] at e6 ⊢
    exact ⟨hv, fun q => absurd q (by decide), cnt, lc, wc, pl, h.u31 v⟩
theorem m9_link {μ : gM} {cnt lc wc : Nat} {pl : Nat → Nat} (h : RR μ cnt lc wc pl) (x y z : Int32) {r9 : Int32} {μ9 : gM} (hp : (r9 = 0 ∧ k3 (fndB cnt x && fndB cnt y) (!decide (x = y) && inB z 0 3) (decide (lc < 40)) = 0 ∧ μ9 = gU (gU (gU (gU (gU μ 15 lc x) 16 lc y) 17 lc z) 3 0 (nI (lc + 1))) 25 0 (nI (lc + 1))) ∨ (r9 = 1 ∧ k3 (fndB cnt x && fndB cnt y) (!decide (x = y) && inB z 0 3) (decide (lc < 40)) = 1 ∧ μ9 = μ) ∨ (r9 = 2 ∧ k3 (fndB cnt x && fndB cnt y) (!decide (x = y) && inB z 0 3) (decide (lc < 40)) = 2 ∧ μ9 = μ) ∨ (r9 = 3 ∧ k3 (fndB cnt x && fndB cnt y) (!decide (x = y) && inB z 0 3) (decide (lc < 40)) = 3 ∧ μ9 = μ)) : mV μ9 cnt lc wc pl := by
  rcases hp with ⟨-, -, rfl⟩ | ⟨-, -, rfl⟩ | ⟨-, -, rfl⟩ | ⟨-, -, rfl⟩
  · exact h.2.1
  · exact h.2.1
  · exact h.2.1
  · exact h.2.1
theorem st_link {μ : gM} {cnt lc wc : Nat} {pl : Nat → Nat} (h : RR μ cnt lc wc pl) (x y z : Int32) {r9 : Int32} {μ9 : gM} (hp : (r9 = 0 ∧ k3 (fndB cnt x && fndB cnt y) (!decide (x = y) && inB z 0 3) (decide (lc < 40)) = 0 ∧ μ9 = gU (gU (gU (gU (gU μ 15 lc x) 16 lc y) 17 lc z) 3 0 (nI (lc + 1))) 25 0 (nI (lc + 1))) ∨ (r9 = 1 ∧ k3 (fndB cnt x && fndB cnt y) (!decide (x = y) && inB z 0 3) (decide (lc < 40)) = 1 ∧ μ9 = μ) ∨ (r9 = 2 ∧ k3 (fndB cnt x && fndB cnt y) (!decide (x = y) && inB z 0 3) (decide (lc < 40)) = 2 ∧ μ9 = μ) ∨ (r9 = 3 ∧ k3 (fndB cnt x && fndB cnt y) (!decide (x = y) && inB z 0 3) (decide (lc < 40)) = 3 ∧ μ9 = μ)) {v r6 : Int32} {μ10 : gM} (ev : v = k3 (fndB cnt x && fndB cnt y) (!decide (x = y) && inB z 0 3) (decide (lc < 40))) (h6 : r6 = (if v = 0 then nI (lc + 1) else 0) ∧ μ10 = (if v = 0 then (gU (gU (gU (gU (gU μ9 31 0 v) 40 lc x) 41 lc y) 42 lc z) 31 11 (nI (lc + 1))) else gU μ9 31 0 v)) : stC μ10 r9 r6 := by
  obtain ⟨e6, rfl⟩ := h6
  rcases hp with ⟨rfl, hk, rfl⟩ | ⟨rfl, hk, rfl⟩ | ⟨rfl, hk, rfl⟩ | ⟨rfl, hk, rfl⟩
  · have hv : v = 0 := ev.trans hk
    rw [if_pos hv] at e6 ⊢
    obtain ⟨k1, k2, k3⟩ := k3_z hk
    exact ⟨hv, fun _ => e6.symm, cnt, lc + 1, wc, pl, h.link (and_b k1).1 (and_b k1).2 (and_b k2).2 (of_decide_eq_true k3)⟩
  · have hv : v = 1 := ev.trans hk
    have hn : ¬ v = 0 := by rw [hv]; decide
    rw [if_neg hn] at e6 ⊢
    exact ⟨hv, fun q => absurd q (by decide), cnt, lc, wc, pl, h.u31 v⟩
  · have hv : v = 2 := ev.trans hk
    have hn : ¬ v = 0 := by rw [hv]; decide
    rw [if_neg hn] at e6 ⊢
    exact ⟨hv, fun q => absurd q (by decide), cnt, lc, wc, pl, h.u31 v⟩
  · have hv : v = 3 := ev.trans hk
    have hn : ¬ v = 0 := by rw [hv]; decide
    rw [if_neg hn] at e6 ⊢
    exact ⟨hv, fun q => absurd q (by decide), cnt, lc, wc, pl, h.u31 v⟩
theorem m9_wish {μ : gM} {cnt lc wc : Nat} {pl : Nat → Nat} (h : RR μ cnt lc wc pl) (a1 a2 a3 a4 : Int32) {r9 : Int32} {μ9 : gM} (hp : (r9 = 0 ∧ k2 (inB a1 0 2 && inB a2 1 99 && inB a3 0 1 && inB a4 0 99) (decide (wc < 20)) = 0 ∧ μ9 = gU (gU (gU (gU (gU (gU μ 19 wc a1) 20 wc a2) 21 wc a3) 22 wc a4) 4 0 (nI (wc + 1))) 25 0 (nI wc)) ∨ (r9 = 1 ∧ k2 (inB a1 0 2 && inB a2 1 99 && inB a3 0 1 && inB a4 0 99) (decide (wc < 20)) = 1 ∧ μ9 = μ) ∨ (r9 = 2 ∧ k2 (inB a1 0 2 && inB a2 1 99 && inB a3 0 1 && inB a4 0 99) (decide (wc < 20)) = 2 ∧ μ9 = μ)) : mV μ9 cnt lc wc pl := by
  rcases hp with ⟨-, -, rfl⟩ | ⟨-, -, rfl⟩ | ⟨-, -, rfl⟩
  · exact h.2.1
  · exact h.2.1
  · exact h.2.1
theorem st_wish {μ : gM} {cnt lc wc : Nat} {pl : Nat → Nat} (h : RR μ cnt lc wc pl) (a1 a2 a3 a4 : Int32) {r9 : Int32} {μ9 : gM} (hp : (r9 = 0 ∧ k2 (inB a1 0 2 && inB a2 1 99 && inB a3 0 1 && inB a4 0 99) (decide (wc < 20)) = 0 ∧ μ9 = gU (gU (gU (gU (gU (gU μ 19 wc a1) 20 wc a2) 21 wc a3) 22 wc a4) 4 0 (nI (wc + 1))) 25 0 (nI wc)) ∨ (r9 = 1 ∧ k2 (inB a1 0 2 && inB a2 1 99 && inB a3 0 1 && inB a4 0 99) (decide (wc < 20)) = 1 ∧ μ9 = μ) ∨ (r9 = 2 ∧ k2 (inB a1 0 2 && inB a2 1 99 && inB a3 0 1 && inB a4 0 99) (decide (wc < 20)) = 2 ∧ μ9 = μ)) {v r6 : Int32} {μ10 : gM} (ev : v = k2 (inB a1 0 2 && inB a2 1 99 && inB a3 0 1 && inB a4 0 99) (decide (wc < 20))) (h6 : r6 = (if v = 0 then nI wc else 0) ∧ μ10 = (if v = 0 then (gU (gU (gU (gU (gU (gU μ9 31 0 v) 43 wc a1) 44 wc a2) 45 wc a3) 46 wc a4) 31 15 (nI (wc + 1))) else gU μ9 31 0 v)) : stC μ10 r9 r6 := by
  obtain ⟨e6, rfl⟩ := h6
  rcases hp with ⟨rfl, hk, rfl⟩ | ⟨rfl, hk, rfl⟩ | ⟨rfl, hk, rfl⟩
  · have hv : v = 0 := ev.trans hk
    rw [if_pos hv] at e6 ⊢
    obtain ⟨k1, k2⟩ := k2_z hk
    simp only [Bool.and_eq_true] at k1
    exact ⟨hv, fun _ => e6.symm, cnt, lc, wc + 1, pl, h.wish k1.1.1.1 k1.1.2 (of_decide_eq_true k2)⟩
  · have hv : v = 1 := ev.trans hk
    have hn : ¬ v = 0 := by rw [hv]; decide
    rw [if_neg hn] at e6 ⊢
    exact ⟨hv, fun q => absurd q (by decide), cnt, lc, wc, pl, h.u31 v⟩
  · have hv : v = 2 := ev.trans hk
    have hn : ¬ v = 0 := by rw [hv]; decide
    rw [if_neg hn] at e6 ⊢
    exact ⟨hv, fun q => absurd q (by decide), cnt, lc, wc, pl, h.u31 v⟩
theorem m9_tell {μ : gM} {cnt lc wc : Nat} {pl : Nat → Nat} (h : RR μ cnt lc wc pl) (x y z : Int32) {r9 : Int32} {μ9 : gM} (hp : (r9 = 0 ∧ k2 (fndB cnt x && fndB cnt y) (!decide (x = y) && inB z 0 2) = 0 ∧ μ9 = gU (gU (gU μ (50 + (ix x)) (ix y) z) (50 + (ix y)) (ix x) z) 25 0 (μ (50 + (ix x)) (ix y))) ∨ (r9 = 1 ∧ k2 (fndB cnt x && fndB cnt y) (!decide (x = y) && inB z 0 2) = 1 ∧ μ9 = μ) ∨ (r9 = 2 ∧ k2 (fndB cnt x && fndB cnt y) (!decide (x = y) && inB z 0 2) = 2 ∧ μ9 = μ)) : mV μ9 cnt lc wc pl := by
  rcases hp with ⟨-, -, rfl⟩ | ⟨-, -, rfl⟩ | ⟨-, -, rfl⟩
  · exact mV_keep (fun k h1 h2 => by (repeat refine (gR_n (by omega)).trans ?_); rfl) h.2.1
  · exact h.2.1
  · exact h.2.1
theorem st_tell {μ : gM} {cnt lc wc : Nat} {pl : Nat → Nat} (h : RR μ cnt lc wc pl) (x y z : Int32) {r9 : Int32} {μ9 : gM} (hp : (r9 = 0 ∧ k2 (fndB cnt x && fndB cnt y) (!decide (x = y) && inB z 0 2) = 0 ∧ μ9 = gU (gU (gU μ (50 + (ix x)) (ix y) z) (50 + (ix y)) (ix x) z) 25 0 (μ (50 + (ix x)) (ix y))) ∨ (r9 = 1 ∧ k2 (fndB cnt x && fndB cnt y) (!decide (x = y) && inB z 0 2) = 1 ∧ μ9 = μ) ∨ (r9 = 2 ∧ k2 (fndB cnt x && fndB cnt y) (!decide (x = y) && inB z 0 2) = 2 ∧ μ9 = μ)) {v r6 : Int32} {μ10 : gM} (ev : v = k2 (fndB cnt x && fndB cnt y) (!decide (x = y) && inB z 0 2)) (h6 : r6 = (if v = 0 then μ9 39 ((60 * (ix x)) + (ix y)) else 0) ∧ μ10 = (if v = 0 then gU (gU (gU μ9 31 0 v) 39 ((60 * (ix x)) + (ix y)) z) 39 ((60 * (ix y)) + (ix x)) z else gU μ9 31 0 v)) : stC μ10 r9 r6 := by
  obtain ⟨e6, rfl⟩ := h6
  rcases hp with ⟨rfl, hk, rfl⟩ | ⟨rfl, hk, rfl⟩ | ⟨rfl, hk, rfl⟩
  · have hv : v = 0 := ev.trans hk
    rw [if_pos hv] at e6 ⊢
    obtain ⟨k1, k2⟩ := k2_z hk
    obtain ⟨ex, lx⟩ := fnd_ix (and_b k1).1 h.c60
    obtain ⟨ey, ly⟩ := fnd_ix (and_b k1).2 h.c60
    have hc := h.c60
    have hne : ix x ≠ ix y := fun q => by
      have h7 := (and_b k2).1
      rw [Bool.not_eq_true', decide_eq_false_iff_not] at h7
      exact h7 (by rw [ex, ey, q])
    have ht := (h.2.2.2.2.1 (ix x) (ix y) (by omega) (by omega)).1
    refine ⟨hv, fun _ => ?_, cnt, lc, wc, pl, h.tell (by omega) (by omega) hne⟩
    rw [e6]
    refine ht.trans ?_
    rw [gU_n (by decide), gU_n (by omega), gU_n (by omega)]
  · have hv : v = 1 := ev.trans hk
    have hn : ¬ v = 0 := by rw [hv]; decide
    rw [if_neg hn] at e6 ⊢
    exact ⟨hv, fun q => absurd q (by decide), cnt, lc, wc, pl, h.u31 v⟩
  · have hv : v = 2 := ev.trans hk
    have hn : ¬ v = 0 := by rw [hv]; decide
    rw [if_neg hn] at e6 ⊢
    exact ⟨hv, fun q => absurd q (by decide), cnt, lc, wc, pl, h.u31 v⟩
