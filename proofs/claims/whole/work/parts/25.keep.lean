/-! the relation is kept where neither reads -/
def stC (μ10 : gM) (r9 r6 : Int32) : Prop := μ10 31 0 = r9 ∧ (r9 = 0 → μ10 25 0 = r6) ∧ ∃ (cnt lc wc : Nat) (pl : Nat → Nat), RR μ10 cnt lc wc pl
section KP
variable {μ : gM} {cnt lc wc : Nat} {pl : Nat → Nat}
theorem RR.u31 (h : RR μ cnt lc wc pl) (v : Int32) : RR (gU μ 31 0 v) cnt lc wc pl := h.keep ⟨fun k _ _ _ _ _ a _ _ _ => gU_n a, rfl, rfl, rfl, rfl, rfl⟩ (fun k hk => h.2.2.2.2.2.1 k hk)
theorem RR.u25 (h : RR μ cnt lc wc pl) (x : Int32) : RR (gU μ 25 0 x) cnt lc wc pl := h.keep ⟨fun k _ _ _ _ a _ _ _ _ => gU_n a, rfl, rfl, rfl, rfl, rfl⟩ (fun k hk => h.2.2.2.2.2.1 k hk)
theorem RR.r18 (h : RR μ cnt lc wc pl) (r : Nat → Int32) : RR (gR μ 18 r) cnt lc wc pl := h.keep ⟨fun k _ a _ _ _ _ _ _ _ => gR_n a, rfl, rfl, rfl, rfl, rfl⟩ (fun k hk => h.2.2.2.2.2.1 k hk)
theorem RR.r48 (h : RR μ cnt lc wc pl) (r : Nat → Int32) : RR (gR μ 48 r) cnt lc wc pl := h.keep ⟨fun k _ _ _ _ _ _ _ a _ => gR_n a, rfl, rfl, rfl, rfl, rfl⟩ (fun k hk => h.2.2.2.2.2.1 k hk)
theorem RR.r49 (h : RR μ cnt lc wc pl) (r : Nat → Int32) : RR (gR μ 49 r) cnt lc wc pl := h.keep ⟨fun k _ _ _ _ _ _ _ _ a => gR_n a, rfl, rfl, rfl, rfl, rfl⟩ (fun k hk => h.2.2.2.2.2.1 k hk)
theorem RR.r23 (h : RR μ cnt lc wc pl) {r : Nat → Int32} (hr : ∀ k, cnt ≤ k → r k = 0) : RR (gR μ 23 r) cnt lc wc pl := h.keep ⟨fun k _ _ a _ _ _ _ _ _ => gR_n a, rfl, rfl, rfl, rfl, rfl⟩ (fun k hk => ⟨hr k hk, (h.2.2.2.2.2.1 k hk).2⟩)
theorem RR.r24 (h : RR μ cnt lc wc pl) {r : Nat → Int32} (hr : ∀ k, cnt ≤ k → r k = 0) : RR (gR μ 24 r) cnt lc wc pl := h.keep ⟨fun k _ _ _ a _ _ _ _ _ => gR_n a, rfl, rfl, rfl, rfl, rfl⟩ (fun k hk => ⟨(h.2.2.2.2.2.1 k hk).1, hr k hk, (h.2.2.2.2.2.1 k hk).2.2⟩)
theorem RR.r47 (h : RR μ cnt lc wc pl) {r : Nat → Int32} (hr : ∀ k, cnt ≤ k → r k = 0) : RR (gR μ 47 r) cnt lc wc pl := h.keep ⟨fun k _ _ _ _ _ _ a _ _ => gR_n a, rfl, rfl, rfl, rfl, rfl⟩ (fun k hk => ⟨(h.2.2.2.2.2.1 k hk).1, (h.2.2.2.2.2.1 k hk).2.1, hr k hk⟩)
theorem RR.z47 (h : RR μ cnt lc wc pl) (z : Int32) : ∀ k, cnt ≤ k → mSort μ cnt z (μ 47) k = 0 := fun k hk => (h.sort_out hk).trans (h.2.2.2.2.2.1 k hk).2.2
theorem RR.z23 (h : RR μ cnt lc wc pl) (z : Int32) : ∀ k, cnt ≤ k → fSort μ cnt z (μ 23) k = 0 := fun k hk => by rw [h.sort]; exact h.z47 z k hk
theorem RR.z24 (h : RR μ cnt lc wc pl) (z : Int32) : ∀ k, cnt ≤ k → fSort μ cnt z (μ 24) k = 0 := fun k hk => by rw [h.sort0]; exact (h.sort_out hk).trans (h.2.2.2.2.2.1 k hk).2.1
theorem RR.zz (h : RR μ cnt lc wc pl) (y z : Int32) : ∀ k, cnt ≤ k → mSort μ cnt z (mSort μ cnt y (μ 47)) k = 0 := fun k hk => (h.sort_out hk).trans (h.z47 y k hk)
theorem RR.lk (h : RR μ cnt lc wc pl) (z : Int32) (c : Bool) : RR (lkM μ cnt z c) cnt lc wc pl := by
  cases c
  · exact h
  · exact h.r47 (h.z47 z)
theorem RR.lkc (h : RR μ cnt lc wc pl) (x z : Int32) (b : Bool) : lkC μ cnt x z b = k3 (fndB cnt x) (b && inB z 0 9999) (!decide (fSort μ cnt z (μ 23) (ix x) = -1)) := by
  unfold lkC
  rw [h.sort]
theorem RR.day (h : RR μ cnt lc wc pl) : μ 0 0 = μ 31 1 := h.2.2.2.2.2.2.1.1
theorem RR.c60 (h : RR μ cnt lc wc pl) : cnt ≤ 60 := h.1.1
theorem RR.mt (h : RR μ cnt lc wc pl) : ∀ k, -1 ≤ μ 37 k := h.2.1.2.2.2.2.2.2.2.2.2.2.2.2.1
theorem RR.fh (h : RR μ cnt lc wc pl) (z : Int32) : FH (mSort μ cnt z (μ 47)) (μ 40) (μ 41) (μ 42) lc cnt := ⟨h.1.1, mSort_ok h.1.1, mSort_Rp h.1.1, h.2.1.2.2.2.2.2.2.2.2.2.1, h.2.2.2.2.2.2.1.2.2.1⟩
/-- what fails with the thing of a find -/
theorem RR.fail (h : RR μ cnt lc wc pl) (z : Int32) {i : Nat} (hi : i < cnt) (hS : (!decide (fSort μ cnt z (μ 23) i = -1)) = true) {k : Nat} (hk : k < 60) : (!decide (gFail μ (fSort μ cnt z (μ 23)) lc (ix (fSort μ cnt z (μ 23) i)) k = 0)) = (decide (k < cnt) && !decide (mImp μ lc cnt z i k = 0)) := by
  rw [h.sort] at hS ⊢
  obtain ⟨q, hq, eq⟩ := th_j (mSort_ok h.1.1) hi hS
  have hc := h.1.1
  have e1 := h.2.2.1
  have hiff := fail_iff (h.fh z) (q := q) (by omega) (r := μ 18) (r' := μ 49) hk
  have e2 : ix (nI q) = q := ix_nI (by omega)
  rw [eq, e2]
  have e3 : gFail μ (mSort μ cnt z (μ 47)) lc q = fRun (mSort μ cnt z (μ 47)) (μ 40) (μ 41) (μ 42) lc 60 (upd (zRow 60 (μ 18)) q 1) true := by
    unfold gFail
    rw [e1.2.2.2.2.1, e1.2.2.2.2.2.1, e1.2.2.2.2.2.2.1]
  have e4 : mImp μ lc cnt z i = sRun (mSort μ cnt z (μ 47)) (μ 40) (μ 41) (μ 42) lc cnt 60 (oneR cnt (nI q) (μ 49)) 0 := by
    unfold mImp
    rw [eq, e2]
    rfl
  rw [e3, e4]
  rw [Bool.eq_iff_iff]
  simp only [Bool.and_eq_true, Bool.not_eq_true', decide_eq_false_iff_not, decide_eq_true_eq]
  exact hiff
theorem mV_keep {μ' : gM} (hk : ∀ k, 31 ≤ k → k < 50 → μ' k = μ k) (h : mV μ cnt lc wc pl) : mV μ' cnt lc wc pl := by
  unfold mV at h ⊢
  rw [hk 31 (by decide) (by decide), hk 34 (by decide) (by decide), hk 40 (by decide) (by decide), hk 41 (by decide) (by decide), hk 43 (by decide) (by decide), hk 45 (by decide) (by decide), hk 37 (by decide) (by decide), hk 33 (by decide) (by decide), hk 35 (by decide) (by decide)]
  exact h
end KP
