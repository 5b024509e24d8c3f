section SH
variable {μ : gM} {cnt lc wc : Nat} {pl : Nat → Nat}
theorem lk25 {z v : Int32} {c : Bool} : gU (lkM μ cnt z c) 31 0 v 25 0 = μ 25 0 := by
  show lkM μ cnt z c 25 0 = _
  rw [lkM_n (by decide)]
theorem lk25f {z v : Int32} {c : Bool} {r : Nat → Int32} : gR (gU (lkM μ cnt z c) 31 0 v) 49 r 25 0 = μ 25 0 := lk25 (v := v)
theorem RR.fwk (h : RR μ cnt lc wc pl) (a b : Bool) (x y z : Int32) : k3 a b (!decide (mSort μ cnt z (μ 47) (ix x) = -1) && !decide (mSort μ cnt z (μ 47) (ix y) = -1)) = k3 a b (!decide (fSort μ cnt z (μ 23) (ix x) = -1) && !decide (fSort μ cnt z (μ 23) (ix y) = -1)) := by
  rw [h.sort]
end SH
theorem m9_counts {μ : gM} {cnt lc wc : Nat} {pl : Nat → Nat} (h : RR μ cnt lc wc pl) (x z : Int32) {r9 : Int32} {μ9 : gM} (hp : (r9 = 0 ∧ k2 (fndB cnt x) (inB z 0 9999) = 0 ∧ μ9 = gU μ 25 0 (zB (fStand μ (ix x) z))) ∨ (r9 = 1 ∧ k2 (fndB cnt x) (inB z 0 9999) = 1 ∧ μ9 = μ) ∨ (r9 = 2 ∧ k2 (fndB cnt x) (inB z 0 9999) = 2 ∧ μ9 = μ)) : mV μ9 cnt lc wc pl := by
  rcases hp with ⟨-, -, rfl⟩ | ⟨-, -, rfl⟩ | ⟨-, -, rfl⟩
  · exact h.2.1
  · exact h.2.1
  · exact h.2.1
theorem st_counts {μ : gM} {cnt lc wc : Nat} {pl : Nat → Nat} (h : RR μ cnt lc wc pl) (x z : Int32) {r9 : Int32} {μ9 : gM} (hp : (r9 = 0 ∧ k2 (fndB cnt x) (inB z 0 9999) = 0 ∧ μ9 = gU μ 25 0 (zB (fStand μ (ix x) z))) ∨ (r9 = 1 ∧ k2 (fndB cnt x) (inB z 0 9999) = 1 ∧ μ9 = μ) ∨ (r9 = 2 ∧ k2 (fndB cnt x) (inB z 0 9999) = 2 ∧ μ9 = μ)) {v r6 : Int32} {μ10 : gM} (ev : v = k2 (fndB cnt x) (inB z 0 9999)) (h6 : r6 = (if v = 0 then zB (mStand μ9 (ix x) z) else 0) ∧ μ10 = (if v = 0 then (gU μ9 31 0 v) else gU μ9 31 0 v)) : stC μ10 r9 r6 := by
  obtain ⟨e6, rfl⟩ := h6
  rcases hp with ⟨rfl, hk, rfl⟩ | ⟨rfl, hk, rfl⟩ | ⟨rfl, hk, rfl⟩
  · have hv : v = 0 := ev.trans hk
    rw [if_pos hv] at e6 ⊢
    exact ⟨hv, fun _ => by rw [e6]; exact congrArg zB (h.stand _ _), cnt, lc, wc, pl, (h.u25 _).u31 v⟩
  · have hv : v = 1 := ev.trans hk
    have hn : ¬ v = 0 := by rw [hv]; decide
    rw [if_neg hn] at e6 ⊢
    exact ⟨hv, fun q => absurd q (by decide), cnt, lc, wc, pl, h.u31 v⟩
  · have hv : v = 2 := ev.trans hk
    have hn : ¬ v = 0 := by rw [hv]; decide
    rw [if_neg hn] at e6 ⊢
    exact ⟨hv, fun q => absurd q (by decide), cnt, lc, wc, pl, h.u31 v⟩
theorem m9_things {μ : gM} {cnt lc wc : Nat} {pl : Nat → Nat} (h : RR μ cnt lc wc pl) (z : Int32) {r9 : Int32} {μ9 : gM} (hp : (r9 = 0 ∧ k1 (inB z 0 9999) = 0 ∧ μ9 = gU (gR μ 23 (fSort μ cnt z (μ 23))) 25 0 (nI (cB (fun k => decide ((fSort μ cnt z (μ 23)) k = nI k)) cnt))) ∨ (r9 = 1 ∧ k1 (inB z 0 9999) = 1 ∧ μ9 = μ)) : mV μ9 cnt lc wc pl := by
  rcases hp with ⟨-, -, rfl⟩ | ⟨-, -, rfl⟩
  · exact h.2.1
  · exact h.2.1
theorem st_things {μ : gM} {cnt lc wc : Nat} {pl : Nat → Nat} (h : RR μ cnt lc wc pl) (z : Int32) {r9 : Int32} {μ9 : gM} (hp : (r9 = 0 ∧ k1 (inB z 0 9999) = 0 ∧ μ9 = gU (gR μ 23 (fSort μ cnt z (μ 23))) 25 0 (nI (cB (fun k => decide ((fSort μ cnt z (μ 23)) k = nI k)) cnt))) ∨ (r9 = 1 ∧ k1 (inB z 0 9999) = 1 ∧ μ9 = μ)) {v r6 : Int32} {μ10 : gM} (ev : v = k1 (inB z 0 9999)) (h6 : r6 = (if v = 0 then nI (cB (fun k => decide ((mSort μ9 cnt z (μ9 47)) k = nI k)) cnt) else 0) ∧ μ10 = (if v = 0 then gR (gU μ9 31 0 v) 47 (mSort μ9 cnt z (μ9 47)) else (gU μ9 31 0 v))) : stC μ10 r9 r6 := by
  obtain ⟨e6, rfl⟩ := h6
  rcases hp with ⟨rfl, hk, rfl⟩ | ⟨rfl, hk, rfl⟩
  · have hv : v = 0 := ev.trans hk
    rw [if_pos hv] at e6 ⊢
    refine ⟨hv, fun _ => ?_, cnt, lc, wc, pl, (((h.r23 (h.z23 z)).u25 _).u31 v).r47 (((h.r23 (h.z23 z)).u25 _).z47 z)⟩
    rw [e6, h.sort]
    rfl
  · have hv : v = 1 := ev.trans hk
    have hn : ¬ v = 0 := by rw [hv]; decide
    rw [if_neg hn] at e6 ⊢
    exact ⟨hv, fun q => absurd q (by decide), cnt, lc, wc, pl, h.u31 v⟩
theorem m9_thingOf {μ : gM} {cnt lc wc : Nat} {pl : Nat → Nat} (h : RR μ cnt lc wc pl) (x z : Int32) {r9 : Int32} {μ9 : gM} (hp : (r9 = 0 ∧ k3 (fndB cnt x) (inB z 0 9999) (!decide (fSort μ cnt z (μ 23) (ix x) = -1)) = 0 ∧ μ9 = gU (gR μ 23 (fSort μ cnt z (μ 23))) 25 0 (fSort μ cnt z (μ 23) (ix x))) ∨ (r9 = 1 ∧ k3 (fndB cnt x) (inB z 0 9999) (!decide (fSort μ cnt z (μ 23) (ix x) = -1)) = 1 ∧ μ9 = μ) ∨ (r9 = 2 ∧ k3 (fndB cnt x) (inB z 0 9999) (!decide (fSort μ cnt z (μ 23) (ix x) = -1)) = 2 ∧ μ9 = μ) ∨ (r9 = 3 ∧ k3 (fndB cnt x) (inB z 0 9999) (!decide (fSort μ cnt z (μ 23) (ix x) = -1)) = 3 ∧ μ9 = gR μ 23 (fSort μ cnt z (μ 23)))) : mV μ9 cnt lc wc pl := by
  rcases hp with ⟨-, -, rfl⟩ | ⟨-, -, rfl⟩ | ⟨-, -, rfl⟩ | ⟨-, -, rfl⟩
  · exact h.2.1
  · exact h.2.1
  · exact h.2.1
  · exact h.2.1
theorem st_thingOf {μ : gM} {cnt lc wc : Nat} {pl : Nat → Nat} (h : RR μ cnt lc wc pl) (x z : Int32) {r9 : Int32} {μ9 : gM} (hp : (r9 = 0 ∧ k3 (fndB cnt x) (inB z 0 9999) (!decide (fSort μ cnt z (μ 23) (ix x) = -1)) = 0 ∧ μ9 = gU (gR μ 23 (fSort μ cnt z (μ 23))) 25 0 (fSort μ cnt z (μ 23) (ix x))) ∨ (r9 = 1 ∧ k3 (fndB cnt x) (inB z 0 9999) (!decide (fSort μ cnt z (μ 23) (ix x) = -1)) = 1 ∧ μ9 = μ) ∨ (r9 = 2 ∧ k3 (fndB cnt x) (inB z 0 9999) (!decide (fSort μ cnt z (μ 23) (ix x) = -1)) = 2 ∧ μ9 = μ) ∨ (r9 = 3 ∧ k3 (fndB cnt x) (inB z 0 9999) (!decide (fSort μ cnt z (μ 23) (ix x) = -1)) = 3 ∧ μ9 = gR μ 23 (fSort μ cnt z (μ 23)))) {v r6 : Int32} {μ10 : gM} (ev : v = lkC μ9 cnt x z true) (h6 : r6 = (if v = 0 then (mSort μ9 cnt z (μ9 47)) (ix x) else 0) ∧ μ10 = (if v = 0 then (gU (lkM μ9 cnt z (fndB cnt x && (true && inB z 0 9999))) 31 0 v) else (gU (lkM μ9 cnt z (fndB cnt x && (true && inB z 0 9999))) 31 0 v))) : stC μ10 r9 r6 := by
  obtain ⟨e6, rfl⟩ := h6
  rcases hp with ⟨rfl, hk, rfl⟩ | ⟨rfl, hk, rfl⟩ | ⟨rfl, hk, rfl⟩ | ⟨rfl, hk, rfl⟩
  · have hv : v = 0 := (ev.trans (h.lkc x z true)).trans hk
    rw [if_pos hv] at e6 ⊢
    exact ⟨hv, fun _ => lk25.trans (by rw [e6]; show fSort μ cnt z (μ 23) (ix x) = mSort μ cnt z (μ 47) (ix x); rw [h.sort]), cnt, lc, wc, pl, (((h.r23 (h.z23 z)).u25 _).lk z _).u31 v⟩
  · have hv : v = 1 := (ev.trans (h.lkc x z true)).trans hk
    have hn : ¬ v = 0 := by rw [hv]; decide
    rw [if_neg hn] at e6 ⊢
    exact ⟨hv, fun q => absurd q (by decide), cnt, lc, wc, pl, (h.lk z _).u31 v⟩
  · have hv : v = 2 := (ev.trans (h.lkc x z true)).trans hk
    have hn : ¬ v = 0 := by rw [hv]; decide
    rw [if_neg hn] at e6 ⊢
    exact ⟨hv, fun q => absurd q (by decide), cnt, lc, wc, pl, (h.lk z _).u31 v⟩
  · have hv : v = 3 := (ev.trans (h.lkc x z true)).trans hk
    have hn : ¬ v = 0 := by rw [hv]; decide
    rw [if_neg hn] at e6 ⊢
    exact ⟨hv, fun q => absurd q (by decide), cnt, lc, wc, pl, ((h.r23 (h.z23 z)).lk z _).u31 v⟩
theorem m9_value {μ : gM} {cnt lc wc : Nat} {pl : Nat → Nat} (h : RR μ cnt lc wc pl) (x a z : Int32) {r9 : Int32} {μ9 : gM} (hp : (r9 = 0 ∧ k3 (fndB cnt x) (inB a 0 1 && inB z 0 9999) (!decide (fSort μ cnt z (μ 23) (ix x) = -1)) = 0 ∧ μ9 = gU (gR μ 23 (fSort μ cnt z (μ 23))) 25 0 (aVal (fSort μ cnt z (μ 23)) (μ (29 + (ix a))) (fPl μ) ((fSort μ cnt z (μ 23)) (ix x)) cnt)) ∨ (r9 = 1 ∧ k3 (fndB cnt x) (inB a 0 1 && inB z 0 9999) (!decide (fSort μ cnt z (μ 23) (ix x) = -1)) = 1 ∧ μ9 = μ) ∨ (r9 = 2 ∧ k3 (fndB cnt x) (inB a 0 1 && inB z 0 9999) (!decide (fSort μ cnt z (μ 23) (ix x) = -1)) = 2 ∧ μ9 = μ) ∨ (r9 = 3 ∧ k3 (fndB cnt x) (inB a 0 1 && inB z 0 9999) (!decide (fSort μ cnt z (μ 23) (ix x) = -1)) = 3 ∧ μ9 = gR μ 23 (fSort μ cnt z (μ 23)))) : mV μ9 cnt lc wc pl := by
  rcases hp with ⟨-, -, rfl⟩ | ⟨-, -, rfl⟩ | ⟨-, -, rfl⟩ | ⟨-, -, rfl⟩
  · exact h.2.1
  · exact h.2.1
  · exact h.2.1
  · exact h.2.1
theorem st_value {μ : gM} {cnt lc wc : Nat} {pl : Nat → Nat} (h : RR μ cnt lc wc pl) (x a z : Int32) {r9 : Int32} {μ9 : gM} (hp : (r9 = 0 ∧ k3 (fndB cnt x) (inB a 0 1 && inB z 0 9999) (!decide (fSort μ cnt z (μ 23) (ix x) = -1)) = 0 ∧ μ9 = gU (gR μ 23 (fSort μ cnt z (μ 23))) 25 0 (aVal (fSort μ cnt z (μ 23)) (μ (29 + (ix a))) (fPl μ) ((fSort μ cnt z (μ 23)) (ix x)) cnt)) ∨ (r9 = 1 ∧ k3 (fndB cnt x) (inB a 0 1 && inB z 0 9999) (!decide (fSort μ cnt z (μ 23) (ix x) = -1)) = 1 ∧ μ9 = μ) ∨ (r9 = 2 ∧ k3 (fndB cnt x) (inB a 0 1 && inB z 0 9999) (!decide (fSort μ cnt z (μ 23) (ix x) = -1)) = 2 ∧ μ9 = μ) ∨ (r9 = 3 ∧ k3 (fndB cnt x) (inB a 0 1 && inB z 0 9999) (!decide (fSort μ cnt z (μ 23) (ix x) = -1)) = 3 ∧ μ9 = gR μ 23 (fSort μ cnt z (μ 23)))) {v r6 : Int32} {μ10 : gM} (ev : v = lkC μ9 cnt x z (inB a 0 1)) (h6 : r6 = (if v = 0 then aVal (mSort μ9 cnt z (μ9 47)) (mTl μ9 (ix a)) (mPl μ9 pl) ((mSort μ9 cnt z (μ9 47)) (ix x)) cnt else 0) ∧ μ10 = (if v = 0 then (gU (lkM μ9 cnt z (fndB cnt x && (inB a 0 1 && inB z 0 9999))) 31 0 v) else (gU (lkM μ9 cnt z (fndB cnt x && (inB a 0 1 && inB z 0 9999))) 31 0 v))) : stC μ10 r9 r6 := by
  obtain ⟨e6, rfl⟩ := h6
  rcases hp with ⟨rfl, hk, rfl⟩ | ⟨rfl, hk, rfl⟩ | ⟨rfl, hk, rfl⟩ | ⟨rfl, hk, rfl⟩
  · have hv : v = 0 := (ev.trans (h.lkc x z (inB a 0 1))).trans hk
    rw [if_pos hv] at e6 ⊢
    have la : ix a < 2 := (vp_ix (inB_vp (and_b (k3_z hk).2.1).1 (N := 2) rfl) (by decide)).2
    exact ⟨hv, fun _ => lk25.trans (by rw [e6]; show aVal (fSort μ cnt z (μ 23)) (μ (29 + ix a)) (fPl μ) (fSort μ cnt z (μ 23) (ix x)) cnt = aVal (mSort μ cnt z (μ 47)) (mTl μ (ix a)) (mPl μ pl) (mSort μ cnt z (μ 47) (ix x)) cnt; rw [h.sort, h.tls la, h.plc]), cnt, lc, wc, pl, (((h.r23 (h.z23 z)).u25 _).lk z _).u31 v⟩
  · have hv : v = 1 := (ev.trans (h.lkc x z (inB a 0 1))).trans hk
    have hn : ¬ v = 0 := by rw [hv]; decide
    rw [if_neg hn] at e6 ⊢
    exact ⟨hv, fun q => absurd q (by decide), cnt, lc, wc, pl, (h.lk z _).u31 v⟩
  · have hv : v = 2 := (ev.trans (h.lkc x z (inB a 0 1))).trans hk
    have hn : ¬ v = 0 := by rw [hv]; decide
    rw [if_neg hn] at e6 ⊢
    exact ⟨hv, fun q => absurd q (by decide), cnt, lc, wc, pl, (h.lk z _).u31 v⟩
  · have hv : v = 3 := (ev.trans (h.lkc x z (inB a 0 1))).trans hk
    have hn : ¬ v = 0 := by rw [hv]; decide
    rw [if_neg hn] at e6 ⊢
    exact ⟨hv, fun q => absurd q (by decide), cnt, lc, wc, pl, ((h.r23 (h.z23 z)).lk z _).u31 v⟩
theorem m9_disputed {μ : gM} {cnt lc wc : Nat} {pl : Nat → Nat} (h : RR μ cnt lc wc pl) (a z : Int32) {r9 : Int32} {μ9 : gM} (hp : (r9 = 0 ∧ k1 (inB a 0 1 && inB z 0 9999) = 0 ∧ μ9 = gU (gR μ 23 (fSort μ cnt z (μ 23))) 25 0 (nI (cB (fun k => decide ((fSort μ cnt z (μ 23)) k = nI k) && uBad (fSort μ cnt z (μ 23)) (μ (29 + (ix a))) (nI k) cnt) cnt))) ∨ (r9 = 1 ∧ k1 (inB a 0 1 && inB z 0 9999) = 1 ∧ μ9 = μ)) : mV μ9 cnt lc wc pl := by
  rcases hp with ⟨-, -, rfl⟩ | ⟨-, -, rfl⟩
  · exact h.2.1
  · exact h.2.1
theorem st_disputed {μ : gM} {cnt lc wc : Nat} {pl : Nat → Nat} (h : RR μ cnt lc wc pl) (a z : Int32) {r9 : Int32} {μ9 : gM} (hp : (r9 = 0 ∧ k1 (inB a 0 1 && inB z 0 9999) = 0 ∧ μ9 = gU (gR μ 23 (fSort μ cnt z (μ 23))) 25 0 (nI (cB (fun k => decide ((fSort μ cnt z (μ 23)) k = nI k) && uBad (fSort μ cnt z (μ 23)) (μ (29 + (ix a))) (nI k) cnt) cnt))) ∨ (r9 = 1 ∧ k1 (inB a 0 1 && inB z 0 9999) = 1 ∧ μ9 = μ)) {v r6 : Int32} {μ10 : gM} (ev : v = k1 (inB a 0 1 && inB z 0 9999)) (h6 : r6 = (if v = 0 then nI (cB (fun k => dPre (mSort μ9 cnt z (μ9 47)) (mTl μ9 (ix a)) (mPl μ9 pl) cnt k cnt) cnt) else 0) ∧ μ10 = (if v = 0 then gR (gU μ9 31 0 v) 47 (mSort μ9 cnt z (μ9 47)) else (gU μ9 31 0 v))) : stC μ10 r9 r6 := by
  obtain ⟨e6, rfl⟩ := h6
  rcases hp with ⟨rfl, hk, rfl⟩ | ⟨rfl, hk, rfl⟩
  · have hv : v = 0 := ev.trans hk
    rw [if_pos hv] at e6 ⊢
    have la : ix a < 2 := (vp_ix (inB_vp (and_b (k1_z hk)).1 (N := 2) rfl) (by decide)).2
    refine ⟨hv, fun _ => ?_, cnt, lc, wc, pl, (((h.r23 (h.z23 z)).u25 _).u31 v).r47 (((h.r23 (h.z23 z)).u25 _).z47 z)⟩
    rw [e6, h.sort, h.tls la]
    show nI (cB _ cnt) = nI (cB _ cnt)
    refine congrArg nI (cB_ext fun k _ => ?_)
    exact disp_eq h.c60 (fun k => h.mt _)
  · have hv : v = 1 := ev.trans hk
    have hn : ¬ v = 0 := by rw [hv]; decide
    rw [if_neg hn] at e6 ⊢
    exact ⟨hv, fun q => absurd q (by decide), cnt, lc, wc, pl, h.u31 v⟩
theorem m9_impact {μ : gM} {cnt lc wc : Nat} {pl : Nat → Nat} (h : RR μ cnt lc wc pl) (x z : Int32) {r9 : Int32} {μ9 : gM} (hp : (r9 = 0 ∧ k3 (fndB cnt x) (inB z 0 9999) (!decide (fSort μ cnt z (μ 23) (ix x) = -1)) = 0 ∧ μ9 = gU (gR (gR μ 23 (fSort μ cnt z (μ 23))) 18 (gFail μ (fSort μ cnt z (μ 23)) lc (ix ((fSort μ cnt z (μ 23)) (ix x))))) 25 0 (nI (cB (fun k => !decide ((gFail μ (fSort μ cnt z (μ 23)) lc (ix ((fSort μ cnt z (μ 23)) (ix x)))) k = 0)) 60))) ∨ (r9 = 1 ∧ k3 (fndB cnt x) (inB z 0 9999) (!decide (fSort μ cnt z (μ 23) (ix x) = -1)) = 1 ∧ μ9 = μ) ∨ (r9 = 2 ∧ k3 (fndB cnt x) (inB z 0 9999) (!decide (fSort μ cnt z (μ 23) (ix x) = -1)) = 2 ∧ μ9 = μ) ∨ (r9 = 3 ∧ k3 (fndB cnt x) (inB z 0 9999) (!decide (fSort μ cnt z (μ 23) (ix x) = -1)) = 3 ∧ μ9 = gR μ 23 (fSort μ cnt z (μ 23)))) : mV μ9 cnt lc wc pl := by
  rcases hp with ⟨-, -, rfl⟩ | ⟨-, -, rfl⟩ | ⟨-, -, rfl⟩ | ⟨-, -, rfl⟩
  · exact h.2.1
  · exact h.2.1
  · exact h.2.1
  · exact h.2.1
theorem st_impact {μ : gM} {cnt lc wc : Nat} {pl : Nat → Nat} (h : RR μ cnt lc wc pl) (x z : Int32) {r9 : Int32} {μ9 : gM} (hp : (r9 = 0 ∧ k3 (fndB cnt x) (inB z 0 9999) (!decide (fSort μ cnt z (μ 23) (ix x) = -1)) = 0 ∧ μ9 = gU (gR (gR μ 23 (fSort μ cnt z (μ 23))) 18 (gFail μ (fSort μ cnt z (μ 23)) lc (ix ((fSort μ cnt z (μ 23)) (ix x))))) 25 0 (nI (cB (fun k => !decide ((gFail μ (fSort μ cnt z (μ 23)) lc (ix ((fSort μ cnt z (μ 23)) (ix x)))) k = 0)) 60))) ∨ (r9 = 1 ∧ k3 (fndB cnt x) (inB z 0 9999) (!decide (fSort μ cnt z (μ 23) (ix x) = -1)) = 1 ∧ μ9 = μ) ∨ (r9 = 2 ∧ k3 (fndB cnt x) (inB z 0 9999) (!decide (fSort μ cnt z (μ 23) (ix x) = -1)) = 2 ∧ μ9 = μ) ∨ (r9 = 3 ∧ k3 (fndB cnt x) (inB z 0 9999) (!decide (fSort μ cnt z (μ 23) (ix x) = -1)) = 3 ∧ μ9 = gR μ 23 (fSort μ cnt z (μ 23)))) {v r6 : Int32} {μ10 : gM} (ev : v = lkC μ9 cnt x z true) (h6 : r6 = (if v = 0 then nI (cF cnt (mImp μ9 lc cnt z (ix x))) else 0) ∧ μ10 = (if v = 0 then gR (gU (lkM μ9 cnt z (fndB cnt x && (true && inB z 0 9999))) 31 0 v) 49 (mImp μ9 lc cnt z (ix x)) else (gU (lkM μ9 cnt z (fndB cnt x && (true && inB z 0 9999))) 31 0 v))) : stC μ10 r9 r6 := by
  obtain ⟨e6, rfl⟩ := h6
  rcases hp with ⟨rfl, hk, rfl⟩ | ⟨rfl, hk, rfl⟩ | ⟨rfl, hk, rfl⟩ | ⟨rfl, hk, rfl⟩
  · have hv : v = 0 := (ev.trans (h.lkc x z true)).trans hk
    rw [if_pos hv] at e6 ⊢
    obtain ⟨k1, k2, k3⟩ := k3_z hk
    have lx := (fnd_ix k1 h.c60).2
    refine ⟨hv, fun _ => lk25f.trans ?_, cnt, lc, wc, pl, ((((((h.r23 (h.z23 z)).r18 _).u25 _).lk z _).u31 v).r49 _)⟩
    rw [e6]
    show nI (cB (fun k => !decide (gFail μ (fSort μ cnt z (μ 23)) lc (ix (fSort μ cnt z (μ 23) (ix x))) k = 0)) 60) = nI (cF cnt (mImp μ lc cnt z (ix x)))
    refine congrArg nI ?_
    rw [cB_ext (q := fun k => decide (k < cnt) && !decide (mImp μ lc cnt z (ix x) k = 0)) (fun k hk9 => h.fail z lx k3 hk9)]
    obtain ⟨d, hd⟩ := Nat.le.dest h.c60
    rw [← hd, cB_tail d (fun k h1 _ => by rw [decide_eq_false (by omega)]; rfl)]
    exact cB_ext fun k hk9 => by rw [decide_eq_true hk9]; rfl
  · have hv : v = 1 := (ev.trans (h.lkc x z true)).trans hk
    have hn : ¬ v = 0 := by rw [hv]; decide
    rw [if_neg hn] at e6 ⊢
    exact ⟨hv, fun q => absurd q (by decide), cnt, lc, wc, pl, (h.lk z _).u31 v⟩
  · have hv : v = 2 := (ev.trans (h.lkc x z true)).trans hk
    have hn : ¬ v = 0 := by rw [hv]; decide
    rw [if_neg hn] at e6 ⊢
    exact ⟨hv, fun q => absurd q (by decide), cnt, lc, wc, pl, (h.lk z _).u31 v⟩
  · have hv : v = 3 := (ev.trans (h.lkc x z true)).trans hk
    have hn : ¬ v = 0 := by rw [hv]; decide
    rw [if_neg hn] at e6 ⊢
    exact ⟨hv, fun q => absurd q (by decide), cnt, lc, wc, pl, ((h.r23 (h.z23 z)).lk z _).u31 v⟩
theorem m9_failsWith {μ : gM} {cnt lc wc : Nat} {pl : Nat → Nat} (h : RR μ cnt lc wc pl) (x y z : Int32) {r9 : Int32} {μ9 : gM} (hp : (r9 = 0 ∧ k3 (fndB cnt x && fndB cnt y) (inB z 0 9999) (!decide (fSort μ cnt z (μ 23) (ix x) = -1) && !decide (fSort μ cnt z (μ 23) (ix y) = -1)) = 0 ∧ μ9 = gU (gR (gR μ 23 (fSort μ cnt z (μ 23))) 18 (gFail μ (fSort μ cnt z (μ 23)) lc (ix ((fSort μ cnt z (μ 23)) (ix y))))) 25 0 (zB (!decide ((gFail μ (fSort μ cnt z (μ 23)) lc (ix ((fSort μ cnt z (μ 23)) (ix y)))) (ix ((fSort μ cnt z (μ 23)) (ix x))) = 0)))) ∨ (r9 = 1 ∧ k3 (fndB cnt x && fndB cnt y) (inB z 0 9999) (!decide (fSort μ cnt z (μ 23) (ix x) = -1) && !decide (fSort μ cnt z (μ 23) (ix y) = -1)) = 1 ∧ μ9 = μ) ∨ (r9 = 2 ∧ k3 (fndB cnt x && fndB cnt y) (inB z 0 9999) (!decide (fSort μ cnt z (μ 23) (ix x) = -1) && !decide (fSort μ cnt z (μ 23) (ix y) = -1)) = 2 ∧ μ9 = μ) ∨ (r9 = 3 ∧ k3 (fndB cnt x && fndB cnt y) (inB z 0 9999) (!decide (fSort μ cnt z (μ 23) (ix x) = -1) && !decide (fSort μ cnt z (μ 23) (ix y) = -1)) = 3 ∧ μ9 = gR μ 23 (fSort μ cnt z (μ 23)))) : mV μ9 cnt lc wc pl := by
  rcases hp with ⟨-, -, rfl⟩ | ⟨-, -, rfl⟩ | ⟨-, -, rfl⟩ | ⟨-, -, rfl⟩
  · exact h.2.1
  · exact h.2.1
  · exact h.2.1
  · exact h.2.1
theorem st_failsWith {μ : gM} {cnt lc wc : Nat} {pl : Nat → Nat} (h : RR μ cnt lc wc pl) (x y z : Int32) {r9 : Int32} {μ9 : gM} (hp : (r9 = 0 ∧ k3 (fndB cnt x && fndB cnt y) (inB z 0 9999) (!decide (fSort μ cnt z (μ 23) (ix x) = -1) && !decide (fSort μ cnt z (μ 23) (ix y) = -1)) = 0 ∧ μ9 = gU (gR (gR μ 23 (fSort μ cnt z (μ 23))) 18 (gFail μ (fSort μ cnt z (μ 23)) lc (ix ((fSort μ cnt z (μ 23)) (ix y))))) 25 0 (zB (!decide ((gFail μ (fSort μ cnt z (μ 23)) lc (ix ((fSort μ cnt z (μ 23)) (ix y)))) (ix ((fSort μ cnt z (μ 23)) (ix x))) = 0)))) ∨ (r9 = 1 ∧ k3 (fndB cnt x && fndB cnt y) (inB z 0 9999) (!decide (fSort μ cnt z (μ 23) (ix x) = -1) && !decide (fSort μ cnt z (μ 23) (ix y) = -1)) = 1 ∧ μ9 = μ) ∨ (r9 = 2 ∧ k3 (fndB cnt x && fndB cnt y) (inB z 0 9999) (!decide (fSort μ cnt z (μ 23) (ix x) = -1) && !decide (fSort μ cnt z (μ 23) (ix y) = -1)) = 2 ∧ μ9 = μ) ∨ (r9 = 3 ∧ k3 (fndB cnt x && fndB cnt y) (inB z 0 9999) (!decide (fSort μ cnt z (μ 23) (ix x) = -1) && !decide (fSort μ cnt z (μ 23) (ix y) = -1)) = 3 ∧ μ9 = gR μ 23 (fSort μ cnt z (μ 23)))) {v r6 : Int32} {μ10 : gM} (ev : v = k3 (fndB cnt x && fndB cnt y) (inB z 0 9999) (!decide ((mSort μ9 cnt z (μ9 47)) (ix x) = -1) && !decide ((mSort μ9 cnt z (μ9 47)) (ix y) = -1))) (h6 : r6 = (if v = 0 then zB (!decide ((mImp μ9 lc cnt z (ix y)) (ix ((mSort μ9 cnt z (μ9 47)) (ix x))) = 0)) else 0) ∧ μ10 = (if v = 0 then gR (gU (lkM μ9 cnt z ((fndB cnt x && fndB cnt y) && inB z 0 9999)) 31 0 v) 49 (mImp μ9 lc cnt z (ix y)) else (gU (lkM μ9 cnt z ((fndB cnt x && fndB cnt y) && inB z 0 9999)) 31 0 v))) : stC μ10 r9 r6 := by
  obtain ⟨e6, rfl⟩ := h6
  rcases hp with ⟨rfl, hk, rfl⟩ | ⟨rfl, hk, rfl⟩ | ⟨rfl, hk, rfl⟩ | ⟨rfl, hk, rfl⟩
  · have hv : v = 0 := ev.trans ((h.fwk _ _ x y z).trans hk)
    rw [if_pos hv] at e6 ⊢
    obtain ⟨k1, k2, k3⟩ := k3_z hk
    have lx := (fnd_ix (and_b k1).1 h.c60).2
    have ly := (fnd_ix (and_b k1).2 h.c60).2
    refine ⟨hv, fun _ => lk25f.trans ?_, cnt, lc, wc, pl, ((((((h.r23 (h.z23 z)).r18 _).u25 _).lk z _).u31 v).r49 _)⟩
    rw [e6]
    show zB (!decide (gFail μ (fSort μ cnt z (μ 23)) lc (ix (fSort μ cnt z (μ 23) (ix y))) (ix (fSort μ cnt z (μ 23) (ix x))) = 0)) = zB (!decide (mImp μ lc cnt z (ix y) (ix (mSort μ cnt z (μ 47) (ix x))) = 0))
    have hS := (and_b k3).1
    rw [h.sort] at hS
    obtain ⟨q, hq, eq⟩ := th_j (mSort_ok h.c60) lx hS
    have hc := h.c60
    have e2 : ix (nI q) = q := ix_nI (by omega)
    rw [show ix (fSort μ cnt z (μ 23) (ix x)) = q by rw [h.sort, eq, e2], eq, e2, h.fail z ly (and_b k3).2 (by omega), decide_eq_true (show q < cnt by omega)]
    rfl
  · have hv : v = 1 := ev.trans ((h.fwk _ _ x y z).trans hk)
    have hn : ¬ v = 0 := by rw [hv]; decide
    rw [if_neg hn] at e6 ⊢
    exact ⟨hv, fun q => absurd q (by decide), cnt, lc, wc, pl, (h.lk z _).u31 v⟩
  · have hv : v = 2 := ev.trans ((h.fwk _ _ x y z).trans hk)
    have hn : ¬ v = 0 := by rw [hv]; decide
    rw [if_neg hn] at e6 ⊢
    exact ⟨hv, fun q => absurd q (by decide), cnt, lc, wc, pl, (h.lk z _).u31 v⟩
  · have hv : v = 3 := ev.trans ((h.fwk _ _ x y z).trans hk)
    have hn : ¬ v = 0 := by rw [hv]; decide
    rw [if_neg hn] at e6 ⊢
    exact ⟨hv, fun q => absurd q (by decide), cnt, lc, wc, pl, ((h.r23 (h.z23 z)).lk z _).u31 v⟩
theorem m9_differing {μ : gM} {cnt lc wc : Nat} {pl : Nat → Nat} (h : RR μ cnt lc wc pl) (x z : Int32) {r9 : Int32} {μ9 : gM} (hp : (r9 = 0 ∧ k2 (fndB wc x) (inB z 0 9999) = 0 ∧ μ9 = gU (gR μ 23 (fSort μ cnt z (μ 23))) 25 0 (nI (cB (fun k => decide ((fSort μ cnt z (μ 23)) k = nI k) && (hMark (fSort μ cnt z (μ 23)) (μ (26 + ix (μ 19 (ix x)))) (nI k) (μ 20 (ix x)) cnt && !decide (aVal (fSort μ cnt z (μ 23)) (μ (29 + ix (μ 21 (ix x)))) (fPl μ) (nI k) cnt = μ 22 (ix x)))) cnt))) ∨ (r9 = 1 ∧ k2 (fndB wc x) (inB z 0 9999) = 1 ∧ μ9 = μ) ∨ (r9 = 2 ∧ k2 (fndB wc x) (inB z 0 9999) = 2 ∧ μ9 = μ)) : mV μ9 cnt lc wc pl := by
  rcases hp with ⟨-, -, rfl⟩ | ⟨-, -, rfl⟩ | ⟨-, -, rfl⟩
  · exact h.2.1
  · exact h.2.1
  · exact h.2.1
theorem st_differing {μ : gM} {cnt lc wc : Nat} {pl : Nat → Nat} (h : RR μ cnt lc wc pl) (x z : Int32) {r9 : Int32} {μ9 : gM} (hp : (r9 = 0 ∧ k2 (fndB wc x) (inB z 0 9999) = 0 ∧ μ9 = gU (gR μ 23 (fSort μ cnt z (μ 23))) 25 0 (nI (cB (fun k => decide ((fSort μ cnt z (μ 23)) k = nI k) && (hMark (fSort μ cnt z (μ 23)) (μ (26 + ix (μ 19 (ix x)))) (nI k) (μ 20 (ix x)) cnt && !decide (aVal (fSort μ cnt z (μ 23)) (μ (29 + ix (μ 21 (ix x)))) (fPl μ) (nI k) cnt = μ 22 (ix x)))) cnt))) ∨ (r9 = 1 ∧ k2 (fndB wc x) (inB z 0 9999) = 1 ∧ μ9 = μ) ∨ (r9 = 2 ∧ k2 (fndB wc x) (inB z 0 9999) = 2 ∧ μ9 = μ)) {v r6 : Int32} {μ10 : gM} (ev : v = k2 (fndB wc x) (inB z 0 9999)) (h6 : r6 = (if v = 0 then nI (cB (fun k => wMk (mSort μ9 cnt z (μ9 47)) (fun k => μ9 36 (3 * k + ix (μ9 43 (ix x)))) (nI k) (μ9 44 (ix x)) k cnt && !decide (aVal (mSort μ9 cnt z (μ9 47)) (mTl μ9 (ix (μ9 45 (ix x)))) (mPl μ9 pl) (nI k) cnt = μ9 46 (ix x))) cnt) else 0) ∧ μ10 = (if v = 0 then gR (gU μ9 31 0 v) 47 (mSort μ9 cnt z (μ9 47)) else (gU μ9 31 0 v))) : stC μ10 r9 r6 := by
  obtain ⟨e6, rfl⟩ := h6
  rcases hp with ⟨rfl, hk, rfl⟩ | ⟨rfl, hk, rfl⟩ | ⟨rfl, hk, rfl⟩
  · have hv : v = 0 := ev.trans hk
    rw [if_pos hv] at e6 ⊢
    have lx := (fnd_ix (k2_z hk).1 (show wc ≤ 60 by have := h.1.2.2.2.2.1; omega)).2
    have e1 := h.2.2.1
    have l3 : ix (μ 43 (ix x)) < 3 := (vp_ix (h.2.1.2.2.2.2.2.2.2.2.2.2.1 _) (by decide)).2
    have l2 : ix (μ 45 (ix x)) < 2 := (vp_ix (h.2.1.2.2.2.2.2.2.2.2.2.2.2.1 _) (by decide)).2
    refine ⟨hv, fun _ => ?_, cnt, lc, wc, pl, (((h.r23 (h.z23 z)).u25 _).u31 v).r47 (((h.r23 (h.z23 z)).u25 _).z47 z)⟩
    rw [e6, h.sort, e1.2.2.2.2.2.2.2.1, e1.2.2.2.2.2.2.2.2.1, e1.2.2.2.2.2.2.2.2.2.1, e1.2.2.2.2.2.2.2.2.2.2, h.mks l3, h.tls l2, h.plc]
    show nI (cB _ cnt) = nI (cB _ cnt)
    refine congrArg nI (cB_ext fun k _ => ?_)
    unfold wMk
    rw [Bool.and_assoc]
    rfl
  · have hv : v = 1 := ev.trans hk
    have hn : ¬ v = 0 := by rw [hv]; decide
    rw [if_neg hn] at e6 ⊢
    exact ⟨hv, fun q => absurd q (by decide), cnt, lc, wc, pl, h.u31 v⟩
  · have hv : v = 2 := ev.trans hk
    have hn : ¬ v = 0 := by rw [hv]; decide
    rw [if_neg hn] at e6 ⊢
    exact ⟨hv, fun q => absurd q (by decide), cnt, lc, wc, pl, h.u31 v⟩
theorem m9_changed {μ : gM} {cnt lc wc : Nat} {pl : Nat → Nat} (h : RR μ cnt lc wc pl) (a y z : Int32) {r9 : Int32} {μ9 : gM} (hp : (r9 = 0 ∧ k1 (inB a 0 1 && inB y 0 9999 && inB z 0 9999) = 0 ∧ μ9 = gU (gR (gR μ 23 (fSort μ cnt y (μ 23))) 24 (fSort μ cnt z (μ 24))) 25 0 (nI (cB (fun k => havB (fSort μ cnt y (μ 23)) (fSort μ cnt z (μ 24)) (μ (29 + (ix a))) (fPl μ) cnt k) cnt))) ∨ (r9 = 1 ∧ k1 (inB a 0 1 && inB y 0 9999 && inB z 0 9999) = 1 ∧ μ9 = μ)) : mV μ9 cnt lc wc pl := by
  rcases hp with ⟨-, -, rfl⟩ | ⟨-, -, rfl⟩
  · exact h.2.1
  · exact h.2.1
theorem st_changed {μ : gM} {cnt lc wc : Nat} {pl : Nat → Nat} (h : RR μ cnt lc wc pl) (a y z : Int32) {r9 : Int32} {μ9 : gM} (hp : (r9 = 0 ∧ k1 (inB a 0 1 && inB y 0 9999 && inB z 0 9999) = 0 ∧ μ9 = gU (gR (gR μ 23 (fSort μ cnt y (μ 23))) 24 (fSort μ cnt z (μ 24))) 25 0 (nI (cB (fun k => havB (fSort μ cnt y (μ 23)) (fSort μ cnt z (μ 24)) (μ (29 + (ix a))) (fPl μ) cnt k) cnt))) ∨ (r9 = 1 ∧ k1 (inB a 0 1 && inB y 0 9999 && inB z 0 9999) = 1 ∧ μ9 = μ)) {v r6 : Int32} {μ10 : gM} (ev : v = k1 (inB a 0 1 && inB y 0 9999 && inB z 0 9999)) (h6 : r6 = (if v = 0 then nI (cB (fun k => cDif (mSort μ9 cnt z (mSort μ9 cnt y (μ9 47))) (mTl μ9 (ix a)) (mPl μ9 pl) (cRow (mSort μ9 cnt y (μ9 47)) (mTl μ9 (ix a)) (mPl μ9 pl) (μ9 48) cnt cnt) cnt k) cnt) else 0) ∧ μ10 = (if v = 0 then gR (gR (gR (gU μ9 31 0 v) 47 (mSort μ9 cnt y (μ9 47))) 48 (cRow (mSort μ9 cnt y (μ9 47)) (mTl μ9 (ix a)) (mPl μ9 pl) (μ9 48) cnt cnt)) 47 (mSort μ9 cnt z (mSort μ9 cnt y (μ9 47))) else (gU μ9 31 0 v))) : stC μ10 r9 r6 := by
  obtain ⟨e6, rfl⟩ := h6
  rcases hp with ⟨rfl, hk, rfl⟩ | ⟨rfl, hk, rfl⟩
  · have hv : v = 0 := ev.trans hk
    rw [if_pos hv] at e6 ⊢
    have la : ix a < 2 := (vp_ix (inB_vp (and_b (and_b (k1_z hk)).1).1 (N := 2) rfl) (by decide)).2
    have h9 := (((h.r23 (h.z23 y)).r24 (h.z24 z)).u25 (nI (cB (fun k => havB (fSort μ cnt y (μ 23)) (fSort μ cnt z (μ 24)) (μ (29 + ix a)) (fPl μ) cnt k) cnt)))
    refine ⟨hv, fun _ => ?_, cnt, lc, wc, pl, (((h9.u31 v).r47 (h9.z47 y)).r48 _).r47 (h9.zz y z)⟩
    rw [e6, h.sort, h.sort2 y, h.tls la, h.plc]
    show nI (cB _ cnt) = nI (cB _ cnt)
    refine congrArg nI (cB_ext fun k hk9 => ?_)
    exact chg_eq h.c60 (fun k => h.mt _) (mSort_ok h.c60) (mSort_ok h.c60) hk9
  · have hv : v = 1 := ev.trans hk
    have hn : ¬ v = 0 := by rw [hv]; decide
    rw [if_neg hn] at e6 ⊢
    exact ⟨hv, fun q => absurd q (by decide), cnt, lc, wc, pl, h.u31 v⟩
