/-! what the law's own methods answer, by what is kept alone -/
theorem k1_1 {a : Bool} (h : k1 a = 1) : a = false := by cases a <;> first | rfl | (revert h; decide)
theorem k2_1 {a b : Bool} (h : k2 a b = 1) : a = false := by cases a <;> cases b <;> first | rfl | (revert h; decide)
theorem k2_2 {a b : Bool} (h : k2 a b = 2) : a = true ∧ b = false := by cases a <;> cases b <;> first | exact ⟨rfl, rfl⟩ | (revert h; decide)
theorem k3_1 {a b c : Bool} (h : k3 a b c = 1) : a = false := by cases a <;> cases b <;> cases c <;> first | rfl | (revert h; decide)
theorem k3_2 {a b c : Bool} (h : k3 a b c = 2) : a = true ∧ b = false := by cases a <;> cases b <;> cases c <;> first | exact ⟨rfl, rfl⟩ | (revert h; decide)
theorem k3_3 {a b c : Bool} (h : k3 a b c = 3) : a = true ∧ b = true ∧ c = false := by cases a <;> cases b <;> cases c <;> first | exact ⟨rfl, rfl, rfl⟩ | (revert h; decide)
theorem fnd_iz {n : Nat} {x : Int32} (h : fndB n x = true) (hn : n ≤ 60) : ix x < n ∧ x = nI (ix x) := by
  obtain ⟨i, hi, rfl⟩ := fndB_s h (by omega)
  rw [ix_nI (by omega)]
  exact ⟨hi, rfl⟩
theorem two_ix {a : Int32} {b : Bool} (h : (inB a 0 1 && b) = true) : ix a < 2 := by
  rw [Bool.and_eq_true] at h
  obtain ⟨i, hi, rfl⟩ := inB_nI (n := 1) h.1 (by decide)
  rw [ix_nI (by omega)]
  omega
theorem st_eq {μ : gM} {n i : Nat} {z : Int32} (hn : n ≤ 60) (hi : i < n) : (!decide (tT μ n z i = -1)) = fStand μ i z := by
  cases h : fStand μ i z
  · rw [decide_eq_true ((tT_neg hn hi).mpr h)]; rfl
  · rw [decide_eq_false (fun q => by rw [(tT_neg hn hi).mp q] at h; cases h)]; rfl
theorem lab_lt {μ : gM} {cnt lc wc : Nat} {x z : Int32} (I : I1 μ cnt lc wc) (ha : fndB cnt x = true) (hs : fStand μ (ix x) z = true) : ix (tT μ cnt z (ix x)) < 60 := by
  obtain ⟨h1, -⟩ := fnd_iz ha I.c60
  obtain ⟨a, h2, h3, -⟩ := tT_lab I.c60 h1 hs
  have := I.c60
  rw [h3, ix_nI (by omega)]
  omega
theorem n_passes {μ0 μ μ' : gM} {cnt lc wc : Nat} {x : Int32} {r : Int32} (I : I1 μ0 cnt lc wc) (S : Sc cnt μ0 μ) (hp : (r = (μ 0 0 + x) ∧ k2 (inB x 1 1000) (decide (μ 0 0 + x ≤ 9999)) = 0 ∧ μ' = gU μ 0 0 (μ 0 0 + x)) ∨ (r = -2000000002 ∧ k2 (inB x 1 1000) (decide (μ 0 0 + x ≤ 9999)) = 1 ∧ μ' = μ) ∨ (r = -2000000003 ∧ k2 (inB x 1 1000) (decide (μ 0 0 + x ≤ 9999)) = 2 ∧ μ' = μ)) : ((inB x 1 1000) = false → r = -2000000002 ∧ Sc cnt μ0 μ') ∧ ((inB x 1 1000) = true → (decide (μ 0 0 + x ≤ 9999)) = false → r = -2000000003 ∧ Sc cnt μ0 μ') := by
  rcases hp with ⟨h1, hk, h2⟩ | ⟨h1, hk, h2⟩ | ⟨h1, hk, h2⟩
  · obtain ⟨ha, hb⟩ := k2_z hk
    exact ⟨fun h => (by rw [ha] at h; cases h), fun _ h => (by rw [hb] at h; cases h)⟩
  · have ha := k2_1 hk
    exact ⟨fun _ => ⟨h1, (by rw [h2]; exact S)⟩, fun h _ => (by rw [ha] at h; cases h)⟩
  · obtain ⟨ha, hb⟩ := k2_2 hk
    exact ⟨fun h => (by rw [ha] at h; cases h), fun _ _ => ⟨h1, (by rw [h2]; exact S)⟩⟩
theorem n_terms {μ0 μ μ' : gM} {cnt lc wc : Nat} {x y : Int32} {r : Int32} (I : I1 μ0 cnt lc wc) (S : Sc cnt μ0 μ) (hp : (r = (μ 7 (ix x)) ∧ k1 (inB x 0 3 && inB y 1 999) = 0 ∧ μ' = gU μ 7 (ix x) y) ∨ (r = -2000000002 ∧ k1 (inB x 0 3 && inB y 1 999) = 1 ∧ μ' = μ)) : ((inB x 0 3 && inB y 1 999) = false → r = -2000000002 ∧ Sc cnt μ0 μ') := by
  rcases hp with ⟨h1, hk, h2⟩ | ⟨h1, hk, h2⟩
  · have ha := k1_z hk
    exact fun h => (by rw [ha] at h; cases h)
  · have ha := k1_1 hk
    exact fun _ => ⟨h1, (by rw [h2]; exact S)⟩
theorem n_firsts {μ0 μ μ' : gM} {cnt lc wc : Nat} {x : Int32} {r : Int32} (I : I1 μ0 cnt lc wc) (S : Sc cnt μ0 μ) (hp : (r = (μ 8 (ix x)) ∧ k1 (inB x 0 3) = 0 ∧ μ' = gR μ 8 (upd (pMv 4 (μ 8 (ix x)) (μ 8)) (ix x) 0)) ∨ (r = -2000000002 ∧ k1 (inB x 0 3) = 1 ∧ μ' = μ)) : ((inB x 0 3) = false → r = -2000000002 ∧ Sc cnt μ0 μ') := by
  rcases hp with ⟨h1, hk, h2⟩ | ⟨h1, hk, h2⟩
  · have ha := k1_z hk
    exact fun h => (by rw [ha] at h; cases h)
  · have ha := k1_1 hk
    exact fun _ => ⟨h1, (by rw [h2]; exact S)⟩
theorem n_finds {μ0 μ μ' : gM} {cnt lc wc : Nat} {a1 a2 a3 a4 a5 a6 : Int32} {r : Int32} (I : I1 μ0 cnt lc wc) (S : Sc cnt μ0 μ) (hp : (r = (nI cnt) ∧ k2 (inB a1 0 3 && inB a2 0 99 && inB a3 0 99 && inB a4 0 99 && inB a5 (-1) 99 && inB a6 (-1) 99) (decide (cnt < 60)) = 0 ∧ μ' = (gU (gU (gU (gU (gU (gU (gU (gU μ 9 cnt a1) 10 cnt (μ 0 0)) 2 0 (nI (cnt + 1))) 26 cnt a2) 27 cnt a3) 28 cnt a4) 29 cnt a5) 30 cnt a6)) ∨ (r = -2000000002 ∧ k2 (inB a1 0 3 && inB a2 0 99 && inB a3 0 99 && inB a4 0 99 && inB a5 (-1) 99 && inB a6 (-1) 99) (decide (cnt < 60)) = 1 ∧ μ' = μ) ∨ (r = -2000000003 ∧ k2 (inB a1 0 3 && inB a2 0 99 && inB a3 0 99 && inB a4 0 99 && inB a5 (-1) 99 && inB a6 (-1) 99) (decide (cnt < 60)) = 2 ∧ μ' = μ)) : ((inB a1 0 3 && inB a2 0 99 && inB a3 0 99 && inB a4 0 99 && inB a5 (-1) 99 && inB a6 (-1) 99) = false → r = -2000000002 ∧ Sc cnt μ0 μ') ∧ ((inB a1 0 3 && inB a2 0 99 && inB a3 0 99 && inB a4 0 99 && inB a5 (-1) 99 && inB a6 (-1) 99) = true → (decide (cnt < 60)) = false → r = -2000000003 ∧ Sc cnt μ0 μ') := by
  rcases hp with ⟨h1, hk, h2⟩ | ⟨h1, hk, h2⟩ | ⟨h1, hk, h2⟩
  · obtain ⟨ha, hb⟩ := k2_z hk
    exact ⟨fun h => (by rw [ha] at h; cases h), fun _ h => (by rw [hb] at h; cases h)⟩
  · have ha := k2_1 hk
    exact ⟨fun _ => ⟨h1, (by rw [h2]; exact S)⟩, fun h _ => (by rw [ha] at h; cases h)⟩
  · obtain ⟨ha, hb⟩ := k2_2 hk
    exact ⟨fun h => (by rw [ha] at h; cases h), fun _ _ => ⟨h1, (by rw [h2]; exact S)⟩⟩
theorem n_strikes {μ0 μ μ' : gM} {cnt lc wc : Nat} {x : Int32} {r : Int32} (I : I1 μ0 cnt lc wc) (S : Sc cnt μ0 μ) (hp : (r = (zB (decide (μ 11 (ix x) = 0))) ∧ k1 (fndB cnt x) = 0 ∧ μ' = gU μ 11 (ix x) 1) ∨ (r = -2000000001 ∧ k1 (fndB cnt x) = 1 ∧ μ' = μ)) : ((fndB cnt x) = false → r = -2000000001 ∧ Sc cnt μ0 μ') := by
  rcases hp with ⟨h1, hk, h2⟩ | ⟨h1, hk, h2⟩
  · have ha := k1_z hk
    exact fun h => (by rw [ha] at h; cases h)
  · have ha := k1_1 hk
    exact fun _ => ⟨h1, (by rw [h2]; exact S)⟩
theorem n_tells {μ0 μ μ' : gM} {cnt lc wc : Nat} {x y z : Int32} {r : Int32} (I : I1 μ0 cnt lc wc) (S : Sc cnt μ0 μ) (hp : (r = (μ (50 + (ix x)) (ix y)) ∧ k2 (fndB cnt x && fndB cnt y) (!decide (x = y) && inB z 0 2) = 0 ∧ μ' = (gU (gU μ (50 + (ix x)) (ix y) z) (50 + (ix y)) (ix x) z)) ∨ (r = -2000000001 ∧ k2 (fndB cnt x && fndB cnt y) (!decide (x = y) && inB z 0 2) = 1 ∧ μ' = μ) ∨ (r = -2000000002 ∧ k2 (fndB cnt x && fndB cnt y) (!decide (x = y) && inB z 0 2) = 2 ∧ μ' = μ)) : ((fndB cnt x && fndB cnt y) = false → r = -2000000001 ∧ Sc cnt μ0 μ') ∧ ((fndB cnt x && fndB cnt y) = true → (!decide (x = y) && inB z 0 2) = false → r = -2000000002 ∧ Sc cnt μ0 μ') := by
  rcases hp with ⟨h1, hk, h2⟩ | ⟨h1, hk, h2⟩ | ⟨h1, hk, h2⟩
  · obtain ⟨ha, hb⟩ := k2_z hk
    exact ⟨fun h => (by rw [ha] at h; cases h), fun _ h => (by rw [hb] at h; cases h)⟩
  · have ha := k2_1 hk
    exact ⟨fun _ => ⟨h1, (by rw [h2]; exact S)⟩, fun h _ => (by rw [ha] at h; cases h)⟩
  · obtain ⟨ha, hb⟩ := k2_2 hk
    exact ⟨fun h => (by rw [ha] at h; cases h), fun _ _ => ⟨h1, (by rw [h2]; exact S)⟩⟩
theorem n_counts {μ0 μ μ' : gM} {cnt lc wc : Nat} {x z : Int32} {r : Int32} (I : I1 μ0 cnt lc wc) (S : Sc cnt μ0 μ) (hp : (r = (zB (fStand μ (ix x) z)) ∧ k2 (fndB cnt x) (inB z 0 9999) = 0 ∧ μ' = μ) ∨ (r = -2000000001 ∧ k2 (fndB cnt x) (inB z 0 9999) = 1 ∧ μ' = μ) ∨ (r = -2000000002 ∧ k2 (fndB cnt x) (inB z 0 9999) = 2 ∧ μ' = μ)) : Sc cnt μ0 μ' ∧ ((fndB cnt x) = false → r = -2000000001) ∧ ((fndB cnt x) = true → (inB z 0 9999) = false → r = -2000000002) ∧ ((fndB cnt x) = true → (inB z 0 9999) = true → r = zB (fStand μ0 (ix x) z)) := by
  have hn := I.c60
  rcases hp with ⟨h1, hk, h2⟩ | ⟨h1, hk, h2⟩ | ⟨h1, hk, h2⟩
  · obtain ⟨ha, hb⟩ := k2_z hk
    exact ⟨(by rw [h2]; exact S), fun h => (by rw [ha] at h; cases h), fun _ h => (by rw [hb] at h; cases h), fun _ _ => h1.trans (by rw [S.pe.stand])⟩
  · have ha := k2_1 hk
    exact ⟨(by rw [h2]; exact S), fun _ => h1, fun h _ => (by rw [ha] at h; cases h), fun h _ => (by rw [ha] at h; cases h)⟩
  · obtain ⟨ha, hb⟩ := k2_2 hk
    exact ⟨(by rw [h2]; exact S), fun h => (by rw [ha] at h; cases h), fun _ _ => h1, fun _ h => (by rw [hb] at h; cases h)⟩
theorem n_things {μ0 μ μ' : gM} {cnt lc wc : Nat} {z : Int32} {r : Int32} (I : I1 μ0 cnt lc wc) (S : Sc cnt μ0 μ) (hp : (r = (nI (cB (fun k => decide ((fSort μ cnt z (μ 23)) k = nI k)) cnt)) ∧ k1 (inB z 0 9999) = 0 ∧ μ' = gR μ 23 (fSort μ cnt z (μ 23))) ∨ (r = -2000000002 ∧ k1 (inB z 0 9999) = 1 ∧ μ' = μ)) : Sc cnt μ0 μ' ∧ ((inB z 0 9999) = false → r = -2000000002) ∧ ((inB z 0 9999) = true → r = nI (nT μ0 cnt z)) := by
  have hn := I.c60
  rw [S.sort hn z] at hp
  rcases hp with ⟨h1, hk, h2⟩ | ⟨h1, hk, h2⟩
  · have ha := k1_z hk
    exact ⟨(by rw [h2]; exact S.s23 tT_z), fun h => (by rw [ha] at h; cases h), fun _ => h1.trans (rfl)⟩
  · have ha := k1_1 hk
    exact ⟨(by rw [h2]; exact S), fun _ => h1, fun h => (by rw [ha] at h; cases h)⟩
theorem n_thing {μ0 μ μ' : gM} {cnt lc wc : Nat} {x z : Int32} {r : Int32} (I : I1 μ0 cnt lc wc) (S : Sc cnt μ0 μ) (hp : (r = (fSort μ cnt z (μ 23) (ix x)) ∧ k3 (fndB cnt x) (inB z 0 9999) (!decide (fSort μ cnt z (μ 23) (ix x) = -1)) = 0 ∧ μ' = gR μ 23 (fSort μ cnt z (μ 23))) ∨ (r = -2000000001 ∧ k3 (fndB cnt x) (inB z 0 9999) (!decide (fSort μ cnt z (μ 23) (ix x) = -1)) = 1 ∧ μ' = μ) ∨ (r = -2000000002 ∧ k3 (fndB cnt x) (inB z 0 9999) (!decide (fSort μ cnt z (μ 23) (ix x) = -1)) = 2 ∧ μ' = μ) ∨ (r = -2000000004 ∧ k3 (fndB cnt x) (inB z 0 9999) (!decide (fSort μ cnt z (μ 23) (ix x) = -1)) = 3 ∧ μ' = gR μ 23 (fSort μ cnt z (μ 23)))) : Sc cnt μ0 μ' ∧ ((fndB cnt x) = false → r = -2000000001) ∧ ((fndB cnt x) = true → (inB z 0 9999) = false → r = -2000000002) ∧ ((fndB cnt x) = true → (inB z 0 9999) = true → (fStand μ0 (ix x) z) = false → r = -2000000004) ∧ ((fndB cnt x) = true → (inB z 0 9999) = true → (fStand μ0 (ix x) z) = true → r = tT μ0 cnt z (ix x)) := by
  have hn := I.c60
  rw [S.sort hn z] at hp
  have eC : (fndB cnt x) = true → (!decide (tT μ0 cnt z (ix x) = -1)) = fStand μ0 (ix x) z := fun h => st_eq hn (fnd_iz h hn).1
  rcases hp with ⟨h1, hk, h2⟩ | ⟨h1, hk, h2⟩ | ⟨h1, hk, h2⟩ | ⟨h1, hk, h2⟩
  · obtain ⟨ha, hb, hc⟩ := k3_z hk
    exact ⟨(by rw [h2]; exact S.s23 tT_z), fun h => (by rw [ha] at h; cases h), fun _ h => (by rw [hb] at h; cases h), fun _ _ h => (by rw [← eC ha, hc] at h; cases h), fun _ _ _ => h1.trans (rfl)⟩
  · have ha := k3_1 hk
    exact ⟨(by rw [h2]; exact S), fun _ => h1, fun h _ => (by rw [ha] at h; cases h), fun h _ _ => (by rw [ha] at h; cases h), fun h _ _ => (by rw [ha] at h; cases h)⟩
  · obtain ⟨ha, hb⟩ := k3_2 hk
    exact ⟨(by rw [h2]; exact S), fun h => (by rw [ha] at h; cases h), fun _ _ => h1, fun _ h _ => (by rw [hb] at h; cases h), fun _ h _ => (by rw [hb] at h; cases h)⟩
  · obtain ⟨ha, hb, hc⟩ := k3_3 hk
    exact ⟨(by rw [h2]; exact S.s23 tT_z), fun h => (by rw [ha] at h; cases h), fun _ h => (by rw [hb] at h; cases h), fun _ _ _ => h1, fun _ _ h => (by rw [← eC ha, hc] at h; cases h)⟩
theorem n_value {μ0 μ μ' : gM} {cnt lc wc : Nat} {x a z : Int32} {r : Int32} (I : I1 μ0 cnt lc wc) (S : Sc cnt μ0 μ) (hp : (r = (aVal (fSort μ cnt z (μ 23)) (μ (29 + (ix a))) (fPl μ) ((fSort μ cnt z (μ 23)) (ix x)) cnt) ∧ k3 (fndB cnt x) (inB a 0 1 && inB z 0 9999) (!decide (fSort μ cnt z (μ 23) (ix x) = -1)) = 0 ∧ μ' = gR μ 23 (fSort μ cnt z (μ 23))) ∨ (r = -2000000001 ∧ k3 (fndB cnt x) (inB a 0 1 && inB z 0 9999) (!decide (fSort μ cnt z (μ 23) (ix x) = -1)) = 1 ∧ μ' = μ) ∨ (r = -2000000002 ∧ k3 (fndB cnt x) (inB a 0 1 && inB z 0 9999) (!decide (fSort μ cnt z (μ 23) (ix x) = -1)) = 2 ∧ μ' = μ) ∨ (r = -2000000004 ∧ k3 (fndB cnt x) (inB a 0 1 && inB z 0 9999) (!decide (fSort μ cnt z (μ 23) (ix x) = -1)) = 3 ∧ μ' = gR μ 23 (fSort μ cnt z (μ 23)))) : Sc cnt μ0 μ' ∧ ((fndB cnt x) = false → r = -2000000001) ∧ ((fndB cnt x) = true → (inB a 0 1 && inB z 0 9999) = false → r = -2000000002) ∧ ((fndB cnt x) = true → (inB a 0 1 && inB z 0 9999) = true → (fStand μ0 (ix x) z) = false → r = -2000000004) ∧ ((fndB cnt x) = true → (inB a 0 1 && inB z 0 9999) = true → (fStand μ0 (ix x) z) = true → r = aVal (tT μ0 cnt z) (μ0 (29 + ix a)) (fPl μ0) (tT μ0 cnt z (ix x)) cnt) := by
  have hn := I.c60
  rw [S.sort hn z] at hp
  have eC : (fndB cnt x) = true → (!decide (tT μ0 cnt z (ix x) = -1)) = fStand μ0 (ix x) z := fun h => st_eq hn (fnd_iz h hn).1
  rcases hp with ⟨h1, hk, h2⟩ | ⟨h1, hk, h2⟩ | ⟨h1, hk, h2⟩ | ⟨h1, hk, h2⟩
  · obtain ⟨ha, hb, hc⟩ := k3_z hk
    exact ⟨(by rw [h2]; exact S.s23 tT_z), fun h => (by rw [ha] at h; cases h), fun _ h => (by rw [hb] at h; cases h), fun _ _ h => (by rw [← eC ha, hc] at h; cases h), fun _ _ _ => h1.trans (by rw [S.pe.at29 (two_ix hb), S.pe.pl])⟩
  · have ha := k3_1 hk
    exact ⟨(by rw [h2]; exact S), fun _ => h1, fun h _ => (by rw [ha] at h; cases h), fun h _ _ => (by rw [ha] at h; cases h), fun h _ _ => (by rw [ha] at h; cases h)⟩
  · obtain ⟨ha, hb⟩ := k3_2 hk
    exact ⟨(by rw [h2]; exact S), fun h => (by rw [ha] at h; cases h), fun _ _ => h1, fun _ h _ => (by rw [hb] at h; cases h), fun _ h _ => (by rw [hb] at h; cases h)⟩
  · obtain ⟨ha, hb, hc⟩ := k3_3 hk
    exact ⟨(by rw [h2]; exact S.s23 tT_z), fun h => (by rw [ha] at h; cases h), fun _ h => (by rw [hb] at h; cases h), fun _ _ _ => h1, fun _ _ h => (by rw [← eC ha, hc] at h; cases h)⟩
theorem n_disputed {μ0 μ μ' : gM} {cnt lc wc : Nat} {a z : Int32} {r : Int32} (I : I1 μ0 cnt lc wc) (S : Sc cnt μ0 μ) (hp : (r = (nI (cB (fun k => decide ((fSort μ cnt z (μ 23)) k = nI k) && uBad (fSort μ cnt z (μ 23)) (μ (29 + (ix a))) (nI k) cnt) cnt)) ∧ k1 (inB a 0 1 && inB z 0 9999) = 0 ∧ μ' = gR μ 23 (fSort μ cnt z (μ 23))) ∨ (r = -2000000002 ∧ k1 (inB a 0 1 && inB z 0 9999) = 1 ∧ μ' = μ)) : Sc cnt μ0 μ' ∧ ((inB a 0 1 && inB z 0 9999) = false → r = -2000000002) ∧ ((inB a 0 1 && inB z 0 9999) = true → r = nI (cB (fun k => decide (tT μ0 cnt z k = nI k) && uBad (tT μ0 cnt z) (μ0 (29 + ix a)) (nI k) cnt) cnt)) := by
  have hn := I.c60
  rw [S.sort hn z] at hp
  rcases hp with ⟨h1, hk, h2⟩ | ⟨h1, hk, h2⟩
  · have ha := k1_z hk
    exact ⟨(by rw [h2]; exact S.s23 tT_z), fun h => (by rw [ha] at h; cases h), fun _ => h1.trans (by rw [S.pe.at29 (two_ix ha)])⟩
  · have ha := k1_1 hk
    exact ⟨(by rw [h2]; exact S), fun _ => h1, fun h => (by rw [ha] at h; cases h)⟩
theorem n_links {μ0 μ μ' : gM} {cnt lc wc : Nat} {x y z : Int32} {r : Int32} (I : I1 μ0 cnt lc wc) (S : Sc cnt μ0 μ) (hp : (r = (nI (lc + 1)) ∧ k3 (fndB cnt x && fndB cnt y) (!decide (x = y) && inB z 0 3) (decide (lc < 40)) = 0 ∧ μ' = (gU (gU (gU (gU μ 15 lc x) 16 lc y) 17 lc z) 3 0 (nI (lc + 1)))) ∨ (r = -2000000001 ∧ k3 (fndB cnt x && fndB cnt y) (!decide (x = y) && inB z 0 3) (decide (lc < 40)) = 1 ∧ μ' = μ) ∨ (r = -2000000002 ∧ k3 (fndB cnt x && fndB cnt y) (!decide (x = y) && inB z 0 3) (decide (lc < 40)) = 2 ∧ μ' = μ) ∨ (r = -2000000003 ∧ k3 (fndB cnt x && fndB cnt y) (!decide (x = y) && inB z 0 3) (decide (lc < 40)) = 3 ∧ μ' = μ)) : ((fndB cnt x && fndB cnt y) = false → r = -2000000001 ∧ Sc cnt μ0 μ') ∧ ((fndB cnt x && fndB cnt y) = true → (!decide (x = y) && inB z 0 3) = false → r = -2000000002 ∧ Sc cnt μ0 μ') ∧ ((fndB cnt x && fndB cnt y) = true → (!decide (x = y) && inB z 0 3) = true → (decide (lc < 40)) = false → r = -2000000003 ∧ Sc cnt μ0 μ') := by
  rcases hp with ⟨h1, hk, h2⟩ | ⟨h1, hk, h2⟩ | ⟨h1, hk, h2⟩ | ⟨h1, hk, h2⟩
  · obtain ⟨ha, hb, hc⟩ := k3_z hk
    exact ⟨fun h => (by rw [ha] at h; cases h), fun _ h => (by rw [hb] at h; cases h), fun _ _ h => (by rw [hc] at h; cases h)⟩
  · have ha := k3_1 hk
    exact ⟨fun _ => ⟨h1, (by rw [h2]; exact S)⟩, fun h _ => (by rw [ha] at h; cases h), fun h _ _ => (by rw [ha] at h; cases h)⟩
  · obtain ⟨ha, hb⟩ := k3_2 hk
    exact ⟨fun h => (by rw [ha] at h; cases h), fun _ _ => ⟨h1, (by rw [h2]; exact S)⟩, fun _ h _ => (by rw [hb] at h; cases h)⟩
  · obtain ⟨ha, hb, hc⟩ := k3_3 hk
    exact ⟨fun h => (by rw [ha] at h; cases h), fun _ h => (by rw [hb] at h; cases h), fun _ _ _ => ⟨h1, (by rw [h2]; exact S)⟩⟩
theorem n_impact {μ0 μ μ' : gM} {cnt lc wc : Nat} {x z : Int32} {r : Int32} (I : I1 μ0 cnt lc wc) (S : Sc cnt μ0 μ) (hp : (r = (nI (cB (fun k => !decide ((gFail μ (fSort μ cnt z (μ 23)) lc (ix ((fSort μ cnt z (μ 23)) (ix x)))) k = 0)) 60)) ∧ k3 (fndB cnt x) (inB z 0 9999) (!decide (fSort μ cnt z (μ 23) (ix x) = -1)) = 0 ∧ μ' = gR (gR μ 23 (fSort μ cnt z (μ 23))) 18 (gFail μ (fSort μ cnt z (μ 23)) lc (ix ((fSort μ cnt z (μ 23)) (ix x))))) ∨ (r = -2000000001 ∧ k3 (fndB cnt x) (inB z 0 9999) (!decide (fSort μ cnt z (μ 23) (ix x) = -1)) = 1 ∧ μ' = μ) ∨ (r = -2000000002 ∧ k3 (fndB cnt x) (inB z 0 9999) (!decide (fSort μ cnt z (μ 23) (ix x) = -1)) = 2 ∧ μ' = μ) ∨ (r = -2000000004 ∧ k3 (fndB cnt x) (inB z 0 9999) (!decide (fSort μ cnt z (μ 23) (ix x) = -1)) = 3 ∧ μ' = gR μ 23 (fSort μ cnt z (μ 23)))) : Sc cnt μ0 μ' ∧ ((fndB cnt x) = false → r = -2000000001) ∧ ((fndB cnt x) = true → (inB z 0 9999) = false → r = -2000000002) ∧ ((fndB cnt x) = true → (inB z 0 9999) = true → (fStand μ0 (ix x) z) = false → r = -2000000004) ∧ ((fndB cnt x) = true → (inB z 0 9999) = true → (fStand μ0 (ix x) z) = true → r = nI (cB (gFm μ0 cnt lc z (ix (tT μ0 cnt z (ix x)))) 60)) := by
  have hn := I.c60
  rw [S.sort hn z] at hp
  have eC : (fndB cnt x) = true → (!decide (tT μ0 cnt z (ix x) = -1)) = fStand μ0 (ix x) z := fun h => st_eq hn (fnd_iz h hn).1
  rcases hp with ⟨h1, hk, h2⟩ | ⟨h1, hk, h2⟩ | ⟨h1, hk, h2⟩ | ⟨h1, hk, h2⟩
  · obtain ⟨ha, hb, hc⟩ := k3_z hk
    exact ⟨(by rw [h2]; exact (S.s23 tT_z).s18), fun h => (by rw [ha] at h; cases h), fun _ h => (by rw [hb] at h; cases h), fun _ _ h => (by rw [← eC ha, hc] at h; cases h), fun _ _ _ => h1.trans (by
      refine congrArg nI (cB_ext (fun k hk => ?_))
      unfold gFail
      rw [S.pe 15 (by unfold Pc; omega), S.pe 16 (by unfold Pc; omega), S.pe 17 (by unfold Pc; omega)]
      exact I.fail (lab_lt I ha (by rw [← eC ha]; exact hc)) hk)⟩
  · have ha := k3_1 hk
    exact ⟨(by rw [h2]; exact S), fun _ => h1, fun h _ => (by rw [ha] at h; cases h), fun h _ _ => (by rw [ha] at h; cases h), fun h _ _ => (by rw [ha] at h; cases h)⟩
  · obtain ⟨ha, hb⟩ := k3_2 hk
    exact ⟨(by rw [h2]; exact S), fun h => (by rw [ha] at h; cases h), fun _ _ => h1, fun _ h _ => (by rw [hb] at h; cases h), fun _ h _ => (by rw [hb] at h; cases h)⟩
  · obtain ⟨ha, hb, hc⟩ := k3_3 hk
    exact ⟨(by rw [h2]; exact S.s23 tT_z), fun h => (by rw [ha] at h; cases h), fun _ h => (by rw [hb] at h; cases h), fun _ _ _ => h1, fun _ _ h => (by rw [← eC ha, hc] at h; cases h)⟩
theorem n_fails {μ0 μ μ' : gM} {cnt lc wc : Nat} {x y z : Int32} {r : Int32} (I : I1 μ0 cnt lc wc) (S : Sc cnt μ0 μ) (hp : (r = (zB (!decide ((gFail μ (fSort μ cnt z (μ 23)) lc (ix ((fSort μ cnt z (μ 23)) (ix y)))) (ix ((fSort μ cnt z (μ 23)) (ix x))) = 0))) ∧ k3 (fndB cnt x && fndB cnt y) (inB z 0 9999) (!decide (fSort μ cnt z (μ 23) (ix x) = -1) && !decide (fSort μ cnt z (μ 23) (ix y) = -1)) = 0 ∧ μ' = gR (gR μ 23 (fSort μ cnt z (μ 23))) 18 (gFail μ (fSort μ cnt z (μ 23)) lc (ix ((fSort μ cnt z (μ 23)) (ix y))))) ∨ (r = -2000000001 ∧ k3 (fndB cnt x && fndB cnt y) (inB z 0 9999) (!decide (fSort μ cnt z (μ 23) (ix x) = -1) && !decide (fSort μ cnt z (μ 23) (ix y) = -1)) = 1 ∧ μ' = μ) ∨ (r = -2000000002 ∧ k3 (fndB cnt x && fndB cnt y) (inB z 0 9999) (!decide (fSort μ cnt z (μ 23) (ix x) = -1) && !decide (fSort μ cnt z (μ 23) (ix y) = -1)) = 2 ∧ μ' = μ) ∨ (r = -2000000004 ∧ k3 (fndB cnt x && fndB cnt y) (inB z 0 9999) (!decide (fSort μ cnt z (μ 23) (ix x) = -1) && !decide (fSort μ cnt z (μ 23) (ix y) = -1)) = 3 ∧ μ' = gR μ 23 (fSort μ cnt z (μ 23)))) : Sc cnt μ0 μ' ∧ ((fndB cnt x && fndB cnt y) = false → r = -2000000001) ∧ ((fndB cnt x && fndB cnt y) = true → (inB z 0 9999) = false → r = -2000000002) ∧ ((fndB cnt x && fndB cnt y) = true → (inB z 0 9999) = true → (fStand μ0 (ix x) z && fStand μ0 (ix y) z) = false → r = -2000000004) ∧ ((fndB cnt x && fndB cnt y) = true → (inB z 0 9999) = true → (fStand μ0 (ix x) z && fStand μ0 (ix y) z) = true → r = zB (gFm μ0 cnt lc z (ix (tT μ0 cnt z (ix y))) (ix (tT μ0 cnt z (ix x))))) := by
  have hn := I.c60
  rw [S.sort hn z] at hp
  have eC : (fndB cnt x && fndB cnt y) = true → (!decide (tT μ0 cnt z (ix x) = -1) && !decide (tT μ0 cnt z (ix y) = -1)) = (fStand μ0 (ix x) z && fStand μ0 (ix y) z) := fun h => by
    rw [Bool.and_eq_true] at h
    rw [st_eq hn (fnd_iz h.1 hn).1, st_eq hn (fnd_iz h.2 hn).1]
  rcases hp with ⟨h1, hk, h2⟩ | ⟨h1, hk, h2⟩ | ⟨h1, hk, h2⟩ | ⟨h1, hk, h2⟩
  · obtain ⟨ha, hb, hc⟩ := k3_z hk
    exact ⟨(by rw [h2]; exact (S.s23 tT_z).s18), fun h => (by rw [ha] at h; cases h), fun _ h => (by rw [hb] at h; cases h), fun _ _ h => (by rw [← eC ha, hc] at h; cases h), fun _ _ _ => h1.trans (by
      have ha2 := (Bool.and_eq_true _ _).mp ha
      have hc2 := (Bool.and_eq_true _ _).mp ((eC ha).symm.trans hc)
      refine congrArg zB ?_
      unfold gFail
      rw [S.pe 15 (by unfold Pc; omega), S.pe 16 (by unfold Pc; omega), S.pe 17 (by unfold Pc; omega)]
      exact I.fail (lab_lt I ha2.2 hc2.2) (lab_lt I ha2.1 hc2.1))⟩
  · have ha := k3_1 hk
    exact ⟨(by rw [h2]; exact S), fun _ => h1, fun h _ => (by rw [ha] at h; cases h), fun h _ _ => (by rw [ha] at h; cases h), fun h _ _ => (by rw [ha] at h; cases h)⟩
  · obtain ⟨ha, hb⟩ := k3_2 hk
    exact ⟨(by rw [h2]; exact S), fun h => (by rw [ha] at h; cases h), fun _ _ => h1, fun _ h _ => (by rw [hb] at h; cases h), fun _ h _ => (by rw [hb] at h; cases h)⟩
  · obtain ⟨ha, hb, hc⟩ := k3_3 hk
    exact ⟨(by rw [h2]; exact S.s23 tT_z), fun h => (by rw [ha] at h; cases h), fun _ h => (by rw [hb] at h; cases h), fun _ _ _ => h1, fun _ _ h => (by rw [← eC ha, hc] at h; cases h)⟩
theorem n_wishes {μ0 μ μ' : gM} {cnt lc wc : Nat} {a1 a2 a3 a4 : Int32} {r : Int32} (I : I1 μ0 cnt lc wc) (S : Sc cnt μ0 μ) (hp : (r = (nI wc) ∧ k2 (inB a1 0 2 && inB a2 1 99 && inB a3 0 1 && inB a4 0 99) (decide (wc < 20)) = 0 ∧ μ' = (gU (gU (gU (gU (gU μ 19 wc a1) 20 wc a2) 21 wc a3) 22 wc a4) 4 0 (nI (wc + 1)))) ∨ (r = -2000000002 ∧ k2 (inB a1 0 2 && inB a2 1 99 && inB a3 0 1 && inB a4 0 99) (decide (wc < 20)) = 1 ∧ μ' = μ) ∨ (r = -2000000003 ∧ k2 (inB a1 0 2 && inB a2 1 99 && inB a3 0 1 && inB a4 0 99) (decide (wc < 20)) = 2 ∧ μ' = μ)) : ((inB a1 0 2 && inB a2 1 99 && inB a3 0 1 && inB a4 0 99) = false → r = -2000000002 ∧ Sc cnt μ0 μ') ∧ ((inB a1 0 2 && inB a2 1 99 && inB a3 0 1 && inB a4 0 99) = true → (decide (wc < 20)) = false → r = -2000000003 ∧ Sc cnt μ0 μ') := by
  rcases hp with ⟨h1, hk, h2⟩ | ⟨h1, hk, h2⟩ | ⟨h1, hk, h2⟩
  · obtain ⟨ha, hb⟩ := k2_z hk
    exact ⟨fun h => (by rw [ha] at h; cases h), fun _ h => (by rw [hb] at h; cases h)⟩
  · have ha := k2_1 hk
    exact ⟨fun _ => ⟨h1, (by rw [h2]; exact S)⟩, fun h _ => (by rw [ha] at h; cases h)⟩
  · obtain ⟨ha, hb⟩ := k2_2 hk
    exact ⟨fun h => (by rw [ha] at h; cases h), fun _ _ => ⟨h1, (by rw [h2]; exact S)⟩⟩
theorem n_differing {μ0 μ μ' : gM} {cnt lc wc : Nat} {x z : Int32} {r : Int32} (I : I1 μ0 cnt lc wc) (S : Sc cnt μ0 μ) (hp : (r = (nI (cB (fun k => decide ((fSort μ cnt z (μ 23)) k = nI k) && (hMark (fSort μ cnt z (μ 23)) (μ (26 + ix (μ 19 (ix x)))) (nI k) (μ 20 (ix x)) cnt && !decide (aVal (fSort μ cnt z (μ 23)) (μ (29 + ix (μ 21 (ix x)))) (fPl μ) (nI k) cnt = μ 22 (ix x)))) cnt)) ∧ k2 (fndB wc x) (inB z 0 9999) = 0 ∧ μ' = gR μ 23 (fSort μ cnt z (μ 23))) ∨ (r = -2000000001 ∧ k2 (fndB wc x) (inB z 0 9999) = 1 ∧ μ' = μ) ∨ (r = -2000000002 ∧ k2 (fndB wc x) (inB z 0 9999) = 2 ∧ μ' = μ)) : Sc cnt μ0 μ' ∧ ((fndB wc x) = false → r = -2000000001) ∧ ((fndB wc x) = true → (inB z 0 9999) = false → r = -2000000002) ∧ ((fndB wc x) = true → (inB z 0 9999) = true → r = nI (cB (fun k => decide (tT μ0 cnt z k = nI k) && (hMark (tT μ0 cnt z) (μ0 (26 + ix (μ0 19 (ix x)))) (nI k) (μ0 20 (ix x)) cnt && !decide (aVal (tT μ0 cnt z) (μ0 (29 + ix (μ0 21 (ix x)))) (fPl μ0) (nI k) cnt = μ0 22 (ix x)))) cnt)) := by
  have hn := I.c60
  rw [S.sort hn z] at hp
  rcases hp with ⟨h1, hk, h2⟩ | ⟨h1, hk, h2⟩ | ⟨h1, hk, h2⟩
  · obtain ⟨ha, hb⟩ := k2_z hk
    exact ⟨(by rw [h2]; exact S.s23 tT_z), fun h => (by rw [ha] at h; cases h), fun _ h => (by rw [hb] at h; cases h), fun _ _ => h1.trans (by rw [S.pe 19 (by unfold Pc; omega), S.pe 20 (by unfold Pc; omega), S.pe 21 (by unfold Pc; omega), S.pe 22 (by unfold Pc; omega), S.pe.at26 (vp_ix (I.1.2.2.2.2.2.2.2.2.2.2.1 _) (by decide)).2, S.pe.at29 (vp_ix (I.1.2.2.2.2.2.2.2.2.2.2.2 _) (by decide)).2, S.pe.pl])⟩
  · have ha := k2_1 hk
    exact ⟨(by rw [h2]; exact S), fun _ => h1, fun h _ => (by rw [ha] at h; cases h), fun h _ => (by rw [ha] at h; cases h)⟩
  · obtain ⟨ha, hb⟩ := k2_2 hk
    exact ⟨(by rw [h2]; exact S), fun h => (by rw [ha] at h; cases h), fun _ _ => h1, fun _ h => (by rw [hb] at h; cases h)⟩
theorem n_changed {μ0 μ μ' : gM} {cnt lc wc : Nat} {a y z : Int32} {r : Int32} (I : I1 μ0 cnt lc wc) (S : Sc cnt μ0 μ) (hp : (r = (nI (cB (fun k => havB (fSort μ cnt y (μ 23)) (fSort μ cnt z (μ 24)) (μ (29 + (ix a))) (fPl μ) cnt k) cnt)) ∧ k1 (inB a 0 1 && inB y 0 9999 && inB z 0 9999) = 0 ∧ μ' = gR (gR μ 23 (fSort μ cnt y (μ 23))) 24 (fSort μ cnt z (μ 24))) ∨ (r = -2000000002 ∧ k1 (inB a 0 1 && inB y 0 9999 && inB z 0 9999) = 1 ∧ μ' = μ)) : Sc cnt μ0 μ' ∧ ((inB a 0 1 && inB y 0 9999 && inB z 0 9999) = false → r = -2000000002) ∧ ((inB a 0 1 && inB y 0 9999 && inB z 0 9999) = true → r = nI (cB (fun k => havB (tT μ0 cnt y) (tT μ0 cnt z) (μ0 (29 + ix a)) (fPl μ0) cnt k) cnt)) := by
  have hn := I.c60
  rw [S.sort hn y, S.sort2 hn z] at hp
  rcases hp with ⟨h1, hk, h2⟩ | ⟨h1, hk, h2⟩
  · have ha := k1_z hk
    exact ⟨(by rw [h2]; exact (S.s23 tT_z).s24 tT_z), fun h => (by rw [ha] at h; cases h), fun _ => h1.trans (by rw [S.pe.at29 (two_ix (b := inB y 0 9999) ((Bool.and_eq_true _ _).mp ha).1), S.pe.pl])⟩
  · have ha := k1_1 hk
    exact ⟨(by rw [h2]; exact S), fun _ => h1, fun h => (by rw [ha] at h; cases h)⟩
