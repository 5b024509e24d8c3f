theorem k1_v (a : Bool) : k1 a = 0 ∨ k1 a = 1 := by cases a <;> first | exact Or.inl rfl | exact Or.inr rfl
theorem k2_v (a b : Bool) : k2 a b = 0 ∨ k2 a b = 1 ∨ k2 a b = 2 := by cases a <;> cases b <;> first | exact Or.inl rfl | exact Or.inr (Or.inl rfl) | exact Or.inr (Or.inr rfl)
theorem k3_v (a b c : Bool) : k3 a b c = 0 ∨ k3 a b c = 1 ∨ k3 a b c = 2 ∨ k3 a b c = 3 := by cases a <;> cases b <;> cases c <;> first | exact Or.inl rfl | exact Or.inr (Or.inl rfl) | exact Or.inr (Or.inr (Or.inl rfl)) | exact Or.inr (Or.inr (Or.inr rfl))
theorem kv_ne {k v v' c1 c2 c3 : Int32} (h : ¬ k = 0) : kv k v c1 c2 c3 = kv k v' c1 c2 c3 := by unfold kv; rw [if_neg h, if_neg h]
theorem nI_ge0 {n : Nat} (h : n < 2 ^ 31) : 0 ≤ nI n := Int32.not_lt.mp (nI_pos h)
def r_passes (μ : gM) (cnt lc wc : Nat) (x : Int32) : Int32 := kv (k2 (inB x 1 1000) (decide (μ 0 0 + x ≤ 9999))) (μ 0 0 + x) (-2000000002) (-2000000003) 0
def m_passes (μ : gM) (cnt lc wc : Nat) (x : Int32) : gM := km (k2 (inB x 1 1000) (decide (μ 0 0 + x ≤ 9999))) (gU μ 0 0 (μ 0 0 + x)) μ
theorem x_passes {μ μ' : gM} {cnt lc wc : Nat} {x : Int32} {r : Int32} (hp : (r = (μ 0 0 + x) ∧ k2 (inB x 1 1000) (decide (μ 0 0 + x ≤ 9999)) = 0 ∧ μ' = gU μ 0 0 (μ 0 0 + x)) ∨ (r = -2000000002 ∧ k2 (inB x 1 1000) (decide (μ 0 0 + x ≤ 9999)) = 1 ∧ μ' = μ) ∨ (r = -2000000003 ∧ k2 (inB x 1 1000) (decide (μ 0 0 + x ≤ 9999)) = 2 ∧ μ' = μ)) : r = r_passes μ cnt lc wc x ∧ μ' = m_passes μ cnt lc wc x := by
  unfold r_passes m_passes
  rcases hp with ⟨h1, hk, h2⟩ | ⟨h1, hk, h2⟩ | ⟨h1, hk, h2⟩
  · rw [hk, kv_0, km_0]; exact ⟨h1, h2⟩
  · rw [hk, kv_1, km_1]; exact ⟨h1, h2⟩
  · rw [hk, kv_2, km_2]; exact ⟨h1, h2⟩
theorem p_passes {μ ν : gM} (cnt lc wc : Nat) (x : Int32) (h : PE μ ν) : r_passes ν cnt lc wc x = r_passes μ cnt lc wc x ∧ PE (m_passes μ cnt lc wc x) (m_passes ν cnt lc wc x) := by
  unfold r_passes m_passes
  rw [h 0 (by unfold Pc; omega)]
  exact ⟨rfl, PE.M h (fun _ => (h).U _ _ _) rfl⟩
theorem o_passes (μ : gM) {cnt : Nat} (lc wc : Nat) (x : Int32) (hn : cnt ≤ 60) : Ow μ (m_passes μ cnt lc wc x) := by
  unfold m_passes
  exact Ow.M (fun _ => (Ow.rf).U (by unfold Pc; omega))
theorem i_passes {μ : gM} {cnt lc wc : Nat} (x : Int32) (I : I1 μ cnt lc wc) : I1 (m_passes μ cnt lc wc x) cnt lc wc := by
  unfold m_passes km
  by_cases hk : k2 (inB x 1 1000) (decide (μ 0 0 + x ≤ 9999)) = 0
  · rw [if_pos hk]
    obtain ⟨ha, hb⟩ := k2_z hk
    exact I.mpass ha (of_decide_eq_true hb)
  · rw [if_neg hk]; exact I
def r_terms (μ : gM) (cnt lc wc : Nat) (x y : Int32) : Int32 := kv (k1 (inB x 0 3 && inB y 1 999)) (μ 7 (ix x)) (-2000000002) 0 0
def m_terms (μ : gM) (cnt lc wc : Nat) (x y : Int32) : gM := km (k1 (inB x 0 3 && inB y 1 999)) (gU μ 7 (ix x) y) μ
theorem x_terms {μ μ' : gM} {cnt lc wc : Nat} {x y : Int32} {r : Int32} (hp : (r = (μ 7 (ix x)) ∧ k1 (inB x 0 3 && inB y 1 999) = 0 ∧ μ' = gU μ 7 (ix x) y) ∨ (r = -2000000002 ∧ k1 (inB x 0 3 && inB y 1 999) = 1 ∧ μ' = μ)) : r = r_terms μ cnt lc wc x y ∧ μ' = m_terms μ cnt lc wc x y := by
  unfold r_terms m_terms
  rcases hp with ⟨h1, hk, h2⟩ | ⟨h1, hk, h2⟩
  · rw [hk, kv_0, km_0]; exact ⟨h1, h2⟩
  · rw [hk, kv_1, km_1]; exact ⟨h1, h2⟩
theorem p_terms {μ ν : gM} (cnt lc wc : Nat) (x y : Int32) (h : PE μ ν) : r_terms ν cnt lc wc x y = r_terms μ cnt lc wc x y ∧ PE (m_terms μ cnt lc wc x y) (m_terms ν cnt lc wc x y) := by
  unfold r_terms m_terms
  rw [h 7 (by unfold Pc; omega)]
  exact ⟨rfl, PE.M h (fun _ => (h).U _ _ _) rfl⟩
theorem o_terms (μ : gM) {cnt : Nat} (lc wc : Nat) (x y : Int32) (hn : cnt ≤ 60) : Ow μ (m_terms μ cnt lc wc x y) := by
  unfold m_terms
  exact Ow.M (fun _ => (Ow.rf).U (by unfold Pc; omega))
theorem i_terms {μ : gM} {cnt lc wc : Nat} (x y : Int32) (I : I1 μ cnt lc wc) : I1 (m_terms μ cnt lc wc x y) cnt lc wc := by
  unfold m_terms km
  by_cases hk : k1 (inB x 0 3 && inB y 1 999) = 0
  · rw [if_pos hk]
    have ha := k1_z hk
    exact I.mterm ((Bool.and_eq_true _ _).mp ha).2
  · rw [if_neg hk]; exact I
def r_firsts (μ : gM) (cnt lc wc : Nat) (x : Int32) : Int32 := kv (k1 (inB x 0 3)) (μ 8 (ix x)) (-2000000002) 0 0
def m_firsts (μ : gM) (cnt lc wc : Nat) (x : Int32) : gM := km (k1 (inB x 0 3)) (gR μ 8 (upd (pMv 4 (μ 8 (ix x)) (μ 8)) (ix x) 0)) μ
theorem x_firsts {μ μ' : gM} {cnt lc wc : Nat} {x : Int32} {r : Int32} (hp : (r = (μ 8 (ix x)) ∧ k1 (inB x 0 3) = 0 ∧ μ' = gR μ 8 (upd (pMv 4 (μ 8 (ix x)) (μ 8)) (ix x) 0)) ∨ (r = -2000000002 ∧ k1 (inB x 0 3) = 1 ∧ μ' = μ)) : r = r_firsts μ cnt lc wc x ∧ μ' = m_firsts μ cnt lc wc x := by
  unfold r_firsts m_firsts
  rcases hp with ⟨h1, hk, h2⟩ | ⟨h1, hk, h2⟩
  · rw [hk, kv_0, km_0]; exact ⟨h1, h2⟩
  · rw [hk, kv_1, km_1]; exact ⟨h1, h2⟩
theorem p_firsts {μ ν : gM} (cnt lc wc : Nat) (x : Int32) (h : PE μ ν) : r_firsts ν cnt lc wc x = r_firsts μ cnt lc wc x ∧ PE (m_firsts μ cnt lc wc x) (m_firsts ν cnt lc wc x) := by
  unfold r_firsts m_firsts
  rw [h 8 (by unfold Pc; omega)]
  exact ⟨rfl, PE.M h (fun _ => PE.R h _ rfl) rfl⟩
theorem o_firsts (μ : gM) {cnt : Nat} (lc wc : Nat) (x : Int32) (hn : cnt ≤ 60) : Ow μ (m_firsts μ cnt lc wc x) := by
  unfold m_firsts
  exact Ow.M (fun _ => (Ow.rf).R (by unfold Pc; omega))
theorem i_firsts {μ : gM} {cnt lc wc : Nat} (x : Int32) (I : I1 μ cnt lc wc) : I1 (m_firsts μ cnt lc wc x) cnt lc wc := by
  unfold m_firsts km
  by_cases hk : k1 (inB x 0 3) = 0
  · rw [if_pos hk]
    have ha := k1_z hk
    exact I.mfirst
  · rw [if_neg hk]; exact I
def r_finds (μ : gM) (cnt lc wc : Nat) (a1 a2 a3 a4 a5 a6 : Int32) : Int32 := kv (k2 (inB a1 0 3 && inB a2 0 99 && inB a3 0 99 && inB a4 0 99 && inB a5 (-1) 99 && inB a6 (-1) 99) (decide (cnt < 60))) (nI cnt) (-2000000002) (-2000000003) 0
def m_finds (μ : gM) (cnt lc wc : Nat) (a1 a2 a3 a4 a5 a6 : Int32) : gM := km (k2 (inB a1 0 3 && inB a2 0 99 && inB a3 0 99 && inB a4 0 99 && inB a5 (-1) 99 && inB a6 (-1) 99) (decide (cnt < 60))) (gU (gU (gU (gU (gU (gU (gU (gU μ 9 cnt a1) 10 cnt (μ 0 0)) 2 0 (nI (cnt + 1))) 26 cnt a2) 27 cnt a3) 28 cnt a4) 29 cnt a5) 30 cnt a6) μ
theorem x_finds {μ μ' : gM} {cnt lc wc : Nat} {a1 a2 a3 a4 a5 a6 : Int32} {r : Int32} (hp : (r = (nI cnt) ∧ k2 (inB a1 0 3 && inB a2 0 99 && inB a3 0 99 && inB a4 0 99 && inB a5 (-1) 99 && inB a6 (-1) 99) (decide (cnt < 60)) = 0 ∧ μ' = (gU (gU (gU (gU (gU (gU (gU (gU μ 9 cnt a1) 10 cnt (μ 0 0)) 2 0 (nI (cnt + 1))) 26 cnt a2) 27 cnt a3) 28 cnt a4) 29 cnt a5) 30 cnt a6)) ∨ (r = -2000000002 ∧ k2 (inB a1 0 3 && inB a2 0 99 && inB a3 0 99 && inB a4 0 99 && inB a5 (-1) 99 && inB a6 (-1) 99) (decide (cnt < 60)) = 1 ∧ μ' = μ) ∨ (r = -2000000003 ∧ k2 (inB a1 0 3 && inB a2 0 99 && inB a3 0 99 && inB a4 0 99 && inB a5 (-1) 99 && inB a6 (-1) 99) (decide (cnt < 60)) = 2 ∧ μ' = μ)) : r = r_finds μ cnt lc wc a1 a2 a3 a4 a5 a6 ∧ μ' = m_finds μ cnt lc wc a1 a2 a3 a4 a5 a6 := by
  unfold r_finds m_finds
  rcases hp with ⟨h1, hk, h2⟩ | ⟨h1, hk, h2⟩ | ⟨h1, hk, h2⟩
  · rw [hk, kv_0, km_0]; exact ⟨h1, h2⟩
  · rw [hk, kv_1, km_1]; exact ⟨h1, h2⟩
  · rw [hk, kv_2, km_2]; exact ⟨h1, h2⟩
theorem p_finds {μ ν : gM} (cnt lc wc : Nat) (a1 a2 a3 a4 a5 a6 : Int32) (h : PE μ ν) : r_finds ν cnt lc wc a1 a2 a3 a4 a5 a6 = r_finds μ cnt lc wc a1 a2 a3 a4 a5 a6 ∧ PE (m_finds μ cnt lc wc a1 a2 a3 a4 a5 a6) (m_finds ν cnt lc wc a1 a2 a3 a4 a5 a6) := by
  unfold r_finds m_finds
  rw [h 0 (by unfold Pc; omega)]
  exact ⟨rfl, PE.M h (fun _ => ((((((((h).U _ _ _).U _ _ _).U _ _ _).U _ _ _).U _ _ _).U _ _ _).U _ _ _).U _ _ _) rfl⟩
theorem o_finds (μ : gM) {cnt : Nat} (lc wc : Nat) (a1 a2 a3 a4 a5 a6 : Int32) (hn : cnt ≤ 60) : Ow μ (m_finds μ cnt lc wc a1 a2 a3 a4 a5 a6) := by
  unfold m_finds
  exact Ow.M (fun _ => ((((((((Ow.rf).U (by unfold Pc; omega)).U (by unfold Pc; omega)).U (by unfold Pc; omega)).U (by unfold Pc; omega)).U (by unfold Pc; omega)).U (by unfold Pc; omega)).U (by unfold Pc; omega)).U (by unfold Pc; omega))
theorem f6 {a b c d e f : Bool} (h : (a && b && c && d && e && f) = true) : a = true := by cases a <;> first | rfl | (simp at h)
theorem i_finds {μ : gM} {cnt lc wc : Nat} (a1 a2 a3 a4 a5 a6 : Int32) (I : I1 μ cnt lc wc) : (0 ≤ r_finds μ cnt lc wc a1 a2 a3 a4 a5 a6 → I1 (m_finds μ cnt lc wc a1 a2 a3 a4 a5 a6) (cnt + 1) lc wc) ∧ (¬ 0 ≤ r_finds μ cnt lc wc a1 a2 a3 a4 a5 a6 → I1 (m_finds μ cnt lc wc a1 a2 a3 a4 a5 a6) cnt lc wc) := by
  unfold r_finds m_finds
  rcases k2_v (inB a1 0 3 && inB a2 0 99 && inB a3 0 99 && inB a4 0 99 && inB a5 (-1) 99 && inB a6 (-1) 99) (decide (cnt < 60)) with hk | hk | hk
  · rw [hk, kv_0, km_0]
    obtain ⟨ha, hb⟩ := k2_z hk
    exact ⟨fun _ => I.mfind (f6 ha) (of_decide_eq_true hb), fun q => absurd (nI_ge0 (by have := I.c60; omega)) q⟩
  · rw [hk, kv_1, km_1]; exact ⟨fun q => absurd q (by decide), fun _ => I⟩
  · rw [hk, kv_2, km_2]; exact ⟨fun q => absurd q (by decide), fun _ => I⟩
def r_strikes (μ : gM) (cnt lc wc : Nat) (x : Int32) : Int32 := kv (k1 (fndB cnt x)) (zB (decide (μ 11 (ix x) = 0))) (-2000000001) 0 0
def m_strikes (μ : gM) (cnt lc wc : Nat) (x : Int32) : gM := km (k1 (fndB cnt x)) (gU μ 11 (ix x) 1) μ
theorem x_strikes {μ μ' : gM} {cnt lc wc : Nat} {x : Int32} {r : Int32} (hp : (r = (zB (decide (μ 11 (ix x) = 0))) ∧ k1 (fndB cnt x) = 0 ∧ μ' = gU μ 11 (ix x) 1) ∨ (r = -2000000001 ∧ k1 (fndB cnt x) = 1 ∧ μ' = μ)) : r = r_strikes μ cnt lc wc x ∧ μ' = m_strikes μ cnt lc wc x := by
  unfold r_strikes m_strikes
  rcases hp with ⟨h1, hk, h2⟩ | ⟨h1, hk, h2⟩
  · rw [hk, kv_0, km_0]; exact ⟨h1, h2⟩
  · rw [hk, kv_1, km_1]; exact ⟨h1, h2⟩
theorem p_strikes {μ ν : gM} (cnt lc wc : Nat) (x : Int32) (h : PE μ ν) : r_strikes ν cnt lc wc x = r_strikes μ cnt lc wc x ∧ PE (m_strikes μ cnt lc wc x) (m_strikes ν cnt lc wc x) := by
  unfold r_strikes m_strikes
  rw [h 11 (by unfold Pc; omega)]
  exact ⟨rfl, PE.M h (fun _ => (h).U _ _ _) rfl⟩
theorem o_strikes (μ : gM) {cnt : Nat} (lc wc : Nat) (x : Int32) (hn : cnt ≤ 60) : Ow μ (m_strikes μ cnt lc wc x) := by
  unfold m_strikes
  exact Ow.M (fun _ => (Ow.rf).U (by unfold Pc; omega))
theorem i_strikes {μ : gM} {cnt lc wc : Nat} (x : Int32) (I : I1 μ cnt lc wc) : I1 (m_strikes μ cnt lc wc x) cnt lc wc := by
  unfold m_strikes km
  by_cases hk : k1 (fndB cnt x) = 0
  · rw [if_pos hk]
    have ha := k1_z hk
    exact I.mstrike (fnd_iz ha I.c60).1
  · rw [if_neg hk]; exact I
def r_tells (μ : gM) (cnt lc wc : Nat) (x y z : Int32) : Int32 := kv (k2 (fndB cnt x && fndB cnt y) (!decide (x = y) && inB z 0 2)) (μ (50 + (ix x)) (ix y)) (-2000000001) (-2000000002) 0
def m_tells (μ : gM) (cnt lc wc : Nat) (x y z : Int32) : gM := km (k2 (fndB cnt x && fndB cnt y) (!decide (x = y) && inB z 0 2)) (gU (gU μ (50 + (ix x)) (ix y) z) (50 + (ix y)) (ix x) z) μ
theorem x_tells {μ μ' : gM} {cnt lc wc : Nat} {x y z : Int32} {r : Int32} (hp : (r = (μ (50 + (ix x)) (ix y)) ∧ k2 (fndB cnt x && fndB cnt y) (!decide (x = y) && inB z 0 2) = 0 ∧ μ' = (gU (gU μ (50 + (ix x)) (ix y) z) (50 + (ix y)) (ix x) z)) ∨ (r = -2000000001 ∧ k2 (fndB cnt x && fndB cnt y) (!decide (x = y) && inB z 0 2) = 1 ∧ μ' = μ) ∨ (r = -2000000002 ∧ k2 (fndB cnt x && fndB cnt y) (!decide (x = y) && inB z 0 2) = 2 ∧ μ' = μ)) : r = r_tells μ cnt lc wc x y z ∧ μ' = m_tells μ cnt lc wc x y z := by
  unfold r_tells m_tells
  rcases hp with ⟨h1, hk, h2⟩ | ⟨h1, hk, h2⟩ | ⟨h1, hk, h2⟩
  · rw [hk, kv_0, km_0]; exact ⟨h1, h2⟩
  · rw [hk, kv_1, km_1]; exact ⟨h1, h2⟩
  · rw [hk, kv_2, km_2]; exact ⟨h1, h2⟩
theorem p_tells {μ ν : gM} (cnt lc wc : Nat) (x y z : Int32) (h : PE μ ν) (hn : cnt ≤ 60) : r_tells ν cnt lc wc x y z = r_tells μ cnt lc wc x y z ∧ PE (m_tells μ cnt lc wc x y z) (m_tells ν cnt lc wc x y z) := by
  unfold r_tells m_tells
  refine ⟨?_, PE.M h (fun _ => ((h).U _ _ _).U _ _ _) rfl⟩
  by_cases hk : k2 (fndB cnt x && fndB cnt y) (!decide (x = y) && inB z 0 2) = 0
  · have h1 := (Bool.and_eq_true _ _).mp (k2_z hk).1
    rw [h (50 + ix x) (by have := (fnd_iz h1.1 hn).1; unfold Pc; omega)]
  · exact kv_ne hk
theorem o_tells (μ : gM) {cnt : Nat} (lc wc : Nat) (x y z : Int32) (hn : cnt ≤ 60) : Ow μ (m_tells μ cnt lc wc x y z) := by
  unfold m_tells
  refine Ow.M (fun hk => ?_)
  have h1 := (Bool.and_eq_true _ _).mp (k2_z hk).1
  have hx := (fnd_iz h1.1 hn).1
  have hy := (fnd_iz h1.2 hn).1
  exact ((Ow.rf).U (by unfold Pc; omega)).U (by unfold Pc; omega)
theorem i_tells {μ : gM} {cnt lc wc : Nat} (x y z : Int32) (I : I1 μ cnt lc wc) : I1 (m_tells μ cnt lc wc x y z) cnt lc wc := by
  unfold m_tells km
  by_cases hk : k2 (fndB cnt x && fndB cnt y) (!decide (x = y) && inB z 0 2) = 0
  · rw [if_pos hk]
    obtain ⟨ha, hb⟩ := k2_z hk
    exact I.mtell (by have := (fnd_iz ((Bool.and_eq_true _ _).mp ha).1 I.c60).1; have := I.c60; omega) (by have := (fnd_iz ((Bool.and_eq_true _ _).mp ha).2 I.c60).1; have := I.c60; omega) ((Bool.and_eq_true _ _).mp hb).2
  · rw [if_neg hk]; exact I
def r_links (μ : gM) (cnt lc wc : Nat) (x y z : Int32) : Int32 := kv (k3 (fndB cnt x && fndB cnt y) (!decide (x = y) && inB z 0 3) (decide (lc < 40))) (nI (lc + 1)) (-2000000001) (-2000000002) (-2000000003)
def m_links (μ : gM) (cnt lc wc : Nat) (x y z : Int32) : gM := km (k3 (fndB cnt x && fndB cnt y) (!decide (x = y) && inB z 0 3) (decide (lc < 40))) (gU (gU (gU (gU μ 15 lc x) 16 lc y) 17 lc z) 3 0 (nI (lc + 1))) μ
theorem x_links {μ μ' : gM} {cnt lc wc : Nat} {x y z : Int32} {r : Int32} (hp : (r = (nI (lc + 1)) ∧ k3 (fndB cnt x && fndB cnt y) (!decide (x = y) && inB z 0 3) (decide (lc < 40)) = 0 ∧ μ' = (gU (gU (gU (gU μ 15 lc x) 16 lc y) 17 lc z) 3 0 (nI (lc + 1)))) ∨ (r = -2000000001 ∧ k3 (fndB cnt x && fndB cnt y) (!decide (x = y) && inB z 0 3) (decide (lc < 40)) = 1 ∧ μ' = μ) ∨ (r = -2000000002 ∧ k3 (fndB cnt x && fndB cnt y) (!decide (x = y) && inB z 0 3) (decide (lc < 40)) = 2 ∧ μ' = μ) ∨ (r = -2000000003 ∧ k3 (fndB cnt x && fndB cnt y) (!decide (x = y) && inB z 0 3) (decide (lc < 40)) = 3 ∧ μ' = μ)) : r = r_links μ cnt lc wc x y z ∧ μ' = m_links μ cnt lc wc x y z := by
  unfold r_links m_links
  rcases hp with ⟨h1, hk, h2⟩ | ⟨h1, hk, h2⟩ | ⟨h1, hk, h2⟩ | ⟨h1, hk, h2⟩
  · rw [hk, kv_0, km_0]; exact ⟨h1, h2⟩
  · rw [hk, kv_1, km_1]; exact ⟨h1, h2⟩
  · rw [hk, kv_2, km_2]; exact ⟨h1, h2⟩
  · rw [hk, kv_3, km_3]; exact ⟨h1, h2⟩
theorem p_links {μ ν : gM} (cnt lc wc : Nat) (x y z : Int32) (h : PE μ ν) : r_links ν cnt lc wc x y z = r_links μ cnt lc wc x y z ∧ PE (m_links μ cnt lc wc x y z) (m_links ν cnt lc wc x y z) := by
  unfold r_links m_links
  exact ⟨rfl, PE.M h (fun _ => ((((h).U _ _ _).U _ _ _).U _ _ _).U _ _ _) rfl⟩
theorem o_links (μ : gM) {cnt : Nat} (lc wc : Nat) (x y z : Int32) (hn : cnt ≤ 60) : Ow μ (m_links μ cnt lc wc x y z) := by
  unfold m_links
  exact Ow.M (fun _ => ((((Ow.rf).U (by unfold Pc; omega)).U (by unfold Pc; omega)).U (by unfold Pc; omega)).U (by unfold Pc; omega))
theorem i_links {μ : gM} {cnt lc wc : Nat} (x y z : Int32) (I : I1 μ cnt lc wc) : (0 ≤ r_links μ cnt lc wc x y z → I1 (m_links μ cnt lc wc x y z) cnt (lc + 1) wc) ∧ (¬ 0 ≤ r_links μ cnt lc wc x y z → I1 (m_links μ cnt lc wc x y z) cnt lc wc) := by
  unfold r_links m_links
  rcases k3_v (fndB cnt x && fndB cnt y) (!decide (x = y) && inB z 0 3) (decide (lc < 40)) with hk | hk | hk | hk
  · rw [hk, kv_0, km_0]
    obtain ⟨ha, hb, hc⟩ := k3_z hk
    exact ⟨fun _ => I.mlink ((Bool.and_eq_true _ _).mp ha).1 ((Bool.and_eq_true _ _).mp ha).2 ((Bool.and_eq_true _ _).mp hb).2 (of_decide_eq_true hc), fun q => absurd (nI_ge0 (by have := I.1.2.2.1; omega)) q⟩
  · rw [hk, kv_1, km_1]; exact ⟨fun q => absurd q (by decide), fun _ => I⟩
  · rw [hk, kv_2, km_2]; exact ⟨fun q => absurd q (by decide), fun _ => I⟩
  · rw [hk, kv_3, km_3]; exact ⟨fun q => absurd q (by decide), fun _ => I⟩
def r_wishes (μ : gM) (cnt lc wc : Nat) (a1 a2 a3 a4 : Int32) : Int32 := kv (k2 (inB a1 0 2 && inB a2 1 99 && inB a3 0 1 && inB a4 0 99) (decide (wc < 20))) (nI wc) (-2000000002) (-2000000003) 0
def m_wishes (μ : gM) (cnt lc wc : Nat) (a1 a2 a3 a4 : Int32) : gM := km (k2 (inB a1 0 2 && inB a2 1 99 && inB a3 0 1 && inB a4 0 99) (decide (wc < 20))) (gU (gU (gU (gU (gU μ 19 wc a1) 20 wc a2) 21 wc a3) 22 wc a4) 4 0 (nI (wc + 1))) μ
theorem x_wishes {μ μ' : gM} {cnt lc wc : Nat} {a1 a2 a3 a4 : Int32} {r : Int32} (hp : (r = (nI wc) ∧ k2 (inB a1 0 2 && inB a2 1 99 && inB a3 0 1 && inB a4 0 99) (decide (wc < 20)) = 0 ∧ μ' = (gU (gU (gU (gU (gU μ 19 wc a1) 20 wc a2) 21 wc a3) 22 wc a4) 4 0 (nI (wc + 1)))) ∨ (r = -2000000002 ∧ k2 (inB a1 0 2 && inB a2 1 99 && inB a3 0 1 && inB a4 0 99) (decide (wc < 20)) = 1 ∧ μ' = μ) ∨ (r = -2000000003 ∧ k2 (inB a1 0 2 && inB a2 1 99 && inB a3 0 1 && inB a4 0 99) (decide (wc < 20)) = 2 ∧ μ' = μ)) : r = r_wishes μ cnt lc wc a1 a2 a3 a4 ∧ μ' = m_wishes μ cnt lc wc a1 a2 a3 a4 := by
  unfold r_wishes m_wishes
  rcases hp with ⟨h1, hk, h2⟩ | ⟨h1, hk, h2⟩ | ⟨h1, hk, h2⟩
  · rw [hk, kv_0, km_0]; exact ⟨h1, h2⟩
  · rw [hk, kv_1, km_1]; exact ⟨h1, h2⟩
  · rw [hk, kv_2, km_2]; exact ⟨h1, h2⟩
theorem p_wishes {μ ν : gM} (cnt lc wc : Nat) (a1 a2 a3 a4 : Int32) (h : PE μ ν) : r_wishes ν cnt lc wc a1 a2 a3 a4 = r_wishes μ cnt lc wc a1 a2 a3 a4 ∧ PE (m_wishes μ cnt lc wc a1 a2 a3 a4) (m_wishes ν cnt lc wc a1 a2 a3 a4) := by
  unfold r_wishes m_wishes
  exact ⟨rfl, PE.M h (fun _ => (((((h).U _ _ _).U _ _ _).U _ _ _).U _ _ _).U _ _ _) rfl⟩
theorem o_wishes (μ : gM) {cnt : Nat} (lc wc : Nat) (a1 a2 a3 a4 : Int32) (hn : cnt ≤ 60) : Ow μ (m_wishes μ cnt lc wc a1 a2 a3 a4) := by
  unfold m_wishes
  exact Ow.M (fun _ => (((((Ow.rf).U (by unfold Pc; omega)).U (by unfold Pc; omega)).U (by unfold Pc; omega)).U (by unfold Pc; omega)).U (by unfold Pc; omega))
theorem f4 {a b c d : Bool} (h : (a && b && c && d) = true) : a = true ∧ c = true := by cases a <;> cases c <;> simp_all
theorem i_wishes {μ : gM} {cnt lc wc : Nat} (a1 a2 a3 a4 : Int32) (I : I1 μ cnt lc wc) : (0 ≤ r_wishes μ cnt lc wc a1 a2 a3 a4 → I1 (m_wishes μ cnt lc wc a1 a2 a3 a4) cnt lc (wc + 1)) ∧ (¬ 0 ≤ r_wishes μ cnt lc wc a1 a2 a3 a4 → I1 (m_wishes μ cnt lc wc a1 a2 a3 a4) cnt lc wc) := by
  unfold r_wishes m_wishes
  rcases k2_v (inB a1 0 2 && inB a2 1 99 && inB a3 0 1 && inB a4 0 99) (decide (wc < 20)) with hk | hk | hk
  · rw [hk, kv_0, km_0]
    obtain ⟨ha, hb⟩ := k2_z hk
    exact ⟨fun _ => I.mwish (f4 ha).1 (f4 ha).2 (of_decide_eq_true hb), fun q => absurd (nI_ge0 (by have := I.1.2.2.2.2.1; omega)) q⟩
  · rw [hk, kv_1, km_1]; exact ⟨fun q => absurd q (by decide), fun _ => I⟩
  · rw [hk, kv_2, km_2]; exact ⟨fun q => absurd q (by decide), fun _ => I⟩
/-! one act -/
def aOne (cnt y : Nat) : Nat := if cnt = 0 then 0 else y % cnt
def aSer (y : Nat) : Int32 := if y / 4 % 3 = 0 then nI (1 + y / 12 % 4) else 0
def actR (μ : gM) (cnt lc wc a : Nat) : Int32 :=
  if a % 16 < 6 then r_finds μ cnt lc wc (nI (a / 16 % 4)) (aSer (a / 16)) (nI (a / 16 / 48 % 4)) (nI (a / 16 / 192 % 3)) (nI (a / 16 / 576 % 5) - 1) (nI (a / 16 / 2880 % 3) - 1)
  else if a % 16 < 8 then r_passes μ cnt lc wc (nI (1 + a / 16 % 15))
  else if a % 16 < 9 then r_terms μ cnt lc wc (nI (a / 16 % 4)) (nI (1 + a / 16 / 4 % 80))
  else if a % 16 < 10 then r_firsts μ cnt lc wc (nI (a / 16 % 4))
  else if a % 16 < 11 then (if a / 16 / 576 % 3 = 0 then r_strikes μ cnt lc wc (nI (aOne cnt (a / 16))) else μ 0 0)
  else if a % 16 < 13 then r_tells μ cnt lc wc (nI (aOne cnt (a / 16))) (nI (aOne cnt (a / 16 / 24))) (nI (a / 16 / 576 % 3))
  else if a % 16 < 15 then r_links μ cnt lc wc (nI (aOne cnt (a / 16))) (nI (aOne cnt (a / 16 / 24))) (nI (a / 16 / 576 % 3))
  else r_wishes μ cnt lc wc (nI (a / 16 % 3)) (nI (1 + a / 16 / 3 % 3)) (nI (a / 16 / 9 % 2)) (nI (a / 16 / 18 % 4))
def actM (μ : gM) (cnt lc wc a : Nat) : gM :=
  if a % 16 < 6 then m_finds μ cnt lc wc (nI (a / 16 % 4)) (aSer (a / 16)) (nI (a / 16 / 48 % 4)) (nI (a / 16 / 192 % 3)) (nI (a / 16 / 576 % 5) - 1) (nI (a / 16 / 2880 % 3) - 1)
  else if a % 16 < 8 then m_passes μ cnt lc wc (nI (1 + a / 16 % 15))
  else if a % 16 < 9 then m_terms μ cnt lc wc (nI (a / 16 % 4)) (nI (1 + a / 16 / 4 % 80))
  else if a % 16 < 10 then m_firsts μ cnt lc wc (nI (a / 16 % 4))
  else if a % 16 < 11 then (if a / 16 / 576 % 3 = 0 then m_strikes μ cnt lc wc (nI (aOne cnt (a / 16))) else μ)
  else if a % 16 < 13 then m_tells μ cnt lc wc (nI (aOne cnt (a / 16))) (nI (aOne cnt (a / 16 / 24))) (nI (a / 16 / 576 % 3))
  else if a % 16 < 15 then m_links μ cnt lc wc (nI (aOne cnt (a / 16))) (nI (aOne cnt (a / 16 / 24))) (nI (a / 16 / 576 % 3))
  else m_wishes μ cnt lc wc (nI (a / 16 % 3)) (nI (1 + a / 16 / 3 % 3)) (nI (a / 16 / 9 % 2)) (nI (a / 16 / 18 % 4))
theorem act_pe {μ ν : gM} {cnt lc wc : Nat} (a : Nat) (h : PE μ ν) (hn : cnt ≤ 60) : actR ν cnt lc wc a = actR μ cnt lc wc a ∧ PE (actM μ cnt lc wc a) (actM ν cnt lc wc a) := by
  unfold actR actM
  by_cases h1 : a % 16 < 6
  · simp only [if_pos h1]; exact p_finds _ _ _ _ _ _ _ _ _ h
  by_cases h2 : a % 16 < 8
  · simp only [if_neg h1, if_pos h2]; exact p_passes _ _ _ _ h
  by_cases h3 : a % 16 < 9
  · simp only [if_neg h1, if_neg h2, if_pos h3]; exact p_terms _ _ _ _ _ h
  by_cases h4 : a % 16 < 10
  · simp only [if_neg h1, if_neg h2, if_neg h3, if_pos h4]; exact p_firsts _ _ _ _ h
  by_cases h5 : a % 16 < 11
  · simp only [if_neg h1, if_neg h2, if_neg h3, if_neg h4, if_pos h5]
    by_cases q : a / 16 / 576 % 3 = 0
    · simp only [if_pos q]; exact p_strikes _ _ _ _ h
    · simp only [if_neg q]; exact ⟨by rw [h 0 (by unfold Pc; omega)], h⟩
  by_cases h6 : a % 16 < 13
  · simp only [if_neg h1, if_neg h2, if_neg h3, if_neg h4, if_neg h5, if_pos h6]; exact p_tells _ _ _ _ _ _ h hn
  by_cases h7 : a % 16 < 15
  · simp only [if_neg h1, if_neg h2, if_neg h3, if_neg h4, if_neg h5, if_neg h6, if_pos h7]; exact p_links _ _ _ _ _ _ h
  · simp only [if_neg h1, if_neg h2, if_neg h3, if_neg h4, if_neg h5, if_neg h6, if_neg h7]; exact p_wishes _ _ _ _ _ _ _ h
theorem act_ow (μ : gM) {cnt : Nat} (lc wc a : Nat) (hn : cnt ≤ 60) : Ow μ (actM μ cnt lc wc a) := by
  unfold actM
  by_cases h1 : a % 16 < 6
  · rw [if_pos h1]; exact o_finds _ _ _ _ _ _ _ _ _ hn
  by_cases h2 : a % 16 < 8
  · rw [if_neg h1, if_pos h2]; exact o_passes _ _ _ _ hn
  by_cases h3 : a % 16 < 9
  · rw [if_neg h1, if_neg h2, if_pos h3]; exact o_terms _ _ _ _ _ hn
  by_cases h4 : a % 16 < 10
  · rw [if_neg h1, if_neg h2, if_neg h3, if_pos h4]; exact o_firsts _ _ _ _ hn
  by_cases h5 : a % 16 < 11
  · rw [if_neg h1, if_neg h2, if_neg h3, if_neg h4, if_pos h5]
    by_cases q : a / 16 / 576 % 3 = 0
    · rw [if_pos q]; exact o_strikes _ _ _ _ hn
    · rw [if_neg q]; exact Ow.rf
  by_cases h6 : a % 16 < 13
  · rw [if_neg h1, if_neg h2, if_neg h3, if_neg h4, if_neg h5, if_pos h6]; exact o_tells _ _ _ _ _ _ hn
  by_cases h7 : a % 16 < 15
  · rw [if_neg h1, if_neg h2, if_neg h3, if_neg h4, if_neg h5, if_neg h6, if_pos h7]; exact o_links _ _ _ _ _ _ hn
  · rw [if_neg h1, if_neg h2, if_neg h3, if_neg h4, if_neg h5, if_neg h6, if_neg h7]; exact o_wishes _ _ _ _ _ _ _ hn
/-- the counts behind an act -/
def aC (μ : gM) (cnt lc wc a : Nat) : Nat := if a % 16 < 6 ∧ 0 ≤ actR μ cnt lc wc a then cnt + 1 else cnt
def aW (μ : gM) (cnt lc wc a : Nat) : Nat := if ¬ a % 16 < 15 ∧ 0 ≤ actR μ cnt lc wc a then wc + 1 else wc
theorem act_i {μ : gM} {cnt lc wc : Nat} (a : Nat) (I : I1 μ cnt lc wc) : ∃ lc', I1 (actM μ cnt lc wc a) (aC μ cnt lc wc a) lc' (aW μ cnt lc wc a) := by
  unfold aC aW
  by_cases h1 : a % 16 < 6
  · have e1 : actR μ cnt lc wc a = _ := if_pos h1
    have e2 : actM μ cnt lc wc a = _ := if_pos h1
    rw [if_neg (c := ¬ a % 16 < 15 ∧ 0 ≤ actR μ cnt lc wc a) (fun q => q.1 (by omega)), e1, e2]
    have hi := i_finds (nI (a / 16 % 4)) (aSer (a / 16)) (nI (a / 16 / 48 % 4)) (nI (a / 16 / 192 % 3)) (nI (a / 16 / 576 % 5) - 1) (nI (a / 16 / 2880 % 3) - 1) I
    by_cases q : 0 ≤ r_finds μ cnt lc wc (nI (a / 16 % 4)) (aSer (a / 16)) (nI (a / 16 / 48 % 4)) (nI (a / 16 / 192 % 3)) (nI (a / 16 / 576 % 5) - 1) (nI (a / 16 / 2880 % 3) - 1)
    · rw [if_pos ⟨h1, q⟩]; exact ⟨lc, hi.1 q⟩
    · rw [if_neg (fun z => q z.2)]; exact ⟨lc, hi.2 q⟩
  rw [if_neg (c := a % 16 < 6 ∧ 0 ≤ actR μ cnt lc wc a) (fun q => h1 q.1)]
  by_cases h8 : a % 16 < 15
  · rw [if_neg (c := ¬ a % 16 < 15 ∧ 0 ≤ actR μ cnt lc wc a) (fun q => q.1 h8)]
    unfold actM
    rw [if_neg h1]
    by_cases h2 : a % 16 < 8
    · rw [if_pos h2]; exact ⟨lc, i_passes _ I⟩
    by_cases h3 : a % 16 < 9
    · rw [if_neg h2, if_pos h3]; exact ⟨lc, i_terms _ _ I⟩
    by_cases h4 : a % 16 < 10
    · rw [if_neg h2, if_neg h3, if_pos h4]; exact ⟨lc, i_firsts _ I⟩
    by_cases h5 : a % 16 < 11
    · rw [if_neg h2, if_neg h3, if_neg h4, if_pos h5]
      by_cases q : a / 16 / 576 % 3 = 0
      · rw [if_pos q]; exact ⟨lc, i_strikes _ I⟩
      · rw [if_neg q]; exact ⟨lc, I⟩
    by_cases h6 : a % 16 < 13
    · rw [if_neg h2, if_neg h3, if_neg h4, if_neg h5, if_pos h6]; exact ⟨lc, i_tells _ _ _ I⟩
    · rw [if_neg h2, if_neg h3, if_neg h4, if_neg h5, if_neg h6, if_pos h8]
      have hi := i_links (nI (aOne cnt (a / 16))) (nI (aOne cnt (a / 16 / 24))) (nI (a / 16 / 576 % 3)) I
      by_cases q : 0 ≤ r_links μ cnt lc wc (nI (aOne cnt (a / 16))) (nI (aOne cnt (a / 16 / 24))) (nI (a / 16 / 576 % 3))
      · exact ⟨lc + 1, hi.1 q⟩
      · exact ⟨lc, hi.2 q⟩
  · have e1 : actR μ cnt lc wc a = r_wishes μ cnt lc wc (nI (a / 16 % 3)) (nI (1 + a / 16 / 3 % 3)) (nI (a / 16 / 9 % 2)) (nI (a / 16 / 18 % 4)) := by
      unfold actR
      rw [if_neg h1, if_neg (by omega), if_neg (by omega), if_neg (by omega), if_neg (by omega), if_neg (by omega), if_neg (by omega)]
    have e2 : actM μ cnt lc wc a = m_wishes μ cnt lc wc (nI (a / 16 % 3)) (nI (1 + a / 16 / 3 % 3)) (nI (a / 16 / 9 % 2)) (nI (a / 16 / 18 % 4)) := by
      unfold actM
      rw [if_neg h1, if_neg (by omega), if_neg (by omega), if_neg (by omega), if_neg (by omega), if_neg (by omega), if_neg (by omega)]
    rw [e1, e2]
    have hi := i_wishes (nI (a / 16 % 3)) (nI (1 + a / 16 / 3 % 3)) (nI (a / 16 / 9 % 2)) (nI (a / 16 / 18 % 4)) I
    by_cases q : 0 ≤ r_wishes μ cnt lc wc (nI (a / 16 % 3)) (nI (1 + a / 16 / 3 % 3)) (nI (a / 16 / 9 % 2)) (nI (a / 16 / 18 % 4))
    · rw [if_pos ⟨h8, q⟩]; exact ⟨lc, hi.1 q⟩
    · rw [if_neg (fun z => q z.2)]; exact ⟨lc, hi.2 q⟩
