/-! the made world is the world of both -/
def adF (q0 q31 q25 : Nat) (u5 u6 : (Nat → Nat) × (Nat → Nat) × ((Nat → Nat) × (Nat → Nat) × (Nat → Nat) × (Nat → Nat)) × (Nat → Nat) × (Nat → Nat) × (Nat → Nat) × (Nat → Nat)) : Nat → Nat := fun k => if 121 ≤ k then u6.2.2.1.2.2.2 (k - 121) else if 110 ≤ k then [u6.2.2.2.2.1 19, u6.2.2.2.2.1 20, u6.2.2.2.2.1 21, u6.2.2.2.2.1 22, u6.2.2.2.2.2.1 23, u6.2.2.2.2.2.2 23, u6.2.2.1.2.1 0, u6.2.2.1.2.1 1, u6.2.2.1.2.1 2, u6.2.2.1.2.2.1 0, u6.2.2.1.2.2.1 1].getD (k - 110) 0 else if 50 ≤ k then u5.2.2.1.2.2.2 (k - 50) else [q0, u5.1 1, u5.1 2, u5.1 3, u5.1 4, u5.1 5, u5.1 6, u5.2.1 7, u5.2.1 8, u5.2.2.1.1 9, u5.2.2.1.1 10, u5.2.2.1.1 11, u5.2.2.1.1 12, u5.2.2.1.1 13, u5.2.2.1.1 14, u5.2.2.2.1 15, u5.2.2.2.1 16, u5.2.2.2.1 17, u5.2.2.2.1 18, u5.2.2.2.2.1 19, u5.2.2.2.2.1 20, u5.2.2.2.2.1 21, u5.2.2.2.2.1 22, u5.2.2.2.2.2.1 23, u5.2.2.2.2.2.2 23, q25, u5.2.2.1.2.1 0, u5.2.2.1.2.1 1, u5.2.2.1.2.1 2, u5.2.2.1.2.2.1 0, u5.2.2.1.2.2.1 1, q31, u6.1 1, u6.1 2, u6.1 3, u6.1 4, u6.1 5, u6.1 6, u6.2.1 7, u6.2.1 8, u6.2.2.1.1 9, u6.2.2.1.1 10, u6.2.2.1.1 11, u6.2.2.1.1 12, u6.2.2.1.1 13, u6.2.2.1.1 14, u6.2.2.2.1 15, u6.2.2.2.1 16, u6.2.2.2.1 17, u6.2.2.2.1 18].getD k 0
def gMk (g0 : va_G) (ac : Nat → ClassId) (base : Nat) (q0 q31 q25 : Nat) (u5 u6 : (Nat → Nat) × (Nat → Nat) × ((Nat → Nat) × (Nat → Nat) × (Nat → Nat) × (Nat → Nat)) × (Nat → Nat) × (Nat → Nat) × (Nat → Nat) × (Nat → Nat)) : gC := (g0, adF q0 q31 q25 u5 u6, ac, base)
/-- .. but for the outer rows -/
def gEo (g0 : va_G) (ac : Nat → ClassId) (base : Nat) (q0 q31 q25 : Nat) (u5 u6 : (Nat → Nat) × (Nat → Nat) × ((Nat → Nat) × (Nat → Nat) × (Nat → Nat) × (Nat → Nat)) × (Nat → Nat) × (Nat → Nat) × (Nat → Nat) × (Nat → Nat)) (k : Nat) : va_E :=
  if k = 12 then .inl (ac 4, 3, .inr (.inr (.inr (.inr (fun i => some (u5.2.2.1.2.1 i)))))) else if k = 13 then .inl (ac 4, 2, .inr (.inr (.inr (.inr (fun i => some (u5.2.2.1.2.2.1 i)))))) else if k = 14 then .inl (ac 4, 60, .inr (.inr (.inr (.inr (fun i => some (u5.2.2.1.2.2.2 i)))))) else if k = 43 then .inl (ac 4, 3, .inr (.inr (.inr (.inr (fun i => some (u6.2.2.1.2.1 i)))))) else if k = 44 then .inl (ac 4, 2, .inr (.inr (.inr (.inr (fun i => some (u6.2.2.1.2.2.1 i)))))) else if k = 45 then .inl (ac 4, 60, .inr (.inr (.inr (.inr (fun i => some (u6.2.2.1.2.2.2 i)))))) else gE (gMk g0 ac base q0 q31 q25 u5 u6) (m0 k) k
def posL : List Nat := [0, 1, 4, 76, 81, 86, 88, 2, 3, 5, 6, 7, 8, 12, 15, 77, 78, 79, 80, 82, 83, 84, 85, 87, 89, 180, 9, 10, 11, 13, 14, 90, 91, 94, 166, 171, 176, 178, 92, 93, 95, 96, 97, 98, 102, 105, 167, 168, 169, 170, 16, 17, 18, 19, 20, 21, 22, 23, 24, 25, 26, 27, 28, 29, 30, 31, 32, 33, 34, 35, 36, 37, 38, 39, 40, 41, 42, 43, 44, 45, 46, 47, 48, 49, 50, 51, 52, 53, 54, 55, 56, 57, 58, 59, 60, 61, 62, 63, 64, 65, 66, 67, 68, 69, 70, 71, 72, 73, 74, 75, 172, 173, 174, 175, 177, 179, 99, 100, 101, 103, 104, 106, 107, 108, 109, 110, 111, 112, 113, 114, 115, 116, 117, 118, 119, 120, 121, 122, 123, 124, 125, 126, 127, 128, 129, 130, 131, 132, 133, 134, 135, 136, 137, 138, 139, 140, 141, 142, 143, 144, 145, 146, 147, 148, 149, 150, 151, 152, 153, 154, 155, 156, 157, 158, 159, 160, 161, 162, 163, 164, 165]
set_option maxRecDepth 100000 in
set_option maxHeartbeats 8000000 in
theorem w_pos {g0 : va_G} {ac : Nat → ClassId} {base q0 q31 q25 : Nat} {u5 u6 : (Nat → Nat) × (Nat → Nat) × ((Nat → Nat) × (Nat → Nat) × (Nat → Nat) × (Nat → Nat)) × (Nat → Nat) × (Nat → Nat) × (Nat → Nat) × (Nat → Nat)} : posL.map (fun i => (WX5 ac q0 u5 ++ WX5 ac q31 u6 ++ [(q25, .inl (ac 0, 3, .inl (fun _ => 0)))])[i]?) = ((List.range 181).map (fun k => ((adF q0 q31 q25 u5 u6 k, gEo g0 ac base q0 q31 q25 u5 u6 k) : Nat × va_E))).map some := rfl
theorem va_Psub {D : va_G} {cl : List vw_C} {ws ws' : va_W} {H : Heap} (h : va_P D cl ws H) (is : List Nat) (hs : is.map (fun i => ws[i]?) = ws'.map some) : va_P D cl ws' H := by
  intro k q hk
  have h1 : (is.map (fun i => ws[i]?))[k]? = some (some q) := by rw [hs, List.getElem?_map, hk]; rfl
  rw [List.getElem?_map] at h1
  cases hi : is[k]? with
  | none => rw [hi] at h1; cases h1
  | some i => rw [hi] at h1; exact h i q (Option.some.inj h1)
theorem gs_50 {j : Nat} (h : j < 60) : gs (50 + j) = 121 + j := by
  unfold gs
  repeat' split
  all_goals omega
theorem w_of {g0 : va_G} {ac : Nat → ClassId} {base q0 q31 q25 : Nat} {u5 u6 : (Nat → Nat) × (Nat → Nat) × ((Nat → Nat) × (Nat → Nat) × (Nat → Nat) × (Nat → Nat)) × (Nat → Nat) × (Nat → Nat) × (Nat → Nat) × (Nat → Nat)} {A : Nat → Prop} {H : Heap} (hP : va_P g0 vwCl (WX5 ac q0 u5 ++ WX5 ac q31 u6 ++ [(q25, .inl (ac 0, 3, .inl (fun _ => 0)))]) H) (hD : va_D A (WX5 ac q0 u5 ++ WX5 ac q31 u6 ++ [(q25, .inl (ac 0, 3, .inl (fun _ => 0)))])) (hA : ∀ q, A q → base ≤ q) : gI (gMk g0 ac base q0 q31 q25 u5 u6) m0 H ∧ gD (gMk g0 ac base q0 q31 q25 u5 u6) := by
  have hP' := va_Psub hP posL (w_pos (g0 := g0) (base := base))
  have hD' := hD.sub (ws' := (List.range 181).map (fun k => ((adF q0 q31 q25 u5 u6 k, gEo g0 ac base q0 q31 q25 u5 u6 k) : Nat × va_E))) posL (by decide) w_pos
  have at' : ∀ k, k < 181 → ((List.range 181).map (fun k => ((adF q0 q31 q25 u5 u6 k, gEo g0 ac base q0 q31 q25 u5 u6 k) : Nat × va_E)))[k]? = some (adF q0 q31 q25 u5 u6 k, gEo g0 ac base q0 q31 q25 u5 u6 k) := fun k hk => by
    rw [List.getElem?_map, List.getElem?_range hk]; rfl
  refine ⟨fun k q hq => ?_, fun i j hi hj hij => hD'.1 i j _ _ (at' i hi) (at' j hj) hij, fun k hk => hA _ (hD'.2 k _ (at' k hk))⟩
  obtain ⟨hk, rfl⟩ := gW_of hq
  have h1 := hP' k _ (at' k hk)
  unfold gEo at h1
  by_cases e12 : k = 12
  · subst e12
    rw [if_pos rfl] at h1
    refine Eq.trans h1 (congrArg some ?_)
    show vp_cell _ _ = vp_cell _ _
    rw [vp_cell_q, vp_cell_q]
    refine arrV_cong (fun j hj => ?_)
    rcases (show j = 0 ∨ j = 1 ∨ j = 2 by omega) with rfl | rfl | rfl <;> rfl
  by_cases e13 : k = 13
  · subst e13
    rw [if_neg (by decide), if_pos rfl] at h1
    refine Eq.trans h1 (congrArg some ?_)
    show vp_cell _ _ = vp_cell _ _
    rw [vp_cell_q, vp_cell_q]
    refine arrV_cong (fun j hj => ?_)
    rcases (show j = 0 ∨ j = 1 by omega) with rfl | rfl <;> rfl
  by_cases e14 : k = 14
  · subst e14
    rw [if_neg (by decide), if_neg (by decide), if_pos rfl] at h1
    refine Eq.trans h1 (congrArg some ?_)
    show vp_cell _ _ = vp_cell _ _
    rw [vp_cell_q, vp_cell_q]
    refine arrV_cong (fun j hj => ?_)
    show va_rf (some (u5.2.2.1.2.2.2 j)) = va_rf (some (adF q0 q31 q25 u5 u6 (50 + j)))
    unfold adF
    rw [if_neg (by omega), if_neg (by omega), if_pos (by omega), show 50 + j - 50 = j by omega]
  by_cases e43 : k = 43
  · subst e43
    rw [if_neg (by decide), if_neg (by decide), if_neg (by decide), if_pos rfl] at h1
    refine Eq.trans h1 (congrArg some ?_)
    show vp_cell _ _ = vp_cell _ _
    rw [vp_cell_q, vp_cell_q]
    refine arrV_cong (fun j hj => ?_)
    rcases (show j = 0 ∨ j = 1 ∨ j = 2 by omega) with rfl | rfl | rfl <;> rfl
  by_cases e44 : k = 44
  · subst e44
    rw [if_neg (by decide), if_neg (by decide), if_neg (by decide), if_neg (by decide), if_pos rfl] at h1
    refine Eq.trans h1 (congrArg some ?_)
    show vp_cell _ _ = vp_cell _ _
    rw [vp_cell_q, vp_cell_q]
    refine arrV_cong (fun j hj => ?_)
    rcases (show j = 0 ∨ j = 1 by omega) with rfl | rfl <;> rfl
  by_cases e45 : k = 45
  · subst e45
    rw [if_neg (by decide), if_neg (by decide), if_neg (by decide), if_neg (by decide), if_neg (by decide), if_pos rfl] at h1
    refine Eq.trans h1 (congrArg some ?_)
    show vp_cell _ _ = vp_cell _ _
    rw [vp_cell_q, vp_cell_q]
    refine arrV_cong (fun j hj => ?_)
    show va_rf (some (u6.2.2.1.2.2.2 j)) = va_rf (some (adF q0 q31 q25 u5 u6 (gs (50 + j))))
    rw [gs_50 hj]
    unfold adF
    rw [if_pos (by omega), show 121 + j - 121 = j by omega]
  rw [if_neg e12, if_neg e13, if_neg e14, if_neg e43, if_neg e44, if_neg e45] at h1
  exact h1
