/-! the made world is the world of both -/
def adF (q0 q31 q25 : Nat) (u5 : (Nat → Nat) × (Nat → Nat) × ((Nat → Nat) × (Nat → Nat) × (Nat → Nat) × (Nat → Nat)) × (Nat → Nat) × (Nat → Nat) × (Nat → Nat) × (Nat → Nat)) (u6 : Nat → Nat) : Nat → Nat := fun k => if 50 ≤ k then u5.2.2.1.2.2.2 (k - 50) else [q0, u5.1 1, u5.1 2, u5.1 3, u5.1 4, u5.1 5, u5.1 6, u5.2.1 7, u5.2.1 8, u5.2.2.1.1 9, u5.2.2.1.1 10, u5.2.2.1.1 11, u5.2.2.1.1 12, u5.2.2.1.1 13, u5.2.2.1.1 14, u5.2.2.2.1 15, u5.2.2.2.1 16, u5.2.2.2.1 17, u5.2.2.2.1 18, u5.2.2.2.2.1 19, u5.2.2.2.2.1 20, u5.2.2.2.2.1 21, u5.2.2.2.2.1 22, u5.2.2.2.2.2.1 23, u5.2.2.2.2.2.2 23, q25, u5.2.2.1.2.1 0, u5.2.2.1.2.1 1, u5.2.2.1.2.1 2, u5.2.2.1.2.2.1 0, u5.2.2.1.2.2.1 1, q31, u6 32, u6 33, u6 34, u6 35, u6 36, u6 37, u6 38, u6 39, u6 40, u6 41, u6 42, u6 43, u6 44, u6 45, u6 46, u6 47, u6 48, u6 49].getD k 0
def gMk (g0 : va_G) (ac : Nat → ClassId) (base q0 q31 q25 : Nat) (u5 : (Nat → Nat) × (Nat → Nat) × ((Nat → Nat) × (Nat → Nat) × (Nat → Nat) × (Nat → Nat)) × (Nat → Nat) × (Nat → Nat) × (Nat → Nat) × (Nat → Nat)) (u6 : Nat → Nat) : gC := (g0, adF q0 q31 q25 u5 u6, ac, base)
/-- .. but for the outer rows -/
def gEo (g0 : va_G) (ac : Nat → ClassId) (base q0 q31 q25 : Nat) (u5 : (Nat → Nat) × (Nat → Nat) × ((Nat → Nat) × (Nat → Nat) × (Nat → Nat) × (Nat → Nat)) × (Nat → Nat) × (Nat → Nat) × (Nat → Nat) × (Nat → Nat)) (u6 : Nat → Nat) (k : Nat) : va_E :=
  if k = 12 then .inl (ac 4, 3, .inr (.inr (.inr (.inr (fun i => some (u5.2.2.1.2.1 i)))))) else if k = 13 then .inl (ac 4, 2, .inr (.inr (.inr (.inr (fun i => some (u5.2.2.1.2.2.1 i)))))) else if k = 14 then .inl (ac 4, 60, .inr (.inr (.inr (.inr (fun i => some (u5.2.2.1.2.2.2 i)))))) else gE (gMk g0 ac base q0 q31 q25 u5 u6) (m0 k) k
def posL : List Nat := [0, 1, 4, 76, 81, 86, 88, 2, 3, 5, 6, 7, 8, 12, 15, 77, 78, 79, 80, 82, 83, 84, 85, 87, 89, 109, 9, 10, 11, 13, 14, 90, 91, 92, 93, 94, 95, 96, 97, 98, 99, 100, 101, 102, 103, 104, 105, 106, 107, 108, 16, 17, 18, 19, 20, 21, 22, 23, 24, 25, 26, 27, 28, 29, 30, 31, 32, 33, 34, 35, 36, 37, 38, 39, 40, 41, 42, 43, 44, 45, 46, 47, 48, 49, 50, 51, 52, 53, 54, 55, 56, 57, 58, 59, 60, 61, 62, 63, 64, 65, 66, 67, 68, 69, 70, 71, 72, 73, 74, 75]
set_option maxRecDepth 100000 in
set_option maxHeartbeats 4000000 in
theorem w_pos {g0 : va_G} {ac : Nat → ClassId} {base q0 q31 q25 : Nat} {u5 : (Nat → Nat) × (Nat → Nat) × ((Nat → Nat) × (Nat → Nat) × (Nat → Nat) × (Nat → Nat)) × (Nat → Nat) × (Nat → Nat) × (Nat → Nat) × (Nat → Nat)} {u6 : Nat → Nat} : posL.map (fun i => (WX5 ac q0 u5 ++ WX6 ac q31 u6 ++ [(q25, .inl (ac 3, 1, .inr (.inl (fun _ => (0 : Int32).toInt64))))])[i]?) = ((List.range 110).map (fun k => ((adF q0 q31 q25 u5 u6 k, gEo g0 ac base q0 q31 q25 u5 u6 k) : Nat × va_E))).map some := rfl
theorem va_Psub {D : va_G} {cl : List vw_C} {ws ws' : va_W} {H : Heap} (h : va_P D cl ws H) (is : List Nat) (hs : is.map (fun i => ws[i]?) = ws'.map some) : va_P D cl ws' H := by
  intro k q hk
  have h1 : (is.map (fun i => ws[i]?))[k]? = some (some q) := by rw [hs, List.getElem?_map, hk]; rfl
  rw [List.getElem?_map] at h1
  cases hi : is[k]? with
  | none => rw [hi] at h1; cases h1
  | some i => rw [hi] at h1; exact h i q (Option.some.inj h1)
theorem w_of {g0 : va_G} {ac : Nat → ClassId} {base q0 q31 q25 : Nat} {u5 : (Nat → Nat) × (Nat → Nat) × ((Nat → Nat) × (Nat → Nat) × (Nat → Nat) × (Nat → Nat)) × (Nat → Nat) × (Nat → Nat) × (Nat → Nat) × (Nat → Nat)} {u6 : Nat → Nat} {A : Nat → Prop} {H : Heap} (hP : va_P g0 vwCl (WX5 ac q0 u5 ++ WX6 ac q31 u6 ++ [(q25, .inl (ac 3, 1, .inr (.inl (fun _ => (0 : Int32).toInt64))))]) H) (hD : va_D A (WX5 ac q0 u5 ++ WX6 ac q31 u6 ++ [(q25, .inl (ac 3, 1, .inr (.inl (fun _ => (0 : Int32).toInt64))))])) (hA : ∀ q, A q → base ≤ q) : gI (gMk g0 ac base q0 q31 q25 u5 u6) m0 H ∧ gD (gMk g0 ac base q0 q31 q25 u5 u6) := by
  have hP' := va_Psub hP posL (w_pos (g0 := g0) (base := base))
  have hD' := hD.sub (ws' := (List.range 110).map (fun k => ((adF q0 q31 q25 u5 u6 k, gEo g0 ac base q0 q31 q25 u5 u6 k) : Nat × va_E))) posL (by decide) w_pos
  have at' : ∀ k, k < 110 → ((List.range 110).map (fun k => ((adF q0 q31 q25 u5 u6 k, gEo g0 ac base q0 q31 q25 u5 u6 k) : Nat × va_E)))[k]? = some (adF q0 q31 q25 u5 u6 k, gEo g0 ac base q0 q31 q25 u5 u6 k) := fun k hk => by
    rw [List.getElem?_map, List.getElem?_range hk]; rfl
  refine ⟨fun k q hq => ?_, fun i j hi hj hij => hD'.1 i j _ _ (at' i hi) (at' j hj) hij, fun k hk => hA _ (hD'.2 k _ (at' k hk))⟩
  obtain ⟨hk, rfl⟩ := gW_of hq
  have h1 := hP' k _ (at' k hk)
  unfold gEo at h1
  by_cases e12 : k = 12
  · subst e12
    rw [if_pos rfl] at h1
    refine Eq.trans h1 (congrArg some ?_)
    show vp_cell _ _ = vp_cell _ _
    rw [vp_cell_q, vp_cell_q]
    refine arrV_cong (fun j hj => ?_)
    rcases (show j = 0 ∨ j = 1 ∨ j = 2 by omega) with rfl | rfl | rfl <;> rfl
  · by_cases e13 : k = 13
    · subst e13
      rw [if_neg (by decide), if_pos rfl] at h1
      refine Eq.trans h1 (congrArg some ?_)
      show vp_cell _ _ = vp_cell _ _
      rw [vp_cell_q, vp_cell_q]
      refine arrV_cong (fun j hj => ?_)
      rcases (show j = 0 ∨ j = 1 by omega) with rfl | rfl <;> rfl
    · by_cases e14 : k = 14
      · subst e14
        rw [if_neg (by decide), if_neg (by decide), if_pos rfl] at h1
        refine Eq.trans h1 (congrArg some ?_)
        show vp_cell _ _ = vp_cell _ _
        rw [vp_cell_q, vp_cell_q]
        refine arrV_cong (fun j hj => ?_)
        show va_rf (some (u5.2.2.1.2.2.2 j)) = va_rf (some (adF q0 q31 q25 u5 u6 (50 + j)))
        unfold adF
        rw [if_pos (by omega), show 50 + j - 50 = j by omega]
      · rw [if_neg e12, if_neg e13, if_neg e14] at h1
        exact h1
