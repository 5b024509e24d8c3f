-- ===== YOUR PART BEGINS =====
/-- from the entry, for every script of at most 260 ints, the law comes to its end with true -/
theorem whole_start {p : Program} {e : Env} {s : State} {m : MethodId} {below : List Frame} {meth : Method} {c : Code} (l : Launch) (hflags : l.flags = flags0) {b L : Nat} {xs : Nat → Int32} (hL : L ≤ 260) (C0 : lw_At p s m meth c b L xs) : W p l e room_1 s m #[Value.ref b] below meth c s.heap [] 0 0 (lw_Z below #[Value.ref b] s) (entryFrame m ([Value.ref b] : List Value).toArray 9) := by
  obtain ⟨hx, hb, hr, hml, hown, hts, hX, hbl, hlocks, hgv⟩ := C0
  have hst : l.stackTraces = false := by
    unfold Launch.stackTraces
    rw [hflags]
    decide +kernel
  obtain ⟨g0, ac, hK⟩ := k_start hts
  have hL' : ∀ w ∈ wsL_law, w.before #[Value.ref b] s = true := fun w h => hts w (wsL_law_in w h)
  have Z0 : kF p c cL_law 9 s m #[Value.ref b] wsL_law RL g0 ac (fun q => s.heap.size ≤ q) := ⟨hx, hb, hml, hown, hL', hK, fun _ h => h⟩
  have hN := gN_start hgv
  have JJ : JC p l e room_1 s m #[Value.ref b] below meth c (lw_Z below #[Value.ref b] s) g0 (fun q => s.heap.size ≤ q) 9 [] 0 0 0 [(0, .ref b)] [] := by
    refine jc_new Z0 (ci := 5) tyX5 tyX5_ok iw_5 wl_c5 wl_i5 wl_t5 rfl [.int 0, .null, .null, .null, .null, .null, .null] (fun j hj => by rcases (show j = 0 ∨ j = 1 ∨ j = 2 ∨ j = 3 ∨ j = 4 ∨ j = 5 ∨ j = 6 by omega) with rfl | rfl | rfl | rfl | rfl | rfl | rfl <;> rfl) (by decide) dL_law_0 (fun q0 _ => ?_)
    refine jc_dup Z0 dL_law_3 rfl ?_
    refine jc_call (R := room_1) (k := 1) (n := 7) (nA := 0) (e0 := (.inr (5, [.int 0, .null, .null, .null, .null, .null, .null]))) Z0 (As := []) (rest := [.ref q0]) (W1 := []) (q := q0) (fun sz9 => c_X5_init l g0 ac q0 sz9) rfl gL_law_X5_init rfl rfl rfl wl_t5 (Or.inl wl_l5) wl_n5 rfl (by decide +kernel) (by decide) rfl dL_law_4 rfl (Nat.le_of_ble_eq_true rfl) (by decide) (fun u5 => ?_)
    refine jc_w (W1 := WX5 ac q0 u5) rfl ?_
    refine jc_astore_n Z0 dL_law_7 (by decide) [(1, .ref q0), (0, .ref b)] rfl ?_
    refine jc_new Z0 (ci := 5) tyX5 tyX5_ok iw_5 wl_c5 wl_i5 wl_t5 rfl [.int 0, .null, .null, .null, .null, .null, .null] (fun j hj => by rcases (show j = 0 ∨ j = 1 ∨ j = 2 ∨ j = 3 ∨ j = 4 ∨ j = 5 ∨ j = 6 by omega) with rfl | rfl | rfl | rfl | rfl | rfl | rfl <;> rfl) (by decide) dL_law_8 (fun q31 _ => ?_)
    refine jc_dup Z0 dL_law_11 rfl ?_
    refine jc_call (R := room_1) (k := 1 + 89 + 1) (n := 7 + 4558 + 7) (nA := 0) (e0 := (.inr (5, [.int 0, .null, .null, .null, .null, .null, .null]))) Z0 (As := []) (rest := [.ref q31]) (W1 := WX5 ac q0 u5) (q := q31) (fun sz9 => c_X5_init l g0 ac q31 sz9) rfl gL_law_X5_init rfl rfl rfl wl_t5 (Or.inl wl_l5) wl_n5 rfl (by decide +kernel) (by decide) rfl dL_law_12 rfl (Nat.le_of_ble_eq_true rfl) (by decide) (fun u6 => ?_)
    refine jc_astore_n Z0 dL_law_15 (by decide) [(2, .ref q31), (1, .ref q0), (0, .ref b)] rfl ?_
    refine jc_iconst Z0 (v := 3) dL_law_16 (by decide) ?_
    refine jc_newa Z0 wl_ai rfl 0 rfl (3, .inl (fun _ => 0)) (fun _ => rfl) (by decide) (by decide) (by decide) (by decide) dL_law_17 (fun q25 => ?_)
    refine jc_astore_n Z0 dL_law_19 (by decide) [(3, .ref q25), (2, .ref q31), (1, .ref q0), (0, .ref b)] rfl ?_
    intro H locs ls hP hD hS hl
    obtain ⟨hI, hDD⟩ := w_of (base := s.heap.size) hP hD (fun q h => h)
    have hXg : gX (gMk g0 ac s.heap.size q0 q31 q25 u5 u6) s := gX_start hts hgv rfl hK.1 hDD
    have Z : gF p l e room_1 s m #[Value.ref b] below meth c cL_law 9 wsL_law RL (gMk g0 ac s.heap.size q0 q31 q25 u5 u6) := ⟨hx, hb, hml, hown, hL', hXg, hlocks⟩
    refine W.widen (k := 200) (n := 9200) (by decide) (by decide) ?_
    exact law_all hst Z hN hX hbl (by show ¬ s.heap.size ≤ b; omega) hL (fun μ' k' n' L' h1 h2 H locs ls hI hS hl => W.widen h1 h2 (va_forget (fun q hq => hS.2.2 q hq) (lw_ret hx hb hr hlocks dL_law_390))) Rel_start H locs ls hI hS hl
  rw [lg_entry_eq]
  exact JJ s.heap [] _ (fun k q h => by simp at h) ⟨fun i j x y h => by simp at h, fun k q h => by simp at h⟩ va_S.rf (lv_entry ([.ref b]) (n := 9) (Nat.le_of_ble_eq_true rfl))
-- ===== YOUR PART ENDS =====
