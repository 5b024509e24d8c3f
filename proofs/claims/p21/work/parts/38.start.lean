/-! FROM THE LAW'S ENTRY: the tables, both objects, the loop -/
theorem na_gN : ∀ q ∈ gNp, Cond.not (.castable q.1 q.2) ∈ flatC (Jvm.Cond.and given_1 narrow_1) := by decide +kernel
theorem na_U : Cond.isRef (.static Bundle.tN "UNASSIGNED_STACK" Bundle.steD) ∈ flatC (Jvm.Cond.and given_1 narrow_1) := by decide +kernel
theorem na_S : Cond.isRef (.static Bundle.tN "SUPPRESSED_SENTINEL" Bundle.listD) ∈ flatC (Jvm.Cond.and given_1 narrow_1) := by decide +kernel
theorem na_str : ∀ q ∈ gSt, Cond.exactly (.string RX5 q.1) "java/lang/String" ∈ flatC (Jvm.Cond.and given_1 narrow_1) := by decide +kernel
theorem tb_str : ∀ q ∈ gSt, Cond.stringRef RX5 q.1 q.2 ∈ lw_tbl := by decide +kernel
theorem tb_Xw : ∀ w ∈ gXw, w ∈ lw_tbl := by decide +kernel
theorem tb_U : Cond.laysStatic Bundle.tN "UNASSIGNED_STACK" Bundle.steD ∈ lw_tbl := by decide +kernel
theorem tb_S : Cond.laysStatic Bundle.tN "SUPPRESSED_SENTINEL" Bundle.listD ∈ lw_tbl := by decide +kernel
theorem tb_T : Cond.initialized Bundle.tN ∈ lw_tbl := by decide +kernel
theorem tb_AO : Cond.arrayOver (.array .int) ∈ lw_tbl := by decide +kernel
theorem tb_n0 : Cond.methodLinkNest RX5 22 yX0_init "FoundRegister" ∈ lw_tbl := by decide +kernel
theorem tb_n1 : Cond.methodLinkNest RX5 29 yX1_init "FoundRegister" ∈ lw_tbl := by decide +kernel
theorem tb_n4 : Cond.methodLinkNest RX5 36 yX4_init "FoundRegister" ∈ lw_tbl := by decide +kernel
theorem tb_ai : Cond.arrayClass .int ∈ lw_tbl := by decide +kernel
theorem tb_az : Cond.arrayClass .boolean ∈ lw_tbl := by decide +kernel
theorem iw_0 : ∀ w ∈ u_ws RX0 TX0 7, w ∈ wsL_law := fun w h => (gL_law_X5_init w (mkiX5_X0 w h)).1
theorem iw_1 : ∀ w ∈ u_ws RX1 TX1 5, w ∈ wsL_law := fun w h => (gL_law_X5_init w (mkiX5_X1 w h)).1
theorem iw_2 : ∀ w ∈ u_ws RX2 TX2 2, w ∈ wsL_law := fun w h => (gL_law_X5_init w (mkiX5_X2 w h)).1
theorem iw_3 : ∀ w ∈ u_ws RX3 TX3 3, w ∈ wsL_law := fun w h => (gL_law_X5_init w (mkiX5_X3 w h)).1
theorem iw_4 : ∀ w ∈ u_ws RX4 TX4 5, w ∈ wsL_law := fun w h => (gL_law_X5_init w (mkiX5_X4 w h)).1
theorem iw_5 : ∀ w ∈ u_ws RX5 TX5 7, w ∈ wsL_law := fun w h => (gL_law_X5_init w (mkiX5_X5 w h)).1
theorem wl_i5 : Cond.instantiable RX5 7 ∈ wsL_law := by decide +kernel
theorem wl_c5 : Cond.classLink RL 8 RX5 ∈ wsL_law := by decide +kernel
theorem wl_t5 : Cond.initialized RX5 ∈ wsL_law := by decide +kernel
theorem wl_l5 : Cond.methodLink RL 137 yX5_init ∈ wsL_law := by decide +kernel
theorem wl_n5 : Cond.instanceMethod yX5_init ∈ wsL_law := by decide +kernel
theorem k_arr {s : State} {args : Array Value} {ty : FieldType} (h : (Cond.arrayClass ty).before args s = true) : ∃ cA : ClassId, ArrOfT s cA ty ∧ s.vm.findClass ("[" ++ ty.toString) = some cA := by
  obtain ⟨cA, kA, comp, h1, h2, h3⟩ := Cond.arrayClass_spec h
  exact ⟨cA, fun n z => ⟨fun k h => (by cases h), kA, h2, comp, h3⟩, h1⟩
theorem k_start {s : State} {b : Nat} (hts : ∀ w ∈ lw_tbl, w.before #[Value.ref b] s = true) : ∃ (g0 : va_G) (ac : Nat → ClassId), kX g0 ac s := by
  have hL : ∀ w ∈ wsL_law, w.before #[Value.ref b] s = true := fun w h => hts w (wsL_law_in w h)
  obtain ⟨c0, i0, h0⟩ := u_known (n := 7) hL iw_0 (hL _ (gL_law_X5_init _ mkX5_iX0).1)
  obtain ⟨c1, i1, h1⟩ := u_known (n := 5) hL iw_1 (hL _ (gL_law_X5_init _ mkX5_iX1).1)
  obtain ⟨c2, i2, h2⟩ := u_known (n := 2) hL iw_2 (hL _ (gL_law_X5_init _ mkX5_iX2).1)
  obtain ⟨c3, i3, h3⟩ := u_known (n := 3) hL iw_3 (hL _ (gL_law_X5_init _ mkX5_iX3).1)
  obtain ⟨c4, i4, h4⟩ := u_known (n := 5) hL iw_4 (hL _ (gL_law_X5_init _ mkX5_iX4).1)
  obtain ⟨c5, i5, h5⟩ := u_known (n := 7) hL iw_5 (hL _ wl_i5)
  obtain ⟨a0, A0, n0⟩ := k_arr (hts _ tb_ai)
  obtain ⟨a1, A1, n1⟩ := k_arr (hts _ tb_az)
  obtain ⟨comp, a4, k4, e1, -, e3, e4, e5⟩ := Jvm.Stand.arrayOver_specB (hts _ tb_AO)
  refine ⟨(fun k => [c0, c1, c2, c3, c4, c5].getD k c0, fun k => [i0, i1, i2, i3, i4, i5].getD k i0), fun k => [a0, a1, a0, a0, a4].getD k a0, ⟨fun k q hq => ?_, fun k q hq => ?_⟩, hts _ tb_AO, fun q hq => ?_⟩
  · match k, hq with
    | 0, hq => cases hq; exact h0
    | 1, hq => cases hq; exact h1
    | 2, hq => cases hq; exact h2
    | 3, hq => cases hq; exact h3
    | 4, hq => cases hq; exact h4
    | 5, hq => cases hq; exact h5
    | k + 6, hq => simp [vwCl] at hq
  · match k, hq with
    | 0, hq => cases hq; exact ⟨A0, n0⟩
    | 1, hq => cases hq; exact ⟨A1, n1⟩
    | 2, hq => cases hq; exact ⟨A0, n0⟩
    | 3, hq => cases hq; exact ⟨A0, n0⟩
    | 4, hq => cases hq; exact ⟨fun n z => ⟨fun C hC => (by cases hC), k4, e3, comp, e4⟩, e5⟩
    | k + 5, hq => simp [kT] at hq
  · simp only [kNw, List.mem_cons, List.not_mem_nil, or_false] at hq
    rcases hq with rfl | rfl | rfl
    · exact va_Nw.of rfl (hts _ tb_n0)
    · exact va_Nw.of rfl (hts _ tb_n1)
    · exact va_Nw.of rfl (hts _ tb_n4)
theorem gN_start {s : State} {b : Nat} (hgv : (Jvm.Cond.and given_1 narrow_1).before #[Value.ref b] s = true) : gN s := fun q hq => va_Nc.of (flat_of_before _ hgv _ (na_gN q hq))
theorem gX_start {s : State} {b : Nat} (hts : ∀ w ∈ lw_tbl, w.before #[Value.ref b] s = true) (hgv : (Jvm.Cond.and given_1 narrow_1).before #[Value.ref b] s = true) {g : gC} (hb : g.2.2.2 = s.heap.size) (hK : va_K g.1 vwCl (gT g) s) (hD : gD g) : gX g s := by
  have hf := flat_of_before _ hgv
  refine ⟨hK, hD, vx_Zqof (hts _ tb_U) (hts _ tb_T) (hf _ na_U) (fun a ha => by show ¬ g.2.2.2 ≤ a; omega), vx_Zqof (hts _ tb_S) (hts _ tb_T) (hf _ na_S) (fun a ha => by show ¬ g.2.2.2 ≤ a; omega), fun q hq => ?_, fun w hw => ?_⟩
  · obtain ⟨a, -, -, -, h1, -⟩ := Cond.exactly_spec (hf _ (na_str q hq))
    exact ⟨a, vk_R.of (hts _ (tb_str q hq)) h1⟩
  · have h9 := hts w (tb_Xw w hw)
    simp only [gXw, List.mem_cons, List.not_mem_nil, or_false] at hw
    rcases hw with rfl | rfl | rfl | rfl | rfl | rfl | rfl <;> exact va_Nw.of rfl h9
theorem wl_ai : Cond.arrayClass .int ∈ wsL_law := by decide +kernel
/-- the memory at the start -/
def r30 : Nat → Int32 := upd (upd (upd (upd (fun _ => 0) 0 30) 1 30) 2 30) 3 30
def rId : Nat → Int32 := upd (upd (upd (upd (fun _ => 0) 0 0) 1 1) 2 2) 3 3
def m0 : gM := fun k => if k = 7 then r30 else if k = 38 then r30 else if k = 8 then rId else if k = 39 then rId else fun _ => 0
theorem vp_0 {N : Nat} (h : 0 < N) (h2 : N ≤ 4096) : vp_in 0 N := vp_in_nI (n := 0) h (by omega)
theorem m0_z {k : Nat} (h1 : ¬ k = 7) (h2 : ¬ k = 38) (h3 : ¬ k = 8) (h4 : ¬ k = 39) : m0 k = fun _ => 0 := by
  unfold m0
  rw [if_neg h1, if_neg h2, if_neg h3, if_neg h4]
theorem m0_sw : sw m0 = m0 := by
  funext k
  show m0 (gs k) = m0 k
  by_cases h1 : k = 7
  · subst h1; rfl
  by_cases h2 : k = 38
  · subst h2; rfl
  by_cases h3 : k = 8
  · subst h3; rfl
  by_cases h4 : k = 39
  · subst h4; rfl
  have e : ∀ j : Nat, gs k = j → k = gs j := fun j q => by rw [← q, gs_gs]
  rw [m0_z h1 h2 h3 h4, m0_z (fun q => h2 (e 7 q)) (fun q => h1 (e 38 q)) (fun q => h4 (e 8 q)) (fun q => h3 (e 39 q))]
theorem I1_start : I1 m0 0 0 0 := by
  refine ⟨⟨by omega, rfl, by omega, rfl, by omega, rfl, fun _ => vp_0 (by decide) (by decide), fun _ => vp_0 (by decide) (by decide), fun _ => vp_0 (by decide) (by decide), fun k hk => absurd hk (Nat.not_lt_zero k), fun _ => vp_0 (by decide) (by decide), fun _ => vp_0 (by decide) (by decide)⟩, fun k _ => ⟨rfl, rfl⟩, ⟨0, by omega, rfl⟩, fun k hk => ?_, fun k hk => absurd hk (Nat.not_lt_zero k), fun i j hi hj => ?_, fun _ _ => rfl⟩
  · rcases (show k = 0 ∨ k = 1 ∨ k = 2 ∨ k = 3 by omega) with rfl | rfl | rfl | rfl <;> decide
  · rw [m0_z (k := 50 + i) (by omega) (by omega) (by omega) (by omega), m0_z (k := 50 + j) (by omega) (by omega) (by omega) (by omega)]
    exact ⟨rfl, show inB 0 0 2 = true by decide⟩
theorem Rel_start : Rel m0 0 0 0 := ⟨I1_start, by rw [m0_sw]; exact I1_start, by rw [m0_sw]; exact PE.rf, rfl, rfl⟩
