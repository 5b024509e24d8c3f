section
-- ===== PART A: goes FIRST, ahead of the names: the tables' words, and 'selects' of the private methods out of them =====
/-- a private method of a class that the tables say can be made, by its rows of tables_1 -/
def lw_okq (q : MethodName × Nat) : Prop := (q.1.cls ≠ "java/lang/invoke/MethodHandle" ∧ q.1.cls ≠ "java/lang/invoke/VarHandle") ∧ Cond.instantiable q.1.cls q.2 ∈ tables_1 ∧ Cond.privateMethod q.1 ∈ tables_1 ∧ Cond.instanceMethod q.1 ∈ tables_1
theorem lw_p0 : lw_okq (⟨"java/lang/Throwable", "fillInStackTrace", "(I)Ljava/lang/Throwable;"⟩, 6) := ⟨⟨by decide +kernel, by decide +kernel⟩, List.mem_of_getElem? (i := 229) (by decide +kernel), List.mem_of_getElem? (i := 227) (by decide +kernel), List.mem_of_getElem? (i := 228) (by decide +kernel)⟩
theorem lw_p1 : lw_okq (⟨"FoundRegister", "requireFind", "(I)V"⟩, 7) := ⟨⟨by decide +kernel, by decide +kernel⟩, List.mem_of_getElem? (i := 16) (by decide +kernel), List.mem_of_getElem? (i := 323) (by decide +kernel), List.mem_of_getElem? (i := 324) (by decide +kernel)⟩
theorem lw_p2 : lw_okq (⟨"FoundRegister$Things", "joinToEarlier", "(I)V"⟩, 3) := ⟨⟨by decide +kernel, by decide +kernel⟩, List.mem_of_getElem? (i := 126) (by decide +kernel), List.mem_of_getElem? (i := 381) (by decide +kernel), List.mem_of_getElem? (i := 382) (by decide +kernel)⟩
theorem lw_p3 : lw_okq (⟨"FoundRegister$Finds", "knowsSerial", "(I)Z"⟩, 7) := ⟨⟨by decide +kernel, by decide +kernel⟩, List.mem_of_getElem? (i := 41) (by decide +kernel), List.mem_of_getElem? (i := 389) (by decide +kernel), List.mem_of_getElem? (i := 390) (by decide +kernel)⟩
theorem lw_p4 : lw_okq (⟨"FoundRegister$Finds", "shareMark", "(III)Z"⟩, 7) := ⟨⟨by decide +kernel, by decide +kernel⟩, List.mem_of_getElem? (i := 41) (by decide +kernel), List.mem_of_getElem? (i := 393) (by decide +kernel), List.mem_of_getElem? (i := 394) (by decide +kernel)⟩
theorem lw_p5 : lw_okq (⟨"FoundRegister$Things", "merge", "(II)V"⟩, 3) := ⟨⟨by decide +kernel, by decide +kernel⟩, List.mem_of_getElem? (i := 126) (by decide +kernel), List.mem_of_getElem? (i := 397) (by decide +kernel), List.mem_of_getElem? (i := 398) (by decide +kernel)⟩
theorem lw_p6 : lw_okq (⟨"FoundRegister", "requireCounting", "(I)V"⟩, 7) := ⟨⟨by decide +kernel, by decide +kernel⟩, List.mem_of_getElem? (i := 16) (by decide +kernel), List.mem_of_getElem? (i := 419) (by decide +kernel), List.mem_of_getElem? (i := 420) (by decide +kernel)⟩
theorem lw_p7 : lw_okq (⟨"FoundRegister$Things", "tells", "(III)Z"⟩, 3) := ⟨⟨by decide +kernel, by decide +kernel⟩, List.mem_of_getElem? (i := 126) (by decide +kernel), List.mem_of_getElem? (i := 454) (by decide +kernel), List.mem_of_getElem? (i := 455) (by decide +kernel)⟩
theorem lw_p8 : lw_okq (⟨"FoundRegister$Things", "goesBefore", "(II)Z"⟩, 3) := ⟨⟨by decide +kernel, by decide +kernel⟩, List.mem_of_getElem? (i := 126) (by decide +kernel), List.mem_of_getElem? (i := 458) (by decide +kernel), List.mem_of_getElem? (i := 459) (by decide +kernel)⟩
theorem lw_p9 : lw_okq (⟨"FoundRegister$Links", "failMore", "(LFoundRegister$Things;)Z"⟩, 5) := ⟨⟨by decide +kernel, by decide +kernel⟩, List.mem_of_getElem? (i := 79) (by decide +kernel), List.mem_of_getElem? (i := 496) (by decide +kernel), List.mem_of_getElem? (i := 497) (by decide +kernel)⟩
theorem lw_p10 : lw_okq (⟨"FoundRegister$Links", "holds", "(ILFoundRegister$Things;)Z"⟩, 5) := ⟨⟨by decide +kernel, by decide +kernel⟩, List.mem_of_getElem? (i := 79) (by decide +kernel), List.mem_of_getElem? (i := 500) (by decide +kernel), List.mem_of_getElem? (i := 501) (by decide +kernel)⟩
theorem lw_p11 : lw_okq (⟨"FoundRegister$Links", "lost", "(IILFoundRegister$Things;)Z"⟩, 5) := ⟨⟨by decide +kernel, by decide +kernel⟩, List.mem_of_getElem? (i := 79) (by decide +kernel), List.mem_of_getElem? (i := 504) (by decide +kernel), List.mem_of_getElem? (i := 505) (by decide +kernel)⟩
theorem lw_p12 : lw_okq (⟨"FoundRegister", "hasAnotherValue", "(II)Z"⟩, 7) := ⟨⟨by decide +kernel, by decide +kernel⟩, List.mem_of_getElem? (i := 16) (by decide +kernel), List.mem_of_getElem? (i := 555) (by decide +kernel), List.mem_of_getElem? (i := 556) (by decide +kernel)⟩
def lw_privs_1 : List (MethodName × Nat) := [(⟨"java/lang/Throwable", "fillInStackTrace", "(I)Ljava/lang/Throwable;"⟩, 6), (⟨"FoundRegister", "requireFind", "(I)V"⟩, 7), (⟨"FoundRegister$Things", "joinToEarlier", "(I)V"⟩, 3), (⟨"FoundRegister$Finds", "knowsSerial", "(I)Z"⟩, 7), (⟨"FoundRegister$Finds", "shareMark", "(III)Z"⟩, 7), (⟨"FoundRegister$Things", "merge", "(II)V"⟩, 3), (⟨"FoundRegister", "requireCounting", "(I)V"⟩, 7), (⟨"FoundRegister$Things", "tells", "(III)Z"⟩, 3), (⟨"FoundRegister$Things", "goesBefore", "(II)Z"⟩, 3), (⟨"FoundRegister$Links", "failMore", "(LFoundRegister$Things;)Z"⟩, 5), (⟨"FoundRegister$Links", "holds", "(ILFoundRegister$Things;)Z"⟩, 5), (⟨"FoundRegister$Links", "lost", "(IILFoundRegister$Things;)Z"⟩, 5), (⟨"FoundRegister", "hasAnotherValue", "(II)Z"⟩, 7)]
theorem lw_r1 : ∀ q ∈ lw_privs_1, lw_okq q := List.forall_mem_cons.mpr ⟨lw_p0, List.forall_mem_cons.mpr ⟨lw_p1, List.forall_mem_cons.mpr ⟨lw_p2, List.forall_mem_cons.mpr ⟨lw_p3, List.forall_mem_cons.mpr ⟨lw_p4, List.forall_mem_cons.mpr ⟨lw_p5, List.forall_mem_cons.mpr ⟨lw_p6, List.forall_mem_cons.mpr ⟨lw_p7, List.forall_mem_cons.mpr ⟨lw_p8, List.forall_mem_cons.mpr ⟨lw_p9, List.forall_mem_cons.mpr ⟨lw_p10, List.forall_mem_cons.mpr ⟨lw_p11, List.forall_mem_cons.mpr ⟨lw_p12, fun _ h => absurd h List.not_mem_nil⟩⟩⟩⟩⟩⟩⟩⟩⟩⟩⟩⟩⟩
def lw_privs : List (MethodName × Nat) := lw_privs_1
def lw_tbl : List Cond := k2_sels lw_privs ++ tables_1
theorem lw_privs_ok : ∀ q ∈ lw_privs, lw_okq q := lw_r1
-- ===== end of PART A; then your names; then what follows =====
/-! ===== BEGIN words of one list among another's, by their places ===== -/
theorem goodIn_r {big : List Cond} (ws : List Cond) (ps : List Nat) (hp : ws = ps.filterMap (fun i => big[i]?)) (h : ws.all goodWord = true) : GoodIn big ws := by
  intro w hw
  have h1 := List.all_eq_true.mp h w hw
  rw [hp] at hw
  obtain ⟨i, -, hi⟩ := List.mem_filterMap.mp hw
  have hm : w ∈ big := by first | exact List.mem_of_getElem? hi | exact List.getElem?_mem hi
  exact ⟨hm, good_of_word h1⟩
theorem goodIn_app {big a b : List Cond} (ha : GoodIn big a) (hb : GoodIn big b) : GoodIn big (a ++ b) := fun w h => (List.mem_append.mp h).elim (ha w) (hb w)
theorem goodIn_ca {big a b : List Cond} {c : Cond} (ha : GoodIn big (c :: a)) (hb : GoodIn big b) : GoodIn big (c :: (a ++ b)) := fun w h => (List.mem_cons.mp h).elim (fun e => ha w (List.mem_cons.mpr (Or.inl e))) (fun h => (List.mem_append.mp h).elim (fun h => ha w (List.mem_cons.mpr (Or.inr h))) (hb w))
theorem goodIn_sub {big ws : List Cond} (hm : ∀ w ∈ ws, w ∈ big) (h : ws.all goodWord = true) : GoodIn big ws := fun w hw => ⟨hm w hw, good_of_word (List.all_eq_true.mp h w hw)⟩
/-! ===== END ===== -/

/-- an array class over arrays of t is there (the printed text below speaks of it) -/
def va_AOA (t : FieldType) (U : State) : Prop := (Cond.arrayOver (.array t)).before #[] U = true
theorem va_AOA.use {t : FieldType} {A : Array Value} {U : State} (h : va_AOA t U) : (Cond.arrayOver (.array t)).before A U = true := h
/-! ===== BEGIN new T[n][m]: the outer array a place, the inner ones among the pooled ===== -/
/-- f, but v at every address of l -/
def vr_up {α : Type} (f : Nat → α) (l : List Nat) (v : α) : Nat → α := fun a => if a ∈ l then v else f a
theorem vr_up_in {α : Type} {f : Nat → α} {l : List Nat} {v : α} {a : Nat} (h : a ∈ l) : vr_up f l v a = v := if_pos h
theorem vr_up_ne {α : Type} {f : Nat → α} {l : List Nat} {v : α} {a : Nat} (h : a ∉ l) : vr_up f l v a = f a := if_neg h
theorem vr_rows {L l : List Nat} {f : Nat → va_E} {e : va_E} (h : ∀ a, a ∈ l → a ∉ L) : va_pl L f ++ l.map (fun a => (a, e)) = va_pl (L ++ l) (vr_up f l e) := by
  unfold va_pl
  rw [List.map_append]
  congr 1
  · apply List.map_congr_left
    intro a ha
    rw [vr_up_ne (fun q => h a q ha)]
  · apply List.map_congr_left
    intro a ha
    rw [vr_up_in ha]
theorem vr_lay {X rows : va_W} {x : Nat × va_E} {pl : va_W} {D : va_G} {cl : List vw_C} {H : Heap} (hP : va_P D cl (((X ++ pl) ++ [x]) ++ rows) H) : va_P D cl ((X ++ [x]) ++ (pl ++ rows)) H := by
  rw [List.append_assoc (X ++ pl)] at hP
  have h := va_P.swap hP
  rw [← List.append_assoc X] at h
  have h2 := va_P.swap h
  rw [List.append_assoc (X ++ [x])] at h2
  exact h2
theorem vr_layD {X rows : va_W} {x : Nat × va_E} {pl : va_W} {A : Nat → Prop} (hD : va_D A (((X ++ pl) ++ [x]) ++ rows)) : va_D A ((X ++ [x]) ++ (pl ++ rows)) := by
  rw [List.append_assoc (X ++ pl)] at hD
  have h := va_D.swap hD
  rw [← List.append_assoc X] at h
  have h2 := va_D.swap h
  rw [List.append_assoc (X ++ [x])] at h2
  exact h2
theorem vr_outer (c : ClassId) (N h0 : Nat) : ∀ i : Nat, Jvm.Free.Multi.outerC c N h0 i = arrV c N (fun j => va_rf (if j < i then some (h0 + 1 + j) else none))
  | 0 => by
    show ({ cls := c, slots := Array.replicate N .null, vm := .none } : Cell) = _
    rw [arrV_new]
    refine congrArg (arrV c N) (funext fun j => ?_)
    simp [va_rf]
  | i + 1 => by
    show (Jvm.Free.Multi.outerC c N h0 i).setSlot i (.ref (h0 + 1 + i)) = _
    rw [vr_outer c N h0 i, arrV_store]
    refine congrArg (arrV c N) (funext fun j => ?_)
    by_cases e : j = i
    · subst e
      simp [updV, va_rf]
    · by_cases h : j < i
      · simp [updV, e, h, Nat.lt_succ_of_lt h]
      · simp [updV, e, h, show ¬ j < i + 1 by omega]
section VGM
variable {p : Program} {l : Launch} {e : Env} {R : Room} {s : State} {m : MethodId} {args : Array Value} {below : List Frame} {meth : Method} {c : Code} {H : Heap} {locs : List Loc} {cells slots : Nat} {Q : State → Prop}
variable {cc : ByteArray} {pc : Nat} {ls : Array Slot} {rest : List Value} {D : va_G} {cl : List vw_C} {A : Nat → Prop} {a : Nat} {tys : List (ClassId × FieldType)} {ws : va_W} {H0 : Heap}
theorem va_mna {X : va_W} {L : List Nat} {f : Nat → va_E} {cc : ByteArray} (hexec : p.tables.exec = Jvm.exec) (hb : c.code = cc) {own : String} {index : Nat} {ty : FieldType} {cy : ClassId} (hown : s.vm.findClass own = some m.cls) (hclink : (Cond.classLink own index ("[" ++ (FieldType.array ty).toString)).before args s = true) (hover : va_AOA ty s) (harr : (Cond.arrayClass ty).before args s = true) (hcy : s.vm.findClass (FieldType.array ty).toString = some cy)
    (hK : va_K D cl tys s) (hP : va_P D cl (X ++ va_pl L f) H) (hD : va_D A (X ++ va_pl L f)) (hS : va_S A H0 H locs) (hA : ∀ q, H0.size ≤ q → A q) {n k : Int32} {N' K' : Nat} {z : vp_A} (hn : ¬ n < 0) (hk : ¬ k < 0) (hN : n.toNatClampNeg = N') (hM : k.toNatClampNeg = K')
    (hb1 : N' * 4 ≤ 536870912) (hb2 : K' * componentBytes ty ≤ 536870912) (hb3 : K' ≤ 536870912) (hdf : fits ty (defaultValue ty) = true) (hdd : (defaultValue ty).isDefault = true) (hcells : cells + (1 + N') ≤ R.cells) (hslots : slots + (N' + N' * K') ≤ R.slots) (hz : ∀ c : ClassId, Jvm.Free.Multi.innerC c K' (defaultValue ty) = vp_cell c z) (hdg : decode cc pc = .ok (.multianewarray index 2, 4))
    (kk : ∀ (q : Nat) (r : Nat → Nat) (cA : ClassId) (H1 : Heap), (∀ i j : Nat, i < N' → j < N' → r i = r j → i = j) → (∀ i : Nat, i < N' → r i ∉ L) → va_K D cl (tys ++ [(cA, .array ty)]) s →
      va_P D cl ((X ++ [(q, .inl (cA, N', .inr (.inr (.inr (.inr (fun i => if i < N' then some (r i) else none))))))]) ++ va_pl (L ++ (List.range N').map r) (vr_up f ((List.range N').map r) (.inl (cy, z)))) H1 → va_D A ((X ++ [(q, .inl (cA, N', .inr (.inr (.inr (.inr (fun i => if i < N' then some (r i) else none))))))]) ++ va_pl (L ++ (List.range N').map r) (vr_up f ((List.range N').map r) (.inl (cy, z)))) → va_S A H0 H1 locs →
      W p l e R s m args below meth c H1 locs (cells + 1 + N') (slots + N' + N' * K') Q (F0 m (pc + 4) ls (.ref q :: rest))) : W p l e R s m args below meth c H locs cells slots Q (F0 m pc ls (.int k :: .int n :: rest)) := by
  subst hN
  subst hM
  intro T hT Xs
  obtain ⟨vm₁, cA, comp, -, fA, fC, hO, -, X', step⟩ := Xs.multianewarray2F hexec hown hclink (va_AOA.use hover) harr (g := F0 m pc ls (.int k :: .int n :: rest)) rfl (by rw [hb]; exact hdg) rfl hn hk hb1 hb2 hb3 hdf hdd hcells hslots
  have ec : some cy = some comp := hcy.symm.trans fC
  cases ec
  generalize hF : Jvm.Free.Multi.fill (T.setVm vm₁) cA cy n.toNatClampNeg k.toNatClampNeg (defaultValue ty) n.toNatClampNeg = F at X' step
  have hTh : (T.setVm vm₁).heap = H := hT
  obtain ⟨f1, f2, -, -⟩ := Jvm.Free.Multi.fill_facts (T.setVm vm₁) cA cy n.toNatClampNeg k.toNatClampNeg (defaultValue ty) n.toNatClampNeg
  rw [hF, hTh] at f1 f2
  have hold : ∀ x : Nat, x < H.size → F.heap[x]? = H[x]? := fun x hx => by
    have := Jvm.Free.Multi.fill_old (T.setVm vm₁) cA cy n.toNatClampNeg k.toNatClampNeg (defaultValue ty) (a := x) (by rw [hTh]; exact hx) n.toNatClampNeg
    rw [hF, hTh] at this
    exact this
  have hrow : ∀ j : Nat, j < n.toNatClampNeg → F.heap[H.size + 1 + j]? = some (vp_cell cy z) := fun j hj => by
    have := Jvm.Free.Multi.fill_inner (T.setVm vm₁) cA cy n.toNatClampNeg k.toNatClampNeg (defaultValue ty) n.toNatClampNeg j hj
    rw [hF, hTh, hz] at this
    exact this
  have hout : Jvm.Free.Multi.outerC cA n.toNatClampNeg H.size n.toNatClampNeg = vp_cell cA (n.toNatClampNeg, .inr (.inr (.inr (.inr (fun i => if i < n.toNatClampNeg then some (H.size + 1 + i) else none))))) := by
    rw [vp_cell_q]
    exact vr_outer cA n.toNatClampNeg H.size n.toNatClampNeg
  rw [hout] at f2
  have hlt : ∀ a, a ∈ L → a < H.size := fun a ha => by
    obtain ⟨k9, hk9⟩ := va_pl_get (X := X) (f := f) ha
    exact (hP k9 _ hk9).lt
  have hnl : ∀ i : Nat, i < n.toNatClampNeg → H.size + 1 + i ∉ L := fun i _ h => by
    have := hlt _ h
    omega
  have hnm : ∀ a, a ∈ (List.range n.toNatClampNeg).map (fun i => H.size + 1 + i) → a ∉ L := fun a ha h => by
    obtain ⟨i, -, rfl⟩ := List.mem_map.mp ha
    have := hlt _ h
    omega
  have hP0 : va_P D cl (X ++ va_pl L f) F.heap := hP.kept (fun k9 x hx => hold x.1 ((hP k9 x hx).lt))
  have hP1 : va_P D cl ((X ++ va_pl L f) ++ [(H.size, .inl (cA, n.toNatClampNeg, .inr (.inr (.inr (.inr (fun i => if i < n.toNatClampNeg then some (H.size + 1 + i) else none))))))]) F.heap := hP0.app (fun k9 x hx => by
    have h0 : k9 < 1 := (List.getElem?_eq_some_iff.mp hx).1
    rw [show k9 = 0 by omega] at hx
    cases hx
    exact f2)
  have hP2 : va_P D cl (((X ++ va_pl L f) ++ [(H.size, .inl (cA, n.toNatClampNeg, .inr (.inr (.inr (.inr (fun i => if i < n.toNatClampNeg then some (H.size + 1 + i) else none))))))]) ++ ((List.range n.toNatClampNeg).map (fun i => H.size + 1 + i)).map (fun a => (a, .inl (cy, z)))) F.heap := hP1.app (fun k9 x hx => by
    obtain ⟨a, ha, rfl⟩ := List.mem_map.mp (List.mem_of_getElem? hx)
    obtain ⟨i, hi, rfl⟩ := List.mem_map.mp ha
    exact hrow i (List.mem_range.mp hi))
  have hD2 : va_D A (((X ++ va_pl L f) ++ [(H.size, .inl (cA, n.toNatClampNeg, .inr (.inr (.inr (.inr (fun i => if i < n.toNatClampNeg then some (H.size + 1 + i) else none))))))]) ++ ((List.range n.toNatClampNeg).map (fun i => H.size + 1 + i)).map (fun a => (a, .inl (cy, z)))) := by
    have hD1 := hD.push (e := .inl (cA, n.toNatClampNeg, .inr (.inr (.inr (.inr (fun i => if i < n.toNatClampNeg then some (H.size + 1 + i) else none)))))) hP rfl (hA _ hS.1)
    generalize hW1 : (X ++ va_pl L f) ++ [(H.size, .inl (cA, n.toNatClampNeg, .inr (.inr (.inr (.inr (fun i => if i < n.toNatClampNeg then some (H.size + 1 + i) else none))))))] = W1 at hD1 hP1 ⊢
    have hle : ∀ (k9 : Nat) (x : Nat × va_E), W1[k9]? = some x → x.1 ≤ H.size := fun k9 x hx => by
      rw [← hW1] at hx
      by_cases hl : k9 < (X ++ va_pl L f).length
      · rw [List.getElem?_append_left hl] at hx
        exact Nat.le_of_lt ((hP k9 x hx).lt)
      · rw [List.getElem?_append_right (by omega)] at hx
        have h0 : k9 - (X ++ va_pl L f).length < 1 := (List.getElem?_eq_some_iff.mp hx).1
        rw [show k9 - (X ++ va_pl L f).length = 0 by omega] at hx
        cases hx
        exact Nat.le_refl _
    have hr : ∀ (k9 : Nat) (x : Nat × va_E), (((List.range n.toNatClampNeg).map (fun i => H.size + 1 + i)).map (fun a => ((a, .inl (cy, z)) : Nat × va_E)))[k9]? = some x → x.1 = H.size + 1 + k9 := fun k9 x hx => by
      rw [List.getElem?_map, List.getElem?_map] at hx
      by_cases h9 : k9 < n.toNatClampNeg
      · rw [List.getElem?_range h9] at hx
        cases hx
        rfl
      · have hn0 : (List.range n.toNatClampNeg)[k9]? = none := List.getElem?_eq_none (by rw [List.length_range]; omega)
        rw [hn0] at hx
        cases hx
    refine ⟨fun i j x y hi hj hxy => ?_, fun k9 x hx => ?_⟩
    · by_cases h1 : i < W1.length <;> by_cases h2 : j < W1.length
      · rw [List.getElem?_append_left h1] at hi
        rw [List.getElem?_append_left h2] at hj
        exact hD1.1 i j x y hi hj hxy
      · rw [List.getElem?_append_left h1] at hi
        rw [List.getElem?_append_right (by omega)] at hj
        have := hle _ _ hi
        have := hr _ _ hj
        omega
      · rw [List.getElem?_append_right (by omega)] at hi
        rw [List.getElem?_append_left h2] at hj
        have := hle _ _ hj
        have := hr _ _ hi
        omega
      · rw [List.getElem?_append_right (by omega)] at hi hj
        have := hr _ _ hi
        have := hr _ _ hj
        omega
    · by_cases h1 : k9 < W1.length
      · rw [List.getElem?_append_left h1] at hx
        exact hD1.2 k9 x hx
      · rw [List.getElem?_append_right (by omega)] at hx
        have := hr _ _ hx
        exact hA _ (by have := hS.1; omega)
  have hAr : ArrOfT s cA (.array ty) := fun N9 z9 => by
    obtain ⟨-, k9, hk9, cm9, hkk9⟩ := (hO 0 0 0).1
    exact ⟨(fun q hq => by cases hq), k9, hk9, cm9, hkk9⟩
  have hK2 : va_K D cl (tys ++ [(cA, .array ty)]) s := ⟨hK.1, fun k9 x hx => by
    by_cases hl : k9 < tys.length
    · rw [List.getElem?_append_left hl] at hx
      exact hK.2 k9 x hx
    · rw [List.getElem?_append_right (by omega)] at hx
      have h0 : k9 - tys.length < 1 := (List.getElem?_eq_some_iff.mp hx).1
      rw [show k9 - tys.length = 0 by omega] at hx
      cases hx
      exact ⟨hAr, fA⟩⟩
  obtain ⟨t, a1, b1⟩ := kk H.size (fun i => H.size + 1 + i) cA F.heap (fun i j _ _ h => by have h9 : H.size + 1 + i = H.size + 1 + j := h; omega) hnl hK2 (by rw [← vr_rows hnm]; exact vr_lay hP2) (by rw [← vr_rows hnm]; exact vr_layD hD2) ⟨by rw [f1]; have := hS.1; omega, fun x h1 h2 => (hold x (Nat.lt_of_lt_of_le h1 hS.1)).trans (hS.2.1 x h1 h2), hS.2.2⟩ F rfl X'
  refine ⟨t, step t ?_, b1⟩
  have e : T.heap.size = H.size := by rw [hT]
  rw [e]
  exact a1
end VGM
/-! ===== END ===== -/

/-! ===== BEGIN exceptions that leave a method, and their catching by the caller (launches without stack traces) ===== -/
section VXA
/-! The laws vx_back, vx_callV, vx_callS, vx_callSW, vx_throw0, vx_throwS follow proofs of the library, with one case more: JvmDerived/Free/Laws.lean (Back.of_free), Shelf42/LK1.lean (callV, callS), Shelf/KitTraced.lean (throwNew0V, throwNewS). -/
/-- where a method has thrown q: the class by its name, the cell, what was written, the world -/
def vx_T (XC : String → State → State → Prop) (st : State) (q : Addr) (t : State) (mc ms : Nat) (free : Addr → Prop) : Prop :=
  ∃ (E : String) (ce : Cell) (L : List Loc), XC E st t ∧ t.heap[q]? = some ce ∧ ce.vm = .none ∧ st.vm.findClass E = some ce.cls ∧ st.WarmedH t.vm ∧ st.sameButNew ({ t with vm := st.vm } : State) L mc ms ∧ ∀ z ∈ L, free z.base
def vx_Q (Qc : Array Value → State → Outcome → State → Prop) (XC : String → State → State → Prop) (mc ms : Nat) (free : Addr → Prop) : Array Value → State → Outcome → State → Prop := fun a st o t =>
  (Qc a st o t ∧ ∃ L, FrameEnd st o t L mc ms ∧ ∀ q ∈ L, free q.base) ∨ ∃ q, o = .threw q ∧ vx_T XC st q t mc ms free
/-- a callee that returns or throws -/
def vx_Met (l : Launch) (y : MethodName) (ws : List Cond) (rm : Room) (Pc : Array Value → State → Prop) (Qc : Array Value → State → Outcome → State → Prop) (XC : String → State → State → Prop) (mc ms : Nat) (free : Addr → Prop) : Prop :=
  MetFree l y (headSpec ws rm) Pc (fun _ _ _ _ _ => True) (vx_Q Qc XC mc ms free)
def vx_Post (XC : String → State → State → Prop) (mc ms : Nat) (free : Addr → Prop) : Pt → Array Value → Addr → Pt → Prop := fun A a q B =>
  ∃ (g : JFrame) (mk : MethodId) (t : State) (L : List Loc) (E : String) (ce : Cell), B.U.heap = t.heap ∧ B.U.vm = t.vm ∧ XC E (A.U.calling g mk a) t ∧ t.heap[q]? = some ce ∧ ce.vm = .none ∧ A.U.vm.findClass E = some ce.cls ∧ B.locs = A.locs ++ L ∧ (∀ z ∈ L, free z.base) ∧ B.cells = A.cells + mc ∧ B.slots = A.slots + ms
def vx_Back (l : Launch) (R : Room) (p : Program) (e : Env) (below : List Frame) (s : State) (sargs : Array Value) (y : MethodName) (len W9 : Nat)
    (Pre : Pt → Array Value → Prop) (Post : Pt → Array Value → Option Value → Pt → Prop) (PostX : Pt → Array Value → Addr → Pt → Prop) : Prop :=
  ∀ (m : MethodId) (meth : Method) (c : Code) (A : Pt) (g : JFrame) (ig : Instr) (mk : MethodId) (a : Array Value),
    Stand p l e R s m sargs below meth c A.U A.locs A.cells A.slots → g.method = m → g.locals.size = c.maxLocals → decode c.code g.pc = .ok (ig, len) →
    2 * g.monitorRoom + (g.stack.map fun v => v.category).sum ≤ W9 → A.U.methodNamed? y = some mk → Pre A a →
    (∃ (v : Option Value) (B : Pt), Stand p l e R s m sargs below meth c B.U B.locs B.cells B.slots ∧ Post A a v B ∧
      Steps p.tables e below (doInvoke e (A.U.setTop g) [] mk a).1 (B.U.setTop { g with pc := g.pc + len, stack := v.toList ++ g.stack })) ∨
    (∃ (q : Addr) (B : Pt), Stand p l e R s m sargs below meth c B.U B.locs B.cells B.slots ∧ PostX A a q B ∧
      Steps p.tables e below (doInvoke e (A.U.setTop g) [] mk a).1 ((B.U.setTop g).pushFrame (.throwing q)))
section Payer
variable {l : Launch} {R : Room} {p : Program} {e : Env} {below : List Frame} {s : State} {sargs : Array Value} {y : MethodName} {len W9 : Nat}
theorem vx_back {ws : List Cond} {rm : Room} {Pc : Array Value → State → Prop} {Qc : Array Value → State → Outcome → State → Prop} {XC : String → State → State → Prop} {mc ms : Nat} {free : Addr → Prop} {bytes : ByteArray} {maxL : Nat} {ret : Option FieldType}
    (hM : vx_Met l y ws rm Pc Qc XC mc ms free) (hblind : FrameBlind Pc) (hrc : rm.cells = mc) (hrs : rm.slots = ms)
    (hframes : rm.frames + 1 ≤ R.frames) (hlocals : W9 + (maxL + 11) + rm.locals ≤ R.locals)
    (hws : ∀ w ∈ ws, ∀ a' U, s.WarmedH U.vm → w.before a' U = true) (hcode : Cond.code y bytes maxL ret ∈ ws) (hinit : ∀ a' U, s.WarmedH U.vm → (Cond.initialized y.cls).before a' U = true) :
    vx_Back l R p e below s sargs y len W9 (PreOf R mc ms Pc) (PostOf Qc mc ms free) (vx_Post XC mc ms free) := by
  intro m meth c A g ig mk a X hg hsize hdg hW hn hp
  have h1 : (headSpec ws rm).pre.before a A.U = true := atoms_intro fun w hw => hws w hw _ _ X.warmed
  have h2 : (Cond.code y bytes maxL ret).before a A.U = true := hws _ hcode _ _ X.warmed
  have h3 : (Cond.initialized y.cls).before a A.U = true := hinit _ _ X.warmed
  have h4 : A.cells + (headSpec ws rm).room.cells ≤ R.cells := by rw [show (headSpec ws rm).room.cells = mc from hrc]; exact hp.1
  have h5 : A.slots + (headSpec ws rm).room.slots ≤ R.slots := by rw [show (headSpec ws rm).room.slots = ms from hrs]; exact hp.2.1
  have hPc : Pc a (A.U.calling g mk a) := hblind _ _ _ _ hp.2.2
  obtain ⟨U, Ls, c0, s0⟩ := A
  dsimp only [Pt.U, Pt.locs, Pt.cells, Pt.slots] at h1 h2 h3 h4 h5 X hn hPc ⊢
  obtain ⟨methY, cY, hmY, hcY, -, hlY, -, -, -, -⟩ := Cond.code_spec hn h2
  obtain ⟨kY, hkY, -⟩ := className_of_methodNamed hn
  have hinitY : kY.init = .initialized := Cond.initialized_spec (findClass_of_methodNamed hn) hkY h3
  have h : At U g.method c below := by rw [hg]; exact X.here
  have hlocals9 : W9 + (maxL + 11) + (headSpec ws rm).room.locals ≤ R.locals := hlocals
  have happ : (headSpec ws rm).appliesLoose y e.platform (U.calling g mk a) = true :=
    Spec.appliesLoose_calling (g := g) h hdg hn hkY hinitY
      (X.room_calling (g := g) (R' := (headSpec ws rm).room) hsize hmY hcY hframes (by rw [hlY]; omega) h4 h5) h1
  obtain ⟨mid, hmid⟩ := h.above
  have hfr : (U.setTop g).frames = (.java g :: mid) ++ below := by rw [State.frames_setTop' g h.top, hmid]; rfl
  obtain ⟨o, s₂, hsteps, -, hend, hq⟩ := Steps.callFree hM p X.admits X.cas X.clock (acts := []) hfr happ hPc trivial
  have hq' : vx_Q Qc XC mc ms free a (U.calling g mk a) o s₂ := hq
  rw [State.frames_setTop' g h.top] at hend
  obtain ⟨g₀, hg0⟩ := Option.isSome_iff_exists.mp h.top
  obtain ⟨r, hr⟩ := State.topJava?_eq_some.mp hg0
  have hr' : (({ U with heap := s₂.heap, slotsUsed := s₂.slotsUsed } : State).setVm s₂.vm).frames = .java g₀ :: r := hr
  rcases hq' with ⟨hqc, L, hfe, hL⟩ | ⟨q, rfl, E, ce, L, hx, hce, hcv, hcl, hW₂, hsm, hL⟩
  · obtain ⟨⟨v, rfl⟩, hW₂, e2, q2, q3, q4, q5, q6⟩ := id hfe
    have e3 : s₂ = ({ (U.calling g mk a).setFrames s₂.frames with heap := s₂.heap, slotsUsed := s₂.slotsUsed } : State).setVm s₂.vm := by
      have : s₂ = ({ s₂ with vm := (U.calling g mk a).vm } : State).setVm s₂.vm := rfl
      rw [e2] at this
      exact this
    obtain ⟨c₂, i₂, len₂, hc₂, hd₂, hf₂⟩ := hend
    have hW' : U.WarmedH s₂.vm := hW₂
    have hcc : c₂ = c := by
      have h1 : s₂.code? g.method = U.code? g.method := by
        rw [State.code?_eq, State.code?_eq, hW'.alike.method?]
      exact Option.some.inj (hc₂.symm.trans (h1.trans h.code))
    subst hcc
    have hlen : len₂ = len := by rw [hdg] at hd₂; cases hd₂; rfl
    subst hlen
    have hs₂ : s₂ = (({ U with heap := s₂.heap, slotsUsed := s₂.slotsUsed } : State).setVm s₂.vm).setTop { g with pc := g.pc + len₂, stack := v.toList ++ g.stack } := by
      refine e3.trans ?_
      rw [hf₂, State.calling_eq h.top, State.setFrames_setFrames, State.setTop_of_frames _ hr', hr]
      rfl
    have hsame : U.sameButNew ({ U with heap := s₂.heap, slotsUsed := s₂.slotsUsed } : State) L mc ms := by
      refine ⟨?_, q2, q3, q4, q5, q6⟩
      obtain ⟨t, ht, -⟩ := State.frames_cons hr
      show ({ U with heap := s₂.heap, slotsUsed := s₂.slotsUsed } : State) = { U.setFrames U.frames with heap := s₂.heap, slotsUsed := s₂.slotsUsed }
      rw [State.setFrames_self ht]
    subst hg
    refine Or.inl ⟨v, ⟨(({ U with heap := s₂.heap, slotsUsed := s₂.slotsUsed } : State).setVm s₂.vm), Ls ++ L, c0 + mc, s0 + ms⟩,
      ⟨X.admits, X.cas, X.clock, X.frames, X.room, X.hears, X.method, X.code, (X.here.setHeapUsed s₂.heap s₂.slotsUsed).setVm hW'.alike, X.tail, State.WarmedH.trans X.warmed hW', X.limits, X.bytes, X.same.trans (hsame.setVm s.vm)⟩,
      ⟨g, mk, s₂, L, rfl, rfl, hqc, rfl, hL, rfl, rfl⟩, ?_⟩
    show Steps p.tables e below _ ((({ U with heap := s₂.heap, slotsUsed := s₂.slotsUsed } : State).setVm s₂.vm).setTop { g with pc := g.pc + len₂, stack := v.toList ++ g.stack })
    rw [← hs₂]
    exact hsteps
  · obtain ⟨e2, q2, q3, q4, q5, q6⟩ := id hsm
    have e3 : s₂ = ({ (U.calling g mk a).setFrames s₂.frames with heap := s₂.heap, slotsUsed := s₂.slotsUsed } : State).setVm s₂.vm := by
      have : s₂ = ({ s₂ with vm := (U.calling g mk a).vm } : State).setVm s₂.vm := rfl
      rw [e2] at this
      exact this
    have hf₂ : s₂.frames = .throwing q :: .java g :: U.frames.tail := hend
    have hW' : U.WarmedH s₂.vm := hW₂
    have hs₂ : s₂ = ((({ U with heap := s₂.heap, slotsUsed := s₂.slotsUsed } : State).setVm s₂.vm).setTop g).pushFrame (.throwing q) := by
      refine e3.trans ?_
      rw [hf₂, State.calling_eq h.top, State.setFrames_setFrames, State.pushFrame, State.frames_setTop _ hr', State.setTop_of_frames _ hr', State.setFrames_setFrames, hr]
      rfl
    have hsame : U.sameButNew ({ U with heap := s₂.heap, slotsUsed := s₂.slotsUsed } : State) L mc ms := by
      refine ⟨?_, q2, q3, q4, q5, q6⟩
      obtain ⟨t, ht, -⟩ := State.frames_cons hr
      show ({ U with heap := s₂.heap, slotsUsed := s₂.slotsUsed } : State) = { U.setFrames U.frames with heap := s₂.heap, slotsUsed := s₂.slotsUsed }
      rw [State.setFrames_self ht]
    subst hg
    refine Or.inr ⟨q, ⟨(({ U with heap := s₂.heap, slotsUsed := s₂.slotsUsed } : State).setVm s₂.vm), Ls ++ L, c0 + mc, s0 + ms⟩,
      ⟨X.admits, X.cas, X.clock, X.frames, X.room, X.hears, X.method, X.code, (X.here.setHeapUsed s₂.heap s₂.slotsUsed).setVm hW'.alike, X.tail, State.WarmedH.trans X.warmed hW', X.limits, X.bytes, X.same.trans (hsame.setVm s.vm)⟩,
      ⟨g, mk, s₂, L, E, ce, rfl, rfl, hx, hce, hcv, hcl, rfl, hL, rfl, rfl⟩, ?_⟩
    show Steps p.tables e below _ (((({ U with heap := s₂.heap, slotsUsed := s₂.slotsUsed } : State).setVm s₂.vm).setTop g).pushFrame (.throwing q))
    rw [← hs₂]
    exact hsteps
end Payer
section Calls
variable {p : Program} {l : Launch} {e : Env} {R : Room} {s : State} {m : MethodId} {args : Array Value} {below : List Frame} {meth : Method} {c : Code} {T : State} {locs : List Loc} {cells slots : Nat}
theorem vx_callV (X : Stand p l e R s m args below meth c T locs cells slots) (hexec : p.tables.exec = Jvm.exec) {own C : String} {index : Nat} {y : MethodName} {bytes : ByteArray} {maxL : Nat} {ret : Option FieldType}
    (hown : s.vm.findClass own = some m.cls) (hlink : (Cond.methodLink own index y).before args s = true) (hinst : (Cond.instanceMethod y).before args s = true) (hsel : (Cond.selects C y y).before args s = true)
    (hcode : (Cond.code y bytes maxL ret).before args s = true) (hy : y.cls ≠ "java/lang/invoke/MethodHandle" ∧ y.cls ≠ "java/lang/invoke/VarHandle")
    {W9 : Nat} {Pre : Pt → Array Value → Prop} {Post : Pt → Array Value → Option Value → Pt → Prop} {PostX : Pt → Array Value → Addr → Pt → Prop} (hK : vx_Back l R p e below s args y 3 W9 Pre Post PostX)
    {b : Addr} {cellB : Cell} (hcell : T.heap[b]? = some cellB) (hobj : cellB.vm.isStatics = false) (hcls : s.vm.findClass C = some cellB.cls)
    {g : JFrame} (hg : g.method = m) (hsize : g.locals.size = c.maxLocals) {argsL rest : List Value} (hlen : ∀ sig, parseMethodDescriptor y.desc = some sig → argsL.length = sig.parameters.length)
    (hstack : g.stack = argsL.reverse ++ .ref b :: rest) (hW : 2 * g.monitorRoom + (rest.map fun v => v.category).sum ≤ W9) (hdg : decode c.code g.pc = .ok (.invokevirtual index, 3))
    (hpre : ∀ vm₁, s.WarmedH vm₁ → Pre ⟨T.setVm vm₁, locs, cells, slots⟩ (Value.ref b :: argsL).toArray) :
    (∃ (v : Option Value) (vm₁ : Vm) (B : Pt), s.WarmedH vm₁ ∧ Stand p l e R s m args below meth c B.U B.locs B.cells B.slots ∧ Post ⟨T.setVm vm₁, locs, cells, slots⟩ (Value.ref b :: argsL).toArray v B ∧
      ∀ target, Steps p.tables e below (B.U.setTop { g with pc := g.pc + 3, stack := v.toList ++ rest }) target → Steps p.tables e below (T.setTop g) target) ∨
    (∃ (q : Addr) (vm₁ : Vm) (B : Pt), s.WarmedH vm₁ ∧ Stand p l e R s m args below meth c B.U B.locs B.cells B.slots ∧ PostX ⟨T.setVm vm₁, locs, cells, slots⟩ (Value.ref b :: argsL).toArray q B ∧
      Steps p.tables e below (T.setTop g) ((B.U.setTop { g with stack := rest }).pushFrame (.throwing q))) := by
  obtain ⟨mk, methM, hnamed, hmethM, hstM, habM⟩ := Cond.instanceMethod_spec hinst
  obtain ⟨methM', cM, hmethM', -, -, -, -, -, -, hsigM⟩ := Cond.code_spec hnamed hcode
  cases hmethM.symm.trans hmethM'
  obtain ⟨c2, r2, m2, q1, q2, q3, q4, kP, hkP, hkPi⟩ := Cond.selects_spec hsel
  cases hcls.symm.trans q1
  cases (State.methodFound?_of_named hnamed hy).symm.trans q2
  cases hnamed.symm.trans q3
  have hselP : selectMethod e.platform s.vm cellB.cls mk = .method mk := by rw [Launch.admits_selectMethod X.admits]; exact q4
  obtain ⟨vm₁, X₁, hstep₁⟩ := X.invokevirtual hexec hown hlink hnamed hmethM hstM hkP hkPi hy (a := b) (cell := cellB) hcell
    (fun z h => by rw [h] at hobj; cases hobj) hselP hmethM habM hkP hkPi (g := g) hg (argsL := argsL) (rest := rest) (hlen _ hsigM) hstack hdg
  rcases hK m meth c ⟨T.setVm vm₁, locs, cells, slots⟩ { g with stack := rest } (.invokevirtual index) mk (Value.ref b :: argsL).toArray X₁ hg hsize hdg hW (X₁.named hnamed) (hpre vm₁ X₁.warmed) with ⟨v, B, X', hpost, hsteps⟩ | ⟨q, B, X', hpost, hsteps⟩
  · exact Or.inl ⟨v, vm₁, B, X₁.warmed, X', hpost, fun target h => hstep₁ _ fun acts => by rw [doInvoke_state]; exact hsteps.trans h⟩
  · exact Or.inr ⟨q, vm₁, B, X₁.warmed, X', hpost, hstep₁ _ fun acts => by rw [doInvoke_state]; exact hsteps⟩
theorem vx_callS (X : Stand p l e R s m args below meth c T locs cells slots) (hexec : p.tables.exec = Jvm.exec) {own : String} {index : Nat} {y : MethodName} {bytes : ByteArray} {maxL : Nat} {ret : Option FieldType}
    (hown : s.vm.findClass own = some m.cls) (hlink : (Cond.methodLink own index y).before args s = true) (hstat : (Cond.static y).before args s = true) (hinit : (Cond.initialized y.cls).before args s = true)
    (hcode : (Cond.code y bytes maxL ret).before args s = true) (hy : y.cls ≠ "java/lang/invoke/MethodHandle" ∧ y.cls ≠ "java/lang/invoke/VarHandle")
    {W9 : Nat} {Pre : Pt → Array Value → Prop} {Post : Pt → Array Value → Option Value → Pt → Prop} {PostX : Pt → Array Value → Addr → Pt → Prop} (hK : vx_Back l R p e below s args y 3 W9 Pre Post PostX)
    {g : JFrame} (hg : g.method = m) (hsize : g.locals.size = c.maxLocals) {argsL rest : List Value} (hlen : ∀ sig, parseMethodDescriptor y.desc = some sig → argsL.length = sig.parameters.length)
    (hstack : g.stack = argsL.reverse ++ rest) (hW : 2 * g.monitorRoom + (rest.map fun v => v.category).sum ≤ W9) (hdg : decode c.code g.pc = .ok (.invokestatic index, 3))
    (hpre : ∀ vm₁, s.WarmedH vm₁ → Pre ⟨T.setVm vm₁, locs, cells, slots⟩ argsL.toArray) :
    (∃ (v : Option Value) (vm₁ : Vm) (B : Pt), s.WarmedH vm₁ ∧ Stand p l e R s m args below meth c B.U B.locs B.cells B.slots ∧ Post ⟨T.setVm vm₁, locs, cells, slots⟩ argsL.toArray v B ∧
      ∀ target, Steps p.tables e below (B.U.setTop { g with pc := g.pc + 3, stack := v.toList ++ rest }) target → Steps p.tables e below (T.setTop g) target) ∨
    (∃ (q : Addr) (vm₁ : Vm) (B : Pt), s.WarmedH vm₁ ∧ Stand p l e R s m args below meth c B.U B.locs B.cells B.slots ∧ PostX ⟨T.setVm vm₁, locs, cells, slots⟩ argsL.toArray q B ∧
      Steps p.tables e below (T.setTop g) ((B.U.setTop { g with stack := rest }).pushFrame (.throwing q))) := by
  obtain ⟨mk, hnamed⟩ := Cond.code_named hcode
  obtain ⟨methM, cM, hmethM, -, -, -, -, -, -, hsigM⟩ := Cond.code_spec hnamed hcode
  have hstatic : methM.isStatic = true := Cond.static_spec hnamed hmethM hstat
  obtain ⟨kP, hkP, -⟩ := className_of_methodNamed hnamed
  have hinitP : kP.init = .initialized := Cond.initialized_spec (findClass_of_methodNamed hnamed) hkP hinit
  obtain ⟨vm₁, X₁, hstep₁⟩ := X.invokestatic hexec hown hlink hnamed hmethM hstatic hkP hinitP hy (g := g) hg (argsL := argsL) (rest := rest) (hlen _ hsigM) hstack hdg
  rcases hK m meth c ⟨T.setVm vm₁, locs, cells, slots⟩ { g with stack := rest } (.invokestatic index) mk argsL.toArray X₁ hg hsize hdg hW (X₁.named hnamed) (hpre vm₁ X₁.warmed) with ⟨v, B, X', hpost, hsteps⟩ | ⟨q, B, X', hpost, hsteps⟩
  · exact Or.inl ⟨v, vm₁, B, X₁.warmed, X', hpost, fun target h => hstep₁ _ fun acts => by rw [doInvoke_state]; exact hsteps.trans h⟩
  · exact Or.inr ⟨q, vm₁, B, X₁.warmed, X', hpost, hstep₁ _ fun acts => by rw [doInvoke_state]; exact hsteps⟩
end Calls
theorem vx_cls {s : State} {T : State} {vm₁ : Vm} {E : String} {k : ClassId} (hW : s.WarmedH vm₁) (h : (T.setVm vm₁).vm.findClass E = some k) : s.vm.findClass E = some k := by
  have h1 : vm₁.findClass E = some k := h
  rw [hW.alike.findClass] at h1
  exact h1
/-- the method's frame g, with q thrown over it -/
def vx_W (p : Program) (l : Launch) (e : Env) (R : Room) (s : State) (m : MethodId) (args : Array Value) (below : List Frame) (meth : Method) (c : Code) (H : Heap) (locs : List Loc) (cells slots : Nat) (Q : State → Prop) (g : JFrame) (q : Addr) : Prop :=
  ∀ T : State, T.heap = H → Stand p l e R s m args below meth c T locs cells slots → ∃ t, Steps p.tables e below ((T.setTop g).pushFrame (.throwing q)) t ∧ Q t
def vx_Run (p : Program) (l : Launch) (e : Env) (R : Room) (s : State) (m : MethodId) (args : Array Value) (below : List Frame) (meth : Method) (c : Code) (H : Heap) (locs : List Loc) (cells slots mc ms : Nat) (g : JFrame) (rest : List Value) (Qa : State → Outcome → State → Prop) (XC : String → State → State → Prop) (free : Addr → Prop) : Prop :=
  ∀ T : State, T.heap = H → Stand p l e R s m args below meth c T locs cells slots →
    (∃ (v : Option Value) (st₀ t T' : State) (L : List Loc), st₀.heap = H ∧ Stand p l e R s m args below meth c T' (locs ++ L) (cells + mc) (slots + ms) ∧ (∀ q ∈ L, free q.base) ∧ T'.heap = t.heap ∧ T'.vm = t.vm ∧ Qa st₀ (.returned v) t ∧
      Goes p e below T g T' { g with pc := g.pc + 3, stack := v.toList ++ rest }) ∨
    (∃ (q : Addr) (st₀ t T' : State) (L : List Loc) (E : String) (ce : Cell), st₀.heap = H ∧ Stand p l e R s m args below meth c T' (locs ++ L) (cells + mc) (slots + ms) ∧ (∀ z ∈ L, free z.base) ∧ T'.heap = t.heap ∧ T'.vm = t.vm ∧ XC E st₀ t ∧ t.heap[q]? = some ce ∧ ce.vm = .none ∧ s.vm.findClass E = some ce.cls ∧
      Steps p.tables e below (T.setTop g) ((T'.setTop { g with stack := rest }).pushFrame (.throwing q)))
def vx_X {S : Type} (px : S → Prop) (B : String → S → State → Prop) (A : Nat → Prop) : String → State → State → Prop := fun E st t => ∃ u : S, px u ∧ B E u t ∧ va_F A st t
section Runs
variable {p : Program} {l : Launch} {e : Env} {R : Room} {s : State} {m : MethodId} {args : Array Value} {below : List Frame} {meth : Method} {c : Code} {H : Heap} {locs : List Loc} {cells slots : Nat}
variable {y : MethodName} {bytes cc : ByteArray} {maxL nL mc ms n index : Nat} {ret : Option FieldType} {ws : List Cond} {rm : Room} {Pc : Array Value → State → Prop} {Qc : Array Value → State → Outcome → State → Prop} {XC : String → State → State → Prop} {free : Addr → Prop} {Ts : List Cond} {own C : String} {b : Addr} {As rest : List Value} {g : JFrame}
theorem vx_callBack (cb : CallB R s args own index y bytes maxL ret ws rm mc ms n) (hM : vx_Met l y ws rm Pc Qc XC mc ms free) (hbl : FrameBlind Pc) : vx_Back l R p e below s args y 3 8 (PreOf R mc ms Pc) (PostOf Qc mc ms free) (vx_Post XC mc ms free) := by
  obtain ⟨hrc, hrs, hfr, hlo, hws, hcw, -, hini, -⟩ := cb
  exact vx_back (bytes := bytes) (maxL := maxL) (ret := ret) hM hbl hrc hrs hfr hlo hws hcw (fun a' U hW => word_at hW (Or.inl (by first | rfl | simp [Cond.onTables, Cond.keeps, Cond.steady])) hini)
theorem vx_runV (S : CallFix p m c cc nL s args Ts own) (hM : vx_Met l y ws rm Pc Qc XC mc ms free) (cw : CallW R s args own C index y bytes maxL ret ws rm mc ms n) (hp : PreV s H C b Pc As)
    (hg : g.method = m) (hn : As.length = n) (hsize : g.locals.size = nL) (hstack : g.stack = As.reverse ++ .ref b :: rest) (hW : 2 * g.monitorRoom + (rest.map fun v => v.category).sum ≤ 8) (hdg : decode cc g.pc = .ok (.invokevirtual index, 3)) (hf : cells + mc ≤ R.cells ∧ slots + ms ≤ R.slots) :
    vx_Run p l e R s m args below meth c H locs cells slots mc ms g rest (Qc (Value.ref b :: As).toArray) XC free := by
  have hK : vx_Back l R p e below s args y 3 8 (PreOf R mc ms Pc) (PostOf Qc mc ms free) (vx_Post XC mc ms free) := vx_callBack cw.1 hM hp.1
  obtain ⟨⟨-, -, -, -, -, -, hcode, -, hy, hlen, hl⟩, hin, hse⟩ := cw
  obtain ⟨hx, hb, hml, ho, -⟩ := S
  obtain ⟨-, ⟨cellB, hcB, hoB, hclB⟩, hPc⟩ := hp
  intro T hT X
  rcases vx_callV X hx (C := C) (bytes := bytes) (maxL := maxL) (ret := ret) ho hl hin hse hcode hy hK (by rw [hT]; exact hcB) hoB hclB hg (hsize.trans hml.symm) (argsL := As) (rest := rest) (fun sig h => hn.trans (hlen sig h)) hstack hW (by rw [hb]; exact hdg)
    (fun vm₁ hW₁ => ⟨hf.1, hf.2, hPc (T.setVm vm₁) hT hW₁⟩) with ⟨v, vm₁, ⟨U', l2, c2, s2⟩, hW₁, X', ⟨g', mk, t, L, e1, e2, hq, h1, hL, h2, h3⟩, st⟩ | ⟨q, vm₁, ⟨U', l2, c2, s2⟩, hW₁, X', ⟨g', mk, t, L, E, ce, e1, e2, hq, hce, hcv, hcl, h1, hL, h2, h3⟩, st⟩
  · dsimp only [Pt.U, Pt.locs, Pt.cells, Pt.slots] at X' e1 e2 h1 h2 h3 st
    subst h1; subst h2; subst h3
    exact Or.inl ⟨v, (T.setVm vm₁).calling g' mk (Value.ref b :: As).toArray, t, U', L, hT, X', hL, e1, e2, hq, st⟩
  · dsimp only [Pt.U, Pt.locs, Pt.cells, Pt.slots] at X' e1 e2 h1 h2 h3 st hcl
    subst h1; subst h2; subst h3
    exact Or.inr ⟨q, (T.setVm vm₁).calling g' mk (Value.ref b :: As).toArray, t, U', L, E, ce, hT, X', hL, e1, e2, hq, hce, hcv, vx_cls hW₁ hcl, st⟩
theorem vx_runS (S : CallFix p m c cc nL s args Ts own) (hM : vx_Met l y ws rm Pc Qc XC mc ms free) (cw : CallB R s args own index y bytes maxL ret ws rm mc ms n ∧ (Cond.static y).before args s = true) (hp : PreS s H Pc As)
    (hg : g.method = m) (hn : As.length = n) (hsize : g.locals.size = nL) (hstack : g.stack = As.reverse ++ rest) (hW : 2 * g.monitorRoom + (rest.map fun v => v.category).sum ≤ 8) (hdg : decode cc g.pc = .ok (.invokestatic index, 3)) (hf : cells + mc ≤ R.cells ∧ slots + ms ≤ R.slots) :
    vx_Run p l e R s m args below meth c H locs cells slots mc ms g rest (Qc As.toArray) XC free := by
  have hK : vx_Back l R p e below s args y 3 8 (PreOf R mc ms Pc) (PostOf Qc mc ms free) (vx_Post XC mc ms free) := vx_callBack cw.1 hM hp.1
  obtain ⟨⟨-, -, -, -, -, -, hcode, hini, hy, hlen, hl⟩, hstt⟩ := cw
  obtain ⟨hx, hb, hml, ho, -⟩ := S
  intro T hT X
  rcases vx_callS X hx (bytes := bytes) (maxL := maxL) (ret := ret) ho hl hstt hini hcode hy hK hg (hsize.trans hml.symm) (argsL := As) (rest := rest) (fun sig h => hn.trans (hlen sig h)) hstack hW (by rw [hb]; exact hdg)
    (fun vm₁ hW₁ => ⟨hf.1, hf.2, hp.2 (T.setVm vm₁) hT hW₁⟩) with ⟨v, vm₁, ⟨U', l2, c2, s2⟩, hW₁, X', ⟨g', mk, t, L, e1, e2, hq, h1, hL, h2, h3⟩, st⟩ | ⟨q, vm₁, ⟨U', l2, c2, s2⟩, hW₁, X', ⟨g', mk, t, L, E, ce, e1, e2, hq, hce, hcv, hcl, h1, hL, h2, h3⟩, st⟩
  · dsimp only [Pt.U, Pt.locs, Pt.cells, Pt.slots] at X' e1 e2 h1 h2 h3 st
    subst h1; subst h2; subst h3
    exact Or.inl ⟨v, (T.setVm vm₁).calling g' mk As.toArray, t, U', L, hT, X', hL, e1, e2, hq, st⟩
  · dsimp only [Pt.U, Pt.locs, Pt.cells, Pt.slots] at X' e1 e2 h1 h2 h3 st hcl
    subst h1; subst h2; subst h3
    exact Or.inr ⟨q, (T.setVm vm₁).calling g' mk As.toArray, t, U', L, E, ce, hT, X', hL, e1, e2, hq, hce, hcv, vx_cls hW₁ hcl, st⟩
end Runs
section Rows
variable {p : Program} {l : Launch} {e : Env} {R : Room} {s : State} {m : MethodId} {args : Array Value} {below : List Frame} {meth : Method} {c : Code} {H : Heap} {locs : List Loc} {cells slots : Nat} {Q : State → Prop}
variable {mc ms : Nat} {free : Addr → Prop} {A0 A1 : Nat → Prop} {H0 : Heap} {a : Array Value} {pc : Nat} {ls : Array Slot} {st0 rest : List Value}
theorem vx_keep {st₀ t T' : State} {L : List Loc} (h0 : st₀.heap = H) (e1 : T'.heap = t.heap) (hS : va_S A0 H0 H locs) (hA : ∀ q, q < H.size → A1 q → A0 q) (hf : ∀ q, free q → A0 q) (hL : ∀ q ∈ L, free q.base) (hF : va_F A1 st₀ t) :
    H.size ≤ T'.heap.size ∧ (∀ q : Nat, q < H.size → ¬ A1 q → T'.heap[q]? = H[q]?) ∧ va_S A0 H0 T'.heap (locs ++ L) := by
  obtain ⟨hz, hk⟩ := hF
  rw [h0] at hz hk
  exact ⟨by rw [e1]; exact hz, fun q h1 h2 => by rw [e1]; exact hk q h1 h2,
    ⟨Nat.le_trans hS.1 (by rw [e1]; exact hz), fun q h1 h2 => by rw [e1, hk q (Nat.lt_of_lt_of_le h1 hS.1) (fun z => h2 (hA q (Nat.lt_of_lt_of_le h1 hS.1) z))]; exact hS.2.1 q h1 h2, fun q hq => by
      rcases List.mem_append.mp hq with h | h
      · exact hS.2.2 q h
      · exact hf _ (hL q h)⟩⟩
theorem vx_calli {S SX : Type} {post : Int32 → S → Prop} {px : SX → Prop} {B : S → State → Prop} {BX : String → SX → State → Prop} {AX : Nat → Prop} (hr : vx_Run p l e R s m args below meth c H locs cells slots mc ms (F0 m pc ls st0) rest (va_Qi post B A1 a) (vx_X px BX AX) free) (hS : va_S A0 H0 H locs) (hA : ∀ q, q < H.size → A1 q → A0 q) (hf : ∀ q, free q → A0 q) (hAX : ∀ q, q < H.size → AX q → A0 q)
    (kx : ∀ (E : String) (ce : Cell) (q9 : Addr) (u : SX) (t : State) (H1 : Heap) (locs1 : List Loc), t.heap = H1 → s.vm.Alike t.vm → px u → BX E u t → H.size ≤ H1.size → (∀ q : Nat, q < H.size → ¬ AX q → H1[q]? = H[q]?) → va_S A0 H0 H1 locs1 → H1[q9]? = some ce → ce.vm = .none → s.vm.findClass E = some ce.cls → vx_W p l e R s m args below meth c H1 locs1 (cells + mc) (slots + ms) Q (F0 m pc ls rest) q9)
    (kk : ∀ (r : Int32) (u : S) (t : State) (H1 : Heap) (locs1 : List Loc), t.heap = H1 → s.vm.Alike t.vm → post r u → B u t → H.size ≤ H1.size → (∀ q : Nat, q < H.size → ¬ A1 q → H1[q]? = H[q]?) → va_S A0 H0 H1 locs1 → W p l e R s m args below meth c H1 locs1 (cells + mc) (slots + ms) Q (F0 m (pc + 3) ls (.int r :: rest))) : W p l e R s m args below meth c H locs cells slots Q (F0 m pc ls st0) := by
  intro T hT X
  rcases hr T hT X with ⟨v, st₀, t, T', L, h0, X', hL, e1, e2, ⟨⟨r, u, hv, hp, hb⟩, hF⟩, st⟩ | ⟨q, st₀, t, T', L, E, ce, h0, X', hL, e1, e2, ⟨u, hp, hb, hF⟩, hce, hcv, hcl, st⟩
  · cases hv
    obtain ⟨k1, k2, k3⟩ := vx_keep h0 e1 hS hA hf hL hF
    obtain ⟨t2, a1, b1⟩ := kk r u t T'.heap (locs ++ L) e1.symm (by rw [← e2]; exact X'.warmed.alike) hp hb k1 k2 k3 T' rfl X'
    exact ⟨t2, st t2 a1, b1⟩
  · obtain ⟨k1, k2, k3⟩ := vx_keep h0 e1 hS hAX hf hL hF
    obtain ⟨t2, a1, b1⟩ := kx E ce q u t T'.heap (locs ++ L) e1.symm (by rw [← e2]; exact X'.warmed.alike) hp hb k1 k2 k3 (by rw [e1]; exact hce) hcv hcl T' rfl X'
    exact ⟨t2, st.trans a1, b1⟩
theorem vx_calll {S SX : Type} {post : Int64 → S → Prop} {px : SX → Prop} {B : S → State → Prop} {BX : String → SX → State → Prop} {AX : Nat → Prop} (hr : vx_Run p l e R s m args below meth c H locs cells slots mc ms (F0 m pc ls st0) rest (va_Ql post B A1 a) (vx_X px BX AX) free) (hS : va_S A0 H0 H locs) (hA : ∀ q, q < H.size → A1 q → A0 q) (hf : ∀ q, free q → A0 q) (hAX : ∀ q, q < H.size → AX q → A0 q)
    (kx : ∀ (E : String) (ce : Cell) (q9 : Addr) (u : SX) (t : State) (H1 : Heap) (locs1 : List Loc), t.heap = H1 → s.vm.Alike t.vm → px u → BX E u t → H.size ≤ H1.size → (∀ q : Nat, q < H.size → ¬ AX q → H1[q]? = H[q]?) → va_S A0 H0 H1 locs1 → H1[q9]? = some ce → ce.vm = .none → s.vm.findClass E = some ce.cls → vx_W p l e R s m args below meth c H1 locs1 (cells + mc) (slots + ms) Q (F0 m pc ls rest) q9)
    (kk : ∀ (r : Int64) (u : S) (t : State) (H1 : Heap) (locs1 : List Loc), t.heap = H1 → s.vm.Alike t.vm → post r u → B u t → H.size ≤ H1.size → (∀ q : Nat, q < H.size → ¬ A1 q → H1[q]? = H[q]?) → va_S A0 H0 H1 locs1 → W p l e R s m args below meth c H1 locs1 (cells + mc) (slots + ms) Q (F0 m (pc + 3) ls (.long r :: rest))) : W p l e R s m args below meth c H locs cells slots Q (F0 m pc ls st0) := by
  intro T hT X
  rcases hr T hT X with ⟨v, st₀, t, T', L, h0, X', hL, e1, e2, ⟨⟨r, u, hv, hp, hb⟩, hF⟩, st⟩ | ⟨q, st₀, t, T', L, E, ce, h0, X', hL, e1, e2, ⟨u, hp, hb, hF⟩, hce, hcv, hcl, st⟩
  · cases hv
    obtain ⟨k1, k2, k3⟩ := vx_keep h0 e1 hS hA hf hL hF
    obtain ⟨t2, a1, b1⟩ := kk r u t T'.heap (locs ++ L) e1.symm (by rw [← e2]; exact X'.warmed.alike) hp hb k1 k2 k3 T' rfl X'
    exact ⟨t2, st t2 a1, b1⟩
  · obtain ⟨k1, k2, k3⟩ := vx_keep h0 e1 hS hAX hf hL hF
    obtain ⟨t2, a1, b1⟩ := kx E ce q u t T'.heap (locs ++ L) e1.symm (by rw [← e2]; exact X'.warmed.alike) hp hb k1 k2 k3 (by rw [e1]; exact hce) hcv hcl T' rfl X'
    exact ⟨t2, st.trans a1, b1⟩
theorem vx_callf {S SX : Type} {post : UInt32 → S → Prop} {px : SX → Prop} {B : S → State → Prop} {BX : String → SX → State → Prop} {AX : Nat → Prop} (hr : vx_Run p l e R s m args below meth c H locs cells slots mc ms (F0 m pc ls st0) rest (va_Qf post B A1 a) (vx_X px BX AX) free) (hS : va_S A0 H0 H locs) (hA : ∀ q, q < H.size → A1 q → A0 q) (hf : ∀ q, free q → A0 q) (hAX : ∀ q, q < H.size → AX q → A0 q)
    (kx : ∀ (E : String) (ce : Cell) (q9 : Addr) (u : SX) (t : State) (H1 : Heap) (locs1 : List Loc), t.heap = H1 → s.vm.Alike t.vm → px u → BX E u t → H.size ≤ H1.size → (∀ q : Nat, q < H.size → ¬ AX q → H1[q]? = H[q]?) → va_S A0 H0 H1 locs1 → H1[q9]? = some ce → ce.vm = .none → s.vm.findClass E = some ce.cls → vx_W p l e R s m args below meth c H1 locs1 (cells + mc) (slots + ms) Q (F0 m pc ls rest) q9)
    (kk : ∀ (r : UInt32) (u : S) (t : State) (H1 : Heap) (locs1 : List Loc), t.heap = H1 → s.vm.Alike t.vm → post r u → B u t → H.size ≤ H1.size → (∀ q : Nat, q < H.size → ¬ A1 q → H1[q]? = H[q]?) → va_S A0 H0 H1 locs1 → W p l e R s m args below meth c H1 locs1 (cells + mc) (slots + ms) Q (F0 m (pc + 3) ls (.float r :: rest))) : W p l e R s m args below meth c H locs cells slots Q (F0 m pc ls st0) := by
  intro T hT X
  rcases hr T hT X with ⟨v, st₀, t, T', L, h0, X', hL, e1, e2, ⟨⟨r, u, hv, hp, hb⟩, hF⟩, st⟩ | ⟨q, st₀, t, T', L, E, ce, h0, X', hL, e1, e2, ⟨u, hp, hb, hF⟩, hce, hcv, hcl, st⟩
  · cases hv
    obtain ⟨k1, k2, k3⟩ := vx_keep h0 e1 hS hA hf hL hF
    obtain ⟨t2, a1, b1⟩ := kk r u t T'.heap (locs ++ L) e1.symm (by rw [← e2]; exact X'.warmed.alike) hp hb k1 k2 k3 T' rfl X'
    exact ⟨t2, st t2 a1, b1⟩
  · obtain ⟨k1, k2, k3⟩ := vx_keep h0 e1 hS hAX hf hL hF
    obtain ⟨t2, a1, b1⟩ := kx E ce q u t T'.heap (locs ++ L) e1.symm (by rw [← e2]; exact X'.warmed.alike) hp hb k1 k2 k3 (by rw [e1]; exact hce) hcv hcl T' rfl X'
    exact ⟨t2, st.trans a1, b1⟩
theorem vx_calld {S SX : Type} {post : UInt64 → S → Prop} {px : SX → Prop} {B : S → State → Prop} {BX : String → SX → State → Prop} {AX : Nat → Prop} (hr : vx_Run p l e R s m args below meth c H locs cells slots mc ms (F0 m pc ls st0) rest (va_Qd post B A1 a) (vx_X px BX AX) free) (hS : va_S A0 H0 H locs) (hA : ∀ q, q < H.size → A1 q → A0 q) (hf : ∀ q, free q → A0 q) (hAX : ∀ q, q < H.size → AX q → A0 q)
    (kx : ∀ (E : String) (ce : Cell) (q9 : Addr) (u : SX) (t : State) (H1 : Heap) (locs1 : List Loc), t.heap = H1 → s.vm.Alike t.vm → px u → BX E u t → H.size ≤ H1.size → (∀ q : Nat, q < H.size → ¬ AX q → H1[q]? = H[q]?) → va_S A0 H0 H1 locs1 → H1[q9]? = some ce → ce.vm = .none → s.vm.findClass E = some ce.cls → vx_W p l e R s m args below meth c H1 locs1 (cells + mc) (slots + ms) Q (F0 m pc ls rest) q9)
    (kk : ∀ (r : UInt64) (u : S) (t : State) (H1 : Heap) (locs1 : List Loc), t.heap = H1 → s.vm.Alike t.vm → post r u → B u t → H.size ≤ H1.size → (∀ q : Nat, q < H.size → ¬ A1 q → H1[q]? = H[q]?) → va_S A0 H0 H1 locs1 → W p l e R s m args below meth c H1 locs1 (cells + mc) (slots + ms) Q (F0 m (pc + 3) ls (.double r :: rest))) : W p l e R s m args below meth c H locs cells slots Q (F0 m pc ls st0) := by
  intro T hT X
  rcases hr T hT X with ⟨v, st₀, t, T', L, h0, X', hL, e1, e2, ⟨⟨r, u, hv, hp, hb⟩, hF⟩, st⟩ | ⟨q, st₀, t, T', L, E, ce, h0, X', hL, e1, e2, ⟨u, hp, hb, hF⟩, hce, hcv, hcl, st⟩
  · cases hv
    obtain ⟨k1, k2, k3⟩ := vx_keep h0 e1 hS hA hf hL hF
    obtain ⟨t2, a1, b1⟩ := kk r u t T'.heap (locs ++ L) e1.symm (by rw [← e2]; exact X'.warmed.alike) hp hb k1 k2 k3 T' rfl X'
    exact ⟨t2, st t2 a1, b1⟩
  · obtain ⟨k1, k2, k3⟩ := vx_keep h0 e1 hS hAX hf hL hF
    obtain ⟨t2, a1, b1⟩ := kx E ce q u t T'.heap (locs ++ L) e1.symm (by rw [← e2]; exact X'.warmed.alike) hp hb k1 k2 k3 (by rw [e1]; exact hce) hcv hcl T' rfl X'
    exact ⟨t2, st.trans a1, b1⟩
theorem vx_callv {S SX : Type} {post : S → Prop} {px : SX → Prop} {B : S → State → Prop} {BX : String → SX → State → Prop} {AX : Nat → Prop} (hr : vx_Run p l e R s m args below meth c H locs cells slots mc ms (F0 m pc ls st0) rest (va_Qv post B A1 a) (vx_X px BX AX) free) (hS : va_S A0 H0 H locs) (hA : ∀ q, q < H.size → A1 q → A0 q) (hf : ∀ q, free q → A0 q) (hAX : ∀ q, q < H.size → AX q → A0 q)
    (kx : ∀ (E : String) (ce : Cell) (q9 : Addr) (u : SX) (t : State) (H1 : Heap) (locs1 : List Loc), t.heap = H1 → s.vm.Alike t.vm → px u → BX E u t → H.size ≤ H1.size → (∀ q : Nat, q < H.size → ¬ AX q → H1[q]? = H[q]?) → va_S A0 H0 H1 locs1 → H1[q9]? = some ce → ce.vm = .none → s.vm.findClass E = some ce.cls → vx_W p l e R s m args below meth c H1 locs1 (cells + mc) (slots + ms) Q (F0 m pc ls rest) q9)
    (kk : ∀ (u : S) (t : State) (H1 : Heap) (locs1 : List Loc), t.heap = H1 → s.vm.Alike t.vm → post u → B u t → H.size ≤ H1.size → (∀ q : Nat, q < H.size → ¬ A1 q → H1[q]? = H[q]?) → va_S A0 H0 H1 locs1 → W p l e R s m args below meth c H1 locs1 (cells + mc) (slots + ms) Q (F0 m (pc + 3) ls (rest))) : W p l e R s m args below meth c H locs cells slots Q (F0 m pc ls st0) := by
  intro T hT X
  rcases hr T hT X with ⟨v, st₀, t, T', L, h0, X', hL, e1, e2, ⟨⟨u, hv, hp, hb⟩, hF⟩, st⟩ | ⟨q, st₀, t, T', L, E, ce, h0, X', hL, e1, e2, ⟨u, hp, hb, hF⟩, hce, hcv, hcl, st⟩
  · cases hv
    obtain ⟨k1, k2, k3⟩ := vx_keep h0 e1 hS hA hf hL hF
    obtain ⟨t2, a1, b1⟩ := kk u t T'.heap (locs ++ L) e1.symm (by rw [← e2]; exact X'.warmed.alike) hp hb k1 k2 k3 T' rfl X'
    exact ⟨t2, st t2 a1, b1⟩
  · obtain ⟨k1, k2, k3⟩ := vx_keep h0 e1 hS hAX hf hL hF
    obtain ⟨t2, a1, b1⟩ := kx E ce q u t T'.heap (locs ++ L) e1.symm (by rw [← e2]; exact X'.warmed.alike) hp hb k1 k2 k3 (by rw [e1]; exact hce) hcv hcl T' rfl X'
    exact ⟨t2, st.trans a1, b1⟩
/-- caught by the row x of this method's table; the rows ahead don't take it -/
theorem vx_catch {own name : String} {E : String} {ce : Cell} {q : Addr} (hown : s.vm.findClass own = some m.cls) (pre : List ExceptionTableEntry) (x : ExceptionTableEntry) (suf : List ExceptionTableEntry) (hsplit : c.exceptionTable.toList = pre ++ x :: suf)
    (hpass : ∀ z ∈ pre, covers z pc = false ∨ (z.catchType ≠ 0 ∧ ∃ nm : String, (Cond.classLink own z.catchType nm).before args s = true ∧ va_Nc E nm s)) (hx : covers x pc = true) (h0 : x.catchType ≠ 0)
    (hlink : (Cond.classLink own x.catchType name).before args s = true) (hcast : (Cond.castable E name).before args s = true) (hcell : H[q]? = some ce) (hv : ce.vm = .none) (hcl : s.vm.findClass E = some ce.cls)
    (kk : W p l e R s m args below meth c H locs cells slots Q (F0 m x.handlerPc ls [.ref q])) : vx_W p l e R s m args below meth c H locs cells slots Q (F0 m pc ls rest) q := by
  intro T hT X
  have hpl : e.platform.magicAccessors = ({} : Platform).magicAccessors := by rw [X.admits.platform]
  obtain ⟨c3, c4, hc3, hc4, hasg⟩ := Cond.castable_spec hcast
  cases Option.some.inj (hc3.symm.trans hcl)
  obtain ⟨c5, hc5, hcl5⟩ := Cond.classLink_spec hown hlink e.platform hpl
  cases Option.some.inj (hc4.symm.trans hc5)
  obtain ⟨vm', X', st⟩ := X.thenCaughtThrough q (g := F0 m pc ls rest) rfl (Steps.refl _) (by rw [hT]; exact hcell) (by rw [hv]; rfl) (by obtain ⟨k9, h9, -⟩ := Vm.findClass_spec hcl; exact ⟨k9, h9⟩) pre x suf hsplit
    (fun z hz => by
      rcases hpass z hz with h | ⟨hz0, nm, hl1, hn1⟩
      · exact Or.inl h
      · obtain ⟨c6, hc6, hcl6⟩ := Cond.classLink_spec hown hl1 e.platform hpl
        obtain ⟨a8, b8, h1, h2, h3⟩ := hn1
        cases Option.some.inj (h1.symm.trans hcl)
        cases Option.some.inj (h2.symm.trans hc6)
        exact Or.inr ⟨hz0, _, hcl6, h3⟩) hx (Or.inr ⟨h0, c4, hcl5, hasg⟩)
  obtain ⟨t, a1, b1⟩ := kk (T.setVm vm') hT X'
  exact ⟨t, st.trans a1, b1⟩
end Rows
section Ends
variable {p : Program} {l : Launch} {e : Env} {R : Room} {s : State} {m : MethodId} {args : Array Value} {below : List Frame} {meth : Method} {c : Code} {H : Heap} {locs : List Loc} {cells slots : Nat} {Q : State → Prop}
variable {mc ms : Nat} {free : Addr → Prop} {A0 A1 : Nat → Prop} {H0 : Heap} {a : Array Value} {ls : Array Slot} {st0 rest : List Value}
variable {Qc : Array Value → State → Outcome → State → Prop} {XC : String → State → State → Prop}
/-- what a body that may throw owes at its end -/
def vx_MQ (below : List Frame) (Qc : Array Value → State → Outcome → State → Prop) (XC : String → State → State → Prop) (a : Array Value) (s : State) (mc ms : Nat) (free : Addr → Prop) : State → Prop := fun t =>
  ∃ o, t.status = .running ∧ Ended t below o ∧ vx_Q Qc XC mc ms free a s o t
theorem vx_ret {g : JFrame} {mc ms : Nat} (k : W p l e R s m args below meth c H locs cells slots (MQ below Qc args s mc ms free) g) : W p l e R s m args below meth c H locs cells slots (vx_MQ below Qc XC args s mc ms free) g := by
  intro T hT X
  obtain ⟨t, a1, o, b1, b2, b3, b4⟩ := k T hT X
  exact ⟨t, a1, o, b1, b2, Or.inl ⟨b3, b4⟩⟩
/-- not caught here: it goes on to the caller -/
theorem vx_widen {g : JFrame} {q : Addr} {k n : Nat} (h1 : cells ≤ k) (h2 : slots ≤ n) (kk : vx_W p l e R s m args below meth c H locs k n Q g q) : vx_W p l e R s m args below meth c H locs cells slots Q g q := fun T hT X => kk T hT (stand_widen X h1 h2)
theorem vx_out {pc : Nat} {E : String} {ce : Cell} {q : Addr} {mc ms : Nat} (hout : ∀ x ∈ c.exceptionTable.toList, covers x pc = false) (hlocks : meth.locks = false) (hcell : H[q]? = some ce) (hv : ce.vm = .none) (hcl : s.vm.findClass E = some ce.cls)
    (hx : ∀ t : State, t.heap = H → s.vm.Alike t.vm → XC E s t) (hf : ∀ z ∈ locs, free z.base) (hc : cells ≤ mc) (hs : slots ≤ ms) :
    vx_W p l e R s m args below meth c H locs cells slots (vx_MQ below Qc XC args s mc ms free) (F0 m pc ls rest) q := by
  intro T hT X
  obtain ⟨st1, hrun, hend, hW, hsm⟩ := X.leaveThrown q (g := F0 m pc ls rest) rfl rfl rfl hout hlocks
  have hcell9 : (T.setFrames (.throwing q :: below)).heap[q]? = some ce := by
    show T.heap[q]? = some ce
    rw [hT]; exact hcell
  exact ⟨_, st1, .threw q, hrun, hend, Or.inr ⟨q, rfl, E, ce, locs, hx _ hT hW.alike, hcell9, hv, hcl, hW, hsm.mono hc hs, hf⟩⟩
theorem vx_frame {U : State} {k n : Nat} (h : s.sameButNew ({ U with vm := s.vm } : State) locs k n) : s.heap.size ≤ U.heap.size ∧ ∀ q : Nat, q < s.heap.size → (∀ z ∈ locs, z.base ≠ q) → U.heap[q]? = s.heap[q]? := by
  obtain ⟨-, h2, -, -, -, h6⟩ := h
  refine ⟨h2, fun q hq hz => ?_⟩
  obtain ⟨c9, e1, e2, e3, e4⟩ := h6 q _ (Array.getElem?_eq_getElem hq)
  have hs : c9.slots = (s.heap[q]).slots := Array.ext_getElem? fun i => e4 i fun hm => hz _ hm rfl
  have h9 : c9 = s.heap[q] := by
    rw [hs] at e2
    exact e2
  have e5 : U.heap[q]? = some c9 := e1
  rw [e5, h9, Array.getElem?_eq_getElem hq]
/-- the words of a throw but the four that speak of the heap -/
def vx_no (w : Cond) : Bool := decide (w ≠ .isRef (.static Bundle.tN "UNASSIGNED_STACK" Bundle.steD)) && decide (w ≠ .isRef (.static Bundle.tN "SUPPRESSED_SENTINEL" Bundle.listD)) && decide (w ≠ .laysStatic Bundle.tN "UNASSIGNED_STACK" Bundle.steD) && decide (w ≠ .laysStatic Bundle.tN "SUPPRESSED_SENTINEL" Bundle.listD)
def vx_at0 (own : String) (ic : Nat) (X : String) (names : List String) : List Cond := (Bundle.ownAtoms0 own ic X names).filter vx_no
def vx_atS (own : String) (ic : Nat) (X : String) (names : List String) : List Cond := (Bundle.ownAtoms own ic X names).filter vx_no
/-- a word that the tables alone decide, or a good one -/
def vx_ot (w : Cond) : Bool := w.onTables || goodWord w
theorem vx_ot_at {args a' : Array Value} {s U : State} {w : Cond} (hW : s.WarmedH U.vm) (hvm : s.vm = U.vm) (hg : vx_ot w = true) (h : w.before args s = true) : w.before a' U = true := by
  simp only [vx_ot, Bool.or_eq_true] at hg
  rcases hg with hg | hg
  · exact va_tabs hg hvm h
  · exact word_at hW (good_of_word hg) h
/-- a list's words: the good ones out of the method's own list, the others by premises of their own -/
theorem vx_hat {args : Array Value} {s : State} {L B : List Cond} (h1 : ∀ w ∈ L.filter goodWord, w.before args s = true) (h2 : ∀ w ∈ L.filter (fun w => !goodWord w), w ∈ B) (h3 : ∀ w ∈ B, w.before args s = true) : ∀ w ∈ L, w.before args s = true := by
  intro w hw
  by_cases g : goodWord w = true
  · exact h1 w (List.mem_filter.mpr ⟨hw, g⟩)
  · refine h3 w (h2 w (List.mem_filter.mpr ⟨hw, ?_⟩))
    show (!goodWord w) = true
    cases hgw : goodWord w
    · rfl
    · exact absurd hgw g
theorem vx_c {args : Array Value} {s : State} {w : Cond} {B : List Cond} (h : w.before args s = true) (t : ∀ w ∈ B, w.before args s = true) : ∀ w' ∈ w :: B, w'.before args s = true := fun w' h' => (List.mem_cons.mp h').elim (fun e => by rw [e]; exact h) (t w')
theorem vx_n {args : Array Value} {s : State} : ∀ w ∈ ([] : List Cond), w.before args s = true := fun _ h => nomatch h
theorem vx_own {args : Array Value} {s : State} {L : List Cond} (h1 : ∀ w ∈ L.filter vx_no, w.before args s = true)
    (hU : (Cond.isRef (.static Bundle.tN "UNASSIGNED_STACK" Bundle.steD)).before args s = true) (hN : (Cond.isRef (.static Bundle.tN "SUPPRESSED_SENTINEL" Bundle.listD)).before args s = true)
    (lU : (Cond.laysStatic Bundle.tN "UNASSIGNED_STACK" Bundle.steD).before args s = true) (lN : (Cond.laysStatic Bundle.tN "SUPPRESSED_SENTINEL" Bundle.listD).before args s = true) : ∀ w ∈ L, w.before args s = true := by
  intro w hw
  by_cases e1 : w = .isRef (.static Bundle.tN "UNASSIGNED_STACK" Bundle.steD)
  · rw [e1]; exact hU
  · by_cases e2 : w = .isRef (.static Bundle.tN "SUPPRESSED_SENTINEL" Bundle.listD)
    · rw [e2]; exact hN
    · by_cases e3 : w = .laysStatic Bundle.tN "UNASSIGNED_STACK" Bundle.steD
      · rw [e3]; exact lU
      · by_cases e4 : w = .laysStatic Bundle.tN "SUPPRESSED_SENTINEL" Bundle.listD
        · rw [e4]; exact lN
        · exact h1 w (List.mem_filter.mpr ⟨hw, by unfold vx_no; rw [decide_eq_true e1, decide_eq_true e2, decide_eq_true e3, decide_eq_true e4]; rfl⟩)
/-- where a static field lies, its class's statics cell in H -/
def vx_L (C n d : String) (A : Nat → Prop) (U : State) (H : Heap) : Prop := ∃ (c : ClassId) (k : Class) (i : Nat) (f : Field) (a : Nat) (cell : Cell), U.vm.findClass C = some c ∧ U.fieldFound? C n d = some (c, k, i, f) ∧ f.isStatic = true ∧ k.statics = some a ∧ H[a]? = some cell ∧ cell.vm.isStatics = true ∧ cell.cls = c ∧ f.slot < cell.slots.size ∧ k.staticTypes[f.slot]? = some f.type ∧ ¬ A a
theorem vx_L.moved {C n d : String} {A : Nat → Prop} {u U : State} {H : Heap} (hvm : u.vm.Alike U.vm) (h : vx_L C n d A u H) : vx_L C n d A U H := by
  obtain ⟨c, k, i, f, a, cell, h1, h2, h3, h4, h5, h6, h7, h8, h9, h10⟩ := h
  obtain ⟨k', hi', he⟩ := State.fieldFound?_setVm hvm h2
  exact ⟨c, k', i, f, a, cell, by rw [hvm.findClass]; exact h1, hi', h3, by rw [he]; exact h4, h5, h6, h7, h8, by rw [he]; exact h9, h10⟩
theorem vx_L.kept {C n d : String} {A : Nat → Prop} {U : State} {H H1 : Heap} (h : vx_L C n d A U H) (hq : ∀ a : Nat, a < H.size → ¬ A a → H1[a]? = H[a]?) : vx_L C n d A U H1 := by
  obtain ⟨c, k, i, f, a, cell, h1, h2, h3, h4, h5, h6, h7, h8, h9, h10⟩ := h
  exact ⟨c, k, i, f, a, cell, h1, h2, h3, h4, by rw [hq a (Array.getElem?_eq_some_iff.mp h5).1 h10]; exact h5, h6, h7, h8, h9, h10⟩
theorem vx_L.narrow {C n d : String} {A B : Nat → Prop} {U : State} {H : Heap} (h : vx_L C n d A U H) (hAB : ∀ q, B q → A q) : vx_L C n d B U H := by
  obtain ⟨c, k, i, f, a, cell, h1, h2, h3, h4, h5, h6, h7, h8, h9, h10⟩ := h
  exact ⟨c, k, i, f, a, cell, h1, h2, h3, h4, h5, h6, h7, h8, h9, fun z => h10 (hAB _ z)⟩
theorem vx_L.word {C n d : String} {A : Nat → Prop} {s : State} {args : Array Value} (h : vx_L C n d A s s.heap) : (Cond.laysStatic C n d).before args s = true := by
  obtain ⟨c, k, i, f, a, cell, h1, h2, h3, h4, h5, h6, h7, h8, h9, -⟩ := h
  show (Cond.laysStatic C n d).holds args s none s [] = true
  exact Cond.laysStatic_of h1 h2 h3 h4 h5 h6 h7 h8 h9
/-- .. and what it holds: null or some reference -/
def vx_Zq (C n d : String) (A : Nat → Prop) (U : State) (H : Heap) : Prop := va_Zq C n d A U H ∧ vx_L C n d A U H
theorem vx_Zq.moved {C n d : String} {A : Nat → Prop} {u U : State} {H : Heap} (hvm : u.vm.Alike U.vm) (h : vx_Zq C n d A u H) : vx_Zq C n d A U H := ⟨va_Zq.moved hvm h.1, vx_L.moved hvm h.2⟩
theorem vx_Zq.kept {C n d : String} {A : Nat → Prop} {U : State} {H H1 : Heap} (h : vx_Zq C n d A U H) (hq : ∀ a : Nat, a < H.size → ¬ A a → H1[a]? = H[a]?) : vx_Zq C n d A U H1 := ⟨va_Zq.kept h.1 hq, vx_L.kept h.2 hq⟩
theorem vx_Zq.narrow {C n d : String} {A B : Nat → Prop} {U : State} {H : Heap} (h : vx_Zq C n d A U H) (hAB : ∀ q, B q → A q) : vx_Zq C n d B U H := ⟨va_Zq.narrow h.1 hAB, vx_L.narrow h.2 hAB⟩
theorem vx_Zqof {args : Array Value} {s : State} {C n d : String} {A : Nat → Prop} (hl : (Cond.laysStatic C n d).before args s = true) (hini : (Cond.initialized C).before args s = true) (h : (Cond.isRef (.static C n d)).before args s = true) (hA : ∀ a : Nat, a < s.heap.size → ¬ A a) : vx_Zq C n d A s s.heap := by
  refine ⟨va_Zqof hl hini h hA, ?_⟩
  obtain ⟨c, k, i, f, a, cell, h1, h2, h3, h4, h5, h6, h7, h8, h9⟩ := Cond.laysStatic_spec hl
  exact ⟨c, k, i, f, a, cell, h1, h2, h3, h4, h5, h6, h7, h8, h9, hA a (Array.getElem?_eq_some_iff.mp h5).1⟩
theorem vx_isRef {C n d : String} {v : Value} {A : Nat → Prop} {s : State} {args : Array Value} (h : va_Z C n d v A s s.heap) (hv : v.isRef = true) : (Cond.isRef (.static C n d)).before args s = true := by
  obtain ⟨cf, kf, fi, f, a, cell, h1, h2, h3, h4, h5, h6, h7, -⟩ := h
  have he : (Term.static C n d).eval args s none [] s = some v := by
    simp [Term.eval, State.fieldNamed?, h1, h2, h4, h5, h6, h7]
  simp only [Cond.before, Cond.holds, Cond.value, he]
  cases v <;> simp_all [Value.isRef]
theorem vx_isRefq {C n d : String} {A : Nat → Prop} {s : State} {args : Array Value} (h : va_Zq C n d A s s.heap) : (Cond.isRef (.static C n d)).before args s = true := by
  rcases h with h | ⟨t, h⟩
  · exact vx_isRef h rfl
  · exact vx_isRef h rfl
/-- the same frame, seen from here: as if the method were called anew in this heap -/
theorem vx_rebase {T : State} (X : Stand p l e R s m args below meth c T locs cells slots) {R' : Room} (hf : R'.frames ≤ R.frames) (hl : R'.locals ≤ R.locals) (hc : cells + R'.cells ≤ R.cells) (hs : slots + R'.slots ≤ R.slots) :
    Stand p l e R' ((T.setVm s.vm).setFrames (.invoking m args :: below)) m args below meth c T [] 0 0 := by
  have htop : (T.setVm s.vm).topJava?.isSome := X.here.top
  have hF : ((T.setVm s.vm).setFrames (.invoking m args :: below)).frames = .invoking m args :: below := State.frames_setFrames _ (State.cur_lt_of_top htop)
  obtain ⟨g₀, hg0⟩ := Option.isSome_iff_exists.mp htop
  obtain ⟨r, hr⟩ := State.topJava?_eq_some.mp hg0
  have hl9 : e.platform.stackLimits (T.setVm s.vm).me = e.platform.stackLimits s.me := X.limits
  have hb9 : (T.setVm s.vm).me.stackBytes = s.me.stackBytes := X.bytes
  refine ⟨X.admits, X.cas, X.clock, hF, ?_, X.hears, X.method, X.code, X.here, X.tail, X.warmed, ?_, ?_, ?_⟩
  · have h := X.room
    have hU : ((T.setVm s.vm).setFrames (.invoking m args :: below)).localsInUse = s.localsInUse := by
      rw [State.localsInUse_invoking hF (meth := meth) (c := c) X.method X.code, State.localsInUse_invoking X.frames X.method X.code]
    simp only [State.hasRoom, Bool.and_eq_true, decide_eq_true_eq] at h ⊢
    obtain ⟨⟨⟨⟨h1, h2, h3, h4, h5, h6⟩, h7⟩, h8⟩, h9⟩ := h
    rw [X.frames, List.length_cons] at h2 h3
    have q1 := X.heapSize
    have q2 := X.used
    simp only [hF, hU, List.length_cons, State.stackLimits_setFrames, State.stackBytes_setFrames, hl9, hb9]
    refine ⟨⟨⟨⟨by omega, by omega, by omega, by omega, by omega, h6⟩, ?_⟩, ?_⟩, X.book⟩
    · show T.heap.size + R'.cells ≤ e.platform.maxCells
      omega
    · show T.slotsUsed + R'.slots ≤ e.platform.maxSlots
      omega
  · rw [State.stackLimits_setFrames]; rfl
  · rw [State.stackBytes_setFrames]; rfl
  · refine ⟨?_, Nat.le_refl _, Nat.le_refl _, ?_, ?_, fun a c9 h9 => ⟨c9, h9, rfl, rfl, fun _ _ => rfl⟩⟩
    · obtain ⟨t, ht, -⟩ := State.frames_cons hr
      show T.setVm s.vm = { ((T.setVm s.vm).setFrames (.invoking m args :: below)).setFrames (T.setVm s.vm).frames with heap := T.heap, slotsUsed := T.slotsUsed }
      rw [State.setFrames_setFrames, State.setFrames_self ht]
      rfl
    · show T.slotsUsed = T.slotsUsed + ((T.heap.toList.drop T.heap.size).map (·.slots.size)).sum
      rw [List.drop_eq_nil_of_le (Nat.le_of_eq Array.length_toList)]
      rfl
    · show ((T.heap.toList.drop T.heap.size).map (·.slots.size)).sum ≤ 0
      rw [List.drop_eq_nil_of_le (Nat.le_of_eq Array.length_toList)]
      exact Nat.le_refl _
/-- 'throw new E()': new; dup; invokespecial; athrow -/
theorem vx_throw0 {cc : ByteArray} {pc : Nat} (hexec : p.tables.exec = Jvm.exec) (hb : c.code = cc) (hl : l.stackTraces = false) {own cls : String} {names : List String} {ik ic mc ms : Nat} {A : Nat → Prop}
    (hown : s.vm.findClass own = some m.cls) (hcls : Bundle.fit cls = true) (hnames : ∀ n ∈ names, Bundle.fit n = true)
    (hk : (Cond.classLink own ik cls).before args s = true) (hini : (Cond.initialized cls).before args s = true) (hat : ∀ w ∈ vx_at0 own ic cls names, w.before args s = true)
    (hgood : ∀ w ∈ Cond.classLink own ik cls :: Cond.initialized cls :: vx_at0 own ic cls names, vx_ot w = true)
    (hU : vx_Zq Bundle.tN "UNASSIGNED_STACK" Bundle.steD A s s.heap) (hN : vx_Zq Bundle.tN "SUPPRESSED_SENTINEL" Bundle.listD A s s.heap) (hS : va_S A s.heap H locs) (hsize : ls.size = c.maxLocals)
    (d0 : decode cc pc = .ok (.new ik, 3)) (d3 : decode cc (pc + 3) = .ok (.dup, 1)) (d4 : decode cc (pc + 4) = .ok (.invokespecial ic, 3)) (d7 : decode cc (pc + 7) = .ok (.athrow, 1))
    (hout : ∀ x ∈ c.exceptionTable.toList, covers x (pc + 7) = false)
    (hRframes : names.length + 3 < R.frames) (hRlocals : (rest.map fun v => v.category).sum + (13 * (names.length + 1) + 42) ≤ R.locals) (hRcells : cells + 1 ≤ R.cells) (hRslots : slots + 6 ≤ R.slots) (hlocks : meth.locks = false)
    (hx : ∀ t : State, s.vm.Alike t.vm → H.size ≤ t.heap.size → (∀ q : Nat, q < H.size → t.heap[q]? = H[q]?) → XC cls s t)
    (hf : ∀ z ∈ locs, free z.base) (hc : cells + 1 ≤ mc) (hs : slots + 6 ≤ ms) :
    W p l e R s m args below meth c H locs cells slots (vx_MQ below Qc XC args s mc ms free) (F0 m pc ls rest) := by
  intro T hT X
  have htr : e.platform.stackTraces = false := (show e.platform.stackTraces = l.stackTraces by rw [X.admits.platform]).trans hl
  have Y := vx_rebase X (R' := { frames := R.frames, locals := R.locals, cells := 1, slots := 6 }) (Nat.le_refl _) (Nat.le_refl _) hRcells hRslots
  obtain ⟨s', hA⟩ : ∃ z, z = (T.setVm s.vm).setFrames (.invoking m args :: below) := ⟨_, rfl⟩
  rw [← hA] at Y
  have hvm : s'.vm = s.vm := by rw [hA]; rfl
  have hhp : s'.heap = H := by rw [hA]; exact hT
  have hW0 : s.WarmedH s'.vm := by rw [hvm]; exact State.WarmedH.refl s
  have hat' : ∀ w ∈ vx_at0 own ic cls names, w.before args s' = true := fun w hw => vx_ot_at hW0 hvm.symm (hgood w (List.mem_cons_of_mem _ (List.mem_cons_of_mem _ hw))) (hat w hw)
  have hk' : (Cond.classLink own ik cls).before args s' = true := vx_ot_at hW0 hvm.symm (hgood _ List.mem_cons_self) hk
  have hini' : (Cond.initialized cls).before args s' = true := vx_ot_at hW0 hvm.symm (hgood _ (List.mem_cons_of_mem _ List.mem_cons_self)) hini
  have hU' : vx_Zq Bundle.tN "UNASSIGNED_STACK" Bundle.steD A s' s'.heap := by rw [hhp]; exact vx_Zq.moved hW0.alike (hU.kept hS.2.1)
  have hN' : vx_Zq Bundle.tN "SUPPRESSED_SENTINEL" Bundle.listD A s' s'.heap := by rw [hhp]; exact vx_Zq.moved hW0.alike (hN.kept hS.2.1)
  have h : ∀ w ∈ Bundle.ownAtoms0 own ic cls names, w.before args s' = true := vx_own hat' (vx_isRefq hU'.1) (vx_isRefq hN'.1) hU'.2.word hN'.2.word
  have hown' : s'.vm.findClass own = some m.cls := by rw [hvm]; exact hown
  have hins : (Cond.instantiable cls 6).before args s' = true := h _ (by simp [Bundle.ownAtoms0])
  obtain ⟨vm₁, cX, kX, hfX, hkX, -, -, X₁, st1⟩ := Y.newCold hexec (own := own) (C := cls) (index := ik) (n := 6) hown' hk' hins hini'
    (g := F0 m pc ls rest) rfl (by rw [hb]; exact d0) (Nat.le_refl _) (Nat.le_refl _)
  generalize hT1 : (T.setVm vm₁).pushCell { cls := cX, slots := kX.instanceTypes.map defaultValue, vm := .none } = T1 at X₁ st1
  have hcat : (Value.ref T.heap.size).category = 1 := rfl
  have hcellA : T1.heap[T.heap.size]? = some (freshCell cX kX) := by rw [← hT1]; exact State.heap_pushCell_size _ _
  have d3' : decode c.code (pc + 3) = .ok (.dup, 1) := by rw [hb]; exact d3
  obtain ⟨U, hsteps, hrun, hend, hW, hsame, ce, hce, hO⟩ := X₁.ctorThrow0 hexec htr (own := own) (cls := cls) (names := names) (ic := ic) hown' hcls hnames h (fun x hx => nomatch hx) hfX hkX hcellA (by rw [hhp, hT]; exact Nat.le_refl _)
    (g := { method := m, pc := pc + 4, locals := ls, stack := .ref T.heap.size :: .ref T.heap.size :: rest, locked := none }) rfl hsize rfl rfl (rest := rest) rfl
    (by rw [hb]; exact d4) (by rw [hb]; exact d7) hout hRframes (by simp only [List.map_cons, List.sum_cons, hcat]; omega) hlocks
  obtain ⟨f1, f2⟩ := vx_frame hsame
  rw [hhp] at f1 f2
  have hWs : s.WarmedH U.vm := State.WarmedH.trans hW0 hW
  have hcl : s.vm.findClass cls = some ce.cls := by
    have h9 := hO.cls
    rw [hvm] at h9
    exact h9
  have hall : s.sameButNew ({ U with vm := s.vm } : State) locs mc ms := by
    subst hA
    obtain ⟨e1, e2⟩ := hsame
    rw [State.setFrames_setFrames] at e1
    have h2 : (T.setVm s.vm).sameButNew ({ U with vm := s.vm } : State) [] (0 + 1) (0 + 6) := ⟨e1, e2⟩
    have h3 := X.same.trans h2
    rw [List.append_nil] at h3
    exact h3.mono hc hs
  refine ⟨U, ?_, .threw T.heap.size, hrun, hend, Or.inr ⟨T.heap.size, rfl, cls, ce, locs, hx U hWs.alike f1 (fun q hq => f2 q hq (fun z hz => nomatch hz)), hce, hO.vm, hcl, hWs, hall, hf⟩⟩
  refine st1 _ ?_
  show Steps p.tables e below (T1.setTop { method := m, pc := pc + 3, locals := ls, stack := .ref T.heap.size :: rest, locked := none }) _
  jvm_step X₁.here [X₁.here.top, hexec, d3', Value.category]
  exact hsteps
/-- 'throw new E("text")': new; dup; ldc; invokespecial; athrow -/
theorem vx_throwS {cc : ByteArray} {pc : Nat} (hexec : p.tables.exec = Jvm.exec) (hb : c.code = cc) (hl : l.stackTraces = false) {own cls text : String} {names : List String} {ik is ic mc ms sa : Nat} {A : Nat → Prop}
    (hown : s.vm.findClass own = some m.cls) (hcls : Bundle.fit cls = true) (hnames : ∀ n ∈ names, Bundle.fit n = true)
    (hk : (Cond.classLink own ik cls).before args s = true) (hini : (Cond.initialized cls).before args s = true) (hstr : vk_R own is text sa s) (hat : ∀ w ∈ vx_atS own ic cls names, w.before args s = true)
    (hgood : ∀ w ∈ Cond.classLink own ik cls :: Cond.initialized cls :: vx_atS own ic cls names, vx_ot w = true)
    (hU : vx_Zq Bundle.tN "UNASSIGNED_STACK" Bundle.steD A s s.heap) (hN : vx_Zq Bundle.tN "SUPPRESSED_SENTINEL" Bundle.listD A s s.heap) (hS : va_S A s.heap H locs) (hsize : ls.size = c.maxLocals)
    (d0 : decode cc pc = .ok (.new ik, 3)) (d3 : decode cc (pc + 3) = .ok (.dup, 1)) (d4 : decode cc (pc + 4) = .ok (.ldc is, 2)) (d6 : decode cc (pc + 6) = .ok (.invokespecial ic, 3)) (d9 : decode cc (pc + 9) = .ok (.athrow, 1))
    (hout : ∀ x ∈ c.exceptionTable.toList, covers x (pc + 9) = false)
    (hRframes : names.length + 3 < R.frames) (hRlocals : (rest.map fun v => v.category).sum + (13 * (names.length + 1) + 43) ≤ R.locals) (hRcells : cells + 1 ≤ R.cells) (hRslots : slots + 6 ≤ R.slots) (hlocks : meth.locks = false)
    (hx : ∀ t : State, s.vm.Alike t.vm → H.size ≤ t.heap.size → (∀ q : Nat, q < H.size → t.heap[q]? = H[q]?) → XC cls s t)
    (hf : ∀ z ∈ locs, free z.base) (hc : cells + 1 ≤ mc) (hs : slots + 6 ≤ ms) :
    W p l e R s m args below meth c H locs cells slots (vx_MQ below Qc XC args s mc ms free) (F0 m pc ls rest) := by
  intro T hT X
  have htr : e.platform.stackTraces = false := (show e.platform.stackTraces = l.stackTraces by rw [X.admits.platform]).trans hl
  have Y := vx_rebase X (R' := { frames := R.frames, locals := R.locals, cells := 1, slots := 6 }) (Nat.le_refl _) (Nat.le_refl _) hRcells hRslots
  obtain ⟨s', hA⟩ : ∃ z, z = (T.setVm s.vm).setFrames (.invoking m args :: below) := ⟨_, rfl⟩
  rw [← hA] at Y
  have hvm : s'.vm = s.vm := by rw [hA]; rfl
  have hhp : s'.heap = H := by rw [hA]; exact hT
  have hW0 : s.WarmedH s'.vm := by rw [hvm]; exact State.WarmedH.refl s
  have hat' : ∀ w ∈ vx_atS own ic cls names, w.before args s' = true := fun w hw => vx_ot_at hW0 hvm.symm (hgood w (List.mem_cons_of_mem _ (List.mem_cons_of_mem _ hw))) (hat w hw)
  have hk' : (Cond.classLink own ik cls).before args s' = true := vx_ot_at hW0 hvm.symm (hgood _ List.mem_cons_self) hk
  have hini' : (Cond.initialized cls).before args s' = true := vx_ot_at hW0 hvm.symm (hgood _ (List.mem_cons_of_mem _ List.mem_cons_self)) hini
  have hU' : vx_Zq Bundle.tN "UNASSIGNED_STACK" Bundle.steD A s' s'.heap := by rw [hhp]; exact vx_Zq.moved hW0.alike (hU.kept hS.2.1)
  have hN' : vx_Zq Bundle.tN "SUPPRESSED_SENTINEL" Bundle.listD A s' s'.heap := by rw [hhp]; exact vx_Zq.moved hW0.alike (hN.kept hS.2.1)
  have h : ∀ w ∈ Bundle.ownAtoms own ic cls names, w.before args s' = true := vx_own hat' (vx_isRefq hU'.1) (vx_isRefq hN'.1) hU'.2.word hN'.2.word
  have hown' : s'.vm.findClass own = some m.cls := by rw [hvm]; exact hown
  have hins : (Cond.instantiable cls 6).before args s' = true := h _ (by simp [Bundle.ownAtoms])
  obtain ⟨vm₁, cX, kX, hfX, hkX, -, -, X₁, st1⟩ := Y.newCold hexec (own := own) (C := cls) (index := ik) (n := 6) hown' hk' hins hini'
    (g := F0 m pc ls rest) rfl (by rw [hb]; exact d0) (Nat.le_refl _) (Nat.le_refl _)
  generalize hT1 : (T.setVm vm₁).pushCell { cls := cX, slots := kX.instanceTypes.map defaultValue, vm := .none } = T1 at X₁ st1
  have hcat : (Value.ref T.heap.size).category = 1 := rfl
  have hcellA : T1.heap[T.heap.size]? = some (freshCell cX kX) := by rw [← hT1]; exact State.heap_pushCell_size _ _
  have d3' : decode c.code (pc + 3) = .ok (.dup, 1) := by rw [hb]; exact d3
  have d4' : decode c.code (pc + 4) = .ok (.ldc is, 2) := by rw [hb]; exact d4
  have hstr' : vk_R own is text sa s' := vk_R.warm hW0 hstr
  obtain ⟨U, hsteps, hrun, hend, hW, hsame, ce, hce, hO⟩ := X₁.ctorThrowS hexec htr (own := own) (cls := cls) (names := names) (ic := ic) hown' hcls hnames h (fun x hx => nomatch hx) hfX hkX hcellA (by rw [hhp, hT]; exact Nat.le_refl _) (msg := .ref sa) rfl
    (g := { method := m, pc := pc + 6, locals := ls, stack := .ref sa :: .ref T.heap.size :: .ref T.heap.size :: rest, locked := none }) rfl hsize rfl rfl (rest := rest) rfl
    (by rw [hb]; exact d6) (by rw [hb]; exact d9) hout hRframes (by simp only [List.map_cons, List.sum_cons, hcat]; omega) hlocks
  obtain ⟨f1, f2⟩ := vx_frame hsame
  rw [hhp] at f1 f2
  have hWs : s.WarmedH U.vm := State.WarmedH.trans hW0 hW
  have hcl : s.vm.findClass cls = some ce.cls := by
    have h9 := hO.cls
    rw [hvm] at h9
    exact h9
  have hall : s.sameButNew ({ U with vm := s.vm } : State) locs mc ms := by
    subst hA
    obtain ⟨e1, e2⟩ := hsame
    rw [State.setFrames_setFrames] at e1
    have h2 : (T.setVm s.vm).sameButNew ({ U with vm := s.vm } : State) [] (0 + 1) (0 + 6) := ⟨e1, e2⟩
    have h3 := X.same.trans h2
    rw [List.append_nil] at h3
    exact h3.mono hc hs
  refine ⟨U, ?_, .threw T.heap.size, hrun, hend, Or.inr ⟨T.heap.size, rfl, cls, ce, locs, hx U hWs.alike f1 (fun q hq => f2 q hq (fun z hz => nomatch hz)), hce, hO.vm, hcl, hWs, hall, hf⟩⟩
  refine st1 _ ?_
  show Steps p.tables e below (T1.setTop { method := m, pc := pc + 3, locals := ls, stack := .ref T.heap.size :: rest, locked := none }) _
  jvm_step X₁.here [X₁.here.top, hexec, d3', Value.category]
  exact X₁.ldcString hexec (own := own) (text := text) (index := is) (a := sa) hown' hstr'.1 hstr'.2
    (g := { method := m, pc := pc + 4, locals := ls, stack := .ref T.heap.size :: .ref T.heap.size :: rest, locked := none }) rfl d4' _ hsteps
/-- 'throw new E("text")', the text by a wide index -/
theorem vx_throwSW {cc : ByteArray} {pc : Nat} (hexec : p.tables.exec = Jvm.exec) (hb : c.code = cc) (hl : l.stackTraces = false) {own cls text : String} {names : List String} {ik is ic mc ms sa : Nat} {A : Nat → Prop}
    (hown : s.vm.findClass own = some m.cls) (hcls : Bundle.fit cls = true) (hnames : ∀ n ∈ names, Bundle.fit n = true)
    (hk : (Cond.classLink own ik cls).before args s = true) (hini : (Cond.initialized cls).before args s = true) (hstr : vk_R own is text sa s) (hat : ∀ w ∈ vx_atS own ic cls names, w.before args s = true)
    (hgood : ∀ w ∈ Cond.classLink own ik cls :: Cond.initialized cls :: vx_atS own ic cls names, vx_ot w = true)
    (hU : vx_Zq Bundle.tN "UNASSIGNED_STACK" Bundle.steD A s s.heap) (hN : vx_Zq Bundle.tN "SUPPRESSED_SENTINEL" Bundle.listD A s s.heap) (hS : va_S A s.heap H locs) (hsize : ls.size = c.maxLocals)
    (d0 : decode cc pc = .ok (.new ik, 3)) (d3 : decode cc (pc + 3) = .ok (.dup, 1)) (d4 : decode cc (pc + 4) = .ok (.ldc_w is, 3)) (d7 : decode cc (pc + 7) = .ok (.invokespecial ic, 3)) (d10 : decode cc (pc + 10) = .ok (.athrow, 1))
    (hout : ∀ x ∈ c.exceptionTable.toList, covers x (pc + 10) = false)
    (hRframes : names.length + 3 < R.frames) (hRlocals : (rest.map fun v => v.category).sum + (13 * (names.length + 1) + 43) ≤ R.locals) (hRcells : cells + 1 ≤ R.cells) (hRslots : slots + 6 ≤ R.slots) (hlocks : meth.locks = false)
    (hx : ∀ t : State, s.vm.Alike t.vm → H.size ≤ t.heap.size → (∀ q : Nat, q < H.size → t.heap[q]? = H[q]?) → XC cls s t)
    (hf : ∀ z ∈ locs, free z.base) (hc : cells + 1 ≤ mc) (hs : slots + 6 ≤ ms) :
    W p l e R s m args below meth c H locs cells slots (vx_MQ below Qc XC args s mc ms free) (F0 m pc ls rest) := by
  intro T hT X
  have htr : e.platform.stackTraces = false := (show e.platform.stackTraces = l.stackTraces by rw [X.admits.platform]).trans hl
  have Y := vx_rebase X (R' := { frames := R.frames, locals := R.locals, cells := 1, slots := 6 }) (Nat.le_refl _) (Nat.le_refl _) hRcells hRslots
  obtain ⟨s', hA⟩ : ∃ z, z = (T.setVm s.vm).setFrames (.invoking m args :: below) := ⟨_, rfl⟩
  rw [← hA] at Y
  have hvm : s'.vm = s.vm := by rw [hA]; rfl
  have hhp : s'.heap = H := by rw [hA]; exact hT
  have hW0 : s.WarmedH s'.vm := by rw [hvm]; exact State.WarmedH.refl s
  have hat' : ∀ w ∈ vx_atS own ic cls names, w.before args s' = true := fun w hw => vx_ot_at hW0 hvm.symm (hgood w (List.mem_cons_of_mem _ (List.mem_cons_of_mem _ hw))) (hat w hw)
  have hk' : (Cond.classLink own ik cls).before args s' = true := vx_ot_at hW0 hvm.symm (hgood _ List.mem_cons_self) hk
  have hini' : (Cond.initialized cls).before args s' = true := vx_ot_at hW0 hvm.symm (hgood _ (List.mem_cons_of_mem _ List.mem_cons_self)) hini
  have hU' : vx_Zq Bundle.tN "UNASSIGNED_STACK" Bundle.steD A s' s'.heap := by rw [hhp]; exact vx_Zq.moved hW0.alike (hU.kept hS.2.1)
  have hN' : vx_Zq Bundle.tN "SUPPRESSED_SENTINEL" Bundle.listD A s' s'.heap := by rw [hhp]; exact vx_Zq.moved hW0.alike (hN.kept hS.2.1)
  have h : ∀ w ∈ Bundle.ownAtoms own ic cls names, w.before args s' = true := vx_own hat' (vx_isRefq hU'.1) (vx_isRefq hN'.1) hU'.2.word hN'.2.word
  have hown' : s'.vm.findClass own = some m.cls := by rw [hvm]; exact hown
  have hins : (Cond.instantiable cls 6).before args s' = true := h _ (by simp [Bundle.ownAtoms])
  obtain ⟨vm₁, cX, kX, hfX, hkX, -, -, X₁, st1⟩ := Y.newCold hexec (own := own) (C := cls) (index := ik) (n := 6) hown' hk' hins hini'
    (g := F0 m pc ls rest) rfl (by rw [hb]; exact d0) (Nat.le_refl _) (Nat.le_refl _)
  generalize hT1 : (T.setVm vm₁).pushCell { cls := cX, slots := kX.instanceTypes.map defaultValue, vm := .none } = T1 at X₁ st1
  have hcat : (Value.ref T.heap.size).category = 1 := rfl
  have hcellA : T1.heap[T.heap.size]? = some (freshCell cX kX) := by rw [← hT1]; exact State.heap_pushCell_size _ _
  have d3' : decode c.code (pc + 3) = .ok (.dup, 1) := by rw [hb]; exact d3
  have d4' : decode c.code (pc + 4) = .ok (.ldc_w is, 3) := by rw [hb]; exact d4
  have hstr' : vk_R own is text sa s' := vk_R.warm hW0 hstr
  obtain ⟨U, hsteps, hrun, hend, hW, hsame, ce, hce, hO⟩ := X₁.ctorThrowS hexec htr (own := own) (cls := cls) (names := names) (ic := ic) hown' hcls hnames h (fun x hx => nomatch hx) hfX hkX hcellA (by rw [hhp, hT]; exact Nat.le_refl _) (msg := .ref sa) rfl
    (g := { method := m, pc := pc + 7, locals := ls, stack := .ref sa :: .ref T.heap.size :: .ref T.heap.size :: rest, locked := none }) rfl hsize rfl rfl (rest := rest) rfl
    (by rw [hb]; exact d7) (by rw [hb]; exact d10) hout hRframes (by simp only [List.map_cons, List.sum_cons, hcat]; omega) hlocks
  obtain ⟨f1, f2⟩ := vx_frame hsame
  rw [hhp] at f1 f2
  have hWs : s.WarmedH U.vm := State.WarmedH.trans hW0 hW
  have hcl : s.vm.findClass cls = some ce.cls := by
    have h9 := hO.cls
    rw [hvm] at h9
    exact h9
  have hall : s.sameButNew ({ U with vm := s.vm } : State) locs mc ms := by
    subst hA
    obtain ⟨e1, e2⟩ := hsame
    rw [State.setFrames_setFrames] at e1
    have h2 : (T.setVm s.vm).sameButNew ({ U with vm := s.vm } : State) [] (0 + 1) (0 + 6) := ⟨e1, e2⟩
    have h3 := X.same.trans h2
    rw [List.append_nil] at h3
    exact h3.mono hc hs
  refine ⟨U, ?_, .threw T.heap.size, hrun, hend, Or.inr ⟨T.heap.size, rfl, cls, ce, locs, hx U hWs.alike f1 (fun q hq => f2 q hq (fun z hz => nomatch hz)), hce, hO.vm, hcl, hWs, hall, hf⟩⟩
  refine st1 _ ?_
  show Steps p.tables e below (T1.setTop { method := m, pc := pc + 3, locals := ls, stack := .ref T.heap.size :: rest, locked := none }) _
  jvm_step X₁.here [X₁.here.top, hexec, d3', Value.category]
  exact X₁.ldcStringW hexec (own := own) (text := text) (index := is) (a := sa) hown' hstr'.1 hstr'.2
    (g := { method := m, pc := pc + 4, locals := ls, stack := .ref T.heap.size :: .ref T.heap.size :: rest, locked := none }) rfl d4' _ hsteps
end Ends
section Bodies
variable {l : Launch}
theorem vx_ofW {y : MethodName} {ws ws' : List Cond} {rm : Room} {Pc : Array Value → State → Prop} {Qc : Array Value → State → Outcome → State → Prop} {XC : String → State → State → Prop} {mc ms : Nat} {free : Addr → Prop} {cc : ByteArray} {maxL : Nat} {ret : Option FieldType}
    (hy : plainName y.cls = true) (hw : ws = Cond.code y cc maxL ret :: ws')
    (body : ∀ p e s m args below meth c s₁, BodyLoose p l y (headSpec ws rm) cc maxL ret e s m args below meth c s₁ → c.maxLocals = maxL → (∀ x ∈ c.exceptionTable.toList, False) → Pc args s →
      W p l e (headSpec ws rm).room s m args below meth c s.heap [] 0 0 (vx_MQ below Qc XC args s mc ms free) (entryFrame m args maxL)) : vx_Met l y ws rm Pc Qc XC mc ms free := by
  refine MetFree.of_bodyS (code := cc) (maxLocals := maxL) (ret := ret) hy ?_ ?_
  · intro args s m h hn
    obtain ⟨meth, c, h1, h2, h3, h4, h5, h6, -, -⟩ := Cond.code_spec hn (atoms_spec (ws := ws) h _ (by rw [hw]; exact List.mem_cons_self))
    exact ⟨meth, c, h1, h2, h3, h4, h5, h6⟩
  · intro p e s m args below meth c s₁ B hml hP _
    have hh0 : s₁.heap = s.heap := by rw [B.state]; rfl
    have ht : ∀ x ∈ c.exceptionTable.toList, False := by
      obtain ⟨meth9, c9, h1, h2, -, -, -, -, h7, -⟩ := Cond.code_spec B.named (atoms_spec (ws := ws) B.pre _ (by rw [hw]; exact List.mem_cons_self))
      cases Option.some.inj (h1.symm.trans B.method)
      cases Option.some.inj (h2.symm.trans (Stand.of_body B).code)
      intro x hx
      rw [Array.isEmpty_iff.mp h7] at hx
      cases hx
    obtain ⟨t, a1, o, b1, b2, b3⟩ := body p e s m args below meth c s₁ B hml ht hP s₁ hh0 (Stand.of_body B)
    exact ⟨t, o, a1, b1, b2, b3⟩
/-- the table of a body with handlers -/
theorem vx_table {p : Program} {x y : MethodName} {S : Spec} {cc bytes : ByteArray} {maxL maxL' : Nat} {ret ret' : Option FieldType} {e : Env} {s s₁ : State} {m : MethodId} {args : Array Value} {below : List Frame} {meth : Method} {c : Code} {hh : List (Nat × Nat × Nat × Nat)}
    (B : BodyLoose p l y S cc maxL ret e s m args below meth c s₁) (h : (Cond.codeWith y bytes maxL' ret' hh).before args s = true) : c.exceptionTable.toList = tableOf hh := by
  obtain ⟨m9, meth9, c9, hn9, h1, h2, -, -, h6, -⟩ := Cond.codeWith_spec h
  cases Option.some.inj (hn9.symm.trans B.named)
  cases Option.some.inj (h1.symm.trans B.method)
  cases Option.some.inj (h2.symm.trans (Stand.of_body B).code)
  rw [← h6, table_eq]
end Bodies
end VXA
/-! ===== END ===== -/
/-! ===== BEGIN a static call of a method with an exception table ===== -/
section VXS
variable {p : Program} {l : Launch} {e : Env} {R : Room} {s : State} {m : MethodId} {args : Array Value} {below : List Frame} {meth : Method} {c : Code} {T : State} {H : Heap} {locs : List Loc} {cells slots : Nat}
abbrev vx_CSW (R : Room) (s : State) (args : Array Value) (own : String) (index : Nat) (y : MethodName) (bytes : ByteArray) (maxL : Nat) (ret : Option FieldType) (hh : List (Nat × Nat × Nat × Nat)) (ws : List Cond) (rm : Room) (mc ms n : Nat) : Prop :=
  (rm.cells = mc ∧ rm.slots = ms ∧ rm.frames + 1 ≤ R.frames ∧ 8 + (maxL + 11) + rm.locals ≤ R.locals ∧ (∀ w ∈ ws, ∀ (a' : Array Value) (U : State), s.WarmedH U.vm → w.before a' U = true) ∧ Cond.codeWith y bytes maxL ret hh ∈ ws) ∧
  (Cond.codeWith y bytes maxL ret hh).before args s = true ∧ (Cond.initialized y.cls).before args s = true ∧ (y.cls ≠ "java/lang/invoke/MethodHandle" ∧ y.cls ≠ "java/lang/invoke/VarHandle") ∧
  (∀ sig, parseMethodDescriptor y.desc = some sig → n = sig.parameters.length) ∧ (Cond.methodLink own index y).before args s = true ∧ (Cond.static y).before args s = true
theorem vx_cwSW {own : String} {index maxL mc ms : Nat} {y : MethodName} {bytes : ByteArray} {ret : Option FieldType} {hh : List (Nat × Nat × Nat × Nat)} {Ts ws ws' : List Cond} {rm : Room} (n : Nat) (ht : ∀ w ∈ Ts, w.before args s = true) (hT : GoodIn Ts (va_wsS own index y ws)) (hw : ws = Cond.codeWith y bytes maxL ret hh :: ws') (hrc : rm.cells = mc) (hrs : rm.slots = ms)
    (hd : y.cls ≠ "java/lang/invoke/MethodHandle" ∧ y.cls ≠ "java/lang/invoke/VarHandle" ∧ (parseMethodDescriptor y.desc).map (fun d => d.parameters.length) = some n) (hR : rm.frames + 1 ≤ R.frames ∧ 8 + (maxL + 11) + rm.locals ≤ R.locals) :
    vx_CSW R s args own index y bytes maxL ret hh ws rm mc ms n := by
  have ok : ∀ w ∈ va_wsS own index y ws, w.before args s = true := fun w h => ht w (hT w h).1
  have hG : GoodIn Ts ws := fun w h => hT w (by unfold va_wsS; exact List.mem_append_right _ h)
  have hc : Cond.codeWith y bytes maxL ret hh ∈ ws := by rw [hw]; exact List.mem_cons_self
  refine ⟨⟨hrc, hrs, hR.1, hR.2, pay_in ht hG, hc⟩, ht _ (hG _ hc).1, ok _ (by simp [va_wsS]), ⟨hd.1, hd.2.1⟩, fun sig h => ?_, ok _ (by simp [va_wsS]), ok _ (by simp [va_wsS])⟩
  have h2 := hd.2.2
  rw [h] at h2
  exact (Option.some.inj h2).symm
theorem vx_callSW (X : Stand p l e R s m args below meth c T locs cells slots) (hexec : p.tables.exec = Jvm.exec) {own : String} {index : Nat} {y : MethodName} {bytes : ByteArray} {maxL : Nat} {ret : Option FieldType} {hh : List (Nat × Nat × Nat × Nat)}
    (hown : s.vm.findClass own = some m.cls) (hlink : (Cond.methodLink own index y).before args s = true) (hstat : (Cond.static y).before args s = true) (hinit : (Cond.initialized y.cls).before args s = true)
    (hcode : (Cond.codeWith y bytes maxL ret hh).before args s = true) (hy : y.cls ≠ "java/lang/invoke/MethodHandle" ∧ y.cls ≠ "java/lang/invoke/VarHandle")
    {W9 : Nat} {Pre : Pt → Array Value → Prop} {Post : Pt → Array Value → Option Value → Pt → Prop} (hK : Back l R p e below s args y 3 W9 Pre Post)
    {g : JFrame} (hg : g.method = m) (hsize : g.locals.size = c.maxLocals) {argsL rest : List Value} (hlen : ∀ sig, parseMethodDescriptor y.desc = some sig → argsL.length = sig.parameters.length)
    (hstack : g.stack = argsL.reverse ++ rest) (hW : 2 * g.monitorRoom + (rest.map fun v => v.category).sum ≤ W9) (hdg : decode c.code g.pc = .ok (.invokestatic index, 3))
    (hpre : ∀ vm₁, s.WarmedH vm₁ → Pre ⟨T.setVm vm₁, locs, cells, slots⟩ argsL.toArray) :
    ∃ (v : Option Value) (vm₁ : Vm) (B : Pt), s.WarmedH vm₁ ∧ Stand p l e R s m args below meth c B.U B.locs B.cells B.slots ∧ Post ⟨T.setVm vm₁, locs, cells, slots⟩ argsL.toArray v B ∧
      ∀ target, Steps p.tables e below (B.U.setTop { g with pc := g.pc + 3, stack := v.toList ++ rest }) target → Steps p.tables e below (T.setTop g) target := by
  obtain ⟨mk, methM, cM, hnamed, hmethM, -, -, -, -, -, -, hsigM⟩ := Cond.codeWith_spec hcode
  have hstatic : methM.isStatic = true := Cond.static_spec hnamed hmethM hstat
  obtain ⟨kP, hkP, -⟩ := className_of_methodNamed hnamed
  have hinitP : kP.init = .initialized := Cond.initialized_spec (findClass_of_methodNamed hnamed) hkP hinit
  obtain ⟨vm₁, X₁, hstep₁⟩ := X.invokestatic hexec hown hlink hnamed hmethM hstatic hkP hinitP hy (g := g) hg (argsL := argsL) (rest := rest) (hlen _ hsigM) hstack hdg
  obtain ⟨v, B, X', hpost, hsteps⟩ := hK m meth c ⟨T.setVm vm₁, locs, cells, slots⟩ { g with stack := rest } (.invokestatic index) mk argsL.toArray X₁ hg hsize hdg hW (X₁.named hnamed) (hpre vm₁ X₁.warmed)
  exact ⟨v, vm₁, B, X₁.warmed, X', hpost, fun target h => hstep₁ _ fun acts => by rw [doInvoke_state]; exact hsteps.trans h⟩
theorem vx_runSW {y : MethodName} {bytes cc : ByteArray} {maxL nL mc ms n index : Nat} {ret : Option FieldType} {hh : List (Nat × Nat × Nat × Nat)} {ws : List Cond} {rm : Room} {Pc : Array Value → State → Prop} {Qc : Array Value → State → Outcome → State → Prop} {free : Addr → Prop} {Ts : List Cond} {own : String} {As rest : List Value} {g : JFrame}
    (S : CallFix p m c cc nL s args Ts own) (hM : Met l y ws rm Pc Qc mc ms free) (cw : vx_CSW R s args own index y bytes maxL ret hh ws rm mc ms n) (hp : PreS s H Pc As)
    (hg : g.method = m) (hn : As.length = n) (hsize : g.locals.size = nL) (hstack : g.stack = As.reverse ++ rest) (hW : 2 * g.monitorRoom + (rest.map fun v => v.category).sum ≤ 8) (hdg : decode cc g.pc = .ok (.invokestatic index, 3)) (hf : cells + mc ≤ R.cells ∧ slots + ms ≤ R.slots) :
    va_Run p l e R s m args below meth c H locs cells slots mc ms g rest (Qc As.toArray) (free) := by
  obtain ⟨⟨hrc, hrs, hfr, hlo, hws, hcw⟩, hcode, hini, hy, hlen, hl, hstt⟩ := cw
  have hK : Back l R p e below s args y 3 8 (PreOf R mc ms Pc) (PostOf Qc mc ms free) := va_backW (hh := hh) (bytes := bytes) (maxL := maxL) (ret := ret) hM hp.1 hrc hrs hfr hlo hws hcw (fun a' U hW => word_at hW (Or.inl (by first | rfl | simp [Cond.onTables, Cond.keeps, Cond.steady])) hini)
  obtain ⟨hx, hb, hml, ho, -⟩ := S
  intro T hT X
  obtain ⟨v, vm₁, ⟨U', l2, c2, s2⟩, hW₁, X', ⟨g', mk, t, L, e1, e2, hq, h1, hL, h2, h3⟩, st⟩ := vx_callSW X hx (hh := hh) (bytes := bytes) (maxL := maxL) (ret := ret) ho hl hstt hini hcode hy hK hg (hsize.trans hml.symm) (argsL := As) (rest := rest) (fun sig h => hn.trans (hlen sig h)) hstack hW (by rw [hb]; exact hdg)
    (fun vm₁ hW₁ => ⟨hf.1, hf.2, hp.2 (T.setVm vm₁) hT hW₁⟩)
  dsimp only [Pt.U, Pt.locs, Pt.cells, Pt.slots] at X' e1 e2 h1 h2 h3 st
  subst h1; subst h2; subst h3
  exact ⟨v, (T.setVm vm₁).calling g' mk As.toArray, t, U', L, hT, X', hL, e1, e2, hq, st⟩
/-- not caught here, past rows that name other classes: it goes on to the caller -/
theorem vx_outP {p : Program} {l : Launch} {e : Env} {R : Room} {s : State} {m : MethodId} {args : Array Value} {below : List Frame} {meth : Method} {c : Code} {H : Heap} {locs : List Loc} {cells slots : Nat} {free : Addr → Prop} {ls : Array Slot} {rest : List Value} {Qc : Array Value → State → Outcome → State → Prop} {XC : String → State → State → Prop}
    {pc : Nat} {own E : String} {ce : Cell} {q : Addr} {mc ms : Nat} (hown : s.vm.findClass own = some m.cls) (hlocks : meth.locks = false)
    (hpass : ∀ z ∈ c.exceptionTable.toList, covers z pc = false ∨ (z.catchType ≠ 0 ∧ ∃ nm : String, (Cond.classLink own z.catchType nm).before args s = true ∧ va_Nc E nm s)) (hcell : H[q]? = some ce) (hv : ce.vm = .none) (hcl : s.vm.findClass E = some ce.cls)
    (hx : ∀ t : State, t.heap = H → s.vm.Alike t.vm → XC E s t) (hf : ∀ z ∈ locs, free z.base) (hc : cells ≤ mc) (hs : slots ≤ ms) :
    vx_W p l e R s m args below meth c H locs cells slots (vx_MQ below Qc XC args s mc ms free) (F0 m pc ls rest) q := by
  intro T hT X
  have hpl : e.platform.magicAccessors = ({} : Platform).magicAccessors := by rw [X.admits.platform]
  obtain ⟨vm', hW', X', st⟩ := X.outThrough hlocks q (g := F0 m pc ls rest) rfl rfl rfl (cell := ce) (by rw [hT]; exact hcell) (by rw [hv]; rfl)
    (by obtain ⟨k9, h9, -⟩ := Vm.findClass_spec hcl; exact ⟨k9, h9⟩) (fun z hz => by
      rcases hpass z hz with h | ⟨hz0, nm, hl1, hn1⟩
      · exact Or.inl h
      · obtain ⟨c6, hc6, hcl6⟩ := Cond.classLink_spec hown hl1 e.platform hpl
        obtain ⟨a8, b8, h1, h2, h3⟩ := hn1
        cases Option.some.inj (h1.symm.trans hcl)
        cases Option.some.inj (h2.symm.trans hc6)
        exact Or.inr ⟨hz0, _, hcl6, h3⟩)
  obtain ⟨g₀, hfr⟩ := X'.frames_eq
  have hcell9 : ((T.setVm vm').setFrames (.throwing q :: below)).heap[q]? = some ce := by
    show T.heap[q]? = some ce
    rw [hT]; exact hcell
  have hend : Ended ((T.setVm vm').setFrames (.throwing q :: below)) below (.threw q) := State.frames_setFrames _ (State.cur_lt_of_frames hfr)
  refine ⟨(T.setVm vm').setFrames (.throwing q :: below), ?_, .threw q, X'.here.running, hend, Or.inr ⟨q, rfl, E, ce, locs, hx _ hT (X'.ends _).1.alike, hcell9, hv, hcl, (X'.ends _).1, (X'.ends _).2.mono hc hs, hf⟩⟩
  rw [X.pushThrowing_eq]
  exact st
/-- a thing of a world lies in the heap -/
theorem vx_lt {D : va_G} {cl : List vw_C} {ws : va_W} {H1 : Heap} (h : va_P D cl ws H1) {k : Nat} {q : Nat × va_E} (hk : ws[k]? = some q) : q.1 < H1.size := (h k q hk).lt
end VXS
/-! ===== END ===== -/
/-! ===== BEGIN methods with a table of their own: called by a name, returning or throwing ===== -/
section VXH
/-! vx_backW, vx_callVX, vx_callSX, vx_callVW, vx_runVW, vx_runVX, vx_runSX, vx_ofWH follow the same proofs as their sisters above (Free/Laws.lean, Shelf42/LK1.lean); vx_outP calls Shelf42/NT130.lean (outThrough). -/
section
variable {l : Launch} {R : Room} {p : Program} {e : Env} {below : List Frame} {s : State} {sargs : Array Value} {y : MethodName} {len W9 : Nat}
theorem vx_backW {ws : List Cond} {rm : Room} {Pc : Array Value → State → Prop} {Qc : Array Value → State → Outcome → State → Prop} {XC : String → State → State → Prop} {mc ms : Nat} {free : Addr → Prop} {bytes : ByteArray} {maxL : Nat} {ret : Option FieldType} {hh : List (Nat × Nat × Nat × Nat)}
    (hM : vx_Met l y ws rm Pc Qc XC mc ms free) (hblind : FrameBlind Pc) (hrc : rm.cells = mc) (hrs : rm.slots = ms)
    (hframes : rm.frames + 1 ≤ R.frames) (hlocals : W9 + (maxL + 11) + rm.locals ≤ R.locals)
    (hws : ∀ w ∈ ws, ∀ a' U, s.WarmedH U.vm → w.before a' U = true) (hcode : Cond.codeWith y bytes maxL ret hh ∈ ws) (hinit : ∀ a' U, s.WarmedH U.vm → (Cond.initialized y.cls).before a' U = true) :
    vx_Back l R p e below s sargs y len W9 (PreOf R mc ms Pc) (PostOf Qc mc ms free) (vx_Post XC mc ms free) := by
  intro m meth c A g ig mk a X hg hsize hdg hW hn hp
  have h1 : (headSpec ws rm).pre.before a A.U = true := atoms_intro fun w hw => hws w hw _ _ X.warmed
  have h2 : (Cond.codeWith y bytes maxL ret hh).before a A.U = true := hws _ hcode _ _ X.warmed
  have h3 : (Cond.initialized y.cls).before a A.U = true := hinit _ _ X.warmed
  have h4 : A.cells + (headSpec ws rm).room.cells ≤ R.cells := by rw [show (headSpec ws rm).room.cells = mc from hrc]; exact hp.1
  have h5 : A.slots + (headSpec ws rm).room.slots ≤ R.slots := by rw [show (headSpec ws rm).room.slots = ms from hrs]; exact hp.2.1
  have hPc : Pc a (A.U.calling g mk a) := hblind _ _ _ _ hp.2.2
  obtain ⟨U, Ls, c0, s0⟩ := A
  dsimp only [Pt.U, Pt.locs, Pt.cells, Pt.slots] at h1 h2 h3 h4 h5 X hn hPc ⊢
  obtain ⟨m9, methY, cY, hn9, hmY, hcY, -, hlY, -⟩ := Cond.codeWith_spec h2
  cases Option.some.inj (hn9.symm.trans hn)
  obtain ⟨kY, hkY, -⟩ := className_of_methodNamed hn
  have hinitY : kY.init = .initialized := Cond.initialized_spec (findClass_of_methodNamed hn) hkY h3
  have h : At U g.method c below := by rw [hg]; exact X.here
  have hlocals9 : W9 + (maxL + 11) + (headSpec ws rm).room.locals ≤ R.locals := hlocals
  have happ : (headSpec ws rm).appliesLoose y e.platform (U.calling g mk a) = true :=
    Spec.appliesLoose_calling (g := g) h hdg hn hkY hinitY
      (X.room_calling (g := g) (R' := (headSpec ws rm).room) hsize hmY hcY hframes (by rw [hlY]; omega) h4 h5) h1
  obtain ⟨mid, hmid⟩ := h.above
  have hfr : (U.setTop g).frames = (.java g :: mid) ++ below := by rw [State.frames_setTop' g h.top, hmid]; rfl
  obtain ⟨o, s₂, hsteps, -, hend, hq⟩ := Steps.callFree hM p X.admits X.cas X.clock (acts := []) hfr happ hPc trivial
  have hq' : vx_Q Qc XC mc ms free a (U.calling g mk a) o s₂ := hq
  rw [State.frames_setTop' g h.top] at hend
  obtain ⟨g₀, hg0⟩ := Option.isSome_iff_exists.mp h.top
  obtain ⟨r, hr⟩ := State.topJava?_eq_some.mp hg0
  have hr' : (({ U with heap := s₂.heap, slotsUsed := s₂.slotsUsed } : State).setVm s₂.vm).frames = .java g₀ :: r := hr
  rcases hq' with ⟨hqc, L, hfe, hL⟩ | ⟨q, rfl, E, ce, L, hx, hce, hcv, hcl, hW₂, hsm, hL⟩
  · obtain ⟨⟨v, rfl⟩, hW₂, e2, q2, q3, q4, q5, q6⟩ := id hfe
    have e3 : s₂ = ({ (U.calling g mk a).setFrames s₂.frames with heap := s₂.heap, slotsUsed := s₂.slotsUsed } : State).setVm s₂.vm := by
      have : s₂ = ({ s₂ with vm := (U.calling g mk a).vm } : State).setVm s₂.vm := rfl
      rw [e2] at this
      exact this
    obtain ⟨c₂, i₂, len₂, hc₂, hd₂, hf₂⟩ := hend
    have hW' : U.WarmedH s₂.vm := hW₂
    have hcc : c₂ = c := by
      have h1 : s₂.code? g.method = U.code? g.method := by
        rw [State.code?_eq, State.code?_eq, hW'.alike.method?]
      exact Option.some.inj (hc₂.symm.trans (h1.trans h.code))
    subst hcc
    have hlen : len₂ = len := by rw [hdg] at hd₂; cases hd₂; rfl
    subst hlen
    have hs₂ : s₂ = (({ U with heap := s₂.heap, slotsUsed := s₂.slotsUsed } : State).setVm s₂.vm).setTop { g with pc := g.pc + len₂, stack := v.toList ++ g.stack } := by
      refine e3.trans ?_
      rw [hf₂, State.calling_eq h.top, State.setFrames_setFrames, State.setTop_of_frames _ hr', hr]
      rfl
    have hsame : U.sameButNew ({ U with heap := s₂.heap, slotsUsed := s₂.slotsUsed } : State) L mc ms := by
      refine ⟨?_, q2, q3, q4, q5, q6⟩
      obtain ⟨t, ht, -⟩ := State.frames_cons hr
      show ({ U with heap := s₂.heap, slotsUsed := s₂.slotsUsed } : State) = { U.setFrames U.frames with heap := s₂.heap, slotsUsed := s₂.slotsUsed }
      rw [State.setFrames_self ht]
    subst hg
    refine Or.inl ⟨v, ⟨(({ U with heap := s₂.heap, slotsUsed := s₂.slotsUsed } : State).setVm s₂.vm), Ls ++ L, c0 + mc, s0 + ms⟩,
      ⟨X.admits, X.cas, X.clock, X.frames, X.room, X.hears, X.method, X.code, (X.here.setHeapUsed s₂.heap s₂.slotsUsed).setVm hW'.alike, X.tail, State.WarmedH.trans X.warmed hW', X.limits, X.bytes, X.same.trans (hsame.setVm s.vm)⟩,
      ⟨g, mk, s₂, L, rfl, rfl, hqc, rfl, hL, rfl, rfl⟩, ?_⟩
    show Steps p.tables e below _ ((({ U with heap := s₂.heap, slotsUsed := s₂.slotsUsed } : State).setVm s₂.vm).setTop { g with pc := g.pc + len₂, stack := v.toList ++ g.stack })
    rw [← hs₂]
    exact hsteps
  · obtain ⟨e2, q2, q3, q4, q5, q6⟩ := id hsm
    have e3 : s₂ = ({ (U.calling g mk a).setFrames s₂.frames with heap := s₂.heap, slotsUsed := s₂.slotsUsed } : State).setVm s₂.vm := by
      have : s₂ = ({ s₂ with vm := (U.calling g mk a).vm } : State).setVm s₂.vm := rfl
      rw [e2] at this
      exact this
    have hf₂ : s₂.frames = .throwing q :: .java g :: U.frames.tail := hend
    have hW' : U.WarmedH s₂.vm := hW₂
    have hs₂ : s₂ = ((({ U with heap := s₂.heap, slotsUsed := s₂.slotsUsed } : State).setVm s₂.vm).setTop g).pushFrame (.throwing q) := by
      refine e3.trans ?_
      rw [hf₂, State.calling_eq h.top, State.setFrames_setFrames, State.pushFrame, State.frames_setTop _ hr', State.setTop_of_frames _ hr', State.setFrames_setFrames, hr]
      rfl
    have hsame : U.sameButNew ({ U with heap := s₂.heap, slotsUsed := s₂.slotsUsed } : State) L mc ms := by
      refine ⟨?_, q2, q3, q4, q5, q6⟩
      obtain ⟨t, ht, -⟩ := State.frames_cons hr
      show ({ U with heap := s₂.heap, slotsUsed := s₂.slotsUsed } : State) = { U.setFrames U.frames with heap := s₂.heap, slotsUsed := s₂.slotsUsed }
      rw [State.setFrames_self ht]
    subst hg
    refine Or.inr ⟨q, ⟨(({ U with heap := s₂.heap, slotsUsed := s₂.slotsUsed } : State).setVm s₂.vm), Ls ++ L, c0 + mc, s0 + ms⟩,
      ⟨X.admits, X.cas, X.clock, X.frames, X.room, X.hears, X.method, X.code, (X.here.setHeapUsed s₂.heap s₂.slotsUsed).setVm hW'.alike, X.tail, State.WarmedH.trans X.warmed hW', X.limits, X.bytes, X.same.trans (hsame.setVm s.vm)⟩,
      ⟨g, mk, s₂, L, E, ce, rfl, rfl, hx, hce, hcv, hcl, rfl, hL, rfl, rfl⟩, ?_⟩
    show Steps p.tables e below _ (((({ U with heap := s₂.heap, slotsUsed := s₂.slotsUsed } : State).setVm s₂.vm).setTop g).pushFrame (.throwing q))
    rw [← hs₂]
    exact hsteps
end
variable {p : Program} {l : Launch} {e : Env} {R : Room} {s : State} {m : MethodId} {args : Array Value} {below : List Frame} {meth : Method} {c : Code} {T : State} {H : Heap} {locs : List Loc} {cells slots : Nat}
theorem vx_callVX (X : Stand p l e R s m args below meth c T locs cells slots) (hexec : p.tables.exec = Jvm.exec) {own C : String} {index : Nat} {y : MethodName} {bytes : ByteArray} {maxL : Nat} {ret : Option FieldType} {hh : List (Nat × Nat × Nat × Nat)}
    (hown : s.vm.findClass own = some m.cls) (hlink : (Cond.methodLink own index y).before args s = true) (hinst : (Cond.instanceMethod y).before args s = true) (hsel : (Cond.selects C y y).before args s = true)
    (hcode : (Cond.codeWith y bytes maxL ret hh).before args s = true) (hy : y.cls ≠ "java/lang/invoke/MethodHandle" ∧ y.cls ≠ "java/lang/invoke/VarHandle")
    {W9 : Nat} {Pre : Pt → Array Value → Prop} {Post : Pt → Array Value → Option Value → Pt → Prop} {PostX : Pt → Array Value → Addr → Pt → Prop} (hK : vx_Back l R p e below s args y 3 W9 Pre Post PostX)
    {b : Addr} {cellB : Cell} (hcell : T.heap[b]? = some cellB) (hobj : cellB.vm.isStatics = false) (hcls : s.vm.findClass C = some cellB.cls)
    {g : JFrame} (hg : g.method = m) (hsize : g.locals.size = c.maxLocals) {argsL rest : List Value} (hlen : ∀ sig, parseMethodDescriptor y.desc = some sig → argsL.length = sig.parameters.length)
    (hstack : g.stack = argsL.reverse ++ .ref b :: rest) (hW : 2 * g.monitorRoom + (rest.map fun v => v.category).sum ≤ W9) (hdg : decode c.code g.pc = .ok (.invokevirtual index, 3))
    (hpre : ∀ vm₁, s.WarmedH vm₁ → Pre ⟨T.setVm vm₁, locs, cells, slots⟩ (Value.ref b :: argsL).toArray) :
    (∃ (v : Option Value) (vm₁ : Vm) (B : Pt), s.WarmedH vm₁ ∧ Stand p l e R s m args below meth c B.U B.locs B.cells B.slots ∧ Post ⟨T.setVm vm₁, locs, cells, slots⟩ (Value.ref b :: argsL).toArray v B ∧
      ∀ target, Steps p.tables e below (B.U.setTop { g with pc := g.pc + 3, stack := v.toList ++ rest }) target → Steps p.tables e below (T.setTop g) target) ∨
    (∃ (q : Addr) (vm₁ : Vm) (B : Pt), s.WarmedH vm₁ ∧ Stand p l e R s m args below meth c B.U B.locs B.cells B.slots ∧ PostX ⟨T.setVm vm₁, locs, cells, slots⟩ (Value.ref b :: argsL).toArray q B ∧
      Steps p.tables e below (T.setTop g) ((B.U.setTop { g with stack := rest }).pushFrame (.throwing q))) := by
  obtain ⟨mk, methM, hnamed, hmethM, hstM, habM⟩ := Cond.instanceMethod_spec hinst
  obtain ⟨m8, methM', cM, hn8, hmethM', -, -, -, -, -, -, hsigM⟩ := Cond.codeWith_spec hcode
  cases Option.some.inj (hn8.symm.trans hnamed)
  cases hmethM.symm.trans hmethM'
  obtain ⟨c2, r2, m2, q1, q2, q3, q4, kP, hkP, hkPi⟩ := Cond.selects_spec hsel
  cases hcls.symm.trans q1
  cases (State.methodFound?_of_named hnamed hy).symm.trans q2
  cases hnamed.symm.trans q3
  have hselP : selectMethod e.platform s.vm cellB.cls mk = .method mk := by rw [Launch.admits_selectMethod X.admits]; exact q4
  obtain ⟨vm₁, X₁, hstep₁⟩ := X.invokevirtual hexec hown hlink hnamed hmethM hstM hkP hkPi hy (a := b) (cell := cellB) hcell
    (fun z h => by rw [h] at hobj; cases hobj) hselP hmethM habM hkP hkPi (g := g) hg (argsL := argsL) (rest := rest) (hlen _ hsigM) hstack hdg
  rcases hK m meth c ⟨T.setVm vm₁, locs, cells, slots⟩ { g with stack := rest } (.invokevirtual index) mk (Value.ref b :: argsL).toArray X₁ hg hsize hdg hW (X₁.named hnamed) (hpre vm₁ X₁.warmed) with ⟨v, B, X', hpost, hsteps⟩ | ⟨q, B, X', hpost, hsteps⟩
  · exact Or.inl ⟨v, vm₁, B, X₁.warmed, X', hpost, fun target h => hstep₁ _ fun acts => by rw [doInvoke_state]; exact hsteps.trans h⟩
  · exact Or.inr ⟨q, vm₁, B, X₁.warmed, X', hpost, hstep₁ _ fun acts => by rw [doInvoke_state]; exact hsteps⟩
theorem vx_callSX (X : Stand p l e R s m args below meth c T locs cells slots) (hexec : p.tables.exec = Jvm.exec) {own : String} {index : Nat} {y : MethodName} {bytes : ByteArray} {maxL : Nat} {ret : Option FieldType} {hh : List (Nat × Nat × Nat × Nat)}
    (hown : s.vm.findClass own = some m.cls) (hlink : (Cond.methodLink own index y).before args s = true) (hstat : (Cond.static y).before args s = true) (hinit : (Cond.initialized y.cls).before args s = true)
    (hcode : (Cond.codeWith y bytes maxL ret hh).before args s = true) (hy : y.cls ≠ "java/lang/invoke/MethodHandle" ∧ y.cls ≠ "java/lang/invoke/VarHandle")
    {W9 : Nat} {Pre : Pt → Array Value → Prop} {Post : Pt → Array Value → Option Value → Pt → Prop} {PostX : Pt → Array Value → Addr → Pt → Prop} (hK : vx_Back l R p e below s args y 3 W9 Pre Post PostX)
    {g : JFrame} (hg : g.method = m) (hsize : g.locals.size = c.maxLocals) {argsL rest : List Value} (hlen : ∀ sig, parseMethodDescriptor y.desc = some sig → argsL.length = sig.parameters.length)
    (hstack : g.stack = argsL.reverse ++ rest) (hW : 2 * g.monitorRoom + (rest.map fun v => v.category).sum ≤ W9) (hdg : decode c.code g.pc = .ok (.invokestatic index, 3))
    (hpre : ∀ vm₁, s.WarmedH vm₁ → Pre ⟨T.setVm vm₁, locs, cells, slots⟩ argsL.toArray) :
    (∃ (v : Option Value) (vm₁ : Vm) (B : Pt), s.WarmedH vm₁ ∧ Stand p l e R s m args below meth c B.U B.locs B.cells B.slots ∧ Post ⟨T.setVm vm₁, locs, cells, slots⟩ argsL.toArray v B ∧
      ∀ target, Steps p.tables e below (B.U.setTop { g with pc := g.pc + 3, stack := v.toList ++ rest }) target → Steps p.tables e below (T.setTop g) target) ∨
    (∃ (q : Addr) (vm₁ : Vm) (B : Pt), s.WarmedH vm₁ ∧ Stand p l e R s m args below meth c B.U B.locs B.cells B.slots ∧ PostX ⟨T.setVm vm₁, locs, cells, slots⟩ argsL.toArray q B ∧
      Steps p.tables e below (T.setTop g) ((B.U.setTop { g with stack := rest }).pushFrame (.throwing q))) := by
  obtain ⟨mk, methM, cM, hnamed, hmethM, -, -, -, -, -, -, hsigM⟩ := Cond.codeWith_spec hcode
  have hstatic : methM.isStatic = true := Cond.static_spec hnamed hmethM hstat
  obtain ⟨kP, hkP, -⟩ := className_of_methodNamed hnamed
  have hinitP : kP.init = .initialized := Cond.initialized_spec (findClass_of_methodNamed hnamed) hkP hinit
  obtain ⟨vm₁, X₁, hstep₁⟩ := X.invokestatic hexec hown hlink hnamed hmethM hstatic hkP hinitP hy (g := g) hg (argsL := argsL) (rest := rest) (hlen _ hsigM) hstack hdg
  rcases hK m meth c ⟨T.setVm vm₁, locs, cells, slots⟩ { g with stack := rest } (.invokestatic index) mk argsL.toArray X₁ hg hsize hdg hW (X₁.named hnamed) (hpre vm₁ X₁.warmed) with ⟨v, B, X', hpost, hsteps⟩ | ⟨q, B, X', hpost, hsteps⟩
  · exact Or.inl ⟨v, vm₁, B, X₁.warmed, X', hpost, fun target h => hstep₁ _ fun acts => by rw [doInvoke_state]; exact hsteps.trans h⟩
  · exact Or.inr ⟨q, vm₁, B, X₁.warmed, X', hpost, hstep₁ _ fun acts => by rw [doInvoke_state]; exact hsteps⟩
theorem vx_callVW (X : Stand p l e R s m args below meth c T locs cells slots) (hexec : p.tables.exec = Jvm.exec) {own C : String} {index : Nat} {y : MethodName} {bytes : ByteArray} {maxL : Nat} {ret : Option FieldType} {hh : List (Nat × Nat × Nat × Nat)}
    (hown : s.vm.findClass own = some m.cls) (hlink : (Cond.methodLink own index y).before args s = true) (hinst : (Cond.instanceMethod y).before args s = true) (hsel : (Cond.selects C y y).before args s = true)
    (hcode : (Cond.codeWith y bytes maxL ret hh).before args s = true) (hy : y.cls ≠ "java/lang/invoke/MethodHandle" ∧ y.cls ≠ "java/lang/invoke/VarHandle")
    {W9 : Nat} {Pre : Pt → Array Value → Prop} {Post : Pt → Array Value → Option Value → Pt → Prop} (hK : Back l R p e below s args y 3 W9 Pre Post)
    {b : Addr} {cellB : Cell} (hcell : T.heap[b]? = some cellB) (hobj : cellB.vm.isStatics = false) (hcls : s.vm.findClass C = some cellB.cls)
    {g : JFrame} (hg : g.method = m) (hsize : g.locals.size = c.maxLocals) {argsL rest : List Value} (hlen : ∀ sig, parseMethodDescriptor y.desc = some sig → argsL.length = sig.parameters.length)
    (hstack : g.stack = argsL.reverse ++ .ref b :: rest) (hW : 2 * g.monitorRoom + (rest.map fun v => v.category).sum ≤ W9) (hdg : decode c.code g.pc = .ok (.invokevirtual index, 3))
    (hpre : ∀ vm₁, s.WarmedH vm₁ → Pre ⟨T.setVm vm₁, locs, cells, slots⟩ (Value.ref b :: argsL).toArray) :
    ∃ (v : Option Value) (vm₁ : Vm) (B : Pt), s.WarmedH vm₁ ∧ Stand p l e R s m args below meth c B.U B.locs B.cells B.slots ∧ Post ⟨T.setVm vm₁, locs, cells, slots⟩ (Value.ref b :: argsL).toArray v B ∧
      ∀ target, Steps p.tables e below (B.U.setTop { g with pc := g.pc + 3, stack := v.toList ++ rest }) target → Steps p.tables e below (T.setTop g) target := by
  obtain ⟨mk, methM, hnamed, hmethM, hstM, habM⟩ := Cond.instanceMethod_spec hinst
  obtain ⟨m8, methM', cM, hn8, hmethM', -, -, -, -, -, -, hsigM⟩ := Cond.codeWith_spec hcode
  cases Option.some.inj (hn8.symm.trans hnamed)
  cases hmethM.symm.trans hmethM'
  obtain ⟨c2, r2, m2, q1, q2, q3, q4, kP, hkP, hkPi⟩ := Cond.selects_spec hsel
  cases hcls.symm.trans q1
  cases (State.methodFound?_of_named hnamed hy).symm.trans q2
  cases hnamed.symm.trans q3
  have hselP : selectMethod e.platform s.vm cellB.cls mk = .method mk := by rw [Launch.admits_selectMethod X.admits]; exact q4
  obtain ⟨vm₁, X₁, hstep₁⟩ := X.invokevirtual hexec hown hlink hnamed hmethM hstM hkP hkPi hy (a := b) (cell := cellB) hcell
    (fun z h => by rw [h] at hobj; cases hobj) hselP hmethM habM hkP hkPi (g := g) hg (argsL := argsL) (rest := rest) (hlen _ hsigM) hstack hdg
  obtain ⟨v, B, X', hpost, hsteps⟩ := hK m meth c ⟨T.setVm vm₁, locs, cells, slots⟩ { g with stack := rest } (.invokevirtual index) mk (Value.ref b :: argsL).toArray X₁ hg hsize hdg hW (X₁.named hnamed) (hpre vm₁ X₁.warmed)
  exact ⟨v, vm₁, B, X₁.warmed, X', hpost, fun target h => hstep₁ _ fun acts => by rw [doInvoke_state]; exact hsteps.trans h⟩
abbrev vx_CVW (R : Room) (s : State) (args : Array Value) (own C : String) (index : Nat) (y : MethodName) (bytes : ByteArray) (maxL : Nat) (ret : Option FieldType) (hh : List (Nat × Nat × Nat × Nat)) (ws : List Cond) (rm : Room) (mc ms n : Nat) : Prop :=
  (rm.cells = mc ∧ rm.slots = ms ∧ rm.frames + 1 ≤ R.frames ∧ 8 + (maxL + 11) + rm.locals ≤ R.locals ∧ (∀ w ∈ ws, ∀ (a' : Array Value) (U : State), s.WarmedH U.vm → w.before a' U = true) ∧ Cond.codeWith y bytes maxL ret hh ∈ ws) ∧
  (Cond.codeWith y bytes maxL ret hh).before args s = true ∧ (Cond.initialized y.cls).before args s = true ∧ (y.cls ≠ "java/lang/invoke/MethodHandle" ∧ y.cls ≠ "java/lang/invoke/VarHandle") ∧
  (∀ sig, parseMethodDescriptor y.desc = some sig → n = sig.parameters.length) ∧ (Cond.methodLink own index y).before args s = true ∧ (Cond.instanceMethod y).before args s = true ∧ (Cond.selects C y y).before args s = true
theorem vx_cwVW {own C : String} {index maxL mc ms : Nat} {y : MethodName} {bytes : ByteArray} {ret : Option FieldType} {hh : List (Nat × Nat × Nat × Nat)} {Ts ws ws' : List Cond} {rm : Room} (n : Nat) (ht : ∀ w ∈ Ts, w.before args s = true) (hT : GoodIn Ts (wsV own index C y ws)) (hw : ws = Cond.codeWith y bytes maxL ret hh :: ws') (hrc : rm.cells = mc) (hrs : rm.slots = ms)
    (hd : y.cls = C ∧ y.cls ≠ "java/lang/invoke/MethodHandle" ∧ y.cls ≠ "java/lang/invoke/VarHandle" ∧ (parseMethodDescriptor y.desc).map (fun d => d.parameters.length) = some n) (hR : rm.frames + 1 ≤ R.frames ∧ 8 + (maxL + 11) + rm.locals ≤ R.locals) :
    vx_CVW R s args own C index y bytes maxL ret hh ws rm mc ms n := by
  obtain ⟨hC, hd⟩ := hd
  subst hC
  have ok : ∀ w ∈ wsV own index y.cls y ws, w.before args s = true := fun w h => ht w (hT w h).1
  have hG : GoodIn Ts ws := fun w h => hT w (by unfold wsV; exact List.mem_append_right _ h)
  have hc : Cond.codeWith y bytes maxL ret hh ∈ ws := by rw [hw]; exact List.mem_cons_self
  refine ⟨⟨hrc, hrs, hR.1, hR.2, pay_in ht hG, hc⟩, ht _ (hG _ hc).1, ok _ (by simp [wsV]), ⟨hd.1, hd.2.1⟩, fun sig h => ?_, ok _ (by simp [wsV]), ok _ (by simp [wsV]), ok _ (by simp [wsV])⟩
  have h2 := hd.2.2
  rw [h] at h2
  exact (Option.some.inj h2).symm
theorem vx_runVW {y : MethodName} {bytes cc : ByteArray} {maxL nL mc ms n index : Nat} {ret : Option FieldType} {hh : List (Nat × Nat × Nat × Nat)} {ws : List Cond} {rm : Room} {Pc : Array Value → State → Prop} {Qc : Array Value → State → Outcome → State → Prop} {free : Addr → Prop} {Ts : List Cond} {own C : String} {b : Addr} {As rest : List Value} {g : JFrame}
    (S : CallFix p m c cc nL s args Ts own) (hM : Met l y ws rm Pc Qc mc ms free) (cw : vx_CVW R s args own C index y bytes maxL ret hh ws rm mc ms n) (hp : PreV s H C b Pc As)
    (hg : g.method = m) (hn : As.length = n) (hsize : g.locals.size = nL) (hstack : g.stack = As.reverse ++ .ref b :: rest) (hW : 2 * g.monitorRoom + (rest.map fun v => v.category).sum ≤ 8) (hdg : decode cc g.pc = .ok (.invokevirtual index, 3)) (hf : cells + mc ≤ R.cells ∧ slots + ms ≤ R.slots) :
    va_Run p l e R s m args below meth c H locs cells slots mc ms g rest (Qc (Value.ref b :: As).toArray) free := by
  obtain ⟨⟨hrc, hrs, hfr, hlo, hws, hcw⟩, hcode, hini, hy, hlen, hl, hin, hse⟩ := cw
  have hK : Back l R p e below s args y 3 8 (PreOf R mc ms Pc) (PostOf Qc mc ms free) := va_backW (hh := hh) (bytes := bytes) (maxL := maxL) (ret := ret) hM hp.1 hrc hrs hfr hlo hws hcw (fun a' U hW => word_at hW (Or.inl (by first | rfl | simp [Cond.onTables, Cond.keeps, Cond.steady])) hini)
  obtain ⟨hx, hb, hml, ho, -⟩ := S
  obtain ⟨-, ⟨cellB, hcB, hoB, hclB⟩, hPc⟩ := hp
  intro T hT X
  obtain ⟨v, vm₁, ⟨U', l2, c2, s2⟩, hW₁, X', ⟨g', mk, t, L, e1, e2, hq, h1, hL, h2, h3⟩, st⟩ := vx_callVW X hx (C := C) (hh := hh) (bytes := bytes) (maxL := maxL) (ret := ret) ho hl hin hse hcode hy hK (by rw [hT]; exact hcB) hoB hclB hg (hsize.trans hml.symm) (argsL := As) (rest := rest) (fun sig h => hn.trans (hlen sig h)) hstack hW (by rw [hb]; exact hdg)
    (fun vm₁ hW₁ => ⟨hf.1, hf.2, hPc (T.setVm vm₁) hT hW₁⟩)
  dsimp only [Pt.U, Pt.locs, Pt.cells, Pt.slots] at X' e1 e2 h1 h2 h3 st
  subst h1; subst h2; subst h3
  exact ⟨v, (T.setVm vm₁).calling g' mk (Value.ref b :: As).toArray, t, U', L, hT, X', hL, e1, e2, hq, st⟩
section
variable {y : MethodName} {bytes cc : ByteArray} {maxL nL mc ms n index : Nat} {ret : Option FieldType} {ws : List Cond} {rm : Room} {Pc : Array Value → State → Prop} {Qc : Array Value → State → Outcome → State → Prop} {XC : String → State → State → Prop} {free : Addr → Prop} {Ts : List Cond} {own C : String} {b : Addr} {As rest : List Value} {g : JFrame}
theorem vx_runVX {hh : List (Nat × Nat × Nat × Nat)} (S : CallFix p m c cc nL s args Ts own) (hM : vx_Met l y ws rm Pc Qc XC mc ms free) (cw : vx_CVW R s args own C index y bytes maxL ret hh ws rm mc ms n) (hp : PreV s H C b Pc As)
    (hg : g.method = m) (hn : As.length = n) (hsize : g.locals.size = nL) (hstack : g.stack = As.reverse ++ .ref b :: rest) (hW : 2 * g.monitorRoom + (rest.map fun v => v.category).sum ≤ 8) (hdg : decode cc g.pc = .ok (.invokevirtual index, 3)) (hf : cells + mc ≤ R.cells ∧ slots + ms ≤ R.slots) :
    vx_Run p l e R s m args below meth c H locs cells slots mc ms g rest (Qc (Value.ref b :: As).toArray) XC free := by
  obtain ⟨⟨hrc, hrs, hfr, hlo, hws, hcw⟩, hcode, hini, hy, hlen, hl, hin, hse⟩ := cw
  have hK : vx_Back l R p e below s args y 3 8 (PreOf R mc ms Pc) (PostOf Qc mc ms free) (vx_Post XC mc ms free) := vx_backW (hh := hh) (bytes := bytes) (maxL := maxL) (ret := ret) hM hp.1 hrc hrs hfr hlo hws hcw (fun a' U hW => word_at hW (Or.inl (by first | rfl | simp [Cond.onTables, Cond.keeps, Cond.steady])) hini)
  obtain ⟨hx, hb, hml, ho, -⟩ := S
  obtain ⟨-, ⟨cellB, hcB, hoB, hclB⟩, hPc⟩ := hp
  intro T hT X
  rcases vx_callVX X hx (C := C) (hh := hh) (bytes := bytes) (maxL := maxL) (ret := ret) ho hl hin hse hcode hy hK (by rw [hT]; exact hcB) hoB hclB hg (hsize.trans hml.symm) (argsL := As) (rest := rest) (fun sig h => hn.trans (hlen sig h)) hstack hW (by rw [hb]; exact hdg)
    (fun vm₁ hW₁ => ⟨hf.1, hf.2, hPc (T.setVm vm₁) hT hW₁⟩) with ⟨v, vm₁, ⟨U', l2, c2, s2⟩, hW₁, X', ⟨g', mk, t, L, e1, e2, hq, h1, hL, h2, h3⟩, st⟩ | ⟨q, vm₁, ⟨U', l2, c2, s2⟩, hW₁, X', ⟨g', mk, t, L, E, ce, e1, e2, hq, hce, hcv, hcl, h1, hL, h2, h3⟩, st⟩
  · dsimp only [Pt.U, Pt.locs, Pt.cells, Pt.slots] at X' e1 e2 h1 h2 h3 st
    subst h1; subst h2; subst h3
    exact Or.inl ⟨v, (T.setVm vm₁).calling g' mk (Value.ref b :: As).toArray, t, U', L, hT, X', hL, e1, e2, hq, st⟩
  · dsimp only [Pt.U, Pt.locs, Pt.cells, Pt.slots] at X' e1 e2 h1 h2 h3 st hcl
    subst h1; subst h2; subst h3
    exact Or.inr ⟨q, (T.setVm vm₁).calling g' mk (Value.ref b :: As).toArray, t, U', L, E, ce, hT, X', hL, e1, e2, hq, hce, hcv, vx_cls hW₁ hcl, st⟩
theorem vx_runSX {hh : List (Nat × Nat × Nat × Nat)} (S : CallFix p m c cc nL s args Ts own) (hM : vx_Met l y ws rm Pc Qc XC mc ms free) (cw : vx_CSW R s args own index y bytes maxL ret hh ws rm mc ms n) (hp : PreS s H Pc As)
    (hg : g.method = m) (hn : As.length = n) (hsize : g.locals.size = nL) (hstack : g.stack = As.reverse ++ rest) (hW : 2 * g.monitorRoom + (rest.map fun v => v.category).sum ≤ 8) (hdg : decode cc g.pc = .ok (.invokestatic index, 3)) (hf : cells + mc ≤ R.cells ∧ slots + ms ≤ R.slots) :
    vx_Run p l e R s m args below meth c H locs cells slots mc ms g rest (Qc As.toArray) XC free := by
  obtain ⟨⟨hrc, hrs, hfr, hlo, hws, hcw⟩, hcode, hini, hy, hlen, hl, hstt⟩ := cw
  have hK : vx_Back l R p e below s args y 3 8 (PreOf R mc ms Pc) (PostOf Qc mc ms free) (vx_Post XC mc ms free) := vx_backW (hh := hh) (bytes := bytes) (maxL := maxL) (ret := ret) hM hp.1 hrc hrs hfr hlo hws hcw (fun a' U hW => word_at hW (Or.inl (by first | rfl | simp [Cond.onTables, Cond.keeps, Cond.steady])) hini)
  obtain ⟨hx, hb, hml, ho, -⟩ := S
  intro T hT X
  rcases vx_callSX X hx (hh := hh) (bytes := bytes) (maxL := maxL) (ret := ret) ho hl hstt hini hcode hy hK hg (hsize.trans hml.symm) (argsL := As) (rest := rest) (fun sig h => hn.trans (hlen sig h)) hstack hW (by rw [hb]; exact hdg)
    (fun vm₁ hW₁ => ⟨hf.1, hf.2, hp.2 (T.setVm vm₁) hT hW₁⟩) with ⟨v, vm₁, ⟨U', l2, c2, s2⟩, hW₁, X', ⟨g', mk, t, L, e1, e2, hq, h1, hL, h2, h3⟩, st⟩ | ⟨q, vm₁, ⟨U', l2, c2, s2⟩, hW₁, X', ⟨g', mk, t, L, E, ce, e1, e2, hq, hce, hcv, hcl, h1, hL, h2, h3⟩, st⟩
  · dsimp only [Pt.U, Pt.locs, Pt.cells, Pt.slots] at X' e1 e2 h1 h2 h3 st
    subst h1; subst h2; subst h3
    exact Or.inl ⟨v, (T.setVm vm₁).calling g' mk As.toArray, t, U', L, hT, X', hL, e1, e2, hq, st⟩
  · dsimp only [Pt.U, Pt.locs, Pt.cells, Pt.slots] at X' e1 e2 h1 h2 h3 st hcl
    subst h1; subst h2; subst h3
    exact Or.inr ⟨q, (T.setVm vm₁).calling g' mk As.toArray, t, U', L, E, ce, hT, X', hL, e1, e2, hq, hce, hcv, vx_cls hW₁ hcl, st⟩
end
end VXH
theorem vx_ofWH {l : Launch} {y : MethodName} {ws ws' : List Cond} {rm : Room} {Pc : Array Value → State → Prop} {Qc : Array Value → State → Outcome → State → Prop} {XC : String → State → State → Prop} {mc ms : Nat} {free : Addr → Prop} {cc : ByteArray} {maxL : Nat} {ret : Option FieldType} {hh : List (Nat × Nat × Nat × Nat)}
    (hy : plainName y.cls = true) (hw : ws = Cond.codeWith y cc maxL ret hh :: ws')
    (body : ∀ p e s m args below meth c s₁, BodyLoose p l y (headSpec ws rm) cc maxL ret e s m args below meth c s₁ → c.maxLocals = maxL → Pc args s →
      W p l e (headSpec ws rm).room s m args below meth c s.heap [] 0 0 (vx_MQ below Qc XC args s mc ms free) (entryFrame m args maxL)) : vx_Met l y ws rm Pc Qc XC mc ms free := by
  refine MetFree.of_bodyS (code := cc) (maxLocals := maxL) (ret := ret) hy ?_ ?_
  · intro args s m h hn
    obtain ⟨m9, meth, c, hn9, h1, h2, h3, h4, -, h5, h6, -⟩ := Cond.codeWith_spec (atoms_spec (ws := ws) h _ (by rw [hw]; exact List.mem_cons_self))
    cases hn.symm.trans hn9
    exact ⟨meth, c, h1, h2, h3, h4, h5, h6⟩
  · intro p e s m args below meth c s₁ B hml hP _
    have hh0 : s₁.heap = s.heap := by rw [B.state]; rfl
    obtain ⟨t, a1, o, b1, b2, b3⟩ := body p e s m args below meth c s₁ B hml hP s₁ hh0 (Stand.of_body B)
    exact ⟨t, o, a1, b1, b2, b3⟩
/-! ===== END ===== -/
end
section
theorem goodIn_hd {big a : List Cond} {c : Cond} (p : Nat) (hp : big[p]? = some c) (hg : goodWord c = true) (ha : GoodIn big a) : GoodIn big (c :: a) := fun w h => (List.mem_cons.mp h).elim (fun e => by rw [e]; exact ⟨List.mem_of_getElem? hp, good_of_word hg⟩) (ha w)
/-! NoSuchElementException(String) links its superclass's constructor at entry 13, not 7: its throw has words of its own -/
def gNs : String := "java/util/NoSuchElementException"
def gNsB : ByteArray := ⟨#[0x2a, 0x2b, 0xb7, 0x00, 0x0d, 0xb1]⟩
def gNsCh : List Cond := Bundle.passSAtoms gNs "java/lang/RuntimeException" 13 gNsB ++ Bundle.chainSAtoms "java/lang/RuntimeException" ["java/lang/Exception"]
def gNsOwn (own : String) (ic : Nat) : List Cond := [.methodLink own ic (Bundle.initS gNs), .instantiable gNs 6, .castable gNs gNs, .selects gNs Bundle.tFill0 Bundle.tFill0, .selects gNs Bundle.tFill Bundle.tFill,
  .lays gNs Bundle.tN "cause" "Ljava/lang/Throwable;", .lays gNs Bundle.tN "stackTrace" Bundle.steD, .lays gNs Bundle.tN "suppressedExceptions" Bundle.listD, .lays gNs Bundle.tN "detailMessage" "Ljava/lang/String;",
  .isRef (.static Bundle.tN "UNASSIGNED_STACK" Bundle.steD), .isRef (.static Bundle.tN "SUPPRESSED_SENTINEL" Bundle.listD),
  .fieldLink Bundle.tN 198 Bundle.tN "backtrace" "Ljava/lang/Object;", .lays Bundle.tN Bundle.tN "backtrace" "Ljava/lang/Object;", .lays gNs Bundle.tN "backtrace" "Ljava/lang/Object;"]
def gNsAll (own : String) (ic : Nat) : List Cond := Bundle.throwableAtoms ++ Bundle.throwableSAtoms ++ gNsCh ++ gNsOwn own ic
def gNsAt (own : String) (ic : Nat) : List Cond := (gNsAll own ic).filter vx_no
/-! ===== BEGIN printed: names, fields, word lists, decode rows ===== -/
def RX0 : String := "FoundRegister$Finds"
def TX0 : u_T := fun k => match k with
  | 0 => ("FoundRegister$Finds", "count", "I", false)
  | 1 => ("FoundRegister$Finds", "source", "[I", true)
  | 2 => ("FoundRegister$Finds", "cameOn", "[I", true)
  | 3 => ("FoundRegister$Finds", "struck", "[Z", true)
  | 4 => ("FoundRegister$Finds", "marks", "[[I", true)
  | 5 => ("FoundRegister$Finds", "attributes", "[[I", true)
  | _ => ("FoundRegister$Finds", "told", "[[I", true)
def tyX0 : Nat → FieldType := fun k => match k with
  | 0 => .int
  | 1 => .array .int
  | 2 => .array .int
  | 3 => .array .boolean
  | 4 => .array (.array .int)
  | 5 => .array (.array .int)
  | _ => .array (.array .int)
abbrev wsX00 : List Cond := u_ws RX0 TX0 7
theorem nmX0 : ∀ a, a < 7 → ∀ b, b < 7 → a ≠ b → (TX0 a).2.1 ≠ (TX0 b).2.1 := by decide +kernel
theorem tyX0_ok : ∀ k, k < 7 → parseFieldDescriptor (TX0 k).2.2.1 = some (tyX0 k) := by decide +kernel
abbrev cX0_init : ByteArray := prog_2_method_1_code
def yX0_init : MethodName := ⟨RX0, "<init>", "()V"⟩
abbrev cX0_take : ByteArray := prog_2_method_2_code
def yX0_take : MethodName := ⟨RX0, "take", "(II)I"⟩
abbrev cX0_putMarks : ByteArray := prog_2_method_3_code
def yX0_putMarks : MethodName := ⟨RX0, "putMarks", "(IIII)V"⟩
abbrev cX0_putAttributes : ByteArray := prog_2_method_4_code
def yX0_putAttributes : MethodName := ⟨RX0, "putAttributes", "(III)V"⟩
abbrev cX0_standsOn : ByteArray := prog_2_method_5_code
def yX0_standsOn : MethodName := ⟨RX0, "standsOn", "(IILFoundRegister$Sources;)Z"⟩
abbrev cX0_joined : ByteArray := prog_2_method_6_code
def yX0_joined : MethodName := ⟨RX0, "joined", "(II)Z"⟩
abbrev cX0_knowsSerial : ByteArray := prog_2_method_7_code
def yX0_knowsSerial : MethodName := ⟨RX0, "knowsSerial", "(I)Z"⟩
abbrev cX0_shareMark : ByteArray := prog_2_method_8_code
def yX0_shareMark : MethodName := ⟨RX0, "shareMark", "(III)Z"⟩
def RX1 : String := "FoundRegister$Links"
def TX1 : u_T := fun k => match k with
  | 0 => ("FoundRegister$Links", "count", "I", false)
  | 1 => ("FoundRegister$Links", "needing", "[I", true)
  | 2 => ("FoundRegister$Links", "needed", "[I", true)
  | 3 => ("FoundRegister$Links", "group", "[I", true)
  | _ => ("FoundRegister$Links", "failed", "[Z", true)
def tyX1 : Nat → FieldType := fun k => match k with
  | 0 => .int
  | 1 => .array .int
  | 2 => .array .int
  | 3 => .array .int
  | _ => .array .boolean
abbrev wsX10 : List Cond := u_ws RX1 TX1 5
theorem nmX1 : ∀ a, a < 5 → ∀ b, b < 5 → a ≠ b → (TX1 a).2.1 ≠ (TX1 b).2.1 := by decide +kernel
theorem tyX1_ok : ∀ k, k < 5 → parseFieldDescriptor (TX1 k).2.2.1 = some (tyX1 k) := by decide +kernel
abbrev cX1_init : ByteArray := prog_3_method_1_code
def yX1_init : MethodName := ⟨RX1, "<init>", "()V"⟩
abbrev cX1_add : ByteArray := prog_3_method_2_code
def yX1_add : MethodName := ⟨RX1, "add", "(III)V"⟩
abbrev cX1_failFrom : ByteArray := prog_3_method_3_code
def yX1_failFrom : MethodName := ⟨RX1, "failFrom", "(ILFoundRegister$Things;)V"⟩
abbrev cX1_failMore : ByteArray := prog_3_method_4_code
def yX1_failMore : MethodName := ⟨RX1, "failMore", "(LFoundRegister$Things;)Z"⟩
abbrev cX1_holds : ByteArray := prog_3_method_5_code
def yX1_holds : MethodName := ⟨RX1, "holds", "(ILFoundRegister$Things;)Z"⟩
abbrev cX1_lost : ByteArray := prog_3_method_6_code
def yX1_lost : MethodName := ⟨RX1, "lost", "(IILFoundRegister$Things;)Z"⟩
abbrev cX1_failures : ByteArray := prog_3_method_7_code
def yX1_failures : MethodName := ⟨RX1, "failures", "()I"⟩
def RX2 : String := "FoundRegister$Sources"
def TX2 : u_T := fun k => match k with
  | 0 => ("FoundRegister$Sources", "term", "[I", true)
  | _ => ("FoundRegister$Sources", "place", "[I", true)
def tyX2 : Nat → FieldType := fun k => match k with
  | 0 => .array .int
  | _ => .array .int
abbrev wsX20 : List Cond := u_ws RX2 TX2 2
theorem nmX2 : ∀ a, a < 2 → ∀ b, b < 2 → a ≠ b → (TX2 a).2.1 ≠ (TX2 b).2.1 := by decide +kernel
theorem tyX2_ok : ∀ k, k < 2 → parseFieldDescriptor (TX2 k).2.2.1 = some (tyX2 k) := by decide +kernel
abbrev cX2_init : ByteArray := prog_4_method_1_code
def yX2_init : MethodName := ⟨RX2, "<init>", "()V"⟩
abbrev cX2_moveToFront : ByteArray := prog_4_method_2_code
def yX2_moveToFront : MethodName := ⟨RX2, "moveToFront", "(I)I"⟩
def RX3 : String := "FoundRegister$Things"
def TX3 : u_T := fun k => match k with
  | 0 => ("FoundRegister$Things", "finds", "LFoundRegister$Finds;", true)
  | 1 => ("FoundRegister$Things", "sources", "LFoundRegister$Sources;", true)
  | _ => ("FoundRegister$Things", "ofFind", "[I", true)
def tyX3 : Nat → FieldType := fun k => match k with
  | 0 => .object "FoundRegister$Finds"
  | 1 => .object "FoundRegister$Sources"
  | _ => .array .int
abbrev wsX30 : List Cond := u_ws RX3 TX3 3
theorem nmX3 : ∀ a, a < 3 → ∀ b, b < 3 → a ≠ b → (TX3 a).2.1 ≠ (TX3 b).2.1 := by decide +kernel
theorem tyX3_ok : ∀ k, k < 3 → parseFieldDescriptor (TX3 k).2.2.1 = some (tyX3 k) := by decide +kernel
abbrev cX3_init : ByteArray := prog_5_method_1_code
def yX3_init : MethodName := ⟨RX3, "<init>", "(LFoundRegister$Finds;LFoundRegister$Sources;)V"⟩
abbrev cX3_sortFor : ByteArray := prog_5_method_2_code
def yX3_sortFor : MethodName := ⟨RX3, "sortFor", "(I)V"⟩
abbrev cX3_joinToEarlier : ByteArray := prog_5_method_3_code
def yX3_joinToEarlier : MethodName := ⟨RX3, "joinToEarlier", "(I)V"⟩
abbrev cX3_merge : ByteArray := prog_5_method_4_code
def yX3_merge : MethodName := ⟨RX3, "merge", "(II)V"⟩
abbrev cX3_isThing : ByteArray := prog_5_method_5_code
def yX3_isThing : MethodName := ⟨RX3, "isThing", "(I)Z"⟩
abbrev cX3_attributeOf : ByteArray := prog_5_method_6_code
def yX3_attributeOf : MethodName := ⟨RX3, "attributeOf", "(II)I"⟩
abbrev cX3_goesBefore : ByteArray := prog_5_method_7_code
def yX3_goesBefore : MethodName := ⟨RX3, "goesBefore", "(II)Z"⟩
abbrev cX3_hasUnlikeValues : ByteArray := prog_5_method_8_code
def yX3_hasUnlikeValues : MethodName := ⟨RX3, "hasUnlikeValues", "(II)Z"⟩
abbrev cX3_tells : ByteArray := prog_5_method_9_code
def yX3_tells : MethodName := ⟨RX3, "tells", "(III)Z"⟩
abbrev cX3_hasMark : ByteArray := prog_5_method_10_code
def yX3_hasMark : MethodName := ⟨RX3, "hasMark", "(III)Z"⟩
def RX4 : String := "FoundRegister$Wishes"
def TX4 : u_T := fun k => match k with
  | 0 => ("FoundRegister$Wishes", "count", "I", false)
  | 1 => ("FoundRegister$Wishes", "mark", "[I", true)
  | 2 => ("FoundRegister$Wishes", "markValue", "[I", true)
  | 3 => ("FoundRegister$Wishes", "attribute", "[I", true)
  | _ => ("FoundRegister$Wishes", "wished", "[I", true)
def tyX4 : Nat → FieldType := fun k => match k with
  | 0 => .int
  | 1 => .array .int
  | 2 => .array .int
  | 3 => .array .int
  | _ => .array .int
abbrev wsX40 : List Cond := u_ws RX4 TX4 5
theorem nmX4 : ∀ a, a < 5 → ∀ b, b < 5 → a ≠ b → (TX4 a).2.1 ≠ (TX4 b).2.1 := by decide +kernel
theorem tyX4_ok : ∀ k, k < 5 → parseFieldDescriptor (TX4 k).2.2.1 = some (tyX4 k) := by decide +kernel
abbrev cX4_init : ByteArray := prog_6_method_1_code
def yX4_init : MethodName := ⟨RX4, "<init>", "()V"⟩
abbrev cX4_add : ByteArray := prog_6_method_2_code
def yX4_add : MethodName := ⟨RX4, "add", "(IIII)I"⟩
abbrev cX4_isMissedBy : ByteArray := prog_6_method_3_code
def yX4_isMissedBy : MethodName := ⟨RX4, "isMissedBy", "(IILFoundRegister$Things;)Z"⟩
def RX5 : String := "FoundRegister"
def TX5 : u_T := fun k => match k with
  | 0 => ("FoundRegister", "presentDay", "I", false)
  | 1 => ("FoundRegister", "sources", "LFoundRegister$Sources;", true)
  | 2 => ("FoundRegister", "finds", "LFoundRegister$Finds;", true)
  | 3 => ("FoundRegister", "links", "LFoundRegister$Links;", true)
  | 4 => ("FoundRegister", "wishes", "LFoundRegister$Wishes;", true)
  | 5 => ("FoundRegister", "ofDay", "LFoundRegister$Things;", true)
  | _ => ("FoundRegister", "ofOtherDay", "LFoundRegister$Things;", true)
def tyX5 : Nat → FieldType := fun k => match k with
  | 0 => .int
  | 1 => .object "FoundRegister$Sources"
  | 2 => .object "FoundRegister$Finds"
  | 3 => .object "FoundRegister$Links"
  | 4 => .object "FoundRegister$Wishes"
  | 5 => .object "FoundRegister$Things"
  | _ => .object "FoundRegister$Things"
abbrev wsX50 : List Cond := u_ws RX5 TX5 7
theorem nmX5 : ∀ a, a < 7 → ∀ b, b < 7 → a ≠ b → (TX5 a).2.1 ≠ (TX5 b).2.1 := by decide +kernel
theorem tyX5_ok : ∀ k, k < 7 → parseFieldDescriptor (TX5 k).2.2.1 = some (tyX5 k) := by decide +kernel
abbrev cX5_init : ByteArray := prog_1_method_1_code
def yX5_init : MethodName := ⟨RX5, "<init>", "()V"⟩
abbrev cX5_pass : ByteArray := prog_1_method_2_code
def yX5_pass : MethodName := ⟨RX5, "pass", "(I)I"⟩
abbrev cX5_today : ByteArray := prog_1_method_3_code
def yX5_today : MethodName := ⟨RX5, "today", "()I"⟩
abbrev cX5_setTerm : ByteArray := prog_1_method_4_code
def yX5_setTerm : MethodName := ⟨RX5, "setTerm", "(II)I"⟩
abbrev cX5_putFirst : ByteArray := prog_1_method_5_code
def yX5_putFirst : MethodName := ⟨RX5, "putFirst", "(I)I"⟩
abbrev cX5_find : ByteArray := prog_1_method_6_code
def yX5_find : MethodName := ⟨RX5, "find", "(IIIIII)I"⟩
abbrev cX5_strike : ByteArray := prog_1_method_7_code
def yX5_strike : MethodName := ⟨RX5, "strike", "(I)Z"⟩
abbrev cX5_tell : ByteArray := prog_1_method_8_code
def yX5_tell : MethodName := ⟨RX5, "tell", "(III)I"⟩
abbrev cX5_counts : ByteArray := prog_1_method_9_code
def yX5_counts : MethodName := ⟨RX5, "counts", "(II)Z"⟩
abbrev cX5_things : ByteArray := prog_1_method_10_code
def yX5_things : MethodName := ⟨RX5, "things", "(I)I"⟩
abbrev cX5_thingOf : ByteArray := prog_1_method_11_code
def yX5_thingOf : MethodName := ⟨RX5, "thingOf", "(II)I"⟩
abbrev cX5_value : ByteArray := prog_1_method_12_code
def yX5_value : MethodName := ⟨RX5, "value", "(III)I"⟩
abbrev cX5_disputed : ByteArray := prog_1_method_13_code
def yX5_disputed : MethodName := ⟨RX5, "disputed", "(II)I"⟩
abbrev cX5_link : ByteArray := prog_1_method_14_code
def yX5_link : MethodName := ⟨RX5, "link", "(III)I"⟩
abbrev cX5_impact : ByteArray := prog_1_method_15_code
def yX5_impact : MethodName := ⟨RX5, "impact", "(II)I"⟩
abbrev cX5_failsWith : ByteArray := prog_1_method_16_code
def yX5_failsWith : MethodName := ⟨RX5, "failsWith", "(III)Z"⟩
abbrev cX5_wish : ByteArray := prog_1_method_17_code
def yX5_wish : MethodName := ⟨RX5, "wish", "(IIII)I"⟩
abbrev cX5_differing : ByteArray := prog_1_method_18_code
def yX5_differing : MethodName := ⟨RX5, "differing", "(II)I"⟩
abbrev cX5_changed : ByteArray := prog_1_method_19_code
def yX5_changed : MethodName := ⟨RX5, "changed", "(III)I"⟩
abbrev cX5_hasAnotherValue : ByteArray := prog_1_method_20_code
def yX5_hasAnotherValue : MethodName := ⟨RX5, "hasAnotherValue", "(II)Z"⟩
abbrev cX5_requireRange : ByteArray := prog_1_method_21_code
def yX5_requireRange : MethodName := ⟨RX5, "requireRange", "(III)V"⟩
abbrev cX5_requireDay : ByteArray := prog_1_method_22_code
def yX5_requireDay : MethodName := ⟨RX5, "requireDay", "(I)V"⟩
abbrev cX5_requireAttribute : ByteArray := prog_1_method_23_code
def yX5_requireAttribute : MethodName := ⟨RX5, "requireAttribute", "(I)V"⟩
abbrev cX5_requireUnlike : ByteArray := prog_1_method_24_code
def yX5_requireUnlike : MethodName := ⟨RX5, "requireUnlike", "(II)V"⟩
abbrev cX5_requireFind : ByteArray := prog_1_method_25_code
def yX5_requireFind : MethodName := ⟨RX5, "requireFind", "(I)V"⟩
abbrev cX5_requireCounting : ByteArray := prog_1_method_26_code
def yX5_requireCounting : MethodName := ⟨RX5, "requireCounting", "(I)V"⟩
def RX6 : String := "FoundRegisterModel"
def TX6 : u_T := fun k => match k with
  | _ => ("", "", "", false)
def tyX6 : Nat → FieldType := fun k => match k with
  | _ => .int
abbrev wsX60 : List Cond := u_ws RX6 TX6 0
theorem nmX6 : ∀ a, a < 0 → ∀ b, b < 0 → a ≠ b → (TX6 a).2.1 ≠ (TX6 b).2.1 := by decide +kernel
theorem tyX6_ok : ∀ k, k < 0 → parseFieldDescriptor (TX6 k).2.2.1 = some (tyX6 k) := by decide +kernel
def RJx145de : String := "java/io/Serializable"
def TJx145de : u_T := fun k => match k with
  | _ => ("", "", "", false)
def tyJx145de : Nat → FieldType := fun k => match k with
  | _ => .int
abbrev wsJx145de0 : List Cond := u_ws RJx145de TJx145de 0
theorem nmJx145de : ∀ a, a < 0 → ∀ b, b < 0 → a ≠ b → (TJx145de a).2.1 ≠ (TJx145de b).2.1 := by decide +kernel
theorem tyJx145de_ok : ∀ k, k < 0 → parseFieldDescriptor (TJx145de k).2.2.1 = some (tyJx145de k) := by decide +kernel
def RJ9 : String := "java/lang/Math"
def TJ9 : u_T := fun k => match k with
  | _ => ("", "", "", false)
def tyJ9 : Nat → FieldType := fun k => match k with
  | _ => .int
abbrev wsJ90 : List Cond := u_ws RJ9 TJ9 0
theorem nmJ9 : ∀ a, a < 0 → ∀ b, b < 0 → a ≠ b → (TJ9 a).2.1 ≠ (TJ9 b).2.1 := by decide +kernel
theorem tyJ9_ok : ∀ k, k < 0 → parseFieldDescriptor (TJ9 k).2.2.1 = some (tyJ9 k) := by decide +kernel
abbrev cJ9_max_7cf53 : ByteArray := prog_14_method_65_code
def yJ9_max_7cf53 : MethodName := ⟨RJ9, "max", "(II)I"⟩
abbrev cJ9_min_7cf53 : ByteArray := prog_14_method_69_code
def yJ9_min_7cf53 : MethodName := ⟨RJ9, "min", "(II)I"⟩
def RJ0 : String := "java/lang/String"
def TJ0 : u_T := fun k => match k with
  | _ => ("", "", "", false)
def tyJ0 : Nat → FieldType := fun k => match k with
  | _ => .int
abbrev wsJ00 : List Cond := u_ws RJ0 TJ0 0
theorem nmJ0 : ∀ a, a < 0 → ∀ b, b < 0 → a ≠ b → (TJ0 a).2.1 ≠ (TJ0 b).2.1 := by decide +kernel
theorem tyJ0_ok : ∀ k, k < 0 → parseFieldDescriptor (TJ0 k).2.2.1 = some (tyJ0 k) := by decide +kernel
def RL : String := "FoundRegisterLaw"
abbrev cL_passes : ByteArray := method_2_code
def yL_passes : MethodName := ⟨RL, "passes", "(LFoundRegister;I)I"⟩
abbrev cL_terms : ByteArray := method_3_code
def yL_terms : MethodName := ⟨RL, "terms", "(LFoundRegister;II)I"⟩
abbrev cL_firsts : ByteArray := method_4_code
def yL_firsts : MethodName := ⟨RL, "firsts", "(LFoundRegister;I)I"⟩
abbrev cL_finds : ByteArray := method_5_code
def yL_finds : MethodName := ⟨RL, "finds", "(LFoundRegister;IIIIII)I"⟩
abbrev cL_strikes : ByteArray := method_6_code
def yL_strikes : MethodName := ⟨RL, "strikes", "(LFoundRegister;I)I"⟩
abbrev cL_tells : ByteArray := method_7_code
def yL_tells : MethodName := ⟨RL, "tells", "(LFoundRegister;III)I"⟩
abbrev cL_counts : ByteArray := method_8_code
def yL_counts : MethodName := ⟨RL, "counts", "(LFoundRegister;II)I"⟩
abbrev cL_things : ByteArray := method_9_code
def yL_things : MethodName := ⟨RL, "things", "(LFoundRegister;I)I"⟩
abbrev cL_thing : ByteArray := method_10_code
def yL_thing : MethodName := ⟨RL, "thing", "(LFoundRegister;II)I"⟩
abbrev cL_value : ByteArray := method_11_code
def yL_value : MethodName := ⟨RL, "value", "(LFoundRegister;III)I"⟩
abbrev cL_disputed : ByteArray := method_12_code
def yL_disputed : MethodName := ⟨RL, "disputed", "(LFoundRegister;II)I"⟩
abbrev cL_links : ByteArray := method_13_code
def yL_links : MethodName := ⟨RL, "links", "(LFoundRegister;III)I"⟩
abbrev cL_impact : ByteArray := method_14_code
def yL_impact : MethodName := ⟨RL, "impact", "(LFoundRegister;II)I"⟩
abbrev cL_fails : ByteArray := method_15_code
def yL_fails : MethodName := ⟨RL, "fails", "(LFoundRegister;III)I"⟩
abbrev cL_wishes : ByteArray := method_16_code
def yL_wishes : MethodName := ⟨RL, "wishes", "(LFoundRegister;IIII)I"⟩
abbrev cL_differing : ByteArray := method_17_code
def yL_differing : MethodName := ⟨RL, "differing", "(LFoundRegister;II)I"⟩
abbrev cL_changed : ByteArray := method_18_code
def yL_changed : MethodName := ⟨RL, "changed", "(LFoundRegister;III)I"⟩
abbrev cL_drawn : ByteArray := method_19_code
def yL_drawn : MethodName := ⟨RL, "drawn", "([II)I"⟩
abbrev cL_refuses : ByteArray := method_20_code
def yL_refuses : MethodName := ⟨RL, "refuses", "(LFoundRegister;[II)Z"⟩
abbrev cL_act : ByteArray := method_21_code
def yL_act : MethodName := ⟨RL, "act", "(LFoundRegister;[II)I"⟩
abbrev cL_alike : ByteArray := method_22_code
def yL_alike : MethodName := ⟨RL, "alike", "(LFoundRegister;LFoundRegister;[II)Z"⟩
abbrev cL_holds : ByteArray := method_23_code
def yL_holds : MethodName := ⟨RL, "holds", "(LFoundRegister;[III)Z"⟩
abbrev cL_parts : ByteArray := method_24_code
def yL_parts : MethodName := ⟨RL, "parts", "(LFoundRegister;[II)Z"⟩
abbrev cL_law : ByteArray := code
def yL_law : MethodName := ⟨RL, "law", "([I)Z"⟩
def wsX0_init : List Cond := .code yX0_init cX0_init 1 none :: ([.methodLink RX0 3 objectInit, .instanceMethod objectInit, .code objectInit ⟨#[0xb1]⟩ 1 none, .fieldLink RX0 9 "FoundRegister$Finds" "count" "I", .arrayClass .int, .fieldLink RX0 15 "FoundRegister$Finds" "source" "[I", .fieldLink RX0 19 "FoundRegister$Finds" "cameOn" "[I", .arrayClass .boolean, .fieldLink RX0 22 "FoundRegister$Finds" "struck" "[Z", .classLink RX0 26 "[[I", .fieldLink RX0 28 "FoundRegister$Finds" "marks" "[[I", .fieldLink RX0 31 "FoundRegister$Finds" "attributes" "[[I", .fieldLink RX0 34 "FoundRegister$Finds" "told" "[[I"] ++ wsX00)
def wsX0_take : List Cond := .code yX0_take cX0_take 4 (some .int) :: ([.fieldLink RX0 9 "FoundRegister$Finds" "count" "I", .fieldLink RX0 15 "FoundRegister$Finds" "source" "[I", .fieldLink RX0 19 "FoundRegister$Finds" "cameOn" "[I"] ++ wsX00)
def wsX0_putMarks : List Cond := .code yX0_putMarks cX0_putMarks 5 none :: ([.fieldLink RX0 28 "FoundRegister$Finds" "marks" "[[I"] ++ wsX00)
def wsX0_putAttributes : List Cond := .code yX0_putAttributes cX0_putAttributes 4 none :: ([.fieldLink RX0 31 "FoundRegister$Finds" "attributes" "[[I"] ++ wsX00)
def wsX0_standsOn : List Cond := .code yX0_standsOn cX0_standsOn 4 (some .boolean) :: ([.fieldLink RX0 22 "FoundRegister$Finds" "struck" "[Z", .fieldLink RX0 19 "FoundRegister$Finds" "cameOn" "[I", .fieldLink RX0 37 "FoundRegister$Sources" "term" "[I", .fieldLink RX0 15 "FoundRegister$Finds" "source" "[I"] ++ wsX00 ++ wsX20)
def wsX0_knowsSerial : List Cond := .code yX0_knowsSerial cX0_knowsSerial 2 (some .boolean) :: ([.fieldLink RX0 28 "FoundRegister$Finds" "marks" "[[I"] ++ wsX00)
def wsX0_shareMark : List Cond := .code yX0_shareMark cX0_shareMark 4 (some .boolean) :: ([.fieldLink RX0 28 "FoundRegister$Finds" "marks" "[[I"] ++ wsX00)
def wsX0_joined : List Cond := .code yX0_joined cX0_joined 3 (some .boolean) :: ([.fieldLink RX0 34 "FoundRegister$Finds" "told" "[[I", .methodLink RX0 42 yX0_knowsSerial, .instanceMethod yX0_knowsSerial, .selects RX0 yX0_knowsSerial yX0_knowsSerial, .initialized RX0, .code yX0_knowsSerial cX0_knowsSerial 2 (some .boolean), .fieldLink RX0 28 "FoundRegister$Finds" "marks" "[[I", .methodLink RX0 46 yX0_shareMark, .instanceMethod yX0_shareMark, .selects RX0 yX0_shareMark yX0_shareMark, .code yX0_shareMark cX0_shareMark 4 (some .boolean)] ++ wsX00)
def wsX1_init : List Cond := .code yX1_init cX1_init 1 none :: ([.methodLink RX1 3 objectInit, .instanceMethod objectInit, .code objectInit ⟨#[0xb1]⟩ 1 none, .fieldLink RX1 9 "FoundRegister$Links" "count" "I", .arrayClass .int, .fieldLink RX1 15 "FoundRegister$Links" "needing" "[I", .fieldLink RX1 19 "FoundRegister$Links" "needed" "[I", .fieldLink RX1 22 "FoundRegister$Links" "group" "[I", .arrayClass .boolean, .fieldLink RX1 25 "FoundRegister$Links" "failed" "[Z"] ++ wsX10)
def wsX1_add : List Cond := .code yX1_add cX1_add 4 none :: ([.fieldLink RX1 15 "FoundRegister$Links" "needing" "[I", .fieldLink RX1 9 "FoundRegister$Links" "count" "I", .fieldLink RX1 19 "FoundRegister$Links" "needed" "[I", .fieldLink RX1 22 "FoundRegister$Links" "group" "[I"] ++ wsX10)
def wsX1_holds : List Cond := .code yX1_holds cX1_holds 5 (some .boolean) :: ([.fieldLink RX1 33 "FoundRegister$Things" "ofFind" "[I", .fieldLink RX1 15 "FoundRegister$Links" "needing" "[I", .fieldLink RX1 19 "FoundRegister$Links" "needed" "[I"] ++ wsX30 ++ wsX10)
def wsX1_lost : List Cond := .code yX1_lost cX1_lost 5 (some .boolean) :: ([.fieldLink RX1 9 "FoundRegister$Links" "count" "I", .fieldLink RX1 22 "FoundRegister$Links" "group" "[I", .fieldLink RX1 33 "FoundRegister$Things" "ofFind" "[I", .fieldLink RX1 15 "FoundRegister$Links" "needing" "[I", .fieldLink RX1 25 "FoundRegister$Links" "failed" "[Z", .fieldLink RX1 19 "FoundRegister$Links" "needed" "[I", .methodLink RX1 38 yX1_holds, .instanceMethod yX1_holds, .selects RX1 yX1_holds yX1_holds, .initialized RX1, .code yX1_holds cX1_holds 5 (some .boolean)] ++ wsX10 ++ wsX30)
def wsX1_failMore : List Cond := .code yX1_failMore cX1_failMore 5 (some .boolean) :: ([.fieldLink RX1 9 "FoundRegister$Links" "count" "I", .fieldLink RX1 33 "FoundRegister$Things" "ofFind" "[I", .fieldLink RX1 15 "FoundRegister$Links" "needing" "[I", .fieldLink RX1 25 "FoundRegister$Links" "failed" "[Z", .fieldLink RX1 22 "FoundRegister$Links" "group" "[I", .methodLink RX1 38 yX1_holds, .instanceMethod yX1_holds, .selects RX1 yX1_holds yX1_holds, .initialized RX1, .code yX1_holds cX1_holds 5 (some .boolean), .fieldLink RX1 19 "FoundRegister$Links" "needed" "[I", .methodLink RX1 42 yX1_lost, .instanceMethod yX1_lost, .selects RX1 yX1_lost yX1_lost, .code yX1_lost cX1_lost 5 (some .boolean)] ++ wsX10 ++ wsX30)
def wsX1_failFrom : List Cond := .code yX1_failFrom cX1_failFrom 5 none :: ([.fieldLink RX1 25 "FoundRegister$Links" "failed" "[Z", .methodLink RX1 29 yX1_failMore, .instanceMethod yX1_failMore, .selects RX1 yX1_failMore yX1_failMore, .initialized RX1, .code yX1_failMore cX1_failMore 5 (some .boolean), .fieldLink RX1 9 "FoundRegister$Links" "count" "I", .fieldLink RX1 33 "FoundRegister$Things" "ofFind" "[I", .fieldLink RX1 15 "FoundRegister$Links" "needing" "[I", .fieldLink RX1 22 "FoundRegister$Links" "group" "[I", .methodLink RX1 38 yX1_holds, .instanceMethod yX1_holds, .selects RX1 yX1_holds yX1_holds, .code yX1_holds cX1_holds 5 (some .boolean), .fieldLink RX1 19 "FoundRegister$Links" "needed" "[I", .methodLink RX1 42 yX1_lost, .instanceMethod yX1_lost, .selects RX1 yX1_lost yX1_lost, .code yX1_lost cX1_lost 5 (some .boolean)] ++ wsX10 ++ wsX30)
def wsX1_failures : List Cond := .code yX1_failures cX1_failures 3 (some .int) :: ([.fieldLink RX1 25 "FoundRegister$Links" "failed" "[Z"] ++ wsX10)
def wsX2_init : List Cond := .code yX2_init cX2_init 2 none :: ([.methodLink RX2 3 objectInit, .instanceMethod objectInit, .code objectInit ⟨#[0xb1]⟩ 1 none, .arrayClass .int, .fieldLink RX2 9 "FoundRegister$Sources" "term" "[I", .fieldLink RX2 15 "FoundRegister$Sources" "place" "[I"] ++ wsX20)
def wsX2_moveToFront : List Cond := .code yX2_moveToFront cX2_moveToFront 4 (some .int) :: ([.fieldLink RX2 15 "FoundRegister$Sources" "place" "[I"] ++ wsX20)
def wsX3_init : List Cond := .code yX3_init cX3_init 3 none :: ([.methodLink RX3 3 objectInit, .instanceMethod objectInit, .code objectInit ⟨#[0xb1]⟩ 1 none, .arrayClass .int, .fieldLink RX3 9 "FoundRegister$Things" "ofFind" "[I", .fieldLink RX3 15 "FoundRegister$Things" "finds" "LFoundRegister$Finds;", .fieldLink RX3 19 "FoundRegister$Things" "sources" "LFoundRegister$Sources;"] ++ wsX30)
def wsX3_merge : List Cond := .code yX3_merge cX3_merge 6 none :: ([.methodLink RX3 45 Lib.Math.min.name, .static Lib.Math.min.name, .initialized "java/lang/Math", .code Lib.Math.min.name Lib.Math.min.code 2 (some .int), .methodLink RX3 51 Lib.Math.max.name, .static Lib.Math.max.name, .code Lib.Math.max.name Lib.Math.max.code 2 (some .int), .fieldLink RX3 15 "FoundRegister$Things" "finds" "LFoundRegister$Finds;", .fieldLink RX3 23 "FoundRegister$Finds" "count" "I", .fieldLink RX3 9 "FoundRegister$Things" "ofFind" "[I"] ++ wsX30 ++ wsX00)
def wsX3_joinToEarlier_r1 : List Cond := [Cond.fieldLink RX3 9 "FoundRegister$Things" "ofFind" "[I", Cond.fieldLink RX3 15 "FoundRegister$Things" "finds" "LFoundRegister$Finds;", Cond.methodLink RX3 37 yX0_joined, Cond.instanceMethod yX0_joined, Cond.selects RX0 yX0_joined yX0_joined, Cond.initialized RX0, Cond.code yX0_joined cX0_joined 3 (some .boolean), Cond.fieldLink RX0 34 "FoundRegister$Finds" "told" "[[I", Cond.methodLink RX0 42 yX0_knowsSerial, Cond.instanceMethod yX0_knowsSerial, Cond.selects RX0 yX0_knowsSerial yX0_knowsSerial, Cond.code yX0_knowsSerial cX0_knowsSerial 2 (some .boolean), Cond.fieldLink RX0 28 "FoundRegister$Finds" "marks" "[[I", Cond.methodLink RX0 46 yX0_shareMark, Cond.instanceMethod yX0_shareMark, Cond.selects RX0 yX0_shareMark yX0_shareMark, Cond.code yX0_shareMark cX0_shareMark 4 (some .boolean), Cond.methodLink RX3 41 yX3_merge, Cond.instanceMethod yX3_merge, Cond.selects RX3 yX3_merge yX3_merge, Cond.initialized RX3, Cond.code yX3_merge cX3_merge 6 none, Cond.methodLink RX3 45 Lib.Math.min.name, Cond.static Lib.Math.min.name]
def wsX3_joinToEarlier_r2 : List Cond := [Cond.initialized "java/lang/Math", Cond.code Lib.Math.min.name Lib.Math.min.code 2 (some .int), Cond.methodLink RX3 51 Lib.Math.max.name, Cond.static Lib.Math.max.name, Cond.code Lib.Math.max.name Lib.Math.max.code 2 (some .int), Cond.fieldLink RX3 23 "FoundRegister$Finds" "count" "I"]
def wsX3_joinToEarlier : List Cond := .code yX3_joinToEarlier cX3_joinToEarlier 3 none :: ((wsX3_joinToEarlier_r1 ++ wsX3_joinToEarlier_r2) ++ wsX30 ++ wsX00)
def wsX3_sortFor_r1 : List Cond := [Cond.fieldLink RX3 15 "FoundRegister$Things" "finds" "LFoundRegister$Finds;", Cond.fieldLink RX3 23 "FoundRegister$Finds" "count" "I", Cond.fieldLink RX3 9 "FoundRegister$Things" "ofFind" "[I", Cond.fieldLink RX3 19 "FoundRegister$Things" "sources" "LFoundRegister$Sources;", Cond.methodLink RX3 29 yX0_standsOn, Cond.instanceMethod yX0_standsOn, Cond.selects RX0 yX0_standsOn yX0_standsOn, Cond.initialized RX0, Cond.code yX0_standsOn cX0_standsOn 4 (some .boolean), Cond.fieldLink RX0 22 "FoundRegister$Finds" "struck" "[Z", Cond.fieldLink RX0 19 "FoundRegister$Finds" "cameOn" "[I", Cond.fieldLink RX0 37 "FoundRegister$Sources" "term" "[I", Cond.fieldLink RX0 15 "FoundRegister$Finds" "source" "[I", Cond.methodLink RX3 33 yX3_joinToEarlier, Cond.instanceMethod yX3_joinToEarlier, Cond.selects RX3 yX3_joinToEarlier yX3_joinToEarlier, Cond.initialized RX3, Cond.code yX3_joinToEarlier cX3_joinToEarlier 3 none, Cond.methodLink RX3 37 yX0_joined, Cond.instanceMethod yX0_joined, Cond.selects RX0 yX0_joined yX0_joined, Cond.code yX0_joined cX0_joined 3 (some .boolean), Cond.fieldLink RX0 34 "FoundRegister$Finds" "told" "[[I", Cond.methodLink RX0 42 yX0_knowsSerial]
def wsX3_sortFor_r2 : List Cond := [Cond.instanceMethod yX0_knowsSerial, Cond.selects RX0 yX0_knowsSerial yX0_knowsSerial, Cond.code yX0_knowsSerial cX0_knowsSerial 2 (some .boolean), Cond.fieldLink RX0 28 "FoundRegister$Finds" "marks" "[[I", Cond.methodLink RX0 46 yX0_shareMark, Cond.instanceMethod yX0_shareMark, Cond.selects RX0 yX0_shareMark yX0_shareMark, Cond.code yX0_shareMark cX0_shareMark 4 (some .boolean), Cond.methodLink RX3 41 yX3_merge, Cond.instanceMethod yX3_merge, Cond.selects RX3 yX3_merge yX3_merge, Cond.code yX3_merge cX3_merge 6 none, Cond.methodLink RX3 45 Lib.Math.min.name, Cond.static Lib.Math.min.name, Cond.initialized "java/lang/Math", Cond.code Lib.Math.min.name Lib.Math.min.code 2 (some .int), Cond.methodLink RX3 51 Lib.Math.max.name, Cond.static Lib.Math.max.name, Cond.code Lib.Math.max.name Lib.Math.max.code 2 (some .int)]
def wsX3_sortFor : List Cond := .code yX3_sortFor cX3_sortFor 3 none :: ((wsX3_sortFor_r1 ++ wsX3_sortFor_r2) ++ wsX30 ++ wsX00 ++ wsX20)
def wsX3_isThing : List Cond := .code yX3_isThing cX3_isThing 2 (some .boolean) :: ([.fieldLink RX3 9 "FoundRegister$Things" "ofFind" "[I"] ++ wsX30)
def wsX3_tells : List Cond := .code yX3_tells cX3_tells 4 (some .boolean) :: ([.fieldLink RX3 9 "FoundRegister$Things" "ofFind" "[I", .fieldLink RX3 15 "FoundRegister$Things" "finds" "LFoundRegister$Finds;", .fieldLink RX3 61 "FoundRegister$Finds" "attributes" "[[I"] ++ wsX30 ++ wsX00)
def wsX3_goesBefore : List Cond := .code yX3_goesBefore cX3_goesBefore 5 (some .boolean) :: ([.fieldLink RX3 19 "FoundRegister$Things" "sources" "LFoundRegister$Sources;", .fieldLink RX3 65 "FoundRegister$Sources" "place" "[I", .fieldLink RX3 15 "FoundRegister$Things" "finds" "LFoundRegister$Finds;", .fieldLink RX3 70 "FoundRegister$Finds" "source" "[I"] ++ wsX30 ++ wsX20 ++ wsX00)
def wsX3_attributeOf : List Cond := .code yX3_attributeOf cX3_attributeOf 5 (some .int) :: ([.fieldLink RX3 15 "FoundRegister$Things" "finds" "LFoundRegister$Finds;", .fieldLink RX3 23 "FoundRegister$Finds" "count" "I", .fieldLink RX3 61 "FoundRegister$Finds" "attributes" "[[I", .methodLink RX3 54 yX3_tells, .instanceMethod yX3_tells, .selects RX3 yX3_tells yX3_tells, .initialized RX3, .code yX3_tells cX3_tells 4 (some .boolean), .fieldLink RX3 9 "FoundRegister$Things" "ofFind" "[I", .methodLink RX3 58 yX3_goesBefore, .instanceMethod yX3_goesBefore, .selects RX3 yX3_goesBefore yX3_goesBefore, .code yX3_goesBefore cX3_goesBefore 5 (some .boolean), .fieldLink RX3 19 "FoundRegister$Things" "sources" "LFoundRegister$Sources;", .fieldLink RX3 65 "FoundRegister$Sources" "place" "[I", .fieldLink RX3 70 "FoundRegister$Finds" "source" "[I"] ++ wsX30 ++ wsX00 ++ wsX20)
def wsX3_hasUnlikeValues : List Cond := .code yX3_hasUnlikeValues cX3_hasUnlikeValues 6 (some .boolean) :: ([.fieldLink RX3 15 "FoundRegister$Things" "finds" "LFoundRegister$Finds;", .fieldLink RX3 23 "FoundRegister$Finds" "count" "I", .fieldLink RX3 61 "FoundRegister$Finds" "attributes" "[[I", .methodLink RX3 54 yX3_tells, .instanceMethod yX3_tells, .selects RX3 yX3_tells yX3_tells, .initialized RX3, .code yX3_tells cX3_tells 4 (some .boolean), .fieldLink RX3 9 "FoundRegister$Things" "ofFind" "[I"] ++ wsX30 ++ wsX00)
def wsX3_hasMark : List Cond := .code yX3_hasMark cX3_hasMark 5 (some .boolean) :: ([.fieldLink RX3 15 "FoundRegister$Things" "finds" "LFoundRegister$Finds;", .fieldLink RX3 23 "FoundRegister$Finds" "count" "I", .fieldLink RX3 9 "FoundRegister$Things" "ofFind" "[I", .fieldLink RX3 73 "FoundRegister$Finds" "marks" "[[I"] ++ wsX30 ++ wsX00)
def wsX4_init : List Cond := .code yX4_init cX4_init 1 none :: ([.methodLink RX4 3 objectInit, .instanceMethod objectInit, .code objectInit ⟨#[0xb1]⟩ 1 none, .fieldLink RX4 9 "FoundRegister$Wishes" "count" "I", .arrayClass .int, .fieldLink RX4 15 "FoundRegister$Wishes" "mark" "[I", .fieldLink RX4 19 "FoundRegister$Wishes" "markValue" "[I", .fieldLink RX4 22 "FoundRegister$Wishes" "attribute" "[I", .fieldLink RX4 25 "FoundRegister$Wishes" "wished" "[I"] ++ wsX40)
def wsX4_add : List Cond := .code yX4_add cX4_add 6 (some .int) :: ([.fieldLink RX4 9 "FoundRegister$Wishes" "count" "I", .fieldLink RX4 15 "FoundRegister$Wishes" "mark" "[I", .fieldLink RX4 19 "FoundRegister$Wishes" "markValue" "[I", .fieldLink RX4 22 "FoundRegister$Wishes" "attribute" "[I", .fieldLink RX4 25 "FoundRegister$Wishes" "wished" "[I"] ++ wsX40)
def wsX4_isMissedBy_r1 : List Cond := [Cond.fieldLink RX4 15 "FoundRegister$Wishes" "mark" "[I", Cond.fieldLink RX4 19 "FoundRegister$Wishes" "markValue" "[I", Cond.fieldLink RX4 22 "FoundRegister$Wishes" "attribute" "[I", Cond.fieldLink RX4 25 "FoundRegister$Wishes" "wished" "[I", Cond.methodLink RX4 28 yX3_hasMark, Cond.instanceMethod yX3_hasMark, Cond.selects RX3 yX3_hasMark yX3_hasMark, Cond.initialized RX3, Cond.code yX3_hasMark cX3_hasMark 5 (some .boolean), Cond.fieldLink RX3 15 "FoundRegister$Things" "finds" "LFoundRegister$Finds;", Cond.fieldLink RX3 23 "FoundRegister$Finds" "count" "I", Cond.fieldLink RX3 9 "FoundRegister$Things" "ofFind" "[I", Cond.fieldLink RX3 73 "FoundRegister$Finds" "marks" "[[I", Cond.methodLink RX4 34 yX3_attributeOf, Cond.instanceMethod yX3_attributeOf, Cond.selects RX3 yX3_attributeOf yX3_attributeOf, Cond.code yX3_attributeOf cX3_attributeOf 5 (some .int), Cond.fieldLink RX3 61 "FoundRegister$Finds" "attributes" "[[I", Cond.methodLink RX3 54 yX3_tells, Cond.instanceMethod yX3_tells, Cond.selects RX3 yX3_tells yX3_tells, Cond.code yX3_tells cX3_tells 4 (some .boolean), Cond.methodLink RX3 58 yX3_goesBefore, Cond.instanceMethod yX3_goesBefore]
def wsX4_isMissedBy_r2 : List Cond := [Cond.selects RX3 yX3_goesBefore yX3_goesBefore, Cond.code yX3_goesBefore cX3_goesBefore 5 (some .boolean), Cond.fieldLink RX3 19 "FoundRegister$Things" "sources" "LFoundRegister$Sources;", Cond.fieldLink RX3 65 "FoundRegister$Sources" "place" "[I", Cond.fieldLink RX3 70 "FoundRegister$Finds" "source" "[I"]
def wsX4_isMissedBy : List Cond := .code yX4_isMissedBy cX4_isMissedBy 4 (some .boolean) :: ((wsX4_isMissedBy_r1 ++ wsX4_isMissedBy_r2) ++ wsX40 ++ wsX30 ++ wsX00 ++ wsX20)
def wsX5_init_r1 : List Cond := [Cond.methodLink RX5 1 objectInit, Cond.instanceMethod objectInit, Cond.code objectInit ⟨#[0xb1]⟩ 1 none, Cond.fieldLink RX5 7 "FoundRegister" "presentDay" "I", Cond.classLink RX5 13 RX2, Cond.instantiable RX2 2, Cond.initialized RX2, Cond.fieldLink RX5 16 "FoundRegister" "sources" "LFoundRegister$Sources;", Cond.classLink RX5 20 RX0, Cond.instantiable RX0 7, Cond.initialized RX0, Cond.fieldLink RX5 23 "FoundRegister" "finds" "LFoundRegister$Finds;", Cond.classLink RX5 27 RX1, Cond.instantiable RX1 5, Cond.initialized RX1, Cond.fieldLink RX5 30 "FoundRegister" "links" "LFoundRegister$Links;", Cond.classLink RX5 34 RX4, Cond.instantiable RX4 5, Cond.initialized RX4, Cond.fieldLink RX5 37 "FoundRegister" "wishes" "LFoundRegister$Wishes;", Cond.classLink RX5 41 RX3, Cond.instantiable RX3 3, Cond.initialized RX3, Cond.fieldLink RX5 46 "FoundRegister" "ofDay" "LFoundRegister$Things;"]
def wsX5_init_r2 : List Cond := [Cond.fieldLink RX5 50 "FoundRegister" "ofOtherDay" "LFoundRegister$Things;", Cond.methodLink RX5 15 yX2_init, Cond.instanceMethod yX2_init, Cond.code yX2_init cX2_init 2 none, Cond.methodLink RX2 3 objectInit, Cond.arrayClass .int, Cond.fieldLink RX2 9 "FoundRegister$Sources" "term" "[I", Cond.fieldLink RX2 15 "FoundRegister$Sources" "place" "[I", Cond.instanceMethod yX0_init, Cond.code yX0_init cX0_init 1 none, Cond.methodLink RX0 3 objectInit, Cond.fieldLink RX0 9 "FoundRegister$Finds" "count" "I", Cond.fieldLink RX0 15 "FoundRegister$Finds" "source" "[I", Cond.fieldLink RX0 19 "FoundRegister$Finds" "cameOn" "[I", Cond.arrayClass .boolean, Cond.fieldLink RX0 22 "FoundRegister$Finds" "struck" "[Z", Cond.classLink RX0 26 "[[I", Cond.fieldLink RX0 28 "FoundRegister$Finds" "marks" "[[I", Cond.fieldLink RX0 31 "FoundRegister$Finds" "attributes" "[[I", Cond.fieldLink RX0 34 "FoundRegister$Finds" "told" "[[I", Cond.instanceMethod yX1_init, Cond.code yX1_init cX1_init 1 none, Cond.methodLink RX1 3 objectInit, Cond.fieldLink RX1 9 "FoundRegister$Links" "count" "I"]
def wsX5_init_r3 : List Cond := [Cond.fieldLink RX1 15 "FoundRegister$Links" "needing" "[I", Cond.fieldLink RX1 19 "FoundRegister$Links" "needed" "[I", Cond.fieldLink RX1 22 "FoundRegister$Links" "group" "[I", Cond.fieldLink RX1 25 "FoundRegister$Links" "failed" "[Z", Cond.instanceMethod yX4_init, Cond.code yX4_init cX4_init 1 none, Cond.methodLink RX4 3 objectInit, Cond.fieldLink RX4 9 "FoundRegister$Wishes" "count" "I", Cond.fieldLink RX4 15 "FoundRegister$Wishes" "mark" "[I", Cond.fieldLink RX4 19 "FoundRegister$Wishes" "markValue" "[I", Cond.fieldLink RX4 22 "FoundRegister$Wishes" "attribute" "[I", Cond.fieldLink RX4 25 "FoundRegister$Wishes" "wished" "[I", Cond.methodLink RX5 43 yX3_init, Cond.instanceMethod yX3_init, Cond.code yX3_init cX3_init 3 none, Cond.methodLink RX3 3 objectInit, Cond.fieldLink RX3 9 "FoundRegister$Things" "ofFind" "[I", Cond.fieldLink RX3 15 "FoundRegister$Things" "finds" "LFoundRegister$Finds;", Cond.fieldLink RX3 19 "FoundRegister$Things" "sources" "LFoundRegister$Sources;"]
def wsX5_init : List Cond := .code yX5_init cX5_init 1 none :: ((wsX5_init_r1 ++ (wsX5_init_r2 ++ wsX5_init_r3)) ++ wsX50 ++ wsX20 ++ wsX00 ++ wsX10 ++ wsX40 ++ wsX30)
def wsX5_requireRange : List Cond := .code yX5_requireRange cX5_requireRange 3 none :: ([.classLink RX5 169 "java/lang/IllegalArgumentException", .initialized "java/lang/IllegalArgumentException"] ++ (vx_atS RX5 173 "java/lang/IllegalArgumentException" ["java/lang/RuntimeException", "java/lang/Exception"]).filter goodWord)
def wsX5_pass : List Cond := .code yX5_pass cX5_pass 2 (some .int) :: ([.classLink RX5 57 "java/lang/IllegalStateException", .initialized "java/lang/IllegalStateException", .fieldLink RX5 7 "FoundRegister" "presentDay" "I", .methodLink RX5 53 yX5_requireRange, .static yX5_requireRange, .initialized RX5, .code yX5_requireRange cX5_requireRange 3 none, .classLink RX5 169 "java/lang/IllegalArgumentException", .initialized "java/lang/IllegalArgumentException"] ++ wsX50 ++ (vx_atS RX5 61 "java/lang/IllegalStateException" ["java/lang/RuntimeException", "java/lang/Exception"]).filter goodWord ++ (vx_atS RX5 173 "java/lang/IllegalArgumentException" ["java/lang/RuntimeException", "java/lang/Exception"]).filter goodWord)
def wsX5_today : List Cond := .code yX5_today cX5_today 1 (some .int) :: ([.fieldLink RX5 7 "FoundRegister" "presentDay" "I"] ++ wsX50)
def wsX5_setTerm : List Cond := .code yX5_setTerm cX5_setTerm 4 (some .int) :: ([.fieldLink RX5 16 "FoundRegister" "sources" "LFoundRegister$Sources;", .fieldLink RX5 64 "FoundRegister$Sources" "term" "[I", .methodLink RX5 53 yX5_requireRange, .static yX5_requireRange, .initialized RX5, .code yX5_requireRange cX5_requireRange 3 none, .classLink RX5 169 "java/lang/IllegalArgumentException", .initialized "java/lang/IllegalArgumentException"] ++ wsX50 ++ wsX20 ++ (vx_atS RX5 173 "java/lang/IllegalArgumentException" ["java/lang/RuntimeException", "java/lang/Exception"]).filter goodWord)
def wsX5_putFirst : List Cond := .code yX5_putFirst cX5_putFirst 2 (some .int) :: ([.fieldLink RX5 16 "FoundRegister" "sources" "LFoundRegister$Sources;", .methodLink RX5 53 yX5_requireRange, .static yX5_requireRange, .initialized RX5, .code yX5_requireRange cX5_requireRange 3 none, .classLink RX5 169 "java/lang/IllegalArgumentException", .initialized "java/lang/IllegalArgumentException", .methodLink RX5 68 yX2_moveToFront, .instanceMethod yX2_moveToFront, .selects RX2 yX2_moveToFront yX2_moveToFront, .initialized RX2, .code yX2_moveToFront cX2_moveToFront 4 (some .int), .fieldLink RX2 15 "FoundRegister$Sources" "place" "[I"] ++ wsX50 ++ wsX20 ++ (vx_atS RX5 173 "java/lang/IllegalArgumentException" ["java/lang/RuntimeException", "java/lang/Exception"]).filter goodWord)
def wsX5_find_r1 : List Cond := [Cond.classLink RX5 57 "java/lang/IllegalStateException", Cond.initialized "java/lang/IllegalStateException", Cond.fieldLink RX5 23 "FoundRegister" "finds" "LFoundRegister$Finds;", Cond.fieldLink RX5 72 "FoundRegister$Finds" "count" "I", Cond.fieldLink RX5 7 "FoundRegister" "presentDay" "I", Cond.methodLink RX5 53 yX5_requireRange, Cond.static yX5_requireRange, Cond.initialized RX5, Cond.code yX5_requireRange cX5_requireRange 3 none, Cond.classLink RX5 169 "java/lang/IllegalArgumentException", Cond.initialized "java/lang/IllegalArgumentException", Cond.methodLink RX5 77 yX0_take, Cond.instanceMethod yX0_take, Cond.selects RX0 yX0_take yX0_take, Cond.initialized RX0, Cond.code yX0_take cX0_take 4 (some .int), Cond.fieldLink RX0 9 "FoundRegister$Finds" "count" "I", Cond.fieldLink RX0 15 "FoundRegister$Finds" "source" "[I", Cond.fieldLink RX0 19 "FoundRegister$Finds" "cameOn" "[I", Cond.methodLink RX5 81 yX0_putMarks, Cond.instanceMethod yX0_putMarks, Cond.selects RX0 yX0_putMarks yX0_putMarks, Cond.code yX0_putMarks cX0_putMarks 5 none, Cond.fieldLink RX0 28 "FoundRegister$Finds" "marks" "[[I"]
def wsX5_find_r2 : List Cond := [Cond.methodLink RX5 85 yX0_putAttributes, Cond.instanceMethod yX0_putAttributes, Cond.selects RX0 yX0_putAttributes yX0_putAttributes, Cond.code yX0_putAttributes cX0_putAttributes 4 none, Cond.fieldLink RX0 31 "FoundRegister$Finds" "attributes" "[[I"]
def wsX5_find : List Cond := .code yX5_find cX5_find 8 (some .int) :: ((wsX5_find_r1 ++ wsX5_find_r2) ++ wsX50 ++ wsX00 ++ (vx_atS RX5 61 "java/lang/IllegalStateException" ["java/lang/RuntimeException", "java/lang/Exception"]).filter goodWord ++ (vx_atS RX5 173 "java/lang/IllegalArgumentException" ["java/lang/RuntimeException", "java/lang/Exception"]).filter goodWord)
def wsX5_requireFind : List Cond := .code yX5_requireFind cX5_requireFind 2 none :: ([.classLink RX5 157 "java/lang/IndexOutOfBoundsException", .initialized "java/lang/IndexOutOfBoundsException", .fieldLink RX5 23 "FoundRegister" "finds" "LFoundRegister$Finds;", .fieldLink RX5 72 "FoundRegister$Finds" "count" "I"] ++ wsX50 ++ wsX00 ++ (vx_atS RX5 161 "java/lang/IndexOutOfBoundsException" ["java/lang/RuntimeException", "java/lang/Exception"]).filter goodWord)
def wsX5_strike : List Cond := .code yX5_strike cX5_strike 3 (some .boolean) :: ([.fieldLink RX5 23 "FoundRegister" "finds" "LFoundRegister$Finds;", .fieldLink RX5 92 "FoundRegister$Finds" "struck" "[Z", .methodLink RX5 88 yX5_requireFind, .instanceMethod yX5_requireFind, .selects RX5 yX5_requireFind yX5_requireFind, .initialized RX5, .code yX5_requireFind cX5_requireFind 2 none, .classLink RX5 157 "java/lang/IndexOutOfBoundsException", .initialized "java/lang/IndexOutOfBoundsException", .fieldLink RX5 72 "FoundRegister$Finds" "count" "I"] ++ wsX50 ++ wsX00 ++ (vx_atS RX5 161 "java/lang/IndexOutOfBoundsException" ["java/lang/RuntimeException", "java/lang/Exception"]).filter goodWord)
def wsX5_requireUnlike : List Cond := .code yX5_requireUnlike cX5_requireUnlike 2 none :: ([.classLink RX5 169 "java/lang/IllegalArgumentException", .initialized "java/lang/IllegalArgumentException"] ++ (vx_atS RX5 173 "java/lang/IllegalArgumentException" ["java/lang/RuntimeException", "java/lang/Exception"]).filter goodWord)
def wsX5_tell : List Cond := .code yX5_tell cX5_tell 5 (some .int) :: ([.fieldLink RX5 23 "FoundRegister" "finds" "LFoundRegister$Finds;", .fieldLink RX5 100 "FoundRegister$Finds" "told" "[[I", .methodLink RX5 88 yX5_requireFind, .instanceMethod yX5_requireFind, .selects RX5 yX5_requireFind yX5_requireFind, .initialized RX5, .code yX5_requireFind cX5_requireFind 2 none, .classLink RX5 157 "java/lang/IndexOutOfBoundsException", .initialized "java/lang/IndexOutOfBoundsException", .fieldLink RX5 72 "FoundRegister$Finds" "count" "I", .methodLink RX5 96 yX5_requireUnlike, .static yX5_requireUnlike, .code yX5_requireUnlike cX5_requireUnlike 2 none, .classLink RX5 169 "java/lang/IllegalArgumentException", .initialized "java/lang/IllegalArgumentException", .methodLink RX5 53 yX5_requireRange, .static yX5_requireRange, .code yX5_requireRange cX5_requireRange 3 none] ++ wsX50 ++ wsX00 ++ (vx_atS RX5 161 "java/lang/IndexOutOfBoundsException" ["java/lang/RuntimeException", "java/lang/Exception"]).filter goodWord ++ (vx_atS RX5 173 "java/lang/IllegalArgumentException" ["java/lang/RuntimeException", "java/lang/Exception"]).filter goodWord)
def wsX5_requireDay : List Cond := .code yX5_requireDay cX5_requireDay 1 none :: ([.methodLink RX5 53 yX5_requireRange, .static yX5_requireRange, .initialized RX5, .code yX5_requireRange cX5_requireRange 3 none, .classLink RX5 169 "java/lang/IllegalArgumentException", .initialized "java/lang/IllegalArgumentException"] ++ (vx_atS RX5 173 "java/lang/IllegalArgumentException" ["java/lang/RuntimeException", "java/lang/Exception"]).filter goodWord)
def wsX5_counts_r1 : List Cond := [Cond.fieldLink RX5 23 "FoundRegister" "finds" "LFoundRegister$Finds;", Cond.fieldLink RX5 16 "FoundRegister" "sources" "LFoundRegister$Sources;", Cond.methodLink RX5 88 yX5_requireFind, Cond.instanceMethod yX5_requireFind, Cond.selects RX5 yX5_requireFind yX5_requireFind, Cond.initialized RX5, Cond.code yX5_requireFind cX5_requireFind 2 none, Cond.classLink RX5 157 "java/lang/IndexOutOfBoundsException", Cond.initialized "java/lang/IndexOutOfBoundsException", Cond.fieldLink RX5 72 "FoundRegister$Finds" "count" "I", Cond.methodLink RX5 104 yX5_requireDay, Cond.static yX5_requireDay, Cond.code yX5_requireDay cX5_requireDay 1 none, Cond.methodLink RX5 53 yX5_requireRange, Cond.static yX5_requireRange, Cond.code yX5_requireRange cX5_requireRange 3 none, Cond.classLink RX5 169 "java/lang/IllegalArgumentException", Cond.initialized "java/lang/IllegalArgumentException", Cond.methodLink RX5 107 yX0_standsOn, Cond.instanceMethod yX0_standsOn, Cond.selects RX0 yX0_standsOn yX0_standsOn, Cond.initialized RX0, Cond.code yX0_standsOn cX0_standsOn 4 (some .boolean), Cond.fieldLink RX0 22 "FoundRegister$Finds" "struck" "[Z"]
def wsX5_counts_r2 : List Cond := [Cond.fieldLink RX0 19 "FoundRegister$Finds" "cameOn" "[I", Cond.fieldLink RX0 37 "FoundRegister$Sources" "term" "[I", Cond.fieldLink RX0 15 "FoundRegister$Finds" "source" "[I"]
def wsX5_counts : List Cond := .code yX5_counts cX5_counts 3 (some .boolean) :: ((wsX5_counts_r1 ++ wsX5_counts_r2) ++ wsX50 ++ wsX00 ++ wsX20 ++ (vx_atS RX5 161 "java/lang/IndexOutOfBoundsException" ["java/lang/RuntimeException", "java/lang/Exception"]).filter goodWord ++ (vx_atS RX5 173 "java/lang/IllegalArgumentException" ["java/lang/RuntimeException", "java/lang/Exception"]).filter goodWord)
def wsX5_things_r1 : List Cond := [Cond.fieldLink RX5 46 "FoundRegister" "ofDay" "LFoundRegister$Things;", Cond.fieldLink RX5 23 "FoundRegister" "finds" "LFoundRegister$Finds;", Cond.fieldLink RX5 72 "FoundRegister$Finds" "count" "I", Cond.methodLink RX5 104 yX5_requireDay, Cond.static yX5_requireDay, Cond.initialized RX5, Cond.code yX5_requireDay cX5_requireDay 1 none, Cond.methodLink RX5 53 yX5_requireRange, Cond.static yX5_requireRange, Cond.code yX5_requireRange cX5_requireRange 3 none, Cond.classLink RX5 169 "java/lang/IllegalArgumentException", Cond.initialized "java/lang/IllegalArgumentException", Cond.methodLink RX5 111 yX3_sortFor, Cond.instanceMethod yX3_sortFor, Cond.selects RX3 yX3_sortFor yX3_sortFor, Cond.initialized RX3, Cond.code yX3_sortFor cX3_sortFor 3 none, Cond.fieldLink RX3 15 "FoundRegister$Things" "finds" "LFoundRegister$Finds;", Cond.fieldLink RX3 23 "FoundRegister$Finds" "count" "I", Cond.fieldLink RX3 9 "FoundRegister$Things" "ofFind" "[I", Cond.fieldLink RX3 19 "FoundRegister$Things" "sources" "LFoundRegister$Sources;", Cond.methodLink RX3 29 yX0_standsOn, Cond.instanceMethod yX0_standsOn, Cond.selects RX0 yX0_standsOn yX0_standsOn]
def wsX5_things_r2 : List Cond := [Cond.initialized RX0, Cond.code yX0_standsOn cX0_standsOn 4 (some .boolean), Cond.fieldLink RX0 22 "FoundRegister$Finds" "struck" "[Z", Cond.fieldLink RX0 19 "FoundRegister$Finds" "cameOn" "[I", Cond.fieldLink RX0 37 "FoundRegister$Sources" "term" "[I", Cond.fieldLink RX0 15 "FoundRegister$Finds" "source" "[I", Cond.methodLink RX3 33 yX3_joinToEarlier, Cond.instanceMethod yX3_joinToEarlier, Cond.selects RX3 yX3_joinToEarlier yX3_joinToEarlier, Cond.code yX3_joinToEarlier cX3_joinToEarlier 3 none, Cond.methodLink RX3 37 yX0_joined, Cond.instanceMethod yX0_joined, Cond.selects RX0 yX0_joined yX0_joined, Cond.code yX0_joined cX0_joined 3 (some .boolean), Cond.fieldLink RX0 34 "FoundRegister$Finds" "told" "[[I", Cond.methodLink RX0 42 yX0_knowsSerial, Cond.instanceMethod yX0_knowsSerial, Cond.selects RX0 yX0_knowsSerial yX0_knowsSerial, Cond.code yX0_knowsSerial cX0_knowsSerial 2 (some .boolean), Cond.fieldLink RX0 28 "FoundRegister$Finds" "marks" "[[I", Cond.methodLink RX0 46 yX0_shareMark, Cond.instanceMethod yX0_shareMark, Cond.selects RX0 yX0_shareMark yX0_shareMark, Cond.code yX0_shareMark cX0_shareMark 4 (some .boolean)]
def wsX5_things_r3 : List Cond := [Cond.methodLink RX3 41 yX3_merge, Cond.instanceMethod yX3_merge, Cond.selects RX3 yX3_merge yX3_merge, Cond.code yX3_merge cX3_merge 6 none, Cond.methodLink RX3 45 Lib.Math.min.name, Cond.static Lib.Math.min.name, Cond.initialized "java/lang/Math", Cond.code Lib.Math.min.name Lib.Math.min.code 2 (some .int), Cond.methodLink RX3 51 Lib.Math.max.name, Cond.static Lib.Math.max.name, Cond.code Lib.Math.max.name Lib.Math.max.code 2 (some .int), Cond.methodLink RX5 114 yX3_isThing, Cond.instanceMethod yX3_isThing, Cond.selects RX3 yX3_isThing yX3_isThing, Cond.code yX3_isThing cX3_isThing 2 (some .boolean)]
def wsX5_things : List Cond := .code yX5_things cX5_things 4 (some .int) :: ((wsX5_things_r1 ++ (wsX5_things_r2 ++ wsX5_things_r3)) ++ wsX50 ++ wsX00 ++ wsX30 ++ wsX20 ++ (vx_atS RX5 173 "java/lang/IllegalArgumentException" ["java/lang/RuntimeException", "java/lang/Exception"]).filter goodWord)
def wsX5_requireCounting : List Cond := .code yX5_requireCounting cX5_requireCounting 2 none :: ([.classLink RX5 178 "java/util/NoSuchElementException", .initialized "java/util/NoSuchElementException", .fieldLink RX5 46 "FoundRegister" "ofDay" "LFoundRegister$Things;", .fieldLink RX5 121 "FoundRegister$Things" "ofFind" "[I"] ++ wsX50 ++ wsX30 ++ (gNsAt RX5 182).filter goodWord)
def wsX5_thingOf_r1 : List Cond := [Cond.fieldLink RX5 46 "FoundRegister" "ofDay" "LFoundRegister$Things;", Cond.fieldLink RX5 121 "FoundRegister$Things" "ofFind" "[I", Cond.methodLink RX5 88 yX5_requireFind, Cond.instanceMethod yX5_requireFind, Cond.selects RX5 yX5_requireFind yX5_requireFind, Cond.initialized RX5, Cond.code yX5_requireFind cX5_requireFind 2 none, Cond.classLink RX5 157 "java/lang/IndexOutOfBoundsException", Cond.initialized "java/lang/IndexOutOfBoundsException", Cond.fieldLink RX5 23 "FoundRegister" "finds" "LFoundRegister$Finds;", Cond.fieldLink RX5 72 "FoundRegister$Finds" "count" "I", Cond.methodLink RX5 104 yX5_requireDay, Cond.static yX5_requireDay, Cond.code yX5_requireDay cX5_requireDay 1 none, Cond.methodLink RX5 53 yX5_requireRange, Cond.static yX5_requireRange, Cond.code yX5_requireRange cX5_requireRange 3 none, Cond.classLink RX5 169 "java/lang/IllegalArgumentException", Cond.initialized "java/lang/IllegalArgumentException", Cond.methodLink RX5 111 yX3_sortFor, Cond.instanceMethod yX3_sortFor, Cond.selects RX3 yX3_sortFor yX3_sortFor, Cond.initialized RX3, Cond.code yX3_sortFor cX3_sortFor 3 none]
def wsX5_thingOf_r2 : List Cond := [Cond.fieldLink RX3 15 "FoundRegister$Things" "finds" "LFoundRegister$Finds;", Cond.fieldLink RX3 23 "FoundRegister$Finds" "count" "I", Cond.fieldLink RX3 9 "FoundRegister$Things" "ofFind" "[I", Cond.fieldLink RX3 19 "FoundRegister$Things" "sources" "LFoundRegister$Sources;", Cond.methodLink RX3 29 yX0_standsOn, Cond.instanceMethod yX0_standsOn, Cond.selects RX0 yX0_standsOn yX0_standsOn, Cond.initialized RX0, Cond.code yX0_standsOn cX0_standsOn 4 (some .boolean), Cond.fieldLink RX0 22 "FoundRegister$Finds" "struck" "[Z", Cond.fieldLink RX0 19 "FoundRegister$Finds" "cameOn" "[I", Cond.fieldLink RX0 37 "FoundRegister$Sources" "term" "[I", Cond.fieldLink RX0 15 "FoundRegister$Finds" "source" "[I", Cond.methodLink RX3 33 yX3_joinToEarlier, Cond.instanceMethod yX3_joinToEarlier, Cond.selects RX3 yX3_joinToEarlier yX3_joinToEarlier, Cond.code yX3_joinToEarlier cX3_joinToEarlier 3 none, Cond.methodLink RX3 37 yX0_joined, Cond.instanceMethod yX0_joined, Cond.selects RX0 yX0_joined yX0_joined, Cond.code yX0_joined cX0_joined 3 (some .boolean), Cond.fieldLink RX0 34 "FoundRegister$Finds" "told" "[[I", Cond.methodLink RX0 42 yX0_knowsSerial, Cond.instanceMethod yX0_knowsSerial]
def wsX5_thingOf_r3 : List Cond := [Cond.selects RX0 yX0_knowsSerial yX0_knowsSerial, Cond.code yX0_knowsSerial cX0_knowsSerial 2 (some .boolean), Cond.fieldLink RX0 28 "FoundRegister$Finds" "marks" "[[I", Cond.methodLink RX0 46 yX0_shareMark, Cond.instanceMethod yX0_shareMark, Cond.selects RX0 yX0_shareMark yX0_shareMark, Cond.code yX0_shareMark cX0_shareMark 4 (some .boolean), Cond.methodLink RX3 41 yX3_merge, Cond.instanceMethod yX3_merge, Cond.selects RX3 yX3_merge yX3_merge, Cond.code yX3_merge cX3_merge 6 none, Cond.methodLink RX3 45 Lib.Math.min.name, Cond.static Lib.Math.min.name, Cond.initialized "java/lang/Math", Cond.code Lib.Math.min.name Lib.Math.min.code 2 (some .int), Cond.methodLink RX3 51 Lib.Math.max.name, Cond.static Lib.Math.max.name, Cond.code Lib.Math.max.name Lib.Math.max.code 2 (some .int), Cond.methodLink RX5 118 yX5_requireCounting, Cond.instanceMethod yX5_requireCounting, Cond.selects RX5 yX5_requireCounting yX5_requireCounting, Cond.code yX5_requireCounting cX5_requireCounting 2 none, Cond.classLink RX5 178 "java/util/NoSuchElementException", Cond.initialized "java/util/NoSuchElementException"]
def wsX5_thingOf : List Cond := .code yX5_thingOf cX5_thingOf 3 (some .int) :: ((wsX5_thingOf_r1 ++ (wsX5_thingOf_r2 ++ wsX5_thingOf_r3)) ++ wsX50 ++ wsX30 ++ wsX00 ++ wsX20 ++ (vx_atS RX5 161 "java/lang/IndexOutOfBoundsException" ["java/lang/RuntimeException", "java/lang/Exception"]).filter goodWord ++ (vx_atS RX5 173 "java/lang/IllegalArgumentException" ["java/lang/RuntimeException", "java/lang/Exception"]).filter goodWord ++ (gNsAt RX5 182).filter goodWord)
def wsX5_requireAttribute : List Cond := .code yX5_requireAttribute cX5_requireAttribute 1 none :: ([.methodLink RX5 53 yX5_requireRange, .static yX5_requireRange, .initialized RX5, .code yX5_requireRange cX5_requireRange 3 none, .classLink RX5 169 "java/lang/IllegalArgumentException", .initialized "java/lang/IllegalArgumentException"] ++ (vx_atS RX5 173 "java/lang/IllegalArgumentException" ["java/lang/RuntimeException", "java/lang/Exception"]).filter goodWord)
def wsX5_value_r1 : List Cond := [Cond.fieldLink RX5 46 "FoundRegister" "ofDay" "LFoundRegister$Things;", Cond.fieldLink RX5 121 "FoundRegister$Things" "ofFind" "[I", Cond.methodLink RX5 88 yX5_requireFind, Cond.instanceMethod yX5_requireFind, Cond.selects RX5 yX5_requireFind yX5_requireFind, Cond.initialized RX5, Cond.code yX5_requireFind cX5_requireFind 2 none, Cond.classLink RX5 157 "java/lang/IndexOutOfBoundsException", Cond.initialized "java/lang/IndexOutOfBoundsException", Cond.fieldLink RX5 23 "FoundRegister" "finds" "LFoundRegister$Finds;", Cond.fieldLink RX5 72 "FoundRegister$Finds" "count" "I", Cond.methodLink RX5 124 yX5_requireAttribute, Cond.static yX5_requireAttribute, Cond.code yX5_requireAttribute cX5_requireAttribute 1 none, Cond.methodLink RX5 53 yX5_requireRange, Cond.static yX5_requireRange, Cond.code yX5_requireRange cX5_requireRange 3 none, Cond.classLink RX5 169 "java/lang/IllegalArgumentException", Cond.initialized "java/lang/IllegalArgumentException", Cond.methodLink RX5 104 yX5_requireDay, Cond.static yX5_requireDay, Cond.code yX5_requireDay cX5_requireDay 1 none, Cond.methodLink RX5 111 yX3_sortFor, Cond.instanceMethod yX3_sortFor]
def wsX5_value_r2 : List Cond := [Cond.selects RX3 yX3_sortFor yX3_sortFor, Cond.initialized RX3, Cond.code yX3_sortFor cX3_sortFor 3 none, Cond.fieldLink RX3 15 "FoundRegister$Things" "finds" "LFoundRegister$Finds;", Cond.fieldLink RX3 23 "FoundRegister$Finds" "count" "I", Cond.fieldLink RX3 9 "FoundRegister$Things" "ofFind" "[I", Cond.fieldLink RX3 19 "FoundRegister$Things" "sources" "LFoundRegister$Sources;", Cond.methodLink RX3 29 yX0_standsOn, Cond.instanceMethod yX0_standsOn, Cond.selects RX0 yX0_standsOn yX0_standsOn, Cond.initialized RX0, Cond.code yX0_standsOn cX0_standsOn 4 (some .boolean), Cond.fieldLink RX0 22 "FoundRegister$Finds" "struck" "[Z", Cond.fieldLink RX0 19 "FoundRegister$Finds" "cameOn" "[I", Cond.fieldLink RX0 37 "FoundRegister$Sources" "term" "[I", Cond.fieldLink RX0 15 "FoundRegister$Finds" "source" "[I", Cond.methodLink RX3 33 yX3_joinToEarlier, Cond.instanceMethod yX3_joinToEarlier, Cond.selects RX3 yX3_joinToEarlier yX3_joinToEarlier, Cond.code yX3_joinToEarlier cX3_joinToEarlier 3 none, Cond.methodLink RX3 37 yX0_joined, Cond.instanceMethod yX0_joined, Cond.selects RX0 yX0_joined yX0_joined, Cond.code yX0_joined cX0_joined 3 (some .boolean)]
def wsX5_value_r3 : List Cond := [Cond.fieldLink RX0 34 "FoundRegister$Finds" "told" "[[I", Cond.methodLink RX0 42 yX0_knowsSerial, Cond.instanceMethod yX0_knowsSerial, Cond.selects RX0 yX0_knowsSerial yX0_knowsSerial, Cond.code yX0_knowsSerial cX0_knowsSerial 2 (some .boolean), Cond.fieldLink RX0 28 "FoundRegister$Finds" "marks" "[[I", Cond.methodLink RX0 46 yX0_shareMark, Cond.instanceMethod yX0_shareMark, Cond.selects RX0 yX0_shareMark yX0_shareMark, Cond.code yX0_shareMark cX0_shareMark 4 (some .boolean), Cond.methodLink RX3 41 yX3_merge, Cond.instanceMethod yX3_merge, Cond.selects RX3 yX3_merge yX3_merge, Cond.code yX3_merge cX3_merge 6 none, Cond.methodLink RX3 45 Lib.Math.min.name, Cond.static Lib.Math.min.name, Cond.initialized "java/lang/Math", Cond.code Lib.Math.min.name Lib.Math.min.code 2 (some .int), Cond.methodLink RX3 51 Lib.Math.max.name, Cond.static Lib.Math.max.name, Cond.code Lib.Math.max.name Lib.Math.max.code 2 (some .int), Cond.methodLink RX5 118 yX5_requireCounting, Cond.instanceMethod yX5_requireCounting, Cond.selects RX5 yX5_requireCounting yX5_requireCounting]
def wsX5_value_r4 : List Cond := [Cond.code yX5_requireCounting cX5_requireCounting 2 none, Cond.classLink RX5 178 "java/util/NoSuchElementException", Cond.initialized "java/util/NoSuchElementException", Cond.methodLink RX5 127 yX3_attributeOf, Cond.instanceMethod yX3_attributeOf, Cond.selects RX3 yX3_attributeOf yX3_attributeOf, Cond.code yX3_attributeOf cX3_attributeOf 5 (some .int), Cond.fieldLink RX3 61 "FoundRegister$Finds" "attributes" "[[I", Cond.methodLink RX3 54 yX3_tells, Cond.instanceMethod yX3_tells, Cond.selects RX3 yX3_tells yX3_tells, Cond.code yX3_tells cX3_tells 4 (some .boolean), Cond.methodLink RX3 58 yX3_goesBefore, Cond.instanceMethod yX3_goesBefore, Cond.selects RX3 yX3_goesBefore yX3_goesBefore, Cond.code yX3_goesBefore cX3_goesBefore 5 (some .boolean), Cond.fieldLink RX3 65 "FoundRegister$Sources" "place" "[I", Cond.fieldLink RX3 70 "FoundRegister$Finds" "source" "[I"]
def wsX5_value : List Cond := .code yX5_value cX5_value 4 (some .int) :: ((wsX5_value_r1 ++ (wsX5_value_r2 ++ (wsX5_value_r3 ++ wsX5_value_r4))) ++ wsX50 ++ wsX30 ++ wsX00 ++ wsX20 ++ (vx_atS RX5 161 "java/lang/IndexOutOfBoundsException" ["java/lang/RuntimeException", "java/lang/Exception"]).filter goodWord ++ (vx_atS RX5 173 "java/lang/IllegalArgumentException" ["java/lang/RuntimeException", "java/lang/Exception"]).filter goodWord ++ (gNsAt RX5 182).filter goodWord)
def wsX5_disputed_r1 : List Cond := [Cond.fieldLink RX5 46 "FoundRegister" "ofDay" "LFoundRegister$Things;", Cond.fieldLink RX5 23 "FoundRegister" "finds" "LFoundRegister$Finds;", Cond.fieldLink RX5 72 "FoundRegister$Finds" "count" "I", Cond.methodLink RX5 124 yX5_requireAttribute, Cond.static yX5_requireAttribute, Cond.initialized RX5, Cond.code yX5_requireAttribute cX5_requireAttribute 1 none, Cond.methodLink RX5 53 yX5_requireRange, Cond.static yX5_requireRange, Cond.code yX5_requireRange cX5_requireRange 3 none, Cond.classLink RX5 169 "java/lang/IllegalArgumentException", Cond.initialized "java/lang/IllegalArgumentException", Cond.methodLink RX5 104 yX5_requireDay, Cond.static yX5_requireDay, Cond.code yX5_requireDay cX5_requireDay 1 none, Cond.methodLink RX5 111 yX3_sortFor, Cond.instanceMethod yX3_sortFor, Cond.selects RX3 yX3_sortFor yX3_sortFor, Cond.initialized RX3, Cond.code yX3_sortFor cX3_sortFor 3 none, Cond.fieldLink RX3 15 "FoundRegister$Things" "finds" "LFoundRegister$Finds;", Cond.fieldLink RX3 23 "FoundRegister$Finds" "count" "I", Cond.fieldLink RX3 9 "FoundRegister$Things" "ofFind" "[I", Cond.fieldLink RX3 19 "FoundRegister$Things" "sources" "LFoundRegister$Sources;"]
def wsX5_disputed_r2 : List Cond := [Cond.methodLink RX3 29 yX0_standsOn, Cond.instanceMethod yX0_standsOn, Cond.selects RX0 yX0_standsOn yX0_standsOn, Cond.initialized RX0, Cond.code yX0_standsOn cX0_standsOn 4 (some .boolean), Cond.fieldLink RX0 22 "FoundRegister$Finds" "struck" "[Z", Cond.fieldLink RX0 19 "FoundRegister$Finds" "cameOn" "[I", Cond.fieldLink RX0 37 "FoundRegister$Sources" "term" "[I", Cond.fieldLink RX0 15 "FoundRegister$Finds" "source" "[I", Cond.methodLink RX3 33 yX3_joinToEarlier, Cond.instanceMethod yX3_joinToEarlier, Cond.selects RX3 yX3_joinToEarlier yX3_joinToEarlier, Cond.code yX3_joinToEarlier cX3_joinToEarlier 3 none, Cond.methodLink RX3 37 yX0_joined, Cond.instanceMethod yX0_joined, Cond.selects RX0 yX0_joined yX0_joined, Cond.code yX0_joined cX0_joined 3 (some .boolean), Cond.fieldLink RX0 34 "FoundRegister$Finds" "told" "[[I", Cond.methodLink RX0 42 yX0_knowsSerial, Cond.instanceMethod yX0_knowsSerial, Cond.selects RX0 yX0_knowsSerial yX0_knowsSerial, Cond.code yX0_knowsSerial cX0_knowsSerial 2 (some .boolean), Cond.fieldLink RX0 28 "FoundRegister$Finds" "marks" "[[I", Cond.methodLink RX0 46 yX0_shareMark]
def wsX5_disputed_r3 : List Cond := [Cond.instanceMethod yX0_shareMark, Cond.selects RX0 yX0_shareMark yX0_shareMark, Cond.code yX0_shareMark cX0_shareMark 4 (some .boolean), Cond.methodLink RX3 41 yX3_merge, Cond.instanceMethod yX3_merge, Cond.selects RX3 yX3_merge yX3_merge, Cond.code yX3_merge cX3_merge 6 none, Cond.methodLink RX3 45 Lib.Math.min.name, Cond.static Lib.Math.min.name, Cond.initialized "java/lang/Math", Cond.code Lib.Math.min.name Lib.Math.min.code 2 (some .int), Cond.methodLink RX3 51 Lib.Math.max.name, Cond.static Lib.Math.max.name, Cond.code Lib.Math.max.name Lib.Math.max.code 2 (some .int), Cond.methodLink RX5 114 yX3_isThing, Cond.instanceMethod yX3_isThing, Cond.selects RX3 yX3_isThing yX3_isThing, Cond.code yX3_isThing cX3_isThing 2 (some .boolean), Cond.methodLink RX5 130 yX3_hasUnlikeValues, Cond.instanceMethod yX3_hasUnlikeValues, Cond.selects RX3 yX3_hasUnlikeValues yX3_hasUnlikeValues, Cond.code yX3_hasUnlikeValues cX3_hasUnlikeValues 6 (some .boolean), Cond.fieldLink RX3 61 "FoundRegister$Finds" "attributes" "[[I", Cond.methodLink RX3 54 yX3_tells]
def wsX5_disputed_r4 : List Cond := [Cond.instanceMethod yX3_tells, Cond.selects RX3 yX3_tells yX3_tells, Cond.code yX3_tells cX3_tells 4 (some .boolean)]
def wsX5_disputed : List Cond := .code yX5_disputed cX5_disputed 5 (some .int) :: ((wsX5_disputed_r1 ++ (wsX5_disputed_r2 ++ (wsX5_disputed_r3 ++ wsX5_disputed_r4))) ++ wsX50 ++ wsX00 ++ wsX30 ++ wsX20 ++ (vx_atS RX5 173 "java/lang/IllegalArgumentException" ["java/lang/RuntimeException", "java/lang/Exception"]).filter goodWord)
def wsX5_link_r1 : List Cond := [Cond.classLink RX5 57 "java/lang/IllegalStateException", Cond.initialized "java/lang/IllegalStateException", Cond.fieldLink RX5 30 "FoundRegister" "links" "LFoundRegister$Links;", Cond.fieldLink RX5 134 "FoundRegister$Links" "count" "I", Cond.methodLink RX5 88 yX5_requireFind, Cond.instanceMethod yX5_requireFind, Cond.selects RX5 yX5_requireFind yX5_requireFind, Cond.initialized RX5, Cond.code yX5_requireFind cX5_requireFind 2 none, Cond.classLink RX5 157 "java/lang/IndexOutOfBoundsException", Cond.initialized "java/lang/IndexOutOfBoundsException", Cond.fieldLink RX5 23 "FoundRegister" "finds" "LFoundRegister$Finds;", Cond.fieldLink RX5 72 "FoundRegister$Finds" "count" "I", Cond.methodLink RX5 96 yX5_requireUnlike, Cond.static yX5_requireUnlike, Cond.code yX5_requireUnlike cX5_requireUnlike 2 none, Cond.classLink RX5 169 "java/lang/IllegalArgumentException", Cond.initialized "java/lang/IllegalArgumentException", Cond.methodLink RX5 53 yX5_requireRange, Cond.static yX5_requireRange, Cond.code yX5_requireRange cX5_requireRange 3 none, Cond.methodLink RX5 137 yX1_add, Cond.instanceMethod yX1_add, Cond.selects RX1 yX1_add yX1_add]
def wsX5_link_r2 : List Cond := [Cond.initialized RX1, Cond.code yX1_add cX1_add 4 none, Cond.fieldLink RX1 15 "FoundRegister$Links" "needing" "[I", Cond.fieldLink RX1 9 "FoundRegister$Links" "count" "I", Cond.fieldLink RX1 19 "FoundRegister$Links" "needed" "[I", Cond.fieldLink RX1 22 "FoundRegister$Links" "group" "[I"]
def wsX5_link : List Cond := .code yX5_link cX5_link 4 (some .int) :: ((wsX5_link_r1 ++ wsX5_link_r2) ++ wsX50 ++ wsX10 ++ wsX00 ++ (vx_atS RX5 61 "java/lang/IllegalStateException" ["java/lang/RuntimeException", "java/lang/Exception"]).filter goodWord ++ (vx_atS RX5 161 "java/lang/IndexOutOfBoundsException" ["java/lang/RuntimeException", "java/lang/Exception"]).filter goodWord ++ (vx_atS RX5 173 "java/lang/IllegalArgumentException" ["java/lang/RuntimeException", "java/lang/Exception"]).filter goodWord)
def wsX5_impact_r1 : List Cond := [Cond.fieldLink RX5 46 "FoundRegister" "ofDay" "LFoundRegister$Things;", Cond.fieldLink RX5 30 "FoundRegister" "links" "LFoundRegister$Links;", Cond.fieldLink RX5 121 "FoundRegister$Things" "ofFind" "[I", Cond.methodLink RX5 88 yX5_requireFind, Cond.instanceMethod yX5_requireFind, Cond.selects RX5 yX5_requireFind yX5_requireFind, Cond.initialized RX5, Cond.code yX5_requireFind cX5_requireFind 2 none, Cond.classLink RX5 157 "java/lang/IndexOutOfBoundsException", Cond.initialized "java/lang/IndexOutOfBoundsException", Cond.fieldLink RX5 23 "FoundRegister" "finds" "LFoundRegister$Finds;", Cond.fieldLink RX5 72 "FoundRegister$Finds" "count" "I", Cond.methodLink RX5 104 yX5_requireDay, Cond.static yX5_requireDay, Cond.code yX5_requireDay cX5_requireDay 1 none, Cond.methodLink RX5 53 yX5_requireRange, Cond.static yX5_requireRange, Cond.code yX5_requireRange cX5_requireRange 3 none, Cond.classLink RX5 169 "java/lang/IllegalArgumentException", Cond.initialized "java/lang/IllegalArgumentException", Cond.methodLink RX5 111 yX3_sortFor, Cond.instanceMethod yX3_sortFor, Cond.selects RX3 yX3_sortFor yX3_sortFor, Cond.initialized RX3]
def wsX5_impact_r2 : List Cond := [Cond.code yX3_sortFor cX3_sortFor 3 none, Cond.fieldLink RX3 15 "FoundRegister$Things" "finds" "LFoundRegister$Finds;", Cond.fieldLink RX3 23 "FoundRegister$Finds" "count" "I", Cond.fieldLink RX3 9 "FoundRegister$Things" "ofFind" "[I", Cond.fieldLink RX3 19 "FoundRegister$Things" "sources" "LFoundRegister$Sources;", Cond.methodLink RX3 29 yX0_standsOn, Cond.instanceMethod yX0_standsOn, Cond.selects RX0 yX0_standsOn yX0_standsOn, Cond.initialized RX0, Cond.code yX0_standsOn cX0_standsOn 4 (some .boolean), Cond.fieldLink RX0 22 "FoundRegister$Finds" "struck" "[Z", Cond.fieldLink RX0 19 "FoundRegister$Finds" "cameOn" "[I", Cond.fieldLink RX0 37 "FoundRegister$Sources" "term" "[I", Cond.fieldLink RX0 15 "FoundRegister$Finds" "source" "[I", Cond.methodLink RX3 33 yX3_joinToEarlier, Cond.instanceMethod yX3_joinToEarlier, Cond.selects RX3 yX3_joinToEarlier yX3_joinToEarlier, Cond.code yX3_joinToEarlier cX3_joinToEarlier 3 none, Cond.methodLink RX3 37 yX0_joined, Cond.instanceMethod yX0_joined, Cond.selects RX0 yX0_joined yX0_joined, Cond.code yX0_joined cX0_joined 3 (some .boolean), Cond.fieldLink RX0 34 "FoundRegister$Finds" "told" "[[I", Cond.methodLink RX0 42 yX0_knowsSerial]
def wsX5_impact_r3 : List Cond := [Cond.instanceMethod yX0_knowsSerial, Cond.selects RX0 yX0_knowsSerial yX0_knowsSerial, Cond.code yX0_knowsSerial cX0_knowsSerial 2 (some .boolean), Cond.fieldLink RX0 28 "FoundRegister$Finds" "marks" "[[I", Cond.methodLink RX0 46 yX0_shareMark, Cond.instanceMethod yX0_shareMark, Cond.selects RX0 yX0_shareMark yX0_shareMark, Cond.code yX0_shareMark cX0_shareMark 4 (some .boolean), Cond.methodLink RX3 41 yX3_merge, Cond.instanceMethod yX3_merge, Cond.selects RX3 yX3_merge yX3_merge, Cond.code yX3_merge cX3_merge 6 none, Cond.methodLink RX3 45 Lib.Math.min.name, Cond.static Lib.Math.min.name, Cond.initialized "java/lang/Math", Cond.code Lib.Math.min.name Lib.Math.min.code 2 (some .int), Cond.methodLink RX3 51 Lib.Math.max.name, Cond.static Lib.Math.max.name, Cond.code Lib.Math.max.name Lib.Math.max.code 2 (some .int), Cond.methodLink RX5 118 yX5_requireCounting, Cond.instanceMethod yX5_requireCounting, Cond.selects RX5 yX5_requireCounting yX5_requireCounting, Cond.code yX5_requireCounting cX5_requireCounting 2 none, Cond.classLink RX5 178 "java/util/NoSuchElementException"]
def wsX5_impact_r4 : List Cond := [Cond.initialized "java/util/NoSuchElementException", Cond.methodLink RX5 140 yX1_failFrom, Cond.instanceMethod yX1_failFrom, Cond.selects RX1 yX1_failFrom yX1_failFrom, Cond.initialized RX1, Cond.code yX1_failFrom cX1_failFrom 5 none, Cond.fieldLink RX1 25 "FoundRegister$Links" "failed" "[Z", Cond.methodLink RX1 29 yX1_failMore, Cond.instanceMethod yX1_failMore, Cond.selects RX1 yX1_failMore yX1_failMore, Cond.code yX1_failMore cX1_failMore 5 (some .boolean), Cond.fieldLink RX1 9 "FoundRegister$Links" "count" "I", Cond.fieldLink RX1 33 "FoundRegister$Things" "ofFind" "[I", Cond.fieldLink RX1 15 "FoundRegister$Links" "needing" "[I", Cond.fieldLink RX1 22 "FoundRegister$Links" "group" "[I", Cond.methodLink RX1 38 yX1_holds, Cond.instanceMethod yX1_holds, Cond.selects RX1 yX1_holds yX1_holds, Cond.code yX1_holds cX1_holds 5 (some .boolean), Cond.fieldLink RX1 19 "FoundRegister$Links" "needed" "[I", Cond.methodLink RX1 42 yX1_lost, Cond.instanceMethod yX1_lost, Cond.selects RX1 yX1_lost yX1_lost, Cond.code yX1_lost cX1_lost 5 (some .boolean)]
def wsX5_impact_r5 : List Cond := [Cond.methodLink RX5 144 yX1_failures, Cond.instanceMethod yX1_failures, Cond.selects RX1 yX1_failures yX1_failures, Cond.code yX1_failures cX1_failures 3 (some .int)]
def wsX5_impact : List Cond := .code yX5_impact cX5_impact 3 (some .int) :: ((wsX5_impact_r1 ++ (wsX5_impact_r2 ++ (wsX5_impact_r3 ++ (wsX5_impact_r4 ++ wsX5_impact_r5)))) ++ wsX50 ++ wsX30 ++ wsX00 ++ wsX20 ++ wsX10 ++ (vx_atS RX5 161 "java/lang/IndexOutOfBoundsException" ["java/lang/RuntimeException", "java/lang/Exception"]).filter goodWord ++ (vx_atS RX5 173 "java/lang/IllegalArgumentException" ["java/lang/RuntimeException", "java/lang/Exception"]).filter goodWord ++ (gNsAt RX5 182).filter goodWord)
def wsX5_failsWith_r1 : List Cond := [Cond.fieldLink RX5 46 "FoundRegister" "ofDay" "LFoundRegister$Things;", Cond.fieldLink RX5 30 "FoundRegister" "links" "LFoundRegister$Links;", Cond.fieldLink RX5 121 "FoundRegister$Things" "ofFind" "[I", Cond.fieldLink RX5 148 "FoundRegister$Links" "failed" "[Z", Cond.methodLink RX5 88 yX5_requireFind, Cond.instanceMethod yX5_requireFind, Cond.selects RX5 yX5_requireFind yX5_requireFind, Cond.initialized RX5, Cond.code yX5_requireFind cX5_requireFind 2 none, Cond.classLink RX5 157 "java/lang/IndexOutOfBoundsException", Cond.initialized "java/lang/IndexOutOfBoundsException", Cond.fieldLink RX5 23 "FoundRegister" "finds" "LFoundRegister$Finds;", Cond.fieldLink RX5 72 "FoundRegister$Finds" "count" "I", Cond.methodLink RX5 104 yX5_requireDay, Cond.static yX5_requireDay, Cond.code yX5_requireDay cX5_requireDay 1 none, Cond.methodLink RX5 53 yX5_requireRange, Cond.static yX5_requireRange, Cond.code yX5_requireRange cX5_requireRange 3 none, Cond.classLink RX5 169 "java/lang/IllegalArgumentException", Cond.initialized "java/lang/IllegalArgumentException", Cond.methodLink RX5 111 yX3_sortFor, Cond.instanceMethod yX3_sortFor, Cond.selects RX3 yX3_sortFor yX3_sortFor]
def wsX5_failsWith_r2 : List Cond := [Cond.initialized RX3, Cond.code yX3_sortFor cX3_sortFor 3 none, Cond.fieldLink RX3 15 "FoundRegister$Things" "finds" "LFoundRegister$Finds;", Cond.fieldLink RX3 23 "FoundRegister$Finds" "count" "I", Cond.fieldLink RX3 9 "FoundRegister$Things" "ofFind" "[I", Cond.fieldLink RX3 19 "FoundRegister$Things" "sources" "LFoundRegister$Sources;", Cond.methodLink RX3 29 yX0_standsOn, Cond.instanceMethod yX0_standsOn, Cond.selects RX0 yX0_standsOn yX0_standsOn, Cond.initialized RX0, Cond.code yX0_standsOn cX0_standsOn 4 (some .boolean), Cond.fieldLink RX0 22 "FoundRegister$Finds" "struck" "[Z", Cond.fieldLink RX0 19 "FoundRegister$Finds" "cameOn" "[I", Cond.fieldLink RX0 37 "FoundRegister$Sources" "term" "[I", Cond.fieldLink RX0 15 "FoundRegister$Finds" "source" "[I", Cond.methodLink RX3 33 yX3_joinToEarlier, Cond.instanceMethod yX3_joinToEarlier, Cond.selects RX3 yX3_joinToEarlier yX3_joinToEarlier, Cond.code yX3_joinToEarlier cX3_joinToEarlier 3 none, Cond.methodLink RX3 37 yX0_joined, Cond.instanceMethod yX0_joined, Cond.selects RX0 yX0_joined yX0_joined, Cond.code yX0_joined cX0_joined 3 (some .boolean), Cond.fieldLink RX0 34 "FoundRegister$Finds" "told" "[[I"]
def wsX5_failsWith_r3 : List Cond := [Cond.methodLink RX0 42 yX0_knowsSerial, Cond.instanceMethod yX0_knowsSerial, Cond.selects RX0 yX0_knowsSerial yX0_knowsSerial, Cond.code yX0_knowsSerial cX0_knowsSerial 2 (some .boolean), Cond.fieldLink RX0 28 "FoundRegister$Finds" "marks" "[[I", Cond.methodLink RX0 46 yX0_shareMark, Cond.instanceMethod yX0_shareMark, Cond.selects RX0 yX0_shareMark yX0_shareMark, Cond.code yX0_shareMark cX0_shareMark 4 (some .boolean), Cond.methodLink RX3 41 yX3_merge, Cond.instanceMethod yX3_merge, Cond.selects RX3 yX3_merge yX3_merge, Cond.code yX3_merge cX3_merge 6 none, Cond.methodLink RX3 45 Lib.Math.min.name, Cond.static Lib.Math.min.name, Cond.initialized "java/lang/Math", Cond.code Lib.Math.min.name Lib.Math.min.code 2 (some .int), Cond.methodLink RX3 51 Lib.Math.max.name, Cond.static Lib.Math.max.name, Cond.code Lib.Math.max.name Lib.Math.max.code 2 (some .int), Cond.methodLink RX5 118 yX5_requireCounting, Cond.instanceMethod yX5_requireCounting, Cond.selects RX5 yX5_requireCounting yX5_requireCounting, Cond.code yX5_requireCounting cX5_requireCounting 2 none]
def wsX5_failsWith_r4 : List Cond := [Cond.classLink RX5 178 "java/util/NoSuchElementException", Cond.initialized "java/util/NoSuchElementException", Cond.methodLink RX5 140 yX1_failFrom, Cond.instanceMethod yX1_failFrom, Cond.selects RX1 yX1_failFrom yX1_failFrom, Cond.initialized RX1, Cond.code yX1_failFrom cX1_failFrom 5 none, Cond.fieldLink RX1 25 "FoundRegister$Links" "failed" "[Z", Cond.methodLink RX1 29 yX1_failMore, Cond.instanceMethod yX1_failMore, Cond.selects RX1 yX1_failMore yX1_failMore, Cond.code yX1_failMore cX1_failMore 5 (some .boolean), Cond.fieldLink RX1 9 "FoundRegister$Links" "count" "I", Cond.fieldLink RX1 33 "FoundRegister$Things" "ofFind" "[I", Cond.fieldLink RX1 15 "FoundRegister$Links" "needing" "[I", Cond.fieldLink RX1 22 "FoundRegister$Links" "group" "[I", Cond.methodLink RX1 38 yX1_holds, Cond.instanceMethod yX1_holds, Cond.selects RX1 yX1_holds yX1_holds, Cond.code yX1_holds cX1_holds 5 (some .boolean), Cond.fieldLink RX1 19 "FoundRegister$Links" "needed" "[I", Cond.methodLink RX1 42 yX1_lost, Cond.instanceMethod yX1_lost, Cond.selects RX1 yX1_lost yX1_lost]
def wsX5_failsWith_r5 : List Cond := [Cond.code yX1_lost cX1_lost 5 (some .boolean)]
def wsX5_failsWith : List Cond := .code yX5_failsWith cX5_failsWith 4 (some .boolean) :: ((wsX5_failsWith_r1 ++ (wsX5_failsWith_r2 ++ (wsX5_failsWith_r3 ++ (wsX5_failsWith_r4 ++ wsX5_failsWith_r5)))) ++ wsX50 ++ wsX30 ++ wsX10 ++ wsX00 ++ wsX20 ++ (vx_atS RX5 161 "java/lang/IndexOutOfBoundsException" ["java/lang/RuntimeException", "java/lang/Exception"]).filter goodWord ++ (vx_atS RX5 173 "java/lang/IllegalArgumentException" ["java/lang/RuntimeException", "java/lang/Exception"]).filter goodWord ++ (gNsAt RX5 182).filter goodWord)
def wsX5_wish : List Cond := .code yX5_wish cX5_wish 5 (some .int) :: ([.classLink RX5 57 "java/lang/IllegalStateException", .initialized "java/lang/IllegalStateException", .fieldLink RX5 37 "FoundRegister" "wishes" "LFoundRegister$Wishes;", .fieldLink RX5 151 "FoundRegister$Wishes" "count" "I", .methodLink RX5 53 yX5_requireRange, .static yX5_requireRange, .initialized RX5, .code yX5_requireRange cX5_requireRange 3 none, .classLink RX5 169 "java/lang/IllegalArgumentException", .initialized "java/lang/IllegalArgumentException", .methodLink RX5 124 yX5_requireAttribute, .static yX5_requireAttribute, .code yX5_requireAttribute cX5_requireAttribute 1 none, .methodLink RX5 154 yX4_add, .instanceMethod yX4_add, .selects RX4 yX4_add yX4_add, .initialized RX4, .code yX4_add cX4_add 6 (some .int), .fieldLink RX4 9 "FoundRegister$Wishes" "count" "I", .fieldLink RX4 15 "FoundRegister$Wishes" "mark" "[I", .fieldLink RX4 19 "FoundRegister$Wishes" "markValue" "[I", .fieldLink RX4 22 "FoundRegister$Wishes" "attribute" "[I", .fieldLink RX4 25 "FoundRegister$Wishes" "wished" "[I"] ++ wsX50 ++ wsX40 ++ (vx_atS RX5 61 "java/lang/IllegalStateException" ["java/lang/RuntimeException", "java/lang/Exception"]).filter goodWord ++ (vx_atS RX5 173 "java/lang/IllegalArgumentException" ["java/lang/RuntimeException", "java/lang/Exception"]).filter goodWord)
def wsX5_differing_r1 : List Cond := [Cond.classLink RX5 157 "java/lang/IndexOutOfBoundsException", Cond.initialized "java/lang/IndexOutOfBoundsException", Cond.fieldLink RX5 37 "FoundRegister" "wishes" "LFoundRegister$Wishes;", Cond.fieldLink RX5 151 "FoundRegister$Wishes" "count" "I", Cond.fieldLink RX5 46 "FoundRegister" "ofDay" "LFoundRegister$Things;", Cond.fieldLink RX5 23 "FoundRegister" "finds" "LFoundRegister$Finds;", Cond.fieldLink RX5 72 "FoundRegister$Finds" "count" "I", Cond.methodLink RX5 104 yX5_requireDay, Cond.static yX5_requireDay, Cond.initialized RX5, Cond.code yX5_requireDay cX5_requireDay 1 none, Cond.methodLink RX5 53 yX5_requireRange, Cond.static yX5_requireRange, Cond.code yX5_requireRange cX5_requireRange 3 none, Cond.classLink RX5 169 "java/lang/IllegalArgumentException", Cond.initialized "java/lang/IllegalArgumentException", Cond.methodLink RX5 111 yX3_sortFor, Cond.instanceMethod yX3_sortFor, Cond.selects RX3 yX3_sortFor yX3_sortFor, Cond.initialized RX3, Cond.code yX3_sortFor cX3_sortFor 3 none, Cond.fieldLink RX3 15 "FoundRegister$Things" "finds" "LFoundRegister$Finds;", Cond.fieldLink RX3 23 "FoundRegister$Finds" "count" "I", Cond.fieldLink RX3 9 "FoundRegister$Things" "ofFind" "[I"]
def wsX5_differing_r2 : List Cond := [Cond.fieldLink RX3 19 "FoundRegister$Things" "sources" "LFoundRegister$Sources;", Cond.methodLink RX3 29 yX0_standsOn, Cond.instanceMethod yX0_standsOn, Cond.selects RX0 yX0_standsOn yX0_standsOn, Cond.initialized RX0, Cond.code yX0_standsOn cX0_standsOn 4 (some .boolean), Cond.fieldLink RX0 22 "FoundRegister$Finds" "struck" "[Z", Cond.fieldLink RX0 19 "FoundRegister$Finds" "cameOn" "[I", Cond.fieldLink RX0 37 "FoundRegister$Sources" "term" "[I", Cond.fieldLink RX0 15 "FoundRegister$Finds" "source" "[I", Cond.methodLink RX3 33 yX3_joinToEarlier, Cond.instanceMethod yX3_joinToEarlier, Cond.selects RX3 yX3_joinToEarlier yX3_joinToEarlier, Cond.code yX3_joinToEarlier cX3_joinToEarlier 3 none, Cond.methodLink RX3 37 yX0_joined, Cond.instanceMethod yX0_joined, Cond.selects RX0 yX0_joined yX0_joined, Cond.code yX0_joined cX0_joined 3 (some .boolean), Cond.fieldLink RX0 34 "FoundRegister$Finds" "told" "[[I", Cond.methodLink RX0 42 yX0_knowsSerial, Cond.instanceMethod yX0_knowsSerial, Cond.selects RX0 yX0_knowsSerial yX0_knowsSerial, Cond.code yX0_knowsSerial cX0_knowsSerial 2 (some .boolean), Cond.fieldLink RX0 28 "FoundRegister$Finds" "marks" "[[I"]
def wsX5_differing_r3 : List Cond := [Cond.methodLink RX0 46 yX0_shareMark, Cond.instanceMethod yX0_shareMark, Cond.selects RX0 yX0_shareMark yX0_shareMark, Cond.code yX0_shareMark cX0_shareMark 4 (some .boolean), Cond.methodLink RX3 41 yX3_merge, Cond.instanceMethod yX3_merge, Cond.selects RX3 yX3_merge yX3_merge, Cond.code yX3_merge cX3_merge 6 none, Cond.methodLink RX3 45 Lib.Math.min.name, Cond.static Lib.Math.min.name, Cond.initialized "java/lang/Math", Cond.code Lib.Math.min.name Lib.Math.min.code 2 (some .int), Cond.methodLink RX3 51 Lib.Math.max.name, Cond.static Lib.Math.max.name, Cond.code Lib.Math.max.name Lib.Math.max.code 2 (some .int), Cond.methodLink RX5 114 yX3_isThing, Cond.instanceMethod yX3_isThing, Cond.selects RX3 yX3_isThing yX3_isThing, Cond.code yX3_isThing cX3_isThing 2 (some .boolean), Cond.methodLink RX5 162 yX4_isMissedBy, Cond.instanceMethod yX4_isMissedBy, Cond.selects RX4 yX4_isMissedBy yX4_isMissedBy, Cond.initialized RX4, Cond.code yX4_isMissedBy cX4_isMissedBy 4 (some .boolean)]
def wsX5_differing_r4 : List Cond := [Cond.fieldLink RX4 15 "FoundRegister$Wishes" "mark" "[I", Cond.fieldLink RX4 19 "FoundRegister$Wishes" "markValue" "[I", Cond.fieldLink RX4 22 "FoundRegister$Wishes" "attribute" "[I", Cond.fieldLink RX4 25 "FoundRegister$Wishes" "wished" "[I", Cond.methodLink RX4 28 yX3_hasMark, Cond.instanceMethod yX3_hasMark, Cond.selects RX3 yX3_hasMark yX3_hasMark, Cond.code yX3_hasMark cX3_hasMark 5 (some .boolean), Cond.fieldLink RX3 73 "FoundRegister$Finds" "marks" "[[I", Cond.methodLink RX4 34 yX3_attributeOf, Cond.instanceMethod yX3_attributeOf, Cond.selects RX3 yX3_attributeOf yX3_attributeOf, Cond.code yX3_attributeOf cX3_attributeOf 5 (some .int), Cond.fieldLink RX3 61 "FoundRegister$Finds" "attributes" "[[I", Cond.methodLink RX3 54 yX3_tells, Cond.instanceMethod yX3_tells, Cond.selects RX3 yX3_tells yX3_tells, Cond.code yX3_tells cX3_tells 4 (some .boolean), Cond.methodLink RX3 58 yX3_goesBefore, Cond.instanceMethod yX3_goesBefore, Cond.selects RX3 yX3_goesBefore yX3_goesBefore, Cond.code yX3_goesBefore cX3_goesBefore 5 (some .boolean), Cond.fieldLink RX3 65 "FoundRegister$Sources" "place" "[I", Cond.fieldLink RX3 70 "FoundRegister$Finds" "source" "[I"]
def wsX5_differing : List Cond := .code yX5_differing cX5_differing 5 (some .int) :: ((wsX5_differing_r1 ++ (wsX5_differing_r2 ++ (wsX5_differing_r3 ++ wsX5_differing_r4))) ++ wsX50 ++ wsX40 ++ wsX00 ++ wsX30 ++ wsX20 ++ (vx_atS RX5 161 "java/lang/IndexOutOfBoundsException" ["java/lang/RuntimeException", "java/lang/Exception"]).filter goodWord ++ (vx_atS RX5 173 "java/lang/IllegalArgumentException" ["java/lang/RuntimeException", "java/lang/Exception"]).filter goodWord)
def wsX5_hasAnotherValue : List Cond := .code yX5_hasAnotherValue cX5_hasAnotherValue 5 (some .boolean) :: ([.fieldLink RX5 46 "FoundRegister" "ofDay" "LFoundRegister$Things;", .fieldLink RX5 121 "FoundRegister$Things" "ofFind" "[I", .fieldLink RX5 50 "FoundRegister" "ofOtherDay" "LFoundRegister$Things;", .methodLink RX5 127 yX3_attributeOf, .instanceMethod yX3_attributeOf, .selects RX3 yX3_attributeOf yX3_attributeOf, .initialized RX3, .code yX3_attributeOf cX3_attributeOf 5 (some .int), .fieldLink RX3 15 "FoundRegister$Things" "finds" "LFoundRegister$Finds;", .fieldLink RX3 23 "FoundRegister$Finds" "count" "I", .fieldLink RX3 61 "FoundRegister$Finds" "attributes" "[[I", .methodLink RX3 54 yX3_tells, .instanceMethod yX3_tells, .selects RX3 yX3_tells yX3_tells, .code yX3_tells cX3_tells 4 (some .boolean), .fieldLink RX3 9 "FoundRegister$Things" "ofFind" "[I", .methodLink RX3 58 yX3_goesBefore, .instanceMethod yX3_goesBefore, .selects RX3 yX3_goesBefore yX3_goesBefore, .code yX3_goesBefore cX3_goesBefore 5 (some .boolean), .fieldLink RX3 19 "FoundRegister$Things" "sources" "LFoundRegister$Sources;", .fieldLink RX3 65 "FoundRegister$Sources" "place" "[I", .fieldLink RX3 70 "FoundRegister$Finds" "source" "[I"] ++ wsX50 ++ wsX30 ++ wsX00 ++ wsX20)
def wsX5_changed_r1 : List Cond := [Cond.fieldLink RX5 46 "FoundRegister" "ofDay" "LFoundRegister$Things;", Cond.fieldLink RX5 50 "FoundRegister" "ofOtherDay" "LFoundRegister$Things;", Cond.fieldLink RX5 23 "FoundRegister" "finds" "LFoundRegister$Finds;", Cond.fieldLink RX5 72 "FoundRegister$Finds" "count" "I", Cond.methodLink RX5 124 yX5_requireAttribute, Cond.static yX5_requireAttribute, Cond.initialized RX5, Cond.code yX5_requireAttribute cX5_requireAttribute 1 none, Cond.methodLink RX5 53 yX5_requireRange, Cond.static yX5_requireRange, Cond.code yX5_requireRange cX5_requireRange 3 none, Cond.classLink RX5 169 "java/lang/IllegalArgumentException", Cond.initialized "java/lang/IllegalArgumentException", Cond.methodLink RX5 104 yX5_requireDay, Cond.static yX5_requireDay, Cond.code yX5_requireDay cX5_requireDay 1 none, Cond.methodLink RX5 111 yX3_sortFor, Cond.instanceMethod yX3_sortFor, Cond.selects RX3 yX3_sortFor yX3_sortFor, Cond.initialized RX3, Cond.code yX3_sortFor cX3_sortFor 3 none, Cond.fieldLink RX3 15 "FoundRegister$Things" "finds" "LFoundRegister$Finds;", Cond.fieldLink RX3 23 "FoundRegister$Finds" "count" "I", Cond.fieldLink RX3 9 "FoundRegister$Things" "ofFind" "[I"]
def wsX5_changed_r2 : List Cond := [Cond.fieldLink RX3 19 "FoundRegister$Things" "sources" "LFoundRegister$Sources;", Cond.methodLink RX3 29 yX0_standsOn, Cond.instanceMethod yX0_standsOn, Cond.selects RX0 yX0_standsOn yX0_standsOn, Cond.initialized RX0, Cond.code yX0_standsOn cX0_standsOn 4 (some .boolean), Cond.fieldLink RX0 22 "FoundRegister$Finds" "struck" "[Z", Cond.fieldLink RX0 19 "FoundRegister$Finds" "cameOn" "[I", Cond.fieldLink RX0 37 "FoundRegister$Sources" "term" "[I", Cond.fieldLink RX0 15 "FoundRegister$Finds" "source" "[I", Cond.methodLink RX3 33 yX3_joinToEarlier, Cond.instanceMethod yX3_joinToEarlier, Cond.selects RX3 yX3_joinToEarlier yX3_joinToEarlier, Cond.code yX3_joinToEarlier cX3_joinToEarlier 3 none, Cond.methodLink RX3 37 yX0_joined, Cond.instanceMethod yX0_joined, Cond.selects RX0 yX0_joined yX0_joined, Cond.code yX0_joined cX0_joined 3 (some .boolean), Cond.fieldLink RX0 34 "FoundRegister$Finds" "told" "[[I", Cond.methodLink RX0 42 yX0_knowsSerial, Cond.instanceMethod yX0_knowsSerial, Cond.selects RX0 yX0_knowsSerial yX0_knowsSerial, Cond.code yX0_knowsSerial cX0_knowsSerial 2 (some .boolean), Cond.fieldLink RX0 28 "FoundRegister$Finds" "marks" "[[I"]
def wsX5_changed_r3 : List Cond := [Cond.methodLink RX0 46 yX0_shareMark, Cond.instanceMethod yX0_shareMark, Cond.selects RX0 yX0_shareMark yX0_shareMark, Cond.code yX0_shareMark cX0_shareMark 4 (some .boolean), Cond.methodLink RX3 41 yX3_merge, Cond.instanceMethod yX3_merge, Cond.selects RX3 yX3_merge yX3_merge, Cond.code yX3_merge cX3_merge 6 none, Cond.methodLink RX3 45 Lib.Math.min.name, Cond.static Lib.Math.min.name, Cond.initialized "java/lang/Math", Cond.code Lib.Math.min.name Lib.Math.min.code 2 (some .int), Cond.methodLink RX3 51 Lib.Math.max.name, Cond.static Lib.Math.max.name, Cond.code Lib.Math.max.name Lib.Math.max.code 2 (some .int), Cond.methodLink RX5 166 yX5_hasAnotherValue, Cond.instanceMethod yX5_hasAnotherValue, Cond.selects RX5 yX5_hasAnotherValue yX5_hasAnotherValue, Cond.code yX5_hasAnotherValue cX5_hasAnotherValue 5 (some .boolean), Cond.fieldLink RX5 121 "FoundRegister$Things" "ofFind" "[I", Cond.methodLink RX5 127 yX3_attributeOf, Cond.instanceMethod yX3_attributeOf, Cond.selects RX3 yX3_attributeOf yX3_attributeOf, Cond.code yX3_attributeOf cX3_attributeOf 5 (some .int)]
def wsX5_changed_r4 : List Cond := [Cond.fieldLink RX3 61 "FoundRegister$Finds" "attributes" "[[I", Cond.methodLink RX3 54 yX3_tells, Cond.instanceMethod yX3_tells, Cond.selects RX3 yX3_tells yX3_tells, Cond.code yX3_tells cX3_tells 4 (some .boolean), Cond.methodLink RX3 58 yX3_goesBefore, Cond.instanceMethod yX3_goesBefore, Cond.selects RX3 yX3_goesBefore yX3_goesBefore, Cond.code yX3_goesBefore cX3_goesBefore 5 (some .boolean), Cond.fieldLink RX3 65 "FoundRegister$Sources" "place" "[I", Cond.fieldLink RX3 70 "FoundRegister$Finds" "source" "[I"]
def wsX5_changed : List Cond := .code yX5_changed cX5_changed 6 (some .int) :: ((wsX5_changed_r1 ++ (wsX5_changed_r2 ++ (wsX5_changed_r3 ++ wsX5_changed_r4))) ++ wsX50 ++ wsX00 ++ wsX30 ++ wsX20 ++ (vx_atS RX5 173 "java/lang/IllegalArgumentException" ["java/lang/RuntimeException", "java/lang/Exception"]).filter goodWord)
def wsJ9_max_7cf53 : List Cond := .code yJ9_max_7cf53 cJ9_max_7cf53 2 (some .int) :: ([])
def wsJ9_min_7cf53 : List Cond := .code yJ9_min_7cf53 cJ9_min_7cf53 2 (some .int) :: ([])
def wsL_passes : List Cond := .codeWith yL_passes cL_passes 3 (some .int) [(0, 5, 6, 13), (0, 5, 10, 16)] :: ([.classLink RL 13 "java/lang/IllegalArgumentException", .classLink RL 16 "java/lang/IllegalStateException", .constant RL 15 (-2000000002), .constant RL 18 (-2000000003), .methodLink RL 7 yX5_pass, .instanceMethod yX5_pass, .selects RX5 yX5_pass yX5_pass, .initialized RX5, .code yX5_pass cX5_pass 2 (some .int), .classLink RX5 57 "java/lang/IllegalStateException", .initialized "java/lang/IllegalStateException", .fieldLink RX5 7 "FoundRegister" "presentDay" "I", .methodLink RX5 53 yX5_requireRange, .static yX5_requireRange, .code yX5_requireRange cX5_requireRange 3 none, .classLink RX5 169 "java/lang/IllegalArgumentException", .initialized "java/lang/IllegalArgumentException"] ++ wsX50 ++ (vx_atS RX5 61 "java/lang/IllegalStateException" ["java/lang/RuntimeException", "java/lang/Exception"]).filter goodWord ++ (vx_atS RX5 173 "java/lang/IllegalArgumentException" ["java/lang/RuntimeException", "java/lang/Exception"]).filter goodWord)
def wsL_terms : List Cond := .codeWith yL_terms cL_terms 4 (some .int) [(0, 6, 7, 13)] :: ([.classLink RL 13 "java/lang/IllegalArgumentException", .constant RL 15 (-2000000002), .methodLink RL 19 yX5_setTerm, .instanceMethod yX5_setTerm, .selects RX5 yX5_setTerm yX5_setTerm, .initialized RX5, .code yX5_setTerm cX5_setTerm 4 (some .int), .fieldLink RX5 16 "FoundRegister" "sources" "LFoundRegister$Sources;", .fieldLink RX5 64 "FoundRegister$Sources" "term" "[I", .methodLink RX5 53 yX5_requireRange, .static yX5_requireRange, .code yX5_requireRange cX5_requireRange 3 none, .classLink RX5 169 "java/lang/IllegalArgumentException", .initialized "java/lang/IllegalArgumentException"] ++ wsX50 ++ wsX20 ++ (vx_atS RX5 173 "java/lang/IllegalArgumentException" ["java/lang/RuntimeException", "java/lang/Exception"]).filter goodWord)
def wsL_firsts : List Cond := .codeWith yL_firsts cL_firsts 3 (some .int) [(0, 5, 6, 13)] :: ([.classLink RL 13 "java/lang/IllegalArgumentException", .constant RL 15 (-2000000002), .methodLink RL 23 yX5_putFirst, .instanceMethod yX5_putFirst, .selects RX5 yX5_putFirst yX5_putFirst, .initialized RX5, .code yX5_putFirst cX5_putFirst 2 (some .int), .fieldLink RX5 16 "FoundRegister" "sources" "LFoundRegister$Sources;", .methodLink RX5 53 yX5_requireRange, .static yX5_requireRange, .code yX5_requireRange cX5_requireRange 3 none, .classLink RX5 169 "java/lang/IllegalArgumentException", .initialized "java/lang/IllegalArgumentException", .methodLink RX5 68 yX2_moveToFront, .instanceMethod yX2_moveToFront, .selects RX2 yX2_moveToFront yX2_moveToFront, .initialized RX2, .code yX2_moveToFront cX2_moveToFront 4 (some .int), .fieldLink RX2 15 "FoundRegister$Sources" "place" "[I"] ++ wsX50 ++ wsX20 ++ (vx_atS RX5 173 "java/lang/IllegalArgumentException" ["java/lang/RuntimeException", "java/lang/Exception"]).filter goodWord)
def wsL_finds_r1 : List Cond := [Cond.classLink RL 13 "java/lang/IllegalArgumentException", Cond.classLink RL 16 "java/lang/IllegalStateException", Cond.constant RL 15 (-2000000002), Cond.constant RL 18 (-2000000003), Cond.methodLink RL 26 yX5_find, Cond.instanceMethod yX5_find, Cond.selects RX5 yX5_find yX5_find, Cond.initialized RX5, Cond.code yX5_find cX5_find 8 (some .int), Cond.classLink RX5 57 "java/lang/IllegalStateException", Cond.initialized "java/lang/IllegalStateException", Cond.fieldLink RX5 23 "FoundRegister" "finds" "LFoundRegister$Finds;", Cond.fieldLink RX5 72 "FoundRegister$Finds" "count" "I", Cond.fieldLink RX5 7 "FoundRegister" "presentDay" "I", Cond.methodLink RX5 53 yX5_requireRange, Cond.static yX5_requireRange, Cond.code yX5_requireRange cX5_requireRange 3 none, Cond.classLink RX5 169 "java/lang/IllegalArgumentException", Cond.initialized "java/lang/IllegalArgumentException", Cond.methodLink RX5 77 yX0_take, Cond.instanceMethod yX0_take, Cond.selects RX0 yX0_take yX0_take, Cond.initialized RX0, Cond.code yX0_take cX0_take 4 (some .int)]
def wsL_finds_r2 : List Cond := [Cond.fieldLink RX0 9 "FoundRegister$Finds" "count" "I", Cond.fieldLink RX0 15 "FoundRegister$Finds" "source" "[I", Cond.fieldLink RX0 19 "FoundRegister$Finds" "cameOn" "[I", Cond.methodLink RX5 81 yX0_putMarks, Cond.instanceMethod yX0_putMarks, Cond.selects RX0 yX0_putMarks yX0_putMarks, Cond.code yX0_putMarks cX0_putMarks 5 none, Cond.fieldLink RX0 28 "FoundRegister$Finds" "marks" "[[I", Cond.methodLink RX5 85 yX0_putAttributes, Cond.instanceMethod yX0_putAttributes, Cond.selects RX0 yX0_putAttributes yX0_putAttributes, Cond.code yX0_putAttributes cX0_putAttributes 4 none, Cond.fieldLink RX0 31 "FoundRegister$Finds" "attributes" "[[I"]
def wsL_finds : List Cond := .codeWith yL_finds cL_finds 8 (some .int) [(0, 13, 14, 13), (0, 13, 19, 16)] :: ((wsL_finds_r1 ++ wsL_finds_r2) ++ wsX50 ++ wsX00 ++ (vx_atS RX5 61 "java/lang/IllegalStateException" ["java/lang/RuntimeException", "java/lang/Exception"]).filter goodWord ++ (vx_atS RX5 173 "java/lang/IllegalArgumentException" ["java/lang/RuntimeException", "java/lang/Exception"]).filter goodWord)
def wsL_strikes : List Cond := .codeWith yL_strikes cL_strikes 3 (some .int) [(0, 13, 14, 34)] :: ([.classLink RL 34 "java/lang/IndexOutOfBoundsException", .constant RL 36 (-2000000001), .methodLink RL 30 yX5_strike, .instanceMethod yX5_strike, .selects RX5 yX5_strike yX5_strike, .initialized RX5, .code yX5_strike cX5_strike 3 (some .boolean), .fieldLink RX5 23 "FoundRegister" "finds" "LFoundRegister$Finds;", .fieldLink RX5 92 "FoundRegister$Finds" "struck" "[Z", .methodLink RX5 88 yX5_requireFind, .instanceMethod yX5_requireFind, .selects RX5 yX5_requireFind yX5_requireFind, .code yX5_requireFind cX5_requireFind 2 none, .classLink RX5 157 "java/lang/IndexOutOfBoundsException", .initialized "java/lang/IndexOutOfBoundsException", .fieldLink RX5 72 "FoundRegister$Finds" "count" "I"] ++ wsX50 ++ wsX00 ++ (vx_atS RX5 161 "java/lang/IndexOutOfBoundsException" ["java/lang/RuntimeException", "java/lang/Exception"]).filter goodWord)
def wsL_tells_r1 : List Cond := [Cond.classLink RL 34 "java/lang/IndexOutOfBoundsException", Cond.classLink RL 13 "java/lang/IllegalArgumentException", Cond.constant RL 36 (-2000000001), Cond.constant RL 15 (-2000000002), Cond.methodLink RL 37 yX5_tell, Cond.instanceMethod yX5_tell, Cond.selects RX5 yX5_tell yX5_tell, Cond.initialized RX5, Cond.code yX5_tell cX5_tell 5 (some .int), Cond.fieldLink RX5 23 "FoundRegister" "finds" "LFoundRegister$Finds;", Cond.fieldLink RX5 100 "FoundRegister$Finds" "told" "[[I", Cond.methodLink RX5 88 yX5_requireFind, Cond.instanceMethod yX5_requireFind, Cond.selects RX5 yX5_requireFind yX5_requireFind, Cond.code yX5_requireFind cX5_requireFind 2 none, Cond.classLink RX5 157 "java/lang/IndexOutOfBoundsException", Cond.initialized "java/lang/IndexOutOfBoundsException", Cond.fieldLink RX5 72 "FoundRegister$Finds" "count" "I", Cond.methodLink RX5 96 yX5_requireUnlike, Cond.static yX5_requireUnlike, Cond.code yX5_requireUnlike cX5_requireUnlike 2 none, Cond.classLink RX5 169 "java/lang/IllegalArgumentException", Cond.initialized "java/lang/IllegalArgumentException", Cond.methodLink RX5 53 yX5_requireRange]
def wsL_tells_r2 : List Cond := [Cond.static yX5_requireRange, Cond.code yX5_requireRange cX5_requireRange 3 none]
def wsL_tells : List Cond := .codeWith yL_tells cL_tells 5 (some .int) [(0, 7, 8, 34), (0, 7, 13, 13)] :: ((wsL_tells_r1 ++ wsL_tells_r2) ++ wsX50 ++ wsX00 ++ (vx_atS RX5 161 "java/lang/IndexOutOfBoundsException" ["java/lang/RuntimeException", "java/lang/Exception"]).filter goodWord ++ (vx_atS RX5 173 "java/lang/IllegalArgumentException" ["java/lang/RuntimeException", "java/lang/Exception"]).filter goodWord)
def wsL_counts_r1 : List Cond := [Cond.classLink RL 34 "java/lang/IndexOutOfBoundsException", Cond.classLink RL 13 "java/lang/IllegalArgumentException", Cond.constant RL 36 (-2000000001), Cond.constant RL 15 (-2000000002), Cond.methodLink RL 41 yX5_counts, Cond.instanceMethod yX5_counts, Cond.selects RX5 yX5_counts yX5_counts, Cond.initialized RX5, Cond.code yX5_counts cX5_counts 3 (some .boolean), Cond.fieldLink RX5 23 "FoundRegister" "finds" "LFoundRegister$Finds;", Cond.fieldLink RX5 16 "FoundRegister" "sources" "LFoundRegister$Sources;", Cond.methodLink RX5 88 yX5_requireFind, Cond.instanceMethod yX5_requireFind, Cond.selects RX5 yX5_requireFind yX5_requireFind, Cond.code yX5_requireFind cX5_requireFind 2 none, Cond.classLink RX5 157 "java/lang/IndexOutOfBoundsException", Cond.initialized "java/lang/IndexOutOfBoundsException", Cond.fieldLink RX5 72 "FoundRegister$Finds" "count" "I", Cond.methodLink RX5 104 yX5_requireDay, Cond.static yX5_requireDay, Cond.code yX5_requireDay cX5_requireDay 1 none, Cond.methodLink RX5 53 yX5_requireRange, Cond.static yX5_requireRange, Cond.code yX5_requireRange cX5_requireRange 3 none]
def wsL_counts_r2 : List Cond := [Cond.classLink RX5 169 "java/lang/IllegalArgumentException", Cond.initialized "java/lang/IllegalArgumentException", Cond.methodLink RX5 107 yX0_standsOn, Cond.instanceMethod yX0_standsOn, Cond.selects RX0 yX0_standsOn yX0_standsOn, Cond.initialized RX0, Cond.code yX0_standsOn cX0_standsOn 4 (some .boolean), Cond.fieldLink RX0 22 "FoundRegister$Finds" "struck" "[Z", Cond.fieldLink RX0 19 "FoundRegister$Finds" "cameOn" "[I", Cond.fieldLink RX0 37 "FoundRegister$Sources" "term" "[I", Cond.fieldLink RX0 15 "FoundRegister$Finds" "source" "[I"]
def wsL_counts : List Cond := .codeWith yL_counts cL_counts 4 (some .int) [(0, 14, 15, 34), (0, 14, 19, 13)] :: ((wsL_counts_r1 ++ wsL_counts_r2) ++ wsX50 ++ wsX00 ++ wsX20 ++ (vx_atS RX5 161 "java/lang/IndexOutOfBoundsException" ["java/lang/RuntimeException", "java/lang/Exception"]).filter goodWord ++ (vx_atS RX5 173 "java/lang/IllegalArgumentException" ["java/lang/RuntimeException", "java/lang/Exception"]).filter goodWord)
def wsL_things_r1 : List Cond := [Cond.classLink RL 13 "java/lang/IllegalArgumentException", Cond.constant RL 15 (-2000000002), Cond.methodLink RL 45 yX5_things, Cond.instanceMethod yX5_things, Cond.selects RX5 yX5_things yX5_things, Cond.initialized RX5, Cond.code yX5_things cX5_things 4 (some .int), Cond.fieldLink RX5 46 "FoundRegister" "ofDay" "LFoundRegister$Things;", Cond.fieldLink RX5 23 "FoundRegister" "finds" "LFoundRegister$Finds;", Cond.fieldLink RX5 72 "FoundRegister$Finds" "count" "I", Cond.methodLink RX5 104 yX5_requireDay, Cond.static yX5_requireDay, Cond.code yX5_requireDay cX5_requireDay 1 none, Cond.methodLink RX5 53 yX5_requireRange, Cond.static yX5_requireRange, Cond.code yX5_requireRange cX5_requireRange 3 none, Cond.classLink RX5 169 "java/lang/IllegalArgumentException", Cond.initialized "java/lang/IllegalArgumentException", Cond.methodLink RX5 111 yX3_sortFor, Cond.instanceMethod yX3_sortFor, Cond.selects RX3 yX3_sortFor yX3_sortFor, Cond.initialized RX3, Cond.code yX3_sortFor cX3_sortFor 3 none, Cond.fieldLink RX3 15 "FoundRegister$Things" "finds" "LFoundRegister$Finds;"]
def wsL_things_r2 : List Cond := [Cond.fieldLink RX3 23 "FoundRegister$Finds" "count" "I", Cond.fieldLink RX3 9 "FoundRegister$Things" "ofFind" "[I", Cond.fieldLink RX3 19 "FoundRegister$Things" "sources" "LFoundRegister$Sources;", Cond.methodLink RX3 29 yX0_standsOn, Cond.instanceMethod yX0_standsOn, Cond.selects RX0 yX0_standsOn yX0_standsOn, Cond.initialized RX0, Cond.code yX0_standsOn cX0_standsOn 4 (some .boolean), Cond.fieldLink RX0 22 "FoundRegister$Finds" "struck" "[Z", Cond.fieldLink RX0 19 "FoundRegister$Finds" "cameOn" "[I", Cond.fieldLink RX0 37 "FoundRegister$Sources" "term" "[I", Cond.fieldLink RX0 15 "FoundRegister$Finds" "source" "[I", Cond.methodLink RX3 33 yX3_joinToEarlier, Cond.instanceMethod yX3_joinToEarlier, Cond.selects RX3 yX3_joinToEarlier yX3_joinToEarlier, Cond.code yX3_joinToEarlier cX3_joinToEarlier 3 none, Cond.methodLink RX3 37 yX0_joined, Cond.instanceMethod yX0_joined, Cond.selects RX0 yX0_joined yX0_joined, Cond.code yX0_joined cX0_joined 3 (some .boolean), Cond.fieldLink RX0 34 "FoundRegister$Finds" "told" "[[I", Cond.methodLink RX0 42 yX0_knowsSerial, Cond.instanceMethod yX0_knowsSerial, Cond.selects RX0 yX0_knowsSerial yX0_knowsSerial]
def wsL_things_r3 : List Cond := [Cond.code yX0_knowsSerial cX0_knowsSerial 2 (some .boolean), Cond.fieldLink RX0 28 "FoundRegister$Finds" "marks" "[[I", Cond.methodLink RX0 46 yX0_shareMark, Cond.instanceMethod yX0_shareMark, Cond.selects RX0 yX0_shareMark yX0_shareMark, Cond.code yX0_shareMark cX0_shareMark 4 (some .boolean), Cond.methodLink RX3 41 yX3_merge, Cond.instanceMethod yX3_merge, Cond.selects RX3 yX3_merge yX3_merge, Cond.code yX3_merge cX3_merge 6 none, Cond.methodLink RX3 45 Lib.Math.min.name, Cond.static Lib.Math.min.name, Cond.initialized "java/lang/Math", Cond.code Lib.Math.min.name Lib.Math.min.code 2 (some .int), Cond.methodLink RX3 51 Lib.Math.max.name, Cond.static Lib.Math.max.name, Cond.code Lib.Math.max.name Lib.Math.max.code 2 (some .int), Cond.methodLink RX5 114 yX3_isThing, Cond.instanceMethod yX3_isThing, Cond.selects RX3 yX3_isThing yX3_isThing, Cond.code yX3_isThing cX3_isThing 2 (some .boolean)]
def wsL_things : List Cond := .codeWith yL_things cL_things 3 (some .int) [(0, 5, 6, 13)] :: ((wsL_things_r1 ++ (wsL_things_r2 ++ wsL_things_r3)) ++ wsX50 ++ wsX00 ++ wsX30 ++ wsX20 ++ (vx_atS RX5 173 "java/lang/IllegalArgumentException" ["java/lang/RuntimeException", "java/lang/Exception"]).filter goodWord)
def wsL_thing_r1 : List Cond := [Cond.classLink RL 34 "java/lang/IndexOutOfBoundsException", Cond.classLink RL 13 "java/lang/IllegalArgumentException", Cond.classLink RL 51 "java/util/NoSuchElementException", Cond.constant RL 36 (-2000000001), Cond.constant RL 15 (-2000000002), Cond.constant RL 53 (-2000000004), Cond.methodLink RL 48 yX5_thingOf, Cond.instanceMethod yX5_thingOf, Cond.selects RX5 yX5_thingOf yX5_thingOf, Cond.initialized RX5, Cond.code yX5_thingOf cX5_thingOf 3 (some .int), Cond.fieldLink RX5 46 "FoundRegister" "ofDay" "LFoundRegister$Things;", Cond.fieldLink RX5 121 "FoundRegister$Things" "ofFind" "[I", Cond.methodLink RX5 88 yX5_requireFind, Cond.instanceMethod yX5_requireFind, Cond.selects RX5 yX5_requireFind yX5_requireFind, Cond.code yX5_requireFind cX5_requireFind 2 none, Cond.classLink RX5 157 "java/lang/IndexOutOfBoundsException", Cond.initialized "java/lang/IndexOutOfBoundsException", Cond.fieldLink RX5 23 "FoundRegister" "finds" "LFoundRegister$Finds;", Cond.fieldLink RX5 72 "FoundRegister$Finds" "count" "I", Cond.methodLink RX5 104 yX5_requireDay, Cond.static yX5_requireDay, Cond.code yX5_requireDay cX5_requireDay 1 none]
def wsL_thing_r2 : List Cond := [Cond.methodLink RX5 53 yX5_requireRange, Cond.static yX5_requireRange, Cond.code yX5_requireRange cX5_requireRange 3 none, Cond.classLink RX5 169 "java/lang/IllegalArgumentException", Cond.initialized "java/lang/IllegalArgumentException", Cond.methodLink RX5 111 yX3_sortFor, Cond.instanceMethod yX3_sortFor, Cond.selects RX3 yX3_sortFor yX3_sortFor, Cond.initialized RX3, Cond.code yX3_sortFor cX3_sortFor 3 none, Cond.fieldLink RX3 15 "FoundRegister$Things" "finds" "LFoundRegister$Finds;", Cond.fieldLink RX3 23 "FoundRegister$Finds" "count" "I", Cond.fieldLink RX3 9 "FoundRegister$Things" "ofFind" "[I", Cond.fieldLink RX3 19 "FoundRegister$Things" "sources" "LFoundRegister$Sources;", Cond.methodLink RX3 29 yX0_standsOn, Cond.instanceMethod yX0_standsOn, Cond.selects RX0 yX0_standsOn yX0_standsOn, Cond.initialized RX0, Cond.code yX0_standsOn cX0_standsOn 4 (some .boolean), Cond.fieldLink RX0 22 "FoundRegister$Finds" "struck" "[Z", Cond.fieldLink RX0 19 "FoundRegister$Finds" "cameOn" "[I", Cond.fieldLink RX0 37 "FoundRegister$Sources" "term" "[I", Cond.fieldLink RX0 15 "FoundRegister$Finds" "source" "[I", Cond.methodLink RX3 33 yX3_joinToEarlier]
def wsL_thing_r3 : List Cond := [Cond.instanceMethod yX3_joinToEarlier, Cond.selects RX3 yX3_joinToEarlier yX3_joinToEarlier, Cond.code yX3_joinToEarlier cX3_joinToEarlier 3 none, Cond.methodLink RX3 37 yX0_joined, Cond.instanceMethod yX0_joined, Cond.selects RX0 yX0_joined yX0_joined, Cond.code yX0_joined cX0_joined 3 (some .boolean), Cond.fieldLink RX0 34 "FoundRegister$Finds" "told" "[[I", Cond.methodLink RX0 42 yX0_knowsSerial, Cond.instanceMethod yX0_knowsSerial, Cond.selects RX0 yX0_knowsSerial yX0_knowsSerial, Cond.code yX0_knowsSerial cX0_knowsSerial 2 (some .boolean), Cond.fieldLink RX0 28 "FoundRegister$Finds" "marks" "[[I", Cond.methodLink RX0 46 yX0_shareMark, Cond.instanceMethod yX0_shareMark, Cond.selects RX0 yX0_shareMark yX0_shareMark, Cond.code yX0_shareMark cX0_shareMark 4 (some .boolean), Cond.methodLink RX3 41 yX3_merge, Cond.instanceMethod yX3_merge, Cond.selects RX3 yX3_merge yX3_merge, Cond.code yX3_merge cX3_merge 6 none, Cond.methodLink RX3 45 Lib.Math.min.name, Cond.static Lib.Math.min.name, Cond.initialized "java/lang/Math"]
def wsL_thing_r4 : List Cond := [Cond.code Lib.Math.min.name Lib.Math.min.code 2 (some .int), Cond.methodLink RX3 51 Lib.Math.max.name, Cond.static Lib.Math.max.name, Cond.code Lib.Math.max.name Lib.Math.max.code 2 (some .int), Cond.methodLink RX5 118 yX5_requireCounting, Cond.instanceMethod yX5_requireCounting, Cond.selects RX5 yX5_requireCounting yX5_requireCounting, Cond.code yX5_requireCounting cX5_requireCounting 2 none, Cond.classLink RX5 178 "java/util/NoSuchElementException", Cond.initialized "java/util/NoSuchElementException"]
def wsL_thing : List Cond := .codeWith yL_thing cL_thing 4 (some .int) [(0, 6, 7, 34), (0, 6, 11, 13), (0, 6, 15, 51)] :: ((wsL_thing_r1 ++ (wsL_thing_r2 ++ (wsL_thing_r3 ++ wsL_thing_r4))) ++ wsX50 ++ wsX30 ++ wsX00 ++ wsX20 ++ (vx_atS RX5 161 "java/lang/IndexOutOfBoundsException" ["java/lang/RuntimeException", "java/lang/Exception"]).filter goodWord ++ (vx_atS RX5 173 "java/lang/IllegalArgumentException" ["java/lang/RuntimeException", "java/lang/Exception"]).filter goodWord ++ (gNsAt RX5 182).filter goodWord)
def wsL_value_r1 : List Cond := [Cond.classLink RL 34 "java/lang/IndexOutOfBoundsException", Cond.classLink RL 13 "java/lang/IllegalArgumentException", Cond.classLink RL 51 "java/util/NoSuchElementException", Cond.constant RL 36 (-2000000001), Cond.constant RL 15 (-2000000002), Cond.constant RL 53 (-2000000004), Cond.methodLink RL 54 yX5_value, Cond.instanceMethod yX5_value, Cond.selects RX5 yX5_value yX5_value, Cond.initialized RX5, Cond.code yX5_value cX5_value 4 (some .int), Cond.fieldLink RX5 46 "FoundRegister" "ofDay" "LFoundRegister$Things;", Cond.fieldLink RX5 121 "FoundRegister$Things" "ofFind" "[I", Cond.methodLink RX5 88 yX5_requireFind, Cond.instanceMethod yX5_requireFind, Cond.selects RX5 yX5_requireFind yX5_requireFind, Cond.code yX5_requireFind cX5_requireFind 2 none, Cond.classLink RX5 157 "java/lang/IndexOutOfBoundsException", Cond.initialized "java/lang/IndexOutOfBoundsException", Cond.fieldLink RX5 23 "FoundRegister" "finds" "LFoundRegister$Finds;", Cond.fieldLink RX5 72 "FoundRegister$Finds" "count" "I", Cond.methodLink RX5 124 yX5_requireAttribute, Cond.static yX5_requireAttribute, Cond.code yX5_requireAttribute cX5_requireAttribute 1 none]
def wsL_value_r2 : List Cond := [Cond.methodLink RX5 53 yX5_requireRange, Cond.static yX5_requireRange, Cond.code yX5_requireRange cX5_requireRange 3 none, Cond.classLink RX5 169 "java/lang/IllegalArgumentException", Cond.initialized "java/lang/IllegalArgumentException", Cond.methodLink RX5 104 yX5_requireDay, Cond.static yX5_requireDay, Cond.code yX5_requireDay cX5_requireDay 1 none, Cond.methodLink RX5 111 yX3_sortFor, Cond.instanceMethod yX3_sortFor, Cond.selects RX3 yX3_sortFor yX3_sortFor, Cond.initialized RX3, Cond.code yX3_sortFor cX3_sortFor 3 none, Cond.fieldLink RX3 15 "FoundRegister$Things" "finds" "LFoundRegister$Finds;", Cond.fieldLink RX3 23 "FoundRegister$Finds" "count" "I", Cond.fieldLink RX3 9 "FoundRegister$Things" "ofFind" "[I", Cond.fieldLink RX3 19 "FoundRegister$Things" "sources" "LFoundRegister$Sources;", Cond.methodLink RX3 29 yX0_standsOn, Cond.instanceMethod yX0_standsOn, Cond.selects RX0 yX0_standsOn yX0_standsOn, Cond.initialized RX0, Cond.code yX0_standsOn cX0_standsOn 4 (some .boolean), Cond.fieldLink RX0 22 "FoundRegister$Finds" "struck" "[Z", Cond.fieldLink RX0 19 "FoundRegister$Finds" "cameOn" "[I"]
def wsL_value_r3 : List Cond := [Cond.fieldLink RX0 37 "FoundRegister$Sources" "term" "[I", Cond.fieldLink RX0 15 "FoundRegister$Finds" "source" "[I", Cond.methodLink RX3 33 yX3_joinToEarlier, Cond.instanceMethod yX3_joinToEarlier, Cond.selects RX3 yX3_joinToEarlier yX3_joinToEarlier, Cond.code yX3_joinToEarlier cX3_joinToEarlier 3 none, Cond.methodLink RX3 37 yX0_joined, Cond.instanceMethod yX0_joined, Cond.selects RX0 yX0_joined yX0_joined, Cond.code yX0_joined cX0_joined 3 (some .boolean), Cond.fieldLink RX0 34 "FoundRegister$Finds" "told" "[[I", Cond.methodLink RX0 42 yX0_knowsSerial, Cond.instanceMethod yX0_knowsSerial, Cond.selects RX0 yX0_knowsSerial yX0_knowsSerial, Cond.code yX0_knowsSerial cX0_knowsSerial 2 (some .boolean), Cond.fieldLink RX0 28 "FoundRegister$Finds" "marks" "[[I", Cond.methodLink RX0 46 yX0_shareMark, Cond.instanceMethod yX0_shareMark, Cond.selects RX0 yX0_shareMark yX0_shareMark, Cond.code yX0_shareMark cX0_shareMark 4 (some .boolean), Cond.methodLink RX3 41 yX3_merge, Cond.instanceMethod yX3_merge, Cond.selects RX3 yX3_merge yX3_merge, Cond.code yX3_merge cX3_merge 6 none]
def wsL_value_r4 : List Cond := [Cond.methodLink RX3 45 Lib.Math.min.name, Cond.static Lib.Math.min.name, Cond.initialized "java/lang/Math", Cond.code Lib.Math.min.name Lib.Math.min.code 2 (some .int), Cond.methodLink RX3 51 Lib.Math.max.name, Cond.static Lib.Math.max.name, Cond.code Lib.Math.max.name Lib.Math.max.code 2 (some .int), Cond.methodLink RX5 118 yX5_requireCounting, Cond.instanceMethod yX5_requireCounting, Cond.selects RX5 yX5_requireCounting yX5_requireCounting, Cond.code yX5_requireCounting cX5_requireCounting 2 none, Cond.classLink RX5 178 "java/util/NoSuchElementException", Cond.initialized "java/util/NoSuchElementException", Cond.methodLink RX5 127 yX3_attributeOf, Cond.instanceMethod yX3_attributeOf, Cond.selects RX3 yX3_attributeOf yX3_attributeOf, Cond.code yX3_attributeOf cX3_attributeOf 5 (some .int), Cond.fieldLink RX3 61 "FoundRegister$Finds" "attributes" "[[I", Cond.methodLink RX3 54 yX3_tells, Cond.instanceMethod yX3_tells, Cond.selects RX3 yX3_tells yX3_tells, Cond.code yX3_tells cX3_tells 4 (some .boolean), Cond.methodLink RX3 58 yX3_goesBefore, Cond.instanceMethod yX3_goesBefore]
def wsL_value_r5 : List Cond := [Cond.selects RX3 yX3_goesBefore yX3_goesBefore, Cond.code yX3_goesBefore cX3_goesBefore 5 (some .boolean), Cond.fieldLink RX3 65 "FoundRegister$Sources" "place" "[I", Cond.fieldLink RX3 70 "FoundRegister$Finds" "source" "[I"]
def wsL_value : List Cond := .codeWith yL_value cL_value 5 (some .int) [(0, 7, 8, 34), (0, 7, 13, 13), (0, 7, 18, 51)] :: ((wsL_value_r1 ++ (wsL_value_r2 ++ (wsL_value_r3 ++ (wsL_value_r4 ++ wsL_value_r5)))) ++ wsX50 ++ wsX30 ++ wsX00 ++ wsX20 ++ (vx_atS RX5 161 "java/lang/IndexOutOfBoundsException" ["java/lang/RuntimeException", "java/lang/Exception"]).filter goodWord ++ (vx_atS RX5 173 "java/lang/IllegalArgumentException" ["java/lang/RuntimeException", "java/lang/Exception"]).filter goodWord ++ (gNsAt RX5 182).filter goodWord)
def wsL_disputed_r1 : List Cond := [Cond.classLink RL 13 "java/lang/IllegalArgumentException", Cond.constant RL 15 (-2000000002), Cond.methodLink RL 57 yX5_disputed, Cond.instanceMethod yX5_disputed, Cond.selects RX5 yX5_disputed yX5_disputed, Cond.initialized RX5, Cond.code yX5_disputed cX5_disputed 5 (some .int), Cond.fieldLink RX5 46 "FoundRegister" "ofDay" "LFoundRegister$Things;", Cond.fieldLink RX5 23 "FoundRegister" "finds" "LFoundRegister$Finds;", Cond.fieldLink RX5 72 "FoundRegister$Finds" "count" "I", Cond.methodLink RX5 124 yX5_requireAttribute, Cond.static yX5_requireAttribute, Cond.code yX5_requireAttribute cX5_requireAttribute 1 none, Cond.methodLink RX5 53 yX5_requireRange, Cond.static yX5_requireRange, Cond.code yX5_requireRange cX5_requireRange 3 none, Cond.classLink RX5 169 "java/lang/IllegalArgumentException", Cond.initialized "java/lang/IllegalArgumentException", Cond.methodLink RX5 104 yX5_requireDay, Cond.static yX5_requireDay, Cond.code yX5_requireDay cX5_requireDay 1 none, Cond.methodLink RX5 111 yX3_sortFor, Cond.instanceMethod yX3_sortFor, Cond.selects RX3 yX3_sortFor yX3_sortFor]
def wsL_disputed_r2 : List Cond := [Cond.initialized RX3, Cond.code yX3_sortFor cX3_sortFor 3 none, Cond.fieldLink RX3 15 "FoundRegister$Things" "finds" "LFoundRegister$Finds;", Cond.fieldLink RX3 23 "FoundRegister$Finds" "count" "I", Cond.fieldLink RX3 9 "FoundRegister$Things" "ofFind" "[I", Cond.fieldLink RX3 19 "FoundRegister$Things" "sources" "LFoundRegister$Sources;", Cond.methodLink RX3 29 yX0_standsOn, Cond.instanceMethod yX0_standsOn, Cond.selects RX0 yX0_standsOn yX0_standsOn, Cond.initialized RX0, Cond.code yX0_standsOn cX0_standsOn 4 (some .boolean), Cond.fieldLink RX0 22 "FoundRegister$Finds" "struck" "[Z", Cond.fieldLink RX0 19 "FoundRegister$Finds" "cameOn" "[I", Cond.fieldLink RX0 37 "FoundRegister$Sources" "term" "[I", Cond.fieldLink RX0 15 "FoundRegister$Finds" "source" "[I", Cond.methodLink RX3 33 yX3_joinToEarlier, Cond.instanceMethod yX3_joinToEarlier, Cond.selects RX3 yX3_joinToEarlier yX3_joinToEarlier, Cond.code yX3_joinToEarlier cX3_joinToEarlier 3 none, Cond.methodLink RX3 37 yX0_joined, Cond.instanceMethod yX0_joined, Cond.selects RX0 yX0_joined yX0_joined, Cond.code yX0_joined cX0_joined 3 (some .boolean), Cond.fieldLink RX0 34 "FoundRegister$Finds" "told" "[[I"]
def wsL_disputed_r3 : List Cond := [Cond.methodLink RX0 42 yX0_knowsSerial, Cond.instanceMethod yX0_knowsSerial, Cond.selects RX0 yX0_knowsSerial yX0_knowsSerial, Cond.code yX0_knowsSerial cX0_knowsSerial 2 (some .boolean), Cond.fieldLink RX0 28 "FoundRegister$Finds" "marks" "[[I", Cond.methodLink RX0 46 yX0_shareMark, Cond.instanceMethod yX0_shareMark, Cond.selects RX0 yX0_shareMark yX0_shareMark, Cond.code yX0_shareMark cX0_shareMark 4 (some .boolean), Cond.methodLink RX3 41 yX3_merge, Cond.instanceMethod yX3_merge, Cond.selects RX3 yX3_merge yX3_merge, Cond.code yX3_merge cX3_merge 6 none, Cond.methodLink RX3 45 Lib.Math.min.name, Cond.static Lib.Math.min.name, Cond.initialized "java/lang/Math", Cond.code Lib.Math.min.name Lib.Math.min.code 2 (some .int), Cond.methodLink RX3 51 Lib.Math.max.name, Cond.static Lib.Math.max.name, Cond.code Lib.Math.max.name Lib.Math.max.code 2 (some .int), Cond.methodLink RX5 114 yX3_isThing, Cond.instanceMethod yX3_isThing, Cond.selects RX3 yX3_isThing yX3_isThing, Cond.code yX3_isThing cX3_isThing 2 (some .boolean)]
def wsL_disputed_r4 : List Cond := [Cond.methodLink RX5 130 yX3_hasUnlikeValues, Cond.instanceMethod yX3_hasUnlikeValues, Cond.selects RX3 yX3_hasUnlikeValues yX3_hasUnlikeValues, Cond.code yX3_hasUnlikeValues cX3_hasUnlikeValues 6 (some .boolean), Cond.fieldLink RX3 61 "FoundRegister$Finds" "attributes" "[[I", Cond.methodLink RX3 54 yX3_tells, Cond.instanceMethod yX3_tells, Cond.selects RX3 yX3_tells yX3_tells, Cond.code yX3_tells cX3_tells 4 (some .boolean)]
def wsL_disputed : List Cond := .codeWith yL_disputed cL_disputed 4 (some .int) [(0, 6, 7, 13)] :: ((wsL_disputed_r1 ++ (wsL_disputed_r2 ++ (wsL_disputed_r3 ++ wsL_disputed_r4))) ++ wsX50 ++ wsX00 ++ wsX30 ++ wsX20 ++ (vx_atS RX5 173 "java/lang/IllegalArgumentException" ["java/lang/RuntimeException", "java/lang/Exception"]).filter goodWord)
def wsL_links_r1 : List Cond := [Cond.classLink RL 34 "java/lang/IndexOutOfBoundsException", Cond.classLink RL 13 "java/lang/IllegalArgumentException", Cond.classLink RL 16 "java/lang/IllegalStateException", Cond.constant RL 36 (-2000000001), Cond.constant RL 15 (-2000000002), Cond.constant RL 18 (-2000000003), Cond.methodLink RL 60 yX5_link, Cond.instanceMethod yX5_link, Cond.selects RX5 yX5_link yX5_link, Cond.initialized RX5, Cond.code yX5_link cX5_link 4 (some .int), Cond.classLink RX5 57 "java/lang/IllegalStateException", Cond.initialized "java/lang/IllegalStateException", Cond.fieldLink RX5 30 "FoundRegister" "links" "LFoundRegister$Links;", Cond.fieldLink RX5 134 "FoundRegister$Links" "count" "I", Cond.methodLink RX5 88 yX5_requireFind, Cond.instanceMethod yX5_requireFind, Cond.selects RX5 yX5_requireFind yX5_requireFind, Cond.code yX5_requireFind cX5_requireFind 2 none, Cond.classLink RX5 157 "java/lang/IndexOutOfBoundsException", Cond.initialized "java/lang/IndexOutOfBoundsException", Cond.fieldLink RX5 23 "FoundRegister" "finds" "LFoundRegister$Finds;", Cond.fieldLink RX5 72 "FoundRegister$Finds" "count" "I", Cond.methodLink RX5 96 yX5_requireUnlike]
def wsL_links_r2 : List Cond := [Cond.static yX5_requireUnlike, Cond.code yX5_requireUnlike cX5_requireUnlike 2 none, Cond.classLink RX5 169 "java/lang/IllegalArgumentException", Cond.initialized "java/lang/IllegalArgumentException", Cond.methodLink RX5 53 yX5_requireRange, Cond.static yX5_requireRange, Cond.code yX5_requireRange cX5_requireRange 3 none, Cond.methodLink RX5 137 yX1_add, Cond.instanceMethod yX1_add, Cond.selects RX1 yX1_add yX1_add, Cond.initialized RX1, Cond.code yX1_add cX1_add 4 none, Cond.fieldLink RX1 15 "FoundRegister$Links" "needing" "[I", Cond.fieldLink RX1 9 "FoundRegister$Links" "count" "I", Cond.fieldLink RX1 19 "FoundRegister$Links" "needed" "[I", Cond.fieldLink RX1 22 "FoundRegister$Links" "group" "[I"]
def wsL_links : List Cond := .codeWith yL_links cL_links 5 (some .int) [(0, 7, 8, 34), (0, 7, 13, 13), (0, 7, 18, 16)] :: ((wsL_links_r1 ++ wsL_links_r2) ++ wsX50 ++ wsX10 ++ wsX00 ++ (vx_atS RX5 61 "java/lang/IllegalStateException" ["java/lang/RuntimeException", "java/lang/Exception"]).filter goodWord ++ (vx_atS RX5 161 "java/lang/IndexOutOfBoundsException" ["java/lang/RuntimeException", "java/lang/Exception"]).filter goodWord ++ (vx_atS RX5 173 "java/lang/IllegalArgumentException" ["java/lang/RuntimeException", "java/lang/Exception"]).filter goodWord)
def wsL_impact_r1 : List Cond := [Cond.classLink RL 34 "java/lang/IndexOutOfBoundsException", Cond.classLink RL 13 "java/lang/IllegalArgumentException", Cond.classLink RL 51 "java/util/NoSuchElementException", Cond.constant RL 36 (-2000000001), Cond.constant RL 15 (-2000000002), Cond.constant RL 53 (-2000000004), Cond.methodLink RL 63 yX5_impact, Cond.instanceMethod yX5_impact, Cond.selects RX5 yX5_impact yX5_impact, Cond.initialized RX5, Cond.code yX5_impact cX5_impact 3 (some .int), Cond.fieldLink RX5 46 "FoundRegister" "ofDay" "LFoundRegister$Things;", Cond.fieldLink RX5 30 "FoundRegister" "links" "LFoundRegister$Links;", Cond.fieldLink RX5 121 "FoundRegister$Things" "ofFind" "[I", Cond.methodLink RX5 88 yX5_requireFind, Cond.instanceMethod yX5_requireFind, Cond.selects RX5 yX5_requireFind yX5_requireFind, Cond.code yX5_requireFind cX5_requireFind 2 none, Cond.classLink RX5 157 "java/lang/IndexOutOfBoundsException", Cond.initialized "java/lang/IndexOutOfBoundsException", Cond.fieldLink RX5 23 "FoundRegister" "finds" "LFoundRegister$Finds;", Cond.fieldLink RX5 72 "FoundRegister$Finds" "count" "I", Cond.methodLink RX5 104 yX5_requireDay, Cond.static yX5_requireDay]
def wsL_impact_r2 : List Cond := [Cond.code yX5_requireDay cX5_requireDay 1 none, Cond.methodLink RX5 53 yX5_requireRange, Cond.static yX5_requireRange, Cond.code yX5_requireRange cX5_requireRange 3 none, Cond.classLink RX5 169 "java/lang/IllegalArgumentException", Cond.initialized "java/lang/IllegalArgumentException", Cond.methodLink RX5 111 yX3_sortFor, Cond.instanceMethod yX3_sortFor, Cond.selects RX3 yX3_sortFor yX3_sortFor, Cond.initialized RX3, Cond.code yX3_sortFor cX3_sortFor 3 none, Cond.fieldLink RX3 15 "FoundRegister$Things" "finds" "LFoundRegister$Finds;", Cond.fieldLink RX3 23 "FoundRegister$Finds" "count" "I", Cond.fieldLink RX3 9 "FoundRegister$Things" "ofFind" "[I", Cond.fieldLink RX3 19 "FoundRegister$Things" "sources" "LFoundRegister$Sources;", Cond.methodLink RX3 29 yX0_standsOn, Cond.instanceMethod yX0_standsOn, Cond.selects RX0 yX0_standsOn yX0_standsOn, Cond.initialized RX0, Cond.code yX0_standsOn cX0_standsOn 4 (some .boolean), Cond.fieldLink RX0 22 "FoundRegister$Finds" "struck" "[Z", Cond.fieldLink RX0 19 "FoundRegister$Finds" "cameOn" "[I", Cond.fieldLink RX0 37 "FoundRegister$Sources" "term" "[I", Cond.fieldLink RX0 15 "FoundRegister$Finds" "source" "[I"]
def wsL_impact_r3 : List Cond := [Cond.methodLink RX3 33 yX3_joinToEarlier, Cond.instanceMethod yX3_joinToEarlier, Cond.selects RX3 yX3_joinToEarlier yX3_joinToEarlier, Cond.code yX3_joinToEarlier cX3_joinToEarlier 3 none, Cond.methodLink RX3 37 yX0_joined, Cond.instanceMethod yX0_joined, Cond.selects RX0 yX0_joined yX0_joined, Cond.code yX0_joined cX0_joined 3 (some .boolean), Cond.fieldLink RX0 34 "FoundRegister$Finds" "told" "[[I", Cond.methodLink RX0 42 yX0_knowsSerial, Cond.instanceMethod yX0_knowsSerial, Cond.selects RX0 yX0_knowsSerial yX0_knowsSerial, Cond.code yX0_knowsSerial cX0_knowsSerial 2 (some .boolean), Cond.fieldLink RX0 28 "FoundRegister$Finds" "marks" "[[I", Cond.methodLink RX0 46 yX0_shareMark, Cond.instanceMethod yX0_shareMark, Cond.selects RX0 yX0_shareMark yX0_shareMark, Cond.code yX0_shareMark cX0_shareMark 4 (some .boolean), Cond.methodLink RX3 41 yX3_merge, Cond.instanceMethod yX3_merge, Cond.selects RX3 yX3_merge yX3_merge, Cond.code yX3_merge cX3_merge 6 none, Cond.methodLink RX3 45 Lib.Math.min.name, Cond.static Lib.Math.min.name]
def wsL_impact_r4 : List Cond := [Cond.initialized "java/lang/Math", Cond.code Lib.Math.min.name Lib.Math.min.code 2 (some .int), Cond.methodLink RX3 51 Lib.Math.max.name, Cond.static Lib.Math.max.name, Cond.code Lib.Math.max.name Lib.Math.max.code 2 (some .int), Cond.methodLink RX5 118 yX5_requireCounting, Cond.instanceMethod yX5_requireCounting, Cond.selects RX5 yX5_requireCounting yX5_requireCounting, Cond.code yX5_requireCounting cX5_requireCounting 2 none, Cond.classLink RX5 178 "java/util/NoSuchElementException", Cond.initialized "java/util/NoSuchElementException", Cond.methodLink RX5 140 yX1_failFrom, Cond.instanceMethod yX1_failFrom, Cond.selects RX1 yX1_failFrom yX1_failFrom, Cond.initialized RX1, Cond.code yX1_failFrom cX1_failFrom 5 none, Cond.fieldLink RX1 25 "FoundRegister$Links" "failed" "[Z", Cond.methodLink RX1 29 yX1_failMore, Cond.instanceMethod yX1_failMore, Cond.selects RX1 yX1_failMore yX1_failMore, Cond.code yX1_failMore cX1_failMore 5 (some .boolean), Cond.fieldLink RX1 9 "FoundRegister$Links" "count" "I", Cond.fieldLink RX1 33 "FoundRegister$Things" "ofFind" "[I", Cond.fieldLink RX1 15 "FoundRegister$Links" "needing" "[I"]
def wsL_impact_r5 : List Cond := [Cond.fieldLink RX1 22 "FoundRegister$Links" "group" "[I", Cond.methodLink RX1 38 yX1_holds, Cond.instanceMethod yX1_holds, Cond.selects RX1 yX1_holds yX1_holds, Cond.code yX1_holds cX1_holds 5 (some .boolean), Cond.fieldLink RX1 19 "FoundRegister$Links" "needed" "[I", Cond.methodLink RX1 42 yX1_lost, Cond.instanceMethod yX1_lost, Cond.selects RX1 yX1_lost yX1_lost, Cond.code yX1_lost cX1_lost 5 (some .boolean), Cond.methodLink RX5 144 yX1_failures, Cond.instanceMethod yX1_failures, Cond.selects RX1 yX1_failures yX1_failures, Cond.code yX1_failures cX1_failures 3 (some .int)]
def wsL_impact : List Cond := .codeWith yL_impact cL_impact 4 (some .int) [(0, 6, 7, 34), (0, 6, 11, 13), (0, 6, 15, 51)] :: ((wsL_impact_r1 ++ (wsL_impact_r2 ++ (wsL_impact_r3 ++ (wsL_impact_r4 ++ wsL_impact_r5)))) ++ wsX50 ++ wsX30 ++ wsX00 ++ wsX20 ++ wsX10 ++ (vx_atS RX5 161 "java/lang/IndexOutOfBoundsException" ["java/lang/RuntimeException", "java/lang/Exception"]).filter goodWord ++ (vx_atS RX5 173 "java/lang/IllegalArgumentException" ["java/lang/RuntimeException", "java/lang/Exception"]).filter goodWord ++ (gNsAt RX5 182).filter goodWord)
def wsL_fails_r1 : List Cond := [Cond.classLink RL 34 "java/lang/IndexOutOfBoundsException", Cond.classLink RL 13 "java/lang/IllegalArgumentException", Cond.classLink RL 51 "java/util/NoSuchElementException", Cond.constant RL 36 (-2000000001), Cond.constant RL 15 (-2000000002), Cond.constant RL 53 (-2000000004), Cond.methodLink RL 66 yX5_failsWith, Cond.instanceMethod yX5_failsWith, Cond.selects RX5 yX5_failsWith yX5_failsWith, Cond.initialized RX5, Cond.code yX5_failsWith cX5_failsWith 4 (some .boolean), Cond.fieldLink RX5 46 "FoundRegister" "ofDay" "LFoundRegister$Things;", Cond.fieldLink RX5 30 "FoundRegister" "links" "LFoundRegister$Links;", Cond.fieldLink RX5 121 "FoundRegister$Things" "ofFind" "[I", Cond.fieldLink RX5 148 "FoundRegister$Links" "failed" "[Z", Cond.methodLink RX5 88 yX5_requireFind, Cond.instanceMethod yX5_requireFind, Cond.selects RX5 yX5_requireFind yX5_requireFind, Cond.code yX5_requireFind cX5_requireFind 2 none, Cond.classLink RX5 157 "java/lang/IndexOutOfBoundsException", Cond.initialized "java/lang/IndexOutOfBoundsException", Cond.fieldLink RX5 23 "FoundRegister" "finds" "LFoundRegister$Finds;", Cond.fieldLink RX5 72 "FoundRegister$Finds" "count" "I", Cond.methodLink RX5 104 yX5_requireDay]
def wsL_fails_r2 : List Cond := [Cond.static yX5_requireDay, Cond.code yX5_requireDay cX5_requireDay 1 none, Cond.methodLink RX5 53 yX5_requireRange, Cond.static yX5_requireRange, Cond.code yX5_requireRange cX5_requireRange 3 none, Cond.classLink RX5 169 "java/lang/IllegalArgumentException", Cond.initialized "java/lang/IllegalArgumentException", Cond.methodLink RX5 111 yX3_sortFor, Cond.instanceMethod yX3_sortFor, Cond.selects RX3 yX3_sortFor yX3_sortFor, Cond.initialized RX3, Cond.code yX3_sortFor cX3_sortFor 3 none, Cond.fieldLink RX3 15 "FoundRegister$Things" "finds" "LFoundRegister$Finds;", Cond.fieldLink RX3 23 "FoundRegister$Finds" "count" "I", Cond.fieldLink RX3 9 "FoundRegister$Things" "ofFind" "[I", Cond.fieldLink RX3 19 "FoundRegister$Things" "sources" "LFoundRegister$Sources;", Cond.methodLink RX3 29 yX0_standsOn, Cond.instanceMethod yX0_standsOn, Cond.selects RX0 yX0_standsOn yX0_standsOn, Cond.initialized RX0, Cond.code yX0_standsOn cX0_standsOn 4 (some .boolean), Cond.fieldLink RX0 22 "FoundRegister$Finds" "struck" "[Z", Cond.fieldLink RX0 19 "FoundRegister$Finds" "cameOn" "[I", Cond.fieldLink RX0 37 "FoundRegister$Sources" "term" "[I"]
def wsL_fails_r3 : List Cond := [Cond.fieldLink RX0 15 "FoundRegister$Finds" "source" "[I", Cond.methodLink RX3 33 yX3_joinToEarlier, Cond.instanceMethod yX3_joinToEarlier, Cond.selects RX3 yX3_joinToEarlier yX3_joinToEarlier, Cond.code yX3_joinToEarlier cX3_joinToEarlier 3 none, Cond.methodLink RX3 37 yX0_joined, Cond.instanceMethod yX0_joined, Cond.selects RX0 yX0_joined yX0_joined, Cond.code yX0_joined cX0_joined 3 (some .boolean), Cond.fieldLink RX0 34 "FoundRegister$Finds" "told" "[[I", Cond.methodLink RX0 42 yX0_knowsSerial, Cond.instanceMethod yX0_knowsSerial, Cond.selects RX0 yX0_knowsSerial yX0_knowsSerial, Cond.code yX0_knowsSerial cX0_knowsSerial 2 (some .boolean), Cond.fieldLink RX0 28 "FoundRegister$Finds" "marks" "[[I", Cond.methodLink RX0 46 yX0_shareMark, Cond.instanceMethod yX0_shareMark, Cond.selects RX0 yX0_shareMark yX0_shareMark, Cond.code yX0_shareMark cX0_shareMark 4 (some .boolean), Cond.methodLink RX3 41 yX3_merge, Cond.instanceMethod yX3_merge, Cond.selects RX3 yX3_merge yX3_merge, Cond.code yX3_merge cX3_merge 6 none, Cond.methodLink RX3 45 Lib.Math.min.name]
def wsL_fails_r4 : List Cond := [Cond.static Lib.Math.min.name, Cond.initialized "java/lang/Math", Cond.code Lib.Math.min.name Lib.Math.min.code 2 (some .int), Cond.methodLink RX3 51 Lib.Math.max.name, Cond.static Lib.Math.max.name, Cond.code Lib.Math.max.name Lib.Math.max.code 2 (some .int), Cond.methodLink RX5 118 yX5_requireCounting, Cond.instanceMethod yX5_requireCounting, Cond.selects RX5 yX5_requireCounting yX5_requireCounting, Cond.code yX5_requireCounting cX5_requireCounting 2 none, Cond.classLink RX5 178 "java/util/NoSuchElementException", Cond.initialized "java/util/NoSuchElementException", Cond.methodLink RX5 140 yX1_failFrom, Cond.instanceMethod yX1_failFrom, Cond.selects RX1 yX1_failFrom yX1_failFrom, Cond.initialized RX1, Cond.code yX1_failFrom cX1_failFrom 5 none, Cond.fieldLink RX1 25 "FoundRegister$Links" "failed" "[Z", Cond.methodLink RX1 29 yX1_failMore, Cond.instanceMethod yX1_failMore, Cond.selects RX1 yX1_failMore yX1_failMore, Cond.code yX1_failMore cX1_failMore 5 (some .boolean), Cond.fieldLink RX1 9 "FoundRegister$Links" "count" "I", Cond.fieldLink RX1 33 "FoundRegister$Things" "ofFind" "[I"]
def wsL_fails_r5 : List Cond := [Cond.fieldLink RX1 15 "FoundRegister$Links" "needing" "[I", Cond.fieldLink RX1 22 "FoundRegister$Links" "group" "[I", Cond.methodLink RX1 38 yX1_holds, Cond.instanceMethod yX1_holds, Cond.selects RX1 yX1_holds yX1_holds, Cond.code yX1_holds cX1_holds 5 (some .boolean), Cond.fieldLink RX1 19 "FoundRegister$Links" "needed" "[I", Cond.methodLink RX1 42 yX1_lost, Cond.instanceMethod yX1_lost, Cond.selects RX1 yX1_lost yX1_lost, Cond.code yX1_lost cX1_lost 5 (some .boolean)]
def wsL_fails : List Cond := .codeWith yL_fails cL_fails 5 (some .int) [(0, 15, 16, 34), (0, 15, 21, 13), (0, 15, 26, 51)] :: ((wsL_fails_r1 ++ (wsL_fails_r2 ++ (wsL_fails_r3 ++ (wsL_fails_r4 ++ wsL_fails_r5)))) ++ wsX50 ++ wsX30 ++ wsX10 ++ wsX00 ++ wsX20 ++ (vx_atS RX5 161 "java/lang/IndexOutOfBoundsException" ["java/lang/RuntimeException", "java/lang/Exception"]).filter goodWord ++ (vx_atS RX5 173 "java/lang/IllegalArgumentException" ["java/lang/RuntimeException", "java/lang/Exception"]).filter goodWord ++ (gNsAt RX5 182).filter goodWord)
def wsL_wishes_r1 : List Cond := [Cond.classLink RL 13 "java/lang/IllegalArgumentException", Cond.classLink RL 16 "java/lang/IllegalStateException", Cond.constant RL 15 (-2000000002), Cond.constant RL 18 (-2000000003), Cond.methodLink RL 70 yX5_wish, Cond.instanceMethod yX5_wish, Cond.selects RX5 yX5_wish yX5_wish, Cond.initialized RX5, Cond.code yX5_wish cX5_wish 5 (some .int), Cond.classLink RX5 57 "java/lang/IllegalStateException", Cond.initialized "java/lang/IllegalStateException", Cond.fieldLink RX5 37 "FoundRegister" "wishes" "LFoundRegister$Wishes;", Cond.fieldLink RX5 151 "FoundRegister$Wishes" "count" "I", Cond.methodLink RX5 53 yX5_requireRange, Cond.static yX5_requireRange, Cond.code yX5_requireRange cX5_requireRange 3 none, Cond.classLink RX5 169 "java/lang/IllegalArgumentException", Cond.initialized "java/lang/IllegalArgumentException", Cond.methodLink RX5 124 yX5_requireAttribute, Cond.static yX5_requireAttribute, Cond.code yX5_requireAttribute cX5_requireAttribute 1 none, Cond.methodLink RX5 154 yX4_add, Cond.instanceMethod yX4_add, Cond.selects RX4 yX4_add yX4_add]
def wsL_wishes_r2 : List Cond := [Cond.initialized RX4, Cond.code yX4_add cX4_add 6 (some .int), Cond.fieldLink RX4 9 "FoundRegister$Wishes" "count" "I", Cond.fieldLink RX4 15 "FoundRegister$Wishes" "mark" "[I", Cond.fieldLink RX4 19 "FoundRegister$Wishes" "markValue" "[I", Cond.fieldLink RX4 22 "FoundRegister$Wishes" "attribute" "[I", Cond.fieldLink RX4 25 "FoundRegister$Wishes" "wished" "[I"]
def wsL_wishes : List Cond := .codeWith yL_wishes cL_wishes 6 (some .int) [(0, 9, 10, 13), (0, 9, 15, 16)] :: ((wsL_wishes_r1 ++ wsL_wishes_r2) ++ wsX50 ++ wsX40 ++ (vx_atS RX5 61 "java/lang/IllegalStateException" ["java/lang/RuntimeException", "java/lang/Exception"]).filter goodWord ++ (vx_atS RX5 173 "java/lang/IllegalArgumentException" ["java/lang/RuntimeException", "java/lang/Exception"]).filter goodWord)
def wsL_differing_r1 : List Cond := [Cond.classLink RL 34 "java/lang/IndexOutOfBoundsException", Cond.classLink RL 13 "java/lang/IllegalArgumentException", Cond.constant RL 36 (-2000000001), Cond.constant RL 15 (-2000000002), Cond.methodLink RL 74 yX5_differing, Cond.instanceMethod yX5_differing, Cond.selects RX5 yX5_differing yX5_differing, Cond.initialized RX5, Cond.code yX5_differing cX5_differing 5 (some .int), Cond.classLink RX5 157 "java/lang/IndexOutOfBoundsException", Cond.initialized "java/lang/IndexOutOfBoundsException", Cond.fieldLink RX5 37 "FoundRegister" "wishes" "LFoundRegister$Wishes;", Cond.fieldLink RX5 151 "FoundRegister$Wishes" "count" "I", Cond.fieldLink RX5 46 "FoundRegister" "ofDay" "LFoundRegister$Things;", Cond.fieldLink RX5 23 "FoundRegister" "finds" "LFoundRegister$Finds;", Cond.fieldLink RX5 72 "FoundRegister$Finds" "count" "I", Cond.methodLink RX5 104 yX5_requireDay, Cond.static yX5_requireDay, Cond.code yX5_requireDay cX5_requireDay 1 none, Cond.methodLink RX5 53 yX5_requireRange, Cond.static yX5_requireRange, Cond.code yX5_requireRange cX5_requireRange 3 none, Cond.classLink RX5 169 "java/lang/IllegalArgumentException", Cond.initialized "java/lang/IllegalArgumentException"]
def wsL_differing_r2 : List Cond := [Cond.methodLink RX5 111 yX3_sortFor, Cond.instanceMethod yX3_sortFor, Cond.selects RX3 yX3_sortFor yX3_sortFor, Cond.initialized RX3, Cond.code yX3_sortFor cX3_sortFor 3 none, Cond.fieldLink RX3 15 "FoundRegister$Things" "finds" "LFoundRegister$Finds;", Cond.fieldLink RX3 23 "FoundRegister$Finds" "count" "I", Cond.fieldLink RX3 9 "FoundRegister$Things" "ofFind" "[I", Cond.fieldLink RX3 19 "FoundRegister$Things" "sources" "LFoundRegister$Sources;", Cond.methodLink RX3 29 yX0_standsOn, Cond.instanceMethod yX0_standsOn, Cond.selects RX0 yX0_standsOn yX0_standsOn, Cond.initialized RX0, Cond.code yX0_standsOn cX0_standsOn 4 (some .boolean), Cond.fieldLink RX0 22 "FoundRegister$Finds" "struck" "[Z", Cond.fieldLink RX0 19 "FoundRegister$Finds" "cameOn" "[I", Cond.fieldLink RX0 37 "FoundRegister$Sources" "term" "[I", Cond.fieldLink RX0 15 "FoundRegister$Finds" "source" "[I", Cond.methodLink RX3 33 yX3_joinToEarlier, Cond.instanceMethod yX3_joinToEarlier, Cond.selects RX3 yX3_joinToEarlier yX3_joinToEarlier, Cond.code yX3_joinToEarlier cX3_joinToEarlier 3 none, Cond.methodLink RX3 37 yX0_joined, Cond.instanceMethod yX0_joined]
def wsL_differing_r3 : List Cond := [Cond.selects RX0 yX0_joined yX0_joined, Cond.code yX0_joined cX0_joined 3 (some .boolean), Cond.fieldLink RX0 34 "FoundRegister$Finds" "told" "[[I", Cond.methodLink RX0 42 yX0_knowsSerial, Cond.instanceMethod yX0_knowsSerial, Cond.selects RX0 yX0_knowsSerial yX0_knowsSerial, Cond.code yX0_knowsSerial cX0_knowsSerial 2 (some .boolean), Cond.fieldLink RX0 28 "FoundRegister$Finds" "marks" "[[I", Cond.methodLink RX0 46 yX0_shareMark, Cond.instanceMethod yX0_shareMark, Cond.selects RX0 yX0_shareMark yX0_shareMark, Cond.code yX0_shareMark cX0_shareMark 4 (some .boolean), Cond.methodLink RX3 41 yX3_merge, Cond.instanceMethod yX3_merge, Cond.selects RX3 yX3_merge yX3_merge, Cond.code yX3_merge cX3_merge 6 none, Cond.methodLink RX3 45 Lib.Math.min.name, Cond.static Lib.Math.min.name, Cond.initialized "java/lang/Math", Cond.code Lib.Math.min.name Lib.Math.min.code 2 (some .int), Cond.methodLink RX3 51 Lib.Math.max.name, Cond.static Lib.Math.max.name, Cond.code Lib.Math.max.name Lib.Math.max.code 2 (some .int), Cond.methodLink RX5 114 yX3_isThing]
def wsL_differing_r4 : List Cond := [Cond.instanceMethod yX3_isThing, Cond.selects RX3 yX3_isThing yX3_isThing, Cond.code yX3_isThing cX3_isThing 2 (some .boolean), Cond.methodLink RX5 162 yX4_isMissedBy, Cond.instanceMethod yX4_isMissedBy, Cond.selects RX4 yX4_isMissedBy yX4_isMissedBy, Cond.initialized RX4, Cond.code yX4_isMissedBy cX4_isMissedBy 4 (some .boolean), Cond.fieldLink RX4 15 "FoundRegister$Wishes" "mark" "[I", Cond.fieldLink RX4 19 "FoundRegister$Wishes" "markValue" "[I", Cond.fieldLink RX4 22 "FoundRegister$Wishes" "attribute" "[I", Cond.fieldLink RX4 25 "FoundRegister$Wishes" "wished" "[I", Cond.methodLink RX4 28 yX3_hasMark, Cond.instanceMethod yX3_hasMark, Cond.selects RX3 yX3_hasMark yX3_hasMark, Cond.code yX3_hasMark cX3_hasMark 5 (some .boolean), Cond.fieldLink RX3 73 "FoundRegister$Finds" "marks" "[[I", Cond.methodLink RX4 34 yX3_attributeOf, Cond.instanceMethod yX3_attributeOf, Cond.selects RX3 yX3_attributeOf yX3_attributeOf, Cond.code yX3_attributeOf cX3_attributeOf 5 (some .int), Cond.fieldLink RX3 61 "FoundRegister$Finds" "attributes" "[[I", Cond.methodLink RX3 54 yX3_tells, Cond.instanceMethod yX3_tells]
def wsL_differing_r5 : List Cond := [Cond.selects RX3 yX3_tells yX3_tells, Cond.code yX3_tells cX3_tells 4 (some .boolean), Cond.methodLink RX3 58 yX3_goesBefore, Cond.instanceMethod yX3_goesBefore, Cond.selects RX3 yX3_goesBefore yX3_goesBefore, Cond.code yX3_goesBefore cX3_goesBefore 5 (some .boolean), Cond.fieldLink RX3 65 "FoundRegister$Sources" "place" "[I", Cond.fieldLink RX3 70 "FoundRegister$Finds" "source" "[I"]
def wsL_differing : List Cond := .codeWith yL_differing cL_differing 4 (some .int) [(0, 6, 7, 34), (0, 6, 11, 13)] :: ((wsL_differing_r1 ++ (wsL_differing_r2 ++ (wsL_differing_r3 ++ (wsL_differing_r4 ++ wsL_differing_r5)))) ++ wsX50 ++ wsX40 ++ wsX00 ++ wsX30 ++ wsX20 ++ (vx_atS RX5 161 "java/lang/IndexOutOfBoundsException" ["java/lang/RuntimeException", "java/lang/Exception"]).filter goodWord ++ (vx_atS RX5 173 "java/lang/IllegalArgumentException" ["java/lang/RuntimeException", "java/lang/Exception"]).filter goodWord)
def wsL_changed_r1 : List Cond := [Cond.classLink RL 13 "java/lang/IllegalArgumentException", Cond.constant RL 15 (-2000000002), Cond.methodLink RL 77 yX5_changed, Cond.instanceMethod yX5_changed, Cond.selects RX5 yX5_changed yX5_changed, Cond.initialized RX5, Cond.code yX5_changed cX5_changed 6 (some .int), Cond.fieldLink RX5 46 "FoundRegister" "ofDay" "LFoundRegister$Things;", Cond.fieldLink RX5 50 "FoundRegister" "ofOtherDay" "LFoundRegister$Things;", Cond.fieldLink RX5 23 "FoundRegister" "finds" "LFoundRegister$Finds;", Cond.fieldLink RX5 72 "FoundRegister$Finds" "count" "I", Cond.methodLink RX5 124 yX5_requireAttribute, Cond.static yX5_requireAttribute, Cond.code yX5_requireAttribute cX5_requireAttribute 1 none, Cond.methodLink RX5 53 yX5_requireRange, Cond.static yX5_requireRange, Cond.code yX5_requireRange cX5_requireRange 3 none, Cond.classLink RX5 169 "java/lang/IllegalArgumentException", Cond.initialized "java/lang/IllegalArgumentException", Cond.methodLink RX5 104 yX5_requireDay, Cond.static yX5_requireDay, Cond.code yX5_requireDay cX5_requireDay 1 none, Cond.methodLink RX5 111 yX3_sortFor, Cond.instanceMethod yX3_sortFor]
def wsL_changed_r2 : List Cond := [Cond.selects RX3 yX3_sortFor yX3_sortFor, Cond.initialized RX3, Cond.code yX3_sortFor cX3_sortFor 3 none, Cond.fieldLink RX3 15 "FoundRegister$Things" "finds" "LFoundRegister$Finds;", Cond.fieldLink RX3 23 "FoundRegister$Finds" "count" "I", Cond.fieldLink RX3 9 "FoundRegister$Things" "ofFind" "[I", Cond.fieldLink RX3 19 "FoundRegister$Things" "sources" "LFoundRegister$Sources;", Cond.methodLink RX3 29 yX0_standsOn, Cond.instanceMethod yX0_standsOn, Cond.selects RX0 yX0_standsOn yX0_standsOn, Cond.initialized RX0, Cond.code yX0_standsOn cX0_standsOn 4 (some .boolean), Cond.fieldLink RX0 22 "FoundRegister$Finds" "struck" "[Z", Cond.fieldLink RX0 19 "FoundRegister$Finds" "cameOn" "[I", Cond.fieldLink RX0 37 "FoundRegister$Sources" "term" "[I", Cond.fieldLink RX0 15 "FoundRegister$Finds" "source" "[I", Cond.methodLink RX3 33 yX3_joinToEarlier, Cond.instanceMethod yX3_joinToEarlier, Cond.selects RX3 yX3_joinToEarlier yX3_joinToEarlier, Cond.code yX3_joinToEarlier cX3_joinToEarlier 3 none, Cond.methodLink RX3 37 yX0_joined, Cond.instanceMethod yX0_joined, Cond.selects RX0 yX0_joined yX0_joined, Cond.code yX0_joined cX0_joined 3 (some .boolean)]
def wsL_changed_r3 : List Cond := [Cond.fieldLink RX0 34 "FoundRegister$Finds" "told" "[[I", Cond.methodLink RX0 42 yX0_knowsSerial, Cond.instanceMethod yX0_knowsSerial, Cond.selects RX0 yX0_knowsSerial yX0_knowsSerial, Cond.code yX0_knowsSerial cX0_knowsSerial 2 (some .boolean), Cond.fieldLink RX0 28 "FoundRegister$Finds" "marks" "[[I", Cond.methodLink RX0 46 yX0_shareMark, Cond.instanceMethod yX0_shareMark, Cond.selects RX0 yX0_shareMark yX0_shareMark, Cond.code yX0_shareMark cX0_shareMark 4 (some .boolean), Cond.methodLink RX3 41 yX3_merge, Cond.instanceMethod yX3_merge, Cond.selects RX3 yX3_merge yX3_merge, Cond.code yX3_merge cX3_merge 6 none, Cond.methodLink RX3 45 Lib.Math.min.name, Cond.static Lib.Math.min.name, Cond.initialized "java/lang/Math", Cond.code Lib.Math.min.name Lib.Math.min.code 2 (some .int), Cond.methodLink RX3 51 Lib.Math.max.name, Cond.static Lib.Math.max.name, Cond.code Lib.Math.max.name Lib.Math.max.code 2 (some .int), Cond.methodLink RX5 166 yX5_hasAnotherValue, Cond.instanceMethod yX5_hasAnotherValue, Cond.selects RX5 yX5_hasAnotherValue yX5_hasAnotherValue]
def wsL_changed_r4 : List Cond := [Cond.code yX5_hasAnotherValue cX5_hasAnotherValue 5 (some .boolean), Cond.fieldLink RX5 121 "FoundRegister$Things" "ofFind" "[I", Cond.methodLink RX5 127 yX3_attributeOf, Cond.instanceMethod yX3_attributeOf, Cond.selects RX3 yX3_attributeOf yX3_attributeOf, Cond.code yX3_attributeOf cX3_attributeOf 5 (some .int), Cond.fieldLink RX3 61 "FoundRegister$Finds" "attributes" "[[I", Cond.methodLink RX3 54 yX3_tells, Cond.instanceMethod yX3_tells, Cond.selects RX3 yX3_tells yX3_tells, Cond.code yX3_tells cX3_tells 4 (some .boolean), Cond.methodLink RX3 58 yX3_goesBefore, Cond.instanceMethod yX3_goesBefore, Cond.selects RX3 yX3_goesBefore yX3_goesBefore, Cond.code yX3_goesBefore cX3_goesBefore 5 (some .boolean), Cond.fieldLink RX3 65 "FoundRegister$Sources" "place" "[I", Cond.fieldLink RX3 70 "FoundRegister$Finds" "source" "[I"]
def wsL_changed : List Cond := .codeWith yL_changed cL_changed 5 (some .int) [(0, 7, 8, 13)] :: ((wsL_changed_r1 ++ (wsL_changed_r2 ++ (wsL_changed_r3 ++ wsL_changed_r4))) ++ wsX50 ++ wsX00 ++ wsX30 ++ wsX20 ++ (vx_atS RX5 173 "java/lang/IllegalArgumentException" ["java/lang/RuntimeException", "java/lang/Exception"]).filter goodWord)
def wsL_drawn : List Cond := .code yL_drawn cL_drawn 2 (some .int) :: ([.constant RL 80 (15524651), .constant RL 81 (2147483647)])
def wsL_refuses_r1 : List Cond := [Cond.constant RL 15 (-2000000002), Cond.constant RL 36 (-2000000001), Cond.constant RL 53 (-2000000004), Cond.methodLink RL 82 yL_passes, Cond.static yL_passes, Cond.initialized RL, Cond.codeWith yL_passes cL_passes 3 (some .int) [(0, 5, 6, 13), (0, 5, 10, 16)], Cond.classLink RL 13 "java/lang/IllegalArgumentException", Cond.classLink RL 16 "java/lang/IllegalStateException", Cond.constant RL 18 (-2000000003), Cond.methodLink RL 7 yX5_pass, Cond.instanceMethod yX5_pass, Cond.selects RX5 yX5_pass yX5_pass, Cond.initialized RX5, Cond.code yX5_pass cX5_pass 2 (some .int), Cond.classLink RX5 57 "java/lang/IllegalStateException", Cond.initialized "java/lang/IllegalStateException", Cond.fieldLink RX5 7 "FoundRegister" "presentDay" "I", Cond.methodLink RX5 53 yX5_requireRange, Cond.static yX5_requireRange, Cond.code yX5_requireRange cX5_requireRange 3 none, Cond.classLink RX5 169 "java/lang/IllegalArgumentException", Cond.initialized "java/lang/IllegalArgumentException", Cond.methodLink RL 88 yL_terms]
def wsL_refuses_r2 : List Cond := [Cond.static yL_terms, Cond.codeWith yL_terms cL_terms 4 (some .int) [(0, 6, 7, 13)], Cond.methodLink RL 19 yX5_setTerm, Cond.instanceMethod yX5_setTerm, Cond.selects RX5 yX5_setTerm yX5_setTerm, Cond.code yX5_setTerm cX5_setTerm 4 (some .int), Cond.fieldLink RX5 16 "FoundRegister" "sources" "LFoundRegister$Sources;", Cond.fieldLink RX5 64 "FoundRegister$Sources" "term" "[I", Cond.methodLink RL 92 yL_firsts, Cond.static yL_firsts, Cond.codeWith yL_firsts cL_firsts 3 (some .int) [(0, 5, 6, 13)], Cond.methodLink RL 23 yX5_putFirst, Cond.instanceMethod yX5_putFirst, Cond.selects RX5 yX5_putFirst yX5_putFirst, Cond.code yX5_putFirst cX5_putFirst 2 (some .int), Cond.methodLink RX5 68 yX2_moveToFront, Cond.instanceMethod yX2_moveToFront, Cond.selects RX2 yX2_moveToFront yX2_moveToFront, Cond.initialized RX2, Cond.code yX2_moveToFront cX2_moveToFront 4 (some .int), Cond.fieldLink RX2 15 "FoundRegister$Sources" "place" "[I", Cond.methodLink RL 95 yL_finds, Cond.static yL_finds, Cond.codeWith yL_finds cL_finds 8 (some .int) [(0, 13, 14, 13), (0, 13, 19, 16)]]
def wsL_refuses_r3 : List Cond := [Cond.methodLink RL 26 yX5_find, Cond.instanceMethod yX5_find, Cond.selects RX5 yX5_find yX5_find, Cond.code yX5_find cX5_find 8 (some .int), Cond.fieldLink RX5 23 "FoundRegister" "finds" "LFoundRegister$Finds;", Cond.fieldLink RX5 72 "FoundRegister$Finds" "count" "I", Cond.methodLink RX5 77 yX0_take, Cond.instanceMethod yX0_take, Cond.selects RX0 yX0_take yX0_take, Cond.initialized RX0, Cond.code yX0_take cX0_take 4 (some .int), Cond.fieldLink RX0 9 "FoundRegister$Finds" "count" "I", Cond.fieldLink RX0 15 "FoundRegister$Finds" "source" "[I", Cond.fieldLink RX0 19 "FoundRegister$Finds" "cameOn" "[I", Cond.methodLink RX5 81 yX0_putMarks, Cond.instanceMethod yX0_putMarks, Cond.selects RX0 yX0_putMarks yX0_putMarks, Cond.code yX0_putMarks cX0_putMarks 5 none, Cond.fieldLink RX0 28 "FoundRegister$Finds" "marks" "[[I", Cond.methodLink RX5 85 yX0_putAttributes, Cond.instanceMethod yX0_putAttributes, Cond.selects RX0 yX0_putAttributes yX0_putAttributes, Cond.code yX0_putAttributes cX0_putAttributes 4 none, Cond.fieldLink RX0 31 "FoundRegister$Finds" "attributes" "[[I"]
def wsL_refuses_r4 : List Cond := [Cond.methodLink RL 99 yL_strikes, Cond.static yL_strikes, Cond.codeWith yL_strikes cL_strikes 3 (some .int) [(0, 13, 14, 34)], Cond.classLink RL 34 "java/lang/IndexOutOfBoundsException", Cond.methodLink RL 30 yX5_strike, Cond.instanceMethod yX5_strike, Cond.selects RX5 yX5_strike yX5_strike, Cond.code yX5_strike cX5_strike 3 (some .boolean), Cond.fieldLink RX5 92 "FoundRegister$Finds" "struck" "[Z", Cond.methodLink RX5 88 yX5_requireFind, Cond.instanceMethod yX5_requireFind, Cond.selects RX5 yX5_requireFind yX5_requireFind, Cond.code yX5_requireFind cX5_requireFind 2 none, Cond.classLink RX5 157 "java/lang/IndexOutOfBoundsException", Cond.initialized "java/lang/IndexOutOfBoundsException", Cond.methodLink RL 102 yL_tells, Cond.static yL_tells, Cond.codeWith yL_tells cL_tells 5 (some .int) [(0, 7, 8, 34), (0, 7, 13, 13)], Cond.methodLink RL 37 yX5_tell, Cond.instanceMethod yX5_tell, Cond.selects RX5 yX5_tell yX5_tell, Cond.code yX5_tell cX5_tell 5 (some .int), Cond.fieldLink RX5 100 "FoundRegister$Finds" "told" "[[I", Cond.methodLink RX5 96 yX5_requireUnlike]
def wsL_refuses_r5 : List Cond := [Cond.static yX5_requireUnlike, Cond.code yX5_requireUnlike cX5_requireUnlike 2 none, Cond.methodLink RL 106 yL_counts, Cond.static yL_counts, Cond.codeWith yL_counts cL_counts 4 (some .int) [(0, 14, 15, 34), (0, 14, 19, 13)], Cond.methodLink RL 41 yX5_counts, Cond.instanceMethod yX5_counts, Cond.selects RX5 yX5_counts yX5_counts, Cond.code yX5_counts cX5_counts 3 (some .boolean), Cond.methodLink RX5 104 yX5_requireDay, Cond.static yX5_requireDay, Cond.code yX5_requireDay cX5_requireDay 1 none, Cond.methodLink RX5 107 yX0_standsOn, Cond.instanceMethod yX0_standsOn, Cond.selects RX0 yX0_standsOn yX0_standsOn, Cond.code yX0_standsOn cX0_standsOn 4 (some .boolean), Cond.fieldLink RX0 22 "FoundRegister$Finds" "struck" "[Z", Cond.fieldLink RX0 37 "FoundRegister$Sources" "term" "[I", Cond.methodLink RL 108 yL_things, Cond.static yL_things, Cond.codeWith yL_things cL_things 3 (some .int) [(0, 5, 6, 13)], Cond.methodLink RL 45 yX5_things, Cond.instanceMethod yX5_things, Cond.selects RX5 yX5_things yX5_things]
def wsL_refuses_r6 : List Cond := [Cond.code yX5_things cX5_things 4 (some .int), Cond.fieldLink RX5 46 "FoundRegister" "ofDay" "LFoundRegister$Things;", Cond.methodLink RX5 111 yX3_sortFor, Cond.instanceMethod yX3_sortFor, Cond.selects RX3 yX3_sortFor yX3_sortFor, Cond.initialized RX3, Cond.code yX3_sortFor cX3_sortFor 3 none, Cond.fieldLink RX3 15 "FoundRegister$Things" "finds" "LFoundRegister$Finds;", Cond.fieldLink RX3 23 "FoundRegister$Finds" "count" "I", Cond.fieldLink RX3 9 "FoundRegister$Things" "ofFind" "[I", Cond.fieldLink RX3 19 "FoundRegister$Things" "sources" "LFoundRegister$Sources;", Cond.methodLink RX3 29 yX0_standsOn, Cond.methodLink RX3 33 yX3_joinToEarlier, Cond.instanceMethod yX3_joinToEarlier, Cond.selects RX3 yX3_joinToEarlier yX3_joinToEarlier, Cond.code yX3_joinToEarlier cX3_joinToEarlier 3 none, Cond.methodLink RX3 37 yX0_joined, Cond.instanceMethod yX0_joined, Cond.selects RX0 yX0_joined yX0_joined, Cond.code yX0_joined cX0_joined 3 (some .boolean), Cond.fieldLink RX0 34 "FoundRegister$Finds" "told" "[[I", Cond.methodLink RX0 42 yX0_knowsSerial, Cond.instanceMethod yX0_knowsSerial, Cond.selects RX0 yX0_knowsSerial yX0_knowsSerial]
def wsL_refuses_r7 : List Cond := [Cond.code yX0_knowsSerial cX0_knowsSerial 2 (some .boolean), Cond.methodLink RX0 46 yX0_shareMark, Cond.instanceMethod yX0_shareMark, Cond.selects RX0 yX0_shareMark yX0_shareMark, Cond.code yX0_shareMark cX0_shareMark 4 (some .boolean), Cond.methodLink RX3 41 yX3_merge, Cond.instanceMethod yX3_merge, Cond.selects RX3 yX3_merge yX3_merge, Cond.code yX3_merge cX3_merge 6 none, Cond.methodLink RX3 45 Lib.Math.min.name, Cond.static Lib.Math.min.name, Cond.initialized "java/lang/Math", Cond.code Lib.Math.min.name Lib.Math.min.code 2 (some .int), Cond.methodLink RX3 51 Lib.Math.max.name, Cond.static Lib.Math.max.name, Cond.code Lib.Math.max.name Lib.Math.max.code 2 (some .int), Cond.methodLink RX5 114 yX3_isThing, Cond.instanceMethod yX3_isThing, Cond.selects RX3 yX3_isThing yX3_isThing, Cond.code yX3_isThing cX3_isThing 2 (some .boolean), Cond.methodLink RL 110 yL_thing, Cond.static yL_thing, Cond.codeWith yL_thing cL_thing 4 (some .int) [(0, 6, 7, 34), (0, 6, 11, 13), (0, 6, 15, 51)], Cond.classLink RL 51 "java/util/NoSuchElementException"]
def wsL_refuses_r8 : List Cond := [Cond.methodLink RL 48 yX5_thingOf, Cond.instanceMethod yX5_thingOf, Cond.selects RX5 yX5_thingOf yX5_thingOf, Cond.code yX5_thingOf cX5_thingOf 3 (some .int), Cond.fieldLink RX5 121 "FoundRegister$Things" "ofFind" "[I", Cond.methodLink RX5 118 yX5_requireCounting, Cond.instanceMethod yX5_requireCounting, Cond.selects RX5 yX5_requireCounting yX5_requireCounting, Cond.code yX5_requireCounting cX5_requireCounting 2 none, Cond.classLink RX5 178 "java/util/NoSuchElementException", Cond.initialized "java/util/NoSuchElementException", Cond.methodLink RL 113 yL_value, Cond.static yL_value, Cond.codeWith yL_value cL_value 5 (some .int) [(0, 7, 8, 34), (0, 7, 13, 13), (0, 7, 18, 51)], Cond.methodLink RL 54 yX5_value, Cond.instanceMethod yX5_value, Cond.selects RX5 yX5_value yX5_value, Cond.code yX5_value cX5_value 4 (some .int), Cond.methodLink RX5 124 yX5_requireAttribute, Cond.static yX5_requireAttribute, Cond.code yX5_requireAttribute cX5_requireAttribute 1 none, Cond.methodLink RX5 127 yX3_attributeOf, Cond.instanceMethod yX3_attributeOf, Cond.selects RX3 yX3_attributeOf yX3_attributeOf]
def wsL_refuses_r9 : List Cond := [Cond.code yX3_attributeOf cX3_attributeOf 5 (some .int), Cond.fieldLink RX3 61 "FoundRegister$Finds" "attributes" "[[I", Cond.methodLink RX3 54 yX3_tells, Cond.instanceMethod yX3_tells, Cond.selects RX3 yX3_tells yX3_tells, Cond.code yX3_tells cX3_tells 4 (some .boolean), Cond.methodLink RX3 58 yX3_goesBefore, Cond.instanceMethod yX3_goesBefore, Cond.selects RX3 yX3_goesBefore yX3_goesBefore, Cond.code yX3_goesBefore cX3_goesBefore 5 (some .boolean), Cond.fieldLink RX3 65 "FoundRegister$Sources" "place" "[I", Cond.fieldLink RX3 70 "FoundRegister$Finds" "source" "[I", Cond.methodLink RL 115 yL_disputed, Cond.static yL_disputed, Cond.codeWith yL_disputed cL_disputed 4 (some .int) [(0, 6, 7, 13)], Cond.methodLink RL 57 yX5_disputed, Cond.instanceMethod yX5_disputed, Cond.selects RX5 yX5_disputed yX5_disputed, Cond.code yX5_disputed cX5_disputed 5 (some .int), Cond.methodLink RX5 130 yX3_hasUnlikeValues, Cond.instanceMethod yX3_hasUnlikeValues, Cond.selects RX3 yX3_hasUnlikeValues yX3_hasUnlikeValues, Cond.code yX3_hasUnlikeValues cX3_hasUnlikeValues 6 (some .boolean), Cond.methodLink RL 117 yL_links]
def wsL_refuses_r10 : List Cond := [Cond.static yL_links, Cond.codeWith yL_links cL_links 5 (some .int) [(0, 7, 8, 34), (0, 7, 13, 13), (0, 7, 18, 16)], Cond.methodLink RL 60 yX5_link, Cond.instanceMethod yX5_link, Cond.selects RX5 yX5_link yX5_link, Cond.code yX5_link cX5_link 4 (some .int), Cond.fieldLink RX5 30 "FoundRegister" "links" "LFoundRegister$Links;", Cond.fieldLink RX5 134 "FoundRegister$Links" "count" "I", Cond.methodLink RX5 137 yX1_add, Cond.instanceMethod yX1_add, Cond.selects RX1 yX1_add yX1_add, Cond.initialized RX1, Cond.code yX1_add cX1_add 4 none, Cond.fieldLink RX1 15 "FoundRegister$Links" "needing" "[I", Cond.fieldLink RX1 9 "FoundRegister$Links" "count" "I", Cond.fieldLink RX1 19 "FoundRegister$Links" "needed" "[I", Cond.fieldLink RX1 22 "FoundRegister$Links" "group" "[I", Cond.methodLink RL 120 yL_impact, Cond.static yL_impact, Cond.codeWith yL_impact cL_impact 4 (some .int) [(0, 6, 7, 34), (0, 6, 11, 13), (0, 6, 15, 51)], Cond.methodLink RL 63 yX5_impact, Cond.instanceMethod yX5_impact, Cond.selects RX5 yX5_impact yX5_impact, Cond.code yX5_impact cX5_impact 3 (some .int)]
def wsL_refuses_r11 : List Cond := [Cond.methodLink RX5 140 yX1_failFrom, Cond.instanceMethod yX1_failFrom, Cond.selects RX1 yX1_failFrom yX1_failFrom, Cond.code yX1_failFrom cX1_failFrom 5 none, Cond.fieldLink RX1 25 "FoundRegister$Links" "failed" "[Z", Cond.methodLink RX1 29 yX1_failMore, Cond.instanceMethod yX1_failMore, Cond.selects RX1 yX1_failMore yX1_failMore, Cond.code yX1_failMore cX1_failMore 5 (some .boolean), Cond.fieldLink RX1 33 "FoundRegister$Things" "ofFind" "[I", Cond.methodLink RX1 38 yX1_holds, Cond.instanceMethod yX1_holds, Cond.selects RX1 yX1_holds yX1_holds, Cond.code yX1_holds cX1_holds 5 (some .boolean), Cond.methodLink RX1 42 yX1_lost, Cond.instanceMethod yX1_lost, Cond.selects RX1 yX1_lost yX1_lost, Cond.code yX1_lost cX1_lost 5 (some .boolean), Cond.methodLink RX5 144 yX1_failures, Cond.instanceMethod yX1_failures, Cond.selects RX1 yX1_failures yX1_failures, Cond.code yX1_failures cX1_failures 3 (some .int), Cond.methodLink RL 122 yL_fails, Cond.static yL_fails]
def wsL_refuses_r12 : List Cond := [Cond.codeWith yL_fails cL_fails 5 (some .int) [(0, 15, 16, 34), (0, 15, 21, 13), (0, 15, 26, 51)], Cond.methodLink RL 66 yX5_failsWith, Cond.instanceMethod yX5_failsWith, Cond.selects RX5 yX5_failsWith yX5_failsWith, Cond.code yX5_failsWith cX5_failsWith 4 (some .boolean), Cond.fieldLink RX5 148 "FoundRegister$Links" "failed" "[Z", Cond.methodLink RL 125 yL_wishes, Cond.static yL_wishes, Cond.codeWith yL_wishes cL_wishes 6 (some .int) [(0, 9, 10, 13), (0, 9, 15, 16)], Cond.methodLink RL 70 yX5_wish, Cond.instanceMethod yX5_wish, Cond.selects RX5 yX5_wish yX5_wish, Cond.code yX5_wish cX5_wish 5 (some .int), Cond.fieldLink RX5 37 "FoundRegister" "wishes" "LFoundRegister$Wishes;", Cond.fieldLink RX5 151 "FoundRegister$Wishes" "count" "I", Cond.methodLink RX5 154 yX4_add, Cond.instanceMethod yX4_add, Cond.selects RX4 yX4_add yX4_add, Cond.initialized RX4, Cond.code yX4_add cX4_add 6 (some .int), Cond.fieldLink RX4 9 "FoundRegister$Wishes" "count" "I", Cond.fieldLink RX4 15 "FoundRegister$Wishes" "mark" "[I", Cond.fieldLink RX4 19 "FoundRegister$Wishes" "markValue" "[I", Cond.fieldLink RX4 22 "FoundRegister$Wishes" "attribute" "[I"]
def wsL_refuses_r13 : List Cond := [Cond.fieldLink RX4 25 "FoundRegister$Wishes" "wished" "[I", Cond.methodLink RL 129 yL_differing, Cond.static yL_differing, Cond.codeWith yL_differing cL_differing 4 (some .int) [(0, 6, 7, 34), (0, 6, 11, 13)], Cond.methodLink RL 74 yX5_differing, Cond.instanceMethod yX5_differing, Cond.selects RX5 yX5_differing yX5_differing, Cond.code yX5_differing cX5_differing 5 (some .int), Cond.methodLink RX5 162 yX4_isMissedBy, Cond.instanceMethod yX4_isMissedBy, Cond.selects RX4 yX4_isMissedBy yX4_isMissedBy, Cond.code yX4_isMissedBy cX4_isMissedBy 4 (some .boolean), Cond.methodLink RX4 28 yX3_hasMark, Cond.instanceMethod yX3_hasMark, Cond.selects RX3 yX3_hasMark yX3_hasMark, Cond.code yX3_hasMark cX3_hasMark 5 (some .boolean), Cond.fieldLink RX3 73 "FoundRegister$Finds" "marks" "[[I", Cond.methodLink RX4 34 yX3_attributeOf, Cond.methodLink RL 131 yL_changed, Cond.static yL_changed, Cond.codeWith yL_changed cL_changed 5 (some .int) [(0, 7, 8, 13)], Cond.methodLink RL 77 yX5_changed, Cond.instanceMethod yX5_changed, Cond.selects RX5 yX5_changed yX5_changed]
def wsL_refuses_r14 : List Cond := [Cond.code yX5_changed cX5_changed 6 (some .int), Cond.fieldLink RX5 50 "FoundRegister" "ofOtherDay" "LFoundRegister$Things;", Cond.methodLink RX5 166 yX5_hasAnotherValue, Cond.instanceMethod yX5_hasAnotherValue, Cond.selects RX5 yX5_hasAnotherValue yX5_hasAnotherValue, Cond.code yX5_hasAnotherValue cX5_hasAnotherValue 5 (some .boolean), Cond.methodLink RL 133 yX5_today, Cond.instanceMethod yX5_today, Cond.selects RX5 yX5_today yX5_today, Cond.code yX5_today cX5_today 1 (some .int)]
def wsL_refuses : List Cond := .code yL_refuses cL_refuses 10 (some .boolean) :: ((wsL_refuses_r1 ++ (wsL_refuses_r2 ++ (wsL_refuses_r3 ++ (wsL_refuses_r4 ++ (wsL_refuses_r5 ++ (wsL_refuses_r6 ++ (wsL_refuses_r7 ++ (wsL_refuses_r8 ++ (wsL_refuses_r9 ++ (wsL_refuses_r10 ++ (wsL_refuses_r11 ++ (wsL_refuses_r12 ++ (wsL_refuses_r13 ++ wsL_refuses_r14))))))))))))) ++ wsX50 ++ wsX20 ++ wsX00 ++ wsX30 ++ wsX10 ++ wsX40 ++ (vx_atS RX5 61 "java/lang/IllegalStateException" ["java/lang/RuntimeException", "java/lang/Exception"]).filter goodWord ++ (vx_atS RX5 173 "java/lang/IllegalArgumentException" ["java/lang/RuntimeException", "java/lang/Exception"]).filter goodWord ++ (vx_atS RX5 161 "java/lang/IndexOutOfBoundsException" ["java/lang/RuntimeException", "java/lang/Exception"]).filter goodWord ++ (gNsAt RX5 182).filter goodWord)
def wsL_act_r1 : List Cond := [Cond.methodLink RL 95 yL_finds, Cond.static yL_finds, Cond.initialized RL, Cond.codeWith yL_finds cL_finds 8 (some .int) [(0, 13, 14, 13), (0, 13, 19, 16)], Cond.classLink RL 13 "java/lang/IllegalArgumentException", Cond.classLink RL 16 "java/lang/IllegalStateException", Cond.constant RL 15 (-2000000002), Cond.constant RL 18 (-2000000003), Cond.methodLink RL 26 yX5_find, Cond.instanceMethod yX5_find, Cond.selects RX5 yX5_find yX5_find, Cond.initialized RX5, Cond.code yX5_find cX5_find 8 (some .int), Cond.classLink RX5 57 "java/lang/IllegalStateException", Cond.initialized "java/lang/IllegalStateException", Cond.fieldLink RX5 23 "FoundRegister" "finds" "LFoundRegister$Finds;", Cond.fieldLink RX5 72 "FoundRegister$Finds" "count" "I", Cond.fieldLink RX5 7 "FoundRegister" "presentDay" "I", Cond.methodLink RX5 53 yX5_requireRange, Cond.static yX5_requireRange, Cond.code yX5_requireRange cX5_requireRange 3 none, Cond.classLink RX5 169 "java/lang/IllegalArgumentException", Cond.initialized "java/lang/IllegalArgumentException", Cond.methodLink RX5 77 yX0_take]
def wsL_act_r2 : List Cond := [Cond.instanceMethod yX0_take, Cond.selects RX0 yX0_take yX0_take, Cond.initialized RX0, Cond.code yX0_take cX0_take 4 (some .int), Cond.fieldLink RX0 9 "FoundRegister$Finds" "count" "I", Cond.fieldLink RX0 15 "FoundRegister$Finds" "source" "[I", Cond.fieldLink RX0 19 "FoundRegister$Finds" "cameOn" "[I", Cond.methodLink RX5 81 yX0_putMarks, Cond.instanceMethod yX0_putMarks, Cond.selects RX0 yX0_putMarks yX0_putMarks, Cond.code yX0_putMarks cX0_putMarks 5 none, Cond.fieldLink RX0 28 "FoundRegister$Finds" "marks" "[[I", Cond.methodLink RX5 85 yX0_putAttributes, Cond.instanceMethod yX0_putAttributes, Cond.selects RX0 yX0_putAttributes yX0_putAttributes, Cond.code yX0_putAttributes cX0_putAttributes 4 none, Cond.fieldLink RX0 31 "FoundRegister$Finds" "attributes" "[[I", Cond.methodLink RL 82 yL_passes, Cond.static yL_passes, Cond.codeWith yL_passes cL_passes 3 (some .int) [(0, 5, 6, 13), (0, 5, 10, 16)], Cond.methodLink RL 7 yX5_pass, Cond.instanceMethod yX5_pass, Cond.selects RX5 yX5_pass yX5_pass, Cond.code yX5_pass cX5_pass 2 (some .int)]
def wsL_act_r3 : List Cond := [Cond.methodLink RL 88 yL_terms, Cond.static yL_terms, Cond.codeWith yL_terms cL_terms 4 (some .int) [(0, 6, 7, 13)], Cond.methodLink RL 19 yX5_setTerm, Cond.instanceMethod yX5_setTerm, Cond.selects RX5 yX5_setTerm yX5_setTerm, Cond.code yX5_setTerm cX5_setTerm 4 (some .int), Cond.fieldLink RX5 16 "FoundRegister" "sources" "LFoundRegister$Sources;", Cond.fieldLink RX5 64 "FoundRegister$Sources" "term" "[I", Cond.methodLink RL 92 yL_firsts, Cond.static yL_firsts, Cond.codeWith yL_firsts cL_firsts 3 (some .int) [(0, 5, 6, 13)], Cond.methodLink RL 23 yX5_putFirst, Cond.instanceMethod yX5_putFirst, Cond.selects RX5 yX5_putFirst yX5_putFirst, Cond.code yX5_putFirst cX5_putFirst 2 (some .int), Cond.methodLink RX5 68 yX2_moveToFront, Cond.instanceMethod yX2_moveToFront, Cond.selects RX2 yX2_moveToFront yX2_moveToFront, Cond.initialized RX2, Cond.code yX2_moveToFront cX2_moveToFront 4 (some .int), Cond.fieldLink RX2 15 "FoundRegister$Sources" "place" "[I", Cond.methodLink RL 99 yL_strikes, Cond.static yL_strikes]
def wsL_act_r4 : List Cond := [Cond.codeWith yL_strikes cL_strikes 3 (some .int) [(0, 13, 14, 34)], Cond.classLink RL 34 "java/lang/IndexOutOfBoundsException", Cond.constant RL 36 (-2000000001), Cond.methodLink RL 30 yX5_strike, Cond.instanceMethod yX5_strike, Cond.selects RX5 yX5_strike yX5_strike, Cond.code yX5_strike cX5_strike 3 (some .boolean), Cond.fieldLink RX5 92 "FoundRegister$Finds" "struck" "[Z", Cond.methodLink RX5 88 yX5_requireFind, Cond.instanceMethod yX5_requireFind, Cond.selects RX5 yX5_requireFind yX5_requireFind, Cond.code yX5_requireFind cX5_requireFind 2 none, Cond.classLink RX5 157 "java/lang/IndexOutOfBoundsException", Cond.initialized "java/lang/IndexOutOfBoundsException", Cond.methodLink RL 133 yX5_today, Cond.instanceMethod yX5_today, Cond.selects RX5 yX5_today yX5_today, Cond.code yX5_today cX5_today 1 (some .int), Cond.methodLink RL 102 yL_tells, Cond.static yL_tells, Cond.codeWith yL_tells cL_tells 5 (some .int) [(0, 7, 8, 34), (0, 7, 13, 13)], Cond.methodLink RL 37 yX5_tell, Cond.instanceMethod yX5_tell, Cond.selects RX5 yX5_tell yX5_tell]
def wsL_act_r5 : List Cond := [Cond.code yX5_tell cX5_tell 5 (some .int), Cond.fieldLink RX5 100 "FoundRegister$Finds" "told" "[[I", Cond.methodLink RX5 96 yX5_requireUnlike, Cond.static yX5_requireUnlike, Cond.code yX5_requireUnlike cX5_requireUnlike 2 none, Cond.methodLink RL 117 yL_links, Cond.static yL_links, Cond.codeWith yL_links cL_links 5 (some .int) [(0, 7, 8, 34), (0, 7, 13, 13), (0, 7, 18, 16)], Cond.methodLink RL 60 yX5_link, Cond.instanceMethod yX5_link, Cond.selects RX5 yX5_link yX5_link, Cond.code yX5_link cX5_link 4 (some .int), Cond.fieldLink RX5 30 "FoundRegister" "links" "LFoundRegister$Links;", Cond.fieldLink RX5 134 "FoundRegister$Links" "count" "I", Cond.methodLink RX5 137 yX1_add, Cond.instanceMethod yX1_add, Cond.selects RX1 yX1_add yX1_add, Cond.initialized RX1, Cond.code yX1_add cX1_add 4 none, Cond.fieldLink RX1 15 "FoundRegister$Links" "needing" "[I", Cond.fieldLink RX1 9 "FoundRegister$Links" "count" "I", Cond.fieldLink RX1 19 "FoundRegister$Links" "needed" "[I", Cond.fieldLink RX1 22 "FoundRegister$Links" "group" "[I", Cond.methodLink RL 125 yL_wishes]
def wsL_act_r6 : List Cond := [Cond.static yL_wishes, Cond.codeWith yL_wishes cL_wishes 6 (some .int) [(0, 9, 10, 13), (0, 9, 15, 16)], Cond.methodLink RL 70 yX5_wish, Cond.instanceMethod yX5_wish, Cond.selects RX5 yX5_wish yX5_wish, Cond.code yX5_wish cX5_wish 5 (some .int), Cond.fieldLink RX5 37 "FoundRegister" "wishes" "LFoundRegister$Wishes;", Cond.fieldLink RX5 151 "FoundRegister$Wishes" "count" "I", Cond.methodLink RX5 124 yX5_requireAttribute, Cond.static yX5_requireAttribute, Cond.code yX5_requireAttribute cX5_requireAttribute 1 none, Cond.methodLink RX5 154 yX4_add, Cond.instanceMethod yX4_add, Cond.selects RX4 yX4_add yX4_add, Cond.initialized RX4, Cond.code yX4_add cX4_add 6 (some .int), Cond.fieldLink RX4 9 "FoundRegister$Wishes" "count" "I", Cond.fieldLink RX4 15 "FoundRegister$Wishes" "mark" "[I", Cond.fieldLink RX4 19 "FoundRegister$Wishes" "markValue" "[I", Cond.fieldLink RX4 22 "FoundRegister$Wishes" "attribute" "[I", Cond.fieldLink RX4 25 "FoundRegister$Wishes" "wished" "[I"]
def wsL_act : List Cond := .code yL_act cL_act 6 (some .int) :: ((wsL_act_r1 ++ (wsL_act_r2 ++ (wsL_act_r3 ++ (wsL_act_r4 ++ (wsL_act_r5 ++ wsL_act_r6))))) ++ wsX50 ++ wsX00 ++ wsX20 ++ wsX10 ++ wsX40 ++ (vx_atS RX5 61 "java/lang/IllegalStateException" ["java/lang/RuntimeException", "java/lang/Exception"]).filter goodWord ++ (vx_atS RX5 173 "java/lang/IllegalArgumentException" ["java/lang/RuntimeException", "java/lang/Exception"]).filter goodWord ++ (vx_atS RX5 161 "java/lang/IndexOutOfBoundsException" ["java/lang/RuntimeException", "java/lang/Exception"]).filter goodWord)
def wsL_alike_r1 : List Cond := [Cond.methodLink RL 133 yX5_today, Cond.instanceMethod yX5_today, Cond.selects RX5 yX5_today yX5_today, Cond.initialized RX5, Cond.code yX5_today cX5_today 1 (some .int), Cond.fieldLink RX5 7 "FoundRegister" "presentDay" "I", Cond.methodLink RL 108 yL_things, Cond.static yL_things, Cond.initialized RL, Cond.codeWith yL_things cL_things 3 (some .int) [(0, 5, 6, 13)], Cond.classLink RL 13 "java/lang/IllegalArgumentException", Cond.constant RL 15 (-2000000002), Cond.methodLink RL 45 yX5_things, Cond.instanceMethod yX5_things, Cond.selects RX5 yX5_things yX5_things, Cond.code yX5_things cX5_things 4 (some .int), Cond.fieldLink RX5 46 "FoundRegister" "ofDay" "LFoundRegister$Things;", Cond.fieldLink RX5 23 "FoundRegister" "finds" "LFoundRegister$Finds;", Cond.fieldLink RX5 72 "FoundRegister$Finds" "count" "I", Cond.methodLink RX5 104 yX5_requireDay, Cond.static yX5_requireDay, Cond.code yX5_requireDay cX5_requireDay 1 none, Cond.methodLink RX5 53 yX5_requireRange, Cond.static yX5_requireRange]
def wsL_alike_r2 : List Cond := [Cond.code yX5_requireRange cX5_requireRange 3 none, Cond.classLink RX5 169 "java/lang/IllegalArgumentException", Cond.initialized "java/lang/IllegalArgumentException", Cond.methodLink RX5 111 yX3_sortFor, Cond.instanceMethod yX3_sortFor, Cond.selects RX3 yX3_sortFor yX3_sortFor, Cond.initialized RX3, Cond.code yX3_sortFor cX3_sortFor 3 none, Cond.fieldLink RX3 15 "FoundRegister$Things" "finds" "LFoundRegister$Finds;", Cond.fieldLink RX3 23 "FoundRegister$Finds" "count" "I", Cond.fieldLink RX3 9 "FoundRegister$Things" "ofFind" "[I", Cond.fieldLink RX3 19 "FoundRegister$Things" "sources" "LFoundRegister$Sources;", Cond.methodLink RX3 29 yX0_standsOn, Cond.instanceMethod yX0_standsOn, Cond.selects RX0 yX0_standsOn yX0_standsOn, Cond.initialized RX0, Cond.code yX0_standsOn cX0_standsOn 4 (some .boolean), Cond.fieldLink RX0 22 "FoundRegister$Finds" "struck" "[Z", Cond.fieldLink RX0 19 "FoundRegister$Finds" "cameOn" "[I", Cond.fieldLink RX0 37 "FoundRegister$Sources" "term" "[I", Cond.fieldLink RX0 15 "FoundRegister$Finds" "source" "[I", Cond.methodLink RX3 33 yX3_joinToEarlier, Cond.instanceMethod yX3_joinToEarlier, Cond.selects RX3 yX3_joinToEarlier yX3_joinToEarlier]
def wsL_alike_r3 : List Cond := [Cond.code yX3_joinToEarlier cX3_joinToEarlier 3 none, Cond.methodLink RX3 37 yX0_joined, Cond.instanceMethod yX0_joined, Cond.selects RX0 yX0_joined yX0_joined, Cond.code yX0_joined cX0_joined 3 (some .boolean), Cond.fieldLink RX0 34 "FoundRegister$Finds" "told" "[[I", Cond.methodLink RX0 42 yX0_knowsSerial, Cond.instanceMethod yX0_knowsSerial, Cond.selects RX0 yX0_knowsSerial yX0_knowsSerial, Cond.code yX0_knowsSerial cX0_knowsSerial 2 (some .boolean), Cond.fieldLink RX0 28 "FoundRegister$Finds" "marks" "[[I", Cond.methodLink RX0 46 yX0_shareMark, Cond.instanceMethod yX0_shareMark, Cond.selects RX0 yX0_shareMark yX0_shareMark, Cond.code yX0_shareMark cX0_shareMark 4 (some .boolean), Cond.methodLink RX3 41 yX3_merge, Cond.instanceMethod yX3_merge, Cond.selects RX3 yX3_merge yX3_merge, Cond.code yX3_merge cX3_merge 6 none, Cond.methodLink RX3 45 Lib.Math.min.name, Cond.static Lib.Math.min.name, Cond.initialized "java/lang/Math", Cond.code Lib.Math.min.name Lib.Math.min.code 2 (some .int), Cond.methodLink RX3 51 Lib.Math.max.name]
def wsL_alike_r4 : List Cond := [Cond.static Lib.Math.max.name, Cond.code Lib.Math.max.name Lib.Math.max.code 2 (some .int), Cond.methodLink RX5 114 yX3_isThing, Cond.instanceMethod yX3_isThing, Cond.selects RX3 yX3_isThing yX3_isThing, Cond.code yX3_isThing cX3_isThing 2 (some .boolean), Cond.methodLink RL 115 yL_disputed, Cond.static yL_disputed, Cond.codeWith yL_disputed cL_disputed 4 (some .int) [(0, 6, 7, 13)], Cond.methodLink RL 57 yX5_disputed, Cond.instanceMethod yX5_disputed, Cond.selects RX5 yX5_disputed yX5_disputed, Cond.code yX5_disputed cX5_disputed 5 (some .int), Cond.methodLink RX5 124 yX5_requireAttribute, Cond.static yX5_requireAttribute, Cond.code yX5_requireAttribute cX5_requireAttribute 1 none, Cond.methodLink RX5 130 yX3_hasUnlikeValues, Cond.instanceMethod yX3_hasUnlikeValues, Cond.selects RX3 yX3_hasUnlikeValues yX3_hasUnlikeValues, Cond.code yX3_hasUnlikeValues cX3_hasUnlikeValues 6 (some .boolean), Cond.fieldLink RX3 61 "FoundRegister$Finds" "attributes" "[[I", Cond.methodLink RX3 54 yX3_tells, Cond.instanceMethod yX3_tells, Cond.selects RX3 yX3_tells yX3_tells]
def wsL_alike_r5 : List Cond := [Cond.code yX3_tells cX3_tells 4 (some .boolean), Cond.methodLink RL 106 yL_counts, Cond.static yL_counts, Cond.codeWith yL_counts cL_counts 4 (some .int) [(0, 14, 15, 34), (0, 14, 19, 13)], Cond.classLink RL 34 "java/lang/IndexOutOfBoundsException", Cond.constant RL 36 (-2000000001), Cond.methodLink RL 41 yX5_counts, Cond.instanceMethod yX5_counts, Cond.selects RX5 yX5_counts yX5_counts, Cond.code yX5_counts cX5_counts 3 (some .boolean), Cond.fieldLink RX5 16 "FoundRegister" "sources" "LFoundRegister$Sources;", Cond.methodLink RX5 88 yX5_requireFind, Cond.instanceMethod yX5_requireFind, Cond.selects RX5 yX5_requireFind yX5_requireFind, Cond.code yX5_requireFind cX5_requireFind 2 none, Cond.classLink RX5 157 "java/lang/IndexOutOfBoundsException", Cond.initialized "java/lang/IndexOutOfBoundsException", Cond.methodLink RX5 107 yX0_standsOn, Cond.methodLink RL 110 yL_thing, Cond.static yL_thing, Cond.codeWith yL_thing cL_thing 4 (some .int) [(0, 6, 7, 34), (0, 6, 11, 13), (0, 6, 15, 51)], Cond.classLink RL 51 "java/util/NoSuchElementException", Cond.constant RL 53 (-2000000004), Cond.methodLink RL 48 yX5_thingOf]
def wsL_alike_r6 : List Cond := [Cond.instanceMethod yX5_thingOf, Cond.selects RX5 yX5_thingOf yX5_thingOf, Cond.code yX5_thingOf cX5_thingOf 3 (some .int), Cond.fieldLink RX5 121 "FoundRegister$Things" "ofFind" "[I", Cond.methodLink RX5 118 yX5_requireCounting, Cond.instanceMethod yX5_requireCounting, Cond.selects RX5 yX5_requireCounting yX5_requireCounting, Cond.code yX5_requireCounting cX5_requireCounting 2 none, Cond.classLink RX5 178 "java/util/NoSuchElementException", Cond.initialized "java/util/NoSuchElementException", Cond.methodLink RL 113 yL_value, Cond.static yL_value, Cond.codeWith yL_value cL_value 5 (some .int) [(0, 7, 8, 34), (0, 7, 13, 13), (0, 7, 18, 51)], Cond.methodLink RL 54 yX5_value, Cond.instanceMethod yX5_value, Cond.selects RX5 yX5_value yX5_value, Cond.code yX5_value cX5_value 4 (some .int), Cond.methodLink RX5 127 yX3_attributeOf, Cond.instanceMethod yX3_attributeOf, Cond.selects RX3 yX3_attributeOf yX3_attributeOf, Cond.code yX3_attributeOf cX3_attributeOf 5 (some .int), Cond.methodLink RX3 58 yX3_goesBefore, Cond.instanceMethod yX3_goesBefore, Cond.selects RX3 yX3_goesBefore yX3_goesBefore]
def wsL_alike_r7 : List Cond := [Cond.code yX3_goesBefore cX3_goesBefore 5 (some .boolean), Cond.fieldLink RX3 65 "FoundRegister$Sources" "place" "[I", Cond.fieldLink RX3 70 "FoundRegister$Finds" "source" "[I", Cond.methodLink RL 120 yL_impact, Cond.static yL_impact, Cond.codeWith yL_impact cL_impact 4 (some .int) [(0, 6, 7, 34), (0, 6, 11, 13), (0, 6, 15, 51)], Cond.methodLink RL 63 yX5_impact, Cond.instanceMethod yX5_impact, Cond.selects RX5 yX5_impact yX5_impact, Cond.code yX5_impact cX5_impact 3 (some .int), Cond.fieldLink RX5 30 "FoundRegister" "links" "LFoundRegister$Links;", Cond.methodLink RX5 140 yX1_failFrom, Cond.instanceMethod yX1_failFrom, Cond.selects RX1 yX1_failFrom yX1_failFrom, Cond.initialized RX1, Cond.code yX1_failFrom cX1_failFrom 5 none, Cond.fieldLink RX1 25 "FoundRegister$Links" "failed" "[Z", Cond.methodLink RX1 29 yX1_failMore, Cond.instanceMethod yX1_failMore, Cond.selects RX1 yX1_failMore yX1_failMore, Cond.code yX1_failMore cX1_failMore 5 (some .boolean), Cond.fieldLink RX1 9 "FoundRegister$Links" "count" "I", Cond.fieldLink RX1 33 "FoundRegister$Things" "ofFind" "[I", Cond.fieldLink RX1 15 "FoundRegister$Links" "needing" "[I"]
def wsL_alike_r8 : List Cond := [Cond.fieldLink RX1 22 "FoundRegister$Links" "group" "[I", Cond.methodLink RX1 38 yX1_holds, Cond.instanceMethod yX1_holds, Cond.selects RX1 yX1_holds yX1_holds, Cond.code yX1_holds cX1_holds 5 (some .boolean), Cond.fieldLink RX1 19 "FoundRegister$Links" "needed" "[I", Cond.methodLink RX1 42 yX1_lost, Cond.instanceMethod yX1_lost, Cond.selects RX1 yX1_lost yX1_lost, Cond.code yX1_lost cX1_lost 5 (some .boolean), Cond.methodLink RX5 144 yX1_failures, Cond.instanceMethod yX1_failures, Cond.selects RX1 yX1_failures yX1_failures, Cond.code yX1_failures cX1_failures 3 (some .int), Cond.methodLink RL 129 yL_differing, Cond.static yL_differing, Cond.codeWith yL_differing cL_differing 4 (some .int) [(0, 6, 7, 34), (0, 6, 11, 13)], Cond.methodLink RL 74 yX5_differing, Cond.instanceMethod yX5_differing, Cond.selects RX5 yX5_differing yX5_differing, Cond.code yX5_differing cX5_differing 5 (some .int), Cond.fieldLink RX5 37 "FoundRegister" "wishes" "LFoundRegister$Wishes;", Cond.fieldLink RX5 151 "FoundRegister$Wishes" "count" "I", Cond.methodLink RX5 162 yX4_isMissedBy]
def wsL_alike_r9 : List Cond := [Cond.instanceMethod yX4_isMissedBy, Cond.selects RX4 yX4_isMissedBy yX4_isMissedBy, Cond.initialized RX4, Cond.code yX4_isMissedBy cX4_isMissedBy 4 (some .boolean), Cond.fieldLink RX4 15 "FoundRegister$Wishes" "mark" "[I", Cond.fieldLink RX4 19 "FoundRegister$Wishes" "markValue" "[I", Cond.fieldLink RX4 22 "FoundRegister$Wishes" "attribute" "[I", Cond.fieldLink RX4 25 "FoundRegister$Wishes" "wished" "[I", Cond.methodLink RX4 28 yX3_hasMark, Cond.instanceMethod yX3_hasMark, Cond.selects RX3 yX3_hasMark yX3_hasMark, Cond.code yX3_hasMark cX3_hasMark 5 (some .boolean), Cond.fieldLink RX3 73 "FoundRegister$Finds" "marks" "[[I", Cond.methodLink RX4 34 yX3_attributeOf]
def wsL_alike : List Cond := .code yL_alike cL_alike 7 (some .boolean) :: ((wsL_alike_r1 ++ (wsL_alike_r2 ++ (wsL_alike_r3 ++ (wsL_alike_r4 ++ (wsL_alike_r5 ++ (wsL_alike_r6 ++ (wsL_alike_r7 ++ (wsL_alike_r8 ++ wsL_alike_r9)))))))) ++ wsX50 ++ wsX00 ++ wsX30 ++ wsX20 ++ wsX10 ++ wsX40 ++ (vx_atS RX5 173 "java/lang/IllegalArgumentException" ["java/lang/RuntimeException", "java/lang/Exception"]).filter goodWord ++ (vx_atS RX5 161 "java/lang/IndexOutOfBoundsException" ["java/lang/RuntimeException", "java/lang/Exception"]).filter goodWord ++ (gNsAt RX5 182).filter goodWord)
def wsL_holds_r1 : List Cond := [Cond.constant RL 53 (-2000000004), Cond.methodLink RL 110 yL_thing, Cond.static yL_thing, Cond.initialized RL, Cond.codeWith yL_thing cL_thing 4 (some .int) [(0, 6, 7, 34), (0, 6, 11, 13), (0, 6, 15, 51)], Cond.classLink RL 34 "java/lang/IndexOutOfBoundsException", Cond.classLink RL 13 "java/lang/IllegalArgumentException", Cond.classLink RL 51 "java/util/NoSuchElementException", Cond.constant RL 36 (-2000000001), Cond.constant RL 15 (-2000000002), Cond.methodLink RL 48 yX5_thingOf, Cond.instanceMethod yX5_thingOf, Cond.selects RX5 yX5_thingOf yX5_thingOf, Cond.initialized RX5, Cond.code yX5_thingOf cX5_thingOf 3 (some .int), Cond.fieldLink RX5 46 "FoundRegister" "ofDay" "LFoundRegister$Things;", Cond.fieldLink RX5 121 "FoundRegister$Things" "ofFind" "[I", Cond.methodLink RX5 88 yX5_requireFind, Cond.instanceMethod yX5_requireFind, Cond.selects RX5 yX5_requireFind yX5_requireFind, Cond.code yX5_requireFind cX5_requireFind 2 none, Cond.classLink RX5 157 "java/lang/IndexOutOfBoundsException", Cond.initialized "java/lang/IndexOutOfBoundsException", Cond.fieldLink RX5 23 "FoundRegister" "finds" "LFoundRegister$Finds;"]
def wsL_holds_r2 : List Cond := [Cond.fieldLink RX5 72 "FoundRegister$Finds" "count" "I", Cond.methodLink RX5 104 yX5_requireDay, Cond.static yX5_requireDay, Cond.code yX5_requireDay cX5_requireDay 1 none, Cond.methodLink RX5 53 yX5_requireRange, Cond.static yX5_requireRange, Cond.code yX5_requireRange cX5_requireRange 3 none, Cond.classLink RX5 169 "java/lang/IllegalArgumentException", Cond.initialized "java/lang/IllegalArgumentException", Cond.methodLink RX5 111 yX3_sortFor, Cond.instanceMethod yX3_sortFor, Cond.selects RX3 yX3_sortFor yX3_sortFor, Cond.initialized RX3, Cond.code yX3_sortFor cX3_sortFor 3 none, Cond.fieldLink RX3 15 "FoundRegister$Things" "finds" "LFoundRegister$Finds;", Cond.fieldLink RX3 23 "FoundRegister$Finds" "count" "I", Cond.fieldLink RX3 9 "FoundRegister$Things" "ofFind" "[I", Cond.fieldLink RX3 19 "FoundRegister$Things" "sources" "LFoundRegister$Sources;", Cond.methodLink RX3 29 yX0_standsOn, Cond.instanceMethod yX0_standsOn, Cond.selects RX0 yX0_standsOn yX0_standsOn, Cond.initialized RX0, Cond.code yX0_standsOn cX0_standsOn 4 (some .boolean), Cond.fieldLink RX0 22 "FoundRegister$Finds" "struck" "[Z"]
def wsL_holds_r3 : List Cond := [Cond.fieldLink RX0 19 "FoundRegister$Finds" "cameOn" "[I", Cond.fieldLink RX0 37 "FoundRegister$Sources" "term" "[I", Cond.fieldLink RX0 15 "FoundRegister$Finds" "source" "[I", Cond.methodLink RX3 33 yX3_joinToEarlier, Cond.instanceMethod yX3_joinToEarlier, Cond.selects RX3 yX3_joinToEarlier yX3_joinToEarlier, Cond.code yX3_joinToEarlier cX3_joinToEarlier 3 none, Cond.methodLink RX3 37 yX0_joined, Cond.instanceMethod yX0_joined, Cond.selects RX0 yX0_joined yX0_joined, Cond.code yX0_joined cX0_joined 3 (some .boolean), Cond.fieldLink RX0 34 "FoundRegister$Finds" "told" "[[I", Cond.methodLink RX0 42 yX0_knowsSerial, Cond.instanceMethod yX0_knowsSerial, Cond.selects RX0 yX0_knowsSerial yX0_knowsSerial, Cond.code yX0_knowsSerial cX0_knowsSerial 2 (some .boolean), Cond.fieldLink RX0 28 "FoundRegister$Finds" "marks" "[[I", Cond.methodLink RX0 46 yX0_shareMark, Cond.instanceMethod yX0_shareMark, Cond.selects RX0 yX0_shareMark yX0_shareMark, Cond.code yX0_shareMark cX0_shareMark 4 (some .boolean), Cond.methodLink RX3 41 yX3_merge, Cond.instanceMethod yX3_merge, Cond.selects RX3 yX3_merge yX3_merge]
def wsL_holds_r4 : List Cond := [Cond.code yX3_merge cX3_merge 6 none, Cond.methodLink RX3 45 Lib.Math.min.name, Cond.static Lib.Math.min.name, Cond.initialized "java/lang/Math", Cond.code Lib.Math.min.name Lib.Math.min.code 2 (some .int), Cond.methodLink RX3 51 Lib.Math.max.name, Cond.static Lib.Math.max.name, Cond.code Lib.Math.max.name Lib.Math.max.code 2 (some .int), Cond.methodLink RX5 118 yX5_requireCounting, Cond.instanceMethod yX5_requireCounting, Cond.selects RX5 yX5_requireCounting yX5_requireCounting, Cond.code yX5_requireCounting cX5_requireCounting 2 none, Cond.classLink RX5 178 "java/util/NoSuchElementException", Cond.initialized "java/util/NoSuchElementException", Cond.methodLink RL 106 yL_counts, Cond.static yL_counts, Cond.codeWith yL_counts cL_counts 4 (some .int) [(0, 14, 15, 34), (0, 14, 19, 13)], Cond.methodLink RL 41 yX5_counts, Cond.instanceMethod yX5_counts, Cond.selects RX5 yX5_counts yX5_counts, Cond.code yX5_counts cX5_counts 3 (some .boolean), Cond.fieldLink RX5 16 "FoundRegister" "sources" "LFoundRegister$Sources;", Cond.methodLink RX5 107 yX0_standsOn, Cond.methodLink RL 113 yL_value]
def wsL_holds_r5 : List Cond := [Cond.static yL_value, Cond.codeWith yL_value cL_value 5 (some .int) [(0, 7, 8, 34), (0, 7, 13, 13), (0, 7, 18, 51)], Cond.methodLink RL 54 yX5_value, Cond.instanceMethod yX5_value, Cond.selects RX5 yX5_value yX5_value, Cond.code yX5_value cX5_value 4 (some .int), Cond.methodLink RX5 124 yX5_requireAttribute, Cond.static yX5_requireAttribute, Cond.code yX5_requireAttribute cX5_requireAttribute 1 none, Cond.methodLink RX5 127 yX3_attributeOf, Cond.instanceMethod yX3_attributeOf, Cond.selects RX3 yX3_attributeOf yX3_attributeOf, Cond.code yX3_attributeOf cX3_attributeOf 5 (some .int), Cond.fieldLink RX3 61 "FoundRegister$Finds" "attributes" "[[I", Cond.methodLink RX3 54 yX3_tells, Cond.instanceMethod yX3_tells, Cond.selects RX3 yX3_tells yX3_tells, Cond.code yX3_tells cX3_tells 4 (some .boolean), Cond.methodLink RX3 58 yX3_goesBefore, Cond.instanceMethod yX3_goesBefore, Cond.selects RX3 yX3_goesBefore yX3_goesBefore, Cond.code yX3_goesBefore cX3_goesBefore 5 (some .boolean), Cond.fieldLink RX3 65 "FoundRegister$Sources" "place" "[I", Cond.fieldLink RX3 70 "FoundRegister$Finds" "source" "[I"]
def wsL_holds_r6 : List Cond := [Cond.methodLink RL 108 yL_things, Cond.static yL_things, Cond.codeWith yL_things cL_things 3 (some .int) [(0, 5, 6, 13)], Cond.methodLink RL 45 yX5_things, Cond.instanceMethod yX5_things, Cond.selects RX5 yX5_things yX5_things, Cond.code yX5_things cX5_things 4 (some .int), Cond.methodLink RX5 114 yX3_isThing, Cond.instanceMethod yX3_isThing, Cond.selects RX3 yX3_isThing yX3_isThing, Cond.code yX3_isThing cX3_isThing 2 (some .boolean), Cond.methodLink RL 115 yL_disputed, Cond.static yL_disputed, Cond.codeWith yL_disputed cL_disputed 4 (some .int) [(0, 6, 7, 13)], Cond.methodLink RL 57 yX5_disputed, Cond.instanceMethod yX5_disputed, Cond.selects RX5 yX5_disputed yX5_disputed, Cond.code yX5_disputed cX5_disputed 5 (some .int), Cond.methodLink RX5 130 yX3_hasUnlikeValues, Cond.instanceMethod yX3_hasUnlikeValues, Cond.selects RX3 yX3_hasUnlikeValues yX3_hasUnlikeValues, Cond.code yX3_hasUnlikeValues cX3_hasUnlikeValues 6 (some .boolean), Cond.methodLink RL 131 yL_changed, Cond.static yL_changed]
def wsL_holds_r7 : List Cond := [Cond.codeWith yL_changed cL_changed 5 (some .int) [(0, 7, 8, 13)], Cond.methodLink RL 77 yX5_changed, Cond.instanceMethod yX5_changed, Cond.selects RX5 yX5_changed yX5_changed, Cond.code yX5_changed cX5_changed 6 (some .int), Cond.fieldLink RX5 50 "FoundRegister" "ofOtherDay" "LFoundRegister$Things;", Cond.methodLink RX5 166 yX5_hasAnotherValue, Cond.instanceMethod yX5_hasAnotherValue, Cond.selects RX5 yX5_hasAnotherValue yX5_hasAnotherValue, Cond.code yX5_hasAnotherValue cX5_hasAnotherValue 5 (some .boolean), Cond.methodLink RL 120 yL_impact, Cond.static yL_impact, Cond.codeWith yL_impact cL_impact 4 (some .int) [(0, 6, 7, 34), (0, 6, 11, 13), (0, 6, 15, 51)], Cond.methodLink RL 63 yX5_impact, Cond.instanceMethod yX5_impact, Cond.selects RX5 yX5_impact yX5_impact, Cond.code yX5_impact cX5_impact 3 (some .int), Cond.fieldLink RX5 30 "FoundRegister" "links" "LFoundRegister$Links;", Cond.methodLink RX5 140 yX1_failFrom, Cond.instanceMethod yX1_failFrom, Cond.selects RX1 yX1_failFrom yX1_failFrom, Cond.initialized RX1, Cond.code yX1_failFrom cX1_failFrom 5 none, Cond.fieldLink RX1 25 "FoundRegister$Links" "failed" "[Z"]
def wsL_holds_r8 : List Cond := [Cond.methodLink RX1 29 yX1_failMore, Cond.instanceMethod yX1_failMore, Cond.selects RX1 yX1_failMore yX1_failMore, Cond.code yX1_failMore cX1_failMore 5 (some .boolean), Cond.fieldLink RX1 9 "FoundRegister$Links" "count" "I", Cond.fieldLink RX1 33 "FoundRegister$Things" "ofFind" "[I", Cond.fieldLink RX1 15 "FoundRegister$Links" "needing" "[I", Cond.fieldLink RX1 22 "FoundRegister$Links" "group" "[I", Cond.methodLink RX1 38 yX1_holds, Cond.instanceMethod yX1_holds, Cond.selects RX1 yX1_holds yX1_holds, Cond.code yX1_holds cX1_holds 5 (some .boolean), Cond.fieldLink RX1 19 "FoundRegister$Links" "needed" "[I", Cond.methodLink RX1 42 yX1_lost, Cond.instanceMethod yX1_lost, Cond.selects RX1 yX1_lost yX1_lost, Cond.code yX1_lost cX1_lost 5 (some .boolean), Cond.methodLink RX5 144 yX1_failures, Cond.instanceMethod yX1_failures, Cond.selects RX1 yX1_failures yX1_failures, Cond.code yX1_failures cX1_failures 3 (some .int), Cond.methodLink RL 122 yL_fails, Cond.static yL_fails, Cond.codeWith yL_fails cL_fails 5 (some .int) [(0, 15, 16, 34), (0, 15, 21, 13), (0, 15, 26, 51)]]
def wsL_holds_r9 : List Cond := [Cond.methodLink RL 66 yX5_failsWith, Cond.instanceMethod yX5_failsWith, Cond.selects RX5 yX5_failsWith yX5_failsWith, Cond.code yX5_failsWith cX5_failsWith 4 (some .boolean), Cond.fieldLink RX5 148 "FoundRegister$Links" "failed" "[Z"]
def wsL_holds : List Cond := .code yL_holds cL_holds 11 (some .boolean) :: ((wsL_holds_r1 ++ (wsL_holds_r2 ++ (wsL_holds_r3 ++ (wsL_holds_r4 ++ (wsL_holds_r5 ++ (wsL_holds_r6 ++ (wsL_holds_r7 ++ (wsL_holds_r8 ++ wsL_holds_r9)))))))) ++ wsX50 ++ wsX30 ++ wsX00 ++ wsX20 ++ wsX10 ++ (vx_atS RX5 161 "java/lang/IndexOutOfBoundsException" ["java/lang/RuntimeException", "java/lang/Exception"]).filter goodWord ++ (vx_atS RX5 173 "java/lang/IllegalArgumentException" ["java/lang/RuntimeException", "java/lang/Exception"]).filter goodWord ++ (gNsAt RX5 182).filter goodWord)
def wsL_parts_r1 : List Cond := [Cond.methodLink RL 133 yX5_today, Cond.instanceMethod yX5_today, Cond.selects RX5 yX5_today yX5_today, Cond.initialized RX5, Cond.code yX5_today cX5_today 1 (some .int), Cond.fieldLink RX5 7 "FoundRegister" "presentDay" "I", Cond.methodLink RL 108 yL_things, Cond.static yL_things, Cond.initialized RL, Cond.codeWith yL_things cL_things 3 (some .int) [(0, 5, 6, 13)], Cond.classLink RL 13 "java/lang/IllegalArgumentException", Cond.constant RL 15 (-2000000002), Cond.methodLink RL 45 yX5_things, Cond.instanceMethod yX5_things, Cond.selects RX5 yX5_things yX5_things, Cond.code yX5_things cX5_things 4 (some .int), Cond.fieldLink RX5 46 "FoundRegister" "ofDay" "LFoundRegister$Things;", Cond.fieldLink RX5 23 "FoundRegister" "finds" "LFoundRegister$Finds;", Cond.fieldLink RX5 72 "FoundRegister$Finds" "count" "I", Cond.methodLink RX5 104 yX5_requireDay, Cond.static yX5_requireDay, Cond.code yX5_requireDay cX5_requireDay 1 none, Cond.methodLink RX5 53 yX5_requireRange, Cond.static yX5_requireRange]
def wsL_parts_r2 : List Cond := [Cond.code yX5_requireRange cX5_requireRange 3 none, Cond.classLink RX5 169 "java/lang/IllegalArgumentException", Cond.initialized "java/lang/IllegalArgumentException", Cond.methodLink RX5 111 yX3_sortFor, Cond.instanceMethod yX3_sortFor, Cond.selects RX3 yX3_sortFor yX3_sortFor, Cond.initialized RX3, Cond.code yX3_sortFor cX3_sortFor 3 none, Cond.fieldLink RX3 15 "FoundRegister$Things" "finds" "LFoundRegister$Finds;", Cond.fieldLink RX3 23 "FoundRegister$Finds" "count" "I", Cond.fieldLink RX3 9 "FoundRegister$Things" "ofFind" "[I", Cond.fieldLink RX3 19 "FoundRegister$Things" "sources" "LFoundRegister$Sources;", Cond.methodLink RX3 29 yX0_standsOn, Cond.instanceMethod yX0_standsOn, Cond.selects RX0 yX0_standsOn yX0_standsOn, Cond.initialized RX0, Cond.code yX0_standsOn cX0_standsOn 4 (some .boolean), Cond.fieldLink RX0 22 "FoundRegister$Finds" "struck" "[Z", Cond.fieldLink RX0 19 "FoundRegister$Finds" "cameOn" "[I", Cond.fieldLink RX0 37 "FoundRegister$Sources" "term" "[I", Cond.fieldLink RX0 15 "FoundRegister$Finds" "source" "[I", Cond.methodLink RX3 33 yX3_joinToEarlier, Cond.instanceMethod yX3_joinToEarlier, Cond.selects RX3 yX3_joinToEarlier yX3_joinToEarlier]
def wsL_parts_r3 : List Cond := [Cond.code yX3_joinToEarlier cX3_joinToEarlier 3 none, Cond.methodLink RX3 37 yX0_joined, Cond.instanceMethod yX0_joined, Cond.selects RX0 yX0_joined yX0_joined, Cond.code yX0_joined cX0_joined 3 (some .boolean), Cond.fieldLink RX0 34 "FoundRegister$Finds" "told" "[[I", Cond.methodLink RX0 42 yX0_knowsSerial, Cond.instanceMethod yX0_knowsSerial, Cond.selects RX0 yX0_knowsSerial yX0_knowsSerial, Cond.code yX0_knowsSerial cX0_knowsSerial 2 (some .boolean), Cond.fieldLink RX0 28 "FoundRegister$Finds" "marks" "[[I", Cond.methodLink RX0 46 yX0_shareMark, Cond.instanceMethod yX0_shareMark, Cond.selects RX0 yX0_shareMark yX0_shareMark, Cond.code yX0_shareMark cX0_shareMark 4 (some .boolean), Cond.methodLink RX3 41 yX3_merge, Cond.instanceMethod yX3_merge, Cond.selects RX3 yX3_merge yX3_merge, Cond.code yX3_merge cX3_merge 6 none, Cond.methodLink RX3 45 Lib.Math.min.name, Cond.static Lib.Math.min.name, Cond.initialized "java/lang/Math", Cond.code Lib.Math.min.name Lib.Math.min.code 2 (some .int), Cond.methodLink RX3 51 Lib.Math.max.name]
def wsL_parts_r4 : List Cond := [Cond.static Lib.Math.max.name, Cond.code Lib.Math.max.name Lib.Math.max.code 2 (some .int), Cond.methodLink RX5 114 yX3_isThing, Cond.instanceMethod yX3_isThing, Cond.selects RX3 yX3_isThing yX3_isThing, Cond.code yX3_isThing cX3_isThing 2 (some .boolean), Cond.methodLink RL 102 yL_tells, Cond.static yL_tells, Cond.codeWith yL_tells cL_tells 5 (some .int) [(0, 7, 8, 34), (0, 7, 13, 13)], Cond.classLink RL 34 "java/lang/IndexOutOfBoundsException", Cond.constant RL 36 (-2000000001), Cond.methodLink RL 37 yX5_tell, Cond.instanceMethod yX5_tell, Cond.selects RX5 yX5_tell yX5_tell, Cond.code yX5_tell cX5_tell 5 (some .int), Cond.fieldLink RX5 100 "FoundRegister$Finds" "told" "[[I", Cond.methodLink RX5 88 yX5_requireFind, Cond.instanceMethod yX5_requireFind, Cond.selects RX5 yX5_requireFind yX5_requireFind, Cond.code yX5_requireFind cX5_requireFind 2 none, Cond.classLink RX5 157 "java/lang/IndexOutOfBoundsException", Cond.initialized "java/lang/IndexOutOfBoundsException", Cond.methodLink RX5 96 yX5_requireUnlike, Cond.static yX5_requireUnlike]
def wsL_parts_r5 : List Cond := [Cond.code yX5_requireUnlike cX5_requireUnlike 2 none, Cond.methodLink RL 106 yL_counts, Cond.static yL_counts, Cond.codeWith yL_counts cL_counts 4 (some .int) [(0, 14, 15, 34), (0, 14, 19, 13)], Cond.methodLink RL 41 yX5_counts, Cond.instanceMethod yX5_counts, Cond.selects RX5 yX5_counts yX5_counts, Cond.code yX5_counts cX5_counts 3 (some .boolean), Cond.fieldLink RX5 16 "FoundRegister" "sources" "LFoundRegister$Sources;", Cond.methodLink RX5 107 yX0_standsOn, Cond.methodLink RL 110 yL_thing, Cond.static yL_thing, Cond.codeWith yL_thing cL_thing 4 (some .int) [(0, 6, 7, 34), (0, 6, 11, 13), (0, 6, 15, 51)], Cond.classLink RL 51 "java/util/NoSuchElementException", Cond.constant RL 53 (-2000000004), Cond.methodLink RL 48 yX5_thingOf, Cond.instanceMethod yX5_thingOf, Cond.selects RX5 yX5_thingOf yX5_thingOf, Cond.code yX5_thingOf cX5_thingOf 3 (some .int), Cond.fieldLink RX5 121 "FoundRegister$Things" "ofFind" "[I", Cond.methodLink RX5 118 yX5_requireCounting, Cond.instanceMethod yX5_requireCounting, Cond.selects RX5 yX5_requireCounting yX5_requireCounting, Cond.code yX5_requireCounting cX5_requireCounting 2 none]
def wsL_parts_r6 : List Cond := [Cond.classLink RX5 178 "java/util/NoSuchElementException", Cond.initialized "java/util/NoSuchElementException", Cond.methodLink RL 82 yL_passes, Cond.static yL_passes, Cond.codeWith yL_passes cL_passes 3 (some .int) [(0, 5, 6, 13), (0, 5, 10, 16)], Cond.classLink RL 16 "java/lang/IllegalStateException", Cond.constant RL 18 (-2000000003), Cond.methodLink RL 7 yX5_pass, Cond.instanceMethod yX5_pass, Cond.selects RX5 yX5_pass yX5_pass, Cond.code yX5_pass cX5_pass 2 (some .int), Cond.classLink RX5 57 "java/lang/IllegalStateException", Cond.initialized "java/lang/IllegalStateException", Cond.methodLink RL 95 yL_finds, Cond.static yL_finds, Cond.codeWith yL_finds cL_finds 8 (some .int) [(0, 13, 14, 13), (0, 13, 19, 16)], Cond.methodLink RL 26 yX5_find, Cond.instanceMethod yX5_find, Cond.selects RX5 yX5_find yX5_find, Cond.code yX5_find cX5_find 8 (some .int), Cond.methodLink RX5 77 yX0_take, Cond.instanceMethod yX0_take, Cond.selects RX0 yX0_take yX0_take, Cond.code yX0_take cX0_take 4 (some .int)]
def wsL_parts_r7 : List Cond := [Cond.fieldLink RX0 9 "FoundRegister$Finds" "count" "I", Cond.methodLink RX5 81 yX0_putMarks, Cond.instanceMethod yX0_putMarks, Cond.selects RX0 yX0_putMarks yX0_putMarks, Cond.code yX0_putMarks cX0_putMarks 5 none, Cond.methodLink RX5 85 yX0_putAttributes, Cond.instanceMethod yX0_putAttributes, Cond.selects RX0 yX0_putAttributes yX0_putAttributes, Cond.code yX0_putAttributes cX0_putAttributes 4 none, Cond.fieldLink RX0 31 "FoundRegister$Finds" "attributes" "[[I"]
def wsL_parts : List Cond := .code yL_parts cL_parts 13 (some .boolean) :: ((wsL_parts_r1 ++ (wsL_parts_r2 ++ (wsL_parts_r3 ++ (wsL_parts_r4 ++ (wsL_parts_r5 ++ (wsL_parts_r6 ++ wsL_parts_r7)))))) ++ wsX50 ++ wsX00 ++ wsX30 ++ wsX20 ++ (vx_atS RX5 173 "java/lang/IllegalArgumentException" ["java/lang/RuntimeException", "java/lang/Exception"]).filter goodWord ++ (vx_atS RX5 161 "java/lang/IndexOutOfBoundsException" ["java/lang/RuntimeException", "java/lang/Exception"]).filter goodWord ++ (gNsAt RX5 182).filter goodWord ++ (vx_atS RX5 61 "java/lang/IllegalStateException" ["java/lang/RuntimeException", "java/lang/Exception"]).filter goodWord)
def wsL_law0_r1 : List Cond := [Cond.classLink RL 8 RX5, Cond.instantiable RX5 7, Cond.initialized RX5, Cond.arrayClass .int, Cond.methodLink RL 137 yX5_init, Cond.instanceMethod yX5_init, Cond.code yX5_init cX5_init 1 none, Cond.methodLink RX5 1 objectInit, Cond.instanceMethod objectInit, Cond.code objectInit ⟨#[0xb1]⟩ 1 none, Cond.fieldLink RX5 7 "FoundRegister" "presentDay" "I", Cond.classLink RX5 13 RX2, Cond.instantiable RX2 2, Cond.initialized RX2, Cond.fieldLink RX5 16 "FoundRegister" "sources" "LFoundRegister$Sources;", Cond.classLink RX5 20 RX0, Cond.instantiable RX0 7, Cond.initialized RX0, Cond.fieldLink RX5 23 "FoundRegister" "finds" "LFoundRegister$Finds;", Cond.classLink RX5 27 RX1, Cond.instantiable RX1 5, Cond.initialized RX1, Cond.fieldLink RX5 30 "FoundRegister" "links" "LFoundRegister$Links;", Cond.classLink RX5 34 RX4]
def wsL_law0_r2 : List Cond := [Cond.instantiable RX4 5, Cond.initialized RX4, Cond.fieldLink RX5 37 "FoundRegister" "wishes" "LFoundRegister$Wishes;", Cond.classLink RX5 41 RX3, Cond.instantiable RX3 3, Cond.initialized RX3, Cond.fieldLink RX5 46 "FoundRegister" "ofDay" "LFoundRegister$Things;", Cond.fieldLink RX5 50 "FoundRegister" "ofOtherDay" "LFoundRegister$Things;", Cond.methodLink RX5 15 yX2_init, Cond.instanceMethod yX2_init, Cond.code yX2_init cX2_init 2 none, Cond.methodLink RX2 3 objectInit, Cond.fieldLink RX2 9 "FoundRegister$Sources" "term" "[I", Cond.fieldLink RX2 15 "FoundRegister$Sources" "place" "[I", Cond.instanceMethod yX0_init, Cond.code yX0_init cX0_init 1 none, Cond.methodLink RX0 3 objectInit, Cond.fieldLink RX0 9 "FoundRegister$Finds" "count" "I", Cond.fieldLink RX0 15 "FoundRegister$Finds" "source" "[I", Cond.fieldLink RX0 19 "FoundRegister$Finds" "cameOn" "[I", Cond.arrayClass .boolean, Cond.fieldLink RX0 22 "FoundRegister$Finds" "struck" "[Z", Cond.classLink RX0 26 "[[I", Cond.fieldLink RX0 28 "FoundRegister$Finds" "marks" "[[I"]
def wsL_law0_r3 : List Cond := [Cond.fieldLink RX0 31 "FoundRegister$Finds" "attributes" "[[I", Cond.fieldLink RX0 34 "FoundRegister$Finds" "told" "[[I", Cond.instanceMethod yX1_init, Cond.code yX1_init cX1_init 1 none, Cond.methodLink RX1 3 objectInit, Cond.fieldLink RX1 9 "FoundRegister$Links" "count" "I", Cond.fieldLink RX1 15 "FoundRegister$Links" "needing" "[I", Cond.fieldLink RX1 19 "FoundRegister$Links" "needed" "[I", Cond.fieldLink RX1 22 "FoundRegister$Links" "group" "[I", Cond.fieldLink RX1 25 "FoundRegister$Links" "failed" "[Z", Cond.instanceMethod yX4_init, Cond.code yX4_init cX4_init 1 none, Cond.methodLink RX4 3 objectInit, Cond.fieldLink RX4 9 "FoundRegister$Wishes" "count" "I", Cond.fieldLink RX4 15 "FoundRegister$Wishes" "mark" "[I", Cond.fieldLink RX4 19 "FoundRegister$Wishes" "markValue" "[I", Cond.fieldLink RX4 22 "FoundRegister$Wishes" "attribute" "[I", Cond.fieldLink RX4 25 "FoundRegister$Wishes" "wished" "[I", Cond.methodLink RX5 43 yX3_init, Cond.instanceMethod yX3_init, Cond.code yX3_init cX3_init 3 none, Cond.methodLink RX3 3 objectInit, Cond.fieldLink RX3 9 "FoundRegister$Things" "ofFind" "[I", Cond.fieldLink RX3 15 "FoundRegister$Things" "finds" "LFoundRegister$Finds;"]
def wsL_law0_r4 : List Cond := [Cond.fieldLink RX3 19 "FoundRegister$Things" "sources" "LFoundRegister$Sources;", Cond.methodLink RL 138 yL_drawn, Cond.static yL_drawn, Cond.initialized RL, Cond.code yL_drawn cL_drawn 2 (some .int), Cond.constant RL 80 (15524651), Cond.constant RL 81 (2147483647), Cond.methodLink RL 142 yL_act, Cond.static yL_act, Cond.code yL_act cL_act 6 (some .int), Cond.methodLink RL 95 yL_finds, Cond.static yL_finds, Cond.codeWith yL_finds cL_finds 8 (some .int) [(0, 13, 14, 13), (0, 13, 19, 16)], Cond.classLink RL 13 "java/lang/IllegalArgumentException", Cond.classLink RL 16 "java/lang/IllegalStateException", Cond.constant RL 15 (-2000000002), Cond.constant RL 18 (-2000000003), Cond.methodLink RL 26 yX5_find, Cond.instanceMethod yX5_find, Cond.selects RX5 yX5_find yX5_find, Cond.code yX5_find cX5_find 8 (some .int), Cond.classLink RX5 57 "java/lang/IllegalStateException", Cond.initialized "java/lang/IllegalStateException", Cond.fieldLink RX5 72 "FoundRegister$Finds" "count" "I"]
def wsL_law0_r5 : List Cond := [Cond.methodLink RX5 53 yX5_requireRange, Cond.static yX5_requireRange, Cond.code yX5_requireRange cX5_requireRange 3 none, Cond.classLink RX5 169 "java/lang/IllegalArgumentException", Cond.initialized "java/lang/IllegalArgumentException", Cond.methodLink RX5 77 yX0_take, Cond.instanceMethod yX0_take, Cond.selects RX0 yX0_take yX0_take, Cond.code yX0_take cX0_take 4 (some .int), Cond.methodLink RX5 81 yX0_putMarks, Cond.instanceMethod yX0_putMarks, Cond.selects RX0 yX0_putMarks yX0_putMarks, Cond.code yX0_putMarks cX0_putMarks 5 none, Cond.methodLink RX5 85 yX0_putAttributes, Cond.instanceMethod yX0_putAttributes, Cond.selects RX0 yX0_putAttributes yX0_putAttributes, Cond.code yX0_putAttributes cX0_putAttributes 4 none, Cond.methodLink RL 82 yL_passes, Cond.static yL_passes, Cond.codeWith yL_passes cL_passes 3 (some .int) [(0, 5, 6, 13), (0, 5, 10, 16)], Cond.methodLink RL 7 yX5_pass, Cond.instanceMethod yX5_pass, Cond.selects RX5 yX5_pass yX5_pass, Cond.code yX5_pass cX5_pass 2 (some .int)]
def wsL_law0_r6 : List Cond := [Cond.methodLink RL 88 yL_terms, Cond.static yL_terms, Cond.codeWith yL_terms cL_terms 4 (some .int) [(0, 6, 7, 13)], Cond.methodLink RL 19 yX5_setTerm, Cond.instanceMethod yX5_setTerm, Cond.selects RX5 yX5_setTerm yX5_setTerm, Cond.code yX5_setTerm cX5_setTerm 4 (some .int), Cond.fieldLink RX5 64 "FoundRegister$Sources" "term" "[I", Cond.methodLink RL 92 yL_firsts, Cond.static yL_firsts, Cond.codeWith yL_firsts cL_firsts 3 (some .int) [(0, 5, 6, 13)], Cond.methodLink RL 23 yX5_putFirst, Cond.instanceMethod yX5_putFirst, Cond.selects RX5 yX5_putFirst yX5_putFirst, Cond.code yX5_putFirst cX5_putFirst 2 (some .int), Cond.methodLink RX5 68 yX2_moveToFront, Cond.instanceMethod yX2_moveToFront, Cond.selects RX2 yX2_moveToFront yX2_moveToFront, Cond.code yX2_moveToFront cX2_moveToFront 4 (some .int), Cond.methodLink RL 99 yL_strikes, Cond.static yL_strikes, Cond.codeWith yL_strikes cL_strikes 3 (some .int) [(0, 13, 14, 34)], Cond.classLink RL 34 "java/lang/IndexOutOfBoundsException", Cond.constant RL 36 (-2000000001)]
def wsL_law0_r7 : List Cond := [Cond.methodLink RL 30 yX5_strike, Cond.instanceMethod yX5_strike, Cond.selects RX5 yX5_strike yX5_strike, Cond.code yX5_strike cX5_strike 3 (some .boolean), Cond.fieldLink RX5 92 "FoundRegister$Finds" "struck" "[Z", Cond.methodLink RX5 88 yX5_requireFind, Cond.instanceMethod yX5_requireFind, Cond.selects RX5 yX5_requireFind yX5_requireFind, Cond.code yX5_requireFind cX5_requireFind 2 none, Cond.classLink RX5 157 "java/lang/IndexOutOfBoundsException", Cond.initialized "java/lang/IndexOutOfBoundsException", Cond.methodLink RL 133 yX5_today, Cond.instanceMethod yX5_today, Cond.selects RX5 yX5_today yX5_today, Cond.code yX5_today cX5_today 1 (some .int), Cond.methodLink RL 102 yL_tells, Cond.static yL_tells, Cond.codeWith yL_tells cL_tells 5 (some .int) [(0, 7, 8, 34), (0, 7, 13, 13)], Cond.methodLink RL 37 yX5_tell, Cond.instanceMethod yX5_tell, Cond.selects RX5 yX5_tell yX5_tell, Cond.code yX5_tell cX5_tell 5 (some .int), Cond.fieldLink RX5 100 "FoundRegister$Finds" "told" "[[I", Cond.methodLink RX5 96 yX5_requireUnlike]
def wsL_law0_r8 : List Cond := [Cond.static yX5_requireUnlike, Cond.code yX5_requireUnlike cX5_requireUnlike 2 none, Cond.methodLink RL 117 yL_links, Cond.static yL_links, Cond.codeWith yL_links cL_links 5 (some .int) [(0, 7, 8, 34), (0, 7, 13, 13), (0, 7, 18, 16)], Cond.methodLink RL 60 yX5_link, Cond.instanceMethod yX5_link, Cond.selects RX5 yX5_link yX5_link, Cond.code yX5_link cX5_link 4 (some .int), Cond.fieldLink RX5 134 "FoundRegister$Links" "count" "I", Cond.methodLink RX5 137 yX1_add, Cond.instanceMethod yX1_add, Cond.selects RX1 yX1_add yX1_add, Cond.code yX1_add cX1_add 4 none, Cond.methodLink RL 125 yL_wishes, Cond.static yL_wishes, Cond.codeWith yL_wishes cL_wishes 6 (some .int) [(0, 9, 10, 13), (0, 9, 15, 16)], Cond.methodLink RL 70 yX5_wish, Cond.instanceMethod yX5_wish, Cond.selects RX5 yX5_wish yX5_wish, Cond.code yX5_wish cX5_wish 5 (some .int), Cond.fieldLink RX5 151 "FoundRegister$Wishes" "count" "I", Cond.methodLink RX5 124 yX5_requireAttribute, Cond.static yX5_requireAttribute]
def wsL_law0_r9 : List Cond := [Cond.code yX5_requireAttribute cX5_requireAttribute 1 none, Cond.methodLink RX5 154 yX4_add, Cond.instanceMethod yX4_add, Cond.selects RX4 yX4_add yX4_add, Cond.code yX4_add cX4_add 6 (some .int), Cond.methodLink RL 146 yL_refuses, Cond.static yL_refuses, Cond.code yL_refuses cL_refuses 10 (some .boolean), Cond.constant RL 53 (-2000000004), Cond.methodLink RL 106 yL_counts, Cond.static yL_counts, Cond.codeWith yL_counts cL_counts 4 (some .int) [(0, 14, 15, 34), (0, 14, 19, 13)], Cond.methodLink RL 41 yX5_counts, Cond.instanceMethod yX5_counts, Cond.selects RX5 yX5_counts yX5_counts, Cond.code yX5_counts cX5_counts 3 (some .boolean), Cond.methodLink RX5 104 yX5_requireDay, Cond.static yX5_requireDay, Cond.code yX5_requireDay cX5_requireDay 1 none, Cond.methodLink RX5 107 yX0_standsOn, Cond.instanceMethod yX0_standsOn, Cond.selects RX0 yX0_standsOn yX0_standsOn, Cond.code yX0_standsOn cX0_standsOn 4 (some .boolean), Cond.fieldLink RX0 37 "FoundRegister$Sources" "term" "[I"]
def wsL_law0_r10 : List Cond := [Cond.methodLink RL 108 yL_things, Cond.static yL_things, Cond.codeWith yL_things cL_things 3 (some .int) [(0, 5, 6, 13)], Cond.methodLink RL 45 yX5_things, Cond.instanceMethod yX5_things, Cond.selects RX5 yX5_things yX5_things, Cond.code yX5_things cX5_things 4 (some .int), Cond.methodLink RX5 111 yX3_sortFor, Cond.instanceMethod yX3_sortFor, Cond.selects RX3 yX3_sortFor yX3_sortFor, Cond.code yX3_sortFor cX3_sortFor 3 none, Cond.fieldLink RX3 23 "FoundRegister$Finds" "count" "I", Cond.methodLink RX3 29 yX0_standsOn, Cond.methodLink RX3 33 yX3_joinToEarlier, Cond.instanceMethod yX3_joinToEarlier, Cond.selects RX3 yX3_joinToEarlier yX3_joinToEarlier, Cond.code yX3_joinToEarlier cX3_joinToEarlier 3 none, Cond.methodLink RX3 37 yX0_joined, Cond.instanceMethod yX0_joined, Cond.selects RX0 yX0_joined yX0_joined, Cond.code yX0_joined cX0_joined 3 (some .boolean), Cond.methodLink RX0 42 yX0_knowsSerial, Cond.instanceMethod yX0_knowsSerial, Cond.selects RX0 yX0_knowsSerial yX0_knowsSerial]
def wsL_law0_r11 : List Cond := [Cond.code yX0_knowsSerial cX0_knowsSerial 2 (some .boolean), Cond.methodLink RX0 46 yX0_shareMark, Cond.instanceMethod yX0_shareMark, Cond.selects RX0 yX0_shareMark yX0_shareMark, Cond.code yX0_shareMark cX0_shareMark 4 (some .boolean), Cond.methodLink RX3 41 yX3_merge, Cond.instanceMethod yX3_merge, Cond.selects RX3 yX3_merge yX3_merge, Cond.code yX3_merge cX3_merge 6 none, Cond.methodLink RX3 45 Lib.Math.min.name, Cond.static Lib.Math.min.name, Cond.initialized "java/lang/Math", Cond.code Lib.Math.min.name Lib.Math.min.code 2 (some .int), Cond.methodLink RX3 51 Lib.Math.max.name, Cond.static Lib.Math.max.name, Cond.code Lib.Math.max.name Lib.Math.max.code 2 (some .int), Cond.methodLink RX5 114 yX3_isThing, Cond.instanceMethod yX3_isThing, Cond.selects RX3 yX3_isThing yX3_isThing, Cond.code yX3_isThing cX3_isThing 2 (some .boolean), Cond.methodLink RL 110 yL_thing, Cond.static yL_thing, Cond.codeWith yL_thing cL_thing 4 (some .int) [(0, 6, 7, 34), (0, 6, 11, 13), (0, 6, 15, 51)], Cond.classLink RL 51 "java/util/NoSuchElementException"]
def wsL_law0_r12 : List Cond := [Cond.methodLink RL 48 yX5_thingOf, Cond.instanceMethod yX5_thingOf, Cond.selects RX5 yX5_thingOf yX5_thingOf, Cond.code yX5_thingOf cX5_thingOf 3 (some .int), Cond.fieldLink RX5 121 "FoundRegister$Things" "ofFind" "[I", Cond.methodLink RX5 118 yX5_requireCounting, Cond.instanceMethod yX5_requireCounting, Cond.selects RX5 yX5_requireCounting yX5_requireCounting, Cond.code yX5_requireCounting cX5_requireCounting 2 none, Cond.classLink RX5 178 "java/util/NoSuchElementException", Cond.initialized "java/util/NoSuchElementException", Cond.methodLink RL 113 yL_value, Cond.static yL_value, Cond.codeWith yL_value cL_value 5 (some .int) [(0, 7, 8, 34), (0, 7, 13, 13), (0, 7, 18, 51)], Cond.methodLink RL 54 yX5_value, Cond.instanceMethod yX5_value, Cond.selects RX5 yX5_value yX5_value, Cond.code yX5_value cX5_value 4 (some .int), Cond.methodLink RX5 127 yX3_attributeOf, Cond.instanceMethod yX3_attributeOf, Cond.selects RX3 yX3_attributeOf yX3_attributeOf, Cond.code yX3_attributeOf cX3_attributeOf 5 (some .int), Cond.fieldLink RX3 61 "FoundRegister$Finds" "attributes" "[[I", Cond.methodLink RX3 54 yX3_tells]
def wsL_law0_r13 : List Cond := [Cond.instanceMethod yX3_tells, Cond.selects RX3 yX3_tells yX3_tells, Cond.code yX3_tells cX3_tells 4 (some .boolean), Cond.methodLink RX3 58 yX3_goesBefore, Cond.instanceMethod yX3_goesBefore, Cond.selects RX3 yX3_goesBefore yX3_goesBefore, Cond.code yX3_goesBefore cX3_goesBefore 5 (some .boolean), Cond.fieldLink RX3 65 "FoundRegister$Sources" "place" "[I", Cond.fieldLink RX3 70 "FoundRegister$Finds" "source" "[I", Cond.methodLink RL 115 yL_disputed, Cond.static yL_disputed, Cond.codeWith yL_disputed cL_disputed 4 (some .int) [(0, 6, 7, 13)], Cond.methodLink RL 57 yX5_disputed, Cond.instanceMethod yX5_disputed, Cond.selects RX5 yX5_disputed yX5_disputed, Cond.code yX5_disputed cX5_disputed 5 (some .int), Cond.methodLink RX5 130 yX3_hasUnlikeValues, Cond.instanceMethod yX3_hasUnlikeValues, Cond.selects RX3 yX3_hasUnlikeValues yX3_hasUnlikeValues, Cond.code yX3_hasUnlikeValues cX3_hasUnlikeValues 6 (some .boolean), Cond.methodLink RL 120 yL_impact, Cond.static yL_impact, Cond.codeWith yL_impact cL_impact 4 (some .int) [(0, 6, 7, 34), (0, 6, 11, 13), (0, 6, 15, 51)], Cond.methodLink RL 63 yX5_impact]
def wsL_law0_r14 : List Cond := [Cond.instanceMethod yX5_impact, Cond.selects RX5 yX5_impact yX5_impact, Cond.code yX5_impact cX5_impact 3 (some .int), Cond.methodLink RX5 140 yX1_failFrom, Cond.instanceMethod yX1_failFrom, Cond.selects RX1 yX1_failFrom yX1_failFrom, Cond.code yX1_failFrom cX1_failFrom 5 none, Cond.methodLink RX1 29 yX1_failMore, Cond.instanceMethod yX1_failMore, Cond.selects RX1 yX1_failMore yX1_failMore, Cond.code yX1_failMore cX1_failMore 5 (some .boolean), Cond.fieldLink RX1 33 "FoundRegister$Things" "ofFind" "[I", Cond.methodLink RX1 38 yX1_holds, Cond.instanceMethod yX1_holds, Cond.selects RX1 yX1_holds yX1_holds, Cond.code yX1_holds cX1_holds 5 (some .boolean), Cond.methodLink RX1 42 yX1_lost, Cond.instanceMethod yX1_lost, Cond.selects RX1 yX1_lost yX1_lost, Cond.code yX1_lost cX1_lost 5 (some .boolean), Cond.methodLink RX5 144 yX1_failures, Cond.instanceMethod yX1_failures, Cond.selects RX1 yX1_failures yX1_failures, Cond.code yX1_failures cX1_failures 3 (some .int)]
def wsL_law0_r15 : List Cond := [Cond.methodLink RL 122 yL_fails, Cond.static yL_fails, Cond.codeWith yL_fails cL_fails 5 (some .int) [(0, 15, 16, 34), (0, 15, 21, 13), (0, 15, 26, 51)], Cond.methodLink RL 66 yX5_failsWith, Cond.instanceMethod yX5_failsWith, Cond.selects RX5 yX5_failsWith yX5_failsWith, Cond.code yX5_failsWith cX5_failsWith 4 (some .boolean), Cond.fieldLink RX5 148 "FoundRegister$Links" "failed" "[Z", Cond.methodLink RL 129 yL_differing, Cond.static yL_differing, Cond.codeWith yL_differing cL_differing 4 (some .int) [(0, 6, 7, 34), (0, 6, 11, 13)], Cond.methodLink RL 74 yX5_differing, Cond.instanceMethod yX5_differing, Cond.selects RX5 yX5_differing yX5_differing, Cond.code yX5_differing cX5_differing 5 (some .int), Cond.methodLink RX5 162 yX4_isMissedBy, Cond.instanceMethod yX4_isMissedBy, Cond.selects RX4 yX4_isMissedBy yX4_isMissedBy, Cond.code yX4_isMissedBy cX4_isMissedBy 4 (some .boolean), Cond.methodLink RX4 28 yX3_hasMark, Cond.instanceMethod yX3_hasMark, Cond.selects RX3 yX3_hasMark yX3_hasMark, Cond.code yX3_hasMark cX3_hasMark 5 (some .boolean), Cond.fieldLink RX3 73 "FoundRegister$Finds" "marks" "[[I"]
def wsL_law0_r16 : List Cond := [Cond.methodLink RX4 34 yX3_attributeOf, Cond.methodLink RL 131 yL_changed, Cond.static yL_changed, Cond.codeWith yL_changed cL_changed 5 (some .int) [(0, 7, 8, 13)], Cond.methodLink RL 77 yX5_changed, Cond.instanceMethod yX5_changed, Cond.selects RX5 yX5_changed yX5_changed, Cond.code yX5_changed cX5_changed 6 (some .int), Cond.methodLink RX5 166 yX5_hasAnotherValue, Cond.instanceMethod yX5_hasAnotherValue, Cond.selects RX5 yX5_hasAnotherValue yX5_hasAnotherValue, Cond.code yX5_hasAnotherValue cX5_hasAnotherValue 5 (some .boolean), Cond.methodLink RL 150 yL_alike, Cond.static yL_alike, Cond.code yL_alike cL_alike 7 (some .boolean), Cond.methodLink RL 154 yL_holds, Cond.static yL_holds, Cond.code yL_holds cL_holds 11 (some .boolean), Cond.methodLink RL 158 yL_parts, Cond.static yL_parts, Cond.code yL_parts cL_parts 13 (some .boolean)]
def wsL_law0 : List Cond := (wsL_law0_r1 ++ (wsL_law0_r2 ++ (wsL_law0_r3 ++ (wsL_law0_r4 ++ (wsL_law0_r5 ++ (wsL_law0_r6 ++ (wsL_law0_r7 ++ (wsL_law0_r8 ++ (wsL_law0_r9 ++ (wsL_law0_r10 ++ (wsL_law0_r11 ++ (wsL_law0_r12 ++ (wsL_law0_r13 ++ (wsL_law0_r14 ++ (wsL_law0_r15 ++ wsL_law0_r16))))))))))))))) ++ wsX50 ++ wsX20 ++ wsX00 ++ wsX10 ++ wsX40 ++ wsX30 ++ ([] : List Cond)
def wsL_law : List Cond := wsL_law0 ++ (vx_atS RX5 61 "java/lang/IllegalStateException" ["java/lang/RuntimeException", "java/lang/Exception"]).filter goodWord ++ (vx_atS RX5 173 "java/lang/IllegalArgumentException" ["java/lang/RuntimeException", "java/lang/Exception"]).filter goodWord ++ (vx_atS RX5 161 "java/lang/IndexOutOfBoundsException" ["java/lang/RuntimeException", "java/lang/Exception"]).filter goodWord ++ (gNsAt RX5 182).filter goodWord
end
section
theorem li_1 : ∀ w ∈ wsL_law0_r1, w ∈ lw_tbl := by decide +kernel
theorem li_2 : ∀ w ∈ wsL_law0_r2, w ∈ lw_tbl := by decide +kernel
theorem li_3 : ∀ w ∈ wsL_law0_r3, w ∈ lw_tbl := by decide +kernel
theorem li_4 : ∀ w ∈ wsL_law0_r4, w ∈ lw_tbl := by decide +kernel
end
section
theorem li_5 : ∀ w ∈ wsL_law0_r5, w ∈ lw_tbl := by decide +kernel
theorem li_6 : ∀ w ∈ wsL_law0_r6, w ∈ lw_tbl := by decide +kernel
theorem li_7 : ∀ w ∈ wsL_law0_r7, w ∈ lw_tbl := by decide +kernel
theorem li_8 : ∀ w ∈ wsL_law0_r8, w ∈ lw_tbl := by decide +kernel
end
section
theorem li_9a : ∀ w ∈ ([Cond.code yX5_requireAttribute cX5_requireAttribute 1 none, Cond.methodLink RX5 154 yX4_add, Cond.instanceMethod yX4_add, Cond.selects RX4 yX4_add yX4_add, Cond.code yX4_add cX4_add 6 (some .int), Cond.methodLink RL 146 yL_refuses, Cond.static yL_refuses] : List Cond), w ∈ lw_tbl := by decide +kernel
theorem li_9b : ∀ w ∈ ([Cond.constant RL 53 (-2000000004), Cond.methodLink RL 106 yL_counts, Cond.static yL_counts, Cond.codeWith yL_counts cL_counts 4 (some .int) [(0, 14, 15, 34), (0, 14, 19, 13)], Cond.methodLink RL 41 yX5_counts, Cond.instanceMethod yX5_counts, Cond.selects RX5 yX5_counts yX5_counts, Cond.code yX5_counts cX5_counts 3 (some .boolean), Cond.methodLink RX5 104 yX5_requireDay, Cond.static yX5_requireDay, Cond.code yX5_requireDay cX5_requireDay 1 none, Cond.methodLink RX5 107 yX0_standsOn, Cond.instanceMethod yX0_standsOn, Cond.selects RX0 yX0_standsOn yX0_standsOn, Cond.code yX0_standsOn cX0_standsOn 4 (some .boolean), Cond.fieldLink RX0 37 "FoundRegister$Sources" "term" "[I"] : List Cond), w ∈ lw_tbl := by decide +kernel
theorem li_9c : Cond.code yL_refuses cL_refuses 10 (some .boolean) ∈ lw_tbl := List.mem_append_right _ (List.mem_of_getElem? (i := 176) rfl)
theorem li_9 : ∀ w ∈ wsL_law0_r9, w ∈ lw_tbl := (List.forall_mem_append (l₁ := [Cond.code yX5_requireAttribute cX5_requireAttribute 1 none, Cond.methodLink RX5 154 yX4_add, Cond.instanceMethod yX4_add, Cond.selects RX4 yX4_add yX4_add, Cond.code yX4_add cX4_add 6 (some .int), Cond.methodLink RL 146 yL_refuses, Cond.static yL_refuses]) (l₂ := Cond.code yL_refuses cL_refuses 10 (some .boolean) :: [Cond.constant RL 53 (-2000000004), Cond.methodLink RL 106 yL_counts, Cond.static yL_counts, Cond.codeWith yL_counts cL_counts 4 (some .int) [(0, 14, 15, 34), (0, 14, 19, 13)], Cond.methodLink RL 41 yX5_counts, Cond.instanceMethod yX5_counts, Cond.selects RX5 yX5_counts yX5_counts, Cond.code yX5_counts cX5_counts 3 (some .boolean), Cond.methodLink RX5 104 yX5_requireDay, Cond.static yX5_requireDay, Cond.code yX5_requireDay cX5_requireDay 1 none, Cond.methodLink RX5 107 yX0_standsOn, Cond.instanceMethod yX0_standsOn, Cond.selects RX0 yX0_standsOn yX0_standsOn, Cond.code yX0_standsOn cX0_standsOn 4 (some .boolean), Cond.fieldLink RX0 37 "FoundRegister$Sources" "term" "[I"])).mpr ⟨li_9a, List.forall_mem_cons.mpr ⟨li_9c, li_9b⟩⟩
theorem li_10 : ∀ w ∈ wsL_law0_r10, w ∈ lw_tbl := by decide +kernel
theorem li_11 : ∀ w ∈ wsL_law0_r11, w ∈ lw_tbl := by decide +kernel
theorem li_12 : ∀ w ∈ wsL_law0_r12, w ∈ lw_tbl := by decide +kernel
end
section
theorem li_13 : ∀ w ∈ wsL_law0_r13, w ∈ lw_tbl := by decide +kernel
theorem li_14 : ∀ w ∈ wsL_law0_r14, w ∈ lw_tbl := by decide +kernel
theorem li_15 : ∀ w ∈ wsL_law0_r15, w ∈ lw_tbl := by decide +kernel
theorem li_16 : ∀ w ∈ wsL_law0_r16, w ∈ lw_tbl := by decide +kernel
end
section
theorem li_X50 : ∀ w ∈ wsX50, w ∈ lw_tbl := by decide +kernel
theorem li_X20 : ∀ w ∈ wsX20, w ∈ lw_tbl := by decide +kernel
theorem li_X00 : ∀ w ∈ wsX00, w ∈ lw_tbl := by decide +kernel
theorem li_X10 : ∀ w ∈ wsX10, w ∈ lw_tbl := by decide +kernel
end
section
theorem li_X40 : ∀ w ∈ wsX40, w ∈ lw_tbl := by decide +kernel
theorem li_X30 : ∀ w ∈ wsX30, w ∈ lw_tbl := by decide +kernel
end
section
theorem wsL_law_in0 : ∀ w ∈ wsL_law0, w ∈ lw_tbl := by
  unfold wsL_law0
  exact List.forall_mem_append.mpr ⟨List.forall_mem_append.mpr ⟨List.forall_mem_append.mpr ⟨List.forall_mem_append.mpr ⟨List.forall_mem_append.mpr ⟨List.forall_mem_append.mpr ⟨List.forall_mem_append.mpr ⟨List.forall_mem_append.mpr ⟨li_1, List.forall_mem_append.mpr ⟨li_2, List.forall_mem_append.mpr ⟨li_3, List.forall_mem_append.mpr ⟨li_4, List.forall_mem_append.mpr ⟨li_5, List.forall_mem_append.mpr ⟨li_6, List.forall_mem_append.mpr ⟨li_7, List.forall_mem_append.mpr ⟨li_8, List.forall_mem_append.mpr ⟨li_9, List.forall_mem_append.mpr ⟨li_10, List.forall_mem_append.mpr ⟨li_11, List.forall_mem_append.mpr ⟨li_12, List.forall_mem_append.mpr ⟨li_13, List.forall_mem_append.mpr ⟨li_14, List.forall_mem_append.mpr ⟨li_15, li_16⟩⟩⟩⟩⟩⟩⟩⟩⟩⟩⟩⟩⟩⟩⟩, li_X50⟩, li_X20⟩, li_X00⟩, li_X10⟩, li_X40⟩, li_X30⟩, fun _ h => absurd h List.not_mem_nil⟩
theorem wsL_law_x0 : ∀ w ∈ (vx_atS RX5 61 "java/lang/IllegalStateException" ["java/lang/RuntimeException", "java/lang/Exception"]).filter goodWord, w ∈ lw_tbl := by decide +kernel
theorem wsL_law_x1 : ∀ w ∈ (vx_atS RX5 173 "java/lang/IllegalArgumentException" ["java/lang/RuntimeException", "java/lang/Exception"]).filter goodWord, w ∈ lw_tbl := by decide +kernel
theorem wsL_law_x2 : ∀ w ∈ (vx_atS RX5 161 "java/lang/IndexOutOfBoundsException" ["java/lang/RuntimeException", "java/lang/Exception"]).filter goodWord, w ∈ lw_tbl := by decide +kernel
theorem wsL_law_x3 : ∀ w ∈ (gNsAt RX5 182).filter goodWord, w ∈ lw_tbl := by decide +kernel
theorem wsL_law_in : ∀ w ∈ wsL_law, w ∈ lw_tbl := fun w h => (List.mem_append.mp h).elim (fun h => (List.mem_append.mp h).elim (fun h => (List.mem_append.mp h).elim (fun h => (List.mem_append.mp h).elim (fun h => wsL_law_in0 w h) (fun h => wsL_law_x0 w h)) (fun h => wsL_law_x1 w h)) (fun h => wsL_law_x2 w h)) (fun h => wsL_law_x3 w h)
theorem inlX0 : ∀ w ∈ wsX00, w ∈ wsL_law := fun _ h => List.mem_append_left _ (List.mem_append_left _ (List.mem_append_left _ (List.mem_append_left _ (List.mem_append_left _ (List.mem_append_left _ (List.mem_append_left _ (List.mem_append_left _ (List.mem_append_right _ h))))))))
theorem inX0 : ∀ w ∈ wsX00, w ∈ lw_tbl := fun w h => wsL_law_in w (inlX0 w h)
theorem inlX1 : ∀ w ∈ wsX10, w ∈ wsL_law := fun _ h => List.mem_append_left _ (List.mem_append_left _ (List.mem_append_left _ (List.mem_append_left _ (List.mem_append_left _ (List.mem_append_left _ (List.mem_append_left _ (List.mem_append_right _ h)))))))
theorem inX1 : ∀ w ∈ wsX10, w ∈ lw_tbl := fun w h => wsL_law_in w (inlX1 w h)
theorem inlX2 : ∀ w ∈ wsX20, w ∈ wsL_law := fun _ h => List.mem_append_left _ (List.mem_append_left _ (List.mem_append_left _ (List.mem_append_left _ (List.mem_append_left _ (List.mem_append_left _ (List.mem_append_left _ (List.mem_append_left _ (List.mem_append_left _ (List.mem_append_right _ h)))))))))
theorem inX2 : ∀ w ∈ wsX20, w ∈ lw_tbl := fun w h => wsL_law_in w (inlX2 w h)
theorem inlX3 : ∀ w ∈ wsX30, w ∈ wsL_law := fun _ h => List.mem_append_left _ (List.mem_append_left _ (List.mem_append_left _ (List.mem_append_left _ (List.mem_append_left _ (List.mem_append_right _ h)))))
theorem inX3 : ∀ w ∈ wsX30, w ∈ lw_tbl := fun w h => wsL_law_in w (inlX3 w h)
theorem inlX4 : ∀ w ∈ wsX40, w ∈ wsL_law := fun _ h => List.mem_append_left _ (List.mem_append_left _ (List.mem_append_left _ (List.mem_append_left _ (List.mem_append_left _ (List.mem_append_left _ (List.mem_append_right _ h))))))
theorem inX4 : ∀ w ∈ wsX40, w ∈ lw_tbl := fun w h => wsL_law_in w (inlX4 w h)
theorem inlX5 : ∀ w ∈ wsX50, w ∈ wsL_law := fun _ h => List.mem_append_left _ (List.mem_append_left _ (List.mem_append_left _ (List.mem_append_left _ (List.mem_append_left _ (List.mem_append_left _ (List.mem_append_left _ (List.mem_append_left _ (List.mem_append_left _ (List.mem_append_left _ (List.mem_append_right _ h))))))))))
theorem inX5 : ∀ w ∈ wsX50, w ∈ lw_tbl := fun w h => wsL_law_in w (inlX5 w h)
theorem inX6 : ∀ w ∈ wsX60, w ∈ lw_tbl := by decide +kernel
theorem inJx145de : ∀ w ∈ wsJx145de0, w ∈ lw_tbl := by decide +kernel
theorem inJ9 : ∀ w ∈ wsJ90, w ∈ lw_tbl := by decide +kernel
theorem inJ0 : ∀ w ∈ wsJ00, w ∈ lw_tbl := by decide +kernel
end
section
theorem dX0_init_0 : decode cX0_init 0 = .ok (.aload_n 0, 1) := by decide +kernel
theorem dX0_init_1 : decode cX0_init 1 = .ok (.invokespecial 3, 3) := by decide +kernel
theorem dX0_init_4 : decode cX0_init 4 = .ok (.aload_n 0, 1) := by decide +kernel
theorem dX0_init_5 : decode cX0_init 5 = .ok (.iconst 0, 1) := by decide +kernel
theorem dX0_init_6 : decode cX0_init 6 = .ok (.putfield 9, 3) := by decide +kernel
theorem dX0_init_9 : decode cX0_init 9 = .ok (.aload_n 0, 1) := by decide +kernel
theorem dX0_init_10 : decode cX0_init 10 = .ok (.bipush 60, 2) := by decide +kernel
theorem dX0_init_12 : decode cX0_init 12 = .ok (.newarray .int, 2) := by decide +kernel
theorem dX0_init_14 : decode cX0_init 14 = .ok (.putfield 15, 3) := by decide +kernel
theorem dX0_init_17 : decode cX0_init 17 = .ok (.aload_n 0, 1) := by decide +kernel
theorem dX0_init_18 : decode cX0_init 18 = .ok (.bipush 60, 2) := by decide +kernel
theorem dX0_init_20 : decode cX0_init 20 = .ok (.newarray .int, 2) := by decide +kernel
theorem dX0_init_22 : decode cX0_init 22 = .ok (.putfield 19, 3) := by decide +kernel
theorem dX0_init_25 : decode cX0_init 25 = .ok (.aload_n 0, 1) := by decide +kernel
theorem dX0_init_26 : decode cX0_init 26 = .ok (.bipush 60, 2) := by decide +kernel
theorem dX0_init_28 : decode cX0_init 28 = .ok (.newarray .boolean, 2) := by decide +kernel
theorem dX0_init_30 : decode cX0_init 30 = .ok (.putfield 22, 3) := by decide +kernel
theorem dX0_init_33 : decode cX0_init 33 = .ok (.aload_n 0, 1) := by decide +kernel
theorem dX0_init_34 : decode cX0_init 34 = .ok (.iconst 3, 1) := by decide +kernel
theorem dX0_init_35 : decode cX0_init 35 = .ok (.bipush 60, 2) := by decide +kernel
theorem dX0_init_37 : decode cX0_init 37 = .ok (.multianewarray 26 2, 4) := by decide +kernel
theorem dX0_init_41 : decode cX0_init 41 = .ok (.putfield 28, 3) := by decide +kernel
theorem dX0_init_44 : decode cX0_init 44 = .ok (.aload_n 0, 1) := by decide +kernel
theorem dX0_init_45 : decode cX0_init 45 = .ok (.iconst 2, 1) := by decide +kernel
theorem dX0_init_46 : decode cX0_init 46 = .ok (.bipush 60, 2) := by decide +kernel
theorem dX0_init_48 : decode cX0_init 48 = .ok (.multianewarray 26 2, 4) := by decide +kernel
theorem dX0_init_52 : decode cX0_init 52 = .ok (.putfield 31, 3) := by decide +kernel
theorem dX0_init_55 : decode cX0_init 55 = .ok (.aload_n 0, 1) := by decide +kernel
theorem dX0_init_56 : decode cX0_init 56 = .ok (.bipush 60, 2) := by decide +kernel
theorem dX0_init_58 : decode cX0_init 58 = .ok (.bipush 60, 2) := by decide +kernel
theorem dX0_init_60 : decode cX0_init 60 = .ok (.multianewarray 26 2, 4) := by decide +kernel
theorem dX0_init_64 : decode cX0_init 64 = .ok (.putfield 34, 3) := by decide +kernel
theorem dX0_init_67 : decode cX0_init 67 = .ok (.return_, 1) := by decide +kernel
theorem dX0_take_0 : decode cX0_take 0 = .ok (.aload_n 0, 1) := by decide +kernel
theorem dX0_take_1 : decode cX0_take 1 = .ok (.getfield 9, 3) := by decide +kernel
theorem dX0_take_4 : decode cX0_take 4 = .ok (.istore_n 3, 1) := by decide +kernel
theorem dX0_take_5 : decode cX0_take 5 = .ok (.aload_n 0, 1) := by decide +kernel
theorem dX0_take_6 : decode cX0_take 6 = .ok (.getfield 15, 3) := by decide +kernel
theorem dX0_take_9 : decode cX0_take 9 = .ok (.iload_n 3, 1) := by decide +kernel
theorem dX0_take_10 : decode cX0_take 10 = .ok (.iload_n 1, 1) := by decide +kernel
theorem dX0_take_11 : decode cX0_take 11 = .ok (.iastore, 1) := by decide +kernel
theorem dX0_take_12 : decode cX0_take 12 = .ok (.aload_n 0, 1) := by decide +kernel
theorem dX0_take_13 : decode cX0_take 13 = .ok (.getfield 19, 3) := by decide +kernel
theorem dX0_take_16 : decode cX0_take 16 = .ok (.iload_n 3, 1) := by decide +kernel
theorem dX0_take_17 : decode cX0_take 17 = .ok (.iload_n 2, 1) := by decide +kernel
theorem dX0_take_18 : decode cX0_take 18 = .ok (.iastore, 1) := by decide +kernel
theorem dX0_take_19 : decode cX0_take 19 = .ok (.aload_n 0, 1) := by decide +kernel
theorem dX0_take_20 : decode cX0_take 20 = .ok (.dup, 1) := by decide +kernel
theorem dX0_take_21 : decode cX0_take 21 = .ok (.getfield 9, 3) := by decide +kernel
theorem dX0_take_24 : decode cX0_take 24 = .ok (.iconst 1, 1) := by decide +kernel
theorem dX0_take_25 : decode cX0_take 25 = .ok (.iadd, 1) := by decide +kernel
theorem dX0_take_26 : decode cX0_take 26 = .ok (.putfield 9, 3) := by decide +kernel
theorem dX0_take_29 : decode cX0_take 29 = .ok (.iload_n 3, 1) := by decide +kernel
theorem dX0_take_30 : decode cX0_take 30 = .ok (.ireturn, 1) := by decide +kernel
theorem dX0_putMarks_0 : decode cX0_putMarks 0 = .ok (.aload_n 0, 1) := by decide +kernel
theorem dX0_putMarks_1 : decode cX0_putMarks 1 = .ok (.getfield 28, 3) := by decide +kernel
theorem dX0_putMarks_4 : decode cX0_putMarks 4 = .ok (.iconst 0, 1) := by decide +kernel
theorem dX0_putMarks_5 : decode cX0_putMarks 5 = .ok (.aaload, 1) := by decide +kernel
theorem dX0_putMarks_6 : decode cX0_putMarks 6 = .ok (.iload_n 1, 1) := by decide +kernel
theorem dX0_putMarks_7 : decode cX0_putMarks 7 = .ok (.iload_n 2, 1) := by decide +kernel
theorem dX0_putMarks_8 : decode cX0_putMarks 8 = .ok (.iastore, 1) := by decide +kernel
theorem dX0_putMarks_9 : decode cX0_putMarks 9 = .ok (.aload_n 0, 1) := by decide +kernel
theorem dX0_putMarks_10 : decode cX0_putMarks 10 = .ok (.getfield 28, 3) := by decide +kernel
theorem dX0_putMarks_13 : decode cX0_putMarks 13 = .ok (.iconst 1, 1) := by decide +kernel
theorem dX0_putMarks_14 : decode cX0_putMarks 14 = .ok (.aaload, 1) := by decide +kernel
theorem dX0_putMarks_15 : decode cX0_putMarks 15 = .ok (.iload_n 1, 1) := by decide +kernel
theorem dX0_putMarks_16 : decode cX0_putMarks 16 = .ok (.iload_n 3, 1) := by decide +kernel
theorem dX0_putMarks_17 : decode cX0_putMarks 17 = .ok (.iastore, 1) := by decide +kernel
theorem dX0_putMarks_18 : decode cX0_putMarks 18 = .ok (.aload_n 0, 1) := by decide +kernel
theorem dX0_putMarks_19 : decode cX0_putMarks 19 = .ok (.getfield 28, 3) := by decide +kernel
theorem dX0_putMarks_22 : decode cX0_putMarks 22 = .ok (.iconst 2, 1) := by decide +kernel
theorem dX0_putMarks_23 : decode cX0_putMarks 23 = .ok (.aaload, 1) := by decide +kernel
theorem dX0_putMarks_24 : decode cX0_putMarks 24 = .ok (.iload_n 1, 1) := by decide +kernel
theorem dX0_putMarks_25 : decode cX0_putMarks 25 = .ok (.iload 4, 2) := by decide +kernel
theorem dX0_putMarks_27 : decode cX0_putMarks 27 = .ok (.iastore, 1) := by decide +kernel
theorem dX0_putMarks_28 : decode cX0_putMarks 28 = .ok (.return_, 1) := by decide +kernel
theorem dX0_putAttributes_0 : decode cX0_putAttributes 0 = .ok (.aload_n 0, 1) := by decide +kernel
theorem dX0_putAttributes_1 : decode cX0_putAttributes 1 = .ok (.getfield 31, 3) := by decide +kernel
theorem dX0_putAttributes_4 : decode cX0_putAttributes 4 = .ok (.iconst 0, 1) := by decide +kernel
theorem dX0_putAttributes_5 : decode cX0_putAttributes 5 = .ok (.aaload, 1) := by decide +kernel
theorem dX0_putAttributes_6 : decode cX0_putAttributes 6 = .ok (.iload_n 1, 1) := by decide +kernel
theorem dX0_putAttributes_7 : decode cX0_putAttributes 7 = .ok (.iload_n 2, 1) := by decide +kernel
theorem dX0_putAttributes_8 : decode cX0_putAttributes 8 = .ok (.iastore, 1) := by decide +kernel
theorem dX0_putAttributes_9 : decode cX0_putAttributes 9 = .ok (.aload_n 0, 1) := by decide +kernel
theorem dX0_putAttributes_10 : decode cX0_putAttributes 10 = .ok (.getfield 31, 3) := by decide +kernel
theorem dX0_putAttributes_13 : decode cX0_putAttributes 13 = .ok (.iconst 1, 1) := by decide +kernel
theorem dX0_putAttributes_14 : decode cX0_putAttributes 14 = .ok (.aaload, 1) := by decide +kernel
theorem dX0_putAttributes_15 : decode cX0_putAttributes 15 = .ok (.iload_n 1, 1) := by decide +kernel
theorem dX0_putAttributes_16 : decode cX0_putAttributes 16 = .ok (.iload_n 3, 1) := by decide +kernel
theorem dX0_putAttributes_17 : decode cX0_putAttributes 17 = .ok (.iastore, 1) := by decide +kernel
theorem dX0_putAttributes_18 : decode cX0_putAttributes 18 = .ok (.return_, 1) := by decide +kernel
theorem dX0_standsOn_0 : decode cX0_standsOn 0 = .ok (.aload_n 0, 1) := by decide +kernel
theorem dX0_standsOn_1 : decode cX0_standsOn 1 = .ok (.getfield 22, 3) := by decide +kernel
theorem dX0_standsOn_4 : decode cX0_standsOn 4 = .ok (.iload_n 1, 1) := by decide +kernel
theorem dX0_standsOn_5 : decode cX0_standsOn 5 = .ok (.baload, 1) := by decide +kernel
theorem dX0_standsOn_6 : decode cX0_standsOn 6 = .ok (.ifCond .ne 39, 3) := by decide +kernel
theorem dX0_standsOn_9 : decode cX0_standsOn 9 = .ok (.aload_n 0, 1) := by decide +kernel
theorem dX0_standsOn_10 : decode cX0_standsOn 10 = .ok (.getfield 19, 3) := by decide +kernel
theorem dX0_standsOn_13 : decode cX0_standsOn 13 = .ok (.iload_n 1, 1) := by decide +kernel
theorem dX0_standsOn_14 : decode cX0_standsOn 14 = .ok (.iaload, 1) := by decide +kernel
theorem dX0_standsOn_15 : decode cX0_standsOn 15 = .ok (.iload_n 2, 1) := by decide +kernel
theorem dX0_standsOn_16 : decode cX0_standsOn 16 = .ok (.if_icmp .gt 29, 3) := by decide +kernel
theorem dX0_standsOn_19 : decode cX0_standsOn 19 = .ok (.iload_n 2, 1) := by decide +kernel
theorem dX0_standsOn_20 : decode cX0_standsOn 20 = .ok (.aload_n 0, 1) := by decide +kernel
theorem dX0_standsOn_21 : decode cX0_standsOn 21 = .ok (.getfield 19, 3) := by decide +kernel
theorem dX0_standsOn_24 : decode cX0_standsOn 24 = .ok (.iload_n 1, 1) := by decide +kernel
theorem dX0_standsOn_25 : decode cX0_standsOn 25 = .ok (.iaload, 1) := by decide +kernel
theorem dX0_standsOn_26 : decode cX0_standsOn 26 = .ok (.isub, 1) := by decide +kernel
theorem dX0_standsOn_27 : decode cX0_standsOn 27 = .ok (.aload_n 3, 1) := by decide +kernel
theorem dX0_standsOn_28 : decode cX0_standsOn 28 = .ok (.getfield 37, 3) := by decide +kernel
theorem dX0_standsOn_31 : decode cX0_standsOn 31 = .ok (.aload_n 0, 1) := by decide +kernel
theorem dX0_standsOn_32 : decode cX0_standsOn 32 = .ok (.getfield 15, 3) := by decide +kernel
theorem dX0_standsOn_35 : decode cX0_standsOn 35 = .ok (.iload_n 1, 1) := by decide +kernel
theorem dX0_standsOn_36 : decode cX0_standsOn 36 = .ok (.iaload, 1) := by decide +kernel
theorem dX0_standsOn_37 : decode cX0_standsOn 37 = .ok (.iaload, 1) := by decide +kernel
theorem dX0_standsOn_38 : decode cX0_standsOn 38 = .ok (.if_icmp .gt 7, 3) := by decide +kernel
theorem dX0_standsOn_41 : decode cX0_standsOn 41 = .ok (.iconst 1, 1) := by decide +kernel
theorem dX0_standsOn_42 : decode cX0_standsOn 42 = .ok (.goto 4, 3) := by decide +kernel
theorem dX0_standsOn_45 : decode cX0_standsOn 45 = .ok (.iconst 0, 1) := by decide +kernel
theorem dX0_standsOn_46 : decode cX0_standsOn 46 = .ok (.ireturn, 1) := by decide +kernel
set_option maxRecDepth 20000 in
theorem ggX0_joined_X0_knowsSerial : GoodIn wsX0_joined wsX0_knowsSerial := goodIn_r _ [6, 7, 12, 13, 14, 15, 16, 17, 18] (by decide +kernel) (by decide +kernel)
set_option maxRecDepth 20000 in
theorem gX0_joined_X0_knowsSerial : GoodIn wsX0_joined (wsV RX0 42 RX0 yX0_knowsSerial wsX0_knowsSerial) := goodIn_app (goodIn_of _ (by decide +kernel)) ggX0_joined_X0_knowsSerial
set_option maxRecDepth 20000 in
theorem ggX0_joined_X0_shareMark : GoodIn wsX0_joined wsX0_shareMark := goodIn_r _ [11, 7, 12, 13, 14, 15, 16, 17, 18] (by decide +kernel) (by decide +kernel)
set_option maxRecDepth 20000 in
theorem gX0_joined_X0_shareMark : GoodIn wsX0_joined (wsV RX0 46 RX0 yX0_shareMark wsX0_shareMark) := goodIn_app (goodIn_of _ (by decide +kernel)) ggX0_joined_X0_shareMark
theorem dX0_joined_0 : decode cX0_joined 0 = .ok (.aload_n 0, 1) := by decide +kernel
theorem dX0_joined_1 : decode cX0_joined 1 = .ok (.getfield 34, 3) := by decide +kernel
theorem dX0_joined_4 : decode cX0_joined 4 = .ok (.iload_n 1, 1) := by decide +kernel
theorem dX0_joined_5 : decode cX0_joined 5 = .ok (.aaload, 1) := by decide +kernel
theorem dX0_joined_6 : decode cX0_joined 6 = .ok (.iload_n 2, 1) := by decide +kernel
theorem dX0_joined_7 : decode cX0_joined 7 = .ok (.iaload, 1) := by decide +kernel
theorem dX0_joined_8 : decode cX0_joined 8 = .ok (.ifCond .eq 21, 3) := by decide +kernel
theorem dX0_joined_11 : decode cX0_joined 11 = .ok (.aload_n 0, 1) := by decide +kernel
theorem dX0_joined_12 : decode cX0_joined 12 = .ok (.getfield 34, 3) := by decide +kernel
theorem dX0_joined_15 : decode cX0_joined 15 = .ok (.iload_n 1, 1) := by decide +kernel
theorem dX0_joined_16 : decode cX0_joined 16 = .ok (.aaload, 1) := by decide +kernel
theorem dX0_joined_17 : decode cX0_joined 17 = .ok (.iload_n 2, 1) := by decide +kernel
theorem dX0_joined_18 : decode cX0_joined 18 = .ok (.iaload, 1) := by decide +kernel
theorem dX0_joined_19 : decode cX0_joined 19 = .ok (.iconst 1, 1) := by decide +kernel
theorem dX0_joined_20 : decode cX0_joined 20 = .ok (.if_icmp .ne 7, 3) := by decide +kernel
theorem dX0_joined_23 : decode cX0_joined 23 = .ok (.iconst 1, 1) := by decide +kernel
theorem dX0_joined_24 : decode cX0_joined 24 = .ok (.goto 4, 3) := by decide +kernel
theorem dX0_joined_27 : decode cX0_joined 27 = .ok (.iconst 0, 1) := by decide +kernel
theorem dX0_joined_28 : decode cX0_joined 28 = .ok (.ireturn, 1) := by decide +kernel
theorem dX0_joined_29 : decode cX0_joined 29 = .ok (.aload_n 0, 1) := by decide +kernel
theorem dX0_joined_30 : decode cX0_joined 30 = .ok (.iload_n 1, 1) := by decide +kernel
theorem dX0_joined_31 : decode cX0_joined 31 = .ok (.invokevirtual 42, 3) := by decide +kernel
theorem dX0_joined_34 : decode cX0_joined 34 = .ok (.ifCond .eq 19, 3) := by decide +kernel
theorem dX0_joined_37 : decode cX0_joined 37 = .ok (.aload_n 0, 1) := by decide +kernel
theorem dX0_joined_38 : decode cX0_joined 38 = .ok (.iload_n 2, 1) := by decide +kernel
theorem dX0_joined_39 : decode cX0_joined 39 = .ok (.invokevirtual 42, 3) := by decide +kernel
theorem dX0_joined_42 : decode cX0_joined 42 = .ok (.ifCond .eq 11, 3) := by decide +kernel
theorem dX0_joined_45 : decode cX0_joined 45 = .ok (.aload_n 0, 1) := by decide +kernel
theorem dX0_joined_46 : decode cX0_joined 46 = .ok (.iconst 0, 1) := by decide +kernel
theorem dX0_joined_47 : decode cX0_joined 47 = .ok (.iload_n 1, 1) := by decide +kernel
theorem dX0_joined_48 : decode cX0_joined 48 = .ok (.iload_n 2, 1) := by decide +kernel
theorem dX0_joined_49 : decode cX0_joined 49 = .ok (.invokevirtual 46, 3) := by decide +kernel
theorem dX0_joined_52 : decode cX0_joined 52 = .ok (.ireturn, 1) := by decide +kernel
theorem dX0_joined_53 : decode cX0_joined 53 = .ok (.aload_n 0, 1) := by decide +kernel
theorem dX0_joined_54 : decode cX0_joined 54 = .ok (.iconst 1, 1) := by decide +kernel
theorem dX0_joined_55 : decode cX0_joined 55 = .ok (.iload_n 1, 1) := by decide +kernel
theorem dX0_joined_56 : decode cX0_joined 56 = .ok (.iload_n 2, 1) := by decide +kernel
theorem dX0_joined_57 : decode cX0_joined 57 = .ok (.invokevirtual 46, 3) := by decide +kernel
theorem dX0_joined_60 : decode cX0_joined 60 = .ok (.ifCond .eq 17, 3) := by decide +kernel
theorem dX0_joined_63 : decode cX0_joined 63 = .ok (.aload_n 0, 1) := by decide +kernel
theorem dX0_joined_64 : decode cX0_joined 64 = .ok (.iconst 2, 1) := by decide +kernel
theorem dX0_joined_65 : decode cX0_joined 65 = .ok (.iload_n 1, 1) := by decide +kernel
theorem dX0_joined_66 : decode cX0_joined 66 = .ok (.iload_n 2, 1) := by decide +kernel
theorem dX0_joined_67 : decode cX0_joined 67 = .ok (.invokevirtual 46, 3) := by decide +kernel
theorem dX0_joined_70 : decode cX0_joined 70 = .ok (.ifCond .eq 7, 3) := by decide +kernel
theorem dX0_joined_73 : decode cX0_joined 73 = .ok (.iconst 1, 1) := by decide +kernel
theorem dX0_joined_74 : decode cX0_joined 74 = .ok (.goto 4, 3) := by decide +kernel
theorem dX0_joined_77 : decode cX0_joined 77 = .ok (.iconst 0, 1) := by decide +kernel
theorem dX0_joined_78 : decode cX0_joined 78 = .ok (.ireturn, 1) := by decide +kernel
theorem dX0_knowsSerial_0 : decode cX0_knowsSerial 0 = .ok (.aload_n 0, 1) := by decide +kernel
theorem dX0_knowsSerial_1 : decode cX0_knowsSerial 1 = .ok (.getfield 28, 3) := by decide +kernel
theorem dX0_knowsSerial_4 : decode cX0_knowsSerial 4 = .ok (.iconst 0, 1) := by decide +kernel
theorem dX0_knowsSerial_5 : decode cX0_knowsSerial 5 = .ok (.aaload, 1) := by decide +kernel
theorem dX0_knowsSerial_6 : decode cX0_knowsSerial 6 = .ok (.iload_n 1, 1) := by decide +kernel
theorem dX0_knowsSerial_7 : decode cX0_knowsSerial 7 = .ok (.iaload, 1) := by decide +kernel
theorem dX0_knowsSerial_8 : decode cX0_knowsSerial 8 = .ok (.ifCond .eq 7, 3) := by decide +kernel
theorem dX0_knowsSerial_11 : decode cX0_knowsSerial 11 = .ok (.iconst 1, 1) := by decide +kernel
theorem dX0_knowsSerial_12 : decode cX0_knowsSerial 12 = .ok (.goto 4, 3) := by decide +kernel
theorem dX0_knowsSerial_15 : decode cX0_knowsSerial 15 = .ok (.iconst 0, 1) := by decide +kernel
theorem dX0_knowsSerial_16 : decode cX0_knowsSerial 16 = .ok (.ireturn, 1) := by decide +kernel
theorem dX0_shareMark_0 : decode cX0_shareMark 0 = .ok (.aload_n 0, 1) := by decide +kernel
theorem dX0_shareMark_1 : decode cX0_shareMark 1 = .ok (.getfield 28, 3) := by decide +kernel
theorem dX0_shareMark_4 : decode cX0_shareMark 4 = .ok (.iload_n 1, 1) := by decide +kernel
theorem dX0_shareMark_5 : decode cX0_shareMark 5 = .ok (.aaload, 1) := by decide +kernel
theorem dX0_shareMark_6 : decode cX0_shareMark 6 = .ok (.iload_n 2, 1) := by decide +kernel
theorem dX0_shareMark_7 : decode cX0_shareMark 7 = .ok (.iaload, 1) := by decide +kernel
theorem dX0_shareMark_8 : decode cX0_shareMark 8 = .ok (.ifCond .eq 26, 3) := by decide +kernel
theorem dX0_shareMark_11 : decode cX0_shareMark 11 = .ok (.aload_n 0, 1) := by decide +kernel
theorem dX0_shareMark_12 : decode cX0_shareMark 12 = .ok (.getfield 28, 3) := by decide +kernel
theorem dX0_shareMark_15 : decode cX0_shareMark 15 = .ok (.iload_n 1, 1) := by decide +kernel
theorem dX0_shareMark_16 : decode cX0_shareMark 16 = .ok (.aaload, 1) := by decide +kernel
theorem dX0_shareMark_17 : decode cX0_shareMark 17 = .ok (.iload_n 2, 1) := by decide +kernel
theorem dX0_shareMark_18 : decode cX0_shareMark 18 = .ok (.iaload, 1) := by decide +kernel
theorem dX0_shareMark_19 : decode cX0_shareMark 19 = .ok (.aload_n 0, 1) := by decide +kernel
theorem dX0_shareMark_20 : decode cX0_shareMark 20 = .ok (.getfield 28, 3) := by decide +kernel
theorem dX0_shareMark_23 : decode cX0_shareMark 23 = .ok (.iload_n 1, 1) := by decide +kernel
theorem dX0_shareMark_24 : decode cX0_shareMark 24 = .ok (.aaload, 1) := by decide +kernel
theorem dX0_shareMark_25 : decode cX0_shareMark 25 = .ok (.iload_n 3, 1) := by decide +kernel
theorem dX0_shareMark_26 : decode cX0_shareMark 26 = .ok (.iaload, 1) := by decide +kernel
theorem dX0_shareMark_27 : decode cX0_shareMark 27 = .ok (.if_icmp .ne 7, 3) := by decide +kernel
theorem dX0_shareMark_30 : decode cX0_shareMark 30 = .ok (.iconst 1, 1) := by decide +kernel
theorem dX0_shareMark_31 : decode cX0_shareMark 31 = .ok (.goto 4, 3) := by decide +kernel
theorem dX0_shareMark_34 : decode cX0_shareMark 34 = .ok (.iconst 0, 1) := by decide +kernel
theorem dX0_shareMark_35 : decode cX0_shareMark 35 = .ok (.ireturn, 1) := by decide +kernel
theorem dX1_init_0 : decode cX1_init 0 = .ok (.aload_n 0, 1) := by decide +kernel
theorem dX1_init_1 : decode cX1_init 1 = .ok (.invokespecial 3, 3) := by decide +kernel
theorem dX1_init_4 : decode cX1_init 4 = .ok (.aload_n 0, 1) := by decide +kernel
theorem dX1_init_5 : decode cX1_init 5 = .ok (.iconst 0, 1) := by decide +kernel
theorem dX1_init_6 : decode cX1_init 6 = .ok (.putfield 9, 3) := by decide +kernel
theorem dX1_init_9 : decode cX1_init 9 = .ok (.aload_n 0, 1) := by decide +kernel
theorem dX1_init_10 : decode cX1_init 10 = .ok (.bipush 40, 2) := by decide +kernel
theorem dX1_init_12 : decode cX1_init 12 = .ok (.newarray .int, 2) := by decide +kernel
theorem dX1_init_14 : decode cX1_init 14 = .ok (.putfield 15, 3) := by decide +kernel
theorem dX1_init_17 : decode cX1_init 17 = .ok (.aload_n 0, 1) := by decide +kernel
theorem dX1_init_18 : decode cX1_init 18 = .ok (.bipush 40, 2) := by decide +kernel
theorem dX1_init_20 : decode cX1_init 20 = .ok (.newarray .int, 2) := by decide +kernel
theorem dX1_init_22 : decode cX1_init 22 = .ok (.putfield 19, 3) := by decide +kernel
theorem dX1_init_25 : decode cX1_init 25 = .ok (.aload_n 0, 1) := by decide +kernel
theorem dX1_init_26 : decode cX1_init 26 = .ok (.bipush 40, 2) := by decide +kernel
theorem dX1_init_28 : decode cX1_init 28 = .ok (.newarray .int, 2) := by decide +kernel
theorem dX1_init_30 : decode cX1_init 30 = .ok (.putfield 22, 3) := by decide +kernel
theorem dX1_init_33 : decode cX1_init 33 = .ok (.aload_n 0, 1) := by decide +kernel
theorem dX1_init_34 : decode cX1_init 34 = .ok (.bipush 60, 2) := by decide +kernel
theorem dX1_init_36 : decode cX1_init 36 = .ok (.newarray .boolean, 2) := by decide +kernel
theorem dX1_init_38 : decode cX1_init 38 = .ok (.putfield 25, 3) := by decide +kernel
theorem dX1_init_41 : decode cX1_init 41 = .ok (.return_, 1) := by decide +kernel
theorem dX1_add_0 : decode cX1_add 0 = .ok (.aload_n 0, 1) := by decide +kernel
theorem dX1_add_1 : decode cX1_add 1 = .ok (.getfield 15, 3) := by decide +kernel
theorem dX1_add_4 : decode cX1_add 4 = .ok (.aload_n 0, 1) := by decide +kernel
theorem dX1_add_5 : decode cX1_add 5 = .ok (.getfield 9, 3) := by decide +kernel
theorem dX1_add_8 : decode cX1_add 8 = .ok (.iload_n 1, 1) := by decide +kernel
theorem dX1_add_9 : decode cX1_add 9 = .ok (.iastore, 1) := by decide +kernel
theorem dX1_add_10 : decode cX1_add 10 = .ok (.aload_n 0, 1) := by decide +kernel
theorem dX1_add_11 : decode cX1_add 11 = .ok (.getfield 19, 3) := by decide +kernel
theorem dX1_add_14 : decode cX1_add 14 = .ok (.aload_n 0, 1) := by decide +kernel
theorem dX1_add_15 : decode cX1_add 15 = .ok (.getfield 9, 3) := by decide +kernel
theorem dX1_add_18 : decode cX1_add 18 = .ok (.iload_n 2, 1) := by decide +kernel
theorem dX1_add_19 : decode cX1_add 19 = .ok (.iastore, 1) := by decide +kernel
theorem dX1_add_20 : decode cX1_add 20 = .ok (.aload_n 0, 1) := by decide +kernel
theorem dX1_add_21 : decode cX1_add 21 = .ok (.getfield 22, 3) := by decide +kernel
theorem dX1_add_24 : decode cX1_add 24 = .ok (.aload_n 0, 1) := by decide +kernel
theorem dX1_add_25 : decode cX1_add 25 = .ok (.getfield 9, 3) := by decide +kernel
theorem dX1_add_28 : decode cX1_add 28 = .ok (.iload_n 3, 1) := by decide +kernel
theorem dX1_add_29 : decode cX1_add 29 = .ok (.iastore, 1) := by decide +kernel
theorem dX1_add_30 : decode cX1_add 30 = .ok (.aload_n 0, 1) := by decide +kernel
theorem dX1_add_31 : decode cX1_add 31 = .ok (.dup, 1) := by decide +kernel
theorem dX1_add_32 : decode cX1_add 32 = .ok (.getfield 9, 3) := by decide +kernel
theorem dX1_add_35 : decode cX1_add 35 = .ok (.iconst 1, 1) := by decide +kernel
theorem dX1_add_36 : decode cX1_add 36 = .ok (.iadd, 1) := by decide +kernel
theorem dX1_add_37 : decode cX1_add 37 = .ok (.putfield 9, 3) := by decide +kernel
theorem dX1_add_40 : decode cX1_add 40 = .ok (.return_, 1) := by decide +kernel
set_option maxRecDepth 20000 in
theorem ggX1_failFrom_X1_failMore : GoodIn wsX1_failFrom wsX1_failMore := goodIn_r _ [6, 7, 8, 9, 1, 10, 11, 12, 13, 5, 14, 15, 16, 17, 18, 19, 20, 21, 22, 23, 24, 25, 26, 27] (by decide +kernel) (by decide +kernel)
set_option maxRecDepth 20000 in
theorem gX1_failFrom_X1_failMore : GoodIn wsX1_failFrom (wsV RX1 29 RX1 yX1_failMore wsX1_failMore) := goodIn_app (goodIn_of _ (by decide +kernel)) ggX1_failFrom_X1_failMore
theorem dX1_failFrom_0 : decode cX1_failFrom 0 = .ok (.iconst 0, 1) := by decide +kernel
theorem dX1_failFrom_1 : decode cX1_failFrom 1 = .ok (.istore_n 3, 1) := by decide +kernel
theorem dX1_failFrom_2 : decode cX1_failFrom 2 = .ok (.iload_n 3, 1) := by decide +kernel
theorem dX1_failFrom_3 : decode cX1_failFrom 3 = .ok (.bipush 60, 2) := by decide +kernel
theorem dX1_failFrom_5 : decode cX1_failFrom 5 = .ok (.if_icmp .ge 16, 3) := by decide +kernel
theorem dX1_failFrom_8 : decode cX1_failFrom 8 = .ok (.aload_n 0, 1) := by decide +kernel
theorem dX1_failFrom_9 : decode cX1_failFrom 9 = .ok (.getfield 25, 3) := by decide +kernel
theorem dX1_failFrom_12 : decode cX1_failFrom 12 = .ok (.iload_n 3, 1) := by decide +kernel
theorem dX1_failFrom_13 : decode cX1_failFrom 13 = .ok (.iconst 0, 1) := by decide +kernel
theorem dX1_failFrom_14 : decode cX1_failFrom 14 = .ok (.bastore, 1) := by decide +kernel
theorem dX1_failFrom_15 : decode cX1_failFrom 15 = .ok (.iinc 3 1, 3) := by decide +kernel
theorem dX1_failFrom_18 : decode cX1_failFrom 18 = .ok (.goto (-16), 3) := by decide +kernel
theorem dX1_failFrom_21 : decode cX1_failFrom 21 = .ok (.aload_n 0, 1) := by decide +kernel
theorem dX1_failFrom_22 : decode cX1_failFrom 22 = .ok (.getfield 25, 3) := by decide +kernel
theorem dX1_failFrom_25 : decode cX1_failFrom 25 = .ok (.iload_n 1, 1) := by decide +kernel
theorem dX1_failFrom_26 : decode cX1_failFrom 26 = .ok (.iconst 1, 1) := by decide +kernel
theorem dX1_failFrom_27 : decode cX1_failFrom 27 = .ok (.bastore, 1) := by decide +kernel
theorem dX1_failFrom_28 : decode cX1_failFrom 28 = .ok (.iconst 1, 1) := by decide +kernel
theorem dX1_failFrom_29 : decode cX1_failFrom 29 = .ok (.istore_n 3, 1) := by decide +kernel
theorem dX1_failFrom_30 : decode cX1_failFrom 30 = .ok (.iconst 0, 1) := by decide +kernel
theorem dX1_failFrom_31 : decode cX1_failFrom 31 = .ok (.istore 4, 2) := by decide +kernel
theorem dX1_failFrom_33 : decode cX1_failFrom 33 = .ok (.iload_n 3, 1) := by decide +kernel
theorem dX1_failFrom_34 : decode cX1_failFrom 34 = .ok (.ifCond .eq 22, 3) := by decide +kernel
theorem dX1_failFrom_37 : decode cX1_failFrom 37 = .ok (.iload 4, 2) := by decide +kernel
theorem dX1_failFrom_39 : decode cX1_failFrom 39 = .ok (.bipush 60, 2) := by decide +kernel
theorem dX1_failFrom_41 : decode cX1_failFrom 41 = .ok (.if_icmp .ge 15, 3) := by decide +kernel
theorem dX1_failFrom_44 : decode cX1_failFrom 44 = .ok (.aload_n 0, 1) := by decide +kernel
theorem dX1_failFrom_45 : decode cX1_failFrom 45 = .ok (.aload_n 2, 1) := by decide +kernel
theorem dX1_failFrom_46 : decode cX1_failFrom 46 = .ok (.invokevirtual 29, 3) := by decide +kernel
theorem dX1_failFrom_49 : decode cX1_failFrom 49 = .ok (.istore_n 3, 1) := by decide +kernel
theorem dX1_failFrom_50 : decode cX1_failFrom 50 = .ok (.iinc 4 1, 3) := by decide +kernel
theorem dX1_failFrom_53 : decode cX1_failFrom 53 = .ok (.goto (-20), 3) := by decide +kernel
theorem dX1_failFrom_56 : decode cX1_failFrom 56 = .ok (.return_, 1) := by decide +kernel
set_option maxRecDepth 20000 in
theorem ggX1_failMore_X1_holds : GoodIn wsX1_failMore wsX1_holds := goodIn_r _ [10, 2, 3, 11, 21, 22, 23, 16, 17, 18, 19, 20] (by decide +kernel) (by decide +kernel)
set_option maxRecDepth 20000 in
theorem gX1_failMore_X1_holds : GoodIn wsX1_failMore (wsV RX1 38 RX1 yX1_holds wsX1_holds) := goodIn_app (goodIn_of _ (by decide +kernel)) ggX1_failMore_X1_holds
set_option maxRecDepth 20000 in
theorem ggX1_failMore_X1_lost : GoodIn wsX1_failMore wsX1_lost := goodIn_r _ [15, 1, 5, 2, 3, 4, 11, 6, 7, 8, 9, 10, 16, 17, 18, 19, 20, 21, 22, 23] (by decide +kernel) (by decide +kernel)
set_option maxRecDepth 20000 in
theorem gX1_failMore_X1_lost : GoodIn wsX1_failMore (wsV RX1 42 RX1 yX1_lost wsX1_lost) := goodIn_app (goodIn_of _ (by decide +kernel)) ggX1_failMore_X1_lost
theorem dX1_failMore_0 : decode cX1_failMore 0 = .ok (.iconst 0, 1) := by decide +kernel
theorem dX1_failMore_1 : decode cX1_failMore 1 = .ok (.istore_n 2, 1) := by decide +kernel
theorem dX1_failMore_2 : decode cX1_failMore 2 = .ok (.iconst 0, 1) := by decide +kernel
theorem dX1_failMore_3 : decode cX1_failMore 3 = .ok (.istore_n 3, 1) := by decide +kernel
theorem dX1_failMore_4 : decode cX1_failMore 4 = .ok (.iload_n 3, 1) := by decide +kernel
theorem dX1_failMore_5 : decode cX1_failMore 5 = .ok (.aload_n 0, 1) := by decide +kernel
theorem dX1_failMore_6 : decode cX1_failMore 6 = .ok (.getfield 9, 3) := by decide +kernel
theorem dX1_failMore_9 : decode cX1_failMore 9 = .ok (.if_icmp .ge 67, 3) := by decide +kernel
theorem dX1_failMore_12 : decode cX1_failMore 12 = .ok (.aload_n 1, 1) := by decide +kernel
theorem dX1_failMore_13 : decode cX1_failMore 13 = .ok (.getfield 33, 3) := by decide +kernel
theorem dX1_failMore_16 : decode cX1_failMore 16 = .ok (.aload_n 0, 1) := by decide +kernel
theorem dX1_failMore_17 : decode cX1_failMore 17 = .ok (.getfield 15, 3) := by decide +kernel
theorem dX1_failMore_20 : decode cX1_failMore 20 = .ok (.iload_n 3, 1) := by decide +kernel
theorem dX1_failMore_21 : decode cX1_failMore 21 = .ok (.iaload, 1) := by decide +kernel
theorem dX1_failMore_22 : decode cX1_failMore 22 = .ok (.iaload, 1) := by decide +kernel
theorem dX1_failMore_23 : decode cX1_failMore 23 = .ok (.istore 4, 2) := by decide +kernel
theorem dX1_failMore_25 : decode cX1_failMore 25 = .ok (.aload_n 0, 1) := by decide +kernel
theorem dX1_failMore_26 : decode cX1_failMore 26 = .ok (.iload_n 3, 1) := by decide +kernel
theorem dX1_failMore_27 : decode cX1_failMore 27 = .ok (.aload_n 1, 1) := by decide +kernel
theorem dX1_failMore_28 : decode cX1_failMore 28 = .ok (.invokevirtual 38, 3) := by decide +kernel
theorem dX1_failMore_31 : decode cX1_failMore 31 = .ok (.ifCond .eq 39, 3) := by decide +kernel
theorem dX1_failMore_34 : decode cX1_failMore 34 = .ok (.aload_n 0, 1) := by decide +kernel
theorem dX1_failMore_35 : decode cX1_failMore 35 = .ok (.getfield 25, 3) := by decide +kernel
theorem dX1_failMore_38 : decode cX1_failMore 38 = .ok (.iload 4, 2) := by decide +kernel
theorem dX1_failMore_40 : decode cX1_failMore 40 = .ok (.baload, 1) := by decide +kernel
theorem dX1_failMore_41 : decode cX1_failMore 41 = .ok (.ifCond .ne 29, 3) := by decide +kernel
theorem dX1_failMore_44 : decode cX1_failMore 44 = .ok (.aload_n 0, 1) := by decide +kernel
theorem dX1_failMore_45 : decode cX1_failMore 45 = .ok (.iload 4, 2) := by decide +kernel
theorem dX1_failMore_47 : decode cX1_failMore 47 = .ok (.aload_n 0, 1) := by decide +kernel
theorem dX1_failMore_48 : decode cX1_failMore 48 = .ok (.getfield 22, 3) := by decide +kernel
theorem dX1_failMore_51 : decode cX1_failMore 51 = .ok (.iload_n 3, 1) := by decide +kernel
theorem dX1_failMore_52 : decode cX1_failMore 52 = .ok (.iaload, 1) := by decide +kernel
theorem dX1_failMore_53 : decode cX1_failMore 53 = .ok (.aload_n 1, 1) := by decide +kernel
theorem dX1_failMore_54 : decode cX1_failMore 54 = .ok (.invokevirtual 42, 3) := by decide +kernel
theorem dX1_failMore_57 : decode cX1_failMore 57 = .ok (.ifCond .eq 13, 3) := by decide +kernel
theorem dX1_failMore_60 : decode cX1_failMore 60 = .ok (.aload_n 0, 1) := by decide +kernel
theorem dX1_failMore_61 : decode cX1_failMore 61 = .ok (.getfield 25, 3) := by decide +kernel
theorem dX1_failMore_64 : decode cX1_failMore 64 = .ok (.iload 4, 2) := by decide +kernel
theorem dX1_failMore_66 : decode cX1_failMore 66 = .ok (.iconst 1, 1) := by decide +kernel
theorem dX1_failMore_67 : decode cX1_failMore 67 = .ok (.bastore, 1) := by decide +kernel
theorem dX1_failMore_68 : decode cX1_failMore 68 = .ok (.iconst 1, 1) := by decide +kernel
theorem dX1_failMore_69 : decode cX1_failMore 69 = .ok (.istore_n 2, 1) := by decide +kernel
theorem dX1_failMore_70 : decode cX1_failMore 70 = .ok (.iinc 3 1, 3) := by decide +kernel
theorem dX1_failMore_73 : decode cX1_failMore 73 = .ok (.goto (-69), 3) := by decide +kernel
theorem dX1_failMore_76 : decode cX1_failMore 76 = .ok (.iload_n 2, 1) := by decide +kernel
theorem dX1_failMore_77 : decode cX1_failMore 77 = .ok (.ireturn, 1) := by decide +kernel
theorem dX1_holds_0 : decode cX1_holds 0 = .ok (.aload_n 2, 1) := by decide +kernel
theorem dX1_holds_1 : decode cX1_holds 1 = .ok (.getfield 33, 3) := by decide +kernel
theorem dX1_holds_4 : decode cX1_holds 4 = .ok (.aload_n 0, 1) := by decide +kernel
theorem dX1_holds_5 : decode cX1_holds 5 = .ok (.getfield 15, 3) := by decide +kernel
theorem dX1_holds_8 : decode cX1_holds 8 = .ok (.iload_n 1, 1) := by decide +kernel
theorem dX1_holds_9 : decode cX1_holds 9 = .ok (.iaload, 1) := by decide +kernel
theorem dX1_holds_10 : decode cX1_holds 10 = .ok (.iaload, 1) := by decide +kernel
theorem dX1_holds_11 : decode cX1_holds 11 = .ok (.istore_n 3, 1) := by decide +kernel
theorem dX1_holds_12 : decode cX1_holds 12 = .ok (.aload_n 2, 1) := by decide +kernel
theorem dX1_holds_13 : decode cX1_holds 13 = .ok (.getfield 33, 3) := by decide +kernel
theorem dX1_holds_16 : decode cX1_holds 16 = .ok (.aload_n 0, 1) := by decide +kernel
theorem dX1_holds_17 : decode cX1_holds 17 = .ok (.getfield 19, 3) := by decide +kernel
theorem dX1_holds_20 : decode cX1_holds 20 = .ok (.iload_n 1, 1) := by decide +kernel
theorem dX1_holds_21 : decode cX1_holds 21 = .ok (.iaload, 1) := by decide +kernel
theorem dX1_holds_22 : decode cX1_holds 22 = .ok (.iaload, 1) := by decide +kernel
theorem dX1_holds_23 : decode cX1_holds 23 = .ok (.istore 4, 2) := by decide +kernel
theorem dX1_holds_25 : decode cX1_holds 25 = .ok (.iload_n 3, 1) := by decide +kernel
theorem dX1_holds_26 : decode cX1_holds 26 = .ok (.iconst (-1), 1) := by decide +kernel
theorem dX1_holds_27 : decode cX1_holds 27 = .ok (.if_icmp .eq 19, 3) := by decide +kernel
theorem dX1_holds_30 : decode cX1_holds 30 = .ok (.iload 4, 2) := by decide +kernel
theorem dX1_holds_32 : decode cX1_holds 32 = .ok (.iconst (-1), 1) := by decide +kernel
theorem dX1_holds_33 : decode cX1_holds 33 = .ok (.if_icmp .eq 13, 3) := by decide +kernel
theorem dX1_holds_36 : decode cX1_holds 36 = .ok (.iload_n 3, 1) := by decide +kernel
theorem dX1_holds_37 : decode cX1_holds 37 = .ok (.iload 4, 2) := by decide +kernel
theorem dX1_holds_39 : decode cX1_holds 39 = .ok (.if_icmp .eq 7, 3) := by decide +kernel
theorem dX1_holds_42 : decode cX1_holds 42 = .ok (.iconst 1, 1) := by decide +kernel
theorem dX1_holds_43 : decode cX1_holds 43 = .ok (.goto 4, 3) := by decide +kernel
theorem dX1_holds_46 : decode cX1_holds 46 = .ok (.iconst 0, 1) := by decide +kernel
theorem dX1_holds_47 : decode cX1_holds 47 = .ok (.ireturn, 1) := by decide +kernel
set_option maxRecDepth 20000 in
theorem ggX1_lost_X1_holds : GoodIn wsX1_lost wsX1_holds := goodIn_r _ [11, 3, 4, 6, 17, 18, 19, 12, 13, 14, 15, 16] (by decide +kernel) (by decide +kernel)
set_option maxRecDepth 20000 in
theorem gX1_lost_X1_holds : GoodIn wsX1_lost (wsV RX1 38 RX1 yX1_holds wsX1_holds) := goodIn_app (goodIn_of _ (by decide +kernel)) ggX1_lost_X1_holds
theorem dX1_lost_0 : decode cX1_lost 0 = .ok (.iconst 0, 1) := by decide +kernel
theorem dX1_lost_1 : decode cX1_lost 1 = .ok (.istore 4, 2) := by decide +kernel
theorem dX1_lost_3 : decode cX1_lost 3 = .ok (.iload 4, 2) := by decide +kernel
theorem dX1_lost_5 : decode cX1_lost 5 = .ok (.aload_n 0, 1) := by decide +kernel
theorem dX1_lost_6 : decode cX1_lost 6 = .ok (.getfield 9, 3) := by decide +kernel
theorem dX1_lost_9 : decode cX1_lost 9 = .ok (.if_icmp .ge 68, 3) := by decide +kernel
theorem dX1_lost_12 : decode cX1_lost 12 = .ok (.aload_n 0, 1) := by decide +kernel
theorem dX1_lost_13 : decode cX1_lost 13 = .ok (.getfield 22, 3) := by decide +kernel
theorem dX1_lost_16 : decode cX1_lost 16 = .ok (.iload 4, 2) := by decide +kernel
theorem dX1_lost_18 : decode cX1_lost 18 = .ok (.iaload, 1) := by decide +kernel
theorem dX1_lost_19 : decode cX1_lost 19 = .ok (.iload_n 2, 1) := by decide +kernel
theorem dX1_lost_20 : decode cX1_lost 20 = .ok (.if_icmp .ne 51, 3) := by decide +kernel
theorem dX1_lost_23 : decode cX1_lost 23 = .ok (.aload_n 3, 1) := by decide +kernel
theorem dX1_lost_24 : decode cX1_lost 24 = .ok (.getfield 33, 3) := by decide +kernel
theorem dX1_lost_27 : decode cX1_lost 27 = .ok (.aload_n 0, 1) := by decide +kernel
theorem dX1_lost_28 : decode cX1_lost 28 = .ok (.getfield 15, 3) := by decide +kernel
theorem dX1_lost_31 : decode cX1_lost 31 = .ok (.iload 4, 2) := by decide +kernel
theorem dX1_lost_33 : decode cX1_lost 33 = .ok (.iaload, 1) := by decide +kernel
theorem dX1_lost_34 : decode cX1_lost 34 = .ok (.iaload, 1) := by decide +kernel
theorem dX1_lost_35 : decode cX1_lost 35 = .ok (.iload_n 1, 1) := by decide +kernel
theorem dX1_lost_36 : decode cX1_lost 36 = .ok (.if_icmp .ne 35, 3) := by decide +kernel
theorem dX1_lost_39 : decode cX1_lost 39 = .ok (.aload_n 0, 1) := by decide +kernel
theorem dX1_lost_40 : decode cX1_lost 40 = .ok (.iload 4, 2) := by decide +kernel
theorem dX1_lost_42 : decode cX1_lost 42 = .ok (.aload_n 3, 1) := by decide +kernel
theorem dX1_lost_43 : decode cX1_lost 43 = .ok (.invokevirtual 38, 3) := by decide +kernel
theorem dX1_lost_46 : decode cX1_lost 46 = .ok (.ifCond .eq 25, 3) := by decide +kernel
theorem dX1_lost_49 : decode cX1_lost 49 = .ok (.aload_n 0, 1) := by decide +kernel
theorem dX1_lost_50 : decode cX1_lost 50 = .ok (.getfield 25, 3) := by decide +kernel
theorem dX1_lost_53 : decode cX1_lost 53 = .ok (.aload_n 3, 1) := by decide +kernel
theorem dX1_lost_54 : decode cX1_lost 54 = .ok (.getfield 33, 3) := by decide +kernel
theorem dX1_lost_57 : decode cX1_lost 57 = .ok (.aload_n 0, 1) := by decide +kernel
theorem dX1_lost_58 : decode cX1_lost 58 = .ok (.getfield 19, 3) := by decide +kernel
theorem dX1_lost_61 : decode cX1_lost 61 = .ok (.iload 4, 2) := by decide +kernel
theorem dX1_lost_63 : decode cX1_lost 63 = .ok (.iaload, 1) := by decide +kernel
theorem dX1_lost_64 : decode cX1_lost 64 = .ok (.iaload, 1) := by decide +kernel
theorem dX1_lost_65 : decode cX1_lost 65 = .ok (.baload, 1) := by decide +kernel
theorem dX1_lost_66 : decode cX1_lost 66 = .ok (.ifCond .ne 5, 3) := by decide +kernel
theorem dX1_lost_69 : decode cX1_lost 69 = .ok (.iconst 0, 1) := by decide +kernel
theorem dX1_lost_70 : decode cX1_lost 70 = .ok (.ireturn, 1) := by decide +kernel
theorem dX1_lost_71 : decode cX1_lost 71 = .ok (.iinc 4 1, 3) := by decide +kernel
theorem dX1_lost_74 : decode cX1_lost 74 = .ok (.goto (-71), 3) := by decide +kernel
theorem dX1_lost_77 : decode cX1_lost 77 = .ok (.iconst 1, 1) := by decide +kernel
theorem dX1_lost_78 : decode cX1_lost 78 = .ok (.ireturn, 1) := by decide +kernel
theorem dX1_failures_0 : decode cX1_failures 0 = .ok (.iconst 0, 1) := by decide +kernel
theorem dX1_failures_1 : decode cX1_failures 1 = .ok (.istore_n 1, 1) := by decide +kernel
theorem dX1_failures_2 : decode cX1_failures 2 = .ok (.iconst 0, 1) := by decide +kernel
theorem dX1_failures_3 : decode cX1_failures 3 = .ok (.istore_n 2, 1) := by decide +kernel
theorem dX1_failures_4 : decode cX1_failures 4 = .ok (.iload_n 2, 1) := by decide +kernel
theorem dX1_failures_5 : decode cX1_failures 5 = .ok (.bipush 60, 2) := by decide +kernel
theorem dX1_failures_7 : decode cX1_failures 7 = .ok (.if_icmp .ge 21, 3) := by decide +kernel
theorem dX1_failures_10 : decode cX1_failures 10 = .ok (.aload_n 0, 1) := by decide +kernel
theorem dX1_failures_11 : decode cX1_failures 11 = .ok (.getfield 25, 3) := by decide +kernel
theorem dX1_failures_14 : decode cX1_failures 14 = .ok (.iload_n 2, 1) := by decide +kernel
theorem dX1_failures_15 : decode cX1_failures 15 = .ok (.baload, 1) := by decide +kernel
theorem dX1_failures_16 : decode cX1_failures 16 = .ok (.ifCond .eq 6, 3) := by decide +kernel
theorem dX1_failures_19 : decode cX1_failures 19 = .ok (.iinc 1 1, 3) := by decide +kernel
theorem dX1_failures_22 : decode cX1_failures 22 = .ok (.iinc 2 1, 3) := by decide +kernel
theorem dX1_failures_25 : decode cX1_failures 25 = .ok (.goto (-21), 3) := by decide +kernel
theorem dX1_failures_28 : decode cX1_failures 28 = .ok (.iload_n 1, 1) := by decide +kernel
theorem dX1_failures_29 : decode cX1_failures 29 = .ok (.ireturn, 1) := by decide +kernel
theorem dX2_init_0 : decode cX2_init 0 = .ok (.aload_n 0, 1) := by decide +kernel
theorem dX2_init_1 : decode cX2_init 1 = .ok (.invokespecial 3, 3) := by decide +kernel
theorem dX2_init_4 : decode cX2_init 4 = .ok (.aload_n 0, 1) := by decide +kernel
theorem dX2_init_5 : decode cX2_init 5 = .ok (.iconst 4, 1) := by decide +kernel
theorem dX2_init_6 : decode cX2_init 6 = .ok (.newarray .int, 2) := by decide +kernel
theorem dX2_init_8 : decode cX2_init 8 = .ok (.putfield 9, 3) := by decide +kernel
theorem dX2_init_11 : decode cX2_init 11 = .ok (.aload_n 0, 1) := by decide +kernel
theorem dX2_init_12 : decode cX2_init 12 = .ok (.iconst 4, 1) := by decide +kernel
theorem dX2_init_13 : decode cX2_init 13 = .ok (.newarray .int, 2) := by decide +kernel
theorem dX2_init_15 : decode cX2_init 15 = .ok (.putfield 15, 3) := by decide +kernel
theorem dX2_init_18 : decode cX2_init 18 = .ok (.iconst 0, 1) := by decide +kernel
theorem dX2_init_19 : decode cX2_init 19 = .ok (.istore_n 1, 1) := by decide +kernel
theorem dX2_init_20 : decode cX2_init 20 = .ok (.iload_n 1, 1) := by decide +kernel
theorem dX2_init_21 : decode cX2_init 21 = .ok (.iconst 4, 1) := by decide +kernel
theorem dX2_init_22 : decode cX2_init 22 = .ok (.if_icmp .ge 24, 3) := by decide +kernel
theorem dX2_init_25 : decode cX2_init 25 = .ok (.aload_n 0, 1) := by decide +kernel
theorem dX2_init_26 : decode cX2_init 26 = .ok (.getfield 9, 3) := by decide +kernel
theorem dX2_init_29 : decode cX2_init 29 = .ok (.iload_n 1, 1) := by decide +kernel
theorem dX2_init_30 : decode cX2_init 30 = .ok (.bipush 30, 2) := by decide +kernel
theorem dX2_init_32 : decode cX2_init 32 = .ok (.iastore, 1) := by decide +kernel
theorem dX2_init_33 : decode cX2_init 33 = .ok (.aload_n 0, 1) := by decide +kernel
theorem dX2_init_34 : decode cX2_init 34 = .ok (.getfield 15, 3) := by decide +kernel
theorem dX2_init_37 : decode cX2_init 37 = .ok (.iload_n 1, 1) := by decide +kernel
theorem dX2_init_38 : decode cX2_init 38 = .ok (.iload_n 1, 1) := by decide +kernel
theorem dX2_init_39 : decode cX2_init 39 = .ok (.iastore, 1) := by decide +kernel
theorem dX2_init_40 : decode cX2_init 40 = .ok (.iinc 1 1, 3) := by decide +kernel
theorem dX2_init_43 : decode cX2_init 43 = .ok (.goto (-23), 3) := by decide +kernel
theorem dX2_init_46 : decode cX2_init 46 = .ok (.return_, 1) := by decide +kernel
theorem dX2_moveToFront_0 : decode cX2_moveToFront 0 = .ok (.aload_n 0, 1) := by decide +kernel
theorem dX2_moveToFront_1 : decode cX2_moveToFront 1 = .ok (.getfield 15, 3) := by decide +kernel
theorem dX2_moveToFront_4 : decode cX2_moveToFront 4 = .ok (.iload_n 1, 1) := by decide +kernel
theorem dX2_moveToFront_5 : decode cX2_moveToFront 5 = .ok (.iaload, 1) := by decide +kernel
theorem dX2_moveToFront_6 : decode cX2_moveToFront 6 = .ok (.istore_n 2, 1) := by decide +kernel
theorem dX2_moveToFront_7 : decode cX2_moveToFront 7 = .ok (.iconst 0, 1) := by decide +kernel
theorem dX2_moveToFront_8 : decode cX2_moveToFront 8 = .ok (.istore_n 3, 1) := by decide +kernel
theorem dX2_moveToFront_9 : decode cX2_moveToFront 9 = .ok (.iload_n 3, 1) := by decide +kernel
theorem dX2_moveToFront_10 : decode cX2_moveToFront 10 = .ok (.iconst 4, 1) := by decide +kernel
theorem dX2_moveToFront_11 : decode cX2_moveToFront 11 = .ok (.if_icmp .ge 29, 3) := by decide +kernel
theorem dX2_moveToFront_14 : decode cX2_moveToFront 14 = .ok (.aload_n 0, 1) := by decide +kernel
theorem dX2_moveToFront_15 : decode cX2_moveToFront 15 = .ok (.getfield 15, 3) := by decide +kernel
theorem dX2_moveToFront_18 : decode cX2_moveToFront 18 = .ok (.iload_n 3, 1) := by decide +kernel
theorem dX2_moveToFront_19 : decode cX2_moveToFront 19 = .ok (.iaload, 1) := by decide +kernel
theorem dX2_moveToFront_20 : decode cX2_moveToFront 20 = .ok (.iload_n 2, 1) := by decide +kernel
theorem dX2_moveToFront_21 : decode cX2_moveToFront 21 = .ok (.if_icmp .ge 13, 3) := by decide +kernel
theorem dX2_moveToFront_24 : decode cX2_moveToFront 24 = .ok (.aload_n 0, 1) := by decide +kernel
theorem dX2_moveToFront_25 : decode cX2_moveToFront 25 = .ok (.getfield 15, 3) := by decide +kernel
theorem dX2_moveToFront_28 : decode cX2_moveToFront 28 = .ok (.iload_n 3, 1) := by decide +kernel
theorem dX2_moveToFront_29 : decode cX2_moveToFront 29 = .ok (.dup2, 1) := by decide +kernel
theorem dX2_moveToFront_30 : decode cX2_moveToFront 30 = .ok (.iaload, 1) := by decide +kernel
theorem dX2_moveToFront_31 : decode cX2_moveToFront 31 = .ok (.iconst 1, 1) := by decide +kernel
theorem dX2_moveToFront_32 : decode cX2_moveToFront 32 = .ok (.iadd, 1) := by decide +kernel
theorem dX2_moveToFront_33 : decode cX2_moveToFront 33 = .ok (.iastore, 1) := by decide +kernel
theorem dX2_moveToFront_34 : decode cX2_moveToFront 34 = .ok (.iinc 3 1, 3) := by decide +kernel
theorem dX2_moveToFront_37 : decode cX2_moveToFront 37 = .ok (.goto (-28), 3) := by decide +kernel
theorem dX2_moveToFront_40 : decode cX2_moveToFront 40 = .ok (.aload_n 0, 1) := by decide +kernel
theorem dX2_moveToFront_41 : decode cX2_moveToFront 41 = .ok (.getfield 15, 3) := by decide +kernel
theorem dX2_moveToFront_44 : decode cX2_moveToFront 44 = .ok (.iload_n 1, 1) := by decide +kernel
theorem dX2_moveToFront_45 : decode cX2_moveToFront 45 = .ok (.iconst 0, 1) := by decide +kernel
theorem dX2_moveToFront_46 : decode cX2_moveToFront 46 = .ok (.iastore, 1) := by decide +kernel
theorem dX2_moveToFront_47 : decode cX2_moveToFront 47 = .ok (.iload_n 2, 1) := by decide +kernel
theorem dX2_moveToFront_48 : decode cX2_moveToFront 48 = .ok (.ireturn, 1) := by decide +kernel
theorem dX3_init_0 : decode cX3_init 0 = .ok (.aload_n 0, 1) := by decide +kernel
theorem dX3_init_1 : decode cX3_init 1 = .ok (.invokespecial 3, 3) := by decide +kernel
theorem dX3_init_4 : decode cX3_init 4 = .ok (.aload_n 0, 1) := by decide +kernel
theorem dX3_init_5 : decode cX3_init 5 = .ok (.bipush 60, 2) := by decide +kernel
theorem dX3_init_7 : decode cX3_init 7 = .ok (.newarray .int, 2) := by decide +kernel
theorem dX3_init_9 : decode cX3_init 9 = .ok (.putfield 9, 3) := by decide +kernel
theorem dX3_init_12 : decode cX3_init 12 = .ok (.aload_n 0, 1) := by decide +kernel
theorem dX3_init_13 : decode cX3_init 13 = .ok (.aload_n 1, 1) := by decide +kernel
theorem dX3_init_14 : decode cX3_init 14 = .ok (.putfield 15, 3) := by decide +kernel
theorem dX3_init_17 : decode cX3_init 17 = .ok (.aload_n 0, 1) := by decide +kernel
theorem dX3_init_18 : decode cX3_init 18 = .ok (.aload_n 2, 1) := by decide +kernel
theorem dX3_init_19 : decode cX3_init 19 = .ok (.putfield 19, 3) := by decide +kernel
theorem dX3_init_22 : decode cX3_init 22 = .ok (.return_, 1) := by decide +kernel
set_option maxRecDepth 20000 in
theorem ggX3_sortFor_X0_standsOn : GoodIn wsX3_sortFor wsX0_standsOn := goodIn_r _ [9, 10, 11, 12, 13, 47, 48, 49, 50, 51, 52, 53, 54, 55] (by decide +kernel) (by decide +kernel)
set_option maxRecDepth 20000 in
theorem gX3_sortFor_X0_standsOn : GoodIn wsX3_sortFor (wsV RX3 29 RX0 yX0_standsOn wsX0_standsOn) := goodIn_app (goodIn_of _ (by decide +kernel)) ggX3_sortFor_X0_standsOn
set_option maxRecDepth 20000 in
theorem ggX3_sortFor_X3_joinToEarlier : GoodIn wsX3_sortFor wsX3_joinToEarlier := goodIn_r _ [18, 3, 1, 19, 20, 21, 8, 22, 23, 24, 25, 26, 27, 28, 29, 30, 31, 32, 33, 34, 35, 17, 36, 37, 38, 39, 40, 41, 42, 43, 2, 44, 45, 46, 47, 48, 49, 50, 51, 52, 53] (by decide +kernel) (by decide +kernel)
set_option maxRecDepth 20000 in
theorem gX3_sortFor_X3_joinToEarlier : GoodIn wsX3_sortFor (wsV RX3 33 RX3 yX3_joinToEarlier wsX3_joinToEarlier) := goodIn_app (goodIn_of _ (by decide +kernel)) ggX3_sortFor_X3_joinToEarlier
theorem dX3_sortFor_0 : decode cX3_sortFor 0 = .ok (.iconst 0, 1) := by decide +kernel
theorem dX3_sortFor_1 : decode cX3_sortFor 1 = .ok (.istore_n 2, 1) := by decide +kernel
theorem dX3_sortFor_2 : decode cX3_sortFor 2 = .ok (.iload_n 2, 1) := by decide +kernel
theorem dX3_sortFor_3 : decode cX3_sortFor 3 = .ok (.aload_n 0, 1) := by decide +kernel
theorem dX3_sortFor_4 : decode cX3_sortFor 4 = .ok (.getfield 15, 3) := by decide +kernel
theorem dX3_sortFor_7 : decode cX3_sortFor 7 = .ok (.getfield 23, 3) := by decide +kernel
theorem dX3_sortFor_10 : decode cX3_sortFor 10 = .ok (.if_icmp .ge 36, 3) := by decide +kernel
theorem dX3_sortFor_13 : decode cX3_sortFor 13 = .ok (.aload_n 0, 1) := by decide +kernel
theorem dX3_sortFor_14 : decode cX3_sortFor 14 = .ok (.getfield 9, 3) := by decide +kernel
theorem dX3_sortFor_17 : decode cX3_sortFor 17 = .ok (.iload_n 2, 1) := by decide +kernel
theorem dX3_sortFor_18 : decode cX3_sortFor 18 = .ok (.aload_n 0, 1) := by decide +kernel
theorem dX3_sortFor_19 : decode cX3_sortFor 19 = .ok (.getfield 15, 3) := by decide +kernel
theorem dX3_sortFor_22 : decode cX3_sortFor 22 = .ok (.iload_n 2, 1) := by decide +kernel
theorem dX3_sortFor_23 : decode cX3_sortFor 23 = .ok (.iload_n 1, 1) := by decide +kernel
theorem dX3_sortFor_24 : decode cX3_sortFor 24 = .ok (.aload_n 0, 1) := by decide +kernel
theorem dX3_sortFor_25 : decode cX3_sortFor 25 = .ok (.getfield 19, 3) := by decide +kernel
theorem dX3_sortFor_28 : decode cX3_sortFor 28 = .ok (.invokevirtual 29, 3) := by decide +kernel
theorem dX3_sortFor_31 : decode cX3_sortFor 31 = .ok (.ifCond .eq 7, 3) := by decide +kernel
theorem dX3_sortFor_34 : decode cX3_sortFor 34 = .ok (.iload_n 2, 1) := by decide +kernel
theorem dX3_sortFor_35 : decode cX3_sortFor 35 = .ok (.goto 4, 3) := by decide +kernel
theorem dX3_sortFor_38 : decode cX3_sortFor 38 = .ok (.iconst (-1), 1) := by decide +kernel
theorem dX3_sortFor_39 : decode cX3_sortFor 39 = .ok (.iastore, 1) := by decide +kernel
theorem dX3_sortFor_40 : decode cX3_sortFor 40 = .ok (.iinc 2 1, 3) := by decide +kernel
theorem dX3_sortFor_43 : decode cX3_sortFor 43 = .ok (.goto (-41), 3) := by decide +kernel
theorem dX3_sortFor_46 : decode cX3_sortFor 46 = .ok (.iconst 1, 1) := by decide +kernel
theorem dX3_sortFor_47 : decode cX3_sortFor 47 = .ok (.istore_n 2, 1) := by decide +kernel
theorem dX3_sortFor_48 : decode cX3_sortFor 48 = .ok (.iload_n 2, 1) := by decide +kernel
theorem dX3_sortFor_49 : decode cX3_sortFor 49 = .ok (.aload_n 0, 1) := by decide +kernel
theorem dX3_sortFor_50 : decode cX3_sortFor 50 = .ok (.getfield 15, 3) := by decide +kernel
theorem dX3_sortFor_53 : decode cX3_sortFor 53 = .ok (.getfield 23, 3) := by decide +kernel
theorem dX3_sortFor_56 : decode cX3_sortFor 56 = .ok (.if_icmp .ge 24, 3) := by decide +kernel
theorem dX3_sortFor_59 : decode cX3_sortFor 59 = .ok (.aload_n 0, 1) := by decide +kernel
theorem dX3_sortFor_60 : decode cX3_sortFor 60 = .ok (.getfield 9, 3) := by decide +kernel
theorem dX3_sortFor_63 : decode cX3_sortFor 63 = .ok (.iload_n 2, 1) := by decide +kernel
theorem dX3_sortFor_64 : decode cX3_sortFor 64 = .ok (.iaload, 1) := by decide +kernel
theorem dX3_sortFor_65 : decode cX3_sortFor 65 = .ok (.iconst (-1), 1) := by decide +kernel
theorem dX3_sortFor_66 : decode cX3_sortFor 66 = .ok (.if_icmp .eq 8, 3) := by decide +kernel
theorem dX3_sortFor_69 : decode cX3_sortFor 69 = .ok (.aload_n 0, 1) := by decide +kernel
theorem dX3_sortFor_70 : decode cX3_sortFor 70 = .ok (.iload_n 2, 1) := by decide +kernel
theorem dX3_sortFor_71 : decode cX3_sortFor 71 = .ok (.invokevirtual 33, 3) := by decide +kernel
theorem dX3_sortFor_74 : decode cX3_sortFor 74 = .ok (.iinc 2 1, 3) := by decide +kernel
theorem dX3_sortFor_77 : decode cX3_sortFor 77 = .ok (.goto (-29), 3) := by decide +kernel
theorem dX3_sortFor_80 : decode cX3_sortFor 80 = .ok (.return_, 1) := by decide +kernel
set_option maxRecDepth 20000 in
theorem ggX3_joinToEarlier_X0_joined : GoodIn wsX3_joinToEarlier wsX0_joined := goodIn_r _ [7, 8, 9, 10, 11, 6, 12, 13, 14, 15, 16, 17, 34, 35, 36, 37, 38, 39, 40] (by decide +kernel) (by decide +kernel)
set_option maxRecDepth 20000 in
theorem gX3_joinToEarlier_X0_joined : GoodIn wsX3_joinToEarlier (wsV RX3 37 RX0 yX0_joined wsX0_joined) := goodIn_app (goodIn_of _ (by decide +kernel)) ggX3_joinToEarlier_X0_joined
set_option maxRecDepth 20000 in
theorem ggX3_joinToEarlier_X3_merge : GoodIn wsX3_joinToEarlier wsX3_merge := goodIn_r _ [22, 23, 24, 25, 26, 27, 28, 29, 2, 30, 1, 31, 32, 33, 34, 35, 36, 37, 38, 39, 40] (by decide +kernel) (by decide +kernel)
set_option maxRecDepth 20000 in
theorem gX3_joinToEarlier_X3_merge : GoodIn wsX3_joinToEarlier (wsV RX3 41 RX3 yX3_merge wsX3_merge) := goodIn_app (goodIn_of _ (by decide +kernel)) ggX3_joinToEarlier_X3_merge
theorem dX3_joinToEarlier_0 : decode cX3_joinToEarlier 0 = .ok (.iconst 0, 1) := by decide +kernel
theorem dX3_joinToEarlier_1 : decode cX3_joinToEarlier 1 = .ok (.istore_n 2, 1) := by decide +kernel
theorem dX3_joinToEarlier_2 : decode cX3_joinToEarlier 2 = .ok (.iload_n 2, 1) := by decide +kernel
theorem dX3_joinToEarlier_3 : decode cX3_joinToEarlier 3 = .ok (.iload_n 1, 1) := by decide +kernel
theorem dX3_joinToEarlier_4 : decode cX3_joinToEarlier 4 = .ok (.if_icmp .ge 62, 3) := by decide +kernel
theorem dX3_joinToEarlier_7 : decode cX3_joinToEarlier 7 = .ok (.aload_n 0, 1) := by decide +kernel
theorem dX3_joinToEarlier_8 : decode cX3_joinToEarlier 8 = .ok (.getfield 9, 3) := by decide +kernel
theorem dX3_joinToEarlier_11 : decode cX3_joinToEarlier 11 = .ok (.iload_n 2, 1) := by decide +kernel
theorem dX3_joinToEarlier_12 : decode cX3_joinToEarlier 12 = .ok (.iaload, 1) := by decide +kernel
theorem dX3_joinToEarlier_13 : decode cX3_joinToEarlier 13 = .ok (.iconst (-1), 1) := by decide +kernel
theorem dX3_joinToEarlier_14 : decode cX3_joinToEarlier 14 = .ok (.if_icmp .eq 46, 3) := by decide +kernel
theorem dX3_joinToEarlier_17 : decode cX3_joinToEarlier 17 = .ok (.aload_n 0, 1) := by decide +kernel
theorem dX3_joinToEarlier_18 : decode cX3_joinToEarlier 18 = .ok (.getfield 9, 3) := by decide +kernel
theorem dX3_joinToEarlier_21 : decode cX3_joinToEarlier 21 = .ok (.iload_n 2, 1) := by decide +kernel
theorem dX3_joinToEarlier_22 : decode cX3_joinToEarlier 22 = .ok (.iaload, 1) := by decide +kernel
theorem dX3_joinToEarlier_23 : decode cX3_joinToEarlier 23 = .ok (.aload_n 0, 1) := by decide +kernel
theorem dX3_joinToEarlier_24 : decode cX3_joinToEarlier 24 = .ok (.getfield 9, 3) := by decide +kernel
theorem dX3_joinToEarlier_27 : decode cX3_joinToEarlier 27 = .ok (.iload_n 1, 1) := by decide +kernel
theorem dX3_joinToEarlier_28 : decode cX3_joinToEarlier 28 = .ok (.iaload, 1) := by decide +kernel
theorem dX3_joinToEarlier_29 : decode cX3_joinToEarlier 29 = .ok (.if_icmp .eq 31, 3) := by decide +kernel
theorem dX3_joinToEarlier_32 : decode cX3_joinToEarlier 32 = .ok (.aload_n 0, 1) := by decide +kernel
theorem dX3_joinToEarlier_33 : decode cX3_joinToEarlier 33 = .ok (.getfield 15, 3) := by decide +kernel
theorem dX3_joinToEarlier_36 : decode cX3_joinToEarlier 36 = .ok (.iload_n 2, 1) := by decide +kernel
theorem dX3_joinToEarlier_37 : decode cX3_joinToEarlier 37 = .ok (.iload_n 1, 1) := by decide +kernel
theorem dX3_joinToEarlier_38 : decode cX3_joinToEarlier 38 = .ok (.invokevirtual 37, 3) := by decide +kernel
theorem dX3_joinToEarlier_41 : decode cX3_joinToEarlier 41 = .ok (.ifCond .eq 19, 3) := by decide +kernel
theorem dX3_joinToEarlier_44 : decode cX3_joinToEarlier 44 = .ok (.aload_n 0, 1) := by decide +kernel
theorem dX3_joinToEarlier_45 : decode cX3_joinToEarlier 45 = .ok (.aload_n 0, 1) := by decide +kernel
theorem dX3_joinToEarlier_46 : decode cX3_joinToEarlier 46 = .ok (.getfield 9, 3) := by decide +kernel
theorem dX3_joinToEarlier_49 : decode cX3_joinToEarlier 49 = .ok (.iload_n 2, 1) := by decide +kernel
theorem dX3_joinToEarlier_50 : decode cX3_joinToEarlier 50 = .ok (.iaload, 1) := by decide +kernel
theorem dX3_joinToEarlier_51 : decode cX3_joinToEarlier 51 = .ok (.aload_n 0, 1) := by decide +kernel
theorem dX3_joinToEarlier_52 : decode cX3_joinToEarlier 52 = .ok (.getfield 9, 3) := by decide +kernel
theorem dX3_joinToEarlier_55 : decode cX3_joinToEarlier 55 = .ok (.iload_n 1, 1) := by decide +kernel
theorem dX3_joinToEarlier_56 : decode cX3_joinToEarlier 56 = .ok (.iaload, 1) := by decide +kernel
theorem dX3_joinToEarlier_57 : decode cX3_joinToEarlier 57 = .ok (.invokevirtual 41, 3) := by decide +kernel
theorem dX3_joinToEarlier_60 : decode cX3_joinToEarlier 60 = .ok (.iinc 2 1, 3) := by decide +kernel
theorem dX3_joinToEarlier_63 : decode cX3_joinToEarlier 63 = .ok (.goto (-61), 3) := by decide +kernel
theorem dX3_joinToEarlier_66 : decode cX3_joinToEarlier 66 = .ok (.return_, 1) := by decide +kernel
theorem dX3_merge_0 : decode cX3_merge 0 = .ok (.iload_n 1, 1) := by decide +kernel
theorem dX3_merge_1 : decode cX3_merge 1 = .ok (.iload_n 2, 1) := by decide +kernel
theorem dX3_merge_2 : decode cX3_merge 2 = .ok (.invokestatic 45, 3) := by decide +kernel
theorem dX3_merge_5 : decode cX3_merge 5 = .ok (.istore_n 3, 1) := by decide +kernel
theorem dX3_merge_6 : decode cX3_merge 6 = .ok (.iload_n 1, 1) := by decide +kernel
theorem dX3_merge_7 : decode cX3_merge 7 = .ok (.iload_n 2, 1) := by decide +kernel
theorem dX3_merge_8 : decode cX3_merge 8 = .ok (.invokestatic 51, 3) := by decide +kernel
theorem dX3_merge_11 : decode cX3_merge 11 = .ok (.istore 4, 2) := by decide +kernel
theorem dX3_merge_13 : decode cX3_merge 13 = .ok (.iconst 0, 1) := by decide +kernel
theorem dX3_merge_14 : decode cX3_merge 14 = .ok (.istore 5, 2) := by decide +kernel
theorem dX3_merge_16 : decode cX3_merge 16 = .ok (.iload 5, 2) := by decide +kernel
theorem dX3_merge_18 : decode cX3_merge 18 = .ok (.aload_n 0, 1) := by decide +kernel
theorem dX3_merge_19 : decode cX3_merge 19 = .ok (.getfield 15, 3) := by decide +kernel
theorem dX3_merge_22 : decode cX3_merge 22 = .ok (.getfield 23, 3) := by decide +kernel
theorem dX3_merge_25 : decode cX3_merge 25 = .ok (.if_icmp .ge 29, 3) := by decide +kernel
theorem dX3_merge_28 : decode cX3_merge 28 = .ok (.aload_n 0, 1) := by decide +kernel
theorem dX3_merge_29 : decode cX3_merge 29 = .ok (.getfield 9, 3) := by decide +kernel
theorem dX3_merge_32 : decode cX3_merge 32 = .ok (.iload 5, 2) := by decide +kernel
theorem dX3_merge_34 : decode cX3_merge 34 = .ok (.iaload, 1) := by decide +kernel
theorem dX3_merge_35 : decode cX3_merge 35 = .ok (.iload 4, 2) := by decide +kernel
theorem dX3_merge_37 : decode cX3_merge 37 = .ok (.if_icmp .ne 11, 3) := by decide +kernel
theorem dX3_merge_40 : decode cX3_merge 40 = .ok (.aload_n 0, 1) := by decide +kernel
theorem dX3_merge_41 : decode cX3_merge 41 = .ok (.getfield 9, 3) := by decide +kernel
theorem dX3_merge_44 : decode cX3_merge 44 = .ok (.iload 5, 2) := by decide +kernel
theorem dX3_merge_46 : decode cX3_merge 46 = .ok (.iload_n 3, 1) := by decide +kernel
theorem dX3_merge_47 : decode cX3_merge 47 = .ok (.iastore, 1) := by decide +kernel
theorem dX3_merge_48 : decode cX3_merge 48 = .ok (.iinc 5 1, 3) := by decide +kernel
theorem dX3_merge_51 : decode cX3_merge 51 = .ok (.goto (-35), 3) := by decide +kernel
theorem dX3_merge_54 : decode cX3_merge 54 = .ok (.return_, 1) := by decide +kernel
theorem dX3_isThing_0 : decode cX3_isThing 0 = .ok (.aload_n 0, 1) := by decide +kernel
theorem dX3_isThing_1 : decode cX3_isThing 1 = .ok (.getfield 9, 3) := by decide +kernel
theorem dX3_isThing_4 : decode cX3_isThing 4 = .ok (.iload_n 1, 1) := by decide +kernel
theorem dX3_isThing_5 : decode cX3_isThing 5 = .ok (.iaload, 1) := by decide +kernel
theorem dX3_isThing_6 : decode cX3_isThing 6 = .ok (.iload_n 1, 1) := by decide +kernel
theorem dX3_isThing_7 : decode cX3_isThing 7 = .ok (.if_icmp .ne 7, 3) := by decide +kernel
theorem dX3_isThing_10 : decode cX3_isThing 10 = .ok (.iconst 1, 1) := by decide +kernel
theorem dX3_isThing_11 : decode cX3_isThing 11 = .ok (.goto 4, 3) := by decide +kernel
theorem dX3_isThing_14 : decode cX3_isThing 14 = .ok (.iconst 0, 1) := by decide +kernel
theorem dX3_isThing_15 : decode cX3_isThing 15 = .ok (.ireturn, 1) := by decide +kernel
set_option maxRecDepth 20000 in
theorem ggX3_attributeOf_X3_tells : GoodIn wsX3_attributeOf wsX3_tells := goodIn_r _ [8, 9, 1, 3, 17, 18, 19, 20, 21, 22, 23, 24, 25, 26] (by decide +kernel) (by decide +kernel)
set_option maxRecDepth 20000 in
theorem gX3_attributeOf_X3_tells : GoodIn wsX3_attributeOf (wsV RX3 54 RX3 yX3_tells wsX3_tells) := goodIn_app (goodIn_of _ (by decide +kernel)) ggX3_attributeOf_X3_tells
set_option maxRecDepth 20000 in
theorem ggX3_attributeOf_X3_goesBefore : GoodIn wsX3_attributeOf wsX3_goesBefore := goodIn_r _ [13, 14, 15, 1, 16, 17, 18, 19, 27, 28, 20, 21, 22, 23, 24, 25, 26] (by decide +kernel) (by decide +kernel)
set_option maxRecDepth 20000 in
theorem gX3_attributeOf_X3_goesBefore : GoodIn wsX3_attributeOf (wsV RX3 58 RX3 yX3_goesBefore wsX3_goesBefore) := goodIn_app (goodIn_of _ (by decide +kernel)) ggX3_attributeOf_X3_goesBefore
theorem dX3_attributeOf_0 : decode cX3_attributeOf 0 = .ok (.iconst (-1), 1) := by decide +kernel
theorem dX3_attributeOf_1 : decode cX3_attributeOf 1 = .ok (.istore_n 3, 1) := by decide +kernel
theorem dX3_attributeOf_2 : decode cX3_attributeOf 2 = .ok (.iconst 0, 1) := by decide +kernel
theorem dX3_attributeOf_3 : decode cX3_attributeOf 3 = .ok (.istore 4, 2) := by decide +kernel
theorem dX3_attributeOf_5 : decode cX3_attributeOf 5 = .ok (.iload 4, 2) := by decide +kernel
theorem dX3_attributeOf_7 : decode cX3_attributeOf 7 = .ok (.aload_n 0, 1) := by decide +kernel
theorem dX3_attributeOf_8 : decode cX3_attributeOf 8 = .ok (.getfield 15, 3) := by decide +kernel
theorem dX3_attributeOf_11 : decode cX3_attributeOf 11 = .ok (.getfield 23, 3) := by decide +kernel
theorem dX3_attributeOf_14 : decode cX3_attributeOf 14 = .ok (.if_icmp .ge 38, 3) := by decide +kernel
theorem dX3_attributeOf_17 : decode cX3_attributeOf 17 = .ok (.aload_n 0, 1) := by decide +kernel
theorem dX3_attributeOf_18 : decode cX3_attributeOf 18 = .ok (.iload_n 1, 1) := by decide +kernel
theorem dX3_attributeOf_19 : decode cX3_attributeOf 19 = .ok (.iload_n 2, 1) := by decide +kernel
theorem dX3_attributeOf_20 : decode cX3_attributeOf 20 = .ok (.iload 4, 2) := by decide +kernel
theorem dX3_attributeOf_22 : decode cX3_attributeOf 22 = .ok (.invokevirtual 54, 3) := by decide +kernel
theorem dX3_attributeOf_25 : decode cX3_attributeOf 25 = .ok (.ifCond .eq 21, 3) := by decide +kernel
theorem dX3_attributeOf_28 : decode cX3_attributeOf 28 = .ok (.iload_n 3, 1) := by decide +kernel
theorem dX3_attributeOf_29 : decode cX3_attributeOf 29 = .ok (.iconst (-1), 1) := by decide +kernel
theorem dX3_attributeOf_30 : decode cX3_attributeOf 30 = .ok (.if_icmp .eq 13, 3) := by decide +kernel
theorem dX3_attributeOf_33 : decode cX3_attributeOf 33 = .ok (.aload_n 0, 1) := by decide +kernel
theorem dX3_attributeOf_34 : decode cX3_attributeOf 34 = .ok (.iload 4, 2) := by decide +kernel
theorem dX3_attributeOf_36 : decode cX3_attributeOf 36 = .ok (.iload_n 3, 1) := by decide +kernel
theorem dX3_attributeOf_37 : decode cX3_attributeOf 37 = .ok (.invokevirtual 58, 3) := by decide +kernel
theorem dX3_attributeOf_40 : decode cX3_attributeOf 40 = .ok (.ifCond .eq 6, 3) := by decide +kernel
theorem dX3_attributeOf_43 : decode cX3_attributeOf 43 = .ok (.iload 4, 2) := by decide +kernel
theorem dX3_attributeOf_45 : decode cX3_attributeOf 45 = .ok (.istore_n 3, 1) := by decide +kernel
theorem dX3_attributeOf_46 : decode cX3_attributeOf 46 = .ok (.iinc 4 1, 3) := by decide +kernel
theorem dX3_attributeOf_49 : decode cX3_attributeOf 49 = .ok (.goto (-44), 3) := by decide +kernel
theorem dX3_attributeOf_52 : decode cX3_attributeOf 52 = .ok (.iload_n 3, 1) := by decide +kernel
theorem dX3_attributeOf_53 : decode cX3_attributeOf 53 = .ok (.iconst (-1), 1) := by decide +kernel
theorem dX3_attributeOf_54 : decode cX3_attributeOf 54 = .ok (.if_icmp .ne 7, 3) := by decide +kernel
theorem dX3_attributeOf_57 : decode cX3_attributeOf 57 = .ok (.iconst (-1), 1) := by decide +kernel
theorem dX3_attributeOf_58 : decode cX3_attributeOf 58 = .ok (.goto 14, 3) := by decide +kernel
theorem dX3_attributeOf_61 : decode cX3_attributeOf 61 = .ok (.aload_n 0, 1) := by decide +kernel
theorem dX3_attributeOf_62 : decode cX3_attributeOf 62 = .ok (.getfield 15, 3) := by decide +kernel
theorem dX3_attributeOf_65 : decode cX3_attributeOf 65 = .ok (.getfield 61, 3) := by decide +kernel
theorem dX3_attributeOf_68 : decode cX3_attributeOf 68 = .ok (.iload_n 2, 1) := by decide +kernel
theorem dX3_attributeOf_69 : decode cX3_attributeOf 69 = .ok (.aaload, 1) := by decide +kernel
theorem dX3_attributeOf_70 : decode cX3_attributeOf 70 = .ok (.iload_n 3, 1) := by decide +kernel
theorem dX3_attributeOf_71 : decode cX3_attributeOf 71 = .ok (.iaload, 1) := by decide +kernel
theorem dX3_attributeOf_72 : decode cX3_attributeOf 72 = .ok (.ireturn, 1) := by decide +kernel
theorem dX3_goesBefore_0 : decode cX3_goesBefore 0 = .ok (.aload_n 0, 1) := by decide +kernel
theorem dX3_goesBefore_1 : decode cX3_goesBefore 1 = .ok (.getfield 19, 3) := by decide +kernel
theorem dX3_goesBefore_4 : decode cX3_goesBefore 4 = .ok (.getfield 65, 3) := by decide +kernel
theorem dX3_goesBefore_7 : decode cX3_goesBefore 7 = .ok (.aload_n 0, 1) := by decide +kernel
theorem dX3_goesBefore_8 : decode cX3_goesBefore 8 = .ok (.getfield 15, 3) := by decide +kernel
theorem dX3_goesBefore_11 : decode cX3_goesBefore 11 = .ok (.getfield 70, 3) := by decide +kernel
theorem dX3_goesBefore_14 : decode cX3_goesBefore 14 = .ok (.iload_n 1, 1) := by decide +kernel
theorem dX3_goesBefore_15 : decode cX3_goesBefore 15 = .ok (.iaload, 1) := by decide +kernel
theorem dX3_goesBefore_16 : decode cX3_goesBefore 16 = .ok (.iaload, 1) := by decide +kernel
theorem dX3_goesBefore_17 : decode cX3_goesBefore 17 = .ok (.istore_n 3, 1) := by decide +kernel
theorem dX3_goesBefore_18 : decode cX3_goesBefore 18 = .ok (.aload_n 0, 1) := by decide +kernel
theorem dX3_goesBefore_19 : decode cX3_goesBefore 19 = .ok (.getfield 19, 3) := by decide +kernel
theorem dX3_goesBefore_22 : decode cX3_goesBefore 22 = .ok (.getfield 65, 3) := by decide +kernel
theorem dX3_goesBefore_25 : decode cX3_goesBefore 25 = .ok (.aload_n 0, 1) := by decide +kernel
theorem dX3_goesBefore_26 : decode cX3_goesBefore 26 = .ok (.getfield 15, 3) := by decide +kernel
theorem dX3_goesBefore_29 : decode cX3_goesBefore 29 = .ok (.getfield 70, 3) := by decide +kernel
theorem dX3_goesBefore_32 : decode cX3_goesBefore 32 = .ok (.iload_n 2, 1) := by decide +kernel
theorem dX3_goesBefore_33 : decode cX3_goesBefore 33 = .ok (.iaload, 1) := by decide +kernel
theorem dX3_goesBefore_34 : decode cX3_goesBefore 34 = .ok (.iaload, 1) := by decide +kernel
theorem dX3_goesBefore_35 : decode cX3_goesBefore 35 = .ok (.istore 4, 2) := by decide +kernel
theorem dX3_goesBefore_37 : decode cX3_goesBefore 37 = .ok (.iload_n 3, 1) := by decide +kernel
theorem dX3_goesBefore_38 : decode cX3_goesBefore 38 = .ok (.iload 4, 2) := by decide +kernel
theorem dX3_goesBefore_40 : decode cX3_goesBefore 40 = .ok (.if_icmp .gt 7, 3) := by decide +kernel
theorem dX3_goesBefore_43 : decode cX3_goesBefore 43 = .ok (.iconst 1, 1) := by decide +kernel
theorem dX3_goesBefore_44 : decode cX3_goesBefore 44 = .ok (.goto 4, 3) := by decide +kernel
theorem dX3_goesBefore_47 : decode cX3_goesBefore 47 = .ok (.iconst 0, 1) := by decide +kernel
theorem dX3_goesBefore_48 : decode cX3_goesBefore 48 = .ok (.ireturn, 1) := by decide +kernel
set_option maxRecDepth 20000 in
theorem ggX3_hasUnlikeValues_X3_tells : GoodIn wsX3_hasUnlikeValues wsX3_tells := goodIn_r _ [8, 9, 1, 3, 10, 11, 12, 13, 14, 15, 16, 17, 18, 19] (by decide +kernel) (by decide +kernel)
set_option maxRecDepth 20000 in
theorem gX3_hasUnlikeValues_X3_tells : GoodIn wsX3_hasUnlikeValues (wsV RX3 54 RX3 yX3_tells wsX3_tells) := goodIn_app (goodIn_of _ (by decide +kernel)) ggX3_hasUnlikeValues_X3_tells
theorem dX3_hasUnlikeValues_0 : decode cX3_hasUnlikeValues 0 = .ok (.iconst (-1), 1) := by decide +kernel
theorem dX3_hasUnlikeValues_1 : decode cX3_hasUnlikeValues 1 = .ok (.istore_n 3, 1) := by decide +kernel
theorem dX3_hasUnlikeValues_2 : decode cX3_hasUnlikeValues 2 = .ok (.iconst 0, 1) := by decide +kernel
theorem dX3_hasUnlikeValues_3 : decode cX3_hasUnlikeValues 3 = .ok (.istore 4, 2) := by decide +kernel
theorem dX3_hasUnlikeValues_5 : decode cX3_hasUnlikeValues 5 = .ok (.iload 4, 2) := by decide +kernel
theorem dX3_hasUnlikeValues_7 : decode cX3_hasUnlikeValues 7 = .ok (.aload_n 0, 1) := by decide +kernel
theorem dX3_hasUnlikeValues_8 : decode cX3_hasUnlikeValues 8 = .ok (.getfield 15, 3) := by decide +kernel
theorem dX3_hasUnlikeValues_11 : decode cX3_hasUnlikeValues 11 = .ok (.getfield 23, 3) := by decide +kernel
theorem dX3_hasUnlikeValues_14 : decode cX3_hasUnlikeValues 14 = .ok (.if_icmp .ge 50, 3) := by decide +kernel
theorem dX3_hasUnlikeValues_17 : decode cX3_hasUnlikeValues 17 = .ok (.aload_n 0, 1) := by decide +kernel
theorem dX3_hasUnlikeValues_18 : decode cX3_hasUnlikeValues 18 = .ok (.iload_n 1, 1) := by decide +kernel
theorem dX3_hasUnlikeValues_19 : decode cX3_hasUnlikeValues 19 = .ok (.iload_n 2, 1) := by decide +kernel
theorem dX3_hasUnlikeValues_20 : decode cX3_hasUnlikeValues 20 = .ok (.iload 4, 2) := by decide +kernel
theorem dX3_hasUnlikeValues_22 : decode cX3_hasUnlikeValues 22 = .ok (.invokevirtual 54, 3) := by decide +kernel
theorem dX3_hasUnlikeValues_25 : decode cX3_hasUnlikeValues 25 = .ok (.ifCond .eq 33, 3) := by decide +kernel
theorem dX3_hasUnlikeValues_28 : decode cX3_hasUnlikeValues 28 = .ok (.aload_n 0, 1) := by decide +kernel
theorem dX3_hasUnlikeValues_29 : decode cX3_hasUnlikeValues 29 = .ok (.getfield 15, 3) := by decide +kernel
theorem dX3_hasUnlikeValues_32 : decode cX3_hasUnlikeValues 32 = .ok (.getfield 61, 3) := by decide +kernel
theorem dX3_hasUnlikeValues_35 : decode cX3_hasUnlikeValues 35 = .ok (.iload_n 2, 1) := by decide +kernel
theorem dX3_hasUnlikeValues_36 : decode cX3_hasUnlikeValues 36 = .ok (.aaload, 1) := by decide +kernel
theorem dX3_hasUnlikeValues_37 : decode cX3_hasUnlikeValues 37 = .ok (.iload 4, 2) := by decide +kernel
theorem dX3_hasUnlikeValues_39 : decode cX3_hasUnlikeValues 39 = .ok (.iaload, 1) := by decide +kernel
theorem dX3_hasUnlikeValues_40 : decode cX3_hasUnlikeValues 40 = .ok (.istore 5, 2) := by decide +kernel
theorem dX3_hasUnlikeValues_42 : decode cX3_hasUnlikeValues 42 = .ok (.iload_n 3, 1) := by decide +kernel
theorem dX3_hasUnlikeValues_43 : decode cX3_hasUnlikeValues 43 = .ok (.iconst (-1), 1) := by decide +kernel
theorem dX3_hasUnlikeValues_44 : decode cX3_hasUnlikeValues 44 = .ok (.if_icmp .eq 11, 3) := by decide +kernel
theorem dX3_hasUnlikeValues_47 : decode cX3_hasUnlikeValues 47 = .ok (.iload 5, 2) := by decide +kernel
theorem dX3_hasUnlikeValues_49 : decode cX3_hasUnlikeValues 49 = .ok (.iload_n 3, 1) := by decide +kernel
theorem dX3_hasUnlikeValues_50 : decode cX3_hasUnlikeValues 50 = .ok (.if_icmp .eq 5, 3) := by decide +kernel
theorem dX3_hasUnlikeValues_53 : decode cX3_hasUnlikeValues 53 = .ok (.iconst 1, 1) := by decide +kernel
theorem dX3_hasUnlikeValues_54 : decode cX3_hasUnlikeValues 54 = .ok (.ireturn, 1) := by decide +kernel
theorem dX3_hasUnlikeValues_55 : decode cX3_hasUnlikeValues 55 = .ok (.iload 5, 2) := by decide +kernel
theorem dX3_hasUnlikeValues_57 : decode cX3_hasUnlikeValues 57 = .ok (.istore_n 3, 1) := by decide +kernel
theorem dX3_hasUnlikeValues_58 : decode cX3_hasUnlikeValues 58 = .ok (.iinc 4 1, 3) := by decide +kernel
theorem dX3_hasUnlikeValues_61 : decode cX3_hasUnlikeValues 61 = .ok (.goto (-56), 3) := by decide +kernel
theorem dX3_hasUnlikeValues_64 : decode cX3_hasUnlikeValues 64 = .ok (.iconst 0, 1) := by decide +kernel
theorem dX3_hasUnlikeValues_65 : decode cX3_hasUnlikeValues 65 = .ok (.ireturn, 1) := by decide +kernel
theorem dX3_tells_0 : decode cX3_tells 0 = .ok (.aload_n 0, 1) := by decide +kernel
theorem dX3_tells_1 : decode cX3_tells 1 = .ok (.getfield 9, 3) := by decide +kernel
theorem dX3_tells_4 : decode cX3_tells 4 = .ok (.iload_n 3, 1) := by decide +kernel
theorem dX3_tells_5 : decode cX3_tells 5 = .ok (.iaload, 1) := by decide +kernel
theorem dX3_tells_6 : decode cX3_tells 6 = .ok (.iload_n 1, 1) := by decide +kernel
theorem dX3_tells_7 : decode cX3_tells 7 = .ok (.if_icmp .ne 22, 3) := by decide +kernel
theorem dX3_tells_10 : decode cX3_tells 10 = .ok (.aload_n 0, 1) := by decide +kernel
theorem dX3_tells_11 : decode cX3_tells 11 = .ok (.getfield 15, 3) := by decide +kernel
theorem dX3_tells_14 : decode cX3_tells 14 = .ok (.getfield 61, 3) := by decide +kernel
theorem dX3_tells_17 : decode cX3_tells 17 = .ok (.iload_n 2, 1) := by decide +kernel
theorem dX3_tells_18 : decode cX3_tells 18 = .ok (.aaload, 1) := by decide +kernel
theorem dX3_tells_19 : decode cX3_tells 19 = .ok (.iload_n 3, 1) := by decide +kernel
theorem dX3_tells_20 : decode cX3_tells 20 = .ok (.iaload, 1) := by decide +kernel
theorem dX3_tells_21 : decode cX3_tells 21 = .ok (.iconst (-1), 1) := by decide +kernel
theorem dX3_tells_22 : decode cX3_tells 22 = .ok (.if_icmp .eq 7, 3) := by decide +kernel
theorem dX3_tells_25 : decode cX3_tells 25 = .ok (.iconst 1, 1) := by decide +kernel
theorem dX3_tells_26 : decode cX3_tells 26 = .ok (.goto 4, 3) := by decide +kernel
theorem dX3_tells_29 : decode cX3_tells 29 = .ok (.iconst 0, 1) := by decide +kernel
theorem dX3_tells_30 : decode cX3_tells 30 = .ok (.ireturn, 1) := by decide +kernel
theorem dX3_hasMark_0 : decode cX3_hasMark 0 = .ok (.iconst 0, 1) := by decide +kernel
theorem dX3_hasMark_1 : decode cX3_hasMark 1 = .ok (.istore 4, 2) := by decide +kernel
theorem dX3_hasMark_3 : decode cX3_hasMark 3 = .ok (.iload 4, 2) := by decide +kernel
theorem dX3_hasMark_5 : decode cX3_hasMark 5 = .ok (.aload_n 0, 1) := by decide +kernel
theorem dX3_hasMark_6 : decode cX3_hasMark 6 = .ok (.getfield 15, 3) := by decide +kernel
theorem dX3_hasMark_9 : decode cX3_hasMark 9 = .ok (.getfield 23, 3) := by decide +kernel
theorem dX3_hasMark_12 : decode cX3_hasMark 12 = .ok (.if_icmp .ge 38, 3) := by decide +kernel
theorem dX3_hasMark_15 : decode cX3_hasMark 15 = .ok (.aload_n 0, 1) := by decide +kernel
theorem dX3_hasMark_16 : decode cX3_hasMark 16 = .ok (.getfield 9, 3) := by decide +kernel
theorem dX3_hasMark_19 : decode cX3_hasMark 19 = .ok (.iload 4, 2) := by decide +kernel
theorem dX3_hasMark_21 : decode cX3_hasMark 21 = .ok (.iaload, 1) := by decide +kernel
theorem dX3_hasMark_22 : decode cX3_hasMark 22 = .ok (.iload_n 1, 1) := by decide +kernel
theorem dX3_hasMark_23 : decode cX3_hasMark 23 = .ok (.if_icmp .ne 21, 3) := by decide +kernel
theorem dX3_hasMark_26 : decode cX3_hasMark 26 = .ok (.aload_n 0, 1) := by decide +kernel
theorem dX3_hasMark_27 : decode cX3_hasMark 27 = .ok (.getfield 15, 3) := by decide +kernel
theorem dX3_hasMark_30 : decode cX3_hasMark 30 = .ok (.getfield 73, 3) := by decide +kernel
theorem dX3_hasMark_33 : decode cX3_hasMark 33 = .ok (.iload_n 2, 1) := by decide +kernel
theorem dX3_hasMark_34 : decode cX3_hasMark 34 = .ok (.aaload, 1) := by decide +kernel
theorem dX3_hasMark_35 : decode cX3_hasMark 35 = .ok (.iload 4, 2) := by decide +kernel
theorem dX3_hasMark_37 : decode cX3_hasMark 37 = .ok (.iaload, 1) := by decide +kernel
theorem dX3_hasMark_38 : decode cX3_hasMark 38 = .ok (.iload_n 3, 1) := by decide +kernel
theorem dX3_hasMark_39 : decode cX3_hasMark 39 = .ok (.if_icmp .ne 5, 3) := by decide +kernel
theorem dX3_hasMark_42 : decode cX3_hasMark 42 = .ok (.iconst 1, 1) := by decide +kernel
theorem dX3_hasMark_43 : decode cX3_hasMark 43 = .ok (.ireturn, 1) := by decide +kernel
theorem dX3_hasMark_44 : decode cX3_hasMark 44 = .ok (.iinc 4 1, 3) := by decide +kernel
theorem dX3_hasMark_47 : decode cX3_hasMark 47 = .ok (.goto (-44), 3) := by decide +kernel
theorem dX3_hasMark_50 : decode cX3_hasMark 50 = .ok (.iconst 0, 1) := by decide +kernel
theorem dX3_hasMark_51 : decode cX3_hasMark 51 = .ok (.ireturn, 1) := by decide +kernel
theorem dX4_init_0 : decode cX4_init 0 = .ok (.aload_n 0, 1) := by decide +kernel
theorem dX4_init_1 : decode cX4_init 1 = .ok (.invokespecial 3, 3) := by decide +kernel
theorem dX4_init_4 : decode cX4_init 4 = .ok (.aload_n 0, 1) := by decide +kernel
theorem dX4_init_5 : decode cX4_init 5 = .ok (.iconst 0, 1) := by decide +kernel
theorem dX4_init_6 : decode cX4_init 6 = .ok (.putfield 9, 3) := by decide +kernel
theorem dX4_init_9 : decode cX4_init 9 = .ok (.aload_n 0, 1) := by decide +kernel
theorem dX4_init_10 : decode cX4_init 10 = .ok (.bipush 20, 2) := by decide +kernel
theorem dX4_init_12 : decode cX4_init 12 = .ok (.newarray .int, 2) := by decide +kernel
theorem dX4_init_14 : decode cX4_init 14 = .ok (.putfield 15, 3) := by decide +kernel
theorem dX4_init_17 : decode cX4_init 17 = .ok (.aload_n 0, 1) := by decide +kernel
theorem dX4_init_18 : decode cX4_init 18 = .ok (.bipush 20, 2) := by decide +kernel
theorem dX4_init_20 : decode cX4_init 20 = .ok (.newarray .int, 2) := by decide +kernel
theorem dX4_init_22 : decode cX4_init 22 = .ok (.putfield 19, 3) := by decide +kernel
theorem dX4_init_25 : decode cX4_init 25 = .ok (.aload_n 0, 1) := by decide +kernel
theorem dX4_init_26 : decode cX4_init 26 = .ok (.bipush 20, 2) := by decide +kernel
theorem dX4_init_28 : decode cX4_init 28 = .ok (.newarray .int, 2) := by decide +kernel
theorem dX4_init_30 : decode cX4_init 30 = .ok (.putfield 22, 3) := by decide +kernel
theorem dX4_init_33 : decode cX4_init 33 = .ok (.aload_n 0, 1) := by decide +kernel
theorem dX4_init_34 : decode cX4_init 34 = .ok (.bipush 20, 2) := by decide +kernel
theorem dX4_init_36 : decode cX4_init 36 = .ok (.newarray .int, 2) := by decide +kernel
theorem dX4_init_38 : decode cX4_init 38 = .ok (.putfield 25, 3) := by decide +kernel
theorem dX4_init_41 : decode cX4_init 41 = .ok (.return_, 1) := by decide +kernel
theorem dX4_add_0 : decode cX4_add 0 = .ok (.aload_n 0, 1) := by decide +kernel
theorem dX4_add_1 : decode cX4_add 1 = .ok (.getfield 9, 3) := by decide +kernel
theorem dX4_add_4 : decode cX4_add 4 = .ok (.istore 5, 2) := by decide +kernel
theorem dX4_add_6 : decode cX4_add 6 = .ok (.aload_n 0, 1) := by decide +kernel
theorem dX4_add_7 : decode cX4_add 7 = .ok (.getfield 15, 3) := by decide +kernel
theorem dX4_add_10 : decode cX4_add 10 = .ok (.iload 5, 2) := by decide +kernel
theorem dX4_add_12 : decode cX4_add 12 = .ok (.iload_n 1, 1) := by decide +kernel
theorem dX4_add_13 : decode cX4_add 13 = .ok (.iastore, 1) := by decide +kernel
theorem dX4_add_14 : decode cX4_add 14 = .ok (.aload_n 0, 1) := by decide +kernel
theorem dX4_add_15 : decode cX4_add 15 = .ok (.getfield 19, 3) := by decide +kernel
theorem dX4_add_18 : decode cX4_add 18 = .ok (.iload 5, 2) := by decide +kernel
theorem dX4_add_20 : decode cX4_add 20 = .ok (.iload_n 2, 1) := by decide +kernel
theorem dX4_add_21 : decode cX4_add 21 = .ok (.iastore, 1) := by decide +kernel
theorem dX4_add_22 : decode cX4_add 22 = .ok (.aload_n 0, 1) := by decide +kernel
theorem dX4_add_23 : decode cX4_add 23 = .ok (.getfield 22, 3) := by decide +kernel
theorem dX4_add_26 : decode cX4_add 26 = .ok (.iload 5, 2) := by decide +kernel
theorem dX4_add_28 : decode cX4_add 28 = .ok (.iload_n 3, 1) := by decide +kernel
theorem dX4_add_29 : decode cX4_add 29 = .ok (.iastore, 1) := by decide +kernel
theorem dX4_add_30 : decode cX4_add 30 = .ok (.aload_n 0, 1) := by decide +kernel
theorem dX4_add_31 : decode cX4_add 31 = .ok (.getfield 25, 3) := by decide +kernel
theorem dX4_add_34 : decode cX4_add 34 = .ok (.iload 5, 2) := by decide +kernel
theorem dX4_add_36 : decode cX4_add 36 = .ok (.iload 4, 2) := by decide +kernel
theorem dX4_add_38 : decode cX4_add 38 = .ok (.iastore, 1) := by decide +kernel
theorem dX4_add_39 : decode cX4_add 39 = .ok (.aload_n 0, 1) := by decide +kernel
theorem dX4_add_40 : decode cX4_add 40 = .ok (.dup, 1) := by decide +kernel
theorem dX4_add_41 : decode cX4_add 41 = .ok (.getfield 9, 3) := by decide +kernel
theorem dX4_add_44 : decode cX4_add 44 = .ok (.iconst 1, 1) := by decide +kernel
theorem dX4_add_45 : decode cX4_add 45 = .ok (.iadd, 1) := by decide +kernel
theorem dX4_add_46 : decode cX4_add 46 = .ok (.putfield 9, 3) := by decide +kernel
theorem dX4_add_49 : decode cX4_add 49 = .ok (.iload 5, 2) := by decide +kernel
theorem dX4_add_51 : decode cX4_add 51 = .ok (.ireturn, 1) := by decide +kernel
set_option maxRecDepth 20000 in
theorem ggX4_isMissedBy_X3_hasMark : GoodIn wsX4_isMissedBy wsX3_hasMark := goodIn_r _ [9, 10, 11, 12, 13, 35, 36, 37, 38, 39, 40, 41, 42, 43, 44] (by decide +kernel) (by decide +kernel)
set_option maxRecDepth 20000 in
theorem gX4_isMissedBy_X3_hasMark : GoodIn wsX4_isMissedBy (wsV RX4 28 RX3 yX3_hasMark wsX3_hasMark) := goodIn_app (goodIn_of _ (by decide +kernel)) ggX4_isMissedBy_X3_hasMark
set_option maxRecDepth 20000 in
theorem ggX4_isMissedBy_X3_attributeOf : GoodIn wsX4_isMissedBy wsX3_attributeOf := goodIn_r _ [17, 10, 11, 18, 19, 20, 21, 8, 22, 12, 23, 24, 25, 26, 27, 28, 29, 35, 36, 37, 38, 39, 40, 41, 42, 43, 44, 45, 46] (by decide +kernel) (by decide +kernel)
set_option maxRecDepth 20000 in
theorem gX4_isMissedBy_X3_attributeOf : GoodIn wsX4_isMissedBy (wsV RX4 34 RX3 yX3_attributeOf wsX3_attributeOf) := goodIn_app (goodIn_of _ (by decide +kernel)) ggX4_isMissedBy_X3_attributeOf
theorem dX4_isMissedBy_0 : decode cX4_isMissedBy 0 = .ok (.aload_n 3, 1) := by decide +kernel
theorem dX4_isMissedBy_1 : decode cX4_isMissedBy 1 = .ok (.iload_n 1, 1) := by decide +kernel
theorem dX4_isMissedBy_2 : decode cX4_isMissedBy 2 = .ok (.aload_n 0, 1) := by decide +kernel
theorem dX4_isMissedBy_3 : decode cX4_isMissedBy 3 = .ok (.getfield 15, 3) := by decide +kernel
theorem dX4_isMissedBy_6 : decode cX4_isMissedBy 6 = .ok (.iload_n 2, 1) := by decide +kernel
theorem dX4_isMissedBy_7 : decode cX4_isMissedBy 7 = .ok (.iaload, 1) := by decide +kernel
theorem dX4_isMissedBy_8 : decode cX4_isMissedBy 8 = .ok (.aload_n 0, 1) := by decide +kernel
theorem dX4_isMissedBy_9 : decode cX4_isMissedBy 9 = .ok (.getfield 19, 3) := by decide +kernel
theorem dX4_isMissedBy_12 : decode cX4_isMissedBy 12 = .ok (.iload_n 2, 1) := by decide +kernel
theorem dX4_isMissedBy_13 : decode cX4_isMissedBy 13 = .ok (.iaload, 1) := by decide +kernel
theorem dX4_isMissedBy_14 : decode cX4_isMissedBy 14 = .ok (.invokevirtual 28, 3) := by decide +kernel
theorem dX4_isMissedBy_17 : decode cX4_isMissedBy 17 = .ok (.ifCond .eq 27, 3) := by decide +kernel
theorem dX4_isMissedBy_20 : decode cX4_isMissedBy 20 = .ok (.aload_n 3, 1) := by decide +kernel
theorem dX4_isMissedBy_21 : decode cX4_isMissedBy 21 = .ok (.iload_n 1, 1) := by decide +kernel
theorem dX4_isMissedBy_22 : decode cX4_isMissedBy 22 = .ok (.aload_n 0, 1) := by decide +kernel
theorem dX4_isMissedBy_23 : decode cX4_isMissedBy 23 = .ok (.getfield 22, 3) := by decide +kernel
theorem dX4_isMissedBy_26 : decode cX4_isMissedBy 26 = .ok (.iload_n 2, 1) := by decide +kernel
theorem dX4_isMissedBy_27 : decode cX4_isMissedBy 27 = .ok (.iaload, 1) := by decide +kernel
theorem dX4_isMissedBy_28 : decode cX4_isMissedBy 28 = .ok (.invokevirtual 34, 3) := by decide +kernel
theorem dX4_isMissedBy_31 : decode cX4_isMissedBy 31 = .ok (.aload_n 0, 1) := by decide +kernel
theorem dX4_isMissedBy_32 : decode cX4_isMissedBy 32 = .ok (.getfield 25, 3) := by decide +kernel
theorem dX4_isMissedBy_35 : decode cX4_isMissedBy 35 = .ok (.iload_n 2, 1) := by decide +kernel
theorem dX4_isMissedBy_36 : decode cX4_isMissedBy 36 = .ok (.iaload, 1) := by decide +kernel
theorem dX4_isMissedBy_37 : decode cX4_isMissedBy 37 = .ok (.if_icmp .eq 7, 3) := by decide +kernel
theorem dX4_isMissedBy_40 : decode cX4_isMissedBy 40 = .ok (.iconst 1, 1) := by decide +kernel
theorem dX4_isMissedBy_41 : decode cX4_isMissedBy 41 = .ok (.goto 4, 3) := by decide +kernel
theorem dX4_isMissedBy_44 : decode cX4_isMissedBy 44 = .ok (.iconst 0, 1) := by decide +kernel
theorem dX4_isMissedBy_45 : decode cX4_isMissedBy 45 = .ok (.ireturn, 1) := by decide +kernel
set_option maxRecDepth 20000 in
theorem ggX5_init_X2_init : GoodIn wsX5_init wsX2_init := goodIn_r _ [28, 29, 2, 3, 30, 31, 32, 75, 76] (by decide +kernel) (by decide +kernel)
set_option maxRecDepth 20000 in
theorem gX5_init_X2_init : GoodIn wsX5_init (wsX2_init) := ggX5_init_X2_init
set_option maxRecDepth 20000 in
theorem ggX5_init_X0_init : GoodIn wsX5_init wsX0_init := goodIn_r _ [34, 35, 2, 3, 36, 30, 37, 38, 39, 40, 41, 42, 43, 44, 77, 78, 79, 80, 81, 82, 83] (by decide +kernel) (by decide +kernel)
set_option maxRecDepth 20000 in
theorem gX5_init_X0_init_n22 : GoodIn wsX5_init (wsX0_init) := ggX5_init_X0_init
set_option maxRecDepth 20000 in
theorem ggX5_init_X1_init : GoodIn wsX5_init wsX1_init := goodIn_r _ [46, 47, 2, 3, 48, 30, 49, 50, 51, 39, 52, 84, 85, 86, 87, 88] (by decide +kernel) (by decide +kernel)
set_option maxRecDepth 20000 in
theorem gX5_init_X1_init_n29 : GoodIn wsX5_init (wsX1_init) := ggX5_init_X1_init
set_option maxRecDepth 20000 in
theorem ggX5_init_X4_init : GoodIn wsX5_init wsX4_init := goodIn_r _ [54, 55, 2, 3, 56, 30, 57, 58, 59, 60, 89, 90, 91, 92, 93] (by decide +kernel) (by decide +kernel)
set_option maxRecDepth 20000 in
theorem gX5_init_X4_init_n36 : GoodIn wsX5_init (wsX4_init) := ggX5_init_X4_init
set_option maxRecDepth 20000 in
theorem ggX5_init_X3_init : GoodIn wsX5_init wsX3_init := goodIn_r _ [63, 64, 2, 3, 30, 65, 66, 67, 94, 95, 96] (by decide +kernel) (by decide +kernel)
set_option maxRecDepth 20000 in
theorem gX5_init_X3_init : GoodIn wsX5_init (wsX3_init) := ggX5_init_X3_init
theorem dX5_init_0 : decode cX5_init 0 = .ok (.aload_n 0, 1) := by decide +kernel
theorem dX5_init_1 : decode cX5_init 1 = .ok (.invokespecial 1, 3) := by decide +kernel
theorem dX5_init_4 : decode cX5_init 4 = .ok (.aload_n 0, 1) := by decide +kernel
theorem dX5_init_5 : decode cX5_init 5 = .ok (.iconst 0, 1) := by decide +kernel
theorem dX5_init_6 : decode cX5_init 6 = .ok (.putfield 7, 3) := by decide +kernel
theorem dX5_init_9 : decode cX5_init 9 = .ok (.aload_n 0, 1) := by decide +kernel
theorem dX5_init_10 : decode cX5_init 10 = .ok (.new 13, 3) := by decide +kernel
theorem dX5_init_13 : decode cX5_init 13 = .ok (.dup, 1) := by decide +kernel
theorem dX5_init_14 : decode cX5_init 14 = .ok (.invokespecial 15, 3) := by decide +kernel
theorem dX5_init_17 : decode cX5_init 17 = .ok (.putfield 16, 3) := by decide +kernel
theorem dX5_init_20 : decode cX5_init 20 = .ok (.aload_n 0, 1) := by decide +kernel
theorem dX5_init_21 : decode cX5_init 21 = .ok (.new 20, 3) := by decide +kernel
theorem dX5_init_24 : decode cX5_init 24 = .ok (.dup, 1) := by decide +kernel
theorem dX5_init_25 : decode cX5_init 25 = .ok (.invokespecial 22, 3) := by decide +kernel
theorem dX5_init_28 : decode cX5_init 28 = .ok (.putfield 23, 3) := by decide +kernel
theorem dX5_init_31 : decode cX5_init 31 = .ok (.aload_n 0, 1) := by decide +kernel
theorem dX5_init_32 : decode cX5_init 32 = .ok (.new 27, 3) := by decide +kernel
theorem dX5_init_35 : decode cX5_init 35 = .ok (.dup, 1) := by decide +kernel
theorem dX5_init_36 : decode cX5_init 36 = .ok (.invokespecial 29, 3) := by decide +kernel
theorem dX5_init_39 : decode cX5_init 39 = .ok (.putfield 30, 3) := by decide +kernel
theorem dX5_init_42 : decode cX5_init 42 = .ok (.aload_n 0, 1) := by decide +kernel
theorem dX5_init_43 : decode cX5_init 43 = .ok (.new 34, 3) := by decide +kernel
theorem dX5_init_46 : decode cX5_init 46 = .ok (.dup, 1) := by decide +kernel
theorem dX5_init_47 : decode cX5_init 47 = .ok (.invokespecial 36, 3) := by decide +kernel
theorem dX5_init_50 : decode cX5_init 50 = .ok (.putfield 37, 3) := by decide +kernel
theorem dX5_init_53 : decode cX5_init 53 = .ok (.aload_n 0, 1) := by decide +kernel
theorem dX5_init_54 : decode cX5_init 54 = .ok (.new 41, 3) := by decide +kernel
theorem dX5_init_57 : decode cX5_init 57 = .ok (.dup, 1) := by decide +kernel
theorem dX5_init_58 : decode cX5_init 58 = .ok (.aload_n 0, 1) := by decide +kernel
theorem dX5_init_59 : decode cX5_init 59 = .ok (.getfield 23, 3) := by decide +kernel
theorem dX5_init_62 : decode cX5_init 62 = .ok (.aload_n 0, 1) := by decide +kernel
theorem dX5_init_63 : decode cX5_init 63 = .ok (.getfield 16, 3) := by decide +kernel
theorem dX5_init_66 : decode cX5_init 66 = .ok (.invokespecial 43, 3) := by decide +kernel
theorem dX5_init_69 : decode cX5_init 69 = .ok (.putfield 46, 3) := by decide +kernel
theorem dX5_init_72 : decode cX5_init 72 = .ok (.aload_n 0, 1) := by decide +kernel
theorem dX5_init_73 : decode cX5_init 73 = .ok (.new 41, 3) := by decide +kernel
theorem dX5_init_76 : decode cX5_init 76 = .ok (.dup, 1) := by decide +kernel
theorem dX5_init_77 : decode cX5_init 77 = .ok (.aload_n 0, 1) := by decide +kernel
theorem dX5_init_78 : decode cX5_init 78 = .ok (.getfield 23, 3) := by decide +kernel
theorem dX5_init_81 : decode cX5_init 81 = .ok (.aload_n 0, 1) := by decide +kernel
theorem dX5_init_82 : decode cX5_init 82 = .ok (.getfield 16, 3) := by decide +kernel
theorem dX5_init_85 : decode cX5_init 85 = .ok (.invokespecial 43, 3) := by decide +kernel
theorem dX5_init_88 : decode cX5_init 88 = .ok (.putfield 50, 3) := by decide +kernel
theorem dX5_init_91 : decode cX5_init 91 = .ok (.return_, 1) := by decide +kernel
set_option maxRecDepth 20000 in
theorem ggX5_pass_X5_requireRange : GoodIn wsX5_pass wsX5_requireRange := goodIn_ca (goodIn_r _ [7, 8, 9] (by decide +kernel) (by decide +kernel)) (goodIn_sub (fun _ h => List.mem_cons_of_mem _ (List.mem_append_right _ h)) (by decide +kernel))
set_option maxRecDepth 20000 in
theorem gX5_pass_X5_requireRange : GoodIn wsX5_pass (va_wsS RX5 53 yX5_requireRange wsX5_requireRange) := goodIn_app (goodIn_of _ (by decide +kernel)) ggX5_pass_X5_requireRange
theorem dX5_pass_0 : decode cX5_pass 0 = .ok (.iload_n 1, 1) := by decide +kernel
theorem dX5_pass_1 : decode cX5_pass 1 = .ok (.iconst 1, 1) := by decide +kernel
theorem dX5_pass_2 : decode cX5_pass 2 = .ok (.sipush 1000, 3) := by decide +kernel
theorem dX5_pass_5 : decode cX5_pass 5 = .ok (.invokestatic 53, 3) := by decide +kernel
theorem dX5_pass_8 : decode cX5_pass 8 = .ok (.aload_n 0, 1) := by decide +kernel
theorem dX5_pass_9 : decode cX5_pass 9 = .ok (.getfield 7, 3) := by decide +kernel
theorem dX5_pass_12 : decode cX5_pass 12 = .ok (.iload_n 1, 1) := by decide +kernel
theorem dX5_pass_13 : decode cX5_pass 13 = .ok (.iadd, 1) := by decide +kernel
theorem dX5_pass_14 : decode cX5_pass 14 = .ok (.sipush 9999, 3) := by decide +kernel
theorem dX5_pass_17 : decode cX5_pass 17 = .ok (.if_icmp .le 13, 3) := by decide +kernel
theorem dX5_pass_20 : decode cX5_pass 20 = .ok (.new 57, 3) := by decide +kernel
theorem dX5_pass_23 : decode cX5_pass 23 = .ok (.dup, 1) := by decide +kernel
theorem dX5_pass_24 : decode cX5_pass 24 = .ok (.ldc 59, 2) := by decide +kernel
theorem dX5_pass_26 : decode cX5_pass 26 = .ok (.invokespecial 61, 3) := by decide +kernel
theorem dX5_pass_29 : decode cX5_pass 29 = .ok (.athrow, 1) := by decide +kernel
theorem dX5_pass_30 : decode cX5_pass 30 = .ok (.aload_n 0, 1) := by decide +kernel
theorem dX5_pass_31 : decode cX5_pass 31 = .ok (.dup, 1) := by decide +kernel
theorem dX5_pass_32 : decode cX5_pass 32 = .ok (.getfield 7, 3) := by decide +kernel
theorem dX5_pass_35 : decode cX5_pass 35 = .ok (.iload_n 1, 1) := by decide +kernel
theorem dX5_pass_36 : decode cX5_pass 36 = .ok (.iadd, 1) := by decide +kernel
theorem dX5_pass_37 : decode cX5_pass 37 = .ok (.putfield 7, 3) := by decide +kernel
theorem dX5_pass_40 : decode cX5_pass 40 = .ok (.aload_n 0, 1) := by decide +kernel
theorem dX5_pass_41 : decode cX5_pass 41 = .ok (.getfield 7, 3) := by decide +kernel
theorem dX5_pass_44 : decode cX5_pass 44 = .ok (.ireturn, 1) := by decide +kernel
theorem dX5_today_0 : decode cX5_today 0 = .ok (.aload_n 0, 1) := by decide +kernel
theorem dX5_today_1 : decode cX5_today 1 = .ok (.getfield 7, 3) := by decide +kernel
theorem dX5_today_4 : decode cX5_today 4 = .ok (.ireturn, 1) := by decide +kernel
set_option maxRecDepth 20000 in
theorem ggX5_setTerm_X5_requireRange : GoodIn wsX5_setTerm wsX5_requireRange := goodIn_ca (goodIn_r _ [6, 7, 8] (by decide +kernel) (by decide +kernel)) (goodIn_sub (fun _ h => List.mem_cons_of_mem _ (List.mem_append_right _ h)) (by decide +kernel))
set_option maxRecDepth 20000 in
theorem gX5_setTerm_X5_requireRange : GoodIn wsX5_setTerm (va_wsS RX5 53 yX5_requireRange wsX5_requireRange) := goodIn_app (goodIn_of _ (by decide +kernel)) ggX5_setTerm_X5_requireRange
theorem dX5_setTerm_0 : decode cX5_setTerm 0 = .ok (.iload_n 1, 1) := by decide +kernel
theorem dX5_setTerm_1 : decode cX5_setTerm 1 = .ok (.iconst 0, 1) := by decide +kernel
theorem dX5_setTerm_2 : decode cX5_setTerm 2 = .ok (.iconst 3, 1) := by decide +kernel
theorem dX5_setTerm_3 : decode cX5_setTerm 3 = .ok (.invokestatic 53, 3) := by decide +kernel
theorem dX5_setTerm_6 : decode cX5_setTerm 6 = .ok (.iload_n 2, 1) := by decide +kernel
theorem dX5_setTerm_7 : decode cX5_setTerm 7 = .ok (.iconst 1, 1) := by decide +kernel
theorem dX5_setTerm_8 : decode cX5_setTerm 8 = .ok (.sipush 999, 3) := by decide +kernel
theorem dX5_setTerm_11 : decode cX5_setTerm 11 = .ok (.invokestatic 53, 3) := by decide +kernel
theorem dX5_setTerm_14 : decode cX5_setTerm 14 = .ok (.aload_n 0, 1) := by decide +kernel
theorem dX5_setTerm_15 : decode cX5_setTerm 15 = .ok (.getfield 16, 3) := by decide +kernel
theorem dX5_setTerm_18 : decode cX5_setTerm 18 = .ok (.getfield 64, 3) := by decide +kernel
theorem dX5_setTerm_21 : decode cX5_setTerm 21 = .ok (.iload_n 1, 1) := by decide +kernel
theorem dX5_setTerm_22 : decode cX5_setTerm 22 = .ok (.iaload, 1) := by decide +kernel
theorem dX5_setTerm_23 : decode cX5_setTerm 23 = .ok (.istore_n 3, 1) := by decide +kernel
theorem dX5_setTerm_24 : decode cX5_setTerm 24 = .ok (.aload_n 0, 1) := by decide +kernel
theorem dX5_setTerm_25 : decode cX5_setTerm 25 = .ok (.getfield 16, 3) := by decide +kernel
theorem dX5_setTerm_28 : decode cX5_setTerm 28 = .ok (.getfield 64, 3) := by decide +kernel
theorem dX5_setTerm_31 : decode cX5_setTerm 31 = .ok (.iload_n 1, 1) := by decide +kernel
theorem dX5_setTerm_32 : decode cX5_setTerm 32 = .ok (.iload_n 2, 1) := by decide +kernel
theorem dX5_setTerm_33 : decode cX5_setTerm 33 = .ok (.iastore, 1) := by decide +kernel
theorem dX5_setTerm_34 : decode cX5_setTerm 34 = .ok (.iload_n 3, 1) := by decide +kernel
theorem dX5_setTerm_35 : decode cX5_setTerm 35 = .ok (.ireturn, 1) := by decide +kernel
set_option maxRecDepth 20000 in
theorem ggX5_putFirst_X5_requireRange : GoodIn wsX5_putFirst wsX5_requireRange := goodIn_ca (goodIn_r _ [5, 6, 7] (by decide +kernel) (by decide +kernel)) (goodIn_sub (fun _ h => List.mem_cons_of_mem _ (List.mem_append_right _ h)) (by decide +kernel))
set_option maxRecDepth 20000 in
theorem gX5_putFirst_X5_requireRange : GoodIn wsX5_putFirst (va_wsS RX5 53 yX5_requireRange wsX5_requireRange) := goodIn_app (goodIn_of _ (by decide +kernel)) ggX5_putFirst_X5_requireRange
set_option maxRecDepth 20000 in
theorem ggX5_putFirst_X2_moveToFront : GoodIn wsX5_putFirst wsX2_moveToFront := goodIn_r _ [12, 13, 21, 22] (by decide +kernel) (by decide +kernel)
set_option maxRecDepth 20000 in
theorem gX5_putFirst_X2_moveToFront : GoodIn wsX5_putFirst (wsV RX5 68 RX2 yX2_moveToFront wsX2_moveToFront) := goodIn_app (goodIn_of _ (by decide +kernel)) ggX5_putFirst_X2_moveToFront
theorem dX5_putFirst_0 : decode cX5_putFirst 0 = .ok (.iload_n 1, 1) := by decide +kernel
theorem dX5_putFirst_1 : decode cX5_putFirst 1 = .ok (.iconst 0, 1) := by decide +kernel
theorem dX5_putFirst_2 : decode cX5_putFirst 2 = .ok (.iconst 3, 1) := by decide +kernel
theorem dX5_putFirst_3 : decode cX5_putFirst 3 = .ok (.invokestatic 53, 3) := by decide +kernel
theorem dX5_putFirst_6 : decode cX5_putFirst 6 = .ok (.aload_n 0, 1) := by decide +kernel
theorem dX5_putFirst_7 : decode cX5_putFirst 7 = .ok (.getfield 16, 3) := by decide +kernel
theorem dX5_putFirst_10 : decode cX5_putFirst 10 = .ok (.iload_n 1, 1) := by decide +kernel
theorem dX5_putFirst_11 : decode cX5_putFirst 11 = .ok (.invokevirtual 68, 3) := by decide +kernel
theorem dX5_putFirst_14 : decode cX5_putFirst 14 = .ok (.ireturn, 1) := by decide +kernel
set_option maxRecDepth 20000 in
theorem ggX5_find_X5_requireRange : GoodIn wsX5_find wsX5_requireRange := goodIn_ca (goodIn_r _ [9, 10, 11] (by decide +kernel) (by decide +kernel)) (goodIn_sub (fun _ h => List.mem_cons_of_mem _ (List.mem_append_right _ h)) (by decide +kernel))
set_option maxRecDepth 20000 in
theorem gX5_find_X5_requireRange : GoodIn wsX5_find (va_wsS RX5 53 yX5_requireRange wsX5_requireRange) := goodIn_app (goodIn_of _ (by decide +kernel)) ggX5_find_X5_requireRange
set_option maxRecDepth 20000 in
theorem ggX5_find_X0_take : GoodIn wsX5_find wsX0_take := goodIn_r _ [16, 17, 18, 19, 37, 38, 39, 40, 41, 42, 43] (by decide +kernel) (by decide +kernel)
set_option maxRecDepth 20000 in
theorem gX5_find_X0_take : GoodIn wsX5_find (wsV RX5 77 RX0 yX0_take wsX0_take) := goodIn_app (goodIn_of _ (by decide +kernel)) ggX5_find_X0_take
set_option maxRecDepth 20000 in
theorem ggX5_find_X0_putMarks : GoodIn wsX5_find wsX0_putMarks := goodIn_r _ [23, 24, 37, 38, 39, 40, 41, 42, 43] (by decide +kernel) (by decide +kernel)
set_option maxRecDepth 20000 in
theorem gX5_find_X0_putMarks : GoodIn wsX5_find (wsV RX5 81 RX0 yX0_putMarks wsX0_putMarks) := goodIn_app (goodIn_of _ (by decide +kernel)) ggX5_find_X0_putMarks
set_option maxRecDepth 20000 in
theorem ggX5_find_X0_putAttributes : GoodIn wsX5_find wsX0_putAttributes := goodIn_r _ [28, 29, 37, 38, 39, 40, 41, 42, 43] (by decide +kernel) (by decide +kernel)
set_option maxRecDepth 20000 in
theorem gX5_find_X0_putAttributes : GoodIn wsX5_find (wsV RX5 85 RX0 yX0_putAttributes wsX0_putAttributes) := goodIn_app (goodIn_of _ (by decide +kernel)) ggX5_find_X0_putAttributes
theorem dX5_find_0 : decode cX5_find 0 = .ok (.iload_n 1, 1) := by decide +kernel
theorem dX5_find_1 : decode cX5_find 1 = .ok (.iconst 0, 1) := by decide +kernel
theorem dX5_find_2 : decode cX5_find 2 = .ok (.iconst 3, 1) := by decide +kernel
theorem dX5_find_3 : decode cX5_find 3 = .ok (.invokestatic 53, 3) := by decide +kernel
theorem dX5_find_6 : decode cX5_find 6 = .ok (.iload_n 2, 1) := by decide +kernel
theorem dX5_find_7 : decode cX5_find 7 = .ok (.iconst 0, 1) := by decide +kernel
theorem dX5_find_8 : decode cX5_find 8 = .ok (.bipush 99, 2) := by decide +kernel
theorem dX5_find_10 : decode cX5_find 10 = .ok (.invokestatic 53, 3) := by decide +kernel
theorem dX5_find_13 : decode cX5_find 13 = .ok (.iload_n 3, 1) := by decide +kernel
theorem dX5_find_14 : decode cX5_find 14 = .ok (.iconst 0, 1) := by decide +kernel
theorem dX5_find_15 : decode cX5_find 15 = .ok (.bipush 99, 2) := by decide +kernel
theorem dX5_find_17 : decode cX5_find 17 = .ok (.invokestatic 53, 3) := by decide +kernel
theorem dX5_find_20 : decode cX5_find 20 = .ok (.iload 4, 2) := by decide +kernel
theorem dX5_find_22 : decode cX5_find 22 = .ok (.iconst 0, 1) := by decide +kernel
theorem dX5_find_23 : decode cX5_find 23 = .ok (.bipush 99, 2) := by decide +kernel
theorem dX5_find_25 : decode cX5_find 25 = .ok (.invokestatic 53, 3) := by decide +kernel
theorem dX5_find_28 : decode cX5_find 28 = .ok (.iload 5, 2) := by decide +kernel
theorem dX5_find_30 : decode cX5_find 30 = .ok (.iconst (-1), 1) := by decide +kernel
theorem dX5_find_31 : decode cX5_find 31 = .ok (.bipush 99, 2) := by decide +kernel
theorem dX5_find_33 : decode cX5_find 33 = .ok (.invokestatic 53, 3) := by decide +kernel
theorem dX5_find_36 : decode cX5_find 36 = .ok (.iload 6, 2) := by decide +kernel
theorem dX5_find_38 : decode cX5_find 38 = .ok (.iconst (-1), 1) := by decide +kernel
theorem dX5_find_39 : decode cX5_find 39 = .ok (.bipush 99, 2) := by decide +kernel
theorem dX5_find_41 : decode cX5_find 41 = .ok (.invokestatic 53, 3) := by decide +kernel
theorem dX5_find_44 : decode cX5_find 44 = .ok (.aload_n 0, 1) := by decide +kernel
theorem dX5_find_45 : decode cX5_find 45 = .ok (.getfield 23, 3) := by decide +kernel
theorem dX5_find_48 : decode cX5_find 48 = .ok (.getfield 72, 3) := by decide +kernel
theorem dX5_find_51 : decode cX5_find 51 = .ok (.bipush 60, 2) := by decide +kernel
theorem dX5_find_53 : decode cX5_find 53 = .ok (.if_icmp .lt 13, 3) := by decide +kernel
theorem dX5_find_56 : decode cX5_find 56 = .ok (.new 57, 3) := by decide +kernel
theorem dX5_find_59 : decode cX5_find 59 = .ok (.dup, 1) := by decide +kernel
theorem dX5_find_60 : decode cX5_find 60 = .ok (.ldc 75, 2) := by decide +kernel
theorem dX5_find_62 : decode cX5_find 62 = .ok (.invokespecial 61, 3) := by decide +kernel
theorem dX5_find_65 : decode cX5_find 65 = .ok (.athrow, 1) := by decide +kernel
theorem dX5_find_66 : decode cX5_find 66 = .ok (.aload_n 0, 1) := by decide +kernel
theorem dX5_find_67 : decode cX5_find 67 = .ok (.getfield 23, 3) := by decide +kernel
theorem dX5_find_70 : decode cX5_find 70 = .ok (.iload_n 1, 1) := by decide +kernel
theorem dX5_find_71 : decode cX5_find 71 = .ok (.aload_n 0, 1) := by decide +kernel
theorem dX5_find_72 : decode cX5_find 72 = .ok (.getfield 7, 3) := by decide +kernel
theorem dX5_find_75 : decode cX5_find 75 = .ok (.invokevirtual 77, 3) := by decide +kernel
theorem dX5_find_78 : decode cX5_find 78 = .ok (.istore 7, 2) := by decide +kernel
theorem dX5_find_80 : decode cX5_find 80 = .ok (.aload_n 0, 1) := by decide +kernel
theorem dX5_find_81 : decode cX5_find 81 = .ok (.getfield 23, 3) := by decide +kernel
theorem dX5_find_84 : decode cX5_find 84 = .ok (.iload 7, 2) := by decide +kernel
theorem dX5_find_86 : decode cX5_find 86 = .ok (.iload_n 2, 1) := by decide +kernel
theorem dX5_find_87 : decode cX5_find 87 = .ok (.iload_n 3, 1) := by decide +kernel
theorem dX5_find_88 : decode cX5_find 88 = .ok (.iload 4, 2) := by decide +kernel
theorem dX5_find_90 : decode cX5_find 90 = .ok (.invokevirtual 81, 3) := by decide +kernel
theorem dX5_find_93 : decode cX5_find 93 = .ok (.aload_n 0, 1) := by decide +kernel
theorem dX5_find_94 : decode cX5_find 94 = .ok (.getfield 23, 3) := by decide +kernel
theorem dX5_find_97 : decode cX5_find 97 = .ok (.iload 7, 2) := by decide +kernel
theorem dX5_find_99 : decode cX5_find 99 = .ok (.iload 5, 2) := by decide +kernel
theorem dX5_find_101 : decode cX5_find 101 = .ok (.iload 6, 2) := by decide +kernel
theorem dX5_find_103 : decode cX5_find 103 = .ok (.invokevirtual 85, 3) := by decide +kernel
theorem dX5_find_106 : decode cX5_find 106 = .ok (.iload 7, 2) := by decide +kernel
theorem dX5_find_108 : decode cX5_find 108 = .ok (.ireturn, 1) := by decide +kernel
set_option maxRecDepth 20000 in
theorem ggX5_strike_X5_requireFind : GoodIn wsX5_strike wsX5_requireFind := goodIn_ca (goodIn_r _ [7, 8, 9, 1, 10, 11, 12, 13, 14, 15, 16, 17, 18, 19, 20, 21, 22, 23, 24] (by decide +kernel) (by decide +kernel)) (goodIn_sub (fun _ h => List.mem_cons_of_mem _ (List.mem_append_right _ h)) (by decide +kernel))
set_option maxRecDepth 20000 in
theorem gX5_strike_X5_requireFind : GoodIn wsX5_strike (wsV RX5 88 RX5 yX5_requireFind wsX5_requireFind) := goodIn_app (goodIn_of _ (by decide +kernel)) ggX5_strike_X5_requireFind
theorem dX5_strike_0 : decode cX5_strike 0 = .ok (.aload_n 0, 1) := by decide +kernel
theorem dX5_strike_1 : decode cX5_strike 1 = .ok (.iload_n 1, 1) := by decide +kernel
theorem dX5_strike_2 : decode cX5_strike 2 = .ok (.invokevirtual 88, 3) := by decide +kernel
theorem dX5_strike_5 : decode cX5_strike 5 = .ok (.aload_n 0, 1) := by decide +kernel
theorem dX5_strike_6 : decode cX5_strike 6 = .ok (.getfield 23, 3) := by decide +kernel
theorem dX5_strike_9 : decode cX5_strike 9 = .ok (.getfield 92, 3) := by decide +kernel
theorem dX5_strike_12 : decode cX5_strike 12 = .ok (.iload_n 1, 1) := by decide +kernel
theorem dX5_strike_13 : decode cX5_strike 13 = .ok (.baload, 1) := by decide +kernel
theorem dX5_strike_14 : decode cX5_strike 14 = .ok (.ifCond .ne 7, 3) := by decide +kernel
theorem dX5_strike_17 : decode cX5_strike 17 = .ok (.iconst 1, 1) := by decide +kernel
theorem dX5_strike_18 : decode cX5_strike 18 = .ok (.goto 4, 3) := by decide +kernel
theorem dX5_strike_21 : decode cX5_strike 21 = .ok (.iconst 0, 1) := by decide +kernel
theorem dX5_strike_22 : decode cX5_strike 22 = .ok (.istore_n 2, 1) := by decide +kernel
theorem dX5_strike_23 : decode cX5_strike 23 = .ok (.aload_n 0, 1) := by decide +kernel
theorem dX5_strike_24 : decode cX5_strike 24 = .ok (.getfield 23, 3) := by decide +kernel
theorem dX5_strike_27 : decode cX5_strike 27 = .ok (.getfield 92, 3) := by decide +kernel
theorem dX5_strike_30 : decode cX5_strike 30 = .ok (.iload_n 1, 1) := by decide +kernel
theorem dX5_strike_31 : decode cX5_strike 31 = .ok (.iconst 1, 1) := by decide +kernel
theorem dX5_strike_32 : decode cX5_strike 32 = .ok (.bastore, 1) := by decide +kernel
theorem dX5_strike_33 : decode cX5_strike 33 = .ok (.iload_n 2, 1) := by decide +kernel
theorem dX5_strike_34 : decode cX5_strike 34 = .ok (.ireturn, 1) := by decide +kernel
set_option maxRecDepth 20000 in
theorem ggX5_tell_X5_requireFind : GoodIn wsX5_tell wsX5_requireFind := goodIn_ca (goodIn_r _ [7, 8, 9, 1, 10, 19, 20, 21, 22, 23, 24, 25, 26, 27, 28, 29, 30, 31, 32] (by decide +kernel) (by decide +kernel)) (goodIn_sub (fun _ h => List.mem_cons_of_mem _ (List.mem_append_left _ (List.mem_append_right _ h))) (by decide +kernel))
set_option maxRecDepth 20000 in
theorem gX5_tell_X5_requireFind : GoodIn wsX5_tell (wsV RX5 88 RX5 yX5_requireFind wsX5_requireFind) := goodIn_app (goodIn_of _ (by decide +kernel)) ggX5_tell_X5_requireFind
set_option maxRecDepth 20000 in
theorem ggX5_tell_X5_requireUnlike : GoodIn wsX5_tell wsX5_requireUnlike := goodIn_ca (goodIn_r _ [13, 14, 15] (by decide +kernel) (by decide +kernel)) (goodIn_sub (fun _ h => List.mem_cons_of_mem _ (List.mem_append_right _ h)) (by decide +kernel))
set_option maxRecDepth 20000 in
theorem gX5_tell_X5_requireUnlike : GoodIn wsX5_tell (va_wsS RX5 96 yX5_requireUnlike wsX5_requireUnlike) := goodIn_app (goodIn_of _ (by decide +kernel)) ggX5_tell_X5_requireUnlike
set_option maxRecDepth 20000 in
theorem ggX5_tell_X5_requireRange : GoodIn wsX5_tell wsX5_requireRange := goodIn_ca (goodIn_r _ [18, 14, 15] (by decide +kernel) (by decide +kernel)) (goodIn_sub (fun _ h => List.mem_cons_of_mem _ (List.mem_append_right _ h)) (by decide +kernel))
set_option maxRecDepth 20000 in
theorem gX5_tell_X5_requireRange : GoodIn wsX5_tell (va_wsS RX5 53 yX5_requireRange wsX5_requireRange) := goodIn_app (goodIn_of _ (by decide +kernel)) ggX5_tell_X5_requireRange
theorem dX5_tell_0 : decode cX5_tell 0 = .ok (.aload_n 0, 1) := by decide +kernel
theorem dX5_tell_1 : decode cX5_tell 1 = .ok (.iload_n 1, 1) := by decide +kernel
theorem dX5_tell_2 : decode cX5_tell 2 = .ok (.invokevirtual 88, 3) := by decide +kernel
theorem dX5_tell_5 : decode cX5_tell 5 = .ok (.aload_n 0, 1) := by decide +kernel
theorem dX5_tell_6 : decode cX5_tell 6 = .ok (.iload_n 2, 1) := by decide +kernel
theorem dX5_tell_7 : decode cX5_tell 7 = .ok (.invokevirtual 88, 3) := by decide +kernel
theorem dX5_tell_10 : decode cX5_tell 10 = .ok (.iload_n 1, 1) := by decide +kernel
theorem dX5_tell_11 : decode cX5_tell 11 = .ok (.iload_n 2, 1) := by decide +kernel
theorem dX5_tell_12 : decode cX5_tell 12 = .ok (.invokestatic 96, 3) := by decide +kernel
theorem dX5_tell_15 : decode cX5_tell 15 = .ok (.iload_n 3, 1) := by decide +kernel
theorem dX5_tell_16 : decode cX5_tell 16 = .ok (.iconst 0, 1) := by decide +kernel
theorem dX5_tell_17 : decode cX5_tell 17 = .ok (.iconst 2, 1) := by decide +kernel
theorem dX5_tell_18 : decode cX5_tell 18 = .ok (.invokestatic 53, 3) := by decide +kernel
theorem dX5_tell_21 : decode cX5_tell 21 = .ok (.aload_n 0, 1) := by decide +kernel
theorem dX5_tell_22 : decode cX5_tell 22 = .ok (.getfield 23, 3) := by decide +kernel
theorem dX5_tell_25 : decode cX5_tell 25 = .ok (.getfield 100, 3) := by decide +kernel
theorem dX5_tell_28 : decode cX5_tell 28 = .ok (.iload_n 1, 1) := by decide +kernel
theorem dX5_tell_29 : decode cX5_tell 29 = .ok (.aaload, 1) := by decide +kernel
theorem dX5_tell_30 : decode cX5_tell 30 = .ok (.iload_n 2, 1) := by decide +kernel
theorem dX5_tell_31 : decode cX5_tell 31 = .ok (.iaload, 1) := by decide +kernel
theorem dX5_tell_32 : decode cX5_tell 32 = .ok (.istore 4, 2) := by decide +kernel
theorem dX5_tell_34 : decode cX5_tell 34 = .ok (.aload_n 0, 1) := by decide +kernel
theorem dX5_tell_35 : decode cX5_tell 35 = .ok (.getfield 23, 3) := by decide +kernel
theorem dX5_tell_38 : decode cX5_tell 38 = .ok (.getfield 100, 3) := by decide +kernel
theorem dX5_tell_41 : decode cX5_tell 41 = .ok (.iload_n 1, 1) := by decide +kernel
theorem dX5_tell_42 : decode cX5_tell 42 = .ok (.aaload, 1) := by decide +kernel
theorem dX5_tell_43 : decode cX5_tell 43 = .ok (.iload_n 2, 1) := by decide +kernel
theorem dX5_tell_44 : decode cX5_tell 44 = .ok (.iload_n 3, 1) := by decide +kernel
theorem dX5_tell_45 : decode cX5_tell 45 = .ok (.iastore, 1) := by decide +kernel
theorem dX5_tell_46 : decode cX5_tell 46 = .ok (.aload_n 0, 1) := by decide +kernel
theorem dX5_tell_47 : decode cX5_tell 47 = .ok (.getfield 23, 3) := by decide +kernel
theorem dX5_tell_50 : decode cX5_tell 50 = .ok (.getfield 100, 3) := by decide +kernel
theorem dX5_tell_53 : decode cX5_tell 53 = .ok (.iload_n 2, 1) := by decide +kernel
theorem dX5_tell_54 : decode cX5_tell 54 = .ok (.aaload, 1) := by decide +kernel
theorem dX5_tell_55 : decode cX5_tell 55 = .ok (.iload_n 1, 1) := by decide +kernel
theorem dX5_tell_56 : decode cX5_tell 56 = .ok (.iload_n 3, 1) := by decide +kernel
theorem dX5_tell_57 : decode cX5_tell 57 = .ok (.iastore, 1) := by decide +kernel
theorem dX5_tell_58 : decode cX5_tell 58 = .ok (.iload 4, 2) := by decide +kernel
theorem dX5_tell_60 : decode cX5_tell 60 = .ok (.ireturn, 1) := by decide +kernel
set_option maxRecDepth 20000 in
theorem ggX5_counts_X5_requireFind : GoodIn wsX5_counts wsX5_requireFind := goodIn_ca (goodIn_r _ [7, 8, 9, 1, 10, 28, 29, 30, 31, 32, 33, 34, 35, 36, 37, 38, 39, 40, 41] (by decide +kernel) (by decide +kernel)) (goodIn_sub (fun _ h => List.mem_cons_of_mem _ (List.mem_append_left _ (List.mem_append_right _ h))) (by decide +kernel))
set_option maxRecDepth 20000 in
theorem gX5_counts_X5_requireFind : GoodIn wsX5_counts (wsV RX5 88 RX5 yX5_requireFind wsX5_requireFind) := goodIn_app (goodIn_of _ (by decide +kernel)) ggX5_counts_X5_requireFind
set_option maxRecDepth 20000 in
theorem ggX5_counts_X5_requireDay : GoodIn wsX5_counts wsX5_requireDay := goodIn_ca (goodIn_r _ [13, 14, 15, 6, 16, 17, 18] (by decide +kernel) (by decide +kernel)) (goodIn_sub (fun _ h => List.mem_cons_of_mem _ (List.mem_append_right _ h)) (by decide +kernel))
set_option maxRecDepth 20000 in
theorem gX5_counts_X5_requireDay : GoodIn wsX5_counts (va_wsS RX5 104 yX5_requireDay wsX5_requireDay) := goodIn_app (goodIn_of _ (by decide +kernel)) ggX5_counts_X5_requireDay
set_option maxRecDepth 20000 in
theorem ggX5_counts_X0_standsOn : GoodIn wsX5_counts wsX0_standsOn := goodIn_r _ [23, 24, 25, 26, 27, 35, 36, 37, 38, 39, 40, 41, 42, 43] (by decide +kernel) (by decide +kernel)
set_option maxRecDepth 20000 in
theorem gX5_counts_X0_standsOn : GoodIn wsX5_counts (wsV RX5 107 RX0 yX0_standsOn wsX0_standsOn) := goodIn_app (goodIn_of _ (by decide +kernel)) ggX5_counts_X0_standsOn
theorem dX5_counts_0 : decode cX5_counts 0 = .ok (.aload_n 0, 1) := by decide +kernel
theorem dX5_counts_1 : decode cX5_counts 1 = .ok (.iload_n 1, 1) := by decide +kernel
theorem dX5_counts_2 : decode cX5_counts 2 = .ok (.invokevirtual 88, 3) := by decide +kernel
theorem dX5_counts_5 : decode cX5_counts 5 = .ok (.iload_n 2, 1) := by decide +kernel
theorem dX5_counts_6 : decode cX5_counts 6 = .ok (.invokestatic 104, 3) := by decide +kernel
theorem dX5_counts_9 : decode cX5_counts 9 = .ok (.aload_n 0, 1) := by decide +kernel
theorem dX5_counts_10 : decode cX5_counts 10 = .ok (.getfield 23, 3) := by decide +kernel
theorem dX5_counts_13 : decode cX5_counts 13 = .ok (.iload_n 1, 1) := by decide +kernel
theorem dX5_counts_14 : decode cX5_counts 14 = .ok (.iload_n 2, 1) := by decide +kernel
theorem dX5_counts_15 : decode cX5_counts 15 = .ok (.aload_n 0, 1) := by decide +kernel
theorem dX5_counts_16 : decode cX5_counts 16 = .ok (.getfield 16, 3) := by decide +kernel
theorem dX5_counts_19 : decode cX5_counts 19 = .ok (.invokevirtual 107, 3) := by decide +kernel
theorem dX5_counts_22 : decode cX5_counts 22 = .ok (.ireturn, 1) := by decide +kernel
set_option maxRecDepth 20000 in
theorem ggX5_things_X5_requireDay : GoodIn wsX5_things wsX5_requireDay := goodIn_ca (goodIn_r _ [7, 8, 9, 6, 10, 11, 12] (by decide +kernel) (by decide +kernel)) (goodIn_sub (fun _ h => List.mem_cons_of_mem _ (List.mem_append_right _ h)) (by decide +kernel))
set_option maxRecDepth 20000 in
theorem gX5_things_X5_requireDay : GoodIn wsX5_things (va_wsS RX5 104 yX5_requireDay wsX5_requireDay) := goodIn_app (goodIn_of _ (by decide +kernel)) ggX5_things_X5_requireDay
set_option maxRecDepth 20000 in
theorem ggX5_things_X3_sortFor : GoodIn wsX5_things wsX3_sortFor := goodIn_r _ [17, 18, 19, 20, 21, 22, 23, 24, 25, 26, 27, 28, 29, 30, 31, 32, 33, 16, 34, 35, 36, 37, 38, 39, 40, 41, 42, 43, 44, 45, 46, 47, 48, 49, 50, 51, 52, 53, 54, 55, 56, 57, 58, 59, 78, 79, 80, 71, 72, 73, 74, 75, 76, 77, 81, 82] (by decide +kernel) (by decide +kernel)
set_option maxRecDepth 20000 in
theorem gX5_things_X3_sortFor : GoodIn wsX5_things (wsV RX5 111 RX3 yX3_sortFor wsX3_sortFor) := goodIn_app (goodIn_of _ (by decide +kernel)) ggX5_things_X3_sortFor
set_option maxRecDepth 20000 in
theorem ggX5_things_X3_isThing : GoodIn wsX5_things wsX3_isThing := goodIn_r _ [63, 20, 78, 79, 80] (by decide +kernel) (by decide +kernel)
set_option maxRecDepth 20000 in
theorem gX5_things_X3_isThing : GoodIn wsX5_things (wsV RX5 114 RX3 yX3_isThing wsX3_isThing) := goodIn_app (goodIn_of _ (by decide +kernel)) ggX5_things_X3_isThing
theorem dX5_things_0 : decode cX5_things 0 = .ok (.iload_n 1, 1) := by decide +kernel
theorem dX5_things_1 : decode cX5_things 1 = .ok (.invokestatic 104, 3) := by decide +kernel
theorem dX5_things_4 : decode cX5_things 4 = .ok (.aload_n 0, 1) := by decide +kernel
theorem dX5_things_5 : decode cX5_things 5 = .ok (.getfield 46, 3) := by decide +kernel
theorem dX5_things_8 : decode cX5_things 8 = .ok (.iload_n 1, 1) := by decide +kernel
theorem dX5_things_9 : decode cX5_things 9 = .ok (.invokevirtual 111, 3) := by decide +kernel
theorem dX5_things_12 : decode cX5_things 12 = .ok (.iconst 0, 1) := by decide +kernel
theorem dX5_things_13 : decode cX5_things 13 = .ok (.istore_n 2, 1) := by decide +kernel
theorem dX5_things_14 : decode cX5_things 14 = .ok (.iconst 0, 1) := by decide +kernel
theorem dX5_things_15 : decode cX5_things 15 = .ok (.istore_n 3, 1) := by decide +kernel
theorem dX5_things_16 : decode cX5_things 16 = .ok (.iload_n 3, 1) := by decide +kernel
theorem dX5_things_17 : decode cX5_things 17 = .ok (.aload_n 0, 1) := by decide +kernel
theorem dX5_things_18 : decode cX5_things 18 = .ok (.getfield 23, 3) := by decide +kernel
theorem dX5_things_21 : decode cX5_things 21 = .ok (.getfield 72, 3) := by decide +kernel
theorem dX5_things_24 : decode cX5_things 24 = .ok (.if_icmp .ge 23, 3) := by decide +kernel
theorem dX5_things_27 : decode cX5_things 27 = .ok (.aload_n 0, 1) := by decide +kernel
theorem dX5_things_28 : decode cX5_things 28 = .ok (.getfield 46, 3) := by decide +kernel
theorem dX5_things_31 : decode cX5_things 31 = .ok (.iload_n 3, 1) := by decide +kernel
theorem dX5_things_32 : decode cX5_things 32 = .ok (.invokevirtual 114, 3) := by decide +kernel
theorem dX5_things_35 : decode cX5_things 35 = .ok (.ifCond .eq 6, 3) := by decide +kernel
theorem dX5_things_38 : decode cX5_things 38 = .ok (.iinc 2 1, 3) := by decide +kernel
theorem dX5_things_41 : decode cX5_things 41 = .ok (.iinc 3 1, 3) := by decide +kernel
theorem dX5_things_44 : decode cX5_things 44 = .ok (.goto (-28), 3) := by decide +kernel
theorem dX5_things_47 : decode cX5_things 47 = .ok (.iload_n 2, 1) := by decide +kernel
theorem dX5_things_48 : decode cX5_things 48 = .ok (.ireturn, 1) := by decide +kernel
set_option maxRecDepth 20000 in
theorem ggX5_thingOf_X5_requireFind : GoodIn wsX5_thingOf wsX5_requireFind := goodIn_ca (goodIn_r _ [7, 8, 9, 10, 11, 73, 74, 75, 76, 77, 78, 79, 83, 84, 85, 86, 87, 88, 89] (by decide +kernel) (by decide +kernel)) (goodIn_sub (fun _ h => List.mem_cons_of_mem _ (List.mem_append_left _ (List.mem_append_left _ (List.mem_append_right _ h)))) (by decide +kernel))
set_option maxRecDepth 20000 in
theorem gX5_thingOf_X5_requireFind : GoodIn wsX5_thingOf (wsV RX5 88 RX5 yX5_requireFind wsX5_requireFind) := goodIn_app (goodIn_of _ (by decide +kernel)) ggX5_thingOf_X5_requireFind
set_option maxRecDepth 20000 in
theorem ggX5_thingOf_X5_requireDay : GoodIn wsX5_thingOf wsX5_requireDay := goodIn_ca (goodIn_r _ [14, 15, 16, 6, 17, 18, 19] (by decide +kernel) (by decide +kernel)) (goodIn_sub (fun _ h => List.mem_cons_of_mem _ (List.mem_append_left _ (List.mem_append_right _ h))) (by decide +kernel))
set_option maxRecDepth 20000 in
theorem gX5_thingOf_X5_requireDay : GoodIn wsX5_thingOf (va_wsS RX5 104 yX5_requireDay wsX5_requireDay) := goodIn_app (goodIn_of _ (by decide +kernel)) ggX5_thingOf_X5_requireDay
set_option maxRecDepth 20000 in
theorem ggX5_thingOf_X3_sortFor : GoodIn wsX5_thingOf wsX3_sortFor := goodIn_r _ [24, 25, 26, 27, 28, 29, 30, 31, 32, 33, 34, 35, 36, 37, 38, 39, 40, 23, 41, 42, 43, 44, 45, 46, 47, 48, 49, 50, 51, 52, 53, 54, 55, 56, 57, 58, 59, 60, 61, 62, 63, 64, 65, 66, 80, 81, 82, 83, 84, 85, 86, 87, 88, 89, 90, 91] (by decide +kernel) (by decide +kernel)
set_option maxRecDepth 20000 in
theorem gX5_thingOf_X3_sortFor : GoodIn wsX5_thingOf (wsV RX5 111 RX3 yX3_sortFor wsX3_sortFor) := goodIn_app (goodIn_of _ (by decide +kernel)) ggX5_thingOf_X3_sortFor
set_option maxRecDepth 20000 in
theorem ggX5_thingOf_X5_requireCounting : GoodIn wsX5_thingOf wsX5_requireCounting := goodIn_ca (goodIn_r _ [70, 71, 72, 1, 2, 73, 74, 75, 76, 77, 78, 79, 80, 81, 82] (by decide +kernel) (by decide +kernel)) (goodIn_sub (fun _ h => List.mem_cons_of_mem _ (List.mem_append_right _ h)) (by decide +kernel))
set_option maxRecDepth 20000 in
theorem gX5_thingOf_X5_requireCounting : GoodIn wsX5_thingOf (wsV RX5 118 RX5 yX5_requireCounting wsX5_requireCounting) := goodIn_app (goodIn_of _ (by decide +kernel)) ggX5_thingOf_X5_requireCounting
theorem dX5_thingOf_0 : decode cX5_thingOf 0 = .ok (.aload_n 0, 1) := by decide +kernel
theorem dX5_thingOf_1 : decode cX5_thingOf 1 = .ok (.iload_n 1, 1) := by decide +kernel
theorem dX5_thingOf_2 : decode cX5_thingOf 2 = .ok (.invokevirtual 88, 3) := by decide +kernel
theorem dX5_thingOf_5 : decode cX5_thingOf 5 = .ok (.iload_n 2, 1) := by decide +kernel
theorem dX5_thingOf_6 : decode cX5_thingOf 6 = .ok (.invokestatic 104, 3) := by decide +kernel
theorem dX5_thingOf_9 : decode cX5_thingOf 9 = .ok (.aload_n 0, 1) := by decide +kernel
theorem dX5_thingOf_10 : decode cX5_thingOf 10 = .ok (.getfield 46, 3) := by decide +kernel
theorem dX5_thingOf_13 : decode cX5_thingOf 13 = .ok (.iload_n 2, 1) := by decide +kernel
theorem dX5_thingOf_14 : decode cX5_thingOf 14 = .ok (.invokevirtual 111, 3) := by decide +kernel
theorem dX5_thingOf_17 : decode cX5_thingOf 17 = .ok (.aload_n 0, 1) := by decide +kernel
theorem dX5_thingOf_18 : decode cX5_thingOf 18 = .ok (.iload_n 1, 1) := by decide +kernel
theorem dX5_thingOf_19 : decode cX5_thingOf 19 = .ok (.invokevirtual 118, 3) := by decide +kernel
theorem dX5_thingOf_22 : decode cX5_thingOf 22 = .ok (.aload_n 0, 1) := by decide +kernel
theorem dX5_thingOf_23 : decode cX5_thingOf 23 = .ok (.getfield 46, 3) := by decide +kernel
theorem dX5_thingOf_26 : decode cX5_thingOf 26 = .ok (.getfield 121, 3) := by decide +kernel
theorem dX5_thingOf_29 : decode cX5_thingOf 29 = .ok (.iload_n 1, 1) := by decide +kernel
theorem dX5_thingOf_30 : decode cX5_thingOf 30 = .ok (.iaload, 1) := by decide +kernel
theorem dX5_thingOf_31 : decode cX5_thingOf 31 = .ok (.ireturn, 1) := by decide +kernel
set_option maxRecDepth 20000 in
theorem ggX5_value_X5_requireFind : GoodIn wsX5_value wsX5_requireFind := goodIn_ca (goodIn_r _ [7, 8, 9, 10, 11, 91, 92, 93, 94, 95, 96, 97, 101, 102, 103, 104, 105, 106, 107] (by decide +kernel) (by decide +kernel)) (goodIn_sub (fun _ h => List.mem_cons_of_mem _ (List.mem_append_left _ (List.mem_append_left _ (List.mem_append_right _ h)))) (by decide +kernel))
set_option maxRecDepth 20000 in
theorem gX5_value_X5_requireFind : GoodIn wsX5_value (wsV RX5 88 RX5 yX5_requireFind wsX5_requireFind) := goodIn_app (goodIn_of _ (by decide +kernel)) ggX5_value_X5_requireFind
set_option maxRecDepth 20000 in
theorem ggX5_value_X5_requireAttribute : GoodIn wsX5_value wsX5_requireAttribute := goodIn_ca (goodIn_r _ [14, 15, 16, 6, 17, 18, 19] (by decide +kernel) (by decide +kernel)) (goodIn_sub (fun _ h => List.mem_cons_of_mem _ (List.mem_append_left _ (List.mem_append_right _ h))) (by decide +kernel))
set_option maxRecDepth 20000 in
theorem gX5_value_X5_requireAttribute : GoodIn wsX5_value (va_wsS RX5 124 yX5_requireAttribute wsX5_requireAttribute) := goodIn_app (goodIn_of _ (by decide +kernel)) ggX5_value_X5_requireAttribute
set_option maxRecDepth 20000 in
theorem ggX5_value_X5_requireDay : GoodIn wsX5_value wsX5_requireDay := goodIn_ca (goodIn_r _ [22, 15, 16, 6, 17, 18, 19] (by decide +kernel) (by decide +kernel)) (goodIn_sub (fun _ h => List.mem_cons_of_mem _ (List.mem_append_left _ (List.mem_append_right _ h))) (by decide +kernel))
set_option maxRecDepth 20000 in
theorem gX5_value_X5_requireDay : GoodIn wsX5_value (va_wsS RX5 104 yX5_requireDay wsX5_requireDay) := goodIn_app (goodIn_of _ (by decide +kernel)) ggX5_value_X5_requireDay
set_option maxRecDepth 20000 in
theorem ggX5_value_X3_sortFor : GoodIn wsX5_value wsX3_sortFor := goodIn_r _ [27, 28, 29, 30, 31, 32, 33, 34, 35, 36, 37, 38, 39, 40, 41, 42, 43, 26, 44, 45, 46, 47, 48, 49, 50, 51, 52, 53, 54, 55, 56, 57, 58, 59, 60, 61, 62, 63, 64, 65, 66, 67, 68, 69, 98, 99, 100, 101, 102, 103, 104, 105, 106, 107, 108, 109] (by decide +kernel) (by decide +kernel)
set_option maxRecDepth 20000 in
theorem gX5_value_X3_sortFor : GoodIn wsX5_value (wsV RX5 111 RX3 yX3_sortFor wsX3_sortFor) := goodIn_app (goodIn_of _ (by decide +kernel)) ggX5_value_X3_sortFor
set_option maxRecDepth 20000 in
theorem ggX5_value_X5_requireCounting : GoodIn wsX5_value wsX5_requireCounting := goodIn_ca (goodIn_r _ [73, 74, 75, 1, 2, 91, 92, 93, 94, 95, 96, 97, 98, 99, 100] (by decide +kernel) (by decide +kernel)) (goodIn_sub (fun _ h => List.mem_cons_of_mem _ (List.mem_append_right _ h)) (by decide +kernel))
set_option maxRecDepth 20000 in
theorem gX5_value_X5_requireCounting : GoodIn wsX5_value (wsV RX5 118 RX5 yX5_requireCounting wsX5_requireCounting) := goodIn_app (goodIn_of _ (by decide +kernel)) ggX5_value_X5_requireCounting
set_option maxRecDepth 20000 in
theorem ggX5_value_X3_attributeOf : GoodIn wsX5_value wsX3_attributeOf := goodIn_r _ [79, 28, 29, 80, 81, 82, 83, 26, 84, 30, 85, 86, 87, 88, 31, 89, 90, 98, 99, 100, 101, 102, 103, 104, 105, 106, 107, 108, 109] (by decide +kernel) (by decide +kernel)
set_option maxRecDepth 20000 in
theorem gX5_value_X3_attributeOf : GoodIn wsX5_value (wsV RX5 127 RX3 yX3_attributeOf wsX3_attributeOf) := goodIn_app (goodIn_of _ (by decide +kernel)) ggX5_value_X3_attributeOf
end
section
theorem dX5_value_0 : decode cX5_value 0 = .ok (.aload_n 0, 1) := by decide +kernel
theorem dX5_value_1 : decode cX5_value 1 = .ok (.iload_n 1, 1) := by decide +kernel
theorem dX5_value_2 : decode cX5_value 2 = .ok (.invokevirtual 88, 3) := by decide +kernel
theorem dX5_value_5 : decode cX5_value 5 = .ok (.iload_n 2, 1) := by decide +kernel
theorem dX5_value_6 : decode cX5_value 6 = .ok (.invokestatic 124, 3) := by decide +kernel
theorem dX5_value_9 : decode cX5_value 9 = .ok (.iload_n 3, 1) := by decide +kernel
theorem dX5_value_10 : decode cX5_value 10 = .ok (.invokestatic 104, 3) := by decide +kernel
theorem dX5_value_13 : decode cX5_value 13 = .ok (.aload_n 0, 1) := by decide +kernel
theorem dX5_value_14 : decode cX5_value 14 = .ok (.getfield 46, 3) := by decide +kernel
theorem dX5_value_17 : decode cX5_value 17 = .ok (.iload_n 3, 1) := by decide +kernel
theorem dX5_value_18 : decode cX5_value 18 = .ok (.invokevirtual 111, 3) := by decide +kernel
theorem dX5_value_21 : decode cX5_value 21 = .ok (.aload_n 0, 1) := by decide +kernel
theorem dX5_value_22 : decode cX5_value 22 = .ok (.iload_n 1, 1) := by decide +kernel
theorem dX5_value_23 : decode cX5_value 23 = .ok (.invokevirtual 118, 3) := by decide +kernel
theorem dX5_value_26 : decode cX5_value 26 = .ok (.aload_n 0, 1) := by decide +kernel
theorem dX5_value_27 : decode cX5_value 27 = .ok (.getfield 46, 3) := by decide +kernel
theorem dX5_value_30 : decode cX5_value 30 = .ok (.aload_n 0, 1) := by decide +kernel
theorem dX5_value_31 : decode cX5_value 31 = .ok (.getfield 46, 3) := by decide +kernel
theorem dX5_value_34 : decode cX5_value 34 = .ok (.getfield 121, 3) := by decide +kernel
theorem dX5_value_37 : decode cX5_value 37 = .ok (.iload_n 1, 1) := by decide +kernel
theorem dX5_value_38 : decode cX5_value 38 = .ok (.iaload, 1) := by decide +kernel
theorem dX5_value_39 : decode cX5_value 39 = .ok (.iload_n 2, 1) := by decide +kernel
theorem dX5_value_40 : decode cX5_value 40 = .ok (.invokevirtual 127, 3) := by decide +kernel
theorem dX5_value_43 : decode cX5_value 43 = .ok (.ireturn, 1) := by decide +kernel
set_option maxRecDepth 20000 in
theorem ggX5_disputed_X5_requireAttribute : GoodIn wsX5_disputed wsX5_requireAttribute := goodIn_ca (goodIn_r _ [7, 8, 9, 6, 10, 11, 12] (by decide +kernel) (by decide +kernel)) (goodIn_sub (fun _ h => List.mem_cons_of_mem _ (List.mem_append_right _ h)) (by decide +kernel))
set_option maxRecDepth 20000 in
theorem gX5_disputed_X5_requireAttribute : GoodIn wsX5_disputed (va_wsS RX5 124 yX5_requireAttribute wsX5_requireAttribute) := goodIn_app (goodIn_of _ (by decide +kernel)) ggX5_disputed_X5_requireAttribute
set_option maxRecDepth 20000 in
theorem ggX5_disputed_X5_requireDay : GoodIn wsX5_disputed wsX5_requireDay := goodIn_ca (goodIn_r _ [15, 8, 9, 6, 10, 11, 12] (by decide +kernel) (by decide +kernel)) (goodIn_sub (fun _ h => List.mem_cons_of_mem _ (List.mem_append_right _ h)) (by decide +kernel))
set_option maxRecDepth 20000 in
theorem gX5_disputed_X5_requireDay : GoodIn wsX5_disputed (va_wsS RX5 104 yX5_requireDay wsX5_requireDay) := goodIn_app (goodIn_of _ (by decide +kernel)) ggX5_disputed_X5_requireDay
set_option maxRecDepth 20000 in
theorem ggX5_disputed_X3_sortFor : GoodIn wsX5_disputed wsX3_sortFor := goodIn_r _ [20, 21, 22, 23, 24, 25, 26, 27, 28, 29, 30, 31, 32, 33, 34, 35, 36, 19, 37, 38, 39, 40, 41, 42, 43, 44, 45, 46, 47, 48, 49, 50, 51, 52, 53, 54, 55, 56, 57, 58, 59, 60, 61, 62, 90, 91, 92, 83, 84, 85, 86, 87, 88, 89, 93, 94] (by decide +kernel) (by decide +kernel)
set_option maxRecDepth 20000 in
theorem gX5_disputed_X3_sortFor : GoodIn wsX5_disputed (wsV RX5 111 RX3 yX3_sortFor wsX3_sortFor) := goodIn_app (goodIn_of _ (by decide +kernel)) ggX5_disputed_X3_sortFor
set_option maxRecDepth 20000 in
theorem ggX5_disputed_X3_isThing : GoodIn wsX5_disputed wsX3_isThing := goodIn_r _ [66, 23, 90, 91, 92] (by decide +kernel) (by decide +kernel)
set_option maxRecDepth 20000 in
theorem gX5_disputed_X3_isThing : GoodIn wsX5_disputed (wsV RX5 114 RX3 yX3_isThing wsX3_isThing) := goodIn_app (goodIn_of _ (by decide +kernel)) ggX5_disputed_X3_isThing
set_option maxRecDepth 20000 in
theorem ggX5_disputed_X3_hasUnlikeValues : GoodIn wsX5_disputed wsX3_hasUnlikeValues := goodIn_r _ [70, 21, 22, 71, 72, 73, 74, 19, 75, 23, 90, 91, 92, 83, 84, 85, 86, 87, 88, 89] (by decide +kernel) (by decide +kernel)
set_option maxRecDepth 20000 in
theorem gX5_disputed_X3_hasUnlikeValues : GoodIn wsX5_disputed (wsV RX5 130 RX3 yX3_hasUnlikeValues wsX3_hasUnlikeValues) := goodIn_app (goodIn_of _ (by decide +kernel)) ggX5_disputed_X3_hasUnlikeValues
theorem dX5_disputed_0 : decode cX5_disputed 0 = .ok (.iload_n 1, 1) := by decide +kernel
theorem dX5_disputed_1 : decode cX5_disputed 1 = .ok (.invokestatic 124, 3) := by decide +kernel
theorem dX5_disputed_4 : decode cX5_disputed 4 = .ok (.iload_n 2, 1) := by decide +kernel
theorem dX5_disputed_5 : decode cX5_disputed 5 = .ok (.invokestatic 104, 3) := by decide +kernel
theorem dX5_disputed_8 : decode cX5_disputed 8 = .ok (.aload_n 0, 1) := by decide +kernel
theorem dX5_disputed_9 : decode cX5_disputed 9 = .ok (.getfield 46, 3) := by decide +kernel
theorem dX5_disputed_12 : decode cX5_disputed 12 = .ok (.iload_n 2, 1) := by decide +kernel
theorem dX5_disputed_13 : decode cX5_disputed 13 = .ok (.invokevirtual 111, 3) := by decide +kernel
theorem dX5_disputed_16 : decode cX5_disputed 16 = .ok (.iconst 0, 1) := by decide +kernel
theorem dX5_disputed_17 : decode cX5_disputed 17 = .ok (.istore_n 3, 1) := by decide +kernel
theorem dX5_disputed_18 : decode cX5_disputed 18 = .ok (.iconst 0, 1) := by decide +kernel
theorem dX5_disputed_19 : decode cX5_disputed 19 = .ok (.istore 4, 2) := by decide +kernel
theorem dX5_disputed_21 : decode cX5_disputed 21 = .ok (.iload 4, 2) := by decide +kernel
theorem dX5_disputed_23 : decode cX5_disputed 23 = .ok (.aload_n 0, 1) := by decide +kernel
theorem dX5_disputed_24 : decode cX5_disputed 24 = .ok (.getfield 23, 3) := by decide +kernel
theorem dX5_disputed_27 : decode cX5_disputed 27 = .ok (.getfield 72, 3) := by decide +kernel
theorem dX5_disputed_30 : decode cX5_disputed 30 = .ok (.if_icmp .ge 37, 3) := by decide +kernel
theorem dX5_disputed_33 : decode cX5_disputed 33 = .ok (.aload_n 0, 1) := by decide +kernel
theorem dX5_disputed_34 : decode cX5_disputed 34 = .ok (.getfield 46, 3) := by decide +kernel
theorem dX5_disputed_37 : decode cX5_disputed 37 = .ok (.iload 4, 2) := by decide +kernel
theorem dX5_disputed_39 : decode cX5_disputed 39 = .ok (.invokevirtual 114, 3) := by decide +kernel
theorem dX5_disputed_42 : decode cX5_disputed 42 = .ok (.ifCond .eq 19, 3) := by decide +kernel
theorem dX5_disputed_45 : decode cX5_disputed 45 = .ok (.aload_n 0, 1) := by decide +kernel
theorem dX5_disputed_46 : decode cX5_disputed 46 = .ok (.getfield 46, 3) := by decide +kernel
theorem dX5_disputed_49 : decode cX5_disputed 49 = .ok (.iload 4, 2) := by decide +kernel
theorem dX5_disputed_51 : decode cX5_disputed 51 = .ok (.iload_n 1, 1) := by decide +kernel
theorem dX5_disputed_52 : decode cX5_disputed 52 = .ok (.invokevirtual 130, 3) := by decide +kernel
theorem dX5_disputed_55 : decode cX5_disputed 55 = .ok (.ifCond .eq 6, 3) := by decide +kernel
theorem dX5_disputed_58 : decode cX5_disputed 58 = .ok (.iinc 3 1, 3) := by decide +kernel
theorem dX5_disputed_61 : decode cX5_disputed 61 = .ok (.iinc 4 1, 3) := by decide +kernel
theorem dX5_disputed_64 : decode cX5_disputed 64 = .ok (.goto (-43), 3) := by decide +kernel
theorem dX5_disputed_67 : decode cX5_disputed 67 = .ok (.iload_n 3, 1) := by decide +kernel
theorem dX5_disputed_68 : decode cX5_disputed 68 = .ok (.ireturn, 1) := by decide +kernel
set_option maxRecDepth 20000 in
theorem ggX5_link_X5_requireFind : GoodIn wsX5_link wsX5_requireFind := goodIn_ca (goodIn_r _ [9, 10, 11, 12, 13, 31, 32, 33, 34, 35, 36, 37, 43, 44, 45, 46, 47, 48, 49] (by decide +kernel) (by decide +kernel)) (goodIn_sub (fun _ h => List.mem_cons_of_mem _ (List.mem_append_left _ (List.mem_append_right _ h))) (by decide +kernel))
set_option maxRecDepth 20000 in
theorem gX5_link_X5_requireFind : GoodIn wsX5_link (wsV RX5 88 RX5 yX5_requireFind wsX5_requireFind) := goodIn_app (goodIn_of _ (by decide +kernel)) ggX5_link_X5_requireFind
set_option maxRecDepth 20000 in
theorem ggX5_link_X5_requireUnlike : GoodIn wsX5_link wsX5_requireUnlike := goodIn_ca (goodIn_r _ [16, 17, 18] (by decide +kernel) (by decide +kernel)) (goodIn_sub (fun _ h => List.mem_cons_of_mem _ (List.mem_append_right _ h)) (by decide +kernel))
set_option maxRecDepth 20000 in
theorem gX5_link_X5_requireUnlike : GoodIn wsX5_link (va_wsS RX5 96 yX5_requireUnlike wsX5_requireUnlike) := goodIn_app (goodIn_of _ (by decide +kernel)) ggX5_link_X5_requireUnlike
set_option maxRecDepth 20000 in
theorem ggX5_link_X5_requireRange : GoodIn wsX5_link wsX5_requireRange := goodIn_ca (goodIn_r _ [21, 17, 18] (by decide +kernel) (by decide +kernel)) (goodIn_sub (fun _ h => List.mem_cons_of_mem _ (List.mem_append_right _ h)) (by decide +kernel))
set_option maxRecDepth 20000 in
theorem gX5_link_X5_requireRange : GoodIn wsX5_link (va_wsS RX5 53 yX5_requireRange wsX5_requireRange) := goodIn_app (goodIn_of _ (by decide +kernel)) ggX5_link_X5_requireRange
set_option maxRecDepth 20000 in
theorem ggX5_link_X1_add : GoodIn wsX5_link wsX1_add := goodIn_r _ [26, 27, 28, 29, 30, 38, 39, 40, 41, 42] (by decide +kernel) (by decide +kernel)
set_option maxRecDepth 20000 in
theorem gX5_link_X1_add : GoodIn wsX5_link (wsV RX5 137 RX1 yX1_add wsX1_add) := goodIn_app (goodIn_of _ (by decide +kernel)) ggX5_link_X1_add
theorem dX5_link_0 : decode cX5_link 0 = .ok (.aload_n 0, 1) := by decide +kernel
theorem dX5_link_1 : decode cX5_link 1 = .ok (.iload_n 1, 1) := by decide +kernel
theorem dX5_link_2 : decode cX5_link 2 = .ok (.invokevirtual 88, 3) := by decide +kernel
theorem dX5_link_5 : decode cX5_link 5 = .ok (.aload_n 0, 1) := by decide +kernel
theorem dX5_link_6 : decode cX5_link 6 = .ok (.iload_n 2, 1) := by decide +kernel
theorem dX5_link_7 : decode cX5_link 7 = .ok (.invokevirtual 88, 3) := by decide +kernel
theorem dX5_link_10 : decode cX5_link 10 = .ok (.iload_n 1, 1) := by decide +kernel
theorem dX5_link_11 : decode cX5_link 11 = .ok (.iload_n 2, 1) := by decide +kernel
theorem dX5_link_12 : decode cX5_link 12 = .ok (.invokestatic 96, 3) := by decide +kernel
theorem dX5_link_15 : decode cX5_link 15 = .ok (.iload_n 3, 1) := by decide +kernel
theorem dX5_link_16 : decode cX5_link 16 = .ok (.iconst 0, 1) := by decide +kernel
theorem dX5_link_17 : decode cX5_link 17 = .ok (.iconst 3, 1) := by decide +kernel
theorem dX5_link_18 : decode cX5_link 18 = .ok (.invokestatic 53, 3) := by decide +kernel
theorem dX5_link_21 : decode cX5_link 21 = .ok (.aload_n 0, 1) := by decide +kernel
theorem dX5_link_22 : decode cX5_link 22 = .ok (.getfield 30, 3) := by decide +kernel
theorem dX5_link_25 : decode cX5_link 25 = .ok (.getfield 134, 3) := by decide +kernel
theorem dX5_link_28 : decode cX5_link 28 = .ok (.bipush 40, 2) := by decide +kernel
theorem dX5_link_30 : decode cX5_link 30 = .ok (.if_icmp .lt 13, 3) := by decide +kernel
theorem dX5_link_33 : decode cX5_link 33 = .ok (.new 57, 3) := by decide +kernel
theorem dX5_link_36 : decode cX5_link 36 = .ok (.dup, 1) := by decide +kernel
theorem dX5_link_37 : decode cX5_link 37 = .ok (.ldc 135, 2) := by decide +kernel
theorem dX5_link_39 : decode cX5_link 39 = .ok (.invokespecial 61, 3) := by decide +kernel
theorem dX5_link_42 : decode cX5_link 42 = .ok (.athrow, 1) := by decide +kernel
theorem dX5_link_43 : decode cX5_link 43 = .ok (.aload_n 0, 1) := by decide +kernel
theorem dX5_link_44 : decode cX5_link 44 = .ok (.getfield 30, 3) := by decide +kernel
theorem dX5_link_47 : decode cX5_link 47 = .ok (.iload_n 1, 1) := by decide +kernel
theorem dX5_link_48 : decode cX5_link 48 = .ok (.iload_n 2, 1) := by decide +kernel
theorem dX5_link_49 : decode cX5_link 49 = .ok (.iload_n 3, 1) := by decide +kernel
theorem dX5_link_50 : decode cX5_link 50 = .ok (.invokevirtual 137, 3) := by decide +kernel
theorem dX5_link_53 : decode cX5_link 53 = .ok (.aload_n 0, 1) := by decide +kernel
theorem dX5_link_54 : decode cX5_link 54 = .ok (.getfield 30, 3) := by decide +kernel
theorem dX5_link_57 : decode cX5_link 57 = .ok (.getfield 134, 3) := by decide +kernel
theorem dX5_link_60 : decode cX5_link 60 = .ok (.ireturn, 1) := by decide +kernel
set_option maxRecDepth 20000 in
theorem ggX5_impact_X5_requireFind : GoodIn wsX5_impact wsX5_requireFind := goodIn_ca (goodIn_r _ [8, 9, 10, 11, 12, 101, 102, 103, 104, 105, 106, 107, 111, 112, 113, 114, 115, 116, 117] (by decide +kernel) (by decide +kernel)) (goodIn_sub (fun _ h => List.mem_cons_of_mem _ (List.mem_append_left _ (List.mem_append_left _ (List.mem_append_right _ h)))) (by decide +kernel))
set_option maxRecDepth 20000 in
theorem gX5_impact_X5_requireFind : GoodIn wsX5_impact (wsV RX5 88 RX5 yX5_requireFind wsX5_requireFind) := goodIn_app (goodIn_of _ (by decide +kernel)) ggX5_impact_X5_requireFind
set_option maxRecDepth 20000 in
theorem ggX5_impact_X5_requireDay : GoodIn wsX5_impact wsX5_requireDay := goodIn_ca (goodIn_r _ [15, 16, 17, 7, 18, 19, 20] (by decide +kernel) (by decide +kernel)) (goodIn_sub (fun _ h => List.mem_cons_of_mem _ (List.mem_append_left _ (List.mem_append_right _ h))) (by decide +kernel))
set_option maxRecDepth 20000 in
theorem gX5_impact_X5_requireDay : GoodIn wsX5_impact (va_wsS RX5 104 yX5_requireDay wsX5_requireDay) := goodIn_app (goodIn_of _ (by decide +kernel)) ggX5_impact_X5_requireDay
set_option maxRecDepth 20000 in
theorem ggX5_impact_X3_sortFor : GoodIn wsX5_impact wsX3_sortFor := goodIn_r _ [25, 26, 27, 28, 29, 30, 31, 32, 33, 34, 35, 36, 37, 38, 39, 40, 41, 24, 42, 43, 44, 45, 46, 47, 48, 49, 50, 51, 52, 53, 54, 55, 56, 57, 58, 59, 60, 61, 62, 63, 64, 65, 66, 67, 108, 109, 110, 111, 112, 113, 114, 115, 116, 117, 118, 119] (by decide +kernel) (by decide +kernel)
set_option maxRecDepth 20000 in
theorem gX5_impact_X3_sortFor : GoodIn wsX5_impact (wsV RX5 111 RX3 yX3_sortFor wsX3_sortFor) := goodIn_app (goodIn_of _ (by decide +kernel)) ggX5_impact_X3_sortFor
set_option maxRecDepth 20000 in
theorem ggX5_impact_X5_requireCounting : GoodIn wsX5_impact wsX5_requireCounting := goodIn_ca (goodIn_r _ [71, 72, 73, 1, 3, 101, 102, 103, 104, 105, 106, 107, 108, 109, 110] (by decide +kernel) (by decide +kernel)) (goodIn_sub (fun _ h => List.mem_cons_of_mem _ (List.mem_append_right _ h)) (by decide +kernel))
set_option maxRecDepth 20000 in
theorem gX5_impact_X5_requireCounting : GoodIn wsX5_impact (wsV RX5 118 RX5 yX5_requireCounting wsX5_requireCounting) := goodIn_app (goodIn_of _ (by decide +kernel)) ggX5_impact_X5_requireCounting
set_option maxRecDepth 20000 in
theorem ggX5_impact_X1_failFrom : GoodIn wsX5_impact wsX1_failFrom := goodIn_r _ [78, 79, 80, 81, 82, 77, 83, 84, 85, 86, 87, 88, 89, 90, 91, 92, 93, 94, 95, 96, 120, 121, 122, 123, 124, 108, 109, 110] (by decide +kernel) (by decide +kernel)
set_option maxRecDepth 20000 in
theorem gX5_impact_X1_failFrom : GoodIn wsX5_impact (wsV RX5 140 RX1 yX1_failFrom wsX1_failFrom) := goodIn_app (goodIn_of _ (by decide +kernel)) ggX5_impact_X1_failFrom
set_option maxRecDepth 20000 in
theorem ggX5_impact_X1_failures : GoodIn wsX5_impact wsX1_failures := goodIn_r _ [100, 79, 120, 121, 122, 123, 124] (by decide +kernel) (by decide +kernel)
set_option maxRecDepth 20000 in
theorem gX5_impact_X1_failures : GoodIn wsX5_impact (wsV RX5 144 RX1 yX1_failures wsX1_failures) := goodIn_app (goodIn_of _ (by decide +kernel)) ggX5_impact_X1_failures
theorem dX5_impact_0 : decode cX5_impact 0 = .ok (.aload_n 0, 1) := by decide +kernel
theorem dX5_impact_1 : decode cX5_impact 1 = .ok (.iload_n 1, 1) := by decide +kernel
theorem dX5_impact_2 : decode cX5_impact 2 = .ok (.invokevirtual 88, 3) := by decide +kernel
theorem dX5_impact_5 : decode cX5_impact 5 = .ok (.iload_n 2, 1) := by decide +kernel
theorem dX5_impact_6 : decode cX5_impact 6 = .ok (.invokestatic 104, 3) := by decide +kernel
theorem dX5_impact_9 : decode cX5_impact 9 = .ok (.aload_n 0, 1) := by decide +kernel
theorem dX5_impact_10 : decode cX5_impact 10 = .ok (.getfield 46, 3) := by decide +kernel
theorem dX5_impact_13 : decode cX5_impact 13 = .ok (.iload_n 2, 1) := by decide +kernel
theorem dX5_impact_14 : decode cX5_impact 14 = .ok (.invokevirtual 111, 3) := by decide +kernel
theorem dX5_impact_17 : decode cX5_impact 17 = .ok (.aload_n 0, 1) := by decide +kernel
theorem dX5_impact_18 : decode cX5_impact 18 = .ok (.iload_n 1, 1) := by decide +kernel
theorem dX5_impact_19 : decode cX5_impact 19 = .ok (.invokevirtual 118, 3) := by decide +kernel
theorem dX5_impact_22 : decode cX5_impact 22 = .ok (.aload_n 0, 1) := by decide +kernel
theorem dX5_impact_23 : decode cX5_impact 23 = .ok (.getfield 30, 3) := by decide +kernel
theorem dX5_impact_26 : decode cX5_impact 26 = .ok (.aload_n 0, 1) := by decide +kernel
theorem dX5_impact_27 : decode cX5_impact 27 = .ok (.getfield 46, 3) := by decide +kernel
theorem dX5_impact_30 : decode cX5_impact 30 = .ok (.getfield 121, 3) := by decide +kernel
theorem dX5_impact_33 : decode cX5_impact 33 = .ok (.iload_n 1, 1) := by decide +kernel
theorem dX5_impact_34 : decode cX5_impact 34 = .ok (.iaload, 1) := by decide +kernel
theorem dX5_impact_35 : decode cX5_impact 35 = .ok (.aload_n 0, 1) := by decide +kernel
theorem dX5_impact_36 : decode cX5_impact 36 = .ok (.getfield 46, 3) := by decide +kernel
theorem dX5_impact_39 : decode cX5_impact 39 = .ok (.invokevirtual 140, 3) := by decide +kernel
theorem dX5_impact_42 : decode cX5_impact 42 = .ok (.aload_n 0, 1) := by decide +kernel
theorem dX5_impact_43 : decode cX5_impact 43 = .ok (.getfield 30, 3) := by decide +kernel
theorem dX5_impact_46 : decode cX5_impact 46 = .ok (.invokevirtual 144, 3) := by decide +kernel
theorem dX5_impact_49 : decode cX5_impact 49 = .ok (.ireturn, 1) := by decide +kernel
set_option maxRecDepth 20000 in
theorem ggX5_failsWith_X5_requireFind : GoodIn wsX5_failsWith wsX5_requireFind := goodIn_ca (goodIn_r _ [9, 10, 11, 12, 13, 98, 99, 100, 101, 102, 103, 104, 113, 114, 115, 116, 117, 118, 119] (by decide +kernel) (by decide +kernel)) (goodIn_sub (fun _ h => List.mem_cons_of_mem _ (List.mem_append_left _ (List.mem_append_left _ (List.mem_append_right _ h)))) (by decide +kernel))
set_option maxRecDepth 20000 in
theorem gX5_failsWith_X5_requireFind : GoodIn wsX5_failsWith (wsV RX5 88 RX5 yX5_requireFind wsX5_requireFind) := goodIn_app (goodIn_of _ (by decide +kernel)) ggX5_failsWith_X5_requireFind
set_option maxRecDepth 20000 in
theorem ggX5_failsWith_X5_requireDay : GoodIn wsX5_failsWith wsX5_requireDay := goodIn_ca (goodIn_r _ [16, 17, 18, 8, 19, 20, 21] (by decide +kernel) (by decide +kernel)) (goodIn_sub (fun _ h => List.mem_cons_of_mem _ (List.mem_append_left _ (List.mem_append_right _ h))) (by decide +kernel))
set_option maxRecDepth 20000 in
theorem gX5_failsWith_X5_requireDay : GoodIn wsX5_failsWith (va_wsS RX5 104 yX5_requireDay wsX5_requireDay) := goodIn_app (goodIn_of _ (by decide +kernel)) ggX5_failsWith_X5_requireDay
set_option maxRecDepth 20000 in
theorem ggX5_failsWith_X3_sortFor : GoodIn wsX5_failsWith wsX3_sortFor := goodIn_r _ [26, 27, 28, 29, 30, 31, 32, 33, 34, 35, 36, 37, 38, 39, 40, 41, 42, 25, 43, 44, 45, 46, 47, 48, 49, 50, 51, 52, 53, 54, 55, 56, 57, 58, 59, 60, 61, 62, 63, 64, 65, 66, 67, 68, 105, 106, 107, 113, 114, 115, 116, 117, 118, 119, 120, 121] (by decide +kernel) (by decide +kernel)
set_option maxRecDepth 20000 in
theorem gX5_failsWith_X3_sortFor : GoodIn wsX5_failsWith (wsV RX5 111 RX3 yX3_sortFor wsX3_sortFor) := goodIn_app (goodIn_of _ (by decide +kernel)) ggX5_failsWith_X3_sortFor
set_option maxRecDepth 20000 in
theorem ggX5_failsWith_X5_requireCounting : GoodIn wsX5_failsWith wsX5_requireCounting := goodIn_ca (goodIn_r _ [72, 73, 74, 1, 3, 98, 99, 100, 101, 102, 103, 104, 105, 106, 107] (by decide +kernel) (by decide +kernel)) (goodIn_sub (fun _ h => List.mem_cons_of_mem _ (List.mem_append_right _ h)) (by decide +kernel))
set_option maxRecDepth 20000 in
theorem gX5_failsWith_X5_requireCounting : GoodIn wsX5_failsWith (wsV RX5 118 RX5 yX5_requireCounting wsX5_requireCounting) := goodIn_app (goodIn_of _ (by decide +kernel)) ggX5_failsWith_X5_requireCounting
set_option maxRecDepth 20000 in
theorem ggX5_failsWith_X1_failFrom : GoodIn wsX5_failsWith wsX1_failFrom := goodIn_r _ [79, 80, 81, 82, 83, 78, 84, 85, 86, 87, 88, 89, 90, 91, 92, 93, 94, 95, 96, 97, 108, 109, 110, 111, 112, 105, 106, 107] (by decide +kernel) (by decide +kernel)
set_option maxRecDepth 20000 in
theorem gX5_failsWith_X1_failFrom : GoodIn wsX5_failsWith (wsV RX5 140 RX1 yX1_failFrom wsX1_failFrom) := goodIn_app (goodIn_of _ (by decide +kernel)) ggX5_failsWith_X1_failFrom
theorem dX5_failsWith_0 : decode cX5_failsWith 0 = .ok (.aload_n 0, 1) := by decide +kernel
theorem dX5_failsWith_1 : decode cX5_failsWith 1 = .ok (.iload_n 1, 1) := by decide +kernel
theorem dX5_failsWith_2 : decode cX5_failsWith 2 = .ok (.invokevirtual 88, 3) := by decide +kernel
theorem dX5_failsWith_5 : decode cX5_failsWith 5 = .ok (.aload_n 0, 1) := by decide +kernel
theorem dX5_failsWith_6 : decode cX5_failsWith 6 = .ok (.iload_n 2, 1) := by decide +kernel
theorem dX5_failsWith_7 : decode cX5_failsWith 7 = .ok (.invokevirtual 88, 3) := by decide +kernel
theorem dX5_failsWith_10 : decode cX5_failsWith 10 = .ok (.iload_n 3, 1) := by decide +kernel
theorem dX5_failsWith_11 : decode cX5_failsWith 11 = .ok (.invokestatic 104, 3) := by decide +kernel
theorem dX5_failsWith_14 : decode cX5_failsWith 14 = .ok (.aload_n 0, 1) := by decide +kernel
theorem dX5_failsWith_15 : decode cX5_failsWith 15 = .ok (.getfield 46, 3) := by decide +kernel
theorem dX5_failsWith_18 : decode cX5_failsWith 18 = .ok (.iload_n 3, 1) := by decide +kernel
theorem dX5_failsWith_19 : decode cX5_failsWith 19 = .ok (.invokevirtual 111, 3) := by decide +kernel
theorem dX5_failsWith_22 : decode cX5_failsWith 22 = .ok (.aload_n 0, 1) := by decide +kernel
theorem dX5_failsWith_23 : decode cX5_failsWith 23 = .ok (.iload_n 1, 1) := by decide +kernel
theorem dX5_failsWith_24 : decode cX5_failsWith 24 = .ok (.invokevirtual 118, 3) := by decide +kernel
theorem dX5_failsWith_27 : decode cX5_failsWith 27 = .ok (.aload_n 0, 1) := by decide +kernel
theorem dX5_failsWith_28 : decode cX5_failsWith 28 = .ok (.iload_n 2, 1) := by decide +kernel
theorem dX5_failsWith_29 : decode cX5_failsWith 29 = .ok (.invokevirtual 118, 3) := by decide +kernel
theorem dX5_failsWith_32 : decode cX5_failsWith 32 = .ok (.aload_n 0, 1) := by decide +kernel
theorem dX5_failsWith_33 : decode cX5_failsWith 33 = .ok (.getfield 30, 3) := by decide +kernel
theorem dX5_failsWith_36 : decode cX5_failsWith 36 = .ok (.aload_n 0, 1) := by decide +kernel
theorem dX5_failsWith_37 : decode cX5_failsWith 37 = .ok (.getfield 46, 3) := by decide +kernel
theorem dX5_failsWith_40 : decode cX5_failsWith 40 = .ok (.getfield 121, 3) := by decide +kernel
theorem dX5_failsWith_43 : decode cX5_failsWith 43 = .ok (.iload_n 2, 1) := by decide +kernel
theorem dX5_failsWith_44 : decode cX5_failsWith 44 = .ok (.iaload, 1) := by decide +kernel
theorem dX5_failsWith_45 : decode cX5_failsWith 45 = .ok (.aload_n 0, 1) := by decide +kernel
theorem dX5_failsWith_46 : decode cX5_failsWith 46 = .ok (.getfield 46, 3) := by decide +kernel
theorem dX5_failsWith_49 : decode cX5_failsWith 49 = .ok (.invokevirtual 140, 3) := by decide +kernel
theorem dX5_failsWith_52 : decode cX5_failsWith 52 = .ok (.aload_n 0, 1) := by decide +kernel
theorem dX5_failsWith_53 : decode cX5_failsWith 53 = .ok (.getfield 30, 3) := by decide +kernel
theorem dX5_failsWith_56 : decode cX5_failsWith 56 = .ok (.getfield 148, 3) := by decide +kernel
theorem dX5_failsWith_59 : decode cX5_failsWith 59 = .ok (.aload_n 0, 1) := by decide +kernel
theorem dX5_failsWith_60 : decode cX5_failsWith 60 = .ok (.getfield 46, 3) := by decide +kernel
theorem dX5_failsWith_63 : decode cX5_failsWith 63 = .ok (.getfield 121, 3) := by decide +kernel
theorem dX5_failsWith_66 : decode cX5_failsWith 66 = .ok (.iload_n 1, 1) := by decide +kernel
theorem dX5_failsWith_67 : decode cX5_failsWith 67 = .ok (.iaload, 1) := by decide +kernel
theorem dX5_failsWith_68 : decode cX5_failsWith 68 = .ok (.baload, 1) := by decide +kernel
theorem dX5_failsWith_69 : decode cX5_failsWith 69 = .ok (.ireturn, 1) := by decide +kernel
set_option maxRecDepth 20000 in
theorem ggX5_wish_X5_requireRange : GoodIn wsX5_wish wsX5_requireRange := goodIn_ca (goodIn_r _ [8, 9, 10] (by decide +kernel) (by decide +kernel)) (goodIn_sub (fun _ h => List.mem_cons_of_mem _ (List.mem_append_right _ h)) (by decide +kernel))
set_option maxRecDepth 20000 in
theorem gX5_wish_X5_requireRange : GoodIn wsX5_wish (va_wsS RX5 53 yX5_requireRange wsX5_requireRange) := goodIn_app (goodIn_of _ (by decide +kernel)) ggX5_wish_X5_requireRange
set_option maxRecDepth 20000 in
theorem ggX5_wish_X5_requireAttribute : GoodIn wsX5_wish wsX5_requireAttribute := goodIn_ca (goodIn_r _ [13, 5, 6, 7, 8, 9, 10] (by decide +kernel) (by decide +kernel)) (goodIn_sub (fun _ h => List.mem_cons_of_mem _ (List.mem_append_right _ h)) (by decide +kernel))
set_option maxRecDepth 20000 in
theorem gX5_wish_X5_requireAttribute : GoodIn wsX5_wish (va_wsS RX5 124 yX5_requireAttribute wsX5_requireAttribute) := goodIn_app (goodIn_of _ (by decide +kernel)) ggX5_wish_X5_requireAttribute
set_option maxRecDepth 20000 in
theorem ggX5_wish_X4_add : GoodIn wsX5_wish wsX4_add := goodIn_r _ [18, 19, 20, 21, 22, 23, 31, 32, 33, 34, 35] (by decide +kernel) (by decide +kernel)
set_option maxRecDepth 20000 in
theorem gX5_wish_X4_add : GoodIn wsX5_wish (wsV RX5 154 RX4 yX4_add wsX4_add) := goodIn_app (goodIn_of _ (by decide +kernel)) ggX5_wish_X4_add
theorem dX5_wish_0 : decode cX5_wish 0 = .ok (.iload_n 1, 1) := by decide +kernel
theorem dX5_wish_1 : decode cX5_wish 1 = .ok (.iconst 0, 1) := by decide +kernel
theorem dX5_wish_2 : decode cX5_wish 2 = .ok (.iconst 2, 1) := by decide +kernel
theorem dX5_wish_3 : decode cX5_wish 3 = .ok (.invokestatic 53, 3) := by decide +kernel
theorem dX5_wish_6 : decode cX5_wish 6 = .ok (.iload_n 2, 1) := by decide +kernel
theorem dX5_wish_7 : decode cX5_wish 7 = .ok (.iconst 1, 1) := by decide +kernel
theorem dX5_wish_8 : decode cX5_wish 8 = .ok (.bipush 99, 2) := by decide +kernel
theorem dX5_wish_10 : decode cX5_wish 10 = .ok (.invokestatic 53, 3) := by decide +kernel
theorem dX5_wish_13 : decode cX5_wish 13 = .ok (.iload_n 3, 1) := by decide +kernel
theorem dX5_wish_14 : decode cX5_wish 14 = .ok (.invokestatic 124, 3) := by decide +kernel
theorem dX5_wish_17 : decode cX5_wish 17 = .ok (.iload 4, 2) := by decide +kernel
theorem dX5_wish_19 : decode cX5_wish 19 = .ok (.iconst 0, 1) := by decide +kernel
theorem dX5_wish_20 : decode cX5_wish 20 = .ok (.bipush 99, 2) := by decide +kernel
theorem dX5_wish_22 : decode cX5_wish 22 = .ok (.invokestatic 53, 3) := by decide +kernel
theorem dX5_wish_25 : decode cX5_wish 25 = .ok (.aload_n 0, 1) := by decide +kernel
theorem dX5_wish_26 : decode cX5_wish 26 = .ok (.getfield 37, 3) := by decide +kernel
theorem dX5_wish_29 : decode cX5_wish 29 = .ok (.getfield 151, 3) := by decide +kernel
theorem dX5_wish_32 : decode cX5_wish 32 = .ok (.bipush 20, 2) := by decide +kernel
theorem dX5_wish_34 : decode cX5_wish 34 = .ok (.if_icmp .lt 13, 3) := by decide +kernel
theorem dX5_wish_37 : decode cX5_wish 37 = .ok (.new 57, 3) := by decide +kernel
theorem dX5_wish_40 : decode cX5_wish 40 = .ok (.dup, 1) := by decide +kernel
theorem dX5_wish_41 : decode cX5_wish 41 = .ok (.ldc 152, 2) := by decide +kernel
theorem dX5_wish_43 : decode cX5_wish 43 = .ok (.invokespecial 61, 3) := by decide +kernel
theorem dX5_wish_46 : decode cX5_wish 46 = .ok (.athrow, 1) := by decide +kernel
theorem dX5_wish_47 : decode cX5_wish 47 = .ok (.aload_n 0, 1) := by decide +kernel
theorem dX5_wish_48 : decode cX5_wish 48 = .ok (.getfield 37, 3) := by decide +kernel
theorem dX5_wish_51 : decode cX5_wish 51 = .ok (.iload_n 1, 1) := by decide +kernel
theorem dX5_wish_52 : decode cX5_wish 52 = .ok (.iload_n 2, 1) := by decide +kernel
theorem dX5_wish_53 : decode cX5_wish 53 = .ok (.iload_n 3, 1) := by decide +kernel
theorem dX5_wish_54 : decode cX5_wish 54 = .ok (.iload 4, 2) := by decide +kernel
theorem dX5_wish_56 : decode cX5_wish 56 = .ok (.invokevirtual 154, 3) := by decide +kernel
theorem dX5_wish_59 : decode cX5_wish 59 = .ok (.ireturn, 1) := by decide +kernel
set_option maxRecDepth 20000 in
theorem ggX5_differing_X5_requireDay : GoodIn wsX5_differing wsX5_requireDay := goodIn_ca (goodIn_r _ [11, 12, 13, 10, 14, 15, 16] (by decide +kernel) (by decide +kernel)) (goodIn_sub (fun _ h => List.mem_cons_of_mem _ (List.mem_append_right _ h)) (by decide +kernel))
set_option maxRecDepth 20000 in
theorem gX5_differing_X5_requireDay : GoodIn wsX5_differing (va_wsS RX5 104 yX5_requireDay wsX5_requireDay) := goodIn_app (goodIn_of _ (by decide +kernel)) ggX5_differing_X5_requireDay
set_option maxRecDepth 20000 in
theorem ggX5_differing_X3_sortFor : GoodIn wsX5_differing wsX3_sortFor := goodIn_r _ [21, 22, 23, 24, 25, 26, 27, 28, 29, 30, 31, 32, 33, 34, 35, 36, 37, 20, 38, 39, 40, 41, 42, 43, 44, 45, 46, 47, 48, 49, 50, 51, 52, 53, 54, 55, 56, 57, 58, 59, 60, 61, 62, 63, 116, 117, 118, 109, 110, 111, 112, 113, 114, 115, 119, 120] (by decide +kernel) (by decide +kernel)
set_option maxRecDepth 20000 in
theorem gX5_differing_X3_sortFor : GoodIn wsX5_differing (wsV RX5 111 RX3 yX3_sortFor wsX3_sortFor) := goodIn_app (goodIn_of _ (by decide +kernel)) ggX5_differing_X3_sortFor
set_option maxRecDepth 20000 in
theorem ggX5_differing_X3_isThing : GoodIn wsX5_differing wsX3_isThing := goodIn_r _ [67, 24, 116, 117, 118] (by decide +kernel) (by decide +kernel)
set_option maxRecDepth 20000 in
theorem gX5_differing_X3_isThing : GoodIn wsX5_differing (wsV RX5 114 RX3 yX3_isThing wsX3_isThing) := goodIn_app (goodIn_of _ (by decide +kernel)) ggX5_differing_X3_isThing
set_option maxRecDepth 20000 in
theorem ggX5_differing_X4_isMissedBy : GoodIn wsX5_differing wsX4_isMissedBy := goodIn_r _ [72, 73, 74, 75, 76, 77, 78, 79, 20, 80, 22, 23, 24, 81, 82, 83, 84, 85, 86, 87, 88, 89, 90, 91, 92, 93, 94, 25, 95, 96, 104, 105, 106, 107, 108, 116, 117, 118, 109, 110, 111, 112, 113, 114, 115, 119, 120] (by decide +kernel) (by decide +kernel)
set_option maxRecDepth 20000 in
theorem gX5_differing_X4_isMissedBy : GoodIn wsX5_differing (wsV RX5 162 RX4 yX4_isMissedBy wsX4_isMissedBy) := goodIn_app (goodIn_of _ (by decide +kernel)) ggX5_differing_X4_isMissedBy
theorem dX5_differing_0 : decode cX5_differing 0 = .ok (.iload_n 1, 1) := by decide +kernel
theorem dX5_differing_1 : decode cX5_differing 1 = .ok (.ifCond .lt 14, 3) := by decide +kernel
theorem dX5_differing_4 : decode cX5_differing 4 = .ok (.iload_n 1, 1) := by decide +kernel
theorem dX5_differing_5 : decode cX5_differing 5 = .ok (.aload_n 0, 1) := by decide +kernel
theorem dX5_differing_6 : decode cX5_differing 6 = .ok (.getfield 37, 3) := by decide +kernel
theorem dX5_differing_9 : decode cX5_differing 9 = .ok (.getfield 151, 3) := by decide +kernel
theorem dX5_differing_12 : decode cX5_differing 12 = .ok (.if_icmp .lt 13, 3) := by decide +kernel
theorem dX5_differing_15 : decode cX5_differing 15 = .ok (.new 157, 3) := by decide +kernel
theorem dX5_differing_18 : decode cX5_differing 18 = .ok (.dup, 1) := by decide +kernel
theorem dX5_differing_19 : decode cX5_differing 19 = .ok (.ldc 159, 2) := by decide +kernel
theorem dX5_differing_21 : decode cX5_differing 21 = .ok (.invokespecial 161, 3) := by decide +kernel
theorem dX5_differing_24 : decode cX5_differing 24 = .ok (.athrow, 1) := by decide +kernel
theorem dX5_differing_25 : decode cX5_differing 25 = .ok (.iload_n 2, 1) := by decide +kernel
theorem dX5_differing_26 : decode cX5_differing 26 = .ok (.invokestatic 104, 3) := by decide +kernel
theorem dX5_differing_29 : decode cX5_differing 29 = .ok (.aload_n 0, 1) := by decide +kernel
theorem dX5_differing_30 : decode cX5_differing 30 = .ok (.getfield 46, 3) := by decide +kernel
theorem dX5_differing_33 : decode cX5_differing 33 = .ok (.iload_n 2, 1) := by decide +kernel
theorem dX5_differing_34 : decode cX5_differing 34 = .ok (.invokevirtual 111, 3) := by decide +kernel
theorem dX5_differing_37 : decode cX5_differing 37 = .ok (.iconst 0, 1) := by decide +kernel
theorem dX5_differing_38 : decode cX5_differing 38 = .ok (.istore_n 3, 1) := by decide +kernel
theorem dX5_differing_39 : decode cX5_differing 39 = .ok (.iconst 0, 1) := by decide +kernel
theorem dX5_differing_40 : decode cX5_differing 40 = .ok (.istore 4, 2) := by decide +kernel
theorem dX5_differing_42 : decode cX5_differing 42 = .ok (.iload 4, 2) := by decide +kernel
theorem dX5_differing_44 : decode cX5_differing 44 = .ok (.aload_n 0, 1) := by decide +kernel
theorem dX5_differing_45 : decode cX5_differing 45 = .ok (.getfield 23, 3) := by decide +kernel
theorem dX5_differing_48 : decode cX5_differing 48 = .ok (.getfield 72, 3) := by decide +kernel
theorem dX5_differing_51 : decode cX5_differing 51 = .ok (.if_icmp .ge 41, 3) := by decide +kernel
theorem dX5_differing_54 : decode cX5_differing 54 = .ok (.aload_n 0, 1) := by decide +kernel
theorem dX5_differing_55 : decode cX5_differing 55 = .ok (.getfield 46, 3) := by decide +kernel
theorem dX5_differing_58 : decode cX5_differing 58 = .ok (.iload 4, 2) := by decide +kernel
theorem dX5_differing_60 : decode cX5_differing 60 = .ok (.invokevirtual 114, 3) := by decide +kernel
theorem dX5_differing_63 : decode cX5_differing 63 = .ok (.ifCond .eq 23, 3) := by decide +kernel
theorem dX5_differing_66 : decode cX5_differing 66 = .ok (.aload_n 0, 1) := by decide +kernel
theorem dX5_differing_67 : decode cX5_differing 67 = .ok (.getfield 37, 3) := by decide +kernel
theorem dX5_differing_70 : decode cX5_differing 70 = .ok (.iload 4, 2) := by decide +kernel
theorem dX5_differing_72 : decode cX5_differing 72 = .ok (.iload_n 1, 1) := by decide +kernel
theorem dX5_differing_73 : decode cX5_differing 73 = .ok (.aload_n 0, 1) := by decide +kernel
theorem dX5_differing_74 : decode cX5_differing 74 = .ok (.getfield 46, 3) := by decide +kernel
theorem dX5_differing_77 : decode cX5_differing 77 = .ok (.invokevirtual 162, 3) := by decide +kernel
theorem dX5_differing_80 : decode cX5_differing 80 = .ok (.ifCond .eq 6, 3) := by decide +kernel
theorem dX5_differing_83 : decode cX5_differing 83 = .ok (.iinc 3 1, 3) := by decide +kernel
theorem dX5_differing_86 : decode cX5_differing 86 = .ok (.iinc 4 1, 3) := by decide +kernel
theorem dX5_differing_89 : decode cX5_differing 89 = .ok (.goto (-47), 3) := by decide +kernel
theorem dX5_differing_92 : decode cX5_differing 92 = .ok (.iload_n 3, 1) := by decide +kernel
theorem dX5_differing_93 : decode cX5_differing 93 = .ok (.ireturn, 1) := by decide +kernel
set_option maxRecDepth 20000 in
theorem ggX5_changed_X5_requireAttribute : GoodIn wsX5_changed wsX5_requireAttribute := goodIn_ca (goodIn_r _ [8, 9, 10, 7, 11, 12, 13] (by decide +kernel) (by decide +kernel)) (goodIn_sub (fun _ h => List.mem_cons_of_mem _ (List.mem_append_right _ h)) (by decide +kernel))
set_option maxRecDepth 20000 in
theorem gX5_changed_X5_requireAttribute : GoodIn wsX5_changed (va_wsS RX5 124 yX5_requireAttribute wsX5_requireAttribute) := goodIn_app (goodIn_of _ (by decide +kernel)) ggX5_changed_X5_requireAttribute
set_option maxRecDepth 20000 in
theorem ggX5_changed_X5_requireDay : GoodIn wsX5_changed wsX5_requireDay := goodIn_ca (goodIn_r _ [16, 9, 10, 7, 11, 12, 13] (by decide +kernel) (by decide +kernel)) (goodIn_sub (fun _ h => List.mem_cons_of_mem _ (List.mem_append_right _ h)) (by decide +kernel))
set_option maxRecDepth 20000 in
theorem gX5_changed_X5_requireDay : GoodIn wsX5_changed (va_wsS RX5 104 yX5_requireDay wsX5_requireDay) := goodIn_app (goodIn_of _ (by decide +kernel)) ggX5_changed_X5_requireDay
set_option maxRecDepth 20000 in
theorem ggX5_changed_X3_sortFor : GoodIn wsX5_changed wsX3_sortFor := goodIn_r _ [21, 22, 23, 24, 25, 26, 27, 28, 29, 30, 31, 32, 33, 34, 35, 36, 37, 20, 38, 39, 40, 41, 42, 43, 44, 45, 46, 47, 48, 49, 50, 51, 52, 53, 54, 55, 56, 57, 58, 59, 60, 61, 62, 63, 98, 99, 100, 91, 92, 93, 94, 95, 96, 97, 101, 102] (by decide +kernel) (by decide +kernel)
set_option maxRecDepth 20000 in
theorem gX5_changed_X3_sortFor : GoodIn wsX5_changed (wsV RX5 111 RX3 yX3_sortFor wsX3_sortFor) := goodIn_app (goodIn_of _ (by decide +kernel)) ggX5_changed_X3_sortFor
set_option maxRecDepth 20000 in
theorem ggX5_changed_X5_hasAnotherValue : GoodIn wsX5_changed wsX5_hasAnotherValue := goodIn_r _ [67, 1, 68, 2, 69, 70, 71, 20, 72, 22, 23, 73, 74, 75, 76, 77, 24, 78, 79, 80, 81, 25, 82, 83, 84, 85, 86, 87, 88, 89, 90, 98, 99, 100, 91, 92, 93, 94, 95, 96, 97, 101, 102] (by decide +kernel) (by decide +kernel)
set_option maxRecDepth 20000 in
theorem gX5_changed_X5_hasAnotherValue : GoodIn wsX5_changed (wsV RX5 166 RX5 yX5_hasAnotherValue wsX5_hasAnotherValue) := goodIn_app (goodIn_of _ (by decide +kernel)) ggX5_changed_X5_hasAnotherValue
theorem dX5_changed_0 : decode cX5_changed 0 = .ok (.iload_n 1, 1) := by decide +kernel
theorem dX5_changed_1 : decode cX5_changed 1 = .ok (.invokestatic 124, 3) := by decide +kernel
theorem dX5_changed_4 : decode cX5_changed 4 = .ok (.iload_n 2, 1) := by decide +kernel
theorem dX5_changed_5 : decode cX5_changed 5 = .ok (.invokestatic 104, 3) := by decide +kernel
theorem dX5_changed_8 : decode cX5_changed 8 = .ok (.iload_n 3, 1) := by decide +kernel
theorem dX5_changed_9 : decode cX5_changed 9 = .ok (.invokestatic 104, 3) := by decide +kernel
theorem dX5_changed_12 : decode cX5_changed 12 = .ok (.aload_n 0, 1) := by decide +kernel
theorem dX5_changed_13 : decode cX5_changed 13 = .ok (.getfield 46, 3) := by decide +kernel
theorem dX5_changed_16 : decode cX5_changed 16 = .ok (.iload_n 2, 1) := by decide +kernel
theorem dX5_changed_17 : decode cX5_changed 17 = .ok (.invokevirtual 111, 3) := by decide +kernel
theorem dX5_changed_20 : decode cX5_changed 20 = .ok (.aload_n 0, 1) := by decide +kernel
theorem dX5_changed_21 : decode cX5_changed 21 = .ok (.getfield 50, 3) := by decide +kernel
theorem dX5_changed_24 : decode cX5_changed 24 = .ok (.iload_n 3, 1) := by decide +kernel
theorem dX5_changed_25 : decode cX5_changed 25 = .ok (.invokevirtual 111, 3) := by decide +kernel
theorem dX5_changed_28 : decode cX5_changed 28 = .ok (.iconst 0, 1) := by decide +kernel
theorem dX5_changed_29 : decode cX5_changed 29 = .ok (.istore 4, 2) := by decide +kernel
theorem dX5_changed_31 : decode cX5_changed 31 = .ok (.iconst 0, 1) := by decide +kernel
theorem dX5_changed_32 : decode cX5_changed 32 = .ok (.istore 5, 2) := by decide +kernel
theorem dX5_changed_34 : decode cX5_changed 34 = .ok (.iload 5, 2) := by decide +kernel
theorem dX5_changed_36 : decode cX5_changed 36 = .ok (.aload_n 0, 1) := by decide +kernel
theorem dX5_changed_37 : decode cX5_changed 37 = .ok (.getfield 23, 3) := by decide +kernel
theorem dX5_changed_40 : decode cX5_changed 40 = .ok (.getfield 72, 3) := by decide +kernel
theorem dX5_changed_43 : decode cX5_changed 43 = .ok (.if_icmp .ge 22, 3) := by decide +kernel
theorem dX5_changed_46 : decode cX5_changed 46 = .ok (.aload_n 0, 1) := by decide +kernel
theorem dX5_changed_47 : decode cX5_changed 47 = .ok (.iload 5, 2) := by decide +kernel
theorem dX5_changed_49 : decode cX5_changed 49 = .ok (.iload_n 1, 1) := by decide +kernel
theorem dX5_changed_50 : decode cX5_changed 50 = .ok (.invokevirtual 166, 3) := by decide +kernel
theorem dX5_changed_53 : decode cX5_changed 53 = .ok (.ifCond .eq 6, 3) := by decide +kernel
theorem dX5_changed_56 : decode cX5_changed 56 = .ok (.iinc 4 1, 3) := by decide +kernel
theorem dX5_changed_59 : decode cX5_changed 59 = .ok (.iinc 5 1, 3) := by decide +kernel
theorem dX5_changed_62 : decode cX5_changed 62 = .ok (.goto (-28), 3) := by decide +kernel
theorem dX5_changed_65 : decode cX5_changed 65 = .ok (.iload 4, 2) := by decide +kernel
theorem dX5_changed_67 : decode cX5_changed 67 = .ok (.ireturn, 1) := by decide +kernel
set_option maxRecDepth 20000 in
theorem ggX5_hasAnotherValue_X3_attributeOf : GoodIn wsX5_hasAnotherValue wsX3_attributeOf := goodIn_r _ [8, 9, 10, 11, 12, 13, 14, 7, 15, 16, 17, 18, 19, 20, 21, 22, 23, 31, 32, 33, 34, 35, 36, 37, 38, 39, 40, 41, 42] (by decide +kernel) (by decide +kernel)
set_option maxRecDepth 20000 in
theorem gX5_hasAnotherValue_X3_attributeOf : GoodIn wsX5_hasAnotherValue (wsV RX5 127 RX3 yX3_attributeOf wsX3_attributeOf) := goodIn_app (goodIn_of _ (by decide +kernel)) ggX5_hasAnotherValue_X3_attributeOf
theorem dX5_hasAnotherValue_0 : decode cX5_hasAnotherValue 0 = .ok (.aload_n 0, 1) := by decide +kernel
theorem dX5_hasAnotherValue_1 : decode cX5_hasAnotherValue 1 = .ok (.getfield 46, 3) := by decide +kernel
theorem dX5_hasAnotherValue_4 : decode cX5_hasAnotherValue 4 = .ok (.getfield 121, 3) := by decide +kernel
theorem dX5_hasAnotherValue_7 : decode cX5_hasAnotherValue 7 = .ok (.iload_n 1, 1) := by decide +kernel
theorem dX5_hasAnotherValue_8 : decode cX5_hasAnotherValue 8 = .ok (.iaload, 1) := by decide +kernel
theorem dX5_hasAnotherValue_9 : decode cX5_hasAnotherValue 9 = .ok (.istore_n 3, 1) := by decide +kernel
theorem dX5_hasAnotherValue_10 : decode cX5_hasAnotherValue 10 = .ok (.aload_n 0, 1) := by decide +kernel
theorem dX5_hasAnotherValue_11 : decode cX5_hasAnotherValue 11 = .ok (.getfield 50, 3) := by decide +kernel
theorem dX5_hasAnotherValue_14 : decode cX5_hasAnotherValue 14 = .ok (.getfield 121, 3) := by decide +kernel
theorem dX5_hasAnotherValue_17 : decode cX5_hasAnotherValue 17 = .ok (.iload_n 1, 1) := by decide +kernel
theorem dX5_hasAnotherValue_18 : decode cX5_hasAnotherValue 18 = .ok (.iaload, 1) := by decide +kernel
theorem dX5_hasAnotherValue_19 : decode cX5_hasAnotherValue 19 = .ok (.istore 4, 2) := by decide +kernel
theorem dX5_hasAnotherValue_21 : decode cX5_hasAnotherValue 21 = .ok (.iload_n 3, 1) := by decide +kernel
theorem dX5_hasAnotherValue_22 : decode cX5_hasAnotherValue 22 = .ok (.iconst (-1), 1) := by decide +kernel
theorem dX5_hasAnotherValue_23 : decode cX5_hasAnotherValue 23 = .ok (.if_icmp .eq 35, 3) := by decide +kernel
theorem dX5_hasAnotherValue_26 : decode cX5_hasAnotherValue 26 = .ok (.iload 4, 2) := by decide +kernel
theorem dX5_hasAnotherValue_28 : decode cX5_hasAnotherValue 28 = .ok (.iconst (-1), 1) := by decide +kernel
theorem dX5_hasAnotherValue_29 : decode cX5_hasAnotherValue 29 = .ok (.if_icmp .eq 29, 3) := by decide +kernel
theorem dX5_hasAnotherValue_32 : decode cX5_hasAnotherValue 32 = .ok (.aload_n 0, 1) := by decide +kernel
theorem dX5_hasAnotherValue_33 : decode cX5_hasAnotherValue 33 = .ok (.getfield 46, 3) := by decide +kernel
theorem dX5_hasAnotherValue_36 : decode cX5_hasAnotherValue 36 = .ok (.iload_n 3, 1) := by decide +kernel
theorem dX5_hasAnotherValue_37 : decode cX5_hasAnotherValue 37 = .ok (.iload_n 2, 1) := by decide +kernel
theorem dX5_hasAnotherValue_38 : decode cX5_hasAnotherValue 38 = .ok (.invokevirtual 127, 3) := by decide +kernel
theorem dX5_hasAnotherValue_41 : decode cX5_hasAnotherValue 41 = .ok (.aload_n 0, 1) := by decide +kernel
theorem dX5_hasAnotherValue_42 : decode cX5_hasAnotherValue 42 = .ok (.getfield 50, 3) := by decide +kernel
theorem dX5_hasAnotherValue_45 : decode cX5_hasAnotherValue 45 = .ok (.iload 4, 2) := by decide +kernel
theorem dX5_hasAnotherValue_47 : decode cX5_hasAnotherValue 47 = .ok (.iload_n 2, 1) := by decide +kernel
theorem dX5_hasAnotherValue_48 : decode cX5_hasAnotherValue 48 = .ok (.invokevirtual 127, 3) := by decide +kernel
theorem dX5_hasAnotherValue_51 : decode cX5_hasAnotherValue 51 = .ok (.if_icmp .eq 7, 3) := by decide +kernel
theorem dX5_hasAnotherValue_54 : decode cX5_hasAnotherValue 54 = .ok (.iconst 1, 1) := by decide +kernel
theorem dX5_hasAnotherValue_55 : decode cX5_hasAnotherValue 55 = .ok (.goto 4, 3) := by decide +kernel
theorem dX5_hasAnotherValue_58 : decode cX5_hasAnotherValue 58 = .ok (.iconst 0, 1) := by decide +kernel
theorem dX5_hasAnotherValue_59 : decode cX5_hasAnotherValue 59 = .ok (.ireturn, 1) := by decide +kernel
theorem dX5_requireRange_0 : decode cX5_requireRange 0 = .ok (.iload_n 0, 1) := by decide +kernel
theorem dX5_requireRange_1 : decode cX5_requireRange 1 = .ok (.iload_n 1, 1) := by decide +kernel
theorem dX5_requireRange_2 : decode cX5_requireRange 2 = .ok (.if_icmp .lt 8, 3) := by decide +kernel
theorem dX5_requireRange_5 : decode cX5_requireRange 5 = .ok (.iload_n 0, 1) := by decide +kernel
theorem dX5_requireRange_6 : decode cX5_requireRange 6 = .ok (.iload_n 2, 1) := by decide +kernel
theorem dX5_requireRange_7 : decode cX5_requireRange 7 = .ok (.if_icmp .le 13, 3) := by decide +kernel
theorem dX5_requireRange_10 : decode cX5_requireRange 10 = .ok (.new 169, 3) := by decide +kernel
theorem dX5_requireRange_13 : decode cX5_requireRange 13 = .ok (.dup, 1) := by decide +kernel
theorem dX5_requireRange_14 : decode cX5_requireRange 14 = .ok (.ldc 171, 2) := by decide +kernel
theorem dX5_requireRange_16 : decode cX5_requireRange 16 = .ok (.invokespecial 173, 3) := by decide +kernel
theorem dX5_requireRange_19 : decode cX5_requireRange 19 = .ok (.athrow, 1) := by decide +kernel
theorem dX5_requireRange_20 : decode cX5_requireRange 20 = .ok (.return_, 1) := by decide +kernel
set_option maxRecDepth 20000 in
theorem ggX5_requireDay_X5_requireRange : GoodIn wsX5_requireDay wsX5_requireRange := goodIn_ca (goodIn_r _ [4, 5, 6] (by decide +kernel) (by decide +kernel)) (goodIn_sub (fun _ h => List.mem_cons_of_mem _ (List.mem_append_right _ h)) (by decide +kernel))
set_option maxRecDepth 20000 in
theorem gX5_requireDay_X5_requireRange : GoodIn wsX5_requireDay (va_wsS RX5 53 yX5_requireRange wsX5_requireRange) := goodIn_app (goodIn_of _ (by decide +kernel)) ggX5_requireDay_X5_requireRange
theorem dX5_requireDay_0 : decode cX5_requireDay 0 = .ok (.iload_n 0, 1) := by decide +kernel
theorem dX5_requireDay_1 : decode cX5_requireDay 1 = .ok (.iconst 0, 1) := by decide +kernel
theorem dX5_requireDay_2 : decode cX5_requireDay 2 = .ok (.sipush 9999, 3) := by decide +kernel
theorem dX5_requireDay_5 : decode cX5_requireDay 5 = .ok (.invokestatic 53, 3) := by decide +kernel
theorem dX5_requireDay_8 : decode cX5_requireDay 8 = .ok (.return_, 1) := by decide +kernel
set_option maxRecDepth 20000 in
theorem ggX5_requireAttribute_X5_requireRange : GoodIn wsX5_requireAttribute wsX5_requireRange := goodIn_ca (goodIn_r _ [4, 5, 6] (by decide +kernel) (by decide +kernel)) (goodIn_sub (fun _ h => List.mem_cons_of_mem _ (List.mem_append_right _ h)) (by decide +kernel))
set_option maxRecDepth 20000 in
theorem gX5_requireAttribute_X5_requireRange : GoodIn wsX5_requireAttribute (va_wsS RX5 53 yX5_requireRange wsX5_requireRange) := goodIn_app (goodIn_of _ (by decide +kernel)) ggX5_requireAttribute_X5_requireRange
theorem dX5_requireAttribute_0 : decode cX5_requireAttribute 0 = .ok (.iload_n 0, 1) := by decide +kernel
theorem dX5_requireAttribute_1 : decode cX5_requireAttribute 1 = .ok (.iconst 0, 1) := by decide +kernel
theorem dX5_requireAttribute_2 : decode cX5_requireAttribute 2 = .ok (.iconst 1, 1) := by decide +kernel
theorem dX5_requireAttribute_3 : decode cX5_requireAttribute 3 = .ok (.invokestatic 53, 3) := by decide +kernel
theorem dX5_requireAttribute_6 : decode cX5_requireAttribute 6 = .ok (.return_, 1) := by decide +kernel
theorem dX5_requireUnlike_0 : decode cX5_requireUnlike 0 = .ok (.iload_n 0, 1) := by decide +kernel
theorem dX5_requireUnlike_1 : decode cX5_requireUnlike 1 = .ok (.iload_n 1, 1) := by decide +kernel
theorem dX5_requireUnlike_2 : decode cX5_requireUnlike 2 = .ok (.if_icmp .ne 13, 3) := by decide +kernel
theorem dX5_requireUnlike_5 : decode cX5_requireUnlike 5 = .ok (.new 169, 3) := by decide +kernel
theorem dX5_requireUnlike_8 : decode cX5_requireUnlike 8 = .ok (.dup, 1) := by decide +kernel
theorem dX5_requireUnlike_9 : decode cX5_requireUnlike 9 = .ok (.ldc 174, 2) := by decide +kernel
theorem dX5_requireUnlike_11 : decode cX5_requireUnlike 11 = .ok (.invokespecial 173, 3) := by decide +kernel
theorem dX5_requireUnlike_14 : decode cX5_requireUnlike 14 = .ok (.athrow, 1) := by decide +kernel
theorem dX5_requireUnlike_15 : decode cX5_requireUnlike 15 = .ok (.return_, 1) := by decide +kernel
theorem dX5_requireFind_0 : decode cX5_requireFind 0 = .ok (.iload_n 1, 1) := by decide +kernel
theorem dX5_requireFind_1 : decode cX5_requireFind 1 = .ok (.ifCond .lt 14, 3) := by decide +kernel
theorem dX5_requireFind_4 : decode cX5_requireFind 4 = .ok (.iload_n 1, 1) := by decide +kernel
theorem dX5_requireFind_5 : decode cX5_requireFind 5 = .ok (.aload_n 0, 1) := by decide +kernel
theorem dX5_requireFind_6 : decode cX5_requireFind 6 = .ok (.getfield 23, 3) := by decide +kernel
theorem dX5_requireFind_9 : decode cX5_requireFind 9 = .ok (.getfield 72, 3) := by decide +kernel
theorem dX5_requireFind_12 : decode cX5_requireFind 12 = .ok (.if_icmp .lt 13, 3) := by decide +kernel
theorem dX5_requireFind_15 : decode cX5_requireFind 15 = .ok (.new 157, 3) := by decide +kernel
theorem dX5_requireFind_18 : decode cX5_requireFind 18 = .ok (.dup, 1) := by decide +kernel
theorem dX5_requireFind_19 : decode cX5_requireFind 19 = .ok (.ldc 176, 2) := by decide +kernel
theorem dX5_requireFind_21 : decode cX5_requireFind 21 = .ok (.invokespecial 161, 3) := by decide +kernel
theorem dX5_requireFind_24 : decode cX5_requireFind 24 = .ok (.athrow, 1) := by decide +kernel
theorem dX5_requireFind_25 : decode cX5_requireFind 25 = .ok (.return_, 1) := by decide +kernel
theorem dX5_requireCounting_0 : decode cX5_requireCounting 0 = .ok (.aload_n 0, 1) := by decide +kernel
theorem dX5_requireCounting_1 : decode cX5_requireCounting 1 = .ok (.getfield 46, 3) := by decide +kernel
theorem dX5_requireCounting_4 : decode cX5_requireCounting 4 = .ok (.getfield 121, 3) := by decide +kernel
theorem dX5_requireCounting_7 : decode cX5_requireCounting 7 = .ok (.iload_n 1, 1) := by decide +kernel
theorem dX5_requireCounting_8 : decode cX5_requireCounting 8 = .ok (.iaload, 1) := by decide +kernel
theorem dX5_requireCounting_9 : decode cX5_requireCounting 9 = .ok (.iconst (-1), 1) := by decide +kernel
theorem dX5_requireCounting_10 : decode cX5_requireCounting 10 = .ok (.if_icmp .ne 13, 3) := by decide +kernel
theorem dX5_requireCounting_13 : decode cX5_requireCounting 13 = .ok (.new 178, 3) := by decide +kernel
theorem dX5_requireCounting_16 : decode cX5_requireCounting 16 = .ok (.dup, 1) := by decide +kernel
theorem dX5_requireCounting_17 : decode cX5_requireCounting 17 = .ok (.ldc 180, 2) := by decide +kernel
theorem dX5_requireCounting_19 : decode cX5_requireCounting 19 = .ok (.invokespecial 182, 3) := by decide +kernel
theorem dX5_requireCounting_22 : decode cX5_requireCounting 22 = .ok (.athrow, 1) := by decide +kernel
theorem dX5_requireCounting_23 : decode cX5_requireCounting 23 = .ok (.return_, 1) := by decide +kernel
theorem dJ9_max_7cf53_0 : decode cJ9_max_7cf53 0 = .ok (.iload_n 0, 1) := by decide +kernel
theorem dJ9_max_7cf53_1 : decode cJ9_max_7cf53 1 = .ok (.iload_n 1, 1) := by decide +kernel
theorem dJ9_max_7cf53_2 : decode cJ9_max_7cf53 2 = .ok (.if_icmp .lt 7, 3) := by decide +kernel
theorem dJ9_max_7cf53_5 : decode cJ9_max_7cf53 5 = .ok (.iload_n 0, 1) := by decide +kernel
theorem dJ9_max_7cf53_6 : decode cJ9_max_7cf53 6 = .ok (.goto 4, 3) := by decide +kernel
theorem dJ9_max_7cf53_9 : decode cJ9_max_7cf53 9 = .ok (.iload_n 1, 1) := by decide +kernel
theorem dJ9_max_7cf53_10 : decode cJ9_max_7cf53 10 = .ok (.ireturn, 1) := by decide +kernel
theorem dJ9_min_7cf53_0 : decode cJ9_min_7cf53 0 = .ok (.iload_n 0, 1) := by decide +kernel
theorem dJ9_min_7cf53_1 : decode cJ9_min_7cf53 1 = .ok (.iload_n 1, 1) := by decide +kernel
theorem dJ9_min_7cf53_2 : decode cJ9_min_7cf53 2 = .ok (.if_icmp .gt 7, 3) := by decide +kernel
theorem dJ9_min_7cf53_5 : decode cJ9_min_7cf53 5 = .ok (.iload_n 0, 1) := by decide +kernel
theorem dJ9_min_7cf53_6 : decode cJ9_min_7cf53 6 = .ok (.goto 4, 3) := by decide +kernel
theorem dJ9_min_7cf53_9 : decode cJ9_min_7cf53 9 = .ok (.iload_n 1, 1) := by decide +kernel
theorem dJ9_min_7cf53_10 : decode cJ9_min_7cf53 10 = .ok (.ireturn, 1) := by decide +kernel
set_option maxRecDepth 20000 in
theorem ggL_passes_X5_pass : GoodIn wsL_passes wsX5_pass := goodIn_ca (goodIn_ca (goodIn_r _ [9, 10, 11, 12, 13, 14, 8, 15, 16, 17, 18, 19, 20, 21, 22, 23, 24] (by decide +kernel) (by decide +kernel)) (goodIn_sub (fun _ h => List.mem_cons_of_mem _ (List.mem_append_left _ (List.mem_append_right _ h))) (by decide +kernel))) (goodIn_sub (fun _ h => List.mem_cons_of_mem _ (List.mem_append_right _ h)) (by decide +kernel))
set_option maxRecDepth 20000 in
theorem gL_passes_X5_pass : GoodIn wsL_passes (wsV RL 7 RX5 yX5_pass wsX5_pass) := goodIn_app (goodIn_of _ (by decide +kernel)) ggL_passes_X5_pass
theorem dL_passes_0 : decode cL_passes 0 = .ok (.aload_n 0, 1) := by decide +kernel
theorem dL_passes_1 : decode cL_passes 1 = .ok (.iload_n 1, 1) := by decide +kernel
theorem dL_passes_2 : decode cL_passes 2 = .ok (.invokevirtual 7, 3) := by decide +kernel
theorem dL_passes_5 : decode cL_passes 5 = .ok (.ireturn, 1) := by decide +kernel
theorem dL_passes_6 : decode cL_passes 6 = .ok (.astore_n 2, 1) := by decide +kernel
theorem dL_passes_7 : decode cL_passes 7 = .ok (.ldc 15, 2) := by decide +kernel
theorem dL_passes_9 : decode cL_passes 9 = .ok (.ireturn, 1) := by decide +kernel
theorem dL_passes_10 : decode cL_passes 10 = .ok (.astore_n 2, 1) := by decide +kernel
theorem dL_passes_11 : decode cL_passes 11 = .ok (.ldc 18, 2) := by decide +kernel
theorem dL_passes_13 : decode cL_passes 13 = .ok (.ireturn, 1) := by decide +kernel
set_option maxRecDepth 20000 in
theorem ggL_terms_X5_setTerm : GoodIn wsL_terms wsX5_setTerm := goodIn_ca (goodIn_r _ [7, 8, 9, 10, 11, 6, 12, 13, 14, 15, 16, 17, 18, 19, 20, 21, 22, 23] (by decide +kernel) (by decide +kernel)) (goodIn_sub (fun _ h => List.mem_cons_of_mem _ (List.mem_append_right _ h)) (by decide +kernel))
set_option maxRecDepth 20000 in
theorem gL_terms_X5_setTerm : GoodIn wsL_terms (wsV RL 19 RX5 yX5_setTerm wsX5_setTerm) := goodIn_app (goodIn_of _ (by decide +kernel)) ggL_terms_X5_setTerm
theorem dL_terms_0 : decode cL_terms 0 = .ok (.aload_n 0, 1) := by decide +kernel
theorem dL_terms_1 : decode cL_terms 1 = .ok (.iload_n 1, 1) := by decide +kernel
theorem dL_terms_2 : decode cL_terms 2 = .ok (.iload_n 2, 1) := by decide +kernel
theorem dL_terms_3 : decode cL_terms 3 = .ok (.invokevirtual 19, 3) := by decide +kernel
theorem dL_terms_6 : decode cL_terms 6 = .ok (.ireturn, 1) := by decide +kernel
theorem dL_terms_7 : decode cL_terms 7 = .ok (.astore_n 3, 1) := by decide +kernel
theorem dL_terms_8 : decode cL_terms 8 = .ok (.ldc 15, 2) := by decide +kernel
theorem dL_terms_10 : decode cL_terms 10 = .ok (.ireturn, 1) := by decide +kernel
set_option maxRecDepth 20000 in
theorem ggL_firsts_X5_putFirst : GoodIn wsL_firsts wsX5_putFirst := goodIn_ca (goodIn_r _ [7, 8, 9, 10, 6, 11, 12, 13, 14, 15, 16, 17, 18, 19, 20, 21, 22, 23, 24, 25, 26, 27, 28] (by decide +kernel) (by decide +kernel)) (goodIn_sub (fun _ h => List.mem_cons_of_mem _ (List.mem_append_right _ h)) (by decide +kernel))
set_option maxRecDepth 20000 in
theorem gL_firsts_X5_putFirst : GoodIn wsL_firsts (wsV RL 23 RX5 yX5_putFirst wsX5_putFirst) := goodIn_app (goodIn_of _ (by decide +kernel)) ggL_firsts_X5_putFirst
theorem dL_firsts_0 : decode cL_firsts 0 = .ok (.aload_n 0, 1) := by decide +kernel
theorem dL_firsts_1 : decode cL_firsts 1 = .ok (.iload_n 1, 1) := by decide +kernel
theorem dL_firsts_2 : decode cL_firsts 2 = .ok (.invokevirtual 23, 3) := by decide +kernel
theorem dL_firsts_5 : decode cL_firsts 5 = .ok (.ireturn, 1) := by decide +kernel
theorem dL_firsts_6 : decode cL_firsts 6 = .ok (.astore_n 2, 1) := by decide +kernel
theorem dL_firsts_7 : decode cL_firsts 7 = .ok (.ldc 15, 2) := by decide +kernel
theorem dL_firsts_9 : decode cL_firsts 9 = .ok (.ireturn, 1) := by decide +kernel
set_option maxRecDepth 20000 in
theorem ggL_finds_X5_find : GoodIn wsL_finds wsX5_find := goodIn_ca (goodIn_ca (goodIn_r _ [9, 10, 11, 12, 13, 14, 15, 16, 8, 17, 18, 19, 20, 21, 22, 23, 24, 25, 26, 27, 28, 29, 30, 31, 32, 33, 34, 35, 36, 37, 38, 39, 40, 41, 42, 43, 44, 45, 46, 47, 48, 49, 50, 51] (by decide +kernel) (by decide +kernel)) (goodIn_sub (fun _ h => List.mem_cons_of_mem _ (List.mem_append_left _ (List.mem_append_right _ h))) (by decide +kernel))) (goodIn_sub (fun _ h => List.mem_cons_of_mem _ (List.mem_append_right _ h)) (by decide +kernel))
set_option maxRecDepth 20000 in
theorem gL_finds_X5_find : GoodIn wsL_finds (wsV RL 26 RX5 yX5_find wsX5_find) := goodIn_app (goodIn_of _ (by decide +kernel)) ggL_finds_X5_find
theorem dL_finds_0 : decode cL_finds 0 = .ok (.aload_n 0, 1) := by decide +kernel
theorem dL_finds_1 : decode cL_finds 1 = .ok (.iload_n 1, 1) := by decide +kernel
theorem dL_finds_2 : decode cL_finds 2 = .ok (.iload_n 2, 1) := by decide +kernel
theorem dL_finds_3 : decode cL_finds 3 = .ok (.iload_n 3, 1) := by decide +kernel
theorem dL_finds_4 : decode cL_finds 4 = .ok (.iload 4, 2) := by decide +kernel
theorem dL_finds_6 : decode cL_finds 6 = .ok (.iload 5, 2) := by decide +kernel
theorem dL_finds_8 : decode cL_finds 8 = .ok (.iload 6, 2) := by decide +kernel
theorem dL_finds_10 : decode cL_finds 10 = .ok (.invokevirtual 26, 3) := by decide +kernel
theorem dL_finds_13 : decode cL_finds 13 = .ok (.ireturn, 1) := by decide +kernel
theorem dL_finds_14 : decode cL_finds 14 = .ok (.astore 7, 2) := by decide +kernel
theorem dL_finds_16 : decode cL_finds 16 = .ok (.ldc 15, 2) := by decide +kernel
theorem dL_finds_18 : decode cL_finds 18 = .ok (.ireturn, 1) := by decide +kernel
theorem dL_finds_19 : decode cL_finds 19 = .ok (.astore 7, 2) := by decide +kernel
theorem dL_finds_21 : decode cL_finds 21 = .ok (.ldc 18, 2) := by decide +kernel
theorem dL_finds_23 : decode cL_finds 23 = .ok (.ireturn, 1) := by decide +kernel
set_option maxRecDepth 20000 in
theorem ggL_strikes_X5_strike : GoodIn wsL_strikes wsX5_strike := goodIn_ca (goodIn_r _ [7, 8, 9, 10, 11, 12, 6, 13, 14, 15, 16, 17, 18, 19, 20, 21, 22, 23, 24, 25, 26, 27, 28, 29, 30] (by decide +kernel) (by decide +kernel)) (goodIn_sub (fun _ h => List.mem_cons_of_mem _ (List.mem_append_right _ h)) (by decide +kernel))
set_option maxRecDepth 20000 in
theorem gL_strikes_X5_strike : GoodIn wsL_strikes (wsV RL 30 RX5 yX5_strike wsX5_strike) := goodIn_app (goodIn_of _ (by decide +kernel)) ggL_strikes_X5_strike
theorem dL_strikes_0 : decode cL_strikes 0 = .ok (.aload_n 0, 1) := by decide +kernel
theorem dL_strikes_1 : decode cL_strikes 1 = .ok (.iload_n 1, 1) := by decide +kernel
theorem dL_strikes_2 : decode cL_strikes 2 = .ok (.invokevirtual 30, 3) := by decide +kernel
theorem dL_strikes_5 : decode cL_strikes 5 = .ok (.ifCond .eq 7, 3) := by decide +kernel
theorem dL_strikes_8 : decode cL_strikes 8 = .ok (.iconst 1, 1) := by decide +kernel
theorem dL_strikes_9 : decode cL_strikes 9 = .ok (.goto 4, 3) := by decide +kernel
theorem dL_strikes_12 : decode cL_strikes 12 = .ok (.iconst 0, 1) := by decide +kernel
theorem dL_strikes_13 : decode cL_strikes 13 = .ok (.ireturn, 1) := by decide +kernel
theorem dL_strikes_14 : decode cL_strikes 14 = .ok (.astore_n 2, 1) := by decide +kernel
theorem dL_strikes_15 : decode cL_strikes 15 = .ok (.ldc 36, 2) := by decide +kernel
theorem dL_strikes_17 : decode cL_strikes 17 = .ok (.ireturn, 1) := by decide +kernel
set_option maxRecDepth 20000 in
theorem ggL_tells_X5_tell : GoodIn wsL_tells wsX5_tell := goodIn_ca (goodIn_ca (goodIn_r _ [9, 10, 11, 12, 13, 14, 8, 15, 16, 17, 18, 19, 20, 21, 22, 23, 24, 25, 26, 27, 28, 29, 30, 31, 32, 33, 34, 35, 36, 37, 38, 39, 40] (by decide +kernel) (by decide +kernel)) (goodIn_sub (fun _ h => List.mem_cons_of_mem _ (List.mem_append_left _ (List.mem_append_right _ h))) (by decide +kernel))) (goodIn_sub (fun _ h => List.mem_cons_of_mem _ (List.mem_append_right _ h)) (by decide +kernel))
set_option maxRecDepth 20000 in
theorem gL_tells_X5_tell : GoodIn wsL_tells (wsV RL 37 RX5 yX5_tell wsX5_tell) := goodIn_app (goodIn_of _ (by decide +kernel)) ggL_tells_X5_tell
theorem dL_tells_0 : decode cL_tells 0 = .ok (.aload_n 0, 1) := by decide +kernel
theorem dL_tells_1 : decode cL_tells 1 = .ok (.iload_n 1, 1) := by decide +kernel
theorem dL_tells_2 : decode cL_tells 2 = .ok (.iload_n 2, 1) := by decide +kernel
theorem dL_tells_3 : decode cL_tells 3 = .ok (.iload_n 3, 1) := by decide +kernel
theorem dL_tells_4 : decode cL_tells 4 = .ok (.invokevirtual 37, 3) := by decide +kernel
theorem dL_tells_7 : decode cL_tells 7 = .ok (.ireturn, 1) := by decide +kernel
theorem dL_tells_8 : decode cL_tells 8 = .ok (.astore 4, 2) := by decide +kernel
theorem dL_tells_10 : decode cL_tells 10 = .ok (.ldc 36, 2) := by decide +kernel
theorem dL_tells_12 : decode cL_tells 12 = .ok (.ireturn, 1) := by decide +kernel
theorem dL_tells_13 : decode cL_tells 13 = .ok (.astore 4, 2) := by decide +kernel
theorem dL_tells_15 : decode cL_tells 15 = .ok (.ldc 15, 2) := by decide +kernel
theorem dL_tells_17 : decode cL_tells 17 = .ok (.ireturn, 1) := by decide +kernel
set_option maxRecDepth 20000 in
theorem ggL_counts_X5_counts : GoodIn wsL_counts wsX5_counts := goodIn_ca (goodIn_ca (goodIn_r _ [9, 10, 11, 12, 13, 14, 8, 15, 16, 17, 18, 19, 20, 21, 22, 23, 24, 25, 26, 27, 28, 29, 30, 31, 32, 33, 34, 35, 36, 37, 38, 39, 40, 41, 42, 43, 44, 45, 46, 47, 48, 49, 50, 51] (by decide +kernel) (by decide +kernel)) (goodIn_sub (fun _ h => List.mem_cons_of_mem _ (List.mem_append_left _ (List.mem_append_right _ h))) (by decide +kernel))) (goodIn_sub (fun _ h => List.mem_cons_of_mem _ (List.mem_append_right _ h)) (by decide +kernel))
set_option maxRecDepth 20000 in
theorem gL_counts_X5_counts : GoodIn wsL_counts (wsV RL 41 RX5 yX5_counts wsX5_counts) := goodIn_app (goodIn_of _ (by decide +kernel)) ggL_counts_X5_counts
theorem dL_counts_0 : decode cL_counts 0 = .ok (.aload_n 0, 1) := by decide +kernel
theorem dL_counts_1 : decode cL_counts 1 = .ok (.iload_n 1, 1) := by decide +kernel
theorem dL_counts_2 : decode cL_counts 2 = .ok (.iload_n 2, 1) := by decide +kernel
theorem dL_counts_3 : decode cL_counts 3 = .ok (.invokevirtual 41, 3) := by decide +kernel
theorem dL_counts_6 : decode cL_counts 6 = .ok (.ifCond .eq 7, 3) := by decide +kernel
theorem dL_counts_9 : decode cL_counts 9 = .ok (.iconst 1, 1) := by decide +kernel
theorem dL_counts_10 : decode cL_counts 10 = .ok (.goto 4, 3) := by decide +kernel
theorem dL_counts_13 : decode cL_counts 13 = .ok (.iconst 0, 1) := by decide +kernel
theorem dL_counts_14 : decode cL_counts 14 = .ok (.ireturn, 1) := by decide +kernel
theorem dL_counts_15 : decode cL_counts 15 = .ok (.astore_n 3, 1) := by decide +kernel
theorem dL_counts_16 : decode cL_counts 16 = .ok (.ldc 36, 2) := by decide +kernel
theorem dL_counts_18 : decode cL_counts 18 = .ok (.ireturn, 1) := by decide +kernel
theorem dL_counts_19 : decode cL_counts 19 = .ok (.astore_n 3, 1) := by decide +kernel
theorem dL_counts_20 : decode cL_counts 20 = .ok (.ldc 15, 2) := by decide +kernel
theorem dL_counts_22 : decode cL_counts 22 = .ok (.ireturn, 1) := by decide +kernel
set_option maxRecDepth 20000 in
theorem ggL_things_X5_things : GoodIn wsL_things wsX5_things := goodIn_ca (goodIn_r _ [7, 8, 9, 10, 11, 12, 6, 13, 14, 15, 16, 17, 18, 19, 20, 21, 22, 23, 24, 25, 26, 27, 28, 29, 30, 31, 32, 33, 34, 35, 36, 37, 38, 39, 40, 41, 42, 43, 44, 45, 46, 47, 48, 49, 50, 51, 52, 53, 54, 55, 56, 57, 58, 59, 60, 61, 62, 63, 64, 65, 66, 67, 68, 69, 70, 71, 72, 73, 74, 75, 76, 77, 78, 79, 80, 81, 82, 83, 84, 85, 86, 87, 88] (by decide +kernel) (by decide +kernel)) (goodIn_sub (fun _ h => List.mem_cons_of_mem _ (List.mem_append_right _ h)) (by decide +kernel))
set_option maxRecDepth 20000 in
theorem gL_things_X5_things : GoodIn wsL_things (wsV RL 45 RX5 yX5_things wsX5_things) := goodIn_app (goodIn_of _ (by decide +kernel)) ggL_things_X5_things
theorem dL_things_0 : decode cL_things 0 = .ok (.aload_n 0, 1) := by decide +kernel
theorem dL_things_1 : decode cL_things 1 = .ok (.iload_n 1, 1) := by decide +kernel
theorem dL_things_2 : decode cL_things 2 = .ok (.invokevirtual 45, 3) := by decide +kernel
theorem dL_things_5 : decode cL_things 5 = .ok (.ireturn, 1) := by decide +kernel
theorem dL_things_6 : decode cL_things 6 = .ok (.astore_n 2, 1) := by decide +kernel
theorem dL_things_7 : decode cL_things 7 = .ok (.ldc 15, 2) := by decide +kernel
theorem dL_things_9 : decode cL_things 9 = .ok (.ireturn, 1) := by decide +kernel
set_option maxRecDepth 20000 in
theorem ggL_thing_X5_thingOf : GoodIn wsL_thing wsX5_thingOf := goodIn_ca (goodIn_ca (goodIn_ca (goodIn_r _ [11, 12, 13, 14, 15, 16, 10, 17, 18, 19, 20, 21, 22, 23, 24, 25, 26, 27, 28, 29, 30, 31, 32, 33, 34, 35, 36, 37, 38, 39, 40, 41, 42, 43, 44, 45, 46, 47, 48, 49, 50, 51, 52, 53, 54, 55, 56, 57, 58, 59, 60, 61, 62, 63, 64, 65, 66, 67, 68, 69, 70, 71, 72, 73, 74, 75, 76, 77, 78, 79, 80, 81, 82, 83, 84, 85, 86, 87, 88, 89, 90, 91, 92, 93, 94, 95, 96, 97, 98, 99, 100, 101] (by decide +kernel) (by decide +kernel)) (goodIn_sub (fun _ h => List.mem_cons_of_mem _ (List.mem_append_left _ (List.mem_append_left _ (List.mem_append_right _ h)))) (by decide +kernel))) (goodIn_sub (fun _ h => List.mem_cons_of_mem _ (List.mem_append_left _ (List.mem_append_right _ h))) (by decide +kernel))) (goodIn_sub (fun _ h => List.mem_cons_of_mem _ (List.mem_append_right _ h)) (by decide +kernel))
set_option maxRecDepth 20000 in
theorem gL_thing_X5_thingOf : GoodIn wsL_thing (wsV RL 48 RX5 yX5_thingOf wsX5_thingOf) := goodIn_app (goodIn_of _ (by decide +kernel)) ggL_thing_X5_thingOf
theorem dL_thing_0 : decode cL_thing 0 = .ok (.aload_n 0, 1) := by decide +kernel
theorem dL_thing_1 : decode cL_thing 1 = .ok (.iload_n 1, 1) := by decide +kernel
theorem dL_thing_2 : decode cL_thing 2 = .ok (.iload_n 2, 1) := by decide +kernel
theorem dL_thing_3 : decode cL_thing 3 = .ok (.invokevirtual 48, 3) := by decide +kernel
theorem dL_thing_6 : decode cL_thing 6 = .ok (.ireturn, 1) := by decide +kernel
theorem dL_thing_7 : decode cL_thing 7 = .ok (.astore_n 3, 1) := by decide +kernel
theorem dL_thing_8 : decode cL_thing 8 = .ok (.ldc 36, 2) := by decide +kernel
theorem dL_thing_10 : decode cL_thing 10 = .ok (.ireturn, 1) := by decide +kernel
theorem dL_thing_11 : decode cL_thing 11 = .ok (.astore_n 3, 1) := by decide +kernel
theorem dL_thing_12 : decode cL_thing 12 = .ok (.ldc 15, 2) := by decide +kernel
theorem dL_thing_14 : decode cL_thing 14 = .ok (.ireturn, 1) := by decide +kernel
theorem dL_thing_15 : decode cL_thing 15 = .ok (.astore_n 3, 1) := by decide +kernel
theorem dL_thing_16 : decode cL_thing 16 = .ok (.ldc 53, 2) := by decide +kernel
theorem dL_thing_18 : decode cL_thing 18 = .ok (.ireturn, 1) := by decide +kernel
set_option maxRecDepth 20000 in
theorem ggL_value_X5_value : GoodIn wsL_value wsX5_value := goodIn_ca (goodIn_ca (goodIn_ca (goodIn_r _ [11, 12, 13, 14, 15, 16, 10, 17, 18, 19, 20, 21, 22, 23, 24, 25, 26, 27, 28, 29, 30, 31, 32, 33, 34, 35, 36, 37, 38, 39, 40, 41, 42, 43, 44, 45, 46, 47, 48, 49, 50, 51, 52, 53, 54, 55, 56, 57, 58, 59, 60, 61, 62, 63, 64, 65, 66, 67, 68, 69, 70, 71, 72, 73, 74, 75, 76, 77, 78, 79, 80, 81, 82, 83, 84, 85, 86, 87, 88, 89, 90, 91, 92, 93, 94, 95, 96, 97, 98, 99, 100, 101, 102, 103, 104, 105, 106, 107, 108, 109, 110, 111, 112, 113, 114, 115, 116, 117, 118, 119] (by decide +kernel) (by decide +kernel)) (goodIn_sub (fun _ h => List.mem_cons_of_mem _ (List.mem_append_left _ (List.mem_append_left _ (List.mem_append_right _ h)))) (by decide +kernel))) (goodIn_sub (fun _ h => List.mem_cons_of_mem _ (List.mem_append_left _ (List.mem_append_right _ h))) (by decide +kernel))) (goodIn_sub (fun _ h => List.mem_cons_of_mem _ (List.mem_append_right _ h)) (by decide +kernel))
set_option maxRecDepth 20000 in
theorem gL_value_X5_value : GoodIn wsL_value (wsV RL 54 RX5 yX5_value wsX5_value) := goodIn_app (goodIn_of _ (by decide +kernel)) ggL_value_X5_value
theorem dL_value_0 : decode cL_value 0 = .ok (.aload_n 0, 1) := by decide +kernel
theorem dL_value_1 : decode cL_value 1 = .ok (.iload_n 1, 1) := by decide +kernel
theorem dL_value_2 : decode cL_value 2 = .ok (.iload_n 2, 1) := by decide +kernel
theorem dL_value_3 : decode cL_value 3 = .ok (.iload_n 3, 1) := by decide +kernel
theorem dL_value_4 : decode cL_value 4 = .ok (.invokevirtual 54, 3) := by decide +kernel
theorem dL_value_7 : decode cL_value 7 = .ok (.ireturn, 1) := by decide +kernel
theorem dL_value_8 : decode cL_value 8 = .ok (.astore 4, 2) := by decide +kernel
theorem dL_value_10 : decode cL_value 10 = .ok (.ldc 36, 2) := by decide +kernel
theorem dL_value_12 : decode cL_value 12 = .ok (.ireturn, 1) := by decide +kernel
theorem dL_value_13 : decode cL_value 13 = .ok (.astore 4, 2) := by decide +kernel
theorem dL_value_15 : decode cL_value 15 = .ok (.ldc 15, 2) := by decide +kernel
theorem dL_value_17 : decode cL_value 17 = .ok (.ireturn, 1) := by decide +kernel
theorem dL_value_18 : decode cL_value 18 = .ok (.astore 4, 2) := by decide +kernel
theorem dL_value_20 : decode cL_value 20 = .ok (.ldc 53, 2) := by decide +kernel
theorem dL_value_22 : decode cL_value 22 = .ok (.ireturn, 1) := by decide +kernel
set_option maxRecDepth 20000 in
theorem ggL_disputed_X5_disputed : GoodIn wsL_disputed wsX5_disputed := goodIn_ca (goodIn_r _ [7, 8, 9, 10, 11, 12, 6, 13, 14, 15, 16, 17, 18, 19, 20, 21, 22, 23, 24, 25, 26, 27, 28, 29, 30, 31, 32, 33, 34, 35, 36, 37, 38, 39, 40, 41, 42, 43, 44, 45, 46, 47, 48, 49, 50, 51, 52, 53, 54, 55, 56, 57, 58, 59, 60, 61, 62, 63, 64, 65, 66, 67, 68, 69, 70, 71, 72, 73, 74, 75, 76, 77, 78, 79, 80, 81, 82, 83, 84, 85, 86, 87, 88, 89, 90, 91, 92, 93, 94, 95, 96, 97, 98, 99, 100] (by decide +kernel) (by decide +kernel)) (goodIn_sub (fun _ h => List.mem_cons_of_mem _ (List.mem_append_right _ h)) (by decide +kernel))
set_option maxRecDepth 20000 in
theorem gL_disputed_X5_disputed : GoodIn wsL_disputed (wsV RL 57 RX5 yX5_disputed wsX5_disputed) := goodIn_app (goodIn_of _ (by decide +kernel)) ggL_disputed_X5_disputed
theorem dL_disputed_0 : decode cL_disputed 0 = .ok (.aload_n 0, 1) := by decide +kernel
theorem dL_disputed_1 : decode cL_disputed 1 = .ok (.iload_n 1, 1) := by decide +kernel
theorem dL_disputed_2 : decode cL_disputed 2 = .ok (.iload_n 2, 1) := by decide +kernel
theorem dL_disputed_3 : decode cL_disputed 3 = .ok (.invokevirtual 57, 3) := by decide +kernel
theorem dL_disputed_6 : decode cL_disputed 6 = .ok (.ireturn, 1) := by decide +kernel
theorem dL_disputed_7 : decode cL_disputed 7 = .ok (.astore_n 3, 1) := by decide +kernel
theorem dL_disputed_8 : decode cL_disputed 8 = .ok (.ldc 15, 2) := by decide +kernel
theorem dL_disputed_10 : decode cL_disputed 10 = .ok (.ireturn, 1) := by decide +kernel
set_option maxRecDepth 20000 in
theorem ggL_links_X5_link : GoodIn wsL_links wsX5_link := goodIn_ca (goodIn_ca (goodIn_ca (goodIn_r _ [11, 12, 13, 14, 15, 16, 17, 18, 10, 19, 20, 21, 22, 23, 24, 25, 26, 27, 28, 29, 30, 31, 32, 33, 34, 35, 36, 37, 38, 39, 40, 41, 42, 43, 44, 45, 46, 47, 48, 49, 50, 51, 52, 53, 54, 55, 56, 57, 58, 59] (by decide +kernel) (by decide +kernel)) (goodIn_sub (fun _ h => List.mem_cons_of_mem _ (List.mem_append_left _ (List.mem_append_left _ (List.mem_append_right _ h)))) (by decide +kernel))) (goodIn_sub (fun _ h => List.mem_cons_of_mem _ (List.mem_append_left _ (List.mem_append_right _ h))) (by decide +kernel))) (goodIn_sub (fun _ h => List.mem_cons_of_mem _ (List.mem_append_right _ h)) (by decide +kernel))
set_option maxRecDepth 20000 in
theorem gL_links_X5_link : GoodIn wsL_links (wsV RL 60 RX5 yX5_link wsX5_link) := goodIn_app (goodIn_of _ (by decide +kernel)) ggL_links_X5_link
theorem dL_links_0 : decode cL_links 0 = .ok (.aload_n 0, 1) := by decide +kernel
theorem dL_links_1 : decode cL_links 1 = .ok (.iload_n 1, 1) := by decide +kernel
theorem dL_links_2 : decode cL_links 2 = .ok (.iload_n 2, 1) := by decide +kernel
theorem dL_links_3 : decode cL_links 3 = .ok (.iload_n 3, 1) := by decide +kernel
theorem dL_links_4 : decode cL_links 4 = .ok (.invokevirtual 60, 3) := by decide +kernel
theorem dL_links_7 : decode cL_links 7 = .ok (.ireturn, 1) := by decide +kernel
theorem dL_links_8 : decode cL_links 8 = .ok (.astore 4, 2) := by decide +kernel
theorem dL_links_10 : decode cL_links 10 = .ok (.ldc 36, 2) := by decide +kernel
theorem dL_links_12 : decode cL_links 12 = .ok (.ireturn, 1) := by decide +kernel
theorem dL_links_13 : decode cL_links 13 = .ok (.astore 4, 2) := by decide +kernel
theorem dL_links_15 : decode cL_links 15 = .ok (.ldc 15, 2) := by decide +kernel
theorem dL_links_17 : decode cL_links 17 = .ok (.ireturn, 1) := by decide +kernel
theorem dL_links_18 : decode cL_links 18 = .ok (.astore 4, 2) := by decide +kernel
theorem dL_links_20 : decode cL_links 20 = .ok (.ldc 18, 2) := by decide +kernel
theorem dL_links_22 : decode cL_links 22 = .ok (.ireturn, 1) := by decide +kernel
set_option maxRecDepth 20000 in
theorem ggL_impact_X5_impact : GoodIn wsL_impact wsX5_impact := goodIn_ca (goodIn_ca (goodIn_ca (goodIn_r _ [11, 12, 13, 14, 15, 16, 17, 10, 18, 19, 20, 21, 22, 23, 24, 25, 26, 27, 28, 29, 30, 31, 32, 33, 34, 35, 36, 37, 38, 39, 40, 41, 42, 43, 44, 45, 46, 47, 48, 49, 50, 51, 52, 53, 54, 55, 56, 57, 58, 59, 60, 61, 62, 63, 64, 65, 66, 67, 68, 69, 70, 71, 72, 73, 74, 75, 76, 77, 78, 79, 80, 81, 82, 83, 84, 85, 86, 87, 88, 89, 90, 91, 92, 93, 94, 95, 96, 97, 98, 99, 100, 101, 102, 103, 104, 105, 106, 107, 108, 109, 110, 111, 112, 113, 114, 115, 116, 117, 118, 119, 120, 121, 122, 123, 124, 125, 126, 127, 128, 129, 130, 131, 132, 133, 134] (by decide +kernel) (by decide +kernel)) (goodIn_sub (fun _ h => List.mem_cons_of_mem _ (List.mem_append_left _ (List.mem_append_left _ (List.mem_append_right _ h)))) (by decide +kernel))) (goodIn_sub (fun _ h => List.mem_cons_of_mem _ (List.mem_append_left _ (List.mem_append_right _ h))) (by decide +kernel))) (goodIn_sub (fun _ h => List.mem_cons_of_mem _ (List.mem_append_right _ h)) (by decide +kernel))
set_option maxRecDepth 20000 in
theorem gL_impact_X5_impact : GoodIn wsL_impact (wsV RL 63 RX5 yX5_impact wsX5_impact) := goodIn_app (goodIn_of _ (by decide +kernel)) ggL_impact_X5_impact
theorem dL_impact_0 : decode cL_impact 0 = .ok (.aload_n 0, 1) := by decide +kernel
theorem dL_impact_1 : decode cL_impact 1 = .ok (.iload_n 1, 1) := by decide +kernel
theorem dL_impact_2 : decode cL_impact 2 = .ok (.iload_n 2, 1) := by decide +kernel
theorem dL_impact_3 : decode cL_impact 3 = .ok (.invokevirtual 63, 3) := by decide +kernel
theorem dL_impact_6 : decode cL_impact 6 = .ok (.ireturn, 1) := by decide +kernel
theorem dL_impact_7 : decode cL_impact 7 = .ok (.astore_n 3, 1) := by decide +kernel
theorem dL_impact_8 : decode cL_impact 8 = .ok (.ldc 36, 2) := by decide +kernel
theorem dL_impact_10 : decode cL_impact 10 = .ok (.ireturn, 1) := by decide +kernel
theorem dL_impact_11 : decode cL_impact 11 = .ok (.astore_n 3, 1) := by decide +kernel
theorem dL_impact_12 : decode cL_impact 12 = .ok (.ldc 15, 2) := by decide +kernel
theorem dL_impact_14 : decode cL_impact 14 = .ok (.ireturn, 1) := by decide +kernel
theorem dL_impact_15 : decode cL_impact 15 = .ok (.astore_n 3, 1) := by decide +kernel
theorem dL_impact_16 : decode cL_impact 16 = .ok (.ldc 53, 2) := by decide +kernel
theorem dL_impact_18 : decode cL_impact 18 = .ok (.ireturn, 1) := by decide +kernel
set_option maxRecDepth 20000 in
theorem ggL_fails_X5_failsWith : GoodIn wsL_fails wsX5_failsWith := goodIn_ca (goodIn_ca (goodIn_ca (goodIn_r _ [11, 12, 13, 14, 15, 16, 17, 18, 10, 19, 20, 21, 22, 23, 24, 25, 26, 27, 28, 29, 30, 31, 32, 33, 34, 35, 36, 37, 38, 39, 40, 41, 42, 43, 44, 45, 46, 47, 48, 49, 50, 51, 52, 53, 54, 55, 56, 57, 58, 59, 60, 61, 62, 63, 64, 65, 66, 67, 68, 69, 70, 71, 72, 73, 74, 75, 76, 77, 78, 79, 80, 81, 82, 83, 84, 85, 86, 87, 88, 89, 90, 91, 92, 93, 94, 95, 96, 97, 98, 99, 100, 101, 102, 103, 104, 105, 106, 107, 108, 109, 110, 111, 112, 113, 114, 115, 116, 117, 118, 119, 120, 121, 122, 123, 124, 125, 126, 127, 128, 129, 130, 131] (by decide +kernel) (by decide +kernel)) (goodIn_sub (fun _ h => List.mem_cons_of_mem _ (List.mem_append_left _ (List.mem_append_left _ (List.mem_append_right _ h)))) (by decide +kernel))) (goodIn_sub (fun _ h => List.mem_cons_of_mem _ (List.mem_append_left _ (List.mem_append_right _ h))) (by decide +kernel))) (goodIn_sub (fun _ h => List.mem_cons_of_mem _ (List.mem_append_right _ h)) (by decide +kernel))
set_option maxRecDepth 20000 in
theorem gL_fails_X5_failsWith : GoodIn wsL_fails (wsV RL 66 RX5 yX5_failsWith wsX5_failsWith) := goodIn_app (goodIn_of _ (by decide +kernel)) ggL_fails_X5_failsWith
theorem dL_fails_0 : decode cL_fails 0 = .ok (.aload_n 0, 1) := by decide +kernel
theorem dL_fails_1 : decode cL_fails 1 = .ok (.iload_n 1, 1) := by decide +kernel
theorem dL_fails_2 : decode cL_fails 2 = .ok (.iload_n 2, 1) := by decide +kernel
theorem dL_fails_3 : decode cL_fails 3 = .ok (.iload_n 3, 1) := by decide +kernel
theorem dL_fails_4 : decode cL_fails 4 = .ok (.invokevirtual 66, 3) := by decide +kernel
theorem dL_fails_7 : decode cL_fails 7 = .ok (.ifCond .eq 7, 3) := by decide +kernel
theorem dL_fails_10 : decode cL_fails 10 = .ok (.iconst 1, 1) := by decide +kernel
theorem dL_fails_11 : decode cL_fails 11 = .ok (.goto 4, 3) := by decide +kernel
theorem dL_fails_14 : decode cL_fails 14 = .ok (.iconst 0, 1) := by decide +kernel
theorem dL_fails_15 : decode cL_fails 15 = .ok (.ireturn, 1) := by decide +kernel
theorem dL_fails_16 : decode cL_fails 16 = .ok (.astore 4, 2) := by decide +kernel
theorem dL_fails_18 : decode cL_fails 18 = .ok (.ldc 36, 2) := by decide +kernel
theorem dL_fails_20 : decode cL_fails 20 = .ok (.ireturn, 1) := by decide +kernel
theorem dL_fails_21 : decode cL_fails 21 = .ok (.astore 4, 2) := by decide +kernel
theorem dL_fails_23 : decode cL_fails 23 = .ok (.ldc 15, 2) := by decide +kernel
theorem dL_fails_25 : decode cL_fails 25 = .ok (.ireturn, 1) := by decide +kernel
theorem dL_fails_26 : decode cL_fails 26 = .ok (.astore 4, 2) := by decide +kernel
theorem dL_fails_28 : decode cL_fails 28 = .ok (.ldc 53, 2) := by decide +kernel
theorem dL_fails_30 : decode cL_fails 30 = .ok (.ireturn, 1) := by decide +kernel
set_option maxRecDepth 20000 in
theorem ggL_wishes_X5_wish : GoodIn wsL_wishes wsX5_wish := goodIn_ca (goodIn_ca (goodIn_r _ [9, 10, 11, 12, 13, 14, 15, 8, 16, 17, 18, 19, 20, 21, 22, 23, 24, 25, 26, 27, 28, 29, 30, 31, 32, 33, 34, 35, 36, 37, 38, 39, 40, 41, 42, 43] (by decide +kernel) (by decide +kernel)) (goodIn_sub (fun _ h => List.mem_cons_of_mem _ (List.mem_append_left _ (List.mem_append_right _ h))) (by decide +kernel))) (goodIn_sub (fun _ h => List.mem_cons_of_mem _ (List.mem_append_right _ h)) (by decide +kernel))
set_option maxRecDepth 20000 in
theorem gL_wishes_X5_wish : GoodIn wsL_wishes (wsV RL 70 RX5 yX5_wish wsX5_wish) := goodIn_app (goodIn_of _ (by decide +kernel)) ggL_wishes_X5_wish
theorem dL_wishes_0 : decode cL_wishes 0 = .ok (.aload_n 0, 1) := by decide +kernel
theorem dL_wishes_1 : decode cL_wishes 1 = .ok (.iload_n 1, 1) := by decide +kernel
theorem dL_wishes_2 : decode cL_wishes 2 = .ok (.iload_n 2, 1) := by decide +kernel
theorem dL_wishes_3 : decode cL_wishes 3 = .ok (.iload_n 3, 1) := by decide +kernel
theorem dL_wishes_4 : decode cL_wishes 4 = .ok (.iload 4, 2) := by decide +kernel
theorem dL_wishes_6 : decode cL_wishes 6 = .ok (.invokevirtual 70, 3) := by decide +kernel
theorem dL_wishes_9 : decode cL_wishes 9 = .ok (.ireturn, 1) := by decide +kernel
theorem dL_wishes_10 : decode cL_wishes 10 = .ok (.astore 5, 2) := by decide +kernel
theorem dL_wishes_12 : decode cL_wishes 12 = .ok (.ldc 15, 2) := by decide +kernel
theorem dL_wishes_14 : decode cL_wishes 14 = .ok (.ireturn, 1) := by decide +kernel
theorem dL_wishes_15 : decode cL_wishes 15 = .ok (.astore 5, 2) := by decide +kernel
theorem dL_wishes_17 : decode cL_wishes 17 = .ok (.ldc 18, 2) := by decide +kernel
theorem dL_wishes_19 : decode cL_wishes 19 = .ok (.ireturn, 1) := by decide +kernel
set_option maxRecDepth 20000 in
theorem ggL_differing_X5_differing : GoodIn wsL_differing wsX5_differing := goodIn_ca (goodIn_ca (goodIn_r _ [9, 10, 11, 12, 13, 14, 15, 16, 17, 18, 8, 19, 20, 21, 22, 23, 24, 25, 26, 27, 28, 29, 30, 31, 32, 33, 34, 35, 36, 37, 38, 39, 40, 41, 42, 43, 44, 45, 46, 47, 48, 49, 50, 51, 52, 53, 54, 55, 56, 57, 58, 59, 60, 61, 62, 63, 64, 65, 66, 67, 68, 69, 70, 71, 72, 73, 74, 75, 76, 77, 78, 79, 80, 81, 82, 83, 84, 85, 86, 87, 88, 89, 90, 91, 92, 93, 94, 95, 96, 97, 98, 99, 100, 101, 102, 103, 104, 105, 106, 107, 108, 109, 110, 111, 112, 113, 114, 115, 116, 117, 118, 119, 120, 121, 122, 123, 124, 125, 126, 127, 128] (by decide +kernel) (by decide +kernel)) (goodIn_sub (fun _ h => List.mem_cons_of_mem _ (List.mem_append_left _ (List.mem_append_right _ h))) (by decide +kernel))) (goodIn_sub (fun _ h => List.mem_cons_of_mem _ (List.mem_append_right _ h)) (by decide +kernel))
set_option maxRecDepth 20000 in
theorem gL_differing_X5_differing : GoodIn wsL_differing (wsV RL 74 RX5 yX5_differing wsX5_differing) := goodIn_app (goodIn_of _ (by decide +kernel)) ggL_differing_X5_differing
theorem dL_differing_0 : decode cL_differing 0 = .ok (.aload_n 0, 1) := by decide +kernel
theorem dL_differing_1 : decode cL_differing 1 = .ok (.iload_n 1, 1) := by decide +kernel
theorem dL_differing_2 : decode cL_differing 2 = .ok (.iload_n 2, 1) := by decide +kernel
theorem dL_differing_3 : decode cL_differing 3 = .ok (.invokevirtual 74, 3) := by decide +kernel
theorem dL_differing_6 : decode cL_differing 6 = .ok (.ireturn, 1) := by decide +kernel
theorem dL_differing_7 : decode cL_differing 7 = .ok (.astore_n 3, 1) := by decide +kernel
theorem dL_differing_8 : decode cL_differing 8 = .ok (.ldc 36, 2) := by decide +kernel
theorem dL_differing_10 : decode cL_differing 10 = .ok (.ireturn, 1) := by decide +kernel
theorem dL_differing_11 : decode cL_differing 11 = .ok (.astore_n 3, 1) := by decide +kernel
theorem dL_differing_12 : decode cL_differing 12 = .ok (.ldc 15, 2) := by decide +kernel
theorem dL_differing_14 : decode cL_differing 14 = .ok (.ireturn, 1) := by decide +kernel
set_option maxRecDepth 20000 in
theorem ggL_changed_X5_changed : GoodIn wsL_changed wsX5_changed := goodIn_ca (goodIn_r _ [7, 8, 9, 10, 11, 12, 13, 6, 14, 15, 16, 17, 18, 19, 20, 21, 22, 23, 24, 25, 26, 27, 28, 29, 30, 31, 32, 33, 34, 35, 36, 37, 38, 39, 40, 41, 42, 43, 44, 45, 46, 47, 48, 49, 50, 51, 52, 53, 54, 55, 56, 57, 58, 59, 60, 61, 62, 63, 64, 65, 66, 67, 68, 69, 70, 71, 72, 73, 74, 75, 76, 77, 78, 79, 80, 81, 82, 83, 84, 85, 86, 87, 88, 89, 90, 91, 92, 93, 94, 95, 96, 97, 98, 99, 100, 101, 102, 103, 104, 105, 106, 107, 108] (by decide +kernel) (by decide +kernel)) (goodIn_sub (fun _ h => List.mem_cons_of_mem _ (List.mem_append_right _ h)) (by decide +kernel))
set_option maxRecDepth 20000 in
theorem gL_changed_X5_changed : GoodIn wsL_changed (wsV RL 77 RX5 yX5_changed wsX5_changed) := goodIn_app (goodIn_of _ (by decide +kernel)) ggL_changed_X5_changed
theorem dL_changed_0 : decode cL_changed 0 = .ok (.aload_n 0, 1) := by decide +kernel
theorem dL_changed_1 : decode cL_changed 1 = .ok (.iload_n 1, 1) := by decide +kernel
theorem dL_changed_2 : decode cL_changed 2 = .ok (.iload_n 2, 1) := by decide +kernel
theorem dL_changed_3 : decode cL_changed 3 = .ok (.iload_n 3, 1) := by decide +kernel
theorem dL_changed_4 : decode cL_changed 4 = .ok (.invokevirtual 77, 3) := by decide +kernel
theorem dL_changed_7 : decode cL_changed 7 = .ok (.ireturn, 1) := by decide +kernel
theorem dL_changed_8 : decode cL_changed 8 = .ok (.astore 4, 2) := by decide +kernel
theorem dL_changed_10 : decode cL_changed 10 = .ok (.ldc 15, 2) := by decide +kernel
theorem dL_changed_12 : decode cL_changed 12 = .ok (.ireturn, 1) := by decide +kernel
theorem dL_drawn_0 : decode cL_drawn 0 = .ok (.iload_n 1, 1) := by decide +kernel
theorem dL_drawn_1 : decode cL_drawn 1 = .ok (.aload_n 0, 1) := by decide +kernel
theorem dL_drawn_2 : decode cL_drawn 2 = .ok (.arraylength, 1) := by decide +kernel
theorem dL_drawn_3 : decode cL_drawn 3 = .ok (.if_icmp .ge 9, 3) := by decide +kernel
theorem dL_drawn_6 : decode cL_drawn 6 = .ok (.aload_n 0, 1) := by decide +kernel
theorem dL_drawn_7 : decode cL_drawn 7 = .ok (.iload_n 1, 1) := by decide +kernel
theorem dL_drawn_8 : decode cL_drawn 8 = .ok (.iaload, 1) := by decide +kernel
theorem dL_drawn_9 : decode cL_drawn 9 = .ok (.goto 13, 3) := by decide +kernel
theorem dL_drawn_12 : decode cL_drawn 12 = .ok (.ldc 80, 2) := by decide +kernel
theorem dL_drawn_14 : decode cL_drawn 14 = .ok (.iload_n 1, 1) := by decide +kernel
theorem dL_drawn_15 : decode cL_drawn 15 = .ok (.iconst 3, 1) := by decide +kernel
theorem dL_drawn_16 : decode cL_drawn 16 = .ok (.iadd, 1) := by decide +kernel
theorem dL_drawn_17 : decode cL_drawn 17 = .ok (.imul, 1) := by decide +kernel
theorem dL_drawn_18 : decode cL_drawn 18 = .ok (.sipush 13751, 3) := by decide +kernel
theorem dL_drawn_21 : decode cL_drawn 21 = .ok (.iadd, 1) := by decide +kernel
theorem dL_drawn_22 : decode cL_drawn 22 = .ok (.ldc 81, 2) := by decide +kernel
theorem dL_drawn_24 : decode cL_drawn 24 = .ok (.iand, 1) := by decide +kernel
theorem dL_drawn_25 : decode cL_drawn 25 = .ok (.ireturn, 1) := by decide +kernel
set_option maxRecDepth 20000 in
theorem ggL_refuses_L_passes : GoodIn wsL_refuses wsL_passes := goodIn_ca (goodIn_ca (goodIn_r _ [7, 8, 9, 1, 10, 11, 12, 13, 14, 15, 16, 17, 18, 19, 20, 21, 22, 23, 323, 324, 325, 326, 327, 328, 329] (by decide +kernel) (by decide +kernel)) (goodIn_sub (fun _ h => List.mem_cons_of_mem _ (List.mem_append_left _ (List.mem_append_left _ (List.mem_append_left _ (List.mem_append_right _ h))))) (by decide +kernel))) (goodIn_sub (fun _ h => List.mem_cons_of_mem _ (List.mem_append_left _ (List.mem_append_left _ (List.mem_append_right _ h)))) (by decide +kernel))
set_option maxRecDepth 20000 in
theorem gL_refuses_L_passes : GoodIn wsL_refuses (va_wsS RL 82 yL_passes wsL_passes) := goodIn_app (goodIn_of _ (by decide +kernel)) ggL_refuses_L_passes
set_option maxRecDepth 20000 in
theorem ggL_refuses_L_terms : GoodIn wsL_refuses wsL_terms := goodIn_ca (goodIn_r _ [26, 8, 1, 27, 28, 29, 14, 30, 31, 32, 19, 20, 21, 22, 23, 323, 324, 325, 326, 327, 328, 329, 330, 331] (by decide +kernel) (by decide +kernel)) (goodIn_sub (fun _ h => List.mem_cons_of_mem _ (List.mem_append_left _ (List.mem_append_left _ (List.mem_append_right _ h)))) (by decide +kernel))
set_option maxRecDepth 20000 in
theorem gL_refuses_L_terms : GoodIn wsL_refuses (va_wsS RL 88 yL_terms wsL_terms) := goodIn_app (goodIn_of _ (by decide +kernel)) ggL_refuses_L_terms
set_option maxRecDepth 20000 in
theorem ggL_refuses_L_firsts : GoodIn wsL_refuses wsL_firsts := goodIn_ca (goodIn_r _ [35, 8, 1, 36, 37, 38, 14, 39, 31, 19, 20, 21, 22, 23, 40, 41, 42, 43, 44, 45, 323, 324, 325, 326, 327, 328, 329, 330, 331] (by decide +kernel) (by decide +kernel)) (goodIn_sub (fun _ h => List.mem_cons_of_mem _ (List.mem_append_left _ (List.mem_append_left _ (List.mem_append_right _ h)))) (by decide +kernel))
set_option maxRecDepth 20000 in
theorem gL_refuses_L_firsts : GoodIn wsL_refuses (va_wsS RL 92 yL_firsts wsL_firsts) := goodIn_app (goodIn_of _ (by decide +kernel)) ggL_refuses_L_firsts
set_option maxRecDepth 20000 in
theorem ggL_refuses_L_finds : GoodIn wsL_refuses wsL_finds := goodIn_ca (goodIn_ca (goodIn_r _ [48, 8, 9, 1, 10, 49, 50, 51, 14, 52, 16, 17, 53, 54, 18, 19, 20, 21, 22, 23, 55, 56, 57, 58, 59, 60, 61, 62, 63, 64, 65, 66, 67, 68, 69, 70, 71, 72, 323, 324, 325, 326, 327, 328, 329, 332, 333, 334, 335, 336, 337, 338] (by decide +kernel) (by decide +kernel)) (goodIn_sub (fun _ h => List.mem_cons_of_mem _ (List.mem_append_left _ (List.mem_append_left _ (List.mem_append_left _ (List.mem_append_right _ h))))) (by decide +kernel))) (goodIn_sub (fun _ h => List.mem_cons_of_mem _ (List.mem_append_left _ (List.mem_append_left _ (List.mem_append_right _ h)))) (by decide +kernel))
set_option maxRecDepth 20000 in
theorem gL_refuses_L_finds : GoodIn wsL_refuses (va_wsS RL 95 yL_finds wsL_finds) := goodIn_app (goodIn_of _ (by decide +kernel)) ggL_refuses_L_finds
set_option maxRecDepth 20000 in
theorem ggL_refuses_L_strikes : GoodIn wsL_refuses wsL_strikes := goodIn_ca (goodIn_r _ [75, 76, 2, 77, 78, 79, 14, 80, 53, 81, 82, 83, 84, 85, 86, 87, 54, 323, 324, 325, 326, 327, 328, 329, 332, 333, 334, 335, 336, 337, 338] (by decide +kernel) (by decide +kernel)) (goodIn_sub (fun _ h => List.mem_cons_of_mem _ (List.mem_append_left _ (List.mem_append_right _ h))) (by decide +kernel))
set_option maxRecDepth 20000 in
theorem gL_refuses_L_strikes : GoodIn wsL_refuses (va_wsS RL 99 yL_strikes wsL_strikes) := goodIn_app (goodIn_of _ (by decide +kernel)) ggL_refuses_L_strikes
set_option maxRecDepth 20000 in
theorem ggL_refuses_L_tells : GoodIn wsL_refuses wsL_tells := goodIn_ca (goodIn_ca (goodIn_r _ [90, 76, 8, 2, 1, 91, 92, 93, 14, 94, 53, 95, 82, 83, 84, 85, 86, 87, 54, 96, 97, 98, 22, 23, 19, 20, 21, 323, 324, 325, 326, 327, 328, 329, 332, 333, 334, 335, 336, 337, 338] (by decide +kernel) (by decide +kernel)) (goodIn_sub (fun _ h => List.mem_cons_of_mem _ (List.mem_append_left _ (List.mem_append_right _ h))) (by decide +kernel))) (goodIn_sub (fun _ h => List.mem_cons_of_mem _ (List.mem_append_left _ (List.mem_append_left _ (List.mem_append_right _ h)))) (by decide +kernel))
set_option maxRecDepth 20000 in
theorem gL_refuses_L_tells : GoodIn wsL_refuses (va_wsS RL 102 yL_tells wsL_tells) := goodIn_app (goodIn_of _ (by decide +kernel)) ggL_refuses_L_tells
set_option maxRecDepth 20000 in
theorem ggL_refuses_L_counts : GoodIn wsL_refuses wsL_counts := goodIn_ca (goodIn_ca (goodIn_r _ [101, 76, 8, 2, 1, 102, 103, 104, 14, 105, 53, 31, 82, 83, 84, 85, 86, 87, 54, 106, 107, 108, 19, 20, 21, 22, 23, 109, 110, 111, 58, 112, 113, 62, 114, 61, 323, 324, 325, 326, 327, 328, 329, 332, 333, 334, 335, 336, 337, 338, 330, 331] (by decide +kernel) (by decide +kernel)) (goodIn_sub (fun _ h => List.mem_cons_of_mem _ (List.mem_append_left _ (List.mem_append_right _ h))) (by decide +kernel))) (goodIn_sub (fun _ h => List.mem_cons_of_mem _ (List.mem_append_left _ (List.mem_append_left _ (List.mem_append_right _ h)))) (by decide +kernel))
set_option maxRecDepth 20000 in
theorem gL_refuses_L_counts : GoodIn wsL_refuses (va_wsS RL 106 yL_counts wsL_counts) := goodIn_app (goodIn_of _ (by decide +kernel)) ggL_refuses_L_counts
set_option maxRecDepth 20000 in
theorem ggL_refuses_L_things : GoodIn wsL_refuses wsL_things := goodIn_ca (goodIn_r _ [117, 8, 1, 118, 119, 120, 14, 121, 122, 53, 54, 106, 107, 108, 19, 20, 21, 22, 23, 123, 124, 125, 126, 127, 128, 129, 130, 131, 132, 110, 111, 58, 112, 113, 62, 114, 61, 133, 134, 135, 136, 137, 138, 139, 140, 141, 142, 143, 144, 145, 67, 146, 147, 148, 149, 150, 151, 152, 153, 154, 155, 156, 157, 158, 159, 160, 161, 162, 163, 164, 323, 324, 325, 326, 327, 328, 329, 332, 333, 334, 335, 336, 337, 338, 339, 340, 341, 330, 331] (by decide +kernel) (by decide +kernel)) (goodIn_sub (fun _ h => List.mem_cons_of_mem _ (List.mem_append_left _ (List.mem_append_left _ (List.mem_append_right _ h)))) (by decide +kernel))
set_option maxRecDepth 20000 in
theorem gL_refuses_L_things : GoodIn wsL_refuses (va_wsS RL 108 yL_things wsL_things) := goodIn_app (goodIn_of _ (by decide +kernel)) ggL_refuses_L_things
set_option maxRecDepth 20000 in
theorem ggL_refuses_L_thing : GoodIn wsL_refuses wsL_thing := goodIn_ca (goodIn_ca (goodIn_ca (goodIn_r _ [167, 76, 8, 168, 2, 1, 3, 169, 170, 171, 14, 172, 122, 173, 82, 83, 84, 85, 86, 87, 53, 54, 106, 107, 108, 19, 20, 21, 22, 23, 123, 124, 125, 126, 127, 128, 129, 130, 131, 132, 110, 111, 58, 112, 113, 62, 114, 61, 133, 134, 135, 136, 137, 138, 139, 140, 141, 142, 143, 144, 145, 67, 146, 147, 148, 149, 150, 151, 152, 153, 154, 155, 156, 157, 158, 159, 160, 174, 175, 176, 177, 178, 179, 323, 324, 325, 326, 327, 328, 329, 339, 340, 341, 332, 333, 334, 335, 336, 337, 338, 330, 331] (by decide +kernel) (by decide +kernel)) (goodIn_sub (fun _ h => List.mem_cons_of_mem _ (List.mem_append_left _ (List.mem_append_right _ h))) (by decide +kernel))) (goodIn_sub (fun _ h => List.mem_cons_of_mem _ (List.mem_append_left _ (List.mem_append_left _ (List.mem_append_right _ h)))) (by decide +kernel))) (goodIn_sub (fun _ h => List.mem_cons_of_mem _ (List.mem_append_right _ h)) (by decide +kernel))
set_option maxRecDepth 20000 in
theorem gL_refuses_L_thing : GoodIn wsL_refuses (va_wsS RL 110 yL_thing wsL_thing) := goodIn_app (goodIn_of _ (by decide +kernel)) ggL_refuses_L_thing
set_option maxRecDepth 20000 in
theorem ggL_refuses_L_value : GoodIn wsL_refuses wsL_value := goodIn_ca (goodIn_ca (goodIn_ca (goodIn_r _ [182, 76, 8, 168, 2, 1, 3, 183, 184, 185, 14, 186, 122, 173, 82, 83, 84, 85, 86, 87, 53, 54, 187, 188, 189, 19, 20, 21, 22, 23, 106, 107, 108, 123, 124, 125, 126, 127, 128, 129, 130, 131, 132, 110, 111, 58, 112, 113, 62, 114, 61, 133, 134, 135, 136, 137, 138, 139, 140, 141, 142, 143, 144, 145, 67, 146, 147, 148, 149, 150, 151, 152, 153, 154, 155, 156, 157, 158, 159, 160, 174, 175, 176, 177, 178, 179, 190, 191, 192, 193, 194, 195, 196, 197, 198, 199, 200, 201, 202, 203, 204, 323, 324, 325, 326, 327, 328, 329, 339, 340, 341, 332, 333, 334, 335, 336, 337, 338, 330, 331] (by decide +kernel) (by decide +kernel)) (goodIn_sub (fun _ h => List.mem_cons_of_mem _ (List.mem_append_left _ (List.mem_append_right _ h))) (by decide +kernel))) (goodIn_sub (fun _ h => List.mem_cons_of_mem _ (List.mem_append_left _ (List.mem_append_left _ (List.mem_append_right _ h)))) (by decide +kernel))) (goodIn_sub (fun _ h => List.mem_cons_of_mem _ (List.mem_append_right _ h)) (by decide +kernel))
set_option maxRecDepth 20000 in
theorem gL_refuses_L_value : GoodIn wsL_refuses (va_wsS RL 113 yL_value wsL_value) := goodIn_app (goodIn_of _ (by decide +kernel)) ggL_refuses_L_value
set_option maxRecDepth 20000 in
theorem ggL_refuses_L_disputed : GoodIn wsL_refuses wsL_disputed := goodIn_ca (goodIn_r _ [207, 8, 1, 208, 209, 210, 14, 211, 122, 53, 54, 187, 188, 189, 19, 20, 21, 22, 23, 106, 107, 108, 123, 124, 125, 126, 127, 128, 129, 130, 131, 132, 110, 111, 58, 112, 113, 62, 114, 61, 133, 134, 135, 136, 137, 138, 139, 140, 141, 142, 143, 144, 145, 67, 146, 147, 148, 149, 150, 151, 152, 153, 154, 155, 156, 157, 158, 159, 160, 161, 162, 163, 164, 212, 213, 214, 215, 194, 195, 196, 197, 198, 323, 324, 325, 326, 327, 328, 329, 332, 333, 334, 335, 336, 337, 338, 339, 340, 341, 330, 331] (by decide +kernel) (by decide +kernel)) (goodIn_sub (fun _ h => List.mem_cons_of_mem _ (List.mem_append_left _ (List.mem_append_left _ (List.mem_append_right _ h)))) (by decide +kernel))
set_option maxRecDepth 20000 in
theorem gL_refuses_L_disputed : GoodIn wsL_refuses (va_wsS RL 115 yL_disputed wsL_disputed) := goodIn_app (goodIn_of _ (by decide +kernel)) ggL_refuses_L_disputed
set_option maxRecDepth 20000 in
theorem ggL_refuses_L_links : GoodIn wsL_refuses wsL_links := goodIn_ca (goodIn_ca (goodIn_ca (goodIn_r _ [218, 76, 8, 9, 2, 1, 10, 219, 220, 221, 14, 222, 16, 17, 223, 224, 82, 83, 84, 85, 86, 87, 53, 54, 96, 97, 98, 22, 23, 19, 20, 21, 225, 226, 227, 228, 229, 230, 231, 232, 233, 323, 324, 325, 326, 327, 328, 329, 342, 343, 344, 345, 346, 332, 333, 334, 335, 336, 337, 338] (by decide +kernel) (by decide +kernel)) (goodIn_sub (fun _ h => List.mem_cons_of_mem _ (List.mem_append_left _ (List.mem_append_left _ (List.mem_append_left _ (List.mem_append_right _ h))))) (by decide +kernel))) (goodIn_sub (fun _ h => List.mem_cons_of_mem _ (List.mem_append_left _ (List.mem_append_right _ h))) (by decide +kernel))) (goodIn_sub (fun _ h => List.mem_cons_of_mem _ (List.mem_append_left _ (List.mem_append_left _ (List.mem_append_right _ h)))) (by decide +kernel))
set_option maxRecDepth 20000 in
theorem gL_refuses_L_links : GoodIn wsL_refuses (va_wsS RL 117 yL_links wsL_links) := goodIn_app (goodIn_of _ (by decide +kernel)) ggL_refuses_L_links
set_option maxRecDepth 20000 in
theorem ggL_refuses_L_impact : GoodIn wsL_refuses wsL_impact := goodIn_ca (goodIn_ca (goodIn_ca (goodIn_r _ [236, 76, 8, 168, 2, 1, 3, 237, 238, 239, 14, 240, 122, 223, 173, 82, 83, 84, 85, 86, 87, 53, 54, 106, 107, 108, 19, 20, 21, 22, 23, 123, 124, 125, 126, 127, 128, 129, 130, 131, 132, 110, 111, 58, 112, 113, 62, 114, 61, 133, 134, 135, 136, 137, 138, 139, 140, 141, 142, 143, 144, 145, 67, 146, 147, 148, 149, 150, 151, 152, 153, 154, 155, 156, 157, 158, 159, 160, 174, 175, 176, 177, 178, 179, 241, 242, 243, 228, 244, 245, 246, 247, 248, 249, 231, 250, 230, 233, 251, 252, 253, 254, 232, 255, 256, 257, 258, 259, 260, 261, 262, 323, 324, 325, 326, 327, 328, 329, 339, 340, 341, 332, 333, 334, 335, 336, 337, 338, 330, 331, 342, 343, 344, 345, 346] (by decide +kernel) (by decide +kernel)) (goodIn_sub (fun _ h => List.mem_cons_of_mem _ (List.mem_append_left _ (List.mem_append_right _ h))) (by decide +kernel))) (goodIn_sub (fun _ h => List.mem_cons_of_mem _ (List.mem_append_left _ (List.mem_append_left _ (List.mem_append_right _ h)))) (by decide +kernel))) (goodIn_sub (fun _ h => List.mem_cons_of_mem _ (List.mem_append_right _ h)) (by decide +kernel))
set_option maxRecDepth 20000 in
theorem gL_refuses_L_impact : GoodIn wsL_refuses (va_wsS RL 120 yL_impact wsL_impact) := goodIn_app (goodIn_of _ (by decide +kernel)) ggL_refuses_L_impact
set_option maxRecDepth 20000 in
theorem ggL_refuses_L_fails : GoodIn wsL_refuses wsL_fails := goodIn_ca (goodIn_ca (goodIn_ca (goodIn_r _ [265, 76, 8, 168, 2, 1, 3, 266, 267, 268, 14, 269, 122, 223, 173, 270, 82, 83, 84, 85, 86, 87, 53, 54, 106, 107, 108, 19, 20, 21, 22, 23, 123, 124, 125, 126, 127, 128, 129, 130, 131, 132, 110, 111, 58, 112, 113, 62, 114, 61, 133, 134, 135, 136, 137, 138, 139, 140, 141, 142, 143, 144, 145, 67, 146, 147, 148, 149, 150, 151, 152, 153, 154, 155, 156, 157, 158, 159, 160, 174, 175, 176, 177, 178, 179, 241, 242, 243, 228, 244, 245, 246, 247, 248, 249, 231, 250, 230, 233, 251, 252, 253, 254, 232, 255, 256, 257, 258, 323, 324, 325, 326, 327, 328, 329, 339, 340, 341, 342, 343, 344, 345, 346, 332, 333, 334, 335, 336, 337, 338, 330, 331] (by decide +kernel) (by decide +kernel)) (goodIn_sub (fun _ h => List.mem_cons_of_mem _ (List.mem_append_left _ (List.mem_append_right _ h))) (by decide +kernel))) (goodIn_sub (fun _ h => List.mem_cons_of_mem _ (List.mem_append_left _ (List.mem_append_left _ (List.mem_append_right _ h)))) (by decide +kernel))) (goodIn_sub (fun _ h => List.mem_cons_of_mem _ (List.mem_append_right _ h)) (by decide +kernel))
set_option maxRecDepth 20000 in
theorem gL_refuses_L_fails : GoodIn wsL_refuses (va_wsS RL 122 yL_fails wsL_fails) := goodIn_app (goodIn_of _ (by decide +kernel)) ggL_refuses_L_fails
set_option maxRecDepth 20000 in
theorem ggL_refuses_L_wishes : GoodIn wsL_refuses wsL_wishes := goodIn_ca (goodIn_ca (goodIn_r _ [273, 8, 9, 1, 10, 274, 275, 276, 14, 277, 16, 17, 278, 279, 19, 20, 21, 22, 23, 187, 188, 189, 280, 281, 282, 283, 284, 285, 286, 287, 288, 289, 323, 324, 325, 326, 327, 328, 329, 347, 348, 349, 350, 351] (by decide +kernel) (by decide +kernel)) (goodIn_sub (fun _ h => List.mem_cons_of_mem _ (List.mem_append_left _ (List.mem_append_left _ (List.mem_append_left _ (List.mem_append_right _ h))))) (by decide +kernel))) (goodIn_sub (fun _ h => List.mem_cons_of_mem _ (List.mem_append_left _ (List.mem_append_left _ (List.mem_append_right _ h)))) (by decide +kernel))
set_option maxRecDepth 20000 in
theorem gL_refuses_L_wishes : GoodIn wsL_refuses (va_wsS RL 125 yL_wishes wsL_wishes) := goodIn_app (goodIn_of _ (by decide +kernel)) ggL_refuses_L_wishes
set_option maxRecDepth 20000 in
theorem ggL_refuses_L_differing : GoodIn wsL_refuses wsL_differing := goodIn_ca (goodIn_ca (goodIn_r _ [292, 76, 8, 2, 1, 293, 294, 295, 14, 296, 86, 87, 278, 279, 122, 53, 54, 106, 107, 108, 19, 20, 21, 22, 23, 123, 124, 125, 126, 127, 128, 129, 130, 131, 132, 110, 111, 58, 112, 113, 62, 114, 61, 133, 134, 135, 136, 137, 138, 139, 140, 141, 142, 143, 144, 145, 67, 146, 147, 148, 149, 150, 151, 152, 153, 154, 155, 156, 157, 158, 159, 160, 161, 162, 163, 164, 297, 298, 299, 283, 300, 286, 287, 288, 289, 301, 302, 303, 304, 305, 306, 191, 192, 193, 194, 195, 196, 197, 198, 199, 200, 201, 202, 203, 204, 323, 324, 325, 326, 327, 328, 329, 347, 348, 349, 350, 351, 332, 333, 334, 335, 336, 337, 338, 339, 340, 341, 330, 331] (by decide +kernel) (by decide +kernel)) (goodIn_sub (fun _ h => List.mem_cons_of_mem _ (List.mem_append_left _ (List.mem_append_right _ h))) (by decide +kernel))) (goodIn_sub (fun _ h => List.mem_cons_of_mem _ (List.mem_append_left _ (List.mem_append_left _ (List.mem_append_right _ h)))) (by decide +kernel))
set_option maxRecDepth 20000 in
theorem gL_refuses_L_differing : GoodIn wsL_refuses (va_wsS RL 129 yL_differing wsL_differing) := goodIn_app (goodIn_of _ (by decide +kernel)) ggL_refuses_L_differing
set_option maxRecDepth 20000 in
theorem ggL_refuses_L_changed : GoodIn wsL_refuses wsL_changed := goodIn_ca (goodIn_r _ [309, 8, 1, 310, 311, 312, 14, 313, 122, 314, 53, 54, 187, 188, 189, 19, 20, 21, 22, 23, 106, 107, 108, 123, 124, 125, 126, 127, 128, 129, 130, 131, 132, 110, 111, 58, 112, 113, 62, 114, 61, 133, 134, 135, 136, 137, 138, 139, 140, 141, 142, 143, 144, 145, 67, 146, 147, 148, 149, 150, 151, 152, 153, 154, 155, 156, 157, 158, 159, 160, 315, 316, 317, 318, 173, 190, 191, 192, 193, 194, 195, 196, 197, 198, 199, 200, 201, 202, 203, 204, 323, 324, 325, 326, 327, 328, 329, 332, 333, 334, 335, 336, 337, 338, 339, 340, 341, 330, 331] (by decide +kernel) (by decide +kernel)) (goodIn_sub (fun _ h => List.mem_cons_of_mem _ (List.mem_append_left _ (List.mem_append_left _ (List.mem_append_right _ h)))) (by decide +kernel))
set_option maxRecDepth 20000 in
theorem gL_refuses_L_changed : GoodIn wsL_refuses (va_wsS RL 131 yL_changed wsL_changed) := goodIn_app (goodIn_of _ (by decide +kernel)) ggL_refuses_L_changed
set_option maxRecDepth 20000 in
theorem ggL_refuses_X5_today : GoodIn wsL_refuses wsX5_today := goodIn_r _ [322, 18, 323, 324, 325, 326, 327, 328, 329] (by decide +kernel) (by decide +kernel)
set_option maxRecDepth 20000 in
theorem gL_refuses_X5_today : GoodIn wsL_refuses (wsV RL 133 RX5 yX5_today wsX5_today) := goodIn_app (goodIn_of _ (by decide +kernel)) ggL_refuses_X5_today
theorem dL_refuses_0 : decode cL_refuses 0 = .ok (.iload_n 2, 1) := by decide +kernel
theorem dL_refuses_1 : decode cL_refuses 1 = .ok (.iconst 2, 1) := by decide +kernel
theorem dL_refuses_2 : decode cL_refuses 2 = .ok (.irem, 1) := by decide +kernel
theorem dL_refuses_3 : decode cL_refuses 3 = .ok (.ifCond .ne 12, 3) := by decide +kernel
theorem dL_refuses_6 : decode cL_refuses 6 = .ok (.iconst (-1), 1) := by decide +kernel
theorem dL_refuses_7 : decode cL_refuses 7 = .ok (.iload_n 2, 1) := by decide +kernel
theorem dL_refuses_8 : decode cL_refuses 8 = .ok (.bipush 50, 2) := by decide +kernel
theorem dL_refuses_10 : decode cL_refuses 10 = .ok (.irem, 1) := by decide +kernel
theorem dL_refuses_11 : decode cL_refuses 11 = .ok (.isub, 1) := by decide +kernel
theorem dL_refuses_12 : decode cL_refuses 12 = .ok (.goto 11, 3) := by decide +kernel
theorem dL_refuses_15 : decode cL_refuses 15 = .ok (.aload_n 1, 1) := by decide +kernel
theorem dL_refuses_16 : decode cL_refuses 16 = .ok (.iconst 0, 1) := by decide +kernel
theorem dL_refuses_17 : decode cL_refuses 17 = .ok (.iaload, 1) := by decide +kernel
theorem dL_refuses_18 : decode cL_refuses 18 = .ok (.iload_n 2, 1) := by decide +kernel
theorem dL_refuses_19 : decode cL_refuses 19 = .ok (.bipush 50, 2) := by decide +kernel
theorem dL_refuses_21 : decode cL_refuses 21 = .ok (.irem, 1) := by decide +kernel
theorem dL_refuses_22 : decode cL_refuses 22 = .ok (.iadd, 1) := by decide +kernel
theorem dL_refuses_23 : decode cL_refuses 23 = .ok (.istore_n 3, 1) := by decide +kernel
theorem dL_refuses_24 : decode cL_refuses 24 = .ok (.iload_n 2, 1) := by decide +kernel
theorem dL_refuses_25 : decode cL_refuses 25 = .ok (.iconst 2, 1) := by decide +kernel
theorem dL_refuses_26 : decode cL_refuses 26 = .ok (.irem, 1) := by decide +kernel
theorem dL_refuses_27 : decode cL_refuses 27 = .ok (.ifCond .ne 12, 3) := by decide +kernel
theorem dL_refuses_30 : decode cL_refuses 30 = .ok (.iconst (-1), 1) := by decide +kernel
theorem dL_refuses_31 : decode cL_refuses 31 = .ok (.iload_n 2, 1) := by decide +kernel
theorem dL_refuses_32 : decode cL_refuses 32 = .ok (.bipush 50, 2) := by decide +kernel
theorem dL_refuses_34 : decode cL_refuses 34 = .ok (.irem, 1) := by decide +kernel
theorem dL_refuses_35 : decode cL_refuses 35 = .ok (.isub, 1) := by decide +kernel
theorem dL_refuses_36 : decode cL_refuses 36 = .ok (.goto 9, 3) := by decide +kernel
theorem dL_refuses_39 : decode cL_refuses 39 = .ok (.iconst 4, 1) := by decide +kernel
theorem dL_refuses_40 : decode cL_refuses 40 = .ok (.iload_n 2, 1) := by decide +kernel
theorem dL_refuses_41 : decode cL_refuses 41 = .ok (.bipush 50, 2) := by decide +kernel
theorem dL_refuses_43 : decode cL_refuses 43 = .ok (.irem, 1) := by decide +kernel
theorem dL_refuses_44 : decode cL_refuses 44 = .ok (.iadd, 1) := by decide +kernel
theorem dL_refuses_45 : decode cL_refuses 45 = .ok (.istore 4, 2) := by decide +kernel
theorem dL_refuses_47 : decode cL_refuses 47 = .ok (.iload_n 2, 1) := by decide +kernel
theorem dL_refuses_48 : decode cL_refuses 48 = .ok (.iconst 2, 1) := by decide +kernel
theorem dL_refuses_49 : decode cL_refuses 49 = .ok (.irem, 1) := by decide +kernel
theorem dL_refuses_50 : decode cL_refuses 50 = .ok (.ifCond .ne 12, 3) := by decide +kernel
theorem dL_refuses_53 : decode cL_refuses 53 = .ok (.iconst (-1), 1) := by decide +kernel
theorem dL_refuses_54 : decode cL_refuses 54 = .ok (.iload_n 2, 1) := by decide +kernel
theorem dL_refuses_55 : decode cL_refuses 55 = .ok (.bipush 50, 2) := by decide +kernel
theorem dL_refuses_57 : decode cL_refuses 57 = .ok (.irem, 1) := by decide +kernel
theorem dL_refuses_58 : decode cL_refuses 58 = .ok (.isub, 1) := by decide +kernel
theorem dL_refuses_59 : decode cL_refuses 59 = .ok (.goto 8, 3) := by decide +kernel
theorem dL_refuses_62 : decode cL_refuses 62 = .ok (.sipush 10000, 3) := by decide +kernel
theorem dL_refuses_65 : decode cL_refuses 65 = .ok (.iload_n 2, 1) := by decide +kernel
theorem dL_refuses_66 : decode cL_refuses 66 = .ok (.iadd, 1) := by decide +kernel
theorem dL_refuses_67 : decode cL_refuses 67 = .ok (.istore 5, 2) := by decide +kernel
theorem dL_refuses_69 : decode cL_refuses 69 = .ok (.aload_n 0, 1) := by decide +kernel
theorem dL_refuses_70 : decode cL_refuses 70 = .ok (.iconst 0, 1) := by decide +kernel
theorem dL_refuses_71 : decode cL_refuses 71 = .ok (.invokestatic 82, 3) := by decide +kernel
theorem dL_refuses_74 : decode cL_refuses 74 = .ok (.ldc 15, 2) := by decide +kernel
theorem dL_refuses_76 : decode cL_refuses 76 = .ok (.if_icmp .ne 441, 3) := by decide +kernel
theorem dL_refuses_79 : decode cL_refuses 79 = .ok (.aload_n 0, 1) := by decide +kernel
theorem dL_refuses_80 : decode cL_refuses 80 = .ok (.sipush 1001, 3) := by decide +kernel
theorem dL_refuses_83 : decode cL_refuses 83 = .ok (.iload_n 2, 1) := by decide +kernel
theorem dL_refuses_84 : decode cL_refuses 84 = .ok (.iadd, 1) := by decide +kernel
theorem dL_refuses_85 : decode cL_refuses 85 = .ok (.invokestatic 82, 3) := by decide +kernel
theorem dL_refuses_88 : decode cL_refuses 88 = .ok (.ldc 15, 2) := by decide +kernel
theorem dL_refuses_90 : decode cL_refuses 90 = .ok (.if_icmp .ne 427, 3) := by decide +kernel
theorem dL_refuses_93 : decode cL_refuses 93 = .ok (.aload_n 0, 1) := by decide +kernel
theorem dL_refuses_94 : decode cL_refuses 94 = .ok (.iload 4, 2) := by decide +kernel
theorem dL_refuses_96 : decode cL_refuses 96 = .ok (.iconst 5, 1) := by decide +kernel
theorem dL_refuses_97 : decode cL_refuses 97 = .ok (.invokestatic 88, 3) := by decide +kernel
theorem dL_refuses_100 : decode cL_refuses 100 = .ok (.ldc 15, 2) := by decide +kernel
theorem dL_refuses_102 : decode cL_refuses 102 = .ok (.if_icmp .ne 415, 3) := by decide +kernel
theorem dL_refuses_105 : decode cL_refuses 105 = .ok (.aload_n 0, 1) := by decide +kernel
theorem dL_refuses_106 : decode cL_refuses 106 = .ok (.iload_n 2, 1) := by decide +kernel
theorem dL_refuses_107 : decode cL_refuses 107 = .ok (.iconst 4, 1) := by decide +kernel
theorem dL_refuses_108 : decode cL_refuses 108 = .ok (.irem, 1) := by decide +kernel
theorem dL_refuses_109 : decode cL_refuses 109 = .ok (.sipush 1000, 3) := by decide +kernel
theorem dL_refuses_112 : decode cL_refuses 112 = .ok (.iload_n 2, 1) := by decide +kernel
theorem dL_refuses_113 : decode cL_refuses 113 = .ok (.iadd, 1) := by decide +kernel
theorem dL_refuses_114 : decode cL_refuses 114 = .ok (.invokestatic 88, 3) := by decide +kernel
theorem dL_refuses_117 : decode cL_refuses 117 = .ok (.ldc 15, 2) := by decide +kernel
theorem dL_refuses_119 : decode cL_refuses 119 = .ok (.if_icmp .ne 398, 3) := by decide +kernel
theorem dL_refuses_122 : decode cL_refuses 122 = .ok (.aload_n 0, 1) := by decide +kernel
theorem dL_refuses_123 : decode cL_refuses 123 = .ok (.iload_n 2, 1) := by decide +kernel
theorem dL_refuses_124 : decode cL_refuses 124 = .ok (.iconst 4, 1) := by decide +kernel
theorem dL_refuses_125 : decode cL_refuses 125 = .ok (.irem, 1) := by decide +kernel
theorem dL_refuses_126 : decode cL_refuses 126 = .ok (.iload_n 2, 1) := by decide +kernel
theorem dL_refuses_127 : decode cL_refuses 127 = .ok (.ineg, 1) := by decide +kernel
theorem dL_refuses_128 : decode cL_refuses 128 = .ok (.invokestatic 88, 3) := by decide +kernel
theorem dL_refuses_131 : decode cL_refuses 131 = .ok (.ldc 15, 2) := by decide +kernel
theorem dL_refuses_133 : decode cL_refuses 133 = .ok (.if_icmp .ne 384, 3) := by decide +kernel
theorem dL_refuses_136 : decode cL_refuses 136 = .ok (.aload_n 0, 1) := by decide +kernel
theorem dL_refuses_137 : decode cL_refuses 137 = .ok (.iload 4, 2) := by decide +kernel
theorem dL_refuses_139 : decode cL_refuses 139 = .ok (.invokestatic 92, 3) := by decide +kernel
theorem dL_refuses_142 : decode cL_refuses 142 = .ok (.ldc 15, 2) := by decide +kernel
theorem dL_refuses_144 : decode cL_refuses 144 = .ok (.if_icmp .ne 373, 3) := by decide +kernel
theorem dL_refuses_147 : decode cL_refuses 147 = .ok (.aload_n 0, 1) := by decide +kernel
theorem dL_refuses_148 : decode cL_refuses 148 = .ok (.iload 4, 2) := by decide +kernel
theorem dL_refuses_150 : decode cL_refuses 150 = .ok (.iconst 0, 1) := by decide +kernel
theorem dL_refuses_151 : decode cL_refuses 151 = .ok (.iconst 0, 1) := by decide +kernel
theorem dL_refuses_152 : decode cL_refuses 152 = .ok (.iconst 0, 1) := by decide +kernel
theorem dL_refuses_153 : decode cL_refuses 153 = .ok (.iconst 0, 1) := by decide +kernel
theorem dL_refuses_154 : decode cL_refuses 154 = .ok (.iconst 0, 1) := by decide +kernel
theorem dL_refuses_155 : decode cL_refuses 155 = .ok (.invokestatic 95, 3) := by decide +kernel
theorem dL_refuses_158 : decode cL_refuses 158 = .ok (.ldc 15, 2) := by decide +kernel
theorem dL_refuses_160 : decode cL_refuses 160 = .ok (.if_icmp .ne 357, 3) := by decide +kernel
theorem dL_refuses_163 : decode cL_refuses 163 = .ok (.aload_n 0, 1) := by decide +kernel
theorem dL_refuses_164 : decode cL_refuses 164 = .ok (.iconst 0, 1) := by decide +kernel
theorem dL_refuses_165 : decode cL_refuses 165 = .ok (.bipush 100, 2) := by decide +kernel
theorem dL_refuses_167 : decode cL_refuses 167 = .ok (.iload_n 2, 1) := by decide +kernel
theorem dL_refuses_168 : decode cL_refuses 168 = .ok (.iadd, 1) := by decide +kernel
theorem dL_refuses_169 : decode cL_refuses 169 = .ok (.iconst 0, 1) := by decide +kernel
theorem dL_refuses_170 : decode cL_refuses 170 = .ok (.iconst 0, 1) := by decide +kernel
theorem dL_refuses_171 : decode cL_refuses 171 = .ok (.iconst 0, 1) := by decide +kernel
theorem dL_refuses_172 : decode cL_refuses 172 = .ok (.iconst 0, 1) := by decide +kernel
theorem dL_refuses_173 : decode cL_refuses 173 = .ok (.invokestatic 95, 3) := by decide +kernel
theorem dL_refuses_176 : decode cL_refuses 176 = .ok (.ldc 15, 2) := by decide +kernel
theorem dL_refuses_178 : decode cL_refuses 178 = .ok (.if_icmp .ne 339, 3) := by decide +kernel
theorem dL_refuses_181 : decode cL_refuses 181 = .ok (.aload_n 0, 1) := by decide +kernel
theorem dL_refuses_182 : decode cL_refuses 182 = .ok (.iconst 0, 1) := by decide +kernel
theorem dL_refuses_183 : decode cL_refuses 183 = .ok (.iconst 0, 1) := by decide +kernel
theorem dL_refuses_184 : decode cL_refuses 184 = .ok (.iconst (-1), 1) := by decide +kernel
theorem dL_refuses_185 : decode cL_refuses 185 = .ok (.iload_n 2, 1) := by decide +kernel
theorem dL_refuses_186 : decode cL_refuses 186 = .ok (.isub, 1) := by decide +kernel
theorem dL_refuses_187 : decode cL_refuses 187 = .ok (.iconst 0, 1) := by decide +kernel
theorem dL_refuses_188 : decode cL_refuses 188 = .ok (.iconst 0, 1) := by decide +kernel
theorem dL_refuses_189 : decode cL_refuses 189 = .ok (.iconst 0, 1) := by decide +kernel
theorem dL_refuses_190 : decode cL_refuses 190 = .ok (.invokestatic 95, 3) := by decide +kernel
theorem dL_refuses_193 : decode cL_refuses 193 = .ok (.ldc 15, 2) := by decide +kernel
theorem dL_refuses_195 : decode cL_refuses 195 = .ok (.if_icmp .ne 322, 3) := by decide +kernel
theorem dL_refuses_198 : decode cL_refuses 198 = .ok (.aload_n 0, 1) := by decide +kernel
theorem dL_refuses_199 : decode cL_refuses 199 = .ok (.iconst 0, 1) := by decide +kernel
theorem dL_refuses_200 : decode cL_refuses 200 = .ok (.iconst 0, 1) := by decide +kernel
theorem dL_refuses_201 : decode cL_refuses 201 = .ok (.iconst 0, 1) := by decide +kernel
theorem dL_refuses_202 : decode cL_refuses 202 = .ok (.bipush 100, 2) := by decide +kernel
theorem dL_refuses_204 : decode cL_refuses 204 = .ok (.iconst 0, 1) := by decide +kernel
theorem dL_refuses_205 : decode cL_refuses 205 = .ok (.iconst 0, 1) := by decide +kernel
theorem dL_refuses_206 : decode cL_refuses 206 = .ok (.invokestatic 95, 3) := by decide +kernel
theorem dL_refuses_209 : decode cL_refuses 209 = .ok (.ldc 15, 2) := by decide +kernel
theorem dL_refuses_211 : decode cL_refuses 211 = .ok (.if_icmp .ne 306, 3) := by decide +kernel
theorem dL_refuses_214 : decode cL_refuses 214 = .ok (.aload_n 0, 1) := by decide +kernel
theorem dL_refuses_215 : decode cL_refuses 215 = .ok (.iconst 0, 1) := by decide +kernel
theorem dL_refuses_216 : decode cL_refuses 216 = .ok (.iconst 0, 1) := by decide +kernel
theorem dL_refuses_217 : decode cL_refuses 217 = .ok (.iconst 0, 1) := by decide +kernel
theorem dL_refuses_218 : decode cL_refuses 218 = .ok (.iconst 0, 1) := by decide +kernel
theorem dL_refuses_219 : decode cL_refuses 219 = .ok (.bipush (-2), 2) := by decide +kernel
theorem dL_refuses_221 : decode cL_refuses 221 = .ok (.iload_n 2, 1) := by decide +kernel
theorem dL_refuses_222 : decode cL_refuses 222 = .ok (.isub, 1) := by decide +kernel
theorem dL_refuses_223 : decode cL_refuses 223 = .ok (.iconst 0, 1) := by decide +kernel
theorem dL_refuses_224 : decode cL_refuses 224 = .ok (.invokestatic 95, 3) := by decide +kernel
theorem dL_refuses_227 : decode cL_refuses 227 = .ok (.ldc 15, 2) := by decide +kernel
theorem dL_refuses_229 : decode cL_refuses 229 = .ok (.if_icmp .ne 288, 3) := by decide +kernel
theorem dL_refuses_232 : decode cL_refuses 232 = .ok (.aload_n 0, 1) := by decide +kernel
theorem dL_refuses_233 : decode cL_refuses 233 = .ok (.iconst 0, 1) := by decide +kernel
theorem dL_refuses_234 : decode cL_refuses 234 = .ok (.iconst 0, 1) := by decide +kernel
theorem dL_refuses_235 : decode cL_refuses 235 = .ok (.iconst 0, 1) := by decide +kernel
theorem dL_refuses_236 : decode cL_refuses 236 = .ok (.iconst 0, 1) := by decide +kernel
theorem dL_refuses_237 : decode cL_refuses 237 = .ok (.iconst 0, 1) := by decide +kernel
theorem dL_refuses_238 : decode cL_refuses 238 = .ok (.bipush 100, 2) := by decide +kernel
theorem dL_refuses_240 : decode cL_refuses 240 = .ok (.iload_n 2, 1) := by decide +kernel
theorem dL_refuses_241 : decode cL_refuses 241 = .ok (.iadd, 1) := by decide +kernel
theorem dL_refuses_242 : decode cL_refuses 242 = .ok (.invokestatic 95, 3) := by decide +kernel
theorem dL_refuses_245 : decode cL_refuses 245 = .ok (.ldc 15, 2) := by decide +kernel
theorem dL_refuses_247 : decode cL_refuses 247 = .ok (.if_icmp .ne 270, 3) := by decide +kernel
theorem dL_refuses_250 : decode cL_refuses 250 = .ok (.aload_n 0, 1) := by decide +kernel
theorem dL_refuses_251 : decode cL_refuses 251 = .ok (.iload_n 3, 1) := by decide +kernel
theorem dL_refuses_252 : decode cL_refuses 252 = .ok (.invokestatic 99, 3) := by decide +kernel
theorem dL_refuses_255 : decode cL_refuses 255 = .ok (.ldc 36, 2) := by decide +kernel
theorem dL_refuses_257 : decode cL_refuses 257 = .ok (.if_icmp .ne 260, 3) := by decide +kernel
theorem dL_refuses_260 : decode cL_refuses 260 = .ok (.aload_n 0, 1) := by decide +kernel
theorem dL_refuses_261 : decode cL_refuses 261 = .ok (.iload_n 3, 1) := by decide +kernel
theorem dL_refuses_262 : decode cL_refuses 262 = .ok (.iload_n 3, 1) := by decide +kernel
theorem dL_refuses_263 : decode cL_refuses 263 = .ok (.bipush 9, 2) := by decide +kernel
theorem dL_refuses_265 : decode cL_refuses 265 = .ok (.invokestatic 102, 3) := by decide +kernel
theorem dL_refuses_268 : decode cL_refuses 268 = .ok (.ldc 36, 2) := by decide +kernel
theorem dL_refuses_270 : decode cL_refuses 270 = .ok (.if_icmp .ne 247, 3) := by decide +kernel
theorem dL_refuses_273 : decode cL_refuses 273 = .ok (.aload_n 0, 1) := by decide +kernel
theorem dL_refuses_274 : decode cL_refuses 274 = .ok (.iload_n 3, 1) := by decide +kernel
theorem dL_refuses_275 : decode cL_refuses 275 = .ok (.iload 5, 2) := by decide +kernel
theorem dL_refuses_277 : decode cL_refuses 277 = .ok (.invokestatic 106, 3) := by decide +kernel
theorem dL_refuses_280 : decode cL_refuses 280 = .ok (.ldc 36, 2) := by decide +kernel
theorem dL_refuses_282 : decode cL_refuses 282 = .ok (.if_icmp .ne 235, 3) := by decide +kernel
theorem dL_refuses_285 : decode cL_refuses 285 = .ok (.aload_n 0, 1) := by decide +kernel
theorem dL_refuses_286 : decode cL_refuses 286 = .ok (.iload 5, 2) := by decide +kernel
theorem dL_refuses_288 : decode cL_refuses 288 = .ok (.invokestatic 108, 3) := by decide +kernel
theorem dL_refuses_291 : decode cL_refuses 291 = .ok (.ldc 15, 2) := by decide +kernel
theorem dL_refuses_293 : decode cL_refuses 293 = .ok (.if_icmp .ne 224, 3) := by decide +kernel
theorem dL_refuses_296 : decode cL_refuses 296 = .ok (.aload_n 0, 1) := by decide +kernel
theorem dL_refuses_297 : decode cL_refuses 297 = .ok (.iload_n 3, 1) := by decide +kernel
theorem dL_refuses_298 : decode cL_refuses 298 = .ok (.iload 5, 2) := by decide +kernel
theorem dL_refuses_300 : decode cL_refuses 300 = .ok (.invokestatic 110, 3) := by decide +kernel
theorem dL_refuses_303 : decode cL_refuses 303 = .ok (.ldc 36, 2) := by decide +kernel
theorem dL_refuses_305 : decode cL_refuses 305 = .ok (.if_icmp .ne 212, 3) := by decide +kernel
theorem dL_refuses_308 : decode cL_refuses 308 = .ok (.aload_n 0, 1) := by decide +kernel
theorem dL_refuses_309 : decode cL_refuses 309 = .ok (.iload_n 3, 1) := by decide +kernel
theorem dL_refuses_310 : decode cL_refuses 310 = .ok (.bipush 9, 2) := by decide +kernel
theorem dL_refuses_312 : decode cL_refuses 312 = .ok (.iload 5, 2) := by decide +kernel
theorem dL_refuses_314 : decode cL_refuses 314 = .ok (.invokestatic 113, 3) := by decide +kernel
theorem dL_refuses_317 : decode cL_refuses 317 = .ok (.ldc 36, 2) := by decide +kernel
theorem dL_refuses_319 : decode cL_refuses 319 = .ok (.if_icmp .ne 198, 3) := by decide +kernel
theorem dL_refuses_322 : decode cL_refuses 322 = .ok (.aload_n 0, 1) := by decide +kernel
theorem dL_refuses_323 : decode cL_refuses 323 = .ok (.iconst 2, 1) := by decide +kernel
theorem dL_refuses_324 : decode cL_refuses 324 = .ok (.iload_n 2, 1) := by decide +kernel
theorem dL_refuses_325 : decode cL_refuses 325 = .ok (.iadd, 1) := by decide +kernel
theorem dL_refuses_326 : decode cL_refuses 326 = .ok (.iconst 0, 1) := by decide +kernel
theorem dL_refuses_327 : decode cL_refuses 327 = .ok (.invokestatic 115, 3) := by decide +kernel
theorem dL_refuses_330 : decode cL_refuses 330 = .ok (.ldc 15, 2) := by decide +kernel
theorem dL_refuses_332 : decode cL_refuses 332 = .ok (.if_icmp .ne 185, 3) := by decide +kernel
theorem dL_refuses_335 : decode cL_refuses 335 = .ok (.aload_n 0, 1) := by decide +kernel
theorem dL_refuses_336 : decode cL_refuses 336 = .ok (.iconst 0, 1) := by decide +kernel
theorem dL_refuses_337 : decode cL_refuses 337 = .ok (.iload 5, 2) := by decide +kernel
theorem dL_refuses_339 : decode cL_refuses 339 = .ok (.invokestatic 115, 3) := by decide +kernel
theorem dL_refuses_342 : decode cL_refuses 342 = .ok (.ldc 15, 2) := by decide +kernel
theorem dL_refuses_344 : decode cL_refuses 344 = .ok (.if_icmp .ne 173, 3) := by decide +kernel
theorem dL_refuses_347 : decode cL_refuses 347 = .ok (.aload_n 0, 1) := by decide +kernel
theorem dL_refuses_348 : decode cL_refuses 348 = .ok (.iload_n 3, 1) := by decide +kernel
theorem dL_refuses_349 : decode cL_refuses 349 = .ok (.iload_n 3, 1) := by decide +kernel
theorem dL_refuses_350 : decode cL_refuses 350 = .ok (.bipush 9, 2) := by decide +kernel
theorem dL_refuses_352 : decode cL_refuses 352 = .ok (.invokestatic 117, 3) := by decide +kernel
theorem dL_refuses_355 : decode cL_refuses 355 = .ok (.ldc 36, 2) := by decide +kernel
theorem dL_refuses_357 : decode cL_refuses 357 = .ok (.if_icmp .ne 160, 3) := by decide +kernel
theorem dL_refuses_360 : decode cL_refuses 360 = .ok (.aload_n 0, 1) := by decide +kernel
theorem dL_refuses_361 : decode cL_refuses 361 = .ok (.iload_n 3, 1) := by decide +kernel
theorem dL_refuses_362 : decode cL_refuses 362 = .ok (.iload 5, 2) := by decide +kernel
theorem dL_refuses_364 : decode cL_refuses 364 = .ok (.invokestatic 120, 3) := by decide +kernel
theorem dL_refuses_367 : decode cL_refuses 367 = .ok (.ldc 36, 2) := by decide +kernel
theorem dL_refuses_369 : decode cL_refuses 369 = .ok (.if_icmp .ne 148, 3) := by decide +kernel
theorem dL_refuses_372 : decode cL_refuses 372 = .ok (.aload_n 0, 1) := by decide +kernel
theorem dL_refuses_373 : decode cL_refuses 373 = .ok (.iload_n 3, 1) := by decide +kernel
theorem dL_refuses_374 : decode cL_refuses 374 = .ok (.iconst 0, 1) := by decide +kernel
theorem dL_refuses_375 : decode cL_refuses 375 = .ok (.iload 5, 2) := by decide +kernel
theorem dL_refuses_377 : decode cL_refuses 377 = .ok (.invokestatic 122, 3) := by decide +kernel
theorem dL_refuses_380 : decode cL_refuses 380 = .ok (.ldc 36, 2) := by decide +kernel
theorem dL_refuses_382 : decode cL_refuses 382 = .ok (.if_icmp .ne 135, 3) := by decide +kernel
theorem dL_refuses_385 : decode cL_refuses 385 = .ok (.aload_n 0, 1) := by decide +kernel
theorem dL_refuses_386 : decode cL_refuses 386 = .ok (.iconst 3, 1) := by decide +kernel
theorem dL_refuses_387 : decode cL_refuses 387 = .ok (.iload_n 2, 1) := by decide +kernel
theorem dL_refuses_388 : decode cL_refuses 388 = .ok (.iadd, 1) := by decide +kernel
theorem dL_refuses_389 : decode cL_refuses 389 = .ok (.iconst 1, 1) := by decide +kernel
theorem dL_refuses_390 : decode cL_refuses 390 = .ok (.iconst 0, 1) := by decide +kernel
theorem dL_refuses_391 : decode cL_refuses 391 = .ok (.iconst 0, 1) := by decide +kernel
theorem dL_refuses_392 : decode cL_refuses 392 = .ok (.invokestatic 125, 3) := by decide +kernel
theorem dL_refuses_395 : decode cL_refuses 395 = .ok (.ldc 15, 2) := by decide +kernel
theorem dL_refuses_397 : decode cL_refuses 397 = .ok (.if_icmp .ne 120, 3) := by decide +kernel
theorem dL_refuses_400 : decode cL_refuses 400 = .ok (.aload_n 0, 1) := by decide +kernel
theorem dL_refuses_401 : decode cL_refuses 401 = .ok (.iconst 0, 1) := by decide +kernel
theorem dL_refuses_402 : decode cL_refuses 402 = .ok (.iconst 0, 1) := by decide +kernel
theorem dL_refuses_403 : decode cL_refuses 403 = .ok (.iconst 0, 1) := by decide +kernel
theorem dL_refuses_404 : decode cL_refuses 404 = .ok (.iconst 0, 1) := by decide +kernel
theorem dL_refuses_405 : decode cL_refuses 405 = .ok (.invokestatic 125, 3) := by decide +kernel
theorem dL_refuses_408 : decode cL_refuses 408 = .ok (.ldc 15, 2) := by decide +kernel
theorem dL_refuses_410 : decode cL_refuses 410 = .ok (.if_icmp .ne 107, 3) := by decide +kernel
theorem dL_refuses_413 : decode cL_refuses 413 = .ok (.aload_n 0, 1) := by decide +kernel
theorem dL_refuses_414 : decode cL_refuses 414 = .ok (.iconst 0, 1) := by decide +kernel
theorem dL_refuses_415 : decode cL_refuses 415 = .ok (.iconst 1, 1) := by decide +kernel
theorem dL_refuses_416 : decode cL_refuses 416 = .ok (.iconst 2, 1) := by decide +kernel
theorem dL_refuses_417 : decode cL_refuses 417 = .ok (.iload_n 2, 1) := by decide +kernel
theorem dL_refuses_418 : decode cL_refuses 418 = .ok (.iadd, 1) := by decide +kernel
theorem dL_refuses_419 : decode cL_refuses 419 = .ok (.iconst 0, 1) := by decide +kernel
theorem dL_refuses_420 : decode cL_refuses 420 = .ok (.invokestatic 125, 3) := by decide +kernel
theorem dL_refuses_423 : decode cL_refuses 423 = .ok (.ldc 15, 2) := by decide +kernel
theorem dL_refuses_425 : decode cL_refuses 425 = .ok (.if_icmp .ne 92, 3) := by decide +kernel
theorem dL_refuses_428 : decode cL_refuses 428 = .ok (.aload_n 0, 1) := by decide +kernel
theorem dL_refuses_429 : decode cL_refuses 429 = .ok (.iconst 0, 1) := by decide +kernel
theorem dL_refuses_430 : decode cL_refuses 430 = .ok (.iconst 1, 1) := by decide +kernel
theorem dL_refuses_431 : decode cL_refuses 431 = .ok (.iconst 0, 1) := by decide +kernel
theorem dL_refuses_432 : decode cL_refuses 432 = .ok (.bipush 100, 2) := by decide +kernel
theorem dL_refuses_434 : decode cL_refuses 434 = .ok (.iload_n 2, 1) := by decide +kernel
theorem dL_refuses_435 : decode cL_refuses 435 = .ok (.iadd, 1) := by decide +kernel
theorem dL_refuses_436 : decode cL_refuses 436 = .ok (.invokestatic 125, 3) := by decide +kernel
theorem dL_refuses_439 : decode cL_refuses 439 = .ok (.ldc 15, 2) := by decide +kernel
theorem dL_refuses_441 : decode cL_refuses 441 = .ok (.if_icmp .ne 76, 3) := by decide +kernel
theorem dL_refuses_444 : decode cL_refuses 444 = .ok (.aload_n 0, 1) := by decide +kernel
theorem dL_refuses_445 : decode cL_refuses 445 = .ok (.aload_n 1, 1) := by decide +kernel
theorem dL_refuses_446 : decode cL_refuses 446 = .ok (.iconst 2, 1) := by decide +kernel
theorem dL_refuses_447 : decode cL_refuses 447 = .ok (.iaload, 1) := by decide +kernel
theorem dL_refuses_448 : decode cL_refuses 448 = .ok (.iload_n 2, 1) := by decide +kernel
theorem dL_refuses_449 : decode cL_refuses 449 = .ok (.iadd, 1) := by decide +kernel
theorem dL_refuses_450 : decode cL_refuses 450 = .ok (.iconst 0, 1) := by decide +kernel
theorem dL_refuses_451 : decode cL_refuses 451 = .ok (.invokestatic 129, 3) := by decide +kernel
theorem dL_refuses_454 : decode cL_refuses 454 = .ok (.ldc 36, 2) := by decide +kernel
theorem dL_refuses_456 : decode cL_refuses 456 = .ok (.if_icmp .ne 61, 3) := by decide +kernel
theorem dL_refuses_459 : decode cL_refuses 459 = .ok (.aload_n 0, 1) := by decide +kernel
theorem dL_refuses_460 : decode cL_refuses 460 = .ok (.iconst (-1), 1) := by decide +kernel
theorem dL_refuses_461 : decode cL_refuses 461 = .ok (.iload_n 2, 1) := by decide +kernel
theorem dL_refuses_462 : decode cL_refuses 462 = .ok (.isub, 1) := by decide +kernel
theorem dL_refuses_463 : decode cL_refuses 463 = .ok (.iload 5, 2) := by decide +kernel
theorem dL_refuses_465 : decode cL_refuses 465 = .ok (.invokestatic 129, 3) := by decide +kernel
theorem dL_refuses_468 : decode cL_refuses 468 = .ok (.ldc 36, 2) := by decide +kernel
theorem dL_refuses_470 : decode cL_refuses 470 = .ok (.if_icmp .ne 47, 3) := by decide +kernel
theorem dL_refuses_473 : decode cL_refuses 473 = .ok (.aload_n 0, 1) := by decide +kernel
theorem dL_refuses_474 : decode cL_refuses 474 = .ok (.iconst 0, 1) := by decide +kernel
theorem dL_refuses_475 : decode cL_refuses 475 = .ok (.iload 5, 2) := by decide +kernel
theorem dL_refuses_477 : decode cL_refuses 477 = .ok (.iconst 0, 1) := by decide +kernel
theorem dL_refuses_478 : decode cL_refuses 478 = .ok (.invokestatic 131, 3) := by decide +kernel
theorem dL_refuses_481 : decode cL_refuses 481 = .ok (.ldc 15, 2) := by decide +kernel
theorem dL_refuses_483 : decode cL_refuses 483 = .ok (.if_icmp .ne 34, 3) := by decide +kernel
theorem dL_refuses_486 : decode cL_refuses 486 = .ok (.aload_n 0, 1) := by decide +kernel
theorem dL_refuses_487 : decode cL_refuses 487 = .ok (.iconst 0, 1) := by decide +kernel
theorem dL_refuses_488 : decode cL_refuses 488 = .ok (.iconst 0, 1) := by decide +kernel
theorem dL_refuses_489 : decode cL_refuses 489 = .ok (.iload 5, 2) := by decide +kernel
theorem dL_refuses_491 : decode cL_refuses 491 = .ok (.invokestatic 131, 3) := by decide +kernel
theorem dL_refuses_494 : decode cL_refuses 494 = .ok (.ldc 15, 2) := by decide +kernel
theorem dL_refuses_496 : decode cL_refuses 496 = .ok (.if_icmp .ne 21, 3) := by decide +kernel
theorem dL_refuses_499 : decode cL_refuses 499 = .ok (.aload_n 0, 1) := by decide +kernel
theorem dL_refuses_500 : decode cL_refuses 500 = .ok (.iconst (-1), 1) := by decide +kernel
theorem dL_refuses_501 : decode cL_refuses 501 = .ok (.iload_n 2, 1) := by decide +kernel
theorem dL_refuses_502 : decode cL_refuses 502 = .ok (.isub, 1) := by decide +kernel
theorem dL_refuses_503 : decode cL_refuses 503 = .ok (.iconst 0, 1) := by decide +kernel
theorem dL_refuses_504 : decode cL_refuses 504 = .ok (.iconst 0, 1) := by decide +kernel
theorem dL_refuses_505 : decode cL_refuses 505 = .ok (.invokestatic 131, 3) := by decide +kernel
theorem dL_refuses_508 : decode cL_refuses 508 = .ok (.ldc 15, 2) := by decide +kernel
theorem dL_refuses_510 : decode cL_refuses 510 = .ok (.if_icmp .ne 7, 3) := by decide +kernel
theorem dL_refuses_513 : decode cL_refuses 513 = .ok (.iconst 1, 1) := by decide +kernel
theorem dL_refuses_514 : decode cL_refuses 514 = .ok (.goto 4, 3) := by decide +kernel
theorem dL_refuses_517 : decode cL_refuses 517 = .ok (.iconst 0, 1) := by decide +kernel
theorem dL_refuses_518 : decode cL_refuses 518 = .ok (.istore 6, 2) := by decide +kernel
theorem dL_refuses_520 : decode cL_refuses 520 = .ok (.iload 6, 2) := by decide +kernel
theorem dL_refuses_522 : decode cL_refuses 522 = .ok (.ifCond .eq 334, 3) := by decide +kernel
theorem dL_refuses_525 : decode cL_refuses 525 = .ok (.aload_n 1, 1) := by decide +kernel
theorem dL_refuses_526 : decode cL_refuses 526 = .ok (.iconst 0, 1) := by decide +kernel
theorem dL_refuses_527 : decode cL_refuses 527 = .ok (.iaload, 1) := by decide +kernel
theorem dL_refuses_528 : decode cL_refuses 528 = .ok (.ifCond .le 328, 3) := by decide +kernel
theorem dL_refuses_531 : decode cL_refuses 531 = .ok (.iload_n 2, 1) := by decide +kernel
theorem dL_refuses_532 : decode cL_refuses 532 = .ok (.aload_n 1, 1) := by decide +kernel
theorem dL_refuses_533 : decode cL_refuses 533 = .ok (.iconst 0, 1) := by decide +kernel
theorem dL_refuses_534 : decode cL_refuses 534 = .ok (.iaload, 1) := by decide +kernel
theorem dL_refuses_535 : decode cL_refuses 535 = .ok (.irem, 1) := by decide +kernel
theorem dL_refuses_536 : decode cL_refuses 536 = .ok (.istore 7, 2) := by decide +kernel
theorem dL_refuses_538 : decode cL_refuses 538 = .ok (.aload_n 0, 1) := by decide +kernel
theorem dL_refuses_539 : decode cL_refuses 539 = .ok (.iload 7, 2) := by decide +kernel
theorem dL_refuses_541 : decode cL_refuses 541 = .ok (.iload 7, 2) := by decide +kernel
theorem dL_refuses_543 : decode cL_refuses 543 = .ok (.iconst 1, 1) := by decide +kernel
theorem dL_refuses_544 : decode cL_refuses 544 = .ok (.invokestatic 102, 3) := by decide +kernel
theorem dL_refuses_547 : decode cL_refuses 547 = .ok (.ldc 15, 2) := by decide +kernel
theorem dL_refuses_549 : decode cL_refuses 549 = .ok (.if_icmp .ne 143, 3) := by decide +kernel
theorem dL_refuses_552 : decode cL_refuses 552 = .ok (.aload_n 0, 1) := by decide +kernel
theorem dL_refuses_553 : decode cL_refuses 553 = .ok (.iload 7, 2) := by decide +kernel
theorem dL_refuses_555 : decode cL_refuses 555 = .ok (.iload_n 3, 1) := by decide +kernel
theorem dL_refuses_556 : decode cL_refuses 556 = .ok (.iconst 1, 1) := by decide +kernel
theorem dL_refuses_557 : decode cL_refuses 557 = .ok (.invokestatic 102, 3) := by decide +kernel
theorem dL_refuses_560 : decode cL_refuses 560 = .ok (.ldc 36, 2) := by decide +kernel
theorem dL_refuses_562 : decode cL_refuses 562 = .ok (.if_icmp .ne 130, 3) := by decide +kernel
theorem dL_refuses_565 : decode cL_refuses 565 = .ok (.aload_n 0, 1) := by decide +kernel
theorem dL_refuses_566 : decode cL_refuses 566 = .ok (.iload 7, 2) := by decide +kernel
theorem dL_refuses_568 : decode cL_refuses 568 = .ok (.iload 5, 2) := by decide +kernel
theorem dL_refuses_570 : decode cL_refuses 570 = .ok (.invokestatic 106, 3) := by decide +kernel
theorem dL_refuses_573 : decode cL_refuses 573 = .ok (.ldc 15, 2) := by decide +kernel
theorem dL_refuses_575 : decode cL_refuses 575 = .ok (.if_icmp .ne 117, 3) := by decide +kernel
theorem dL_refuses_578 : decode cL_refuses 578 = .ok (.aload_n 0, 1) := by decide +kernel
theorem dL_refuses_579 : decode cL_refuses 579 = .ok (.iload 7, 2) := by decide +kernel
theorem dL_refuses_581 : decode cL_refuses 581 = .ok (.iload 5, 2) := by decide +kernel
theorem dL_refuses_583 : decode cL_refuses 583 = .ok (.invokestatic 110, 3) := by decide +kernel
theorem dL_refuses_586 : decode cL_refuses 586 = .ok (.ldc 15, 2) := by decide +kernel
theorem dL_refuses_588 : decode cL_refuses 588 = .ok (.if_icmp .ne 104, 3) := by decide +kernel
theorem dL_refuses_591 : decode cL_refuses 591 = .ok (.aload_n 0, 1) := by decide +kernel
theorem dL_refuses_592 : decode cL_refuses 592 = .ok (.iload 7, 2) := by decide +kernel
theorem dL_refuses_594 : decode cL_refuses 594 = .ok (.iconst 2, 1) := by decide +kernel
theorem dL_refuses_595 : decode cL_refuses 595 = .ok (.iload_n 2, 1) := by decide +kernel
theorem dL_refuses_596 : decode cL_refuses 596 = .ok (.iadd, 1) := by decide +kernel
theorem dL_refuses_597 : decode cL_refuses 597 = .ok (.iconst 0, 1) := by decide +kernel
theorem dL_refuses_598 : decode cL_refuses 598 = .ok (.invokestatic 113, 3) := by decide +kernel
theorem dL_refuses_601 : decode cL_refuses 601 = .ok (.ldc 15, 2) := by decide +kernel
theorem dL_refuses_603 : decode cL_refuses 603 = .ok (.if_icmp .ne 89, 3) := by decide +kernel
theorem dL_refuses_606 : decode cL_refuses 606 = .ok (.aload_n 0, 1) := by decide +kernel
theorem dL_refuses_607 : decode cL_refuses 607 = .ok (.iload 7, 2) := by decide +kernel
theorem dL_refuses_609 : decode cL_refuses 609 = .ok (.iconst 0, 1) := by decide +kernel
theorem dL_refuses_610 : decode cL_refuses 610 = .ok (.iload 5, 2) := by decide +kernel
theorem dL_refuses_612 : decode cL_refuses 612 = .ok (.invokestatic 113, 3) := by decide +kernel
theorem dL_refuses_615 : decode cL_refuses 615 = .ok (.ldc 15, 2) := by decide +kernel
theorem dL_refuses_617 : decode cL_refuses 617 = .ok (.if_icmp .ne 75, 3) := by decide +kernel
theorem dL_refuses_620 : decode cL_refuses 620 = .ok (.aload_n 0, 1) := by decide +kernel
theorem dL_refuses_621 : decode cL_refuses 621 = .ok (.iload 7, 2) := by decide +kernel
theorem dL_refuses_623 : decode cL_refuses 623 = .ok (.iload 7, 2) := by decide +kernel
theorem dL_refuses_625 : decode cL_refuses 625 = .ok (.iconst 0, 1) := by decide +kernel
theorem dL_refuses_626 : decode cL_refuses 626 = .ok (.invokestatic 117, 3) := by decide +kernel
theorem dL_refuses_629 : decode cL_refuses 629 = .ok (.ldc 15, 2) := by decide +kernel
theorem dL_refuses_631 : decode cL_refuses 631 = .ok (.if_icmp .ne 61, 3) := by decide +kernel
theorem dL_refuses_634 : decode cL_refuses 634 = .ok (.aload_n 0, 1) := by decide +kernel
theorem dL_refuses_635 : decode cL_refuses 635 = .ok (.iload_n 3, 1) := by decide +kernel
theorem dL_refuses_636 : decode cL_refuses 636 = .ok (.iload 7, 2) := by decide +kernel
theorem dL_refuses_638 : decode cL_refuses 638 = .ok (.iconst 0, 1) := by decide +kernel
theorem dL_refuses_639 : decode cL_refuses 639 = .ok (.invokestatic 117, 3) := by decide +kernel
theorem dL_refuses_642 : decode cL_refuses 642 = .ok (.ldc 36, 2) := by decide +kernel
theorem dL_refuses_644 : decode cL_refuses 644 = .ok (.if_icmp .ne 48, 3) := by decide +kernel
theorem dL_refuses_647 : decode cL_refuses 647 = .ok (.aload_n 0, 1) := by decide +kernel
theorem dL_refuses_648 : decode cL_refuses 648 = .ok (.iload 7, 2) := by decide +kernel
theorem dL_refuses_650 : decode cL_refuses 650 = .ok (.iload 5, 2) := by decide +kernel
theorem dL_refuses_652 : decode cL_refuses 652 = .ok (.invokestatic 120, 3) := by decide +kernel
theorem dL_refuses_655 : decode cL_refuses 655 = .ok (.ldc 15, 2) := by decide +kernel
theorem dL_refuses_657 : decode cL_refuses 657 = .ok (.if_icmp .ne 35, 3) := by decide +kernel
theorem dL_refuses_660 : decode cL_refuses 660 = .ok (.aload_n 0, 1) := by decide +kernel
theorem dL_refuses_661 : decode cL_refuses 661 = .ok (.iload 7, 2) := by decide +kernel
theorem dL_refuses_663 : decode cL_refuses 663 = .ok (.iload_n 3, 1) := by decide +kernel
theorem dL_refuses_664 : decode cL_refuses 664 = .ok (.iconst 0, 1) := by decide +kernel
theorem dL_refuses_665 : decode cL_refuses 665 = .ok (.invokestatic 122, 3) := by decide +kernel
theorem dL_refuses_668 : decode cL_refuses 668 = .ok (.ldc 36, 2) := by decide +kernel
theorem dL_refuses_670 : decode cL_refuses 670 = .ok (.if_icmp .ne 22, 3) := by decide +kernel
theorem dL_refuses_673 : decode cL_refuses 673 = .ok (.aload_n 0, 1) := by decide +kernel
theorem dL_refuses_674 : decode cL_refuses 674 = .ok (.iload 7, 2) := by decide +kernel
theorem dL_refuses_676 : decode cL_refuses 676 = .ok (.iload 7, 2) := by decide +kernel
theorem dL_refuses_678 : decode cL_refuses 678 = .ok (.iload 5, 2) := by decide +kernel
theorem dL_refuses_680 : decode cL_refuses 680 = .ok (.invokestatic 122, 3) := by decide +kernel
theorem dL_refuses_683 : decode cL_refuses 683 = .ok (.ldc 15, 2) := by decide +kernel
theorem dL_refuses_685 : decode cL_refuses 685 = .ok (.if_icmp .ne 7, 3) := by decide +kernel
theorem dL_refuses_688 : decode cL_refuses 688 = .ok (.iconst 1, 1) := by decide +kernel
theorem dL_refuses_689 : decode cL_refuses 689 = .ok (.goto 4, 3) := by decide +kernel
theorem dL_refuses_692 : decode cL_refuses 692 = .ok (.iconst 0, 1) := by decide +kernel
theorem dL_refuses_693 : decode cL_refuses 693 = .ok (.istore 6, 2) := by decide +kernel
theorem dL_refuses_695 : decode cL_refuses 695 = .ok (.iload 7, 2) := by decide +kernel
theorem dL_refuses_697 : decode cL_refuses 697 = .ok (.iconst 1, 1) := by decide +kernel
theorem dL_refuses_698 : decode cL_refuses 698 = .ok (.iadd, 1) := by decide +kernel
theorem dL_refuses_699 : decode cL_refuses 699 = .ok (.aload_n 1, 1) := by decide +kernel
theorem dL_refuses_700 : decode cL_refuses 700 = .ok (.iconst 0, 1) := by decide +kernel
theorem dL_refuses_701 : decode cL_refuses 701 = .ok (.iaload, 1) := by decide +kernel
theorem dL_refuses_702 : decode cL_refuses 702 = .ok (.irem, 1) := by decide +kernel
theorem dL_refuses_703 : decode cL_refuses 703 = .ok (.istore 8, 2) := by decide +kernel
theorem dL_refuses_705 : decode cL_refuses 705 = .ok (.iload 6, 2) := by decide +kernel
theorem dL_refuses_707 : decode cL_refuses 707 = .ok (.ifCond .eq 61, 3) := by decide +kernel
theorem dL_refuses_710 : decode cL_refuses 710 = .ok (.iload 8, 2) := by decide +kernel
theorem dL_refuses_712 : decode cL_refuses 712 = .ok (.iload 7, 2) := by decide +kernel
theorem dL_refuses_714 : decode cL_refuses 714 = .ok (.if_icmp .eq 50, 3) := by decide +kernel
theorem dL_refuses_717 : decode cL_refuses 717 = .ok (.aload_n 0, 1) := by decide +kernel
theorem dL_refuses_718 : decode cL_refuses 718 = .ok (.iload 7, 2) := by decide +kernel
theorem dL_refuses_720 : decode cL_refuses 720 = .ok (.iload 8, 2) := by decide +kernel
theorem dL_refuses_722 : decode cL_refuses 722 = .ok (.iconst 3, 1) := by decide +kernel
theorem dL_refuses_723 : decode cL_refuses 723 = .ok (.iload_n 2, 1) := by decide +kernel
theorem dL_refuses_724 : decode cL_refuses 724 = .ok (.iadd, 1) := by decide +kernel
theorem dL_refuses_725 : decode cL_refuses 725 = .ok (.invokestatic 102, 3) := by decide +kernel
theorem dL_refuses_728 : decode cL_refuses 728 = .ok (.ldc 15, 2) := by decide +kernel
theorem dL_refuses_730 : decode cL_refuses 730 = .ok (.if_icmp .ne 38, 3) := by decide +kernel
theorem dL_refuses_733 : decode cL_refuses 733 = .ok (.aload_n 0, 1) := by decide +kernel
theorem dL_refuses_734 : decode cL_refuses 734 = .ok (.iload 7, 2) := by decide +kernel
theorem dL_refuses_736 : decode cL_refuses 736 = .ok (.iload 8, 2) := by decide +kernel
theorem dL_refuses_738 : decode cL_refuses 738 = .ok (.iconst (-1), 1) := by decide +kernel
theorem dL_refuses_739 : decode cL_refuses 739 = .ok (.iload_n 2, 1) := by decide +kernel
theorem dL_refuses_740 : decode cL_refuses 740 = .ok (.isub, 1) := by decide +kernel
theorem dL_refuses_741 : decode cL_refuses 741 = .ok (.invokestatic 102, 3) := by decide +kernel
theorem dL_refuses_744 : decode cL_refuses 744 = .ok (.ldc 15, 2) := by decide +kernel
theorem dL_refuses_746 : decode cL_refuses 746 = .ok (.if_icmp .ne 22, 3) := by decide +kernel
theorem dL_refuses_749 : decode cL_refuses 749 = .ok (.aload_n 0, 1) := by decide +kernel
end
section
theorem dL_refuses_750 : decode cL_refuses 750 = .ok (.iload 7, 2) := by decide +kernel
theorem dL_refuses_752 : decode cL_refuses 752 = .ok (.iload 8, 2) := by decide +kernel
theorem dL_refuses_754 : decode cL_refuses 754 = .ok (.iload 4, 2) := by decide +kernel
theorem dL_refuses_756 : decode cL_refuses 756 = .ok (.invokestatic 117, 3) := by decide +kernel
theorem dL_refuses_759 : decode cL_refuses 759 = .ok (.ldc 15, 2) := by decide +kernel
theorem dL_refuses_761 : decode cL_refuses 761 = .ok (.if_icmp .ne 7, 3) := by decide +kernel
theorem dL_refuses_764 : decode cL_refuses 764 = .ok (.iconst 1, 1) := by decide +kernel
theorem dL_refuses_765 : decode cL_refuses 765 = .ok (.goto 4, 3) := by decide +kernel
theorem dL_refuses_768 : decode cL_refuses 768 = .ok (.iconst 0, 1) := by decide +kernel
theorem dL_refuses_769 : decode cL_refuses 769 = .ok (.istore 6, 2) := by decide +kernel
theorem dL_refuses_771 : decode cL_refuses 771 = .ok (.aload_n 0, 1) := by decide +kernel
theorem dL_refuses_772 : decode cL_refuses 772 = .ok (.invokevirtual 133, 3) := by decide +kernel
theorem dL_refuses_775 : decode cL_refuses 775 = .ok (.istore 9, 2) := by decide +kernel
theorem dL_refuses_777 : decode cL_refuses 777 = .ok (.iload 6, 2) := by decide +kernel
theorem dL_refuses_779 : decode cL_refuses 779 = .ok (.ifCond .eq 74, 3) := by decide +kernel
theorem dL_refuses_782 : decode cL_refuses 782 = .ok (.aload_n 0, 1) := by decide +kernel
theorem dL_refuses_783 : decode cL_refuses 783 = .ok (.iload 7, 2) := by decide +kernel
theorem dL_refuses_785 : decode cL_refuses 785 = .ok (.iload 9, 2) := by decide +kernel
theorem dL_refuses_787 : decode cL_refuses 787 = .ok (.invokestatic 106, 3) := by decide +kernel
theorem dL_refuses_790 : decode cL_refuses 790 = .ok (.iconst 1, 1) := by decide +kernel
theorem dL_refuses_791 : decode cL_refuses 791 = .ok (.if_icmp .eq 58, 3) := by decide +kernel
theorem dL_refuses_794 : decode cL_refuses 794 = .ok (.aload_n 0, 1) := by decide +kernel
theorem dL_refuses_795 : decode cL_refuses 795 = .ok (.iload 7, 2) := by decide +kernel
theorem dL_refuses_797 : decode cL_refuses 797 = .ok (.iload 9, 2) := by decide +kernel
theorem dL_refuses_799 : decode cL_refuses 799 = .ok (.invokestatic 110, 3) := by decide +kernel
theorem dL_refuses_802 : decode cL_refuses 802 = .ok (.ldc 53, 2) := by decide +kernel
theorem dL_refuses_804 : decode cL_refuses 804 = .ok (.if_icmp .ne 49, 3) := by decide +kernel
theorem dL_refuses_807 : decode cL_refuses 807 = .ok (.aload_n 0, 1) := by decide +kernel
theorem dL_refuses_808 : decode cL_refuses 808 = .ok (.iload 7, 2) := by decide +kernel
theorem dL_refuses_810 : decode cL_refuses 810 = .ok (.iconst 0, 1) := by decide +kernel
theorem dL_refuses_811 : decode cL_refuses 811 = .ok (.iload 9, 2) := by decide +kernel
theorem dL_refuses_813 : decode cL_refuses 813 = .ok (.invokestatic 113, 3) := by decide +kernel
theorem dL_refuses_816 : decode cL_refuses 816 = .ok (.ldc 53, 2) := by decide +kernel
theorem dL_refuses_818 : decode cL_refuses 818 = .ok (.if_icmp .ne 35, 3) := by decide +kernel
theorem dL_refuses_821 : decode cL_refuses 821 = .ok (.aload_n 0, 1) := by decide +kernel
theorem dL_refuses_822 : decode cL_refuses 822 = .ok (.iload 7, 2) := by decide +kernel
theorem dL_refuses_824 : decode cL_refuses 824 = .ok (.iload 9, 2) := by decide +kernel
theorem dL_refuses_826 : decode cL_refuses 826 = .ok (.invokestatic 120, 3) := by decide +kernel
theorem dL_refuses_829 : decode cL_refuses 829 = .ok (.ldc 53, 2) := by decide +kernel
theorem dL_refuses_831 : decode cL_refuses 831 = .ok (.if_icmp .ne 22, 3) := by decide +kernel
theorem dL_refuses_834 : decode cL_refuses 834 = .ok (.aload_n 0, 1) := by decide +kernel
theorem dL_refuses_835 : decode cL_refuses 835 = .ok (.iload 7, 2) := by decide +kernel
theorem dL_refuses_837 : decode cL_refuses 837 = .ok (.iload 7, 2) := by decide +kernel
theorem dL_refuses_839 : decode cL_refuses 839 = .ok (.iload 9, 2) := by decide +kernel
theorem dL_refuses_841 : decode cL_refuses 841 = .ok (.invokestatic 122, 3) := by decide +kernel
theorem dL_refuses_844 : decode cL_refuses 844 = .ok (.ldc 53, 2) := by decide +kernel
theorem dL_refuses_846 : decode cL_refuses 846 = .ok (.if_icmp .ne 7, 3) := by decide +kernel
theorem dL_refuses_849 : decode cL_refuses 849 = .ok (.iconst 1, 1) := by decide +kernel
theorem dL_refuses_850 : decode cL_refuses 850 = .ok (.goto 4, 3) := by decide +kernel
theorem dL_refuses_853 : decode cL_refuses 853 = .ok (.iconst 0, 1) := by decide +kernel
theorem dL_refuses_854 : decode cL_refuses 854 = .ok (.istore 6, 2) := by decide +kernel
theorem dL_refuses_856 : decode cL_refuses 856 = .ok (.iload 6, 2) := by decide +kernel
theorem dL_refuses_858 : decode cL_refuses 858 = .ok (.ifCond .eq 29, 3) := by decide +kernel
theorem dL_refuses_861 : decode cL_refuses 861 = .ok (.aload_n 1, 1) := by decide +kernel
theorem dL_refuses_862 : decode cL_refuses 862 = .ok (.iconst 2, 1) := by decide +kernel
theorem dL_refuses_863 : decode cL_refuses 863 = .ok (.iaload, 1) := by decide +kernel
theorem dL_refuses_864 : decode cL_refuses 864 = .ok (.ifCond .eq 19, 3) := by decide +kernel
theorem dL_refuses_867 : decode cL_refuses 867 = .ok (.aload_n 0, 1) := by decide +kernel
theorem dL_refuses_868 : decode cL_refuses 868 = .ok (.iload_n 2, 1) := by decide +kernel
theorem dL_refuses_869 : decode cL_refuses 869 = .ok (.aload_n 1, 1) := by decide +kernel
theorem dL_refuses_870 : decode cL_refuses 870 = .ok (.iconst 2, 1) := by decide +kernel
theorem dL_refuses_871 : decode cL_refuses 871 = .ok (.iaload, 1) := by decide +kernel
theorem dL_refuses_872 : decode cL_refuses 872 = .ok (.irem, 1) := by decide +kernel
theorem dL_refuses_873 : decode cL_refuses 873 = .ok (.iload 5, 2) := by decide +kernel
theorem dL_refuses_875 : decode cL_refuses 875 = .ok (.invokestatic 129, 3) := by decide +kernel
theorem dL_refuses_878 : decode cL_refuses 878 = .ok (.ldc 15, 2) := by decide +kernel
theorem dL_refuses_880 : decode cL_refuses 880 = .ok (.if_icmp .ne 7, 3) := by decide +kernel
theorem dL_refuses_883 : decode cL_refuses 883 = .ok (.iconst 1, 1) := by decide +kernel
theorem dL_refuses_884 : decode cL_refuses 884 = .ok (.goto 4, 3) := by decide +kernel
theorem dL_refuses_887 : decode cL_refuses 887 = .ok (.iconst 0, 1) := by decide +kernel
theorem dL_refuses_888 : decode cL_refuses 888 = .ok (.ireturn, 1) := by decide +kernel
set_option maxRecDepth 20000 in
theorem ggL_act_L_finds : GoodIn wsL_act wsL_finds := goodIn_ca (goodIn_ca (goodIn_r _ [4, 5, 6, 7, 8, 9, 10, 11, 12, 13, 14, 15, 16, 17, 18, 19, 20, 21, 22, 23, 24, 25, 26, 27, 28, 29, 30, 31, 32, 33, 34, 35, 36, 37, 38, 39, 40, 41, 142, 143, 144, 145, 146, 147, 148, 149, 150, 151, 152, 153, 154, 155] (by decide +kernel) (by decide +kernel)) (goodIn_sub (fun _ h => List.mem_cons_of_mem _ (List.mem_append_left _ (List.mem_append_left _ (List.mem_append_right _ h)))) (by decide +kernel))) (goodIn_sub (fun _ h => List.mem_cons_of_mem _ (List.mem_append_left _ (List.mem_append_right _ h))) (by decide +kernel))
set_option maxRecDepth 20000 in
theorem gL_act_L_finds : GoodIn wsL_act (va_wsS RL 95 yL_finds wsL_finds) := goodIn_app (goodIn_of _ (by decide +kernel)) ggL_act_L_finds
set_option maxRecDepth 20000 in
theorem ggL_act_L_passes : GoodIn wsL_act wsL_passes := goodIn_ca (goodIn_ca (goodIn_r _ [44, 5, 6, 7, 8, 45, 46, 47, 12, 48, 14, 15, 18, 19, 20, 21, 22, 23, 142, 143, 144, 145, 146, 147, 148] (by decide +kernel) (by decide +kernel)) (goodIn_sub (fun _ h => List.mem_cons_of_mem _ (List.mem_append_left _ (List.mem_append_left _ (List.mem_append_right _ h)))) (by decide +kernel))) (goodIn_sub (fun _ h => List.mem_cons_of_mem _ (List.mem_append_left _ (List.mem_append_right _ h))) (by decide +kernel))
set_option maxRecDepth 20000 in
theorem gL_act_L_passes : GoodIn wsL_act (va_wsS RL 82 yL_passes wsL_passes) := goodIn_app (goodIn_of _ (by decide +kernel)) ggL_act_L_passes
set_option maxRecDepth 20000 in
theorem ggL_act_L_terms : GoodIn wsL_act wsL_terms := goodIn_ca (goodIn_r _ [51, 5, 7, 52, 53, 54, 12, 55, 56, 57, 19, 20, 21, 22, 23, 142, 143, 144, 145, 146, 147, 148, 156, 157] (by decide +kernel) (by decide +kernel)) (goodIn_sub (fun _ h => List.mem_cons_of_mem _ (List.mem_append_left _ (List.mem_append_right _ h))) (by decide +kernel))
set_option maxRecDepth 20000 in
theorem gL_act_L_terms : GoodIn wsL_act (va_wsS RL 88 yL_terms wsL_terms) := goodIn_app (goodIn_of _ (by decide +kernel)) ggL_act_L_terms
set_option maxRecDepth 20000 in
theorem ggL_act_L_firsts : GoodIn wsL_act wsL_firsts := goodIn_ca (goodIn_r _ [60, 5, 7, 61, 62, 63, 12, 64, 56, 19, 20, 21, 22, 23, 65, 66, 67, 68, 69, 70, 142, 143, 144, 145, 146, 147, 148, 156, 157] (by decide +kernel) (by decide +kernel)) (goodIn_sub (fun _ h => List.mem_cons_of_mem _ (List.mem_append_left _ (List.mem_append_right _ h))) (by decide +kernel))
set_option maxRecDepth 20000 in
theorem gL_act_L_firsts : GoodIn wsL_act (va_wsS RL 92 yL_firsts wsL_firsts) := goodIn_app (goodIn_of _ (by decide +kernel)) ggL_act_L_firsts
set_option maxRecDepth 20000 in
theorem ggL_act_L_strikes : GoodIn wsL_act wsL_strikes := goodIn_ca (goodIn_r _ [73, 74, 75, 76, 77, 78, 12, 79, 16, 80, 81, 82, 83, 84, 85, 86, 17, 142, 143, 144, 145, 146, 147, 148, 149, 150, 151, 152, 153, 154, 155] (by decide +kernel) (by decide +kernel)) (goodIn_sub (fun _ h => List.mem_cons_of_mem _ (List.mem_append_right _ h)) (by decide +kernel))
set_option maxRecDepth 20000 in
theorem gL_act_L_strikes : GoodIn wsL_act (va_wsS RL 99 yL_strikes wsL_strikes) := goodIn_app (goodIn_of _ (by decide +kernel)) ggL_act_L_strikes
set_option maxRecDepth 20000 in
theorem ggL_act_X5_today : GoodIn wsL_act wsX5_today := goodIn_r _ [90, 18, 142, 143, 144, 145, 146, 147, 148] (by decide +kernel) (by decide +kernel)
set_option maxRecDepth 20000 in
theorem gL_act_X5_today : GoodIn wsL_act (wsV RL 133 RX5 yX5_today wsX5_today) := goodIn_app (goodIn_of _ (by decide +kernel)) ggL_act_X5_today
set_option maxRecDepth 20000 in
theorem ggL_act_L_tells : GoodIn wsL_act wsL_tells := goodIn_ca (goodIn_ca (goodIn_r _ [93, 74, 5, 75, 7, 94, 95, 96, 12, 97, 16, 98, 81, 82, 83, 84, 85, 86, 17, 99, 100, 101, 22, 23, 19, 20, 21, 142, 143, 144, 145, 146, 147, 148, 149, 150, 151, 152, 153, 154, 155] (by decide +kernel) (by decide +kernel)) (goodIn_sub (fun _ h => List.mem_cons_of_mem _ (List.mem_append_right _ h)) (by decide +kernel))) (goodIn_sub (fun _ h => List.mem_cons_of_mem _ (List.mem_append_left _ (List.mem_append_right _ h))) (by decide +kernel))
set_option maxRecDepth 20000 in
theorem gL_act_L_tells : GoodIn wsL_act (va_wsS RL 102 yL_tells wsL_tells) := goodIn_app (goodIn_of _ (by decide +kernel)) ggL_act_L_tells
set_option maxRecDepth 20000 in
theorem ggL_act_L_links : GoodIn wsL_act wsL_links := goodIn_ca (goodIn_ca (goodIn_ca (goodIn_r _ [104, 74, 5, 6, 75, 7, 8, 105, 106, 107, 12, 108, 14, 15, 109, 110, 81, 82, 83, 84, 85, 86, 16, 17, 99, 100, 101, 22, 23, 19, 20, 21, 111, 112, 113, 114, 115, 116, 117, 118, 119, 142, 143, 144, 145, 146, 147, 148, 158, 159, 160, 161, 162, 149, 150, 151, 152, 153, 154, 155] (by decide +kernel) (by decide +kernel)) (goodIn_sub (fun _ h => List.mem_cons_of_mem _ (List.mem_append_left _ (List.mem_append_left _ (List.mem_append_right _ h)))) (by decide +kernel))) (goodIn_sub (fun _ h => List.mem_cons_of_mem _ (List.mem_append_right _ h)) (by decide +kernel))) (goodIn_sub (fun _ h => List.mem_cons_of_mem _ (List.mem_append_left _ (List.mem_append_right _ h))) (by decide +kernel))
set_option maxRecDepth 20000 in
theorem gL_act_L_links : GoodIn wsL_act (va_wsS RL 117 yL_links wsL_links) := goodIn_app (goodIn_of _ (by decide +kernel)) ggL_act_L_links
set_option maxRecDepth 20000 in
theorem ggL_act_L_wishes : GoodIn wsL_act wsL_wishes := goodIn_ca (goodIn_ca (goodIn_r _ [122, 5, 6, 7, 8, 123, 124, 125, 12, 126, 14, 15, 127, 128, 19, 20, 21, 22, 23, 129, 130, 131, 132, 133, 134, 135, 136, 137, 138, 139, 140, 141, 142, 143, 144, 145, 146, 147, 148, 163, 164, 165, 166, 167] (by decide +kernel) (by decide +kernel)) (goodIn_sub (fun _ h => List.mem_cons_of_mem _ (List.mem_append_left _ (List.mem_append_left _ (List.mem_append_right _ h)))) (by decide +kernel))) (goodIn_sub (fun _ h => List.mem_cons_of_mem _ (List.mem_append_left _ (List.mem_append_right _ h))) (by decide +kernel))
set_option maxRecDepth 20000 in
theorem gL_act_L_wishes : GoodIn wsL_act (va_wsS RL 125 yL_wishes wsL_wishes) := goodIn_app (goodIn_of _ (by decide +kernel)) ggL_act_L_wishes
theorem dL_act_0 : decode cL_act 0 = .ok (.iload_n 2, 1) := by decide +kernel
theorem dL_act_1 : decode cL_act 1 = .ok (.bipush 16, 2) := by decide +kernel
theorem dL_act_3 : decode cL_act 3 = .ok (.idiv, 1) := by decide +kernel
theorem dL_act_4 : decode cL_act 4 = .ok (.istore_n 3, 1) := by decide +kernel
theorem dL_act_5 : decode cL_act 5 = .ok (.aload_n 1, 1) := by decide +kernel
theorem dL_act_6 : decode cL_act 6 = .ok (.iconst 0, 1) := by decide +kernel
theorem dL_act_7 : decode cL_act 7 = .ok (.iaload, 1) := by decide +kernel
theorem dL_act_8 : decode cL_act 8 = .ok (.ifCond .ne 7, 3) := by decide +kernel
theorem dL_act_11 : decode cL_act 11 = .ok (.iconst 0, 1) := by decide +kernel
theorem dL_act_12 : decode cL_act 12 = .ok (.goto 8, 3) := by decide +kernel
theorem dL_act_15 : decode cL_act 15 = .ok (.iload_n 3, 1) := by decide +kernel
theorem dL_act_16 : decode cL_act 16 = .ok (.aload_n 1, 1) := by decide +kernel
theorem dL_act_17 : decode cL_act 17 = .ok (.iconst 0, 1) := by decide +kernel
theorem dL_act_18 : decode cL_act 18 = .ok (.iaload, 1) := by decide +kernel
theorem dL_act_19 : decode cL_act 19 = .ok (.irem, 1) := by decide +kernel
theorem dL_act_20 : decode cL_act 20 = .ok (.istore 4, 2) := by decide +kernel
theorem dL_act_22 : decode cL_act 22 = .ok (.aload_n 1, 1) := by decide +kernel
theorem dL_act_23 : decode cL_act 23 = .ok (.iconst 0, 1) := by decide +kernel
theorem dL_act_24 : decode cL_act 24 = .ok (.iaload, 1) := by decide +kernel
theorem dL_act_25 : decode cL_act 25 = .ok (.ifCond .ne 7, 3) := by decide +kernel
theorem dL_act_28 : decode cL_act 28 = .ok (.iconst 0, 1) := by decide +kernel
theorem dL_act_29 : decode cL_act 29 = .ok (.goto 11, 3) := by decide +kernel
theorem dL_act_32 : decode cL_act 32 = .ok (.iload_n 3, 1) := by decide +kernel
theorem dL_act_33 : decode cL_act 33 = .ok (.bipush 24, 2) := by decide +kernel
theorem dL_act_35 : decode cL_act 35 = .ok (.idiv, 1) := by decide +kernel
theorem dL_act_36 : decode cL_act 36 = .ok (.aload_n 1, 1) := by decide +kernel
theorem dL_act_37 : decode cL_act 37 = .ok (.iconst 0, 1) := by decide +kernel
theorem dL_act_38 : decode cL_act 38 = .ok (.iaload, 1) := by decide +kernel
theorem dL_act_39 : decode cL_act 39 = .ok (.irem, 1) := by decide +kernel
theorem dL_act_40 : decode cL_act 40 = .ok (.istore 5, 2) := by decide +kernel
theorem dL_act_42 : decode cL_act 42 = .ok (.iload_n 2, 1) := by decide +kernel
theorem dL_act_43 : decode cL_act 43 = .ok (.bipush 16, 2) := by decide +kernel
theorem dL_act_45 : decode cL_act 45 = .ok (.irem, 1) := by decide +kernel
theorem dL_act_46 : decode cL_act 46 = .ok (.tableswitch 224 0 14 #[74, 74, 74, 74, 74, 74, 133, 133, 144, 160, 168, 192, 192, 208, 208], 74) := by decide +kernel
theorem dL_act_120 : decode cL_act 120 = .ok (.aload_n 0, 1) := by decide +kernel
theorem dL_act_121 : decode cL_act 121 = .ok (.iload_n 3, 1) := by decide +kernel
theorem dL_act_122 : decode cL_act 122 = .ok (.iconst 4, 1) := by decide +kernel
theorem dL_act_123 : decode cL_act 123 = .ok (.irem, 1) := by decide +kernel
theorem dL_act_124 : decode cL_act 124 = .ok (.iload_n 3, 1) := by decide +kernel
theorem dL_act_125 : decode cL_act 125 = .ok (.iconst 4, 1) := by decide +kernel
theorem dL_act_126 : decode cL_act 126 = .ok (.idiv, 1) := by decide +kernel
theorem dL_act_127 : decode cL_act 127 = .ok (.iconst 3, 1) := by decide +kernel
theorem dL_act_128 : decode cL_act 128 = .ok (.irem, 1) := by decide +kernel
theorem dL_act_129 : decode cL_act 129 = .ok (.ifCond .ne 14, 3) := by decide +kernel
theorem dL_act_132 : decode cL_act 132 = .ok (.iconst 1, 1) := by decide +kernel
theorem dL_act_133 : decode cL_act 133 = .ok (.iload_n 3, 1) := by decide +kernel
theorem dL_act_134 : decode cL_act 134 = .ok (.bipush 12, 2) := by decide +kernel
theorem dL_act_136 : decode cL_act 136 = .ok (.idiv, 1) := by decide +kernel
theorem dL_act_137 : decode cL_act 137 = .ok (.iconst 4, 1) := by decide +kernel
theorem dL_act_138 : decode cL_act 138 = .ok (.irem, 1) := by decide +kernel
theorem dL_act_139 : decode cL_act 139 = .ok (.iadd, 1) := by decide +kernel
theorem dL_act_140 : decode cL_act 140 = .ok (.goto 4, 3) := by decide +kernel
theorem dL_act_143 : decode cL_act 143 = .ok (.iconst 0, 1) := by decide +kernel
theorem dL_act_144 : decode cL_act 144 = .ok (.iload_n 3, 1) := by decide +kernel
theorem dL_act_145 : decode cL_act 145 = .ok (.bipush 48, 2) := by decide +kernel
theorem dL_act_147 : decode cL_act 147 = .ok (.idiv, 1) := by decide +kernel
theorem dL_act_148 : decode cL_act 148 = .ok (.iconst 4, 1) := by decide +kernel
theorem dL_act_149 : decode cL_act 149 = .ok (.irem, 1) := by decide +kernel
theorem dL_act_150 : decode cL_act 150 = .ok (.iload_n 3, 1) := by decide +kernel
theorem dL_act_151 : decode cL_act 151 = .ok (.sipush 192, 3) := by decide +kernel
theorem dL_act_154 : decode cL_act 154 = .ok (.idiv, 1) := by decide +kernel
theorem dL_act_155 : decode cL_act 155 = .ok (.iconst 3, 1) := by decide +kernel
theorem dL_act_156 : decode cL_act 156 = .ok (.irem, 1) := by decide +kernel
theorem dL_act_157 : decode cL_act 157 = .ok (.iload_n 3, 1) := by decide +kernel
theorem dL_act_158 : decode cL_act 158 = .ok (.sipush 576, 3) := by decide +kernel
theorem dL_act_161 : decode cL_act 161 = .ok (.idiv, 1) := by decide +kernel
theorem dL_act_162 : decode cL_act 162 = .ok (.iconst 5, 1) := by decide +kernel
theorem dL_act_163 : decode cL_act 163 = .ok (.irem, 1) := by decide +kernel
theorem dL_act_164 : decode cL_act 164 = .ok (.iconst 1, 1) := by decide +kernel
theorem dL_act_165 : decode cL_act 165 = .ok (.isub, 1) := by decide +kernel
theorem dL_act_166 : decode cL_act 166 = .ok (.iload_n 3, 1) := by decide +kernel
theorem dL_act_167 : decode cL_act 167 = .ok (.sipush 2880, 3) := by decide +kernel
theorem dL_act_170 : decode cL_act 170 = .ok (.idiv, 1) := by decide +kernel
theorem dL_act_171 : decode cL_act 171 = .ok (.iconst 3, 1) := by decide +kernel
theorem dL_act_172 : decode cL_act 172 = .ok (.irem, 1) := by decide +kernel
theorem dL_act_173 : decode cL_act 173 = .ok (.iconst 1, 1) := by decide +kernel
theorem dL_act_174 : decode cL_act 174 = .ok (.isub, 1) := by decide +kernel
theorem dL_act_175 : decode cL_act 175 = .ok (.invokestatic 95, 3) := by decide +kernel
theorem dL_act_178 : decode cL_act 178 = .ok (.ireturn, 1) := by decide +kernel
theorem dL_act_179 : decode cL_act 179 = .ok (.aload_n 0, 1) := by decide +kernel
theorem dL_act_180 : decode cL_act 180 = .ok (.iconst 1, 1) := by decide +kernel
theorem dL_act_181 : decode cL_act 181 = .ok (.iload_n 3, 1) := by decide +kernel
theorem dL_act_182 : decode cL_act 182 = .ok (.bipush 15, 2) := by decide +kernel
theorem dL_act_184 : decode cL_act 184 = .ok (.irem, 1) := by decide +kernel
theorem dL_act_185 : decode cL_act 185 = .ok (.iadd, 1) := by decide +kernel
theorem dL_act_186 : decode cL_act 186 = .ok (.invokestatic 82, 3) := by decide +kernel
theorem dL_act_189 : decode cL_act 189 = .ok (.ireturn, 1) := by decide +kernel
theorem dL_act_190 : decode cL_act 190 = .ok (.aload_n 0, 1) := by decide +kernel
theorem dL_act_191 : decode cL_act 191 = .ok (.iload_n 3, 1) := by decide +kernel
theorem dL_act_192 : decode cL_act 192 = .ok (.iconst 4, 1) := by decide +kernel
theorem dL_act_193 : decode cL_act 193 = .ok (.irem, 1) := by decide +kernel
theorem dL_act_194 : decode cL_act 194 = .ok (.iconst 1, 1) := by decide +kernel
theorem dL_act_195 : decode cL_act 195 = .ok (.iload_n 3, 1) := by decide +kernel
theorem dL_act_196 : decode cL_act 196 = .ok (.iconst 4, 1) := by decide +kernel
theorem dL_act_197 : decode cL_act 197 = .ok (.idiv, 1) := by decide +kernel
theorem dL_act_198 : decode cL_act 198 = .ok (.bipush 80, 2) := by decide +kernel
theorem dL_act_200 : decode cL_act 200 = .ok (.irem, 1) := by decide +kernel
theorem dL_act_201 : decode cL_act 201 = .ok (.iadd, 1) := by decide +kernel
theorem dL_act_202 : decode cL_act 202 = .ok (.invokestatic 88, 3) := by decide +kernel
theorem dL_act_205 : decode cL_act 205 = .ok (.ireturn, 1) := by decide +kernel
theorem dL_act_206 : decode cL_act 206 = .ok (.aload_n 0, 1) := by decide +kernel
theorem dL_act_207 : decode cL_act 207 = .ok (.iload_n 3, 1) := by decide +kernel
theorem dL_act_208 : decode cL_act 208 = .ok (.iconst 4, 1) := by decide +kernel
theorem dL_act_209 : decode cL_act 209 = .ok (.irem, 1) := by decide +kernel
theorem dL_act_210 : decode cL_act 210 = .ok (.invokestatic 92, 3) := by decide +kernel
theorem dL_act_213 : decode cL_act 213 = .ok (.ireturn, 1) := by decide +kernel
theorem dL_act_214 : decode cL_act 214 = .ok (.iload_n 3, 1) := by decide +kernel
theorem dL_act_215 : decode cL_act 215 = .ok (.sipush 576, 3) := by decide +kernel
theorem dL_act_218 : decode cL_act 218 = .ok (.idiv, 1) := by decide +kernel
theorem dL_act_219 : decode cL_act 219 = .ok (.iconst 3, 1) := by decide +kernel
theorem dL_act_220 : decode cL_act 220 = .ok (.irem, 1) := by decide +kernel
theorem dL_act_221 : decode cL_act 221 = .ok (.ifCond .ne 12, 3) := by decide +kernel
theorem dL_act_224 : decode cL_act 224 = .ok (.aload_n 0, 1) := by decide +kernel
theorem dL_act_225 : decode cL_act 225 = .ok (.iload 4, 2) := by decide +kernel
theorem dL_act_227 : decode cL_act 227 = .ok (.invokestatic 99, 3) := by decide +kernel
theorem dL_act_230 : decode cL_act 230 = .ok (.goto 7, 3) := by decide +kernel
theorem dL_act_233 : decode cL_act 233 = .ok (.aload_n 0, 1) := by decide +kernel
theorem dL_act_234 : decode cL_act 234 = .ok (.invokevirtual 133, 3) := by decide +kernel
theorem dL_act_237 : decode cL_act 237 = .ok (.ireturn, 1) := by decide +kernel
theorem dL_act_238 : decode cL_act 238 = .ok (.aload_n 0, 1) := by decide +kernel
theorem dL_act_239 : decode cL_act 239 = .ok (.iload 4, 2) := by decide +kernel
theorem dL_act_241 : decode cL_act 241 = .ok (.iload 5, 2) := by decide +kernel
theorem dL_act_243 : decode cL_act 243 = .ok (.iload_n 3, 1) := by decide +kernel
theorem dL_act_244 : decode cL_act 244 = .ok (.sipush 576, 3) := by decide +kernel
theorem dL_act_247 : decode cL_act 247 = .ok (.idiv, 1) := by decide +kernel
theorem dL_act_248 : decode cL_act 248 = .ok (.iconst 3, 1) := by decide +kernel
theorem dL_act_249 : decode cL_act 249 = .ok (.irem, 1) := by decide +kernel
theorem dL_act_250 : decode cL_act 250 = .ok (.invokestatic 102, 3) := by decide +kernel
theorem dL_act_253 : decode cL_act 253 = .ok (.ireturn, 1) := by decide +kernel
theorem dL_act_254 : decode cL_act 254 = .ok (.aload_n 0, 1) := by decide +kernel
theorem dL_act_255 : decode cL_act 255 = .ok (.iload 4, 2) := by decide +kernel
theorem dL_act_257 : decode cL_act 257 = .ok (.iload 5, 2) := by decide +kernel
theorem dL_act_259 : decode cL_act 259 = .ok (.iload_n 3, 1) := by decide +kernel
theorem dL_act_260 : decode cL_act 260 = .ok (.sipush 576, 3) := by decide +kernel
theorem dL_act_263 : decode cL_act 263 = .ok (.idiv, 1) := by decide +kernel
theorem dL_act_264 : decode cL_act 264 = .ok (.iconst 3, 1) := by decide +kernel
theorem dL_act_265 : decode cL_act 265 = .ok (.irem, 1) := by decide +kernel
theorem dL_act_266 : decode cL_act 266 = .ok (.invokestatic 117, 3) := by decide +kernel
theorem dL_act_269 : decode cL_act 269 = .ok (.ireturn, 1) := by decide +kernel
theorem dL_act_270 : decode cL_act 270 = .ok (.aload_n 0, 1) := by decide +kernel
theorem dL_act_271 : decode cL_act 271 = .ok (.iload_n 3, 1) := by decide +kernel
theorem dL_act_272 : decode cL_act 272 = .ok (.iconst 3, 1) := by decide +kernel
theorem dL_act_273 : decode cL_act 273 = .ok (.irem, 1) := by decide +kernel
theorem dL_act_274 : decode cL_act 274 = .ok (.iconst 1, 1) := by decide +kernel
theorem dL_act_275 : decode cL_act 275 = .ok (.iload_n 3, 1) := by decide +kernel
theorem dL_act_276 : decode cL_act 276 = .ok (.iconst 3, 1) := by decide +kernel
theorem dL_act_277 : decode cL_act 277 = .ok (.idiv, 1) := by decide +kernel
theorem dL_act_278 : decode cL_act 278 = .ok (.iconst 3, 1) := by decide +kernel
theorem dL_act_279 : decode cL_act 279 = .ok (.irem, 1) := by decide +kernel
theorem dL_act_280 : decode cL_act 280 = .ok (.iadd, 1) := by decide +kernel
theorem dL_act_281 : decode cL_act 281 = .ok (.iload_n 3, 1) := by decide +kernel
theorem dL_act_282 : decode cL_act 282 = .ok (.bipush 9, 2) := by decide +kernel
theorem dL_act_284 : decode cL_act 284 = .ok (.idiv, 1) := by decide +kernel
theorem dL_act_285 : decode cL_act 285 = .ok (.iconst 2, 1) := by decide +kernel
theorem dL_act_286 : decode cL_act 286 = .ok (.irem, 1) := by decide +kernel
theorem dL_act_287 : decode cL_act 287 = .ok (.iload_n 3, 1) := by decide +kernel
theorem dL_act_288 : decode cL_act 288 = .ok (.bipush 18, 2) := by decide +kernel
theorem dL_act_290 : decode cL_act 290 = .ok (.idiv, 1) := by decide +kernel
theorem dL_act_291 : decode cL_act 291 = .ok (.iconst 4, 1) := by decide +kernel
theorem dL_act_292 : decode cL_act 292 = .ok (.irem, 1) := by decide +kernel
theorem dL_act_293 : decode cL_act 293 = .ok (.invokestatic 125, 3) := by decide +kernel
theorem dL_act_296 : decode cL_act 296 = .ok (.ireturn, 1) := by decide +kernel
set_option maxRecDepth 20000 in
theorem ggL_alike_X5_today : GoodIn wsL_alike wsX5_today := goodIn_r _ [5, 6, 207, 208, 209, 210, 211, 212, 213] (by decide +kernel) (by decide +kernel)
set_option maxRecDepth 20000 in
theorem gL_alike_X5_today : GoodIn wsL_alike (wsV RL 133 RX5 yX5_today wsX5_today) := goodIn_app (goodIn_of _ (by decide +kernel)) ggL_alike_X5_today
set_option maxRecDepth 20000 in
theorem ggL_alike_L_things : GoodIn wsL_alike wsL_things := goodIn_ca (goodIn_r _ [10, 11, 12, 13, 14, 15, 4, 16, 17, 18, 19, 20, 21, 22, 23, 24, 25, 26, 27, 28, 29, 30, 31, 32, 33, 34, 35, 36, 37, 38, 39, 40, 41, 42, 43, 44, 45, 46, 47, 48, 49, 50, 51, 52, 53, 54, 55, 56, 57, 58, 59, 60, 61, 62, 63, 64, 65, 66, 67, 68, 69, 70, 71, 72, 73, 74, 75, 76, 77, 78, 207, 208, 209, 210, 211, 212, 213, 214, 215, 216, 217, 218, 219, 220, 221, 222, 223, 224, 225] (by decide +kernel) (by decide +kernel)) (goodIn_sub (fun _ h => List.mem_cons_of_mem _ (List.mem_append_left _ (List.mem_append_left _ (List.mem_append_right _ h)))) (by decide +kernel))
set_option maxRecDepth 20000 in
theorem gL_alike_L_things : GoodIn wsL_alike (va_wsS RL 108 yL_things wsL_things) := goodIn_app (goodIn_of _ (by decide +kernel)) ggL_alike_L_things
set_option maxRecDepth 20000 in
theorem ggL_alike_L_disputed : GoodIn wsL_alike wsL_disputed := goodIn_ca (goodIn_r _ [81, 11, 12, 82, 83, 84, 4, 85, 17, 18, 19, 86, 87, 88, 23, 24, 25, 26, 27, 20, 21, 22, 28, 29, 30, 31, 32, 33, 34, 35, 36, 37, 38, 39, 40, 41, 42, 43, 44, 45, 46, 47, 48, 49, 50, 51, 52, 53, 54, 55, 56, 57, 58, 59, 60, 61, 62, 63, 64, 65, 66, 67, 68, 69, 70, 71, 72, 73, 74, 75, 76, 77, 78, 89, 90, 91, 92, 93, 94, 95, 96, 97, 207, 208, 209, 210, 211, 212, 213, 214, 215, 216, 217, 218, 219, 220, 221, 222, 223, 224, 225] (by decide +kernel) (by decide +kernel)) (goodIn_sub (fun _ h => List.mem_cons_of_mem _ (List.mem_append_left _ (List.mem_append_left _ (List.mem_append_right _ h)))) (by decide +kernel))
set_option maxRecDepth 20000 in
theorem gL_alike_L_disputed : GoodIn wsL_alike (va_wsS RL 115 yL_disputed wsL_disputed) := goodIn_app (goodIn_of _ (by decide +kernel)) ggL_alike_L_disputed
set_option maxRecDepth 20000 in
theorem ggL_alike_L_counts : GoodIn wsL_alike wsL_counts := goodIn_ca (goodIn_ca (goodIn_r _ [100, 101, 11, 102, 12, 103, 104, 105, 4, 106, 18, 107, 108, 109, 110, 111, 112, 113, 19, 20, 21, 22, 23, 24, 25, 26, 27, 114, 38, 39, 40, 41, 42, 43, 44, 45, 207, 208, 209, 210, 211, 212, 213, 214, 215, 216, 217, 218, 219, 220, 224, 225] (by decide +kernel) (by decide +kernel)) (goodIn_sub (fun _ h => List.mem_cons_of_mem _ (List.mem_append_left _ (List.mem_append_right _ h))) (by decide +kernel))) (goodIn_sub (fun _ h => List.mem_cons_of_mem _ (List.mem_append_left _ (List.mem_append_left _ (List.mem_append_right _ h)))) (by decide +kernel))
set_option maxRecDepth 20000 in
theorem gL_alike_L_counts : GoodIn wsL_alike (va_wsS RL 106 yL_counts wsL_counts) := goodIn_app (goodIn_of _ (by decide +kernel)) ggL_alike_L_counts
set_option maxRecDepth 20000 in
theorem ggL_alike_L_thing : GoodIn wsL_alike wsL_thing := goodIn_ca (goodIn_ca (goodIn_ca (goodIn_r _ [117, 101, 11, 118, 102, 12, 119, 120, 121, 122, 4, 123, 17, 124, 108, 109, 110, 111, 112, 113, 18, 19, 20, 21, 22, 23, 24, 25, 26, 27, 28, 29, 30, 31, 32, 33, 34, 35, 36, 37, 38, 39, 40, 41, 42, 43, 44, 45, 46, 47, 48, 49, 50, 51, 52, 53, 54, 55, 56, 57, 58, 59, 60, 61, 62, 63, 64, 65, 66, 67, 68, 69, 70, 71, 72, 73, 74, 125, 126, 127, 128, 129, 130, 207, 208, 209, 210, 211, 212, 213, 221, 222, 223, 214, 215, 216, 217, 218, 219, 220, 224, 225] (by decide +kernel) (by decide +kernel)) (goodIn_sub (fun _ h => List.mem_cons_of_mem _ (List.mem_append_left _ (List.mem_append_right _ h))) (by decide +kernel))) (goodIn_sub (fun _ h => List.mem_cons_of_mem _ (List.mem_append_left _ (List.mem_append_left _ (List.mem_append_right _ h)))) (by decide +kernel))) (goodIn_sub (fun _ h => List.mem_cons_of_mem _ (List.mem_append_right _ h)) (by decide +kernel))
set_option maxRecDepth 20000 in
theorem gL_alike_L_thing : GoodIn wsL_alike (va_wsS RL 110 yL_thing wsL_thing) := goodIn_app (goodIn_of _ (by decide +kernel)) ggL_alike_L_thing
set_option maxRecDepth 20000 in
theorem ggL_alike_L_value : GoodIn wsL_alike wsL_value := goodIn_ca (goodIn_ca (goodIn_ca (goodIn_r _ [133, 101, 11, 118, 102, 12, 119, 134, 135, 136, 4, 137, 17, 124, 108, 109, 110, 111, 112, 113, 18, 19, 86, 87, 88, 23, 24, 25, 26, 27, 20, 21, 22, 28, 29, 30, 31, 32, 33, 34, 35, 36, 37, 38, 39, 40, 41, 42, 43, 44, 45, 46, 47, 48, 49, 50, 51, 52, 53, 54, 55, 56, 57, 58, 59, 60, 61, 62, 63, 64, 65, 66, 67, 68, 69, 70, 71, 72, 73, 74, 125, 126, 127, 128, 129, 130, 138, 139, 140, 141, 93, 94, 95, 96, 97, 142, 143, 144, 145, 146, 147, 207, 208, 209, 210, 211, 212, 213, 221, 222, 223, 214, 215, 216, 217, 218, 219, 220, 224, 225] (by decide +kernel) (by decide +kernel)) (goodIn_sub (fun _ h => List.mem_cons_of_mem _ (List.mem_append_left _ (List.mem_append_right _ h))) (by decide +kernel))) (goodIn_sub (fun _ h => List.mem_cons_of_mem _ (List.mem_append_left _ (List.mem_append_left _ (List.mem_append_right _ h)))) (by decide +kernel))) (goodIn_sub (fun _ h => List.mem_cons_of_mem _ (List.mem_append_right _ h)) (by decide +kernel))
set_option maxRecDepth 20000 in
theorem gL_alike_L_value : GoodIn wsL_alike (va_wsS RL 113 yL_value wsL_value) := goodIn_app (goodIn_of _ (by decide +kernel)) ggL_alike_L_value
set_option maxRecDepth 20000 in
theorem ggL_alike_L_impact : GoodIn wsL_alike wsL_impact := goodIn_ca (goodIn_ca (goodIn_ca (goodIn_r _ [150, 101, 11, 118, 102, 12, 119, 151, 152, 153, 4, 154, 17, 155, 124, 108, 109, 110, 111, 112, 113, 18, 19, 20, 21, 22, 23, 24, 25, 26, 27, 28, 29, 30, 31, 32, 33, 34, 35, 36, 37, 38, 39, 40, 41, 42, 43, 44, 45, 46, 47, 48, 49, 50, 51, 52, 53, 54, 55, 56, 57, 58, 59, 60, 61, 62, 63, 64, 65, 66, 67, 68, 69, 70, 71, 72, 73, 74, 125, 126, 127, 128, 129, 130, 156, 157, 158, 159, 160, 161, 162, 163, 164, 165, 166, 167, 168, 169, 170, 171, 172, 173, 174, 175, 176, 177, 178, 179, 180, 181, 182, 207, 208, 209, 210, 211, 212, 213, 221, 222, 223, 214, 215, 216, 217, 218, 219, 220, 224, 225, 226, 227, 228, 229, 230] (by decide +kernel) (by decide +kernel)) (goodIn_sub (fun _ h => List.mem_cons_of_mem _ (List.mem_append_left _ (List.mem_append_right _ h))) (by decide +kernel))) (goodIn_sub (fun _ h => List.mem_cons_of_mem _ (List.mem_append_left _ (List.mem_append_left _ (List.mem_append_right _ h)))) (by decide +kernel))) (goodIn_sub (fun _ h => List.mem_cons_of_mem _ (List.mem_append_right _ h)) (by decide +kernel))
set_option maxRecDepth 20000 in
theorem gL_alike_L_impact : GoodIn wsL_alike (va_wsS RL 120 yL_impact wsL_impact) := goodIn_app (goodIn_of _ (by decide +kernel)) ggL_alike_L_impact
set_option maxRecDepth 20000 in
theorem ggL_alike_L_differing : GoodIn wsL_alike wsL_differing := goodIn_ca (goodIn_ca (goodIn_r _ [185, 101, 11, 102, 12, 186, 187, 188, 4, 189, 112, 113, 190, 191, 17, 18, 19, 20, 21, 22, 23, 24, 25, 26, 27, 28, 29, 30, 31, 32, 33, 34, 35, 36, 37, 38, 39, 40, 41, 42, 43, 44, 45, 46, 47, 48, 49, 50, 51, 52, 53, 54, 55, 56, 57, 58, 59, 60, 61, 62, 63, 64, 65, 66, 67, 68, 69, 70, 71, 72, 73, 74, 75, 76, 77, 78, 192, 193, 194, 195, 196, 197, 198, 199, 200, 201, 202, 203, 204, 205, 206, 139, 140, 141, 93, 94, 95, 96, 97, 142, 143, 144, 145, 146, 147, 207, 208, 209, 210, 211, 212, 213, 231, 232, 233, 234, 235, 214, 215, 216, 217, 218, 219, 220, 221, 222, 223, 224, 225] (by decide +kernel) (by decide +kernel)) (goodIn_sub (fun _ h => List.mem_cons_of_mem _ (List.mem_append_left _ (List.mem_append_right _ h))) (by decide +kernel))) (goodIn_sub (fun _ h => List.mem_cons_of_mem _ (List.mem_append_left _ (List.mem_append_left _ (List.mem_append_right _ h)))) (by decide +kernel))
set_option maxRecDepth 20000 in
theorem gL_alike_L_differing : GoodIn wsL_alike (va_wsS RL 129 yL_differing wsL_differing) := goodIn_app (goodIn_of _ (by decide +kernel)) ggL_alike_L_differing
theorem dL_alike_0 : decode cL_alike 0 = .ok (.aload_n 0, 1) := by decide +kernel
theorem dL_alike_1 : decode cL_alike 1 = .ok (.invokevirtual 133, 3) := by decide +kernel
theorem dL_alike_4 : decode cL_alike 4 = .ok (.istore 4, 2) := by decide +kernel
theorem dL_alike_6 : decode cL_alike 6 = .ok (.aload_n 1, 1) := by decide +kernel
theorem dL_alike_7 : decode cL_alike 7 = .ok (.invokevirtual 133, 3) := by decide +kernel
theorem dL_alike_10 : decode cL_alike 10 = .ok (.iload 4, 2) := by decide +kernel
theorem dL_alike_12 : decode cL_alike 12 = .ok (.if_icmp .ne 43, 3) := by decide +kernel
theorem dL_alike_15 : decode cL_alike 15 = .ok (.aload_n 0, 1) := by decide +kernel
theorem dL_alike_16 : decode cL_alike 16 = .ok (.iload 4, 2) := by decide +kernel
theorem dL_alike_18 : decode cL_alike 18 = .ok (.invokestatic 108, 3) := by decide +kernel
theorem dL_alike_21 : decode cL_alike 21 = .ok (.aload_n 1, 1) := by decide +kernel
theorem dL_alike_22 : decode cL_alike 22 = .ok (.iload 4, 2) := by decide +kernel
theorem dL_alike_24 : decode cL_alike 24 = .ok (.invokestatic 108, 3) := by decide +kernel
theorem dL_alike_27 : decode cL_alike 27 = .ok (.if_icmp .ne 28, 3) := by decide +kernel
theorem dL_alike_30 : decode cL_alike 30 = .ok (.aload_n 0, 1) := by decide +kernel
theorem dL_alike_31 : decode cL_alike 31 = .ok (.iload_n 3, 1) := by decide +kernel
theorem dL_alike_32 : decode cL_alike 32 = .ok (.iconst 2, 1) := by decide +kernel
theorem dL_alike_33 : decode cL_alike 33 = .ok (.irem, 1) := by decide +kernel
theorem dL_alike_34 : decode cL_alike 34 = .ok (.iload 4, 2) := by decide +kernel
theorem dL_alike_36 : decode cL_alike 36 = .ok (.invokestatic 115, 3) := by decide +kernel
theorem dL_alike_39 : decode cL_alike 39 = .ok (.aload_n 1, 1) := by decide +kernel
theorem dL_alike_40 : decode cL_alike 40 = .ok (.iload_n 3, 1) := by decide +kernel
theorem dL_alike_41 : decode cL_alike 41 = .ok (.iconst 2, 1) := by decide +kernel
theorem dL_alike_42 : decode cL_alike 42 = .ok (.irem, 1) := by decide +kernel
theorem dL_alike_43 : decode cL_alike 43 = .ok (.iload 4, 2) := by decide +kernel
theorem dL_alike_45 : decode cL_alike 45 = .ok (.invokestatic 115, 3) := by decide +kernel
theorem dL_alike_48 : decode cL_alike 48 = .ok (.if_icmp .ne 7, 3) := by decide +kernel
theorem dL_alike_51 : decode cL_alike 51 = .ok (.iconst 1, 1) := by decide +kernel
theorem dL_alike_52 : decode cL_alike 52 = .ok (.goto 4, 3) := by decide +kernel
theorem dL_alike_55 : decode cL_alike 55 = .ok (.iconst 0, 1) := by decide +kernel
theorem dL_alike_56 : decode cL_alike 56 = .ok (.istore 5, 2) := by decide +kernel
theorem dL_alike_58 : decode cL_alike 58 = .ok (.iconst 0, 1) := by decide +kernel
theorem dL_alike_59 : decode cL_alike 59 = .ok (.istore 6, 2) := by decide +kernel
theorem dL_alike_61 : decode cL_alike 61 = .ok (.iload 6, 2) := by decide +kernel
theorem dL_alike_63 : decode cL_alike 63 = .ok (.aload_n 2, 1) := by decide +kernel
theorem dL_alike_64 : decode cL_alike 64 = .ok (.iconst 0, 1) := by decide +kernel
theorem dL_alike_65 : decode cL_alike 65 = .ok (.iaload, 1) := by decide +kernel
theorem dL_alike_66 : decode cL_alike 66 = .ok (.if_icmp .ge 94, 3) := by decide +kernel
theorem dL_alike_69 : decode cL_alike 69 = .ok (.iload 5, 2) := by decide +kernel
theorem dL_alike_71 : decode cL_alike 71 = .ok (.ifCond .eq 89, 3) := by decide +kernel
theorem dL_alike_74 : decode cL_alike 74 = .ok (.aload_n 0, 1) := by decide +kernel
theorem dL_alike_75 : decode cL_alike 75 = .ok (.iload 6, 2) := by decide +kernel
theorem dL_alike_77 : decode cL_alike 77 = .ok (.iload 4, 2) := by decide +kernel
theorem dL_alike_79 : decode cL_alike 79 = .ok (.invokestatic 106, 3) := by decide +kernel
theorem dL_alike_82 : decode cL_alike 82 = .ok (.aload_n 1, 1) := by decide +kernel
theorem dL_alike_83 : decode cL_alike 83 = .ok (.iload 6, 2) := by decide +kernel
theorem dL_alike_85 : decode cL_alike 85 = .ok (.iload 4, 2) := by decide +kernel
theorem dL_alike_87 : decode cL_alike 87 = .ok (.invokestatic 106, 3) := by decide +kernel
theorem dL_alike_90 : decode cL_alike 90 = .ok (.if_icmp .ne 61, 3) := by decide +kernel
theorem dL_alike_93 : decode cL_alike 93 = .ok (.iload 6, 2) := by decide +kernel
theorem dL_alike_95 : decode cL_alike 95 = .ok (.iconst 3, 1) := by decide +kernel
theorem dL_alike_96 : decode cL_alike 96 = .ok (.irem, 1) := by decide +kernel
theorem dL_alike_97 : decode cL_alike 97 = .ok (.iload_n 3, 1) := by decide +kernel
theorem dL_alike_98 : decode cL_alike 98 = .ok (.iconst 3, 1) := by decide +kernel
theorem dL_alike_99 : decode cL_alike 99 = .ok (.irem, 1) := by decide +kernel
theorem dL_alike_100 : decode cL_alike 100 = .ok (.if_icmp .ne 47, 3) := by decide +kernel
theorem dL_alike_103 : decode cL_alike 103 = .ok (.aload_n 0, 1) := by decide +kernel
theorem dL_alike_104 : decode cL_alike 104 = .ok (.iload 6, 2) := by decide +kernel
theorem dL_alike_106 : decode cL_alike 106 = .ok (.iload 4, 2) := by decide +kernel
theorem dL_alike_108 : decode cL_alike 108 = .ok (.invokestatic 110, 3) := by decide +kernel
theorem dL_alike_111 : decode cL_alike 111 = .ok (.aload_n 1, 1) := by decide +kernel
theorem dL_alike_112 : decode cL_alike 112 = .ok (.iload 6, 2) := by decide +kernel
theorem dL_alike_114 : decode cL_alike 114 = .ok (.iload 4, 2) := by decide +kernel
theorem dL_alike_116 : decode cL_alike 116 = .ok (.invokestatic 110, 3) := by decide +kernel
theorem dL_alike_119 : decode cL_alike 119 = .ok (.if_icmp .ne 32, 3) := by decide +kernel
theorem dL_alike_122 : decode cL_alike 122 = .ok (.aload_n 0, 1) := by decide +kernel
theorem dL_alike_123 : decode cL_alike 123 = .ok (.iload 6, 2) := by decide +kernel
theorem dL_alike_125 : decode cL_alike 125 = .ok (.iload_n 3, 1) := by decide +kernel
theorem dL_alike_126 : decode cL_alike 126 = .ok (.iconst 2, 1) := by decide +kernel
theorem dL_alike_127 : decode cL_alike 127 = .ok (.irem, 1) := by decide +kernel
theorem dL_alike_128 : decode cL_alike 128 = .ok (.iload 4, 2) := by decide +kernel
theorem dL_alike_130 : decode cL_alike 130 = .ok (.invokestatic 113, 3) := by decide +kernel
theorem dL_alike_133 : decode cL_alike 133 = .ok (.aload_n 1, 1) := by decide +kernel
theorem dL_alike_134 : decode cL_alike 134 = .ok (.iload 6, 2) := by decide +kernel
theorem dL_alike_136 : decode cL_alike 136 = .ok (.iload_n 3, 1) := by decide +kernel
theorem dL_alike_137 : decode cL_alike 137 = .ok (.iconst 2, 1) := by decide +kernel
theorem dL_alike_138 : decode cL_alike 138 = .ok (.irem, 1) := by decide +kernel
theorem dL_alike_139 : decode cL_alike 139 = .ok (.iload 4, 2) := by decide +kernel
theorem dL_alike_141 : decode cL_alike 141 = .ok (.invokestatic 113, 3) := by decide +kernel
theorem dL_alike_144 : decode cL_alike 144 = .ok (.if_icmp .ne 7, 3) := by decide +kernel
theorem dL_alike_147 : decode cL_alike 147 = .ok (.iconst 1, 1) := by decide +kernel
theorem dL_alike_148 : decode cL_alike 148 = .ok (.goto 4, 3) := by decide +kernel
theorem dL_alike_151 : decode cL_alike 151 = .ok (.iconst 0, 1) := by decide +kernel
theorem dL_alike_152 : decode cL_alike 152 = .ok (.istore 5, 2) := by decide +kernel
theorem dL_alike_154 : decode cL_alike 154 = .ok (.iinc 6 1, 3) := by decide +kernel
theorem dL_alike_157 : decode cL_alike 157 = .ok (.goto (-96), 3) := by decide +kernel
theorem dL_alike_160 : decode cL_alike 160 = .ok (.iload 5, 2) := by decide +kernel
theorem dL_alike_162 : decode cL_alike 162 = .ok (.ifCond .eq 69, 3) := by decide +kernel
theorem dL_alike_165 : decode cL_alike 165 = .ok (.aload_n 2, 1) := by decide +kernel
theorem dL_alike_166 : decode cL_alike 166 = .ok (.iconst 0, 1) := by decide +kernel
theorem dL_alike_167 : decode cL_alike 167 = .ok (.iaload, 1) := by decide +kernel
theorem dL_alike_168 : decode cL_alike 168 = .ok (.ifCond .eq 28, 3) := by decide +kernel
theorem dL_alike_171 : decode cL_alike 171 = .ok (.aload_n 0, 1) := by decide +kernel
theorem dL_alike_172 : decode cL_alike 172 = .ok (.iload_n 3, 1) := by decide +kernel
theorem dL_alike_173 : decode cL_alike 173 = .ok (.aload_n 2, 1) := by decide +kernel
theorem dL_alike_174 : decode cL_alike 174 = .ok (.iconst 0, 1) := by decide +kernel
theorem dL_alike_175 : decode cL_alike 175 = .ok (.iaload, 1) := by decide +kernel
theorem dL_alike_176 : decode cL_alike 176 = .ok (.irem, 1) := by decide +kernel
theorem dL_alike_177 : decode cL_alike 177 = .ok (.iload 4, 2) := by decide +kernel
theorem dL_alike_179 : decode cL_alike 179 = .ok (.invokestatic 120, 3) := by decide +kernel
theorem dL_alike_182 : decode cL_alike 182 = .ok (.aload_n 1, 1) := by decide +kernel
theorem dL_alike_183 : decode cL_alike 183 = .ok (.iload_n 3, 1) := by decide +kernel
theorem dL_alike_184 : decode cL_alike 184 = .ok (.aload_n 2, 1) := by decide +kernel
theorem dL_alike_185 : decode cL_alike 185 = .ok (.iconst 0, 1) := by decide +kernel
theorem dL_alike_186 : decode cL_alike 186 = .ok (.iaload, 1) := by decide +kernel
theorem dL_alike_187 : decode cL_alike 187 = .ok (.irem, 1) := by decide +kernel
theorem dL_alike_188 : decode cL_alike 188 = .ok (.iload 4, 2) := by decide +kernel
theorem dL_alike_190 : decode cL_alike 190 = .ok (.invokestatic 120, 3) := by decide +kernel
theorem dL_alike_193 : decode cL_alike 193 = .ok (.if_icmp .ne 38, 3) := by decide +kernel
theorem dL_alike_196 : decode cL_alike 196 = .ok (.aload_n 2, 1) := by decide +kernel
theorem dL_alike_197 : decode cL_alike 197 = .ok (.iconst 2, 1) := by decide +kernel
theorem dL_alike_198 : decode cL_alike 198 = .ok (.iaload, 1) := by decide +kernel
theorem dL_alike_199 : decode cL_alike 199 = .ok (.ifCond .eq 28, 3) := by decide +kernel
theorem dL_alike_202 : decode cL_alike 202 = .ok (.aload_n 0, 1) := by decide +kernel
theorem dL_alike_203 : decode cL_alike 203 = .ok (.iload_n 3, 1) := by decide +kernel
theorem dL_alike_204 : decode cL_alike 204 = .ok (.aload_n 2, 1) := by decide +kernel
theorem dL_alike_205 : decode cL_alike 205 = .ok (.iconst 2, 1) := by decide +kernel
theorem dL_alike_206 : decode cL_alike 206 = .ok (.iaload, 1) := by decide +kernel
theorem dL_alike_207 : decode cL_alike 207 = .ok (.irem, 1) := by decide +kernel
theorem dL_alike_208 : decode cL_alike 208 = .ok (.iload 4, 2) := by decide +kernel
theorem dL_alike_210 : decode cL_alike 210 = .ok (.invokestatic 129, 3) := by decide +kernel
theorem dL_alike_213 : decode cL_alike 213 = .ok (.aload_n 1, 1) := by decide +kernel
theorem dL_alike_214 : decode cL_alike 214 = .ok (.iload_n 3, 1) := by decide +kernel
theorem dL_alike_215 : decode cL_alike 215 = .ok (.aload_n 2, 1) := by decide +kernel
theorem dL_alike_216 : decode cL_alike 216 = .ok (.iconst 2, 1) := by decide +kernel
theorem dL_alike_217 : decode cL_alike 217 = .ok (.iaload, 1) := by decide +kernel
theorem dL_alike_218 : decode cL_alike 218 = .ok (.irem, 1) := by decide +kernel
theorem dL_alike_219 : decode cL_alike 219 = .ok (.iload 4, 2) := by decide +kernel
theorem dL_alike_221 : decode cL_alike 221 = .ok (.invokestatic 129, 3) := by decide +kernel
theorem dL_alike_224 : decode cL_alike 224 = .ok (.if_icmp .ne 7, 3) := by decide +kernel
theorem dL_alike_227 : decode cL_alike 227 = .ok (.iconst 1, 1) := by decide +kernel
theorem dL_alike_228 : decode cL_alike 228 = .ok (.goto 4, 3) := by decide +kernel
theorem dL_alike_231 : decode cL_alike 231 = .ok (.iconst 0, 1) := by decide +kernel
theorem dL_alike_232 : decode cL_alike 232 = .ok (.ireturn, 1) := by decide +kernel
set_option maxRecDepth 20000 in
theorem ggL_holds_L_thing : GoodIn wsL_holds wsL_thing := goodIn_ca (goodIn_ca (goodIn_ca (goodIn_r _ [5, 6, 7, 8, 9, 10, 1, 11, 12, 13, 14, 15, 16, 17, 18, 19, 20, 21, 22, 23, 24, 25, 26, 27, 28, 29, 30, 31, 32, 33, 34, 35, 36, 37, 38, 39, 40, 41, 42, 43, 44, 45, 46, 47, 48, 49, 50, 51, 52, 53, 54, 55, 56, 57, 58, 59, 60, 61, 62, 63, 64, 65, 66, 67, 68, 69, 70, 71, 72, 73, 74, 75, 76, 77, 78, 79, 80, 81, 82, 83, 84, 85, 86, 198, 199, 200, 201, 202, 203, 204, 205, 206, 207, 208, 209, 210, 211, 212, 213, 214, 215, 216] (by decide +kernel) (by decide +kernel)) (goodIn_sub (fun _ h => List.mem_cons_of_mem _ (List.mem_append_left _ (List.mem_append_left _ (List.mem_append_right _ h)))) (by decide +kernel))) (goodIn_sub (fun _ h => List.mem_cons_of_mem _ (List.mem_append_left _ (List.mem_append_right _ h))) (by decide +kernel))) (goodIn_sub (fun _ h => List.mem_cons_of_mem _ (List.mem_append_right _ h)) (by decide +kernel))
set_option maxRecDepth 20000 in
theorem gL_holds_L_thing : GoodIn wsL_holds (va_wsS RL 110 yL_thing wsL_thing) := goodIn_app (goodIn_of _ (by decide +kernel)) ggL_holds_L_thing
set_option maxRecDepth 20000 in
theorem ggL_holds_L_counts : GoodIn wsL_holds wsL_counts := goodIn_ca (goodIn_ca (goodIn_r _ [89, 6, 7, 9, 10, 90, 91, 92, 14, 93, 24, 94, 18, 19, 20, 21, 22, 23, 25, 26, 27, 28, 29, 30, 31, 32, 33, 95, 44, 45, 46, 47, 48, 49, 50, 51, 198, 199, 200, 201, 202, 203, 204, 208, 209, 210, 211, 212, 213, 214, 215, 216] (by decide +kernel) (by decide +kernel)) (goodIn_sub (fun _ h => List.mem_cons_of_mem _ (List.mem_append_left _ (List.mem_append_left _ (List.mem_append_right _ h)))) (by decide +kernel))) (goodIn_sub (fun _ h => List.mem_cons_of_mem _ (List.mem_append_left _ (List.mem_append_right _ h))) (by decide +kernel))
set_option maxRecDepth 20000 in
theorem gL_holds_L_counts : GoodIn wsL_holds (va_wsS RL 106 yL_counts wsL_counts) := goodIn_app (goodIn_of _ (by decide +kernel)) ggL_holds_L_counts
set_option maxRecDepth 20000 in
theorem ggL_holds_L_value : GoodIn wsL_holds wsL_value := goodIn_ca (goodIn_ca (goodIn_ca (goodIn_r _ [98, 6, 7, 8, 9, 10, 1, 99, 100, 101, 14, 102, 16, 17, 18, 19, 20, 21, 22, 23, 24, 25, 103, 104, 105, 29, 30, 31, 32, 33, 26, 27, 28, 34, 35, 36, 37, 38, 39, 40, 41, 42, 43, 44, 45, 46, 47, 48, 49, 50, 51, 52, 53, 54, 55, 56, 57, 58, 59, 60, 61, 62, 63, 64, 65, 66, 67, 68, 69, 70, 71, 72, 73, 74, 75, 76, 77, 78, 79, 80, 81, 82, 83, 84, 85, 86, 106, 107, 108, 109, 110, 111, 112, 113, 114, 115, 116, 117, 118, 119, 120, 198, 199, 200, 201, 202, 203, 204, 205, 206, 207, 208, 209, 210, 211, 212, 213, 214, 215, 216] (by decide +kernel) (by decide +kernel)) (goodIn_sub (fun _ h => List.mem_cons_of_mem _ (List.mem_append_left _ (List.mem_append_left _ (List.mem_append_right _ h)))) (by decide +kernel))) (goodIn_sub (fun _ h => List.mem_cons_of_mem _ (List.mem_append_left _ (List.mem_append_right _ h))) (by decide +kernel))) (goodIn_sub (fun _ h => List.mem_cons_of_mem _ (List.mem_append_right _ h)) (by decide +kernel))
set_option maxRecDepth 20000 in
theorem gL_holds_L_value : GoodIn wsL_holds (va_wsS RL 113 yL_value wsL_value) := goodIn_app (goodIn_of _ (by decide +kernel)) ggL_holds_L_value
set_option maxRecDepth 20000 in
theorem ggL_holds_L_things : GoodIn wsL_holds wsL_things := goodIn_ca (goodIn_r _ [123, 7, 10, 124, 125, 126, 14, 127, 16, 24, 25, 26, 27, 28, 29, 30, 31, 32, 33, 34, 35, 36, 37, 38, 39, 40, 41, 42, 43, 44, 45, 46, 47, 48, 49, 50, 51, 52, 53, 54, 55, 56, 57, 58, 59, 60, 61, 62, 63, 64, 65, 66, 67, 68, 69, 70, 71, 72, 73, 74, 75, 76, 77, 78, 79, 80, 128, 129, 130, 131, 198, 199, 200, 201, 202, 203, 204, 208, 209, 210, 211, 212, 213, 214, 205, 206, 207, 215, 216] (by decide +kernel) (by decide +kernel)) (goodIn_sub (fun _ h => List.mem_cons_of_mem _ (List.mem_append_left _ (List.mem_append_right _ h))) (by decide +kernel))
set_option maxRecDepth 20000 in
theorem gL_holds_L_things : GoodIn wsL_holds (va_wsS RL 108 yL_things wsL_things) := goodIn_app (goodIn_of _ (by decide +kernel)) ggL_holds_L_things
set_option maxRecDepth 20000 in
theorem ggL_holds_L_disputed : GoodIn wsL_holds wsL_disputed := goodIn_ca (goodIn_r _ [134, 7, 10, 135, 136, 137, 14, 138, 16, 24, 25, 103, 104, 105, 29, 30, 31, 32, 33, 26, 27, 28, 34, 35, 36, 37, 38, 39, 40, 41, 42, 43, 44, 45, 46, 47, 48, 49, 50, 51, 52, 53, 54, 55, 56, 57, 58, 59, 60, 61, 62, 63, 64, 65, 66, 67, 68, 69, 70, 71, 72, 73, 74, 75, 76, 77, 78, 79, 80, 128, 129, 130, 131, 139, 140, 141, 142, 110, 111, 112, 113, 114, 198, 199, 200, 201, 202, 203, 204, 208, 209, 210, 211, 212, 213, 214, 205, 206, 207, 215, 216] (by decide +kernel) (by decide +kernel)) (goodIn_sub (fun _ h => List.mem_cons_of_mem _ (List.mem_append_left _ (List.mem_append_right _ h))) (by decide +kernel))
set_option maxRecDepth 20000 in
theorem gL_holds_L_disputed : GoodIn wsL_holds (va_wsS RL 115 yL_disputed wsL_disputed) := goodIn_app (goodIn_of _ (by decide +kernel)) ggL_holds_L_disputed
set_option maxRecDepth 20000 in
theorem ggL_holds_L_changed : GoodIn wsL_holds wsL_changed := goodIn_ca (goodIn_r _ [145, 7, 10, 146, 147, 148, 14, 149, 16, 150, 24, 25, 103, 104, 105, 29, 30, 31, 32, 33, 26, 27, 28, 34, 35, 36, 37, 38, 39, 40, 41, 42, 43, 44, 45, 46, 47, 48, 49, 50, 51, 52, 53, 54, 55, 56, 57, 58, 59, 60, 61, 62, 63, 64, 65, 66, 67, 68, 69, 70, 71, 72, 73, 74, 75, 76, 77, 78, 79, 80, 151, 152, 153, 154, 17, 106, 107, 108, 109, 110, 111, 112, 113, 114, 115, 116, 117, 118, 119, 120, 198, 199, 200, 201, 202, 203, 204, 208, 209, 210, 211, 212, 213, 214, 205, 206, 207, 215, 216] (by decide +kernel) (by decide +kernel)) (goodIn_sub (fun _ h => List.mem_cons_of_mem _ (List.mem_append_left _ (List.mem_append_right _ h))) (by decide +kernel))
set_option maxRecDepth 20000 in
theorem gL_holds_L_changed : GoodIn wsL_holds (va_wsS RL 131 yL_changed wsL_changed) := goodIn_app (goodIn_of _ (by decide +kernel)) ggL_holds_L_changed
set_option maxRecDepth 20000 in
theorem ggL_holds_L_impact : GoodIn wsL_holds wsL_impact := goodIn_ca (goodIn_ca (goodIn_ca (goodIn_r _ [157, 6, 7, 8, 9, 10, 1, 158, 159, 160, 14, 161, 16, 162, 17, 18, 19, 20, 21, 22, 23, 24, 25, 26, 27, 28, 29, 30, 31, 32, 33, 34, 35, 36, 37, 38, 39, 40, 41, 42, 43, 44, 45, 46, 47, 48, 49, 50, 51, 52, 53, 54, 55, 56, 57, 58, 59, 60, 61, 62, 63, 64, 65, 66, 67, 68, 69, 70, 71, 72, 73, 74, 75, 76, 77, 78, 79, 80, 81, 82, 83, 84, 85, 86, 163, 164, 165, 166, 167, 168, 169, 170, 171, 172, 173, 174, 175, 176, 177, 178, 179, 180, 181, 182, 183, 184, 185, 186, 187, 188, 189, 198, 199, 200, 201, 202, 203, 204, 205, 206, 207, 208, 209, 210, 211, 212, 213, 214, 215, 216, 217, 218, 219, 220, 221] (by decide +kernel) (by decide +kernel)) (goodIn_sub (fun _ h => List.mem_cons_of_mem _ (List.mem_append_left _ (List.mem_append_left _ (List.mem_append_right _ h)))) (by decide +kernel))) (goodIn_sub (fun _ h => List.mem_cons_of_mem _ (List.mem_append_left _ (List.mem_append_right _ h))) (by decide +kernel))) (goodIn_sub (fun _ h => List.mem_cons_of_mem _ (List.mem_append_right _ h)) (by decide +kernel))
set_option maxRecDepth 20000 in
theorem gL_holds_L_impact : GoodIn wsL_holds (va_wsS RL 120 yL_impact wsL_impact) := goodIn_app (goodIn_of _ (by decide +kernel)) ggL_holds_L_impact
set_option maxRecDepth 20000 in
theorem ggL_holds_L_fails : GoodIn wsL_holds wsL_fails := goodIn_ca (goodIn_ca (goodIn_ca (goodIn_r _ [192, 6, 7, 8, 9, 10, 1, 193, 194, 195, 14, 196, 16, 162, 17, 197, 18, 19, 20, 21, 22, 23, 24, 25, 26, 27, 28, 29, 30, 31, 32, 33, 34, 35, 36, 37, 38, 39, 40, 41, 42, 43, 44, 45, 46, 47, 48, 49, 50, 51, 52, 53, 54, 55, 56, 57, 58, 59, 60, 61, 62, 63, 64, 65, 66, 67, 68, 69, 70, 71, 72, 73, 74, 75, 76, 77, 78, 79, 80, 81, 82, 83, 84, 85, 86, 163, 164, 165, 166, 167, 168, 169, 170, 171, 172, 173, 174, 175, 176, 177, 178, 179, 180, 181, 182, 183, 184, 185, 198, 199, 200, 201, 202, 203, 204, 205, 206, 207, 217, 218, 219, 220, 221, 208, 209, 210, 211, 212, 213, 214, 215, 216] (by decide +kernel) (by decide +kernel)) (goodIn_sub (fun _ h => List.mem_cons_of_mem _ (List.mem_append_left _ (List.mem_append_left _ (List.mem_append_right _ h)))) (by decide +kernel))) (goodIn_sub (fun _ h => List.mem_cons_of_mem _ (List.mem_append_left _ (List.mem_append_right _ h))) (by decide +kernel))) (goodIn_sub (fun _ h => List.mem_cons_of_mem _ (List.mem_append_right _ h)) (by decide +kernel))
set_option maxRecDepth 20000 in
theorem gL_holds_L_fails : GoodIn wsL_holds (va_wsS RL 122 yL_fails wsL_fails) := goodIn_app (goodIn_of _ (by decide +kernel)) ggL_holds_L_fails
theorem dL_holds_0 : decode cL_holds 0 = .ok (.iconst 0, 1) := by decide +kernel
theorem dL_holds_1 : decode cL_holds 1 = .ok (.istore 4, 2) := by decide +kernel
theorem dL_holds_3 : decode cL_holds 3 = .ok (.iconst 1, 1) := by decide +kernel
theorem dL_holds_4 : decode cL_holds 4 = .ok (.istore 5, 2) := by decide +kernel
theorem dL_holds_6 : decode cL_holds 6 = .ok (.iconst 0, 1) := by decide +kernel
theorem dL_holds_7 : decode cL_holds 7 = .ok (.istore 6, 2) := by decide +kernel
theorem dL_holds_9 : decode cL_holds 9 = .ok (.iload 6, 2) := by decide +kernel
theorem dL_holds_11 : decode cL_holds 11 = .ok (.aload_n 1, 1) := by decide +kernel
theorem dL_holds_12 : decode cL_holds 12 = .ok (.iconst 0, 1) := by decide +kernel
theorem dL_holds_13 : decode cL_holds 13 = .ok (.iaload, 1) := by decide +kernel
theorem dL_holds_14 : decode cL_holds 14 = .ok (.if_icmp .ge 142, 3) := by decide +kernel
theorem dL_holds_17 : decode cL_holds 17 = .ok (.iload 5, 2) := by decide +kernel
theorem dL_holds_19 : decode cL_holds 19 = .ok (.ifCond .eq 137, 3) := by decide +kernel
theorem dL_holds_22 : decode cL_holds 22 = .ok (.aload_n 0, 1) := by decide +kernel
theorem dL_holds_23 : decode cL_holds 23 = .ok (.iload 6, 2) := by decide +kernel
theorem dL_holds_25 : decode cL_holds 25 = .ok (.iload_n 2, 1) := by decide +kernel
theorem dL_holds_26 : decode cL_holds 26 = .ok (.invokestatic 110, 3) := by decide +kernel
theorem dL_holds_29 : decode cL_holds 29 = .ok (.istore 7, 2) := by decide +kernel
theorem dL_holds_31 : decode cL_holds 31 = .ok (.aload_n 0, 1) := by decide +kernel
theorem dL_holds_32 : decode cL_holds 32 = .ok (.iload 6, 2) := by decide +kernel
theorem dL_holds_34 : decode cL_holds 34 = .ok (.iload_n 2, 1) := by decide +kernel
theorem dL_holds_35 : decode cL_holds 35 = .ok (.invokestatic 106, 3) := by decide +kernel
theorem dL_holds_38 : decode cL_holds 38 = .ok (.iconst 1, 1) := by decide +kernel
theorem dL_holds_39 : decode cL_holds 39 = .ok (.if_icmp .ne 7, 3) := by decide +kernel
theorem dL_holds_42 : decode cL_holds 42 = .ok (.iconst 1, 1) := by decide +kernel
theorem dL_holds_43 : decode cL_holds 43 = .ok (.goto 4, 3) := by decide +kernel
theorem dL_holds_46 : decode cL_holds 46 = .ok (.iconst 0, 1) := by decide +kernel
theorem dL_holds_47 : decode cL_holds 47 = .ok (.istore 8, 2) := by decide +kernel
theorem dL_holds_49 : decode cL_holds 49 = .ok (.iload 4, 2) := by decide +kernel
theorem dL_holds_51 : decode cL_holds 51 = .ok (.iload 7, 2) := by decide +kernel
theorem dL_holds_53 : decode cL_holds 53 = .ok (.iload 6, 2) := by decide +kernel
theorem dL_holds_55 : decode cL_holds 55 = .ok (.if_icmp .ne 7, 3) := by decide +kernel
theorem dL_holds_58 : decode cL_holds 58 = .ok (.iconst 1, 1) := by decide +kernel
theorem dL_holds_59 : decode cL_holds 59 = .ok (.goto 4, 3) := by decide +kernel
theorem dL_holds_62 : decode cL_holds 62 = .ok (.iconst 0, 1) := by decide +kernel
theorem dL_holds_63 : decode cL_holds 63 = .ok (.iadd, 1) := by decide +kernel
theorem dL_holds_64 : decode cL_holds 64 = .ok (.istore 4, 2) := by decide +kernel
theorem dL_holds_66 : decode cL_holds 66 = .ok (.iload 7, 2) := by decide +kernel
theorem dL_holds_68 : decode cL_holds 68 = .ok (.ldc 53, 2) := by decide +kernel
theorem dL_holds_70 : decode cL_holds 70 = .ok (.if_icmp .ne 7, 3) := by decide +kernel
theorem dL_holds_73 : decode cL_holds 73 = .ok (.iconst 1, 1) := by decide +kernel
theorem dL_holds_74 : decode cL_holds 74 = .ok (.goto 4, 3) := by decide +kernel
theorem dL_holds_77 : decode cL_holds 77 = .ok (.iconst 0, 1) := by decide +kernel
theorem dL_holds_78 : decode cL_holds 78 = .ok (.iload 8, 2) := by decide +kernel
theorem dL_holds_80 : decode cL_holds 80 = .ok (.ifCond .ne 7, 3) := by decide +kernel
theorem dL_holds_83 : decode cL_holds 83 = .ok (.iconst 1, 1) := by decide +kernel
theorem dL_holds_84 : decode cL_holds 84 = .ok (.goto 4, 3) := by decide +kernel
theorem dL_holds_87 : decode cL_holds 87 = .ok (.iconst 0, 1) := by decide +kernel
theorem dL_holds_88 : decode cL_holds 88 = .ok (.if_icmp .ne 59, 3) := by decide +kernel
theorem dL_holds_91 : decode cL_holds 91 = .ok (.iload 8, 2) := by decide +kernel
theorem dL_holds_93 : decode cL_holds 93 = .ok (.ifCond .eq 50, 3) := by decide +kernel
theorem dL_holds_96 : decode cL_holds 96 = .ok (.iload 7, 2) := by decide +kernel
theorem dL_holds_98 : decode cL_holds 98 = .ok (.ifCond .lt 49, 3) := by decide +kernel
theorem dL_holds_101 : decode cL_holds 101 = .ok (.iload 7, 2) := by decide +kernel
theorem dL_holds_103 : decode cL_holds 103 = .ok (.iload 6, 2) := by decide +kernel
theorem dL_holds_105 : decode cL_holds 105 = .ok (.if_icmp .gt 42, 3) := by decide +kernel
theorem dL_holds_108 : decode cL_holds 108 = .ok (.aload_n 0, 1) := by decide +kernel
theorem dL_holds_109 : decode cL_holds 109 = .ok (.iload 7, 2) := by decide +kernel
theorem dL_holds_111 : decode cL_holds 111 = .ok (.iload_n 2, 1) := by decide +kernel
theorem dL_holds_112 : decode cL_holds 112 = .ok (.invokestatic 110, 3) := by decide +kernel
theorem dL_holds_115 : decode cL_holds 115 = .ok (.iload 7, 2) := by decide +kernel
theorem dL_holds_117 : decode cL_holds 117 = .ok (.if_icmp .ne 30, 3) := by decide +kernel
theorem dL_holds_120 : decode cL_holds 120 = .ok (.aload_n 0, 1) := by decide +kernel
theorem dL_holds_121 : decode cL_holds 121 = .ok (.iload 7, 2) := by decide +kernel
theorem dL_holds_123 : decode cL_holds 123 = .ok (.iload_n 3, 1) := by decide +kernel
theorem dL_holds_124 : decode cL_holds 124 = .ok (.iconst 2, 1) := by decide +kernel
theorem dL_holds_125 : decode cL_holds 125 = .ok (.irem, 1) := by decide +kernel
theorem dL_holds_126 : decode cL_holds 126 = .ok (.iload_n 2, 1) := by decide +kernel
theorem dL_holds_127 : decode cL_holds 127 = .ok (.invokestatic 113, 3) := by decide +kernel
theorem dL_holds_130 : decode cL_holds 130 = .ok (.aload_n 0, 1) := by decide +kernel
theorem dL_holds_131 : decode cL_holds 131 = .ok (.iload 6, 2) := by decide +kernel
theorem dL_holds_133 : decode cL_holds 133 = .ok (.iload_n 3, 1) := by decide +kernel
theorem dL_holds_134 : decode cL_holds 134 = .ok (.iconst 2, 1) := by decide +kernel
theorem dL_holds_135 : decode cL_holds 135 = .ok (.irem, 1) := by decide +kernel
theorem dL_holds_136 : decode cL_holds 136 = .ok (.iload_n 2, 1) := by decide +kernel
theorem dL_holds_137 : decode cL_holds 137 = .ok (.invokestatic 113, 3) := by decide +kernel
theorem dL_holds_140 : decode cL_holds 140 = .ok (.if_icmp .ne 7, 3) := by decide +kernel
theorem dL_holds_143 : decode cL_holds 143 = .ok (.iconst 1, 1) := by decide +kernel
theorem dL_holds_144 : decode cL_holds 144 = .ok (.goto 4, 3) := by decide +kernel
theorem dL_holds_147 : decode cL_holds 147 = .ok (.iconst 0, 1) := by decide +kernel
theorem dL_holds_148 : decode cL_holds 148 = .ok (.istore 5, 2) := by decide +kernel
theorem dL_holds_150 : decode cL_holds 150 = .ok (.iinc 6 1, 3) := by decide +kernel
theorem dL_holds_153 : decode cL_holds 153 = .ok (.goto (-144), 3) := by decide +kernel
theorem dL_holds_156 : decode cL_holds 156 = .ok (.iload 5, 2) := by decide +kernel
theorem dL_holds_158 : decode cL_holds 158 = .ok (.ifCond .eq 40, 3) := by decide +kernel
theorem dL_holds_161 : decode cL_holds 161 = .ok (.iload 4, 2) := by decide +kernel
theorem dL_holds_163 : decode cL_holds 163 = .ok (.aload_n 0, 1) := by decide +kernel
theorem dL_holds_164 : decode cL_holds 164 = .ok (.iload_n 2, 1) := by decide +kernel
theorem dL_holds_165 : decode cL_holds 165 = .ok (.invokestatic 108, 3) := by decide +kernel
theorem dL_holds_168 : decode cL_holds 168 = .ok (.if_icmp .ne 30, 3) := by decide +kernel
theorem dL_holds_171 : decode cL_holds 171 = .ok (.aload_n 0, 1) := by decide +kernel
theorem dL_holds_172 : decode cL_holds 172 = .ok (.iconst 0, 1) := by decide +kernel
theorem dL_holds_173 : decode cL_holds 173 = .ok (.iload_n 2, 1) := by decide +kernel
theorem dL_holds_174 : decode cL_holds 174 = .ok (.invokestatic 115, 3) := by decide +kernel
theorem dL_holds_177 : decode cL_holds 177 = .ok (.iload 4, 2) := by decide +kernel
theorem dL_holds_179 : decode cL_holds 179 = .ok (.if_icmp .gt 19, 3) := by decide +kernel
theorem dL_holds_182 : decode cL_holds 182 = .ok (.aload_n 0, 1) := by decide +kernel
theorem dL_holds_183 : decode cL_holds 183 = .ok (.iload_n 3, 1) := by decide +kernel
theorem dL_holds_184 : decode cL_holds 184 = .ok (.iconst 2, 1) := by decide +kernel
theorem dL_holds_185 : decode cL_holds 185 = .ok (.irem, 1) := by decide +kernel
theorem dL_holds_186 : decode cL_holds 186 = .ok (.iload_n 2, 1) := by decide +kernel
theorem dL_holds_187 : decode cL_holds 187 = .ok (.iload_n 2, 1) := by decide +kernel
theorem dL_holds_188 : decode cL_holds 188 = .ok (.invokestatic 131, 3) := by decide +kernel
theorem dL_holds_191 : decode cL_holds 191 = .ok (.ifCond .ne 7, 3) := by decide +kernel
theorem dL_holds_194 : decode cL_holds 194 = .ok (.iconst 1, 1) := by decide +kernel
theorem dL_holds_195 : decode cL_holds 195 = .ok (.goto 4, 3) := by decide +kernel
theorem dL_holds_198 : decode cL_holds 198 = .ok (.iconst 0, 1) := by decide +kernel
theorem dL_holds_199 : decode cL_holds 199 = .ok (.istore 5, 2) := by decide +kernel
theorem dL_holds_201 : decode cL_holds 201 = .ok (.aload_n 1, 1) := by decide +kernel
theorem dL_holds_202 : decode cL_holds 202 = .ok (.iconst 0, 1) := by decide +kernel
theorem dL_holds_203 : decode cL_holds 203 = .ok (.iaload, 1) := by decide +kernel
theorem dL_holds_204 : decode cL_holds 204 = .ok (.ifCond .ne 7, 3) := by decide +kernel
theorem dL_holds_207 : decode cL_holds 207 = .ok (.iconst 0, 1) := by decide +kernel
theorem dL_holds_208 : decode cL_holds 208 = .ok (.goto 8, 3) := by decide +kernel
theorem dL_holds_211 : decode cL_holds 211 = .ok (.iload_n 3, 1) := by decide +kernel
theorem dL_holds_212 : decode cL_holds 212 = .ok (.aload_n 1, 1) := by decide +kernel
theorem dL_holds_213 : decode cL_holds 213 = .ok (.iconst 0, 1) := by decide +kernel
theorem dL_holds_214 : decode cL_holds 214 = .ok (.iaload, 1) := by decide +kernel
theorem dL_holds_215 : decode cL_holds 215 = .ok (.irem, 1) := by decide +kernel
theorem dL_holds_216 : decode cL_holds 216 = .ok (.istore 6, 2) := by decide +kernel
theorem dL_holds_218 : decode cL_holds 218 = .ok (.iload 5, 2) := by decide +kernel
theorem dL_holds_220 : decode cL_holds 220 = .ok (.ifCond .eq 181, 3) := by decide +kernel
theorem dL_holds_223 : decode cL_holds 223 = .ok (.aload_n 1, 1) := by decide +kernel
theorem dL_holds_224 : decode cL_holds 224 = .ok (.iconst 0, 1) := by decide +kernel
theorem dL_holds_225 : decode cL_holds 225 = .ok (.iaload, 1) := by decide +kernel
theorem dL_holds_226 : decode cL_holds 226 = .ok (.ifCond .le 175, 3) := by decide +kernel
theorem dL_holds_229 : decode cL_holds 229 = .ok (.aload_n 0, 1) := by decide +kernel
theorem dL_holds_230 : decode cL_holds 230 = .ok (.iload 6, 2) := by decide +kernel
theorem dL_holds_232 : decode cL_holds 232 = .ok (.iload_n 2, 1) := by decide +kernel
theorem dL_holds_233 : decode cL_holds 233 = .ok (.invokestatic 106, 3) := by decide +kernel
theorem dL_holds_236 : decode cL_holds 236 = .ok (.iconst 1, 1) := by decide +kernel
theorem dL_holds_237 : decode cL_holds 237 = .ok (.if_icmp .ne 164, 3) := by decide +kernel
theorem dL_holds_240 : decode cL_holds 240 = .ok (.aload_n 0, 1) := by decide +kernel
theorem dL_holds_241 : decode cL_holds 241 = .ok (.iload 6, 2) := by decide +kernel
theorem dL_holds_243 : decode cL_holds 243 = .ok (.iload_n 2, 1) := by decide +kernel
theorem dL_holds_244 : decode cL_holds 244 = .ok (.invokestatic 120, 3) := by decide +kernel
theorem dL_holds_247 : decode cL_holds 247 = .ok (.istore 7, 2) := by decide +kernel
theorem dL_holds_249 : decode cL_holds 249 = .ok (.iconst 0, 1) := by decide +kernel
theorem dL_holds_250 : decode cL_holds 250 = .ok (.istore 8, 2) := by decide +kernel
theorem dL_holds_252 : decode cL_holds 252 = .ok (.iconst 0, 1) := by decide +kernel
theorem dL_holds_253 : decode cL_holds 253 = .ok (.istore 9, 2) := by decide +kernel
theorem dL_holds_255 : decode cL_holds 255 = .ok (.iload 9, 2) := by decide +kernel
theorem dL_holds_257 : decode cL_holds 257 = .ok (.aload_n 1, 1) := by decide +kernel
theorem dL_holds_258 : decode cL_holds 258 = .ok (.iconst 0, 1) := by decide +kernel
theorem dL_holds_259 : decode cL_holds 259 = .ok (.iaload, 1) := by decide +kernel
theorem dL_holds_260 : decode cL_holds 260 = .ok (.if_icmp .ge 96, 3) := by decide +kernel
theorem dL_holds_263 : decode cL_holds 263 = .ok (.iload 5, 2) := by decide +kernel
theorem dL_holds_265 : decode cL_holds 265 = .ok (.ifCond .eq 91, 3) := by decide +kernel
theorem dL_holds_268 : decode cL_holds 268 = .ok (.aload_n 0, 1) := by decide +kernel
theorem dL_holds_269 : decode cL_holds 269 = .ok (.iload 9, 2) := by decide +kernel
theorem dL_holds_271 : decode cL_holds 271 = .ok (.iload_n 2, 1) := by decide +kernel
theorem dL_holds_272 : decode cL_holds 272 = .ok (.invokestatic 106, 3) := by decide +kernel
theorem dL_holds_275 : decode cL_holds 275 = .ok (.iconst 1, 1) := by decide +kernel
theorem dL_holds_276 : decode cL_holds 276 = .ok (.if_icmp .ne 20, 3) := by decide +kernel
theorem dL_holds_279 : decode cL_holds 279 = .ok (.aload_n 0, 1) := by decide +kernel
theorem dL_holds_280 : decode cL_holds 280 = .ok (.iload 9, 2) := by decide +kernel
theorem dL_holds_282 : decode cL_holds 282 = .ok (.iload 6, 2) := by decide +kernel
theorem dL_holds_284 : decode cL_holds 284 = .ok (.iload_n 2, 1) := by decide +kernel
theorem dL_holds_285 : decode cL_holds 285 = .ok (.invokestatic 122, 3) := by decide +kernel
theorem dL_holds_288 : decode cL_holds 288 = .ok (.iconst 1, 1) := by decide +kernel
theorem dL_holds_289 : decode cL_holds 289 = .ok (.if_icmp .ne 7, 3) := by decide +kernel
theorem dL_holds_292 : decode cL_holds 292 = .ok (.iconst 1, 1) := by decide +kernel
theorem dL_holds_293 : decode cL_holds 293 = .ok (.goto 4, 3) := by decide +kernel
theorem dL_holds_296 : decode cL_holds 296 = .ok (.iconst 0, 1) := by decide +kernel
theorem dL_holds_297 : decode cL_holds 297 = .ok (.istore 10, 2) := by decide +kernel
theorem dL_holds_299 : decode cL_holds 299 = .ok (.iload 8, 2) := by decide +kernel
theorem dL_holds_301 : decode cL_holds 301 = .ok (.iload 10, 2) := by decide +kernel
theorem dL_holds_303 : decode cL_holds 303 = .ok (.ifCond .eq 19, 3) := by decide +kernel
theorem dL_holds_306 : decode cL_holds 306 = .ok (.aload_n 0, 1) := by decide +kernel
theorem dL_holds_307 : decode cL_holds 307 = .ok (.iload 9, 2) := by decide +kernel
theorem dL_holds_309 : decode cL_holds 309 = .ok (.iload_n 2, 1) := by decide +kernel
theorem dL_holds_310 : decode cL_holds 310 = .ok (.invokestatic 110, 3) := by decide +kernel
theorem dL_holds_313 : decode cL_holds 313 = .ok (.iload 9, 2) := by decide +kernel
theorem dL_holds_315 : decode cL_holds 315 = .ok (.if_icmp .ne 7, 3) := by decide +kernel
theorem dL_holds_318 : decode cL_holds 318 = .ok (.iconst 1, 1) := by decide +kernel
theorem dL_holds_319 : decode cL_holds 319 = .ok (.goto 4, 3) := by decide +kernel
theorem dL_holds_322 : decode cL_holds 322 = .ok (.iconst 0, 1) := by decide +kernel
theorem dL_holds_323 : decode cL_holds 323 = .ok (.iadd, 1) := by decide +kernel
theorem dL_holds_324 : decode cL_holds 324 = .ok (.istore 8, 2) := by decide +kernel
theorem dL_holds_326 : decode cL_holds 326 = .ok (.iload 10, 2) := by decide +kernel
theorem dL_holds_328 : decode cL_holds 328 = .ok (.ifCond .eq 15, 3) := by decide +kernel
theorem dL_holds_331 : decode cL_holds 331 = .ok (.aload_n 0, 1) := by decide +kernel
theorem dL_holds_332 : decode cL_holds 332 = .ok (.iload 9, 2) := by decide +kernel
theorem dL_holds_334 : decode cL_holds 334 = .ok (.iload_n 2, 1) := by decide +kernel
theorem dL_holds_335 : decode cL_holds 335 = .ok (.invokestatic 120, 3) := by decide +kernel
theorem dL_holds_338 : decode cL_holds 338 = .ok (.iload 7, 2) := by decide +kernel
theorem dL_holds_340 : decode cL_holds 340 = .ok (.if_icmp .gt 7, 3) := by decide +kernel
theorem dL_holds_343 : decode cL_holds 343 = .ok (.iconst 1, 1) := by decide +kernel
theorem dL_holds_344 : decode cL_holds 344 = .ok (.goto 4, 3) := by decide +kernel
theorem dL_holds_347 : decode cL_holds 347 = .ok (.iconst 0, 1) := by decide +kernel
theorem dL_holds_348 : decode cL_holds 348 = .ok (.istore 5, 2) := by decide +kernel
theorem dL_holds_350 : decode cL_holds 350 = .ok (.iinc 9 1, 3) := by decide +kernel
theorem dL_holds_353 : decode cL_holds 353 = .ok (.goto (-98), 3) := by decide +kernel
theorem dL_holds_356 : decode cL_holds 356 = .ok (.iload 5, 2) := by decide +kernel
theorem dL_holds_358 : decode cL_holds 358 = .ok (.ifCond .eq 40, 3) := by decide +kernel
theorem dL_holds_361 : decode cL_holds 361 = .ok (.iload 8, 2) := by decide +kernel
theorem dL_holds_363 : decode cL_holds 363 = .ok (.iload 7, 2) := by decide +kernel
theorem dL_holds_365 : decode cL_holds 365 = .ok (.if_icmp .ne 33, 3) := by decide +kernel
theorem dL_holds_368 : decode cL_holds 368 = .ok (.iload 7, 2) := by decide +kernel
theorem dL_holds_370 : decode cL_holds 370 = .ok (.iconst 1, 1) := by decide +kernel
theorem dL_holds_371 : decode cL_holds 371 = .ok (.if_icmp .lt 27, 3) := by decide +kernel
theorem dL_holds_374 : decode cL_holds 374 = .ok (.iload 7, 2) := by decide +kernel
theorem dL_holds_376 : decode cL_holds 376 = .ok (.iload 4, 2) := by decide +kernel
theorem dL_holds_378 : decode cL_holds 378 = .ok (.if_icmp .gt 20, 3) := by decide +kernel
theorem dL_holds_381 : decode cL_holds 381 = .ok (.aload_n 0, 1) := by decide +kernel
theorem dL_holds_382 : decode cL_holds 382 = .ok (.iload 6, 2) := by decide +kernel
theorem dL_holds_384 : decode cL_holds 384 = .ok (.iload 6, 2) := by decide +kernel
theorem dL_holds_386 : decode cL_holds 386 = .ok (.iload_n 2, 1) := by decide +kernel
theorem dL_holds_387 : decode cL_holds 387 = .ok (.invokestatic 122, 3) := by decide +kernel
theorem dL_holds_390 : decode cL_holds 390 = .ok (.iconst 1, 1) := by decide +kernel
theorem dL_holds_391 : decode cL_holds 391 = .ok (.if_icmp .ne 7, 3) := by decide +kernel
theorem dL_holds_394 : decode cL_holds 394 = .ok (.iconst 1, 1) := by decide +kernel
theorem dL_holds_395 : decode cL_holds 395 = .ok (.goto 4, 3) := by decide +kernel
theorem dL_holds_398 : decode cL_holds 398 = .ok (.iconst 0, 1) := by decide +kernel
theorem dL_holds_399 : decode cL_holds 399 = .ok (.istore 5, 2) := by decide +kernel
theorem dL_holds_401 : decode cL_holds 401 = .ok (.iload 5, 2) := by decide +kernel
theorem dL_holds_403 : decode cL_holds 403 = .ok (.ireturn, 1) := by decide +kernel
set_option maxRecDepth 20000 in
theorem ggL_parts_X5_today : GoodIn wsL_parts wsX5_today := goodIn_r _ [5, 6, 155, 156, 157, 158, 159, 160, 161] (by decide +kernel) (by decide +kernel)
set_option maxRecDepth 20000 in
theorem gL_parts_X5_today : GoodIn wsL_parts (wsV RL 133 RX5 yX5_today wsX5_today) := goodIn_app (goodIn_of _ (by decide +kernel)) ggL_parts_X5_today
set_option maxRecDepth 20000 in
theorem ggL_parts_L_things : GoodIn wsL_parts wsL_things := goodIn_ca (goodIn_r _ [10, 11, 12, 13, 14, 15, 4, 16, 17, 18, 19, 20, 21, 22, 23, 24, 25, 26, 27, 28, 29, 30, 31, 32, 33, 34, 35, 36, 37, 38, 39, 40, 41, 42, 43, 44, 45, 46, 47, 48, 49, 50, 51, 52, 53, 54, 55, 56, 57, 58, 59, 60, 61, 62, 63, 64, 65, 66, 67, 68, 69, 70, 71, 72, 73, 74, 75, 76, 77, 78, 155, 156, 157, 158, 159, 160, 161, 162, 163, 164, 165, 166, 167, 168, 169, 170, 171, 172, 173] (by decide +kernel) (by decide +kernel)) (goodIn_sub (fun _ h => List.mem_cons_of_mem _ (List.mem_append_left _ (List.mem_append_left _ (List.mem_append_left _ (List.mem_append_right _ h))))) (by decide +kernel))
set_option maxRecDepth 20000 in
theorem gL_parts_L_things : GoodIn wsL_parts (va_wsS RL 108 yL_things wsL_things) := goodIn_app (goodIn_of _ (by decide +kernel)) ggL_parts_L_things
set_option maxRecDepth 20000 in
theorem ggL_parts_L_tells : GoodIn wsL_parts wsL_tells := goodIn_ca (goodIn_ca (goodIn_r _ [81, 82, 11, 83, 12, 84, 85, 86, 4, 87, 18, 88, 89, 90, 91, 92, 93, 94, 19, 95, 96, 97, 26, 27, 23, 24, 25, 155, 156, 157, 158, 159, 160, 161, 162, 163, 164, 165, 166, 167, 168] (by decide +kernel) (by decide +kernel)) (goodIn_sub (fun _ h => List.mem_cons_of_mem _ (List.mem_append_left _ (List.mem_append_left _ (List.mem_append_right _ h)))) (by decide +kernel))) (goodIn_sub (fun _ h => List.mem_cons_of_mem _ (List.mem_append_left _ (List.mem_append_left _ (List.mem_append_left _ (List.mem_append_right _ h))))) (by decide +kernel))
set_option maxRecDepth 20000 in
theorem gL_parts_L_tells : GoodIn wsL_parts (va_wsS RL 102 yL_tells wsL_tells) := goodIn_app (goodIn_of _ (by decide +kernel)) ggL_parts_L_tells
set_option maxRecDepth 20000 in
theorem ggL_parts_L_counts : GoodIn wsL_parts wsL_counts := goodIn_ca (goodIn_ca (goodIn_r _ [100, 82, 11, 83, 12, 101, 102, 103, 4, 104, 18, 105, 89, 90, 91, 92, 93, 94, 19, 20, 21, 22, 23, 24, 25, 26, 27, 106, 38, 39, 40, 41, 42, 43, 44, 45, 155, 156, 157, 158, 159, 160, 161, 162, 163, 164, 165, 166, 167, 168, 172, 173] (by decide +kernel) (by decide +kernel)) (goodIn_sub (fun _ h => List.mem_cons_of_mem _ (List.mem_append_left _ (List.mem_append_left _ (List.mem_append_right _ h)))) (by decide +kernel))) (goodIn_sub (fun _ h => List.mem_cons_of_mem _ (List.mem_append_left _ (List.mem_append_left _ (List.mem_append_left _ (List.mem_append_right _ h))))) (by decide +kernel))
set_option maxRecDepth 20000 in
theorem gL_parts_L_counts : GoodIn wsL_parts (va_wsS RL 106 yL_counts wsL_counts) := goodIn_app (goodIn_of _ (by decide +kernel)) ggL_parts_L_counts
set_option maxRecDepth 20000 in
theorem ggL_parts_L_thing : GoodIn wsL_parts wsL_thing := goodIn_ca (goodIn_ca (goodIn_ca (goodIn_r _ [109, 82, 11, 110, 83, 12, 111, 112, 113, 114, 4, 115, 17, 116, 89, 90, 91, 92, 93, 94, 18, 19, 20, 21, 22, 23, 24, 25, 26, 27, 28, 29, 30, 31, 32, 33, 34, 35, 36, 37, 38, 39, 40, 41, 42, 43, 44, 45, 46, 47, 48, 49, 50, 51, 52, 53, 54, 55, 56, 57, 58, 59, 60, 61, 62, 63, 64, 65, 66, 67, 68, 69, 70, 71, 72, 73, 74, 117, 118, 119, 120, 121, 122, 155, 156, 157, 158, 159, 160, 161, 169, 170, 171, 162, 163, 164, 165, 166, 167, 168, 172, 173] (by decide +kernel) (by decide +kernel)) (goodIn_sub (fun _ h => List.mem_cons_of_mem _ (List.mem_append_left _ (List.mem_append_left _ (List.mem_append_right _ h)))) (by decide +kernel))) (goodIn_sub (fun _ h => List.mem_cons_of_mem _ (List.mem_append_left _ (List.mem_append_left _ (List.mem_append_left _ (List.mem_append_right _ h))))) (by decide +kernel))) (goodIn_sub (fun _ h => List.mem_cons_of_mem _ (List.mem_append_left _ (List.mem_append_right _ h))) (by decide +kernel))
set_option maxRecDepth 20000 in
theorem gL_parts_L_thing : GoodIn wsL_parts (va_wsS RL 110 yL_thing wsL_thing) := goodIn_app (goodIn_of _ (by decide +kernel)) ggL_parts_L_thing
set_option maxRecDepth 20000 in
theorem ggL_parts_L_passes : GoodIn wsL_parts wsL_passes := goodIn_ca (goodIn_ca (goodIn_r _ [125, 11, 126, 12, 127, 128, 129, 130, 4, 131, 132, 133, 6, 23, 24, 25, 26, 27, 155, 156, 157, 158, 159, 160, 161] (by decide +kernel) (by decide +kernel)) (goodIn_sub (fun _ h => List.mem_cons_of_mem _ (List.mem_append_right _ h)) (by decide +kernel))) (goodIn_sub (fun _ h => List.mem_cons_of_mem _ (List.mem_append_left _ (List.mem_append_left _ (List.mem_append_left _ (List.mem_append_right _ h))))) (by decide +kernel))
set_option maxRecDepth 20000 in
theorem gL_parts_L_passes : GoodIn wsL_parts (va_wsS RL 82 yL_passes wsL_passes) := goodIn_app (goodIn_of _ (by decide +kernel)) ggL_parts_L_passes
set_option maxRecDepth 20000 in
theorem ggL_parts_L_finds : GoodIn wsL_parts wsL_finds := goodIn_ca (goodIn_ca (goodIn_r _ [136, 11, 126, 12, 127, 137, 138, 139, 4, 140, 132, 133, 18, 19, 6, 23, 24, 25, 26, 27, 141, 142, 143, 40, 144, 145, 45, 43, 146, 147, 148, 149, 59, 150, 151, 152, 153, 154, 155, 156, 157, 158, 159, 160, 161, 162, 163, 164, 165, 166, 167, 168] (by decide +kernel) (by decide +kernel)) (goodIn_sub (fun _ h => List.mem_cons_of_mem _ (List.mem_append_right _ h)) (by decide +kernel))) (goodIn_sub (fun _ h => List.mem_cons_of_mem _ (List.mem_append_left _ (List.mem_append_left _ (List.mem_append_left _ (List.mem_append_right _ h))))) (by decide +kernel))
set_option maxRecDepth 20000 in
theorem gL_parts_L_finds : GoodIn wsL_parts (va_wsS RL 95 yL_finds wsL_finds) := goodIn_app (goodIn_of _ (by decide +kernel)) ggL_parts_L_finds
theorem dL_parts_0 : decode cL_parts 0 = .ok (.aload_n 0, 1) := by decide +kernel
theorem dL_parts_1 : decode cL_parts 1 = .ok (.invokevirtual 133, 3) := by decide +kernel
theorem dL_parts_4 : decode cL_parts 4 = .ok (.istore_n 3, 1) := by decide +kernel
theorem dL_parts_5 : decode cL_parts 5 = .ok (.iload_n 2, 1) := by decide +kernel
theorem dL_parts_6 : decode cL_parts 6 = .ok (.aload_n 1, 1) := by decide +kernel
theorem dL_parts_7 : decode cL_parts 7 = .ok (.iconst 0, 1) := by decide +kernel
theorem dL_parts_8 : decode cL_parts 8 = .ok (.iaload, 1) := by decide +kernel
theorem dL_parts_9 : decode cL_parts 9 = .ok (.irem, 1) := by decide +kernel
theorem dL_parts_10 : decode cL_parts 10 = .ok (.istore 4, 2) := by decide +kernel
theorem dL_parts_12 : decode cL_parts 12 = .ok (.iload 4, 2) := by decide +kernel
theorem dL_parts_14 : decode cL_parts 14 = .ok (.iconst 1, 1) := by decide +kernel
theorem dL_parts_15 : decode cL_parts 15 = .ok (.iadd, 1) := by decide +kernel
theorem dL_parts_16 : decode cL_parts 16 = .ok (.iload_n 2, 1) := by decide +kernel
theorem dL_parts_17 : decode cL_parts 17 = .ok (.bipush 32, 2) := by decide +kernel
theorem dL_parts_19 : decode cL_parts 19 = .ok (.idiv, 1) := by decide +kernel
theorem dL_parts_20 : decode cL_parts 20 = .ok (.aload_n 1, 1) := by decide +kernel
theorem dL_parts_21 : decode cL_parts 21 = .ok (.iconst 0, 1) := by decide +kernel
theorem dL_parts_22 : decode cL_parts 22 = .ok (.iaload, 1) := by decide +kernel
theorem dL_parts_23 : decode cL_parts 23 = .ok (.iconst 1, 1) := by decide +kernel
theorem dL_parts_24 : decode cL_parts 24 = .ok (.isub, 1) := by decide +kernel
theorem dL_parts_25 : decode cL_parts 25 = .ok (.irem, 1) := by decide +kernel
theorem dL_parts_26 : decode cL_parts 26 = .ok (.iadd, 1) := by decide +kernel
theorem dL_parts_27 : decode cL_parts 27 = .ok (.aload_n 1, 1) := by decide +kernel
theorem dL_parts_28 : decode cL_parts 28 = .ok (.iconst 0, 1) := by decide +kernel
theorem dL_parts_29 : decode cL_parts 29 = .ok (.iaload, 1) := by decide +kernel
theorem dL_parts_30 : decode cL_parts 30 = .ok (.irem, 1) := by decide +kernel
theorem dL_parts_31 : decode cL_parts 31 = .ok (.istore 5, 2) := by decide +kernel
theorem dL_parts_33 : decode cL_parts 33 = .ok (.aload_n 0, 1) := by decide +kernel
theorem dL_parts_34 : decode cL_parts 34 = .ok (.iload_n 3, 1) := by decide +kernel
theorem dL_parts_35 : decode cL_parts 35 = .ok (.invokestatic 108, 3) := by decide +kernel
theorem dL_parts_38 : decode cL_parts 38 = .ok (.istore 6, 2) := by decide +kernel
theorem dL_parts_40 : decode cL_parts 40 = .ok (.aload_n 0, 1) := by decide +kernel
theorem dL_parts_41 : decode cL_parts 41 = .ok (.iload 4, 2) := by decide +kernel
theorem dL_parts_43 : decode cL_parts 43 = .ok (.iload 5, 2) := by decide +kernel
theorem dL_parts_45 : decode cL_parts 45 = .ok (.iconst 1, 1) := by decide +kernel
theorem dL_parts_46 : decode cL_parts 46 = .ok (.invokestatic 102, 3) := by decide +kernel
theorem dL_parts_49 : decode cL_parts 49 = .ok (.istore 7, 2) := by decide +kernel
theorem dL_parts_51 : decode cL_parts 51 = .ok (.aload_n 0, 1) := by decide +kernel
theorem dL_parts_52 : decode cL_parts 52 = .ok (.iload 4, 2) := by decide +kernel
theorem dL_parts_54 : decode cL_parts 54 = .ok (.iload_n 3, 1) := by decide +kernel
theorem dL_parts_55 : decode cL_parts 55 = .ok (.invokestatic 106, 3) := by decide +kernel
theorem dL_parts_58 : decode cL_parts 58 = .ok (.iconst 1, 1) := by decide +kernel
theorem dL_parts_59 : decode cL_parts 59 = .ok (.if_icmp .ne 18, 3) := by decide +kernel
theorem dL_parts_62 : decode cL_parts 62 = .ok (.aload_n 0, 1) := by decide +kernel
theorem dL_parts_63 : decode cL_parts 63 = .ok (.iload 5, 2) := by decide +kernel
theorem dL_parts_65 : decode cL_parts 65 = .ok (.iload_n 3, 1) := by decide +kernel
theorem dL_parts_66 : decode cL_parts 66 = .ok (.invokestatic 106, 3) := by decide +kernel
theorem dL_parts_69 : decode cL_parts 69 = .ok (.iconst 1, 1) := by decide +kernel
theorem dL_parts_70 : decode cL_parts 70 = .ok (.if_icmp .ne 7, 3) := by decide +kernel
theorem dL_parts_73 : decode cL_parts 73 = .ok (.iconst 1, 1) := by decide +kernel
theorem dL_parts_74 : decode cL_parts 74 = .ok (.goto 4, 3) := by decide +kernel
theorem dL_parts_77 : decode cL_parts 77 = .ok (.iconst 0, 1) := by decide +kernel
theorem dL_parts_78 : decode cL_parts 78 = .ok (.istore 8, 2) := by decide +kernel
theorem dL_parts_80 : decode cL_parts 80 = .ok (.iload 7, 2) := by decide +kernel
theorem dL_parts_82 : decode cL_parts 82 = .ok (.ifCond .lt 80, 3) := by decide +kernel
theorem dL_parts_85 : decode cL_parts 85 = .ok (.iload 7, 2) := by decide +kernel
theorem dL_parts_87 : decode cL_parts 87 = .ok (.iconst 2, 1) := by decide +kernel
theorem dL_parts_88 : decode cL_parts 88 = .ok (.if_icmp .gt 74, 3) := by decide +kernel
theorem dL_parts_91 : decode cL_parts 91 = .ok (.iload 8, 2) := by decide +kernel
theorem dL_parts_93 : decode cL_parts 93 = .ok (.ifCond .eq 20, 3) := by decide +kernel
theorem dL_parts_96 : decode cL_parts 96 = .ok (.aload_n 0, 1) := by decide +kernel
theorem dL_parts_97 : decode cL_parts 97 = .ok (.iload 4, 2) := by decide +kernel
theorem dL_parts_99 : decode cL_parts 99 = .ok (.iload_n 3, 1) := by decide +kernel
theorem dL_parts_100 : decode cL_parts 100 = .ok (.invokestatic 110, 3) := by decide +kernel
theorem dL_parts_103 : decode cL_parts 103 = .ok (.aload_n 0, 1) := by decide +kernel
theorem dL_parts_104 : decode cL_parts 104 = .ok (.iload 5, 2) := by decide +kernel
theorem dL_parts_106 : decode cL_parts 106 = .ok (.iload_n 3, 1) := by decide +kernel
theorem dL_parts_107 : decode cL_parts 107 = .ok (.invokestatic 110, 3) := by decide +kernel
theorem dL_parts_110 : decode cL_parts 110 = .ok (.if_icmp .ne 52, 3) := by decide +kernel
theorem dL_parts_113 : decode cL_parts 113 = .ok (.aload_n 0, 1) := by decide +kernel
theorem dL_parts_114 : decode cL_parts 114 = .ok (.iload_n 3, 1) := by decide +kernel
theorem dL_parts_115 : decode cL_parts 115 = .ok (.invokestatic 108, 3) := by decide +kernel
theorem dL_parts_118 : decode cL_parts 118 = .ok (.iload 6, 2) := by decide +kernel
theorem dL_parts_120 : decode cL_parts 120 = .ok (.if_icmp .gt 42, 3) := by decide +kernel
theorem dL_parts_123 : decode cL_parts 123 = .ok (.aload_n 0, 1) := by decide +kernel
theorem dL_parts_124 : decode cL_parts 124 = .ok (.iload 5, 2) := by decide +kernel
theorem dL_parts_126 : decode cL_parts 126 = .ok (.iload 4, 2) := by decide +kernel
theorem dL_parts_128 : decode cL_parts 128 = .ok (.iconst 2, 1) := by decide +kernel
theorem dL_parts_129 : decode cL_parts 129 = .ok (.invokestatic 102, 3) := by decide +kernel
theorem dL_parts_132 : decode cL_parts 132 = .ok (.iconst 1, 1) := by decide +kernel
theorem dL_parts_133 : decode cL_parts 133 = .ok (.if_icmp .ne 29, 3) := by decide +kernel
theorem dL_parts_136 : decode cL_parts 136 = .ok (.aload_n 0, 1) := by decide +kernel
theorem dL_parts_137 : decode cL_parts 137 = .ok (.iload_n 3, 1) := by decide +kernel
theorem dL_parts_138 : decode cL_parts 138 = .ok (.invokestatic 108, 3) := by decide +kernel
theorem dL_parts_141 : decode cL_parts 141 = .ok (.ifCond .lt 21, 3) := by decide +kernel
theorem dL_parts_144 : decode cL_parts 144 = .ok (.aload_n 0, 1) := by decide +kernel
theorem dL_parts_145 : decode cL_parts 145 = .ok (.iload 4, 2) := by decide +kernel
theorem dL_parts_147 : decode cL_parts 147 = .ok (.iload 5, 2) := by decide +kernel
theorem dL_parts_149 : decode cL_parts 149 = .ok (.iload 7, 2) := by decide +kernel
theorem dL_parts_151 : decode cL_parts 151 = .ok (.invokestatic 102, 3) := by decide +kernel
theorem dL_parts_154 : decode cL_parts 154 = .ok (.iconst 2, 1) := by decide +kernel
theorem dL_parts_155 : decode cL_parts 155 = .ok (.if_icmp .ne 7, 3) := by decide +kernel
theorem dL_parts_158 : decode cL_parts 158 = .ok (.iconst 1, 1) := by decide +kernel
theorem dL_parts_159 : decode cL_parts 159 = .ok (.goto 4, 3) := by decide +kernel
theorem dL_parts_162 : decode cL_parts 162 = .ok (.iconst 0, 1) := by decide +kernel
theorem dL_parts_163 : decode cL_parts 163 = .ok (.istore 9, 2) := by decide +kernel
theorem dL_parts_165 : decode cL_parts 165 = .ok (.aload_n 0, 1) := by decide +kernel
theorem dL_parts_166 : decode cL_parts 166 = .ok (.iload_n 3, 1) := by decide +kernel
theorem dL_parts_167 : decode cL_parts 167 = .ok (.invokestatic 108, 3) := by decide +kernel
theorem dL_parts_170 : decode cL_parts 170 = .ok (.istore 10, 2) := by decide +kernel
theorem dL_parts_172 : decode cL_parts 172 = .ok (.aload_n 0, 1) := by decide +kernel
theorem dL_parts_173 : decode cL_parts 173 = .ok (.iconst 3, 1) := by decide +kernel
theorem dL_parts_174 : decode cL_parts 174 = .ok (.invokestatic 82, 3) := by decide +kernel
theorem dL_parts_177 : decode cL_parts 177 = .ok (.istore 11, 2) := by decide +kernel
theorem dL_parts_179 : decode cL_parts 179 = .ok (.aload_n 0, 1) := by decide +kernel
theorem dL_parts_180 : decode cL_parts 180 = .ok (.iload_n 3, 1) := by decide +kernel
theorem dL_parts_181 : decode cL_parts 181 = .ok (.invokestatic 108, 3) := by decide +kernel
theorem dL_parts_184 : decode cL_parts 184 = .ok (.istore 12, 2) := by decide +kernel
theorem dL_parts_186 : decode cL_parts 186 = .ok (.iload 9, 2) := by decide +kernel
theorem dL_parts_188 : decode cL_parts 188 = .ok (.ifCond .eq 89, 3) := by decide +kernel
theorem dL_parts_191 : decode cL_parts 191 = .ok (.iload 10, 2) := by decide +kernel
theorem dL_parts_193 : decode cL_parts 193 = .ok (.iload 6, 2) := by decide +kernel
theorem dL_parts_195 : decode cL_parts 195 = .ok (.if_icmp .ne 82, 3) := by decide +kernel
theorem dL_parts_198 : decode cL_parts 198 = .ok (.iload 12, 2) := by decide +kernel
theorem dL_parts_200 : decode cL_parts 200 = .ok (.iload 6, 2) := by decide +kernel
theorem dL_parts_202 : decode cL_parts 202 = .ok (.if_icmp .ne 75, 3) := by decide +kernel
theorem dL_parts_205 : decode cL_parts 205 = .ok (.iload 11, 2) := by decide +kernel
theorem dL_parts_207 : decode cL_parts 207 = .ok (.ifCond .lt 66, 3) := by decide +kernel
theorem dL_parts_210 : decode cL_parts 210 = .ok (.aload_n 1, 1) := by decide +kernel
theorem dL_parts_211 : decode cL_parts 211 = .ok (.iconst 0, 1) := by decide +kernel
theorem dL_parts_212 : decode cL_parts 212 = .ok (.iaload, 1) := by decide +kernel
theorem dL_parts_213 : decode cL_parts 213 = .ok (.bipush 60, 2) := by decide +kernel
theorem dL_parts_215 : decode cL_parts 215 = .ok (.if_icmp .eq 58, 3) := by decide +kernel
theorem dL_parts_218 : decode cL_parts 218 = .ok (.aload_n 0, 1) := by decide +kernel
theorem dL_parts_219 : decode cL_parts 219 = .ok (.iload_n 2, 1) := by decide +kernel
theorem dL_parts_220 : decode cL_parts 220 = .ok (.iconst 4, 1) := by decide +kernel
theorem dL_parts_221 : decode cL_parts 221 = .ok (.irem, 1) := by decide +kernel
theorem dL_parts_222 : decode cL_parts 222 = .ok (.bipush 98, 2) := by decide +kernel
theorem dL_parts_224 : decode cL_parts 224 = .ok (.bipush 97, 2) := by decide +kernel
theorem dL_parts_226 : decode cL_parts 226 = .ok (.bipush 96, 2) := by decide +kernel
theorem dL_parts_228 : decode cL_parts 228 = .ok (.iconst (-1), 1) := by decide +kernel
theorem dL_parts_229 : decode cL_parts 229 = .ok (.iconst (-1), 1) := by decide +kernel
theorem dL_parts_230 : decode cL_parts 230 = .ok (.invokestatic 95, 3) := by decide +kernel
theorem dL_parts_233 : decode cL_parts 233 = .ok (.aload_n 1, 1) := by decide +kernel
theorem dL_parts_234 : decode cL_parts 234 = .ok (.iconst 0, 1) := by decide +kernel
theorem dL_parts_235 : decode cL_parts 235 = .ok (.iaload, 1) := by decide +kernel
theorem dL_parts_236 : decode cL_parts 236 = .ok (.if_icmp .ne 41, 3) := by decide +kernel
theorem dL_parts_239 : decode cL_parts 239 = .ok (.aload_n 0, 1) := by decide +kernel
theorem dL_parts_240 : decode cL_parts 240 = .ok (.iload_n 3, 1) := by decide +kernel
theorem dL_parts_241 : decode cL_parts 241 = .ok (.invokestatic 108, 3) := by decide +kernel
theorem dL_parts_244 : decode cL_parts 244 = .ok (.iload 6, 2) := by decide +kernel
theorem dL_parts_246 : decode cL_parts 246 = .ok (.if_icmp .ne 31, 3) := by decide +kernel
theorem dL_parts_249 : decode cL_parts 249 = .ok (.aload_n 0, 1) := by decide +kernel
theorem dL_parts_250 : decode cL_parts 250 = .ok (.aload_n 1, 1) := by decide +kernel
theorem dL_parts_251 : decode cL_parts 251 = .ok (.iconst 0, 1) := by decide +kernel
theorem dL_parts_252 : decode cL_parts 252 = .ok (.iaload, 1) := by decide +kernel
theorem dL_parts_253 : decode cL_parts 253 = .ok (.iload_n 3, 1) := by decide +kernel
theorem dL_parts_254 : decode cL_parts 254 = .ok (.invokestatic 106, 3) := by decide +kernel
theorem dL_parts_257 : decode cL_parts 257 = .ok (.ifCond .ne 20, 3) := by decide +kernel
theorem dL_parts_260 : decode cL_parts 260 = .ok (.aload_n 0, 1) := by decide +kernel
theorem dL_parts_261 : decode cL_parts 261 = .ok (.aload_n 1, 1) := by decide +kernel
theorem dL_parts_262 : decode cL_parts 262 = .ok (.iconst 0, 1) := by decide +kernel
theorem dL_parts_263 : decode cL_parts 263 = .ok (.iaload, 1) := by decide +kernel
theorem dL_parts_264 : decode cL_parts 264 = .ok (.iload 11, 2) := by decide +kernel
theorem dL_parts_266 : decode cL_parts 266 = .ok (.invokestatic 106, 3) := by decide +kernel
theorem dL_parts_269 : decode cL_parts 269 = .ok (.iconst 1, 1) := by decide +kernel
theorem dL_parts_270 : decode cL_parts 270 = .ok (.if_icmp .ne 7, 3) := by decide +kernel
theorem dL_parts_273 : decode cL_parts 273 = .ok (.iconst 1, 1) := by decide +kernel
theorem dL_parts_274 : decode cL_parts 274 = .ok (.goto 4, 3) := by decide +kernel
theorem dL_parts_277 : decode cL_parts 277 = .ok (.iconst 0, 1) := by decide +kernel
theorem dL_parts_278 : decode cL_parts 278 = .ok (.ireturn, 1) := by decide +kernel
set_option maxRecDepth 20000 in
theorem ggL_law_X5_init : GoodIn wsL_law wsX5_init := goodIn_r _ [6, 7, 8, 9, 10, 11, 12, 13, 14, 15, 16, 17, 18, 19, 20, 21, 22, 23, 24, 25, 26, 27, 28, 29, 30, 31, 32, 33, 34, 35, 3, 36, 37, 38, 39, 40, 41, 42, 43, 44, 45, 46, 47, 48, 49, 50, 51, 52, 53, 54, 55, 56, 57, 58, 59, 60, 61, 62, 63, 64, 65, 66, 67, 68, 69, 70, 71, 72, 381, 382, 383, 384, 385, 386, 387, 388, 389, 390, 391, 392, 393, 394, 395, 396, 397, 398, 399, 400, 401, 402, 403, 404, 405, 406, 407, 408, 409] (by decide +kernel) (by decide +kernel)
set_option maxRecDepth 20000 in
theorem gL_law_X5_init : GoodIn wsL_law (wsX5_init) := ggL_law_X5_init
set_option maxRecDepth 20000 in
theorem ggL_law_L_drawn : GoodIn wsL_law wsL_drawn := goodIn_r _ [76, 77, 78] (by decide +kernel) (by decide +kernel)
set_option maxRecDepth 20000 in
theorem gL_law_L_drawn : GoodIn wsL_law (va_wsS RL 138 yL_drawn wsL_drawn) := goodIn_app (goodIn_of _ (by decide +kernel)) ggL_law_L_drawn
set_option maxRecDepth 20000 in
theorem ggL_law_L_act : GoodIn wsL_law wsL_act := goodIn_ca (goodIn_ca (goodIn_ca (goodIn_r _ [81, 82, 83, 75, 84, 85, 86, 87, 88, 89, 90, 91, 2, 92, 93, 94, 18, 95, 10, 96, 97, 98, 99, 100, 101, 102, 103, 17, 104, 41, 42, 43, 105, 106, 107, 108, 47, 109, 110, 111, 112, 48, 113, 114, 115, 116, 117, 118, 119, 120, 121, 122, 123, 124, 125, 126, 14, 127, 128, 129, 130, 131, 132, 133, 134, 135, 136, 137, 13, 138, 37, 139, 140, 141, 142, 143, 144, 145, 146, 147, 148, 149, 150, 151, 152, 153, 154, 155, 156, 157, 158, 159, 160, 161, 162, 163, 164, 165, 166, 167, 168, 169, 170, 171, 172, 173, 174, 175, 176, 22, 177, 178, 179, 180, 21, 181, 54, 53, 55, 56, 182, 183, 184, 185, 186, 187, 188, 26, 189, 190, 191, 192, 193, 194, 195, 25, 196, 61, 62, 63, 64, 65, 381, 382, 383, 384, 385, 386, 387, 390, 391, 392, 393, 394, 395, 396, 388, 389, 397, 398, 399, 400, 401, 402, 403, 404, 405, 406] (by decide +kernel) (by decide +kernel)) (goodIn_sub (fun _ h => List.mem_append_left _ (List.mem_append_left _ (List.mem_append_left _ (List.mem_append_right _ h)))) (by decide +kernel))) (goodIn_sub (fun _ h => List.mem_append_left _ (List.mem_append_left _ (List.mem_append_right _ h))) (by decide +kernel))) (goodIn_sub (fun _ h => List.mem_append_left _ (List.mem_append_right _ h)) (by decide +kernel))
set_option maxRecDepth 20000 in
theorem gL_law_L_act : GoodIn wsL_law (va_wsS RL 142 yL_act wsL_act) := goodIn_app (goodIn_of _ (by decide +kernel)) ggL_law_L_act
set_option maxRecDepth 20000 in
theorem ggL_law_L_refuses : GoodIn wsL_law wsL_refuses := goodIn_ca (goodIn_ca (goodIn_ca (goodIn_ca (goodIn_hd 199 rfl (by decide +kernel) (goodIn_r _ [87, 143, 200, 113, 114, 75, 115, 85, 86, 88, 116, 117, 118, 2, 119, 93, 94, 10, 96, 97, 98, 99, 100, 120, 121, 122, 123, 124, 125, 126, 14, 127, 128, 129, 130, 131, 132, 133, 134, 135, 136, 137, 13, 138, 37, 82, 83, 84, 89, 90, 91, 92, 18, 95, 101, 102, 103, 17, 104, 41, 42, 43, 105, 106, 107, 108, 47, 109, 110, 111, 112, 48, 139, 140, 141, 142, 144, 145, 146, 147, 148, 149, 150, 151, 152, 153, 154, 159, 160, 161, 162, 163, 164, 165, 166, 167, 168, 169, 201, 202, 203, 204, 205, 206, 207, 208, 209, 210, 211, 212, 213, 214, 45, 215, 216, 217, 218, 219, 220, 221, 222, 30, 223, 224, 225, 29, 226, 71, 227, 70, 72, 228, 229, 230, 231, 232, 233, 234, 235, 236, 49, 237, 238, 239, 240, 241, 242, 243, 244, 245, 246, 247, 248, 249, 250, 251, 252, 253, 254, 255, 256, 257, 258, 259, 260, 261, 262, 263, 264, 265, 266, 267, 268, 269, 270, 271, 272, 273, 274, 275, 276, 277, 278, 279, 280, 281, 190, 191, 192, 282, 283, 284, 285, 286, 287, 288, 289, 290, 291, 292, 293, 294, 295, 296, 297, 298, 299, 300, 301, 302, 303, 304, 305, 306, 307, 170, 171, 172, 173, 174, 175, 176, 22, 177, 178, 179, 180, 21, 181, 54, 53, 55, 56, 308, 309, 310, 311, 312, 313, 314, 315, 316, 317, 318, 57, 319, 320, 321, 322, 323, 324, 325, 326, 327, 328, 329, 330, 331, 332, 333, 334, 335, 336, 337, 338, 339, 340, 341, 342, 343, 182, 183, 184, 185, 186, 187, 188, 26, 189, 193, 194, 195, 25, 196, 61, 62, 63, 64, 65, 344, 345, 346, 347, 348, 349, 350, 351, 352, 353, 354, 355, 356, 357, 358, 359, 360, 361, 362, 363, 364, 365, 366, 367, 31, 368, 369, 370, 371, 155, 156, 157, 158, 381, 382, 383, 384, 385, 386, 387, 388, 389, 390, 391, 392, 393, 394, 395, 396, 407, 408, 409, 397, 398, 399, 400, 401, 402, 403, 404, 405, 406] (by decide +kernel) (by decide +kernel))) (goodIn_sub (fun _ h => List.mem_append_left _ (List.mem_append_left _ (List.mem_append_left _ (List.mem_append_right _ h)))) (by decide +kernel))) (goodIn_sub (fun _ h => List.mem_append_left _ (List.mem_append_left _ (List.mem_append_right _ h))) (by decide +kernel))) (goodIn_sub (fun _ h => List.mem_append_left _ (List.mem_append_right _ h)) (by decide +kernel))) (goodIn_sub (fun _ h => List.mem_append_right _ h) (by decide +kernel))
set_option maxRecDepth 20000 in
theorem gL_law_L_refuses : GoodIn wsL_law (va_wsS RL 146 yL_refuses wsL_refuses) := goodIn_app (goodIn_of _ (by decide +kernel)) ggL_law_L_refuses
set_option maxRecDepth 20000 in
theorem ggL_law_L_alike : GoodIn wsL_law wsL_alike := goodIn_ca (goodIn_ca (goodIn_ca (goodIn_r _ [374, 155, 156, 157, 2, 158, 10, 216, 217, 75, 218, 85, 87, 219, 220, 221, 222, 30, 18, 95, 208, 209, 210, 96, 97, 98, 99, 100, 223, 224, 225, 29, 226, 71, 227, 70, 72, 228, 212, 213, 17, 214, 45, 43, 215, 42, 229, 230, 231, 232, 233, 234, 235, 236, 49, 237, 238, 239, 240, 47, 241, 242, 243, 244, 245, 246, 247, 248, 249, 250, 251, 252, 253, 254, 255, 256, 257, 258, 259, 297, 298, 299, 300, 301, 302, 303, 190, 191, 192, 304, 305, 306, 307, 286, 287, 288, 289, 290, 201, 202, 203, 142, 143, 204, 205, 206, 207, 14, 149, 150, 151, 152, 153, 154, 211, 260, 261, 262, 263, 200, 264, 265, 266, 267, 268, 269, 270, 271, 272, 273, 274, 275, 276, 277, 278, 279, 280, 281, 282, 283, 284, 285, 291, 292, 293, 294, 295, 296, 308, 309, 310, 311, 312, 313, 314, 22, 315, 316, 317, 21, 318, 57, 319, 320, 321, 322, 53, 323, 54, 56, 324, 325, 326, 327, 55, 328, 329, 330, 331, 332, 333, 334, 335, 344, 345, 346, 347, 348, 349, 350, 26, 189, 351, 352, 353, 25, 354, 62, 63, 64, 65, 355, 356, 357, 358, 359, 360, 381, 382, 383, 384, 385, 386, 387, 390, 391, 392, 393, 394, 395, 396, 407, 408, 409, 388, 389, 397, 398, 399, 400, 401, 402, 403, 404, 405, 406] (by decide +kernel) (by decide +kernel)) (goodIn_sub (fun _ h => List.mem_append_left _ (List.mem_append_left _ (List.mem_append_right _ h))) (by decide +kernel))) (goodIn_sub (fun _ h => List.mem_append_left _ (List.mem_append_right _ h)) (by decide +kernel))) (goodIn_sub (fun _ h => List.mem_append_right _ h) (by decide +kernel))
set_option maxRecDepth 20000 in
theorem gL_law_L_alike : GoodIn wsL_law (va_wsS RL 150 yL_alike wsL_alike) := goodIn_app (goodIn_of _ (by decide +kernel)) ggL_law_L_alike
set_option maxRecDepth 20000 in
theorem ggL_law_X5_today : GoodIn wsL_law wsX5_today := goodIn_r _ [158, 10, 381, 382, 383, 384, 385, 386, 387] (by decide +kernel) (by decide +kernel)
set_option maxRecDepth 20000 in
theorem gL_law_X5_today : GoodIn wsL_law (wsV RL 133 RX5 yX5_today wsX5_today) := goodIn_app (goodIn_of _ (by decide +kernel)) ggL_law_X5_today
set_option maxRecDepth 20000 in
theorem ggL_law_L_holds : GoodIn wsL_law wsL_holds := goodIn_ca (goodIn_ca (goodIn_ca (goodIn_r _ [377, 200, 260, 261, 75, 262, 142, 85, 263, 143, 87, 264, 265, 266, 2, 267, 30, 268, 149, 150, 151, 152, 153, 154, 18, 95, 208, 209, 210, 96, 97, 98, 99, 100, 223, 224, 225, 29, 226, 71, 227, 70, 72, 228, 212, 213, 17, 214, 45, 43, 215, 42, 229, 230, 231, 232, 233, 234, 235, 236, 49, 237, 238, 239, 240, 47, 241, 242, 243, 244, 245, 246, 247, 248, 249, 250, 251, 252, 253, 254, 255, 269, 270, 271, 272, 273, 274, 201, 202, 203, 204, 205, 206, 207, 14, 211, 275, 276, 277, 278, 279, 280, 281, 190, 191, 192, 282, 283, 284, 285, 286, 287, 288, 289, 290, 291, 292, 293, 294, 295, 296, 216, 217, 218, 219, 220, 221, 222, 256, 257, 258, 259, 297, 298, 299, 300, 301, 302, 303, 304, 305, 306, 307, 361, 362, 363, 364, 365, 366, 367, 31, 368, 369, 370, 371, 308, 309, 310, 311, 312, 313, 314, 22, 315, 316, 317, 21, 318, 57, 319, 320, 321, 322, 53, 323, 54, 56, 324, 325, 326, 327, 55, 328, 329, 330, 331, 332, 333, 334, 335, 336, 337, 338, 339, 340, 341, 342, 343, 381, 382, 383, 384, 385, 386, 387, 407, 408, 409, 390, 391, 392, 393, 394, 395, 396, 388, 389, 397, 398, 399, 400, 401] (by decide +kernel) (by decide +kernel)) (goodIn_sub (fun _ h => List.mem_append_left _ (List.mem_append_right _ h)) (by decide +kernel))) (goodIn_sub (fun _ h => List.mem_append_left _ (List.mem_append_left _ (List.mem_append_right _ h))) (by decide +kernel))) (goodIn_sub (fun _ h => List.mem_append_right _ h) (by decide +kernel))
set_option maxRecDepth 20000 in
theorem gL_law_L_holds : GoodIn wsL_law (va_wsS RL 154 yL_holds wsL_holds) := goodIn_app (goodIn_of _ (by decide +kernel)) ggL_law_L_holds
set_option maxRecDepth 20000 in
theorem ggL_law_L_parts : GoodIn wsL_law wsL_parts := goodIn_ca (goodIn_ca (goodIn_ca (goodIn_ca (goodIn_r _ [380, 155, 156, 157, 2, 158, 10, 216, 217, 75, 218, 85, 87, 219, 220, 221, 222, 30, 18, 95, 208, 209, 210, 96, 97, 98, 99, 100, 223, 224, 225, 29, 226, 71, 227, 70, 72, 228, 212, 213, 17, 214, 45, 43, 215, 42, 229, 230, 231, 232, 233, 234, 235, 236, 49, 237, 238, 239, 240, 47, 241, 242, 243, 244, 245, 246, 247, 248, 249, 250, 251, 252, 253, 254, 255, 256, 257, 258, 259, 159, 160, 161, 142, 143, 162, 163, 164, 165, 166, 149, 150, 151, 152, 153, 154, 167, 168, 169, 201, 202, 203, 204, 205, 206, 207, 14, 211, 260, 261, 262, 263, 200, 264, 265, 266, 267, 268, 269, 270, 271, 272, 273, 274, 113, 114, 115, 86, 88, 116, 117, 118, 119, 93, 94, 82, 83, 84, 89, 90, 91, 92, 101, 102, 103, 104, 41, 105, 106, 107, 108, 109, 110, 111, 112, 48, 381, 382, 383, 384, 385, 386, 387, 390, 391, 392, 393, 394, 395, 396, 407, 408, 409, 388, 389] (by decide +kernel) (by decide +kernel)) (goodIn_sub (fun _ h => List.mem_append_left _ (List.mem_append_left _ (List.mem_append_right _ h))) (by decide +kernel))) (goodIn_sub (fun _ h => List.mem_append_left _ (List.mem_append_right _ h)) (by decide +kernel))) (goodIn_sub (fun _ h => List.mem_append_right _ h) (by decide +kernel))) (goodIn_sub (fun _ h => List.mem_append_left _ (List.mem_append_left _ (List.mem_append_left _ (List.mem_append_right _ h)))) (by decide +kernel))
set_option maxRecDepth 20000 in
theorem gL_law_L_parts : GoodIn wsL_law (va_wsS RL 158 yL_parts wsL_parts) := goodIn_app (goodIn_of _ (by decide +kernel)) ggL_law_L_parts
theorem dL_law_0 : decode cL_law 0 = .ok (.new 8, 3) := by decide +kernel
theorem dL_law_3 : decode cL_law 3 = .ok (.dup, 1) := by decide +kernel
theorem dL_law_4 : decode cL_law 4 = .ok (.invokespecial 137, 3) := by decide +kernel
theorem dL_law_7 : decode cL_law 7 = .ok (.astore_n 1, 1) := by decide +kernel
theorem dL_law_8 : decode cL_law 8 = .ok (.new 8, 3) := by decide +kernel
theorem dL_law_11 : decode cL_law 11 = .ok (.dup, 1) := by decide +kernel
theorem dL_law_12 : decode cL_law 12 = .ok (.invokespecial 137, 3) := by decide +kernel
theorem dL_law_15 : decode cL_law 15 = .ok (.astore_n 2, 1) := by decide +kernel
theorem dL_law_16 : decode cL_law 16 = .ok (.iconst 3, 1) := by decide +kernel
theorem dL_law_17 : decode cL_law 17 = .ok (.newarray .int, 2) := by decide +kernel
theorem dL_law_19 : decode cL_law 19 = .ok (.astore_n 3, 1) := by decide +kernel
theorem dL_law_20 : decode cL_law 20 = .ok (.bipush 16, 2) := by decide +kernel
theorem dL_law_22 : decode cL_law 22 = .ok (.aload_n 0, 1) := by decide +kernel
theorem dL_law_23 : decode cL_law 23 = .ok (.iconst 0, 1) := by decide +kernel
theorem dL_law_24 : decode cL_law 24 = .ok (.invokestatic 138, 3) := by decide +kernel
theorem dL_law_27 : decode cL_law 27 = .ok (.bipush 29, 2) := by decide +kernel
theorem dL_law_29 : decode cL_law 29 = .ok (.irem, 1) := by decide +kernel
theorem dL_law_30 : decode cL_law 30 = .ok (.iadd, 1) := by decide +kernel
theorem dL_law_31 : decode cL_law 31 = .ok (.istore 4, 2) := by decide +kernel
theorem dL_law_33 : decode cL_law 33 = .ok (.iconst 1, 1) := by decide +kernel
theorem dL_law_34 : decode cL_law 34 = .ok (.istore 5, 2) := by decide +kernel
theorem dL_law_36 : decode cL_law 36 = .ok (.iconst 0, 1) := by decide +kernel
theorem dL_law_37 : decode cL_law 37 = .ok (.istore 6, 2) := by decide +kernel
theorem dL_law_39 : decode cL_law 39 = .ok (.iload 6, 2) := by decide +kernel
theorem dL_law_41 : decode cL_law 41 = .ok (.iload 4, 2) := by decide +kernel
theorem dL_law_43 : decode cL_law 43 = .ok (.if_icmp .ge 248, 3) := by decide +kernel
theorem dL_law_46 : decode cL_law 46 = .ok (.iload 5, 2) := by decide +kernel
theorem dL_law_48 : decode cL_law 48 = .ok (.ifCond .eq 243, 3) := by decide +kernel
theorem dL_law_51 : decode cL_law 51 = .ok (.aload_n 0, 1) := by decide +kernel
theorem dL_law_52 : decode cL_law 52 = .ok (.iconst 1, 1) := by decide +kernel
theorem dL_law_53 : decode cL_law 53 = .ok (.iload 6, 2) := by decide +kernel
theorem dL_law_55 : decode cL_law 55 = .ok (.iadd, 1) := by decide +kernel
theorem dL_law_56 : decode cL_law 56 = .ok (.invokestatic 138, 3) := by decide +kernel
theorem dL_law_59 : decode cL_law 59 = .ok (.istore 7, 2) := by decide +kernel
theorem dL_law_61 : decode cL_law 61 = .ok (.iload 6, 2) := by decide +kernel
theorem dL_law_63 : decode cL_law 63 = .ok (.iconst 5, 1) := by decide +kernel
theorem dL_law_64 : decode cL_law 64 = .ok (.if_icmp .ge 14, 3) := by decide +kernel
theorem dL_law_67 : decode cL_law 67 = .ok (.iload 7, 2) := by decide +kernel
theorem dL_law_69 : decode cL_law 69 = .ok (.bipush 16, 2) := by decide +kernel
theorem dL_law_71 : decode cL_law 71 = .ok (.idiv, 1) := by decide +kernel
theorem dL_law_72 : decode cL_law 72 = .ok (.bipush 16, 2) := by decide +kernel
theorem dL_law_74 : decode cL_law 74 = .ok (.imul, 1) := by decide +kernel
theorem dL_law_75 : decode cL_law 75 = .ok (.goto 5, 3) := by decide +kernel
theorem dL_law_78 : decode cL_law 78 = .ok (.iload 7, 2) := by decide +kernel
theorem dL_law_80 : decode cL_law 80 = .ok (.istore 7, 2) := by decide +kernel
theorem dL_law_82 : decode cL_law 82 = .ok (.aload_n 1, 1) := by decide +kernel
theorem dL_law_83 : decode cL_law 83 = .ok (.aload_n 3, 1) := by decide +kernel
theorem dL_law_84 : decode cL_law 84 = .ok (.iload 7, 2) := by decide +kernel
theorem dL_law_86 : decode cL_law 86 = .ok (.invokestatic 142, 3) := by decide +kernel
theorem dL_law_89 : decode cL_law 89 = .ok (.istore 8, 2) := by decide +kernel
theorem dL_law_91 : decode cL_law 91 = .ok (.aload_n 2, 1) := by decide +kernel
theorem dL_law_92 : decode cL_law 92 = .ok (.aload_n 3, 1) := by decide +kernel
theorem dL_law_93 : decode cL_law 93 = .ok (.iload 7, 2) := by decide +kernel
theorem dL_law_95 : decode cL_law 95 = .ok (.sipush 9973, 3) := by decide +kernel
theorem dL_law_98 : decode cL_law 98 = .ok (.irem, 1) := by decide +kernel
theorem dL_law_99 : decode cL_law 99 = .ok (.invokestatic 146, 3) := by decide +kernel
theorem dL_law_102 : decode cL_law 102 = .ok (.ifCond .eq 19, 3) := by decide +kernel
theorem dL_law_105 : decode cL_law 105 = .ok (.aload_n 2, 1) := by decide +kernel
theorem dL_law_106 : decode cL_law 106 = .ok (.aload_n 3, 1) := by decide +kernel
theorem dL_law_107 : decode cL_law 107 = .ok (.iload 7, 2) := by decide +kernel
theorem dL_law_109 : decode cL_law 109 = .ok (.invokestatic 142, 3) := by decide +kernel
theorem dL_law_112 : decode cL_law 112 = .ok (.iload 8, 2) := by decide +kernel
theorem dL_law_114 : decode cL_law 114 = .ok (.if_icmp .ne 7, 3) := by decide +kernel
theorem dL_law_117 : decode cL_law 117 = .ok (.iconst 1, 1) := by decide +kernel
theorem dL_law_118 : decode cL_law 118 = .ok (.goto 4, 3) := by decide +kernel
theorem dL_law_121 : decode cL_law 121 = .ok (.iconst 0, 1) := by decide +kernel
theorem dL_law_122 : decode cL_law 122 = .ok (.istore 5, 2) := by decide +kernel
theorem dL_law_124 : decode cL_law 124 = .ok (.aload_n 3, 1) := by decide +kernel
theorem dL_law_125 : decode cL_law 125 = .ok (.iconst 0, 1) := by decide +kernel
theorem dL_law_126 : decode cL_law 126 = .ok (.dup2, 1) := by decide +kernel
theorem dL_law_127 : decode cL_law 127 = .ok (.iaload, 1) := by decide +kernel
theorem dL_law_128 : decode cL_law 128 = .ok (.iload 7, 2) := by decide +kernel
theorem dL_law_130 : decode cL_law 130 = .ok (.bipush 16, 2) := by decide +kernel
theorem dL_law_132 : decode cL_law 132 = .ok (.irem, 1) := by decide +kernel
theorem dL_law_133 : decode cL_law 133 = .ok (.bipush 6, 2) := by decide +kernel
theorem dL_law_135 : decode cL_law 135 = .ok (.if_icmp .ge 12, 3) := by decide +kernel
theorem dL_law_138 : decode cL_law 138 = .ok (.iload 8, 2) := by decide +kernel
theorem dL_law_140 : decode cL_law 140 = .ok (.ifCond .lt 7, 3) := by decide +kernel
theorem dL_law_143 : decode cL_law 143 = .ok (.iconst 1, 1) := by decide +kernel
theorem dL_law_144 : decode cL_law 144 = .ok (.goto 4, 3) := by decide +kernel
theorem dL_law_147 : decode cL_law 147 = .ok (.iconst 0, 1) := by decide +kernel
theorem dL_law_148 : decode cL_law 148 = .ok (.iadd, 1) := by decide +kernel
theorem dL_law_149 : decode cL_law 149 = .ok (.iastore, 1) := by decide +kernel
theorem dL_law_150 : decode cL_law 150 = .ok (.aload_n 3, 1) := by decide +kernel
theorem dL_law_151 : decode cL_law 151 = .ok (.iconst 1, 1) := by decide +kernel
theorem dL_law_152 : decode cL_law 152 = .ok (.dup2, 1) := by decide +kernel
theorem dL_law_153 : decode cL_law 153 = .ok (.iaload, 1) := by decide +kernel
theorem dL_law_154 : decode cL_law 154 = .ok (.iload 7, 2) := by decide +kernel
theorem dL_law_156 : decode cL_law 156 = .ok (.bipush 16, 2) := by decide +kernel
theorem dL_law_158 : decode cL_law 158 = .ok (.irem, 1) := by decide +kernel
theorem dL_law_159 : decode cL_law 159 = .ok (.bipush 13, 2) := by decide +kernel
theorem dL_law_161 : decode cL_law 161 = .ok (.if_icmp .eq 13, 3) := by decide +kernel
theorem dL_law_164 : decode cL_law 164 = .ok (.iload 7, 2) := by decide +kernel
theorem dL_law_166 : decode cL_law 166 = .ok (.bipush 16, 2) := by decide +kernel
theorem dL_law_168 : decode cL_law 168 = .ok (.irem, 1) := by decide +kernel
theorem dL_law_169 : decode cL_law 169 = .ok (.bipush 14, 2) := by decide +kernel
theorem dL_law_171 : decode cL_law 171 = .ok (.if_icmp .ne 12, 3) := by decide +kernel
theorem dL_law_174 : decode cL_law 174 = .ok (.iload 8, 2) := by decide +kernel
theorem dL_law_176 : decode cL_law 176 = .ok (.ifCond .lt 7, 3) := by decide +kernel
theorem dL_law_179 : decode cL_law 179 = .ok (.iconst 1, 1) := by decide +kernel
theorem dL_law_180 : decode cL_law 180 = .ok (.goto 4, 3) := by decide +kernel
theorem dL_law_183 : decode cL_law 183 = .ok (.iconst 0, 1) := by decide +kernel
theorem dL_law_184 : decode cL_law 184 = .ok (.iadd, 1) := by decide +kernel
theorem dL_law_185 : decode cL_law 185 = .ok (.iastore, 1) := by decide +kernel
theorem dL_law_186 : decode cL_law 186 = .ok (.aload_n 3, 1) := by decide +kernel
theorem dL_law_187 : decode cL_law 187 = .ok (.iconst 2, 1) := by decide +kernel
theorem dL_law_188 : decode cL_law 188 = .ok (.dup2, 1) := by decide +kernel
theorem dL_law_189 : decode cL_law 189 = .ok (.iaload, 1) := by decide +kernel
theorem dL_law_190 : decode cL_law 190 = .ok (.iload 7, 2) := by decide +kernel
theorem dL_law_192 : decode cL_law 192 = .ok (.bipush 16, 2) := by decide +kernel
theorem dL_law_194 : decode cL_law 194 = .ok (.irem, 1) := by decide +kernel
theorem dL_law_195 : decode cL_law 195 = .ok (.bipush 15, 2) := by decide +kernel
theorem dL_law_197 : decode cL_law 197 = .ok (.if_icmp .ne 12, 3) := by decide +kernel
theorem dL_law_200 : decode cL_law 200 = .ok (.iload 8, 2) := by decide +kernel
theorem dL_law_202 : decode cL_law 202 = .ok (.ifCond .lt 7, 3) := by decide +kernel
theorem dL_law_205 : decode cL_law 205 = .ok (.iconst 1, 1) := by decide +kernel
theorem dL_law_206 : decode cL_law 206 = .ok (.goto 4, 3) := by decide +kernel
theorem dL_law_209 : decode cL_law 209 = .ok (.iconst 0, 1) := by decide +kernel
theorem dL_law_210 : decode cL_law 210 = .ok (.iadd, 1) := by decide +kernel
theorem dL_law_211 : decode cL_law 211 = .ok (.iastore, 1) := by decide +kernel
theorem dL_law_212 : decode cL_law 212 = .ok (.iload 5, 2) := by decide +kernel
theorem dL_law_214 : decode cL_law 214 = .ok (.ifCond .eq 68, 3) := by decide +kernel
theorem dL_law_217 : decode cL_law 217 = .ok (.aload_n 2, 1) := by decide +kernel
theorem dL_law_218 : decode cL_law 218 = .ok (.aload_n 3, 1) := by decide +kernel
theorem dL_law_219 : decode cL_law 219 = .ok (.iload 7, 2) := by decide +kernel
theorem dL_law_221 : decode cL_law 221 = .ok (.sipush 499, 3) := by decide +kernel
theorem dL_law_224 : decode cL_law 224 = .ok (.irem, 1) := by decide +kernel
theorem dL_law_225 : decode cL_law 225 = .ok (.invokestatic 146, 3) := by decide +kernel
theorem dL_law_228 : decode cL_law 228 = .ok (.ifCond .eq 54, 3) := by decide +kernel
theorem dL_law_231 : decode cL_law 231 = .ok (.iload 6, 2) := by decide +kernel
theorem dL_law_233 : decode cL_law 233 = .ok (.iconst 3, 1) := by decide +kernel
theorem dL_law_234 : decode cL_law 234 = .ok (.irem, 1) := by decide +kernel
theorem dL_law_235 : decode cL_law 235 = .ok (.ifCond .gt 17, 3) := by decide +kernel
theorem dL_law_238 : decode cL_law 238 = .ok (.aload_n 1, 1) := by decide +kernel
theorem dL_law_239 : decode cL_law 239 = .ok (.aload_n 2, 1) := by decide +kernel
theorem dL_law_240 : decode cL_law 240 = .ok (.aload_n 3, 1) := by decide +kernel
theorem dL_law_241 : decode cL_law 241 = .ok (.iload 7, 2) := by decide +kernel
theorem dL_law_243 : decode cL_law 243 = .ok (.bipush 7, 2) := by decide +kernel
theorem dL_law_245 : decode cL_law 245 = .ok (.idiv, 1) := by decide +kernel
theorem dL_law_246 : decode cL_law 246 = .ok (.invokestatic 150, 3) := by decide +kernel
theorem dL_law_249 : decode cL_law 249 = .ok (.ifCond .eq 33, 3) := by decide +kernel
theorem dL_law_252 : decode cL_law 252 = .ok (.iload 6, 2) := by decide +kernel
theorem dL_law_254 : decode cL_law 254 = .ok (.bipush 8, 2) := by decide +kernel
theorem dL_law_256 : decode cL_law 256 = .ok (.irem, 1) := by decide +kernel
theorem dL_law_257 : decode cL_law 257 = .ok (.bipush 7, 2) := by decide +kernel
theorem dL_law_259 : decode cL_law 259 = .ok (.if_icmp .lt 19, 3) := by decide +kernel
theorem dL_law_262 : decode cL_law 262 = .ok (.aload_n 2, 1) := by decide +kernel
theorem dL_law_263 : decode cL_law 263 = .ok (.aload_n 3, 1) := by decide +kernel
theorem dL_law_264 : decode cL_law 264 = .ok (.aload_n 1, 1) := by decide +kernel
theorem dL_law_265 : decode cL_law 265 = .ok (.invokevirtual 133, 3) := by decide +kernel
theorem dL_law_268 : decode cL_law 268 = .ok (.iload 7, 2) := by decide +kernel
theorem dL_law_270 : decode cL_law 270 = .ok (.iconst 3, 1) := by decide +kernel
theorem dL_law_271 : decode cL_law 271 = .ok (.idiv, 1) := by decide +kernel
theorem dL_law_272 : decode cL_law 272 = .ok (.invokestatic 154, 3) := by decide +kernel
theorem dL_law_275 : decode cL_law 275 = .ok (.ifCond .eq 7, 3) := by decide +kernel
theorem dL_law_278 : decode cL_law 278 = .ok (.iconst 1, 1) := by decide +kernel
theorem dL_law_279 : decode cL_law 279 = .ok (.goto 4, 3) := by decide +kernel
theorem dL_law_282 : decode cL_law 282 = .ok (.iconst 0, 1) := by decide +kernel
theorem dL_law_283 : decode cL_law 283 = .ok (.istore 5, 2) := by decide +kernel
theorem dL_law_285 : decode cL_law 285 = .ok (.iinc 6 1, 3) := by decide +kernel
theorem dL_law_288 : decode cL_law 288 = .ok (.goto (-249), 3) := by decide +kernel
theorem dL_law_291 : decode cL_law 291 = .ok (.aload_n 1, 1) := by decide +kernel
theorem dL_law_292 : decode cL_law 292 = .ok (.invokevirtual 133, 3) := by decide +kernel
theorem dL_law_295 : decode cL_law 295 = .ok (.istore 6, 2) := by decide +kernel
theorem dL_law_297 : decode cL_law 297 = .ok (.iload 5, 2) := by decide +kernel
theorem dL_law_299 : decode cL_law 299 = .ok (.ifCond .eq 90, 3) := by decide +kernel
theorem dL_law_302 : decode cL_law 302 = .ok (.aload_n 1, 1) := by decide +kernel
theorem dL_law_303 : decode cL_law 303 = .ok (.aload_n 2, 1) := by decide +kernel
theorem dL_law_304 : decode cL_law 304 = .ok (.aload_n 3, 1) := by decide +kernel
theorem dL_law_305 : decode cL_law 305 = .ok (.iconst 0, 1) := by decide +kernel
theorem dL_law_306 : decode cL_law 306 = .ok (.invokestatic 150, 3) := by decide +kernel
theorem dL_law_309 : decode cL_law 309 = .ok (.ifCond .eq 80, 3) := by decide +kernel
theorem dL_law_312 : decode cL_law 312 = .ok (.aload_n 1, 1) := by decide +kernel
theorem dL_law_313 : decode cL_law 313 = .ok (.aload_n 3, 1) := by decide +kernel
theorem dL_law_314 : decode cL_law 314 = .ok (.iload 6, 2) := by decide +kernel
theorem dL_law_316 : decode cL_law 316 = .ok (.aload_n 0, 1) := by decide +kernel
theorem dL_law_317 : decode cL_law 317 = .ok (.iconst 0, 1) := by decide +kernel
theorem dL_law_318 : decode cL_law 318 = .ok (.invokestatic 138, 3) := by decide +kernel
theorem dL_law_321 : decode cL_law 321 = .ok (.bipush 29, 2) := by decide +kernel
theorem dL_law_323 : decode cL_law 323 = .ok (.idiv, 1) := by decide +kernel
theorem dL_law_324 : decode cL_law 324 = .ok (.invokestatic 154, 3) := by decide +kernel
theorem dL_law_327 : decode cL_law 327 = .ok (.ifCond .eq 62, 3) := by decide +kernel
theorem dL_law_330 : decode cL_law 330 = .ok (.aload_n 2, 1) := by decide +kernel
theorem dL_law_331 : decode cL_law 331 = .ok (.aload_n 3, 1) := by decide +kernel
theorem dL_law_332 : decode cL_law 332 = .ok (.iload 6, 2) := by decide +kernel
theorem dL_law_334 : decode cL_law 334 = .ok (.bipush 9, 2) := by decide +kernel
theorem dL_law_336 : decode cL_law 336 = .ok (.if_icmp .ge 7, 3) := by decide +kernel
theorem dL_law_339 : decode cL_law 339 = .ok (.iconst 0, 1) := by decide +kernel
theorem dL_law_340 : decode cL_law 340 = .ok (.goto 8, 3) := by decide +kernel
theorem dL_law_343 : decode cL_law 343 = .ok (.iload 6, 2) := by decide +kernel
theorem dL_law_345 : decode cL_law 345 = .ok (.bipush 9, 2) := by decide +kernel
theorem dL_law_347 : decode cL_law 347 = .ok (.isub, 1) := by decide +kernel
theorem dL_law_348 : decode cL_law 348 = .ok (.aload_n 0, 1) := by decide +kernel
theorem dL_law_349 : decode cL_law 349 = .ok (.iconst 0, 1) := by decide +kernel
theorem dL_law_350 : decode cL_law 350 = .ok (.invokestatic 138, 3) := by decide +kernel
theorem dL_law_353 : decode cL_law 353 = .ok (.bipush 31, 2) := by decide +kernel
theorem dL_law_355 : decode cL_law 355 = .ok (.idiv, 1) := by decide +kernel
theorem dL_law_356 : decode cL_law 356 = .ok (.invokestatic 154, 3) := by decide +kernel
theorem dL_law_359 : decode cL_law 359 = .ok (.ifCond .eq 30, 3) := by decide +kernel
theorem dL_law_362 : decode cL_law 362 = .ok (.aload_n 3, 1) := by decide +kernel
theorem dL_law_363 : decode cL_law 363 = .ok (.iconst 0, 1) := by decide +kernel
theorem dL_law_364 : decode cL_law 364 = .ok (.iaload, 1) := by decide +kernel
theorem dL_law_365 : decode cL_law 365 = .ok (.iconst 2, 1) := by decide +kernel
theorem dL_law_366 : decode cL_law 366 = .ok (.if_icmp .lt 19, 3) := by decide +kernel
theorem dL_law_369 : decode cL_law 369 = .ok (.aload_n 1, 1) := by decide +kernel
theorem dL_law_370 : decode cL_law 370 = .ok (.aload_n 3, 1) := by decide +kernel
theorem dL_law_371 : decode cL_law 371 = .ok (.aload_n 0, 1) := by decide +kernel
theorem dL_law_372 : decode cL_law 372 = .ok (.iconst 0, 1) := by decide +kernel
theorem dL_law_373 : decode cL_law 373 = .ok (.invokestatic 138, 3) := by decide +kernel
theorem dL_law_376 : decode cL_law 376 = .ok (.bipush 37, 2) := by decide +kernel
theorem dL_law_378 : decode cL_law 378 = .ok (.idiv, 1) := by decide +kernel
theorem dL_law_379 : decode cL_law 379 = .ok (.invokestatic 158, 3) := by decide +kernel
theorem dL_law_382 : decode cL_law 382 = .ok (.ifCond .eq 7, 3) := by decide +kernel
theorem dL_law_385 : decode cL_law 385 = .ok (.iconst 1, 1) := by decide +kernel
theorem dL_law_386 : decode cL_law 386 = .ok (.goto 4, 3) := by decide +kernel
theorem dL_law_389 : decode cL_law 389 = .ok (.iconst 0, 1) := by decide +kernel
theorem dL_law_390 : decode cL_law 390 = .ok (.ireturn, 1) := by decide +kernel
end
section
abbrev vwCl : List vw_C := [(RX0, TX0, 7), (RX1, TX1, 5), (RX2, TX2, 2), (RX3, TX3, 3), (RX4, TX4, 5), (RX5, TX5, 7)]
end
section
/-! THE WORLD: two registers, the law's three numbers, their cells by number; what each cell holds is a row of one memory. The first register's cells: 0 to 24, 26 to 30, 50 to 109; the law's numbers: 25; the second's: where gs sends the first's -/
abbrev gM : Type := Nat → Nat → Int32
/-- the classes' tables, the cells' addresses, the array classes (int, boolean, -, -, int[]), where the world begins -/
abbrev gC : Type := va_G × (Nat → Nat) × (Nat → ClassId) × Nat
/-- the two registers change places -/
def gs (k : Nat) : Nat := if k < 19 then k + 31 else if k < 25 then k + 91 else if k = 25 then 25 else if k < 31 then k + 90 else if k < 50 then k - 31 else if k < 110 then k + 71 else if k < 116 then k - 91 else if k < 121 then k - 90 else if k < 181 then k - 71 else k
theorem gs_gs (k : Nat) : gs (gs k) = k := by
  have f : ∀ j, (k < 19 ∧ j = k + 31) ∨ (19 ≤ k ∧ k < 25 ∧ j = k + 91) ∨ (k = 25 ∧ j = k) ∨ (26 ≤ k ∧ k < 31 ∧ j = k + 90) ∨ (31 ≤ k ∧ k < 50 ∧ j = k - 31) ∨ (50 ≤ k ∧ k < 110 ∧ j = k + 71) ∨ (110 ≤ k ∧ k < 116 ∧ j = k - 91) ∨ (116 ≤ k ∧ k < 121 ∧ j = k - 90) ∨ (121 ≤ k ∧ k < 181 ∧ j = k - 71) ∨ (181 ≤ k ∧ j = k) → gs j = k := by
    intro j h
    unfold gs
    repeat' split
    all_goals omega
  refine f (gs k) ?_
  unfold gs
  repeat' split
  all_goals omega
theorem gs_lt {k : Nat} (h : k < 181) : gs k < 181 := by
  unfold gs
  repeat' split
  all_goals omega
def gL (g : gC) (r : Nat → Int32) : List va_E := [
  .inr (5, [.int (r 0), .ref (g.2.1 1), .ref (g.2.1 2), .ref (g.2.1 3), .ref (g.2.1 4), .ref (g.2.1 5), .ref (g.2.1 6)]),
  .inr (2, [.ref (g.2.1 7), .ref (g.2.1 8)]),
  .inr (0, [.int (r 0), .ref (g.2.1 9), .ref (g.2.1 10), .ref (g.2.1 11), .ref (g.2.1 12), .ref (g.2.1 13), .ref (g.2.1 14)]),
  .inr (1, [.int (r 0), .ref (g.2.1 15), .ref (g.2.1 16), .ref (g.2.1 17), .ref (g.2.1 18)]),
  .inr (4, [.int (r 0), .ref (g.2.1 19), .ref (g.2.1 20), .ref (g.2.1 21), .ref (g.2.1 22)]),
  .inr (3, [.ref (g.2.1 2), .ref (g.2.1 1), .ref (g.2.1 23)]),
  .inr (3, [.ref (g.2.1 2), .ref (g.2.1 1), .ref (g.2.1 24)]),
  .inl (g.2.2.1 0, 4, .inl r),
  .inl (g.2.2.1 0, 4, .inl r),
  .inl (g.2.2.1 0, 60, .inl r),
  .inl (g.2.2.1 0, 60, .inl r),
  .inl (g.2.2.1 1, 60, .inl r),
  .inl (g.2.2.1 4, 3, .inr (.inr (.inr (.inr (fun i => some (g.2.1 (26 + i))))))),
  .inl (g.2.2.1 4, 2, .inr (.inr (.inr (.inr (fun i => some (g.2.1 (29 + i))))))),
  .inl (g.2.2.1 4, 60, .inr (.inr (.inr (.inr (fun i => some (g.2.1 (50 + i))))))),
  .inl (g.2.2.1 0, 40, .inl r),
  .inl (g.2.2.1 0, 40, .inl r),
  .inl (g.2.2.1 0, 40, .inl r),
  .inl (g.2.2.1 1, 60, .inl r),
  .inl (g.2.2.1 0, 20, .inl r),
  .inl (g.2.2.1 0, 20, .inl r),
  .inl (g.2.2.1 0, 20, .inl r),
  .inl (g.2.2.1 0, 20, .inl r),
  .inl (g.2.2.1 0, 60, .inl r),
  .inl (g.2.2.1 0, 60, .inl r),
  .inl (g.2.2.1 0, 3, .inl r),
  .inl (g.2.2.1 0, 60, .inl r),
  .inl (g.2.2.1 0, 60, .inl r),
  .inl (g.2.2.1 0, 60, .inl r),
  .inl (g.2.2.1 0, 60, .inl r),
  .inl (g.2.2.1 0, 60, .inl r),
  .inr (5, [.int (r 0), .ref (g.2.1 (gs 1)), .ref (g.2.1 (gs 2)), .ref (g.2.1 (gs 3)), .ref (g.2.1 (gs 4)), .ref (g.2.1 (gs 5)), .ref (g.2.1 (gs 6))]),
  .inr (2, [.ref (g.2.1 (gs 7)), .ref (g.2.1 (gs 8))]),
  .inr (0, [.int (r 0), .ref (g.2.1 (gs 9)), .ref (g.2.1 (gs 10)), .ref (g.2.1 (gs 11)), .ref (g.2.1 (gs 12)), .ref (g.2.1 (gs 13)), .ref (g.2.1 (gs 14))]),
  .inr (1, [.int (r 0), .ref (g.2.1 (gs 15)), .ref (g.2.1 (gs 16)), .ref (g.2.1 (gs 17)), .ref (g.2.1 (gs 18))]),
  .inr (4, [.int (r 0), .ref (g.2.1 (gs 19)), .ref (g.2.1 (gs 20)), .ref (g.2.1 (gs 21)), .ref (g.2.1 (gs 22))]),
  .inr (3, [.ref (g.2.1 (gs 2)), .ref (g.2.1 (gs 1)), .ref (g.2.1 (gs 23))]),
  .inr (3, [.ref (g.2.1 (gs 2)), .ref (g.2.1 (gs 1)), .ref (g.2.1 (gs 24))]),
  .inl (g.2.2.1 0, 4, .inl r),
  .inl (g.2.2.1 0, 4, .inl r),
  .inl (g.2.2.1 0, 60, .inl r),
  .inl (g.2.2.1 0, 60, .inl r),
  .inl (g.2.2.1 1, 60, .inl r),
  .inl (g.2.2.1 4, 3, .inr (.inr (.inr (.inr (fun i => some (g.2.1 (gs (26 + i)))))))),
  .inl (g.2.2.1 4, 2, .inr (.inr (.inr (.inr (fun i => some (g.2.1 (gs (29 + i)))))))),
  .inl (g.2.2.1 4, 60, .inr (.inr (.inr (.inr (fun i => some (g.2.1 (gs (50 + i)))))))),
  .inl (g.2.2.1 0, 40, .inl r),
  .inl (g.2.2.1 0, 40, .inl r),
  .inl (g.2.2.1 0, 40, .inl r),
  .inl (g.2.2.1 1, 60, .inl r)]
/-- cell k, whose row is r; from 50 on rows of numbers, 110 to 113 shorter ones -/
def gE (g : gC) (r : Nat → Int32) (k : Nat) : va_E := if 110 ≤ k ∧ k < 114 then .inl (g.2.2.1 0, 20, .inl r) else (gL g r).getD k (.inl (g.2.2.1 0, 60, .inl r))
def gW (g : gC) (μ : gM) : va_W := (List.range 181).map (fun k => (g.2.1 k, gE g (μ k) k))
def gT (g : gC) : List (ClassId × FieldType) := [(g.2.2.1 0, .int), (g.2.2.1 1, .boolean), (g.2.2.1 2, .int), (g.2.2.1 3, .int), (g.2.2.1 4, .array .int)]
def gA (g : gC) : Nat → Prop := fun q => g.2.2.2 ≤ q
def gD (g : gC) : Prop := (∀ i j : Nat, i < 181 → j < 181 → g.2.1 i = g.2.1 j → i = j) ∧ ∀ k : Nat, k < 181 → g.2.2.2 ≤ g.2.1 k
/-- a row put in the place of another; one place of a row written -/
def gR (μ : gM) (k : Nat) (r : Nat → Int32) : gM := fun a => if a = k then r else μ a
abbrev gU (μ : gM) (k i : Nat) (x : Int32) : gM := gR μ k (upd (μ k) i x)
theorem gR_s {μ : gM} {k : Nat} {r : Nat → Int32} : gR μ k r k = r := if_pos rfl
theorem gR_n {μ : gM} {k j : Nat} {r : Nat → Int32} (h : j ≠ k) : gR μ k r j = μ j := if_neg h
theorem gU_s {μ : gM} {k i : Nat} {x : Int32} : gU μ k i x k = upd (μ k) i x := gR_s
theorem gU_n {μ : gM} {k i j : Nat} {x : Int32} (h : j ≠ k) : gU μ k i x j = μ j := gR_n h
theorem gR_self {μ : gM} {k : Nat} : gR μ k (μ k) = μ := by
  funext a
  by_cases h : a = k
  · subst h; exact gR_s
  · exact gR_n h
theorem gR_R {μ : gM} {k : Nat} {r r' : Nat → Int32} : gR (gR μ k r) k r' = gR μ k r' := by
  funext a
  by_cases h : a = k
  · subst h; rw [gR_s, gR_s]
  · rw [gR_n h, gR_n h, gR_n h]
theorem gW_at {g : gC} {μ : gM} {k : Nat} (hk : k < 181) : (gW g μ)[k]? = some (g.2.1 k, gE g (μ k) k) := by
  unfold gW
  rw [List.getElem?_map, List.getElem?_range hk]
  rfl
theorem gW_of {g : gC} {μ : gM} {k : Nat} {q : Nat × va_E} (h : (gW g μ)[k]? = some q) : k < 181 ∧ q = (g.2.1 k, gE g (μ k) k) := by
  have hl : k < (gW g μ).length := (List.getElem?_eq_some_iff.mp h).1
  have hk : k < 181 := by simpa [gW] using hl
  rw [gW_at hk] at h
  exact ⟨hk, (Option.some.inj h).symm⟩
theorem gW_set {g : gC} {μ : gM} {k : Nat} {r : Nat → Int32} {x : va_E} (hk : k < 181) (hx : x = gE g r k) : (gW g μ).set k (g.2.1 k, x) = gW g (gR μ k r) := by
  subst hx
  have hl : (gW g μ).length = 181 := by simp [gW]
  apply List.ext_getElem?
  intro i
  by_cases hi : i < 181
  · by_cases he : i = k
    · subst he
      rw [List.getElem?_set_self (by rw [hl]; exact hi), gW_at hi, gR_s]
    · rw [List.getElem?_set_ne (Ne.symm he), gW_at hi, gW_at hi, gR_n he]
  · rw [List.getElem?_eq_none (by rw [List.length_set, hl]; omega), List.getElem?_eq_none (by simp [gW]; omega)]
theorem gD_va {g : gC} (h : gD g) (μ : gM) : va_D (gA g) (gW g μ) := by
  refine ⟨fun i j x y hi hj hxy => ?_, fun k q hk => ?_⟩
  · obtain ⟨h1, rfl⟩ := gW_of hi
    obtain ⟨h2, rfl⟩ := gW_of hj
    exact h.1 i j h1 h2 hxy
  · obtain ⟨h1, rfl⟩ := gW_of hk
    exact h.2 k h1
def gI (g : gC) (μ : gM) (H : Heap) : Prop := va_P g.1 vwCl (gW g μ) H
/-- the texts of the class's exceptions -/
def gSt : List (Nat × String) := [(59, "it would be later than the last day"), (75, "no more finds can come"), (135, "no more links can be told"), (152, "no more wishes can be told"), (159, "there is no such wish"), (171, "a parameter is out of range"), (174, "both finds are the same"), (176, "there is no such find"), (180, "the find does not count on that day")]
/-- the words of its throws that aren't good ones -/
def gXw : List Cond := [.castable "java/lang/IllegalStateException" "java/lang/IllegalStateException", .castable "java/lang/IllegalArgumentException" "java/lang/IllegalArgumentException", .castable "java/lang/IndexOutOfBoundsException" "java/lang/IndexOutOfBoundsException", .castable "java/util/NoSuchElementException" "java/util/NoSuchElementException", .declares (Bundle.initS "java/lang/RuntimeException"), .declares (Bundle.initS "java/lang/Exception"), .declares (Bundle.initS "java/lang/Throwable")]
/-- what holds of a state's tables and statics -/
def gX (g : gC) (U : State) : Prop := va_K g.1 vwCl (gT g) U ∧ gD g ∧ vx_Zq Bundle.tN "UNASSIGNED_STACK" Bundle.steD (gA g) U U.heap ∧ vx_Zq Bundle.tN "SUPPRESSED_SENTINEL" Bundle.listD (gA g) U U.heap ∧ (∀ q ∈ gSt, ∃ a : Nat, vk_R RX5 q.1 q.2 a U) ∧ (∀ w ∈ gXw, va_Nw w U)
def gB (g : gC) (μ : gM) (U : State) : Prop := gI g μ U.heap ∧ gX g U
/-- a method's own: the machine, its code, the tables -/
def gF (p : Program) (l : Launch) (e : Env) (R : Room) (s : State) (m : MethodId) (args : Array Value) (below : List Frame) (meth : Method) (c : Code) (cc : ByteArray) (nL : Nat) (Ts : List Cond) (own : String) (g : gC) : Prop :=
  p.tables.exec = Jvm.exec ∧ c.code = cc ∧ c.maxLocals = nL ∧ s.vm.findClass own = some m.cls ∧ (∀ w ∈ Ts, w.before args s = true) ∧ gX g s ∧ meth.locks = false
/-- at pc, with these locals and this stack, the memory being μ -/
def J (p : Program) (l : Launch) (e : Env) (R : Room) (s : State) (m : MethodId) (args : Array Value) (below : List Frame) (meth : Method) (c : Code) (Q : State → Prop) (g : gC) (nL : Nat) (μ : gM) (k n pc : Nat) (L : List (Nat × Value)) (st : List Value) : Prop :=
  ∀ (H : Heap) (locs : List Loc) (ls : Array Slot), gI g μ H → va_S (gA g) s.heap H locs → lv_has ls nL L → W p l e R s m args below meth c H locs k n Q (F0 m pc ls st)
/-- .. with an exception of class E thrown over it -/
def JX (p : Program) (l : Launch) (e : Env) (R : Room) (s : State) (m : MethodId) (args : Array Value) (below : List Frame) (meth : Method) (c : Code) (Q : State → Prop) (g : gC) (nL : Nat) (μ : gM) (k n : Nat) (E : String) (pc : Nat) (L : List (Nat × Value)) (st : List Value) : Prop :=
  ∀ (H : Heap) (locs : List Loc) (ls : Array Slot) (q : Nat) (ce : Cell), gI g μ H → va_S (gA g) s.heap H locs → lv_has ls nL L → H[q]? = some ce → ce.vm = .none → s.vm.findClass E = some ce.cls → vx_W p l e R s m args below meth c H locs k n Q (F0 m pc ls st) q
theorem nI_cl {i N : Nat} (hi : i < N) (hN : N ≤ 4096) : (nI i).toNatClampNeg = i := nI_clamp (by omega)
theorem nI_vp {i N : Nat} (hi : i < N) (hN : N ≤ 4096) : vp_in (nI i) N := vp_in_nI hi (by omega)
section GJ
variable {p : Program} {l : Launch} {e : Env} {R : Room} {s : State} {m : MethodId} {args : Array Value} {below : List Frame} {meth : Method} {c : Code} {Q : State → Prop} {g : gC} {nL : Nat} {μ : gM} {k n : Nat} {cc : ByteArray} {Ts : List Cond} {own : String} {pc : Nat} {L : List (Nat × Value)} {st : List Value}
theorem j_iconst (Z : gF p l e R s m args below meth c cc nL Ts own g) {z : Int} {v : Int32} (d : decode cc pc = .ok (.iconst z, 1)) (hv : Int32.ofInt z = v) (K : J p l e R s m args below meth c Q g nL μ k n (pc + 1) L (.int v :: st)) : J p l e R s m args below meth c Q g nL μ k n pc L (st) :=
  fun H locs ls hI hS hl => lv_iconst Z.1 Z.2.1 d hv (K H locs ls hI hS hl)
theorem j_bipush (Z : gF p l e R s m args below meth c cc nL Ts own g) {z : Int} {v : Int32} (d : decode cc pc = .ok (.bipush z, 2)) (hv : (Int8.ofInt z).toInt32 = v) (K : J p l e R s m args below meth c Q g nL μ k n (pc + 2) L (.int v :: st)) : J p l e R s m args below meth c Q g nL μ k n pc L (st) :=
  fun H locs ls hI hS hl => lv_bipush Z.1 Z.2.1 d hv (K H locs ls hI hS hl)
theorem j_sipush (Z : gF p l e R s m args below meth c cc nL Ts own g) {z : Int} {v : Int32} (d : decode cc pc = .ok (.sipush z, 3)) (hv : (Int16.ofInt z).toInt32 = v) (K : J p l e R s m args below meth c Q g nL μ k n (pc + 3) L (.int v :: st)) : J p l e R s m args below meth c Q g nL μ k n pc L (st) :=
  fun H locs ls hI hS hl => lv_sipush Z.1 Z.2.1 d hv (K H locs ls hI hS hl)
theorem j_dup (Z : gF p l e R s m args below meth c cc nL Ts own g) {va : Value} (d : decode cc pc = .ok (.dup, 1)) (hva : va.category = 1) (K : J p l e R s m args below meth c Q g nL μ k n (pc + 1) L (va :: va :: st)) : J p l e R s m args below meth c Q g nL μ k n pc L (va :: st) :=
  fun H locs ls hI hS hl => lv_dup Z.1 Z.2.1 d hva (K H locs ls hI hS hl)
theorem j_dup2 (Z : gF p l e R s m args below meth c cc nL Ts own g) {va vb : Value} (d : decode cc pc = .ok (.dup2, 1)) (hva : va.category = 1) (hvb : vb.category = 1) (K : J p l e R s m args below meth c Q g nL μ k n (pc + 1) L (va :: vb :: va :: vb :: st)) : J p l e R s m args below meth c Q g nL μ k n pc L (va :: vb :: st) :=
  fun H locs ls hI hS hl => lv_dup2_11 Z.1 Z.2.1 d hva hvb (K H locs ls hI hS hl)
theorem j_pop (Z : gF p l e R s m args below meth c cc nL Ts own g) {va : Value} (d : decode cc pc = .ok (.pop, 1)) (hva : va.category = 1) (K : J p l e R s m args below meth c Q g nL μ k n (pc + 1) L (st)) : J p l e R s m args below meth c Q g nL μ k n pc L (va :: st) :=
  fun H locs ls hI hS hl => lv_pop Z.1 Z.2.1 d hva (K H locs ls hI hS hl)
theorem j_iadd (Z : gF p l e R s m args below meth c cc nL Ts own g) {x y : Int32} (d : decode cc pc = .ok (.iadd, 1))  (K : J p l e R s m args below meth c Q g nL μ k n (pc + 1) L (.int (x + y) :: st)) : J p l e R s m args below meth c Q g nL μ k n pc L (.int y :: .int x :: st) :=
  fun H locs ls hI hS hl => lv_iadd Z.1 Z.2.1 d  (K H locs ls hI hS hl)
theorem j_isub (Z : gF p l e R s m args below meth c cc nL Ts own g) {x y : Int32} (d : decode cc pc = .ok (.isub, 1))  (K : J p l e R s m args below meth c Q g nL μ k n (pc + 1) L (.int (x - y) :: st)) : J p l e R s m args below meth c Q g nL μ k n pc L (.int y :: .int x :: st) :=
  fun H locs ls hI hS hl => lv_isub Z.1 Z.2.1 d  (K H locs ls hI hS hl)
theorem j_imul (Z : gF p l e R s m args below meth c cc nL Ts own g) {x y : Int32} (d : decode cc pc = .ok (.imul, 1))  (K : J p l e R s m args below meth c Q g nL μ k n (pc + 1) L (.int (x * y) :: st)) : J p l e R s m args below meth c Q g nL μ k n pc L (.int y :: .int x :: st) :=
  fun H locs ls hI hS hl => lv_imul Z.1 Z.2.1 d  (K H locs ls hI hS hl)
theorem j_iand (Z : gF p l e R s m args below meth c cc nL Ts own g) {x y : Int32} (d : decode cc pc = .ok (.iand, 1))  (K : J p l e R s m args below meth c Q g nL μ k n (pc + 1) L (.int (x &&& y) :: st)) : J p l e R s m args below meth c Q g nL μ k n pc L (.int y :: .int x :: st) :=
  fun H locs ls hI hS hl => lv_iand Z.1 Z.2.1 d  (K H locs ls hI hS hl)
theorem j_topi {x : Int32} (K : ∀ y : Int32, y = x → J p l e R s m args below meth c Q g nL μ k n pc L (.int y :: st)) : J p l e R s m args below meth c Q g nL μ k n pc L (.int x :: st) := K x rfl
theorem j_eq {x y : Int32} (h : x = y) (K : J p l e R s m args below meth c Q g nL μ k n pc L (.int y :: st)) : J p l e R s m args below meth c Q g nL μ k n pc L (.int x :: st) := h ▸ K
theorem j_mem {μ' : gM} (h : μ = μ') (K : J p l e R s m args below meth c Q g nL μ' k n pc L st) : J p l e R s m args below meth c Q g nL μ k n pc L st := h ▸ K
theorem j_pc {q : Nat} (h : pc = q) (K : J p l e R s m args below meth c Q g nL μ k n q L st) : J p l e R s m args below meth c Q g nL μ k n pc L st := h ▸ K
theorem j_sub {L' : List (Nat × Value)} (is : List Nat) (h : lv_pick L is = L') (K : J p l e R s m args below meth c Q g nL μ k n pc L' st) : J p l e R s m args below meth c Q g nL μ k n pc L st := fun H locs ls hI hS hl => K H locs ls hI hS (lv_sub hl is h)
theorem j_wide {k' n' : Nat} (h1 : k ≤ k') (h2 : n ≤ n') (K : J p l e R s m args below meth c Q g nL μ k' n' pc L st) : J p l e R s m args below meth c Q g nL μ k n pc L st := fun H locs ls hI hS hl => W.widen h1 h2 (K H locs ls hI hS hl)
theorem j_iload_n (Z : gF p l e R s m args below meth c cc nL Ts own g) {z : Fin 4} {x : Int32} (d : decode cc pc = .ok (.iload_n z, 1)) (j : Nat) (hj : L[j]? = some ((z : Nat), .int x)) (K : J p l e R s m args below meth c Q g nL μ k n (pc + 1) L (.int x :: st)) : J p l e R s m args below meth c Q g nL μ k n pc L st :=
  fun H locs ls hI hS hl => lv_iload_n Z.1 Z.2.1 d rfl (lv_at hl j hj) (K H locs ls hI hS hl)
theorem j_iload (Z : gF p l e R s m args below meth c cc nL Ts own g) {i : Nat} {x : Int32} (d : decode cc pc = .ok (.iload i, 2)) (j : Nat) (hj : L[j]? = some (i, .int x)) (K : J p l e R s m args below meth c Q g nL μ k n (pc + 2) L (.int x :: st)) : J p l e R s m args below meth c Q g nL μ k n pc L st :=
  fun H locs ls hI hS hl => lv_iload Z.1 Z.2.1 d (lv_at hl j hj) (K H locs ls hI hS hl)
theorem j_istore_n (Z : gF p l e R s m args below meth c cc nL Ts own g) {z : Fin 4} {x : Int32} (d : decode cc pc = .ok (.istore_n z, 1)) (hn : (z : Nat) < nL) (L' : List (Nat × Value)) (hL : ((z : Nat), Value.int x) :: L.filter (fun q => !(q.1 == (z : Nat)) && !(q.1 + 1 == (z : Nat) && q.2.category == 2)) = L') (K : J p l e R s m args below meth c Q g nL μ k n (pc + 1) L' st) : J p l e R s m args below meth c Q g nL μ k n pc L (.int x :: st) :=
  fun H locs ls hI hS hl => lv_istore_n Z.1 Z.2.1 d rfl hl hn hL (fun ls' hl' => K H locs ls' hI hS hl')
theorem j_istore (Z : gF p l e R s m args below meth c cc nL Ts own g) {i : Nat} {x : Int32} (d : decode cc pc = .ok (.istore i, 2)) (hn : i < nL) (L' : List (Nat × Value)) (hL : (i, Value.int x) :: L.filter (fun q => !(q.1 == i) && !(q.1 + 1 == i && q.2.category == 2)) = L') (K : J p l e R s m args below meth c Q g nL μ k n (pc + 2) L' st) : J p l e R s m args below meth c Q g nL μ k n pc L (.int x :: st) :=
  fun H locs ls hI hS hl => lv_istore Z.1 Z.2.1 d hl hn hL (fun ls' hl' => K H locs ls' hI hS hl')
theorem j_aload_n (Z : gF p l e R s m args below meth c cc nL Ts own g) {z : Fin 4} {x : Nat} (d : decode cc pc = .ok (.aload_n z, 1)) (j : Nat) (hj : L[j]? = some ((z : Nat), .ref x)) (K : J p l e R s m args below meth c Q g nL μ k n (pc + 1) L (.ref x :: st)) : J p l e R s m args below meth c Q g nL μ k n pc L st :=
  fun H locs ls hI hS hl => lv_aload_n Z.1 Z.2.1 d rfl (lv_at hl j hj) (K H locs ls hI hS hl)
theorem j_aload (Z : gF p l e R s m args below meth c cc nL Ts own g) {i : Nat} {x : Nat} (d : decode cc pc = .ok (.aload i, 2)) (j : Nat) (hj : L[j]? = some (i, .ref x)) (K : J p l e R s m args below meth c Q g nL μ k n (pc + 2) L (.ref x :: st)) : J p l e R s m args below meth c Q g nL μ k n pc L st :=
  fun H locs ls hI hS hl => lv_aload Z.1 Z.2.1 d (lv_at hl j hj) (K H locs ls hI hS hl)
theorem j_astore_n (Z : gF p l e R s m args below meth c cc nL Ts own g) {z : Fin 4} {x : Nat} (d : decode cc pc = .ok (.astore_n z, 1)) (hn : (z : Nat) < nL) (L' : List (Nat × Value)) (hL : ((z : Nat), Value.ref x) :: L.filter (fun q => !(q.1 == (z : Nat)) && !(q.1 + 1 == (z : Nat) && q.2.category == 2)) = L') (K : J p l e R s m args below meth c Q g nL μ k n (pc + 1) L' st) : J p l e R s m args below meth c Q g nL μ k n pc L (.ref x :: st) :=
  fun H locs ls hI hS hl => lv_astore_n Z.1 Z.2.1 d rfl hl hn hL (fun ls' hl' => K H locs ls' hI hS hl')
theorem j_astore (Z : gF p l e R s m args below meth c cc nL Ts own g) {i : Nat} {x : Nat} (d : decode cc pc = .ok (.astore i, 2)) (hn : i < nL) (L' : List (Nat × Value)) (hL : (i, Value.ref x) :: L.filter (fun q => !(q.1 == i) && !(q.1 + 1 == i && q.2.category == 2)) = L') (K : J p l e R s m args below meth c Q g nL μ k n (pc + 2) L' st) : J p l e R s m args below meth c Q g nL μ k n pc L (.ref x :: st) :=
  fun H locs ls hI hS hl => lv_astore Z.1 Z.2.1 d hl hn hL (fun ls' hl' => K H locs ls' hI hS hl')
theorem j_iinc (Z : gF p l e R s m args below meth c cc nL Ts own g) {i : Nat} {z : Int} {x v : Int32} (d : decode cc pc = .ok (.iinc i z, 3)) (j : Nat) (hj : L[j]? = some (i, .int x)) (hv : x + Int32.ofInt z = v) (hn : i < nL) (L' : List (Nat × Value)) (hL : (i, Value.int v) :: L.filter (fun q => !(q.1 == i) && !(q.1 + 1 == i && q.2.category == 2)) = L') (K : J p l e R s m args below meth c Q g nL μ k n (pc + 3) L' st) : J p l e R s m args below meth c Q g nL μ k n pc L st :=
  fun H locs ls hI hS hl => lv_iinc Z.1 Z.2.1 d hl hj hv hn hL (fun ls' hl' => K H locs ls' hI hS hl')
theorem j_goto (Z : gF p l e R s m args below meth c cc nL Ts own g) {off : Int} (tgt : Nat) (d : decode cc pc = .ok (.goto off, 3)) (ht : (pc : Int) + off = (tgt : Int)) (K : J p l e R s m args below meth c Q g nL μ k n tgt L st) : J p l e R s m args below meth c Q g nL μ k n pc L st :=
  fun H locs ls hI hS hl => lv_goto Z.1 Z.2.1 d ht (K H locs ls hI hS hl)
theorem j_if_eq (Z : gF p l e R s m args below meth c cc nL Ts own g) {x : Int32} {off : Int} (tgt : Nat) (d : decode cc pc = .ok (.ifCond .eq off, 3)) (ht : (pc : Int) + off = (tgt : Int)) (KT : x = 0 → J p l e R s m args below meth c Q g nL μ k n tgt L st) (KF : ¬ x = 0 → J p l e R s m args below meth c Q g nL μ k n (pc + 3) L st) : J p l e R s m args below meth c Q g nL μ k n pc L (.int x :: st) :=
  fun H locs ls hI hS hl => lv_if_eq Z.1 Z.2.1 d ht (fun h => KT h H locs ls hI hS hl) (fun h => KF h H locs ls hI hS hl)
theorem j_icmp_eq (Z : gF p l e R s m args below meth c cc nL Ts own g) {x y : Int32} {off : Int} (tgt : Nat) (d : decode cc pc = .ok (.if_icmp .eq off, 3)) (ht : (pc : Int) + off = (tgt : Int)) (KT : x = y → J p l e R s m args below meth c Q g nL μ k n tgt L st) (KF : ¬ x = y → J p l e R s m args below meth c Q g nL μ k n (pc + 3) L st) : J p l e R s m args below meth c Q g nL μ k n pc L (.int y :: .int x :: st) :=
  fun H locs ls hI hS hl => lv_icmp_eq Z.1 Z.2.1 d ht (fun h => KT h H locs ls hI hS hl) (fun h => KF h H locs ls hI hS hl)
theorem j_if_ne (Z : gF p l e R s m args below meth c cc nL Ts own g) {x : Int32} {off : Int} (tgt : Nat) (d : decode cc pc = .ok (.ifCond .ne off, 3)) (ht : (pc : Int) + off = (tgt : Int)) (KT : ¬ x = 0 → J p l e R s m args below meth c Q g nL μ k n tgt L st) (KF : x = 0 → J p l e R s m args below meth c Q g nL μ k n (pc + 3) L st) : J p l e R s m args below meth c Q g nL μ k n pc L (.int x :: st) :=
  fun H locs ls hI hS hl => lv_if_ne Z.1 Z.2.1 d ht (fun h => KT h H locs ls hI hS hl) (fun h => KF h H locs ls hI hS hl)
theorem j_icmp_ne (Z : gF p l e R s m args below meth c cc nL Ts own g) {x y : Int32} {off : Int} (tgt : Nat) (d : decode cc pc = .ok (.if_icmp .ne off, 3)) (ht : (pc : Int) + off = (tgt : Int)) (KT : ¬ x = y → J p l e R s m args below meth c Q g nL μ k n tgt L st) (KF : x = y → J p l e R s m args below meth c Q g nL μ k n (pc + 3) L st) : J p l e R s m args below meth c Q g nL μ k n pc L (.int y :: .int x :: st) :=
  fun H locs ls hI hS hl => lv_icmp_ne Z.1 Z.2.1 d ht (fun h => KT h H locs ls hI hS hl) (fun h => KF h H locs ls hI hS hl)
theorem j_if_lt (Z : gF p l e R s m args below meth c cc nL Ts own g) {x : Int32} {off : Int} (tgt : Nat) (d : decode cc pc = .ok (.ifCond .lt off, 3)) (ht : (pc : Int) + off = (tgt : Int)) (KT : x < 0 → J p l e R s m args below meth c Q g nL μ k n tgt L st) (KF : ¬ x < 0 → J p l e R s m args below meth c Q g nL μ k n (pc + 3) L st) : J p l e R s m args below meth c Q g nL μ k n pc L (.int x :: st) :=
  fun H locs ls hI hS hl => lv_if_lt Z.1 Z.2.1 d ht (fun h => KT h H locs ls hI hS hl) (fun h => KF h H locs ls hI hS hl)
theorem j_icmp_lt (Z : gF p l e R s m args below meth c cc nL Ts own g) {x y : Int32} {off : Int} (tgt : Nat) (d : decode cc pc = .ok (.if_icmp .lt off, 3)) (ht : (pc : Int) + off = (tgt : Int)) (KT : x < y → J p l e R s m args below meth c Q g nL μ k n tgt L st) (KF : ¬ x < y → J p l e R s m args below meth c Q g nL μ k n (pc + 3) L st) : J p l e R s m args below meth c Q g nL μ k n pc L (.int y :: .int x :: st) :=
  fun H locs ls hI hS hl => lv_icmp_lt Z.1 Z.2.1 d ht (fun h => KT h H locs ls hI hS hl) (fun h => KF h H locs ls hI hS hl)
theorem j_if_ge (Z : gF p l e R s m args below meth c cc nL Ts own g) {x : Int32} {off : Int} (tgt : Nat) (d : decode cc pc = .ok (.ifCond .ge off, 3)) (ht : (pc : Int) + off = (tgt : Int)) (KT : 0 ≤ x → J p l e R s m args below meth c Q g nL μ k n tgt L st) (KF : ¬ 0 ≤ x → J p l e R s m args below meth c Q g nL μ k n (pc + 3) L st) : J p l e R s m args below meth c Q g nL μ k n pc L (.int x :: st) :=
  fun H locs ls hI hS hl => lv_if_ge Z.1 Z.2.1 d ht (fun h => KT h H locs ls hI hS hl) (fun h => KF h H locs ls hI hS hl)
theorem j_icmp_ge (Z : gF p l e R s m args below meth c cc nL Ts own g) {x y : Int32} {off : Int} (tgt : Nat) (d : decode cc pc = .ok (.if_icmp .ge off, 3)) (ht : (pc : Int) + off = (tgt : Int)) (KT : y ≤ x → J p l e R s m args below meth c Q g nL μ k n tgt L st) (KF : ¬ y ≤ x → J p l e R s m args below meth c Q g nL μ k n (pc + 3) L st) : J p l e R s m args below meth c Q g nL μ k n pc L (.int y :: .int x :: st) :=
  fun H locs ls hI hS hl => lv_icmp_ge Z.1 Z.2.1 d ht (fun h => KT h H locs ls hI hS hl) (fun h => KF h H locs ls hI hS hl)
theorem j_if_gt (Z : gF p l e R s m args below meth c cc nL Ts own g) {x : Int32} {off : Int} (tgt : Nat) (d : decode cc pc = .ok (.ifCond .gt off, 3)) (ht : (pc : Int) + off = (tgt : Int)) (KT : 0 < x → J p l e R s m args below meth c Q g nL μ k n tgt L st) (KF : ¬ 0 < x → J p l e R s m args below meth c Q g nL μ k n (pc + 3) L st) : J p l e R s m args below meth c Q g nL μ k n pc L (.int x :: st) :=
  fun H locs ls hI hS hl => lv_if_gt Z.1 Z.2.1 d ht (fun h => KT h H locs ls hI hS hl) (fun h => KF h H locs ls hI hS hl)
theorem j_icmp_gt (Z : gF p l e R s m args below meth c cc nL Ts own g) {x y : Int32} {off : Int} (tgt : Nat) (d : decode cc pc = .ok (.if_icmp .gt off, 3)) (ht : (pc : Int) + off = (tgt : Int)) (KT : y < x → J p l e R s m args below meth c Q g nL μ k n tgt L st) (KF : ¬ y < x → J p l e R s m args below meth c Q g nL μ k n (pc + 3) L st) : J p l e R s m args below meth c Q g nL μ k n pc L (.int y :: .int x :: st) :=
  fun H locs ls hI hS hl => lv_icmp_gt Z.1 Z.2.1 d ht (fun h => KT h H locs ls hI hS hl) (fun h => KF h H locs ls hI hS hl)
theorem j_if_le (Z : gF p l e R s m args below meth c cc nL Ts own g) {x : Int32} {off : Int} (tgt : Nat) (d : decode cc pc = .ok (.ifCond .le off, 3)) (ht : (pc : Int) + off = (tgt : Int)) (KT : x ≤ 0 → J p l e R s m args below meth c Q g nL μ k n tgt L st) (KF : ¬ x ≤ 0 → J p l e R s m args below meth c Q g nL μ k n (pc + 3) L st) : J p l e R s m args below meth c Q g nL μ k n pc L (.int x :: st) :=
  fun H locs ls hI hS hl => lv_if_le Z.1 Z.2.1 d ht (fun h => KT h H locs ls hI hS hl) (fun h => KF h H locs ls hI hS hl)
theorem j_icmp_le (Z : gF p l e R s m args below meth c cc nL Ts own g) {x y : Int32} {off : Int} (tgt : Nat) (d : decode cc pc = .ok (.if_icmp .le off, 3)) (ht : (pc : Int) + off = (tgt : Int)) (KT : x ≤ y → J p l e R s m args below meth c Q g nL μ k n tgt L st) (KF : ¬ x ≤ y → J p l e R s m args below meth c Q g nL μ k n (pc + 3) L st) : J p l e R s m args below meth c Q g nL μ k n pc L (.int y :: .int x :: st) :=
  fun H locs ls hI hS hl => lv_icmp_le Z.1 Z.2.1 d ht (fun h => KT h H locs ls hI hS hl) (fun h => KF h H locs ls hI hS hl)
theorem j_get (Z : gF p l e R s m args below meth c cc nL Ts own g) (a : Nat) (ha : a < 181) {ci : Nat} {fs : List Value} (he : gE g (μ a) a = .inr (ci, fs)) {C : String} {T : u_T} {N index : Nat} (hc : vwCl[ci]? = some (C, T, N)) (j : Nat) (hj : j < N) {v : Value} (hv : fs[j]? = some v) (hin : ∀ w ∈ u_ws C T N, w ∈ Ts) (hlk : Cond.fieldLink own index (T j).1 (T j).2.1 (T j).2.2.1 ∈ Ts) (d : decode cc pc = .ok (.getfield index, 3)) (K : J p l e R s m args below meth c Q g nL μ k n (pc + 3) L (v :: st)) : J p l e R s m args below meth c Q g nL μ k n pc L (.ref (g.2.1 a) :: st) :=
  fun H locs ls hI hS hl => va_get Z.1 Z.2.1 Z.2.2.2.2.1 hin Z.2.2.2.1 Z.2.2.2.2.2.1.1 hI a (by rw [gW_at ha, he]) hc j hj (Z.2.2.2.2.1 _ hlk) (fun _ h => h) hv d (K H locs ls hI hS hl)
theorem j_put (Z : gF p l e R s m args below meth c cc nL Ts own g) (a : Nat) (ha : a < 181) {ci : Nat} {fs : (Nat → Int32) → List Value} (he : ∀ r : Nat → Int32, gE g r a = .inr (ci, fs r)) {C : String} {T : u_T} {N index : Nat} (hc : vwCl[ci]? = some (C, T, N)) (ty0 : Nat → FieldType) (hty : ∀ k, k < N → parseFieldDescriptor (T k).2.2.1 = some (ty0 k)) (hnm : ∀ a, a < N → ∀ b, b < N → a ≠ b → (T a).2.1 ≠ (T b).2.1) (j : Nat) (hj : j < N) {x : Int32} (hset : (fs (μ a)).set j (.int x) = fs (upd (μ a) j x)) (hln : j < (fs (μ a)).length) (hfin : (T j).2.2.2 = false) (hd : parseFieldDescriptor (T j).2.2.1 = some .int) (hin : ∀ w ∈ u_ws C T N, w ∈ Ts) (hlk : Cond.fieldLink own index (T j).1 (T j).2.1 (T j).2.2.1 ∈ Ts) (d : decode cc pc = .ok (.putfield index, 3)) (K : J p l e R s m args below meth c Q g nL (gU μ a j x) k n (pc + 3) L st) : J p l e R s m args below meth c Q g nL μ k n pc L (.int x :: .ref (g.2.1 a) :: st) :=
  fun H locs ls hI hS hl => va_put (ty := .int) Z.1 Z.2.1 Z.2.2.2.2.1 hin ty0 hty hnm Z.2.2.2.1 Z.2.2.2.2.2.1.1 hI (gD_va Z.2.2.2.2.2.1.2.1 μ) hS a (by rw [gW_at ha, he]) hc j hj (Z.2.2.2.2.1 _ hlk) (fun _ h => h) hfin hd rfl rfl hln d (fun H1 locs1 hP _ hS1 => K H1 locs1 ls (by rw [hset, gW_set ha (he _).symm] at hP; exact hP) hS1 hl)
theorem j_ald (Z : gF p l e R s m args below meth c cc nL Ts own g) (a : Nat) (ha : a < 181) {N : Nat} {f : Nat → Option Nat} (he : gE g (μ a) a = .inl (g.2.2.1 4, N, .inr (.inr (.inr (.inr f))))) {x : Int32} (i : Nat) (hx : x = nI i) (hi : i < N) (hN : N ≤ 4096) {b : Nat} (hf : f i = some b) (d : decode cc pc = .ok (.aaload, 1)) (K : J p l e R s m args below meth c Q g nL μ k n (pc + 1) L (.ref b :: st)) : J p l e R s m args below meth c Q g nL μ k n pc L (.int x :: .ref (g.2.1 a) :: st) := by
  subst hx
  intro H locs ls hI hS hl
  have h1 := hI a _ (gW_at ha)
  rw [he] at h1
  refine W.aald (v := .ref b) (ty := .array .int) Z.1 Z.2.1 h1 ((Z.2.2.2.2.2.1.1.2 4 _ rfl).1 N (fun j => va_rf (f j))) rfl (fun q => by cases q) (by show ¬ (_ ∨ (arrV _ _ _).slots.size ≤ _); rw [arrV_size]; exact nI_vp hi hN) (by show (arrV _ _ _).slots[_]? = _; rw [nI_cl hi hN, arrV_read _ _ hi, hf]; rfl) rfl rfl d (K H locs ls hI hS hl)
theorem j_ild (Z : gF p l e R s m args below meth c cc nL Ts own g) (a : Nat) (ha : a < 181) {N : Nat} (he : ∀ r : Nat → Int32, gE g r a = .inl (g.2.2.1 0, N, .inl r)) {x : Int32} (i : Nat) (hx : x = nI i) (hi : i < N) (hN : N ≤ 4096) (d : decode cc pc = .ok (.iaload, 1)) (K : J p l e R s m args below meth c Q g nL μ k n (pc + 1) L (.int (μ a i) :: st)) : J p l e R s m args below meth c Q g nL μ k n pc L (.int x :: .ref (g.2.1 a) :: st) := by
  subst hx
  intro H locs ls hI hS hl
  refine va_iald (f := μ a) Z.1 Z.2.1 Z.2.2.2.2.2.1.1 hI a 0 (by rw [gW_at ha, he]) rfl (nI_vp hi hN) d ?_
  rw [nI_cl hi hN]
  exact K H locs ls hI hS hl
theorem j_ist (Z : gF p l e R s m args below meth c cc nL Ts own g) (a : Nat) (ha : a < 181) {N : Nat} (he : ∀ r : Nat → Int32, gE g r a = .inl (g.2.2.1 0, N, .inl r)) {x v : Int32} (i : Nat) (hx : x = nI i) (hi : i < N) (hN : N ≤ 4096) (d : decode cc pc = .ok (.iastore, 1)) (K : J p l e R s m args below meth c Q g nL (gU μ a i v) k n (pc + 1) L st) : J p l e R s m args below meth c Q g nL μ k n pc L (.int v :: .int x :: .ref (g.2.1 a) :: st) := by
  subst hx
  intro H locs ls hI hS hl
  refine va_iast (f := μ a) Z.1 Z.2.1 Z.2.2.2.2.2.1.1 hI (gD_va Z.2.2.2.2.2.1.2.1 μ) hS a 0 (by rw [gW_at ha, he]) rfl (nI_vp hi hN) d (fun H1 locs1 hP _ hS1 => ?_)
  rw [nI_cl hi hN, gW_set ha (he _).symm] at hP
  exact K H1 locs1 ls hP hS1 hl
theorem j_zld (Z : gF p l e R s m args below meth c cc nL Ts own g) (a : Nat) (ha : a < 181) {N : Nat} (he : ∀ r : Nat → Int32, gE g r a = .inl (g.2.2.1 1, N, .inl r)) {x : Int32} (i : Nat) (hx : x = nI i) (hi : i < N) (hN : N ≤ 4096) (d : decode cc pc = .ok (.baload, 1)) (K : J p l e R s m args below meth c Q g nL μ k n (pc + 1) L (.int (μ a i) :: st)) : J p l e R s m args below meth c Q g nL μ k n pc L (.int x :: .ref (g.2.1 a) :: st) := by
  subst hx
  intro H locs ls hI hS hl
  refine va_zald (f := μ a) Z.1 Z.2.1 Z.2.2.2.2.2.1.1 hI a 1 (by rw [gW_at ha, he]) rfl (nI_vp hi hN) d ?_
  rw [nI_cl hi hN]
  exact K H locs ls hI hS hl
theorem j_zst (Z : gF p l e R s m args below meth c cc nL Ts own g) (a : Nat) (ha : a < 181) {N : Nat} (he : ∀ r : Nat → Int32, gE g r a = .inl (g.2.2.1 1, N, .inl r)) {x v : Int32} (i : Nat) (hx : x = nI i) (hi : i < N) (hN : N ≤ 4096) (hz : vp_nar .boolean v = v) (d : decode cc pc = .ok (.bastore, 1)) (K : J p l e R s m args below meth c Q g nL (gU μ a i v) k n (pc + 1) L st) : J p l e R s m args below meth c Q g nL μ k n pc L (.int v :: .int x :: .ref (g.2.1 a) :: st) := by
  subst hx
  intro H locs ls hI hS hl
  refine va_zast (f := μ a) Z.1 Z.2.1 Z.2.2.2.2.2.1.1 hI (gD_va Z.2.2.2.2.2.1.2.1 μ) hS a 1 (by rw [gW_at ha, he]) rfl (nI_vp hi hN) d (fun H1 locs1 hP _ hS1 => ?_)
  rw [hz, nI_cl hi hN, gW_set ha (he _).symm] at hP
  exact K H1 locs1 ls hP hS1 hl
theorem j_mmax (Z : gF p l e R s m args below meth c cc nL Ts own g) {index : Nat} (h1 : Cond.methodLink own index Lib.Math.max.name ∈ Ts) (h2 : Cond.static Lib.Math.max.name ∈ Ts) (h3 : Cond.initialized "java/lang/Math" ∈ Ts) (h4 : Cond.code Lib.Math.max.name Lib.Math.max.code 2 (some .int) ∈ Ts) (hR : 1 ≤ R.frames ∧ (st.map fun v => v.category).sum + 13 ≤ R.locals ∧ k ≤ R.cells ∧ n ≤ R.slots) {x y : Int32} (d : decode cc pc = .ok (.invokestatic index, 3)) (K : J p l e R s m args below meth c Q g nL μ k n (pc + 3) L (.int (if x < y then y else x) :: st)) : J p l e R s m args below meth c Q g nL μ k n pc L (.int y :: .int x :: st) :=
  fun H locs ls hI hS hl => va_mmax Z.1 Z.2.1 (Z.2.2.1.trans hl.1.symm) Z.2.2.2.1 (Z.2.2.2.2.1 _ h1) (Z.2.2.2.2.1 _ h2) (Z.2.2.2.2.1 _ h3) (Z.2.2.2.2.1 _ h4) hR.1 hR.2.1 hR.2.2.1 hR.2.2.2 d (K H locs ls hI hS hl)
theorem j_mmin (Z : gF p l e R s m args below meth c cc nL Ts own g) {index : Nat} (h1 : Cond.methodLink own index Lib.Math.min.name ∈ Ts) (h2 : Cond.static Lib.Math.min.name ∈ Ts) (h3 : Cond.initialized "java/lang/Math" ∈ Ts) (h4 : Cond.code Lib.Math.min.name Lib.Math.min.code 2 (some .int) ∈ Ts) (hR : 1 ≤ R.frames ∧ (st.map fun v => v.category).sum + 13 ≤ R.locals ∧ k ≤ R.cells ∧ n ≤ R.slots) {x y : Int32} (d : decode cc pc = .ok (.invokestatic index, 3)) (K : J p l e R s m args below meth c Q g nL μ k n (pc + 3) L (.int (if y < x then y else x) :: st)) : J p l e R s m args below meth c Q g nL μ k n pc L (.int y :: .int x :: st) :=
  fun H locs ls hI hS hl => va_mmin Z.1 Z.2.1 (Z.2.2.1.trans hl.1.symm) Z.2.2.2.1 (Z.2.2.2.2.1 _ h1) (Z.2.2.2.2.1 _ h2) (Z.2.2.2.2.1 _ h3) (Z.2.2.2.2.1 _ h4) hR.1 hR.2.1 hR.2.2.1 hR.2.2.2 d (K H locs ls hI hS hl)
theorem j_ldc (Z : gF p l e R s m args below meth c cc nL Ts own g) {index : Nat} {v : Int32} (hc : Cond.constant own index v ∈ Ts) (d : decode cc pc = .ok (.ldc index, 2)) (K : J p l e R s m args below meth c Q g nL μ k n (pc + 2) L (.int v :: st)) : J p l e R s m args below meth c Q g nL μ k n pc L st :=
  fun H locs ls hI hS hl => lv_ldc Z.1 Z.2.1 Z.2.2.2.1 (Z.2.2.2.2.1 _ hc) d (K H locs ls hI hS hl)
theorem j_ineg (Z : gF p l e R s m args below meth c cc nL Ts own g) {x : Int32} (d : decode cc pc = .ok (.ineg, 1)) (K : J p l e R s m args below meth c Q g nL μ k n (pc + 1) L (.int (-x) :: st)) : J p l e R s m args below meth c Q g nL μ k n pc L (.int x :: st) :=
  fun H locs ls hI hS hl => lv_ineg Z.1 Z.2.1 d (K H locs ls hI hS hl)
/-- a quotient and a remainder of numbers that aren't negative -/
theorem nI_div {a b : Nat} (ha : a < 2 ^ 31) (hb : b < 2 ^ 31) : nI a / nI b = nI (a / b) := by
  apply Int32.toInt_inj.mp
  have h1 : a / b ≤ a := Nat.div_le_self a b
  rw [Int32.toInt_div, nI_toInt ha, nI_toInt hb, nI_toInt (by omega), ← Int.ofNat_tdiv]
  generalize a / b = q at h1
  exact Int.bmod_eq_of_le (by omega) (by omega)
theorem nI_mulN {a b : Nat} (h : a * b < 2 ^ 31) : nI a * nI b = nI (a * b) := by
  show Int32.ofNat a * Int32.ofNat b = Int32.ofNat (a * b)
  rw [Int32.ofNat_mul]
theorem nI_rem {a b : Nat} (ha : a < 2 ^ 31) (hb : b < 2 ^ 31) : nI a - nI a / nI b * nI b = nI (a % b) := by
  have h1 : a / b * b ≤ a := Nat.div_mul_le_self a b
  have h2 : a = a % b + a / b * b := by rw [Nat.mul_comm]; exact (Nat.mod_add_div a b).symm
  rw [nI_div ha hb, nI_mulN (by omega)]
  have e : nI a = nI (a % b) + nI (a / b * b) := by
    show Int32.ofNat a = Int32.ofNat (a % b) + Int32.ofNat (a / b * b)
    rw [← Int32.ofNat_add, ← h2]
  rw [e, Int32.add_sub_cancel]
theorem j_idivN (Z : gF p l e R s m args below meth c cc nL Ts own g) {a b : Nat} {y : Int32} (d : decode cc pc = .ok (.idiv, 1)) (hy : y = nI b) (ha : a < 2 ^ 31) (hb : b < 2 ^ 31) (hb0 : 0 < b) (K : J p l e R s m args below meth c Q g nL μ k n (pc + 1) L (.int (nI (a / b)) :: st)) : J p l e R s m args below meth c Q g nL μ k n pc L (.int y :: .int (nI a) :: st) := by
  subst hy
  intro H locs ls hI hS hl
  refine lv_idiv Z.1 Z.2.1 d (fun q => ?_) ?_
  · have := (nI_eq hb (show 0 < 2 ^ 31 by decide)).mp q
    omega
  · rw [nI_div ha hb]; exact K H locs ls hI hS hl
theorem j_iremN (Z : gF p l e R s m args below meth c cc nL Ts own g) {a b : Nat} {y : Int32} (d : decode cc pc = .ok (.irem, 1)) (hy : y = nI b) (ha : a < 2 ^ 31) (hb : b < 2 ^ 31) (hb0 : 0 < b) (K : J p l e R s m args below meth c Q g nL μ k n (pc + 1) L (.int (nI (a % b)) :: st)) : J p l e R s m args below meth c Q g nL μ k n pc L (.int y :: .int (nI a) :: st) := by
  subst hy
  intro H locs ls hI hS hl
  refine lv_irem Z.1 Z.2.1 d (fun q => ?_) ?_
  · have := (nI_eq hb (show 0 < 2 ^ 31 by decide)).mp q
    omega
  · rw [nI_rem ha hb]; exact K H locs ls hI hS hl
end GJ
end
