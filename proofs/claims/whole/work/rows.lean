section
-- ===== PART A: goes FIRST, ahead of the names: the tables' words, and 'selects' of the private methods out of them =====
/-- a private method of a class that the tables say can be made, by its rows of tables_1 -/
def lw_okq (q : MethodName × Nat) : Prop := (q.1.cls ≠ "java/lang/invoke/MethodHandle" ∧ q.1.cls ≠ "java/lang/invoke/VarHandle") ∧ Cond.instantiable q.1.cls q.2 ∈ tables_1 ∧ Cond.privateMethod q.1 ∈ tables_1 ∧ Cond.instanceMethod q.1 ∈ tables_1
theorem lw_p0 : lw_okq (⟨"java/lang/Throwable", "fillInStackTrace", "(I)Ljava/lang/Throwable;"⟩, 6) := ⟨⟨by decide +kernel, by decide +kernel⟩, List.mem_of_getElem? (i := 222) (by decide +kernel), List.mem_of_getElem? (i := 220) (by decide +kernel), List.mem_of_getElem? (i := 221) (by decide +kernel)⟩
theorem lw_p1 : lw_okq (⟨"FoundRegister", "requireFind", "(I)V"⟩, 7) := ⟨⟨by decide +kernel, by decide +kernel⟩, List.mem_of_getElem? (i := 17) (by decide +kernel), List.mem_of_getElem? (i := 314) (by decide +kernel), List.mem_of_getElem? (i := 315) (by decide +kernel)⟩
theorem lw_p2 : lw_okq (⟨"FoundRegister$Things", "joinToEarlier", "(I)V"⟩, 3) := ⟨⟨by decide +kernel, by decide +kernel⟩, List.mem_of_getElem? (i := 127) (by decide +kernel), List.mem_of_getElem? (i := 371) (by decide +kernel), List.mem_of_getElem? (i := 372) (by decide +kernel)⟩
theorem lw_p3 : lw_okq (⟨"FoundRegister$Finds", "knowsSerial", "(I)Z"⟩, 7) := ⟨⟨by decide +kernel, by decide +kernel⟩, List.mem_of_getElem? (i := 42) (by decide +kernel), List.mem_of_getElem? (i := 379) (by decide +kernel), List.mem_of_getElem? (i := 380) (by decide +kernel)⟩
theorem lw_p4 : lw_okq (⟨"FoundRegister$Finds", "shareMark", "(III)Z"⟩, 7) := ⟨⟨by decide +kernel, by decide +kernel⟩, List.mem_of_getElem? (i := 42) (by decide +kernel), List.mem_of_getElem? (i := 383) (by decide +kernel), List.mem_of_getElem? (i := 384) (by decide +kernel)⟩
theorem lw_p5 : lw_okq (⟨"FoundRegister$Things", "merge", "(II)V"⟩, 3) := ⟨⟨by decide +kernel, by decide +kernel⟩, List.mem_of_getElem? (i := 127) (by decide +kernel), List.mem_of_getElem? (i := 387) (by decide +kernel), List.mem_of_getElem? (i := 388) (by decide +kernel)⟩
theorem lw_p6 : lw_okq (⟨"FoundRegister", "requireCounting", "(I)V"⟩, 7) := ⟨⟨by decide +kernel, by decide +kernel⟩, List.mem_of_getElem? (i := 17) (by decide +kernel), List.mem_of_getElem? (i := 409) (by decide +kernel), List.mem_of_getElem? (i := 410) (by decide +kernel)⟩
theorem lw_p7 : lw_okq (⟨"FoundRegister$Things", "tells", "(III)Z"⟩, 3) := ⟨⟨by decide +kernel, by decide +kernel⟩, List.mem_of_getElem? (i := 127) (by decide +kernel), List.mem_of_getElem? (i := 443) (by decide +kernel), List.mem_of_getElem? (i := 444) (by decide +kernel)⟩
theorem lw_p8 : lw_okq (⟨"FoundRegister$Things", "goesBefore", "(II)Z"⟩, 3) := ⟨⟨by decide +kernel, by decide +kernel⟩, List.mem_of_getElem? (i := 127) (by decide +kernel), List.mem_of_getElem? (i := 447) (by decide +kernel), List.mem_of_getElem? (i := 448) (by decide +kernel)⟩
theorem lw_p9 : lw_okq (⟨"FoundRegister$Links", "failMore", "(LFoundRegister$Things;)Z"⟩, 5) := ⟨⟨by decide +kernel, by decide +kernel⟩, List.mem_of_getElem? (i := 80) (by decide +kernel), List.mem_of_getElem? (i := 485) (by decide +kernel), List.mem_of_getElem? (i := 486) (by decide +kernel)⟩
theorem lw_p10 : lw_okq (⟨"FoundRegister$Links", "holds", "(ILFoundRegister$Things;)Z"⟩, 5) := ⟨⟨by decide +kernel, by decide +kernel⟩, List.mem_of_getElem? (i := 80) (by decide +kernel), List.mem_of_getElem? (i := 489) (by decide +kernel), List.mem_of_getElem? (i := 490) (by decide +kernel)⟩
theorem lw_p11 : lw_okq (⟨"FoundRegister$Links", "lost", "(IILFoundRegister$Things;)Z"⟩, 5) := ⟨⟨by decide +kernel, by decide +kernel⟩, List.mem_of_getElem? (i := 80) (by decide +kernel), List.mem_of_getElem? (i := 493) (by decide +kernel), List.mem_of_getElem? (i := 494) (by decide +kernel)⟩
theorem lw_p12 : lw_okq (⟨"FoundRegister", "hasAnotherValue", "(II)Z"⟩, 7) := ⟨⟨by decide +kernel, by decide +kernel⟩, List.mem_of_getElem? (i := 17) (by decide +kernel), List.mem_of_getElem? (i := 544) (by decide +kernel), List.mem_of_getElem? (i := 545) (by decide +kernel)⟩
theorem lw_p13 : lw_okq (⟨"FoundRegisterModel", "refused", "(I)Z"⟩, 23) := ⟨⟨by decide +kernel, by decide +kernel⟩, List.mem_of_getElem? (i := 548) (by decide +kernel), List.mem_of_getElem? (i := 635) (by decide +kernel), List.mem_of_getElem? (i := 636) (by decide +kernel)⟩
theorem lw_p14 : lw_okq (⟨"FoundRegisterModel", "rankOf", "(I)I"⟩, 23) := ⟨⟨by decide +kernel, by decide +kernel⟩, List.mem_of_getElem? (i := 548) (by decide +kernel), List.mem_of_getElem? (i := 651) (by decide +kernel), List.mem_of_getElem? (i := 652) (by decide +kernel)⟩
theorem lw_p15 : lw_okq (⟨"FoundRegisterModel", "isFind", "(I)Z"⟩, 23) := ⟨⟨by decide +kernel, by decide +kernel⟩, List.mem_of_getElem? (i := 548) (by decide +kernel), List.mem_of_getElem? (i := 663) (by decide +kernel), List.mem_of_getElem? (i := 664) (by decide +kernel)⟩
def lw_privs_1 : List (MethodName × Nat) := [(⟨"java/lang/Throwable", "fillInStackTrace", "(I)Ljava/lang/Throwable;"⟩, 6), (⟨"FoundRegister", "requireFind", "(I)V"⟩, 7), (⟨"FoundRegister$Things", "joinToEarlier", "(I)V"⟩, 3), (⟨"FoundRegister$Finds", "knowsSerial", "(I)Z"⟩, 7), (⟨"FoundRegister$Finds", "shareMark", "(III)Z"⟩, 7), (⟨"FoundRegister$Things", "merge", "(II)V"⟩, 3), (⟨"FoundRegister", "requireCounting", "(I)V"⟩, 7), (⟨"FoundRegister$Things", "tells", "(III)Z"⟩, 3), (⟨"FoundRegister$Things", "goesBefore", "(II)Z"⟩, 3), (⟨"FoundRegister$Links", "failMore", "(LFoundRegister$Things;)Z"⟩, 5), (⟨"FoundRegister$Links", "holds", "(ILFoundRegister$Things;)Z"⟩, 5), (⟨"FoundRegister$Links", "lost", "(IILFoundRegister$Things;)Z"⟩, 5), (⟨"FoundRegister", "hasAnotherValue", "(II)Z"⟩, 7), (⟨"FoundRegisterModel", "refused", "(I)Z"⟩, 23), (⟨"FoundRegisterModel", "rankOf", "(I)I"⟩, 23), (⟨"FoundRegisterModel", "isFind", "(I)Z"⟩, 23)]
theorem lw_r1 : ∀ q ∈ lw_privs_1, lw_okq q := List.forall_mem_cons.mpr ⟨lw_p0, List.forall_mem_cons.mpr ⟨lw_p1, List.forall_mem_cons.mpr ⟨lw_p2, List.forall_mem_cons.mpr ⟨lw_p3, List.forall_mem_cons.mpr ⟨lw_p4, List.forall_mem_cons.mpr ⟨lw_p5, List.forall_mem_cons.mpr ⟨lw_p6, List.forall_mem_cons.mpr ⟨lw_p7, List.forall_mem_cons.mpr ⟨lw_p8, List.forall_mem_cons.mpr ⟨lw_p9, List.forall_mem_cons.mpr ⟨lw_p10, List.forall_mem_cons.mpr ⟨lw_p11, List.forall_mem_cons.mpr ⟨lw_p12, List.forall_mem_cons.mpr ⟨lw_p13, List.forall_mem_cons.mpr ⟨lw_p14, List.forall_mem_cons.mpr ⟨lw_p15, fun _ h => absurd h List.not_mem_nil⟩⟩⟩⟩⟩⟩⟩⟩⟩⟩⟩⟩⟩⟩⟩⟩
theorem lw_p16 : lw_okq (⟨"FoundRegisterModel", "countsOn", "(II)Z"⟩, 23) := ⟨⟨by decide +kernel, by decide +kernel⟩, List.mem_of_getElem? (i := 548) (by decide +kernel), List.mem_of_getElem? (i := 678) (by decide +kernel), List.mem_of_getElem? (i := 679) (by decide +kernel)⟩
theorem lw_p17 : lw_okq (⟨"FoundRegisterModel", "lay", "(I)V"⟩, 23) := ⟨⟨by decide +kernel, by decide +kernel⟩, List.mem_of_getElem? (i := 548) (by decide +kernel), List.mem_of_getElem? (i := 686) (by decide +kernel), List.mem_of_getElem? (i := 687) (by decide +kernel)⟩
theorem lw_p18 : lw_okq (⟨"FoundRegisterModel", "areSame", "(II)Z"⟩, 23) := ⟨⟨by decide +kernel, by decide +kernel⟩, List.mem_of_getElem? (i := 548) (by decide +kernel), List.mem_of_getElem? (i := 690) (by decide +kernel), List.mem_of_getElem? (i := 691) (by decide +kernel)⟩
theorem lw_p19 : lw_okq (⟨"FoundRegisterModel", "haveSame", "(III)Z"⟩, 23) := ⟨⟨by decide +kernel, by decide +kernel⟩, List.mem_of_getElem? (i := 548) (by decide +kernel), List.mem_of_getElem? (i := 694) (by decide +kernel), List.mem_of_getElem? (i := 695) (by decide +kernel)⟩
theorem lw_p20 : lw_okq (⟨"FoundRegisterModel", "join", "(II)V"⟩, 23) := ⟨⟨by decide +kernel, by decide +kernel⟩, List.mem_of_getElem? (i := 548) (by decide +kernel), List.mem_of_getElem? (i := 698) (by decide +kernel), List.mem_of_getElem? (i := 699) (by decide +kernel)⟩
theorem lw_p21 : lw_okq (⟨"FoundRegisterModel", "countThings", "()I"⟩, 23) := ⟨⟨by decide +kernel, by decide +kernel⟩, List.mem_of_getElem? (i := 548) (by decide +kernel), List.mem_of_getElem? (i := 702) (by decide +kernel), List.mem_of_getElem? (i := 703) (by decide +kernel)⟩
theorem lw_p22 : lw_okq (⟨"FoundRegisterModel", "looked", "(IIZ)I"⟩, 23) := ⟨⟨by decide +kernel, by decide +kernel⟩, List.mem_of_getElem? (i := 548) (by decide +kernel), List.mem_of_getElem? (i := 710) (by decide +kernel), List.mem_of_getElem? (i := 711) (by decide +kernel)⟩
theorem lw_p23 : lw_okq (⟨"FoundRegisterModel", "valueOf", "(II)I"⟩, 23) := ⟨⟨by decide +kernel, by decide +kernel⟩, List.mem_of_getElem? (i := 548) (by decide +kernel), List.mem_of_getElem? (i := 718) (by decide +kernel), List.mem_of_getElem? (i := 719) (by decide +kernel)⟩
theorem lw_p24 : lw_okq (⟨"FoundRegisterModel", "isAhead", "(II)Z"⟩, 23) := ⟨⟨by decide +kernel, by decide +kernel⟩, List.mem_of_getElem? (i := 548) (by decide +kernel), List.mem_of_getElem? (i := 722) (by decide +kernel), List.mem_of_getElem? (i := 723) (by decide +kernel)⟩
theorem lw_p25 : lw_okq (⟨"FoundRegisterModel", "spread", "(I)I"⟩, 23) := ⟨⟨by decide +kernel, by decide +kernel⟩, List.mem_of_getElem? (i := 548) (by decide +kernel), List.mem_of_getElem? (i := 738) (by decide +kernel), List.mem_of_getElem? (i := 739) (by decide +kernel)⟩
theorem lw_p26 : lw_okq (⟨"FoundRegisterModel", "falls", "(I)Z"⟩, 23) := ⟨⟨by decide +kernel, by decide +kernel⟩, List.mem_of_getElem? (i := 548) (by decide +kernel), List.mem_of_getElem? (i := 742) (by decide +kernel), List.mem_of_getElem? (i := 743) (by decide +kernel)⟩
theorem lw_p27 : lw_okq (⟨"FoundRegisterModel", "isOf", "(III)Z"⟩, 23) := ⟨⟨by decide +kernel, by decide +kernel⟩, List.mem_of_getElem? (i := 548) (by decide +kernel), List.mem_of_getElem? (i := 746) (by decide +kernel), List.mem_of_getElem? (i := 747) (by decide +kernel)⟩
def lw_privs_2 : List (MethodName × Nat) := [(⟨"FoundRegisterModel", "countsOn", "(II)Z"⟩, 23), (⟨"FoundRegisterModel", "lay", "(I)V"⟩, 23), (⟨"FoundRegisterModel", "areSame", "(II)Z"⟩, 23), (⟨"FoundRegisterModel", "haveSame", "(III)Z"⟩, 23), (⟨"FoundRegisterModel", "join", "(II)V"⟩, 23), (⟨"FoundRegisterModel", "countThings", "()I"⟩, 23), (⟨"FoundRegisterModel", "looked", "(IIZ)I"⟩, 23), (⟨"FoundRegisterModel", "valueOf", "(II)I"⟩, 23), (⟨"FoundRegisterModel", "isAhead", "(II)Z"⟩, 23), (⟨"FoundRegisterModel", "spread", "(I)I"⟩, 23), (⟨"FoundRegisterModel", "falls", "(I)Z"⟩, 23), (⟨"FoundRegisterModel", "isOf", "(III)Z"⟩, 23)]
theorem lw_r2 : ∀ q ∈ lw_privs_2, lw_okq q := List.forall_mem_cons.mpr ⟨lw_p16, List.forall_mem_cons.mpr ⟨lw_p17, List.forall_mem_cons.mpr ⟨lw_p18, List.forall_mem_cons.mpr ⟨lw_p19, List.forall_mem_cons.mpr ⟨lw_p20, List.forall_mem_cons.mpr ⟨lw_p21, List.forall_mem_cons.mpr ⟨lw_p22, List.forall_mem_cons.mpr ⟨lw_p23, List.forall_mem_cons.mpr ⟨lw_p24, List.forall_mem_cons.mpr ⟨lw_p25, List.forall_mem_cons.mpr ⟨lw_p26, List.forall_mem_cons.mpr ⟨lw_p27, fun _ h => absurd h List.not_mem_nil⟩⟩⟩⟩⟩⟩⟩⟩⟩⟩⟩⟩
def lw_privs : List (MethodName × Nat) := lw_privs_1 ++ (lw_privs_2)
def lw_tbl : List Cond := k2_sels lw_privs ++ tables_1
theorem lw_privs_ok : ∀ q ∈ lw_privs, lw_okq q := by
  show ∀ q ∈ lw_privs_1 ++ (lw_privs_2), lw_okq q
  exact List.forall_mem_append.mpr ⟨lw_r1, lw_r2⟩
-- ===== end of PART A; then your names; then what follows =====
/-! ===== BEGIN words of one list among another's, by their places ===== -/
theorem goodIn_r {big : List Cond} (ws : List Cond) (ps : List Nat) (hp : ws = ps.filterMap (fun i => big[i]?)) (h : ws.all goodWord = true) : GoodIn big ws := by
  intro w hw
  have h1 := List.all_eq_true.mp h w hw
  rw [hp] at hw
  obtain ⟨i, -, hi⟩ := List.mem_filterMap.mp hw
  have hm : w ∈ big := by first | exact List.mem_of_getElem? hi | exact List.getElem?_mem hi
  exact ⟨hm, good_of_word h1⟩
theorem goodIn_app {big a b : List Cond} (ha : GoodIn big a) (hb : GoodIn big b) : GoodIn big (a ++ b) := fun w h => (List.mem_append.mp h).elim (ha w) (hb w)
theorem goodIn_ca {big a b : List Cond} {c : Cond} (ha : GoodIn big (c :: a)) (hb : GoodIn big b) : GoodIn big (c :: (a ++ b)) := fun w h => (List.mem_cons.mp h).elim (fun e => ha w (List.mem_cons.mpr (Or.inl e))) (fun h => (List.mem_append.mp h).elim (fun h => ha w (List.mem_cons.mpr (Or.inr h))) (hb w))
theorem goodIn_sub {big ws : List Cond} (hm : ∀ w ∈ ws, w ∈ big) (h : ws.all goodWord = true) : GoodIn big ws := fun w hw => ⟨hm w hw, good_of_word (List.all_eq_true.mp h w hw)⟩
/-! ===== END ===== -/

/-- an array class over arrays of t is there (the printed text below speaks of it) -/
def va_AOA (t : FieldType) (U : State) : Prop := (Cond.arrayOver (.array t)).before #[] U = true
theorem va_AOA.use {t : FieldType} {A : Array Value} {U : State} (h : va_AOA t U) : (Cond.arrayOver (.array t)).before A U = true := h
/-! ===== BEGIN new T[n][m]: the outer array a place, the inner ones among the pooled ===== -/
/-- f, but v at every address of l -/
def vr_up {α : Type} (f : Nat → α) (l : List Nat) (v : α) : Nat → α := fun a => if a ∈ l then v else f a
theorem vr_up_in {α : Type} {f : Nat → α} {l : List Nat} {v : α} {a : Nat} (h : a ∈ l) : vr_up f l v a = v := if_pos h
theorem vr_up_ne {α : Type} {f : Nat → α} {l : List Nat} {v : α} {a : Nat} (h : a ∉ l) : vr_up f l v a = f a := if_neg h
theorem vr_rows {L l : List Nat} {f : Nat → va_E} {e : va_E} (h : ∀ a, a ∈ l → a ∉ L) : va_pl L f ++ l.map (fun a => (a, e)) = va_pl (L ++ l) (vr_up f l e) := by
  unfold va_pl
  rw [List.map_append]
  congr 1
  · apply List.map_congr_left
    intro a ha
    rw [vr_up_ne (fun q => h a q ha)]
  · apply List.map_congr_left
    intro a ha
    rw [vr_up_in ha]
theorem vr_lay {X rows : va_W} {x : Nat × va_E} {pl : va_W} {D : va_G} {cl : List vw_C} {H : Heap} (hP : va_P D cl (((X ++ pl) ++ [x]) ++ rows) H) : va_P D cl ((X ++ [x]) ++ (pl ++ rows)) H := by
  rw [List.append_assoc (X ++ pl)] at hP
  have h := va_P.swap hP
  rw [← List.append_assoc X] at h
  have h2 := va_P.swap h
  rw [List.append_assoc (X ++ [x])] at h2
  exact h2
theorem vr_layD {X rows : va_W} {x : Nat × va_E} {pl : va_W} {A : Nat → Prop} (hD : va_D A (((X ++ pl) ++ [x]) ++ rows)) : va_D A ((X ++ [x]) ++ (pl ++ rows)) := by
  rw [List.append_assoc (X ++ pl)] at hD
  have h := va_D.swap hD
  rw [← List.append_assoc X] at h
  have h2 := va_D.swap h
  rw [List.append_assoc (X ++ [x])] at h2
  exact h2
theorem vr_outer (c : ClassId) (N h0 : Nat) : ∀ i : Nat, Jvm.Free.Multi.outerC c N h0 i = arrV c N (fun j => va_rf (if j < i then some (h0 + 1 + j) else none))
  | 0 => by
    show ({ cls := c, slots := Array.replicate N .null, vm := .none } : Cell) = _
    rw [arrV_new]
    refine congrArg (arrV c N) (funext fun j => ?_)
    simp [va_rf]
  | i + 1 => by
    show (Jvm.Free.Multi.outerC c N h0 i).setSlot i (.ref (h0 + 1 + i)) = _
    rw [vr_outer c N h0 i, arrV_store]
    refine congrArg (arrV c N) (funext fun j => ?_)
    by_cases e : j = i
    · subst e
      simp [updV, va_rf]
    · by_cases h : j < i
      · simp [updV, e, h, Nat.lt_succ_of_lt h]
      · simp [updV, e, h, show ¬ j < i + 1 by omega]
section VGM
variable {p : Program} {l : Launch} {e : Env} {R : Room} {s : State} {m : MethodId} {args : Array Value} {below : List Frame} {meth : Method} {c : Code} {H : Heap} {locs : List Loc} {cells slots : Nat} {Q : State → Prop}
variable {cc : ByteArray} {pc : Nat} {ls : Array Slot} {rest : List Value} {D : va_G} {cl : List vw_C} {A : Nat → Prop} {a : Nat} {tys : List (ClassId × FieldType)} {ws : va_W} {H0 : Heap}
theorem va_mna {X : va_W} {L : List Nat} {f : Nat → va_E} {cc : ByteArray} (hexec : p.tables.exec = Jvm.exec) (hb : c.code = cc) {own : String} {index : Nat} {ty : FieldType} {cy : ClassId} (hown : s.vm.findClass own = some m.cls) (hclink : (Cond.classLink own index ("[" ++ (FieldType.array ty).toString)).before args s = true) (hover : va_AOA ty s) (harr : (Cond.arrayClass ty).before args s = true) (hcy : s.vm.findClass (FieldType.array ty).toString = some cy)
    (hK : va_K D cl tys s) (hP : va_P D cl (X ++ va_pl L f) H) (hD : va_D A (X ++ va_pl L f)) (hS : va_S A H0 H locs) (hA : ∀ q, H0.size ≤ q → A q) {n k : Int32} {N' K' : Nat} {z : vp_A} (hn : ¬ n < 0) (hk : ¬ k < 0) (hN : n.toNatClampNeg = N') (hM : k.toNatClampNeg = K')
    (hb1 : N' * 4 ≤ 536870912) (hb2 : K' * componentBytes ty ≤ 536870912) (hb3 : K' ≤ 536870912) (hdf : fits ty (defaultValue ty) = true) (hdd : (defaultValue ty).isDefault = true) (hcells : cells + (1 + N') ≤ R.cells) (hslots : slots + (N' + N' * K') ≤ R.slots) (hz : ∀ c : ClassId, Jvm.Free.Multi.innerC c K' (defaultValue ty) = vp_cell c z) (hdg : decode cc pc = .ok (.multianewarray index 2, 4))
    (kk : ∀ (q : Nat) (r : Nat → Nat) (cA : ClassId) (H1 : Heap), (∀ i j : Nat, i < N' → j < N' → r i = r j → i = j) → (∀ i : Nat, i < N' → r i ∉ L) → va_K D cl (tys ++ [(cA, .array ty)]) s →
      va_P D cl ((X ++ [(q, .inl (cA, N', .inr (.inr (.inr (.inr (fun i => if i < N' then some (r i) else none))))))]) ++ va_pl (L ++ (List.range N').map r) (vr_up f ((List.range N').map r) (.inl (cy, z)))) H1 → va_D A ((X ++ [(q, .inl (cA, N', .inr (.inr (.inr (.inr (fun i => if i < N' then some (r i) else none))))))]) ++ va_pl (L ++ (List.range N').map r) (vr_up f ((List.range N').map r) (.inl (cy, z)))) → va_S A H0 H1 locs →
      W p l e R s m args below meth c H1 locs (cells + 1 + N') (slots + N' + N' * K') Q (F0 m (pc + 4) ls (.ref q :: rest))) : W p l e R s m args below meth c H locs cells slots Q (F0 m pc ls (.int k :: .int n :: rest)) := by
  subst hN
  subst hM
  intro T hT Xs
  obtain ⟨vm₁, cA, comp, -, fA, fC, hO, -, X', step⟩ := Xs.multianewarray2F hexec hown hclink (va_AOA.use hover) harr (g := F0 m pc ls (.int k :: .int n :: rest)) rfl (by rw [hb]; exact hdg) rfl hn hk hb1 hb2 hb3 hdf hdd hcells hslots
  have ec : some cy = some comp := hcy.symm.trans fC
  cases ec
  generalize hF : Jvm.Free.Multi.fill (T.setVm vm₁) cA cy n.toNatClampNeg k.toNatClampNeg (defaultValue ty) n.toNatClampNeg = F at X' step
  have hTh : (T.setVm vm₁).heap = H := hT
  obtain ⟨f1, f2, -, -⟩ := Jvm.Free.Multi.fill_facts (T.setVm vm₁) cA cy n.toNatClampNeg k.toNatClampNeg (defaultValue ty) n.toNatClampNeg
  rw [hF, hTh] at f1 f2
  have hold : ∀ x : Nat, x < H.size → F.heap[x]? = H[x]? := fun x hx => by
    have := Jvm.Free.Multi.fill_old (T.setVm vm₁) cA cy n.toNatClampNeg k.toNatClampNeg (defaultValue ty) (a := x) (by rw [hTh]; exact hx) n.toNatClampNeg
    rw [hF, hTh] at this
    exact this
  have hrow : ∀ j : Nat, j < n.toNatClampNeg → F.heap[H.size + 1 + j]? = some (vp_cell cy z) := fun j hj => by
    have := Jvm.Free.Multi.fill_inner (T.setVm vm₁) cA cy n.toNatClampNeg k.toNatClampNeg (defaultValue ty) n.toNatClampNeg j hj
    rw [hF, hTh, hz] at this
    exact this
  have hout : Jvm.Free.Multi.outerC cA n.toNatClampNeg H.size n.toNatClampNeg = vp_cell cA (n.toNatClampNeg, .inr (.inr (.inr (.inr (fun i => if i < n.toNatClampNeg then some (H.size + 1 + i) else none))))) := by
    rw [vp_cell_q]
    exact vr_outer cA n.toNatClampNeg H.size n.toNatClampNeg
  rw [hout] at f2
  have hlt : ∀ a, a ∈ L → a < H.size := fun a ha => by
    obtain ⟨k9, hk9⟩ := va_pl_get (X := X) (f := f) ha
    exact (hP k9 _ hk9).lt
  have hnl : ∀ i : Nat, i < n.toNatClampNeg → H.size + 1 + i ∉ L := fun i _ h => by
    have := hlt _ h
    omega
  have hnm : ∀ a, a ∈ (List.range n.toNatClampNeg).map (fun i => H.size + 1 + i) → a ∉ L := fun a ha h => by
    obtain ⟨i, -, rfl⟩ := List.mem_map.mp ha
    have := hlt _ h
    omega
  have hP0 : va_P D cl (X ++ va_pl L f) F.heap := hP.kept (fun k9 x hx => hold x.1 ((hP k9 x hx).lt))
  have hP1 : va_P D cl ((X ++ va_pl L f) ++ [(H.size, .inl (cA, n.toNatClampNeg, .inr (.inr (.inr (.inr (fun i => if i < n.toNatClampNeg then some (H.size + 1 + i) else none))))))]) F.heap := hP0.app (fun k9 x hx => by
    have h0 : k9 < 1 := (List.getElem?_eq_some_iff.mp hx).1
    rw [show k9 = 0 by omega] at hx
    cases hx
    exact f2)
  have hP2 : va_P D cl (((X ++ va_pl L f) ++ [(H.size, .inl (cA, n.toNatClampNeg, .inr (.inr (.inr (.inr (fun i => if i < n.toNatClampNeg then some (H.size + 1 + i) else none))))))]) ++ ((List.range n.toNatClampNeg).map (fun i => H.size + 1 + i)).map (fun a => (a, .inl (cy, z)))) F.heap := hP1.app (fun k9 x hx => by
    obtain ⟨a, ha, rfl⟩ := List.mem_map.mp (List.mem_of_getElem? hx)
    obtain ⟨i, hi, rfl⟩ := List.mem_map.mp ha
    exact hrow i (List.mem_range.mp hi))
  have hD2 : va_D A (((X ++ va_pl L f) ++ [(H.size, .inl (cA, n.toNatClampNeg, .inr (.inr (.inr (.inr (fun i => if i < n.toNatClampNeg then some (H.size + 1 + i) else none))))))]) ++ ((List.range n.toNatClampNeg).map (fun i => H.size + 1 + i)).map (fun a => (a, .inl (cy, z)))) := by
    have hD1 := hD.push (e := .inl (cA, n.toNatClampNeg, .inr (.inr (.inr (.inr (fun i => if i < n.toNatClampNeg then some (H.size + 1 + i) else none)))))) hP rfl (hA _ hS.1)
    generalize hW1 : (X ++ va_pl L f) ++ [(H.size, .inl (cA, n.toNatClampNeg, .inr (.inr (.inr (.inr (fun i => if i < n.toNatClampNeg then some (H.size + 1 + i) else none))))))] = W1 at hD1 hP1 ⊢
    have hle : ∀ (k9 : Nat) (x : Nat × va_E), W1[k9]? = some x → x.1 ≤ H.size := fun k9 x hx => by
      rw [← hW1] at hx
      by_cases hl : k9 < (X ++ va_pl L f).length
      · rw [List.getElem?_append_left hl] at hx
        exact Nat.le_of_lt ((hP k9 x hx).lt)
      · rw [List.getElem?_append_right (by omega)] at hx
        have h0 : k9 - (X ++ va_pl L f).length < 1 := (List.getElem?_eq_some_iff.mp hx).1
        rw [show k9 - (X ++ va_pl L f).length = 0 by omega] at hx
        cases hx
        exact Nat.le_refl _
    have hr : ∀ (k9 : Nat) (x : Nat × va_E), (((List.range n.toNatClampNeg).map (fun i => H.size + 1 + i)).map (fun a => ((a, .inl (cy, z)) : Nat × va_E)))[k9]? = some x → x.1 = H.size + 1 + k9 := fun k9 x hx => by
      rw [List.getElem?_map, List.getElem?_map] at hx
      by_cases h9 : k9 < n.toNatClampNeg
      · rw [List.getElem?_range h9] at hx
        cases hx
        rfl
      · have hn0 : (List.range n.toNatClampNeg)[k9]? = none := List.getElem?_eq_none (by rw [List.length_range]; omega)
        rw [hn0] at hx
        cases hx
    refine ⟨fun i j x y hi hj hxy => ?_, fun k9 x hx => ?_⟩
    · by_cases h1 : i < W1.length <;> by_cases h2 : j < W1.length
      · rw [List.getElem?_append_left h1] at hi
        rw [List.getElem?_append_left h2] at hj
        exact hD1.1 i j x y hi hj hxy
      · rw [List.getElem?_append_left h1] at hi
        rw [List.getElem?_append_right (by omega)] at hj
        have := hle _ _ hi
        have := hr _ _ hj
        omega
      · rw [List.getElem?_append_right (by omega)] at hi
        rw [List.getElem?_append_left h2] at hj
        have := hle _ _ hj
        have := hr _ _ hi
        omega
      · rw [List.getElem?_append_right (by omega)] at hi hj
        have := hr _ _ hi
        have := hr _ _ hj
        omega
    · by_cases h1 : k9 < W1.length
      · rw [List.getElem?_append_left h1] at hx
        exact hD1.2 k9 x hx
      · rw [List.getElem?_append_right (by omega)] at hx
        have := hr _ _ hx
        exact hA _ (by have := hS.1; omega)
  have hAr : ArrOfT s cA (.array ty) := fun N9 z9 => by
    obtain ⟨-, k9, hk9, cm9, hkk9⟩ := (hO 0 0 0).1
    exact ⟨(fun q hq => by cases hq), k9, hk9, cm9, hkk9⟩
  have hK2 : va_K D cl (tys ++ [(cA, .array ty)]) s := ⟨hK.1, fun k9 x hx => by
    by_cases hl : k9 < tys.length
    · rw [List.getElem?_append_left hl] at hx
      exact hK.2 k9 x hx
    · rw [List.getElem?_append_right (by omega)] at hx
      have h0 : k9 - tys.length < 1 := (List.getElem?_eq_some_iff.mp hx).1
      rw [show k9 - tys.length = 0 by omega] at hx
      cases hx
      exact ⟨hAr, fA⟩⟩
  obtain ⟨t, a1, b1⟩ := kk H.size (fun i => H.size + 1 + i) cA F.heap (fun i j _ _ h => by have h9 : H.size + 1 + i = H.size + 1 + j := h; omega) hnl hK2 (by rw [← vr_rows hnm]; exact vr_lay hP2) (by rw [← vr_rows hnm]; exact vr_layD hD2) ⟨by rw [f1]; have := hS.1; omega, fun x h1 h2 => (hold x (Nat.lt_of_lt_of_le h1 hS.1)).trans (hS.2.1 x h1 h2), hS.2.2⟩ F rfl X'
  refine ⟨t, step t ?_, b1⟩
  have e : T.heap.size = H.size := by rw [hT]
  rw [e]
  exact a1
end VGM
/-! ===== END ===== -/

/-! ===== BEGIN exceptions that leave a method, and their catching by the caller (launches without stack traces) ===== -/
section VXA
/-! The laws vx_back, vx_callV, vx_callS, vx_callSW, vx_throw0, vx_throwS follow proofs of the library, with one case more: JvmDerived/Free/Laws.lean (Back.of_free), Shelf42/LK1.lean (callV, callS), Shelf/KitTraced.lean (throwNew0V, throwNewS). -/
/-- where a method has thrown q: the class by its name, the cell, what was written, the world -/
def vx_T (XC : String → State → State → Prop) (st : State) (q : Addr) (t : State) (mc ms : Nat) (free : Addr → Prop) : Prop :=
  ∃ (E : String) (ce : Cell) (L : List Loc), XC E st t ∧ t.heap[q]? = some ce ∧ ce.vm = .none ∧ st.vm.findClass E = some ce.cls ∧ st.WarmedH t.vm ∧ st.sameButNew ({ t with vm := st.vm } : State) L mc ms ∧ ∀ z ∈ L, free z.base
def vx_Q (Qc : Array Value → State → Outcome → State → Prop) (XC : String → State → State → Prop) (mc ms : Nat) (free : Addr → Prop) : Array Value → State → Outcome → State → Prop := fun a st o t =>
  (Qc a st o t ∧ ∃ L, FrameEnd st o t L mc ms ∧ ∀ q ∈ L, free q.base) ∨ ∃ q, o = .threw q ∧ vx_T XC st q t mc ms free
/-- a callee that returns or throws -/
def vx_Met (l : Launch) (y : MethodName) (ws : List Cond) (rm : Room) (Pc : Array Value → State → Prop) (Qc : Array Value → State → Outcome → State → Prop) (XC : String → State → State → Prop) (mc ms : Nat) (free : Addr → Prop) : Prop :=
  MetFree l y (headSpec ws rm) Pc (fun _ _ _ _ _ => True) (vx_Q Qc XC mc ms free)
def vx_Post (XC : String → State → State → Prop) (mc ms : Nat) (free : Addr → Prop) : Pt → Array Value → Addr → Pt → Prop := fun A a q B =>
  ∃ (g : JFrame) (mk : MethodId) (t : State) (L : List Loc) (E : String) (ce : Cell), B.U.heap = t.heap ∧ B.U.vm = t.vm ∧ XC E (A.U.calling g mk a) t ∧ t.heap[q]? = some ce ∧ ce.vm = .none ∧ A.U.vm.findClass E = some ce.cls ∧ B.locs = A.locs ++ L ∧ (∀ z ∈ L, free z.base) ∧ B.cells = A.cells + mc ∧ B.slots = A.slots + ms
def vx_Back (l : Launch) (R : Room) (p : Program) (e : Env) (below : List Frame) (s : State) (sargs : Array Value) (y : MethodName) (len W9 : Nat)
    (Pre : Pt → Array Value → Prop) (Post : Pt → Array Value → Option Value → Pt → Prop) (PostX : Pt → Array Value → Addr → Pt → Prop) : Prop :=
  ∀ (m : MethodId) (meth : Method) (c : Code) (A : Pt) (g : JFrame) (ig : Instr) (mk : MethodId) (a : Array Value),
    Stand p l e R s m sargs below meth c A.U A.locs A.cells A.slots → g.method = m → g.locals.size = c.maxLocals → decode c.code g.pc = .ok (ig, len) →
    2 * g.monitorRoom + (g.stack.map fun v => v.category).sum ≤ W9 → A.U.methodNamed? y = some mk → Pre A a →
    (∃ (v : Option Value) (B : Pt), Stand p l e R s m sargs below meth c B.U B.locs B.cells B.slots ∧ Post A a v B ∧
      Steps p.tables e below (doInvoke e (A.U.setTop g) [] mk a).1 (B.U.setTop { g with pc := g.pc + len, stack := v.toList ++ g.stack })) ∨
    (∃ (q : Addr) (B : Pt), Stand p l e R s m sargs below meth c B.U B.locs B.cells B.slots ∧ PostX A a q B ∧
      Steps p.tables e below (doInvoke e (A.U.setTop g) [] mk a).1 ((B.U.setTop g).pushFrame (.throwing q)))
section Payer
variable {l : Launch} {R : Room} {p : Program} {e : Env} {below : List Frame} {s : State} {sargs : Array Value} {y : MethodName} {len W9 : Nat}
theorem vx_back {ws : List Cond} {rm : Room} {Pc : Array Value → State → Prop} {Qc : Array Value → State → Outcome → State → Prop} {XC : String → State → State → Prop} {mc ms : Nat} {free : Addr → Prop} {bytes : ByteArray} {maxL : Nat} {ret : Option FieldType}
    (hM : vx_Met l y ws rm Pc Qc XC mc ms free) (hblind : FrameBlind Pc) (hrc : rm.cells = mc) (hrs : rm.slots = ms)
    (hframes : rm.frames + 1 ≤ R.frames) (hlocals : W9 + (maxL + 11) + rm.locals ≤ R.locals)
    (hws : ∀ w ∈ ws, ∀ a' U, s.WarmedH U.vm → w.before a' U = true) (hcode : Cond.code y bytes maxL ret ∈ ws) (hinit : ∀ a' U, s.WarmedH U.vm → (Cond.initialized y.cls).before a' U = true) :
    vx_Back l R p e below s sargs y len W9 (PreOf R mc ms Pc) (PostOf Qc mc ms free) (vx_Post XC mc ms free) := by
  intro m meth c A g ig mk a X hg hsize hdg hW hn hp
  have h1 : (headSpec ws rm).pre.before a A.U = true := atoms_intro fun w hw => hws w hw _ _ X.warmed
  have h2 : (Cond.code y bytes maxL ret).before a A.U = true := hws _ hcode _ _ X.warmed
  have h3 : (Cond.initialized y.cls).before a A.U = true := hinit _ _ X.warmed
  have h4 : A.cells + (headSpec ws rm).room.cells ≤ R.cells := by rw [show (headSpec ws rm).room.cells = mc from hrc]; exact hp.1
  have h5 : A.slots + (headSpec ws rm).room.slots ≤ R.slots := by rw [show (headSpec ws rm).room.slots = ms from hrs]; exact hp.2.1
  have hPc : Pc a (A.U.calling g mk a) := hblind _ _ _ _ hp.2.2
  obtain ⟨U, Ls, c0, s0⟩ := A
  dsimp only [Pt.U, Pt.locs, Pt.cells, Pt.slots] at h1 h2 h3 h4 h5 X hn hPc ⊢
  obtain ⟨methY, cY, hmY, hcY, -, hlY, -, -, -, -⟩ := Cond.code_spec hn h2
  obtain ⟨kY, hkY, -⟩ := className_of_methodNamed hn
  have hinitY : kY.init = .initialized := Cond.initialized_spec (findClass_of_methodNamed hn) hkY h3
  have h : At U g.method c below := by rw [hg]; exact X.here
  have hlocals9 : W9 + (maxL + 11) + (headSpec ws rm).room.locals ≤ R.locals := hlocals
  have happ : (headSpec ws rm).appliesLoose y e.platform (U.calling g mk a) = true :=
    Spec.appliesLoose_calling (g := g) h hdg hn hkY hinitY
      (X.room_calling (g := g) (R' := (headSpec ws rm).room) hsize hmY hcY hframes (by rw [hlY]; omega) h4 h5) h1
  obtain ⟨mid, hmid⟩ := h.above
  have hfr : (U.setTop g).frames = (.java g :: mid) ++ below := by rw [State.frames_setTop' g h.top, hmid]; rfl
  obtain ⟨o, s₂, hsteps, -, hend, hq⟩ := Steps.callFree hM p X.admits X.cas X.clock (acts := []) hfr happ hPc trivial
  have hq' : vx_Q Qc XC mc ms free a (U.calling g mk a) o s₂ := hq
  rw [State.frames_setTop' g h.top] at hend
  obtain ⟨g₀, hg0⟩ := Option.isSome_iff_exists.mp h.top
  obtain ⟨r, hr⟩ := State.topJava?_eq_some.mp hg0
  have hr' : (({ U with heap := s₂.heap, slotsUsed := s₂.slotsUsed } : State).setVm s₂.vm).frames = .java g₀ :: r := hr
  rcases hq' with ⟨hqc, L, hfe, hL⟩ | ⟨q, rfl, E, ce, L, hx, hce, hcv, hcl, hW₂, hsm, hL⟩
  · obtain ⟨⟨v, rfl⟩, hW₂, e2, q2, q3, q4, q5, q6⟩ := id hfe
    have e3 : s₂ = ({ (U.calling g mk a).setFrames s₂.frames with heap := s₂.heap, slotsUsed := s₂.slotsUsed } : State).setVm s₂.vm := by
      have : s₂ = ({ s₂ with vm := (U.calling g mk a).vm } : State).setVm s₂.vm := rfl
      rw [e2] at this
      exact this
    obtain ⟨c₂, i₂, len₂, hc₂, hd₂, hf₂⟩ := hend
    have hW' : U.WarmedH s₂.vm := hW₂
    have hcc : c₂ = c := by
      have h1 : s₂.code? g.method = U.code? g.method := by
        rw [State.code?_eq, State.code?_eq, hW'.alike.method?]
      exact Option.some.inj (hc₂.symm.trans (h1.trans h.code))
    subst hcc
    have hlen : len₂ = len := by rw [hdg] at hd₂; cases hd₂; rfl
    subst hlen
    have hs₂ : s₂ = (({ U with heap := s₂.heap, slotsUsed := s₂.slotsUsed } : State).setVm s₂.vm).setTop { g with pc := g.pc + len₂, stack := v.toList ++ g.stack } := by
      refine e3.trans ?_
      rw [hf₂, State.calling_eq h.top, State.setFrames_setFrames, State.setTop_of_frames _ hr', hr]
      rfl
    have hsame : U.sameButNew ({ U with heap := s₂.heap, slotsUsed := s₂.slotsUsed } : State) L mc ms := by
      refine ⟨?_, q2, q3, q4, q5, q6⟩
      obtain ⟨t, ht, -⟩ := State.frames_cons hr
      show ({ U with heap := s₂.heap, slotsUsed := s₂.slotsUsed } : State) = { U.setFrames U.frames with heap := s₂.heap, slotsUsed := s₂.slotsUsed }
      rw [State.setFrames_self ht]
    subst hg
    refine Or.inl ⟨v, ⟨(({ U with heap := s₂.heap, slotsUsed := s₂.slotsUsed } : State).setVm s₂.vm), Ls ++ L, c0 + mc, s0 + ms⟩,
      ⟨X.admits, X.cas, X.clock, X.frames, X.room, X.hears, X.method, X.code, (X.here.setHeapUsed s₂.heap s₂.slotsUsed).setVm hW'.alike, X.tail, State.WarmedH.trans X.warmed hW', X.limits, X.bytes, X.same.trans (hsame.setVm s.vm)⟩,
      ⟨g, mk, s₂, L, rfl, rfl, hqc, rfl, hL, rfl, rfl⟩, ?_⟩
    show Steps p.tables e below _ ((({ U with heap := s₂.heap, slotsUsed := s₂.slotsUsed } : State).setVm s₂.vm).setTop { g with pc := g.pc + len₂, stack := v.toList ++ g.stack })
    rw [← hs₂]
    exact hsteps
  · obtain ⟨e2, q2, q3, q4, q5, q6⟩ := id hsm
    have e3 : s₂ = ({ (U.calling g mk a).setFrames s₂.frames with heap := s₂.heap, slotsUsed := s₂.slotsUsed } : State).setVm s₂.vm := by
      have : s₂ = ({ s₂ with vm := (U.calling g mk a).vm } : State).setVm s₂.vm := rfl
      rw [e2] at this
      exact this
    have hf₂ : s₂.frames = .throwing q :: .java g :: U.frames.tail := hend
    have hW' : U.WarmedH s₂.vm := hW₂
    have hs₂ : s₂ = ((({ U with heap := s₂.heap, slotsUsed := s₂.slotsUsed } : State).setVm s₂.vm).setTop g).pushFrame (.throwing q) := by
      refine e3.trans ?_
      rw [hf₂, State.calling_eq h.top, State.setFrames_setFrames, State.pushFrame, State.frames_setTop _ hr', State.setTop_of_frames _ hr', State.setFrames_setFrames, hr]
      rfl
    have hsame : U.sameButNew ({ U with heap := s₂.heap, slotsUsed := s₂.slotsUsed } : State) L mc ms := by
      refine ⟨?_, q2, q3, q4, q5, q6⟩
      obtain ⟨t, ht, -⟩ := State.frames_cons hr
      show ({ U with heap := s₂.heap, slotsUsed := s₂.slotsUsed } : State) = { U.setFrames U.frames with heap := s₂.heap, slotsUsed := s₂.slotsUsed }
      rw [State.setFrames_self ht]
    subst hg
    refine Or.inr ⟨q, ⟨(({ U with heap := s₂.heap, slotsUsed := s₂.slotsUsed } : State).setVm s₂.vm), Ls ++ L, c0 + mc, s0 + ms⟩,
      ⟨X.admits, X.cas, X.clock, X.frames, X.room, X.hears, X.method, X.code, (X.here.setHeapUsed s₂.heap s₂.slotsUsed).setVm hW'.alike, X.tail, State.WarmedH.trans X.warmed hW', X.limits, X.bytes, X.same.trans (hsame.setVm s.vm)⟩,
      ⟨g, mk, s₂, L, E, ce, rfl, rfl, hx, hce, hcv, hcl, rfl, hL, rfl, rfl⟩, ?_⟩
    show Steps p.tables e below _ (((({ U with heap := s₂.heap, slotsUsed := s₂.slotsUsed } : State).setVm s₂.vm).setTop g).pushFrame (.throwing q))
    rw [← hs₂]
    exact hsteps
end Payer
section Calls
variable {p : Program} {l : Launch} {e : Env} {R : Room} {s : State} {m : MethodId} {args : Array Value} {below : List Frame} {meth : Method} {c : Code} {T : State} {locs : List Loc} {cells slots : Nat}
theorem vx_callV (X : Stand p l e R s m args below meth c T locs cells slots) (hexec : p.tables.exec = Jvm.exec) {own C : String} {index : Nat} {y : MethodName} {bytes : ByteArray} {maxL : Nat} {ret : Option FieldType}
    (hown : s.vm.findClass own = some m.cls) (hlink : (Cond.methodLink own index y).before args s = true) (hinst : (Cond.instanceMethod y).before args s = true) (hsel : (Cond.selects C y y).before args s = true)
    (hcode : (Cond.code y bytes maxL ret).before args s = true) (hy : y.cls ≠ "java/lang/invoke/MethodHandle" ∧ y.cls ≠ "java/lang/invoke/VarHandle")
    {W9 : Nat} {Pre : Pt → Array Value → Prop} {Post : Pt → Array Value → Option Value → Pt → Prop} {PostX : Pt → Array Value → Addr → Pt → Prop} (hK : vx_Back l R p e below s args y 3 W9 Pre Post PostX)
    {b : Addr} {cellB : Cell} (hcell : T.heap[b]? = some cellB) (hobj : cellB.vm.isStatics = false) (hcls : s.vm.findClass C = some cellB.cls)
    {g : JFrame} (hg : g.method = m) (hsize : g.locals.size = c.maxLocals) {argsL rest : List Value} (hlen : ∀ sig, parseMethodDescriptor y.desc = some sig → argsL.length = sig.parameters.length)
    (hstack : g.stack = argsL.reverse ++ .ref b :: rest) (hW : 2 * g.monitorRoom + (rest.map fun v => v.category).sum ≤ W9) (hdg : decode c.code g.pc = .ok (.invokevirtual index, 3))
    (hpre : ∀ vm₁, s.WarmedH vm₁ → Pre ⟨T.setVm vm₁, locs, cells, slots⟩ (Value.ref b :: argsL).toArray) :
    (∃ (v : Option Value) (vm₁ : Vm) (B : Pt), s.WarmedH vm₁ ∧ Stand p l e R s m args below meth c B.U B.locs B.cells B.slots ∧ Post ⟨T.setVm vm₁, locs, cells, slots⟩ (Value.ref b :: argsL).toArray v B ∧
      ∀ target, Steps p.tables e below (B.U.setTop { g with pc := g.pc + 3, stack := v.toList ++ rest }) target → Steps p.tables e below (T.setTop g) target) ∨
    (∃ (q : Addr) (vm₁ : Vm) (B : Pt), s.WarmedH vm₁ ∧ Stand p l e R s m args below meth c B.U B.locs B.cells B.slots ∧ PostX ⟨T.setVm vm₁, locs, cells, slots⟩ (Value.ref b :: argsL).toArray q B ∧
      Steps p.tables e below (T.setTop g) ((B.U.setTop { g with stack := rest }).pushFrame (.throwing q))) := by
  obtain ⟨mk, methM, hnamed, hmethM, hstM, habM⟩ := Cond.instanceMethod_spec hinst
  obtain ⟨methM', cM, hmethM', -, -, -, -, -, -, hsigM⟩ := Cond.code_spec hnamed hcode
  cases hmethM.symm.trans hmethM'
  obtain ⟨c2, r2, m2, q1, q2, q3, q4, kP, hkP, hkPi⟩ := Cond.selects_spec hsel
  cases hcls.symm.trans q1
  cases (State.methodFound?_of_named hnamed hy).symm.trans q2
  cases hnamed.symm.trans q3
  have hselP : selectMethod e.platform s.vm cellB.cls mk = .method mk := by rw [Launch.admits_selectMethod X.admits]; exact q4
  obtain ⟨vm₁, X₁, hstep₁⟩ := X.invokevirtual hexec hown hlink hnamed hmethM hstM hkP hkPi hy (a := b) (cell := cellB) hcell
    (fun z h => by rw [h] at hobj; cases hobj) hselP hmethM habM hkP hkPi (g := g) hg (argsL := argsL) (rest := rest) (hlen _ hsigM) hstack hdg
  rcases hK m meth c ⟨T.setVm vm₁, locs, cells, slots⟩ { g with stack := rest } (.invokevirtual index) mk (Value.ref b :: argsL).toArray X₁ hg hsize hdg hW (X₁.named hnamed) (hpre vm₁ X₁.warmed) with ⟨v, B, X', hpost, hsteps⟩ | ⟨q, B, X', hpost, hsteps⟩
  · exact Or.inl ⟨v, vm₁, B, X₁.warmed, X', hpost, fun target h => hstep₁ _ fun acts => by rw [doInvoke_state]; exact hsteps.trans h⟩
  · exact Or.inr ⟨q, vm₁, B, X₁.warmed, X', hpost, hstep₁ _ fun acts => by rw [doInvoke_state]; exact hsteps⟩
theorem vx_callS (X : Stand p l e R s m args below meth c T locs cells slots) (hexec : p.tables.exec = Jvm.exec) {own : String} {index : Nat} {y : MethodName} {bytes : ByteArray} {maxL : Nat} {ret : Option FieldType}
    (hown : s.vm.findClass own = some m.cls) (hlink : (Cond.methodLink own index y).before args s = true) (hstat : (Cond.static y).before args s = true) (hinit : (Cond.initialized y.cls).before args s = true)
    (hcode : (Cond.code y bytes maxL ret).before args s = true) (hy : y.cls ≠ "java/lang/invoke/MethodHandle" ∧ y.cls ≠ "java/lang/invoke/VarHandle")
    {W9 : Nat} {Pre : Pt → Array Value → Prop} {Post : Pt → Array Value → Option Value → Pt → Prop} {PostX : Pt → Array Value → Addr → Pt → Prop} (hK : vx_Back l R p e below s args y 3 W9 Pre Post PostX)
    {g : JFrame} (hg : g.method = m) (hsize : g.locals.size = c.maxLocals) {argsL rest : List Value} (hlen : ∀ sig, parseMethodDescriptor y.desc = some sig → argsL.length = sig.parameters.length)
    (hstack : g.stack = argsL.reverse ++ rest) (hW : 2 * g.monitorRoom + (rest.map fun v => v.category).sum ≤ W9) (hdg : decode c.code g.pc = .ok (.invokestatic index, 3))
    (hpre : ∀ vm₁, s.WarmedH vm₁ → Pre ⟨T.setVm vm₁, locs, cells, slots⟩ argsL.toArray) :
    (∃ (v : Option Value) (vm₁ : Vm) (B : Pt), s.WarmedH vm₁ ∧ Stand p l e R s m args below meth c B.U B.locs B.cells B.slots ∧ Post ⟨T.setVm vm₁, locs, cells, slots⟩ argsL.toArray v B ∧
      ∀ target, Steps p.tables e below (B.U.setTop { g with pc := g.pc + 3, stack := v.toList ++ rest }) target → Steps p.tables e below (T.setTop g) target) ∨
    (∃ (q : Addr) (vm₁ : Vm) (B : Pt), s.WarmedH vm₁ ∧ Stand p l e R s m args below meth c B.U B.locs B.cells B.slots ∧ PostX ⟨T.setVm vm₁, locs, cells, slots⟩ argsL.toArray q B ∧
      Steps p.tables e below (T.setTop g) ((B.U.setTop { g with stack := rest }).pushFrame (.throwing q))) := by
  obtain ⟨mk, hnamed⟩ := Cond.code_named hcode
  obtain ⟨methM, cM, hmethM, -, -, -, -, -, -, hsigM⟩ := Cond.code_spec hnamed hcode
  have hstatic : methM.isStatic = true := Cond.static_spec hnamed hmethM hstat
  obtain ⟨kP, hkP, -⟩ := className_of_methodNamed hnamed
  have hinitP : kP.init = .initialized := Cond.initialized_spec (findClass_of_methodNamed hnamed) hkP hinit
  obtain ⟨vm₁, X₁, hstep₁⟩ := X.invokestatic hexec hown hlink hnamed hmethM hstatic hkP hinitP hy (g := g) hg (argsL := argsL) (rest := rest) (hlen _ hsigM) hstack hdg
  rcases hK m meth c ⟨T.setVm vm₁, locs, cells, slots⟩ { g with stack := rest } (.invokestatic index) mk argsL.toArray X₁ hg hsize hdg hW (X₁.named hnamed) (hpre vm₁ X₁.warmed) with ⟨v, B, X', hpost, hsteps⟩ | ⟨q, B, X', hpost, hsteps⟩
  · exact Or.inl ⟨v, vm₁, B, X₁.warmed, X', hpost, fun target h => hstep₁ _ fun acts => by rw [doInvoke_state]; exact hsteps.trans h⟩
  · exact Or.inr ⟨q, vm₁, B, X₁.warmed, X', hpost, hstep₁ _ fun acts => by rw [doInvoke_state]; exact hsteps⟩
end Calls
theorem vx_cls {s : State} {T : State} {vm₁ : Vm} {E : String} {k : ClassId} (hW : s.WarmedH vm₁) (h : (T.setVm vm₁).vm.findClass E = some k) : s.vm.findClass E = some k := by
  have h1 : vm₁.findClass E = some k := h
  rw [hW.alike.findClass] at h1
  exact h1
/-- the method's frame g, with q thrown over it -/
def vx_W (p : Program) (l : Launch) (e : Env) (R : Room) (s : State) (m : MethodId) (args : Array Value) (below : List Frame) (meth : Method) (c : Code) (H : Heap) (locs : List Loc) (cells slots : Nat) (Q : State → Prop) (g : JFrame) (q : Addr) : Prop :=
  ∀ T : State, T.heap = H → Stand p l e R s m args below meth c T locs cells slots → ∃ t, Steps p.tables e below ((T.setTop g).pushFrame (.throwing q)) t ∧ Q t
def vx_Run (p : Program) (l : Launch) (e : Env) (R : Room) (s : State) (m : MethodId) (args : Array Value) (below : List Frame) (meth : Method) (c : Code) (H : Heap) (locs : List Loc) (cells slots mc ms : Nat) (g : JFrame) (rest : List Value) (Qa : State → Outcome → State → Prop) (XC : String → State → State → Prop) (free : Addr → Prop) : Prop :=
  ∀ T : State, T.heap = H → Stand p l e R s m args below meth c T locs cells slots →
    (∃ (v : Option Value) (st₀ t T' : State) (L : List Loc), st₀.heap = H ∧ Stand p l e R s m args below meth c T' (locs ++ L) (cells + mc) (slots + ms) ∧ (∀ q ∈ L, free q.base) ∧ T'.heap = t.heap ∧ T'.vm = t.vm ∧ Qa st₀ (.returned v) t ∧
      Goes p e below T g T' { g with pc := g.pc + 3, stack := v.toList ++ rest }) ∨
    (∃ (q : Addr) (st₀ t T' : State) (L : List Loc) (E : String) (ce : Cell), st₀.heap = H ∧ Stand p l e R s m args below meth c T' (locs ++ L) (cells + mc) (slots + ms) ∧ (∀ z ∈ L, free z.base) ∧ T'.heap = t.heap ∧ T'.vm = t.vm ∧ XC E st₀ t ∧ t.heap[q]? = some ce ∧ ce.vm = .none ∧ s.vm.findClass E = some ce.cls ∧
      Steps p.tables e below (T.setTop g) ((T'.setTop { g with stack := rest }).pushFrame (.throwing q)))
def vx_X {S : Type} (px : S → Prop) (B : String → S → State → Prop) (A : Nat → Prop) : String → State → State → Prop := fun E st t => ∃ u : S, px u ∧ B E u t ∧ va_F A st t
section Runs
variable {p : Program} {l : Launch} {e : Env} {R : Room} {s : State} {m : MethodId} {args : Array Value} {below : List Frame} {meth : Method} {c : Code} {H : Heap} {locs : List Loc} {cells slots : Nat}
variable {y : MethodName} {bytes cc : ByteArray} {maxL nL mc ms n index : Nat} {ret : Option FieldType} {ws : List Cond} {rm : Room} {Pc : Array Value → State → Prop} {Qc : Array Value → State → Outcome → State → Prop} {XC : String → State → State → Prop} {free : Addr → Prop} {Ts : List Cond} {own C : String} {b : Addr} {As rest : List Value} {g : JFrame}
theorem vx_callBack (cb : CallB R s args own index y bytes maxL ret ws rm mc ms n) (hM : vx_Met l y ws rm Pc Qc XC mc ms free) (hbl : FrameBlind Pc) : vx_Back l R p e below s args y 3 8 (PreOf R mc ms Pc) (PostOf Qc mc ms free) (vx_Post XC mc ms free) := by
  obtain ⟨hrc, hrs, hfr, hlo, hws, hcw, -, hini, -⟩ := cb
  exact vx_back (bytes := bytes) (maxL := maxL) (ret := ret) hM hbl hrc hrs hfr hlo hws hcw (fun a' U hW => word_at hW (Or.inl (by first | rfl | simp [Cond.onTables, Cond.keeps, Cond.steady])) hini)
theorem vx_runV (S : CallFix p m c cc nL s args Ts own) (hM : vx_Met l y ws rm Pc Qc XC mc ms free) (cw : CallW R s args own C index y bytes maxL ret ws rm mc ms n) (hp : PreV s H C b Pc As)
    (hg : g.method = m) (hn : As.length = n) (hsize : g.locals.size = nL) (hstack : g.stack = As.reverse ++ .ref b :: rest) (hW : 2 * g.monitorRoom + (rest.map fun v => v.category).sum ≤ 8) (hdg : decode cc g.pc = .ok (.invokevirtual index, 3)) (hf : cells + mc ≤ R.cells ∧ slots + ms ≤ R.slots) :
    vx_Run p l e R s m args below meth c H locs cells slots mc ms g rest (Qc (Value.ref b :: As).toArray) XC free := by
  have hK : vx_Back l R p e below s args y 3 8 (PreOf R mc ms Pc) (PostOf Qc mc ms free) (vx_Post XC mc ms free) := vx_callBack cw.1 hM hp.1
  obtain ⟨⟨-, -, -, -, -, -, hcode, -, hy, hlen, hl⟩, hin, hse⟩ := cw
  obtain ⟨hx, hb, hml, ho, -⟩ := S
  obtain ⟨-, ⟨cellB, hcB, hoB, hclB⟩, hPc⟩ := hp
  intro T hT X
  rcases vx_callV X hx (C := C) (bytes := bytes) (maxL := maxL) (ret := ret) ho hl hin hse hcode hy hK (by rw [hT]; exact hcB) hoB hclB hg (hsize.trans hml.symm) (argsL := As) (rest := rest) (fun sig h => hn.trans (hlen sig h)) hstack hW (by rw [hb]; exact hdg)
    (fun vm₁ hW₁ => ⟨hf.1, hf.2, hPc (T.setVm vm₁) hT hW₁⟩) with ⟨v, vm₁, ⟨U', l2, c2, s2⟩, hW₁, X', ⟨g', mk, t, L, e1, e2, hq, h1, hL, h2, h3⟩, st⟩ | ⟨q, vm₁, ⟨U', l2, c2, s2⟩, hW₁, X', ⟨g', mk, t, L, E, ce, e1, e2, hq, hce, hcv, hcl, h1, hL, h2, h3⟩, st⟩
  · dsimp only [Pt.U, Pt.locs, Pt.cells, Pt.slots] at X' e1 e2 h1 h2 h3 st
    subst h1; subst h2; subst h3
    exact Or.inl ⟨v, (T.setVm vm₁).calling g' mk (Value.ref b :: As).toArray, t, U', L, hT, X', hL, e1, e2, hq, st⟩
  · dsimp only [Pt.U, Pt.locs, Pt.cells, Pt.slots] at X' e1 e2 h1 h2 h3 st hcl
    subst h1; subst h2; subst h3
    exact Or.inr ⟨q, (T.setVm vm₁).calling g' mk (Value.ref b :: As).toArray, t, U', L, E, ce, hT, X', hL, e1, e2, hq, hce, hcv, vx_cls hW₁ hcl, st⟩
theorem vx_runS (S : CallFix p m c cc nL s args Ts own) (hM : vx_Met l y ws rm Pc Qc XC mc ms free) (cw : CallB R s args own index y bytes maxL ret ws rm mc ms n ∧ (Cond.static y).before args s = true) (hp : PreS s H Pc As)
    (hg : g.method = m) (hn : As.length = n) (hsize : g.locals.size = nL) (hstack : g.stack = As.reverse ++ rest) (hW : 2 * g.monitorRoom + (rest.map fun v => v.category).sum ≤ 8) (hdg : decode cc g.pc = .ok (.invokestatic index, 3)) (hf : cells + mc ≤ R.cells ∧ slots + ms ≤ R.slots) :
    vx_Run p l e R s m args below meth c H locs cells slots mc ms g rest (Qc As.toArray) XC free := by
  have hK : vx_Back l R p e below s args y 3 8 (PreOf R mc ms Pc) (PostOf Qc mc ms free) (vx_Post XC mc ms free) := vx_callBack cw.1 hM hp.1
  obtain ⟨⟨-, -, -, -, -, -, hcode, hini, hy, hlen, hl⟩, hstt⟩ := cw
  obtain ⟨hx, hb, hml, ho, -⟩ := S
  intro T hT X
  rcases vx_callS X hx (bytes := bytes) (maxL := maxL) (ret := ret) ho hl hstt hini hcode hy hK hg (hsize.trans hml.symm) (argsL := As) (rest := rest) (fun sig h => hn.trans (hlen sig h)) hstack hW (by rw [hb]; exact hdg)
    (fun vm₁ hW₁ => ⟨hf.1, hf.2, hp.2 (T.setVm vm₁) hT hW₁⟩) with ⟨v, vm₁, ⟨U', l2, c2, s2⟩, hW₁, X', ⟨g', mk, t, L, e1, e2, hq, h1, hL, h2, h3⟩, st⟩ | ⟨q, vm₁, ⟨U', l2, c2, s2⟩, hW₁, X', ⟨g', mk, t, L, E, ce, e1, e2, hq, hce, hcv, hcl, h1, hL, h2, h3⟩, st⟩
  · dsimp only [Pt.U, Pt.locs, Pt.cells, Pt.slots] at X' e1 e2 h1 h2 h3 st
    subst h1; subst h2; subst h3
    exact Or.inl ⟨v, (T.setVm vm₁).calling g' mk As.toArray, t, U', L, hT, X', hL, e1, e2, hq, st⟩
  · dsimp only [Pt.U, Pt.locs, Pt.cells, Pt.slots] at X' e1 e2 h1 h2 h3 st hcl
    subst h1; subst h2; subst h3
    exact Or.inr ⟨q, (T.setVm vm₁).calling g' mk As.toArray, t, U', L, E, ce, hT, X', hL, e1, e2, hq, hce, hcv, vx_cls hW₁ hcl, st⟩
end Runs
section Rows
variable {p : Program} {l : Launch} {e : Env} {R : Room} {s : State} {m : MethodId} {args : Array Value} {below : List Frame} {meth : Method} {c : Code} {H : Heap} {locs : List Loc} {cells slots : Nat} {Q : State → Prop}
variable {mc ms : Nat} {free : Addr → Prop} {A0 A1 : Nat → Prop} {H0 : Heap} {a : Array Value} {pc : Nat} {ls : Array Slot} {st0 rest : List Value}
theorem vx_keep {st₀ t T' : State} {L : List Loc} (h0 : st₀.heap = H) (e1 : T'.heap = t.heap) (hS : va_S A0 H0 H locs) (hA : ∀ q, q < H.size → A1 q → A0 q) (hf : ∀ q, free q → A0 q) (hL : ∀ q ∈ L, free q.base) (hF : va_F A1 st₀ t) :
    H.size ≤ T'.heap.size ∧ (∀ q : Nat, q < H.size → ¬ A1 q → T'.heap[q]? = H[q]?) ∧ va_S A0 H0 T'.heap (locs ++ L) := by
  obtain ⟨hz, hk⟩ := hF
  rw [h0] at hz hk
  exact ⟨by rw [e1]; exact hz, fun q h1 h2 => by rw [e1]; exact hk q h1 h2,
    ⟨Nat.le_trans hS.1 (by rw [e1]; exact hz), fun q h1 h2 => by rw [e1, hk q (Nat.lt_of_lt_of_le h1 hS.1) (fun z => h2 (hA q (Nat.lt_of_lt_of_le h1 hS.1) z))]; exact hS.2.1 q h1 h2, fun q hq => by
      rcases List.mem_append.mp hq with h | h
      · exact hS.2.2 q h
      · exact hf _ (hL q h)⟩⟩
theorem vx_calli {S SX : Type} {post : Int32 → S → Prop} {px : SX → Prop} {B : S → State → Prop} {BX : String → SX → State → Prop} {AX : Nat → Prop} (hr : vx_Run p l e R s m args below meth c H locs cells slots mc ms (F0 m pc ls st0) rest (va_Qi post B A1 a) (vx_X px BX AX) free) (hS : va_S A0 H0 H locs) (hA : ∀ q, q < H.size → A1 q → A0 q) (hf : ∀ q, free q → A0 q) (hAX : ∀ q, q < H.size → AX q → A0 q)
    (kx : ∀ (E : String) (ce : Cell) (q9 : Addr) (u : SX) (t : State) (H1 : Heap) (locs1 : List Loc), t.heap = H1 → s.vm.Alike t.vm → px u → BX E u t → H.size ≤ H1.size → (∀ q : Nat, q < H.size → ¬ AX q → H1[q]? = H[q]?) → va_S A0 H0 H1 locs1 → H1[q9]? = some ce → ce.vm = .none → s.vm.findClass E = some ce.cls → vx_W p l e R s m args below meth c H1 locs1 (cells + mc) (slots + ms) Q (F0 m pc ls rest) q9)
    (kk : ∀ (r : Int32) (u : S) (t : State) (H1 : Heap) (locs1 : List Loc), t.heap = H1 → s.vm.Alike t.vm → post r u → B u t → H.size ≤ H1.size → (∀ q : Nat, q < H.size → ¬ A1 q → H1[q]? = H[q]?) → va_S A0 H0 H1 locs1 → W p l e R s m args below meth c H1 locs1 (cells + mc) (slots + ms) Q (F0 m (pc + 3) ls (.int r :: rest))) : W p l e R s m args below meth c H locs cells slots Q (F0 m pc ls st0) := by
  intro T hT X
  rcases hr T hT X with ⟨v, st₀, t, T', L, h0, X', hL, e1, e2, ⟨⟨r, u, hv, hp, hb⟩, hF⟩, st⟩ | ⟨q, st₀, t, T', L, E, ce, h0, X', hL, e1, e2, ⟨u, hp, hb, hF⟩, hce, hcv, hcl, st⟩
  · cases hv
    obtain ⟨k1, k2, k3⟩ := vx_keep h0 e1 hS hA hf hL hF
    obtain ⟨t2, a1, b1⟩ := kk r u t T'.heap (locs ++ L) e1.symm (by rw [← e2]; exact X'.warmed.alike) hp hb k1 k2 k3 T' rfl X'
    exact ⟨t2, st t2 a1, b1⟩
  · obtain ⟨k1, k2, k3⟩ := vx_keep h0 e1 hS hAX hf hL hF
    obtain ⟨t2, a1, b1⟩ := kx E ce q u t T'.heap (locs ++ L) e1.symm (by rw [← e2]; exact X'.warmed.alike) hp hb k1 k2 k3 (by rw [e1]; exact hce) hcv hcl T' rfl X'
    exact ⟨t2, st.trans a1, b1⟩
theorem vx_calll {S SX : Type} {post : Int64 → S → Prop} {px : SX → Prop} {B : S → State → Prop} {BX : String → SX → State → Prop} {AX : Nat → Prop} (hr : vx_Run p l e R s m args below meth c H locs cells slots mc ms (F0 m pc ls st0) rest (va_Ql post B A1 a) (vx_X px BX AX) free) (hS : va_S A0 H0 H locs) (hA : ∀ q, q < H.size → A1 q → A0 q) (hf : ∀ q, free q → A0 q) (hAX : ∀ q, q < H.size → AX q → A0 q)
    (kx : ∀ (E : String) (ce : Cell) (q9 : Addr) (u : SX) (t : State) (H1 : Heap) (locs1 : List Loc), t.heap = H1 → s.vm.Alike t.vm → px u → BX E u t → H.size ≤ H1.size → (∀ q : Nat, q < H.size → ¬ AX q → H1[q]? = H[q]?) → va_S A0 H0 H1 locs1 → H1[q9]? = some ce → ce.vm = .none → s.vm.findClass E = some ce.cls → vx_W p l e R s m args below meth c H1 locs1 (cells + mc) (slots + ms) Q (F0 m pc ls rest) q9)
    (kk : ∀ (r : Int64) (u : S) (t : State) (H1 : Heap) (locs1 : List Loc), t.heap = H1 → s.vm.Alike t.vm → post r u → B u t → H.size ≤ H1.size → (∀ q : Nat, q < H.size → ¬ A1 q → H1[q]? = H[q]?) → va_S A0 H0 H1 locs1 → W p l e R s m args below meth c H1 locs1 (cells + mc) (slots + ms) Q (F0 m (pc + 3) ls (.long r :: rest))) : W p l e R s m args below meth c H locs cells slots Q (F0 m pc ls st0) := by
  intro T hT X
  rcases hr T hT X with ⟨v, st₀, t, T', L, h0, X', hL, e1, e2, ⟨⟨r, u, hv, hp, hb⟩, hF⟩, st⟩ | ⟨q, st₀, t, T', L, E, ce, h0, X', hL, e1, e2, ⟨u, hp, hb, hF⟩, hce, hcv, hcl, st⟩
  · cases hv
    obtain ⟨k1, k2, k3⟩ := vx_keep h0 e1 hS hA hf hL hF
    obtain ⟨t2, a1, b1⟩ := kk r u t T'.heap (locs ++ L) e1.symm (by rw [← e2]; exact X'.warmed.alike) hp hb k1 k2 k3 T' rfl X'
    exact ⟨t2, st t2 a1, b1⟩
  · obtain ⟨k1, k2, k3⟩ := vx_keep h0 e1 hS hAX hf hL hF
    obtain ⟨t2, a1, b1⟩ := kx E ce q u t T'.heap (locs ++ L) e1.symm (by rw [← e2]; exact X'.warmed.alike) hp hb k1 k2 k3 (by rw [e1]; exact hce) hcv hcl T' rfl X'
    exact ⟨t2, st.trans a1, b1⟩
theorem vx_callf {S SX : Type} {post : UInt32 → S → Prop} {px : SX → Prop} {B : S → State → Prop} {BX : String → SX → State → Prop} {AX : Nat → Prop} (hr : vx_Run p l e R s m args below meth c H locs cells slots mc ms (F0 m pc ls st0) rest (va_Qf post B A1 a) (vx_X px BX AX) free) (hS : va_S A0 H0 H locs) (hA : ∀ q, q < H.size → A1 q → A0 q) (hf : ∀ q, free q → A0 q) (hAX : ∀ q, q < H.size → AX q → A0 q)
    (kx : ∀ (E : String) (ce : Cell) (q9 : Addr) (u : SX) (t : State) (H1 : Heap) (locs1 : List Loc), t.heap = H1 → s.vm.Alike t.vm → px u → BX E u t → H.size ≤ H1.size → (∀ q : Nat, q < H.size → ¬ AX q → H1[q]? = H[q]?) → va_S A0 H0 H1 locs1 → H1[q9]? = some ce → ce.vm = .none → s.vm.findClass E = some ce.cls → vx_W p l e R s m args below meth c H1 locs1 (cells + mc) (slots + ms) Q (F0 m pc ls rest) q9)
    (kk : ∀ (r : UInt32) (u : S) (t : State) (H1 : Heap) (locs1 : List Loc), t.heap = H1 → s.vm.Alike t.vm → post r u → B u t → H.size ≤ H1.size → (∀ q : Nat, q < H.size → ¬ A1 q → H1[q]? = H[q]?) → va_S A0 H0 H1 locs1 → W p l e R s m args below meth c H1 locs1 (cells + mc) (slots + ms) Q (F0 m (pc + 3) ls (.float r :: rest))) : W p l e R s m args below meth c H locs cells slots Q (F0 m pc ls st0) := by
  intro T hT X
  rcases hr T hT X with ⟨v, st₀, t, T', L, h0, X', hL, e1, e2, ⟨⟨r, u, hv, hp, hb⟩, hF⟩, st⟩ | ⟨q, st₀, t, T', L, E, ce, h0, X', hL, e1, e2, ⟨u, hp, hb, hF⟩, hce, hcv, hcl, st⟩
  · cases hv
    obtain ⟨k1, k2, k3⟩ := vx_keep h0 e1 hS hA hf hL hF
    obtain ⟨t2, a1, b1⟩ := kk r u t T'.heap (locs ++ L) e1.symm (by rw [← e2]; exact X'.warmed.alike) hp hb k1 k2 k3 T' rfl X'
    exact ⟨t2, st t2 a1, b1⟩
  · obtain ⟨k1, k2, k3⟩ := vx_keep h0 e1 hS hAX hf hL hF
    obtain ⟨t2, a1, b1⟩ := kx E ce q u t T'.heap (locs ++ L) e1.symm (by rw [← e2]; exact X'.warmed.alike) hp hb k1 k2 k3 (by rw [e1]; exact hce) hcv hcl T' rfl X'
    exact ⟨t2, st.trans a1, b1⟩
theorem vx_calld {S SX : Type} {post : UInt64 → S → Prop} {px : SX → Prop} {B : S → State → Prop} {BX : String → SX → State → Prop} {AX : Nat → Prop} (hr : vx_Run p l e R s m args below meth c H locs cells slots mc ms (F0 m pc ls st0) rest (va_Qd post B A1 a) (vx_X px BX AX) free) (hS : va_S A0 H0 H locs) (hA : ∀ q, q < H.size → A1 q → A0 q) (hf : ∀ q, free q → A0 q) (hAX : ∀ q, q < H.size → AX q → A0 q)
    (kx : ∀ (E : String) (ce : Cell) (q9 : Addr) (u : SX) (t : State) (H1 : Heap) (locs1 : List Loc), t.heap = H1 → s.vm.Alike t.vm → px u → BX E u t → H.size ≤ H1.size → (∀ q : Nat, q < H.size → ¬ AX q → H1[q]? = H[q]?) → va_S A0 H0 H1 locs1 → H1[q9]? = some ce → ce.vm = .none → s.vm.findClass E = some ce.cls → vx_W p l e R s m args below meth c H1 locs1 (cells + mc) (slots + ms) Q (F0 m pc ls rest) q9)
    (kk : ∀ (r : UInt64) (u : S) (t : State) (H1 : Heap) (locs1 : List Loc), t.heap = H1 → s.vm.Alike t.vm → post r u → B u t → H.size ≤ H1.size → (∀ q : Nat, q < H.size → ¬ A1 q → H1[q]? = H[q]?) → va_S A0 H0 H1 locs1 → W p l e R s m args below meth c H1 locs1 (cells + mc) (slots + ms) Q (F0 m (pc + 3) ls (.double r :: rest))) : W p l e R s m args below meth c H locs cells slots Q (F0 m pc ls st0) := by
  intro T hT X
  rcases hr T hT X with ⟨v, st₀, t, T', L, h0, X', hL, e1, e2, ⟨⟨r, u, hv, hp, hb⟩, hF⟩, st⟩ | ⟨q, st₀, t, T', L, E, ce, h0, X', hL, e1, e2, ⟨u, hp, hb, hF⟩, hce, hcv, hcl, st⟩
  · cases hv
    obtain ⟨k1, k2, k3⟩ := vx_keep h0 e1 hS hA hf hL hF
    obtain ⟨t2, a1, b1⟩ := kk r u t T'.heap (locs ++ L) e1.symm (by rw [← e2]; exact X'.warmed.alike) hp hb k1 k2 k3 T' rfl X'
    exact ⟨t2, st t2 a1, b1⟩
  · obtain ⟨k1, k2, k3⟩ := vx_keep h0 e1 hS hAX hf hL hF
    obtain ⟨t2, a1, b1⟩ := kx E ce q u t T'.heap (locs ++ L) e1.symm (by rw [← e2]; exact X'.warmed.alike) hp hb k1 k2 k3 (by rw [e1]; exact hce) hcv hcl T' rfl X'
    exact ⟨t2, st.trans a1, b1⟩
theorem vx_callv {S SX : Type} {post : S → Prop} {px : SX → Prop} {B : S → State → Prop} {BX : String → SX → State → Prop} {AX : Nat → Prop} (hr : vx_Run p l e R s m args below meth c H locs cells slots mc ms (F0 m pc ls st0) rest (va_Qv post B A1 a) (vx_X px BX AX) free) (hS : va_S A0 H0 H locs) (hA : ∀ q, q < H.size → A1 q → A0 q) (hf : ∀ q, free q → A0 q) (hAX : ∀ q, q < H.size → AX q → A0 q)
    (kx : ∀ (E : String) (ce : Cell) (q9 : Addr) (u : SX) (t : State) (H1 : Heap) (locs1 : List Loc), t.heap = H1 → s.vm.Alike t.vm → px u → BX E u t → H.size ≤ H1.size → (∀ q : Nat, q < H.size → ¬ AX q → H1[q]? = H[q]?) → va_S A0 H0 H1 locs1 → H1[q9]? = some ce → ce.vm = .none → s.vm.findClass E = some ce.cls → vx_W p l e R s m args below meth c H1 locs1 (cells + mc) (slots + ms) Q (F0 m pc ls rest) q9)
    (kk : ∀ (u : S) (t : State) (H1 : Heap) (locs1 : List Loc), t.heap = H1 → s.vm.Alike t.vm → post u → B u t → H.size ≤ H1.size → (∀ q : Nat, q < H.size → ¬ A1 q → H1[q]? = H[q]?) → va_S A0 H0 H1 locs1 → W p l e R s m args below meth c H1 locs1 (cells + mc) (slots + ms) Q (F0 m (pc + 3) ls (rest))) : W p l e R s m args below meth c H locs cells slots Q (F0 m pc ls st0) := by
  intro T hT X
  rcases hr T hT X with ⟨v, st₀, t, T', L, h0, X', hL, e1, e2, ⟨⟨u, hv, hp, hb⟩, hF⟩, st⟩ | ⟨q, st₀, t, T', L, E, ce, h0, X', hL, e1, e2, ⟨u, hp, hb, hF⟩, hce, hcv, hcl, st⟩
  · cases hv
    obtain ⟨k1, k2, k3⟩ := vx_keep h0 e1 hS hA hf hL hF
    obtain ⟨t2, a1, b1⟩ := kk u t T'.heap (locs ++ L) e1.symm (by rw [← e2]; exact X'.warmed.alike) hp hb k1 k2 k3 T' rfl X'
    exact ⟨t2, st t2 a1, b1⟩
  · obtain ⟨k1, k2, k3⟩ := vx_keep h0 e1 hS hAX hf hL hF
    obtain ⟨t2, a1, b1⟩ := kx E ce q u t T'.heap (locs ++ L) e1.symm (by rw [← e2]; exact X'.warmed.alike) hp hb k1 k2 k3 (by rw [e1]; exact hce) hcv hcl T' rfl X'
    exact ⟨t2, st.trans a1, b1⟩
/-- caught by the row x of this method's table; the rows ahead don't take it -/
theorem vx_catch {own name : String} {E : String} {ce : Cell} {q : Addr} (hown : s.vm.findClass own = some m.cls) (pre : List ExceptionTableEntry) (x : ExceptionTableEntry) (suf : List ExceptionTableEntry) (hsplit : c.exceptionTable.toList = pre ++ x :: suf)
    (hpass : ∀ z ∈ pre, covers z pc = false ∨ (z.catchType ≠ 0 ∧ ∃ nm : String, (Cond.classLink own z.catchType nm).before args s = true ∧ va_Nc E nm s)) (hx : covers x pc = true) (h0 : x.catchType ≠ 0)
    (hlink : (Cond.classLink own x.catchType name).before args s = true) (hcast : (Cond.castable E name).before args s = true) (hcell : H[q]? = some ce) (hv : ce.vm = .none) (hcl : s.vm.findClass E = some ce.cls)
    (kk : W p l e R s m args below meth c H locs cells slots Q (F0 m x.handlerPc ls [.ref q])) : vx_W p l e R s m args below meth c H locs cells slots Q (F0 m pc ls rest) q := by
  intro T hT X
  have hpl : e.platform.magicAccessors = ({} : Platform).magicAccessors := by rw [X.admits.platform]
  obtain ⟨c3, c4, hc3, hc4, hasg⟩ := Cond.castable_spec hcast
  cases Option.some.inj (hc3.symm.trans hcl)
  obtain ⟨c5, hc5, hcl5⟩ := Cond.classLink_spec hown hlink e.platform hpl
  cases Option.some.inj (hc4.symm.trans hc5)
  obtain ⟨vm', X', st⟩ := X.thenCaughtThrough q (g := F0 m pc ls rest) rfl (Steps.refl _) (by rw [hT]; exact hcell) (by rw [hv]; rfl) (by obtain ⟨k9, h9, -⟩ := Vm.findClass_spec hcl; exact ⟨k9, h9⟩) pre x suf hsplit
    (fun z hz => by
      rcases hpass z hz with h | ⟨hz0, nm, hl1, hn1⟩
      · exact Or.inl h
      · obtain ⟨c6, hc6, hcl6⟩ := Cond.classLink_spec hown hl1 e.platform hpl
        obtain ⟨a8, b8, h1, h2, h3⟩ := hn1
        cases Option.some.inj (h1.symm.trans hcl)
        cases Option.some.inj (h2.symm.trans hc6)
        exact Or.inr ⟨hz0, _, hcl6, h3⟩) hx (Or.inr ⟨h0, c4, hcl5, hasg⟩)
  obtain ⟨t, a1, b1⟩ := kk (T.setVm vm') hT X'
  exact ⟨t, st.trans a1, b1⟩
end Rows
section Ends
variable {p : Program} {l : Launch} {e : Env} {R : Room} {s : State} {m : MethodId} {args : Array Value} {below : List Frame} {meth : Method} {c : Code} {H : Heap} {locs : List Loc} {cells slots : Nat} {Q : State → Prop}
variable {mc ms : Nat} {free : Addr → Prop} {A0 A1 : Nat → Prop} {H0 : Heap} {a : Array Value} {ls : Array Slot} {st0 rest : List Value}
variable {Qc : Array Value → State → Outcome → State → Prop} {XC : String → State → State → Prop}
/-- what a body that may throw owes at its end -/
def vx_MQ (below : List Frame) (Qc : Array Value → State → Outcome → State → Prop) (XC : String → State → State → Prop) (a : Array Value) (s : State) (mc ms : Nat) (free : Addr → Prop) : State → Prop := fun t =>
  ∃ o, t.status = .running ∧ Ended t below o ∧ vx_Q Qc XC mc ms free a s o t
theorem vx_ret {g : JFrame} {mc ms : Nat} (k : W p l e R s m args below meth c H locs cells slots (MQ below Qc args s mc ms free) g) : W p l e R s m args below meth c H locs cells slots (vx_MQ below Qc XC args s mc ms free) g := by
  intro T hT X
  obtain ⟨t, a1, o, b1, b2, b3, b4⟩ := k T hT X
  exact ⟨t, a1, o, b1, b2, Or.inl ⟨b3, b4⟩⟩
/-- not caught here: it goes on to the caller -/
theorem vx_widen {g : JFrame} {q : Addr} {k n : Nat} (h1 : cells ≤ k) (h2 : slots ≤ n) (kk : vx_W p l e R s m args below meth c H locs k n Q g q) : vx_W p l e R s m args below meth c H locs cells slots Q g q := fun T hT X => kk T hT (stand_widen X h1 h2)
theorem vx_out {pc : Nat} {E : String} {ce : Cell} {q : Addr} {mc ms : Nat} (hout : ∀ x ∈ c.exceptionTable.toList, covers x pc = false) (hlocks : meth.locks = false) (hcell : H[q]? = some ce) (hv : ce.vm = .none) (hcl : s.vm.findClass E = some ce.cls)
    (hx : ∀ t : State, t.heap = H → s.vm.Alike t.vm → XC E s t) (hf : ∀ z ∈ locs, free z.base) (hc : cells ≤ mc) (hs : slots ≤ ms) :
    vx_W p l e R s m args below meth c H locs cells slots (vx_MQ below Qc XC args s mc ms free) (F0 m pc ls rest) q := by
  intro T hT X
  obtain ⟨st1, hrun, hend, hW, hsm⟩ := X.leaveThrown q (g := F0 m pc ls rest) rfl rfl rfl hout hlocks
  have hcell9 : (T.setFrames (.throwing q :: below)).heap[q]? = some ce := by
    show T.heap[q]? = some ce
    rw [hT]; exact hcell
  exact ⟨_, st1, .threw q, hrun, hend, Or.inr ⟨q, rfl, E, ce, locs, hx _ hT hW.alike, hcell9, hv, hcl, hW, hsm.mono hc hs, hf⟩⟩
theorem vx_frame {U : State} {k n : Nat} (h : s.sameButNew ({ U with vm := s.vm } : State) locs k n) : s.heap.size ≤ U.heap.size ∧ ∀ q : Nat, q < s.heap.size → (∀ z ∈ locs, z.base ≠ q) → U.heap[q]? = s.heap[q]? := by
  obtain ⟨-, h2, -, -, -, h6⟩ := h
  refine ⟨h2, fun q hq hz => ?_⟩
  obtain ⟨c9, e1, e2, e3, e4⟩ := h6 q _ (Array.getElem?_eq_getElem hq)
  have hs : c9.slots = (s.heap[q]).slots := Array.ext_getElem? fun i => e4 i fun hm => hz _ hm rfl
  have h9 : c9 = s.heap[q] := by
    rw [hs] at e2
    exact e2
  have e5 : U.heap[q]? = some c9 := e1
  rw [e5, h9, Array.getElem?_eq_getElem hq]
/-- the words of a throw but the four that speak of the heap -/
def vx_no (w : Cond) : Bool := decide (w ≠ .isRef (.static Bundle.tN "UNASSIGNED_STACK" Bundle.steD)) && decide (w ≠ .isRef (.static Bundle.tN "SUPPRESSED_SENTINEL" Bundle.listD)) && decide (w ≠ .laysStatic Bundle.tN "UNASSIGNED_STACK" Bundle.steD) && decide (w ≠ .laysStatic Bundle.tN "SUPPRESSED_SENTINEL" Bundle.listD)
def vx_at0 (own : String) (ic : Nat) (X : String) (names : List String) : List Cond := (Bundle.ownAtoms0 own ic X names).filter vx_no
def vx_atS (own : String) (ic : Nat) (X : String) (names : List String) : List Cond := (Bundle.ownAtoms own ic X names).filter vx_no
/-- a word that the tables alone decide, or a good one -/
def vx_ot (w : Cond) : Bool := w.onTables || goodWord w
theorem vx_ot_at {args a' : Array Value} {s U : State} {w : Cond} (hW : s.WarmedH U.vm) (hvm : s.vm = U.vm) (hg : vx_ot w = true) (h : w.before args s = true) : w.before a' U = true := by
  simp only [vx_ot, Bool.or_eq_true] at hg
  rcases hg with hg | hg
  · exact va_tabs hg hvm h
  · exact word_at hW (good_of_word hg) h
/-- a list's words: the good ones out of the method's own list, the others by premises of their own -/
theorem vx_hat {args : Array Value} {s : State} {L B : List Cond} (h1 : ∀ w ∈ L.filter goodWord, w.before args s = true) (h2 : ∀ w ∈ L.filter (fun w => !goodWord w), w ∈ B) (h3 : ∀ w ∈ B, w.before args s = true) : ∀ w ∈ L, w.before args s = true := by
  intro w hw
  by_cases g : goodWord w = true
  · exact h1 w (List.mem_filter.mpr ⟨hw, g⟩)
  · refine h3 w (h2 w (List.mem_filter.mpr ⟨hw, ?_⟩))
    show (!goodWord w) = true
    cases hgw : goodWord w
    · rfl
    · exact absurd hgw g
theorem vx_c {args : Array Value} {s : State} {w : Cond} {B : List Cond} (h : w.before args s = true) (t : ∀ w ∈ B, w.before args s = true) : ∀ w' ∈ w :: B, w'.before args s = true := fun w' h' => (List.mem_cons.mp h').elim (fun e => by rw [e]; exact h) (t w')
theorem vx_n {args : Array Value} {s : State} : ∀ w ∈ ([] : List Cond), w.before args s = true := fun _ h => nomatch h
theorem vx_own {args : Array Value} {s : State} {L : List Cond} (h1 : ∀ w ∈ L.filter vx_no, w.before args s = true)
    (hU : (Cond.isRef (.static Bundle.tN "UNASSIGNED_STACK" Bundle.steD)).before args s = true) (hN : (Cond.isRef (.static Bundle.tN "SUPPRESSED_SENTINEL" Bundle.listD)).before args s = true)
    (lU : (Cond.laysStatic Bundle.tN "UNASSIGNED_STACK" Bundle.steD).before args s = true) (lN : (Cond.laysStatic Bundle.tN "SUPPRESSED_SENTINEL" Bundle.listD).before args s = true) : ∀ w ∈ L, w.before args s = true := by
  intro w hw
  by_cases e1 : w = .isRef (.static Bundle.tN "UNASSIGNED_STACK" Bundle.steD)
  · rw [e1]; exact hU
  · by_cases e2 : w = .isRef (.static Bundle.tN "SUPPRESSED_SENTINEL" Bundle.listD)
    · rw [e2]; exact hN
    · by_cases e3 : w = .laysStatic Bundle.tN "UNASSIGNED_STACK" Bundle.steD
      · rw [e3]; exact lU
      · by_cases e4 : w = .laysStatic Bundle.tN "SUPPRESSED_SENTINEL" Bundle.listD
        · rw [e4]; exact lN
        · exact h1 w (List.mem_filter.mpr ⟨hw, by unfold vx_no; rw [decide_eq_true e1, decide_eq_true e2, decide_eq_true e3, decide_eq_true e4]; rfl⟩)
/-- where a static field lies, its class's statics cell in H -/
def vx_L (C n d : String) (A : Nat → Prop) (U : State) (H : Heap) : Prop := ∃ (c : ClassId) (k : Class) (i : Nat) (f : Field) (a : Nat) (cell : Cell), U.vm.findClass C = some c ∧ U.fieldFound? C n d = some (c, k, i, f) ∧ f.isStatic = true ∧ k.statics = some a ∧ H[a]? = some cell ∧ cell.vm.isStatics = true ∧ cell.cls = c ∧ f.slot < cell.slots.size ∧ k.staticTypes[f.slot]? = some f.type ∧ ¬ A a
theorem vx_L.moved {C n d : String} {A : Nat → Prop} {u U : State} {H : Heap} (hvm : u.vm.Alike U.vm) (h : vx_L C n d A u H) : vx_L C n d A U H := by
  obtain ⟨c, k, i, f, a, cell, h1, h2, h3, h4, h5, h6, h7, h8, h9, h10⟩ := h
  obtain ⟨k', hi', he⟩ := State.fieldFound?_setVm hvm h2
  exact ⟨c, k', i, f, a, cell, by rw [hvm.findClass]; exact h1, hi', h3, by rw [he]; exact h4, h5, h6, h7, h8, by rw [he]; exact h9, h10⟩
theorem vx_L.kept {C n d : String} {A : Nat → Prop} {U : State} {H H1 : Heap} (h : vx_L C n d A U H) (hq : ∀ a : Nat, a < H.size → ¬ A a → H1[a]? = H[a]?) : vx_L C n d A U H1 := by
  obtain ⟨c, k, i, f, a, cell, h1, h2, h3, h4, h5, h6, h7, h8, h9, h10⟩ := h
  exact ⟨c, k, i, f, a, cell, h1, h2, h3, h4, by rw [hq a (Array.getElem?_eq_some_iff.mp h5).1 h10]; exact h5, h6, h7, h8, h9, h10⟩
theorem vx_L.narrow {C n d : String} {A B : Nat → Prop} {U : State} {H : Heap} (h : vx_L C n d A U H) (hAB : ∀ q, B q → A q) : vx_L C n d B U H := by
  obtain ⟨c, k, i, f, a, cell, h1, h2, h3, h4, h5, h6, h7, h8, h9, h10⟩ := h
  exact ⟨c, k, i, f, a, cell, h1, h2, h3, h4, h5, h6, h7, h8, h9, fun z => h10 (hAB _ z)⟩
theorem vx_L.word {C n d : String} {A : Nat → Prop} {s : State} {args : Array Value} (h : vx_L C n d A s s.heap) : (Cond.laysStatic C n d).before args s = true := by
  obtain ⟨c, k, i, f, a, cell, h1, h2, h3, h4, h5, h6, h7, h8, h9, -⟩ := h
  show (Cond.laysStatic C n d).holds args s none s [] = true
  exact Cond.laysStatic_of h1 h2 h3 h4 h5 h6 h7 h8 h9
/-- .. and what it holds: null or some reference -/
def vx_Zq (C n d : String) (A : Nat → Prop) (U : State) (H : Heap) : Prop := va_Zq C n d A U H ∧ vx_L C n d A U H
theorem vx_Zq.moved {C n d : String} {A : Nat → Prop} {u U : State} {H : Heap} (hvm : u.vm.Alike U.vm) (h : vx_Zq C n d A u H) : vx_Zq C n d A U H := ⟨va_Zq.moved hvm h.1, vx_L.moved hvm h.2⟩
theorem vx_Zq.kept {C n d : String} {A : Nat → Prop} {U : State} {H H1 : Heap} (h : vx_Zq C n d A U H) (hq : ∀ a : Nat, a < H.size → ¬ A a → H1[a]? = H[a]?) : vx_Zq C n d A U H1 := ⟨va_Zq.kept h.1 hq, vx_L.kept h.2 hq⟩
theorem vx_Zq.narrow {C n d : String} {A B : Nat → Prop} {U : State} {H : Heap} (h : vx_Zq C n d A U H) (hAB : ∀ q, B q → A q) : vx_Zq C n d B U H := ⟨va_Zq.narrow h.1 hAB, vx_L.narrow h.2 hAB⟩
theorem vx_Zqof {args : Array Value} {s : State} {C n d : String} {A : Nat → Prop} (hl : (Cond.laysStatic C n d).before args s = true) (hini : (Cond.initialized C).before args s = true) (h : (Cond.isRef (.static C n d)).before args s = true) (hA : ∀ a : Nat, a < s.heap.size → ¬ A a) : vx_Zq C n d A s s.heap := by
  refine ⟨va_Zqof hl hini h hA, ?_⟩
  obtain ⟨c, k, i, f, a, cell, h1, h2, h3, h4, h5, h6, h7, h8, h9⟩ := Cond.laysStatic_spec hl
  exact ⟨c, k, i, f, a, cell, h1, h2, h3, h4, h5, h6, h7, h8, h9, hA a (Array.getElem?_eq_some_iff.mp h5).1⟩
theorem vx_isRef {C n d : String} {v : Value} {A : Nat → Prop} {s : State} {args : Array Value} (h : va_Z C n d v A s s.heap) (hv : v.isRef = true) : (Cond.isRef (.static C n d)).before args s = true := by
  obtain ⟨cf, kf, fi, f, a, cell, h1, h2, h3, h4, h5, h6, h7, -⟩ := h
  have he : (Term.static C n d).eval args s none [] s = some v := by
    simp [Term.eval, State.fieldNamed?, h1, h2, h4, h5, h6, h7]
  simp only [Cond.before, Cond.holds, Cond.value, he]
  cases v <;> simp_all [Value.isRef]
theorem vx_isRefq {C n d : String} {A : Nat → Prop} {s : State} {args : Array Value} (h : va_Zq C n d A s s.heap) : (Cond.isRef (.static C n d)).before args s = true := by
  rcases h with h | ⟨t, h⟩
  · exact vx_isRef h rfl
  · exact vx_isRef h rfl
/-- the same frame, seen from here: as if the method were called anew in this heap -/
theorem vx_rebase {T : State} (X : Stand p l e R s m args below meth c T locs cells slots) {R' : Room} (hf : R'.frames ≤ R.frames) (hl : R'.locals ≤ R.locals) (hc : cells + R'.cells ≤ R.cells) (hs : slots + R'.slots ≤ R.slots) :
    Stand p l e R' ((T.setVm s.vm).setFrames (.invoking m args :: below)) m args below meth c T [] 0 0 := by
  have htop : (T.setVm s.vm).topJava?.isSome := X.here.top
  have hF : ((T.setVm s.vm).setFrames (.invoking m args :: below)).frames = .invoking m args :: below := State.frames_setFrames _ (State.cur_lt_of_top htop)
  obtain ⟨g₀, hg0⟩ := Option.isSome_iff_exists.mp htop
  obtain ⟨r, hr⟩ := State.topJava?_eq_some.mp hg0
  have hl9 : e.platform.stackLimits (T.setVm s.vm).me = e.platform.stackLimits s.me := X.limits
  have hb9 : (T.setVm s.vm).me.stackBytes = s.me.stackBytes := X.bytes
  refine ⟨X.admits, X.cas, X.clock, hF, ?_, X.hears, X.method, X.code, X.here, X.tail, X.warmed, ?_, ?_, ?_⟩
  · have h := X.room
    have hU : ((T.setVm s.vm).setFrames (.invoking m args :: below)).localsInUse = s.localsInUse := by
      rw [State.localsInUse_invoking hF (meth := meth) (c := c) X.method X.code, State.localsInUse_invoking X.frames X.method X.code]
    simp only [State.hasRoom, Bool.and_eq_true, decide_eq_true_eq] at h ⊢
    obtain ⟨⟨⟨⟨h1, h2, h3, h4, h5, h6⟩, h7⟩, h8⟩, h9⟩ := h
    rw [X.frames, List.length_cons] at h2 h3
    have q1 := X.heapSize
    have q2 := X.used
    simp only [hF, hU, List.length_cons, State.stackLimits_setFrames, State.stackBytes_setFrames, hl9, hb9]
    refine ⟨⟨⟨⟨by omega, by omega, by omega, by omega, by omega, h6⟩, ?_⟩, ?_⟩, X.book⟩
    · show T.heap.size + R'.cells ≤ e.platform.maxCells
      omega
    · show T.slotsUsed + R'.slots ≤ e.platform.maxSlots
      omega
  · rw [State.stackLimits_setFrames]; rfl
  · rw [State.stackBytes_setFrames]; rfl
  · refine ⟨?_, Nat.le_refl _, Nat.le_refl _, ?_, ?_, fun a c9 h9 => ⟨c9, h9, rfl, rfl, fun _ _ => rfl⟩⟩
    · obtain ⟨t, ht, -⟩ := State.frames_cons hr
      show T.setVm s.vm = { ((T.setVm s.vm).setFrames (.invoking m args :: below)).setFrames (T.setVm s.vm).frames with heap := T.heap, slotsUsed := T.slotsUsed }
      rw [State.setFrames_setFrames, State.setFrames_self ht]
      rfl
    · show T.slotsUsed = T.slotsUsed + ((T.heap.toList.drop T.heap.size).map (·.slots.size)).sum
      rw [List.drop_eq_nil_of_le (Nat.le_of_eq Array.length_toList)]
      rfl
    · show ((T.heap.toList.drop T.heap.size).map (·.slots.size)).sum ≤ 0
      rw [List.drop_eq_nil_of_le (Nat.le_of_eq Array.length_toList)]
      exact Nat.le_refl _
/-- 'throw new E()': new; dup; invokespecial; athrow -/
theorem vx_throw0 {cc : ByteArray} {pc : Nat} (hexec : p.tables.exec = Jvm.exec) (hb : c.code = cc) (hl : l.stackTraces = false) {own cls : String} {names : List String} {ik ic mc ms : Nat} {A : Nat → Prop}
    (hown : s.vm.findClass own = some m.cls) (hcls : Bundle.fit cls = true) (hnames : ∀ n ∈ names, Bundle.fit n = true)
    (hk : (Cond.classLink own ik cls).before args s = true) (hini : (Cond.initialized cls).before args s = true) (hat : ∀ w ∈ vx_at0 own ic cls names, w.before args s = true)
    (hgood : ∀ w ∈ Cond.classLink own ik cls :: Cond.initialized cls :: vx_at0 own ic cls names, vx_ot w = true)
    (hU : vx_Zq Bundle.tN "UNASSIGNED_STACK" Bundle.steD A s s.heap) (hN : vx_Zq Bundle.tN "SUPPRESSED_SENTINEL" Bundle.listD A s s.heap) (hS : va_S A s.heap H locs) (hsize : ls.size = c.maxLocals)
    (d0 : decode cc pc = .ok (.new ik, 3)) (d3 : decode cc (pc + 3) = .ok (.dup, 1)) (d4 : decode cc (pc + 4) = .ok (.invokespecial ic, 3)) (d7 : decode cc (pc + 7) = .ok (.athrow, 1))
    (hout : ∀ x ∈ c.exceptionTable.toList, covers x (pc + 7) = false)
    (hRframes : names.length + 3 < R.frames) (hRlocals : (rest.map fun v => v.category).sum + (13 * (names.length + 1) + 42) ≤ R.locals) (hRcells : cells + 1 ≤ R.cells) (hRslots : slots + 6 ≤ R.slots) (hlocks : meth.locks = false)
    (hx : ∀ t : State, s.vm.Alike t.vm → H.size ≤ t.heap.size → (∀ q : Nat, q < H.size → t.heap[q]? = H[q]?) → XC cls s t)
    (hf : ∀ z ∈ locs, free z.base) (hc : cells + 1 ≤ mc) (hs : slots + 6 ≤ ms) :
    W p l e R s m args below meth c H locs cells slots (vx_MQ below Qc XC args s mc ms free) (F0 m pc ls rest) := by
  intro T hT X
  have htr : e.platform.stackTraces = false := (show e.platform.stackTraces = l.stackTraces by rw [X.admits.platform]).trans hl
  have Y := vx_rebase X (R' := { frames := R.frames, locals := R.locals, cells := 1, slots := 6 }) (Nat.le_refl _) (Nat.le_refl _) hRcells hRslots
  obtain ⟨s', hA⟩ : ∃ z, z = (T.setVm s.vm).setFrames (.invoking m args :: below) := ⟨_, rfl⟩
  rw [← hA] at Y
  have hvm : s'.vm = s.vm := by rw [hA]; rfl
  have hhp : s'.heap = H := by rw [hA]; exact hT
  have hW0 : s.WarmedH s'.vm := by rw [hvm]; exact State.WarmedH.refl s
  have hat' : ∀ w ∈ vx_at0 own ic cls names, w.before args s' = true := fun w hw => vx_ot_at hW0 hvm.symm (hgood w (List.mem_cons_of_mem _ (List.mem_cons_of_mem _ hw))) (hat w hw)
  have hk' : (Cond.classLink own ik cls).before args s' = true := vx_ot_at hW0 hvm.symm (hgood _ List.mem_cons_self) hk
  have hini' : (Cond.initialized cls).before args s' = true := vx_ot_at hW0 hvm.symm (hgood _ (List.mem_cons_of_mem _ List.mem_cons_self)) hini
  have hU' : vx_Zq Bundle.tN "UNASSIGNED_STACK" Bundle.steD A s' s'.heap := by rw [hhp]; exact vx_Zq.moved hW0.alike (hU.kept hS.2.1)
  have hN' : vx_Zq Bundle.tN "SUPPRESSED_SENTINEL" Bundle.listD A s' s'.heap := by rw [hhp]; exact vx_Zq.moved hW0.alike (hN.kept hS.2.1)
  have h : ∀ w ∈ Bundle.ownAtoms0 own ic cls names, w.before args s' = true := vx_own hat' (vx_isRefq hU'.1) (vx_isRefq hN'.1) hU'.2.word hN'.2.word
  have hown' : s'.vm.findClass own = some m.cls := by rw [hvm]; exact hown
  have hins : (Cond.instantiable cls 6).before args s' = true := h _ (by simp [Bundle.ownAtoms0])
  obtain ⟨vm₁, cX, kX, hfX, hkX, -, -, X₁, st1⟩ := Y.newCold hexec (own := own) (C := cls) (index := ik) (n := 6) hown' hk' hins hini'
    (g := F0 m pc ls rest) rfl (by rw [hb]; exact d0) (Nat.le_refl _) (Nat.le_refl _)
  generalize hT1 : (T.setVm vm₁).pushCell { cls := cX, slots := kX.instanceTypes.map defaultValue, vm := .none } = T1 at X₁ st1
  have hcat : (Value.ref T.heap.size).category = 1 := rfl
  have hcellA : T1.heap[T.heap.size]? = some (freshCell cX kX) := by rw [← hT1]; exact State.heap_pushCell_size _ _
  have d3' : decode c.code (pc + 3) = .ok (.dup, 1) := by rw [hb]; exact d3
  obtain ⟨U, hsteps, hrun, hend, hW, hsame, ce, hce, hO⟩ := X₁.ctorThrow0 hexec htr (own := own) (cls := cls) (names := names) (ic := ic) hown' hcls hnames h (fun x hx => nomatch hx) hfX hkX hcellA (by rw [hhp, hT]; exact Nat.le_refl _)
    (g := { method := m, pc := pc + 4, locals := ls, stack := .ref T.heap.size :: .ref T.heap.size :: rest, locked := none }) rfl hsize rfl rfl (rest := rest) rfl
    (by rw [hb]; exact d4) (by rw [hb]; exact d7) hout hRframes (by simp only [List.map_cons, List.sum_cons, hcat]; omega) hlocks
  obtain ⟨f1, f2⟩ := vx_frame hsame
  rw [hhp] at f1 f2
  have hWs : s.WarmedH U.vm := State.WarmedH.trans hW0 hW
  have hcl : s.vm.findClass cls = some ce.cls := by
    have h9 := hO.cls
    rw [hvm] at h9
    exact h9
  have hall : s.sameButNew ({ U with vm := s.vm } : State) locs mc ms := by
    subst hA
    obtain ⟨e1, e2⟩ := hsame
    rw [State.setFrames_setFrames] at e1
    have h2 : (T.setVm s.vm).sameButNew ({ U with vm := s.vm } : State) [] (0 + 1) (0 + 6) := ⟨e1, e2⟩
    have h3 := X.same.trans h2
    rw [List.append_nil] at h3
    exact h3.mono hc hs
  refine ⟨U, ?_, .threw T.heap.size, hrun, hend, Or.inr ⟨T.heap.size, rfl, cls, ce, locs, hx U hWs.alike f1 (fun q hq => f2 q hq (fun z hz => nomatch hz)), hce, hO.vm, hcl, hWs, hall, hf⟩⟩
  refine st1 _ ?_
  show Steps p.tables e below (T1.setTop { method := m, pc := pc + 3, locals := ls, stack := .ref T.heap.size :: rest, locked := none }) _
  jvm_step X₁.here [X₁.here.top, hexec, d3', Value.category]
  exact hsteps
/-- 'throw new E("text")': new; dup; ldc; invokespecial; athrow -/
theorem vx_throwS {cc : ByteArray} {pc : Nat} (hexec : p.tables.exec = Jvm.exec) (hb : c.code = cc) (hl : l.stackTraces = false) {own cls text : String} {names : List String} {ik is ic mc ms sa : Nat} {A : Nat → Prop}
    (hown : s.vm.findClass own = some m.cls) (hcls : Bundle.fit cls = true) (hnames : ∀ n ∈ names, Bundle.fit n = true)
    (hk : (Cond.classLink own ik cls).before args s = true) (hini : (Cond.initialized cls).before args s = true) (hstr : vk_R own is text sa s) (hat : ∀ w ∈ vx_atS own ic cls names, w.before args s = true)
    (hgood : ∀ w ∈ Cond.classLink own ik cls :: Cond.initialized cls :: vx_atS own ic cls names, vx_ot w = true)
    (hU : vx_Zq Bundle.tN "UNASSIGNED_STACK" Bundle.steD A s s.heap) (hN : vx_Zq Bundle.tN "SUPPRESSED_SENTINEL" Bundle.listD A s s.heap) (hS : va_S A s.heap H locs) (hsize : ls.size = c.maxLocals)
    (d0 : decode cc pc = .ok (.new ik, 3)) (d3 : decode cc (pc + 3) = .ok (.dup, 1)) (d4 : decode cc (pc + 4) = .ok (.ldc is, 2)) (d6 : decode cc (pc + 6) = .ok (.invokespecial ic, 3)) (d9 : decode cc (pc + 9) = .ok (.athrow, 1))
    (hout : ∀ x ∈ c.exceptionTable.toList, covers x (pc + 9) = false)
    (hRframes : names.length + 3 < R.frames) (hRlocals : (rest.map fun v => v.category).sum + (13 * (names.length + 1) + 43) ≤ R.locals) (hRcells : cells + 1 ≤ R.cells) (hRslots : slots + 6 ≤ R.slots) (hlocks : meth.locks = false)
    (hx : ∀ t : State, s.vm.Alike t.vm → H.size ≤ t.heap.size → (∀ q : Nat, q < H.size → t.heap[q]? = H[q]?) → XC cls s t)
    (hf : ∀ z ∈ locs, free z.base) (hc : cells + 1 ≤ mc) (hs : slots + 6 ≤ ms) :
    W p l e R s m args below meth c H locs cells slots (vx_MQ below Qc XC args s mc ms free) (F0 m pc ls rest) := by
  intro T hT X
  have htr : e.platform.stackTraces = false := (show e.platform.stackTraces = l.stackTraces by rw [X.admits.platform]).trans hl
  have Y := vx_rebase X (R' := { frames := R.frames, locals := R.locals, cells := 1, slots := 6 }) (Nat.le_refl _) (Nat.le_refl _) hRcells hRslots
  obtain ⟨s', hA⟩ : ∃ z, z = (T.setVm s.vm).setFrames (.invoking m args :: below) := ⟨_, rfl⟩
  rw [← hA] at Y
  have hvm : s'.vm = s.vm := by rw [hA]; rfl
  have hhp : s'.heap = H := by rw [hA]; exact hT
  have hW0 : s.WarmedH s'.vm := by rw [hvm]; exact State.WarmedH.refl s
  have hat' : ∀ w ∈ vx_atS own ic cls names, w.before args s' = true := fun w hw => vx_ot_at hW0 hvm.symm (hgood w (List.mem_cons_of_mem _ (List.mem_cons_of_mem _ hw))) (hat w hw)
  have hk' : (Cond.classLink own ik cls).before args s' = true := vx_ot_at hW0 hvm.symm (hgood _ List.mem_cons_self) hk
  have hini' : (Cond.initialized cls).before args s' = true := vx_ot_at hW0 hvm.symm (hgood _ (List.mem_cons_of_mem _ List.mem_cons_self)) hini
  have hU' : vx_Zq Bundle.tN "UNASSIGNED_STACK" Bundle.steD A s' s'.heap := by rw [hhp]; exact vx_Zq.moved hW0.alike (hU.kept hS.2.1)
  have hN' : vx_Zq Bundle.tN "SUPPRESSED_SENTINEL" Bundle.listD A s' s'.heap := by rw [hhp]; exact vx_Zq.moved hW0.alike (hN.kept hS.2.1)
  have h : ∀ w ∈ Bundle.ownAtoms own ic cls names, w.before args s' = true := vx_own hat' (vx_isRefq hU'.1) (vx_isRefq hN'.1) hU'.2.word hN'.2.word
  have hown' : s'.vm.findClass own = some m.cls := by rw [hvm]; exact hown
  have hins : (Cond.instantiable cls 6).before args s' = true := h _ (by simp [Bundle.ownAtoms])
  obtain ⟨vm₁, cX, kX, hfX, hkX, -, -, X₁, st1⟩ := Y.newCold hexec (own := own) (C := cls) (index := ik) (n := 6) hown' hk' hins hini'
    (g := F0 m pc ls rest) rfl (by rw [hb]; exact d0) (Nat.le_refl _) (Nat.le_refl _)
  generalize hT1 : (T.setVm vm₁).pushCell { cls := cX, slots := kX.instanceTypes.map defaultValue, vm := .none } = T1 at X₁ st1
  have hcat : (Value.ref T.heap.size).category = 1 := rfl
  have hcellA : T1.heap[T.heap.size]? = some (freshCell cX kX) := by rw [← hT1]; exact State.heap_pushCell_size _ _
  have d3' : decode c.code (pc + 3) = .ok (.dup, 1) := by rw [hb]; exact d3
  have d4' : decode c.code (pc + 4) = .ok (.ldc is, 2) := by rw [hb]; exact d4
  have hstr' : vk_R own is text sa s' := vk_R.warm hW0 hstr
  obtain ⟨U, hsteps, hrun, hend, hW, hsame, ce, hce, hO⟩ := X₁.ctorThrowS hexec htr (own := own) (cls := cls) (names := names) (ic := ic) hown' hcls hnames h (fun x hx => nomatch hx) hfX hkX hcellA (by rw [hhp, hT]; exact Nat.le_refl _) (msg := .ref sa) rfl
    (g := { method := m, pc := pc + 6, locals := ls, stack := .ref sa :: .ref T.heap.size :: .ref T.heap.size :: rest, locked := none }) rfl hsize rfl rfl (rest := rest) rfl
    (by rw [hb]; exact d6) (by rw [hb]; exact d9) hout hRframes (by simp only [List.map_cons, List.sum_cons, hcat]; omega) hlocks
  obtain ⟨f1, f2⟩ := vx_frame hsame
  rw [hhp] at f1 f2
  have hWs : s.WarmedH U.vm := State.WarmedH.trans hW0 hW
  have hcl : s.vm.findClass cls = some ce.cls := by
    have h9 := hO.cls
    rw [hvm] at h9
    exact h9
  have hall : s.sameButNew ({ U with vm := s.vm } : State) locs mc ms := by
    subst hA
    obtain ⟨e1, e2⟩ := hsame
    rw [State.setFrames_setFrames] at e1
    have h2 : (T.setVm s.vm).sameButNew ({ U with vm := s.vm } : State) [] (0 + 1) (0 + 6) := ⟨e1, e2⟩
    have h3 := X.same.trans h2
    rw [List.append_nil] at h3
    exact h3.mono hc hs
  refine ⟨U, ?_, .threw T.heap.size, hrun, hend, Or.inr ⟨T.heap.size, rfl, cls, ce, locs, hx U hWs.alike f1 (fun q hq => f2 q hq (fun z hz => nomatch hz)), hce, hO.vm, hcl, hWs, hall, hf⟩⟩
  refine st1 _ ?_
  show Steps p.tables e below (T1.setTop { method := m, pc := pc + 3, locals := ls, stack := .ref T.heap.size :: rest, locked := none }) _
  jvm_step X₁.here [X₁.here.top, hexec, d3', Value.category]
  exact X₁.ldcString hexec (own := own) (text := text) (index := is) (a := sa) hown' hstr'.1 hstr'.2
    (g := { method := m, pc := pc + 4, locals := ls, stack := .ref T.heap.size :: .ref T.heap.size :: rest, locked := none }) rfl d4' _ hsteps
/-- 'throw new E("text")', the text by a wide index -/
theorem vx_throwSW {cc : ByteArray} {pc : Nat} (hexec : p.tables.exec = Jvm.exec) (hb : c.code = cc) (hl : l.stackTraces = false) {own cls text : String} {names : List String} {ik is ic mc ms sa : Nat} {A : Nat → Prop}
    (hown : s.vm.findClass own = some m.cls) (hcls : Bundle.fit cls = true) (hnames : ∀ n ∈ names, Bundle.fit n = true)
    (hk : (Cond.classLink own ik cls).before args s = true) (hini : (Cond.initialized cls).before args s = true) (hstr : vk_R own is text sa s) (hat : ∀ w ∈ vx_atS own ic cls names, w.before args s = true)
    (hgood : ∀ w ∈ Cond.classLink own ik cls :: Cond.initialized cls :: vx_atS own ic cls names, vx_ot w = true)
    (hU : vx_Zq Bundle.tN "UNASSIGNED_STACK" Bundle.steD A s s.heap) (hN : vx_Zq Bundle.tN "SUPPRESSED_SENTINEL" Bundle.listD A s s.heap) (hS : va_S A s.heap H locs) (hsize : ls.size = c.maxLocals)
    (d0 : decode cc pc = .ok (.new ik, 3)) (d3 : decode cc (pc + 3) = .ok (.dup, 1)) (d4 : decode cc (pc + 4) = .ok (.ldc_w is, 3)) (d7 : decode cc (pc + 7) = .ok (.invokespecial ic, 3)) (d10 : decode cc (pc + 10) = .ok (.athrow, 1))
    (hout : ∀ x ∈ c.exceptionTable.toList, covers x (pc + 10) = false)
    (hRframes : names.length + 3 < R.frames) (hRlocals : (rest.map fun v => v.category).sum + (13 * (names.length + 1) + 43) ≤ R.locals) (hRcells : cells + 1 ≤ R.cells) (hRslots : slots + 6 ≤ R.slots) (hlocks : meth.locks = false)
    (hx : ∀ t : State, s.vm.Alike t.vm → H.size ≤ t.heap.size → (∀ q : Nat, q < H.size → t.heap[q]? = H[q]?) → XC cls s t)
    (hf : ∀ z ∈ locs, free z.base) (hc : cells + 1 ≤ mc) (hs : slots + 6 ≤ ms) :
    W p l e R s m args below meth c H locs cells slots (vx_MQ below Qc XC args s mc ms free) (F0 m pc ls rest) := by
  intro T hT X
  have htr : e.platform.stackTraces = false := (show e.platform.stackTraces = l.stackTraces by rw [X.admits.platform]).trans hl
  have Y := vx_rebase X (R' := { frames := R.frames, locals := R.locals, cells := 1, slots := 6 }) (Nat.le_refl _) (Nat.le_refl _) hRcells hRslots
  obtain ⟨s', hA⟩ : ∃ z, z = (T.setVm s.vm).setFrames (.invoking m args :: below) := ⟨_, rfl⟩
  rw [← hA] at Y
  have hvm : s'.vm = s.vm := by rw [hA]; rfl
  have hhp : s'.heap = H := by rw [hA]; exact hT
  have hW0 : s.WarmedH s'.vm := by rw [hvm]; exact State.WarmedH.refl s
  have hat' : ∀ w ∈ vx_atS own ic cls names, w.before args s' = true := fun w hw => vx_ot_at hW0 hvm.symm (hgood w (List.mem_cons_of_mem _ (List.mem_cons_of_mem _ hw))) (hat w hw)
  have hk' : (Cond.classLink own ik cls).before args s' = true := vx_ot_at hW0 hvm.symm (hgood _ List.mem_cons_self) hk
  have hini' : (Cond.initialized cls).before args s' = true := vx_ot_at hW0 hvm.symm (hgood _ (List.mem_cons_of_mem _ List.mem_cons_self)) hini
  have hU' : vx_Zq Bundle.tN "UNASSIGNED_STACK" Bundle.steD A s' s'.heap := by rw [hhp]; exact vx_Zq.moved hW0.alike (hU.kept hS.2.1)
  have hN' : vx_Zq Bundle.tN "SUPPRESSED_SENTINEL" Bundle.listD A s' s'.heap := by rw [hhp]; exact vx_Zq.moved hW0.alike (hN.kept hS.2.1)
  have h : ∀ w ∈ Bundle.ownAtoms own ic cls names, w.before args s' = true := vx_own hat' (vx_isRefq hU'.1) (vx_isRefq hN'.1) hU'.2.word hN'.2.word
  have hown' : s'.vm.findClass own = some m.cls := by rw [hvm]; exact hown
  have hins : (Cond.instantiable cls 6).before args s' = true := h _ (by simp [Bundle.ownAtoms])
  obtain ⟨vm₁, cX, kX, hfX, hkX, -, -, X₁, st1⟩ := Y.newCold hexec (own := own) (C := cls) (index := ik) (n := 6) hown' hk' hins hini'
    (g := F0 m pc ls rest) rfl (by rw [hb]; exact d0) (Nat.le_refl _) (Nat.le_refl _)
  generalize hT1 : (T.setVm vm₁).pushCell { cls := cX, slots := kX.instanceTypes.map defaultValue, vm := .none } = T1 at X₁ st1
  have hcat : (Value.ref T.heap.size).category = 1 := rfl
  have hcellA : T1.heap[T.heap.size]? = some (freshCell cX kX) := by rw [← hT1]; exact State.heap_pushCell_size _ _
  have d3' : decode c.code (pc + 3) = .ok (.dup, 1) := by rw [hb]; exact d3
  have d4' : decode c.code (pc + 4) = .ok (.ldc_w is, 3) := by rw [hb]; exact d4
  have hstr' : vk_R own is text sa s' := vk_R.warm hW0 hstr
  obtain ⟨U, hsteps, hrun, hend, hW, hsame, ce, hce, hO⟩ := X₁.ctorThrowS hexec htr (own := own) (cls := cls) (names := names) (ic := ic) hown' hcls hnames h (fun x hx => nomatch hx) hfX hkX hcellA (by rw [hhp, hT]; exact Nat.le_refl _) (msg := .ref sa) rfl
    (g := { method := m, pc := pc + 7, locals := ls, stack := .ref sa :: .ref T.heap.size :: .ref T.heap.size :: rest, locked := none }) rfl hsize rfl rfl (rest := rest) rfl
    (by rw [hb]; exact d7) (by rw [hb]; exact d10) hout hRframes (by simp only [List.map_cons, List.sum_cons, hcat]; omega) hlocks
  obtain ⟨f1, f2⟩ := vx_frame hsame
  rw [hhp] at f1 f2
  have hWs : s.WarmedH U.vm := State.WarmedH.trans hW0 hW
  have hcl : s.vm.findClass cls = some ce.cls := by
    have h9 := hO.cls
    rw [hvm] at h9
    exact h9
  have hall : s.sameButNew ({ U with vm := s.vm } : State) locs mc ms := by
    subst hA
    obtain ⟨e1, e2⟩ := hsame
    rw [State.setFrames_setFrames] at e1
    have h2 : (T.setVm s.vm).sameButNew ({ U with vm := s.vm } : State) [] (0 + 1) (0 + 6) := ⟨e1, e2⟩
    have h3 := X.same.trans h2
    rw [List.append_nil] at h3
    exact h3.mono hc hs
  refine ⟨U, ?_, .threw T.heap.size, hrun, hend, Or.inr ⟨T.heap.size, rfl, cls, ce, locs, hx U hWs.alike f1 (fun q hq => f2 q hq (fun z hz => nomatch hz)), hce, hO.vm, hcl, hWs, hall, hf⟩⟩
  refine st1 _ ?_
  show Steps p.tables e below (T1.setTop { method := m, pc := pc + 3, locals := ls, stack := .ref T.heap.size :: rest, locked := none }) _
  jvm_step X₁.here [X₁.here.top, hexec, d3', Value.category]
  exact X₁.ldcStringW hexec (own := own) (text := text) (index := is) (a := sa) hown' hstr'.1 hstr'.2
    (g := { method := m, pc := pc + 4, locals := ls, stack := .ref T.heap.size :: .ref T.heap.size :: rest, locked := none }) rfl d4' _ hsteps
end Ends
section Bodies
variable {l : Launch}
theorem vx_ofW {y : MethodName} {ws ws' : List Cond} {rm : Room} {Pc : Array Value → State → Prop} {Qc : Array Value → State → Outcome → State → Prop} {XC : String → State → State → Prop} {mc ms : Nat} {free : Addr → Prop} {cc : ByteArray} {maxL : Nat} {ret : Option FieldType}
    (hy : plainName y.cls = true) (hw : ws = Cond.code y cc maxL ret :: ws')
    (body : ∀ p e s m args below meth c s₁, BodyLoose p l y (headSpec ws rm) cc maxL ret e s m args below meth c s₁ → c.maxLocals = maxL → (∀ x ∈ c.exceptionTable.toList, False) → Pc args s →
      W p l e (headSpec ws rm).room s m args below meth c s.heap [] 0 0 (vx_MQ below Qc XC args s mc ms free) (entryFrame m args maxL)) : vx_Met l y ws rm Pc Qc XC mc ms free := by
  refine MetFree.of_bodyS (code := cc) (maxLocals := maxL) (ret := ret) hy ?_ ?_
  · intro args s m h hn
    obtain ⟨meth, c, h1, h2, h3, h4, h5, h6, -, -⟩ := Cond.code_spec hn (atoms_spec (ws := ws) h _ (by rw [hw]; exact List.mem_cons_self))
    exact ⟨meth, c, h1, h2, h3, h4, h5, h6⟩
  · intro p e s m args below meth c s₁ B hml hP _
    have hh0 : s₁.heap = s.heap := by rw [B.state]; rfl
    have ht : ∀ x ∈ c.exceptionTable.toList, False := by
      obtain ⟨meth9, c9, h1, h2, -, -, -, -, h7, -⟩ := Cond.code_spec B.named (atoms_spec (ws := ws) B.pre _ (by rw [hw]; exact List.mem_cons_self))
      cases Option.some.inj (h1.symm.trans B.method)
      cases Option.some.inj (h2.symm.trans (Stand.of_body B).code)
      intro x hx
      rw [Array.isEmpty_iff.mp h7] at hx
      cases hx
    obtain ⟨t, a1, o, b1, b2, b3⟩ := body p e s m args below meth c s₁ B hml ht hP s₁ hh0 (Stand.of_body B)
    exact ⟨t, o, a1, b1, b2, b3⟩
/-- the table of a body with handlers -/
theorem vx_table {p : Program} {x y : MethodName} {S : Spec} {cc bytes : ByteArray} {maxL maxL' : Nat} {ret ret' : Option FieldType} {e : Env} {s s₁ : State} {m : MethodId} {args : Array Value} {below : List Frame} {meth : Method} {c : Code} {hh : List (Nat × Nat × Nat × Nat)}
    (B : BodyLoose p l y S cc maxL ret e s m args below meth c s₁) (h : (Cond.codeWith y bytes maxL' ret' hh).before args s = true) : c.exceptionTable.toList = tableOf hh := by
  obtain ⟨m9, meth9, c9, hn9, h1, h2, -, -, h6, -⟩ := Cond.codeWith_spec h
  cases Option.some.inj (hn9.symm.trans B.named)
  cases Option.some.inj (h1.symm.trans B.method)
  cases Option.some.inj (h2.symm.trans (Stand.of_body B).code)
  rw [← h6, table_eq]
end Bodies
end VXA
/-! ===== END ===== -/
/-! ===== BEGIN a static call of a method with an exception table ===== -/
section VXS
variable {p : Program} {l : Launch} {e : Env} {R : Room} {s : State} {m : MethodId} {args : Array Value} {below : List Frame} {meth : Method} {c : Code} {T : State} {H : Heap} {locs : List Loc} {cells slots : Nat}
abbrev vx_CSW (R : Room) (s : State) (args : Array Value) (own : String) (index : Nat) (y : MethodName) (bytes : ByteArray) (maxL : Nat) (ret : Option FieldType) (hh : List (Nat × Nat × Nat × Nat)) (ws : List Cond) (rm : Room) (mc ms n : Nat) : Prop :=
  (rm.cells = mc ∧ rm.slots = ms ∧ rm.frames + 1 ≤ R.frames ∧ 8 + (maxL + 11) + rm.locals ≤ R.locals ∧ (∀ w ∈ ws, ∀ (a' : Array Value) (U : State), s.WarmedH U.vm → w.before a' U = true) ∧ Cond.codeWith y bytes maxL ret hh ∈ ws) ∧
  (Cond.codeWith y bytes maxL ret hh).before args s = true ∧ (Cond.initialized y.cls).before args s = true ∧ (y.cls ≠ "java/lang/invoke/MethodHandle" ∧ y.cls ≠ "java/lang/invoke/VarHandle") ∧
  (∀ sig, parseMethodDescriptor y.desc = some sig → n = sig.parameters.length) ∧ (Cond.methodLink own index y).before args s = true ∧ (Cond.static y).before args s = true
theorem vx_cwSW {own : String} {index maxL mc ms : Nat} {y : MethodName} {bytes : ByteArray} {ret : Option FieldType} {hh : List (Nat × Nat × Nat × Nat)} {Ts ws ws' : List Cond} {rm : Room} (n : Nat) (ht : ∀ w ∈ Ts, w.before args s = true) (hT : GoodIn Ts (va_wsS own index y ws)) (hw : ws = Cond.codeWith y bytes maxL ret hh :: ws') (hrc : rm.cells = mc) (hrs : rm.slots = ms)
    (hd : y.cls ≠ "java/lang/invoke/MethodHandle" ∧ y.cls ≠ "java/lang/invoke/VarHandle" ∧ (parseMethodDescriptor y.desc).map (fun d => d.parameters.length) = some n) (hR : rm.frames + 1 ≤ R.frames ∧ 8 + (maxL + 11) + rm.locals ≤ R.locals) :
    vx_CSW R s args own index y bytes maxL ret hh ws rm mc ms n := by
  have ok : ∀ w ∈ va_wsS own index y ws, w.before args s = true := fun w h => ht w (hT w h).1
  have hG : GoodIn Ts ws := fun w h => hT w (by unfold va_wsS; exact List.mem_append_right _ h)
  have hc : Cond.codeWith y bytes maxL ret hh ∈ ws := by rw [hw]; exact List.mem_cons_self
  refine ⟨⟨hrc, hrs, hR.1, hR.2, pay_in ht hG, hc⟩, ht _ (hG _ hc).1, ok _ (by simp [va_wsS]), ⟨hd.1, hd.2.1⟩, fun sig h => ?_, ok _ (by simp [va_wsS]), ok _ (by simp [va_wsS])⟩
  have h2 := hd.2.2
  rw [h] at h2
  exact (Option.some.inj h2).symm
theorem vx_callSW (X : Stand p l e R s m args below meth c T locs cells slots) (hexec : p.tables.exec = Jvm.exec) {own : String} {index : Nat} {y : MethodName} {bytes : ByteArray} {maxL : Nat} {ret : Option FieldType} {hh : List (Nat × Nat × Nat × Nat)}
    (hown : s.vm.findClass own = some m.cls) (hlink : (Cond.methodLink own index y).before args s = true) (hstat : (Cond.static y).before args s = true) (hinit : (Cond.initialized y.cls).before args s = true)
    (hcode : (Cond.codeWith y bytes maxL ret hh).before args s = true) (hy : y.cls ≠ "java/lang/invoke/MethodHandle" ∧ y.cls ≠ "java/lang/invoke/VarHandle")
    {W9 : Nat} {Pre : Pt → Array Value → Prop} {Post : Pt → Array Value → Option Value → Pt → Prop} (hK : Back l R p e below s args y 3 W9 Pre Post)
    {g : JFrame} (hg : g.method = m) (hsize : g.locals.size = c.maxLocals) {argsL rest : List Value} (hlen : ∀ sig, parseMethodDescriptor y.desc = some sig → argsL.length = sig.parameters.length)
    (hstack : g.stack = argsL.reverse ++ rest) (hW : 2 * g.monitorRoom + (rest.map fun v => v.category).sum ≤ W9) (hdg : decode c.code g.pc = .ok (.invokestatic index, 3))
    (hpre : ∀ vm₁, s.WarmedH vm₁ → Pre ⟨T.setVm vm₁, locs, cells, slots⟩ argsL.toArray) :
    ∃ (v : Option Value) (vm₁ : Vm) (B : Pt), s.WarmedH vm₁ ∧ Stand p l e R s m args below meth c B.U B.locs B.cells B.slots ∧ Post ⟨T.setVm vm₁, locs, cells, slots⟩ argsL.toArray v B ∧
      ∀ target, Steps p.tables e below (B.U.setTop { g with pc := g.pc + 3, stack := v.toList ++ rest }) target → Steps p.tables e below (T.setTop g) target := by
  obtain ⟨mk, methM, cM, hnamed, hmethM, -, -, -, -, -, -, hsigM⟩ := Cond.codeWith_spec hcode
  have hstatic : methM.isStatic = true := Cond.static_spec hnamed hmethM hstat
  obtain ⟨kP, hkP, -⟩ := className_of_methodNamed hnamed
  have hinitP : kP.init = .initialized := Cond.initialized_spec (findClass_of_methodNamed hnamed) hkP hinit
  obtain ⟨vm₁, X₁, hstep₁⟩ := X.invokestatic hexec hown hlink hnamed hmethM hstatic hkP hinitP hy (g := g) hg (argsL := argsL) (rest := rest) (hlen _ hsigM) hstack hdg
  obtain ⟨v, B, X', hpost, hsteps⟩ := hK m meth c ⟨T.setVm vm₁, locs, cells, slots⟩ { g with stack := rest } (.invokestatic index) mk argsL.toArray X₁ hg hsize hdg hW (X₁.named hnamed) (hpre vm₁ X₁.warmed)
  exact ⟨v, vm₁, B, X₁.warmed, X', hpost, fun target h => hstep₁ _ fun acts => by rw [doInvoke_state]; exact hsteps.trans h⟩
theorem vx_runSW {y : MethodName} {bytes cc : ByteArray} {maxL nL mc ms n index : Nat} {ret : Option FieldType} {hh : List (Nat × Nat × Nat × Nat)} {ws : List Cond} {rm : Room} {Pc : Array Value → State → Prop} {Qc : Array Value → State → Outcome → State → Prop} {free : Addr → Prop} {Ts : List Cond} {own : String} {As rest : List Value} {g : JFrame}
    (S : CallFix p m c cc nL s args Ts own) (hM : Met l y ws rm Pc Qc mc ms free) (cw : vx_CSW R s args own index y bytes maxL ret hh ws rm mc ms n) (hp : PreS s H Pc As)
    (hg : g.method = m) (hn : As.length = n) (hsize : g.locals.size = nL) (hstack : g.stack = As.reverse ++ rest) (hW : 2 * g.monitorRoom + (rest.map fun v => v.category).sum ≤ 8) (hdg : decode cc g.pc = .ok (.invokestatic index, 3)) (hf : cells + mc ≤ R.cells ∧ slots + ms ≤ R.slots) :
    va_Run p l e R s m args below meth c H locs cells slots mc ms g rest (Qc As.toArray) (free) := by
  obtain ⟨⟨hrc, hrs, hfr, hlo, hws, hcw⟩, hcode, hini, hy, hlen, hl, hstt⟩ := cw
  have hK : Back l R p e below s args y 3 8 (PreOf R mc ms Pc) (PostOf Qc mc ms free) := va_backW (hh := hh) (bytes := bytes) (maxL := maxL) (ret := ret) hM hp.1 hrc hrs hfr hlo hws hcw (fun a' U hW => word_at hW (Or.inl (by first | rfl | simp [Cond.onTables, Cond.keeps, Cond.steady])) hini)
  obtain ⟨hx, hb, hml, ho, -⟩ := S
  intro T hT X
  obtain ⟨v, vm₁, ⟨U', l2, c2, s2⟩, hW₁, X', ⟨g', mk, t, L, e1, e2, hq, h1, hL, h2, h3⟩, st⟩ := vx_callSW X hx (hh := hh) (bytes := bytes) (maxL := maxL) (ret := ret) ho hl hstt hini hcode hy hK hg (hsize.trans hml.symm) (argsL := As) (rest := rest) (fun sig h => hn.trans (hlen sig h)) hstack hW (by rw [hb]; exact hdg)
    (fun vm₁ hW₁ => ⟨hf.1, hf.2, hp.2 (T.setVm vm₁) hT hW₁⟩)
  dsimp only [Pt.U, Pt.locs, Pt.cells, Pt.slots] at X' e1 e2 h1 h2 h3 st
  subst h1; subst h2; subst h3
  exact ⟨v, (T.setVm vm₁).calling g' mk As.toArray, t, U', L, hT, X', hL, e1, e2, hq, st⟩
/-- not caught here, past rows that name other classes: it goes on to the caller -/
theorem vx_outP {p : Program} {l : Launch} {e : Env} {R : Room} {s : State} {m : MethodId} {args : Array Value} {below : List Frame} {meth : Method} {c : Code} {H : Heap} {locs : List Loc} {cells slots : Nat} {free : Addr → Prop} {ls : Array Slot} {rest : List Value} {Qc : Array Value → State → Outcome → State → Prop} {XC : String → State → State → Prop}
    {pc : Nat} {own E : String} {ce : Cell} {q : Addr} {mc ms : Nat} (hown : s.vm.findClass own = some m.cls) (hlocks : meth.locks = false)
    (hpass : ∀ z ∈ c.exceptionTable.toList, covers z pc = false ∨ (z.catchType ≠ 0 ∧ ∃ nm : String, (Cond.classLink own z.catchType nm).before args s = true ∧ va_Nc E nm s)) (hcell : H[q]? = some ce) (hv : ce.vm = .none) (hcl : s.vm.findClass E = some ce.cls)
    (hx : ∀ t : State, t.heap = H → s.vm.Alike t.vm → XC E s t) (hf : ∀ z ∈ locs, free z.base) (hc : cells ≤ mc) (hs : slots ≤ ms) :
    vx_W p l e R s m args below meth c H locs cells slots (vx_MQ below Qc XC args s mc ms free) (F0 m pc ls rest) q := by
  intro T hT X
  have hpl : e.platform.magicAccessors = ({} : Platform).magicAccessors := by rw [X.admits.platform]
  obtain ⟨vm', hW', X', st⟩ := X.outThrough hlocks q (g := F0 m pc ls rest) rfl rfl rfl (cell := ce) (by rw [hT]; exact hcell) (by rw [hv]; rfl)
    (by obtain ⟨k9, h9, -⟩ := Vm.findClass_spec hcl; exact ⟨k9, h9⟩) (fun z hz => by
      rcases hpass z hz with h | ⟨hz0, nm, hl1, hn1⟩
      · exact Or.inl h
      · obtain ⟨c6, hc6, hcl6⟩ := Cond.classLink_spec hown hl1 e.platform hpl
        obtain ⟨a8, b8, h1, h2, h3⟩ := hn1
        cases Option.some.inj (h1.symm.trans hcl)
        cases Option.some.inj (h2.symm.trans hc6)
        exact Or.inr ⟨hz0, _, hcl6, h3⟩)
  obtain ⟨g₀, hfr⟩ := X'.frames_eq
  have hcell9 : ((T.setVm vm').setFrames (.throwing q :: below)).heap[q]? = some ce := by
    show T.heap[q]? = some ce
    rw [hT]; exact hcell
  have hend : Ended ((T.setVm vm').setFrames (.throwing q :: below)) below (.threw q) := State.frames_setFrames _ (State.cur_lt_of_frames hfr)
  refine ⟨(T.setVm vm').setFrames (.throwing q :: below), ?_, .threw q, X'.here.running, hend, Or.inr ⟨q, rfl, E, ce, locs, hx _ hT (X'.ends _).1.alike, hcell9, hv, hcl, (X'.ends _).1, (X'.ends _).2.mono hc hs, hf⟩⟩
  rw [X.pushThrowing_eq]
  exact st
/-- a thing of a world lies in the heap -/
theorem vx_lt {D : va_G} {cl : List vw_C} {ws : va_W} {H1 : Heap} (h : va_P D cl ws H1) {k : Nat} {q : Nat × va_E} (hk : ws[k]? = some q) : q.1 < H1.size := (h k q hk).lt
end VXS
/-! ===== END ===== -/
/-! ===== BEGIN methods with a table of their own: called by a name, returning or throwing ===== -/
section VXH
/-! vx_backW, vx_callVX, vx_callSX, vx_callVW, vx_runVW, vx_runVX, vx_runSX, vx_ofWH follow the same proofs as their sisters above (Free/Laws.lean, Shelf42/LK1.lean); vx_outP calls Shelf42/NT130.lean (outThrough). -/
section
variable {l : Launch} {R : Room} {p : Program} {e : Env} {below : List Frame} {s : State} {sargs : Array Value} {y : MethodName} {len W9 : Nat}
theorem vx_backW {ws : List Cond} {rm : Room} {Pc : Array Value → State → Prop} {Qc : Array Value → State → Outcome → State → Prop} {XC : String → State → State → Prop} {mc ms : Nat} {free : Addr → Prop} {bytes : ByteArray} {maxL : Nat} {ret : Option FieldType} {hh : List (Nat × Nat × Nat × Nat)}
    (hM : vx_Met l y ws rm Pc Qc XC mc ms free) (hblind : FrameBlind Pc) (hrc : rm.cells = mc) (hrs : rm.slots = ms)
    (hframes : rm.frames + 1 ≤ R.frames) (hlocals : W9 + (maxL + 11) + rm.locals ≤ R.locals)
    (hws : ∀ w ∈ ws, ∀ a' U, s.WarmedH U.vm → w.before a' U = true) (hcode : Cond.codeWith y bytes maxL ret hh ∈ ws) (hinit : ∀ a' U, s.WarmedH U.vm → (Cond.initialized y.cls).before a' U = true) :
    vx_Back l R p e below s sargs y len W9 (PreOf R mc ms Pc) (PostOf Qc mc ms free) (vx_Post XC mc ms free) := by
  intro m meth c A g ig mk a X hg hsize hdg hW hn hp
  have h1 : (headSpec ws rm).pre.before a A.U = true := atoms_intro fun w hw => hws w hw _ _ X.warmed
  have h2 : (Cond.codeWith y bytes maxL ret hh).before a A.U = true := hws _ hcode _ _ X.warmed
  have h3 : (Cond.initialized y.cls).before a A.U = true := hinit _ _ X.warmed
  have h4 : A.cells + (headSpec ws rm).room.cells ≤ R.cells := by rw [show (headSpec ws rm).room.cells = mc from hrc]; exact hp.1
  have h5 : A.slots + (headSpec ws rm).room.slots ≤ R.slots := by rw [show (headSpec ws rm).room.slots = ms from hrs]; exact hp.2.1
  have hPc : Pc a (A.U.calling g mk a) := hblind _ _ _ _ hp.2.2
  obtain ⟨U, Ls, c0, s0⟩ := A
  dsimp only [Pt.U, Pt.locs, Pt.cells, Pt.slots] at h1 h2 h3 h4 h5 X hn hPc ⊢
  obtain ⟨m9, methY, cY, hn9, hmY, hcY, -, hlY, -⟩ := Cond.codeWith_spec h2
  cases Option.some.inj (hn9.symm.trans hn)
  obtain ⟨kY, hkY, -⟩ := className_of_methodNamed hn
  have hinitY : kY.init = .initialized := Cond.initialized_spec (findClass_of_methodNamed hn) hkY h3
  have h : At U g.method c below := by rw [hg]; exact X.here
  have hlocals9 : W9 + (maxL + 11) + (headSpec ws rm).room.locals ≤ R.locals := hlocals
  have happ : (headSpec ws rm).appliesLoose y e.platform (U.calling g mk a) = true :=
    Spec.appliesLoose_calling (g := g) h hdg hn hkY hinitY
      (X.room_calling (g := g) (R' := (headSpec ws rm).room) hsize hmY hcY hframes (by rw [hlY]; omega) h4 h5) h1
  obtain ⟨mid, hmid⟩ := h.above
  have hfr : (U.setTop g).frames = (.java g :: mid) ++ below := by rw [State.frames_setTop' g h.top, hmid]; rfl
  obtain ⟨o, s₂, hsteps, -, hend, hq⟩ := Steps.callFree hM p X.admits X.cas X.clock (acts := []) hfr happ hPc trivial
  have hq' : vx_Q Qc XC mc ms free a (U.calling g mk a) o s₂ := hq
  rw [State.frames_setTop' g h.top] at hend
  obtain ⟨g₀, hg0⟩ := Option.isSome_iff_exists.mp h.top
  obtain ⟨r, hr⟩ := State.topJava?_eq_some.mp hg0
  have hr' : (({ U with heap := s₂.heap, slotsUsed := s₂.slotsUsed } : State).setVm s₂.vm).frames = .java g₀ :: r := hr
  rcases hq' with ⟨hqc, L, hfe, hL⟩ | ⟨q, rfl, E, ce, L, hx, hce, hcv, hcl, hW₂, hsm, hL⟩
  · obtain ⟨⟨v, rfl⟩, hW₂, e2, q2, q3, q4, q5, q6⟩ := id hfe
    have e3 : s₂ = ({ (U.calling g mk a).setFrames s₂.frames with heap := s₂.heap, slotsUsed := s₂.slotsUsed } : State).setVm s₂.vm := by
      have : s₂ = ({ s₂ with vm := (U.calling g mk a).vm } : State).setVm s₂.vm := rfl
      rw [e2] at this
      exact this
    obtain ⟨c₂, i₂, len₂, hc₂, hd₂, hf₂⟩ := hend
    have hW' : U.WarmedH s₂.vm := hW₂
    have hcc : c₂ = c := by
      have h1 : s₂.code? g.method = U.code? g.method := by
        rw [State.code?_eq, State.code?_eq, hW'.alike.method?]
      exact Option.some.inj (hc₂.symm.trans (h1.trans h.code))
    subst hcc
    have hlen : len₂ = len := by rw [hdg] at hd₂; cases hd₂; rfl
    subst hlen
    have hs₂ : s₂ = (({ U with heap := s₂.heap, slotsUsed := s₂.slotsUsed } : State).setVm s₂.vm).setTop { g with pc := g.pc + len₂, stack := v.toList ++ g.stack } := by
      refine e3.trans ?_
      rw [hf₂, State.calling_eq h.top, State.setFrames_setFrames, State.setTop_of_frames _ hr', hr]
      rfl
    have hsame : U.sameButNew ({ U with heap := s₂.heap, slotsUsed := s₂.slotsUsed } : State) L mc ms := by
      refine ⟨?_, q2, q3, q4, q5, q6⟩
      obtain ⟨t, ht, -⟩ := State.frames_cons hr
      show ({ U with heap := s₂.heap, slotsUsed := s₂.slotsUsed } : State) = { U.setFrames U.frames with heap := s₂.heap, slotsUsed := s₂.slotsUsed }
      rw [State.setFrames_self ht]
    subst hg
    refine Or.inl ⟨v, ⟨(({ U with heap := s₂.heap, slotsUsed := s₂.slotsUsed } : State).setVm s₂.vm), Ls ++ L, c0 + mc, s0 + ms⟩,
      ⟨X.admits, X.cas, X.clock, X.frames, X.room, X.hears, X.method, X.code, (X.here.setHeapUsed s₂.heap s₂.slotsUsed).setVm hW'.alike, X.tail, State.WarmedH.trans X.warmed hW', X.limits, X.bytes, X.same.trans (hsame.setVm s.vm)⟩,
      ⟨g, mk, s₂, L, rfl, rfl, hqc, rfl, hL, rfl, rfl⟩, ?_⟩
    show Steps p.tables e below _ ((({ U with heap := s₂.heap, slotsUsed := s₂.slotsUsed } : State).setVm s₂.vm).setTop { g with pc := g.pc + len₂, stack := v.toList ++ g.stack })
    rw [← hs₂]
    exact hsteps
  · obtain ⟨e2, q2, q3, q4, q5, q6⟩ := id hsm
    have e3 : s₂ = ({ (U.calling g mk a).setFrames s₂.frames with heap := s₂.heap, slotsUsed := s₂.slotsUsed } : State).setVm s₂.vm := by
      have : s₂ = ({ s₂ with vm := (U.calling g mk a).vm } : State).setVm s₂.vm := rfl
      rw [e2] at this
      exact this
    have hf₂ : s₂.frames = .throwing q :: .java g :: U.frames.tail := hend
    have hW' : U.WarmedH s₂.vm := hW₂
    have hs₂ : s₂ = ((({ U with heap := s₂.heap, slotsUsed := s₂.slotsUsed } : State).setVm s₂.vm).setTop g).pushFrame (.throwing q) := by
      refine e3.trans ?_
      rw [hf₂, State.calling_eq h.top, State.setFrames_setFrames, State.pushFrame, State.frames_setTop _ hr', State.setTop_of_frames _ hr', State.setFrames_setFrames, hr]
      rfl
    have hsame : U.sameButNew ({ U with heap := s₂.heap, slotsUsed := s₂.slotsUsed } : State) L mc ms := by
      refine ⟨?_, q2, q3, q4, q5, q6⟩
      obtain ⟨t, ht, -⟩ := State.frames_cons hr
      show ({ U with heap := s₂.heap, slotsUsed := s₂.slotsUsed } : State) = { U.setFrames U.frames with heap := s₂.heap, slotsUsed := s₂.slotsUsed }
      rw [State.setFrames_self ht]
    subst hg
    refine Or.inr ⟨q, ⟨(({ U with heap := s₂.heap, slotsUsed := s₂.slotsUsed } : State).setVm s₂.vm), Ls ++ L, c0 + mc, s0 + ms⟩,
      ⟨X.admits, X.cas, X.clock, X.frames, X.room, X.hears, X.method, X.code, (X.here.setHeapUsed s₂.heap s₂.slotsUsed).setVm hW'.alike, X.tail, State.WarmedH.trans X.warmed hW', X.limits, X.bytes, X.same.trans (hsame.setVm s.vm)⟩,
      ⟨g, mk, s₂, L, E, ce, rfl, rfl, hx, hce, hcv, hcl, rfl, hL, rfl, rfl⟩, ?_⟩
    show Steps p.tables e below _ (((({ U with heap := s₂.heap, slotsUsed := s₂.slotsUsed } : State).setVm s₂.vm).setTop g).pushFrame (.throwing q))
    rw [← hs₂]
    exact hsteps
end
variable {p : Program} {l : Launch} {e : Env} {R : Room} {s : State} {m : MethodId} {args : Array Value} {below : List Frame} {meth : Method} {c : Code} {T : State} {H : Heap} {locs : List Loc} {cells slots : Nat}
theorem vx_callVX (X : Stand p l e R s m args below meth c T locs cells slots) (hexec : p.tables.exec = Jvm.exec) {own C : String} {index : Nat} {y : MethodName} {bytes : ByteArray} {maxL : Nat} {ret : Option FieldType} {hh : List (Nat × Nat × Nat × Nat)}
    (hown : s.vm.findClass own = some m.cls) (hlink : (Cond.methodLink own index y).before args s = true) (hinst : (Cond.instanceMethod y).before args s = true) (hsel : (Cond.selects C y y).before args s = true)
    (hcode : (Cond.codeWith y bytes maxL ret hh).before args s = true) (hy : y.cls ≠ "java/lang/invoke/MethodHandle" ∧ y.cls ≠ "java/lang/invoke/VarHandle")
    {W9 : Nat} {Pre : Pt → Array Value → Prop} {Post : Pt → Array Value → Option Value → Pt → Prop} {PostX : Pt → Array Value → Addr → Pt → Prop} (hK : vx_Back l R p e below s args y 3 W9 Pre Post PostX)
    {b : Addr} {cellB : Cell} (hcell : T.heap[b]? = some cellB) (hobj : cellB.vm.isStatics = false) (hcls : s.vm.findClass C = some cellB.cls)
    {g : JFrame} (hg : g.method = m) (hsize : g.locals.size = c.maxLocals) {argsL rest : List Value} (hlen : ∀ sig, parseMethodDescriptor y.desc = some sig → argsL.length = sig.parameters.length)
    (hstack : g.stack = argsL.reverse ++ .ref b :: rest) (hW : 2 * g.monitorRoom + (rest.map fun v => v.category).sum ≤ W9) (hdg : decode c.code g.pc = .ok (.invokevirtual index, 3))
    (hpre : ∀ vm₁, s.WarmedH vm₁ → Pre ⟨T.setVm vm₁, locs, cells, slots⟩ (Value.ref b :: argsL).toArray) :
    (∃ (v : Option Value) (vm₁ : Vm) (B : Pt), s.WarmedH vm₁ ∧ Stand p l e R s m args below meth c B.U B.locs B.cells B.slots ∧ Post ⟨T.setVm vm₁, locs, cells, slots⟩ (Value.ref b :: argsL).toArray v B ∧
      ∀ target, Steps p.tables e below (B.U.setTop { g with pc := g.pc + 3, stack := v.toList ++ rest }) target → Steps p.tables e below (T.setTop g) target) ∨
    (∃ (q : Addr) (vm₁ : Vm) (B : Pt), s.WarmedH vm₁ ∧ Stand p l e R s m args below meth c B.U B.locs B.cells B.slots ∧ PostX ⟨T.setVm vm₁, locs, cells, slots⟩ (Value.ref b :: argsL).toArray q B ∧
      Steps p.tables e below (T.setTop g) ((B.U.setTop { g with stack := rest }).pushFrame (.throwing q))) := by
  obtain ⟨mk, methM, hnamed, hmethM, hstM, habM⟩ := Cond.instanceMethod_spec hinst
  obtain ⟨m8, methM', cM, hn8, hmethM', -, -, -, -, -, -, hsigM⟩ := Cond.codeWith_spec hcode
  cases Option.some.inj (hn8.symm.trans hnamed)
  cases hmethM.symm.trans hmethM'
  obtain ⟨c2, r2, m2, q1, q2, q3, q4, kP, hkP, hkPi⟩ := Cond.selects_spec hsel
  cases hcls.symm.trans q1
  cases (State.methodFound?_of_named hnamed hy).symm.trans q2
  cases hnamed.symm.trans q3
  have hselP : selectMethod e.platform s.vm cellB.cls mk = .method mk := by rw [Launch.admits_selectMethod X.admits]; exact q4
  obtain ⟨vm₁, X₁, hstep₁⟩ := X.invokevirtual hexec hown hlink hnamed hmethM hstM hkP hkPi hy (a := b) (cell := cellB) hcell
    (fun z h => by rw [h] at hobj; cases hobj) hselP hmethM habM hkP hkPi (g := g) hg (argsL := argsL) (rest := rest) (hlen _ hsigM) hstack hdg
  rcases hK m meth c ⟨T.setVm vm₁, locs, cells, slots⟩ { g with stack := rest } (.invokevirtual index) mk (Value.ref b :: argsL).toArray X₁ hg hsize hdg hW (X₁.named hnamed) (hpre vm₁ X₁.warmed) with ⟨v, B, X', hpost, hsteps⟩ | ⟨q, B, X', hpost, hsteps⟩
  · exact Or.inl ⟨v, vm₁, B, X₁.warmed, X', hpost, fun target h => hstep₁ _ fun acts => by rw [doInvoke_state]; exact hsteps.trans h⟩
  · exact Or.inr ⟨q, vm₁, B, X₁.warmed, X', hpost, hstep₁ _ fun acts => by rw [doInvoke_state]; exact hsteps⟩
theorem vx_callSX (X : Stand p l e R s m args below meth c T locs cells slots) (hexec : p.tables.exec = Jvm.exec) {own : String} {index : Nat} {y : MethodName} {bytes : ByteArray} {maxL : Nat} {ret : Option FieldType} {hh : List (Nat × Nat × Nat × Nat)}
    (hown : s.vm.findClass own = some m.cls) (hlink : (Cond.methodLink own index y).before args s = true) (hstat : (Cond.static y).before args s = true) (hinit : (Cond.initialized y.cls).before args s = true)
    (hcode : (Cond.codeWith y bytes maxL ret hh).before args s = true) (hy : y.cls ≠ "java/lang/invoke/MethodHandle" ∧ y.cls ≠ "java/lang/invoke/VarHandle")
    {W9 : Nat} {Pre : Pt → Array Value → Prop} {Post : Pt → Array Value → Option Value → Pt → Prop} {PostX : Pt → Array Value → Addr → Pt → Prop} (hK : vx_Back l R p e below s args y 3 W9 Pre Post PostX)
    {g : JFrame} (hg : g.method = m) (hsize : g.locals.size = c.maxLocals) {argsL rest : List Value} (hlen : ∀ sig, parseMethodDescriptor y.desc = some sig → argsL.length = sig.parameters.length)
    (hstack : g.stack = argsL.reverse ++ rest) (hW : 2 * g.monitorRoom + (rest.map fun v => v.category).sum ≤ W9) (hdg : decode c.code g.pc = .ok (.invokestatic index, 3))
    (hpre : ∀ vm₁, s.WarmedH vm₁ → Pre ⟨T.setVm vm₁, locs, cells, slots⟩ argsL.toArray) :
    (∃ (v : Option Value) (vm₁ : Vm) (B : Pt), s.WarmedH vm₁ ∧ Stand p l e R s m args below meth c B.U B.locs B.cells B.slots ∧ Post ⟨T.setVm vm₁, locs, cells, slots⟩ argsL.toArray v B ∧
      ∀ target, Steps p.tables e below (B.U.setTop { g with pc := g.pc + 3, stack := v.toList ++ rest }) target → Steps p.tables e below (T.setTop g) target) ∨
    (∃ (q : Addr) (vm₁ : Vm) (B : Pt), s.WarmedH vm₁ ∧ Stand p l e R s m args below meth c B.U B.locs B.cells B.slots ∧ PostX ⟨T.setVm vm₁, locs, cells, slots⟩ argsL.toArray q B ∧
      Steps p.tables e below (T.setTop g) ((B.U.setTop { g with stack := rest }).pushFrame (.throwing q))) := by
  obtain ⟨mk, methM, cM, hnamed, hmethM, -, -, -, -, -, -, hsigM⟩ := Cond.codeWith_spec hcode
  have hstatic : methM.isStatic = true := Cond.static_spec hnamed hmethM hstat
  obtain ⟨kP, hkP, -⟩ := className_of_methodNamed hnamed
  have hinitP : kP.init = .initialized := Cond.initialized_spec (findClass_of_methodNamed hnamed) hkP hinit
  obtain ⟨vm₁, X₁, hstep₁⟩ := X.invokestatic hexec hown hlink hnamed hmethM hstatic hkP hinitP hy (g := g) hg (argsL := argsL) (rest := rest) (hlen _ hsigM) hstack hdg
  rcases hK m meth c ⟨T.setVm vm₁, locs, cells, slots⟩ { g with stack := rest } (.invokestatic index) mk argsL.toArray X₁ hg hsize hdg hW (X₁.named hnamed) (hpre vm₁ X₁.warmed) with ⟨v, B, X', hpost, hsteps⟩ | ⟨q, B, X', hpost, hsteps⟩
  · exact Or.inl ⟨v, vm₁, B, X₁.warmed, X', hpost, fun target h => hstep₁ _ fun acts => by rw [doInvoke_state]; exact hsteps.trans h⟩
  · exact Or.inr ⟨q, vm₁, B, X₁.warmed, X', hpost, hstep₁ _ fun acts => by rw [doInvoke_state]; exact hsteps⟩
theorem vx_callVW (X : Stand p l e R s m args below meth c T locs cells slots) (hexec : p.tables.exec = Jvm.exec) {own C : String} {index : Nat} {y : MethodName} {bytes : ByteArray} {maxL : Nat} {ret : Option FieldType} {hh : List (Nat × Nat × Nat × Nat)}
    (hown : s.vm.findClass own = some m.cls) (hlink : (Cond.methodLink own index y).before args s = true) (hinst : (Cond.instanceMethod y).before args s = true) (hsel : (Cond.selects C y y).before args s = true)
    (hcode : (Cond.codeWith y bytes maxL ret hh).before args s = true) (hy : y.cls ≠ "java/lang/invoke/MethodHandle" ∧ y.cls ≠ "java/lang/invoke/VarHandle")
    {W9 : Nat} {Pre : Pt → Array Value → Prop} {Post : Pt → Array Value → Option Value → Pt → Prop} (hK : Back l R p e below s args y 3 W9 Pre Post)
    {b : Addr} {cellB : Cell} (hcell : T.heap[b]? = some cellB) (hobj : cellB.vm.isStatics = false) (hcls : s.vm.findClass C = some cellB.cls)
    {g : JFrame} (hg : g.method = m) (hsize : g.locals.size = c.maxLocals) {argsL rest : List Value} (hlen : ∀ sig, parseMethodDescriptor y.desc = some sig → argsL.length = sig.parameters.length)
    (hstack : g.stack = argsL.reverse ++ .ref b :: rest) (hW : 2 * g.monitorRoom + (rest.map fun v => v.category).sum ≤ W9) (hdg : decode c.code g.pc = .ok (.invokevirtual index, 3))
    (hpre : ∀ vm₁, s.WarmedH vm₁ → Pre ⟨T.setVm vm₁, locs, cells, slots⟩ (Value.ref b :: argsL).toArray) :
    ∃ (v : Option Value) (vm₁ : Vm) (B : Pt), s.WarmedH vm₁ ∧ Stand p l e R s m args below meth c B.U B.locs B.cells B.slots ∧ Post ⟨T.setVm vm₁, locs, cells, slots⟩ (Value.ref b :: argsL).toArray v B ∧
      ∀ target, Steps p.tables e below (B.U.setTop { g with pc := g.pc + 3, stack := v.toList ++ rest }) target → Steps p.tables e below (T.setTop g) target := by
  obtain ⟨mk, methM, hnamed, hmethM, hstM, habM⟩ := Cond.instanceMethod_spec hinst
  obtain ⟨m8, methM', cM, hn8, hmethM', -, -, -, -, -, -, hsigM⟩ := Cond.codeWith_spec hcode
  cases Option.some.inj (hn8.symm.trans hnamed)
  cases hmethM.symm.trans hmethM'
  obtain ⟨c2, r2, m2, q1, q2, q3, q4, kP, hkP, hkPi⟩ := Cond.selects_spec hsel
  cases hcls.symm.trans q1
  cases (State.methodFound?_of_named hnamed hy).symm.trans q2
  cases hnamed.symm.trans q3
  have hselP : selectMethod e.platform s.vm cellB.cls mk = .method mk := by rw [Launch.admits_selectMethod X.admits]; exact q4
  obtain ⟨vm₁, X₁, hstep₁⟩ := X.invokevirtual hexec hown hlink hnamed hmethM hstM hkP hkPi hy (a := b) (cell := cellB) hcell
    (fun z h => by rw [h] at hobj; cases hobj) hselP hmethM habM hkP hkPi (g := g) hg (argsL := argsL) (rest := rest) (hlen _ hsigM) hstack hdg
  obtain ⟨v, B, X', hpost, hsteps⟩ := hK m meth c ⟨T.setVm vm₁, locs, cells, slots⟩ { g with stack := rest } (.invokevirtual index) mk (Value.ref b :: argsL).toArray X₁ hg hsize hdg hW (X₁.named hnamed) (hpre vm₁ X₁.warmed)
  exact ⟨v, vm₁, B, X₁.warmed, X', hpost, fun target h => hstep₁ _ fun acts => by rw [doInvoke_state]; exact hsteps.trans h⟩
abbrev vx_CVW (R : Room) (s : State) (args : Array Value) (own C : String) (index : Nat) (y : MethodName) (bytes : ByteArray) (maxL : Nat) (ret : Option FieldType) (hh : List (Nat × Nat × Nat × Nat)) (ws : List Cond) (rm : Room) (mc ms n : Nat) : Prop :=
  (rm.cells = mc ∧ rm.slots = ms ∧ rm.frames + 1 ≤ R.frames ∧ 8 + (maxL + 11) + rm.locals ≤ R.locals ∧ (∀ w ∈ ws, ∀ (a' : Array Value) (U : State), s.WarmedH U.vm → w.before a' U = true) ∧ Cond.codeWith y bytes maxL ret hh ∈ ws) ∧
  (Cond.codeWith y bytes maxL ret hh).before args s = true ∧ (Cond.initialized y.cls).before args s = true ∧ (y.cls ≠ "java/lang/invoke/MethodHandle" ∧ y.cls ≠ "java/lang/invoke/VarHandle") ∧
  (∀ sig, parseMethodDescriptor y.desc = some sig → n = sig.parameters.length) ∧ (Cond.methodLink own index y).before args s = true ∧ (Cond.instanceMethod y).before args s = true ∧ (Cond.selects C y y).before args s = true
theorem vx_cwVW {own C : String} {index maxL mc ms : Nat} {y : MethodName} {bytes : ByteArray} {ret : Option FieldType} {hh : List (Nat × Nat × Nat × Nat)} {Ts ws ws' : List Cond} {rm : Room} (n : Nat) (ht : ∀ w ∈ Ts, w.before args s = true) (hT : GoodIn Ts (wsV own index C y ws)) (hw : ws = Cond.codeWith y bytes maxL ret hh :: ws') (hrc : rm.cells = mc) (hrs : rm.slots = ms)
    (hd : y.cls = C ∧ y.cls ≠ "java/lang/invoke/MethodHandle" ∧ y.cls ≠ "java/lang/invoke/VarHandle" ∧ (parseMethodDescriptor y.desc).map (fun d => d.parameters.length) = some n) (hR : rm.frames + 1 ≤ R.frames ∧ 8 + (maxL + 11) + rm.locals ≤ R.locals) :
    vx_CVW R s args own C index y bytes maxL ret hh ws rm mc ms n := by
  obtain ⟨hC, hd⟩ := hd
  subst hC
  have ok : ∀ w ∈ wsV own index y.cls y ws, w.before args s = true := fun w h => ht w (hT w h).1
  have hG : GoodIn Ts ws := fun w h => hT w (by unfold wsV; exact List.mem_append_right _ h)
  have hc : Cond.codeWith y bytes maxL ret hh ∈ ws := by rw [hw]; exact List.mem_cons_self
  refine ⟨⟨hrc, hrs, hR.1, hR.2, pay_in ht hG, hc⟩, ht _ (hG _ hc).1, ok _ (by simp [wsV]), ⟨hd.1, hd.2.1⟩, fun sig h => ?_, ok _ (by simp [wsV]), ok _ (by simp [wsV]), ok _ (by simp [wsV])⟩
  have h2 := hd.2.2
  rw [h] at h2
  exact (Option.some.inj h2).symm
theorem vx_runVW {y : MethodName} {bytes cc : ByteArray} {maxL nL mc ms n index : Nat} {ret : Option FieldType} {hh : List (Nat × Nat × Nat × Nat)} {ws : List Cond} {rm : Room} {Pc : Array Value → State → Prop} {Qc : Array Value → State → Outcome → State → Prop} {free : Addr → Prop} {Ts : List Cond} {own C : String} {b : Addr} {As rest : List Value} {g : JFrame}
    (S : CallFix p m c cc nL s args Ts own) (hM : Met l y ws rm Pc Qc mc ms free) (cw : vx_CVW R s args own C index y bytes maxL ret hh ws rm mc ms n) (hp : PreV s H C b Pc As)
    (hg : g.method = m) (hn : As.length = n) (hsize : g.locals.size = nL) (hstack : g.stack = As.reverse ++ .ref b :: rest) (hW : 2 * g.monitorRoom + (rest.map fun v => v.category).sum ≤ 8) (hdg : decode cc g.pc = .ok (.invokevirtual index, 3)) (hf : cells + mc ≤ R.cells ∧ slots + ms ≤ R.slots) :
    va_Run p l e R s m args below meth c H locs cells slots mc ms g rest (Qc (Value.ref b :: As).toArray) free := by
  obtain ⟨⟨hrc, hrs, hfr, hlo, hws, hcw⟩, hcode, hini, hy, hlen, hl, hin, hse⟩ := cw
  have hK : Back l R p e below s args y 3 8 (PreOf R mc ms Pc) (PostOf Qc mc ms free) := va_backW (hh := hh) (bytes := bytes) (maxL := maxL) (ret := ret) hM hp.1 hrc hrs hfr hlo hws hcw (fun a' U hW => word_at hW (Or.inl (by first | rfl | simp [Cond.onTables, Cond.keeps, Cond.steady])) hini)
  obtain ⟨hx, hb, hml, ho, -⟩ := S
  obtain ⟨-, ⟨cellB, hcB, hoB, hclB⟩, hPc⟩ := hp
  intro T hT X
  obtain ⟨v, vm₁, ⟨U', l2, c2, s2⟩, hW₁, X', ⟨g', mk, t, L, e1, e2, hq, h1, hL, h2, h3⟩, st⟩ := vx_callVW X hx (C := C) (hh := hh) (bytes := bytes) (maxL := maxL) (ret := ret) ho hl hin hse hcode hy hK (by rw [hT]; exact hcB) hoB hclB hg (hsize.trans hml.symm) (argsL := As) (rest := rest) (fun sig h => hn.trans (hlen sig h)) hstack hW (by rw [hb]; exact hdg)
    (fun vm₁ hW₁ => ⟨hf.1, hf.2, hPc (T.setVm vm₁) hT hW₁⟩)
  dsimp only [Pt.U, Pt.locs, Pt.cells, Pt.slots] at X' e1 e2 h1 h2 h3 st
  subst h1; subst h2; subst h3
  exact ⟨v, (T.setVm vm₁).calling g' mk (Value.ref b :: As).toArray, t, U', L, hT, X', hL, e1, e2, hq, st⟩
section
variable {y : MethodName} {bytes cc : ByteArray} {maxL nL mc ms n index : Nat} {ret : Option FieldType} {ws : List Cond} {rm : Room} {Pc : Array Value → State → Prop} {Qc : Array Value → State → Outcome → State → Prop} {XC : String → State → State → Prop} {free : Addr → Prop} {Ts : List Cond} {own C : String} {b : Addr} {As rest : List Value} {g : JFrame}
theorem vx_runVX {hh : List (Nat × Nat × Nat × Nat)} (S : CallFix p m c cc nL s args Ts own) (hM : vx_Met l y ws rm Pc Qc XC mc ms free) (cw : vx_CVW R s args own C index y bytes maxL ret hh ws rm mc ms n) (hp : PreV s H C b Pc As)
    (hg : g.method = m) (hn : As.length = n) (hsize : g.locals.size = nL) (hstack : g.stack = As.reverse ++ .ref b :: rest) (hW : 2 * g.monitorRoom + (rest.map fun v => v.category).sum ≤ 8) (hdg : decode cc g.pc = .ok (.invokevirtual index, 3)) (hf : cells + mc ≤ R.cells ∧ slots + ms ≤ R.slots) :
    vx_Run p l e R s m args below meth c H locs cells slots mc ms g rest (Qc (Value.ref b :: As).toArray) XC free := by
  obtain ⟨⟨hrc, hrs, hfr, hlo, hws, hcw⟩, hcode, hini, hy, hlen, hl, hin, hse⟩ := cw
  have hK : vx_Back l R p e below s args y 3 8 (PreOf R mc ms Pc) (PostOf Qc mc ms free) (vx_Post XC mc ms free) := vx_backW (hh := hh) (bytes := bytes) (maxL := maxL) (ret := ret) hM hp.1 hrc hrs hfr hlo hws hcw (fun a' U hW => word_at hW (Or.inl (by first | rfl | simp [Cond.onTables, Cond.keeps, Cond.steady])) hini)
  obtain ⟨hx, hb, hml, ho, -⟩ := S
  obtain ⟨-, ⟨cellB, hcB, hoB, hclB⟩, hPc⟩ := hp
  intro T hT X
  rcases vx_callVX X hx (C := C) (hh := hh) (bytes := bytes) (maxL := maxL) (ret := ret) ho hl hin hse hcode hy hK (by rw [hT]; exact hcB) hoB hclB hg (hsize.trans hml.symm) (argsL := As) (rest := rest) (fun sig h => hn.trans (hlen sig h)) hstack hW (by rw [hb]; exact hdg)
    (fun vm₁ hW₁ => ⟨hf.1, hf.2, hPc (T.setVm vm₁) hT hW₁⟩) with ⟨v, vm₁, ⟨U', l2, c2, s2⟩, hW₁, X', ⟨g', mk, t, L, e1, e2, hq, h1, hL, h2, h3⟩, st⟩ | ⟨q, vm₁, ⟨U', l2, c2, s2⟩, hW₁, X', ⟨g', mk, t, L, E, ce, e1, e2, hq, hce, hcv, hcl, h1, hL, h2, h3⟩, st⟩
  · dsimp only [Pt.U, Pt.locs, Pt.cells, Pt.slots] at X' e1 e2 h1 h2 h3 st
    subst h1; subst h2; subst h3
    exact Or.inl ⟨v, (T.setVm vm₁).calling g' mk (Value.ref b :: As).toArray, t, U', L, hT, X', hL, e1, e2, hq, st⟩
  · dsimp only [Pt.U, Pt.locs, Pt.cells, Pt.slots] at X' e1 e2 h1 h2 h3 st hcl
    subst h1; subst h2; subst h3
    exact Or.inr ⟨q, (T.setVm vm₁).calling g' mk (Value.ref b :: As).toArray, t, U', L, E, ce, hT, X', hL, e1, e2, hq, hce, hcv, vx_cls hW₁ hcl, st⟩
theorem vx_runSX {hh : List (Nat × Nat × Nat × Nat)} (S : CallFix p m c cc nL s args Ts own) (hM : vx_Met l y ws rm Pc Qc XC mc ms free) (cw : vx_CSW R s args own index y bytes maxL ret hh ws rm mc ms n) (hp : PreS s H Pc As)
    (hg : g.method = m) (hn : As.length = n) (hsize : g.locals.size = nL) (hstack : g.stack = As.reverse ++ rest) (hW : 2 * g.monitorRoom + (rest.map fun v => v.category).sum ≤ 8) (hdg : decode cc g.pc = .ok (.invokestatic index, 3)) (hf : cells + mc ≤ R.cells ∧ slots + ms ≤ R.slots) :
    vx_Run p l e R s m args below meth c H locs cells slots mc ms g rest (Qc As.toArray) XC free := by
  obtain ⟨⟨hrc, hrs, hfr, hlo, hws, hcw⟩, hcode, hini, hy, hlen, hl, hstt⟩ := cw
  have hK : vx_Back l R p e below s args y 3 8 (PreOf R mc ms Pc) (PostOf Qc mc ms free) (vx_Post XC mc ms free) := vx_backW (hh := hh) (bytes := bytes) (maxL := maxL) (ret := ret) hM hp.1 hrc hrs hfr hlo hws hcw (fun a' U hW => word_at hW (Or.inl (by first | rfl | simp [Cond.onTables, Cond.keeps, Cond.steady])) hini)
  obtain ⟨hx, hb, hml, ho, -⟩ := S
  intro T hT X
  rcases vx_callSX X hx (hh := hh) (bytes := bytes) (maxL := maxL) (ret := ret) ho hl hstt hini hcode hy hK hg (hsize.trans hml.symm) (argsL := As) (rest := rest) (fun sig h => hn.trans (hlen sig h)) hstack hW (by rw [hb]; exact hdg)
    (fun vm₁ hW₁ => ⟨hf.1, hf.2, hp.2 (T.setVm vm₁) hT hW₁⟩) with ⟨v, vm₁, ⟨U', l2, c2, s2⟩, hW₁, X', ⟨g', mk, t, L, e1, e2, hq, h1, hL, h2, h3⟩, st⟩ | ⟨q, vm₁, ⟨U', l2, c2, s2⟩, hW₁, X', ⟨g', mk, t, L, E, ce, e1, e2, hq, hce, hcv, hcl, h1, hL, h2, h3⟩, st⟩
  · dsimp only [Pt.U, Pt.locs, Pt.cells, Pt.slots] at X' e1 e2 h1 h2 h3 st
    subst h1; subst h2; subst h3
    exact Or.inl ⟨v, (T.setVm vm₁).calling g' mk As.toArray, t, U', L, hT, X', hL, e1, e2, hq, st⟩
  · dsimp only [Pt.U, Pt.locs, Pt.cells, Pt.slots] at X' e1 e2 h1 h2 h3 st hcl
    subst h1; subst h2; subst h3
    exact Or.inr ⟨q, (T.setVm vm₁).calling g' mk As.toArray, t, U', L, E, ce, hT, X', hL, e1, e2, hq, hce, hcv, vx_cls hW₁ hcl, st⟩
end
end VXH
theorem vx_ofWH {l : Launch} {y : MethodName} {ws ws' : List Cond} {rm : Room} {Pc : Array Value → State → Prop} {Qc : Array Value → State → Outcome → State → Prop} {XC : String → State → State → Prop} {mc ms : Nat} {free : Addr → Prop} {cc : ByteArray} {maxL : Nat} {ret : Option FieldType} {hh : List (Nat × Nat × Nat × Nat)}
    (hy : plainName y.cls = true) (hw : ws = Cond.codeWith y cc maxL ret hh :: ws')
    (body : ∀ p e s m args below meth c s₁, BodyLoose p l y (headSpec ws rm) cc maxL ret e s m args below meth c s₁ → c.maxLocals = maxL → Pc args s →
      W p l e (headSpec ws rm).room s m args below meth c s.heap [] 0 0 (vx_MQ below Qc XC args s mc ms free) (entryFrame m args maxL)) : vx_Met l y ws rm Pc Qc XC mc ms free := by
  refine MetFree.of_bodyS (code := cc) (maxLocals := maxL) (ret := ret) hy ?_ ?_
  · intro args s m h hn
    obtain ⟨m9, meth, c, hn9, h1, h2, h3, h4, -, h5, h6, -⟩ := Cond.codeWith_spec (atoms_spec (ws := ws) h _ (by rw [hw]; exact List.mem_cons_self))
    cases hn.symm.trans hn9
    exact ⟨meth, c, h1, h2, h3, h4, h5, h6⟩
  · intro p e s m args below meth c s₁ B hml hP _
    have hh0 : s₁.heap = s.heap := by rw [B.state]; rfl
    obtain ⟨t, a1, o, b1, b2, b3⟩ := body p e s m args below meth c s₁ B hml hP s₁ hh0 (Stand.of_body B)
    exact ⟨t, o, a1, b1, b2, b3⟩
/-! ===== END ===== -/
end
section
/-! NoSuchElementException(String) links its superclass's constructor at entry 13, not 7: its throw has words of its own -/
def gNs : String := "java/util/NoSuchElementException"
def gNsB : ByteArray := ⟨#[0x2a, 0x2b, 0xb7, 0x00, 0x0d, 0xb1]⟩
def gNsCh : List Cond := Bundle.passSAtoms gNs "java/lang/RuntimeException" 13 gNsB ++ Bundle.chainSAtoms "java/lang/RuntimeException" ["java/lang/Exception"]
def gNsOwn (own : String) (ic : Nat) : List Cond := [.methodLink own ic (Bundle.initS gNs), .instantiable gNs 6, .castable gNs gNs, .selects gNs Bundle.tFill0 Bundle.tFill0, .selects gNs Bundle.tFill Bundle.tFill,
  .lays gNs Bundle.tN "cause" "Ljava/lang/Throwable;", .lays gNs Bundle.tN "stackTrace" Bundle.steD, .lays gNs Bundle.tN "suppressedExceptions" Bundle.listD, .lays gNs Bundle.tN "detailMessage" "Ljava/lang/String;",
  .isRef (.static Bundle.tN "UNASSIGNED_STACK" Bundle.steD), .isRef (.static Bundle.tN "SUPPRESSED_SENTINEL" Bundle.listD),
  .fieldLink Bundle.tN 198 Bundle.tN "backtrace" "Ljava/lang/Object;", .lays Bundle.tN Bundle.tN "backtrace" "Ljava/lang/Object;", .lays gNs Bundle.tN "backtrace" "Ljava/lang/Object;"]
def gNsAll (own : String) (ic : Nat) : List Cond := Bundle.throwableAtoms ++ Bundle.throwableSAtoms ++ gNsCh ++ gNsOwn own ic
def gNsAt (own : String) (ic : Nat) : List Cond := (gNsAll own ic).filter vx_no
/-! ===== BEGIN printed: names, fields, word lists, decode rows ===== -/
def RX0 : String := "FoundRegister$Finds"
def TX0 : u_T := fun k => match k with
  | 0 => ("FoundRegister$Finds", "count", "I", false)
  | 1 => ("FoundRegister$Finds", "source", "[I", true)
  | 2 => ("FoundRegister$Finds", "cameOn", "[I", true)
  | 3 => ("FoundRegister$Finds", "struck", "[Z", true)
  | 4 => ("FoundRegister$Finds", "marks", "[[I", true)
  | 5 => ("FoundRegister$Finds", "attributes", "[[I", true)
  | _ => ("FoundRegister$Finds", "told", "[[I", true)
def tyX0 : Nat → FieldType := fun k => match k with
  | 0 => .int
  | 1 => .array .int
  | 2 => .array .int
  | 3 => .array .boolean
  | 4 => .array (.array .int)
  | 5 => .array (.array .int)
  | _ => .array (.array .int)
abbrev wsX00 : List Cond := u_ws RX0 TX0 7
theorem nmX0 : ∀ a, a < 7 → ∀ b, b < 7 → a ≠ b → (TX0 a).2.1 ≠ (TX0 b).2.1 := by decide +kernel
theorem tyX0_ok : ∀ k, k < 7 → parseFieldDescriptor (TX0 k).2.2.1 = some (tyX0 k) := by decide +kernel
abbrev cX0_init : ByteArray := prog_2_method_1_code
def yX0_init : MethodName := ⟨RX0, "<init>", "()V"⟩
abbrev cX0_take : ByteArray := prog_2_method_2_code
def yX0_take : MethodName := ⟨RX0, "take", "(II)I"⟩
abbrev cX0_putMarks : ByteArray := prog_2_method_3_code
def yX0_putMarks : MethodName := ⟨RX0, "putMarks", "(IIII)V"⟩
abbrev cX0_putAttributes : ByteArray := prog_2_method_4_code
def yX0_putAttributes : MethodName := ⟨RX0, "putAttributes", "(III)V"⟩
abbrev cX0_standsOn : ByteArray := prog_2_method_5_code
def yX0_standsOn : MethodName := ⟨RX0, "standsOn", "(IILFoundRegister$Sources;)Z"⟩
abbrev cX0_joined : ByteArray := prog_2_method_6_code
def yX0_joined : MethodName := ⟨RX0, "joined", "(II)Z"⟩
abbrev cX0_knowsSerial : ByteArray := prog_2_method_7_code
def yX0_knowsSerial : MethodName := ⟨RX0, "knowsSerial", "(I)Z"⟩
abbrev cX0_shareMark : ByteArray := prog_2_method_8_code
def yX0_shareMark : MethodName := ⟨RX0, "shareMark", "(III)Z"⟩
def RX1 : String := "FoundRegister$Links"
def TX1 : u_T := fun k => match k with
  | 0 => ("FoundRegister$Links", "count", "I", false)
  | 1 => ("FoundRegister$Links", "needing", "[I", true)
  | 2 => ("FoundRegister$Links", "needed", "[I", true)
  | 3 => ("FoundRegister$Links", "group", "[I", true)
  | _ => ("FoundRegister$Links", "failed", "[Z", true)
def tyX1 : Nat → FieldType := fun k => match k with
  | 0 => .int
  | 1 => .array .int
  | 2 => .array .int
  | 3 => .array .int
  | _ => .array .boolean
abbrev wsX10 : List Cond := u_ws RX1 TX1 5
theorem nmX1 : ∀ a, a < 5 → ∀ b, b < 5 → a ≠ b → (TX1 a).2.1 ≠ (TX1 b).2.1 := by decide +kernel
theorem tyX1_ok : ∀ k, k < 5 → parseFieldDescriptor (TX1 k).2.2.1 = some (tyX1 k) := by decide +kernel
abbrev cX1_init : ByteArray := prog_3_method_1_code
def yX1_init : MethodName := ⟨RX1, "<init>", "()V"⟩
abbrev cX1_add : ByteArray := prog_3_method_2_code
def yX1_add : MethodName := ⟨RX1, "add", "(III)V"⟩
abbrev cX1_failFrom : ByteArray := prog_3_method_3_code
def yX1_failFrom : MethodName := ⟨RX1, "failFrom", "(ILFoundRegister$Things;)V"⟩
abbrev cX1_failMore : ByteArray := prog_3_method_4_code
def yX1_failMore : MethodName := ⟨RX1, "failMore", "(LFoundRegister$Things;)Z"⟩
abbrev cX1_holds : ByteArray := prog_3_method_5_code
def yX1_holds : MethodName := ⟨RX1, "holds", "(ILFoundRegister$Things;)Z"⟩
abbrev cX1_lost : ByteArray := prog_3_method_6_code
def yX1_lost : MethodName := ⟨RX1, "lost", "(IILFoundRegister$Things;)Z"⟩
abbrev cX1_failures : ByteArray := prog_3_method_7_code
def yX1_failures : MethodName := ⟨RX1, "failures", "()I"⟩
def RX2 : String := "FoundRegister$Sources"
def TX2 : u_T := fun k => match k with
  | 0 => ("FoundRegister$Sources", "term", "[I", true)
  | _ => ("FoundRegister$Sources", "place", "[I", true)
def tyX2 : Nat → FieldType := fun k => match k with
  | 0 => .array .int
  | _ => .array .int
abbrev wsX20 : List Cond := u_ws RX2 TX2 2
theorem nmX2 : ∀ a, a < 2 → ∀ b, b < 2 → a ≠ b → (TX2 a).2.1 ≠ (TX2 b).2.1 := by decide +kernel
theorem tyX2_ok : ∀ k, k < 2 → parseFieldDescriptor (TX2 k).2.2.1 = some (tyX2 k) := by decide +kernel
abbrev cX2_init : ByteArray := prog_4_method_1_code
def yX2_init : MethodName := ⟨RX2, "<init>", "()V"⟩
abbrev cX2_moveToFront : ByteArray := prog_4_method_2_code
def yX2_moveToFront : MethodName := ⟨RX2, "moveToFront", "(I)I"⟩
def RX3 : String := "FoundRegister$Things"
def TX3 : u_T := fun k => match k with
  | 0 => ("FoundRegister$Things", "finds", "LFoundRegister$Finds;", true)
  | 1 => ("FoundRegister$Things", "sources", "LFoundRegister$Sources;", true)
  | _ => ("FoundRegister$Things", "ofFind", "[I", true)
def tyX3 : Nat → FieldType := fun k => match k with
  | 0 => .object "FoundRegister$Finds"
  | 1 => .object "FoundRegister$Sources"
  | _ => .array .int
abbrev wsX30 : List Cond := u_ws RX3 TX3 3
theorem nmX3 : ∀ a, a < 3 → ∀ b, b < 3 → a ≠ b → (TX3 a).2.1 ≠ (TX3 b).2.1 := by decide +kernel
theorem tyX3_ok : ∀ k, k < 3 → parseFieldDescriptor (TX3 k).2.2.1 = some (tyX3 k) := by decide +kernel
abbrev cX3_init : ByteArray := prog_5_method_1_code
def yX3_init : MethodName := ⟨RX3, "<init>", "(LFoundRegister$Finds;LFoundRegister$Sources;)V"⟩
abbrev cX3_sortFor : ByteArray := prog_5_method_2_code
def yX3_sortFor : MethodName := ⟨RX3, "sortFor", "(I)V"⟩
abbrev cX3_joinToEarlier : ByteArray := prog_5_method_3_code
def yX3_joinToEarlier : MethodName := ⟨RX3, "joinToEarlier", "(I)V"⟩
abbrev cX3_merge : ByteArray := prog_5_method_4_code
def yX3_merge : MethodName := ⟨RX3, "merge", "(II)V"⟩
abbrev cX3_isThing : ByteArray := prog_5_method_5_code
def yX3_isThing : MethodName := ⟨RX3, "isThing", "(I)Z"⟩
abbrev cX3_attributeOf : ByteArray := prog_5_method_6_code
def yX3_attributeOf : MethodName := ⟨RX3, "attributeOf", "(II)I"⟩
abbrev cX3_goesBefore : ByteArray := prog_5_method_7_code
def yX3_goesBefore : MethodName := ⟨RX3, "goesBefore", "(II)Z"⟩
abbrev cX3_hasUnlikeValues : ByteArray := prog_5_method_8_code
def yX3_hasUnlikeValues : MethodName := ⟨RX3, "hasUnlikeValues", "(II)Z"⟩
abbrev cX3_tells : ByteArray := prog_5_method_9_code
def yX3_tells : MethodName := ⟨RX3, "tells", "(III)Z"⟩
abbrev cX3_hasMark : ByteArray := prog_5_method_10_code
def yX3_hasMark : MethodName := ⟨RX3, "hasMark", "(III)Z"⟩
def RX4 : String := "FoundRegister$Wishes"
def TX4 : u_T := fun k => match k with
  | 0 => ("FoundRegister$Wishes", "count", "I", false)
  | 1 => ("FoundRegister$Wishes", "mark", "[I", true)
  | 2 => ("FoundRegister$Wishes", "markValue", "[I", true)
  | 3 => ("FoundRegister$Wishes", "attribute", "[I", true)
  | _ => ("FoundRegister$Wishes", "wished", "[I", true)
def tyX4 : Nat → FieldType := fun k => match k with
  | 0 => .int
  | 1 => .array .int
  | 2 => .array .int
  | 3 => .array .int
  | _ => .array .int
abbrev wsX40 : List Cond := u_ws RX4 TX4 5
theorem nmX4 : ∀ a, a < 5 → ∀ b, b < 5 → a ≠ b → (TX4 a).2.1 ≠ (TX4 b).2.1 := by decide +kernel
theorem tyX4_ok : ∀ k, k < 5 → parseFieldDescriptor (TX4 k).2.2.1 = some (tyX4 k) := by decide +kernel
abbrev cX4_init : ByteArray := prog_6_method_1_code
def yX4_init : MethodName := ⟨RX4, "<init>", "()V"⟩
abbrev cX4_add : ByteArray := prog_6_method_2_code
def yX4_add : MethodName := ⟨RX4, "add", "(IIII)I"⟩
abbrev cX4_isMissedBy : ByteArray := prog_6_method_3_code
def yX4_isMissedBy : MethodName := ⟨RX4, "isMissedBy", "(IILFoundRegister$Things;)Z"⟩
def RX5 : String := "FoundRegister"
def TX5 : u_T := fun k => match k with
  | 0 => ("FoundRegister", "presentDay", "I", false)
  | 1 => ("FoundRegister", "sources", "LFoundRegister$Sources;", true)
  | 2 => ("FoundRegister", "finds", "LFoundRegister$Finds;", true)
  | 3 => ("FoundRegister", "links", "LFoundRegister$Links;", true)
  | 4 => ("FoundRegister", "wishes", "LFoundRegister$Wishes;", true)
  | 5 => ("FoundRegister", "ofDay", "LFoundRegister$Things;", true)
  | _ => ("FoundRegister", "ofOtherDay", "LFoundRegister$Things;", true)
def tyX5 : Nat → FieldType := fun k => match k with
  | 0 => .int
  | 1 => .object "FoundRegister$Sources"
  | 2 => .object "FoundRegister$Finds"
  | 3 => .object "FoundRegister$Links"
  | 4 => .object "FoundRegister$Wishes"
  | 5 => .object "FoundRegister$Things"
  | _ => .object "FoundRegister$Things"
abbrev wsX50 : List Cond := u_ws RX5 TX5 7
theorem nmX5 : ∀ a, a < 7 → ∀ b, b < 7 → a ≠ b → (TX5 a).2.1 ≠ (TX5 b).2.1 := by decide +kernel
theorem tyX5_ok : ∀ k, k < 7 → parseFieldDescriptor (TX5 k).2.2.1 = some (tyX5 k) := by decide +kernel
abbrev cX5_init : ByteArray := prog_1_method_1_code
def yX5_init : MethodName := ⟨RX5, "<init>", "()V"⟩
abbrev cX5_pass : ByteArray := prog_1_method_2_code
def yX5_pass : MethodName := ⟨RX5, "pass", "(I)I"⟩
abbrev cX5_today : ByteArray := prog_1_method_3_code
def yX5_today : MethodName := ⟨RX5, "today", "()I"⟩
abbrev cX5_setTerm : ByteArray := prog_1_method_4_code
def yX5_setTerm : MethodName := ⟨RX5, "setTerm", "(II)I"⟩
abbrev cX5_putFirst : ByteArray := prog_1_method_5_code
def yX5_putFirst : MethodName := ⟨RX5, "putFirst", "(I)I"⟩
abbrev cX5_find : ByteArray := prog_1_method_6_code
def yX5_find : MethodName := ⟨RX5, "find", "(IIIIII)I"⟩
abbrev cX5_strike : ByteArray := prog_1_method_7_code
def yX5_strike : MethodName := ⟨RX5, "strike", "(I)Z"⟩
abbrev cX5_tell : ByteArray := prog_1_method_8_code
def yX5_tell : MethodName := ⟨RX5, "tell", "(III)I"⟩
abbrev cX5_counts : ByteArray := prog_1_method_9_code
def yX5_counts : MethodName := ⟨RX5, "counts", "(II)Z"⟩
abbrev cX5_things : ByteArray := prog_1_method_10_code
def yX5_things : MethodName := ⟨RX5, "things", "(I)I"⟩
abbrev cX5_thingOf : ByteArray := prog_1_method_11_code
def yX5_thingOf : MethodName := ⟨RX5, "thingOf", "(II)I"⟩
abbrev cX5_value : ByteArray := prog_1_method_12_code
def yX5_value : MethodName := ⟨RX5, "value", "(III)I"⟩
abbrev cX5_disputed : ByteArray := prog_1_method_13_code
def yX5_disputed : MethodName := ⟨RX5, "disputed", "(II)I"⟩
abbrev cX5_link : ByteArray := prog_1_method_14_code
def yX5_link : MethodName := ⟨RX5, "link", "(III)I"⟩
abbrev cX5_impact : ByteArray := prog_1_method_15_code
def yX5_impact : MethodName := ⟨RX5, "impact", "(II)I"⟩
abbrev cX5_failsWith : ByteArray := prog_1_method_16_code
def yX5_failsWith : MethodName := ⟨RX5, "failsWith", "(III)Z"⟩
abbrev cX5_wish : ByteArray := prog_1_method_17_code
def yX5_wish : MethodName := ⟨RX5, "wish", "(IIII)I"⟩
abbrev cX5_differing : ByteArray := prog_1_method_18_code
def yX5_differing : MethodName := ⟨RX5, "differing", "(II)I"⟩
abbrev cX5_changed : ByteArray := prog_1_method_19_code
def yX5_changed : MethodName := ⟨RX5, "changed", "(III)I"⟩
abbrev cX5_hasAnotherValue : ByteArray := prog_1_method_20_code
def yX5_hasAnotherValue : MethodName := ⟨RX5, "hasAnotherValue", "(II)Z"⟩
abbrev cX5_requireRange : ByteArray := prog_1_method_21_code
def yX5_requireRange : MethodName := ⟨RX5, "requireRange", "(III)V"⟩
abbrev cX5_requireDay : ByteArray := prog_1_method_22_code
def yX5_requireDay : MethodName := ⟨RX5, "requireDay", "(I)V"⟩
abbrev cX5_requireAttribute : ByteArray := prog_1_method_23_code
def yX5_requireAttribute : MethodName := ⟨RX5, "requireAttribute", "(I)V"⟩
abbrev cX5_requireUnlike : ByteArray := prog_1_method_24_code
def yX5_requireUnlike : MethodName := ⟨RX5, "requireUnlike", "(II)V"⟩
abbrev cX5_requireFind : ByteArray := prog_1_method_25_code
def yX5_requireFind : MethodName := ⟨RX5, "requireFind", "(I)V"⟩
abbrev cX5_requireCounting : ByteArray := prog_1_method_26_code
def yX5_requireCounting : MethodName := ⟨RX5, "requireCounting", "(I)V"⟩
def RX6 : String := "FoundRegisterModel"
def TX6 : u_T := fun k => match k with
  | 0 => ("FoundRegisterModel", "refusal", "I", false)
  | 1 => ("FoundRegisterModel", "now", "I", false)
  | 2 => ("FoundRegisterModel", "terms", "[I", true)
  | 3 => ("FoundRegisterModel", "order", "[I", true)
  | 4 => ("FoundRegisterModel", "finds", "I", false)
  | 5 => ("FoundRegisterModel", "sources", "[I", true)
  | 6 => ("FoundRegisterModel", "days", "[I", true)
  | 7 => ("FoundRegisterModel", "marks", "[I", true)
  | 8 => ("FoundRegisterModel", "told", "[I", true)
  | 9 => ("FoundRegisterModel", "isStruck", "[Z", true)
  | 10 => ("FoundRegisterModel", "pairs", "[B", true)
  | 11 => ("FoundRegisterModel", "links", "I", false)
  | 12 => ("FoundRegisterModel", "froms", "[I", true)
  | 13 => ("FoundRegisterModel", "tos", "[I", true)
  | 14 => ("FoundRegisterModel", "groups", "[I", true)
  | 15 => ("FoundRegisterModel", "wishes", "I", false)
  | 16 => ("FoundRegisterModel", "wishMarks", "[I", true)
  | 17 => ("FoundRegisterModel", "wishMarkValues", "[I", true)
  | 18 => ("FoundRegisterModel", "wishAttributes", "[I", true)
  | 19 => ("FoundRegisterModel", "wishValues", "[I", true)
  | 20 => ("FoundRegisterModel", "things", "[I", true)
  | 21 => ("FoundRegisterModel", "others", "[I", true)
  | _ => ("FoundRegisterModel", "hasFailed", "[Z", true)
def tyX6 : Nat → FieldType := fun k => match k with
  | 0 => .int
  | 1 => .int
  | 2 => .array .int
  | 3 => .array .int
  | 4 => .int
  | 5 => .array .int
  | 6 => .array .int
  | 7 => .array .int
  | 8 => .array .int
  | 9 => .array .boolean
  | 10 => .array .byte
  | 11 => .int
  | 12 => .array .int
  | 13 => .array .int
  | 14 => .array .int
  | 15 => .int
  | 16 => .array .int
  | 17 => .array .int
  | 18 => .array .int
  | 19 => .array .int
  | 20 => .array .int
  | 21 => .array .int
  | _ => .array .boolean
abbrev wsX60 : List Cond := u_ws RX6 TX6 23
theorem nmX6 : ∀ a, a < 23 → ∀ b, b < 23 → a ≠ b → (TX6 a).2.1 ≠ (TX6 b).2.1 := by decide +kernel
theorem tyX6_ok : ∀ k, k < 23 → parseFieldDescriptor (TX6 k).2.2.1 = some (tyX6 k) := by decide +kernel
abbrev cX6_init : ByteArray := prog_8_method_1_code
def yX6_init : MethodName := ⟨RX6, "<init>", "()V"⟩
abbrev cX6_thrown : ByteArray := prog_8_method_2_code
def yX6_thrown : MethodName := ⟨RX6, "thrown", "()I"⟩
abbrev cX6_refused : ByteArray := prog_8_method_3_code
def yX6_refused : MethodName := ⟨RX6, "refused", "(I)Z"⟩
abbrev cX6_in : ByteArray := prog_8_method_4_code
def yX6_in : MethodName := ⟨RX6, "in", "(III)Z"⟩
abbrev cX6_isFind : ByteArray := prog_8_method_5_code
def yX6_isFind : MethodName := ⟨RX6, "isFind", "(I)Z"⟩
abbrev cX6_isDay : ByteArray := prog_8_method_6_code
def yX6_isDay : MethodName := ⟨RX6, "isDay", "(I)Z"⟩
abbrev cX6_pass : ByteArray := prog_8_method_7_code
def yX6_pass : MethodName := ⟨RX6, "pass", "(I)I"⟩
abbrev cX6_today : ByteArray := prog_8_method_8_code
def yX6_today : MethodName := ⟨RX6, "today", "()I"⟩
abbrev cX6_setTerm : ByteArray := prog_8_method_9_code
def yX6_setTerm : MethodName := ⟨RX6, "setTerm", "(II)I"⟩
abbrev cX6_rankOf : ByteArray := prog_8_method_10_code
def yX6_rankOf : MethodName := ⟨RX6, "rankOf", "(I)I"⟩
abbrev cX6_putFirst : ByteArray := prog_8_method_11_code
def yX6_putFirst : MethodName := ⟨RX6, "putFirst", "(I)I"⟩
abbrev cX6_find : ByteArray := prog_8_method_12_code
def yX6_find : MethodName := ⟨RX6, "find", "(IIIIII)I"⟩
abbrev cX6_strike : ByteArray := prog_8_method_13_code
def yX6_strike : MethodName := ⟨RX6, "strike", "(I)Z"⟩
abbrev cX6_tell : ByteArray := prog_8_method_14_code
def yX6_tell : MethodName := ⟨RX6, "tell", "(III)I"⟩
abbrev cX6_countsOn : ByteArray := prog_8_method_15_code
def yX6_countsOn : MethodName := ⟨RX6, "countsOn", "(II)Z"⟩
abbrev cX6_counts : ByteArray := prog_8_method_16_code
def yX6_counts : MethodName := ⟨RX6, "counts", "(II)Z"⟩
abbrev cX6_haveSame : ByteArray := prog_8_method_17_code
def yX6_haveSame : MethodName := ⟨RX6, "haveSame", "(III)Z"⟩
abbrev cX6_areSame : ByteArray := prog_8_method_18_code
def yX6_areSame : MethodName := ⟨RX6, "areSame", "(II)Z"⟩
abbrev cX6_lay : ByteArray := prog_8_method_19_code
def yX6_lay : MethodName := ⟨RX6, "lay", "(I)V"⟩
abbrev cX6_join : ByteArray := prog_8_method_20_code
def yX6_join : MethodName := ⟨RX6, "join", "(II)V"⟩
abbrev cX6_countThings : ByteArray := prog_8_method_21_code
def yX6_countThings : MethodName := ⟨RX6, "countThings", "()I"⟩
abbrev cX6_things : ByteArray := prog_8_method_22_code
def yX6_things : MethodName := ⟨RX6, "things", "(I)I"⟩
abbrev cX6_looked : ByteArray := prog_8_method_23_code
def yX6_looked : MethodName := ⟨RX6, "looked", "(IIZ)I"⟩
abbrev cX6_thingOf : ByteArray := prog_8_method_24_code
def yX6_thingOf : MethodName := ⟨RX6, "thingOf", "(II)I"⟩
abbrev cX6_isAhead : ByteArray := prog_8_method_25_code
def yX6_isAhead : MethodName := ⟨RX6, "isAhead", "(II)Z"⟩
abbrev cX6_valueOf : ByteArray := prog_8_method_26_code
def yX6_valueOf : MethodName := ⟨RX6, "valueOf", "(II)I"⟩
abbrev cX6_value : ByteArray := prog_8_method_27_code
def yX6_value : MethodName := ⟨RX6, "value", "(III)I"⟩
abbrev cX6_disputed : ByteArray := prog_8_method_28_code
def yX6_disputed : MethodName := ⟨RX6, "disputed", "(II)I"⟩
abbrev cX6_link : ByteArray := prog_8_method_29_code
def yX6_link : MethodName := ⟨RX6, "link", "(III)I"⟩
abbrev cX6_isOf : ByteArray := prog_8_method_30_code
def yX6_isOf : MethodName := ⟨RX6, "isOf", "(III)Z"⟩
abbrev cX6_falls : ByteArray := prog_8_method_31_code
def yX6_falls : MethodName := ⟨RX6, "falls", "(I)Z"⟩
abbrev cX6_spread : ByteArray := prog_8_method_32_code
def yX6_spread : MethodName := ⟨RX6, "spread", "(I)I"⟩
abbrev cX6_impact : ByteArray := prog_8_method_33_code
def yX6_impact : MethodName := ⟨RX6, "impact", "(II)I"⟩
abbrev cX6_failsWith : ByteArray := prog_8_method_34_code
def yX6_failsWith : MethodName := ⟨RX6, "failsWith", "(III)Z"⟩
abbrev cX6_wish : ByteArray := prog_8_method_35_code
def yX6_wish : MethodName := ⟨RX6, "wish", "(IIII)I"⟩
abbrev cX6_differing : ByteArray := prog_8_method_36_code
def yX6_differing : MethodName := ⟨RX6, "differing", "(II)I"⟩
abbrev cX6_changed : ByteArray := prog_8_method_37_code
def yX6_changed : MethodName := ⟨RX6, "changed", "(III)I"⟩
def RJx145de : String := "java/io/Serializable"
def TJx145de : u_T := fun k => match k with
  | _ => ("", "", "", false)
def tyJx145de : Nat → FieldType := fun k => match k with
  | _ => .int
abbrev wsJx145de0 : List Cond := u_ws RJx145de TJx145de 0
theorem nmJx145de : ∀ a, a < 0 → ∀ b, b < 0 → a ≠ b → (TJx145de a).2.1 ≠ (TJx145de b).2.1 := by decide +kernel
theorem tyJx145de_ok : ∀ k, k < 0 → parseFieldDescriptor (TJx145de k).2.2.1 = some (tyJx145de k) := by decide +kernel
def RJ9 : String := "java/lang/Math"
def TJ9 : u_T := fun k => match k with
  | _ => ("", "", "", false)
def tyJ9 : Nat → FieldType := fun k => match k with
  | _ => .int
abbrev wsJ90 : List Cond := u_ws RJ9 TJ9 0
theorem nmJ9 : ∀ a, a < 0 → ∀ b, b < 0 → a ≠ b → (TJ9 a).2.1 ≠ (TJ9 b).2.1 := by decide +kernel
theorem tyJ9_ok : ∀ k, k < 0 → parseFieldDescriptor (TJ9 k).2.2.1 = some (tyJ9 k) := by decide +kernel
abbrev cJ9_max_7cf53 : ByteArray := prog_14_method_65_code
def yJ9_max_7cf53 : MethodName := ⟨RJ9, "max", "(II)I"⟩
abbrev cJ9_min_7cf53 : ByteArray := prog_14_method_69_code
def yJ9_min_7cf53 : MethodName := ⟨RJ9, "min", "(II)I"⟩
def RJ0 : String := "java/lang/String"
def TJ0 : u_T := fun k => match k with
  | _ => ("", "", "", false)
def tyJ0 : Nat → FieldType := fun k => match k with
  | _ => .int
abbrev wsJ00 : List Cond := u_ws RJ0 TJ0 0
theorem nmJ0 : ∀ a, a < 0 → ∀ b, b < 0 → a ≠ b → (TJ0 a).2.1 ≠ (TJ0 b).2.1 := by decide +kernel
theorem tyJ0_ok : ∀ k, k < 0 → parseFieldDescriptor (TJ0 k).2.2.1 = some (tyJ0 k) := by decide +kernel
def RL : String := "FoundRegisterLaw"
abbrev cL_pass : ByteArray := method_3_code
def yL_pass : MethodName := ⟨RL, "pass", "(LFoundRegister;I[J)I"⟩
abbrev cL_setTerm : ByteArray := method_4_code
def yL_setTerm : MethodName := ⟨RL, "setTerm", "(LFoundRegister;II[J)I"⟩
abbrev cL_putFirst : ByteArray := method_5_code
def yL_putFirst : MethodName := ⟨RL, "putFirst", "(LFoundRegister;I[J)I"⟩
abbrev cL_find : ByteArray := method_6_code
def yL_find : MethodName := ⟨RL, "find", "(LFoundRegister;IIIIII[J)I"⟩
abbrev cL_strike : ByteArray := method_7_code
def yL_strike : MethodName := ⟨RL, "strike", "(LFoundRegister;I[J)I"⟩
abbrev cL_tell : ByteArray := method_8_code
def yL_tell : MethodName := ⟨RL, "tell", "(LFoundRegister;III[J)I"⟩
abbrev cL_counts : ByteArray := method_9_code
def yL_counts : MethodName := ⟨RL, "counts", "(LFoundRegister;II[J)I"⟩
abbrev cL_things : ByteArray := method_10_code
def yL_things : MethodName := ⟨RL, "things", "(LFoundRegister;I[J)I"⟩
abbrev cL_thingOf : ByteArray := method_11_code
def yL_thingOf : MethodName := ⟨RL, "thingOf", "(LFoundRegister;II[J)I"⟩
abbrev cL_value : ByteArray := method_12_code
def yL_value : MethodName := ⟨RL, "value", "(LFoundRegister;III[J)I"⟩
abbrev cL_disputed : ByteArray := method_13_code
def yL_disputed : MethodName := ⟨RL, "disputed", "(LFoundRegister;II[J)I"⟩
abbrev cL_link : ByteArray := method_14_code
def yL_link : MethodName := ⟨RL, "link", "(LFoundRegister;III[J)I"⟩
abbrev cL_impact : ByteArray := method_15_code
def yL_impact : MethodName := ⟨RL, "impact", "(LFoundRegister;II[J)I"⟩
abbrev cL_failsWith : ByteArray := method_16_code
def yL_failsWith : MethodName := ⟨RL, "failsWith", "(LFoundRegister;III[J)I"⟩
abbrev cL_wish : ByteArray := method_17_code
def yL_wish : MethodName := ⟨RL, "wish", "(LFoundRegister;IIII[J)I"⟩
abbrev cL_differing : ByteArray := method_18_code
def yL_differing : MethodName := ⟨RL, "differing", "(LFoundRegister;II[J)I"⟩
abbrev cL_changed : ByteArray := method_19_code
def yL_changed : MethodName := ⟨RL, "changed", "(LFoundRegister;III[J)I"⟩
abbrev cL_law : ByteArray := code
def yL_law : MethodName := ⟨RL, "law", "([I)Z"⟩
def wsX0_init : List Cond := .code yX0_init cX0_init 1 none :: ([.methodLink RX0 3 objectInit, .instanceMethod objectInit, .code objectInit ⟨#[0xb1]⟩ 1 none, .fieldLink RX0 9 "FoundRegister$Finds" "count" "I", .arrayClass .int, .fieldLink RX0 15 "FoundRegister$Finds" "source" "[I", .fieldLink RX0 19 "FoundRegister$Finds" "cameOn" "[I", .arrayClass .boolean, .fieldLink RX0 22 "FoundRegister$Finds" "struck" "[Z", .classLink RX0 26 "[[I", .fieldLink RX0 28 "FoundRegister$Finds" "marks" "[[I", .fieldLink RX0 31 "FoundRegister$Finds" "attributes" "[[I", .fieldLink RX0 34 "FoundRegister$Finds" "told" "[[I"] ++ wsX00)
def wsX0_take : List Cond := .code yX0_take cX0_take 4 (some .int) :: ([.fieldLink RX0 9 "FoundRegister$Finds" "count" "I", .fieldLink RX0 15 "FoundRegister$Finds" "source" "[I", .fieldLink RX0 19 "FoundRegister$Finds" "cameOn" "[I"] ++ wsX00)
def wsX0_putMarks : List Cond := .code yX0_putMarks cX0_putMarks 5 none :: ([.fieldLink RX0 28 "FoundRegister$Finds" "marks" "[[I"] ++ wsX00)
def wsX0_putAttributes : List Cond := .code yX0_putAttributes cX0_putAttributes 4 none :: ([.fieldLink RX0 31 "FoundRegister$Finds" "attributes" "[[I"] ++ wsX00)
def wsX0_standsOn : List Cond := .code yX0_standsOn cX0_standsOn 4 (some .boolean) :: ([.fieldLink RX0 22 "FoundRegister$Finds" "struck" "[Z", .fieldLink RX0 19 "FoundRegister$Finds" "cameOn" "[I", .fieldLink RX0 37 "FoundRegister$Sources" "term" "[I", .fieldLink RX0 15 "FoundRegister$Finds" "source" "[I"] ++ wsX00 ++ wsX20)
def wsX0_knowsSerial : List Cond := .code yX0_knowsSerial cX0_knowsSerial 2 (some .boolean) :: ([.fieldLink RX0 28 "FoundRegister$Finds" "marks" "[[I"] ++ wsX00)
def wsX0_shareMark : List Cond := .code yX0_shareMark cX0_shareMark 4 (some .boolean) :: ([.fieldLink RX0 28 "FoundRegister$Finds" "marks" "[[I"] ++ wsX00)
def wsX0_joined : List Cond := .code yX0_joined cX0_joined 3 (some .boolean) :: ([.fieldLink RX0 34 "FoundRegister$Finds" "told" "[[I", .methodLink RX0 42 yX0_knowsSerial, .instanceMethod yX0_knowsSerial, .selects RX0 yX0_knowsSerial yX0_knowsSerial, .initialized RX0, .code yX0_knowsSerial cX0_knowsSerial 2 (some .boolean), .fieldLink RX0 28 "FoundRegister$Finds" "marks" "[[I", .methodLink RX0 46 yX0_shareMark, .instanceMethod yX0_shareMark, .selects RX0 yX0_shareMark yX0_shareMark, .code yX0_shareMark cX0_shareMark 4 (some .boolean)] ++ wsX00)
def wsX1_init : List Cond := .code yX1_init cX1_init 1 none :: ([.methodLink RX1 3 objectInit, .instanceMethod objectInit, .code objectInit ⟨#[0xb1]⟩ 1 none, .fieldLink RX1 9 "FoundRegister$Links" "count" "I", .arrayClass .int, .fieldLink RX1 15 "FoundRegister$Links" "needing" "[I", .fieldLink RX1 19 "FoundRegister$Links" "needed" "[I", .fieldLink RX1 22 "FoundRegister$Links" "group" "[I", .arrayClass .boolean, .fieldLink RX1 25 "FoundRegister$Links" "failed" "[Z"] ++ wsX10)
def wsX1_add : List Cond := .code yX1_add cX1_add 4 none :: ([.fieldLink RX1 15 "FoundRegister$Links" "needing" "[I", .fieldLink RX1 9 "FoundRegister$Links" "count" "I", .fieldLink RX1 19 "FoundRegister$Links" "needed" "[I", .fieldLink RX1 22 "FoundRegister$Links" "group" "[I"] ++ wsX10)
def wsX1_holds : List Cond := .code yX1_holds cX1_holds 5 (some .boolean) :: ([.fieldLink RX1 33 "FoundRegister$Things" "ofFind" "[I", .fieldLink RX1 15 "FoundRegister$Links" "needing" "[I", .fieldLink RX1 19 "FoundRegister$Links" "needed" "[I"] ++ wsX30 ++ wsX10)
def wsX1_lost : List Cond := .code yX1_lost cX1_lost 5 (some .boolean) :: ([.fieldLink RX1 9 "FoundRegister$Links" "count" "I", .fieldLink RX1 22 "FoundRegister$Links" "group" "[I", .fieldLink RX1 33 "FoundRegister$Things" "ofFind" "[I", .fieldLink RX1 15 "FoundRegister$Links" "needing" "[I", .fieldLink RX1 25 "FoundRegister$Links" "failed" "[Z", .fieldLink RX1 19 "FoundRegister$Links" "needed" "[I", .methodLink RX1 38 yX1_holds, .instanceMethod yX1_holds, .selects RX1 yX1_holds yX1_holds, .initialized RX1, .code yX1_holds cX1_holds 5 (some .boolean)] ++ wsX10 ++ wsX30)
def wsX1_failMore : List Cond := .code yX1_failMore cX1_failMore 5 (some .boolean) :: ([.fieldLink RX1 9 "FoundRegister$Links" "count" "I", .fieldLink RX1 33 "FoundRegister$Things" "ofFind" "[I", .fieldLink RX1 15 "FoundRegister$Links" "needing" "[I", .fieldLink RX1 25 "FoundRegister$Links" "failed" "[Z", .fieldLink RX1 22 "FoundRegister$Links" "group" "[I", .methodLink RX1 38 yX1_holds, .instanceMethod yX1_holds, .selects RX1 yX1_holds yX1_holds, .initialized RX1, .code yX1_holds cX1_holds 5 (some .boolean), .fieldLink RX1 19 "FoundRegister$Links" "needed" "[I", .methodLink RX1 42 yX1_lost, .instanceMethod yX1_lost, .selects RX1 yX1_lost yX1_lost, .code yX1_lost cX1_lost 5 (some .boolean)] ++ wsX10 ++ wsX30)
def wsX1_failFrom : List Cond := .code yX1_failFrom cX1_failFrom 5 none :: ([.fieldLink RX1 25 "FoundRegister$Links" "failed" "[Z", .methodLink RX1 29 yX1_failMore, .instanceMethod yX1_failMore, .selects RX1 yX1_failMore yX1_failMore, .initialized RX1, .code yX1_failMore cX1_failMore 5 (some .boolean), .fieldLink RX1 9 "FoundRegister$Links" "count" "I", .fieldLink RX1 33 "FoundRegister$Things" "ofFind" "[I", .fieldLink RX1 15 "FoundRegister$Links" "needing" "[I", .fieldLink RX1 22 "FoundRegister$Links" "group" "[I", .methodLink RX1 38 yX1_holds, .instanceMethod yX1_holds, .selects RX1 yX1_holds yX1_holds, .code yX1_holds cX1_holds 5 (some .boolean), .fieldLink RX1 19 "FoundRegister$Links" "needed" "[I", .methodLink RX1 42 yX1_lost, .instanceMethod yX1_lost, .selects RX1 yX1_lost yX1_lost, .code yX1_lost cX1_lost 5 (some .boolean)] ++ wsX10 ++ wsX30)
def wsX1_failures : List Cond := .code yX1_failures cX1_failures 3 (some .int) :: ([.fieldLink RX1 25 "FoundRegister$Links" "failed" "[Z"] ++ wsX10)
def wsX2_init : List Cond := .code yX2_init cX2_init 2 none :: ([.methodLink RX2 3 objectInit, .instanceMethod objectInit, .code objectInit ⟨#[0xb1]⟩ 1 none, .arrayClass .int, .fieldLink RX2 9 "FoundRegister$Sources" "term" "[I", .fieldLink RX2 15 "FoundRegister$Sources" "place" "[I"] ++ wsX20)
def wsX2_moveToFront : List Cond := .code yX2_moveToFront cX2_moveToFront 4 (some .int) :: ([.fieldLink RX2 15 "FoundRegister$Sources" "place" "[I"] ++ wsX20)
def wsX3_init : List Cond := .code yX3_init cX3_init 3 none :: ([.methodLink RX3 3 objectInit, .instanceMethod objectInit, .code objectInit ⟨#[0xb1]⟩ 1 none, .arrayClass .int, .fieldLink RX3 9 "FoundRegister$Things" "ofFind" "[I", .fieldLink RX3 15 "FoundRegister$Things" "finds" "LFoundRegister$Finds;", .fieldLink RX3 19 "FoundRegister$Things" "sources" "LFoundRegister$Sources;"] ++ wsX30)
def wsX3_merge : List Cond := .code yX3_merge cX3_merge 6 none :: ([.methodLink RX3 45 Lib.Math.min.name, .static Lib.Math.min.name, .initialized "java/lang/Math", .code Lib.Math.min.name Lib.Math.min.code 2 (some .int), .methodLink RX3 51 Lib.Math.max.name, .static Lib.Math.max.name, .code Lib.Math.max.name Lib.Math.max.code 2 (some .int), .fieldLink RX3 15 "FoundRegister$Things" "finds" "LFoundRegister$Finds;", .fieldLink RX3 23 "FoundRegister$Finds" "count" "I", .fieldLink RX3 9 "FoundRegister$Things" "ofFind" "[I"] ++ wsX30 ++ wsX00)
def wsX3_joinToEarlier_r1 : List Cond := [Cond.fieldLink RX3 9 "FoundRegister$Things" "ofFind" "[I", Cond.fieldLink RX3 15 "FoundRegister$Things" "finds" "LFoundRegister$Finds;", Cond.methodLink RX3 37 yX0_joined, Cond.instanceMethod yX0_joined, Cond.selects RX0 yX0_joined yX0_joined, Cond.initialized RX0, Cond.code yX0_joined cX0_joined 3 (some .boolean), Cond.fieldLink RX0 34 "FoundRegister$Finds" "told" "[[I", Cond.methodLink RX0 42 yX0_knowsSerial, Cond.instanceMethod yX0_knowsSerial, Cond.selects RX0 yX0_knowsSerial yX0_knowsSerial, Cond.code yX0_knowsSerial cX0_knowsSerial 2 (some .boolean), Cond.fieldLink RX0 28 "FoundRegister$Finds" "marks" "[[I", Cond.methodLink RX0 46 yX0_shareMark, Cond.instanceMethod yX0_shareMark, Cond.selects RX0 yX0_shareMark yX0_shareMark, Cond.code yX0_shareMark cX0_shareMark 4 (some .boolean), Cond.methodLink RX3 41 yX3_merge, Cond.instanceMethod yX3_merge, Cond.selects RX3 yX3_merge yX3_merge, Cond.initialized RX3, Cond.code yX3_merge cX3_merge 6 none, Cond.methodLink RX3 45 Lib.Math.min.name, Cond.static Lib.Math.min.name]
def wsX3_joinToEarlier_r2 : List Cond := [Cond.initialized "java/lang/Math", Cond.code Lib.Math.min.name Lib.Math.min.code 2 (some .int), Cond.methodLink RX3 51 Lib.Math.max.name, Cond.static Lib.Math.max.name, Cond.code Lib.Math.max.name Lib.Math.max.code 2 (some .int), Cond.fieldLink RX3 23 "FoundRegister$Finds" "count" "I"]
def wsX3_joinToEarlier : List Cond := .code yX3_joinToEarlier cX3_joinToEarlier 3 none :: ((wsX3_joinToEarlier_r1 ++ wsX3_joinToEarlier_r2) ++ wsX30 ++ wsX00)
def wsX3_sortFor_r1 : List Cond := [Cond.fieldLink RX3 15 "FoundRegister$Things" "finds" "LFoundRegister$Finds;", Cond.fieldLink RX3 23 "FoundRegister$Finds" "count" "I", Cond.fieldLink RX3 9 "FoundRegister$Things" "ofFind" "[I", Cond.fieldLink RX3 19 "FoundRegister$Things" "sources" "LFoundRegister$Sources;", Cond.methodLink RX3 29 yX0_standsOn, Cond.instanceMethod yX0_standsOn, Cond.selects RX0 yX0_standsOn yX0_standsOn, Cond.initialized RX0, Cond.code yX0_standsOn cX0_standsOn 4 (some .boolean), Cond.fieldLink RX0 22 "FoundRegister$Finds" "struck" "[Z", Cond.fieldLink RX0 19 "FoundRegister$Finds" "cameOn" "[I", Cond.fieldLink RX0 37 "FoundRegister$Sources" "term" "[I", Cond.fieldLink RX0 15 "FoundRegister$Finds" "source" "[I", Cond.methodLink RX3 33 yX3_joinToEarlier, Cond.instanceMethod yX3_joinToEarlier, Cond.selects RX3 yX3_joinToEarlier yX3_joinToEarlier, Cond.initialized RX3, Cond.code yX3_joinToEarlier cX3_joinToEarlier 3 none, Cond.methodLink RX3 37 yX0_joined, Cond.instanceMethod yX0_joined, Cond.selects RX0 yX0_joined yX0_joined, Cond.code yX0_joined cX0_joined 3 (some .boolean), Cond.fieldLink RX0 34 "FoundRegister$Finds" "told" "[[I", Cond.methodLink RX0 42 yX0_knowsSerial]
def wsX3_sortFor_r2 : List Cond := [Cond.instanceMethod yX0_knowsSerial, Cond.selects RX0 yX0_knowsSerial yX0_knowsSerial, Cond.code yX0_knowsSerial cX0_knowsSerial 2 (some .boolean), Cond.fieldLink RX0 28 "FoundRegister$Finds" "marks" "[[I", Cond.methodLink RX0 46 yX0_shareMark, Cond.instanceMethod yX0_shareMark, Cond.selects RX0 yX0_shareMark yX0_shareMark, Cond.code yX0_shareMark cX0_shareMark 4 (some .boolean), Cond.methodLink RX3 41 yX3_merge, Cond.instanceMethod yX3_merge, Cond.selects RX3 yX3_merge yX3_merge, Cond.code yX3_merge cX3_merge 6 none, Cond.methodLink RX3 45 Lib.Math.min.name, Cond.static Lib.Math.min.name, Cond.initialized "java/lang/Math", Cond.code Lib.Math.min.name Lib.Math.min.code 2 (some .int), Cond.methodLink RX3 51 Lib.Math.max.name, Cond.static Lib.Math.max.name, Cond.code Lib.Math.max.name Lib.Math.max.code 2 (some .int)]
def wsX3_sortFor : List Cond := .code yX3_sortFor cX3_sortFor 3 none :: ((wsX3_sortFor_r1 ++ wsX3_sortFor_r2) ++ wsX30 ++ wsX00 ++ wsX20)
def wsX3_isThing : List Cond := .code yX3_isThing cX3_isThing 2 (some .boolean) :: ([.fieldLink RX3 9 "FoundRegister$Things" "ofFind" "[I"] ++ wsX30)
def wsX3_tells : List Cond := .code yX3_tells cX3_tells 4 (some .boolean) :: ([.fieldLink RX3 9 "FoundRegister$Things" "ofFind" "[I", .fieldLink RX3 15 "FoundRegister$Things" "finds" "LFoundRegister$Finds;", .fieldLink RX3 61 "FoundRegister$Finds" "attributes" "[[I"] ++ wsX30 ++ wsX00)
def wsX3_goesBefore : List Cond := .code yX3_goesBefore cX3_goesBefore 5 (some .boolean) :: ([.fieldLink RX3 19 "FoundRegister$Things" "sources" "LFoundRegister$Sources;", .fieldLink RX3 65 "FoundRegister$Sources" "place" "[I", .fieldLink RX3 15 "FoundRegister$Things" "finds" "LFoundRegister$Finds;", .fieldLink RX3 70 "FoundRegister$Finds" "source" "[I"] ++ wsX30 ++ wsX20 ++ wsX00)
def wsX3_attributeOf : List Cond := .code yX3_attributeOf cX3_attributeOf 5 (some .int) :: ([.fieldLink RX3 15 "FoundRegister$Things" "finds" "LFoundRegister$Finds;", .fieldLink RX3 23 "FoundRegister$Finds" "count" "I", .fieldLink RX3 61 "FoundRegister$Finds" "attributes" "[[I", .methodLink RX3 54 yX3_tells, .instanceMethod yX3_tells, .selects RX3 yX3_tells yX3_tells, .initialized RX3, .code yX3_tells cX3_tells 4 (some .boolean), .fieldLink RX3 9 "FoundRegister$Things" "ofFind" "[I", .methodLink RX3 58 yX3_goesBefore, .instanceMethod yX3_goesBefore, .selects RX3 yX3_goesBefore yX3_goesBefore, .code yX3_goesBefore cX3_goesBefore 5 (some .boolean), .fieldLink RX3 19 "FoundRegister$Things" "sources" "LFoundRegister$Sources;", .fieldLink RX3 65 "FoundRegister$Sources" "place" "[I", .fieldLink RX3 70 "FoundRegister$Finds" "source" "[I"] ++ wsX30 ++ wsX00 ++ wsX20)
def wsX3_hasUnlikeValues : List Cond := .code yX3_hasUnlikeValues cX3_hasUnlikeValues 6 (some .boolean) :: ([.fieldLink RX3 15 "FoundRegister$Things" "finds" "LFoundRegister$Finds;", .fieldLink RX3 23 "FoundRegister$Finds" "count" "I", .fieldLink RX3 61 "FoundRegister$Finds" "attributes" "[[I", .methodLink RX3 54 yX3_tells, .instanceMethod yX3_tells, .selects RX3 yX3_tells yX3_tells, .initialized RX3, .code yX3_tells cX3_tells 4 (some .boolean), .fieldLink RX3 9 "FoundRegister$Things" "ofFind" "[I"] ++ wsX30 ++ wsX00)
def wsX3_hasMark : List Cond := .code yX3_hasMark cX3_hasMark 5 (some .boolean) :: ([.fieldLink RX3 15 "FoundRegister$Things" "finds" "LFoundRegister$Finds;", .fieldLink RX3 23 "FoundRegister$Finds" "count" "I", .fieldLink RX3 9 "FoundRegister$Things" "ofFind" "[I", .fieldLink RX3 73 "FoundRegister$Finds" "marks" "[[I"] ++ wsX30 ++ wsX00)
def wsX4_init : List Cond := .code yX4_init cX4_init 1 none :: ([.methodLink RX4 3 objectInit, .instanceMethod objectInit, .code objectInit ⟨#[0xb1]⟩ 1 none, .fieldLink RX4 9 "FoundRegister$Wishes" "count" "I", .arrayClass .int, .fieldLink RX4 15 "FoundRegister$Wishes" "mark" "[I", .fieldLink RX4 19 "FoundRegister$Wishes" "markValue" "[I", .fieldLink RX4 22 "FoundRegister$Wishes" "attribute" "[I", .fieldLink RX4 25 "FoundRegister$Wishes" "wished" "[I"] ++ wsX40)
def wsX4_add : List Cond := .code yX4_add cX4_add 6 (some .int) :: ([.fieldLink RX4 9 "FoundRegister$Wishes" "count" "I", .fieldLink RX4 15 "FoundRegister$Wishes" "mark" "[I", .fieldLink RX4 19 "FoundRegister$Wishes" "markValue" "[I", .fieldLink RX4 22 "FoundRegister$Wishes" "attribute" "[I", .fieldLink RX4 25 "FoundRegister$Wishes" "wished" "[I"] ++ wsX40)
def wsX4_isMissedBy_r1 : List Cond := [Cond.fieldLink RX4 15 "FoundRegister$Wishes" "mark" "[I", Cond.fieldLink RX4 19 "FoundRegister$Wishes" "markValue" "[I", Cond.fieldLink RX4 22 "FoundRegister$Wishes" "attribute" "[I", Cond.fieldLink RX4 25 "FoundRegister$Wishes" "wished" "[I", Cond.methodLink RX4 28 yX3_hasMark, Cond.instanceMethod yX3_hasMark, Cond.selects RX3 yX3_hasMark yX3_hasMark, Cond.initialized RX3, Cond.code yX3_hasMark cX3_hasMark 5 (some .boolean), Cond.fieldLink RX3 15 "FoundRegister$Things" "finds" "LFoundRegister$Finds;", Cond.fieldLink RX3 23 "FoundRegister$Finds" "count" "I", Cond.fieldLink RX3 9 "FoundRegister$Things" "ofFind" "[I", Cond.fieldLink RX3 73 "FoundRegister$Finds" "marks" "[[I", Cond.methodLink RX4 34 yX3_attributeOf, Cond.instanceMethod yX3_attributeOf, Cond.selects RX3 yX3_attributeOf yX3_attributeOf, Cond.code yX3_attributeOf cX3_attributeOf 5 (some .int), Cond.fieldLink RX3 61 "FoundRegister$Finds" "attributes" "[[I", Cond.methodLink RX3 54 yX3_tells, Cond.instanceMethod yX3_tells, Cond.selects RX3 yX3_tells yX3_tells, Cond.code yX3_tells cX3_tells 4 (some .boolean), Cond.methodLink RX3 58 yX3_goesBefore, Cond.instanceMethod yX3_goesBefore]
def wsX4_isMissedBy_r2 : List Cond := [Cond.selects RX3 yX3_goesBefore yX3_goesBefore, Cond.code yX3_goesBefore cX3_goesBefore 5 (some .boolean), Cond.fieldLink RX3 19 "FoundRegister$Things" "sources" "LFoundRegister$Sources;", Cond.fieldLink RX3 65 "FoundRegister$Sources" "place" "[I", Cond.fieldLink RX3 70 "FoundRegister$Finds" "source" "[I"]
def wsX4_isMissedBy : List Cond := .code yX4_isMissedBy cX4_isMissedBy 4 (some .boolean) :: ((wsX4_isMissedBy_r1 ++ wsX4_isMissedBy_r2) ++ wsX40 ++ wsX30 ++ wsX00 ++ wsX20)
def wsX5_init_r1 : List Cond := [Cond.methodLink RX5 1 objectInit, Cond.instanceMethod objectInit, Cond.code objectInit ⟨#[0xb1]⟩ 1 none, Cond.fieldLink RX5 7 "FoundRegister" "presentDay" "I", Cond.classLink RX5 13 RX2, Cond.instantiable RX2 2, Cond.initialized RX2, Cond.fieldLink RX5 16 "FoundRegister" "sources" "LFoundRegister$Sources;", Cond.classLink RX5 20 RX0, Cond.instantiable RX0 7, Cond.initialized RX0, Cond.fieldLink RX5 23 "FoundRegister" "finds" "LFoundRegister$Finds;", Cond.classLink RX5 27 RX1, Cond.instantiable RX1 5, Cond.initialized RX1, Cond.fieldLink RX5 30 "FoundRegister" "links" "LFoundRegister$Links;", Cond.classLink RX5 34 RX4, Cond.instantiable RX4 5, Cond.initialized RX4, Cond.fieldLink RX5 37 "FoundRegister" "wishes" "LFoundRegister$Wishes;", Cond.classLink RX5 41 RX3, Cond.instantiable RX3 3, Cond.initialized RX3, Cond.fieldLink RX5 46 "FoundRegister" "ofDay" "LFoundRegister$Things;"]
def wsX5_init_r2 : List Cond := [Cond.fieldLink RX5 50 "FoundRegister" "ofOtherDay" "LFoundRegister$Things;", Cond.methodLink RX5 15 yX2_init, Cond.instanceMethod yX2_init, Cond.code yX2_init cX2_init 2 none, Cond.methodLink RX2 3 objectInit, Cond.arrayClass .int, Cond.fieldLink RX2 9 "FoundRegister$Sources" "term" "[I", Cond.fieldLink RX2 15 "FoundRegister$Sources" "place" "[I", Cond.instanceMethod yX0_init, Cond.code yX0_init cX0_init 1 none, Cond.methodLink RX0 3 objectInit, Cond.fieldLink RX0 9 "FoundRegister$Finds" "count" "I", Cond.fieldLink RX0 15 "FoundRegister$Finds" "source" "[I", Cond.fieldLink RX0 19 "FoundRegister$Finds" "cameOn" "[I", Cond.arrayClass .boolean, Cond.fieldLink RX0 22 "FoundRegister$Finds" "struck" "[Z", Cond.classLink RX0 26 "[[I", Cond.fieldLink RX0 28 "FoundRegister$Finds" "marks" "[[I", Cond.fieldLink RX0 31 "FoundRegister$Finds" "attributes" "[[I", Cond.fieldLink RX0 34 "FoundRegister$Finds" "told" "[[I", Cond.instanceMethod yX1_init, Cond.code yX1_init cX1_init 1 none, Cond.methodLink RX1 3 objectInit, Cond.fieldLink RX1 9 "FoundRegister$Links" "count" "I"]
def wsX5_init_r3 : List Cond := [Cond.fieldLink RX1 15 "FoundRegister$Links" "needing" "[I", Cond.fieldLink RX1 19 "FoundRegister$Links" "needed" "[I", Cond.fieldLink RX1 22 "FoundRegister$Links" "group" "[I", Cond.fieldLink RX1 25 "FoundRegister$Links" "failed" "[Z", Cond.instanceMethod yX4_init, Cond.code yX4_init cX4_init 1 none, Cond.methodLink RX4 3 objectInit, Cond.fieldLink RX4 9 "FoundRegister$Wishes" "count" "I", Cond.fieldLink RX4 15 "FoundRegister$Wishes" "mark" "[I", Cond.fieldLink RX4 19 "FoundRegister$Wishes" "markValue" "[I", Cond.fieldLink RX4 22 "FoundRegister$Wishes" "attribute" "[I", Cond.fieldLink RX4 25 "FoundRegister$Wishes" "wished" "[I", Cond.methodLink RX5 43 yX3_init, Cond.instanceMethod yX3_init, Cond.code yX3_init cX3_init 3 none, Cond.methodLink RX3 3 objectInit, Cond.fieldLink RX3 9 "FoundRegister$Things" "ofFind" "[I", Cond.fieldLink RX3 15 "FoundRegister$Things" "finds" "LFoundRegister$Finds;", Cond.fieldLink RX3 19 "FoundRegister$Things" "sources" "LFoundRegister$Sources;"]
def wsX5_init : List Cond := .code yX5_init cX5_init 1 none :: ((wsX5_init_r1 ++ (wsX5_init_r2 ++ wsX5_init_r3)) ++ wsX50 ++ wsX20 ++ wsX00 ++ wsX10 ++ wsX40 ++ wsX30)
def wsX5_requireRange : List Cond := .code yX5_requireRange cX5_requireRange 3 none :: ([.classLink RX5 169 "java/lang/IllegalArgumentException", .initialized "java/lang/IllegalArgumentException"] ++ (vx_atS RX5 173 "java/lang/IllegalArgumentException" ["java/lang/RuntimeException", "java/lang/Exception"]).filter goodWord)
def wsX5_pass : List Cond := .code yX5_pass cX5_pass 2 (some .int) :: ([.classLink RX5 57 "java/lang/IllegalStateException", .initialized "java/lang/IllegalStateException", .fieldLink RX5 7 "FoundRegister" "presentDay" "I", .methodLink RX5 53 yX5_requireRange, .static yX5_requireRange, .initialized RX5, .code yX5_requireRange cX5_requireRange 3 none, .classLink RX5 169 "java/lang/IllegalArgumentException", .initialized "java/lang/IllegalArgumentException"] ++ wsX50 ++ (vx_atS RX5 61 "java/lang/IllegalStateException" ["java/lang/RuntimeException", "java/lang/Exception"]).filter goodWord ++ (vx_atS RX5 173 "java/lang/IllegalArgumentException" ["java/lang/RuntimeException", "java/lang/Exception"]).filter goodWord)
def wsX5_today : List Cond := .code yX5_today cX5_today 1 (some .int) :: ([.fieldLink RX5 7 "FoundRegister" "presentDay" "I"] ++ wsX50)
def wsX5_setTerm : List Cond := .code yX5_setTerm cX5_setTerm 4 (some .int) :: ([.fieldLink RX5 16 "FoundRegister" "sources" "LFoundRegister$Sources;", .fieldLink RX5 64 "FoundRegister$Sources" "term" "[I", .methodLink RX5 53 yX5_requireRange, .static yX5_requireRange, .initialized RX5, .code yX5_requireRange cX5_requireRange 3 none, .classLink RX5 169 "java/lang/IllegalArgumentException", .initialized "java/lang/IllegalArgumentException"] ++ wsX50 ++ wsX20 ++ (vx_atS RX5 173 "java/lang/IllegalArgumentException" ["java/lang/RuntimeException", "java/lang/Exception"]).filter goodWord)
def wsX5_putFirst : List Cond := .code yX5_putFirst cX5_putFirst 2 (some .int) :: ([.fieldLink RX5 16 "FoundRegister" "sources" "LFoundRegister$Sources;", .methodLink RX5 53 yX5_requireRange, .static yX5_requireRange, .initialized RX5, .code yX5_requireRange cX5_requireRange 3 none, .classLink RX5 169 "java/lang/IllegalArgumentException", .initialized "java/lang/IllegalArgumentException", .methodLink RX5 68 yX2_moveToFront, .instanceMethod yX2_moveToFront, .selects RX2 yX2_moveToFront yX2_moveToFront, .initialized RX2, .code yX2_moveToFront cX2_moveToFront 4 (some .int), .fieldLink RX2 15 "FoundRegister$Sources" "place" "[I"] ++ wsX50 ++ wsX20 ++ (vx_atS RX5 173 "java/lang/IllegalArgumentException" ["java/lang/RuntimeException", "java/lang/Exception"]).filter goodWord)
def wsX5_find_r1 : List Cond := [Cond.classLink RX5 57 "java/lang/IllegalStateException", Cond.initialized "java/lang/IllegalStateException", Cond.fieldLink RX5 23 "FoundRegister" "finds" "LFoundRegister$Finds;", Cond.fieldLink RX5 72 "FoundRegister$Finds" "count" "I", Cond.fieldLink RX5 7 "FoundRegister" "presentDay" "I", Cond.methodLink RX5 53 yX5_requireRange, Cond.static yX5_requireRange, Cond.initialized RX5, Cond.code yX5_requireRange cX5_requireRange 3 none, Cond.classLink RX5 169 "java/lang/IllegalArgumentException", Cond.initialized "java/lang/IllegalArgumentException", Cond.methodLink RX5 77 yX0_take, Cond.instanceMethod yX0_take, Cond.selects RX0 yX0_take yX0_take, Cond.initialized RX0, Cond.code yX0_take cX0_take 4 (some .int), Cond.fieldLink RX0 9 "FoundRegister$Finds" "count" "I", Cond.fieldLink RX0 15 "FoundRegister$Finds" "source" "[I", Cond.fieldLink RX0 19 "FoundRegister$Finds" "cameOn" "[I", Cond.methodLink RX5 81 yX0_putMarks, Cond.instanceMethod yX0_putMarks, Cond.selects RX0 yX0_putMarks yX0_putMarks, Cond.code yX0_putMarks cX0_putMarks 5 none, Cond.fieldLink RX0 28 "FoundRegister$Finds" "marks" "[[I"]
def wsX5_find_r2 : List Cond := [Cond.methodLink RX5 85 yX0_putAttributes, Cond.instanceMethod yX0_putAttributes, Cond.selects RX0 yX0_putAttributes yX0_putAttributes, Cond.code yX0_putAttributes cX0_putAttributes 4 none, Cond.fieldLink RX0 31 "FoundRegister$Finds" "attributes" "[[I"]
def wsX5_find : List Cond := .code yX5_find cX5_find 8 (some .int) :: ((wsX5_find_r1 ++ wsX5_find_r2) ++ wsX50 ++ wsX00 ++ (vx_atS RX5 61 "java/lang/IllegalStateException" ["java/lang/RuntimeException", "java/lang/Exception"]).filter goodWord ++ (vx_atS RX5 173 "java/lang/IllegalArgumentException" ["java/lang/RuntimeException", "java/lang/Exception"]).filter goodWord)
def wsX5_requireFind : List Cond := .code yX5_requireFind cX5_requireFind 2 none :: ([.classLink RX5 157 "java/lang/IndexOutOfBoundsException", .initialized "java/lang/IndexOutOfBoundsException", .fieldLink RX5 23 "FoundRegister" "finds" "LFoundRegister$Finds;", .fieldLink RX5 72 "FoundRegister$Finds" "count" "I"] ++ wsX50 ++ wsX00 ++ (vx_atS RX5 161 "java/lang/IndexOutOfBoundsException" ["java/lang/RuntimeException", "java/lang/Exception"]).filter goodWord)
def wsX5_strike : List Cond := .code yX5_strike cX5_strike 3 (some .boolean) :: ([.fieldLink RX5 23 "FoundRegister" "finds" "LFoundRegister$Finds;", .fieldLink RX5 92 "FoundRegister$Finds" "struck" "[Z", .methodLink RX5 88 yX5_requireFind, .instanceMethod yX5_requireFind, .selects RX5 yX5_requireFind yX5_requireFind, .initialized RX5, .code yX5_requireFind cX5_requireFind 2 none, .classLink RX5 157 "java/lang/IndexOutOfBoundsException", .initialized "java/lang/IndexOutOfBoundsException", .fieldLink RX5 72 "FoundRegister$Finds" "count" "I"] ++ wsX50 ++ wsX00 ++ (vx_atS RX5 161 "java/lang/IndexOutOfBoundsException" ["java/lang/RuntimeException", "java/lang/Exception"]).filter goodWord)
def wsX5_requireUnlike : List Cond := .code yX5_requireUnlike cX5_requireUnlike 2 none :: ([.classLink RX5 169 "java/lang/IllegalArgumentException", .initialized "java/lang/IllegalArgumentException"] ++ (vx_atS RX5 173 "java/lang/IllegalArgumentException" ["java/lang/RuntimeException", "java/lang/Exception"]).filter goodWord)
def wsX5_tell : List Cond := .code yX5_tell cX5_tell 5 (some .int) :: ([.fieldLink RX5 23 "FoundRegister" "finds" "LFoundRegister$Finds;", .fieldLink RX5 100 "FoundRegister$Finds" "told" "[[I", .methodLink RX5 88 yX5_requireFind, .instanceMethod yX5_requireFind, .selects RX5 yX5_requireFind yX5_requireFind, .initialized RX5, .code yX5_requireFind cX5_requireFind 2 none, .classLink RX5 157 "java/lang/IndexOutOfBoundsException", .initialized "java/lang/IndexOutOfBoundsException", .fieldLink RX5 72 "FoundRegister$Finds" "count" "I", .methodLink RX5 96 yX5_requireUnlike, .static yX5_requireUnlike, .code yX5_requireUnlike cX5_requireUnlike 2 none, .classLink RX5 169 "java/lang/IllegalArgumentException", .initialized "java/lang/IllegalArgumentException", .methodLink RX5 53 yX5_requireRange, .static yX5_requireRange, .code yX5_requireRange cX5_requireRange 3 none] ++ wsX50 ++ wsX00 ++ (vx_atS RX5 161 "java/lang/IndexOutOfBoundsException" ["java/lang/RuntimeException", "java/lang/Exception"]).filter goodWord ++ (vx_atS RX5 173 "java/lang/IllegalArgumentException" ["java/lang/RuntimeException", "java/lang/Exception"]).filter goodWord)
def wsX5_requireDay : List Cond := .code yX5_requireDay cX5_requireDay 1 none :: ([.methodLink RX5 53 yX5_requireRange, .static yX5_requireRange, .initialized RX5, .code yX5_requireRange cX5_requireRange 3 none, .classLink RX5 169 "java/lang/IllegalArgumentException", .initialized "java/lang/IllegalArgumentException"] ++ (vx_atS RX5 173 "java/lang/IllegalArgumentException" ["java/lang/RuntimeException", "java/lang/Exception"]).filter goodWord)
def wsX5_counts_r1 : List Cond := [Cond.fieldLink RX5 23 "FoundRegister" "finds" "LFoundRegister$Finds;", Cond.fieldLink RX5 16 "FoundRegister" "sources" "LFoundRegister$Sources;", Cond.methodLink RX5 88 yX5_requireFind, Cond.instanceMethod yX5_requireFind, Cond.selects RX5 yX5_requireFind yX5_requireFind, Cond.initialized RX5, Cond.code yX5_requireFind cX5_requireFind 2 none, Cond.classLink RX5 157 "java/lang/IndexOutOfBoundsException", Cond.initialized "java/lang/IndexOutOfBoundsException", Cond.fieldLink RX5 72 "FoundRegister$Finds" "count" "I", Cond.methodLink RX5 104 yX5_requireDay, Cond.static yX5_requireDay, Cond.code yX5_requireDay cX5_requireDay 1 none, Cond.methodLink RX5 53 yX5_requireRange, Cond.static yX5_requireRange, Cond.code yX5_requireRange cX5_requireRange 3 none, Cond.classLink RX5 169 "java/lang/IllegalArgumentException", Cond.initialized "java/lang/IllegalArgumentException", Cond.methodLink RX5 107 yX0_standsOn, Cond.instanceMethod yX0_standsOn, Cond.selects RX0 yX0_standsOn yX0_standsOn, Cond.initialized RX0, Cond.code yX0_standsOn cX0_standsOn 4 (some .boolean), Cond.fieldLink RX0 22 "FoundRegister$Finds" "struck" "[Z"]
def wsX5_counts_r2 : List Cond := [Cond.fieldLink RX0 19 "FoundRegister$Finds" "cameOn" "[I", Cond.fieldLink RX0 37 "FoundRegister$Sources" "term" "[I", Cond.fieldLink RX0 15 "FoundRegister$Finds" "source" "[I"]
def wsX5_counts : List Cond := .code yX5_counts cX5_counts 3 (some .boolean) :: ((wsX5_counts_r1 ++ wsX5_counts_r2) ++ wsX50 ++ wsX00 ++ wsX20 ++ (vx_atS RX5 161 "java/lang/IndexOutOfBoundsException" ["java/lang/RuntimeException", "java/lang/Exception"]).filter goodWord ++ (vx_atS RX5 173 "java/lang/IllegalArgumentException" ["java/lang/RuntimeException", "java/lang/Exception"]).filter goodWord)
def wsX5_things_r1 : List Cond := [Cond.fieldLink RX5 46 "FoundRegister" "ofDay" "LFoundRegister$Things;", Cond.fieldLink RX5 23 "FoundRegister" "finds" "LFoundRegister$Finds;", Cond.fieldLink RX5 72 "FoundRegister$Finds" "count" "I", Cond.methodLink RX5 104 yX5_requireDay, Cond.static yX5_requireDay, Cond.initialized RX5, Cond.code yX5_requireDay cX5_requireDay 1 none, Cond.methodLink RX5 53 yX5_requireRange, Cond.static yX5_requireRange, Cond.code yX5_requireRange cX5_requireRange 3 none, Cond.classLink RX5 169 "java/lang/IllegalArgumentException", Cond.initialized "java/lang/IllegalArgumentException", Cond.methodLink RX5 111 yX3_sortFor, Cond.instanceMethod yX3_sortFor, Cond.selects RX3 yX3_sortFor yX3_sortFor, Cond.initialized RX3, Cond.code yX3_sortFor cX3_sortFor 3 none, Cond.fieldLink RX3 15 "FoundRegister$Things" "finds" "LFoundRegister$Finds;", Cond.fieldLink RX3 23 "FoundRegister$Finds" "count" "I", Cond.fieldLink RX3 9 "FoundRegister$Things" "ofFind" "[I", Cond.fieldLink RX3 19 "FoundRegister$Things" "sources" "LFoundRegister$Sources;", Cond.methodLink RX3 29 yX0_standsOn, Cond.instanceMethod yX0_standsOn, Cond.selects RX0 yX0_standsOn yX0_standsOn]
def wsX5_things_r2 : List Cond := [Cond.initialized RX0, Cond.code yX0_standsOn cX0_standsOn 4 (some .boolean), Cond.fieldLink RX0 22 "FoundRegister$Finds" "struck" "[Z", Cond.fieldLink RX0 19 "FoundRegister$Finds" "cameOn" "[I", Cond.fieldLink RX0 37 "FoundRegister$Sources" "term" "[I", Cond.fieldLink RX0 15 "FoundRegister$Finds" "source" "[I", Cond.methodLink RX3 33 yX3_joinToEarlier, Cond.instanceMethod yX3_joinToEarlier, Cond.selects RX3 yX3_joinToEarlier yX3_joinToEarlier, Cond.code yX3_joinToEarlier cX3_joinToEarlier 3 none, Cond.methodLink RX3 37 yX0_joined, Cond.instanceMethod yX0_joined, Cond.selects RX0 yX0_joined yX0_joined, Cond.code yX0_joined cX0_joined 3 (some .boolean), Cond.fieldLink RX0 34 "FoundRegister$Finds" "told" "[[I", Cond.methodLink RX0 42 yX0_knowsSerial, Cond.instanceMethod yX0_knowsSerial, Cond.selects RX0 yX0_knowsSerial yX0_knowsSerial, Cond.code yX0_knowsSerial cX0_knowsSerial 2 (some .boolean), Cond.fieldLink RX0 28 "FoundRegister$Finds" "marks" "[[I", Cond.methodLink RX0 46 yX0_shareMark, Cond.instanceMethod yX0_shareMark, Cond.selects RX0 yX0_shareMark yX0_shareMark, Cond.code yX0_shareMark cX0_shareMark 4 (some .boolean)]
def wsX5_things_r3 : List Cond := [Cond.methodLink RX3 41 yX3_merge, Cond.instanceMethod yX3_merge, Cond.selects RX3 yX3_merge yX3_merge, Cond.code yX3_merge cX3_merge 6 none, Cond.methodLink RX3 45 Lib.Math.min.name, Cond.static Lib.Math.min.name, Cond.initialized "java/lang/Math", Cond.code Lib.Math.min.name Lib.Math.min.code 2 (some .int), Cond.methodLink RX3 51 Lib.Math.max.name, Cond.static Lib.Math.max.name, Cond.code Lib.Math.max.name Lib.Math.max.code 2 (some .int), Cond.methodLink RX5 114 yX3_isThing, Cond.instanceMethod yX3_isThing, Cond.selects RX3 yX3_isThing yX3_isThing, Cond.code yX3_isThing cX3_isThing 2 (some .boolean)]
def wsX5_things : List Cond := .code yX5_things cX5_things 4 (some .int) :: ((wsX5_things_r1 ++ (wsX5_things_r2 ++ wsX5_things_r3)) ++ wsX50 ++ wsX00 ++ wsX30 ++ wsX20 ++ (vx_atS RX5 173 "java/lang/IllegalArgumentException" ["java/lang/RuntimeException", "java/lang/Exception"]).filter goodWord)
def wsX5_requireCounting : List Cond := .code yX5_requireCounting cX5_requireCounting 2 none :: ([.classLink RX5 178 "java/util/NoSuchElementException", .initialized "java/util/NoSuchElementException", .fieldLink RX5 46 "FoundRegister" "ofDay" "LFoundRegister$Things;", .fieldLink RX5 121 "FoundRegister$Things" "ofFind" "[I"] ++ wsX50 ++ wsX30 ++ (gNsAt RX5 182).filter goodWord)
def wsX5_thingOf_r1 : List Cond := [Cond.fieldLink RX5 46 "FoundRegister" "ofDay" "LFoundRegister$Things;", Cond.fieldLink RX5 121 "FoundRegister$Things" "ofFind" "[I", Cond.methodLink RX5 88 yX5_requireFind, Cond.instanceMethod yX5_requireFind, Cond.selects RX5 yX5_requireFind yX5_requireFind, Cond.initialized RX5, Cond.code yX5_requireFind cX5_requireFind 2 none, Cond.classLink RX5 157 "java/lang/IndexOutOfBoundsException", Cond.initialized "java/lang/IndexOutOfBoundsException", Cond.fieldLink RX5 23 "FoundRegister" "finds" "LFoundRegister$Finds;", Cond.fieldLink RX5 72 "FoundRegister$Finds" "count" "I", Cond.methodLink RX5 104 yX5_requireDay, Cond.static yX5_requireDay, Cond.code yX5_requireDay cX5_requireDay 1 none, Cond.methodLink RX5 53 yX5_requireRange, Cond.static yX5_requireRange, Cond.code yX5_requireRange cX5_requireRange 3 none, Cond.classLink RX5 169 "java/lang/IllegalArgumentException", Cond.initialized "java/lang/IllegalArgumentException", Cond.methodLink RX5 111 yX3_sortFor, Cond.instanceMethod yX3_sortFor, Cond.selects RX3 yX3_sortFor yX3_sortFor, Cond.initialized RX3, Cond.code yX3_sortFor cX3_sortFor 3 none]
def wsX5_thingOf_r2 : List Cond := [Cond.fieldLink RX3 15 "FoundRegister$Things" "finds" "LFoundRegister$Finds;", Cond.fieldLink RX3 23 "FoundRegister$Finds" "count" "I", Cond.fieldLink RX3 9 "FoundRegister$Things" "ofFind" "[I", Cond.fieldLink RX3 19 "FoundRegister$Things" "sources" "LFoundRegister$Sources;", Cond.methodLink RX3 29 yX0_standsOn, Cond.instanceMethod yX0_standsOn, Cond.selects RX0 yX0_standsOn yX0_standsOn, Cond.initialized RX0, Cond.code yX0_standsOn cX0_standsOn 4 (some .boolean), Cond.fieldLink RX0 22 "FoundRegister$Finds" "struck" "[Z", Cond.fieldLink RX0 19 "FoundRegister$Finds" "cameOn" "[I", Cond.fieldLink RX0 37 "FoundRegister$Sources" "term" "[I", Cond.fieldLink RX0 15 "FoundRegister$Finds" "source" "[I", Cond.methodLink RX3 33 yX3_joinToEarlier, Cond.instanceMethod yX3_joinToEarlier, Cond.selects RX3 yX3_joinToEarlier yX3_joinToEarlier, Cond.code yX3_joinToEarlier cX3_joinToEarlier 3 none, Cond.methodLink RX3 37 yX0_joined, Cond.instanceMethod yX0_joined, Cond.selects RX0 yX0_joined yX0_joined, Cond.code yX0_joined cX0_joined 3 (some .boolean), Cond.fieldLink RX0 34 "FoundRegister$Finds" "told" "[[I", Cond.methodLink RX0 42 yX0_knowsSerial, Cond.instanceMethod yX0_knowsSerial]
def wsX5_thingOf_r3 : List Cond := [Cond.selects RX0 yX0_knowsSerial yX0_knowsSerial, Cond.code yX0_knowsSerial cX0_knowsSerial 2 (some .boolean), Cond.fieldLink RX0 28 "FoundRegister$Finds" "marks" "[[I", Cond.methodLink RX0 46 yX0_shareMark, Cond.instanceMethod yX0_shareMark, Cond.selects RX0 yX0_shareMark yX0_shareMark, Cond.code yX0_shareMark cX0_shareMark 4 (some .boolean), Cond.methodLink RX3 41 yX3_merge, Cond.instanceMethod yX3_merge, Cond.selects RX3 yX3_merge yX3_merge, Cond.code yX3_merge cX3_merge 6 none, Cond.methodLink RX3 45 Lib.Math.min.name, Cond.static Lib.Math.min.name, Cond.initialized "java/lang/Math", Cond.code Lib.Math.min.name Lib.Math.min.code 2 (some .int), Cond.methodLink RX3 51 Lib.Math.max.name, Cond.static Lib.Math.max.name, Cond.code Lib.Math.max.name Lib.Math.max.code 2 (some .int), Cond.methodLink RX5 118 yX5_requireCounting, Cond.instanceMethod yX5_requireCounting, Cond.selects RX5 yX5_requireCounting yX5_requireCounting, Cond.code yX5_requireCounting cX5_requireCounting 2 none, Cond.classLink RX5 178 "java/util/NoSuchElementException", Cond.initialized "java/util/NoSuchElementException"]
def wsX5_thingOf : List Cond := .code yX5_thingOf cX5_thingOf 3 (some .int) :: ((wsX5_thingOf_r1 ++ (wsX5_thingOf_r2 ++ wsX5_thingOf_r3)) ++ wsX50 ++ wsX30 ++ wsX00 ++ wsX20 ++ (vx_atS RX5 161 "java/lang/IndexOutOfBoundsException" ["java/lang/RuntimeException", "java/lang/Exception"]).filter goodWord ++ (vx_atS RX5 173 "java/lang/IllegalArgumentException" ["java/lang/RuntimeException", "java/lang/Exception"]).filter goodWord ++ (gNsAt RX5 182).filter goodWord)
def wsX5_requireAttribute : List Cond := .code yX5_requireAttribute cX5_requireAttribute 1 none :: ([.methodLink RX5 53 yX5_requireRange, .static yX5_requireRange, .initialized RX5, .code yX5_requireRange cX5_requireRange 3 none, .classLink RX5 169 "java/lang/IllegalArgumentException", .initialized "java/lang/IllegalArgumentException"] ++ (vx_atS RX5 173 "java/lang/IllegalArgumentException" ["java/lang/RuntimeException", "java/lang/Exception"]).filter goodWord)
def wsX5_value_r1 : List Cond := [Cond.fieldLink RX5 46 "FoundRegister" "ofDay" "LFoundRegister$Things;", Cond.fieldLink RX5 121 "FoundRegister$Things" "ofFind" "[I", Cond.methodLink RX5 88 yX5_requireFind, Cond.instanceMethod yX5_requireFind, Cond.selects RX5 yX5_requireFind yX5_requireFind, Cond.initialized RX5, Cond.code yX5_requireFind cX5_requireFind 2 none, Cond.classLink RX5 157 "java/lang/IndexOutOfBoundsException", Cond.initialized "java/lang/IndexOutOfBoundsException", Cond.fieldLink RX5 23 "FoundRegister" "finds" "LFoundRegister$Finds;", Cond.fieldLink RX5 72 "FoundRegister$Finds" "count" "I", Cond.methodLink RX5 124 yX5_requireAttribute, Cond.static yX5_requireAttribute, Cond.code yX5_requireAttribute cX5_requireAttribute 1 none, Cond.methodLink RX5 53 yX5_requireRange, Cond.static yX5_requireRange, Cond.code yX5_requireRange cX5_requireRange 3 none, Cond.classLink RX5 169 "java/lang/IllegalArgumentException", Cond.initialized "java/lang/IllegalArgumentException", Cond.methodLink RX5 104 yX5_requireDay, Cond.static yX5_requireDay, Cond.code yX5_requireDay cX5_requireDay 1 none, Cond.methodLink RX5 111 yX3_sortFor, Cond.instanceMethod yX3_sortFor]
def wsX5_value_r2 : List Cond := [Cond.selects RX3 yX3_sortFor yX3_sortFor, Cond.initialized RX3, Cond.code yX3_sortFor cX3_sortFor 3 none, Cond.fieldLink RX3 15 "FoundRegister$Things" "finds" "LFoundRegister$Finds;", Cond.fieldLink RX3 23 "FoundRegister$Finds" "count" "I", Cond.fieldLink RX3 9 "FoundRegister$Things" "ofFind" "[I", Cond.fieldLink RX3 19 "FoundRegister$Things" "sources" "LFoundRegister$Sources;", Cond.methodLink RX3 29 yX0_standsOn, Cond.instanceMethod yX0_standsOn, Cond.selects RX0 yX0_standsOn yX0_standsOn, Cond.initialized RX0, Cond.code yX0_standsOn cX0_standsOn 4 (some .boolean), Cond.fieldLink RX0 22 "FoundRegister$Finds" "struck" "[Z", Cond.fieldLink RX0 19 "FoundRegister$Finds" "cameOn" "[I", Cond.fieldLink RX0 37 "FoundRegister$Sources" "term" "[I", Cond.fieldLink RX0 15 "FoundRegister$Finds" "source" "[I", Cond.methodLink RX3 33 yX3_joinToEarlier, Cond.instanceMethod yX3_joinToEarlier, Cond.selects RX3 yX3_joinToEarlier yX3_joinToEarlier, Cond.code yX3_joinToEarlier cX3_joinToEarlier 3 none, Cond.methodLink RX3 37 yX0_joined, Cond.instanceMethod yX0_joined, Cond.selects RX0 yX0_joined yX0_joined, Cond.code yX0_joined cX0_joined 3 (some .boolean)]
def wsX5_value_r3 : List Cond := [Cond.fieldLink RX0 34 "FoundRegister$Finds" "told" "[[I", Cond.methodLink RX0 42 yX0_knowsSerial, Cond.instanceMethod yX0_knowsSerial, Cond.selects RX0 yX0_knowsSerial yX0_knowsSerial, Cond.code yX0_knowsSerial cX0_knowsSerial 2 (some .boolean), Cond.fieldLink RX0 28 "FoundRegister$Finds" "marks" "[[I", Cond.methodLink RX0 46 yX0_shareMark, Cond.instanceMethod yX0_shareMark, Cond.selects RX0 yX0_shareMark yX0_shareMark, Cond.code yX0_shareMark cX0_shareMark 4 (some .boolean), Cond.methodLink RX3 41 yX3_merge, Cond.instanceMethod yX3_merge, Cond.selects RX3 yX3_merge yX3_merge, Cond.code yX3_merge cX3_merge 6 none, Cond.methodLink RX3 45 Lib.Math.min.name, Cond.static Lib.Math.min.name, Cond.initialized "java/lang/Math", Cond.code Lib.Math.min.name Lib.Math.min.code 2 (some .int), Cond.methodLink RX3 51 Lib.Math.max.name, Cond.static Lib.Math.max.name, Cond.code Lib.Math.max.name Lib.Math.max.code 2 (some .int), Cond.methodLink RX5 118 yX5_requireCounting, Cond.instanceMethod yX5_requireCounting, Cond.selects RX5 yX5_requireCounting yX5_requireCounting]
def wsX5_value_r4 : List Cond := [Cond.code yX5_requireCounting cX5_requireCounting 2 none, Cond.classLink RX5 178 "java/util/NoSuchElementException", Cond.initialized "java/util/NoSuchElementException", Cond.methodLink RX5 127 yX3_attributeOf, Cond.instanceMethod yX3_attributeOf, Cond.selects RX3 yX3_attributeOf yX3_attributeOf, Cond.code yX3_attributeOf cX3_attributeOf 5 (some .int), Cond.fieldLink RX3 61 "FoundRegister$Finds" "attributes" "[[I", Cond.methodLink RX3 54 yX3_tells, Cond.instanceMethod yX3_tells, Cond.selects RX3 yX3_tells yX3_tells, Cond.code yX3_tells cX3_tells 4 (some .boolean), Cond.methodLink RX3 58 yX3_goesBefore, Cond.instanceMethod yX3_goesBefore, Cond.selects RX3 yX3_goesBefore yX3_goesBefore, Cond.code yX3_goesBefore cX3_goesBefore 5 (some .boolean), Cond.fieldLink RX3 65 "FoundRegister$Sources" "place" "[I", Cond.fieldLink RX3 70 "FoundRegister$Finds" "source" "[I"]
def wsX5_value : List Cond := .code yX5_value cX5_value 4 (some .int) :: ((wsX5_value_r1 ++ (wsX5_value_r2 ++ (wsX5_value_r3 ++ wsX5_value_r4))) ++ wsX50 ++ wsX30 ++ wsX00 ++ wsX20 ++ (vx_atS RX5 161 "java/lang/IndexOutOfBoundsException" ["java/lang/RuntimeException", "java/lang/Exception"]).filter goodWord ++ (vx_atS RX5 173 "java/lang/IllegalArgumentException" ["java/lang/RuntimeException", "java/lang/Exception"]).filter goodWord ++ (gNsAt RX5 182).filter goodWord)
def wsX5_disputed_r1 : List Cond := [Cond.fieldLink RX5 46 "FoundRegister" "ofDay" "LFoundRegister$Things;", Cond.fieldLink RX5 23 "FoundRegister" "finds" "LFoundRegister$Finds;", Cond.fieldLink RX5 72 "FoundRegister$Finds" "count" "I", Cond.methodLink RX5 124 yX5_requireAttribute, Cond.static yX5_requireAttribute, Cond.initialized RX5, Cond.code yX5_requireAttribute cX5_requireAttribute 1 none, Cond.methodLink RX5 53 yX5_requireRange, Cond.static yX5_requireRange, Cond.code yX5_requireRange cX5_requireRange 3 none, Cond.classLink RX5 169 "java/lang/IllegalArgumentException", Cond.initialized "java/lang/IllegalArgumentException", Cond.methodLink RX5 104 yX5_requireDay, Cond.static yX5_requireDay, Cond.code yX5_requireDay cX5_requireDay 1 none, Cond.methodLink RX5 111 yX3_sortFor, Cond.instanceMethod yX3_sortFor, Cond.selects RX3 yX3_sortFor yX3_sortFor, Cond.initialized RX3, Cond.code yX3_sortFor cX3_sortFor 3 none, Cond.fieldLink RX3 15 "FoundRegister$Things" "finds" "LFoundRegister$Finds;", Cond.fieldLink RX3 23 "FoundRegister$Finds" "count" "I", Cond.fieldLink RX3 9 "FoundRegister$Things" "ofFind" "[I", Cond.fieldLink RX3 19 "FoundRegister$Things" "sources" "LFoundRegister$Sources;"]
def wsX5_disputed_r2 : List Cond := [Cond.methodLink RX3 29 yX0_standsOn, Cond.instanceMethod yX0_standsOn, Cond.selects RX0 yX0_standsOn yX0_standsOn, Cond.initialized RX0, Cond.code yX0_standsOn cX0_standsOn 4 (some .boolean), Cond.fieldLink RX0 22 "FoundRegister$Finds" "struck" "[Z", Cond.fieldLink RX0 19 "FoundRegister$Finds" "cameOn" "[I", Cond.fieldLink RX0 37 "FoundRegister$Sources" "term" "[I", Cond.fieldLink RX0 15 "FoundRegister$Finds" "source" "[I", Cond.methodLink RX3 33 yX3_joinToEarlier, Cond.instanceMethod yX3_joinToEarlier, Cond.selects RX3 yX3_joinToEarlier yX3_joinToEarlier, Cond.code yX3_joinToEarlier cX3_joinToEarlier 3 none, Cond.methodLink RX3 37 yX0_joined, Cond.instanceMethod yX0_joined, Cond.selects RX0 yX0_joined yX0_joined, Cond.code yX0_joined cX0_joined 3 (some .boolean), Cond.fieldLink RX0 34 "FoundRegister$Finds" "told" "[[I", Cond.methodLink RX0 42 yX0_knowsSerial, Cond.instanceMethod yX0_knowsSerial, Cond.selects RX0 yX0_knowsSerial yX0_knowsSerial, Cond.code yX0_knowsSerial cX0_knowsSerial 2 (some .boolean), Cond.fieldLink RX0 28 "FoundRegister$Finds" "marks" "[[I", Cond.methodLink RX0 46 yX0_shareMark]
def wsX5_disputed_r3 : List Cond := [Cond.instanceMethod yX0_shareMark, Cond.selects RX0 yX0_shareMark yX0_shareMark, Cond.code yX0_shareMark cX0_shareMark 4 (some .boolean), Cond.methodLink RX3 41 yX3_merge, Cond.instanceMethod yX3_merge, Cond.selects RX3 yX3_merge yX3_merge, Cond.code yX3_merge cX3_merge 6 none, Cond.methodLink RX3 45 Lib.Math.min.name, Cond.static Lib.Math.min.name, Cond.initialized "java/lang/Math", Cond.code Lib.Math.min.name Lib.Math.min.code 2 (some .int), Cond.methodLink RX3 51 Lib.Math.max.name, Cond.static Lib.Math.max.name, Cond.code Lib.Math.max.name Lib.Math.max.code 2 (some .int), Cond.methodLink RX5 114 yX3_isThing, Cond.instanceMethod yX3_isThing, Cond.selects RX3 yX3_isThing yX3_isThing, Cond.code yX3_isThing cX3_isThing 2 (some .boolean), Cond.methodLink RX5 130 yX3_hasUnlikeValues, Cond.instanceMethod yX3_hasUnlikeValues, Cond.selects RX3 yX3_hasUnlikeValues yX3_hasUnlikeValues, Cond.code yX3_hasUnlikeValues cX3_hasUnlikeValues 6 (some .boolean), Cond.fieldLink RX3 61 "FoundRegister$Finds" "attributes" "[[I", Cond.methodLink RX3 54 yX3_tells]
def wsX5_disputed_r4 : List Cond := [Cond.instanceMethod yX3_tells, Cond.selects RX3 yX3_tells yX3_tells, Cond.code yX3_tells cX3_tells 4 (some .boolean)]
def wsX5_disputed : List Cond := .code yX5_disputed cX5_disputed 5 (some .int) :: ((wsX5_disputed_r1 ++ (wsX5_disputed_r2 ++ (wsX5_disputed_r3 ++ wsX5_disputed_r4))) ++ wsX50 ++ wsX00 ++ wsX30 ++ wsX20 ++ (vx_atS RX5 173 "java/lang/IllegalArgumentException" ["java/lang/RuntimeException", "java/lang/Exception"]).filter goodWord)
def wsX5_link_r1 : List Cond := [Cond.classLink RX5 57 "java/lang/IllegalStateException", Cond.initialized "java/lang/IllegalStateException", Cond.fieldLink RX5 30 "FoundRegister" "links" "LFoundRegister$Links;", Cond.fieldLink RX5 134 "FoundRegister$Links" "count" "I", Cond.methodLink RX5 88 yX5_requireFind, Cond.instanceMethod yX5_requireFind, Cond.selects RX5 yX5_requireFind yX5_requireFind, Cond.initialized RX5, Cond.code yX5_requireFind cX5_requireFind 2 none, Cond.classLink RX5 157 "java/lang/IndexOutOfBoundsException", Cond.initialized "java/lang/IndexOutOfBoundsException", Cond.fieldLink RX5 23 "FoundRegister" "finds" "LFoundRegister$Finds;", Cond.fieldLink RX5 72 "FoundRegister$Finds" "count" "I", Cond.methodLink RX5 96 yX5_requireUnlike, Cond.static yX5_requireUnlike, Cond.code yX5_requireUnlike cX5_requireUnlike 2 none, Cond.classLink RX5 169 "java/lang/IllegalArgumentException", Cond.initialized "java/lang/IllegalArgumentException", Cond.methodLink RX5 53 yX5_requireRange, Cond.static yX5_requireRange, Cond.code yX5_requireRange cX5_requireRange 3 none, Cond.methodLink RX5 137 yX1_add, Cond.instanceMethod yX1_add, Cond.selects RX1 yX1_add yX1_add]
def wsX5_link_r2 : List Cond := [Cond.initialized RX1, Cond.code yX1_add cX1_add 4 none, Cond.fieldLink RX1 15 "FoundRegister$Links" "needing" "[I", Cond.fieldLink RX1 9 "FoundRegister$Links" "count" "I", Cond.fieldLink RX1 19 "FoundRegister$Links" "needed" "[I", Cond.fieldLink RX1 22 "FoundRegister$Links" "group" "[I"]
def wsX5_link : List Cond := .code yX5_link cX5_link 4 (some .int) :: ((wsX5_link_r1 ++ wsX5_link_r2) ++ wsX50 ++ wsX10 ++ wsX00 ++ (vx_atS RX5 61 "java/lang/IllegalStateException" ["java/lang/RuntimeException", "java/lang/Exception"]).filter goodWord ++ (vx_atS RX5 161 "java/lang/IndexOutOfBoundsException" ["java/lang/RuntimeException", "java/lang/Exception"]).filter goodWord ++ (vx_atS RX5 173 "java/lang/IllegalArgumentException" ["java/lang/RuntimeException", "java/lang/Exception"]).filter goodWord)
def wsX5_impact_r1 : List Cond := [Cond.fieldLink RX5 46 "FoundRegister" "ofDay" "LFoundRegister$Things;", Cond.fieldLink RX5 30 "FoundRegister" "links" "LFoundRegister$Links;", Cond.fieldLink RX5 121 "FoundRegister$Things" "ofFind" "[I", Cond.methodLink RX5 88 yX5_requireFind, Cond.instanceMethod yX5_requireFind, Cond.selects RX5 yX5_requireFind yX5_requireFind, Cond.initialized RX5, Cond.code yX5_requireFind cX5_requireFind 2 none, Cond.classLink RX5 157 "java/lang/IndexOutOfBoundsException", Cond.initialized "java/lang/IndexOutOfBoundsException", Cond.fieldLink RX5 23 "FoundRegister" "finds" "LFoundRegister$Finds;", Cond.fieldLink RX5 72 "FoundRegister$Finds" "count" "I", Cond.methodLink RX5 104 yX5_requireDay, Cond.static yX5_requireDay, Cond.code yX5_requireDay cX5_requireDay 1 none, Cond.methodLink RX5 53 yX5_requireRange, Cond.static yX5_requireRange, Cond.code yX5_requireRange cX5_requireRange 3 none, Cond.classLink RX5 169 "java/lang/IllegalArgumentException", Cond.initialized "java/lang/IllegalArgumentException", Cond.methodLink RX5 111 yX3_sortFor, Cond.instanceMethod yX3_sortFor, Cond.selects RX3 yX3_sortFor yX3_sortFor, Cond.initialized RX3]
def wsX5_impact_r2 : List Cond := [Cond.code yX3_sortFor cX3_sortFor 3 none, Cond.fieldLink RX3 15 "FoundRegister$Things" "finds" "LFoundRegister$Finds;", Cond.fieldLink RX3 23 "FoundRegister$Finds" "count" "I", Cond.fieldLink RX3 9 "FoundRegister$Things" "ofFind" "[I", Cond.fieldLink RX3 19 "FoundRegister$Things" "sources" "LFoundRegister$Sources;", Cond.methodLink RX3 29 yX0_standsOn, Cond.instanceMethod yX0_standsOn, Cond.selects RX0 yX0_standsOn yX0_standsOn, Cond.initialized RX0, Cond.code yX0_standsOn cX0_standsOn 4 (some .boolean), Cond.fieldLink RX0 22 "FoundRegister$Finds" "struck" "[Z", Cond.fieldLink RX0 19 "FoundRegister$Finds" "cameOn" "[I", Cond.fieldLink RX0 37 "FoundRegister$Sources" "term" "[I", Cond.fieldLink RX0 15 "FoundRegister$Finds" "source" "[I", Cond.methodLink RX3 33 yX3_joinToEarlier, Cond.instanceMethod yX3_joinToEarlier, Cond.selects RX3 yX3_joinToEarlier yX3_joinToEarlier, Cond.code yX3_joinToEarlier cX3_joinToEarlier 3 none, Cond.methodLink RX3 37 yX0_joined, Cond.instanceMethod yX0_joined, Cond.selects RX0 yX0_joined yX0_joined, Cond.code yX0_joined cX0_joined 3 (some .boolean), Cond.fieldLink RX0 34 "FoundRegister$Finds" "told" "[[I", Cond.methodLink RX0 42 yX0_knowsSerial]
def wsX5_impact_r3 : List Cond := [Cond.instanceMethod yX0_knowsSerial, Cond.selects RX0 yX0_knowsSerial yX0_knowsSerial, Cond.code yX0_knowsSerial cX0_knowsSerial 2 (some .boolean), Cond.fieldLink RX0 28 "FoundRegister$Finds" "marks" "[[I", Cond.methodLink RX0 46 yX0_shareMark, Cond.instanceMethod yX0_shareMark, Cond.selects RX0 yX0_shareMark yX0_shareMark, Cond.code yX0_shareMark cX0_shareMark 4 (some .boolean), Cond.methodLink RX3 41 yX3_merge, Cond.instanceMethod yX3_merge, Cond.selects RX3 yX3_merge yX3_merge, Cond.code yX3_merge cX3_merge 6 none, Cond.methodLink RX3 45 Lib.Math.min.name, Cond.static Lib.Math.min.name, Cond.initialized "java/lang/Math", Cond.code Lib.Math.min.name Lib.Math.min.code 2 (some .int), Cond.methodLink RX3 51 Lib.Math.max.name, Cond.static Lib.Math.max.name, Cond.code Lib.Math.max.name Lib.Math.max.code 2 (some .int), Cond.methodLink RX5 118 yX5_requireCounting, Cond.instanceMethod yX5_requireCounting, Cond.selects RX5 yX5_requireCounting yX5_requireCounting, Cond.code yX5_requireCounting cX5_requireCounting 2 none, Cond.classLink RX5 178 "java/util/NoSuchElementException"]
def wsX5_impact_r4 : List Cond := [Cond.initialized "java/util/NoSuchElementException", Cond.methodLink RX5 140 yX1_failFrom, Cond.instanceMethod yX1_failFrom, Cond.selects RX1 yX1_failFrom yX1_failFrom, Cond.initialized RX1, Cond.code yX1_failFrom cX1_failFrom 5 none, Cond.fieldLink RX1 25 "FoundRegister$Links" "failed" "[Z", Cond.methodLink RX1 29 yX1_failMore, Cond.instanceMethod yX1_failMore, Cond.selects RX1 yX1_failMore yX1_failMore, Cond.code yX1_failMore cX1_failMore 5 (some .boolean), Cond.fieldLink RX1 9 "FoundRegister$Links" "count" "I", Cond.fieldLink RX1 33 "FoundRegister$Things" "ofFind" "[I", Cond.fieldLink RX1 15 "FoundRegister$Links" "needing" "[I", Cond.fieldLink RX1 22 "FoundRegister$Links" "group" "[I", Cond.methodLink RX1 38 yX1_holds, Cond.instanceMethod yX1_holds, Cond.selects RX1 yX1_holds yX1_holds, Cond.code yX1_holds cX1_holds 5 (some .boolean), Cond.fieldLink RX1 19 "FoundRegister$Links" "needed" "[I", Cond.methodLink RX1 42 yX1_lost, Cond.instanceMethod yX1_lost, Cond.selects RX1 yX1_lost yX1_lost, Cond.code yX1_lost cX1_lost 5 (some .boolean)]
def wsX5_impact_r5 : List Cond := [Cond.methodLink RX5 144 yX1_failures, Cond.instanceMethod yX1_failures, Cond.selects RX1 yX1_failures yX1_failures, Cond.code yX1_failures cX1_failures 3 (some .int)]
def wsX5_impact : List Cond := .code yX5_impact cX5_impact 3 (some .int) :: ((wsX5_impact_r1 ++ (wsX5_impact_r2 ++ (wsX5_impact_r3 ++ (wsX5_impact_r4 ++ wsX5_impact_r5)))) ++ wsX50 ++ wsX30 ++ wsX00 ++ wsX20 ++ wsX10 ++ (vx_atS RX5 161 "java/lang/IndexOutOfBoundsException" ["java/lang/RuntimeException", "java/lang/Exception"]).filter goodWord ++ (vx_atS RX5 173 "java/lang/IllegalArgumentException" ["java/lang/RuntimeException", "java/lang/Exception"]).filter goodWord ++ (gNsAt RX5 182).filter goodWord)
def wsX5_failsWith_r1 : List Cond := [Cond.fieldLink RX5 46 "FoundRegister" "ofDay" "LFoundRegister$Things;", Cond.fieldLink RX5 30 "FoundRegister" "links" "LFoundRegister$Links;", Cond.fieldLink RX5 121 "FoundRegister$Things" "ofFind" "[I", Cond.fieldLink RX5 148 "FoundRegister$Links" "failed" "[Z", Cond.methodLink RX5 88 yX5_requireFind, Cond.instanceMethod yX5_requireFind, Cond.selects RX5 yX5_requireFind yX5_requireFind, Cond.initialized RX5, Cond.code yX5_requireFind cX5_requireFind 2 none, Cond.classLink RX5 157 "java/lang/IndexOutOfBoundsException", Cond.initialized "java/lang/IndexOutOfBoundsException", Cond.fieldLink RX5 23 "FoundRegister" "finds" "LFoundRegister$Finds;", Cond.fieldLink RX5 72 "FoundRegister$Finds" "count" "I", Cond.methodLink RX5 104 yX5_requireDay, Cond.static yX5_requireDay, Cond.code yX5_requireDay cX5_requireDay 1 none, Cond.methodLink RX5 53 yX5_requireRange, Cond.static yX5_requireRange, Cond.code yX5_requireRange cX5_requireRange 3 none, Cond.classLink RX5 169 "java/lang/IllegalArgumentException", Cond.initialized "java/lang/IllegalArgumentException", Cond.methodLink RX5 111 yX3_sortFor, Cond.instanceMethod yX3_sortFor, Cond.selects RX3 yX3_sortFor yX3_sortFor]
def wsX5_failsWith_r2 : List Cond := [Cond.initialized RX3, Cond.code yX3_sortFor cX3_sortFor 3 none, Cond.fieldLink RX3 15 "FoundRegister$Things" "finds" "LFoundRegister$Finds;", Cond.fieldLink RX3 23 "FoundRegister$Finds" "count" "I", Cond.fieldLink RX3 9 "FoundRegister$Things" "ofFind" "[I", Cond.fieldLink RX3 19 "FoundRegister$Things" "sources" "LFoundRegister$Sources;", Cond.methodLink RX3 29 yX0_standsOn, Cond.instanceMethod yX0_standsOn, Cond.selects RX0 yX0_standsOn yX0_standsOn, Cond.initialized RX0, Cond.code yX0_standsOn cX0_standsOn 4 (some .boolean), Cond.fieldLink RX0 22 "FoundRegister$Finds" "struck" "[Z", Cond.fieldLink RX0 19 "FoundRegister$Finds" "cameOn" "[I", Cond.fieldLink RX0 37 "FoundRegister$Sources" "term" "[I", Cond.fieldLink RX0 15 "FoundRegister$Finds" "source" "[I", Cond.methodLink RX3 33 yX3_joinToEarlier, Cond.instanceMethod yX3_joinToEarlier, Cond.selects RX3 yX3_joinToEarlier yX3_joinToEarlier, Cond.code yX3_joinToEarlier cX3_joinToEarlier 3 none, Cond.methodLink RX3 37 yX0_joined, Cond.instanceMethod yX0_joined, Cond.selects RX0 yX0_joined yX0_joined, Cond.code yX0_joined cX0_joined 3 (some .boolean), Cond.fieldLink RX0 34 "FoundRegister$Finds" "told" "[[I"]
def wsX5_failsWith_r3 : List Cond := [Cond.methodLink RX0 42 yX0_knowsSerial, Cond.instanceMethod yX0_knowsSerial, Cond.selects RX0 yX0_knowsSerial yX0_knowsSerial, Cond.code yX0_knowsSerial cX0_knowsSerial 2 (some .boolean), Cond.fieldLink RX0 28 "FoundRegister$Finds" "marks" "[[I", Cond.methodLink RX0 46 yX0_shareMark, Cond.instanceMethod yX0_shareMark, Cond.selects RX0 yX0_shareMark yX0_shareMark, Cond.code yX0_shareMark cX0_shareMark 4 (some .boolean), Cond.methodLink RX3 41 yX3_merge, Cond.instanceMethod yX3_merge, Cond.selects RX3 yX3_merge yX3_merge, Cond.code yX3_merge cX3_merge 6 none, Cond.methodLink RX3 45 Lib.Math.min.name, Cond.static Lib.Math.min.name, Cond.initialized "java/lang/Math", Cond.code Lib.Math.min.name Lib.Math.min.code 2 (some .int), Cond.methodLink RX3 51 Lib.Math.max.name, Cond.static Lib.Math.max.name, Cond.code Lib.Math.max.name Lib.Math.max.code 2 (some .int), Cond.methodLink RX5 118 yX5_requireCounting, Cond.instanceMethod yX5_requireCounting, Cond.selects RX5 yX5_requireCounting yX5_requireCounting, Cond.code yX5_requireCounting cX5_requireCounting 2 none]
def wsX5_failsWith_r4 : List Cond := [Cond.classLink RX5 178 "java/util/NoSuchElementException", Cond.initialized "java/util/NoSuchElementException", Cond.methodLink RX5 140 yX1_failFrom, Cond.instanceMethod yX1_failFrom, Cond.selects RX1 yX1_failFrom yX1_failFrom, Cond.initialized RX1, Cond.code yX1_failFrom cX1_failFrom 5 none, Cond.fieldLink RX1 25 "FoundRegister$Links" "failed" "[Z", Cond.methodLink RX1 29 yX1_failMore, Cond.instanceMethod yX1_failMore, Cond.selects RX1 yX1_failMore yX1_failMore, Cond.code yX1_failMore cX1_failMore 5 (some .boolean), Cond.fieldLink RX1 9 "FoundRegister$Links" "count" "I", Cond.fieldLink RX1 33 "FoundRegister$Things" "ofFind" "[I", Cond.fieldLink RX1 15 "FoundRegister$Links" "needing" "[I", Cond.fieldLink RX1 22 "FoundRegister$Links" "group" "[I", Cond.methodLink RX1 38 yX1_holds, Cond.instanceMethod yX1_holds, Cond.selects RX1 yX1_holds yX1_holds, Cond.code yX1_holds cX1_holds 5 (some .boolean), Cond.fieldLink RX1 19 "FoundRegister$Links" "needed" "[I", Cond.methodLink RX1 42 yX1_lost, Cond.instanceMethod yX1_lost, Cond.selects RX1 yX1_lost yX1_lost]
def wsX5_failsWith_r5 : List Cond := [Cond.code yX1_lost cX1_lost 5 (some .boolean)]
def wsX5_failsWith : List Cond := .code yX5_failsWith cX5_failsWith 4 (some .boolean) :: ((wsX5_failsWith_r1 ++ (wsX5_failsWith_r2 ++ (wsX5_failsWith_r3 ++ (wsX5_failsWith_r4 ++ wsX5_failsWith_r5)))) ++ wsX50 ++ wsX30 ++ wsX10 ++ wsX00 ++ wsX20 ++ (vx_atS RX5 161 "java/lang/IndexOutOfBoundsException" ["java/lang/RuntimeException", "java/lang/Exception"]).filter goodWord ++ (vx_atS RX5 173 "java/lang/IllegalArgumentException" ["java/lang/RuntimeException", "java/lang/Exception"]).filter goodWord ++ (gNsAt RX5 182).filter goodWord)
def wsX5_wish : List Cond := .code yX5_wish cX5_wish 5 (some .int) :: ([.classLink RX5 57 "java/lang/IllegalStateException", .initialized "java/lang/IllegalStateException", .fieldLink RX5 37 "FoundRegister" "wishes" "LFoundRegister$Wishes;", .fieldLink RX5 151 "FoundRegister$Wishes" "count" "I", .methodLink RX5 53 yX5_requireRange, .static yX5_requireRange, .initialized RX5, .code yX5_requireRange cX5_requireRange 3 none, .classLink RX5 169 "java/lang/IllegalArgumentException", .initialized "java/lang/IllegalArgumentException", .methodLink RX5 124 yX5_requireAttribute, .static yX5_requireAttribute, .code yX5_requireAttribute cX5_requireAttribute 1 none, .methodLink RX5 154 yX4_add, .instanceMethod yX4_add, .selects RX4 yX4_add yX4_add, .initialized RX4, .code yX4_add cX4_add 6 (some .int), .fieldLink RX4 9 "FoundRegister$Wishes" "count" "I", .fieldLink RX4 15 "FoundRegister$Wishes" "mark" "[I", .fieldLink RX4 19 "FoundRegister$Wishes" "markValue" "[I", .fieldLink RX4 22 "FoundRegister$Wishes" "attribute" "[I", .fieldLink RX4 25 "FoundRegister$Wishes" "wished" "[I"] ++ wsX50 ++ wsX40 ++ (vx_atS RX5 61 "java/lang/IllegalStateException" ["java/lang/RuntimeException", "java/lang/Exception"]).filter goodWord ++ (vx_atS RX5 173 "java/lang/IllegalArgumentException" ["java/lang/RuntimeException", "java/lang/Exception"]).filter goodWord)
def wsX5_differing_r1 : List Cond := [Cond.classLink RX5 157 "java/lang/IndexOutOfBoundsException", Cond.initialized "java/lang/IndexOutOfBoundsException", Cond.fieldLink RX5 37 "FoundRegister" "wishes" "LFoundRegister$Wishes;", Cond.fieldLink RX5 151 "FoundRegister$Wishes" "count" "I", Cond.fieldLink RX5 46 "FoundRegister" "ofDay" "LFoundRegister$Things;", Cond.fieldLink RX5 23 "FoundRegister" "finds" "LFoundRegister$Finds;", Cond.fieldLink RX5 72 "FoundRegister$Finds" "count" "I", Cond.methodLink RX5 104 yX5_requireDay, Cond.static yX5_requireDay, Cond.initialized RX5, Cond.code yX5_requireDay cX5_requireDay 1 none, Cond.methodLink RX5 53 yX5_requireRange, Cond.static yX5_requireRange, Cond.code yX5_requireRange cX5_requireRange 3 none, Cond.classLink RX5 169 "java/lang/IllegalArgumentException", Cond.initialized "java/lang/IllegalArgumentException", Cond.methodLink RX5 111 yX3_sortFor, Cond.instanceMethod yX3_sortFor, Cond.selects RX3 yX3_sortFor yX3_sortFor, Cond.initialized RX3, Cond.code yX3_sortFor cX3_sortFor 3 none, Cond.fieldLink RX3 15 "FoundRegister$Things" "finds" "LFoundRegister$Finds;", Cond.fieldLink RX3 23 "FoundRegister$Finds" "count" "I", Cond.fieldLink RX3 9 "FoundRegister$Things" "ofFind" "[I"]
def wsX5_differing_r2 : List Cond := [Cond.fieldLink RX3 19 "FoundRegister$Things" "sources" "LFoundRegister$Sources;", Cond.methodLink RX3 29 yX0_standsOn, Cond.instanceMethod yX0_standsOn, Cond.selects RX0 yX0_standsOn yX0_standsOn, Cond.initialized RX0, Cond.code yX0_standsOn cX0_standsOn 4 (some .boolean), Cond.fieldLink RX0 22 "FoundRegister$Finds" "struck" "[Z", Cond.fieldLink RX0 19 "FoundRegister$Finds" "cameOn" "[I", Cond.fieldLink RX0 37 "FoundRegister$Sources" "term" "[I", Cond.fieldLink RX0 15 "FoundRegister$Finds" "source" "[I", Cond.methodLink RX3 33 yX3_joinToEarlier, Cond.instanceMethod yX3_joinToEarlier, Cond.selects RX3 yX3_joinToEarlier yX3_joinToEarlier, Cond.code yX3_joinToEarlier cX3_joinToEarlier 3 none, Cond.methodLink RX3 37 yX0_joined, Cond.instanceMethod yX0_joined, Cond.selects RX0 yX0_joined yX0_joined, Cond.code yX0_joined cX0_joined 3 (some .boolean), Cond.fieldLink RX0 34 "FoundRegister$Finds" "told" "[[I", Cond.methodLink RX0 42 yX0_knowsSerial, Cond.instanceMethod yX0_knowsSerial, Cond.selects RX0 yX0_knowsSerial yX0_knowsSerial, Cond.code yX0_knowsSerial cX0_knowsSerial 2 (some .boolean), Cond.fieldLink RX0 28 "FoundRegister$Finds" "marks" "[[I"]
def wsX5_differing_r3 : List Cond := [Cond.methodLink RX0 46 yX0_shareMark, Cond.instanceMethod yX0_shareMark, Cond.selects RX0 yX0_shareMark yX0_shareMark, Cond.code yX0_shareMark cX0_shareMark 4 (some .boolean), Cond.methodLink RX3 41 yX3_merge, Cond.instanceMethod yX3_merge, Cond.selects RX3 yX3_merge yX3_merge, Cond.code yX3_merge cX3_merge 6 none, Cond.methodLink RX3 45 Lib.Math.min.name, Cond.static Lib.Math.min.name, Cond.initialized "java/lang/Math", Cond.code Lib.Math.min.name Lib.Math.min.code 2 (some .int), Cond.methodLink RX3 51 Lib.Math.max.name, Cond.static Lib.Math.max.name, Cond.code Lib.Math.max.name Lib.Math.max.code 2 (some .int), Cond.methodLink RX5 114 yX3_isThing, Cond.instanceMethod yX3_isThing, Cond.selects RX3 yX3_isThing yX3_isThing, Cond.code yX3_isThing cX3_isThing 2 (some .boolean), Cond.methodLink RX5 162 yX4_isMissedBy, Cond.instanceMethod yX4_isMissedBy, Cond.selects RX4 yX4_isMissedBy yX4_isMissedBy, Cond.initialized RX4, Cond.code yX4_isMissedBy cX4_isMissedBy 4 (some .boolean)]
def wsX5_differing_r4 : List Cond := [Cond.fieldLink RX4 15 "FoundRegister$Wishes" "mark" "[I", Cond.fieldLink RX4 19 "FoundRegister$Wishes" "markValue" "[I", Cond.fieldLink RX4 22 "FoundRegister$Wishes" "attribute" "[I", Cond.fieldLink RX4 25 "FoundRegister$Wishes" "wished" "[I", Cond.methodLink RX4 28 yX3_hasMark, Cond.instanceMethod yX3_hasMark, Cond.selects RX3 yX3_hasMark yX3_hasMark, Cond.code yX3_hasMark cX3_hasMark 5 (some .boolean), Cond.fieldLink RX3 73 "FoundRegister$Finds" "marks" "[[I", Cond.methodLink RX4 34 yX3_attributeOf, Cond.instanceMethod yX3_attributeOf, Cond.selects RX3 yX3_attributeOf yX3_attributeOf, Cond.code yX3_attributeOf cX3_attributeOf 5 (some .int), Cond.fieldLink RX3 61 "FoundRegister$Finds" "attributes" "[[I", Cond.methodLink RX3 54 yX3_tells, Cond.instanceMethod yX3_tells, Cond.selects RX3 yX3_tells yX3_tells, Cond.code yX3_tells cX3_tells 4 (some .boolean), Cond.methodLink RX3 58 yX3_goesBefore, Cond.instanceMethod yX3_goesBefore, Cond.selects RX3 yX3_goesBefore yX3_goesBefore, Cond.code yX3_goesBefore cX3_goesBefore 5 (some .boolean), Cond.fieldLink RX3 65 "FoundRegister$Sources" "place" "[I", Cond.fieldLink RX3 70 "FoundRegister$Finds" "source" "[I"]
def wsX5_differing : List Cond := .code yX5_differing cX5_differing 5 (some .int) :: ((wsX5_differing_r1 ++ (wsX5_differing_r2 ++ (wsX5_differing_r3 ++ wsX5_differing_r4))) ++ wsX50 ++ wsX40 ++ wsX00 ++ wsX30 ++ wsX20 ++ (vx_atS RX5 161 "java/lang/IndexOutOfBoundsException" ["java/lang/RuntimeException", "java/lang/Exception"]).filter goodWord ++ (vx_atS RX5 173 "java/lang/IllegalArgumentException" ["java/lang/RuntimeException", "java/lang/Exception"]).filter goodWord)
def wsX5_hasAnotherValue : List Cond := .code yX5_hasAnotherValue cX5_hasAnotherValue 5 (some .boolean) :: ([.fieldLink RX5 46 "FoundRegister" "ofDay" "LFoundRegister$Things;", .fieldLink RX5 121 "FoundRegister$Things" "ofFind" "[I", .fieldLink RX5 50 "FoundRegister" "ofOtherDay" "LFoundRegister$Things;", .methodLink RX5 127 yX3_attributeOf, .instanceMethod yX3_attributeOf, .selects RX3 yX3_attributeOf yX3_attributeOf, .initialized RX3, .code yX3_attributeOf cX3_attributeOf 5 (some .int), .fieldLink RX3 15 "FoundRegister$Things" "finds" "LFoundRegister$Finds;", .fieldLink RX3 23 "FoundRegister$Finds" "count" "I", .fieldLink RX3 61 "FoundRegister$Finds" "attributes" "[[I", .methodLink RX3 54 yX3_tells, .instanceMethod yX3_tells, .selects RX3 yX3_tells yX3_tells, .code yX3_tells cX3_tells 4 (some .boolean), .fieldLink RX3 9 "FoundRegister$Things" "ofFind" "[I", .methodLink RX3 58 yX3_goesBefore, .instanceMethod yX3_goesBefore, .selects RX3 yX3_goesBefore yX3_goesBefore, .code yX3_goesBefore cX3_goesBefore 5 (some .boolean), .fieldLink RX3 19 "FoundRegister$Things" "sources" "LFoundRegister$Sources;", .fieldLink RX3 65 "FoundRegister$Sources" "place" "[I", .fieldLink RX3 70 "FoundRegister$Finds" "source" "[I"] ++ wsX50 ++ wsX30 ++ wsX00 ++ wsX20)
def wsX5_changed_r1 : List Cond := [Cond.fieldLink RX5 46 "FoundRegister" "ofDay" "LFoundRegister$Things;", Cond.fieldLink RX5 50 "FoundRegister" "ofOtherDay" "LFoundRegister$Things;", Cond.fieldLink RX5 23 "FoundRegister" "finds" "LFoundRegister$Finds;", Cond.fieldLink RX5 72 "FoundRegister$Finds" "count" "I", Cond.methodLink RX5 124 yX5_requireAttribute, Cond.static yX5_requireAttribute, Cond.initialized RX5, Cond.code yX5_requireAttribute cX5_requireAttribute 1 none, Cond.methodLink RX5 53 yX5_requireRange, Cond.static yX5_requireRange, Cond.code yX5_requireRange cX5_requireRange 3 none, Cond.classLink RX5 169 "java/lang/IllegalArgumentException", Cond.initialized "java/lang/IllegalArgumentException", Cond.methodLink RX5 104 yX5_requireDay, Cond.static yX5_requireDay, Cond.code yX5_requireDay cX5_requireDay 1 none, Cond.methodLink RX5 111 yX3_sortFor, Cond.instanceMethod yX3_sortFor, Cond.selects RX3 yX3_sortFor yX3_sortFor, Cond.initialized RX3, Cond.code yX3_sortFor cX3_sortFor 3 none, Cond.fieldLink RX3 15 "FoundRegister$Things" "finds" "LFoundRegister$Finds;", Cond.fieldLink RX3 23 "FoundRegister$Finds" "count" "I", Cond.fieldLink RX3 9 "FoundRegister$Things" "ofFind" "[I"]
def wsX5_changed_r2 : List Cond := [Cond.fieldLink RX3 19 "FoundRegister$Things" "sources" "LFoundRegister$Sources;", Cond.methodLink RX3 29 yX0_standsOn, Cond.instanceMethod yX0_standsOn, Cond.selects RX0 yX0_standsOn yX0_standsOn, Cond.initialized RX0, Cond.code yX0_standsOn cX0_standsOn 4 (some .boolean), Cond.fieldLink RX0 22 "FoundRegister$Finds" "struck" "[Z", Cond.fieldLink RX0 19 "FoundRegister$Finds" "cameOn" "[I", Cond.fieldLink RX0 37 "FoundRegister$Sources" "term" "[I", Cond.fieldLink RX0 15 "FoundRegister$Finds" "source" "[I", Cond.methodLink RX3 33 yX3_joinToEarlier, Cond.instanceMethod yX3_joinToEarlier, Cond.selects RX3 yX3_joinToEarlier yX3_joinToEarlier, Cond.code yX3_joinToEarlier cX3_joinToEarlier 3 none, Cond.methodLink RX3 37 yX0_joined, Cond.instanceMethod yX0_joined, Cond.selects RX0 yX0_joined yX0_joined, Cond.code yX0_joined cX0_joined 3 (some .boolean), Cond.fieldLink RX0 34 "FoundRegister$Finds" "told" "[[I", Cond.methodLink RX0 42 yX0_knowsSerial, Cond.instanceMethod yX0_knowsSerial, Cond.selects RX0 yX0_knowsSerial yX0_knowsSerial, Cond.code yX0_knowsSerial cX0_knowsSerial 2 (some .boolean), Cond.fieldLink RX0 28 "FoundRegister$Finds" "marks" "[[I"]
def wsX5_changed_r3 : List Cond := [Cond.methodLink RX0 46 yX0_shareMark, Cond.instanceMethod yX0_shareMark, Cond.selects RX0 yX0_shareMark yX0_shareMark, Cond.code yX0_shareMark cX0_shareMark 4 (some .boolean), Cond.methodLink RX3 41 yX3_merge, Cond.instanceMethod yX3_merge, Cond.selects RX3 yX3_merge yX3_merge, Cond.code yX3_merge cX3_merge 6 none, Cond.methodLink RX3 45 Lib.Math.min.name, Cond.static Lib.Math.min.name, Cond.initialized "java/lang/Math", Cond.code Lib.Math.min.name Lib.Math.min.code 2 (some .int), Cond.methodLink RX3 51 Lib.Math.max.name, Cond.static Lib.Math.max.name, Cond.code Lib.Math.max.name Lib.Math.max.code 2 (some .int), Cond.methodLink RX5 166 yX5_hasAnotherValue, Cond.instanceMethod yX5_hasAnotherValue, Cond.selects RX5 yX5_hasAnotherValue yX5_hasAnotherValue, Cond.code yX5_hasAnotherValue cX5_hasAnotherValue 5 (some .boolean), Cond.fieldLink RX5 121 "FoundRegister$Things" "ofFind" "[I", Cond.methodLink RX5 127 yX3_attributeOf, Cond.instanceMethod yX3_attributeOf, Cond.selects RX3 yX3_attributeOf yX3_attributeOf, Cond.code yX3_attributeOf cX3_attributeOf 5 (some .int)]
def wsX5_changed_r4 : List Cond := [Cond.fieldLink RX3 61 "FoundRegister$Finds" "attributes" "[[I", Cond.methodLink RX3 54 yX3_tells, Cond.instanceMethod yX3_tells, Cond.selects RX3 yX3_tells yX3_tells, Cond.code yX3_tells cX3_tells 4 (some .boolean), Cond.methodLink RX3 58 yX3_goesBefore, Cond.instanceMethod yX3_goesBefore, Cond.selects RX3 yX3_goesBefore yX3_goesBefore, Cond.code yX3_goesBefore cX3_goesBefore 5 (some .boolean), Cond.fieldLink RX3 65 "FoundRegister$Sources" "place" "[I", Cond.fieldLink RX3 70 "FoundRegister$Finds" "source" "[I"]
def wsX5_changed : List Cond := .code yX5_changed cX5_changed 6 (some .int) :: ((wsX5_changed_r1 ++ (wsX5_changed_r2 ++ (wsX5_changed_r3 ++ wsX5_changed_r4))) ++ wsX50 ++ wsX00 ++ wsX30 ++ wsX20 ++ (vx_atS RX5 173 "java/lang/IllegalArgumentException" ["java/lang/RuntimeException", "java/lang/Exception"]).filter goodWord)
def wsX6_init : List Cond := .code yX6_init cX6_init 2 none :: ([.methodLink RX6 1 objectInit, .instanceMethod objectInit, .code objectInit ⟨#[0xb1]⟩ 1 none, .arrayClass .int, .fieldLink RX6 7 "FoundRegisterModel" "terms" "[I", .fieldLink RX6 13 "FoundRegisterModel" "order" "[I", .fieldLink RX6 16 "FoundRegisterModel" "sources" "[I", .fieldLink RX6 19 "FoundRegisterModel" "days" "[I", .fieldLink RX6 22 "FoundRegisterModel" "marks" "[I", .fieldLink RX6 25 "FoundRegisterModel" "told" "[I", .arrayClass .boolean, .fieldLink RX6 28 "FoundRegisterModel" "isStruck" "[Z", .arrayClass .byte, .fieldLink RX6 32 "FoundRegisterModel" "pairs" "[B", .fieldLink RX6 36 "FoundRegisterModel" "froms" "[I", .fieldLink RX6 39 "FoundRegisterModel" "tos" "[I", .fieldLink RX6 42 "FoundRegisterModel" "groups" "[I", .fieldLink RX6 45 "FoundRegisterModel" "wishMarks" "[I", .fieldLink RX6 48 "FoundRegisterModel" "wishMarkValues" "[I", .fieldLink RX6 51 "FoundRegisterModel" "wishAttributes" "[I", .fieldLink RX6 54 "FoundRegisterModel" "wishValues" "[I", .fieldLink RX6 57 "FoundRegisterModel" "things" "[I", .fieldLink RX6 60 "FoundRegisterModel" "others" "[I", .fieldLink RX6 63 "FoundRegisterModel" "hasFailed" "[Z"] ++ wsX60)
def wsX6_thrown : List Cond := .code yX6_thrown cX6_thrown 1 (some .int) :: ([.fieldLink RX6 66 "FoundRegisterModel" "refusal" "I"] ++ wsX60)
def wsX6_refused : List Cond := .code yX6_refused cX6_refused 2 (some .boolean) :: ([.fieldLink RX6 66 "FoundRegisterModel" "refusal" "I"] ++ wsX60)
def wsX6_in : List Cond := .code yX6_in cX6_in 3 (some .boolean) :: ([])
def wsX6_isFind : List Cond := .code yX6_isFind cX6_isFind 2 (some .boolean) :: ([.fieldLink RX6 70 "FoundRegisterModel" "finds" "I", .methodLink RX6 73 yX6_in, .static yX6_in, .initialized RX6, .code yX6_in cX6_in 3 (some .boolean)] ++ wsX60)
def wsX6_isDay : List Cond := .code yX6_isDay cX6_isDay 1 (some .boolean) :: ([.methodLink RX6 73 yX6_in, .static yX6_in, .initialized RX6, .code yX6_in cX6_in 3 (some .boolean)])
def wsX6_pass : List Cond := .code yX6_pass cX6_pass 2 (some .int) :: ([.fieldLink RX6 77 "FoundRegisterModel" "now" "I", .methodLink RX6 73 yX6_in, .static yX6_in, .initialized RX6, .code yX6_in cX6_in 3 (some .boolean), .methodLink RX6 80 yX6_refused, .instanceMethod yX6_refused, .selects RX6 yX6_refused yX6_refused, .code yX6_refused cX6_refused 2 (some .boolean), .fieldLink RX6 66 "FoundRegisterModel" "refusal" "I"] ++ wsX60)
def wsX6_today : List Cond := .code yX6_today cX6_today 1 (some .int) :: ([.fieldLink RX6 66 "FoundRegisterModel" "refusal" "I", .fieldLink RX6 77 "FoundRegisterModel" "now" "I"] ++ wsX60)
def wsX6_setTerm : List Cond := .code yX6_setTerm cX6_setTerm 4 (some .int) :: ([.fieldLink RX6 7 "FoundRegisterModel" "terms" "[I", .methodLink RX6 73 yX6_in, .static yX6_in, .initialized RX6, .code yX6_in cX6_in 3 (some .boolean), .methodLink RX6 80 yX6_refused, .instanceMethod yX6_refused, .selects RX6 yX6_refused yX6_refused, .code yX6_refused cX6_refused 2 (some .boolean), .fieldLink RX6 66 "FoundRegisterModel" "refusal" "I"] ++ wsX60)
def wsX6_rankOf : List Cond := .code yX6_rankOf cX6_rankOf 3 (some .int) :: ([.fieldLink RX6 13 "FoundRegisterModel" "order" "[I"] ++ wsX60)
def wsX6_putFirst : List Cond := .code yX6_putFirst cX6_putFirst 4 (some .int) :: ([.fieldLink RX6 13 "FoundRegisterModel" "order" "[I", .methodLink RX6 73 yX6_in, .static yX6_in, .initialized RX6, .code yX6_in cX6_in 3 (some .boolean), .methodLink RX6 80 yX6_refused, .instanceMethod yX6_refused, .selects RX6 yX6_refused yX6_refused, .code yX6_refused cX6_refused 2 (some .boolean), .fieldLink RX6 66 "FoundRegisterModel" "refusal" "I", .methodLink RX6 84 yX6_rankOf, .instanceMethod yX6_rankOf, .selects RX6 yX6_rankOf yX6_rankOf, .code yX6_rankOf cX6_rankOf 3 (some .int)] ++ wsX60)
def wsX6_find : List Cond := .code yX6_find cX6_find 8 (some .int) :: ([.fieldLink RX6 70 "FoundRegisterModel" "finds" "I", .fieldLink RX6 16 "FoundRegisterModel" "sources" "[I", .fieldLink RX6 19 "FoundRegisterModel" "days" "[I", .fieldLink RX6 77 "FoundRegisterModel" "now" "I", .fieldLink RX6 22 "FoundRegisterModel" "marks" "[I", .fieldLink RX6 25 "FoundRegisterModel" "told" "[I", .methodLink RX6 73 yX6_in, .static yX6_in, .initialized RX6, .code yX6_in cX6_in 3 (some .boolean), .methodLink RX6 80 yX6_refused, .instanceMethod yX6_refused, .selects RX6 yX6_refused yX6_refused, .code yX6_refused cX6_refused 2 (some .boolean), .fieldLink RX6 66 "FoundRegisterModel" "refusal" "I"] ++ wsX60)
def wsX6_strike : List Cond := .code yX6_strike cX6_strike 3 (some .boolean) :: ([.fieldLink RX6 28 "FoundRegisterModel" "isStruck" "[Z", .methodLink RX6 88 yX6_isFind, .instanceMethod yX6_isFind, .selects RX6 yX6_isFind yX6_isFind, .initialized RX6, .code yX6_isFind cX6_isFind 2 (some .boolean), .fieldLink RX6 70 "FoundRegisterModel" "finds" "I", .methodLink RX6 73 yX6_in, .static yX6_in, .code yX6_in cX6_in 3 (some .boolean), .methodLink RX6 80 yX6_refused, .instanceMethod yX6_refused, .selects RX6 yX6_refused yX6_refused, .code yX6_refused cX6_refused 2 (some .boolean), .fieldLink RX6 66 "FoundRegisterModel" "refusal" "I"] ++ wsX60)
def wsX6_tell : List Cond := .code yX6_tell cX6_tell 6 (some .int) :: ([.fieldLink RX6 32 "FoundRegisterModel" "pairs" "[B", .methodLink RX6 88 yX6_isFind, .instanceMethod yX6_isFind, .selects RX6 yX6_isFind yX6_isFind, .initialized RX6, .code yX6_isFind cX6_isFind 2 (some .boolean), .fieldLink RX6 70 "FoundRegisterModel" "finds" "I", .methodLink RX6 73 yX6_in, .static yX6_in, .code yX6_in cX6_in 3 (some .boolean), .methodLink RX6 80 yX6_refused, .instanceMethod yX6_refused, .selects RX6 yX6_refused yX6_refused, .code yX6_refused cX6_refused 2 (some .boolean), .fieldLink RX6 66 "FoundRegisterModel" "refusal" "I"] ++ wsX60)
def wsX6_countsOn : List Cond := .code yX6_countsOn cX6_countsOn 3 (some .boolean) :: ([.fieldLink RX6 28 "FoundRegisterModel" "isStruck" "[Z", .fieldLink RX6 19 "FoundRegisterModel" "days" "[I", .fieldLink RX6 7 "FoundRegisterModel" "terms" "[I", .fieldLink RX6 16 "FoundRegisterModel" "sources" "[I"] ++ wsX60)
def wsX6_counts_r1 : List Cond := [Cond.methodLink RX6 88 yX6_isFind, Cond.instanceMethod yX6_isFind, Cond.selects RX6 yX6_isFind yX6_isFind, Cond.initialized RX6, Cond.code yX6_isFind cX6_isFind 2 (some .boolean), Cond.fieldLink RX6 70 "FoundRegisterModel" "finds" "I", Cond.methodLink RX6 73 yX6_in, Cond.static yX6_in, Cond.code yX6_in cX6_in 3 (some .boolean), Cond.methodLink RX6 91 yX6_isDay, Cond.static yX6_isDay, Cond.code yX6_isDay cX6_isDay 1 (some .boolean), Cond.methodLink RX6 80 yX6_refused, Cond.instanceMethod yX6_refused, Cond.selects RX6 yX6_refused yX6_refused, Cond.code yX6_refused cX6_refused 2 (some .boolean), Cond.fieldLink RX6 66 "FoundRegisterModel" "refusal" "I", Cond.methodLink RX6 94 yX6_countsOn, Cond.instanceMethod yX6_countsOn, Cond.selects RX6 yX6_countsOn yX6_countsOn, Cond.code yX6_countsOn cX6_countsOn 3 (some .boolean), Cond.fieldLink RX6 28 "FoundRegisterModel" "isStruck" "[Z", Cond.fieldLink RX6 19 "FoundRegisterModel" "days" "[I", Cond.fieldLink RX6 7 "FoundRegisterModel" "terms" "[I"]
def wsX6_counts_r2 : List Cond := [Cond.fieldLink RX6 16 "FoundRegisterModel" "sources" "[I"]
def wsX6_counts : List Cond := .code yX6_counts cX6_counts 3 (some .boolean) :: ((wsX6_counts_r1 ++ wsX6_counts_r2) ++ wsX60)
def wsX6_haveSame : List Cond := .code yX6_haveSame cX6_haveSame 4 (some .boolean) :: ([.fieldLink RX6 22 "FoundRegisterModel" "marks" "[I"] ++ wsX60)
def wsX6_areSame : List Cond := .code yX6_areSame cX6_areSame 6 (some .boolean) :: ([.fieldLink RX6 32 "FoundRegisterModel" "pairs" "[B", .fieldLink RX6 22 "FoundRegisterModel" "marks" "[I", .methodLink RX6 98 yX6_haveSame, .instanceMethod yX6_haveSame, .selects RX6 yX6_haveSame yX6_haveSame, .initialized RX6, .code yX6_haveSame cX6_haveSame 4 (some .boolean)] ++ wsX60)
def wsX6_join : List Cond := .code yX6_join cX6_join 6 none :: ([.fieldLink RX6 70 "FoundRegisterModel" "finds" "I", .fieldLink RX6 57 "FoundRegisterModel" "things" "[I"] ++ wsX60)
def wsX6_lay_r1 : List Cond := [Cond.fieldLink RX6 70 "FoundRegisterModel" "finds" "I", Cond.fieldLink RX6 57 "FoundRegisterModel" "things" "[I", Cond.methodLink RX6 94 yX6_countsOn, Cond.instanceMethod yX6_countsOn, Cond.selects RX6 yX6_countsOn yX6_countsOn, Cond.initialized RX6, Cond.code yX6_countsOn cX6_countsOn 3 (some .boolean), Cond.fieldLink RX6 28 "FoundRegisterModel" "isStruck" "[Z", Cond.fieldLink RX6 19 "FoundRegisterModel" "days" "[I", Cond.fieldLink RX6 7 "FoundRegisterModel" "terms" "[I", Cond.fieldLink RX6 16 "FoundRegisterModel" "sources" "[I", Cond.methodLink RX6 101 yX6_areSame, Cond.instanceMethod yX6_areSame, Cond.selects RX6 yX6_areSame yX6_areSame, Cond.code yX6_areSame cX6_areSame 6 (some .boolean), Cond.fieldLink RX6 32 "FoundRegisterModel" "pairs" "[B", Cond.fieldLink RX6 22 "FoundRegisterModel" "marks" "[I", Cond.methodLink RX6 98 yX6_haveSame, Cond.instanceMethod yX6_haveSame, Cond.selects RX6 yX6_haveSame yX6_haveSame, Cond.code yX6_haveSame cX6_haveSame 4 (some .boolean), Cond.methodLink RX6 104 yX6_join, Cond.instanceMethod yX6_join, Cond.selects RX6 yX6_join yX6_join]
def wsX6_lay_r2 : List Cond := [Cond.code yX6_join cX6_join 6 none]
def wsX6_lay : List Cond := .code yX6_lay cX6_lay 5 none :: ((wsX6_lay_r1 ++ wsX6_lay_r2) ++ wsX60)
def wsX6_countThings : List Cond := .code yX6_countThings cX6_countThings 3 (some .int) :: ([.fieldLink RX6 70 "FoundRegisterModel" "finds" "I", .fieldLink RX6 57 "FoundRegisterModel" "things" "[I"] ++ wsX60)
def wsX6_things_r1 : List Cond := [Cond.methodLink RX6 91 yX6_isDay, Cond.static yX6_isDay, Cond.initialized RX6, Cond.code yX6_isDay cX6_isDay 1 (some .boolean), Cond.methodLink RX6 73 yX6_in, Cond.static yX6_in, Cond.code yX6_in cX6_in 3 (some .boolean), Cond.methodLink RX6 80 yX6_refused, Cond.instanceMethod yX6_refused, Cond.selects RX6 yX6_refused yX6_refused, Cond.code yX6_refused cX6_refused 2 (some .boolean), Cond.fieldLink RX6 66 "FoundRegisterModel" "refusal" "I", Cond.methodLink RX6 108 yX6_lay, Cond.instanceMethod yX6_lay, Cond.selects RX6 yX6_lay yX6_lay, Cond.code yX6_lay cX6_lay 5 none, Cond.fieldLink RX6 70 "FoundRegisterModel" "finds" "I", Cond.fieldLink RX6 57 "FoundRegisterModel" "things" "[I", Cond.methodLink RX6 94 yX6_countsOn, Cond.instanceMethod yX6_countsOn, Cond.selects RX6 yX6_countsOn yX6_countsOn, Cond.code yX6_countsOn cX6_countsOn 3 (some .boolean), Cond.fieldLink RX6 28 "FoundRegisterModel" "isStruck" "[Z", Cond.fieldLink RX6 19 "FoundRegisterModel" "days" "[I"]
def wsX6_things_r2 : List Cond := [Cond.fieldLink RX6 7 "FoundRegisterModel" "terms" "[I", Cond.fieldLink RX6 16 "FoundRegisterModel" "sources" "[I", Cond.methodLink RX6 101 yX6_areSame, Cond.instanceMethod yX6_areSame, Cond.selects RX6 yX6_areSame yX6_areSame, Cond.code yX6_areSame cX6_areSame 6 (some .boolean), Cond.fieldLink RX6 32 "FoundRegisterModel" "pairs" "[B", Cond.fieldLink RX6 22 "FoundRegisterModel" "marks" "[I", Cond.methodLink RX6 98 yX6_haveSame, Cond.instanceMethod yX6_haveSame, Cond.selects RX6 yX6_haveSame yX6_haveSame, Cond.code yX6_haveSame cX6_haveSame 4 (some .boolean), Cond.methodLink RX6 104 yX6_join, Cond.instanceMethod yX6_join, Cond.selects RX6 yX6_join yX6_join, Cond.code yX6_join cX6_join 6 none, Cond.methodLink RX6 112 yX6_countThings, Cond.instanceMethod yX6_countThings, Cond.selects RX6 yX6_countThings yX6_countThings, Cond.code yX6_countThings cX6_countThings 3 (some .int)]
def wsX6_things : List Cond := .code yX6_things cX6_things 2 (some .int) :: ((wsX6_things_r1 ++ wsX6_things_r2) ++ wsX60)
def wsX6_looked_r1 : List Cond := [Cond.fieldLink RX6 57 "FoundRegisterModel" "things" "[I", Cond.methodLink RX6 88 yX6_isFind, Cond.instanceMethod yX6_isFind, Cond.selects RX6 yX6_isFind yX6_isFind, Cond.initialized RX6, Cond.code yX6_isFind cX6_isFind 2 (some .boolean), Cond.fieldLink RX6 70 "FoundRegisterModel" "finds" "I", Cond.methodLink RX6 73 yX6_in, Cond.static yX6_in, Cond.code yX6_in cX6_in 3 (some .boolean), Cond.methodLink RX6 91 yX6_isDay, Cond.static yX6_isDay, Cond.code yX6_isDay cX6_isDay 1 (some .boolean), Cond.methodLink RX6 108 yX6_lay, Cond.instanceMethod yX6_lay, Cond.selects RX6 yX6_lay yX6_lay, Cond.code yX6_lay cX6_lay 5 none, Cond.methodLink RX6 94 yX6_countsOn, Cond.instanceMethod yX6_countsOn, Cond.selects RX6 yX6_countsOn yX6_countsOn, Cond.code yX6_countsOn cX6_countsOn 3 (some .boolean), Cond.fieldLink RX6 28 "FoundRegisterModel" "isStruck" "[Z", Cond.fieldLink RX6 19 "FoundRegisterModel" "days" "[I", Cond.fieldLink RX6 7 "FoundRegisterModel" "terms" "[I"]
def wsX6_looked_r2 : List Cond := [Cond.fieldLink RX6 16 "FoundRegisterModel" "sources" "[I", Cond.methodLink RX6 101 yX6_areSame, Cond.instanceMethod yX6_areSame, Cond.selects RX6 yX6_areSame yX6_areSame, Cond.code yX6_areSame cX6_areSame 6 (some .boolean), Cond.fieldLink RX6 32 "FoundRegisterModel" "pairs" "[B", Cond.fieldLink RX6 22 "FoundRegisterModel" "marks" "[I", Cond.methodLink RX6 98 yX6_haveSame, Cond.instanceMethod yX6_haveSame, Cond.selects RX6 yX6_haveSame yX6_haveSame, Cond.code yX6_haveSame cX6_haveSame 4 (some .boolean), Cond.methodLink RX6 104 yX6_join, Cond.instanceMethod yX6_join, Cond.selects RX6 yX6_join yX6_join, Cond.code yX6_join cX6_join 6 none]
def wsX6_looked : List Cond := .code yX6_looked cX6_looked 4 (some .int) :: ((wsX6_looked_r1 ++ wsX6_looked_r2) ++ wsX60)
def wsX6_thingOf_r1 : List Cond := [Cond.fieldLink RX6 57 "FoundRegisterModel" "things" "[I", Cond.methodLink RX6 116 yX6_looked, Cond.instanceMethod yX6_looked, Cond.selects RX6 yX6_looked yX6_looked, Cond.initialized RX6, Cond.code yX6_looked cX6_looked 4 (some .int), Cond.methodLink RX6 88 yX6_isFind, Cond.instanceMethod yX6_isFind, Cond.selects RX6 yX6_isFind yX6_isFind, Cond.code yX6_isFind cX6_isFind 2 (some .boolean), Cond.fieldLink RX6 70 "FoundRegisterModel" "finds" "I", Cond.methodLink RX6 73 yX6_in, Cond.static yX6_in, Cond.code yX6_in cX6_in 3 (some .boolean), Cond.methodLink RX6 91 yX6_isDay, Cond.static yX6_isDay, Cond.code yX6_isDay cX6_isDay 1 (some .boolean), Cond.methodLink RX6 108 yX6_lay, Cond.instanceMethod yX6_lay, Cond.selects RX6 yX6_lay yX6_lay, Cond.code yX6_lay cX6_lay 5 none, Cond.methodLink RX6 94 yX6_countsOn, Cond.instanceMethod yX6_countsOn, Cond.selects RX6 yX6_countsOn yX6_countsOn]
def wsX6_thingOf_r2 : List Cond := [Cond.code yX6_countsOn cX6_countsOn 3 (some .boolean), Cond.fieldLink RX6 28 "FoundRegisterModel" "isStruck" "[Z", Cond.fieldLink RX6 19 "FoundRegisterModel" "days" "[I", Cond.fieldLink RX6 7 "FoundRegisterModel" "terms" "[I", Cond.fieldLink RX6 16 "FoundRegisterModel" "sources" "[I", Cond.methodLink RX6 101 yX6_areSame, Cond.instanceMethod yX6_areSame, Cond.selects RX6 yX6_areSame yX6_areSame, Cond.code yX6_areSame cX6_areSame 6 (some .boolean), Cond.fieldLink RX6 32 "FoundRegisterModel" "pairs" "[B", Cond.fieldLink RX6 22 "FoundRegisterModel" "marks" "[I", Cond.methodLink RX6 98 yX6_haveSame, Cond.instanceMethod yX6_haveSame, Cond.selects RX6 yX6_haveSame yX6_haveSame, Cond.code yX6_haveSame cX6_haveSame 4 (some .boolean), Cond.methodLink RX6 104 yX6_join, Cond.instanceMethod yX6_join, Cond.selects RX6 yX6_join yX6_join, Cond.code yX6_join cX6_join 6 none, Cond.methodLink RX6 80 yX6_refused, Cond.instanceMethod yX6_refused, Cond.selects RX6 yX6_refused yX6_refused, Cond.code yX6_refused cX6_refused 2 (some .boolean), Cond.fieldLink RX6 66 "FoundRegisterModel" "refusal" "I"]
def wsX6_thingOf : List Cond := .code yX6_thingOf cX6_thingOf 3 (some .int) :: ((wsX6_thingOf_r1 ++ wsX6_thingOf_r2) ++ wsX60)
def wsX6_isAhead : List Cond := .code yX6_isAhead cX6_isAhead 5 (some .boolean) :: ([.fieldLink RX6 16 "FoundRegisterModel" "sources" "[I", .fieldLink RX6 19 "FoundRegisterModel" "days" "[I", .methodLink RX6 84 yX6_rankOf, .instanceMethod yX6_rankOf, .selects RX6 yX6_rankOf yX6_rankOf, .initialized RX6, .code yX6_rankOf cX6_rankOf 3 (some .int), .fieldLink RX6 13 "FoundRegisterModel" "order" "[I"] ++ wsX60)
def wsX6_valueOf : List Cond := .code yX6_valueOf cX6_valueOf 6 (some .int) :: ([.fieldLink RX6 70 "FoundRegisterModel" "finds" "I", .fieldLink RX6 57 "FoundRegisterModel" "things" "[I", .fieldLink RX6 25 "FoundRegisterModel" "told" "[I", .methodLink RX6 120 yX6_isAhead, .instanceMethod yX6_isAhead, .selects RX6 yX6_isAhead yX6_isAhead, .initialized RX6, .code yX6_isAhead cX6_isAhead 5 (some .boolean), .fieldLink RX6 16 "FoundRegisterModel" "sources" "[I", .fieldLink RX6 19 "FoundRegisterModel" "days" "[I", .methodLink RX6 84 yX6_rankOf, .instanceMethod yX6_rankOf, .selects RX6 yX6_rankOf yX6_rankOf, .code yX6_rankOf cX6_rankOf 3 (some .int), .fieldLink RX6 13 "FoundRegisterModel" "order" "[I"] ++ wsX60)
def wsX6_value_r1 : List Cond := [Cond.fieldLink RX6 57 "FoundRegisterModel" "things" "[I", Cond.methodLink RX6 73 yX6_in, Cond.static yX6_in, Cond.initialized RX6, Cond.code yX6_in cX6_in 3 (some .boolean), Cond.methodLink RX6 116 yX6_looked, Cond.instanceMethod yX6_looked, Cond.selects RX6 yX6_looked yX6_looked, Cond.code yX6_looked cX6_looked 4 (some .int), Cond.methodLink RX6 88 yX6_isFind, Cond.instanceMethod yX6_isFind, Cond.selects RX6 yX6_isFind yX6_isFind, Cond.code yX6_isFind cX6_isFind 2 (some .boolean), Cond.fieldLink RX6 70 "FoundRegisterModel" "finds" "I", Cond.methodLink RX6 91 yX6_isDay, Cond.static yX6_isDay, Cond.code yX6_isDay cX6_isDay 1 (some .boolean), Cond.methodLink RX6 108 yX6_lay, Cond.instanceMethod yX6_lay, Cond.selects RX6 yX6_lay yX6_lay, Cond.code yX6_lay cX6_lay 5 none, Cond.methodLink RX6 94 yX6_countsOn, Cond.instanceMethod yX6_countsOn, Cond.selects RX6 yX6_countsOn yX6_countsOn]
def wsX6_value_r2 : List Cond := [Cond.code yX6_countsOn cX6_countsOn 3 (some .boolean), Cond.fieldLink RX6 28 "FoundRegisterModel" "isStruck" "[Z", Cond.fieldLink RX6 19 "FoundRegisterModel" "days" "[I", Cond.fieldLink RX6 7 "FoundRegisterModel" "terms" "[I", Cond.fieldLink RX6 16 "FoundRegisterModel" "sources" "[I", Cond.methodLink RX6 101 yX6_areSame, Cond.instanceMethod yX6_areSame, Cond.selects RX6 yX6_areSame yX6_areSame, Cond.code yX6_areSame cX6_areSame 6 (some .boolean), Cond.fieldLink RX6 32 "FoundRegisterModel" "pairs" "[B", Cond.fieldLink RX6 22 "FoundRegisterModel" "marks" "[I", Cond.methodLink RX6 98 yX6_haveSame, Cond.instanceMethod yX6_haveSame, Cond.selects RX6 yX6_haveSame yX6_haveSame, Cond.code yX6_haveSame cX6_haveSame 4 (some .boolean), Cond.methodLink RX6 104 yX6_join, Cond.instanceMethod yX6_join, Cond.selects RX6 yX6_join yX6_join, Cond.code yX6_join cX6_join 6 none, Cond.methodLink RX6 80 yX6_refused, Cond.instanceMethod yX6_refused, Cond.selects RX6 yX6_refused yX6_refused, Cond.code yX6_refused cX6_refused 2 (some .boolean), Cond.fieldLink RX6 66 "FoundRegisterModel" "refusal" "I"]
def wsX6_value_r3 : List Cond := [Cond.methodLink RX6 123 yX6_valueOf, Cond.instanceMethod yX6_valueOf, Cond.selects RX6 yX6_valueOf yX6_valueOf, Cond.code yX6_valueOf cX6_valueOf 6 (some .int), Cond.fieldLink RX6 25 "FoundRegisterModel" "told" "[I", Cond.methodLink RX6 120 yX6_isAhead, Cond.instanceMethod yX6_isAhead, Cond.selects RX6 yX6_isAhead yX6_isAhead, Cond.code yX6_isAhead cX6_isAhead 5 (some .boolean), Cond.methodLink RX6 84 yX6_rankOf, Cond.instanceMethod yX6_rankOf, Cond.selects RX6 yX6_rankOf yX6_rankOf, Cond.code yX6_rankOf cX6_rankOf 3 (some .int), Cond.fieldLink RX6 13 "FoundRegisterModel" "order" "[I"]
def wsX6_value : List Cond := .code yX6_value cX6_value 4 (some .int) :: ((wsX6_value_r1 ++ (wsX6_value_r2 ++ wsX6_value_r3)) ++ wsX60)
def wsX6_disputed_r1 : List Cond := [Cond.fieldLink RX6 70 "FoundRegisterModel" "finds" "I", Cond.fieldLink RX6 57 "FoundRegisterModel" "things" "[I", Cond.fieldLink RX6 25 "FoundRegisterModel" "told" "[I", Cond.methodLink RX6 73 yX6_in, Cond.static yX6_in, Cond.initialized RX6, Cond.code yX6_in cX6_in 3 (some .boolean), Cond.methodLink RX6 91 yX6_isDay, Cond.static yX6_isDay, Cond.code yX6_isDay cX6_isDay 1 (some .boolean), Cond.methodLink RX6 80 yX6_refused, Cond.instanceMethod yX6_refused, Cond.selects RX6 yX6_refused yX6_refused, Cond.code yX6_refused cX6_refused 2 (some .boolean), Cond.fieldLink RX6 66 "FoundRegisterModel" "refusal" "I", Cond.methodLink RX6 108 yX6_lay, Cond.instanceMethod yX6_lay, Cond.selects RX6 yX6_lay yX6_lay, Cond.code yX6_lay cX6_lay 5 none, Cond.methodLink RX6 94 yX6_countsOn, Cond.instanceMethod yX6_countsOn, Cond.selects RX6 yX6_countsOn yX6_countsOn, Cond.code yX6_countsOn cX6_countsOn 3 (some .boolean), Cond.fieldLink RX6 28 "FoundRegisterModel" "isStruck" "[Z"]
def wsX6_disputed_r2 : List Cond := [Cond.fieldLink RX6 19 "FoundRegisterModel" "days" "[I", Cond.fieldLink RX6 7 "FoundRegisterModel" "terms" "[I", Cond.fieldLink RX6 16 "FoundRegisterModel" "sources" "[I", Cond.methodLink RX6 101 yX6_areSame, Cond.instanceMethod yX6_areSame, Cond.selects RX6 yX6_areSame yX6_areSame, Cond.code yX6_areSame cX6_areSame 6 (some .boolean), Cond.fieldLink RX6 32 "FoundRegisterModel" "pairs" "[B", Cond.fieldLink RX6 22 "FoundRegisterModel" "marks" "[I", Cond.methodLink RX6 98 yX6_haveSame, Cond.instanceMethod yX6_haveSame, Cond.selects RX6 yX6_haveSame yX6_haveSame, Cond.code yX6_haveSame cX6_haveSame 4 (some .boolean), Cond.methodLink RX6 104 yX6_join, Cond.instanceMethod yX6_join, Cond.selects RX6 yX6_join yX6_join, Cond.code yX6_join cX6_join 6 none, Cond.methodLink RX6 123 yX6_valueOf, Cond.instanceMethod yX6_valueOf, Cond.selects RX6 yX6_valueOf yX6_valueOf, Cond.code yX6_valueOf cX6_valueOf 6 (some .int), Cond.methodLink RX6 120 yX6_isAhead, Cond.instanceMethod yX6_isAhead, Cond.selects RX6 yX6_isAhead yX6_isAhead]
def wsX6_disputed_r3 : List Cond := [Cond.code yX6_isAhead cX6_isAhead 5 (some .boolean), Cond.methodLink RX6 84 yX6_rankOf, Cond.instanceMethod yX6_rankOf, Cond.selects RX6 yX6_rankOf yX6_rankOf, Cond.code yX6_rankOf cX6_rankOf 3 (some .int), Cond.fieldLink RX6 13 "FoundRegisterModel" "order" "[I"]
def wsX6_disputed : List Cond := .code yX6_disputed cX6_disputed 8 (some .int) :: ((wsX6_disputed_r1 ++ (wsX6_disputed_r2 ++ wsX6_disputed_r3)) ++ wsX60)
def wsX6_link : List Cond := .code yX6_link cX6_link 5 (some .int) :: ([.fieldLink RX6 127 "FoundRegisterModel" "links" "I", .fieldLink RX6 36 "FoundRegisterModel" "froms" "[I", .fieldLink RX6 39 "FoundRegisterModel" "tos" "[I", .fieldLink RX6 42 "FoundRegisterModel" "groups" "[I", .methodLink RX6 88 yX6_isFind, .instanceMethod yX6_isFind, .selects RX6 yX6_isFind yX6_isFind, .initialized RX6, .code yX6_isFind cX6_isFind 2 (some .boolean), .fieldLink RX6 70 "FoundRegisterModel" "finds" "I", .methodLink RX6 73 yX6_in, .static yX6_in, .code yX6_in cX6_in 3 (some .boolean), .methodLink RX6 80 yX6_refused, .instanceMethod yX6_refused, .selects RX6 yX6_refused yX6_refused, .code yX6_refused cX6_refused 2 (some .boolean), .fieldLink RX6 66 "FoundRegisterModel" "refusal" "I"] ++ wsX60)
def wsX6_isOf : List Cond := .code yX6_isOf cX6_isOf 5 (some .boolean) :: ([.fieldLink RX6 57 "FoundRegisterModel" "things" "[I", .fieldLink RX6 39 "FoundRegisterModel" "tos" "[I", .fieldLink RX6 36 "FoundRegisterModel" "froms" "[I", .fieldLink RX6 42 "FoundRegisterModel" "groups" "[I"] ++ wsX60)
def wsX6_falls : List Cond := .code yX6_falls cX6_falls 7 (some .boolean) :: ([.fieldLink RX6 127 "FoundRegisterModel" "links" "I", .fieldLink RX6 63 "FoundRegisterModel" "hasFailed" "[Z", .fieldLink RX6 57 "FoundRegisterModel" "things" "[I", .fieldLink RX6 39 "FoundRegisterModel" "tos" "[I", .methodLink RX6 130 yX6_isOf, .instanceMethod yX6_isOf, .selects RX6 yX6_isOf yX6_isOf, .initialized RX6, .code yX6_isOf cX6_isOf 5 (some .boolean), .fieldLink RX6 36 "FoundRegisterModel" "froms" "[I", .fieldLink RX6 42 "FoundRegisterModel" "groups" "[I"] ++ wsX60)
def wsX6_spread : List Cond := .code yX6_spread cX6_spread 5 (some .int) :: ([.fieldLink RX6 70 "FoundRegisterModel" "finds" "I", .fieldLink RX6 63 "FoundRegisterModel" "hasFailed" "[Z", .fieldLink RX6 57 "FoundRegisterModel" "things" "[I", .methodLink RX6 133 yX6_falls, .instanceMethod yX6_falls, .selects RX6 yX6_falls yX6_falls, .initialized RX6, .code yX6_falls cX6_falls 7 (some .boolean), .fieldLink RX6 127 "FoundRegisterModel" "links" "I", .fieldLink RX6 39 "FoundRegisterModel" "tos" "[I", .methodLink RX6 130 yX6_isOf, .instanceMethod yX6_isOf, .selects RX6 yX6_isOf yX6_isOf, .code yX6_isOf cX6_isOf 5 (some .boolean), .fieldLink RX6 36 "FoundRegisterModel" "froms" "[I", .fieldLink RX6 42 "FoundRegisterModel" "groups" "[I"] ++ wsX60)
def wsX6_impact_r1 : List Cond := [Cond.fieldLink RX6 57 "FoundRegisterModel" "things" "[I", Cond.methodLink RX6 116 yX6_looked, Cond.instanceMethod yX6_looked, Cond.selects RX6 yX6_looked yX6_looked, Cond.initialized RX6, Cond.code yX6_looked cX6_looked 4 (some .int), Cond.methodLink RX6 88 yX6_isFind, Cond.instanceMethod yX6_isFind, Cond.selects RX6 yX6_isFind yX6_isFind, Cond.code yX6_isFind cX6_isFind 2 (some .boolean), Cond.fieldLink RX6 70 "FoundRegisterModel" "finds" "I", Cond.methodLink RX6 73 yX6_in, Cond.static yX6_in, Cond.code yX6_in cX6_in 3 (some .boolean), Cond.methodLink RX6 91 yX6_isDay, Cond.static yX6_isDay, Cond.code yX6_isDay cX6_isDay 1 (some .boolean), Cond.methodLink RX6 108 yX6_lay, Cond.instanceMethod yX6_lay, Cond.selects RX6 yX6_lay yX6_lay, Cond.code yX6_lay cX6_lay 5 none, Cond.methodLink RX6 94 yX6_countsOn, Cond.instanceMethod yX6_countsOn, Cond.selects RX6 yX6_countsOn yX6_countsOn]
def wsX6_impact_r2 : List Cond := [Cond.code yX6_countsOn cX6_countsOn 3 (some .boolean), Cond.fieldLink RX6 28 "FoundRegisterModel" "isStruck" "[Z", Cond.fieldLink RX6 19 "FoundRegisterModel" "days" "[I", Cond.fieldLink RX6 7 "FoundRegisterModel" "terms" "[I", Cond.fieldLink RX6 16 "FoundRegisterModel" "sources" "[I", Cond.methodLink RX6 101 yX6_areSame, Cond.instanceMethod yX6_areSame, Cond.selects RX6 yX6_areSame yX6_areSame, Cond.code yX6_areSame cX6_areSame 6 (some .boolean), Cond.fieldLink RX6 32 "FoundRegisterModel" "pairs" "[B", Cond.fieldLink RX6 22 "FoundRegisterModel" "marks" "[I", Cond.methodLink RX6 98 yX6_haveSame, Cond.instanceMethod yX6_haveSame, Cond.selects RX6 yX6_haveSame yX6_haveSame, Cond.code yX6_haveSame cX6_haveSame 4 (some .boolean), Cond.methodLink RX6 104 yX6_join, Cond.instanceMethod yX6_join, Cond.selects RX6 yX6_join yX6_join, Cond.code yX6_join cX6_join 6 none, Cond.methodLink RX6 80 yX6_refused, Cond.instanceMethod yX6_refused, Cond.selects RX6 yX6_refused yX6_refused, Cond.code yX6_refused cX6_refused 2 (some .boolean), Cond.fieldLink RX6 66 "FoundRegisterModel" "refusal" "I"]
def wsX6_impact_r3 : List Cond := [Cond.methodLink RX6 136 yX6_spread, Cond.instanceMethod yX6_spread, Cond.selects RX6 yX6_spread yX6_spread, Cond.code yX6_spread cX6_spread 5 (some .int), Cond.fieldLink RX6 63 "FoundRegisterModel" "hasFailed" "[Z", Cond.methodLink RX6 133 yX6_falls, Cond.instanceMethod yX6_falls, Cond.selects RX6 yX6_falls yX6_falls, Cond.code yX6_falls cX6_falls 7 (some .boolean), Cond.fieldLink RX6 127 "FoundRegisterModel" "links" "I", Cond.fieldLink RX6 39 "FoundRegisterModel" "tos" "[I", Cond.methodLink RX6 130 yX6_isOf, Cond.instanceMethod yX6_isOf, Cond.selects RX6 yX6_isOf yX6_isOf, Cond.code yX6_isOf cX6_isOf 5 (some .boolean), Cond.fieldLink RX6 36 "FoundRegisterModel" "froms" "[I", Cond.fieldLink RX6 42 "FoundRegisterModel" "groups" "[I"]
def wsX6_impact : List Cond := .code yX6_impact cX6_impact 3 (some .int) :: ((wsX6_impact_r1 ++ (wsX6_impact_r2 ++ wsX6_impact_r3)) ++ wsX60)
def wsX6_failsWith_r1 : List Cond := [Cond.fieldLink RX6 57 "FoundRegisterModel" "things" "[I", Cond.fieldLink RX6 63 "FoundRegisterModel" "hasFailed" "[Z", Cond.methodLink RX6 88 yX6_isFind, Cond.instanceMethod yX6_isFind, Cond.selects RX6 yX6_isFind yX6_isFind, Cond.initialized RX6, Cond.code yX6_isFind cX6_isFind 2 (some .boolean), Cond.fieldLink RX6 70 "FoundRegisterModel" "finds" "I", Cond.methodLink RX6 73 yX6_in, Cond.static yX6_in, Cond.code yX6_in cX6_in 3 (some .boolean), Cond.methodLink RX6 116 yX6_looked, Cond.instanceMethod yX6_looked, Cond.selects RX6 yX6_looked yX6_looked, Cond.code yX6_looked cX6_looked 4 (some .int), Cond.methodLink RX6 91 yX6_isDay, Cond.static yX6_isDay, Cond.code yX6_isDay cX6_isDay 1 (some .boolean), Cond.methodLink RX6 108 yX6_lay, Cond.instanceMethod yX6_lay, Cond.selects RX6 yX6_lay yX6_lay, Cond.code yX6_lay cX6_lay 5 none, Cond.methodLink RX6 94 yX6_countsOn, Cond.instanceMethod yX6_countsOn]
def wsX6_failsWith_r2 : List Cond := [Cond.selects RX6 yX6_countsOn yX6_countsOn, Cond.code yX6_countsOn cX6_countsOn 3 (some .boolean), Cond.fieldLink RX6 28 "FoundRegisterModel" "isStruck" "[Z", Cond.fieldLink RX6 19 "FoundRegisterModel" "days" "[I", Cond.fieldLink RX6 7 "FoundRegisterModel" "terms" "[I", Cond.fieldLink RX6 16 "FoundRegisterModel" "sources" "[I", Cond.methodLink RX6 101 yX6_areSame, Cond.instanceMethod yX6_areSame, Cond.selects RX6 yX6_areSame yX6_areSame, Cond.code yX6_areSame cX6_areSame 6 (some .boolean), Cond.fieldLink RX6 32 "FoundRegisterModel" "pairs" "[B", Cond.fieldLink RX6 22 "FoundRegisterModel" "marks" "[I", Cond.methodLink RX6 98 yX6_haveSame, Cond.instanceMethod yX6_haveSame, Cond.selects RX6 yX6_haveSame yX6_haveSame, Cond.code yX6_haveSame cX6_haveSame 4 (some .boolean), Cond.methodLink RX6 104 yX6_join, Cond.instanceMethod yX6_join, Cond.selects RX6 yX6_join yX6_join, Cond.code yX6_join cX6_join 6 none, Cond.methodLink RX6 80 yX6_refused, Cond.instanceMethod yX6_refused, Cond.selects RX6 yX6_refused yX6_refused, Cond.code yX6_refused cX6_refused 2 (some .boolean)]
def wsX6_failsWith_r3 : List Cond := [Cond.fieldLink RX6 66 "FoundRegisterModel" "refusal" "I", Cond.methodLink RX6 136 yX6_spread, Cond.instanceMethod yX6_spread, Cond.selects RX6 yX6_spread yX6_spread, Cond.code yX6_spread cX6_spread 5 (some .int), Cond.methodLink RX6 133 yX6_falls, Cond.instanceMethod yX6_falls, Cond.selects RX6 yX6_falls yX6_falls, Cond.code yX6_falls cX6_falls 7 (some .boolean), Cond.fieldLink RX6 127 "FoundRegisterModel" "links" "I", Cond.fieldLink RX6 39 "FoundRegisterModel" "tos" "[I", Cond.methodLink RX6 130 yX6_isOf, Cond.instanceMethod yX6_isOf, Cond.selects RX6 yX6_isOf yX6_isOf, Cond.code yX6_isOf cX6_isOf 5 (some .boolean), Cond.fieldLink RX6 36 "FoundRegisterModel" "froms" "[I", Cond.fieldLink RX6 42 "FoundRegisterModel" "groups" "[I"]
def wsX6_failsWith : List Cond := .code yX6_failsWith cX6_failsWith 7 (some .boolean) :: ((wsX6_failsWith_r1 ++ (wsX6_failsWith_r2 ++ wsX6_failsWith_r3)) ++ wsX60)
def wsX6_wish : List Cond := .code yX6_wish cX6_wish 6 (some .int) :: ([.fieldLink RX6 139 "FoundRegisterModel" "wishes" "I", .fieldLink RX6 45 "FoundRegisterModel" "wishMarks" "[I", .fieldLink RX6 48 "FoundRegisterModel" "wishMarkValues" "[I", .fieldLink RX6 51 "FoundRegisterModel" "wishAttributes" "[I", .fieldLink RX6 54 "FoundRegisterModel" "wishValues" "[I", .methodLink RX6 73 yX6_in, .static yX6_in, .initialized RX6, .code yX6_in cX6_in 3 (some .boolean), .methodLink RX6 80 yX6_refused, .instanceMethod yX6_refused, .selects RX6 yX6_refused yX6_refused, .code yX6_refused cX6_refused 2 (some .boolean), .fieldLink RX6 66 "FoundRegisterModel" "refusal" "I"] ++ wsX60)
def wsX6_differing_r1 : List Cond := [Cond.fieldLink RX6 139 "FoundRegisterModel" "wishes" "I", Cond.fieldLink RX6 70 "FoundRegisterModel" "finds" "I", Cond.fieldLink RX6 57 "FoundRegisterModel" "things" "[I", Cond.fieldLink RX6 22 "FoundRegisterModel" "marks" "[I", Cond.fieldLink RX6 45 "FoundRegisterModel" "wishMarks" "[I", Cond.fieldLink RX6 48 "FoundRegisterModel" "wishMarkValues" "[I", Cond.fieldLink RX6 51 "FoundRegisterModel" "wishAttributes" "[I", Cond.fieldLink RX6 54 "FoundRegisterModel" "wishValues" "[I", Cond.methodLink RX6 73 yX6_in, Cond.static yX6_in, Cond.initialized RX6, Cond.code yX6_in cX6_in 3 (some .boolean), Cond.methodLink RX6 91 yX6_isDay, Cond.static yX6_isDay, Cond.code yX6_isDay cX6_isDay 1 (some .boolean), Cond.methodLink RX6 80 yX6_refused, Cond.instanceMethod yX6_refused, Cond.selects RX6 yX6_refused yX6_refused, Cond.code yX6_refused cX6_refused 2 (some .boolean), Cond.fieldLink RX6 66 "FoundRegisterModel" "refusal" "I", Cond.methodLink RX6 108 yX6_lay, Cond.instanceMethod yX6_lay, Cond.selects RX6 yX6_lay yX6_lay, Cond.code yX6_lay cX6_lay 5 none]
def wsX6_differing_r2 : List Cond := [Cond.methodLink RX6 94 yX6_countsOn, Cond.instanceMethod yX6_countsOn, Cond.selects RX6 yX6_countsOn yX6_countsOn, Cond.code yX6_countsOn cX6_countsOn 3 (some .boolean), Cond.fieldLink RX6 28 "FoundRegisterModel" "isStruck" "[Z", Cond.fieldLink RX6 19 "FoundRegisterModel" "days" "[I", Cond.fieldLink RX6 7 "FoundRegisterModel" "terms" "[I", Cond.fieldLink RX6 16 "FoundRegisterModel" "sources" "[I", Cond.methodLink RX6 101 yX6_areSame, Cond.instanceMethod yX6_areSame, Cond.selects RX6 yX6_areSame yX6_areSame, Cond.code yX6_areSame cX6_areSame 6 (some .boolean), Cond.fieldLink RX6 32 "FoundRegisterModel" "pairs" "[B", Cond.methodLink RX6 98 yX6_haveSame, Cond.instanceMethod yX6_haveSame, Cond.selects RX6 yX6_haveSame yX6_haveSame, Cond.code yX6_haveSame cX6_haveSame 4 (some .boolean), Cond.methodLink RX6 104 yX6_join, Cond.instanceMethod yX6_join, Cond.selects RX6 yX6_join yX6_join, Cond.code yX6_join cX6_join 6 none, Cond.methodLink RX6 123 yX6_valueOf, Cond.instanceMethod yX6_valueOf, Cond.selects RX6 yX6_valueOf yX6_valueOf]
def wsX6_differing_r3 : List Cond := [Cond.code yX6_valueOf cX6_valueOf 6 (some .int), Cond.fieldLink RX6 25 "FoundRegisterModel" "told" "[I", Cond.methodLink RX6 120 yX6_isAhead, Cond.instanceMethod yX6_isAhead, Cond.selects RX6 yX6_isAhead yX6_isAhead, Cond.code yX6_isAhead cX6_isAhead 5 (some .boolean), Cond.methodLink RX6 84 yX6_rankOf, Cond.instanceMethod yX6_rankOf, Cond.selects RX6 yX6_rankOf yX6_rankOf, Cond.code yX6_rankOf cX6_rankOf 3 (some .int), Cond.fieldLink RX6 13 "FoundRegisterModel" "order" "[I"]
def wsX6_differing : List Cond := .code yX6_differing cX6_differing 7 (some .int) :: ((wsX6_differing_r1 ++ (wsX6_differing_r2 ++ wsX6_differing_r3)) ++ wsX60)
def wsX6_changed_r1 : List Cond := [Cond.fieldLink RX6 70 "FoundRegisterModel" "finds" "I", Cond.fieldLink RX6 60 "FoundRegisterModel" "others" "[I", Cond.fieldLink RX6 57 "FoundRegisterModel" "things" "[I", Cond.methodLink RX6 73 yX6_in, Cond.static yX6_in, Cond.initialized RX6, Cond.code yX6_in cX6_in 3 (some .boolean), Cond.methodLink RX6 91 yX6_isDay, Cond.static yX6_isDay, Cond.code yX6_isDay cX6_isDay 1 (some .boolean), Cond.methodLink RX6 80 yX6_refused, Cond.instanceMethod yX6_refused, Cond.selects RX6 yX6_refused yX6_refused, Cond.code yX6_refused cX6_refused 2 (some .boolean), Cond.fieldLink RX6 66 "FoundRegisterModel" "refusal" "I", Cond.methodLink RX6 108 yX6_lay, Cond.instanceMethod yX6_lay, Cond.selects RX6 yX6_lay yX6_lay, Cond.code yX6_lay cX6_lay 5 none, Cond.methodLink RX6 94 yX6_countsOn, Cond.instanceMethod yX6_countsOn, Cond.selects RX6 yX6_countsOn yX6_countsOn, Cond.code yX6_countsOn cX6_countsOn 3 (some .boolean), Cond.fieldLink RX6 28 "FoundRegisterModel" "isStruck" "[Z"]
def wsX6_changed_r2 : List Cond := [Cond.fieldLink RX6 19 "FoundRegisterModel" "days" "[I", Cond.fieldLink RX6 7 "FoundRegisterModel" "terms" "[I", Cond.fieldLink RX6 16 "FoundRegisterModel" "sources" "[I", Cond.methodLink RX6 101 yX6_areSame, Cond.instanceMethod yX6_areSame, Cond.selects RX6 yX6_areSame yX6_areSame, Cond.code yX6_areSame cX6_areSame 6 (some .boolean), Cond.fieldLink RX6 32 "FoundRegisterModel" "pairs" "[B", Cond.fieldLink RX6 22 "FoundRegisterModel" "marks" "[I", Cond.methodLink RX6 98 yX6_haveSame, Cond.instanceMethod yX6_haveSame, Cond.selects RX6 yX6_haveSame yX6_haveSame, Cond.code yX6_haveSame cX6_haveSame 4 (some .boolean), Cond.methodLink RX6 104 yX6_join, Cond.instanceMethod yX6_join, Cond.selects RX6 yX6_join yX6_join, Cond.code yX6_join cX6_join 6 none, Cond.methodLink RX6 123 yX6_valueOf, Cond.instanceMethod yX6_valueOf, Cond.selects RX6 yX6_valueOf yX6_valueOf, Cond.code yX6_valueOf cX6_valueOf 6 (some .int), Cond.fieldLink RX6 25 "FoundRegisterModel" "told" "[I", Cond.methodLink RX6 120 yX6_isAhead, Cond.instanceMethod yX6_isAhead]
def wsX6_changed_r3 : List Cond := [Cond.selects RX6 yX6_isAhead yX6_isAhead, Cond.code yX6_isAhead cX6_isAhead 5 (some .boolean), Cond.methodLink RX6 84 yX6_rankOf, Cond.instanceMethod yX6_rankOf, Cond.selects RX6 yX6_rankOf yX6_rankOf, Cond.code yX6_rankOf cX6_rankOf 3 (some .int), Cond.fieldLink RX6 13 "FoundRegisterModel" "order" "[I"]
def wsX6_changed : List Cond := .code yX6_changed cX6_changed 6 (some .int) :: ((wsX6_changed_r1 ++ (wsX6_changed_r2 ++ wsX6_changed_r3)) ++ wsX60)
def wsJ9_max_7cf53 : List Cond := .code yJ9_max_7cf53 cJ9_max_7cf53 2 (some .int) :: ([])
def wsJ9_min_7cf53 : List Cond := .code yJ9_min_7cf53 cJ9_min_7cf53 2 (some .int) :: ([])
def wsL_pass : List Cond := .codeWith yL_pass cL_pass 4 (some .int) [(0, 9, 12, 13), (0, 9, 15, 15)] :: ([.classLink RL 13 "java/lang/IllegalArgumentException", .classLink RL 15 "java/lang/IllegalStateException", .methodLink RL 7 yX5_pass, .instanceMethod yX5_pass, .selects RX5 yX5_pass yX5_pass, .initialized RX5, .code yX5_pass cX5_pass 2 (some .int), .classLink RX5 57 "java/lang/IllegalStateException", .initialized "java/lang/IllegalStateException", .fieldLink RX5 7 "FoundRegister" "presentDay" "I", .methodLink RX5 53 yX5_requireRange, .static yX5_requireRange, .code yX5_requireRange cX5_requireRange 3 none, .classLink RX5 169 "java/lang/IllegalArgumentException", .initialized "java/lang/IllegalArgumentException"] ++ wsX50 ++ (vx_atS RX5 61 "java/lang/IllegalStateException" ["java/lang/RuntimeException", "java/lang/Exception"]).filter goodWord ++ (vx_atS RX5 173 "java/lang/IllegalArgumentException" ["java/lang/RuntimeException", "java/lang/Exception"]).filter goodWord)
def wsL_setTerm : List Cond := .codeWith yL_setTerm cL_setTerm 5 (some .int) [(0, 10, 13, 13)] :: ([.classLink RL 13 "java/lang/IllegalArgumentException", .methodLink RL 17 yX5_setTerm, .instanceMethod yX5_setTerm, .selects RX5 yX5_setTerm yX5_setTerm, .initialized RX5, .code yX5_setTerm cX5_setTerm 4 (some .int), .fieldLink RX5 16 "FoundRegister" "sources" "LFoundRegister$Sources;", .fieldLink RX5 64 "FoundRegister$Sources" "term" "[I", .methodLink RX5 53 yX5_requireRange, .static yX5_requireRange, .code yX5_requireRange cX5_requireRange 3 none, .classLink RX5 169 "java/lang/IllegalArgumentException", .initialized "java/lang/IllegalArgumentException"] ++ wsX50 ++ wsX20 ++ (vx_atS RX5 173 "java/lang/IllegalArgumentException" ["java/lang/RuntimeException", "java/lang/Exception"]).filter goodWord)
def wsL_putFirst : List Cond := .codeWith yL_putFirst cL_putFirst 4 (some .int) [(0, 9, 12, 13)] :: ([.classLink RL 13 "java/lang/IllegalArgumentException", .methodLink RL 21 yX5_putFirst, .instanceMethod yX5_putFirst, .selects RX5 yX5_putFirst yX5_putFirst, .initialized RX5, .code yX5_putFirst cX5_putFirst 2 (some .int), .fieldLink RX5 16 "FoundRegister" "sources" "LFoundRegister$Sources;", .methodLink RX5 53 yX5_requireRange, .static yX5_requireRange, .code yX5_requireRange cX5_requireRange 3 none, .classLink RX5 169 "java/lang/IllegalArgumentException", .initialized "java/lang/IllegalArgumentException", .methodLink RX5 68 yX2_moveToFront, .instanceMethod yX2_moveToFront, .selects RX2 yX2_moveToFront yX2_moveToFront, .initialized RX2, .code yX2_moveToFront cX2_moveToFront 4 (some .int), .fieldLink RX2 15 "FoundRegister$Sources" "place" "[I"] ++ wsX50 ++ wsX20 ++ (vx_atS RX5 173 "java/lang/IllegalArgumentException" ["java/lang/RuntimeException", "java/lang/Exception"]).filter goodWord)
def wsL_find_r1 : List Cond := [Cond.classLink RL 13 "java/lang/IllegalArgumentException", Cond.classLink RL 15 "java/lang/IllegalStateException", Cond.methodLink RL 24 yX5_find, Cond.instanceMethod yX5_find, Cond.selects RX5 yX5_find yX5_find, Cond.initialized RX5, Cond.code yX5_find cX5_find 8 (some .int), Cond.classLink RX5 57 "java/lang/IllegalStateException", Cond.initialized "java/lang/IllegalStateException", Cond.fieldLink RX5 23 "FoundRegister" "finds" "LFoundRegister$Finds;", Cond.fieldLink RX5 72 "FoundRegister$Finds" "count" "I", Cond.fieldLink RX5 7 "FoundRegister" "presentDay" "I", Cond.methodLink RX5 53 yX5_requireRange, Cond.static yX5_requireRange, Cond.code yX5_requireRange cX5_requireRange 3 none, Cond.classLink RX5 169 "java/lang/IllegalArgumentException", Cond.initialized "java/lang/IllegalArgumentException", Cond.methodLink RX5 77 yX0_take, Cond.instanceMethod yX0_take, Cond.selects RX0 yX0_take yX0_take, Cond.initialized RX0, Cond.code yX0_take cX0_take 4 (some .int), Cond.fieldLink RX0 9 "FoundRegister$Finds" "count" "I", Cond.fieldLink RX0 15 "FoundRegister$Finds" "source" "[I"]
def wsL_find_r2 : List Cond := [Cond.fieldLink RX0 19 "FoundRegister$Finds" "cameOn" "[I", Cond.methodLink RX5 81 yX0_putMarks, Cond.instanceMethod yX0_putMarks, Cond.selects RX0 yX0_putMarks yX0_putMarks, Cond.code yX0_putMarks cX0_putMarks 5 none, Cond.fieldLink RX0 28 "FoundRegister$Finds" "marks" "[[I", Cond.methodLink RX5 85 yX0_putAttributes, Cond.instanceMethod yX0_putAttributes, Cond.selects RX0 yX0_putAttributes yX0_putAttributes, Cond.code yX0_putAttributes cX0_putAttributes 4 none, Cond.fieldLink RX0 31 "FoundRegister$Finds" "attributes" "[[I"]
def wsL_find : List Cond := .codeWith yL_find cL_find 9 (some .int) [(0, 18, 21, 13), (0, 18, 25, 15)] :: ((wsL_find_r1 ++ wsL_find_r2) ++ wsX50 ++ wsX00 ++ (vx_atS RX5 61 "java/lang/IllegalStateException" ["java/lang/RuntimeException", "java/lang/Exception"]).filter goodWord ++ (vx_atS RX5 173 "java/lang/IllegalArgumentException" ["java/lang/RuntimeException", "java/lang/Exception"]).filter goodWord)
def wsL_strike : List Cond := .codeWith yL_strike cL_strike 4 (some .int) [(0, 16, 19, 32)] :: ([.classLink RL 32 "java/lang/IndexOutOfBoundsException", .methodLink RL 28 yX5_strike, .instanceMethod yX5_strike, .selects RX5 yX5_strike yX5_strike, .initialized RX5, .code yX5_strike cX5_strike 3 (some .boolean), .fieldLink RX5 23 "FoundRegister" "finds" "LFoundRegister$Finds;", .fieldLink RX5 92 "FoundRegister$Finds" "struck" "[Z", .methodLink RX5 88 yX5_requireFind, .instanceMethod yX5_requireFind, .selects RX5 yX5_requireFind yX5_requireFind, .code yX5_requireFind cX5_requireFind 2 none, .classLink RX5 157 "java/lang/IndexOutOfBoundsException", .initialized "java/lang/IndexOutOfBoundsException", .fieldLink RX5 72 "FoundRegister$Finds" "count" "I"] ++ wsX50 ++ wsX00 ++ (vx_atS RX5 161 "java/lang/IndexOutOfBoundsException" ["java/lang/RuntimeException", "java/lang/Exception"]).filter goodWord)
def wsL_tell : List Cond := .codeWith yL_tell cL_tell 6 (some .int) [(0, 12, 15, 32), (0, 12, 19, 13)] :: ([.classLink RL 32 "java/lang/IndexOutOfBoundsException", .classLink RL 13 "java/lang/IllegalArgumentException", .methodLink RL 34 yX5_tell, .instanceMethod yX5_tell, .selects RX5 yX5_tell yX5_tell, .initialized RX5, .code yX5_tell cX5_tell 5 (some .int), .fieldLink RX5 23 "FoundRegister" "finds" "LFoundRegister$Finds;", .fieldLink RX5 100 "FoundRegister$Finds" "told" "[[I", .methodLink RX5 88 yX5_requireFind, .instanceMethod yX5_requireFind, .selects RX5 yX5_requireFind yX5_requireFind, .code yX5_requireFind cX5_requireFind 2 none, .classLink RX5 157 "java/lang/IndexOutOfBoundsException", .initialized "java/lang/IndexOutOfBoundsException", .fieldLink RX5 72 "FoundRegister$Finds" "count" "I", .methodLink RX5 96 yX5_requireUnlike, .static yX5_requireUnlike, .code yX5_requireUnlike cX5_requireUnlike 2 none, .classLink RX5 169 "java/lang/IllegalArgumentException", .initialized "java/lang/IllegalArgumentException", .methodLink RX5 53 yX5_requireRange, .static yX5_requireRange, .code yX5_requireRange cX5_requireRange 3 none] ++ wsX50 ++ wsX00 ++ (vx_atS RX5 161 "java/lang/IndexOutOfBoundsException" ["java/lang/RuntimeException", "java/lang/Exception"]).filter goodWord ++ (vx_atS RX5 173 "java/lang/IllegalArgumentException" ["java/lang/RuntimeException", "java/lang/Exception"]).filter goodWord)
def wsL_counts_r1 : List Cond := [Cond.classLink RL 32 "java/lang/IndexOutOfBoundsException", Cond.classLink RL 13 "java/lang/IllegalArgumentException", Cond.methodLink RL 38 yX5_counts, Cond.instanceMethod yX5_counts, Cond.selects RX5 yX5_counts yX5_counts, Cond.initialized RX5, Cond.code yX5_counts cX5_counts 3 (some .boolean), Cond.fieldLink RX5 23 "FoundRegister" "finds" "LFoundRegister$Finds;", Cond.fieldLink RX5 16 "FoundRegister" "sources" "LFoundRegister$Sources;", Cond.methodLink RX5 88 yX5_requireFind, Cond.instanceMethod yX5_requireFind, Cond.selects RX5 yX5_requireFind yX5_requireFind, Cond.code yX5_requireFind cX5_requireFind 2 none, Cond.classLink RX5 157 "java/lang/IndexOutOfBoundsException", Cond.initialized "java/lang/IndexOutOfBoundsException", Cond.fieldLink RX5 72 "FoundRegister$Finds" "count" "I", Cond.methodLink RX5 104 yX5_requireDay, Cond.static yX5_requireDay, Cond.code yX5_requireDay cX5_requireDay 1 none, Cond.methodLink RX5 53 yX5_requireRange, Cond.static yX5_requireRange, Cond.code yX5_requireRange cX5_requireRange 3 none, Cond.classLink RX5 169 "java/lang/IllegalArgumentException", Cond.initialized "java/lang/IllegalArgumentException"]
def wsL_counts_r2 : List Cond := [Cond.methodLink RX5 107 yX0_standsOn, Cond.instanceMethod yX0_standsOn, Cond.selects RX0 yX0_standsOn yX0_standsOn, Cond.initialized RX0, Cond.code yX0_standsOn cX0_standsOn 4 (some .boolean), Cond.fieldLink RX0 22 "FoundRegister$Finds" "struck" "[Z", Cond.fieldLink RX0 19 "FoundRegister$Finds" "cameOn" "[I", Cond.fieldLink RX0 37 "FoundRegister$Sources" "term" "[I", Cond.fieldLink RX0 15 "FoundRegister$Finds" "source" "[I"]
def wsL_counts : List Cond := .codeWith yL_counts cL_counts 5 (some .int) [(0, 17, 20, 32), (0, 17, 24, 13)] :: ((wsL_counts_r1 ++ wsL_counts_r2) ++ wsX50 ++ wsX00 ++ wsX20 ++ (vx_atS RX5 161 "java/lang/IndexOutOfBoundsException" ["java/lang/RuntimeException", "java/lang/Exception"]).filter goodWord ++ (vx_atS RX5 173 "java/lang/IllegalArgumentException" ["java/lang/RuntimeException", "java/lang/Exception"]).filter goodWord)
def wsL_things_r1 : List Cond := [Cond.classLink RL 13 "java/lang/IllegalArgumentException", Cond.methodLink RL 42 yX5_things, Cond.instanceMethod yX5_things, Cond.selects RX5 yX5_things yX5_things, Cond.initialized RX5, Cond.code yX5_things cX5_things 4 (some .int), Cond.fieldLink RX5 46 "FoundRegister" "ofDay" "LFoundRegister$Things;", Cond.fieldLink RX5 23 "FoundRegister" "finds" "LFoundRegister$Finds;", Cond.fieldLink RX5 72 "FoundRegister$Finds" "count" "I", Cond.methodLink RX5 104 yX5_requireDay, Cond.static yX5_requireDay, Cond.code yX5_requireDay cX5_requireDay 1 none, Cond.methodLink RX5 53 yX5_requireRange, Cond.static yX5_requireRange, Cond.code yX5_requireRange cX5_requireRange 3 none, Cond.classLink RX5 169 "java/lang/IllegalArgumentException", Cond.initialized "java/lang/IllegalArgumentException", Cond.methodLink RX5 111 yX3_sortFor, Cond.instanceMethod yX3_sortFor, Cond.selects RX3 yX3_sortFor yX3_sortFor, Cond.initialized RX3, Cond.code yX3_sortFor cX3_sortFor 3 none, Cond.fieldLink RX3 15 "FoundRegister$Things" "finds" "LFoundRegister$Finds;", Cond.fieldLink RX3 23 "FoundRegister$Finds" "count" "I"]
def wsL_things_r2 : List Cond := [Cond.fieldLink RX3 9 "FoundRegister$Things" "ofFind" "[I", Cond.fieldLink RX3 19 "FoundRegister$Things" "sources" "LFoundRegister$Sources;", Cond.methodLink RX3 29 yX0_standsOn, Cond.instanceMethod yX0_standsOn, Cond.selects RX0 yX0_standsOn yX0_standsOn, Cond.initialized RX0, Cond.code yX0_standsOn cX0_standsOn 4 (some .boolean), Cond.fieldLink RX0 22 "FoundRegister$Finds" "struck" "[Z", Cond.fieldLink RX0 19 "FoundRegister$Finds" "cameOn" "[I", Cond.fieldLink RX0 37 "FoundRegister$Sources" "term" "[I", Cond.fieldLink RX0 15 "FoundRegister$Finds" "source" "[I", Cond.methodLink RX3 33 yX3_joinToEarlier, Cond.instanceMethod yX3_joinToEarlier, Cond.selects RX3 yX3_joinToEarlier yX3_joinToEarlier, Cond.code yX3_joinToEarlier cX3_joinToEarlier 3 none, Cond.methodLink RX3 37 yX0_joined, Cond.instanceMethod yX0_joined, Cond.selects RX0 yX0_joined yX0_joined, Cond.code yX0_joined cX0_joined 3 (some .boolean), Cond.fieldLink RX0 34 "FoundRegister$Finds" "told" "[[I", Cond.methodLink RX0 42 yX0_knowsSerial, Cond.instanceMethod yX0_knowsSerial, Cond.selects RX0 yX0_knowsSerial yX0_knowsSerial, Cond.code yX0_knowsSerial cX0_knowsSerial 2 (some .boolean)]
def wsL_things_r3 : List Cond := [Cond.fieldLink RX0 28 "FoundRegister$Finds" "marks" "[[I", Cond.methodLink RX0 46 yX0_shareMark, Cond.instanceMethod yX0_shareMark, Cond.selects RX0 yX0_shareMark yX0_shareMark, Cond.code yX0_shareMark cX0_shareMark 4 (some .boolean), Cond.methodLink RX3 41 yX3_merge, Cond.instanceMethod yX3_merge, Cond.selects RX3 yX3_merge yX3_merge, Cond.code yX3_merge cX3_merge 6 none, Cond.methodLink RX3 45 Lib.Math.min.name, Cond.static Lib.Math.min.name, Cond.initialized "java/lang/Math", Cond.code Lib.Math.min.name Lib.Math.min.code 2 (some .int), Cond.methodLink RX3 51 Lib.Math.max.name, Cond.static Lib.Math.max.name, Cond.code Lib.Math.max.name Lib.Math.max.code 2 (some .int), Cond.methodLink RX5 114 yX3_isThing, Cond.instanceMethod yX3_isThing, Cond.selects RX3 yX3_isThing yX3_isThing, Cond.code yX3_isThing cX3_isThing 2 (some .boolean)]
def wsL_things : List Cond := .codeWith yL_things cL_things 4 (some .int) [(0, 9, 12, 13)] :: ((wsL_things_r1 ++ (wsL_things_r2 ++ wsL_things_r3)) ++ wsX50 ++ wsX00 ++ wsX30 ++ wsX20 ++ (vx_atS RX5 173 "java/lang/IllegalArgumentException" ["java/lang/RuntimeException", "java/lang/Exception"]).filter goodWord)
def wsL_thingOf_r1 : List Cond := [Cond.classLink RL 32 "java/lang/IndexOutOfBoundsException", Cond.classLink RL 13 "java/lang/IllegalArgumentException", Cond.classLink RL 48 "java/util/NoSuchElementException", Cond.methodLink RL 45 yX5_thingOf, Cond.instanceMethod yX5_thingOf, Cond.selects RX5 yX5_thingOf yX5_thingOf, Cond.initialized RX5, Cond.code yX5_thingOf cX5_thingOf 3 (some .int), Cond.fieldLink RX5 46 "FoundRegister" "ofDay" "LFoundRegister$Things;", Cond.fieldLink RX5 121 "FoundRegister$Things" "ofFind" "[I", Cond.methodLink RX5 88 yX5_requireFind, Cond.instanceMethod yX5_requireFind, Cond.selects RX5 yX5_requireFind yX5_requireFind, Cond.code yX5_requireFind cX5_requireFind 2 none, Cond.classLink RX5 157 "java/lang/IndexOutOfBoundsException", Cond.initialized "java/lang/IndexOutOfBoundsException", Cond.fieldLink RX5 23 "FoundRegister" "finds" "LFoundRegister$Finds;", Cond.fieldLink RX5 72 "FoundRegister$Finds" "count" "I", Cond.methodLink RX5 104 yX5_requireDay, Cond.static yX5_requireDay, Cond.code yX5_requireDay cX5_requireDay 1 none, Cond.methodLink RX5 53 yX5_requireRange, Cond.static yX5_requireRange, Cond.code yX5_requireRange cX5_requireRange 3 none]
def wsL_thingOf_r2 : List Cond := [Cond.classLink RX5 169 "java/lang/IllegalArgumentException", Cond.initialized "java/lang/IllegalArgumentException", Cond.methodLink RX5 111 yX3_sortFor, Cond.instanceMethod yX3_sortFor, Cond.selects RX3 yX3_sortFor yX3_sortFor, Cond.initialized RX3, Cond.code yX3_sortFor cX3_sortFor 3 none, Cond.fieldLink RX3 15 "FoundRegister$Things" "finds" "LFoundRegister$Finds;", Cond.fieldLink RX3 23 "FoundRegister$Finds" "count" "I", Cond.fieldLink RX3 9 "FoundRegister$Things" "ofFind" "[I", Cond.fieldLink RX3 19 "FoundRegister$Things" "sources" "LFoundRegister$Sources;", Cond.methodLink RX3 29 yX0_standsOn, Cond.instanceMethod yX0_standsOn, Cond.selects RX0 yX0_standsOn yX0_standsOn, Cond.initialized RX0, Cond.code yX0_standsOn cX0_standsOn 4 (some .boolean), Cond.fieldLink RX0 22 "FoundRegister$Finds" "struck" "[Z", Cond.fieldLink RX0 19 "FoundRegister$Finds" "cameOn" "[I", Cond.fieldLink RX0 37 "FoundRegister$Sources" "term" "[I", Cond.fieldLink RX0 15 "FoundRegister$Finds" "source" "[I", Cond.methodLink RX3 33 yX3_joinToEarlier, Cond.instanceMethod yX3_joinToEarlier, Cond.selects RX3 yX3_joinToEarlier yX3_joinToEarlier, Cond.code yX3_joinToEarlier cX3_joinToEarlier 3 none]
def wsL_thingOf_r3 : List Cond := [Cond.methodLink RX3 37 yX0_joined, Cond.instanceMethod yX0_joined, Cond.selects RX0 yX0_joined yX0_joined, Cond.code yX0_joined cX0_joined 3 (some .boolean), Cond.fieldLink RX0 34 "FoundRegister$Finds" "told" "[[I", Cond.methodLink RX0 42 yX0_knowsSerial, Cond.instanceMethod yX0_knowsSerial, Cond.selects RX0 yX0_knowsSerial yX0_knowsSerial, Cond.code yX0_knowsSerial cX0_knowsSerial 2 (some .boolean), Cond.fieldLink RX0 28 "FoundRegister$Finds" "marks" "[[I", Cond.methodLink RX0 46 yX0_shareMark, Cond.instanceMethod yX0_shareMark, Cond.selects RX0 yX0_shareMark yX0_shareMark, Cond.code yX0_shareMark cX0_shareMark 4 (some .boolean), Cond.methodLink RX3 41 yX3_merge, Cond.instanceMethod yX3_merge, Cond.selects RX3 yX3_merge yX3_merge, Cond.code yX3_merge cX3_merge 6 none, Cond.methodLink RX3 45 Lib.Math.min.name, Cond.static Lib.Math.min.name, Cond.initialized "java/lang/Math", Cond.code Lib.Math.min.name Lib.Math.min.code 2 (some .int), Cond.methodLink RX3 51 Lib.Math.max.name, Cond.static Lib.Math.max.name]
def wsL_thingOf_r4 : List Cond := [Cond.code Lib.Math.max.name Lib.Math.max.code 2 (some .int), Cond.methodLink RX5 118 yX5_requireCounting, Cond.instanceMethod yX5_requireCounting, Cond.selects RX5 yX5_requireCounting yX5_requireCounting, Cond.code yX5_requireCounting cX5_requireCounting 2 none, Cond.classLink RX5 178 "java/util/NoSuchElementException", Cond.initialized "java/util/NoSuchElementException"]
def wsL_thingOf : List Cond := .codeWith yL_thingOf cL_thingOf 5 (some .int) [(0, 10, 13, 32), (0, 10, 17, 13), (0, 10, 21, 48)] :: ((wsL_thingOf_r1 ++ (wsL_thingOf_r2 ++ (wsL_thingOf_r3 ++ wsL_thingOf_r4))) ++ wsX50 ++ wsX30 ++ wsX00 ++ wsX20 ++ (vx_atS RX5 161 "java/lang/IndexOutOfBoundsException" ["java/lang/RuntimeException", "java/lang/Exception"]).filter goodWord ++ (vx_atS RX5 173 "java/lang/IllegalArgumentException" ["java/lang/RuntimeException", "java/lang/Exception"]).filter goodWord ++ (gNsAt RX5 182).filter goodWord)
def wsL_value_r1 : List Cond := [Cond.classLink RL 32 "java/lang/IndexOutOfBoundsException", Cond.classLink RL 13 "java/lang/IllegalArgumentException", Cond.classLink RL 48 "java/util/NoSuchElementException", Cond.methodLink RL 50 yX5_value, Cond.instanceMethod yX5_value, Cond.selects RX5 yX5_value yX5_value, Cond.initialized RX5, Cond.code yX5_value cX5_value 4 (some .int), Cond.fieldLink RX5 46 "FoundRegister" "ofDay" "LFoundRegister$Things;", Cond.fieldLink RX5 121 "FoundRegister$Things" "ofFind" "[I", Cond.methodLink RX5 88 yX5_requireFind, Cond.instanceMethod yX5_requireFind, Cond.selects RX5 yX5_requireFind yX5_requireFind, Cond.code yX5_requireFind cX5_requireFind 2 none, Cond.classLink RX5 157 "java/lang/IndexOutOfBoundsException", Cond.initialized "java/lang/IndexOutOfBoundsException", Cond.fieldLink RX5 23 "FoundRegister" "finds" "LFoundRegister$Finds;", Cond.fieldLink RX5 72 "FoundRegister$Finds" "count" "I", Cond.methodLink RX5 124 yX5_requireAttribute, Cond.static yX5_requireAttribute, Cond.code yX5_requireAttribute cX5_requireAttribute 1 none, Cond.methodLink RX5 53 yX5_requireRange, Cond.static yX5_requireRange, Cond.code yX5_requireRange cX5_requireRange 3 none]
def wsL_value_r2 : List Cond := [Cond.classLink RX5 169 "java/lang/IllegalArgumentException", Cond.initialized "java/lang/IllegalArgumentException", Cond.methodLink RX5 104 yX5_requireDay, Cond.static yX5_requireDay, Cond.code yX5_requireDay cX5_requireDay 1 none, Cond.methodLink RX5 111 yX3_sortFor, Cond.instanceMethod yX3_sortFor, Cond.selects RX3 yX3_sortFor yX3_sortFor, Cond.initialized RX3, Cond.code yX3_sortFor cX3_sortFor 3 none, Cond.fieldLink RX3 15 "FoundRegister$Things" "finds" "LFoundRegister$Finds;", Cond.fieldLink RX3 23 "FoundRegister$Finds" "count" "I", Cond.fieldLink RX3 9 "FoundRegister$Things" "ofFind" "[I", Cond.fieldLink RX3 19 "FoundRegister$Things" "sources" "LFoundRegister$Sources;", Cond.methodLink RX3 29 yX0_standsOn, Cond.instanceMethod yX0_standsOn, Cond.selects RX0 yX0_standsOn yX0_standsOn, Cond.initialized RX0, Cond.code yX0_standsOn cX0_standsOn 4 (some .boolean), Cond.fieldLink RX0 22 "FoundRegister$Finds" "struck" "[Z", Cond.fieldLink RX0 19 "FoundRegister$Finds" "cameOn" "[I", Cond.fieldLink RX0 37 "FoundRegister$Sources" "term" "[I", Cond.fieldLink RX0 15 "FoundRegister$Finds" "source" "[I", Cond.methodLink RX3 33 yX3_joinToEarlier]
def wsL_value_r3 : List Cond := [Cond.instanceMethod yX3_joinToEarlier, Cond.selects RX3 yX3_joinToEarlier yX3_joinToEarlier, Cond.code yX3_joinToEarlier cX3_joinToEarlier 3 none, Cond.methodLink RX3 37 yX0_joined, Cond.instanceMethod yX0_joined, Cond.selects RX0 yX0_joined yX0_joined, Cond.code yX0_joined cX0_joined 3 (some .boolean), Cond.fieldLink RX0 34 "FoundRegister$Finds" "told" "[[I", Cond.methodLink RX0 42 yX0_knowsSerial, Cond.instanceMethod yX0_knowsSerial, Cond.selects RX0 yX0_knowsSerial yX0_knowsSerial, Cond.code yX0_knowsSerial cX0_knowsSerial 2 (some .boolean), Cond.fieldLink RX0 28 "FoundRegister$Finds" "marks" "[[I", Cond.methodLink RX0 46 yX0_shareMark, Cond.instanceMethod yX0_shareMark, Cond.selects RX0 yX0_shareMark yX0_shareMark, Cond.code yX0_shareMark cX0_shareMark 4 (some .boolean), Cond.methodLink RX3 41 yX3_merge, Cond.instanceMethod yX3_merge, Cond.selects RX3 yX3_merge yX3_merge, Cond.code yX3_merge cX3_merge 6 none, Cond.methodLink RX3 45 Lib.Math.min.name, Cond.static Lib.Math.min.name, Cond.initialized "java/lang/Math"]
def wsL_value_r4 : List Cond := [Cond.code Lib.Math.min.name Lib.Math.min.code 2 (some .int), Cond.methodLink RX3 51 Lib.Math.max.name, Cond.static Lib.Math.max.name, Cond.code Lib.Math.max.name Lib.Math.max.code 2 (some .int), Cond.methodLink RX5 118 yX5_requireCounting, Cond.instanceMethod yX5_requireCounting, Cond.selects RX5 yX5_requireCounting yX5_requireCounting, Cond.code yX5_requireCounting cX5_requireCounting 2 none, Cond.classLink RX5 178 "java/util/NoSuchElementException", Cond.initialized "java/util/NoSuchElementException", Cond.methodLink RX5 127 yX3_attributeOf, Cond.instanceMethod yX3_attributeOf, Cond.selects RX3 yX3_attributeOf yX3_attributeOf, Cond.code yX3_attributeOf cX3_attributeOf 5 (some .int), Cond.fieldLink RX3 61 "FoundRegister$Finds" "attributes" "[[I", Cond.methodLink RX3 54 yX3_tells, Cond.instanceMethod yX3_tells, Cond.selects RX3 yX3_tells yX3_tells, Cond.code yX3_tells cX3_tells 4 (some .boolean), Cond.methodLink RX3 58 yX3_goesBefore, Cond.instanceMethod yX3_goesBefore, Cond.selects RX3 yX3_goesBefore yX3_goesBefore, Cond.code yX3_goesBefore cX3_goesBefore 5 (some .boolean), Cond.fieldLink RX3 65 "FoundRegister$Sources" "place" "[I"]
def wsL_value_r5 : List Cond := [Cond.fieldLink RX3 70 "FoundRegister$Finds" "source" "[I"]
def wsL_value : List Cond := .codeWith yL_value cL_value 6 (some .int) [(0, 12, 15, 32), (0, 12, 19, 13), (0, 12, 23, 48)] :: ((wsL_value_r1 ++ (wsL_value_r2 ++ (wsL_value_r3 ++ (wsL_value_r4 ++ wsL_value_r5)))) ++ wsX50 ++ wsX30 ++ wsX00 ++ wsX20 ++ (vx_atS RX5 161 "java/lang/IndexOutOfBoundsException" ["java/lang/RuntimeException", "java/lang/Exception"]).filter goodWord ++ (vx_atS RX5 173 "java/lang/IllegalArgumentException" ["java/lang/RuntimeException", "java/lang/Exception"]).filter goodWord ++ (gNsAt RX5 182).filter goodWord)
def wsL_disputed_r1 : List Cond := [Cond.classLink RL 13 "java/lang/IllegalArgumentException", Cond.methodLink RL 53 yX5_disputed, Cond.instanceMethod yX5_disputed, Cond.selects RX5 yX5_disputed yX5_disputed, Cond.initialized RX5, Cond.code yX5_disputed cX5_disputed 5 (some .int), Cond.fieldLink RX5 46 "FoundRegister" "ofDay" "LFoundRegister$Things;", Cond.fieldLink RX5 23 "FoundRegister" "finds" "LFoundRegister$Finds;", Cond.fieldLink RX5 72 "FoundRegister$Finds" "count" "I", Cond.methodLink RX5 124 yX5_requireAttribute, Cond.static yX5_requireAttribute, Cond.code yX5_requireAttribute cX5_requireAttribute 1 none, Cond.methodLink RX5 53 yX5_requireRange, Cond.static yX5_requireRange, Cond.code yX5_requireRange cX5_requireRange 3 none, Cond.classLink RX5 169 "java/lang/IllegalArgumentException", Cond.initialized "java/lang/IllegalArgumentException", Cond.methodLink RX5 104 yX5_requireDay, Cond.static yX5_requireDay, Cond.code yX5_requireDay cX5_requireDay 1 none, Cond.methodLink RX5 111 yX3_sortFor, Cond.instanceMethod yX3_sortFor, Cond.selects RX3 yX3_sortFor yX3_sortFor, Cond.initialized RX3]
def wsL_disputed_r2 : List Cond := [Cond.code yX3_sortFor cX3_sortFor 3 none, Cond.fieldLink RX3 15 "FoundRegister$Things" "finds" "LFoundRegister$Finds;", Cond.fieldLink RX3 23 "FoundRegister$Finds" "count" "I", Cond.fieldLink RX3 9 "FoundRegister$Things" "ofFind" "[I", Cond.fieldLink RX3 19 "FoundRegister$Things" "sources" "LFoundRegister$Sources;", Cond.methodLink RX3 29 yX0_standsOn, Cond.instanceMethod yX0_standsOn, Cond.selects RX0 yX0_standsOn yX0_standsOn, Cond.initialized RX0, Cond.code yX0_standsOn cX0_standsOn 4 (some .boolean), Cond.fieldLink RX0 22 "FoundRegister$Finds" "struck" "[Z", Cond.fieldLink RX0 19 "FoundRegister$Finds" "cameOn" "[I", Cond.fieldLink RX0 37 "FoundRegister$Sources" "term" "[I", Cond.fieldLink RX0 15 "FoundRegister$Finds" "source" "[I", Cond.methodLink RX3 33 yX3_joinToEarlier, Cond.instanceMethod yX3_joinToEarlier, Cond.selects RX3 yX3_joinToEarlier yX3_joinToEarlier, Cond.code yX3_joinToEarlier cX3_joinToEarlier 3 none, Cond.methodLink RX3 37 yX0_joined, Cond.instanceMethod yX0_joined, Cond.selects RX0 yX0_joined yX0_joined, Cond.code yX0_joined cX0_joined 3 (some .boolean), Cond.fieldLink RX0 34 "FoundRegister$Finds" "told" "[[I", Cond.methodLink RX0 42 yX0_knowsSerial]
def wsL_disputed_r3 : List Cond := [Cond.instanceMethod yX0_knowsSerial, Cond.selects RX0 yX0_knowsSerial yX0_knowsSerial, Cond.code yX0_knowsSerial cX0_knowsSerial 2 (some .boolean), Cond.fieldLink RX0 28 "FoundRegister$Finds" "marks" "[[I", Cond.methodLink RX0 46 yX0_shareMark, Cond.instanceMethod yX0_shareMark, Cond.selects RX0 yX0_shareMark yX0_shareMark, Cond.code yX0_shareMark cX0_shareMark 4 (some .boolean), Cond.methodLink RX3 41 yX3_merge, Cond.instanceMethod yX3_merge, Cond.selects RX3 yX3_merge yX3_merge, Cond.code yX3_merge cX3_merge 6 none, Cond.methodLink RX3 45 Lib.Math.min.name, Cond.static Lib.Math.min.name, Cond.initialized "java/lang/Math", Cond.code Lib.Math.min.name Lib.Math.min.code 2 (some .int), Cond.methodLink RX3 51 Lib.Math.max.name, Cond.static Lib.Math.max.name, Cond.code Lib.Math.max.name Lib.Math.max.code 2 (some .int), Cond.methodLink RX5 114 yX3_isThing, Cond.instanceMethod yX3_isThing, Cond.selects RX3 yX3_isThing yX3_isThing, Cond.code yX3_isThing cX3_isThing 2 (some .boolean), Cond.methodLink RX5 130 yX3_hasUnlikeValues]
def wsL_disputed_r4 : List Cond := [Cond.instanceMethod yX3_hasUnlikeValues, Cond.selects RX3 yX3_hasUnlikeValues yX3_hasUnlikeValues, Cond.code yX3_hasUnlikeValues cX3_hasUnlikeValues 6 (some .boolean), Cond.fieldLink RX3 61 "FoundRegister$Finds" "attributes" "[[I", Cond.methodLink RX3 54 yX3_tells, Cond.instanceMethod yX3_tells, Cond.selects RX3 yX3_tells yX3_tells, Cond.code yX3_tells cX3_tells 4 (some .boolean)]
def wsL_disputed : List Cond := .codeWith yL_disputed cL_disputed 5 (some .int) [(0, 10, 13, 13)] :: ((wsL_disputed_r1 ++ (wsL_disputed_r2 ++ (wsL_disputed_r3 ++ wsL_disputed_r4))) ++ wsX50 ++ wsX00 ++ wsX30 ++ wsX20 ++ (vx_atS RX5 173 "java/lang/IllegalArgumentException" ["java/lang/RuntimeException", "java/lang/Exception"]).filter goodWord)
def wsL_link_r1 : List Cond := [Cond.classLink RL 32 "java/lang/IndexOutOfBoundsException", Cond.classLink RL 13 "java/lang/IllegalArgumentException", Cond.classLink RL 15 "java/lang/IllegalStateException", Cond.methodLink RL 56 yX5_link, Cond.instanceMethod yX5_link, Cond.selects RX5 yX5_link yX5_link, Cond.initialized RX5, Cond.code yX5_link cX5_link 4 (some .int), Cond.classLink RX5 57 "java/lang/IllegalStateException", Cond.initialized "java/lang/IllegalStateException", Cond.fieldLink RX5 30 "FoundRegister" "links" "LFoundRegister$Links;", Cond.fieldLink RX5 134 "FoundRegister$Links" "count" "I", Cond.methodLink RX5 88 yX5_requireFind, Cond.instanceMethod yX5_requireFind, Cond.selects RX5 yX5_requireFind yX5_requireFind, Cond.code yX5_requireFind cX5_requireFind 2 none, Cond.classLink RX5 157 "java/lang/IndexOutOfBoundsException", Cond.initialized "java/lang/IndexOutOfBoundsException", Cond.fieldLink RX5 23 "FoundRegister" "finds" "LFoundRegister$Finds;", Cond.fieldLink RX5 72 "FoundRegister$Finds" "count" "I", Cond.methodLink RX5 96 yX5_requireUnlike, Cond.static yX5_requireUnlike, Cond.code yX5_requireUnlike cX5_requireUnlike 2 none, Cond.classLink RX5 169 "java/lang/IllegalArgumentException"]
def wsL_link_r2 : List Cond := [Cond.initialized "java/lang/IllegalArgumentException", Cond.methodLink RX5 53 yX5_requireRange, Cond.static yX5_requireRange, Cond.code yX5_requireRange cX5_requireRange 3 none, Cond.methodLink RX5 137 yX1_add, Cond.instanceMethod yX1_add, Cond.selects RX1 yX1_add yX1_add, Cond.initialized RX1, Cond.code yX1_add cX1_add 4 none, Cond.fieldLink RX1 15 "FoundRegister$Links" "needing" "[I", Cond.fieldLink RX1 9 "FoundRegister$Links" "count" "I", Cond.fieldLink RX1 19 "FoundRegister$Links" "needed" "[I", Cond.fieldLink RX1 22 "FoundRegister$Links" "group" "[I"]
def wsL_link : List Cond := .codeWith yL_link cL_link 6 (some .int) [(0, 12, 15, 32), (0, 12, 19, 13), (0, 12, 23, 15)] :: ((wsL_link_r1 ++ wsL_link_r2) ++ wsX50 ++ wsX10 ++ wsX00 ++ (vx_atS RX5 61 "java/lang/IllegalStateException" ["java/lang/RuntimeException", "java/lang/Exception"]).filter goodWord ++ (vx_atS RX5 161 "java/lang/IndexOutOfBoundsException" ["java/lang/RuntimeException", "java/lang/Exception"]).filter goodWord ++ (vx_atS RX5 173 "java/lang/IllegalArgumentException" ["java/lang/RuntimeException", "java/lang/Exception"]).filter goodWord)
def wsL_impact_r1 : List Cond := [Cond.classLink RL 32 "java/lang/IndexOutOfBoundsException", Cond.classLink RL 13 "java/lang/IllegalArgumentException", Cond.classLink RL 48 "java/util/NoSuchElementException", Cond.methodLink RL 59 yX5_impact, Cond.instanceMethod yX5_impact, Cond.selects RX5 yX5_impact yX5_impact, Cond.initialized RX5, Cond.code yX5_impact cX5_impact 3 (some .int), Cond.fieldLink RX5 46 "FoundRegister" "ofDay" "LFoundRegister$Things;", Cond.fieldLink RX5 30 "FoundRegister" "links" "LFoundRegister$Links;", Cond.fieldLink RX5 121 "FoundRegister$Things" "ofFind" "[I", Cond.methodLink RX5 88 yX5_requireFind, Cond.instanceMethod yX5_requireFind, Cond.selects RX5 yX5_requireFind yX5_requireFind, Cond.code yX5_requireFind cX5_requireFind 2 none, Cond.classLink RX5 157 "java/lang/IndexOutOfBoundsException", Cond.initialized "java/lang/IndexOutOfBoundsException", Cond.fieldLink RX5 23 "FoundRegister" "finds" "LFoundRegister$Finds;", Cond.fieldLink RX5 72 "FoundRegister$Finds" "count" "I", Cond.methodLink RX5 104 yX5_requireDay, Cond.static yX5_requireDay, Cond.code yX5_requireDay cX5_requireDay 1 none, Cond.methodLink RX5 53 yX5_requireRange, Cond.static yX5_requireRange]
def wsL_impact_r2 : List Cond := [Cond.code yX5_requireRange cX5_requireRange 3 none, Cond.classLink RX5 169 "java/lang/IllegalArgumentException", Cond.initialized "java/lang/IllegalArgumentException", Cond.methodLink RX5 111 yX3_sortFor, Cond.instanceMethod yX3_sortFor, Cond.selects RX3 yX3_sortFor yX3_sortFor, Cond.initialized RX3, Cond.code yX3_sortFor cX3_sortFor 3 none, Cond.fieldLink RX3 15 "FoundRegister$Things" "finds" "LFoundRegister$Finds;", Cond.fieldLink RX3 23 "FoundRegister$Finds" "count" "I", Cond.fieldLink RX3 9 "FoundRegister$Things" "ofFind" "[I", Cond.fieldLink RX3 19 "FoundRegister$Things" "sources" "LFoundRegister$Sources;", Cond.methodLink RX3 29 yX0_standsOn, Cond.instanceMethod yX0_standsOn, Cond.selects RX0 yX0_standsOn yX0_standsOn, Cond.initialized RX0, Cond.code yX0_standsOn cX0_standsOn 4 (some .boolean), Cond.fieldLink RX0 22 "FoundRegister$Finds" "struck" "[Z", Cond.fieldLink RX0 19 "FoundRegister$Finds" "cameOn" "[I", Cond.fieldLink RX0 37 "FoundRegister$Sources" "term" "[I", Cond.fieldLink RX0 15 "FoundRegister$Finds" "source" "[I", Cond.methodLink RX3 33 yX3_joinToEarlier, Cond.instanceMethod yX3_joinToEarlier, Cond.selects RX3 yX3_joinToEarlier yX3_joinToEarlier]
def wsL_impact_r3 : List Cond := [Cond.code yX3_joinToEarlier cX3_joinToEarlier 3 none, Cond.methodLink RX3 37 yX0_joined, Cond.instanceMethod yX0_joined, Cond.selects RX0 yX0_joined yX0_joined, Cond.code yX0_joined cX0_joined 3 (some .boolean), Cond.fieldLink RX0 34 "FoundRegister$Finds" "told" "[[I", Cond.methodLink RX0 42 yX0_knowsSerial, Cond.instanceMethod yX0_knowsSerial, Cond.selects RX0 yX0_knowsSerial yX0_knowsSerial, Cond.code yX0_knowsSerial cX0_knowsSerial 2 (some .boolean), Cond.fieldLink RX0 28 "FoundRegister$Finds" "marks" "[[I", Cond.methodLink RX0 46 yX0_shareMark, Cond.instanceMethod yX0_shareMark, Cond.selects RX0 yX0_shareMark yX0_shareMark, Cond.code yX0_shareMark cX0_shareMark 4 (some .boolean), Cond.methodLink RX3 41 yX3_merge, Cond.instanceMethod yX3_merge, Cond.selects RX3 yX3_merge yX3_merge, Cond.code yX3_merge cX3_merge 6 none, Cond.methodLink RX3 45 Lib.Math.min.name, Cond.static Lib.Math.min.name, Cond.initialized "java/lang/Math", Cond.code Lib.Math.min.name Lib.Math.min.code 2 (some .int), Cond.methodLink RX3 51 Lib.Math.max.name]
def wsL_impact_r4 : List Cond := [Cond.static Lib.Math.max.name, Cond.code Lib.Math.max.name Lib.Math.max.code 2 (some .int), Cond.methodLink RX5 118 yX5_requireCounting, Cond.instanceMethod yX5_requireCounting, Cond.selects RX5 yX5_requireCounting yX5_requireCounting, Cond.code yX5_requireCounting cX5_requireCounting 2 none, Cond.classLink RX5 178 "java/util/NoSuchElementException", Cond.initialized "java/util/NoSuchElementException", Cond.methodLink RX5 140 yX1_failFrom, Cond.instanceMethod yX1_failFrom, Cond.selects RX1 yX1_failFrom yX1_failFrom, Cond.initialized RX1, Cond.code yX1_failFrom cX1_failFrom 5 none, Cond.fieldLink RX1 25 "FoundRegister$Links" "failed" "[Z", Cond.methodLink RX1 29 yX1_failMore, Cond.instanceMethod yX1_failMore, Cond.selects RX1 yX1_failMore yX1_failMore, Cond.code yX1_failMore cX1_failMore 5 (some .boolean), Cond.fieldLink RX1 9 "FoundRegister$Links" "count" "I", Cond.fieldLink RX1 33 "FoundRegister$Things" "ofFind" "[I", Cond.fieldLink RX1 15 "FoundRegister$Links" "needing" "[I", Cond.fieldLink RX1 22 "FoundRegister$Links" "group" "[I", Cond.methodLink RX1 38 yX1_holds, Cond.instanceMethod yX1_holds]
def wsL_impact_r5 : List Cond := [Cond.selects RX1 yX1_holds yX1_holds, Cond.code yX1_holds cX1_holds 5 (some .boolean), Cond.fieldLink RX1 19 "FoundRegister$Links" "needed" "[I", Cond.methodLink RX1 42 yX1_lost, Cond.instanceMethod yX1_lost, Cond.selects RX1 yX1_lost yX1_lost, Cond.code yX1_lost cX1_lost 5 (some .boolean), Cond.methodLink RX5 144 yX1_failures, Cond.instanceMethod yX1_failures, Cond.selects RX1 yX1_failures yX1_failures, Cond.code yX1_failures cX1_failures 3 (some .int)]
def wsL_impact : List Cond := .codeWith yL_impact cL_impact 5 (some .int) [(0, 10, 13, 32), (0, 10, 17, 13), (0, 10, 21, 48)] :: ((wsL_impact_r1 ++ (wsL_impact_r2 ++ (wsL_impact_r3 ++ (wsL_impact_r4 ++ wsL_impact_r5)))) ++ wsX50 ++ wsX30 ++ wsX00 ++ wsX20 ++ wsX10 ++ (vx_atS RX5 161 "java/lang/IndexOutOfBoundsException" ["java/lang/RuntimeException", "java/lang/Exception"]).filter goodWord ++ (vx_atS RX5 173 "java/lang/IllegalArgumentException" ["java/lang/RuntimeException", "java/lang/Exception"]).filter goodWord ++ (gNsAt RX5 182).filter goodWord)
def wsL_failsWith_r1 : List Cond := [Cond.classLink RL 32 "java/lang/IndexOutOfBoundsException", Cond.classLink RL 13 "java/lang/IllegalArgumentException", Cond.classLink RL 48 "java/util/NoSuchElementException", Cond.methodLink RL 62 yX5_failsWith, Cond.instanceMethod yX5_failsWith, Cond.selects RX5 yX5_failsWith yX5_failsWith, Cond.initialized RX5, Cond.code yX5_failsWith cX5_failsWith 4 (some .boolean), Cond.fieldLink RX5 46 "FoundRegister" "ofDay" "LFoundRegister$Things;", Cond.fieldLink RX5 30 "FoundRegister" "links" "LFoundRegister$Links;", Cond.fieldLink RX5 121 "FoundRegister$Things" "ofFind" "[I", Cond.fieldLink RX5 148 "FoundRegister$Links" "failed" "[Z", Cond.methodLink RX5 88 yX5_requireFind, Cond.instanceMethod yX5_requireFind, Cond.selects RX5 yX5_requireFind yX5_requireFind, Cond.code yX5_requireFind cX5_requireFind 2 none, Cond.classLink RX5 157 "java/lang/IndexOutOfBoundsException", Cond.initialized "java/lang/IndexOutOfBoundsException", Cond.fieldLink RX5 23 "FoundRegister" "finds" "LFoundRegister$Finds;", Cond.fieldLink RX5 72 "FoundRegister$Finds" "count" "I", Cond.methodLink RX5 104 yX5_requireDay, Cond.static yX5_requireDay, Cond.code yX5_requireDay cX5_requireDay 1 none, Cond.methodLink RX5 53 yX5_requireRange]
def wsL_failsWith_r2 : List Cond := [Cond.static yX5_requireRange, Cond.code yX5_requireRange cX5_requireRange 3 none, Cond.classLink RX5 169 "java/lang/IllegalArgumentException", Cond.initialized "java/lang/IllegalArgumentException", Cond.methodLink RX5 111 yX3_sortFor, Cond.instanceMethod yX3_sortFor, Cond.selects RX3 yX3_sortFor yX3_sortFor, Cond.initialized RX3, Cond.code yX3_sortFor cX3_sortFor 3 none, Cond.fieldLink RX3 15 "FoundRegister$Things" "finds" "LFoundRegister$Finds;", Cond.fieldLink RX3 23 "FoundRegister$Finds" "count" "I", Cond.fieldLink RX3 9 "FoundRegister$Things" "ofFind" "[I", Cond.fieldLink RX3 19 "FoundRegister$Things" "sources" "LFoundRegister$Sources;", Cond.methodLink RX3 29 yX0_standsOn, Cond.instanceMethod yX0_standsOn, Cond.selects RX0 yX0_standsOn yX0_standsOn, Cond.initialized RX0, Cond.code yX0_standsOn cX0_standsOn 4 (some .boolean), Cond.fieldLink RX0 22 "FoundRegister$Finds" "struck" "[Z", Cond.fieldLink RX0 19 "FoundRegister$Finds" "cameOn" "[I", Cond.fieldLink RX0 37 "FoundRegister$Sources" "term" "[I", Cond.fieldLink RX0 15 "FoundRegister$Finds" "source" "[I", Cond.methodLink RX3 33 yX3_joinToEarlier, Cond.instanceMethod yX3_joinToEarlier]
def wsL_failsWith_r3 : List Cond := [Cond.selects RX3 yX3_joinToEarlier yX3_joinToEarlier, Cond.code yX3_joinToEarlier cX3_joinToEarlier 3 none, Cond.methodLink RX3 37 yX0_joined, Cond.instanceMethod yX0_joined, Cond.selects RX0 yX0_joined yX0_joined, Cond.code yX0_joined cX0_joined 3 (some .boolean), Cond.fieldLink RX0 34 "FoundRegister$Finds" "told" "[[I", Cond.methodLink RX0 42 yX0_knowsSerial, Cond.instanceMethod yX0_knowsSerial, Cond.selects RX0 yX0_knowsSerial yX0_knowsSerial, Cond.code yX0_knowsSerial cX0_knowsSerial 2 (some .boolean), Cond.fieldLink RX0 28 "FoundRegister$Finds" "marks" "[[I", Cond.methodLink RX0 46 yX0_shareMark, Cond.instanceMethod yX0_shareMark, Cond.selects RX0 yX0_shareMark yX0_shareMark, Cond.code yX0_shareMark cX0_shareMark 4 (some .boolean), Cond.methodLink RX3 41 yX3_merge, Cond.instanceMethod yX3_merge, Cond.selects RX3 yX3_merge yX3_merge, Cond.code yX3_merge cX3_merge 6 none, Cond.methodLink RX3 45 Lib.Math.min.name, Cond.static Lib.Math.min.name, Cond.initialized "java/lang/Math", Cond.code Lib.Math.min.name Lib.Math.min.code 2 (some .int)]
def wsL_failsWith_r4 : List Cond := [Cond.methodLink RX3 51 Lib.Math.max.name, Cond.static Lib.Math.max.name, Cond.code Lib.Math.max.name Lib.Math.max.code 2 (some .int), Cond.methodLink RX5 118 yX5_requireCounting, Cond.instanceMethod yX5_requireCounting, Cond.selects RX5 yX5_requireCounting yX5_requireCounting, Cond.code yX5_requireCounting cX5_requireCounting 2 none, Cond.classLink RX5 178 "java/util/NoSuchElementException", Cond.initialized "java/util/NoSuchElementException", Cond.methodLink RX5 140 yX1_failFrom, Cond.instanceMethod yX1_failFrom, Cond.selects RX1 yX1_failFrom yX1_failFrom, Cond.initialized RX1, Cond.code yX1_failFrom cX1_failFrom 5 none, Cond.fieldLink RX1 25 "FoundRegister$Links" "failed" "[Z", Cond.methodLink RX1 29 yX1_failMore, Cond.instanceMethod yX1_failMore, Cond.selects RX1 yX1_failMore yX1_failMore, Cond.code yX1_failMore cX1_failMore 5 (some .boolean), Cond.fieldLink RX1 9 "FoundRegister$Links" "count" "I", Cond.fieldLink RX1 33 "FoundRegister$Things" "ofFind" "[I", Cond.fieldLink RX1 15 "FoundRegister$Links" "needing" "[I", Cond.fieldLink RX1 22 "FoundRegister$Links" "group" "[I", Cond.methodLink RX1 38 yX1_holds]
def wsL_failsWith_r5 : List Cond := [Cond.instanceMethod yX1_holds, Cond.selects RX1 yX1_holds yX1_holds, Cond.code yX1_holds cX1_holds 5 (some .boolean), Cond.fieldLink RX1 19 "FoundRegister$Links" "needed" "[I", Cond.methodLink RX1 42 yX1_lost, Cond.instanceMethod yX1_lost, Cond.selects RX1 yX1_lost yX1_lost, Cond.code yX1_lost cX1_lost 5 (some .boolean)]
def wsL_failsWith : List Cond := .codeWith yL_failsWith cL_failsWith 6 (some .int) [(0, 19, 22, 32), (0, 19, 26, 13), (0, 19, 30, 48)] :: ((wsL_failsWith_r1 ++ (wsL_failsWith_r2 ++ (wsL_failsWith_r3 ++ (wsL_failsWith_r4 ++ wsL_failsWith_r5)))) ++ wsX50 ++ wsX30 ++ wsX10 ++ wsX00 ++ wsX20 ++ (vx_atS RX5 161 "java/lang/IndexOutOfBoundsException" ["java/lang/RuntimeException", "java/lang/Exception"]).filter goodWord ++ (vx_atS RX5 173 "java/lang/IllegalArgumentException" ["java/lang/RuntimeException", "java/lang/Exception"]).filter goodWord ++ (gNsAt RX5 182).filter goodWord)
def wsL_wish_r1 : List Cond := [Cond.classLink RL 13 "java/lang/IllegalArgumentException", Cond.classLink RL 15 "java/lang/IllegalStateException", Cond.methodLink RL 66 yX5_wish, Cond.instanceMethod yX5_wish, Cond.selects RX5 yX5_wish yX5_wish, Cond.initialized RX5, Cond.code yX5_wish cX5_wish 5 (some .int), Cond.classLink RX5 57 "java/lang/IllegalStateException", Cond.initialized "java/lang/IllegalStateException", Cond.fieldLink RX5 37 "FoundRegister" "wishes" "LFoundRegister$Wishes;", Cond.fieldLink RX5 151 "FoundRegister$Wishes" "count" "I", Cond.methodLink RX5 53 yX5_requireRange, Cond.static yX5_requireRange, Cond.code yX5_requireRange cX5_requireRange 3 none, Cond.classLink RX5 169 "java/lang/IllegalArgumentException", Cond.initialized "java/lang/IllegalArgumentException", Cond.methodLink RX5 124 yX5_requireAttribute, Cond.static yX5_requireAttribute, Cond.code yX5_requireAttribute cX5_requireAttribute 1 none, Cond.methodLink RX5 154 yX4_add, Cond.instanceMethod yX4_add, Cond.selects RX4 yX4_add yX4_add, Cond.initialized RX4, Cond.code yX4_add cX4_add 6 (some .int)]
def wsL_wish_r2 : List Cond := [Cond.fieldLink RX4 9 "FoundRegister$Wishes" "count" "I", Cond.fieldLink RX4 15 "FoundRegister$Wishes" "mark" "[I", Cond.fieldLink RX4 19 "FoundRegister$Wishes" "markValue" "[I", Cond.fieldLink RX4 22 "FoundRegister$Wishes" "attribute" "[I", Cond.fieldLink RX4 25 "FoundRegister$Wishes" "wished" "[I"]
def wsL_wish : List Cond := .codeWith yL_wish cL_wish 7 (some .int) [(0, 14, 17, 13), (0, 14, 21, 15)] :: ((wsL_wish_r1 ++ wsL_wish_r2) ++ wsX50 ++ wsX40 ++ (vx_atS RX5 61 "java/lang/IllegalStateException" ["java/lang/RuntimeException", "java/lang/Exception"]).filter goodWord ++ (vx_atS RX5 173 "java/lang/IllegalArgumentException" ["java/lang/RuntimeException", "java/lang/Exception"]).filter goodWord)
def wsL_differing_r1 : List Cond := [Cond.classLink RL 32 "java/lang/IndexOutOfBoundsException", Cond.classLink RL 13 "java/lang/IllegalArgumentException", Cond.methodLink RL 70 yX5_differing, Cond.instanceMethod yX5_differing, Cond.selects RX5 yX5_differing yX5_differing, Cond.initialized RX5, Cond.code yX5_differing cX5_differing 5 (some .int), Cond.classLink RX5 157 "java/lang/IndexOutOfBoundsException", Cond.initialized "java/lang/IndexOutOfBoundsException", Cond.fieldLink RX5 37 "FoundRegister" "wishes" "LFoundRegister$Wishes;", Cond.fieldLink RX5 151 "FoundRegister$Wishes" "count" "I", Cond.fieldLink RX5 46 "FoundRegister" "ofDay" "LFoundRegister$Things;", Cond.fieldLink RX5 23 "FoundRegister" "finds" "LFoundRegister$Finds;", Cond.fieldLink RX5 72 "FoundRegister$Finds" "count" "I", Cond.methodLink RX5 104 yX5_requireDay, Cond.static yX5_requireDay, Cond.code yX5_requireDay cX5_requireDay 1 none, Cond.methodLink RX5 53 yX5_requireRange, Cond.static yX5_requireRange, Cond.code yX5_requireRange cX5_requireRange 3 none, Cond.classLink RX5 169 "java/lang/IllegalArgumentException", Cond.initialized "java/lang/IllegalArgumentException", Cond.methodLink RX5 111 yX3_sortFor, Cond.instanceMethod yX3_sortFor]
def wsL_differing_r2 : List Cond := [Cond.selects RX3 yX3_sortFor yX3_sortFor, Cond.initialized RX3, Cond.code yX3_sortFor cX3_sortFor 3 none, Cond.fieldLink RX3 15 "FoundRegister$Things" "finds" "LFoundRegister$Finds;", Cond.fieldLink RX3 23 "FoundRegister$Finds" "count" "I", Cond.fieldLink RX3 9 "FoundRegister$Things" "ofFind" "[I", Cond.fieldLink RX3 19 "FoundRegister$Things" "sources" "LFoundRegister$Sources;", Cond.methodLink RX3 29 yX0_standsOn, Cond.instanceMethod yX0_standsOn, Cond.selects RX0 yX0_standsOn yX0_standsOn, Cond.initialized RX0, Cond.code yX0_standsOn cX0_standsOn 4 (some .boolean), Cond.fieldLink RX0 22 "FoundRegister$Finds" "struck" "[Z", Cond.fieldLink RX0 19 "FoundRegister$Finds" "cameOn" "[I", Cond.fieldLink RX0 37 "FoundRegister$Sources" "term" "[I", Cond.fieldLink RX0 15 "FoundRegister$Finds" "source" "[I", Cond.methodLink RX3 33 yX3_joinToEarlier, Cond.instanceMethod yX3_joinToEarlier, Cond.selects RX3 yX3_joinToEarlier yX3_joinToEarlier, Cond.code yX3_joinToEarlier cX3_joinToEarlier 3 none, Cond.methodLink RX3 37 yX0_joined, Cond.instanceMethod yX0_joined, Cond.selects RX0 yX0_joined yX0_joined, Cond.code yX0_joined cX0_joined 3 (some .boolean)]
def wsL_differing_r3 : List Cond := [Cond.fieldLink RX0 34 "FoundRegister$Finds" "told" "[[I", Cond.methodLink RX0 42 yX0_knowsSerial, Cond.instanceMethod yX0_knowsSerial, Cond.selects RX0 yX0_knowsSerial yX0_knowsSerial, Cond.code yX0_knowsSerial cX0_knowsSerial 2 (some .boolean), Cond.fieldLink RX0 28 "FoundRegister$Finds" "marks" "[[I", Cond.methodLink RX0 46 yX0_shareMark, Cond.instanceMethod yX0_shareMark, Cond.selects RX0 yX0_shareMark yX0_shareMark, Cond.code yX0_shareMark cX0_shareMark 4 (some .boolean), Cond.methodLink RX3 41 yX3_merge, Cond.instanceMethod yX3_merge, Cond.selects RX3 yX3_merge yX3_merge, Cond.code yX3_merge cX3_merge 6 none, Cond.methodLink RX3 45 Lib.Math.min.name, Cond.static Lib.Math.min.name, Cond.initialized "java/lang/Math", Cond.code Lib.Math.min.name Lib.Math.min.code 2 (some .int), Cond.methodLink RX3 51 Lib.Math.max.name, Cond.static Lib.Math.max.name, Cond.code Lib.Math.max.name Lib.Math.max.code 2 (some .int), Cond.methodLink RX5 114 yX3_isThing, Cond.instanceMethod yX3_isThing, Cond.selects RX3 yX3_isThing yX3_isThing]
def wsL_differing_r4 : List Cond := [Cond.code yX3_isThing cX3_isThing 2 (some .boolean), Cond.methodLink RX5 162 yX4_isMissedBy, Cond.instanceMethod yX4_isMissedBy, Cond.selects RX4 yX4_isMissedBy yX4_isMissedBy, Cond.initialized RX4, Cond.code yX4_isMissedBy cX4_isMissedBy 4 (some .boolean), Cond.fieldLink RX4 15 "FoundRegister$Wishes" "mark" "[I", Cond.fieldLink RX4 19 "FoundRegister$Wishes" "markValue" "[I", Cond.fieldLink RX4 22 "FoundRegister$Wishes" "attribute" "[I", Cond.fieldLink RX4 25 "FoundRegister$Wishes" "wished" "[I", Cond.methodLink RX4 28 yX3_hasMark, Cond.instanceMethod yX3_hasMark, Cond.selects RX3 yX3_hasMark yX3_hasMark, Cond.code yX3_hasMark cX3_hasMark 5 (some .boolean), Cond.fieldLink RX3 73 "FoundRegister$Finds" "marks" "[[I", Cond.methodLink RX4 34 yX3_attributeOf, Cond.instanceMethod yX3_attributeOf, Cond.selects RX3 yX3_attributeOf yX3_attributeOf, Cond.code yX3_attributeOf cX3_attributeOf 5 (some .int), Cond.fieldLink RX3 61 "FoundRegister$Finds" "attributes" "[[I", Cond.methodLink RX3 54 yX3_tells, Cond.instanceMethod yX3_tells, Cond.selects RX3 yX3_tells yX3_tells, Cond.code yX3_tells cX3_tells 4 (some .boolean)]
def wsL_differing_r5 : List Cond := [Cond.methodLink RX3 58 yX3_goesBefore, Cond.instanceMethod yX3_goesBefore, Cond.selects RX3 yX3_goesBefore yX3_goesBefore, Cond.code yX3_goesBefore cX3_goesBefore 5 (some .boolean), Cond.fieldLink RX3 65 "FoundRegister$Sources" "place" "[I", Cond.fieldLink RX3 70 "FoundRegister$Finds" "source" "[I"]
def wsL_differing : List Cond := .codeWith yL_differing cL_differing 5 (some .int) [(0, 10, 13, 32), (0, 10, 17, 13)] :: ((wsL_differing_r1 ++ (wsL_differing_r2 ++ (wsL_differing_r3 ++ (wsL_differing_r4 ++ wsL_differing_r5)))) ++ wsX50 ++ wsX40 ++ wsX00 ++ wsX30 ++ wsX20 ++ (vx_atS RX5 161 "java/lang/IndexOutOfBoundsException" ["java/lang/RuntimeException", "java/lang/Exception"]).filter goodWord ++ (vx_atS RX5 173 "java/lang/IllegalArgumentException" ["java/lang/RuntimeException", "java/lang/Exception"]).filter goodWord)
def wsL_changed_r1 : List Cond := [Cond.classLink RL 13 "java/lang/IllegalArgumentException", Cond.methodLink RL 73 yX5_changed, Cond.instanceMethod yX5_changed, Cond.selects RX5 yX5_changed yX5_changed, Cond.initialized RX5, Cond.code yX5_changed cX5_changed 6 (some .int), Cond.fieldLink RX5 46 "FoundRegister" "ofDay" "LFoundRegister$Things;", Cond.fieldLink RX5 50 "FoundRegister" "ofOtherDay" "LFoundRegister$Things;", Cond.fieldLink RX5 23 "FoundRegister" "finds" "LFoundRegister$Finds;", Cond.fieldLink RX5 72 "FoundRegister$Finds" "count" "I", Cond.methodLink RX5 124 yX5_requireAttribute, Cond.static yX5_requireAttribute, Cond.code yX5_requireAttribute cX5_requireAttribute 1 none, Cond.methodLink RX5 53 yX5_requireRange, Cond.static yX5_requireRange, Cond.code yX5_requireRange cX5_requireRange 3 none, Cond.classLink RX5 169 "java/lang/IllegalArgumentException", Cond.initialized "java/lang/IllegalArgumentException", Cond.methodLink RX5 104 yX5_requireDay, Cond.static yX5_requireDay, Cond.code yX5_requireDay cX5_requireDay 1 none, Cond.methodLink RX5 111 yX3_sortFor, Cond.instanceMethod yX3_sortFor, Cond.selects RX3 yX3_sortFor yX3_sortFor]
def wsL_changed_r2 : List Cond := [Cond.initialized RX3, Cond.code yX3_sortFor cX3_sortFor 3 none, Cond.fieldLink RX3 15 "FoundRegister$Things" "finds" "LFoundRegister$Finds;", Cond.fieldLink RX3 23 "FoundRegister$Finds" "count" "I", Cond.fieldLink RX3 9 "FoundRegister$Things" "ofFind" "[I", Cond.fieldLink RX3 19 "FoundRegister$Things" "sources" "LFoundRegister$Sources;", Cond.methodLink RX3 29 yX0_standsOn, Cond.instanceMethod yX0_standsOn, Cond.selects RX0 yX0_standsOn yX0_standsOn, Cond.initialized RX0, Cond.code yX0_standsOn cX0_standsOn 4 (some .boolean), Cond.fieldLink RX0 22 "FoundRegister$Finds" "struck" "[Z", Cond.fieldLink RX0 19 "FoundRegister$Finds" "cameOn" "[I", Cond.fieldLink RX0 37 "FoundRegister$Sources" "term" "[I", Cond.fieldLink RX0 15 "FoundRegister$Finds" "source" "[I", Cond.methodLink RX3 33 yX3_joinToEarlier, Cond.instanceMethod yX3_joinToEarlier, Cond.selects RX3 yX3_joinToEarlier yX3_joinToEarlier, Cond.code yX3_joinToEarlier cX3_joinToEarlier 3 none, Cond.methodLink RX3 37 yX0_joined, Cond.instanceMethod yX0_joined, Cond.selects RX0 yX0_joined yX0_joined, Cond.code yX0_joined cX0_joined 3 (some .boolean), Cond.fieldLink RX0 34 "FoundRegister$Finds" "told" "[[I"]
def wsL_changed_r3 : List Cond := [Cond.methodLink RX0 42 yX0_knowsSerial, Cond.instanceMethod yX0_knowsSerial, Cond.selects RX0 yX0_knowsSerial yX0_knowsSerial, Cond.code yX0_knowsSerial cX0_knowsSerial 2 (some .boolean), Cond.fieldLink RX0 28 "FoundRegister$Finds" "marks" "[[I", Cond.methodLink RX0 46 yX0_shareMark, Cond.instanceMethod yX0_shareMark, Cond.selects RX0 yX0_shareMark yX0_shareMark, Cond.code yX0_shareMark cX0_shareMark 4 (some .boolean), Cond.methodLink RX3 41 yX3_merge, Cond.instanceMethod yX3_merge, Cond.selects RX3 yX3_merge yX3_merge, Cond.code yX3_merge cX3_merge 6 none, Cond.methodLink RX3 45 Lib.Math.min.name, Cond.static Lib.Math.min.name, Cond.initialized "java/lang/Math", Cond.code Lib.Math.min.name Lib.Math.min.code 2 (some .int), Cond.methodLink RX3 51 Lib.Math.max.name, Cond.static Lib.Math.max.name, Cond.code Lib.Math.max.name Lib.Math.max.code 2 (some .int), Cond.methodLink RX5 166 yX5_hasAnotherValue, Cond.instanceMethod yX5_hasAnotherValue, Cond.selects RX5 yX5_hasAnotherValue yX5_hasAnotherValue, Cond.code yX5_hasAnotherValue cX5_hasAnotherValue 5 (some .boolean)]
def wsL_changed_r4 : List Cond := [Cond.fieldLink RX5 121 "FoundRegister$Things" "ofFind" "[I", Cond.methodLink RX5 127 yX3_attributeOf, Cond.instanceMethod yX3_attributeOf, Cond.selects RX3 yX3_attributeOf yX3_attributeOf, Cond.code yX3_attributeOf cX3_attributeOf 5 (some .int), Cond.fieldLink RX3 61 "FoundRegister$Finds" "attributes" "[[I", Cond.methodLink RX3 54 yX3_tells, Cond.instanceMethod yX3_tells, Cond.selects RX3 yX3_tells yX3_tells, Cond.code yX3_tells cX3_tells 4 (some .boolean), Cond.methodLink RX3 58 yX3_goesBefore, Cond.instanceMethod yX3_goesBefore, Cond.selects RX3 yX3_goesBefore yX3_goesBefore, Cond.code yX3_goesBefore cX3_goesBefore 5 (some .boolean), Cond.fieldLink RX3 65 "FoundRegister$Sources" "place" "[I", Cond.fieldLink RX3 70 "FoundRegister$Finds" "source" "[I"]
def wsL_changed : List Cond := .codeWith yL_changed cL_changed 6 (some .int) [(0, 12, 15, 13)] :: ((wsL_changed_r1 ++ (wsL_changed_r2 ++ (wsL_changed_r3 ++ wsL_changed_r4))) ++ wsX50 ++ wsX00 ++ wsX30 ++ wsX20 ++ (vx_atS RX5 173 "java/lang/IllegalArgumentException" ["java/lang/RuntimeException", "java/lang/Exception"]).filter goodWord)
def wsL_law0_r1 : List Cond := [Cond.classLink RL 8 RX5, Cond.instantiable RX5 7, Cond.initialized RX5, Cond.classLink RL 77 RX6, Cond.instantiable RX6 23, Cond.initialized RX6, Cond.arrayClass .long, Cond.methodLink RL 76 yX5_init, Cond.instanceMethod yX5_init, Cond.code yX5_init cX5_init 1 none, Cond.methodLink RX5 1 objectInit, Cond.instanceMethod objectInit, Cond.code objectInit ⟨#[0xb1]⟩ 1 none, Cond.fieldLink RX5 7 "FoundRegister" "presentDay" "I", Cond.classLink RX5 13 RX2, Cond.instantiable RX2 2, Cond.initialized RX2, Cond.fieldLink RX5 16 "FoundRegister" "sources" "LFoundRegister$Sources;", Cond.classLink RX5 20 RX0, Cond.instantiable RX0 7, Cond.initialized RX0, Cond.fieldLink RX5 23 "FoundRegister" "finds" "LFoundRegister$Finds;", Cond.classLink RX5 27 RX1, Cond.instantiable RX1 5]
def wsL_law0_r2 : List Cond := [Cond.initialized RX1, Cond.fieldLink RX5 30 "FoundRegister" "links" "LFoundRegister$Links;", Cond.classLink RX5 34 RX4, Cond.instantiable RX4 5, Cond.initialized RX4, Cond.fieldLink RX5 37 "FoundRegister" "wishes" "LFoundRegister$Wishes;", Cond.classLink RX5 41 RX3, Cond.instantiable RX3 3, Cond.initialized RX3, Cond.fieldLink RX5 46 "FoundRegister" "ofDay" "LFoundRegister$Things;", Cond.fieldLink RX5 50 "FoundRegister" "ofOtherDay" "LFoundRegister$Things;", Cond.methodLink RX5 15 yX2_init, Cond.instanceMethod yX2_init, Cond.code yX2_init cX2_init 2 none, Cond.methodLink RX2 3 objectInit, Cond.arrayClass .int, Cond.fieldLink RX2 9 "FoundRegister$Sources" "term" "[I", Cond.fieldLink RX2 15 "FoundRegister$Sources" "place" "[I", Cond.instanceMethod yX0_init, Cond.code yX0_init cX0_init 1 none, Cond.methodLink RX0 3 objectInit, Cond.fieldLink RX0 9 "FoundRegister$Finds" "count" "I", Cond.fieldLink RX0 15 "FoundRegister$Finds" "source" "[I", Cond.fieldLink RX0 19 "FoundRegister$Finds" "cameOn" "[I"]
def wsL_law0_r3 : List Cond := [Cond.arrayClass .boolean, Cond.fieldLink RX0 22 "FoundRegister$Finds" "struck" "[Z", Cond.classLink RX0 26 "[[I", Cond.fieldLink RX0 28 "FoundRegister$Finds" "marks" "[[I", Cond.fieldLink RX0 31 "FoundRegister$Finds" "attributes" "[[I", Cond.fieldLink RX0 34 "FoundRegister$Finds" "told" "[[I", Cond.instanceMethod yX1_init, Cond.code yX1_init cX1_init 1 none, Cond.methodLink RX1 3 objectInit, Cond.fieldLink RX1 9 "FoundRegister$Links" "count" "I", Cond.fieldLink RX1 15 "FoundRegister$Links" "needing" "[I", Cond.fieldLink RX1 19 "FoundRegister$Links" "needed" "[I", Cond.fieldLink RX1 22 "FoundRegister$Links" "group" "[I", Cond.fieldLink RX1 25 "FoundRegister$Links" "failed" "[Z", Cond.instanceMethod yX4_init, Cond.code yX4_init cX4_init 1 none, Cond.methodLink RX4 3 objectInit, Cond.fieldLink RX4 9 "FoundRegister$Wishes" "count" "I", Cond.fieldLink RX4 15 "FoundRegister$Wishes" "mark" "[I", Cond.fieldLink RX4 19 "FoundRegister$Wishes" "markValue" "[I", Cond.fieldLink RX4 22 "FoundRegister$Wishes" "attribute" "[I", Cond.fieldLink RX4 25 "FoundRegister$Wishes" "wished" "[I", Cond.methodLink RX5 43 yX3_init, Cond.instanceMethod yX3_init]
def wsL_law0_r4 : List Cond := [Cond.code yX3_init cX3_init 3 none, Cond.methodLink RX3 3 objectInit, Cond.fieldLink RX3 9 "FoundRegister$Things" "ofFind" "[I", Cond.fieldLink RX3 15 "FoundRegister$Things" "finds" "LFoundRegister$Finds;", Cond.fieldLink RX3 19 "FoundRegister$Things" "sources" "LFoundRegister$Sources;", Cond.methodLink RL 79 yX6_init, Cond.instanceMethod yX6_init, Cond.code yX6_init cX6_init 2 none, Cond.methodLink RX6 1 objectInit, Cond.fieldLink RX6 7 "FoundRegisterModel" "terms" "[I", Cond.fieldLink RX6 13 "FoundRegisterModel" "order" "[I", Cond.fieldLink RX6 16 "FoundRegisterModel" "sources" "[I", Cond.fieldLink RX6 19 "FoundRegisterModel" "days" "[I", Cond.fieldLink RX6 22 "FoundRegisterModel" "marks" "[I", Cond.fieldLink RX6 25 "FoundRegisterModel" "told" "[I", Cond.fieldLink RX6 28 "FoundRegisterModel" "isStruck" "[Z", Cond.arrayClass .byte, Cond.fieldLink RX6 32 "FoundRegisterModel" "pairs" "[B", Cond.fieldLink RX6 36 "FoundRegisterModel" "froms" "[I", Cond.fieldLink RX6 39 "FoundRegisterModel" "tos" "[I", Cond.fieldLink RX6 42 "FoundRegisterModel" "groups" "[I", Cond.fieldLink RX6 45 "FoundRegisterModel" "wishMarks" "[I", Cond.fieldLink RX6 48 "FoundRegisterModel" "wishMarkValues" "[I", Cond.fieldLink RX6 51 "FoundRegisterModel" "wishAttributes" "[I"]
def wsL_law0_r5 : List Cond := [Cond.fieldLink RX6 54 "FoundRegisterModel" "wishValues" "[I", Cond.fieldLink RX6 57 "FoundRegisterModel" "things" "[I", Cond.fieldLink RX6 60 "FoundRegisterModel" "others" "[I", Cond.fieldLink RX6 63 "FoundRegisterModel" "hasFailed" "[Z", Cond.methodLink RL 80 yL_pass, Cond.static yL_pass, Cond.initialized RL, Cond.codeWith yL_pass cL_pass 4 (some .int) [(0, 9, 12, 13), (0, 9, 15, 15)], Cond.classLink RL 13 "java/lang/IllegalArgumentException", Cond.classLink RL 15 "java/lang/IllegalStateException", Cond.methodLink RL 7 yX5_pass, Cond.instanceMethod yX5_pass, Cond.selects RX5 yX5_pass yX5_pass, Cond.code yX5_pass cX5_pass 2 (some .int), Cond.classLink RX5 57 "java/lang/IllegalStateException", Cond.initialized "java/lang/IllegalStateException", Cond.methodLink RX5 53 yX5_requireRange, Cond.static yX5_requireRange, Cond.code yX5_requireRange cX5_requireRange 3 none, Cond.classLink RX5 169 "java/lang/IllegalArgumentException", Cond.initialized "java/lang/IllegalArgumentException", Cond.methodLink RL 85 yX6_pass, Cond.instanceMethod yX6_pass, Cond.selects RX6 yX6_pass yX6_pass]
def wsL_law0_r6 : List Cond := [Cond.code yX6_pass cX6_pass 2 (some .int), Cond.fieldLink RX6 77 "FoundRegisterModel" "now" "I", Cond.methodLink RX6 73 yX6_in, Cond.static yX6_in, Cond.code yX6_in cX6_in 3 (some .boolean), Cond.methodLink RX6 80 yX6_refused, Cond.instanceMethod yX6_refused, Cond.selects RX6 yX6_refused yX6_refused, Cond.code yX6_refused cX6_refused 2 (some .boolean), Cond.fieldLink RX6 66 "FoundRegisterModel" "refusal" "I", Cond.methodLink RL 86 yX6_thrown, Cond.instanceMethod yX6_thrown, Cond.selects RX6 yX6_thrown yX6_thrown, Cond.code yX6_thrown cX6_thrown 1 (some .int), Cond.methodLink RL 90 yX5_today, Cond.instanceMethod yX5_today, Cond.selects RX5 yX5_today yX5_today, Cond.code yX5_today cX5_today 1 (some .int), Cond.methodLink RL 93 yX6_today, Cond.instanceMethod yX6_today, Cond.selects RX6 yX6_today yX6_today, Cond.code yX6_today cX6_today 1 (some .int), Cond.methodLink RL 94 yL_setTerm, Cond.static yL_setTerm]
def wsL_law0_r7 : List Cond := [Cond.codeWith yL_setTerm cL_setTerm 5 (some .int) [(0, 10, 13, 13)], Cond.methodLink RL 17 yX5_setTerm, Cond.instanceMethod yX5_setTerm, Cond.selects RX5 yX5_setTerm yX5_setTerm, Cond.code yX5_setTerm cX5_setTerm 4 (some .int), Cond.fieldLink RX5 64 "FoundRegister$Sources" "term" "[I", Cond.methodLink RL 97 yX6_setTerm, Cond.instanceMethod yX6_setTerm, Cond.selects RX6 yX6_setTerm yX6_setTerm, Cond.code yX6_setTerm cX6_setTerm 4 (some .int), Cond.methodLink RL 98 yL_putFirst, Cond.static yL_putFirst, Cond.codeWith yL_putFirst cL_putFirst 4 (some .int) [(0, 9, 12, 13)], Cond.methodLink RL 21 yX5_putFirst, Cond.instanceMethod yX5_putFirst, Cond.selects RX5 yX5_putFirst yX5_putFirst, Cond.code yX5_putFirst cX5_putFirst 2 (some .int), Cond.methodLink RX5 68 yX2_moveToFront, Cond.instanceMethod yX2_moveToFront, Cond.selects RX2 yX2_moveToFront yX2_moveToFront, Cond.code yX2_moveToFront cX2_moveToFront 4 (some .int), Cond.methodLink RL 100 yX6_putFirst, Cond.instanceMethod yX6_putFirst, Cond.selects RX6 yX6_putFirst yX6_putFirst]
def wsL_law0_r8 : List Cond := [Cond.code yX6_putFirst cX6_putFirst 4 (some .int), Cond.methodLink RX6 84 yX6_rankOf, Cond.instanceMethod yX6_rankOf, Cond.selects RX6 yX6_rankOf yX6_rankOf, Cond.code yX6_rankOf cX6_rankOf 3 (some .int), Cond.methodLink RL 101 yL_find, Cond.static yL_find, Cond.codeWith yL_find cL_find 9 (some .int) [(0, 18, 21, 13), (0, 18, 25, 15)], Cond.methodLink RL 24 yX5_find, Cond.instanceMethod yX5_find, Cond.selects RX5 yX5_find yX5_find, Cond.code yX5_find cX5_find 8 (some .int), Cond.fieldLink RX5 72 "FoundRegister$Finds" "count" "I", Cond.methodLink RX5 77 yX0_take, Cond.instanceMethod yX0_take, Cond.selects RX0 yX0_take yX0_take, Cond.code yX0_take cX0_take 4 (some .int), Cond.methodLink RX5 81 yX0_putMarks, Cond.instanceMethod yX0_putMarks, Cond.selects RX0 yX0_putMarks yX0_putMarks, Cond.code yX0_putMarks cX0_putMarks 5 none, Cond.methodLink RX5 85 yX0_putAttributes, Cond.instanceMethod yX0_putAttributes, Cond.selects RX0 yX0_putAttributes yX0_putAttributes]
def wsL_law0_r9 : List Cond := [Cond.code yX0_putAttributes cX0_putAttributes 4 none, Cond.methodLink RL 104 yX6_find, Cond.instanceMethod yX6_find, Cond.selects RX6 yX6_find yX6_find, Cond.code yX6_find cX6_find 8 (some .int), Cond.fieldLink RX6 70 "FoundRegisterModel" "finds" "I", Cond.methodLink RL 105 yL_strike, Cond.static yL_strike, Cond.codeWith yL_strike cL_strike 4 (some .int) [(0, 16, 19, 32)], Cond.classLink RL 32 "java/lang/IndexOutOfBoundsException", Cond.methodLink RL 28 yX5_strike, Cond.instanceMethod yX5_strike, Cond.selects RX5 yX5_strike yX5_strike, Cond.code yX5_strike cX5_strike 3 (some .boolean), Cond.fieldLink RX5 92 "FoundRegister$Finds" "struck" "[Z", Cond.methodLink RX5 88 yX5_requireFind, Cond.instanceMethod yX5_requireFind, Cond.selects RX5 yX5_requireFind yX5_requireFind, Cond.code yX5_requireFind cX5_requireFind 2 none, Cond.classLink RX5 157 "java/lang/IndexOutOfBoundsException", Cond.initialized "java/lang/IndexOutOfBoundsException", Cond.methodLink RL 107 yX6_strike, Cond.instanceMethod yX6_strike, Cond.selects RX6 yX6_strike yX6_strike]
def wsL_law0_r10 : List Cond := [Cond.code yX6_strike cX6_strike 3 (some .boolean), Cond.methodLink RX6 88 yX6_isFind, Cond.instanceMethod yX6_isFind, Cond.selects RX6 yX6_isFind yX6_isFind, Cond.code yX6_isFind cX6_isFind 2 (some .boolean), Cond.methodLink RL 108 yL_tell, Cond.static yL_tell, Cond.codeWith yL_tell cL_tell 6 (some .int) [(0, 12, 15, 32), (0, 12, 19, 13)], Cond.methodLink RL 34 yX5_tell, Cond.instanceMethod yX5_tell, Cond.selects RX5 yX5_tell yX5_tell, Cond.code yX5_tell cX5_tell 5 (some .int), Cond.fieldLink RX5 100 "FoundRegister$Finds" "told" "[[I", Cond.methodLink RX5 96 yX5_requireUnlike, Cond.static yX5_requireUnlike, Cond.code yX5_requireUnlike cX5_requireUnlike 2 none, Cond.methodLink RL 111 yX6_tell, Cond.instanceMethod yX6_tell, Cond.selects RX6 yX6_tell yX6_tell, Cond.code yX6_tell cX6_tell 6 (some .int), Cond.methodLink RL 112 yL_counts, Cond.static yL_counts, Cond.codeWith yL_counts cL_counts 5 (some .int) [(0, 17, 20, 32), (0, 17, 24, 13)], Cond.methodLink RL 38 yX5_counts]
def wsL_law0_r11 : List Cond := [Cond.instanceMethod yX5_counts, Cond.selects RX5 yX5_counts yX5_counts, Cond.code yX5_counts cX5_counts 3 (some .boolean), Cond.methodLink RX5 104 yX5_requireDay, Cond.static yX5_requireDay, Cond.code yX5_requireDay cX5_requireDay 1 none, Cond.methodLink RX5 107 yX0_standsOn, Cond.instanceMethod yX0_standsOn, Cond.selects RX0 yX0_standsOn yX0_standsOn, Cond.code yX0_standsOn cX0_standsOn 4 (some .boolean), Cond.fieldLink RX0 37 "FoundRegister$Sources" "term" "[I", Cond.methodLink RL 114 yX6_counts, Cond.instanceMethod yX6_counts, Cond.selects RX6 yX6_counts yX6_counts, Cond.code yX6_counts cX6_counts 3 (some .boolean), Cond.methodLink RX6 91 yX6_isDay, Cond.static yX6_isDay, Cond.code yX6_isDay cX6_isDay 1 (some .boolean), Cond.methodLink RX6 94 yX6_countsOn, Cond.instanceMethod yX6_countsOn, Cond.selects RX6 yX6_countsOn yX6_countsOn, Cond.code yX6_countsOn cX6_countsOn 3 (some .boolean), Cond.methodLink RL 115 yL_things, Cond.static yL_things]
def wsL_law0_r12 : List Cond := [Cond.codeWith yL_things cL_things 4 (some .int) [(0, 9, 12, 13)], Cond.methodLink RL 42 yX5_things, Cond.instanceMethod yX5_things, Cond.selects RX5 yX5_things yX5_things, Cond.code yX5_things cX5_things 4 (some .int), Cond.methodLink RX5 111 yX3_sortFor, Cond.instanceMethod yX3_sortFor, Cond.selects RX3 yX3_sortFor yX3_sortFor, Cond.code yX3_sortFor cX3_sortFor 3 none, Cond.fieldLink RX3 23 "FoundRegister$Finds" "count" "I", Cond.methodLink RX3 29 yX0_standsOn, Cond.methodLink RX3 33 yX3_joinToEarlier, Cond.instanceMethod yX3_joinToEarlier, Cond.selects RX3 yX3_joinToEarlier yX3_joinToEarlier, Cond.code yX3_joinToEarlier cX3_joinToEarlier 3 none, Cond.methodLink RX3 37 yX0_joined, Cond.instanceMethod yX0_joined, Cond.selects RX0 yX0_joined yX0_joined, Cond.code yX0_joined cX0_joined 3 (some .boolean), Cond.methodLink RX0 42 yX0_knowsSerial, Cond.instanceMethod yX0_knowsSerial, Cond.selects RX0 yX0_knowsSerial yX0_knowsSerial, Cond.code yX0_knowsSerial cX0_knowsSerial 2 (some .boolean), Cond.methodLink RX0 46 yX0_shareMark]
def wsL_law0_r13 : List Cond := [Cond.instanceMethod yX0_shareMark, Cond.selects RX0 yX0_shareMark yX0_shareMark, Cond.code yX0_shareMark cX0_shareMark 4 (some .boolean), Cond.methodLink RX3 41 yX3_merge, Cond.instanceMethod yX3_merge, Cond.selects RX3 yX3_merge yX3_merge, Cond.code yX3_merge cX3_merge 6 none, Cond.methodLink RX3 45 Lib.Math.min.name, Cond.static Lib.Math.min.name, Cond.initialized "java/lang/Math", Cond.code Lib.Math.min.name Lib.Math.min.code 2 (some .int), Cond.methodLink RX3 51 Lib.Math.max.name, Cond.static Lib.Math.max.name, Cond.code Lib.Math.max.name Lib.Math.max.code 2 (some .int), Cond.methodLink RX5 114 yX3_isThing, Cond.instanceMethod yX3_isThing, Cond.selects RX3 yX3_isThing yX3_isThing, Cond.code yX3_isThing cX3_isThing 2 (some .boolean), Cond.methodLink RL 117 yX6_things, Cond.instanceMethod yX6_things, Cond.selects RX6 yX6_things yX6_things, Cond.code yX6_things cX6_things 2 (some .int), Cond.methodLink RX6 108 yX6_lay, Cond.instanceMethod yX6_lay]
def wsL_law0_r14 : List Cond := [Cond.selects RX6 yX6_lay yX6_lay, Cond.code yX6_lay cX6_lay 5 none, Cond.methodLink RX6 101 yX6_areSame, Cond.instanceMethod yX6_areSame, Cond.selects RX6 yX6_areSame yX6_areSame, Cond.code yX6_areSame cX6_areSame 6 (some .boolean), Cond.methodLink RX6 98 yX6_haveSame, Cond.instanceMethod yX6_haveSame, Cond.selects RX6 yX6_haveSame yX6_haveSame, Cond.code yX6_haveSame cX6_haveSame 4 (some .boolean), Cond.methodLink RX6 104 yX6_join, Cond.instanceMethod yX6_join, Cond.selects RX6 yX6_join yX6_join, Cond.code yX6_join cX6_join 6 none, Cond.methodLink RX6 112 yX6_countThings, Cond.instanceMethod yX6_countThings, Cond.selects RX6 yX6_countThings yX6_countThings, Cond.code yX6_countThings cX6_countThings 3 (some .int), Cond.methodLink RL 118 yL_thingOf, Cond.static yL_thingOf, Cond.codeWith yL_thingOf cL_thingOf 5 (some .int) [(0, 10, 13, 32), (0, 10, 17, 13), (0, 10, 21, 48)], Cond.classLink RL 48 "java/util/NoSuchElementException", Cond.methodLink RL 45 yX5_thingOf, Cond.instanceMethod yX5_thingOf]
def wsL_law0_r15 : List Cond := [Cond.selects RX5 yX5_thingOf yX5_thingOf, Cond.code yX5_thingOf cX5_thingOf 3 (some .int), Cond.fieldLink RX5 121 "FoundRegister$Things" "ofFind" "[I", Cond.methodLink RX5 118 yX5_requireCounting, Cond.instanceMethod yX5_requireCounting, Cond.selects RX5 yX5_requireCounting yX5_requireCounting, Cond.code yX5_requireCounting cX5_requireCounting 2 none, Cond.classLink RX5 178 "java/util/NoSuchElementException", Cond.initialized "java/util/NoSuchElementException", Cond.methodLink RL 120 yX6_thingOf, Cond.instanceMethod yX6_thingOf, Cond.selects RX6 yX6_thingOf yX6_thingOf, Cond.code yX6_thingOf cX6_thingOf 3 (some .int), Cond.methodLink RX6 116 yX6_looked, Cond.instanceMethod yX6_looked, Cond.selects RX6 yX6_looked yX6_looked, Cond.code yX6_looked cX6_looked 4 (some .int), Cond.methodLink RL 121 yL_value, Cond.static yL_value, Cond.codeWith yL_value cL_value 6 (some .int) [(0, 12, 15, 32), (0, 12, 19, 13), (0, 12, 23, 48)], Cond.methodLink RL 50 yX5_value, Cond.instanceMethod yX5_value, Cond.selects RX5 yX5_value yX5_value, Cond.code yX5_value cX5_value 4 (some .int)]
def wsL_law0_r16 : List Cond := [Cond.methodLink RX5 124 yX5_requireAttribute, Cond.static yX5_requireAttribute, Cond.code yX5_requireAttribute cX5_requireAttribute 1 none, Cond.methodLink RX5 127 yX3_attributeOf, Cond.instanceMethod yX3_attributeOf, Cond.selects RX3 yX3_attributeOf yX3_attributeOf, Cond.code yX3_attributeOf cX3_attributeOf 5 (some .int), Cond.fieldLink RX3 61 "FoundRegister$Finds" "attributes" "[[I", Cond.methodLink RX3 54 yX3_tells, Cond.instanceMethod yX3_tells, Cond.selects RX3 yX3_tells yX3_tells, Cond.code yX3_tells cX3_tells 4 (some .boolean), Cond.methodLink RX3 58 yX3_goesBefore, Cond.instanceMethod yX3_goesBefore, Cond.selects RX3 yX3_goesBefore yX3_goesBefore, Cond.code yX3_goesBefore cX3_goesBefore 5 (some .boolean), Cond.fieldLink RX3 65 "FoundRegister$Sources" "place" "[I", Cond.fieldLink RX3 70 "FoundRegister$Finds" "source" "[I", Cond.methodLink RL 123 yX6_value, Cond.instanceMethod yX6_value, Cond.selects RX6 yX6_value yX6_value, Cond.code yX6_value cX6_value 4 (some .int), Cond.methodLink RX6 123 yX6_valueOf, Cond.instanceMethod yX6_valueOf]
def wsL_law0_r17 : List Cond := [Cond.selects RX6 yX6_valueOf yX6_valueOf, Cond.code yX6_valueOf cX6_valueOf 6 (some .int), Cond.methodLink RX6 120 yX6_isAhead, Cond.instanceMethod yX6_isAhead, Cond.selects RX6 yX6_isAhead yX6_isAhead, Cond.code yX6_isAhead cX6_isAhead 5 (some .boolean), Cond.methodLink RL 124 yL_disputed, Cond.static yL_disputed, Cond.codeWith yL_disputed cL_disputed 5 (some .int) [(0, 10, 13, 13)], Cond.methodLink RL 53 yX5_disputed, Cond.instanceMethod yX5_disputed, Cond.selects RX5 yX5_disputed yX5_disputed, Cond.code yX5_disputed cX5_disputed 5 (some .int), Cond.methodLink RX5 130 yX3_hasUnlikeValues, Cond.instanceMethod yX3_hasUnlikeValues, Cond.selects RX3 yX3_hasUnlikeValues yX3_hasUnlikeValues, Cond.code yX3_hasUnlikeValues cX3_hasUnlikeValues 6 (some .boolean), Cond.methodLink RL 126 yX6_disputed, Cond.instanceMethod yX6_disputed, Cond.selects RX6 yX6_disputed yX6_disputed, Cond.code yX6_disputed cX6_disputed 8 (some .int), Cond.methodLink RL 127 yL_link, Cond.static yL_link, Cond.codeWith yL_link cL_link 6 (some .int) [(0, 12, 15, 32), (0, 12, 19, 13), (0, 12, 23, 15)]]
def wsL_law0_r18 : List Cond := [Cond.methodLink RL 56 yX5_link, Cond.instanceMethod yX5_link, Cond.selects RX5 yX5_link yX5_link, Cond.code yX5_link cX5_link 4 (some .int), Cond.fieldLink RX5 134 "FoundRegister$Links" "count" "I", Cond.methodLink RX5 137 yX1_add, Cond.instanceMethod yX1_add, Cond.selects RX1 yX1_add yX1_add, Cond.code yX1_add cX1_add 4 none, Cond.methodLink RL 129 yX6_link, Cond.instanceMethod yX6_link, Cond.selects RX6 yX6_link yX6_link, Cond.code yX6_link cX6_link 5 (some .int), Cond.fieldLink RX6 127 "FoundRegisterModel" "links" "I", Cond.methodLink RL 130 yL_impact, Cond.static yL_impact, Cond.codeWith yL_impact cL_impact 5 (some .int) [(0, 10, 13, 32), (0, 10, 17, 13), (0, 10, 21, 48)], Cond.methodLink RL 59 yX5_impact, Cond.instanceMethod yX5_impact, Cond.selects RX5 yX5_impact yX5_impact, Cond.code yX5_impact cX5_impact 3 (some .int), Cond.methodLink RX5 140 yX1_failFrom, Cond.instanceMethod yX1_failFrom, Cond.selects RX1 yX1_failFrom yX1_failFrom]
def wsL_law0_r19 : List Cond := [Cond.code yX1_failFrom cX1_failFrom 5 none, Cond.methodLink RX1 29 yX1_failMore, Cond.instanceMethod yX1_failMore, Cond.selects RX1 yX1_failMore yX1_failMore, Cond.code yX1_failMore cX1_failMore 5 (some .boolean), Cond.fieldLink RX1 33 "FoundRegister$Things" "ofFind" "[I", Cond.methodLink RX1 38 yX1_holds, Cond.instanceMethod yX1_holds, Cond.selects RX1 yX1_holds yX1_holds, Cond.code yX1_holds cX1_holds 5 (some .boolean), Cond.methodLink RX1 42 yX1_lost, Cond.instanceMethod yX1_lost, Cond.selects RX1 yX1_lost yX1_lost, Cond.code yX1_lost cX1_lost 5 (some .boolean), Cond.methodLink RX5 144 yX1_failures, Cond.instanceMethod yX1_failures, Cond.selects RX1 yX1_failures yX1_failures, Cond.code yX1_failures cX1_failures 3 (some .int), Cond.methodLink RL 132 yX6_impact, Cond.instanceMethod yX6_impact, Cond.selects RX6 yX6_impact yX6_impact, Cond.code yX6_impact cX6_impact 3 (some .int), Cond.methodLink RX6 136 yX6_spread, Cond.instanceMethod yX6_spread]
def wsL_law0_r20 : List Cond := [Cond.selects RX6 yX6_spread yX6_spread, Cond.code yX6_spread cX6_spread 5 (some .int), Cond.methodLink RX6 133 yX6_falls, Cond.instanceMethod yX6_falls, Cond.selects RX6 yX6_falls yX6_falls, Cond.code yX6_falls cX6_falls 7 (some .boolean), Cond.methodLink RX6 130 yX6_isOf, Cond.instanceMethod yX6_isOf, Cond.selects RX6 yX6_isOf yX6_isOf, Cond.code yX6_isOf cX6_isOf 5 (some .boolean), Cond.methodLink RL 133 yL_failsWith, Cond.static yL_failsWith, Cond.codeWith yL_failsWith cL_failsWith 6 (some .int) [(0, 19, 22, 32), (0, 19, 26, 13), (0, 19, 30, 48)], Cond.methodLink RL 62 yX5_failsWith, Cond.instanceMethod yX5_failsWith, Cond.selects RX5 yX5_failsWith yX5_failsWith, Cond.code yX5_failsWith cX5_failsWith 4 (some .boolean), Cond.fieldLink RX5 148 "FoundRegister$Links" "failed" "[Z", Cond.methodLink RL 135 yX6_failsWith, Cond.instanceMethod yX6_failsWith, Cond.selects RX6 yX6_failsWith yX6_failsWith, Cond.code yX6_failsWith cX6_failsWith 7 (some .boolean), Cond.methodLink RL 136 yL_wish, Cond.static yL_wish]
def wsL_law0_r21 : List Cond := [Cond.codeWith yL_wish cL_wish 7 (some .int) [(0, 14, 17, 13), (0, 14, 21, 15)], Cond.methodLink RL 66 yX5_wish, Cond.instanceMethod yX5_wish, Cond.selects RX5 yX5_wish yX5_wish, Cond.code yX5_wish cX5_wish 5 (some .int), Cond.fieldLink RX5 151 "FoundRegister$Wishes" "count" "I", Cond.methodLink RX5 154 yX4_add, Cond.instanceMethod yX4_add, Cond.selects RX4 yX4_add yX4_add, Cond.code yX4_add cX4_add 6 (some .int), Cond.methodLink RL 139 yX6_wish, Cond.instanceMethod yX6_wish, Cond.selects RX6 yX6_wish yX6_wish, Cond.code yX6_wish cX6_wish 6 (some .int), Cond.fieldLink RX6 139 "FoundRegisterModel" "wishes" "I", Cond.methodLink RL 140 yL_differing, Cond.static yL_differing, Cond.codeWith yL_differing cL_differing 5 (some .int) [(0, 10, 13, 32), (0, 10, 17, 13)], Cond.methodLink RL 70 yX5_differing, Cond.instanceMethod yX5_differing, Cond.selects RX5 yX5_differing yX5_differing, Cond.code yX5_differing cX5_differing 5 (some .int), Cond.methodLink RX5 162 yX4_isMissedBy, Cond.instanceMethod yX4_isMissedBy]
def wsL_law0_r22 : List Cond := [Cond.selects RX4 yX4_isMissedBy yX4_isMissedBy, Cond.code yX4_isMissedBy cX4_isMissedBy 4 (some .boolean), Cond.methodLink RX4 28 yX3_hasMark, Cond.instanceMethod yX3_hasMark, Cond.selects RX3 yX3_hasMark yX3_hasMark, Cond.code yX3_hasMark cX3_hasMark 5 (some .boolean), Cond.fieldLink RX3 73 "FoundRegister$Finds" "marks" "[[I", Cond.methodLink RX4 34 yX3_attributeOf, Cond.methodLink RL 142 yX6_differing, Cond.instanceMethod yX6_differing, Cond.selects RX6 yX6_differing yX6_differing, Cond.code yX6_differing cX6_differing 7 (some .int), Cond.methodLink RL 143 yL_changed, Cond.static yL_changed, Cond.codeWith yL_changed cL_changed 6 (some .int) [(0, 12, 15, 13)], Cond.methodLink RL 73 yX5_changed, Cond.instanceMethod yX5_changed, Cond.selects RX5 yX5_changed yX5_changed, Cond.code yX5_changed cX5_changed 6 (some .int), Cond.methodLink RX5 166 yX5_hasAnotherValue, Cond.instanceMethod yX5_hasAnotherValue, Cond.selects RX5 yX5_hasAnotherValue yX5_hasAnotherValue, Cond.code yX5_hasAnotherValue cX5_hasAnotherValue 5 (some .boolean), Cond.methodLink RL 145 yX6_changed]
def wsL_law0_r23 : List Cond := [Cond.instanceMethod yX6_changed, Cond.selects RX6 yX6_changed yX6_changed, Cond.code yX6_changed cX6_changed 6 (some .int)]
def wsL_law0 : List Cond := (wsL_law0_r1 ++ (wsL_law0_r2 ++ (wsL_law0_r3 ++ (wsL_law0_r4 ++ (wsL_law0_r5 ++ (wsL_law0_r6 ++ (wsL_law0_r7 ++ (wsL_law0_r8 ++ (wsL_law0_r9 ++ (wsL_law0_r10 ++ (wsL_law0_r11 ++ (wsL_law0_r12 ++ (wsL_law0_r13 ++ (wsL_law0_r14 ++ (wsL_law0_r15 ++ (wsL_law0_r16 ++ (wsL_law0_r17 ++ (wsL_law0_r18 ++ (wsL_law0_r19 ++ (wsL_law0_r20 ++ (wsL_law0_r21 ++ (wsL_law0_r22 ++ wsL_law0_r23)))))))))))))))))))))) ++ wsX50 ++ wsX60 ++ wsX20 ++ wsX00 ++ wsX10 ++ wsX40 ++ wsX30 ++ ([] : List Cond)
def wsL_law : List Cond := wsL_law0 ++ (vx_atS RX5 61 "java/lang/IllegalStateException" ["java/lang/RuntimeException", "java/lang/Exception"]).filter goodWord ++ (vx_atS RX5 173 "java/lang/IllegalArgumentException" ["java/lang/RuntimeException", "java/lang/Exception"]).filter goodWord ++ (vx_atS RX5 161 "java/lang/IndexOutOfBoundsException" ["java/lang/RuntimeException", "java/lang/Exception"]).filter goodWord ++ (gNsAt RX5 182).filter goodWord
end
section
theorem li_1 : ∀ w ∈ wsL_law0_r1, w ∈ lw_tbl := by decide +kernel
theorem li_2 : ∀ w ∈ wsL_law0_r2, w ∈ lw_tbl := by decide +kernel
theorem li_3 : ∀ w ∈ wsL_law0_r3, w ∈ lw_tbl := by decide +kernel
theorem li_4 : ∀ w ∈ wsL_law0_r4, w ∈ lw_tbl := by decide +kernel
theorem li_5 : ∀ w ∈ wsL_law0_r5, w ∈ lw_tbl := by decide +kernel
theorem li_6 : ∀ w ∈ wsL_law0_r6, w ∈ lw_tbl := by decide +kernel
theorem li_7 : ∀ w ∈ wsL_law0_r7, w ∈ lw_tbl := by decide +kernel
theorem li_8 : ∀ w ∈ wsL_law0_r8, w ∈ lw_tbl := by decide +kernel
theorem li_9 : ∀ w ∈ wsL_law0_r9, w ∈ lw_tbl := by decide +kernel
theorem li_10 : ∀ w ∈ wsL_law0_r10, w ∈ lw_tbl := by decide +kernel
theorem li_11 : ∀ w ∈ wsL_law0_r11, w ∈ lw_tbl := by decide +kernel
theorem li_12 : ∀ w ∈ wsL_law0_r12, w ∈ lw_tbl := by decide +kernel
theorem li_13 : ∀ w ∈ wsL_law0_r13, w ∈ lw_tbl := by decide +kernel
theorem li_14 : ∀ w ∈ wsL_law0_r14, w ∈ lw_tbl := by decide +kernel
theorem li_15 : ∀ w ∈ wsL_law0_r15, w ∈ lw_tbl := by decide +kernel
theorem li_16 : ∀ w ∈ wsL_law0_r16, w ∈ lw_tbl := by decide +kernel
theorem li_17 : ∀ w ∈ wsL_law0_r17, w ∈ lw_tbl := by decide +kernel
theorem li_18 : ∀ w ∈ wsL_law0_r18, w ∈ lw_tbl := by decide +kernel
theorem li_19 : ∀ w ∈ wsL_law0_r19, w ∈ lw_tbl := by decide +kernel
theorem li_20 : ∀ w ∈ wsL_law0_r20, w ∈ lw_tbl := by decide +kernel
theorem li_21 : ∀ w ∈ wsL_law0_r21, w ∈ lw_tbl := by decide +kernel
theorem li_22 : ∀ w ∈ wsL_law0_r22, w ∈ lw_tbl := by decide +kernel
theorem li_23 : ∀ w ∈ wsL_law0_r23, w ∈ lw_tbl := by decide +kernel
theorem li_X50 : ∀ w ∈ wsX50, w ∈ lw_tbl := by decide +kernel
theorem li_X60 : ∀ w ∈ wsX60, w ∈ lw_tbl := by decide +kernel
theorem li_X20 : ∀ w ∈ wsX20, w ∈ lw_tbl := by decide +kernel
theorem li_X00 : ∀ w ∈ wsX00, w ∈ lw_tbl := by decide +kernel
theorem li_X10 : ∀ w ∈ wsX10, w ∈ lw_tbl := by decide +kernel
theorem li_X40 : ∀ w ∈ wsX40, w ∈ lw_tbl := by decide +kernel
theorem li_X30 : ∀ w ∈ wsX30, w ∈ lw_tbl := by decide +kernel
theorem wsL_law_in0 : ∀ w ∈ wsL_law0, w ∈ lw_tbl := by
  unfold wsL_law0
  exact List.forall_mem_append.mpr ⟨List.forall_mem_append.mpr ⟨List.forall_mem_append.mpr ⟨List.forall_mem_append.mpr ⟨List.forall_mem_append.mpr ⟨List.forall_mem_append.mpr ⟨List.forall_mem_append.mpr ⟨List.forall_mem_append.mpr ⟨List.forall_mem_append.mpr ⟨li_1, List.forall_mem_append.mpr ⟨li_2, List.forall_mem_append.mpr ⟨li_3, List.forall_mem_append.mpr ⟨li_4, List.forall_mem_append.mpr ⟨li_5, List.forall_mem_append.mpr ⟨li_6, List.forall_mem_append.mpr ⟨li_7, List.forall_mem_append.mpr ⟨li_8, List.forall_mem_append.mpr ⟨li_9, List.forall_mem_append.mpr ⟨li_10, List.forall_mem_append.mpr ⟨li_11, List.forall_mem_append.mpr ⟨li_12, List.forall_mem_append.mpr ⟨li_13, List.forall_mem_append.mpr ⟨li_14, List.forall_mem_append.mpr ⟨li_15, List.forall_mem_append.mpr ⟨li_16, List.forall_mem_append.mpr ⟨li_17, List.forall_mem_append.mpr ⟨li_18, List.forall_mem_append.mpr ⟨li_19, List.forall_mem_append.mpr ⟨li_20, List.forall_mem_append.mpr ⟨li_21, List.forall_mem_append.mpr ⟨li_22, li_23⟩⟩⟩⟩⟩⟩⟩⟩⟩⟩⟩⟩⟩⟩⟩⟩⟩⟩⟩⟩⟩⟩, li_X50⟩, li_X60⟩, li_X20⟩, li_X00⟩, li_X10⟩, li_X40⟩, li_X30⟩, fun _ h => absurd h List.not_mem_nil⟩
theorem wsL_law_x0 : ∀ w ∈ (vx_atS RX5 61 "java/lang/IllegalStateException" ["java/lang/RuntimeException", "java/lang/Exception"]).filter goodWord, w ∈ lw_tbl := by decide +kernel
theorem wsL_law_x1 : ∀ w ∈ (vx_atS RX5 173 "java/lang/IllegalArgumentException" ["java/lang/RuntimeException", "java/lang/Exception"]).filter goodWord, w ∈ lw_tbl := by decide +kernel
theorem wsL_law_x2 : ∀ w ∈ (vx_atS RX5 161 "java/lang/IndexOutOfBoundsException" ["java/lang/RuntimeException", "java/lang/Exception"]).filter goodWord, w ∈ lw_tbl := by decide +kernel
theorem wsL_law_x3 : ∀ w ∈ (gNsAt RX5 182).filter goodWord, w ∈ lw_tbl := by decide +kernel
theorem wsL_law_in : ∀ w ∈ wsL_law, w ∈ lw_tbl := fun w h => (List.mem_append.mp h).elim (fun h => (List.mem_append.mp h).elim (fun h => (List.mem_append.mp h).elim (fun h => (List.mem_append.mp h).elim (fun h => wsL_law_in0 w h) (fun h => wsL_law_x0 w h)) (fun h => wsL_law_x1 w h)) (fun h => wsL_law_x2 w h)) (fun h => wsL_law_x3 w h)
theorem inlX0 : ∀ w ∈ wsX00, w ∈ wsL_law := fun _ h => List.mem_append_left _ (List.mem_append_left _ (List.mem_append_left _ (List.mem_append_left _ (List.mem_append_left _ (List.mem_append_left _ (List.mem_append_left _ (List.mem_append_left _ (List.mem_append_right _ h))))))))
theorem inX0 : ∀ w ∈ wsX00, w ∈ lw_tbl := fun w h => wsL_law_in w (inlX0 w h)
theorem inlX1 : ∀ w ∈ wsX10, w ∈ wsL_law := fun _ h => List.mem_append_left _ (List.mem_append_left _ (List.mem_append_left _ (List.mem_append_left _ (List.mem_append_left _ (List.mem_append_left _ (List.mem_append_left _ (List.mem_append_right _ h)))))))
theorem inX1 : ∀ w ∈ wsX10, w ∈ lw_tbl := fun w h => wsL_law_in w (inlX1 w h)
theorem inlX2 : ∀ w ∈ wsX20, w ∈ wsL_law := fun _ h => List.mem_append_left _ (List.mem_append_left _ (List.mem_append_left _ (List.mem_append_left _ (List.mem_append_left _ (List.mem_append_left _ (List.mem_append_left _ (List.mem_append_left _ (List.mem_append_left _ (List.mem_append_right _ h)))))))))
theorem inX2 : ∀ w ∈ wsX20, w ∈ lw_tbl := fun w h => wsL_law_in w (inlX2 w h)
theorem inlX3 : ∀ w ∈ wsX30, w ∈ wsL_law := fun _ h => List.mem_append_left _ (List.mem_append_left _ (List.mem_append_left _ (List.mem_append_left _ (List.mem_append_left _ (List.mem_append_right _ h)))))
theorem inX3 : ∀ w ∈ wsX30, w ∈ lw_tbl := fun w h => wsL_law_in w (inlX3 w h)
theorem inlX4 : ∀ w ∈ wsX40, w ∈ wsL_law := fun _ h => List.mem_append_left _ (List.mem_append_left _ (List.mem_append_left _ (List.mem_append_left _ (List.mem_append_left _ (List.mem_append_left _ (List.mem_append_right _ h))))))
theorem inX4 : ∀ w ∈ wsX40, w ∈ lw_tbl := fun w h => wsL_law_in w (inlX4 w h)
theorem inlX5 : ∀ w ∈ wsX50, w ∈ wsL_law := fun _ h => List.mem_append_left _ (List.mem_append_left _ (List.mem_append_left _ (List.mem_append_left _ (List.mem_append_left _ (List.mem_append_left _ (List.mem_append_left _ (List.mem_append_left _ (List.mem_append_left _ (List.mem_append_left _ (List.mem_append_left _ (List.mem_append_right _ h)))))))))))
theorem inX5 : ∀ w ∈ wsX50, w ∈ lw_tbl := fun w h => wsL_law_in w (inlX5 w h)
theorem inlX6 : ∀ w ∈ wsX60, w ∈ wsL_law := fun _ h => List.mem_append_left _ (List.mem_append_left _ (List.mem_append_left _ (List.mem_append_left _ (List.mem_append_left _ (List.mem_append_left _ (List.mem_append_left _ (List.mem_append_left _ (List.mem_append_left _ (List.mem_append_left _ (List.mem_append_right _ h))))))))))
theorem inX6 : ∀ w ∈ wsX60, w ∈ lw_tbl := fun w h => wsL_law_in w (inlX6 w h)
end
section
theorem inJx145de : ∀ w ∈ wsJx145de0, w ∈ lw_tbl := by decide +kernel
theorem inJ9 : ∀ w ∈ wsJ90, w ∈ lw_tbl := by decide +kernel
theorem inJ0 : ∀ w ∈ wsJ00, w ∈ lw_tbl := by decide +kernel
theorem dX0_init_0 : decode cX0_init 0 = .ok (.aload_n 0, 1) := by decide +kernel
theorem dX0_init_1 : decode cX0_init 1 = .ok (.invokespecial 3, 3) := by decide +kernel
theorem dX0_init_4 : decode cX0_init 4 = .ok (.aload_n 0, 1) := by decide +kernel
theorem dX0_init_5 : decode cX0_init 5 = .ok (.iconst 0, 1) := by decide +kernel
theorem dX0_init_6 : decode cX0_init 6 = .ok (.putfield 9, 3) := by decide +kernel
theorem dX0_init_9 : decode cX0_init 9 = .ok (.aload_n 0, 1) := by decide +kernel
theorem dX0_init_10 : decode cX0_init 10 = .ok (.bipush 60, 2) := by decide +kernel
theorem dX0_init_12 : decode cX0_init 12 = .ok (.newarray .int, 2) := by decide +kernel
theorem dX0_init_14 : decode cX0_init 14 = .ok (.putfield 15, 3) := by decide +kernel
theorem dX0_init_17 : decode cX0_init 17 = .ok (.aload_n 0, 1) := by decide +kernel
theorem dX0_init_18 : decode cX0_init 18 = .ok (.bipush 60, 2) := by decide +kernel
theorem dX0_init_20 : decode cX0_init 20 = .ok (.newarray .int, 2) := by decide +kernel
theorem dX0_init_22 : decode cX0_init 22 = .ok (.putfield 19, 3) := by decide +kernel
theorem dX0_init_25 : decode cX0_init 25 = .ok (.aload_n 0, 1) := by decide +kernel
theorem dX0_init_26 : decode cX0_init 26 = .ok (.bipush 60, 2) := by decide +kernel
theorem dX0_init_28 : decode cX0_init 28 = .ok (.newarray .boolean, 2) := by decide +kernel
theorem dX0_init_30 : decode cX0_init 30 = .ok (.putfield 22, 3) := by decide +kernel
theorem dX0_init_33 : decode cX0_init 33 = .ok (.aload_n 0, 1) := by decide +kernel
theorem dX0_init_34 : decode cX0_init 34 = .ok (.iconst 3, 1) := by decide +kernel
theorem dX0_init_35 : decode cX0_init 35 = .ok (.bipush 60, 2) := by decide +kernel
theorem dX0_init_37 : decode cX0_init 37 = .ok (.multianewarray 26 2, 4) := by decide +kernel
theorem dX0_init_41 : decode cX0_init 41 = .ok (.putfield 28, 3) := by decide +kernel
theorem dX0_init_44 : decode cX0_init 44 = .ok (.aload_n 0, 1) := by decide +kernel
theorem dX0_init_45 : decode cX0_init 45 = .ok (.iconst 2, 1) := by decide +kernel
theorem dX0_init_46 : decode cX0_init 46 = .ok (.bipush 60, 2) := by decide +kernel
theorem dX0_init_48 : decode cX0_init 48 = .ok (.multianewarray 26 2, 4) := by decide +kernel
theorem dX0_init_52 : decode cX0_init 52 = .ok (.putfield 31, 3) := by decide +kernel
theorem dX0_init_55 : decode cX0_init 55 = .ok (.aload_n 0, 1) := by decide +kernel
theorem dX0_init_56 : decode cX0_init 56 = .ok (.bipush 60, 2) := by decide +kernel
theorem dX0_init_58 : decode cX0_init 58 = .ok (.bipush 60, 2) := by decide +kernel
theorem dX0_init_60 : decode cX0_init 60 = .ok (.multianewarray 26 2, 4) := by decide +kernel
theorem dX0_init_64 : decode cX0_init 64 = .ok (.putfield 34, 3) := by decide +kernel
theorem dX0_init_67 : decode cX0_init 67 = .ok (.return_, 1) := by decide +kernel
theorem dX0_take_0 : decode cX0_take 0 = .ok (.aload_n 0, 1) := by decide +kernel
theorem dX0_take_1 : decode cX0_take 1 = .ok (.getfield 9, 3) := by decide +kernel
theorem dX0_take_4 : decode cX0_take 4 = .ok (.istore_n 3, 1) := by decide +kernel
theorem dX0_take_5 : decode cX0_take 5 = .ok (.aload_n 0, 1) := by decide +kernel
theorem dX0_take_6 : decode cX0_take 6 = .ok (.getfield 15, 3) := by decide +kernel
theorem dX0_take_9 : decode cX0_take 9 = .ok (.iload_n 3, 1) := by decide +kernel
theorem dX0_take_10 : decode cX0_take 10 = .ok (.iload_n 1, 1) := by decide +kernel
theorem dX0_take_11 : decode cX0_take 11 = .ok (.iastore, 1) := by decide +kernel
theorem dX0_take_12 : decode cX0_take 12 = .ok (.aload_n 0, 1) := by decide +kernel
theorem dX0_take_13 : decode cX0_take 13 = .ok (.getfield 19, 3) := by decide +kernel
theorem dX0_take_16 : decode cX0_take 16 = .ok (.iload_n 3, 1) := by decide +kernel
theorem dX0_take_17 : decode cX0_take 17 = .ok (.iload_n 2, 1) := by decide +kernel
theorem dX0_take_18 : decode cX0_take 18 = .ok (.iastore, 1) := by decide +kernel
theorem dX0_take_19 : decode cX0_take 19 = .ok (.aload_n 0, 1) := by decide +kernel
theorem dX0_take_20 : decode cX0_take 20 = .ok (.dup, 1) := by decide +kernel
theorem dX0_take_21 : decode cX0_take 21 = .ok (.getfield 9, 3) := by decide +kernel
theorem dX0_take_24 : decode cX0_take 24 = .ok (.iconst 1, 1) := by decide +kernel
theorem dX0_take_25 : decode cX0_take 25 = .ok (.iadd, 1) := by decide +kernel
theorem dX0_take_26 : decode cX0_take 26 = .ok (.putfield 9, 3) := by decide +kernel
theorem dX0_take_29 : decode cX0_take 29 = .ok (.iload_n 3, 1) := by decide +kernel
theorem dX0_take_30 : decode cX0_take 30 = .ok (.ireturn, 1) := by decide +kernel
theorem dX0_putMarks_0 : decode cX0_putMarks 0 = .ok (.aload_n 0, 1) := by decide +kernel
theorem dX0_putMarks_1 : decode cX0_putMarks 1 = .ok (.getfield 28, 3) := by decide +kernel
theorem dX0_putMarks_4 : decode cX0_putMarks 4 = .ok (.iconst 0, 1) := by decide +kernel
theorem dX0_putMarks_5 : decode cX0_putMarks 5 = .ok (.aaload, 1) := by decide +kernel
theorem dX0_putMarks_6 : decode cX0_putMarks 6 = .ok (.iload_n 1, 1) := by decide +kernel
theorem dX0_putMarks_7 : decode cX0_putMarks 7 = .ok (.iload_n 2, 1) := by decide +kernel
theorem dX0_putMarks_8 : decode cX0_putMarks 8 = .ok (.iastore, 1) := by decide +kernel
theorem dX0_putMarks_9 : decode cX0_putMarks 9 = .ok (.aload_n 0, 1) := by decide +kernel
theorem dX0_putMarks_10 : decode cX0_putMarks 10 = .ok (.getfield 28, 3) := by decide +kernel
theorem dX0_putMarks_13 : decode cX0_putMarks 13 = .ok (.iconst 1, 1) := by decide +kernel
theorem dX0_putMarks_14 : decode cX0_putMarks 14 = .ok (.aaload, 1) := by decide +kernel
theorem dX0_putMarks_15 : decode cX0_putMarks 15 = .ok (.iload_n 1, 1) := by decide +kernel
theorem dX0_putMarks_16 : decode cX0_putMarks 16 = .ok (.iload_n 3, 1) := by decide +kernel
theorem dX0_putMarks_17 : decode cX0_putMarks 17 = .ok (.iastore, 1) := by decide +kernel
theorem dX0_putMarks_18 : decode cX0_putMarks 18 = .ok (.aload_n 0, 1) := by decide +kernel
theorem dX0_putMarks_19 : decode cX0_putMarks 19 = .ok (.getfield 28, 3) := by decide +kernel
theorem dX0_putMarks_22 : decode cX0_putMarks 22 = .ok (.iconst 2, 1) := by decide +kernel
theorem dX0_putMarks_23 : decode cX0_putMarks 23 = .ok (.aaload, 1) := by decide +kernel
theorem dX0_putMarks_24 : decode cX0_putMarks 24 = .ok (.iload_n 1, 1) := by decide +kernel
theorem dX0_putMarks_25 : decode cX0_putMarks 25 = .ok (.iload 4, 2) := by decide +kernel
theorem dX0_putMarks_27 : decode cX0_putMarks 27 = .ok (.iastore, 1) := by decide +kernel
theorem dX0_putMarks_28 : decode cX0_putMarks 28 = .ok (.return_, 1) := by decide +kernel
theorem dX0_putAttributes_0 : decode cX0_putAttributes 0 = .ok (.aload_n 0, 1) := by decide +kernel
theorem dX0_putAttributes_1 : decode cX0_putAttributes 1 = .ok (.getfield 31, 3) := by decide +kernel
theorem dX0_putAttributes_4 : decode cX0_putAttributes 4 = .ok (.iconst 0, 1) := by decide +kernel
theorem dX0_putAttributes_5 : decode cX0_putAttributes 5 = .ok (.aaload, 1) := by decide +kernel
theorem dX0_putAttributes_6 : decode cX0_putAttributes 6 = .ok (.iload_n 1, 1) := by decide +kernel
theorem dX0_putAttributes_7 : decode cX0_putAttributes 7 = .ok (.iload_n 2, 1) := by decide +kernel
theorem dX0_putAttributes_8 : decode cX0_putAttributes 8 = .ok (.iastore, 1) := by decide +kernel
theorem dX0_putAttributes_9 : decode cX0_putAttributes 9 = .ok (.aload_n 0, 1) := by decide +kernel
theorem dX0_putAttributes_10 : decode cX0_putAttributes 10 = .ok (.getfield 31, 3) := by decide +kernel
theorem dX0_putAttributes_13 : decode cX0_putAttributes 13 = .ok (.iconst 1, 1) := by decide +kernel
theorem dX0_putAttributes_14 : decode cX0_putAttributes 14 = .ok (.aaload, 1) := by decide +kernel
theorem dX0_putAttributes_15 : decode cX0_putAttributes 15 = .ok (.iload_n 1, 1) := by decide +kernel
theorem dX0_putAttributes_16 : decode cX0_putAttributes 16 = .ok (.iload_n 3, 1) := by decide +kernel
theorem dX0_putAttributes_17 : decode cX0_putAttributes 17 = .ok (.iastore, 1) := by decide +kernel
theorem dX0_putAttributes_18 : decode cX0_putAttributes 18 = .ok (.return_, 1) := by decide +kernel
theorem dX0_standsOn_0 : decode cX0_standsOn 0 = .ok (.aload_n 0, 1) := by decide +kernel
theorem dX0_standsOn_1 : decode cX0_standsOn 1 = .ok (.getfield 22, 3) := by decide +kernel
theorem dX0_standsOn_4 : decode cX0_standsOn 4 = .ok (.iload_n 1, 1) := by decide +kernel
theorem dX0_standsOn_5 : decode cX0_standsOn 5 = .ok (.baload, 1) := by decide +kernel
theorem dX0_standsOn_6 : decode cX0_standsOn 6 = .ok (.ifCond .ne 39, 3) := by decide +kernel
theorem dX0_standsOn_9 : decode cX0_standsOn 9 = .ok (.aload_n 0, 1) := by decide +kernel
theorem dX0_standsOn_10 : decode cX0_standsOn 10 = .ok (.getfield 19, 3) := by decide +kernel
theorem dX0_standsOn_13 : decode cX0_standsOn 13 = .ok (.iload_n 1, 1) := by decide +kernel
theorem dX0_standsOn_14 : decode cX0_standsOn 14 = .ok (.iaload, 1) := by decide +kernel
theorem dX0_standsOn_15 : decode cX0_standsOn 15 = .ok (.iload_n 2, 1) := by decide +kernel
theorem dX0_standsOn_16 : decode cX0_standsOn 16 = .ok (.if_icmp .gt 29, 3) := by decide +kernel
theorem dX0_standsOn_19 : decode cX0_standsOn 19 = .ok (.iload_n 2, 1) := by decide +kernel
theorem dX0_standsOn_20 : decode cX0_standsOn 20 = .ok (.aload_n 0, 1) := by decide +kernel
theorem dX0_standsOn_21 : decode cX0_standsOn 21 = .ok (.getfield 19, 3) := by decide +kernel
theorem dX0_standsOn_24 : decode cX0_standsOn 24 = .ok (.iload_n 1, 1) := by decide +kernel
theorem dX0_standsOn_25 : decode cX0_standsOn 25 = .ok (.iaload, 1) := by decide +kernel
theorem dX0_standsOn_26 : decode cX0_standsOn 26 = .ok (.isub, 1) := by decide +kernel
theorem dX0_standsOn_27 : decode cX0_standsOn 27 = .ok (.aload_n 3, 1) := by decide +kernel
theorem dX0_standsOn_28 : decode cX0_standsOn 28 = .ok (.getfield 37, 3) := by decide +kernel
theorem dX0_standsOn_31 : decode cX0_standsOn 31 = .ok (.aload_n 0, 1) := by decide +kernel
theorem dX0_standsOn_32 : decode cX0_standsOn 32 = .ok (.getfield 15, 3) := by decide +kernel
theorem dX0_standsOn_35 : decode cX0_standsOn 35 = .ok (.iload_n 1, 1) := by decide +kernel
theorem dX0_standsOn_36 : decode cX0_standsOn 36 = .ok (.iaload, 1) := by decide +kernel
theorem dX0_standsOn_37 : decode cX0_standsOn 37 = .ok (.iaload, 1) := by decide +kernel
theorem dX0_standsOn_38 : decode cX0_standsOn 38 = .ok (.if_icmp .gt 7, 3) := by decide +kernel
theorem dX0_standsOn_41 : decode cX0_standsOn 41 = .ok (.iconst 1, 1) := by decide +kernel
theorem dX0_standsOn_42 : decode cX0_standsOn 42 = .ok (.goto 4, 3) := by decide +kernel
theorem dX0_standsOn_45 : decode cX0_standsOn 45 = .ok (.iconst 0, 1) := by decide +kernel
theorem dX0_standsOn_46 : decode cX0_standsOn 46 = .ok (.ireturn, 1) := by decide +kernel
set_option maxRecDepth 20000 in
theorem ggX0_joined_X0_knowsSerial : GoodIn wsX0_joined wsX0_knowsSerial := goodIn_r _ [6, 7, 12, 13, 14, 15, 16, 17, 18] (by decide +kernel) (by decide +kernel)
set_option maxRecDepth 20000 in
theorem gX0_joined_X0_knowsSerial : GoodIn wsX0_joined (wsV RX0 42 RX0 yX0_knowsSerial wsX0_knowsSerial) := goodIn_app (goodIn_of _ (by decide +kernel)) ggX0_joined_X0_knowsSerial
set_option maxRecDepth 20000 in
theorem ggX0_joined_X0_shareMark : GoodIn wsX0_joined wsX0_shareMark := goodIn_r _ [11, 7, 12, 13, 14, 15, 16, 17, 18] (by decide +kernel) (by decide +kernel)
set_option maxRecDepth 20000 in
theorem gX0_joined_X0_shareMark : GoodIn wsX0_joined (wsV RX0 46 RX0 yX0_shareMark wsX0_shareMark) := goodIn_app (goodIn_of _ (by decide +kernel)) ggX0_joined_X0_shareMark
theorem dX0_joined_0 : decode cX0_joined 0 = .ok (.aload_n 0, 1) := by decide +kernel
theorem dX0_joined_1 : decode cX0_joined 1 = .ok (.getfield 34, 3) := by decide +kernel
theorem dX0_joined_4 : decode cX0_joined 4 = .ok (.iload_n 1, 1) := by decide +kernel
theorem dX0_joined_5 : decode cX0_joined 5 = .ok (.aaload, 1) := by decide +kernel
theorem dX0_joined_6 : decode cX0_joined 6 = .ok (.iload_n 2, 1) := by decide +kernel
theorem dX0_joined_7 : decode cX0_joined 7 = .ok (.iaload, 1) := by decide +kernel
theorem dX0_joined_8 : decode cX0_joined 8 = .ok (.ifCond .eq 21, 3) := by decide +kernel
theorem dX0_joined_11 : decode cX0_joined 11 = .ok (.aload_n 0, 1) := by decide +kernel
theorem dX0_joined_12 : decode cX0_joined 12 = .ok (.getfield 34, 3) := by decide +kernel
theorem dX0_joined_15 : decode cX0_joined 15 = .ok (.iload_n 1, 1) := by decide +kernel
theorem dX0_joined_16 : decode cX0_joined 16 = .ok (.aaload, 1) := by decide +kernel
theorem dX0_joined_17 : decode cX0_joined 17 = .ok (.iload_n 2, 1) := by decide +kernel
theorem dX0_joined_18 : decode cX0_joined 18 = .ok (.iaload, 1) := by decide +kernel
theorem dX0_joined_19 : decode cX0_joined 19 = .ok (.iconst 1, 1) := by decide +kernel
theorem dX0_joined_20 : decode cX0_joined 20 = .ok (.if_icmp .ne 7, 3) := by decide +kernel
theorem dX0_joined_23 : decode cX0_joined 23 = .ok (.iconst 1, 1) := by decide +kernel
theorem dX0_joined_24 : decode cX0_joined 24 = .ok (.goto 4, 3) := by decide +kernel
theorem dX0_joined_27 : decode cX0_joined 27 = .ok (.iconst 0, 1) := by decide +kernel
theorem dX0_joined_28 : decode cX0_joined 28 = .ok (.ireturn, 1) := by decide +kernel
theorem dX0_joined_29 : decode cX0_joined 29 = .ok (.aload_n 0, 1) := by decide +kernel
theorem dX0_joined_30 : decode cX0_joined 30 = .ok (.iload_n 1, 1) := by decide +kernel
theorem dX0_joined_31 : decode cX0_joined 31 = .ok (.invokevirtual 42, 3) := by decide +kernel
theorem dX0_joined_34 : decode cX0_joined 34 = .ok (.ifCond .eq 19, 3) := by decide +kernel
theorem dX0_joined_37 : decode cX0_joined 37 = .ok (.aload_n 0, 1) := by decide +kernel
theorem dX0_joined_38 : decode cX0_joined 38 = .ok (.iload_n 2, 1) := by decide +kernel
theorem dX0_joined_39 : decode cX0_joined 39 = .ok (.invokevirtual 42, 3) := by decide +kernel
theorem dX0_joined_42 : decode cX0_joined 42 = .ok (.ifCond .eq 11, 3) := by decide +kernel
theorem dX0_joined_45 : decode cX0_joined 45 = .ok (.aload_n 0, 1) := by decide +kernel
theorem dX0_joined_46 : decode cX0_joined 46 = .ok (.iconst 0, 1) := by decide +kernel
theorem dX0_joined_47 : decode cX0_joined 47 = .ok (.iload_n 1, 1) := by decide +kernel
theorem dX0_joined_48 : decode cX0_joined 48 = .ok (.iload_n 2, 1) := by decide +kernel
theorem dX0_joined_49 : decode cX0_joined 49 = .ok (.invokevirtual 46, 3) := by decide +kernel
theorem dX0_joined_52 : decode cX0_joined 52 = .ok (.ireturn, 1) := by decide +kernel
theorem dX0_joined_53 : decode cX0_joined 53 = .ok (.aload_n 0, 1) := by decide +kernel
theorem dX0_joined_54 : decode cX0_joined 54 = .ok (.iconst 1, 1) := by decide +kernel
theorem dX0_joined_55 : decode cX0_joined 55 = .ok (.iload_n 1, 1) := by decide +kernel
theorem dX0_joined_56 : decode cX0_joined 56 = .ok (.iload_n 2, 1) := by decide +kernel
theorem dX0_joined_57 : decode cX0_joined 57 = .ok (.invokevirtual 46, 3) := by decide +kernel
theorem dX0_joined_60 : decode cX0_joined 60 = .ok (.ifCond .eq 17, 3) := by decide +kernel
theorem dX0_joined_63 : decode cX0_joined 63 = .ok (.aload_n 0, 1) := by decide +kernel
theorem dX0_joined_64 : decode cX0_joined 64 = .ok (.iconst 2, 1) := by decide +kernel
theorem dX0_joined_65 : decode cX0_joined 65 = .ok (.iload_n 1, 1) := by decide +kernel
theorem dX0_joined_66 : decode cX0_joined 66 = .ok (.iload_n 2, 1) := by decide +kernel
theorem dX0_joined_67 : decode cX0_joined 67 = .ok (.invokevirtual 46, 3) := by decide +kernel
theorem dX0_joined_70 : decode cX0_joined 70 = .ok (.ifCond .eq 7, 3) := by decide +kernel
theorem dX0_joined_73 : decode cX0_joined 73 = .ok (.iconst 1, 1) := by decide +kernel
theorem dX0_joined_74 : decode cX0_joined 74 = .ok (.goto 4, 3) := by decide +kernel
theorem dX0_joined_77 : decode cX0_joined 77 = .ok (.iconst 0, 1) := by decide +kernel
theorem dX0_joined_78 : decode cX0_joined 78 = .ok (.ireturn, 1) := by decide +kernel
theorem dX0_knowsSerial_0 : decode cX0_knowsSerial 0 = .ok (.aload_n 0, 1) := by decide +kernel
theorem dX0_knowsSerial_1 : decode cX0_knowsSerial 1 = .ok (.getfield 28, 3) := by decide +kernel
theorem dX0_knowsSerial_4 : decode cX0_knowsSerial 4 = .ok (.iconst 0, 1) := by decide +kernel
theorem dX0_knowsSerial_5 : decode cX0_knowsSerial 5 = .ok (.aaload, 1) := by decide +kernel
theorem dX0_knowsSerial_6 : decode cX0_knowsSerial 6 = .ok (.iload_n 1, 1) := by decide +kernel
theorem dX0_knowsSerial_7 : decode cX0_knowsSerial 7 = .ok (.iaload, 1) := by decide +kernel
theorem dX0_knowsSerial_8 : decode cX0_knowsSerial 8 = .ok (.ifCond .eq 7, 3) := by decide +kernel
theorem dX0_knowsSerial_11 : decode cX0_knowsSerial 11 = .ok (.iconst 1, 1) := by decide +kernel
theorem dX0_knowsSerial_12 : decode cX0_knowsSerial 12 = .ok (.goto 4, 3) := by decide +kernel
theorem dX0_knowsSerial_15 : decode cX0_knowsSerial 15 = .ok (.iconst 0, 1) := by decide +kernel
theorem dX0_knowsSerial_16 : decode cX0_knowsSerial 16 = .ok (.ireturn, 1) := by decide +kernel
theorem dX0_shareMark_0 : decode cX0_shareMark 0 = .ok (.aload_n 0, 1) := by decide +kernel
theorem dX0_shareMark_1 : decode cX0_shareMark 1 = .ok (.getfield 28, 3) := by decide +kernel
theorem dX0_shareMark_4 : decode cX0_shareMark 4 = .ok (.iload_n 1, 1) := by decide +kernel
theorem dX0_shareMark_5 : decode cX0_shareMark 5 = .ok (.aaload, 1) := by decide +kernel
theorem dX0_shareMark_6 : decode cX0_shareMark 6 = .ok (.iload_n 2, 1) := by decide +kernel
theorem dX0_shareMark_7 : decode cX0_shareMark 7 = .ok (.iaload, 1) := by decide +kernel
theorem dX0_shareMark_8 : decode cX0_shareMark 8 = .ok (.ifCond .eq 26, 3) := by decide +kernel
theorem dX0_shareMark_11 : decode cX0_shareMark 11 = .ok (.aload_n 0, 1) := by decide +kernel
theorem dX0_shareMark_12 : decode cX0_shareMark 12 = .ok (.getfield 28, 3) := by decide +kernel
theorem dX0_shareMark_15 : decode cX0_shareMark 15 = .ok (.iload_n 1, 1) := by decide +kernel
theorem dX0_shareMark_16 : decode cX0_shareMark 16 = .ok (.aaload, 1) := by decide +kernel
theorem dX0_shareMark_17 : decode cX0_shareMark 17 = .ok (.iload_n 2, 1) := by decide +kernel
theorem dX0_shareMark_18 : decode cX0_shareMark 18 = .ok (.iaload, 1) := by decide +kernel
theorem dX0_shareMark_19 : decode cX0_shareMark 19 = .ok (.aload_n 0, 1) := by decide +kernel
theorem dX0_shareMark_20 : decode cX0_shareMark 20 = .ok (.getfield 28, 3) := by decide +kernel
theorem dX0_shareMark_23 : decode cX0_shareMark 23 = .ok (.iload_n 1, 1) := by decide +kernel
theorem dX0_shareMark_24 : decode cX0_shareMark 24 = .ok (.aaload, 1) := by decide +kernel
theorem dX0_shareMark_25 : decode cX0_shareMark 25 = .ok (.iload_n 3, 1) := by decide +kernel
theorem dX0_shareMark_26 : decode cX0_shareMark 26 = .ok (.iaload, 1) := by decide +kernel
theorem dX0_shareMark_27 : decode cX0_shareMark 27 = .ok (.if_icmp .ne 7, 3) := by decide +kernel
theorem dX0_shareMark_30 : decode cX0_shareMark 30 = .ok (.iconst 1, 1) := by decide +kernel
theorem dX0_shareMark_31 : decode cX0_shareMark 31 = .ok (.goto 4, 3) := by decide +kernel
theorem dX0_shareMark_34 : decode cX0_shareMark 34 = .ok (.iconst 0, 1) := by decide +kernel
theorem dX0_shareMark_35 : decode cX0_shareMark 35 = .ok (.ireturn, 1) := by decide +kernel
theorem dX1_init_0 : decode cX1_init 0 = .ok (.aload_n 0, 1) := by decide +kernel
theorem dX1_init_1 : decode cX1_init 1 = .ok (.invokespecial 3, 3) := by decide +kernel
theorem dX1_init_4 : decode cX1_init 4 = .ok (.aload_n 0, 1) := by decide +kernel
theorem dX1_init_5 : decode cX1_init 5 = .ok (.iconst 0, 1) := by decide +kernel
theorem dX1_init_6 : decode cX1_init 6 = .ok (.putfield 9, 3) := by decide +kernel
theorem dX1_init_9 : decode cX1_init 9 = .ok (.aload_n 0, 1) := by decide +kernel
theorem dX1_init_10 : decode cX1_init 10 = .ok (.bipush 40, 2) := by decide +kernel
theorem dX1_init_12 : decode cX1_init 12 = .ok (.newarray .int, 2) := by decide +kernel
theorem dX1_init_14 : decode cX1_init 14 = .ok (.putfield 15, 3) := by decide +kernel
theorem dX1_init_17 : decode cX1_init 17 = .ok (.aload_n 0, 1) := by decide +kernel
theorem dX1_init_18 : decode cX1_init 18 = .ok (.bipush 40, 2) := by decide +kernel
theorem dX1_init_20 : decode cX1_init 20 = .ok (.newarray .int, 2) := by decide +kernel
theorem dX1_init_22 : decode cX1_init 22 = .ok (.putfield 19, 3) := by decide +kernel
theorem dX1_init_25 : decode cX1_init 25 = .ok (.aload_n 0, 1) := by decide +kernel
theorem dX1_init_26 : decode cX1_init 26 = .ok (.bipush 40, 2) := by decide +kernel
theorem dX1_init_28 : decode cX1_init 28 = .ok (.newarray .int, 2) := by decide +kernel
theorem dX1_init_30 : decode cX1_init 30 = .ok (.putfield 22, 3) := by decide +kernel
theorem dX1_init_33 : decode cX1_init 33 = .ok (.aload_n 0, 1) := by decide +kernel
theorem dX1_init_34 : decode cX1_init 34 = .ok (.bipush 60, 2) := by decide +kernel
theorem dX1_init_36 : decode cX1_init 36 = .ok (.newarray .boolean, 2) := by decide +kernel
theorem dX1_init_38 : decode cX1_init 38 = .ok (.putfield 25, 3) := by decide +kernel
theorem dX1_init_41 : decode cX1_init 41 = .ok (.return_, 1) := by decide +kernel
theorem dX1_add_0 : decode cX1_add 0 = .ok (.aload_n 0, 1) := by decide +kernel
theorem dX1_add_1 : decode cX1_add 1 = .ok (.getfield 15, 3) := by decide +kernel
theorem dX1_add_4 : decode cX1_add 4 = .ok (.aload_n 0, 1) := by decide +kernel
theorem dX1_add_5 : decode cX1_add 5 = .ok (.getfield 9, 3) := by decide +kernel
theorem dX1_add_8 : decode cX1_add 8 = .ok (.iload_n 1, 1) := by decide +kernel
theorem dX1_add_9 : decode cX1_add 9 = .ok (.iastore, 1) := by decide +kernel
theorem dX1_add_10 : decode cX1_add 10 = .ok (.aload_n 0, 1) := by decide +kernel
theorem dX1_add_11 : decode cX1_add 11 = .ok (.getfield 19, 3) := by decide +kernel
theorem dX1_add_14 : decode cX1_add 14 = .ok (.aload_n 0, 1) := by decide +kernel
theorem dX1_add_15 : decode cX1_add 15 = .ok (.getfield 9, 3) := by decide +kernel
theorem dX1_add_18 : decode cX1_add 18 = .ok (.iload_n 2, 1) := by decide +kernel
theorem dX1_add_19 : decode cX1_add 19 = .ok (.iastore, 1) := by decide +kernel
theorem dX1_add_20 : decode cX1_add 20 = .ok (.aload_n 0, 1) := by decide +kernel
theorem dX1_add_21 : decode cX1_add 21 = .ok (.getfield 22, 3) := by decide +kernel
theorem dX1_add_24 : decode cX1_add 24 = .ok (.aload_n 0, 1) := by decide +kernel
theorem dX1_add_25 : decode cX1_add 25 = .ok (.getfield 9, 3) := by decide +kernel
theorem dX1_add_28 : decode cX1_add 28 = .ok (.iload_n 3, 1) := by decide +kernel
theorem dX1_add_29 : decode cX1_add 29 = .ok (.iastore, 1) := by decide +kernel
theorem dX1_add_30 : decode cX1_add 30 = .ok (.aload_n 0, 1) := by decide +kernel
theorem dX1_add_31 : decode cX1_add 31 = .ok (.dup, 1) := by decide +kernel
theorem dX1_add_32 : decode cX1_add 32 = .ok (.getfield 9, 3) := by decide +kernel
theorem dX1_add_35 : decode cX1_add 35 = .ok (.iconst 1, 1) := by decide +kernel
theorem dX1_add_36 : decode cX1_add 36 = .ok (.iadd, 1) := by decide +kernel
theorem dX1_add_37 : decode cX1_add 37 = .ok (.putfield 9, 3) := by decide +kernel
theorem dX1_add_40 : decode cX1_add 40 = .ok (.return_, 1) := by decide +kernel
set_option maxRecDepth 20000 in
theorem ggX1_failFrom_X1_failMore : GoodIn wsX1_failFrom wsX1_failMore := goodIn_r _ [6, 7, 8, 9, 1, 10, 11, 12, 13, 5, 14, 15, 16, 17, 18, 19, 20, 21, 22, 23, 24, 25, 26, 27] (by decide +kernel) (by decide +kernel)
set_option maxRecDepth 20000 in
theorem gX1_failFrom_X1_failMore : GoodIn wsX1_failFrom (wsV RX1 29 RX1 yX1_failMore wsX1_failMore) := goodIn_app (goodIn_of _ (by decide +kernel)) ggX1_failFrom_X1_failMore
theorem dX1_failFrom_0 : decode cX1_failFrom 0 = .ok (.iconst 0, 1) := by decide +kernel
theorem dX1_failFrom_1 : decode cX1_failFrom 1 = .ok (.istore_n 3, 1) := by decide +kernel
theorem dX1_failFrom_2 : decode cX1_failFrom 2 = .ok (.iload_n 3, 1) := by decide +kernel
theorem dX1_failFrom_3 : decode cX1_failFrom 3 = .ok (.bipush 60, 2) := by decide +kernel
theorem dX1_failFrom_5 : decode cX1_failFrom 5 = .ok (.if_icmp .ge 16, 3) := by decide +kernel
theorem dX1_failFrom_8 : decode cX1_failFrom 8 = .ok (.aload_n 0, 1) := by decide +kernel
theorem dX1_failFrom_9 : decode cX1_failFrom 9 = .ok (.getfield 25, 3) := by decide +kernel
theorem dX1_failFrom_12 : decode cX1_failFrom 12 = .ok (.iload_n 3, 1) := by decide +kernel
theorem dX1_failFrom_13 : decode cX1_failFrom 13 = .ok (.iconst 0, 1) := by decide +kernel
theorem dX1_failFrom_14 : decode cX1_failFrom 14 = .ok (.bastore, 1) := by decide +kernel
theorem dX1_failFrom_15 : decode cX1_failFrom 15 = .ok (.iinc 3 1, 3) := by decide +kernel
theorem dX1_failFrom_18 : decode cX1_failFrom 18 = .ok (.goto (-16), 3) := by decide +kernel
theorem dX1_failFrom_21 : decode cX1_failFrom 21 = .ok (.aload_n 0, 1) := by decide +kernel
theorem dX1_failFrom_22 : decode cX1_failFrom 22 = .ok (.getfield 25, 3) := by decide +kernel
theorem dX1_failFrom_25 : decode cX1_failFrom 25 = .ok (.iload_n 1, 1) := by decide +kernel
theorem dX1_failFrom_26 : decode cX1_failFrom 26 = .ok (.iconst 1, 1) := by decide +kernel
theorem dX1_failFrom_27 : decode cX1_failFrom 27 = .ok (.bastore, 1) := by decide +kernel
theorem dX1_failFrom_28 : decode cX1_failFrom 28 = .ok (.iconst 1, 1) := by decide +kernel
theorem dX1_failFrom_29 : decode cX1_failFrom 29 = .ok (.istore_n 3, 1) := by decide +kernel
theorem dX1_failFrom_30 : decode cX1_failFrom 30 = .ok (.iconst 0, 1) := by decide +kernel
theorem dX1_failFrom_31 : decode cX1_failFrom 31 = .ok (.istore 4, 2) := by decide +kernel
theorem dX1_failFrom_33 : decode cX1_failFrom 33 = .ok (.iload_n 3, 1) := by decide +kernel
theorem dX1_failFrom_34 : decode cX1_failFrom 34 = .ok (.ifCond .eq 22, 3) := by decide +kernel
theorem dX1_failFrom_37 : decode cX1_failFrom 37 = .ok (.iload 4, 2) := by decide +kernel
theorem dX1_failFrom_39 : decode cX1_failFrom 39 = .ok (.bipush 60, 2) := by decide +kernel
theorem dX1_failFrom_41 : decode cX1_failFrom 41 = .ok (.if_icmp .ge 15, 3) := by decide +kernel
theorem dX1_failFrom_44 : decode cX1_failFrom 44 = .ok (.aload_n 0, 1) := by decide +kernel
theorem dX1_failFrom_45 : decode cX1_failFrom 45 = .ok (.aload_n 2, 1) := by decide +kernel
theorem dX1_failFrom_46 : decode cX1_failFrom 46 = .ok (.invokevirtual 29, 3) := by decide +kernel
theorem dX1_failFrom_49 : decode cX1_failFrom 49 = .ok (.istore_n 3, 1) := by decide +kernel
theorem dX1_failFrom_50 : decode cX1_failFrom 50 = .ok (.iinc 4 1, 3) := by decide +kernel
theorem dX1_failFrom_53 : decode cX1_failFrom 53 = .ok (.goto (-20), 3) := by decide +kernel
theorem dX1_failFrom_56 : decode cX1_failFrom 56 = .ok (.return_, 1) := by decide +kernel
set_option maxRecDepth 20000 in
theorem ggX1_failMore_X1_holds : GoodIn wsX1_failMore wsX1_holds := goodIn_r _ [10, 2, 3, 11, 21, 22, 23, 16, 17, 18, 19, 20] (by decide +kernel) (by decide +kernel)
set_option maxRecDepth 20000 in
theorem gX1_failMore_X1_holds : GoodIn wsX1_failMore (wsV RX1 38 RX1 yX1_holds wsX1_holds) := goodIn_app (goodIn_of _ (by decide +kernel)) ggX1_failMore_X1_holds
set_option maxRecDepth 20000 in
theorem ggX1_failMore_X1_lost : GoodIn wsX1_failMore wsX1_lost := goodIn_r _ [15, 1, 5, 2, 3, 4, 11, 6, 7, 8, 9, 10, 16, 17, 18, 19, 20, 21, 22, 23] (by decide +kernel) (by decide +kernel)
set_option maxRecDepth 20000 in
theorem gX1_failMore_X1_lost : GoodIn wsX1_failMore (wsV RX1 42 RX1 yX1_lost wsX1_lost) := goodIn_app (goodIn_of _ (by decide +kernel)) ggX1_failMore_X1_lost
theorem dX1_failMore_0 : decode cX1_failMore 0 = .ok (.iconst 0, 1) := by decide +kernel
theorem dX1_failMore_1 : decode cX1_failMore 1 = .ok (.istore_n 2, 1) := by decide +kernel
theorem dX1_failMore_2 : decode cX1_failMore 2 = .ok (.iconst 0, 1) := by decide +kernel
theorem dX1_failMore_3 : decode cX1_failMore 3 = .ok (.istore_n 3, 1) := by decide +kernel
theorem dX1_failMore_4 : decode cX1_failMore 4 = .ok (.iload_n 3, 1) := by decide +kernel
theorem dX1_failMore_5 : decode cX1_failMore 5 = .ok (.aload_n 0, 1) := by decide +kernel
theorem dX1_failMore_6 : decode cX1_failMore 6 = .ok (.getfield 9, 3) := by decide +kernel
theorem dX1_failMore_9 : decode cX1_failMore 9 = .ok (.if_icmp .ge 67, 3) := by decide +kernel
theorem dX1_failMore_12 : decode cX1_failMore 12 = .ok (.aload_n 1, 1) := by decide +kernel
theorem dX1_failMore_13 : decode cX1_failMore 13 = .ok (.getfield 33, 3) := by decide +kernel
theorem dX1_failMore_16 : decode cX1_failMore 16 = .ok (.aload_n 0, 1) := by decide +kernel
theorem dX1_failMore_17 : decode cX1_failMore 17 = .ok (.getfield 15, 3) := by decide +kernel
theorem dX1_failMore_20 : decode cX1_failMore 20 = .ok (.iload_n 3, 1) := by decide +kernel
theorem dX1_failMore_21 : decode cX1_failMore 21 = .ok (.iaload, 1) := by decide +kernel
theorem dX1_failMore_22 : decode cX1_failMore 22 = .ok (.iaload, 1) := by decide +kernel
theorem dX1_failMore_23 : decode cX1_failMore 23 = .ok (.istore 4, 2) := by decide +kernel
theorem dX1_failMore_25 : decode cX1_failMore 25 = .ok (.aload_n 0, 1) := by decide +kernel
theorem dX1_failMore_26 : decode cX1_failMore 26 = .ok (.iload_n 3, 1) := by decide +kernel
theorem dX1_failMore_27 : decode cX1_failMore 27 = .ok (.aload_n 1, 1) := by decide +kernel
theorem dX1_failMore_28 : decode cX1_failMore 28 = .ok (.invokevirtual 38, 3) := by decide +kernel
theorem dX1_failMore_31 : decode cX1_failMore 31 = .ok (.ifCond .eq 39, 3) := by decide +kernel
theorem dX1_failMore_34 : decode cX1_failMore 34 = .ok (.aload_n 0, 1) := by decide +kernel
theorem dX1_failMore_35 : decode cX1_failMore 35 = .ok (.getfield 25, 3) := by decide +kernel
theorem dX1_failMore_38 : decode cX1_failMore 38 = .ok (.iload 4, 2) := by decide +kernel
theorem dX1_failMore_40 : decode cX1_failMore 40 = .ok (.baload, 1) := by decide +kernel
theorem dX1_failMore_41 : decode cX1_failMore 41 = .ok (.ifCond .ne 29, 3) := by decide +kernel
theorem dX1_failMore_44 : decode cX1_failMore 44 = .ok (.aload_n 0, 1) := by decide +kernel
theorem dX1_failMore_45 : decode cX1_failMore 45 = .ok (.iload 4, 2) := by decide +kernel
theorem dX1_failMore_47 : decode cX1_failMore 47 = .ok (.aload_n 0, 1) := by decide +kernel
theorem dX1_failMore_48 : decode cX1_failMore 48 = .ok (.getfield 22, 3) := by decide +kernel
theorem dX1_failMore_51 : decode cX1_failMore 51 = .ok (.iload_n 3, 1) := by decide +kernel
theorem dX1_failMore_52 : decode cX1_failMore 52 = .ok (.iaload, 1) := by decide +kernel
theorem dX1_failMore_53 : decode cX1_failMore 53 = .ok (.aload_n 1, 1) := by decide +kernel
theorem dX1_failMore_54 : decode cX1_failMore 54 = .ok (.invokevirtual 42, 3) := by decide +kernel
theorem dX1_failMore_57 : decode cX1_failMore 57 = .ok (.ifCond .eq 13, 3) := by decide +kernel
theorem dX1_failMore_60 : decode cX1_failMore 60 = .ok (.aload_n 0, 1) := by decide +kernel
theorem dX1_failMore_61 : decode cX1_failMore 61 = .ok (.getfield 25, 3) := by decide +kernel
theorem dX1_failMore_64 : decode cX1_failMore 64 = .ok (.iload 4, 2) := by decide +kernel
theorem dX1_failMore_66 : decode cX1_failMore 66 = .ok (.iconst 1, 1) := by decide +kernel
theorem dX1_failMore_67 : decode cX1_failMore 67 = .ok (.bastore, 1) := by decide +kernel
theorem dX1_failMore_68 : decode cX1_failMore 68 = .ok (.iconst 1, 1) := by decide +kernel
theorem dX1_failMore_69 : decode cX1_failMore 69 = .ok (.istore_n 2, 1) := by decide +kernel
theorem dX1_failMore_70 : decode cX1_failMore 70 = .ok (.iinc 3 1, 3) := by decide +kernel
theorem dX1_failMore_73 : decode cX1_failMore 73 = .ok (.goto (-69), 3) := by decide +kernel
theorem dX1_failMore_76 : decode cX1_failMore 76 = .ok (.iload_n 2, 1) := by decide +kernel
theorem dX1_failMore_77 : decode cX1_failMore 77 = .ok (.ireturn, 1) := by decide +kernel
theorem dX1_holds_0 : decode cX1_holds 0 = .ok (.aload_n 2, 1) := by decide +kernel
theorem dX1_holds_1 : decode cX1_holds 1 = .ok (.getfield 33, 3) := by decide +kernel
theorem dX1_holds_4 : decode cX1_holds 4 = .ok (.aload_n 0, 1) := by decide +kernel
theorem dX1_holds_5 : decode cX1_holds 5 = .ok (.getfield 15, 3) := by decide +kernel
theorem dX1_holds_8 : decode cX1_holds 8 = .ok (.iload_n 1, 1) := by decide +kernel
theorem dX1_holds_9 : decode cX1_holds 9 = .ok (.iaload, 1) := by decide +kernel
theorem dX1_holds_10 : decode cX1_holds 10 = .ok (.iaload, 1) := by decide +kernel
theorem dX1_holds_11 : decode cX1_holds 11 = .ok (.istore_n 3, 1) := by decide +kernel
theorem dX1_holds_12 : decode cX1_holds 12 = .ok (.aload_n 2, 1) := by decide +kernel
theorem dX1_holds_13 : decode cX1_holds 13 = .ok (.getfield 33, 3) := by decide +kernel
theorem dX1_holds_16 : decode cX1_holds 16 = .ok (.aload_n 0, 1) := by decide +kernel
theorem dX1_holds_17 : decode cX1_holds 17 = .ok (.getfield 19, 3) := by decide +kernel
theorem dX1_holds_20 : decode cX1_holds 20 = .ok (.iload_n 1, 1) := by decide +kernel
theorem dX1_holds_21 : decode cX1_holds 21 = .ok (.iaload, 1) := by decide +kernel
theorem dX1_holds_22 : decode cX1_holds 22 = .ok (.iaload, 1) := by decide +kernel
theorem dX1_holds_23 : decode cX1_holds 23 = .ok (.istore 4, 2) := by decide +kernel
theorem dX1_holds_25 : decode cX1_holds 25 = .ok (.iload_n 3, 1) := by decide +kernel
theorem dX1_holds_26 : decode cX1_holds 26 = .ok (.iconst (-1), 1) := by decide +kernel
theorem dX1_holds_27 : decode cX1_holds 27 = .ok (.if_icmp .eq 19, 3) := by decide +kernel
theorem dX1_holds_30 : decode cX1_holds 30 = .ok (.iload 4, 2) := by decide +kernel
theorem dX1_holds_32 : decode cX1_holds 32 = .ok (.iconst (-1), 1) := by decide +kernel
theorem dX1_holds_33 : decode cX1_holds 33 = .ok (.if_icmp .eq 13, 3) := by decide +kernel
theorem dX1_holds_36 : decode cX1_holds 36 = .ok (.iload_n 3, 1) := by decide +kernel
theorem dX1_holds_37 : decode cX1_holds 37 = .ok (.iload 4, 2) := by decide +kernel
theorem dX1_holds_39 : decode cX1_holds 39 = .ok (.if_icmp .eq 7, 3) := by decide +kernel
theorem dX1_holds_42 : decode cX1_holds 42 = .ok (.iconst 1, 1) := by decide +kernel
theorem dX1_holds_43 : decode cX1_holds 43 = .ok (.goto 4, 3) := by decide +kernel
theorem dX1_holds_46 : decode cX1_holds 46 = .ok (.iconst 0, 1) := by decide +kernel
theorem dX1_holds_47 : decode cX1_holds 47 = .ok (.ireturn, 1) := by decide +kernel
set_option maxRecDepth 20000 in
theorem ggX1_lost_X1_holds : GoodIn wsX1_lost wsX1_holds := goodIn_r _ [11, 3, 4, 6, 17, 18, 19, 12, 13, 14, 15, 16] (by decide +kernel) (by decide +kernel)
set_option maxRecDepth 20000 in
theorem gX1_lost_X1_holds : GoodIn wsX1_lost (wsV RX1 38 RX1 yX1_holds wsX1_holds) := goodIn_app (goodIn_of _ (by decide +kernel)) ggX1_lost_X1_holds
theorem dX1_lost_0 : decode cX1_lost 0 = .ok (.iconst 0, 1) := by decide +kernel
theorem dX1_lost_1 : decode cX1_lost 1 = .ok (.istore 4, 2) := by decide +kernel
theorem dX1_lost_3 : decode cX1_lost 3 = .ok (.iload 4, 2) := by decide +kernel
theorem dX1_lost_5 : decode cX1_lost 5 = .ok (.aload_n 0, 1) := by decide +kernel
theorem dX1_lost_6 : decode cX1_lost 6 = .ok (.getfield 9, 3) := by decide +kernel
theorem dX1_lost_9 : decode cX1_lost 9 = .ok (.if_icmp .ge 68, 3) := by decide +kernel
theorem dX1_lost_12 : decode cX1_lost 12 = .ok (.aload_n 0, 1) := by decide +kernel
theorem dX1_lost_13 : decode cX1_lost 13 = .ok (.getfield 22, 3) := by decide +kernel
theorem dX1_lost_16 : decode cX1_lost 16 = .ok (.iload 4, 2) := by decide +kernel
theorem dX1_lost_18 : decode cX1_lost 18 = .ok (.iaload, 1) := by decide +kernel
theorem dX1_lost_19 : decode cX1_lost 19 = .ok (.iload_n 2, 1) := by decide +kernel
theorem dX1_lost_20 : decode cX1_lost 20 = .ok (.if_icmp .ne 51, 3) := by decide +kernel
theorem dX1_lost_23 : decode cX1_lost 23 = .ok (.aload_n 3, 1) := by decide +kernel
theorem dX1_lost_24 : decode cX1_lost 24 = .ok (.getfield 33, 3) := by decide +kernel
theorem dX1_lost_27 : decode cX1_lost 27 = .ok (.aload_n 0, 1) := by decide +kernel
theorem dX1_lost_28 : decode cX1_lost 28 = .ok (.getfield 15, 3) := by decide +kernel
theorem dX1_lost_31 : decode cX1_lost 31 = .ok (.iload 4, 2) := by decide +kernel
theorem dX1_lost_33 : decode cX1_lost 33 = .ok (.iaload, 1) := by decide +kernel
theorem dX1_lost_34 : decode cX1_lost 34 = .ok (.iaload, 1) := by decide +kernel
theorem dX1_lost_35 : decode cX1_lost 35 = .ok (.iload_n 1, 1) := by decide +kernel
theorem dX1_lost_36 : decode cX1_lost 36 = .ok (.if_icmp .ne 35, 3) := by decide +kernel
theorem dX1_lost_39 : decode cX1_lost 39 = .ok (.aload_n 0, 1) := by decide +kernel
theorem dX1_lost_40 : decode cX1_lost 40 = .ok (.iload 4, 2) := by decide +kernel
theorem dX1_lost_42 : decode cX1_lost 42 = .ok (.aload_n 3, 1) := by decide +kernel
theorem dX1_lost_43 : decode cX1_lost 43 = .ok (.invokevirtual 38, 3) := by decide +kernel
theorem dX1_lost_46 : decode cX1_lost 46 = .ok (.ifCond .eq 25, 3) := by decide +kernel
theorem dX1_lost_49 : decode cX1_lost 49 = .ok (.aload_n 0, 1) := by decide +kernel
theorem dX1_lost_50 : decode cX1_lost 50 = .ok (.getfield 25, 3) := by decide +kernel
theorem dX1_lost_53 : decode cX1_lost 53 = .ok (.aload_n 3, 1) := by decide +kernel
theorem dX1_lost_54 : decode cX1_lost 54 = .ok (.getfield 33, 3) := by decide +kernel
theorem dX1_lost_57 : decode cX1_lost 57 = .ok (.aload_n 0, 1) := by decide +kernel
theorem dX1_lost_58 : decode cX1_lost 58 = .ok (.getfield 19, 3) := by decide +kernel
theorem dX1_lost_61 : decode cX1_lost 61 = .ok (.iload 4, 2) := by decide +kernel
theorem dX1_lost_63 : decode cX1_lost 63 = .ok (.iaload, 1) := by decide +kernel
theorem dX1_lost_64 : decode cX1_lost 64 = .ok (.iaload, 1) := by decide +kernel
theorem dX1_lost_65 : decode cX1_lost 65 = .ok (.baload, 1) := by decide +kernel
theorem dX1_lost_66 : decode cX1_lost 66 = .ok (.ifCond .ne 5, 3) := by decide +kernel
theorem dX1_lost_69 : decode cX1_lost 69 = .ok (.iconst 0, 1) := by decide +kernel
theorem dX1_lost_70 : decode cX1_lost 70 = .ok (.ireturn, 1) := by decide +kernel
theorem dX1_lost_71 : decode cX1_lost 71 = .ok (.iinc 4 1, 3) := by decide +kernel
theorem dX1_lost_74 : decode cX1_lost 74 = .ok (.goto (-71), 3) := by decide +kernel
theorem dX1_lost_77 : decode cX1_lost 77 = .ok (.iconst 1, 1) := by decide +kernel
theorem dX1_lost_78 : decode cX1_lost 78 = .ok (.ireturn, 1) := by decide +kernel
theorem dX1_failures_0 : decode cX1_failures 0 = .ok (.iconst 0, 1) := by decide +kernel
theorem dX1_failures_1 : decode cX1_failures 1 = .ok (.istore_n 1, 1) := by decide +kernel
theorem dX1_failures_2 : decode cX1_failures 2 = .ok (.iconst 0, 1) := by decide +kernel
theorem dX1_failures_3 : decode cX1_failures 3 = .ok (.istore_n 2, 1) := by decide +kernel
theorem dX1_failures_4 : decode cX1_failures 4 = .ok (.iload_n 2, 1) := by decide +kernel
theorem dX1_failures_5 : decode cX1_failures 5 = .ok (.bipush 60, 2) := by decide +kernel
theorem dX1_failures_7 : decode cX1_failures 7 = .ok (.if_icmp .ge 21, 3) := by decide +kernel
theorem dX1_failures_10 : decode cX1_failures 10 = .ok (.aload_n 0, 1) := by decide +kernel
theorem dX1_failures_11 : decode cX1_failures 11 = .ok (.getfield 25, 3) := by decide +kernel
theorem dX1_failures_14 : decode cX1_failures 14 = .ok (.iload_n 2, 1) := by decide +kernel
theorem dX1_failures_15 : decode cX1_failures 15 = .ok (.baload, 1) := by decide +kernel
theorem dX1_failures_16 : decode cX1_failures 16 = .ok (.ifCond .eq 6, 3) := by decide +kernel
theorem dX1_failures_19 : decode cX1_failures 19 = .ok (.iinc 1 1, 3) := by decide +kernel
theorem dX1_failures_22 : decode cX1_failures 22 = .ok (.iinc 2 1, 3) := by decide +kernel
theorem dX1_failures_25 : decode cX1_failures 25 = .ok (.goto (-21), 3) := by decide +kernel
theorem dX1_failures_28 : decode cX1_failures 28 = .ok (.iload_n 1, 1) := by decide +kernel
theorem dX1_failures_29 : decode cX1_failures 29 = .ok (.ireturn, 1) := by decide +kernel
theorem dX2_init_0 : decode cX2_init 0 = .ok (.aload_n 0, 1) := by decide +kernel
theorem dX2_init_1 : decode cX2_init 1 = .ok (.invokespecial 3, 3) := by decide +kernel
theorem dX2_init_4 : decode cX2_init 4 = .ok (.aload_n 0, 1) := by decide +kernel
theorem dX2_init_5 : decode cX2_init 5 = .ok (.iconst 4, 1) := by decide +kernel
theorem dX2_init_6 : decode cX2_init 6 = .ok (.newarray .int, 2) := by decide +kernel
theorem dX2_init_8 : decode cX2_init 8 = .ok (.putfield 9, 3) := by decide +kernel
theorem dX2_init_11 : decode cX2_init 11 = .ok (.aload_n 0, 1) := by decide +kernel
theorem dX2_init_12 : decode cX2_init 12 = .ok (.iconst 4, 1) := by decide +kernel
theorem dX2_init_13 : decode cX2_init 13 = .ok (.newarray .int, 2) := by decide +kernel
theorem dX2_init_15 : decode cX2_init 15 = .ok (.putfield 15, 3) := by decide +kernel
theorem dX2_init_18 : decode cX2_init 18 = .ok (.iconst 0, 1) := by decide +kernel
theorem dX2_init_19 : decode cX2_init 19 = .ok (.istore_n 1, 1) := by decide +kernel
theorem dX2_init_20 : decode cX2_init 20 = .ok (.iload_n 1, 1) := by decide +kernel
theorem dX2_init_21 : decode cX2_init 21 = .ok (.iconst 4, 1) := by decide +kernel
theorem dX2_init_22 : decode cX2_init 22 = .ok (.if_icmp .ge 24, 3) := by decide +kernel
theorem dX2_init_25 : decode cX2_init 25 = .ok (.aload_n 0, 1) := by decide +kernel
theorem dX2_init_26 : decode cX2_init 26 = .ok (.getfield 9, 3) := by decide +kernel
theorem dX2_init_29 : decode cX2_init 29 = .ok (.iload_n 1, 1) := by decide +kernel
theorem dX2_init_30 : decode cX2_init 30 = .ok (.bipush 30, 2) := by decide +kernel
theorem dX2_init_32 : decode cX2_init 32 = .ok (.iastore, 1) := by decide +kernel
theorem dX2_init_33 : decode cX2_init 33 = .ok (.aload_n 0, 1) := by decide +kernel
theorem dX2_init_34 : decode cX2_init 34 = .ok (.getfield 15, 3) := by decide +kernel
theorem dX2_init_37 : decode cX2_init 37 = .ok (.iload_n 1, 1) := by decide +kernel
theorem dX2_init_38 : decode cX2_init 38 = .ok (.iload_n 1, 1) := by decide +kernel
theorem dX2_init_39 : decode cX2_init 39 = .ok (.iastore, 1) := by decide +kernel
theorem dX2_init_40 : decode cX2_init 40 = .ok (.iinc 1 1, 3) := by decide +kernel
theorem dX2_init_43 : decode cX2_init 43 = .ok (.goto (-23), 3) := by decide +kernel
theorem dX2_init_46 : decode cX2_init 46 = .ok (.return_, 1) := by decide +kernel
theorem dX2_moveToFront_0 : decode cX2_moveToFront 0 = .ok (.aload_n 0, 1) := by decide +kernel
theorem dX2_moveToFront_1 : decode cX2_moveToFront 1 = .ok (.getfield 15, 3) := by decide +kernel
theorem dX2_moveToFront_4 : decode cX2_moveToFront 4 = .ok (.iload_n 1, 1) := by decide +kernel
theorem dX2_moveToFront_5 : decode cX2_moveToFront 5 = .ok (.iaload, 1) := by decide +kernel
theorem dX2_moveToFront_6 : decode cX2_moveToFront 6 = .ok (.istore_n 2, 1) := by decide +kernel
theorem dX2_moveToFront_7 : decode cX2_moveToFront 7 = .ok (.iconst 0, 1) := by decide +kernel
theorem dX2_moveToFront_8 : decode cX2_moveToFront 8 = .ok (.istore_n 3, 1) := by decide +kernel
theorem dX2_moveToFront_9 : decode cX2_moveToFront 9 = .ok (.iload_n 3, 1) := by decide +kernel
theorem dX2_moveToFront_10 : decode cX2_moveToFront 10 = .ok (.iconst 4, 1) := by decide +kernel
theorem dX2_moveToFront_11 : decode cX2_moveToFront 11 = .ok (.if_icmp .ge 29, 3) := by decide +kernel
theorem dX2_moveToFront_14 : decode cX2_moveToFront 14 = .ok (.aload_n 0, 1) := by decide +kernel
theorem dX2_moveToFront_15 : decode cX2_moveToFront 15 = .ok (.getfield 15, 3) := by decide +kernel
theorem dX2_moveToFront_18 : decode cX2_moveToFront 18 = .ok (.iload_n 3, 1) := by decide +kernel
theorem dX2_moveToFront_19 : decode cX2_moveToFront 19 = .ok (.iaload, 1) := by decide +kernel
theorem dX2_moveToFront_20 : decode cX2_moveToFront 20 = .ok (.iload_n 2, 1) := by decide +kernel
theorem dX2_moveToFront_21 : decode cX2_moveToFront 21 = .ok (.if_icmp .ge 13, 3) := by decide +kernel
theorem dX2_moveToFront_24 : decode cX2_moveToFront 24 = .ok (.aload_n 0, 1) := by decide +kernel
theorem dX2_moveToFront_25 : decode cX2_moveToFront 25 = .ok (.getfield 15, 3) := by decide +kernel
theorem dX2_moveToFront_28 : decode cX2_moveToFront 28 = .ok (.iload_n 3, 1) := by decide +kernel
theorem dX2_moveToFront_29 : decode cX2_moveToFront 29 = .ok (.dup2, 1) := by decide +kernel
theorem dX2_moveToFront_30 : decode cX2_moveToFront 30 = .ok (.iaload, 1) := by decide +kernel
theorem dX2_moveToFront_31 : decode cX2_moveToFront 31 = .ok (.iconst 1, 1) := by decide +kernel
theorem dX2_moveToFront_32 : decode cX2_moveToFront 32 = .ok (.iadd, 1) := by decide +kernel
theorem dX2_moveToFront_33 : decode cX2_moveToFront 33 = .ok (.iastore, 1) := by decide +kernel
theorem dX2_moveToFront_34 : decode cX2_moveToFront 34 = .ok (.iinc 3 1, 3) := by decide +kernel
theorem dX2_moveToFront_37 : decode cX2_moveToFront 37 = .ok (.goto (-28), 3) := by decide +kernel
theorem dX2_moveToFront_40 : decode cX2_moveToFront 40 = .ok (.aload_n 0, 1) := by decide +kernel
theorem dX2_moveToFront_41 : decode cX2_moveToFront 41 = .ok (.getfield 15, 3) := by decide +kernel
theorem dX2_moveToFront_44 : decode cX2_moveToFront 44 = .ok (.iload_n 1, 1) := by decide +kernel
theorem dX2_moveToFront_45 : decode cX2_moveToFront 45 = .ok (.iconst 0, 1) := by decide +kernel
theorem dX2_moveToFront_46 : decode cX2_moveToFront 46 = .ok (.iastore, 1) := by decide +kernel
theorem dX2_moveToFront_47 : decode cX2_moveToFront 47 = .ok (.iload_n 2, 1) := by decide +kernel
theorem dX2_moveToFront_48 : decode cX2_moveToFront 48 = .ok (.ireturn, 1) := by decide +kernel
theorem dX3_init_0 : decode cX3_init 0 = .ok (.aload_n 0, 1) := by decide +kernel
theorem dX3_init_1 : decode cX3_init 1 = .ok (.invokespecial 3, 3) := by decide +kernel
theorem dX3_init_4 : decode cX3_init 4 = .ok (.aload_n 0, 1) := by decide +kernel
theorem dX3_init_5 : decode cX3_init 5 = .ok (.bipush 60, 2) := by decide +kernel
theorem dX3_init_7 : decode cX3_init 7 = .ok (.newarray .int, 2) := by decide +kernel
theorem dX3_init_9 : decode cX3_init 9 = .ok (.putfield 9, 3) := by decide +kernel
theorem dX3_init_12 : decode cX3_init 12 = .ok (.aload_n 0, 1) := by decide +kernel
theorem dX3_init_13 : decode cX3_init 13 = .ok (.aload_n 1, 1) := by decide +kernel
theorem dX3_init_14 : decode cX3_init 14 = .ok (.putfield 15, 3) := by decide +kernel
theorem dX3_init_17 : decode cX3_init 17 = .ok (.aload_n 0, 1) := by decide +kernel
theorem dX3_init_18 : decode cX3_init 18 = .ok (.aload_n 2, 1) := by decide +kernel
theorem dX3_init_19 : decode cX3_init 19 = .ok (.putfield 19, 3) := by decide +kernel
theorem dX3_init_22 : decode cX3_init 22 = .ok (.return_, 1) := by decide +kernel
set_option maxRecDepth 20000 in
theorem ggX3_sortFor_X0_standsOn : GoodIn wsX3_sortFor wsX0_standsOn := goodIn_r _ [9, 10, 11, 12, 13, 47, 48, 49, 50, 51, 52, 53, 54, 55] (by decide +kernel) (by decide +kernel)
set_option maxRecDepth 20000 in
theorem gX3_sortFor_X0_standsOn : GoodIn wsX3_sortFor (wsV RX3 29 RX0 yX0_standsOn wsX0_standsOn) := goodIn_app (goodIn_of _ (by decide +kernel)) ggX3_sortFor_X0_standsOn
set_option maxRecDepth 20000 in
theorem ggX3_sortFor_X3_joinToEarlier : GoodIn wsX3_sortFor wsX3_joinToEarlier := goodIn_r _ [18, 3, 1, 19, 20, 21, 8, 22, 23, 24, 25, 26, 27, 28, 29, 30, 31, 32, 33, 34, 35, 17, 36, 37, 38, 39, 40, 41, 42, 43, 2, 44, 45, 46, 47, 48, 49, 50, 51, 52, 53] (by decide +kernel) (by decide +kernel)
set_option maxRecDepth 20000 in
theorem gX3_sortFor_X3_joinToEarlier : GoodIn wsX3_sortFor (wsV RX3 33 RX3 yX3_joinToEarlier wsX3_joinToEarlier) := goodIn_app (goodIn_of _ (by decide +kernel)) ggX3_sortFor_X3_joinToEarlier
theorem dX3_sortFor_0 : decode cX3_sortFor 0 = .ok (.iconst 0, 1) := by decide +kernel
theorem dX3_sortFor_1 : decode cX3_sortFor 1 = .ok (.istore_n 2, 1) := by decide +kernel
theorem dX3_sortFor_2 : decode cX3_sortFor 2 = .ok (.iload_n 2, 1) := by decide +kernel
theorem dX3_sortFor_3 : decode cX3_sortFor 3 = .ok (.aload_n 0, 1) := by decide +kernel
theorem dX3_sortFor_4 : decode cX3_sortFor 4 = .ok (.getfield 15, 3) := by decide +kernel
theorem dX3_sortFor_7 : decode cX3_sortFor 7 = .ok (.getfield 23, 3) := by decide +kernel
theorem dX3_sortFor_10 : decode cX3_sortFor 10 = .ok (.if_icmp .ge 36, 3) := by decide +kernel
theorem dX3_sortFor_13 : decode cX3_sortFor 13 = .ok (.aload_n 0, 1) := by decide +kernel
theorem dX3_sortFor_14 : decode cX3_sortFor 14 = .ok (.getfield 9, 3) := by decide +kernel
theorem dX3_sortFor_17 : decode cX3_sortFor 17 = .ok (.iload_n 2, 1) := by decide +kernel
theorem dX3_sortFor_18 : decode cX3_sortFor 18 = .ok (.aload_n 0, 1) := by decide +kernel
theorem dX3_sortFor_19 : decode cX3_sortFor 19 = .ok (.getfield 15, 3) := by decide +kernel
theorem dX3_sortFor_22 : decode cX3_sortFor 22 = .ok (.iload_n 2, 1) := by decide +kernel
theorem dX3_sortFor_23 : decode cX3_sortFor 23 = .ok (.iload_n 1, 1) := by decide +kernel
theorem dX3_sortFor_24 : decode cX3_sortFor 24 = .ok (.aload_n 0, 1) := by decide +kernel
theorem dX3_sortFor_25 : decode cX3_sortFor 25 = .ok (.getfield 19, 3) := by decide +kernel
theorem dX3_sortFor_28 : decode cX3_sortFor 28 = .ok (.invokevirtual 29, 3) := by decide +kernel
theorem dX3_sortFor_31 : decode cX3_sortFor 31 = .ok (.ifCond .eq 7, 3) := by decide +kernel
theorem dX3_sortFor_34 : decode cX3_sortFor 34 = .ok (.iload_n 2, 1) := by decide +kernel
theorem dX3_sortFor_35 : decode cX3_sortFor 35 = .ok (.goto 4, 3) := by decide +kernel
theorem dX3_sortFor_38 : decode cX3_sortFor 38 = .ok (.iconst (-1), 1) := by decide +kernel
theorem dX3_sortFor_39 : decode cX3_sortFor 39 = .ok (.iastore, 1) := by decide +kernel
theorem dX3_sortFor_40 : decode cX3_sortFor 40 = .ok (.iinc 2 1, 3) := by decide +kernel
theorem dX3_sortFor_43 : decode cX3_sortFor 43 = .ok (.goto (-41), 3) := by decide +kernel
theorem dX3_sortFor_46 : decode cX3_sortFor 46 = .ok (.iconst 1, 1) := by decide +kernel
theorem dX3_sortFor_47 : decode cX3_sortFor 47 = .ok (.istore_n 2, 1) := by decide +kernel
theorem dX3_sortFor_48 : decode cX3_sortFor 48 = .ok (.iload_n 2, 1) := by decide +kernel
theorem dX3_sortFor_49 : decode cX3_sortFor 49 = .ok (.aload_n 0, 1) := by decide +kernel
theorem dX3_sortFor_50 : decode cX3_sortFor 50 = .ok (.getfield 15, 3) := by decide +kernel
theorem dX3_sortFor_53 : decode cX3_sortFor 53 = .ok (.getfield 23, 3) := by decide +kernel
theorem dX3_sortFor_56 : decode cX3_sortFor 56 = .ok (.if_icmp .ge 24, 3) := by decide +kernel
theorem dX3_sortFor_59 : decode cX3_sortFor 59 = .ok (.aload_n 0, 1) := by decide +kernel
theorem dX3_sortFor_60 : decode cX3_sortFor 60 = .ok (.getfield 9, 3) := by decide +kernel
theorem dX3_sortFor_63 : decode cX3_sortFor 63 = .ok (.iload_n 2, 1) := by decide +kernel
theorem dX3_sortFor_64 : decode cX3_sortFor 64 = .ok (.iaload, 1) := by decide +kernel
theorem dX3_sortFor_65 : decode cX3_sortFor 65 = .ok (.iconst (-1), 1) := by decide +kernel
theorem dX3_sortFor_66 : decode cX3_sortFor 66 = .ok (.if_icmp .eq 8, 3) := by decide +kernel
theorem dX3_sortFor_69 : decode cX3_sortFor 69 = .ok (.aload_n 0, 1) := by decide +kernel
theorem dX3_sortFor_70 : decode cX3_sortFor 70 = .ok (.iload_n 2, 1) := by decide +kernel
theorem dX3_sortFor_71 : decode cX3_sortFor 71 = .ok (.invokevirtual 33, 3) := by decide +kernel
theorem dX3_sortFor_74 : decode cX3_sortFor 74 = .ok (.iinc 2 1, 3) := by decide +kernel
theorem dX3_sortFor_77 : decode cX3_sortFor 77 = .ok (.goto (-29), 3) := by decide +kernel
theorem dX3_sortFor_80 : decode cX3_sortFor 80 = .ok (.return_, 1) := by decide +kernel
set_option maxRecDepth 20000 in
theorem ggX3_joinToEarlier_X0_joined : GoodIn wsX3_joinToEarlier wsX0_joined := goodIn_r _ [7, 8, 9, 10, 11, 6, 12, 13, 14, 15, 16, 17, 34, 35, 36, 37, 38, 39, 40] (by decide +kernel) (by decide +kernel)
set_option maxRecDepth 20000 in
theorem gX3_joinToEarlier_X0_joined : GoodIn wsX3_joinToEarlier (wsV RX3 37 RX0 yX0_joined wsX0_joined) := goodIn_app (goodIn_of _ (by decide +kernel)) ggX3_joinToEarlier_X0_joined
set_option maxRecDepth 20000 in
theorem ggX3_joinToEarlier_X3_merge : GoodIn wsX3_joinToEarlier wsX3_merge := goodIn_r _ [22, 23, 24, 25, 26, 27, 28, 29, 2, 30, 1, 31, 32, 33, 34, 35, 36, 37, 38, 39, 40] (by decide +kernel) (by decide +kernel)
set_option maxRecDepth 20000 in
theorem gX3_joinToEarlier_X3_merge : GoodIn wsX3_joinToEarlier (wsV RX3 41 RX3 yX3_merge wsX3_merge) := goodIn_app (goodIn_of _ (by decide +kernel)) ggX3_joinToEarlier_X3_merge
theorem dX3_joinToEarlier_0 : decode cX3_joinToEarlier 0 = .ok (.iconst 0, 1) := by decide +kernel
theorem dX3_joinToEarlier_1 : decode cX3_joinToEarlier 1 = .ok (.istore_n 2, 1) := by decide +kernel
theorem dX3_joinToEarlier_2 : decode cX3_joinToEarlier 2 = .ok (.iload_n 2, 1) := by decide +kernel
theorem dX3_joinToEarlier_3 : decode cX3_joinToEarlier 3 = .ok (.iload_n 1, 1) := by decide +kernel
theorem dX3_joinToEarlier_4 : decode cX3_joinToEarlier 4 = .ok (.if_icmp .ge 62, 3) := by decide +kernel
theorem dX3_joinToEarlier_7 : decode cX3_joinToEarlier 7 = .ok (.aload_n 0, 1) := by decide +kernel
theorem dX3_joinToEarlier_8 : decode cX3_joinToEarlier 8 = .ok (.getfield 9, 3) := by decide +kernel
theorem dX3_joinToEarlier_11 : decode cX3_joinToEarlier 11 = .ok (.iload_n 2, 1) := by decide +kernel
theorem dX3_joinToEarlier_12 : decode cX3_joinToEarlier 12 = .ok (.iaload, 1) := by decide +kernel
theorem dX3_joinToEarlier_13 : decode cX3_joinToEarlier 13 = .ok (.iconst (-1), 1) := by decide +kernel
theorem dX3_joinToEarlier_14 : decode cX3_joinToEarlier 14 = .ok (.if_icmp .eq 46, 3) := by decide +kernel
theorem dX3_joinToEarlier_17 : decode cX3_joinToEarlier 17 = .ok (.aload_n 0, 1) := by decide +kernel
theorem dX3_joinToEarlier_18 : decode cX3_joinToEarlier 18 = .ok (.getfield 9, 3) := by decide +kernel
theorem dX3_joinToEarlier_21 : decode cX3_joinToEarlier 21 = .ok (.iload_n 2, 1) := by decide +kernel
theorem dX3_joinToEarlier_22 : decode cX3_joinToEarlier 22 = .ok (.iaload, 1) := by decide +kernel
theorem dX3_joinToEarlier_23 : decode cX3_joinToEarlier 23 = .ok (.aload_n 0, 1) := by decide +kernel
theorem dX3_joinToEarlier_24 : decode cX3_joinToEarlier 24 = .ok (.getfield 9, 3) := by decide +kernel
theorem dX3_joinToEarlier_27 : decode cX3_joinToEarlier 27 = .ok (.iload_n 1, 1) := by decide +kernel
theorem dX3_joinToEarlier_28 : decode cX3_joinToEarlier 28 = .ok (.iaload, 1) := by decide +kernel
theorem dX3_joinToEarlier_29 : decode cX3_joinToEarlier 29 = .ok (.if_icmp .eq 31, 3) := by decide +kernel
theorem dX3_joinToEarlier_32 : decode cX3_joinToEarlier 32 = .ok (.aload_n 0, 1) := by decide +kernel
theorem dX3_joinToEarlier_33 : decode cX3_joinToEarlier 33 = .ok (.getfield 15, 3) := by decide +kernel
theorem dX3_joinToEarlier_36 : decode cX3_joinToEarlier 36 = .ok (.iload_n 2, 1) := by decide +kernel
theorem dX3_joinToEarlier_37 : decode cX3_joinToEarlier 37 = .ok (.iload_n 1, 1) := by decide +kernel
theorem dX3_joinToEarlier_38 : decode cX3_joinToEarlier 38 = .ok (.invokevirtual 37, 3) := by decide +kernel
theorem dX3_joinToEarlier_41 : decode cX3_joinToEarlier 41 = .ok (.ifCond .eq 19, 3) := by decide +kernel
theorem dX3_joinToEarlier_44 : decode cX3_joinToEarlier 44 = .ok (.aload_n 0, 1) := by decide +kernel
theorem dX3_joinToEarlier_45 : decode cX3_joinToEarlier 45 = .ok (.aload_n 0, 1) := by decide +kernel
theorem dX3_joinToEarlier_46 : decode cX3_joinToEarlier 46 = .ok (.getfield 9, 3) := by decide +kernel
theorem dX3_joinToEarlier_49 : decode cX3_joinToEarlier 49 = .ok (.iload_n 2, 1) := by decide +kernel
theorem dX3_joinToEarlier_50 : decode cX3_joinToEarlier 50 = .ok (.iaload, 1) := by decide +kernel
theorem dX3_joinToEarlier_51 : decode cX3_joinToEarlier 51 = .ok (.aload_n 0, 1) := by decide +kernel
theorem dX3_joinToEarlier_52 : decode cX3_joinToEarlier 52 = .ok (.getfield 9, 3) := by decide +kernel
theorem dX3_joinToEarlier_55 : decode cX3_joinToEarlier 55 = .ok (.iload_n 1, 1) := by decide +kernel
theorem dX3_joinToEarlier_56 : decode cX3_joinToEarlier 56 = .ok (.iaload, 1) := by decide +kernel
theorem dX3_joinToEarlier_57 : decode cX3_joinToEarlier 57 = .ok (.invokevirtual 41, 3) := by decide +kernel
theorem dX3_joinToEarlier_60 : decode cX3_joinToEarlier 60 = .ok (.iinc 2 1, 3) := by decide +kernel
theorem dX3_joinToEarlier_63 : decode cX3_joinToEarlier 63 = .ok (.goto (-61), 3) := by decide +kernel
theorem dX3_joinToEarlier_66 : decode cX3_joinToEarlier 66 = .ok (.return_, 1) := by decide +kernel
theorem dX3_merge_0 : decode cX3_merge 0 = .ok (.iload_n 1, 1) := by decide +kernel
theorem dX3_merge_1 : decode cX3_merge 1 = .ok (.iload_n 2, 1) := by decide +kernel
theorem dX3_merge_2 : decode cX3_merge 2 = .ok (.invokestatic 45, 3) := by decide +kernel
theorem dX3_merge_5 : decode cX3_merge 5 = .ok (.istore_n 3, 1) := by decide +kernel
theorem dX3_merge_6 : decode cX3_merge 6 = .ok (.iload_n 1, 1) := by decide +kernel
theorem dX3_merge_7 : decode cX3_merge 7 = .ok (.iload_n 2, 1) := by decide +kernel
theorem dX3_merge_8 : decode cX3_merge 8 = .ok (.invokestatic 51, 3) := by decide +kernel
theorem dX3_merge_11 : decode cX3_merge 11 = .ok (.istore 4, 2) := by decide +kernel
theorem dX3_merge_13 : decode cX3_merge 13 = .ok (.iconst 0, 1) := by decide +kernel
theorem dX3_merge_14 : decode cX3_merge 14 = .ok (.istore 5, 2) := by decide +kernel
theorem dX3_merge_16 : decode cX3_merge 16 = .ok (.iload 5, 2) := by decide +kernel
theorem dX3_merge_18 : decode cX3_merge 18 = .ok (.aload_n 0, 1) := by decide +kernel
theorem dX3_merge_19 : decode cX3_merge 19 = .ok (.getfield 15, 3) := by decide +kernel
theorem dX3_merge_22 : decode cX3_merge 22 = .ok (.getfield 23, 3) := by decide +kernel
theorem dX3_merge_25 : decode cX3_merge 25 = .ok (.if_icmp .ge 29, 3) := by decide +kernel
theorem dX3_merge_28 : decode cX3_merge 28 = .ok (.aload_n 0, 1) := by decide +kernel
theorem dX3_merge_29 : decode cX3_merge 29 = .ok (.getfield 9, 3) := by decide +kernel
theorem dX3_merge_32 : decode cX3_merge 32 = .ok (.iload 5, 2) := by decide +kernel
theorem dX3_merge_34 : decode cX3_merge 34 = .ok (.iaload, 1) := by decide +kernel
theorem dX3_merge_35 : decode cX3_merge 35 = .ok (.iload 4, 2) := by decide +kernel
theorem dX3_merge_37 : decode cX3_merge 37 = .ok (.if_icmp .ne 11, 3) := by decide +kernel
theorem dX3_merge_40 : decode cX3_merge 40 = .ok (.aload_n 0, 1) := by decide +kernel
theorem dX3_merge_41 : decode cX3_merge 41 = .ok (.getfield 9, 3) := by decide +kernel
theorem dX3_merge_44 : decode cX3_merge 44 = .ok (.iload 5, 2) := by decide +kernel
theorem dX3_merge_46 : decode cX3_merge 46 = .ok (.iload_n 3, 1) := by decide +kernel
theorem dX3_merge_47 : decode cX3_merge 47 = .ok (.iastore, 1) := by decide +kernel
theorem dX3_merge_48 : decode cX3_merge 48 = .ok (.iinc 5 1, 3) := by decide +kernel
theorem dX3_merge_51 : decode cX3_merge 51 = .ok (.goto (-35), 3) := by decide +kernel
theorem dX3_merge_54 : decode cX3_merge 54 = .ok (.return_, 1) := by decide +kernel
theorem dX3_isThing_0 : decode cX3_isThing 0 = .ok (.aload_n 0, 1) := by decide +kernel
theorem dX3_isThing_1 : decode cX3_isThing 1 = .ok (.getfield 9, 3) := by decide +kernel
theorem dX3_isThing_4 : decode cX3_isThing 4 = .ok (.iload_n 1, 1) := by decide +kernel
theorem dX3_isThing_5 : decode cX3_isThing 5 = .ok (.iaload, 1) := by decide +kernel
theorem dX3_isThing_6 : decode cX3_isThing 6 = .ok (.iload_n 1, 1) := by decide +kernel
theorem dX3_isThing_7 : decode cX3_isThing 7 = .ok (.if_icmp .ne 7, 3) := by decide +kernel
theorem dX3_isThing_10 : decode cX3_isThing 10 = .ok (.iconst 1, 1) := by decide +kernel
theorem dX3_isThing_11 : decode cX3_isThing 11 = .ok (.goto 4, 3) := by decide +kernel
theorem dX3_isThing_14 : decode cX3_isThing 14 = .ok (.iconst 0, 1) := by decide +kernel
theorem dX3_isThing_15 : decode cX3_isThing 15 = .ok (.ireturn, 1) := by decide +kernel
set_option maxRecDepth 20000 in
theorem ggX3_attributeOf_X3_tells : GoodIn wsX3_attributeOf wsX3_tells := goodIn_r _ [8, 9, 1, 3, 17, 18, 19, 20, 21, 22, 23, 24, 25, 26] (by decide +kernel) (by decide +kernel)
set_option maxRecDepth 20000 in
theorem gX3_attributeOf_X3_tells : GoodIn wsX3_attributeOf (wsV RX3 54 RX3 yX3_tells wsX3_tells) := goodIn_app (goodIn_of _ (by decide +kernel)) ggX3_attributeOf_X3_tells
set_option maxRecDepth 20000 in
theorem ggX3_attributeOf_X3_goesBefore : GoodIn wsX3_attributeOf wsX3_goesBefore := goodIn_r _ [13, 14, 15, 1, 16, 17, 18, 19, 27, 28, 20, 21, 22, 23, 24, 25, 26] (by decide +kernel) (by decide +kernel)
set_option maxRecDepth 20000 in
theorem gX3_attributeOf_X3_goesBefore : GoodIn wsX3_attributeOf (wsV RX3 58 RX3 yX3_goesBefore wsX3_goesBefore) := goodIn_app (goodIn_of _ (by decide +kernel)) ggX3_attributeOf_X3_goesBefore
theorem dX3_attributeOf_0 : decode cX3_attributeOf 0 = .ok (.iconst (-1), 1) := by decide +kernel
theorem dX3_attributeOf_1 : decode cX3_attributeOf 1 = .ok (.istore_n 3, 1) := by decide +kernel
theorem dX3_attributeOf_2 : decode cX3_attributeOf 2 = .ok (.iconst 0, 1) := by decide +kernel
theorem dX3_attributeOf_3 : decode cX3_attributeOf 3 = .ok (.istore 4, 2) := by decide +kernel
theorem dX3_attributeOf_5 : decode cX3_attributeOf 5 = .ok (.iload 4, 2) := by decide +kernel
theorem dX3_attributeOf_7 : decode cX3_attributeOf 7 = .ok (.aload_n 0, 1) := by decide +kernel
theorem dX3_attributeOf_8 : decode cX3_attributeOf 8 = .ok (.getfield 15, 3) := by decide +kernel
theorem dX3_attributeOf_11 : decode cX3_attributeOf 11 = .ok (.getfield 23, 3) := by decide +kernel
theorem dX3_attributeOf_14 : decode cX3_attributeOf 14 = .ok (.if_icmp .ge 38, 3) := by decide +kernel
theorem dX3_attributeOf_17 : decode cX3_attributeOf 17 = .ok (.aload_n 0, 1) := by decide +kernel
theorem dX3_attributeOf_18 : decode cX3_attributeOf 18 = .ok (.iload_n 1, 1) := by decide +kernel
theorem dX3_attributeOf_19 : decode cX3_attributeOf 19 = .ok (.iload_n 2, 1) := by decide +kernel
theorem dX3_attributeOf_20 : decode cX3_attributeOf 20 = .ok (.iload 4, 2) := by decide +kernel
theorem dX3_attributeOf_22 : decode cX3_attributeOf 22 = .ok (.invokevirtual 54, 3) := by decide +kernel
theorem dX3_attributeOf_25 : decode cX3_attributeOf 25 = .ok (.ifCond .eq 21, 3) := by decide +kernel
theorem dX3_attributeOf_28 : decode cX3_attributeOf 28 = .ok (.iload_n 3, 1) := by decide +kernel
theorem dX3_attributeOf_29 : decode cX3_attributeOf 29 = .ok (.iconst (-1), 1) := by decide +kernel
theorem dX3_attributeOf_30 : decode cX3_attributeOf 30 = .ok (.if_icmp .eq 13, 3) := by decide +kernel
theorem dX3_attributeOf_33 : decode cX3_attributeOf 33 = .ok (.aload_n 0, 1) := by decide +kernel
theorem dX3_attributeOf_34 : decode cX3_attributeOf 34 = .ok (.iload 4, 2) := by decide +kernel
theorem dX3_attributeOf_36 : decode cX3_attributeOf 36 = .ok (.iload_n 3, 1) := by decide +kernel
theorem dX3_attributeOf_37 : decode cX3_attributeOf 37 = .ok (.invokevirtual 58, 3) := by decide +kernel
theorem dX3_attributeOf_40 : decode cX3_attributeOf 40 = .ok (.ifCond .eq 6, 3) := by decide +kernel
theorem dX3_attributeOf_43 : decode cX3_attributeOf 43 = .ok (.iload 4, 2) := by decide +kernel
theorem dX3_attributeOf_45 : decode cX3_attributeOf 45 = .ok (.istore_n 3, 1) := by decide +kernel
theorem dX3_attributeOf_46 : decode cX3_attributeOf 46 = .ok (.iinc 4 1, 3) := by decide +kernel
theorem dX3_attributeOf_49 : decode cX3_attributeOf 49 = .ok (.goto (-44), 3) := by decide +kernel
theorem dX3_attributeOf_52 : decode cX3_attributeOf 52 = .ok (.iload_n 3, 1) := by decide +kernel
theorem dX3_attributeOf_53 : decode cX3_attributeOf 53 = .ok (.iconst (-1), 1) := by decide +kernel
theorem dX3_attributeOf_54 : decode cX3_attributeOf 54 = .ok (.if_icmp .ne 7, 3) := by decide +kernel
theorem dX3_attributeOf_57 : decode cX3_attributeOf 57 = .ok (.iconst (-1), 1) := by decide +kernel
theorem dX3_attributeOf_58 : decode cX3_attributeOf 58 = .ok (.goto 14, 3) := by decide +kernel
theorem dX3_attributeOf_61 : decode cX3_attributeOf 61 = .ok (.aload_n 0, 1) := by decide +kernel
theorem dX3_attributeOf_62 : decode cX3_attributeOf 62 = .ok (.getfield 15, 3) := by decide +kernel
theorem dX3_attributeOf_65 : decode cX3_attributeOf 65 = .ok (.getfield 61, 3) := by decide +kernel
theorem dX3_attributeOf_68 : decode cX3_attributeOf 68 = .ok (.iload_n 2, 1) := by decide +kernel
theorem dX3_attributeOf_69 : decode cX3_attributeOf 69 = .ok (.aaload, 1) := by decide +kernel
theorem dX3_attributeOf_70 : decode cX3_attributeOf 70 = .ok (.iload_n 3, 1) := by decide +kernel
theorem dX3_attributeOf_71 : decode cX3_attributeOf 71 = .ok (.iaload, 1) := by decide +kernel
theorem dX3_attributeOf_72 : decode cX3_attributeOf 72 = .ok (.ireturn, 1) := by decide +kernel
theorem dX3_goesBefore_0 : decode cX3_goesBefore 0 = .ok (.aload_n 0, 1) := by decide +kernel
theorem dX3_goesBefore_1 : decode cX3_goesBefore 1 = .ok (.getfield 19, 3) := by decide +kernel
theorem dX3_goesBefore_4 : decode cX3_goesBefore 4 = .ok (.getfield 65, 3) := by decide +kernel
theorem dX3_goesBefore_7 : decode cX3_goesBefore 7 = .ok (.aload_n 0, 1) := by decide +kernel
theorem dX3_goesBefore_8 : decode cX3_goesBefore 8 = .ok (.getfield 15, 3) := by decide +kernel
theorem dX3_goesBefore_11 : decode cX3_goesBefore 11 = .ok (.getfield 70, 3) := by decide +kernel
theorem dX3_goesBefore_14 : decode cX3_goesBefore 14 = .ok (.iload_n 1, 1) := by decide +kernel
theorem dX3_goesBefore_15 : decode cX3_goesBefore 15 = .ok (.iaload, 1) := by decide +kernel
theorem dX3_goesBefore_16 : decode cX3_goesBefore 16 = .ok (.iaload, 1) := by decide +kernel
theorem dX3_goesBefore_17 : decode cX3_goesBefore 17 = .ok (.istore_n 3, 1) := by decide +kernel
theorem dX3_goesBefore_18 : decode cX3_goesBefore 18 = .ok (.aload_n 0, 1) := by decide +kernel
theorem dX3_goesBefore_19 : decode cX3_goesBefore 19 = .ok (.getfield 19, 3) := by decide +kernel
theorem dX3_goesBefore_22 : decode cX3_goesBefore 22 = .ok (.getfield 65, 3) := by decide +kernel
theorem dX3_goesBefore_25 : decode cX3_goesBefore 25 = .ok (.aload_n 0, 1) := by decide +kernel
theorem dX3_goesBefore_26 : decode cX3_goesBefore 26 = .ok (.getfield 15, 3) := by decide +kernel
theorem dX3_goesBefore_29 : decode cX3_goesBefore 29 = .ok (.getfield 70, 3) := by decide +kernel
theorem dX3_goesBefore_32 : decode cX3_goesBefore 32 = .ok (.iload_n 2, 1) := by decide +kernel
theorem dX3_goesBefore_33 : decode cX3_goesBefore 33 = .ok (.iaload, 1) := by decide +kernel
theorem dX3_goesBefore_34 : decode cX3_goesBefore 34 = .ok (.iaload, 1) := by decide +kernel
theorem dX3_goesBefore_35 : decode cX3_goesBefore 35 = .ok (.istore 4, 2) := by decide +kernel
theorem dX3_goesBefore_37 : decode cX3_goesBefore 37 = .ok (.iload_n 3, 1) := by decide +kernel
theorem dX3_goesBefore_38 : decode cX3_goesBefore 38 = .ok (.iload 4, 2) := by decide +kernel
theorem dX3_goesBefore_40 : decode cX3_goesBefore 40 = .ok (.if_icmp .gt 7, 3) := by decide +kernel
theorem dX3_goesBefore_43 : decode cX3_goesBefore 43 = .ok (.iconst 1, 1) := by decide +kernel
theorem dX3_goesBefore_44 : decode cX3_goesBefore 44 = .ok (.goto 4, 3) := by decide +kernel
theorem dX3_goesBefore_47 : decode cX3_goesBefore 47 = .ok (.iconst 0, 1) := by decide +kernel
theorem dX3_goesBefore_48 : decode cX3_goesBefore 48 = .ok (.ireturn, 1) := by decide +kernel
set_option maxRecDepth 20000 in
theorem ggX3_hasUnlikeValues_X3_tells : GoodIn wsX3_hasUnlikeValues wsX3_tells := goodIn_r _ [8, 9, 1, 3, 10, 11, 12, 13, 14, 15, 16, 17, 18, 19] (by decide +kernel) (by decide +kernel)
set_option maxRecDepth 20000 in
theorem gX3_hasUnlikeValues_X3_tells : GoodIn wsX3_hasUnlikeValues (wsV RX3 54 RX3 yX3_tells wsX3_tells) := goodIn_app (goodIn_of _ (by decide +kernel)) ggX3_hasUnlikeValues_X3_tells
theorem dX3_hasUnlikeValues_0 : decode cX3_hasUnlikeValues 0 = .ok (.iconst (-1), 1) := by decide +kernel
theorem dX3_hasUnlikeValues_1 : decode cX3_hasUnlikeValues 1 = .ok (.istore_n 3, 1) := by decide +kernel
theorem dX3_hasUnlikeValues_2 : decode cX3_hasUnlikeValues 2 = .ok (.iconst 0, 1) := by decide +kernel
theorem dX3_hasUnlikeValues_3 : decode cX3_hasUnlikeValues 3 = .ok (.istore 4, 2) := by decide +kernel
theorem dX3_hasUnlikeValues_5 : decode cX3_hasUnlikeValues 5 = .ok (.iload 4, 2) := by decide +kernel
theorem dX3_hasUnlikeValues_7 : decode cX3_hasUnlikeValues 7 = .ok (.aload_n 0, 1) := by decide +kernel
theorem dX3_hasUnlikeValues_8 : decode cX3_hasUnlikeValues 8 = .ok (.getfield 15, 3) := by decide +kernel
theorem dX3_hasUnlikeValues_11 : decode cX3_hasUnlikeValues 11 = .ok (.getfield 23, 3) := by decide +kernel
theorem dX3_hasUnlikeValues_14 : decode cX3_hasUnlikeValues 14 = .ok (.if_icmp .ge 50, 3) := by decide +kernel
theorem dX3_hasUnlikeValues_17 : decode cX3_hasUnlikeValues 17 = .ok (.aload_n 0, 1) := by decide +kernel
theorem dX3_hasUnlikeValues_18 : decode cX3_hasUnlikeValues 18 = .ok (.iload_n 1, 1) := by decide +kernel
theorem dX3_hasUnlikeValues_19 : decode cX3_hasUnlikeValues 19 = .ok (.iload_n 2, 1) := by decide +kernel
theorem dX3_hasUnlikeValues_20 : decode cX3_hasUnlikeValues 20 = .ok (.iload 4, 2) := by decide +kernel
theorem dX3_hasUnlikeValues_22 : decode cX3_hasUnlikeValues 22 = .ok (.invokevirtual 54, 3) := by decide +kernel
theorem dX3_hasUnlikeValues_25 : decode cX3_hasUnlikeValues 25 = .ok (.ifCond .eq 33, 3) := by decide +kernel
theorem dX3_hasUnlikeValues_28 : decode cX3_hasUnlikeValues 28 = .ok (.aload_n 0, 1) := by decide +kernel
theorem dX3_hasUnlikeValues_29 : decode cX3_hasUnlikeValues 29 = .ok (.getfield 15, 3) := by decide +kernel
theorem dX3_hasUnlikeValues_32 : decode cX3_hasUnlikeValues 32 = .ok (.getfield 61, 3) := by decide +kernel
theorem dX3_hasUnlikeValues_35 : decode cX3_hasUnlikeValues 35 = .ok (.iload_n 2, 1) := by decide +kernel
theorem dX3_hasUnlikeValues_36 : decode cX3_hasUnlikeValues 36 = .ok (.aaload, 1) := by decide +kernel
theorem dX3_hasUnlikeValues_37 : decode cX3_hasUnlikeValues 37 = .ok (.iload 4, 2) := by decide +kernel
theorem dX3_hasUnlikeValues_39 : decode cX3_hasUnlikeValues 39 = .ok (.iaload, 1) := by decide +kernel
theorem dX3_hasUnlikeValues_40 : decode cX3_hasUnlikeValues 40 = .ok (.istore 5, 2) := by decide +kernel
theorem dX3_hasUnlikeValues_42 : decode cX3_hasUnlikeValues 42 = .ok (.iload_n 3, 1) := by decide +kernel
theorem dX3_hasUnlikeValues_43 : decode cX3_hasUnlikeValues 43 = .ok (.iconst (-1), 1) := by decide +kernel
theorem dX3_hasUnlikeValues_44 : decode cX3_hasUnlikeValues 44 = .ok (.if_icmp .eq 11, 3) := by decide +kernel
theorem dX3_hasUnlikeValues_47 : decode cX3_hasUnlikeValues 47 = .ok (.iload 5, 2) := by decide +kernel
theorem dX3_hasUnlikeValues_49 : decode cX3_hasUnlikeValues 49 = .ok (.iload_n 3, 1) := by decide +kernel
theorem dX3_hasUnlikeValues_50 : decode cX3_hasUnlikeValues 50 = .ok (.if_icmp .eq 5, 3) := by decide +kernel
theorem dX3_hasUnlikeValues_53 : decode cX3_hasUnlikeValues 53 = .ok (.iconst 1, 1) := by decide +kernel
theorem dX3_hasUnlikeValues_54 : decode cX3_hasUnlikeValues 54 = .ok (.ireturn, 1) := by decide +kernel
theorem dX3_hasUnlikeValues_55 : decode cX3_hasUnlikeValues 55 = .ok (.iload 5, 2) := by decide +kernel
theorem dX3_hasUnlikeValues_57 : decode cX3_hasUnlikeValues 57 = .ok (.istore_n 3, 1) := by decide +kernel
theorem dX3_hasUnlikeValues_58 : decode cX3_hasUnlikeValues 58 = .ok (.iinc 4 1, 3) := by decide +kernel
theorem dX3_hasUnlikeValues_61 : decode cX3_hasUnlikeValues 61 = .ok (.goto (-56), 3) := by decide +kernel
theorem dX3_hasUnlikeValues_64 : decode cX3_hasUnlikeValues 64 = .ok (.iconst 0, 1) := by decide +kernel
theorem dX3_hasUnlikeValues_65 : decode cX3_hasUnlikeValues 65 = .ok (.ireturn, 1) := by decide +kernel
theorem dX3_tells_0 : decode cX3_tells 0 = .ok (.aload_n 0, 1) := by decide +kernel
theorem dX3_tells_1 : decode cX3_tells 1 = .ok (.getfield 9, 3) := by decide +kernel
theorem dX3_tells_4 : decode cX3_tells 4 = .ok (.iload_n 3, 1) := by decide +kernel
theorem dX3_tells_5 : decode cX3_tells 5 = .ok (.iaload, 1) := by decide +kernel
theorem dX3_tells_6 : decode cX3_tells 6 = .ok (.iload_n 1, 1) := by decide +kernel
theorem dX3_tells_7 : decode cX3_tells 7 = .ok (.if_icmp .ne 22, 3) := by decide +kernel
theorem dX3_tells_10 : decode cX3_tells 10 = .ok (.aload_n 0, 1) := by decide +kernel
theorem dX3_tells_11 : decode cX3_tells 11 = .ok (.getfield 15, 3) := by decide +kernel
theorem dX3_tells_14 : decode cX3_tells 14 = .ok (.getfield 61, 3) := by decide +kernel
theorem dX3_tells_17 : decode cX3_tells 17 = .ok (.iload_n 2, 1) := by decide +kernel
theorem dX3_tells_18 : decode cX3_tells 18 = .ok (.aaload, 1) := by decide +kernel
theorem dX3_tells_19 : decode cX3_tells 19 = .ok (.iload_n 3, 1) := by decide +kernel
theorem dX3_tells_20 : decode cX3_tells 20 = .ok (.iaload, 1) := by decide +kernel
theorem dX3_tells_21 : decode cX3_tells 21 = .ok (.iconst (-1), 1) := by decide +kernel
theorem dX3_tells_22 : decode cX3_tells 22 = .ok (.if_icmp .eq 7, 3) := by decide +kernel
theorem dX3_tells_25 : decode cX3_tells 25 = .ok (.iconst 1, 1) := by decide +kernel
theorem dX3_tells_26 : decode cX3_tells 26 = .ok (.goto 4, 3) := by decide +kernel
theorem dX3_tells_29 : decode cX3_tells 29 = .ok (.iconst 0, 1) := by decide +kernel
theorem dX3_tells_30 : decode cX3_tells 30 = .ok (.ireturn, 1) := by decide +kernel
theorem dX3_hasMark_0 : decode cX3_hasMark 0 = .ok (.iconst 0, 1) := by decide +kernel
theorem dX3_hasMark_1 : decode cX3_hasMark 1 = .ok (.istore 4, 2) := by decide +kernel
theorem dX3_hasMark_3 : decode cX3_hasMark 3 = .ok (.iload 4, 2) := by decide +kernel
theorem dX3_hasMark_5 : decode cX3_hasMark 5 = .ok (.aload_n 0, 1) := by decide +kernel
theorem dX3_hasMark_6 : decode cX3_hasMark 6 = .ok (.getfield 15, 3) := by decide +kernel
theorem dX3_hasMark_9 : decode cX3_hasMark 9 = .ok (.getfield 23, 3) := by decide +kernel
theorem dX3_hasMark_12 : decode cX3_hasMark 12 = .ok (.if_icmp .ge 38, 3) := by decide +kernel
theorem dX3_hasMark_15 : decode cX3_hasMark 15 = .ok (.aload_n 0, 1) := by decide +kernel
theorem dX3_hasMark_16 : decode cX3_hasMark 16 = .ok (.getfield 9, 3) := by decide +kernel
theorem dX3_hasMark_19 : decode cX3_hasMark 19 = .ok (.iload 4, 2) := by decide +kernel
theorem dX3_hasMark_21 : decode cX3_hasMark 21 = .ok (.iaload, 1) := by decide +kernel
theorem dX3_hasMark_22 : decode cX3_hasMark 22 = .ok (.iload_n 1, 1) := by decide +kernel
theorem dX3_hasMark_23 : decode cX3_hasMark 23 = .ok (.if_icmp .ne 21, 3) := by decide +kernel
theorem dX3_hasMark_26 : decode cX3_hasMark 26 = .ok (.aload_n 0, 1) := by decide +kernel
theorem dX3_hasMark_27 : decode cX3_hasMark 27 = .ok (.getfield 15, 3) := by decide +kernel
theorem dX3_hasMark_30 : decode cX3_hasMark 30 = .ok (.getfield 73, 3) := by decide +kernel
theorem dX3_hasMark_33 : decode cX3_hasMark 33 = .ok (.iload_n 2, 1) := by decide +kernel
theorem dX3_hasMark_34 : decode cX3_hasMark 34 = .ok (.aaload, 1) := by decide +kernel
theorem dX3_hasMark_35 : decode cX3_hasMark 35 = .ok (.iload 4, 2) := by decide +kernel
theorem dX3_hasMark_37 : decode cX3_hasMark 37 = .ok (.iaload, 1) := by decide +kernel
theorem dX3_hasMark_38 : decode cX3_hasMark 38 = .ok (.iload_n 3, 1) := by decide +kernel
theorem dX3_hasMark_39 : decode cX3_hasMark 39 = .ok (.if_icmp .ne 5, 3) := by decide +kernel
theorem dX3_hasMark_42 : decode cX3_hasMark 42 = .ok (.iconst 1, 1) := by decide +kernel
theorem dX3_hasMark_43 : decode cX3_hasMark 43 = .ok (.ireturn, 1) := by decide +kernel
theorem dX3_hasMark_44 : decode cX3_hasMark 44 = .ok (.iinc 4 1, 3) := by decide +kernel
theorem dX3_hasMark_47 : decode cX3_hasMark 47 = .ok (.goto (-44), 3) := by decide +kernel
theorem dX3_hasMark_50 : decode cX3_hasMark 50 = .ok (.iconst 0, 1) := by decide +kernel
theorem dX3_hasMark_51 : decode cX3_hasMark 51 = .ok (.ireturn, 1) := by decide +kernel
theorem dX4_init_0 : decode cX4_init 0 = .ok (.aload_n 0, 1) := by decide +kernel
theorem dX4_init_1 : decode cX4_init 1 = .ok (.invokespecial 3, 3) := by decide +kernel
theorem dX4_init_4 : decode cX4_init 4 = .ok (.aload_n 0, 1) := by decide +kernel
theorem dX4_init_5 : decode cX4_init 5 = .ok (.iconst 0, 1) := by decide +kernel
theorem dX4_init_6 : decode cX4_init 6 = .ok (.putfield 9, 3) := by decide +kernel
theorem dX4_init_9 : decode cX4_init 9 = .ok (.aload_n 0, 1) := by decide +kernel
theorem dX4_init_10 : decode cX4_init 10 = .ok (.bipush 20, 2) := by decide +kernel
theorem dX4_init_12 : decode cX4_init 12 = .ok (.newarray .int, 2) := by decide +kernel
theorem dX4_init_14 : decode cX4_init 14 = .ok (.putfield 15, 3) := by decide +kernel
theorem dX4_init_17 : decode cX4_init 17 = .ok (.aload_n 0, 1) := by decide +kernel
theorem dX4_init_18 : decode cX4_init 18 = .ok (.bipush 20, 2) := by decide +kernel
theorem dX4_init_20 : decode cX4_init 20 = .ok (.newarray .int, 2) := by decide +kernel
theorem dX4_init_22 : decode cX4_init 22 = .ok (.putfield 19, 3) := by decide +kernel
theorem dX4_init_25 : decode cX4_init 25 = .ok (.aload_n 0, 1) := by decide +kernel
theorem dX4_init_26 : decode cX4_init 26 = .ok (.bipush 20, 2) := by decide +kernel
theorem dX4_init_28 : decode cX4_init 28 = .ok (.newarray .int, 2) := by decide +kernel
theorem dX4_init_30 : decode cX4_init 30 = .ok (.putfield 22, 3) := by decide +kernel
theorem dX4_init_33 : decode cX4_init 33 = .ok (.aload_n 0, 1) := by decide +kernel
theorem dX4_init_34 : decode cX4_init 34 = .ok (.bipush 20, 2) := by decide +kernel
theorem dX4_init_36 : decode cX4_init 36 = .ok (.newarray .int, 2) := by decide +kernel
theorem dX4_init_38 : decode cX4_init 38 = .ok (.putfield 25, 3) := by decide +kernel
theorem dX4_init_41 : decode cX4_init 41 = .ok (.return_, 1) := by decide +kernel
theorem dX4_add_0 : decode cX4_add 0 = .ok (.aload_n 0, 1) := by decide +kernel
theorem dX4_add_1 : decode cX4_add 1 = .ok (.getfield 9, 3) := by decide +kernel
theorem dX4_add_4 : decode cX4_add 4 = .ok (.istore 5, 2) := by decide +kernel
theorem dX4_add_6 : decode cX4_add 6 = .ok (.aload_n 0, 1) := by decide +kernel
theorem dX4_add_7 : decode cX4_add 7 = .ok (.getfield 15, 3) := by decide +kernel
theorem dX4_add_10 : decode cX4_add 10 = .ok (.iload 5, 2) := by decide +kernel
theorem dX4_add_12 : decode cX4_add 12 = .ok (.iload_n 1, 1) := by decide +kernel
theorem dX4_add_13 : decode cX4_add 13 = .ok (.iastore, 1) := by decide +kernel
theorem dX4_add_14 : decode cX4_add 14 = .ok (.aload_n 0, 1) := by decide +kernel
theorem dX4_add_15 : decode cX4_add 15 = .ok (.getfield 19, 3) := by decide +kernel
theorem dX4_add_18 : decode cX4_add 18 = .ok (.iload 5, 2) := by decide +kernel
theorem dX4_add_20 : decode cX4_add 20 = .ok (.iload_n 2, 1) := by decide +kernel
theorem dX4_add_21 : decode cX4_add 21 = .ok (.iastore, 1) := by decide +kernel
theorem dX4_add_22 : decode cX4_add 22 = .ok (.aload_n 0, 1) := by decide +kernel
theorem dX4_add_23 : decode cX4_add 23 = .ok (.getfield 22, 3) := by decide +kernel
theorem dX4_add_26 : decode cX4_add 26 = .ok (.iload 5, 2) := by decide +kernel
theorem dX4_add_28 : decode cX4_add 28 = .ok (.iload_n 3, 1) := by decide +kernel
theorem dX4_add_29 : decode cX4_add 29 = .ok (.iastore, 1) := by decide +kernel
theorem dX4_add_30 : decode cX4_add 30 = .ok (.aload_n 0, 1) := by decide +kernel
theorem dX4_add_31 : decode cX4_add 31 = .ok (.getfield 25, 3) := by decide +kernel
theorem dX4_add_34 : decode cX4_add 34 = .ok (.iload 5, 2) := by decide +kernel
theorem dX4_add_36 : decode cX4_add 36 = .ok (.iload 4, 2) := by decide +kernel
theorem dX4_add_38 : decode cX4_add 38 = .ok (.iastore, 1) := by decide +kernel
theorem dX4_add_39 : decode cX4_add 39 = .ok (.aload_n 0, 1) := by decide +kernel
theorem dX4_add_40 : decode cX4_add 40 = .ok (.dup, 1) := by decide +kernel
theorem dX4_add_41 : decode cX4_add 41 = .ok (.getfield 9, 3) := by decide +kernel
theorem dX4_add_44 : decode cX4_add 44 = .ok (.iconst 1, 1) := by decide +kernel
theorem dX4_add_45 : decode cX4_add 45 = .ok (.iadd, 1) := by decide +kernel
theorem dX4_add_46 : decode cX4_add 46 = .ok (.putfield 9, 3) := by decide +kernel
theorem dX4_add_49 : decode cX4_add 49 = .ok (.iload 5, 2) := by decide +kernel
theorem dX4_add_51 : decode cX4_add 51 = .ok (.ireturn, 1) := by decide +kernel
set_option maxRecDepth 20000 in
theorem ggX4_isMissedBy_X3_hasMark : GoodIn wsX4_isMissedBy wsX3_hasMark := goodIn_r _ [9, 10, 11, 12, 13, 35, 36, 37, 38, 39, 40, 41, 42, 43, 44] (by decide +kernel) (by decide +kernel)
set_option maxRecDepth 20000 in
theorem gX4_isMissedBy_X3_hasMark : GoodIn wsX4_isMissedBy (wsV RX4 28 RX3 yX3_hasMark wsX3_hasMark) := goodIn_app (goodIn_of _ (by decide +kernel)) ggX4_isMissedBy_X3_hasMark
set_option maxRecDepth 20000 in
theorem ggX4_isMissedBy_X3_attributeOf : GoodIn wsX4_isMissedBy wsX3_attributeOf := goodIn_r _ [17, 10, 11, 18, 19, 20, 21, 8, 22, 12, 23, 24, 25, 26, 27, 28, 29, 35, 36, 37, 38, 39, 40, 41, 42, 43, 44, 45, 46] (by decide +kernel) (by decide +kernel)
set_option maxRecDepth 20000 in
theorem gX4_isMissedBy_X3_attributeOf : GoodIn wsX4_isMissedBy (wsV RX4 34 RX3 yX3_attributeOf wsX3_attributeOf) := goodIn_app (goodIn_of _ (by decide +kernel)) ggX4_isMissedBy_X3_attributeOf
theorem dX4_isMissedBy_0 : decode cX4_isMissedBy 0 = .ok (.aload_n 3, 1) := by decide +kernel
theorem dX4_isMissedBy_1 : decode cX4_isMissedBy 1 = .ok (.iload_n 1, 1) := by decide +kernel
theorem dX4_isMissedBy_2 : decode cX4_isMissedBy 2 = .ok (.aload_n 0, 1) := by decide +kernel
theorem dX4_isMissedBy_3 : decode cX4_isMissedBy 3 = .ok (.getfield 15, 3) := by decide +kernel
theorem dX4_isMissedBy_6 : decode cX4_isMissedBy 6 = .ok (.iload_n 2, 1) := by decide +kernel
theorem dX4_isMissedBy_7 : decode cX4_isMissedBy 7 = .ok (.iaload, 1) := by decide +kernel
theorem dX4_isMissedBy_8 : decode cX4_isMissedBy 8 = .ok (.aload_n 0, 1) := by decide +kernel
theorem dX4_isMissedBy_9 : decode cX4_isMissedBy 9 = .ok (.getfield 19, 3) := by decide +kernel
theorem dX4_isMissedBy_12 : decode cX4_isMissedBy 12 = .ok (.iload_n 2, 1) := by decide +kernel
theorem dX4_isMissedBy_13 : decode cX4_isMissedBy 13 = .ok (.iaload, 1) := by decide +kernel
theorem dX4_isMissedBy_14 : decode cX4_isMissedBy 14 = .ok (.invokevirtual 28, 3) := by decide +kernel
theorem dX4_isMissedBy_17 : decode cX4_isMissedBy 17 = .ok (.ifCond .eq 27, 3) := by decide +kernel
theorem dX4_isMissedBy_20 : decode cX4_isMissedBy 20 = .ok (.aload_n 3, 1) := by decide +kernel
theorem dX4_isMissedBy_21 : decode cX4_isMissedBy 21 = .ok (.iload_n 1, 1) := by decide +kernel
theorem dX4_isMissedBy_22 : decode cX4_isMissedBy 22 = .ok (.aload_n 0, 1) := by decide +kernel
theorem dX4_isMissedBy_23 : decode cX4_isMissedBy 23 = .ok (.getfield 22, 3) := by decide +kernel
theorem dX4_isMissedBy_26 : decode cX4_isMissedBy 26 = .ok (.iload_n 2, 1) := by decide +kernel
theorem dX4_isMissedBy_27 : decode cX4_isMissedBy 27 = .ok (.iaload, 1) := by decide +kernel
theorem dX4_isMissedBy_28 : decode cX4_isMissedBy 28 = .ok (.invokevirtual 34, 3) := by decide +kernel
theorem dX4_isMissedBy_31 : decode cX4_isMissedBy 31 = .ok (.aload_n 0, 1) := by decide +kernel
theorem dX4_isMissedBy_32 : decode cX4_isMissedBy 32 = .ok (.getfield 25, 3) := by decide +kernel
theorem dX4_isMissedBy_35 : decode cX4_isMissedBy 35 = .ok (.iload_n 2, 1) := by decide +kernel
theorem dX4_isMissedBy_36 : decode cX4_isMissedBy 36 = .ok (.iaload, 1) := by decide +kernel
theorem dX4_isMissedBy_37 : decode cX4_isMissedBy 37 = .ok (.if_icmp .eq 7, 3) := by decide +kernel
theorem dX4_isMissedBy_40 : decode cX4_isMissedBy 40 = .ok (.iconst 1, 1) := by decide +kernel
theorem dX4_isMissedBy_41 : decode cX4_isMissedBy 41 = .ok (.goto 4, 3) := by decide +kernel
theorem dX4_isMissedBy_44 : decode cX4_isMissedBy 44 = .ok (.iconst 0, 1) := by decide +kernel
theorem dX4_isMissedBy_45 : decode cX4_isMissedBy 45 = .ok (.ireturn, 1) := by decide +kernel
set_option maxRecDepth 20000 in
theorem ggX5_init_X2_init : GoodIn wsX5_init wsX2_init := goodIn_r _ [28, 29, 2, 3, 30, 31, 32, 75, 76] (by decide +kernel) (by decide +kernel)
set_option maxRecDepth 20000 in
theorem gX5_init_X2_init : GoodIn wsX5_init (wsX2_init) := ggX5_init_X2_init
set_option maxRecDepth 20000 in
theorem ggX5_init_X0_init : GoodIn wsX5_init wsX0_init := goodIn_r _ [34, 35, 2, 3, 36, 30, 37, 38, 39, 40, 41, 42, 43, 44, 77, 78, 79, 80, 81, 82, 83] (by decide +kernel) (by decide +kernel)
set_option maxRecDepth 20000 in
theorem gX5_init_X0_init_n22 : GoodIn wsX5_init (wsX0_init) := ggX5_init_X0_init
set_option maxRecDepth 20000 in
theorem ggX5_init_X1_init : GoodIn wsX5_init wsX1_init := goodIn_r _ [46, 47, 2, 3, 48, 30, 49, 50, 51, 39, 52, 84, 85, 86, 87, 88] (by decide +kernel) (by decide +kernel)
set_option maxRecDepth 20000 in
theorem gX5_init_X1_init_n29 : GoodIn wsX5_init (wsX1_init) := ggX5_init_X1_init
set_option maxRecDepth 20000 in
theorem ggX5_init_X4_init : GoodIn wsX5_init wsX4_init := goodIn_r _ [54, 55, 2, 3, 56, 30, 57, 58, 59, 60, 89, 90, 91, 92, 93] (by decide +kernel) (by decide +kernel)
set_option maxRecDepth 20000 in
theorem gX5_init_X4_init_n36 : GoodIn wsX5_init (wsX4_init) := ggX5_init_X4_init
set_option maxRecDepth 20000 in
theorem ggX5_init_X3_init : GoodIn wsX5_init wsX3_init := goodIn_r _ [63, 64, 2, 3, 30, 65, 66, 67, 94, 95, 96] (by decide +kernel) (by decide +kernel)
set_option maxRecDepth 20000 in
theorem gX5_init_X3_init : GoodIn wsX5_init (wsX3_init) := ggX5_init_X3_init
theorem dX5_init_0 : decode cX5_init 0 = .ok (.aload_n 0, 1) := by decide +kernel
theorem dX5_init_1 : decode cX5_init 1 = .ok (.invokespecial 1, 3) := by decide +kernel
theorem dX5_init_4 : decode cX5_init 4 = .ok (.aload_n 0, 1) := by decide +kernel
theorem dX5_init_5 : decode cX5_init 5 = .ok (.iconst 0, 1) := by decide +kernel
theorem dX5_init_6 : decode cX5_init 6 = .ok (.putfield 7, 3) := by decide +kernel
theorem dX5_init_9 : decode cX5_init 9 = .ok (.aload_n 0, 1) := by decide +kernel
theorem dX5_init_10 : decode cX5_init 10 = .ok (.new 13, 3) := by decide +kernel
theorem dX5_init_13 : decode cX5_init 13 = .ok (.dup, 1) := by decide +kernel
theorem dX5_init_14 : decode cX5_init 14 = .ok (.invokespecial 15, 3) := by decide +kernel
theorem dX5_init_17 : decode cX5_init 17 = .ok (.putfield 16, 3) := by decide +kernel
theorem dX5_init_20 : decode cX5_init 20 = .ok (.aload_n 0, 1) := by decide +kernel
theorem dX5_init_21 : decode cX5_init 21 = .ok (.new 20, 3) := by decide +kernel
theorem dX5_init_24 : decode cX5_init 24 = .ok (.dup, 1) := by decide +kernel
theorem dX5_init_25 : decode cX5_init 25 = .ok (.invokespecial 22, 3) := by decide +kernel
theorem dX5_init_28 : decode cX5_init 28 = .ok (.putfield 23, 3) := by decide +kernel
theorem dX5_init_31 : decode cX5_init 31 = .ok (.aload_n 0, 1) := by decide +kernel
theorem dX5_init_32 : decode cX5_init 32 = .ok (.new 27, 3) := by decide +kernel
theorem dX5_init_35 : decode cX5_init 35 = .ok (.dup, 1) := by decide +kernel
theorem dX5_init_36 : decode cX5_init 36 = .ok (.invokespecial 29, 3) := by decide +kernel
theorem dX5_init_39 : decode cX5_init 39 = .ok (.putfield 30, 3) := by decide +kernel
theorem dX5_init_42 : decode cX5_init 42 = .ok (.aload_n 0, 1) := by decide +kernel
theorem dX5_init_43 : decode cX5_init 43 = .ok (.new 34, 3) := by decide +kernel
theorem dX5_init_46 : decode cX5_init 46 = .ok (.dup, 1) := by decide +kernel
theorem dX5_init_47 : decode cX5_init 47 = .ok (.invokespecial 36, 3) := by decide +kernel
theorem dX5_init_50 : decode cX5_init 50 = .ok (.putfield 37, 3) := by decide +kernel
theorem dX5_init_53 : decode cX5_init 53 = .ok (.aload_n 0, 1) := by decide +kernel
theorem dX5_init_54 : decode cX5_init 54 = .ok (.new 41, 3) := by decide +kernel
theorem dX5_init_57 : decode cX5_init 57 = .ok (.dup, 1) := by decide +kernel
theorem dX5_init_58 : decode cX5_init 58 = .ok (.aload_n 0, 1) := by decide +kernel
theorem dX5_init_59 : decode cX5_init 59 = .ok (.getfield 23, 3) := by decide +kernel
theorem dX5_init_62 : decode cX5_init 62 = .ok (.aload_n 0, 1) := by decide +kernel
theorem dX5_init_63 : decode cX5_init 63 = .ok (.getfield 16, 3) := by decide +kernel
theorem dX5_init_66 : decode cX5_init 66 = .ok (.invokespecial 43, 3) := by decide +kernel
theorem dX5_init_69 : decode cX5_init 69 = .ok (.putfield 46, 3) := by decide +kernel
theorem dX5_init_72 : decode cX5_init 72 = .ok (.aload_n 0, 1) := by decide +kernel
theorem dX5_init_73 : decode cX5_init 73 = .ok (.new 41, 3) := by decide +kernel
theorem dX5_init_76 : decode cX5_init 76 = .ok (.dup, 1) := by decide +kernel
theorem dX5_init_77 : decode cX5_init 77 = .ok (.aload_n 0, 1) := by decide +kernel
theorem dX5_init_78 : decode cX5_init 78 = .ok (.getfield 23, 3) := by decide +kernel
theorem dX5_init_81 : decode cX5_init 81 = .ok (.aload_n 0, 1) := by decide +kernel
theorem dX5_init_82 : decode cX5_init 82 = .ok (.getfield 16, 3) := by decide +kernel
theorem dX5_init_85 : decode cX5_init 85 = .ok (.invokespecial 43, 3) := by decide +kernel
theorem dX5_init_88 : decode cX5_init 88 = .ok (.putfield 50, 3) := by decide +kernel
theorem dX5_init_91 : decode cX5_init 91 = .ok (.return_, 1) := by decide +kernel
set_option maxRecDepth 20000 in
theorem ggX5_pass_X5_requireRange : GoodIn wsX5_pass wsX5_requireRange := goodIn_ca (goodIn_r _ [7, 8, 9] (by decide +kernel) (by decide +kernel)) (goodIn_sub (fun _ h => List.mem_cons_of_mem _ (List.mem_append_right _ h)) (by decide +kernel))
set_option maxRecDepth 20000 in
theorem gX5_pass_X5_requireRange : GoodIn wsX5_pass (va_wsS RX5 53 yX5_requireRange wsX5_requireRange) := goodIn_app (goodIn_of _ (by decide +kernel)) ggX5_pass_X5_requireRange
theorem dX5_pass_0 : decode cX5_pass 0 = .ok (.iload_n 1, 1) := by decide +kernel
theorem dX5_pass_1 : decode cX5_pass 1 = .ok (.iconst 1, 1) := by decide +kernel
theorem dX5_pass_2 : decode cX5_pass 2 = .ok (.sipush 1000, 3) := by decide +kernel
theorem dX5_pass_5 : decode cX5_pass 5 = .ok (.invokestatic 53, 3) := by decide +kernel
theorem dX5_pass_8 : decode cX5_pass 8 = .ok (.aload_n 0, 1) := by decide +kernel
theorem dX5_pass_9 : decode cX5_pass 9 = .ok (.getfield 7, 3) := by decide +kernel
theorem dX5_pass_12 : decode cX5_pass 12 = .ok (.iload_n 1, 1) := by decide +kernel
theorem dX5_pass_13 : decode cX5_pass 13 = .ok (.iadd, 1) := by decide +kernel
theorem dX5_pass_14 : decode cX5_pass 14 = .ok (.sipush 9999, 3) := by decide +kernel
theorem dX5_pass_17 : decode cX5_pass 17 = .ok (.if_icmp .le 13, 3) := by decide +kernel
theorem dX5_pass_20 : decode cX5_pass 20 = .ok (.new 57, 3) := by decide +kernel
theorem dX5_pass_23 : decode cX5_pass 23 = .ok (.dup, 1) := by decide +kernel
theorem dX5_pass_24 : decode cX5_pass 24 = .ok (.ldc 59, 2) := by decide +kernel
theorem dX5_pass_26 : decode cX5_pass 26 = .ok (.invokespecial 61, 3) := by decide +kernel
theorem dX5_pass_29 : decode cX5_pass 29 = .ok (.athrow, 1) := by decide +kernel
theorem dX5_pass_30 : decode cX5_pass 30 = .ok (.aload_n 0, 1) := by decide +kernel
theorem dX5_pass_31 : decode cX5_pass 31 = .ok (.dup, 1) := by decide +kernel
theorem dX5_pass_32 : decode cX5_pass 32 = .ok (.getfield 7, 3) := by decide +kernel
theorem dX5_pass_35 : decode cX5_pass 35 = .ok (.iload_n 1, 1) := by decide +kernel
theorem dX5_pass_36 : decode cX5_pass 36 = .ok (.iadd, 1) := by decide +kernel
theorem dX5_pass_37 : decode cX5_pass 37 = .ok (.putfield 7, 3) := by decide +kernel
theorem dX5_pass_40 : decode cX5_pass 40 = .ok (.aload_n 0, 1) := by decide +kernel
theorem dX5_pass_41 : decode cX5_pass 41 = .ok (.getfield 7, 3) := by decide +kernel
theorem dX5_pass_44 : decode cX5_pass 44 = .ok (.ireturn, 1) := by decide +kernel
theorem dX5_today_0 : decode cX5_today 0 = .ok (.aload_n 0, 1) := by decide +kernel
theorem dX5_today_1 : decode cX5_today 1 = .ok (.getfield 7, 3) := by decide +kernel
theorem dX5_today_4 : decode cX5_today 4 = .ok (.ireturn, 1) := by decide +kernel
set_option maxRecDepth 20000 in
theorem ggX5_setTerm_X5_requireRange : GoodIn wsX5_setTerm wsX5_requireRange := goodIn_ca (goodIn_r _ [6, 7, 8] (by decide +kernel) (by decide +kernel)) (goodIn_sub (fun _ h => List.mem_cons_of_mem _ (List.mem_append_right _ h)) (by decide +kernel))
set_option maxRecDepth 20000 in
theorem gX5_setTerm_X5_requireRange : GoodIn wsX5_setTerm (va_wsS RX5 53 yX5_requireRange wsX5_requireRange) := goodIn_app (goodIn_of _ (by decide +kernel)) ggX5_setTerm_X5_requireRange
theorem dX5_setTerm_0 : decode cX5_setTerm 0 = .ok (.iload_n 1, 1) := by decide +kernel
theorem dX5_setTerm_1 : decode cX5_setTerm 1 = .ok (.iconst 0, 1) := by decide +kernel
theorem dX5_setTerm_2 : decode cX5_setTerm 2 = .ok (.iconst 3, 1) := by decide +kernel
theorem dX5_setTerm_3 : decode cX5_setTerm 3 = .ok (.invokestatic 53, 3) := by decide +kernel
theorem dX5_setTerm_6 : decode cX5_setTerm 6 = .ok (.iload_n 2, 1) := by decide +kernel
theorem dX5_setTerm_7 : decode cX5_setTerm 7 = .ok (.iconst 1, 1) := by decide +kernel
theorem dX5_setTerm_8 : decode cX5_setTerm 8 = .ok (.sipush 999, 3) := by decide +kernel
theorem dX5_setTerm_11 : decode cX5_setTerm 11 = .ok (.invokestatic 53, 3) := by decide +kernel
theorem dX5_setTerm_14 : decode cX5_setTerm 14 = .ok (.aload_n 0, 1) := by decide +kernel
theorem dX5_setTerm_15 : decode cX5_setTerm 15 = .ok (.getfield 16, 3) := by decide +kernel
theorem dX5_setTerm_18 : decode cX5_setTerm 18 = .ok (.getfield 64, 3) := by decide +kernel
theorem dX5_setTerm_21 : decode cX5_setTerm 21 = .ok (.iload_n 1, 1) := by decide +kernel
theorem dX5_setTerm_22 : decode cX5_setTerm 22 = .ok (.iaload, 1) := by decide +kernel
theorem dX5_setTerm_23 : decode cX5_setTerm 23 = .ok (.istore_n 3, 1) := by decide +kernel
theorem dX5_setTerm_24 : decode cX5_setTerm 24 = .ok (.aload_n 0, 1) := by decide +kernel
theorem dX5_setTerm_25 : decode cX5_setTerm 25 = .ok (.getfield 16, 3) := by decide +kernel
theorem dX5_setTerm_28 : decode cX5_setTerm 28 = .ok (.getfield 64, 3) := by decide +kernel
theorem dX5_setTerm_31 : decode cX5_setTerm 31 = .ok (.iload_n 1, 1) := by decide +kernel
theorem dX5_setTerm_32 : decode cX5_setTerm 32 = .ok (.iload_n 2, 1) := by decide +kernel
theorem dX5_setTerm_33 : decode cX5_setTerm 33 = .ok (.iastore, 1) := by decide +kernel
theorem dX5_setTerm_34 : decode cX5_setTerm 34 = .ok (.iload_n 3, 1) := by decide +kernel
theorem dX5_setTerm_35 : decode cX5_setTerm 35 = .ok (.ireturn, 1) := by decide +kernel
set_option maxRecDepth 20000 in
theorem ggX5_putFirst_X5_requireRange : GoodIn wsX5_putFirst wsX5_requireRange := goodIn_ca (goodIn_r _ [5, 6, 7] (by decide +kernel) (by decide +kernel)) (goodIn_sub (fun _ h => List.mem_cons_of_mem _ (List.mem_append_right _ h)) (by decide +kernel))
set_option maxRecDepth 20000 in
theorem gX5_putFirst_X5_requireRange : GoodIn wsX5_putFirst (va_wsS RX5 53 yX5_requireRange wsX5_requireRange) := goodIn_app (goodIn_of _ (by decide +kernel)) ggX5_putFirst_X5_requireRange
set_option maxRecDepth 20000 in
theorem ggX5_putFirst_X2_moveToFront : GoodIn wsX5_putFirst wsX2_moveToFront := goodIn_r _ [12, 13, 21, 22] (by decide +kernel) (by decide +kernel)
set_option maxRecDepth 20000 in
theorem gX5_putFirst_X2_moveToFront : GoodIn wsX5_putFirst (wsV RX5 68 RX2 yX2_moveToFront wsX2_moveToFront) := goodIn_app (goodIn_of _ (by decide +kernel)) ggX5_putFirst_X2_moveToFront
theorem dX5_putFirst_0 : decode cX5_putFirst 0 = .ok (.iload_n 1, 1) := by decide +kernel
theorem dX5_putFirst_1 : decode cX5_putFirst 1 = .ok (.iconst 0, 1) := by decide +kernel
theorem dX5_putFirst_2 : decode cX5_putFirst 2 = .ok (.iconst 3, 1) := by decide +kernel
theorem dX5_putFirst_3 : decode cX5_putFirst 3 = .ok (.invokestatic 53, 3) := by decide +kernel
theorem dX5_putFirst_6 : decode cX5_putFirst 6 = .ok (.aload_n 0, 1) := by decide +kernel
theorem dX5_putFirst_7 : decode cX5_putFirst 7 = .ok (.getfield 16, 3) := by decide +kernel
theorem dX5_putFirst_10 : decode cX5_putFirst 10 = .ok (.iload_n 1, 1) := by decide +kernel
theorem dX5_putFirst_11 : decode cX5_putFirst 11 = .ok (.invokevirtual 68, 3) := by decide +kernel
theorem dX5_putFirst_14 : decode cX5_putFirst 14 = .ok (.ireturn, 1) := by decide +kernel
set_option maxRecDepth 20000 in
theorem ggX5_find_X5_requireRange : GoodIn wsX5_find wsX5_requireRange := goodIn_ca (goodIn_r _ [9, 10, 11] (by decide +kernel) (by decide +kernel)) (goodIn_sub (fun _ h => List.mem_cons_of_mem _ (List.mem_append_right _ h)) (by decide +kernel))
set_option maxRecDepth 20000 in
theorem gX5_find_X5_requireRange : GoodIn wsX5_find (va_wsS RX5 53 yX5_requireRange wsX5_requireRange) := goodIn_app (goodIn_of _ (by decide +kernel)) ggX5_find_X5_requireRange
set_option maxRecDepth 20000 in
theorem ggX5_find_X0_take : GoodIn wsX5_find wsX0_take := goodIn_r _ [16, 17, 18, 19, 37, 38, 39, 40, 41, 42, 43] (by decide +kernel) (by decide +kernel)
set_option maxRecDepth 20000 in
theorem gX5_find_X0_take : GoodIn wsX5_find (wsV RX5 77 RX0 yX0_take wsX0_take) := goodIn_app (goodIn_of _ (by decide +kernel)) ggX5_find_X0_take
set_option maxRecDepth 20000 in
theorem ggX5_find_X0_putMarks : GoodIn wsX5_find wsX0_putMarks := goodIn_r _ [23, 24, 37, 38, 39, 40, 41, 42, 43] (by decide +kernel) (by decide +kernel)
set_option maxRecDepth 20000 in
theorem gX5_find_X0_putMarks : GoodIn wsX5_find (wsV RX5 81 RX0 yX0_putMarks wsX0_putMarks) := goodIn_app (goodIn_of _ (by decide +kernel)) ggX5_find_X0_putMarks
set_option maxRecDepth 20000 in
theorem ggX5_find_X0_putAttributes : GoodIn wsX5_find wsX0_putAttributes := goodIn_r _ [28, 29, 37, 38, 39, 40, 41, 42, 43] (by decide +kernel) (by decide +kernel)
set_option maxRecDepth 20000 in
theorem gX5_find_X0_putAttributes : GoodIn wsX5_find (wsV RX5 85 RX0 yX0_putAttributes wsX0_putAttributes) := goodIn_app (goodIn_of _ (by decide +kernel)) ggX5_find_X0_putAttributes
theorem dX5_find_0 : decode cX5_find 0 = .ok (.iload_n 1, 1) := by decide +kernel
theorem dX5_find_1 : decode cX5_find 1 = .ok (.iconst 0, 1) := by decide +kernel
theorem dX5_find_2 : decode cX5_find 2 = .ok (.iconst 3, 1) := by decide +kernel
theorem dX5_find_3 : decode cX5_find 3 = .ok (.invokestatic 53, 3) := by decide +kernel
theorem dX5_find_6 : decode cX5_find 6 = .ok (.iload_n 2, 1) := by decide +kernel
theorem dX5_find_7 : decode cX5_find 7 = .ok (.iconst 0, 1) := by decide +kernel
theorem dX5_find_8 : decode cX5_find 8 = .ok (.bipush 99, 2) := by decide +kernel
theorem dX5_find_10 : decode cX5_find 10 = .ok (.invokestatic 53, 3) := by decide +kernel
theorem dX5_find_13 : decode cX5_find 13 = .ok (.iload_n 3, 1) := by decide +kernel
theorem dX5_find_14 : decode cX5_find 14 = .ok (.iconst 0, 1) := by decide +kernel
theorem dX5_find_15 : decode cX5_find 15 = .ok (.bipush 99, 2) := by decide +kernel
theorem dX5_find_17 : decode cX5_find 17 = .ok (.invokestatic 53, 3) := by decide +kernel
theorem dX5_find_20 : decode cX5_find 20 = .ok (.iload 4, 2) := by decide +kernel
theorem dX5_find_22 : decode cX5_find 22 = .ok (.iconst 0, 1) := by decide +kernel
theorem dX5_find_23 : decode cX5_find 23 = .ok (.bipush 99, 2) := by decide +kernel
theorem dX5_find_25 : decode cX5_find 25 = .ok (.invokestatic 53, 3) := by decide +kernel
theorem dX5_find_28 : decode cX5_find 28 = .ok (.iload 5, 2) := by decide +kernel
theorem dX5_find_30 : decode cX5_find 30 = .ok (.iconst (-1), 1) := by decide +kernel
theorem dX5_find_31 : decode cX5_find 31 = .ok (.bipush 99, 2) := by decide +kernel
theorem dX5_find_33 : decode cX5_find 33 = .ok (.invokestatic 53, 3) := by decide +kernel
theorem dX5_find_36 : decode cX5_find 36 = .ok (.iload 6, 2) := by decide +kernel
theorem dX5_find_38 : decode cX5_find 38 = .ok (.iconst (-1), 1) := by decide +kernel
theorem dX5_find_39 : decode cX5_find 39 = .ok (.bipush 99, 2) := by decide +kernel
theorem dX5_find_41 : decode cX5_find 41 = .ok (.invokestatic 53, 3) := by decide +kernel
theorem dX5_find_44 : decode cX5_find 44 = .ok (.aload_n 0, 1) := by decide +kernel
theorem dX5_find_45 : decode cX5_find 45 = .ok (.getfield 23, 3) := by decide +kernel
theorem dX5_find_48 : decode cX5_find 48 = .ok (.getfield 72, 3) := by decide +kernel
theorem dX5_find_51 : decode cX5_find 51 = .ok (.bipush 60, 2) := by decide +kernel
theorem dX5_find_53 : decode cX5_find 53 = .ok (.if_icmp .lt 13, 3) := by decide +kernel
theorem dX5_find_56 : decode cX5_find 56 = .ok (.new 57, 3) := by decide +kernel
theorem dX5_find_59 : decode cX5_find 59 = .ok (.dup, 1) := by decide +kernel
theorem dX5_find_60 : decode cX5_find 60 = .ok (.ldc 75, 2) := by decide +kernel
theorem dX5_find_62 : decode cX5_find 62 = .ok (.invokespecial 61, 3) := by decide +kernel
theorem dX5_find_65 : decode cX5_find 65 = .ok (.athrow, 1) := by decide +kernel
theorem dX5_find_66 : decode cX5_find 66 = .ok (.aload_n 0, 1) := by decide +kernel
theorem dX5_find_67 : decode cX5_find 67 = .ok (.getfield 23, 3) := by decide +kernel
theorem dX5_find_70 : decode cX5_find 70 = .ok (.iload_n 1, 1) := by decide +kernel
theorem dX5_find_71 : decode cX5_find 71 = .ok (.aload_n 0, 1) := by decide +kernel
theorem dX5_find_72 : decode cX5_find 72 = .ok (.getfield 7, 3) := by decide +kernel
theorem dX5_find_75 : decode cX5_find 75 = .ok (.invokevirtual 77, 3) := by decide +kernel
theorem dX5_find_78 : decode cX5_find 78 = .ok (.istore 7, 2) := by decide +kernel
theorem dX5_find_80 : decode cX5_find 80 = .ok (.aload_n 0, 1) := by decide +kernel
theorem dX5_find_81 : decode cX5_find 81 = .ok (.getfield 23, 3) := by decide +kernel
theorem dX5_find_84 : decode cX5_find 84 = .ok (.iload 7, 2) := by decide +kernel
theorem dX5_find_86 : decode cX5_find 86 = .ok (.iload_n 2, 1) := by decide +kernel
theorem dX5_find_87 : decode cX5_find 87 = .ok (.iload_n 3, 1) := by decide +kernel
theorem dX5_find_88 : decode cX5_find 88 = .ok (.iload 4, 2) := by decide +kernel
theorem dX5_find_90 : decode cX5_find 90 = .ok (.invokevirtual 81, 3) := by decide +kernel
theorem dX5_find_93 : decode cX5_find 93 = .ok (.aload_n 0, 1) := by decide +kernel
theorem dX5_find_94 : decode cX5_find 94 = .ok (.getfield 23, 3) := by decide +kernel
theorem dX5_find_97 : decode cX5_find 97 = .ok (.iload 7, 2) := by decide +kernel
theorem dX5_find_99 : decode cX5_find 99 = .ok (.iload 5, 2) := by decide +kernel
theorem dX5_find_101 : decode cX5_find 101 = .ok (.iload 6, 2) := by decide +kernel
theorem dX5_find_103 : decode cX5_find 103 = .ok (.invokevirtual 85, 3) := by decide +kernel
theorem dX5_find_106 : decode cX5_find 106 = .ok (.iload 7, 2) := by decide +kernel
theorem dX5_find_108 : decode cX5_find 108 = .ok (.ireturn, 1) := by decide +kernel
set_option maxRecDepth 20000 in
theorem ggX5_strike_X5_requireFind : GoodIn wsX5_strike wsX5_requireFind := goodIn_ca (goodIn_r _ [7, 8, 9, 1, 10, 11, 12, 13, 14, 15, 16, 17, 18, 19, 20, 21, 22, 23, 24] (by decide +kernel) (by decide +kernel)) (goodIn_sub (fun _ h => List.mem_cons_of_mem _ (List.mem_append_right _ h)) (by decide +kernel))
set_option maxRecDepth 20000 in
theorem gX5_strike_X5_requireFind : GoodIn wsX5_strike (wsV RX5 88 RX5 yX5_requireFind wsX5_requireFind) := goodIn_app (goodIn_of _ (by decide +kernel)) ggX5_strike_X5_requireFind
theorem dX5_strike_0 : decode cX5_strike 0 = .ok (.aload_n 0, 1) := by decide +kernel
theorem dX5_strike_1 : decode cX5_strike 1 = .ok (.iload_n 1, 1) := by decide +kernel
theorem dX5_strike_2 : decode cX5_strike 2 = .ok (.invokevirtual 88, 3) := by decide +kernel
theorem dX5_strike_5 : decode cX5_strike 5 = .ok (.aload_n 0, 1) := by decide +kernel
theorem dX5_strike_6 : decode cX5_strike 6 = .ok (.getfield 23, 3) := by decide +kernel
theorem dX5_strike_9 : decode cX5_strike 9 = .ok (.getfield 92, 3) := by decide +kernel
theorem dX5_strike_12 : decode cX5_strike 12 = .ok (.iload_n 1, 1) := by decide +kernel
theorem dX5_strike_13 : decode cX5_strike 13 = .ok (.baload, 1) := by decide +kernel
theorem dX5_strike_14 : decode cX5_strike 14 = .ok (.ifCond .ne 7, 3) := by decide +kernel
theorem dX5_strike_17 : decode cX5_strike 17 = .ok (.iconst 1, 1) := by decide +kernel
theorem dX5_strike_18 : decode cX5_strike 18 = .ok (.goto 4, 3) := by decide +kernel
theorem dX5_strike_21 : decode cX5_strike 21 = .ok (.iconst 0, 1) := by decide +kernel
theorem dX5_strike_22 : decode cX5_strike 22 = .ok (.istore_n 2, 1) := by decide +kernel
theorem dX5_strike_23 : decode cX5_strike 23 = .ok (.aload_n 0, 1) := by decide +kernel
theorem dX5_strike_24 : decode cX5_strike 24 = .ok (.getfield 23, 3) := by decide +kernel
theorem dX5_strike_27 : decode cX5_strike 27 = .ok (.getfield 92, 3) := by decide +kernel
theorem dX5_strike_30 : decode cX5_strike 30 = .ok (.iload_n 1, 1) := by decide +kernel
theorem dX5_strike_31 : decode cX5_strike 31 = .ok (.iconst 1, 1) := by decide +kernel
theorem dX5_strike_32 : decode cX5_strike 32 = .ok (.bastore, 1) := by decide +kernel
theorem dX5_strike_33 : decode cX5_strike 33 = .ok (.iload_n 2, 1) := by decide +kernel
theorem dX5_strike_34 : decode cX5_strike 34 = .ok (.ireturn, 1) := by decide +kernel
set_option maxRecDepth 20000 in
theorem ggX5_tell_X5_requireFind : GoodIn wsX5_tell wsX5_requireFind := goodIn_ca (goodIn_r _ [7, 8, 9, 1, 10, 19, 20, 21, 22, 23, 24, 25, 26, 27, 28, 29, 30, 31, 32] (by decide +kernel) (by decide +kernel)) (goodIn_sub (fun _ h => List.mem_cons_of_mem _ (List.mem_append_left _ (List.mem_append_right _ h))) (by decide +kernel))
set_option maxRecDepth 20000 in
theorem gX5_tell_X5_requireFind : GoodIn wsX5_tell (wsV RX5 88 RX5 yX5_requireFind wsX5_requireFind) := goodIn_app (goodIn_of _ (by decide +kernel)) ggX5_tell_X5_requireFind
set_option maxRecDepth 20000 in
theorem ggX5_tell_X5_requireUnlike : GoodIn wsX5_tell wsX5_requireUnlike := goodIn_ca (goodIn_r _ [13, 14, 15] (by decide +kernel) (by decide +kernel)) (goodIn_sub (fun _ h => List.mem_cons_of_mem _ (List.mem_append_right _ h)) (by decide +kernel))
set_option maxRecDepth 20000 in
theorem gX5_tell_X5_requireUnlike : GoodIn wsX5_tell (va_wsS RX5 96 yX5_requireUnlike wsX5_requireUnlike) := goodIn_app (goodIn_of _ (by decide +kernel)) ggX5_tell_X5_requireUnlike
set_option maxRecDepth 20000 in
theorem ggX5_tell_X5_requireRange : GoodIn wsX5_tell wsX5_requireRange := goodIn_ca (goodIn_r _ [18, 14, 15] (by decide +kernel) (by decide +kernel)) (goodIn_sub (fun _ h => List.mem_cons_of_mem _ (List.mem_append_right _ h)) (by decide +kernel))
set_option maxRecDepth 20000 in
theorem gX5_tell_X5_requireRange : GoodIn wsX5_tell (va_wsS RX5 53 yX5_requireRange wsX5_requireRange) := goodIn_app (goodIn_of _ (by decide +kernel)) ggX5_tell_X5_requireRange
theorem dX5_tell_0 : decode cX5_tell 0 = .ok (.aload_n 0, 1) := by decide +kernel
theorem dX5_tell_1 : decode cX5_tell 1 = .ok (.iload_n 1, 1) := by decide +kernel
theorem dX5_tell_2 : decode cX5_tell 2 = .ok (.invokevirtual 88, 3) := by decide +kernel
theorem dX5_tell_5 : decode cX5_tell 5 = .ok (.aload_n 0, 1) := by decide +kernel
theorem dX5_tell_6 : decode cX5_tell 6 = .ok (.iload_n 2, 1) := by decide +kernel
theorem dX5_tell_7 : decode cX5_tell 7 = .ok (.invokevirtual 88, 3) := by decide +kernel
theorem dX5_tell_10 : decode cX5_tell 10 = .ok (.iload_n 1, 1) := by decide +kernel
theorem dX5_tell_11 : decode cX5_tell 11 = .ok (.iload_n 2, 1) := by decide +kernel
theorem dX5_tell_12 : decode cX5_tell 12 = .ok (.invokestatic 96, 3) := by decide +kernel
theorem dX5_tell_15 : decode cX5_tell 15 = .ok (.iload_n 3, 1) := by decide +kernel
theorem dX5_tell_16 : decode cX5_tell 16 = .ok (.iconst 0, 1) := by decide +kernel
theorem dX5_tell_17 : decode cX5_tell 17 = .ok (.iconst 2, 1) := by decide +kernel
theorem dX5_tell_18 : decode cX5_tell 18 = .ok (.invokestatic 53, 3) := by decide +kernel
theorem dX5_tell_21 : decode cX5_tell 21 = .ok (.aload_n 0, 1) := by decide +kernel
theorem dX5_tell_22 : decode cX5_tell 22 = .ok (.getfield 23, 3) := by decide +kernel
theorem dX5_tell_25 : decode cX5_tell 25 = .ok (.getfield 100, 3) := by decide +kernel
theorem dX5_tell_28 : decode cX5_tell 28 = .ok (.iload_n 1, 1) := by decide +kernel
theorem dX5_tell_29 : decode cX5_tell 29 = .ok (.aaload, 1) := by decide +kernel
theorem dX5_tell_30 : decode cX5_tell 30 = .ok (.iload_n 2, 1) := by decide +kernel
theorem dX5_tell_31 : decode cX5_tell 31 = .ok (.iaload, 1) := by decide +kernel
theorem dX5_tell_32 : decode cX5_tell 32 = .ok (.istore 4, 2) := by decide +kernel
theorem dX5_tell_34 : decode cX5_tell 34 = .ok (.aload_n 0, 1) := by decide +kernel
theorem dX5_tell_35 : decode cX5_tell 35 = .ok (.getfield 23, 3) := by decide +kernel
theorem dX5_tell_38 : decode cX5_tell 38 = .ok (.getfield 100, 3) := by decide +kernel
theorem dX5_tell_41 : decode cX5_tell 41 = .ok (.iload_n 1, 1) := by decide +kernel
theorem dX5_tell_42 : decode cX5_tell 42 = .ok (.aaload, 1) := by decide +kernel
theorem dX5_tell_43 : decode cX5_tell 43 = .ok (.iload_n 2, 1) := by decide +kernel
theorem dX5_tell_44 : decode cX5_tell 44 = .ok (.iload_n 3, 1) := by decide +kernel
theorem dX5_tell_45 : decode cX5_tell 45 = .ok (.iastore, 1) := by decide +kernel
theorem dX5_tell_46 : decode cX5_tell 46 = .ok (.aload_n 0, 1) := by decide +kernel
theorem dX5_tell_47 : decode cX5_tell 47 = .ok (.getfield 23, 3) := by decide +kernel
theorem dX5_tell_50 : decode cX5_tell 50 = .ok (.getfield 100, 3) := by decide +kernel
theorem dX5_tell_53 : decode cX5_tell 53 = .ok (.iload_n 2, 1) := by decide +kernel
theorem dX5_tell_54 : decode cX5_tell 54 = .ok (.aaload, 1) := by decide +kernel
theorem dX5_tell_55 : decode cX5_tell 55 = .ok (.iload_n 1, 1) := by decide +kernel
theorem dX5_tell_56 : decode cX5_tell 56 = .ok (.iload_n 3, 1) := by decide +kernel
theorem dX5_tell_57 : decode cX5_tell 57 = .ok (.iastore, 1) := by decide +kernel
theorem dX5_tell_58 : decode cX5_tell 58 = .ok (.iload 4, 2) := by decide +kernel
theorem dX5_tell_60 : decode cX5_tell 60 = .ok (.ireturn, 1) := by decide +kernel
set_option maxRecDepth 20000 in
theorem ggX5_counts_X5_requireFind : GoodIn wsX5_counts wsX5_requireFind := goodIn_ca (goodIn_r _ [7, 8, 9, 1, 10, 28, 29, 30, 31, 32, 33, 34, 35, 36, 37, 38, 39, 40, 41] (by decide +kernel) (by decide +kernel)) (goodIn_sub (fun _ h => List.mem_cons_of_mem _ (List.mem_append_left _ (List.mem_append_right _ h))) (by decide +kernel))
set_option maxRecDepth 20000 in
theorem gX5_counts_X5_requireFind : GoodIn wsX5_counts (wsV RX5 88 RX5 yX5_requireFind wsX5_requireFind) := goodIn_app (goodIn_of _ (by decide +kernel)) ggX5_counts_X5_requireFind
set_option maxRecDepth 20000 in
theorem ggX5_counts_X5_requireDay : GoodIn wsX5_counts wsX5_requireDay := goodIn_ca (goodIn_r _ [13, 14, 15, 6, 16, 17, 18] (by decide +kernel) (by decide +kernel)) (goodIn_sub (fun _ h => List.mem_cons_of_mem _ (List.mem_append_right _ h)) (by decide +kernel))
set_option maxRecDepth 20000 in
theorem gX5_counts_X5_requireDay : GoodIn wsX5_counts (va_wsS RX5 104 yX5_requireDay wsX5_requireDay) := goodIn_app (goodIn_of _ (by decide +kernel)) ggX5_counts_X5_requireDay
set_option maxRecDepth 20000 in
theorem ggX5_counts_X0_standsOn : GoodIn wsX5_counts wsX0_standsOn := goodIn_r _ [23, 24, 25, 26, 27, 35, 36, 37, 38, 39, 40, 41, 42, 43] (by decide +kernel) (by decide +kernel)
set_option maxRecDepth 20000 in
theorem gX5_counts_X0_standsOn : GoodIn wsX5_counts (wsV RX5 107 RX0 yX0_standsOn wsX0_standsOn) := goodIn_app (goodIn_of _ (by decide +kernel)) ggX5_counts_X0_standsOn
theorem dX5_counts_0 : decode cX5_counts 0 = .ok (.aload_n 0, 1) := by decide +kernel
theorem dX5_counts_1 : decode cX5_counts 1 = .ok (.iload_n 1, 1) := by decide +kernel
theorem dX5_counts_2 : decode cX5_counts 2 = .ok (.invokevirtual 88, 3) := by decide +kernel
theorem dX5_counts_5 : decode cX5_counts 5 = .ok (.iload_n 2, 1) := by decide +kernel
theorem dX5_counts_6 : decode cX5_counts 6 = .ok (.invokestatic 104, 3) := by decide +kernel
theorem dX5_counts_9 : decode cX5_counts 9 = .ok (.aload_n 0, 1) := by decide +kernel
theorem dX5_counts_10 : decode cX5_counts 10 = .ok (.getfield 23, 3) := by decide +kernel
theorem dX5_counts_13 : decode cX5_counts 13 = .ok (.iload_n 1, 1) := by decide +kernel
theorem dX5_counts_14 : decode cX5_counts 14 = .ok (.iload_n 2, 1) := by decide +kernel
theorem dX5_counts_15 : decode cX5_counts 15 = .ok (.aload_n 0, 1) := by decide +kernel
theorem dX5_counts_16 : decode cX5_counts 16 = .ok (.getfield 16, 3) := by decide +kernel
theorem dX5_counts_19 : decode cX5_counts 19 = .ok (.invokevirtual 107, 3) := by decide +kernel
theorem dX5_counts_22 : decode cX5_counts 22 = .ok (.ireturn, 1) := by decide +kernel
set_option maxRecDepth 20000 in
theorem ggX5_things_X5_requireDay : GoodIn wsX5_things wsX5_requireDay := goodIn_ca (goodIn_r _ [7, 8, 9, 6, 10, 11, 12] (by decide +kernel) (by decide +kernel)) (goodIn_sub (fun _ h => List.mem_cons_of_mem _ (List.mem_append_right _ h)) (by decide +kernel))
set_option maxRecDepth 20000 in
theorem gX5_things_X5_requireDay : GoodIn wsX5_things (va_wsS RX5 104 yX5_requireDay wsX5_requireDay) := goodIn_app (goodIn_of _ (by decide +kernel)) ggX5_things_X5_requireDay
set_option maxRecDepth 20000 in
theorem ggX5_things_X3_sortFor : GoodIn wsX5_things wsX3_sortFor := goodIn_r _ [17, 18, 19, 20, 21, 22, 23, 24, 25, 26, 27, 28, 29, 30, 31, 32, 33, 16, 34, 35, 36, 37, 38, 39, 40, 41, 42, 43, 44, 45, 46, 47, 48, 49, 50, 51, 52, 53, 54, 55, 56, 57, 58, 59, 78, 79, 80, 71, 72, 73, 74, 75, 76, 77, 81, 82] (by decide +kernel) (by decide +kernel)
set_option maxRecDepth 20000 in
theorem gX5_things_X3_sortFor : GoodIn wsX5_things (wsV RX5 111 RX3 yX3_sortFor wsX3_sortFor) := goodIn_app (goodIn_of _ (by decide +kernel)) ggX5_things_X3_sortFor
set_option maxRecDepth 20000 in
theorem ggX5_things_X3_isThing : GoodIn wsX5_things wsX3_isThing := goodIn_r _ [63, 20, 78, 79, 80] (by decide +kernel) (by decide +kernel)
set_option maxRecDepth 20000 in
theorem gX5_things_X3_isThing : GoodIn wsX5_things (wsV RX5 114 RX3 yX3_isThing wsX3_isThing) := goodIn_app (goodIn_of _ (by decide +kernel)) ggX5_things_X3_isThing
theorem dX5_things_0 : decode cX5_things 0 = .ok (.iload_n 1, 1) := by decide +kernel
theorem dX5_things_1 : decode cX5_things 1 = .ok (.invokestatic 104, 3) := by decide +kernel
theorem dX5_things_4 : decode cX5_things 4 = .ok (.aload_n 0, 1) := by decide +kernel
theorem dX5_things_5 : decode cX5_things 5 = .ok (.getfield 46, 3) := by decide +kernel
theorem dX5_things_8 : decode cX5_things 8 = .ok (.iload_n 1, 1) := by decide +kernel
theorem dX5_things_9 : decode cX5_things 9 = .ok (.invokevirtual 111, 3) := by decide +kernel
theorem dX5_things_12 : decode cX5_things 12 = .ok (.iconst 0, 1) := by decide +kernel
theorem dX5_things_13 : decode cX5_things 13 = .ok (.istore_n 2, 1) := by decide +kernel
theorem dX5_things_14 : decode cX5_things 14 = .ok (.iconst 0, 1) := by decide +kernel
theorem dX5_things_15 : decode cX5_things 15 = .ok (.istore_n 3, 1) := by decide +kernel
theorem dX5_things_16 : decode cX5_things 16 = .ok (.iload_n 3, 1) := by decide +kernel
theorem dX5_things_17 : decode cX5_things 17 = .ok (.aload_n 0, 1) := by decide +kernel
theorem dX5_things_18 : decode cX5_things 18 = .ok (.getfield 23, 3) := by decide +kernel
theorem dX5_things_21 : decode cX5_things 21 = .ok (.getfield 72, 3) := by decide +kernel
theorem dX5_things_24 : decode cX5_things 24 = .ok (.if_icmp .ge 23, 3) := by decide +kernel
theorem dX5_things_27 : decode cX5_things 27 = .ok (.aload_n 0, 1) := by decide +kernel
theorem dX5_things_28 : decode cX5_things 28 = .ok (.getfield 46, 3) := by decide +kernel
theorem dX5_things_31 : decode cX5_things 31 = .ok (.iload_n 3, 1) := by decide +kernel
theorem dX5_things_32 : decode cX5_things 32 = .ok (.invokevirtual 114, 3) := by decide +kernel
theorem dX5_things_35 : decode cX5_things 35 = .ok (.ifCond .eq 6, 3) := by decide +kernel
theorem dX5_things_38 : decode cX5_things 38 = .ok (.iinc 2 1, 3) := by decide +kernel
theorem dX5_things_41 : decode cX5_things 41 = .ok (.iinc 3 1, 3) := by decide +kernel
theorem dX5_things_44 : decode cX5_things 44 = .ok (.goto (-28), 3) := by decide +kernel
theorem dX5_things_47 : decode cX5_things 47 = .ok (.iload_n 2, 1) := by decide +kernel
theorem dX5_things_48 : decode cX5_things 48 = .ok (.ireturn, 1) := by decide +kernel
set_option maxRecDepth 20000 in
theorem ggX5_thingOf_X5_requireFind : GoodIn wsX5_thingOf wsX5_requireFind := goodIn_ca (goodIn_r _ [7, 8, 9, 10, 11, 73, 74, 75, 76, 77, 78, 79, 83, 84, 85, 86, 87, 88, 89] (by decide +kernel) (by decide +kernel)) (goodIn_sub (fun _ h => List.mem_cons_of_mem _ (List.mem_append_left _ (List.mem_append_left _ (List.mem_append_right _ h)))) (by decide +kernel))
set_option maxRecDepth 20000 in
theorem gX5_thingOf_X5_requireFind : GoodIn wsX5_thingOf (wsV RX5 88 RX5 yX5_requireFind wsX5_requireFind) := goodIn_app (goodIn_of _ (by decide +kernel)) ggX5_thingOf_X5_requireFind
set_option maxRecDepth 20000 in
theorem ggX5_thingOf_X5_requireDay : GoodIn wsX5_thingOf wsX5_requireDay := goodIn_ca (goodIn_r _ [14, 15, 16, 6, 17, 18, 19] (by decide +kernel) (by decide +kernel)) (goodIn_sub (fun _ h => List.mem_cons_of_mem _ (List.mem_append_left _ (List.mem_append_right _ h))) (by decide +kernel))
set_option maxRecDepth 20000 in
theorem gX5_thingOf_X5_requireDay : GoodIn wsX5_thingOf (va_wsS RX5 104 yX5_requireDay wsX5_requireDay) := goodIn_app (goodIn_of _ (by decide +kernel)) ggX5_thingOf_X5_requireDay
set_option maxRecDepth 20000 in
theorem ggX5_thingOf_X3_sortFor : GoodIn wsX5_thingOf wsX3_sortFor := goodIn_r _ [24, 25, 26, 27, 28, 29, 30, 31, 32, 33, 34, 35, 36, 37, 38, 39, 40, 23, 41, 42, 43, 44, 45, 46, 47, 48, 49, 50, 51, 52, 53, 54, 55, 56, 57, 58, 59, 60, 61, 62, 63, 64, 65, 66, 80, 81, 82, 83, 84, 85, 86, 87, 88, 89, 90, 91] (by decide +kernel) (by decide +kernel)
set_option maxRecDepth 20000 in
theorem gX5_thingOf_X3_sortFor : GoodIn wsX5_thingOf (wsV RX5 111 RX3 yX3_sortFor wsX3_sortFor) := goodIn_app (goodIn_of _ (by decide +kernel)) ggX5_thingOf_X3_sortFor
set_option maxRecDepth 20000 in
theorem ggX5_thingOf_X5_requireCounting : GoodIn wsX5_thingOf wsX5_requireCounting := goodIn_ca (goodIn_r _ [70, 71, 72, 1, 2, 73, 74, 75, 76, 77, 78, 79, 80, 81, 82] (by decide +kernel) (by decide +kernel)) (goodIn_sub (fun _ h => List.mem_cons_of_mem _ (List.mem_append_right _ h)) (by decide +kernel))
set_option maxRecDepth 20000 in
theorem gX5_thingOf_X5_requireCounting : GoodIn wsX5_thingOf (wsV RX5 118 RX5 yX5_requireCounting wsX5_requireCounting) := goodIn_app (goodIn_of _ (by decide +kernel)) ggX5_thingOf_X5_requireCounting
theorem dX5_thingOf_0 : decode cX5_thingOf 0 = .ok (.aload_n 0, 1) := by decide +kernel
theorem dX5_thingOf_1 : decode cX5_thingOf 1 = .ok (.iload_n 1, 1) := by decide +kernel
theorem dX5_thingOf_2 : decode cX5_thingOf 2 = .ok (.invokevirtual 88, 3) := by decide +kernel
theorem dX5_thingOf_5 : decode cX5_thingOf 5 = .ok (.iload_n 2, 1) := by decide +kernel
theorem dX5_thingOf_6 : decode cX5_thingOf 6 = .ok (.invokestatic 104, 3) := by decide +kernel
theorem dX5_thingOf_9 : decode cX5_thingOf 9 = .ok (.aload_n 0, 1) := by decide +kernel
theorem dX5_thingOf_10 : decode cX5_thingOf 10 = .ok (.getfield 46, 3) := by decide +kernel
theorem dX5_thingOf_13 : decode cX5_thingOf 13 = .ok (.iload_n 2, 1) := by decide +kernel
theorem dX5_thingOf_14 : decode cX5_thingOf 14 = .ok (.invokevirtual 111, 3) := by decide +kernel
theorem dX5_thingOf_17 : decode cX5_thingOf 17 = .ok (.aload_n 0, 1) := by decide +kernel
theorem dX5_thingOf_18 : decode cX5_thingOf 18 = .ok (.iload_n 1, 1) := by decide +kernel
theorem dX5_thingOf_19 : decode cX5_thingOf 19 = .ok (.invokevirtual 118, 3) := by decide +kernel
theorem dX5_thingOf_22 : decode cX5_thingOf 22 = .ok (.aload_n 0, 1) := by decide +kernel
theorem dX5_thingOf_23 : decode cX5_thingOf 23 = .ok (.getfield 46, 3) := by decide +kernel
theorem dX5_thingOf_26 : decode cX5_thingOf 26 = .ok (.getfield 121, 3) := by decide +kernel
theorem dX5_thingOf_29 : decode cX5_thingOf 29 = .ok (.iload_n 1, 1) := by decide +kernel
theorem dX5_thingOf_30 : decode cX5_thingOf 30 = .ok (.iaload, 1) := by decide +kernel
theorem dX5_thingOf_31 : decode cX5_thingOf 31 = .ok (.ireturn, 1) := by decide +kernel
set_option maxRecDepth 20000 in
theorem ggX5_value_X5_requireFind : GoodIn wsX5_value wsX5_requireFind := goodIn_ca (goodIn_r _ [7, 8, 9, 10, 11, 91, 92, 93, 94, 95, 96, 97, 101, 102, 103, 104, 105, 106, 107] (by decide +kernel) (by decide +kernel)) (goodIn_sub (fun _ h => List.mem_cons_of_mem _ (List.mem_append_left _ (List.mem_append_left _ (List.mem_append_right _ h)))) (by decide +kernel))
set_option maxRecDepth 20000 in
theorem gX5_value_X5_requireFind : GoodIn wsX5_value (wsV RX5 88 RX5 yX5_requireFind wsX5_requireFind) := goodIn_app (goodIn_of _ (by decide +kernel)) ggX5_value_X5_requireFind
set_option maxRecDepth 20000 in
theorem ggX5_value_X5_requireAttribute : GoodIn wsX5_value wsX5_requireAttribute := goodIn_ca (goodIn_r _ [14, 15, 16, 6, 17, 18, 19] (by decide +kernel) (by decide +kernel)) (goodIn_sub (fun _ h => List.mem_cons_of_mem _ (List.mem_append_left _ (List.mem_append_right _ h))) (by decide +kernel))
set_option maxRecDepth 20000 in
theorem gX5_value_X5_requireAttribute : GoodIn wsX5_value (va_wsS RX5 124 yX5_requireAttribute wsX5_requireAttribute) := goodIn_app (goodIn_of _ (by decide +kernel)) ggX5_value_X5_requireAttribute
set_option maxRecDepth 20000 in
theorem ggX5_value_X5_requireDay : GoodIn wsX5_value wsX5_requireDay := goodIn_ca (goodIn_r _ [22, 15, 16, 6, 17, 18, 19] (by decide +kernel) (by decide +kernel)) (goodIn_sub (fun _ h => List.mem_cons_of_mem _ (List.mem_append_left _ (List.mem_append_right _ h))) (by decide +kernel))
set_option maxRecDepth 20000 in
theorem gX5_value_X5_requireDay : GoodIn wsX5_value (va_wsS RX5 104 yX5_requireDay wsX5_requireDay) := goodIn_app (goodIn_of _ (by decide +kernel)) ggX5_value_X5_requireDay
set_option maxRecDepth 20000 in
theorem ggX5_value_X3_sortFor : GoodIn wsX5_value wsX3_sortFor := goodIn_r _ [27, 28, 29, 30, 31, 32, 33, 34, 35, 36, 37, 38, 39, 40, 41, 42, 43, 26, 44, 45, 46, 47, 48, 49, 50, 51, 52, 53, 54, 55, 56, 57, 58, 59, 60, 61, 62, 63, 64, 65, 66, 67, 68, 69, 98, 99, 100, 101, 102, 103, 104, 105, 106, 107, 108, 109] (by decide +kernel) (by decide +kernel)
set_option maxRecDepth 20000 in
theorem gX5_value_X3_sortFor : GoodIn wsX5_value (wsV RX5 111 RX3 yX3_sortFor wsX3_sortFor) := goodIn_app (goodIn_of _ (by decide +kernel)) ggX5_value_X3_sortFor
set_option maxRecDepth 20000 in
theorem ggX5_value_X5_requireCounting : GoodIn wsX5_value wsX5_requireCounting := goodIn_ca (goodIn_r _ [73, 74, 75, 1, 2, 91, 92, 93, 94, 95, 96, 97, 98, 99, 100] (by decide +kernel) (by decide +kernel)) (goodIn_sub (fun _ h => List.mem_cons_of_mem _ (List.mem_append_right _ h)) (by decide +kernel))
set_option maxRecDepth 20000 in
theorem gX5_value_X5_requireCounting : GoodIn wsX5_value (wsV RX5 118 RX5 yX5_requireCounting wsX5_requireCounting) := goodIn_app (goodIn_of _ (by decide +kernel)) ggX5_value_X5_requireCounting
set_option maxRecDepth 20000 in
theorem ggX5_value_X3_attributeOf : GoodIn wsX5_value wsX3_attributeOf := goodIn_r _ [79, 28, 29, 80, 81, 82, 83, 26, 84, 30, 85, 86, 87, 88, 31, 89, 90, 98, 99, 100, 101, 102, 103, 104, 105, 106, 107, 108, 109] (by decide +kernel) (by decide +kernel)
set_option maxRecDepth 20000 in
theorem gX5_value_X3_attributeOf : GoodIn wsX5_value (wsV RX5 127 RX3 yX3_attributeOf wsX3_attributeOf) := goodIn_app (goodIn_of _ (by decide +kernel)) ggX5_value_X3_attributeOf
end
section
theorem dX5_value_0 : decode cX5_value 0 = .ok (.aload_n 0, 1) := by decide +kernel
theorem dX5_value_1 : decode cX5_value 1 = .ok (.iload_n 1, 1) := by decide +kernel
theorem dX5_value_2 : decode cX5_value 2 = .ok (.invokevirtual 88, 3) := by decide +kernel
theorem dX5_value_5 : decode cX5_value 5 = .ok (.iload_n 2, 1) := by decide +kernel
theorem dX5_value_6 : decode cX5_value 6 = .ok (.invokestatic 124, 3) := by decide +kernel
theorem dX5_value_9 : decode cX5_value 9 = .ok (.iload_n 3, 1) := by decide +kernel
theorem dX5_value_10 : decode cX5_value 10 = .ok (.invokestatic 104, 3) := by decide +kernel
theorem dX5_value_13 : decode cX5_value 13 = .ok (.aload_n 0, 1) := by decide +kernel
theorem dX5_value_14 : decode cX5_value 14 = .ok (.getfield 46, 3) := by decide +kernel
theorem dX5_value_17 : decode cX5_value 17 = .ok (.iload_n 3, 1) := by decide +kernel
theorem dX5_value_18 : decode cX5_value 18 = .ok (.invokevirtual 111, 3) := by decide +kernel
theorem dX5_value_21 : decode cX5_value 21 = .ok (.aload_n 0, 1) := by decide +kernel
theorem dX5_value_22 : decode cX5_value 22 = .ok (.iload_n 1, 1) := by decide +kernel
theorem dX5_value_23 : decode cX5_value 23 = .ok (.invokevirtual 118, 3) := by decide +kernel
theorem dX5_value_26 : decode cX5_value 26 = .ok (.aload_n 0, 1) := by decide +kernel
theorem dX5_value_27 : decode cX5_value 27 = .ok (.getfield 46, 3) := by decide +kernel
theorem dX5_value_30 : decode cX5_value 30 = .ok (.aload_n 0, 1) := by decide +kernel
theorem dX5_value_31 : decode cX5_value 31 = .ok (.getfield 46, 3) := by decide +kernel
theorem dX5_value_34 : decode cX5_value 34 = .ok (.getfield 121, 3) := by decide +kernel
theorem dX5_value_37 : decode cX5_value 37 = .ok (.iload_n 1, 1) := by decide +kernel
theorem dX5_value_38 : decode cX5_value 38 = .ok (.iaload, 1) := by decide +kernel
theorem dX5_value_39 : decode cX5_value 39 = .ok (.iload_n 2, 1) := by decide +kernel
theorem dX5_value_40 : decode cX5_value 40 = .ok (.invokevirtual 127, 3) := by decide +kernel
theorem dX5_value_43 : decode cX5_value 43 = .ok (.ireturn, 1) := by decide +kernel
set_option maxRecDepth 20000 in
theorem ggX5_disputed_X5_requireAttribute : GoodIn wsX5_disputed wsX5_requireAttribute := goodIn_ca (goodIn_r _ [7, 8, 9, 6, 10, 11, 12] (by decide +kernel) (by decide +kernel)) (goodIn_sub (fun _ h => List.mem_cons_of_mem _ (List.mem_append_right _ h)) (by decide +kernel))
set_option maxRecDepth 20000 in
theorem gX5_disputed_X5_requireAttribute : GoodIn wsX5_disputed (va_wsS RX5 124 yX5_requireAttribute wsX5_requireAttribute) := goodIn_app (goodIn_of _ (by decide +kernel)) ggX5_disputed_X5_requireAttribute
set_option maxRecDepth 20000 in
theorem ggX5_disputed_X5_requireDay : GoodIn wsX5_disputed wsX5_requireDay := goodIn_ca (goodIn_r _ [15, 8, 9, 6, 10, 11, 12] (by decide +kernel) (by decide +kernel)) (goodIn_sub (fun _ h => List.mem_cons_of_mem _ (List.mem_append_right _ h)) (by decide +kernel))
set_option maxRecDepth 20000 in
theorem gX5_disputed_X5_requireDay : GoodIn wsX5_disputed (va_wsS RX5 104 yX5_requireDay wsX5_requireDay) := goodIn_app (goodIn_of _ (by decide +kernel)) ggX5_disputed_X5_requireDay
set_option maxRecDepth 20000 in
theorem ggX5_disputed_X3_sortFor : GoodIn wsX5_disputed wsX3_sortFor := goodIn_r _ [20, 21, 22, 23, 24, 25, 26, 27, 28, 29, 30, 31, 32, 33, 34, 35, 36, 19, 37, 38, 39, 40, 41, 42, 43, 44, 45, 46, 47, 48, 49, 50, 51, 52, 53, 54, 55, 56, 57, 58, 59, 60, 61, 62, 90, 91, 92, 83, 84, 85, 86, 87, 88, 89, 93, 94] (by decide +kernel) (by decide +kernel)
set_option maxRecDepth 20000 in
theorem gX5_disputed_X3_sortFor : GoodIn wsX5_disputed (wsV RX5 111 RX3 yX3_sortFor wsX3_sortFor) := goodIn_app (goodIn_of _ (by decide +kernel)) ggX5_disputed_X3_sortFor
set_option maxRecDepth 20000 in
theorem ggX5_disputed_X3_isThing : GoodIn wsX5_disputed wsX3_isThing := goodIn_r _ [66, 23, 90, 91, 92] (by decide +kernel) (by decide +kernel)
set_option maxRecDepth 20000 in
theorem gX5_disputed_X3_isThing : GoodIn wsX5_disputed (wsV RX5 114 RX3 yX3_isThing wsX3_isThing) := goodIn_app (goodIn_of _ (by decide +kernel)) ggX5_disputed_X3_isThing
set_option maxRecDepth 20000 in
theorem ggX5_disputed_X3_hasUnlikeValues : GoodIn wsX5_disputed wsX3_hasUnlikeValues := goodIn_r _ [70, 21, 22, 71, 72, 73, 74, 19, 75, 23, 90, 91, 92, 83, 84, 85, 86, 87, 88, 89] (by decide +kernel) (by decide +kernel)
set_option maxRecDepth 20000 in
theorem gX5_disputed_X3_hasUnlikeValues : GoodIn wsX5_disputed (wsV RX5 130 RX3 yX3_hasUnlikeValues wsX3_hasUnlikeValues) := goodIn_app (goodIn_of _ (by decide +kernel)) ggX5_disputed_X3_hasUnlikeValues
theorem dX5_disputed_0 : decode cX5_disputed 0 = .ok (.iload_n 1, 1) := by decide +kernel
theorem dX5_disputed_1 : decode cX5_disputed 1 = .ok (.invokestatic 124, 3) := by decide +kernel
theorem dX5_disputed_4 : decode cX5_disputed 4 = .ok (.iload_n 2, 1) := by decide +kernel
theorem dX5_disputed_5 : decode cX5_disputed 5 = .ok (.invokestatic 104, 3) := by decide +kernel
theorem dX5_disputed_8 : decode cX5_disputed 8 = .ok (.aload_n 0, 1) := by decide +kernel
theorem dX5_disputed_9 : decode cX5_disputed 9 = .ok (.getfield 46, 3) := by decide +kernel
theorem dX5_disputed_12 : decode cX5_disputed 12 = .ok (.iload_n 2, 1) := by decide +kernel
theorem dX5_disputed_13 : decode cX5_disputed 13 = .ok (.invokevirtual 111, 3) := by decide +kernel
theorem dX5_disputed_16 : decode cX5_disputed 16 = .ok (.iconst 0, 1) := by decide +kernel
theorem dX5_disputed_17 : decode cX5_disputed 17 = .ok (.istore_n 3, 1) := by decide +kernel
theorem dX5_disputed_18 : decode cX5_disputed 18 = .ok (.iconst 0, 1) := by decide +kernel
theorem dX5_disputed_19 : decode cX5_disputed 19 = .ok (.istore 4, 2) := by decide +kernel
theorem dX5_disputed_21 : decode cX5_disputed 21 = .ok (.iload 4, 2) := by decide +kernel
theorem dX5_disputed_23 : decode cX5_disputed 23 = .ok (.aload_n 0, 1) := by decide +kernel
theorem dX5_disputed_24 : decode cX5_disputed 24 = .ok (.getfield 23, 3) := by decide +kernel
theorem dX5_disputed_27 : decode cX5_disputed 27 = .ok (.getfield 72, 3) := by decide +kernel
theorem dX5_disputed_30 : decode cX5_disputed 30 = .ok (.if_icmp .ge 37, 3) := by decide +kernel
theorem dX5_disputed_33 : decode cX5_disputed 33 = .ok (.aload_n 0, 1) := by decide +kernel
theorem dX5_disputed_34 : decode cX5_disputed 34 = .ok (.getfield 46, 3) := by decide +kernel
theorem dX5_disputed_37 : decode cX5_disputed 37 = .ok (.iload 4, 2) := by decide +kernel
theorem dX5_disputed_39 : decode cX5_disputed 39 = .ok (.invokevirtual 114, 3) := by decide +kernel
theorem dX5_disputed_42 : decode cX5_disputed 42 = .ok (.ifCond .eq 19, 3) := by decide +kernel
theorem dX5_disputed_45 : decode cX5_disputed 45 = .ok (.aload_n 0, 1) := by decide +kernel
theorem dX5_disputed_46 : decode cX5_disputed 46 = .ok (.getfield 46, 3) := by decide +kernel
theorem dX5_disputed_49 : decode cX5_disputed 49 = .ok (.iload 4, 2) := by decide +kernel
theorem dX5_disputed_51 : decode cX5_disputed 51 = .ok (.iload_n 1, 1) := by decide +kernel
theorem dX5_disputed_52 : decode cX5_disputed 52 = .ok (.invokevirtual 130, 3) := by decide +kernel
theorem dX5_disputed_55 : decode cX5_disputed 55 = .ok (.ifCond .eq 6, 3) := by decide +kernel
theorem dX5_disputed_58 : decode cX5_disputed 58 = .ok (.iinc 3 1, 3) := by decide +kernel
theorem dX5_disputed_61 : decode cX5_disputed 61 = .ok (.iinc 4 1, 3) := by decide +kernel
theorem dX5_disputed_64 : decode cX5_disputed 64 = .ok (.goto (-43), 3) := by decide +kernel
theorem dX5_disputed_67 : decode cX5_disputed 67 = .ok (.iload_n 3, 1) := by decide +kernel
theorem dX5_disputed_68 : decode cX5_disputed 68 = .ok (.ireturn, 1) := by decide +kernel
set_option maxRecDepth 20000 in
theorem ggX5_link_X5_requireFind : GoodIn wsX5_link wsX5_requireFind := goodIn_ca (goodIn_r _ [9, 10, 11, 12, 13, 31, 32, 33, 34, 35, 36, 37, 43, 44, 45, 46, 47, 48, 49] (by decide +kernel) (by decide +kernel)) (goodIn_sub (fun _ h => List.mem_cons_of_mem _ (List.mem_append_left _ (List.mem_append_right _ h))) (by decide +kernel))
set_option maxRecDepth 20000 in
theorem gX5_link_X5_requireFind : GoodIn wsX5_link (wsV RX5 88 RX5 yX5_requireFind wsX5_requireFind) := goodIn_app (goodIn_of _ (by decide +kernel)) ggX5_link_X5_requireFind
set_option maxRecDepth 20000 in
theorem ggX5_link_X5_requireUnlike : GoodIn wsX5_link wsX5_requireUnlike := goodIn_ca (goodIn_r _ [16, 17, 18] (by decide +kernel) (by decide +kernel)) (goodIn_sub (fun _ h => List.mem_cons_of_mem _ (List.mem_append_right _ h)) (by decide +kernel))
set_option maxRecDepth 20000 in
theorem gX5_link_X5_requireUnlike : GoodIn wsX5_link (va_wsS RX5 96 yX5_requireUnlike wsX5_requireUnlike) := goodIn_app (goodIn_of _ (by decide +kernel)) ggX5_link_X5_requireUnlike
set_option maxRecDepth 20000 in
theorem ggX5_link_X5_requireRange : GoodIn wsX5_link wsX5_requireRange := goodIn_ca (goodIn_r _ [21, 17, 18] (by decide +kernel) (by decide +kernel)) (goodIn_sub (fun _ h => List.mem_cons_of_mem _ (List.mem_append_right _ h)) (by decide +kernel))
set_option maxRecDepth 20000 in
theorem gX5_link_X5_requireRange : GoodIn wsX5_link (va_wsS RX5 53 yX5_requireRange wsX5_requireRange) := goodIn_app (goodIn_of _ (by decide +kernel)) ggX5_link_X5_requireRange
set_option maxRecDepth 20000 in
theorem ggX5_link_X1_add : GoodIn wsX5_link wsX1_add := goodIn_r _ [26, 27, 28, 29, 30, 38, 39, 40, 41, 42] (by decide +kernel) (by decide +kernel)
set_option maxRecDepth 20000 in
theorem gX5_link_X1_add : GoodIn wsX5_link (wsV RX5 137 RX1 yX1_add wsX1_add) := goodIn_app (goodIn_of _ (by decide +kernel)) ggX5_link_X1_add
theorem dX5_link_0 : decode cX5_link 0 = .ok (.aload_n 0, 1) := by decide +kernel
theorem dX5_link_1 : decode cX5_link 1 = .ok (.iload_n 1, 1) := by decide +kernel
theorem dX5_link_2 : decode cX5_link 2 = .ok (.invokevirtual 88, 3) := by decide +kernel
theorem dX5_link_5 : decode cX5_link 5 = .ok (.aload_n 0, 1) := by decide +kernel
theorem dX5_link_6 : decode cX5_link 6 = .ok (.iload_n 2, 1) := by decide +kernel
theorem dX5_link_7 : decode cX5_link 7 = .ok (.invokevirtual 88, 3) := by decide +kernel
theorem dX5_link_10 : decode cX5_link 10 = .ok (.iload_n 1, 1) := by decide +kernel
theorem dX5_link_11 : decode cX5_link 11 = .ok (.iload_n 2, 1) := by decide +kernel
theorem dX5_link_12 : decode cX5_link 12 = .ok (.invokestatic 96, 3) := by decide +kernel
theorem dX5_link_15 : decode cX5_link 15 = .ok (.iload_n 3, 1) := by decide +kernel
theorem dX5_link_16 : decode cX5_link 16 = .ok (.iconst 0, 1) := by decide +kernel
theorem dX5_link_17 : decode cX5_link 17 = .ok (.iconst 3, 1) := by decide +kernel
theorem dX5_link_18 : decode cX5_link 18 = .ok (.invokestatic 53, 3) := by decide +kernel
theorem dX5_link_21 : decode cX5_link 21 = .ok (.aload_n 0, 1) := by decide +kernel
theorem dX5_link_22 : decode cX5_link 22 = .ok (.getfield 30, 3) := by decide +kernel
theorem dX5_link_25 : decode cX5_link 25 = .ok (.getfield 134, 3) := by decide +kernel
theorem dX5_link_28 : decode cX5_link 28 = .ok (.bipush 40, 2) := by decide +kernel
theorem dX5_link_30 : decode cX5_link 30 = .ok (.if_icmp .lt 13, 3) := by decide +kernel
theorem dX5_link_33 : decode cX5_link 33 = .ok (.new 57, 3) := by decide +kernel
theorem dX5_link_36 : decode cX5_link 36 = .ok (.dup, 1) := by decide +kernel
theorem dX5_link_37 : decode cX5_link 37 = .ok (.ldc 135, 2) := by decide +kernel
theorem dX5_link_39 : decode cX5_link 39 = .ok (.invokespecial 61, 3) := by decide +kernel
theorem dX5_link_42 : decode cX5_link 42 = .ok (.athrow, 1) := by decide +kernel
theorem dX5_link_43 : decode cX5_link 43 = .ok (.aload_n 0, 1) := by decide +kernel
theorem dX5_link_44 : decode cX5_link 44 = .ok (.getfield 30, 3) := by decide +kernel
theorem dX5_link_47 : decode cX5_link 47 = .ok (.iload_n 1, 1) := by decide +kernel
theorem dX5_link_48 : decode cX5_link 48 = .ok (.iload_n 2, 1) := by decide +kernel
theorem dX5_link_49 : decode cX5_link 49 = .ok (.iload_n 3, 1) := by decide +kernel
theorem dX5_link_50 : decode cX5_link 50 = .ok (.invokevirtual 137, 3) := by decide +kernel
theorem dX5_link_53 : decode cX5_link 53 = .ok (.aload_n 0, 1) := by decide +kernel
theorem dX5_link_54 : decode cX5_link 54 = .ok (.getfield 30, 3) := by decide +kernel
theorem dX5_link_57 : decode cX5_link 57 = .ok (.getfield 134, 3) := by decide +kernel
theorem dX5_link_60 : decode cX5_link 60 = .ok (.ireturn, 1) := by decide +kernel
set_option maxRecDepth 20000 in
theorem ggX5_impact_X5_requireFind : GoodIn wsX5_impact wsX5_requireFind := goodIn_ca (goodIn_r _ [8, 9, 10, 11, 12, 101, 102, 103, 104, 105, 106, 107, 111, 112, 113, 114, 115, 116, 117] (by decide +kernel) (by decide +kernel)) (goodIn_sub (fun _ h => List.mem_cons_of_mem _ (List.mem_append_left _ (List.mem_append_left _ (List.mem_append_right _ h)))) (by decide +kernel))
set_option maxRecDepth 20000 in
theorem gX5_impact_X5_requireFind : GoodIn wsX5_impact (wsV RX5 88 RX5 yX5_requireFind wsX5_requireFind) := goodIn_app (goodIn_of _ (by decide +kernel)) ggX5_impact_X5_requireFind
set_option maxRecDepth 20000 in
theorem ggX5_impact_X5_requireDay : GoodIn wsX5_impact wsX5_requireDay := goodIn_ca (goodIn_r _ [15, 16, 17, 7, 18, 19, 20] (by decide +kernel) (by decide +kernel)) (goodIn_sub (fun _ h => List.mem_cons_of_mem _ (List.mem_append_left _ (List.mem_append_right _ h))) (by decide +kernel))
set_option maxRecDepth 20000 in
theorem gX5_impact_X5_requireDay : GoodIn wsX5_impact (va_wsS RX5 104 yX5_requireDay wsX5_requireDay) := goodIn_app (goodIn_of _ (by decide +kernel)) ggX5_impact_X5_requireDay
set_option maxRecDepth 20000 in
theorem ggX5_impact_X3_sortFor : GoodIn wsX5_impact wsX3_sortFor := goodIn_r _ [25, 26, 27, 28, 29, 30, 31, 32, 33, 34, 35, 36, 37, 38, 39, 40, 41, 24, 42, 43, 44, 45, 46, 47, 48, 49, 50, 51, 52, 53, 54, 55, 56, 57, 58, 59, 60, 61, 62, 63, 64, 65, 66, 67, 108, 109, 110, 111, 112, 113, 114, 115, 116, 117, 118, 119] (by decide +kernel) (by decide +kernel)
set_option maxRecDepth 20000 in
theorem gX5_impact_X3_sortFor : GoodIn wsX5_impact (wsV RX5 111 RX3 yX3_sortFor wsX3_sortFor) := goodIn_app (goodIn_of _ (by decide +kernel)) ggX5_impact_X3_sortFor
set_option maxRecDepth 20000 in
theorem ggX5_impact_X5_requireCounting : GoodIn wsX5_impact wsX5_requireCounting := goodIn_ca (goodIn_r _ [71, 72, 73, 1, 3, 101, 102, 103, 104, 105, 106, 107, 108, 109, 110] (by decide +kernel) (by decide +kernel)) (goodIn_sub (fun _ h => List.mem_cons_of_mem _ (List.mem_append_right _ h)) (by decide +kernel))
set_option maxRecDepth 20000 in
theorem gX5_impact_X5_requireCounting : GoodIn wsX5_impact (wsV RX5 118 RX5 yX5_requireCounting wsX5_requireCounting) := goodIn_app (goodIn_of _ (by decide +kernel)) ggX5_impact_X5_requireCounting
set_option maxRecDepth 20000 in
theorem ggX5_impact_X1_failFrom : GoodIn wsX5_impact wsX1_failFrom := goodIn_r _ [78, 79, 80, 81, 82, 77, 83, 84, 85, 86, 87, 88, 89, 90, 91, 92, 93, 94, 95, 96, 120, 121, 122, 123, 124, 108, 109, 110] (by decide +kernel) (by decide +kernel)
set_option maxRecDepth 20000 in
theorem gX5_impact_X1_failFrom : GoodIn wsX5_impact (wsV RX5 140 RX1 yX1_failFrom wsX1_failFrom) := goodIn_app (goodIn_of _ (by decide +kernel)) ggX5_impact_X1_failFrom
set_option maxRecDepth 20000 in
theorem ggX5_impact_X1_failures : GoodIn wsX5_impact wsX1_failures := goodIn_r _ [100, 79, 120, 121, 122, 123, 124] (by decide +kernel) (by decide +kernel)
set_option maxRecDepth 20000 in
theorem gX5_impact_X1_failures : GoodIn wsX5_impact (wsV RX5 144 RX1 yX1_failures wsX1_failures) := goodIn_app (goodIn_of _ (by decide +kernel)) ggX5_impact_X1_failures
theorem dX5_impact_0 : decode cX5_impact 0 = .ok (.aload_n 0, 1) := by decide +kernel
theorem dX5_impact_1 : decode cX5_impact 1 = .ok (.iload_n 1, 1) := by decide +kernel
theorem dX5_impact_2 : decode cX5_impact 2 = .ok (.invokevirtual 88, 3) := by decide +kernel
theorem dX5_impact_5 : decode cX5_impact 5 = .ok (.iload_n 2, 1) := by decide +kernel
theorem dX5_impact_6 : decode cX5_impact 6 = .ok (.invokestatic 104, 3) := by decide +kernel
theorem dX5_impact_9 : decode cX5_impact 9 = .ok (.aload_n 0, 1) := by decide +kernel
theorem dX5_impact_10 : decode cX5_impact 10 = .ok (.getfield 46, 3) := by decide +kernel
theorem dX5_impact_13 : decode cX5_impact 13 = .ok (.iload_n 2, 1) := by decide +kernel
theorem dX5_impact_14 : decode cX5_impact 14 = .ok (.invokevirtual 111, 3) := by decide +kernel
theorem dX5_impact_17 : decode cX5_impact 17 = .ok (.aload_n 0, 1) := by decide +kernel
theorem dX5_impact_18 : decode cX5_impact 18 = .ok (.iload_n 1, 1) := by decide +kernel
theorem dX5_impact_19 : decode cX5_impact 19 = .ok (.invokevirtual 118, 3) := by decide +kernel
theorem dX5_impact_22 : decode cX5_impact 22 = .ok (.aload_n 0, 1) := by decide +kernel
theorem dX5_impact_23 : decode cX5_impact 23 = .ok (.getfield 30, 3) := by decide +kernel
theorem dX5_impact_26 : decode cX5_impact 26 = .ok (.aload_n 0, 1) := by decide +kernel
theorem dX5_impact_27 : decode cX5_impact 27 = .ok (.getfield 46, 3) := by decide +kernel
theorem dX5_impact_30 : decode cX5_impact 30 = .ok (.getfield 121, 3) := by decide +kernel
theorem dX5_impact_33 : decode cX5_impact 33 = .ok (.iload_n 1, 1) := by decide +kernel
theorem dX5_impact_34 : decode cX5_impact 34 = .ok (.iaload, 1) := by decide +kernel
theorem dX5_impact_35 : decode cX5_impact 35 = .ok (.aload_n 0, 1) := by decide +kernel
theorem dX5_impact_36 : decode cX5_impact 36 = .ok (.getfield 46, 3) := by decide +kernel
theorem dX5_impact_39 : decode cX5_impact 39 = .ok (.invokevirtual 140, 3) := by decide +kernel
theorem dX5_impact_42 : decode cX5_impact 42 = .ok (.aload_n 0, 1) := by decide +kernel
theorem dX5_impact_43 : decode cX5_impact 43 = .ok (.getfield 30, 3) := by decide +kernel
theorem dX5_impact_46 : decode cX5_impact 46 = .ok (.invokevirtual 144, 3) := by decide +kernel
theorem dX5_impact_49 : decode cX5_impact 49 = .ok (.ireturn, 1) := by decide +kernel
set_option maxRecDepth 20000 in
theorem ggX5_failsWith_X5_requireFind : GoodIn wsX5_failsWith wsX5_requireFind := goodIn_ca (goodIn_r _ [9, 10, 11, 12, 13, 98, 99, 100, 101, 102, 103, 104, 113, 114, 115, 116, 117, 118, 119] (by decide +kernel) (by decide +kernel)) (goodIn_sub (fun _ h => List.mem_cons_of_mem _ (List.mem_append_left _ (List.mem_append_left _ (List.mem_append_right _ h)))) (by decide +kernel))
set_option maxRecDepth 20000 in
theorem gX5_failsWith_X5_requireFind : GoodIn wsX5_failsWith (wsV RX5 88 RX5 yX5_requireFind wsX5_requireFind) := goodIn_app (goodIn_of _ (by decide +kernel)) ggX5_failsWith_X5_requireFind
set_option maxRecDepth 20000 in
theorem ggX5_failsWith_X5_requireDay : GoodIn wsX5_failsWith wsX5_requireDay := goodIn_ca (goodIn_r _ [16, 17, 18, 8, 19, 20, 21] (by decide +kernel) (by decide +kernel)) (goodIn_sub (fun _ h => List.mem_cons_of_mem _ (List.mem_append_left _ (List.mem_append_right _ h))) (by decide +kernel))
set_option maxRecDepth 20000 in
theorem gX5_failsWith_X5_requireDay : GoodIn wsX5_failsWith (va_wsS RX5 104 yX5_requireDay wsX5_requireDay) := goodIn_app (goodIn_of _ (by decide +kernel)) ggX5_failsWith_X5_requireDay
set_option maxRecDepth 20000 in
theorem ggX5_failsWith_X3_sortFor : GoodIn wsX5_failsWith wsX3_sortFor := goodIn_r _ [26, 27, 28, 29, 30, 31, 32, 33, 34, 35, 36, 37, 38, 39, 40, 41, 42, 25, 43, 44, 45, 46, 47, 48, 49, 50, 51, 52, 53, 54, 55, 56, 57, 58, 59, 60, 61, 62, 63, 64, 65, 66, 67, 68, 105, 106, 107, 113, 114, 115, 116, 117, 118, 119, 120, 121] (by decide +kernel) (by decide +kernel)
set_option maxRecDepth 20000 in
theorem gX5_failsWith_X3_sortFor : GoodIn wsX5_failsWith (wsV RX5 111 RX3 yX3_sortFor wsX3_sortFor) := goodIn_app (goodIn_of _ (by decide +kernel)) ggX5_failsWith_X3_sortFor
set_option maxRecDepth 20000 in
theorem ggX5_failsWith_X5_requireCounting : GoodIn wsX5_failsWith wsX5_requireCounting := goodIn_ca (goodIn_r _ [72, 73, 74, 1, 3, 98, 99, 100, 101, 102, 103, 104, 105, 106, 107] (by decide +kernel) (by decide +kernel)) (goodIn_sub (fun _ h => List.mem_cons_of_mem _ (List.mem_append_right _ h)) (by decide +kernel))
set_option maxRecDepth 20000 in
theorem gX5_failsWith_X5_requireCounting : GoodIn wsX5_failsWith (wsV RX5 118 RX5 yX5_requireCounting wsX5_requireCounting) := goodIn_app (goodIn_of _ (by decide +kernel)) ggX5_failsWith_X5_requireCounting
set_option maxRecDepth 20000 in
theorem ggX5_failsWith_X1_failFrom : GoodIn wsX5_failsWith wsX1_failFrom := goodIn_r _ [79, 80, 81, 82, 83, 78, 84, 85, 86, 87, 88, 89, 90, 91, 92, 93, 94, 95, 96, 97, 108, 109, 110, 111, 112, 105, 106, 107] (by decide +kernel) (by decide +kernel)
set_option maxRecDepth 20000 in
theorem gX5_failsWith_X1_failFrom : GoodIn wsX5_failsWith (wsV RX5 140 RX1 yX1_failFrom wsX1_failFrom) := goodIn_app (goodIn_of _ (by decide +kernel)) ggX5_failsWith_X1_failFrom
theorem dX5_failsWith_0 : decode cX5_failsWith 0 = .ok (.aload_n 0, 1) := by decide +kernel
theorem dX5_failsWith_1 : decode cX5_failsWith 1 = .ok (.iload_n 1, 1) := by decide +kernel
theorem dX5_failsWith_2 : decode cX5_failsWith 2 = .ok (.invokevirtual 88, 3) := by decide +kernel
theorem dX5_failsWith_5 : decode cX5_failsWith 5 = .ok (.aload_n 0, 1) := by decide +kernel
theorem dX5_failsWith_6 : decode cX5_failsWith 6 = .ok (.iload_n 2, 1) := by decide +kernel
theorem dX5_failsWith_7 : decode cX5_failsWith 7 = .ok (.invokevirtual 88, 3) := by decide +kernel
theorem dX5_failsWith_10 : decode cX5_failsWith 10 = .ok (.iload_n 3, 1) := by decide +kernel
theorem dX5_failsWith_11 : decode cX5_failsWith 11 = .ok (.invokestatic 104, 3) := by decide +kernel
theorem dX5_failsWith_14 : decode cX5_failsWith 14 = .ok (.aload_n 0, 1) := by decide +kernel
theorem dX5_failsWith_15 : decode cX5_failsWith 15 = .ok (.getfield 46, 3) := by decide +kernel
theorem dX5_failsWith_18 : decode cX5_failsWith 18 = .ok (.iload_n 3, 1) := by decide +kernel
theorem dX5_failsWith_19 : decode cX5_failsWith 19 = .ok (.invokevirtual 111, 3) := by decide +kernel
theorem dX5_failsWith_22 : decode cX5_failsWith 22 = .ok (.aload_n 0, 1) := by decide +kernel
theorem dX5_failsWith_23 : decode cX5_failsWith 23 = .ok (.iload_n 1, 1) := by decide +kernel
theorem dX5_failsWith_24 : decode cX5_failsWith 24 = .ok (.invokevirtual 118, 3) := by decide +kernel
theorem dX5_failsWith_27 : decode cX5_failsWith 27 = .ok (.aload_n 0, 1) := by decide +kernel
theorem dX5_failsWith_28 : decode cX5_failsWith 28 = .ok (.iload_n 2, 1) := by decide +kernel
theorem dX5_failsWith_29 : decode cX5_failsWith 29 = .ok (.invokevirtual 118, 3) := by decide +kernel
theorem dX5_failsWith_32 : decode cX5_failsWith 32 = .ok (.aload_n 0, 1) := by decide +kernel
theorem dX5_failsWith_33 : decode cX5_failsWith 33 = .ok (.getfield 30, 3) := by decide +kernel
theorem dX5_failsWith_36 : decode cX5_failsWith 36 = .ok (.aload_n 0, 1) := by decide +kernel
theorem dX5_failsWith_37 : decode cX5_failsWith 37 = .ok (.getfield 46, 3) := by decide +kernel
theorem dX5_failsWith_40 : decode cX5_failsWith 40 = .ok (.getfield 121, 3) := by decide +kernel
theorem dX5_failsWith_43 : decode cX5_failsWith 43 = .ok (.iload_n 2, 1) := by decide +kernel
theorem dX5_failsWith_44 : decode cX5_failsWith 44 = .ok (.iaload, 1) := by decide +kernel
theorem dX5_failsWith_45 : decode cX5_failsWith 45 = .ok (.aload_n 0, 1) := by decide +kernel
theorem dX5_failsWith_46 : decode cX5_failsWith 46 = .ok (.getfield 46, 3) := by decide +kernel
theorem dX5_failsWith_49 : decode cX5_failsWith 49 = .ok (.invokevirtual 140, 3) := by decide +kernel
theorem dX5_failsWith_52 : decode cX5_failsWith 52 = .ok (.aload_n 0, 1) := by decide +kernel
theorem dX5_failsWith_53 : decode cX5_failsWith 53 = .ok (.getfield 30, 3) := by decide +kernel
theorem dX5_failsWith_56 : decode cX5_failsWith 56 = .ok (.getfield 148, 3) := by decide +kernel
theorem dX5_failsWith_59 : decode cX5_failsWith 59 = .ok (.aload_n 0, 1) := by decide +kernel
theorem dX5_failsWith_60 : decode cX5_failsWith 60 = .ok (.getfield 46, 3) := by decide +kernel
theorem dX5_failsWith_63 : decode cX5_failsWith 63 = .ok (.getfield 121, 3) := by decide +kernel
theorem dX5_failsWith_66 : decode cX5_failsWith 66 = .ok (.iload_n 1, 1) := by decide +kernel
theorem dX5_failsWith_67 : decode cX5_failsWith 67 = .ok (.iaload, 1) := by decide +kernel
theorem dX5_failsWith_68 : decode cX5_failsWith 68 = .ok (.baload, 1) := by decide +kernel
theorem dX5_failsWith_69 : decode cX5_failsWith 69 = .ok (.ireturn, 1) := by decide +kernel
set_option maxRecDepth 20000 in
theorem ggX5_wish_X5_requireRange : GoodIn wsX5_wish wsX5_requireRange := goodIn_ca (goodIn_r _ [8, 9, 10] (by decide +kernel) (by decide +kernel)) (goodIn_sub (fun _ h => List.mem_cons_of_mem _ (List.mem_append_right _ h)) (by decide +kernel))
set_option maxRecDepth 20000 in
theorem gX5_wish_X5_requireRange : GoodIn wsX5_wish (va_wsS RX5 53 yX5_requireRange wsX5_requireRange) := goodIn_app (goodIn_of _ (by decide +kernel)) ggX5_wish_X5_requireRange
set_option maxRecDepth 20000 in
theorem ggX5_wish_X5_requireAttribute : GoodIn wsX5_wish wsX5_requireAttribute := goodIn_ca (goodIn_r _ [13, 5, 6, 7, 8, 9, 10] (by decide +kernel) (by decide +kernel)) (goodIn_sub (fun _ h => List.mem_cons_of_mem _ (List.mem_append_right _ h)) (by decide +kernel))
set_option maxRecDepth 20000 in
theorem gX5_wish_X5_requireAttribute : GoodIn wsX5_wish (va_wsS RX5 124 yX5_requireAttribute wsX5_requireAttribute) := goodIn_app (goodIn_of _ (by decide +kernel)) ggX5_wish_X5_requireAttribute
set_option maxRecDepth 20000 in
theorem ggX5_wish_X4_add : GoodIn wsX5_wish wsX4_add := goodIn_r _ [18, 19, 20, 21, 22, 23, 31, 32, 33, 34, 35] (by decide +kernel) (by decide +kernel)
set_option maxRecDepth 20000 in
theorem gX5_wish_X4_add : GoodIn wsX5_wish (wsV RX5 154 RX4 yX4_add wsX4_add) := goodIn_app (goodIn_of _ (by decide +kernel)) ggX5_wish_X4_add
theorem dX5_wish_0 : decode cX5_wish 0 = .ok (.iload_n 1, 1) := by decide +kernel
theorem dX5_wish_1 : decode cX5_wish 1 = .ok (.iconst 0, 1) := by decide +kernel
theorem dX5_wish_2 : decode cX5_wish 2 = .ok (.iconst 2, 1) := by decide +kernel
theorem dX5_wish_3 : decode cX5_wish 3 = .ok (.invokestatic 53, 3) := by decide +kernel
theorem dX5_wish_6 : decode cX5_wish 6 = .ok (.iload_n 2, 1) := by decide +kernel
theorem dX5_wish_7 : decode cX5_wish 7 = .ok (.iconst 1, 1) := by decide +kernel
theorem dX5_wish_8 : decode cX5_wish 8 = .ok (.bipush 99, 2) := by decide +kernel
theorem dX5_wish_10 : decode cX5_wish 10 = .ok (.invokestatic 53, 3) := by decide +kernel
theorem dX5_wish_13 : decode cX5_wish 13 = .ok (.iload_n 3, 1) := by decide +kernel
theorem dX5_wish_14 : decode cX5_wish 14 = .ok (.invokestatic 124, 3) := by decide +kernel
theorem dX5_wish_17 : decode cX5_wish 17 = .ok (.iload 4, 2) := by decide +kernel
theorem dX5_wish_19 : decode cX5_wish 19 = .ok (.iconst 0, 1) := by decide +kernel
theorem dX5_wish_20 : decode cX5_wish 20 = .ok (.bipush 99, 2) := by decide +kernel
theorem dX5_wish_22 : decode cX5_wish 22 = .ok (.invokestatic 53, 3) := by decide +kernel
theorem dX5_wish_25 : decode cX5_wish 25 = .ok (.aload_n 0, 1) := by decide +kernel
theorem dX5_wish_26 : decode cX5_wish 26 = .ok (.getfield 37, 3) := by decide +kernel
theorem dX5_wish_29 : decode cX5_wish 29 = .ok (.getfield 151, 3) := by decide +kernel
theorem dX5_wish_32 : decode cX5_wish 32 = .ok (.bipush 20, 2) := by decide +kernel
theorem dX5_wish_34 : decode cX5_wish 34 = .ok (.if_icmp .lt 13, 3) := by decide +kernel
theorem dX5_wish_37 : decode cX5_wish 37 = .ok (.new 57, 3) := by decide +kernel
theorem dX5_wish_40 : decode cX5_wish 40 = .ok (.dup, 1) := by decide +kernel
theorem dX5_wish_41 : decode cX5_wish 41 = .ok (.ldc 152, 2) := by decide +kernel
theorem dX5_wish_43 : decode cX5_wish 43 = .ok (.invokespecial 61, 3) := by decide +kernel
theorem dX5_wish_46 : decode cX5_wish 46 = .ok (.athrow, 1) := by decide +kernel
theorem dX5_wish_47 : decode cX5_wish 47 = .ok (.aload_n 0, 1) := by decide +kernel
theorem dX5_wish_48 : decode cX5_wish 48 = .ok (.getfield 37, 3) := by decide +kernel
theorem dX5_wish_51 : decode cX5_wish 51 = .ok (.iload_n 1, 1) := by decide +kernel
theorem dX5_wish_52 : decode cX5_wish 52 = .ok (.iload_n 2, 1) := by decide +kernel
theorem dX5_wish_53 : decode cX5_wish 53 = .ok (.iload_n 3, 1) := by decide +kernel
theorem dX5_wish_54 : decode cX5_wish 54 = .ok (.iload 4, 2) := by decide +kernel
theorem dX5_wish_56 : decode cX5_wish 56 = .ok (.invokevirtual 154, 3) := by decide +kernel
theorem dX5_wish_59 : decode cX5_wish 59 = .ok (.ireturn, 1) := by decide +kernel
set_option maxRecDepth 20000 in
theorem ggX5_differing_X5_requireDay : GoodIn wsX5_differing wsX5_requireDay := goodIn_ca (goodIn_r _ [11, 12, 13, 10, 14, 15, 16] (by decide +kernel) (by decide +kernel)) (goodIn_sub (fun _ h => List.mem_cons_of_mem _ (List.mem_append_right _ h)) (by decide +kernel))
set_option maxRecDepth 20000 in
theorem gX5_differing_X5_requireDay : GoodIn wsX5_differing (va_wsS RX5 104 yX5_requireDay wsX5_requireDay) := goodIn_app (goodIn_of _ (by decide +kernel)) ggX5_differing_X5_requireDay
set_option maxRecDepth 20000 in
theorem ggX5_differing_X3_sortFor : GoodIn wsX5_differing wsX3_sortFor := goodIn_r _ [21, 22, 23, 24, 25, 26, 27, 28, 29, 30, 31, 32, 33, 34, 35, 36, 37, 20, 38, 39, 40, 41, 42, 43, 44, 45, 46, 47, 48, 49, 50, 51, 52, 53, 54, 55, 56, 57, 58, 59, 60, 61, 62, 63, 116, 117, 118, 109, 110, 111, 112, 113, 114, 115, 119, 120] (by decide +kernel) (by decide +kernel)
set_option maxRecDepth 20000 in
theorem gX5_differing_X3_sortFor : GoodIn wsX5_differing (wsV RX5 111 RX3 yX3_sortFor wsX3_sortFor) := goodIn_app (goodIn_of _ (by decide +kernel)) ggX5_differing_X3_sortFor
set_option maxRecDepth 20000 in
theorem ggX5_differing_X3_isThing : GoodIn wsX5_differing wsX3_isThing := goodIn_r _ [67, 24, 116, 117, 118] (by decide +kernel) (by decide +kernel)
set_option maxRecDepth 20000 in
theorem gX5_differing_X3_isThing : GoodIn wsX5_differing (wsV RX5 114 RX3 yX3_isThing wsX3_isThing) := goodIn_app (goodIn_of _ (by decide +kernel)) ggX5_differing_X3_isThing
set_option maxRecDepth 20000 in
theorem ggX5_differing_X4_isMissedBy : GoodIn wsX5_differing wsX4_isMissedBy := goodIn_r _ [72, 73, 74, 75, 76, 77, 78, 79, 20, 80, 22, 23, 24, 81, 82, 83, 84, 85, 86, 87, 88, 89, 90, 91, 92, 93, 94, 25, 95, 96, 104, 105, 106, 107, 108, 116, 117, 118, 109, 110, 111, 112, 113, 114, 115, 119, 120] (by decide +kernel) (by decide +kernel)
set_option maxRecDepth 20000 in
theorem gX5_differing_X4_isMissedBy : GoodIn wsX5_differing (wsV RX5 162 RX4 yX4_isMissedBy wsX4_isMissedBy) := goodIn_app (goodIn_of _ (by decide +kernel)) ggX5_differing_X4_isMissedBy
theorem dX5_differing_0 : decode cX5_differing 0 = .ok (.iload_n 1, 1) := by decide +kernel
theorem dX5_differing_1 : decode cX5_differing 1 = .ok (.ifCond .lt 14, 3) := by decide +kernel
theorem dX5_differing_4 : decode cX5_differing 4 = .ok (.iload_n 1, 1) := by decide +kernel
theorem dX5_differing_5 : decode cX5_differing 5 = .ok (.aload_n 0, 1) := by decide +kernel
theorem dX5_differing_6 : decode cX5_differing 6 = .ok (.getfield 37, 3) := by decide +kernel
theorem dX5_differing_9 : decode cX5_differing 9 = .ok (.getfield 151, 3) := by decide +kernel
theorem dX5_differing_12 : decode cX5_differing 12 = .ok (.if_icmp .lt 13, 3) := by decide +kernel
theorem dX5_differing_15 : decode cX5_differing 15 = .ok (.new 157, 3) := by decide +kernel
theorem dX5_differing_18 : decode cX5_differing 18 = .ok (.dup, 1) := by decide +kernel
theorem dX5_differing_19 : decode cX5_differing 19 = .ok (.ldc 159, 2) := by decide +kernel
theorem dX5_differing_21 : decode cX5_differing 21 = .ok (.invokespecial 161, 3) := by decide +kernel
theorem dX5_differing_24 : decode cX5_differing 24 = .ok (.athrow, 1) := by decide +kernel
theorem dX5_differing_25 : decode cX5_differing 25 = .ok (.iload_n 2, 1) := by decide +kernel
theorem dX5_differing_26 : decode cX5_differing 26 = .ok (.invokestatic 104, 3) := by decide +kernel
theorem dX5_differing_29 : decode cX5_differing 29 = .ok (.aload_n 0, 1) := by decide +kernel
theorem dX5_differing_30 : decode cX5_differing 30 = .ok (.getfield 46, 3) := by decide +kernel
theorem dX5_differing_33 : decode cX5_differing 33 = .ok (.iload_n 2, 1) := by decide +kernel
theorem dX5_differing_34 : decode cX5_differing 34 = .ok (.invokevirtual 111, 3) := by decide +kernel
theorem dX5_differing_37 : decode cX5_differing 37 = .ok (.iconst 0, 1) := by decide +kernel
theorem dX5_differing_38 : decode cX5_differing 38 = .ok (.istore_n 3, 1) := by decide +kernel
theorem dX5_differing_39 : decode cX5_differing 39 = .ok (.iconst 0, 1) := by decide +kernel
theorem dX5_differing_40 : decode cX5_differing 40 = .ok (.istore 4, 2) := by decide +kernel
theorem dX5_differing_42 : decode cX5_differing 42 = .ok (.iload 4, 2) := by decide +kernel
theorem dX5_differing_44 : decode cX5_differing 44 = .ok (.aload_n 0, 1) := by decide +kernel
theorem dX5_differing_45 : decode cX5_differing 45 = .ok (.getfield 23, 3) := by decide +kernel
theorem dX5_differing_48 : decode cX5_differing 48 = .ok (.getfield 72, 3) := by decide +kernel
theorem dX5_differing_51 : decode cX5_differing 51 = .ok (.if_icmp .ge 41, 3) := by decide +kernel
theorem dX5_differing_54 : decode cX5_differing 54 = .ok (.aload_n 0, 1) := by decide +kernel
theorem dX5_differing_55 : decode cX5_differing 55 = .ok (.getfield 46, 3) := by decide +kernel
theorem dX5_differing_58 : decode cX5_differing 58 = .ok (.iload 4, 2) := by decide +kernel
theorem dX5_differing_60 : decode cX5_differing 60 = .ok (.invokevirtual 114, 3) := by decide +kernel
theorem dX5_differing_63 : decode cX5_differing 63 = .ok (.ifCond .eq 23, 3) := by decide +kernel
theorem dX5_differing_66 : decode cX5_differing 66 = .ok (.aload_n 0, 1) := by decide +kernel
theorem dX5_differing_67 : decode cX5_differing 67 = .ok (.getfield 37, 3) := by decide +kernel
theorem dX5_differing_70 : decode cX5_differing 70 = .ok (.iload 4, 2) := by decide +kernel
theorem dX5_differing_72 : decode cX5_differing 72 = .ok (.iload_n 1, 1) := by decide +kernel
theorem dX5_differing_73 : decode cX5_differing 73 = .ok (.aload_n 0, 1) := by decide +kernel
theorem dX5_differing_74 : decode cX5_differing 74 = .ok (.getfield 46, 3) := by decide +kernel
theorem dX5_differing_77 : decode cX5_differing 77 = .ok (.invokevirtual 162, 3) := by decide +kernel
theorem dX5_differing_80 : decode cX5_differing 80 = .ok (.ifCond .eq 6, 3) := by decide +kernel
theorem dX5_differing_83 : decode cX5_differing 83 = .ok (.iinc 3 1, 3) := by decide +kernel
theorem dX5_differing_86 : decode cX5_differing 86 = .ok (.iinc 4 1, 3) := by decide +kernel
theorem dX5_differing_89 : decode cX5_differing 89 = .ok (.goto (-47), 3) := by decide +kernel
theorem dX5_differing_92 : decode cX5_differing 92 = .ok (.iload_n 3, 1) := by decide +kernel
theorem dX5_differing_93 : decode cX5_differing 93 = .ok (.ireturn, 1) := by decide +kernel
set_option maxRecDepth 20000 in
theorem ggX5_changed_X5_requireAttribute : GoodIn wsX5_changed wsX5_requireAttribute := goodIn_ca (goodIn_r _ [8, 9, 10, 7, 11, 12, 13] (by decide +kernel) (by decide +kernel)) (goodIn_sub (fun _ h => List.mem_cons_of_mem _ (List.mem_append_right _ h)) (by decide +kernel))
set_option maxRecDepth 20000 in
theorem gX5_changed_X5_requireAttribute : GoodIn wsX5_changed (va_wsS RX5 124 yX5_requireAttribute wsX5_requireAttribute) := goodIn_app (goodIn_of _ (by decide +kernel)) ggX5_changed_X5_requireAttribute
set_option maxRecDepth 20000 in
theorem ggX5_changed_X5_requireDay : GoodIn wsX5_changed wsX5_requireDay := goodIn_ca (goodIn_r _ [16, 9, 10, 7, 11, 12, 13] (by decide +kernel) (by decide +kernel)) (goodIn_sub (fun _ h => List.mem_cons_of_mem _ (List.mem_append_right _ h)) (by decide +kernel))
set_option maxRecDepth 20000 in
theorem gX5_changed_X5_requireDay : GoodIn wsX5_changed (va_wsS RX5 104 yX5_requireDay wsX5_requireDay) := goodIn_app (goodIn_of _ (by decide +kernel)) ggX5_changed_X5_requireDay
set_option maxRecDepth 20000 in
theorem ggX5_changed_X3_sortFor : GoodIn wsX5_changed wsX3_sortFor := goodIn_r _ [21, 22, 23, 24, 25, 26, 27, 28, 29, 30, 31, 32, 33, 34, 35, 36, 37, 20, 38, 39, 40, 41, 42, 43, 44, 45, 46, 47, 48, 49, 50, 51, 52, 53, 54, 55, 56, 57, 58, 59, 60, 61, 62, 63, 98, 99, 100, 91, 92, 93, 94, 95, 96, 97, 101, 102] (by decide +kernel) (by decide +kernel)
set_option maxRecDepth 20000 in
theorem gX5_changed_X3_sortFor : GoodIn wsX5_changed (wsV RX5 111 RX3 yX3_sortFor wsX3_sortFor) := goodIn_app (goodIn_of _ (by decide +kernel)) ggX5_changed_X3_sortFor
set_option maxRecDepth 20000 in
theorem ggX5_changed_X5_hasAnotherValue : GoodIn wsX5_changed wsX5_hasAnotherValue := goodIn_r _ [67, 1, 68, 2, 69, 70, 71, 20, 72, 22, 23, 73, 74, 75, 76, 77, 24, 78, 79, 80, 81, 25, 82, 83, 84, 85, 86, 87, 88, 89, 90, 98, 99, 100, 91, 92, 93, 94, 95, 96, 97, 101, 102] (by decide +kernel) (by decide +kernel)
set_option maxRecDepth 20000 in
theorem gX5_changed_X5_hasAnotherValue : GoodIn wsX5_changed (wsV RX5 166 RX5 yX5_hasAnotherValue wsX5_hasAnotherValue) := goodIn_app (goodIn_of _ (by decide +kernel)) ggX5_changed_X5_hasAnotherValue
theorem dX5_changed_0 : decode cX5_changed 0 = .ok (.iload_n 1, 1) := by decide +kernel
theorem dX5_changed_1 : decode cX5_changed 1 = .ok (.invokestatic 124, 3) := by decide +kernel
theorem dX5_changed_4 : decode cX5_changed 4 = .ok (.iload_n 2, 1) := by decide +kernel
theorem dX5_changed_5 : decode cX5_changed 5 = .ok (.invokestatic 104, 3) := by decide +kernel
theorem dX5_changed_8 : decode cX5_changed 8 = .ok (.iload_n 3, 1) := by decide +kernel
theorem dX5_changed_9 : decode cX5_changed 9 = .ok (.invokestatic 104, 3) := by decide +kernel
theorem dX5_changed_12 : decode cX5_changed 12 = .ok (.aload_n 0, 1) := by decide +kernel
theorem dX5_changed_13 : decode cX5_changed 13 = .ok (.getfield 46, 3) := by decide +kernel
theorem dX5_changed_16 : decode cX5_changed 16 = .ok (.iload_n 2, 1) := by decide +kernel
theorem dX5_changed_17 : decode cX5_changed 17 = .ok (.invokevirtual 111, 3) := by decide +kernel
theorem dX5_changed_20 : decode cX5_changed 20 = .ok (.aload_n 0, 1) := by decide +kernel
theorem dX5_changed_21 : decode cX5_changed 21 = .ok (.getfield 50, 3) := by decide +kernel
theorem dX5_changed_24 : decode cX5_changed 24 = .ok (.iload_n 3, 1) := by decide +kernel
theorem dX5_changed_25 : decode cX5_changed 25 = .ok (.invokevirtual 111, 3) := by decide +kernel
theorem dX5_changed_28 : decode cX5_changed 28 = .ok (.iconst 0, 1) := by decide +kernel
theorem dX5_changed_29 : decode cX5_changed 29 = .ok (.istore 4, 2) := by decide +kernel
theorem dX5_changed_31 : decode cX5_changed 31 = .ok (.iconst 0, 1) := by decide +kernel
theorem dX5_changed_32 : decode cX5_changed 32 = .ok (.istore 5, 2) := by decide +kernel
theorem dX5_changed_34 : decode cX5_changed 34 = .ok (.iload 5, 2) := by decide +kernel
theorem dX5_changed_36 : decode cX5_changed 36 = .ok (.aload_n 0, 1) := by decide +kernel
theorem dX5_changed_37 : decode cX5_changed 37 = .ok (.getfield 23, 3) := by decide +kernel
theorem dX5_changed_40 : decode cX5_changed 40 = .ok (.getfield 72, 3) := by decide +kernel
theorem dX5_changed_43 : decode cX5_changed 43 = .ok (.if_icmp .ge 22, 3) := by decide +kernel
theorem dX5_changed_46 : decode cX5_changed 46 = .ok (.aload_n 0, 1) := by decide +kernel
theorem dX5_changed_47 : decode cX5_changed 47 = .ok (.iload 5, 2) := by decide +kernel
theorem dX5_changed_49 : decode cX5_changed 49 = .ok (.iload_n 1, 1) := by decide +kernel
theorem dX5_changed_50 : decode cX5_changed 50 = .ok (.invokevirtual 166, 3) := by decide +kernel
theorem dX5_changed_53 : decode cX5_changed 53 = .ok (.ifCond .eq 6, 3) := by decide +kernel
theorem dX5_changed_56 : decode cX5_changed 56 = .ok (.iinc 4 1, 3) := by decide +kernel
theorem dX5_changed_59 : decode cX5_changed 59 = .ok (.iinc 5 1, 3) := by decide +kernel
theorem dX5_changed_62 : decode cX5_changed 62 = .ok (.goto (-28), 3) := by decide +kernel
theorem dX5_changed_65 : decode cX5_changed 65 = .ok (.iload 4, 2) := by decide +kernel
theorem dX5_changed_67 : decode cX5_changed 67 = .ok (.ireturn, 1) := by decide +kernel
set_option maxRecDepth 20000 in
theorem ggX5_hasAnotherValue_X3_attributeOf : GoodIn wsX5_hasAnotherValue wsX3_attributeOf := goodIn_r _ [8, 9, 10, 11, 12, 13, 14, 7, 15, 16, 17, 18, 19, 20, 21, 22, 23, 31, 32, 33, 34, 35, 36, 37, 38, 39, 40, 41, 42] (by decide +kernel) (by decide +kernel)
set_option maxRecDepth 20000 in
theorem gX5_hasAnotherValue_X3_attributeOf : GoodIn wsX5_hasAnotherValue (wsV RX5 127 RX3 yX3_attributeOf wsX3_attributeOf) := goodIn_app (goodIn_of _ (by decide +kernel)) ggX5_hasAnotherValue_X3_attributeOf
theorem dX5_hasAnotherValue_0 : decode cX5_hasAnotherValue 0 = .ok (.aload_n 0, 1) := by decide +kernel
theorem dX5_hasAnotherValue_1 : decode cX5_hasAnotherValue 1 = .ok (.getfield 46, 3) := by decide +kernel
theorem dX5_hasAnotherValue_4 : decode cX5_hasAnotherValue 4 = .ok (.getfield 121, 3) := by decide +kernel
theorem dX5_hasAnotherValue_7 : decode cX5_hasAnotherValue 7 = .ok (.iload_n 1, 1) := by decide +kernel
theorem dX5_hasAnotherValue_8 : decode cX5_hasAnotherValue 8 = .ok (.iaload, 1) := by decide +kernel
theorem dX5_hasAnotherValue_9 : decode cX5_hasAnotherValue 9 = .ok (.istore_n 3, 1) := by decide +kernel
theorem dX5_hasAnotherValue_10 : decode cX5_hasAnotherValue 10 = .ok (.aload_n 0, 1) := by decide +kernel
theorem dX5_hasAnotherValue_11 : decode cX5_hasAnotherValue 11 = .ok (.getfield 50, 3) := by decide +kernel
theorem dX5_hasAnotherValue_14 : decode cX5_hasAnotherValue 14 = .ok (.getfield 121, 3) := by decide +kernel
theorem dX5_hasAnotherValue_17 : decode cX5_hasAnotherValue 17 = .ok (.iload_n 1, 1) := by decide +kernel
theorem dX5_hasAnotherValue_18 : decode cX5_hasAnotherValue 18 = .ok (.iaload, 1) := by decide +kernel
theorem dX5_hasAnotherValue_19 : decode cX5_hasAnotherValue 19 = .ok (.istore 4, 2) := by decide +kernel
theorem dX5_hasAnotherValue_21 : decode cX5_hasAnotherValue 21 = .ok (.iload_n 3, 1) := by decide +kernel
theorem dX5_hasAnotherValue_22 : decode cX5_hasAnotherValue 22 = .ok (.iconst (-1), 1) := by decide +kernel
theorem dX5_hasAnotherValue_23 : decode cX5_hasAnotherValue 23 = .ok (.if_icmp .eq 35, 3) := by decide +kernel
theorem dX5_hasAnotherValue_26 : decode cX5_hasAnotherValue 26 = .ok (.iload 4, 2) := by decide +kernel
theorem dX5_hasAnotherValue_28 : decode cX5_hasAnotherValue 28 = .ok (.iconst (-1), 1) := by decide +kernel
theorem dX5_hasAnotherValue_29 : decode cX5_hasAnotherValue 29 = .ok (.if_icmp .eq 29, 3) := by decide +kernel
theorem dX5_hasAnotherValue_32 : decode cX5_hasAnotherValue 32 = .ok (.aload_n 0, 1) := by decide +kernel
theorem dX5_hasAnotherValue_33 : decode cX5_hasAnotherValue 33 = .ok (.getfield 46, 3) := by decide +kernel
theorem dX5_hasAnotherValue_36 : decode cX5_hasAnotherValue 36 = .ok (.iload_n 3, 1) := by decide +kernel
theorem dX5_hasAnotherValue_37 : decode cX5_hasAnotherValue 37 = .ok (.iload_n 2, 1) := by decide +kernel
theorem dX5_hasAnotherValue_38 : decode cX5_hasAnotherValue 38 = .ok (.invokevirtual 127, 3) := by decide +kernel
theorem dX5_hasAnotherValue_41 : decode cX5_hasAnotherValue 41 = .ok (.aload_n 0, 1) := by decide +kernel
theorem dX5_hasAnotherValue_42 : decode cX5_hasAnotherValue 42 = .ok (.getfield 50, 3) := by decide +kernel
theorem dX5_hasAnotherValue_45 : decode cX5_hasAnotherValue 45 = .ok (.iload 4, 2) := by decide +kernel
theorem dX5_hasAnotherValue_47 : decode cX5_hasAnotherValue 47 = .ok (.iload_n 2, 1) := by decide +kernel
theorem dX5_hasAnotherValue_48 : decode cX5_hasAnotherValue 48 = .ok (.invokevirtual 127, 3) := by decide +kernel
theorem dX5_hasAnotherValue_51 : decode cX5_hasAnotherValue 51 = .ok (.if_icmp .eq 7, 3) := by decide +kernel
theorem dX5_hasAnotherValue_54 : decode cX5_hasAnotherValue 54 = .ok (.iconst 1, 1) := by decide +kernel
theorem dX5_hasAnotherValue_55 : decode cX5_hasAnotherValue 55 = .ok (.goto 4, 3) := by decide +kernel
theorem dX5_hasAnotherValue_58 : decode cX5_hasAnotherValue 58 = .ok (.iconst 0, 1) := by decide +kernel
theorem dX5_hasAnotherValue_59 : decode cX5_hasAnotherValue 59 = .ok (.ireturn, 1) := by decide +kernel
theorem dX5_requireRange_0 : decode cX5_requireRange 0 = .ok (.iload_n 0, 1) := by decide +kernel
theorem dX5_requireRange_1 : decode cX5_requireRange 1 = .ok (.iload_n 1, 1) := by decide +kernel
theorem dX5_requireRange_2 : decode cX5_requireRange 2 = .ok (.if_icmp .lt 8, 3) := by decide +kernel
theorem dX5_requireRange_5 : decode cX5_requireRange 5 = .ok (.iload_n 0, 1) := by decide +kernel
theorem dX5_requireRange_6 : decode cX5_requireRange 6 = .ok (.iload_n 2, 1) := by decide +kernel
theorem dX5_requireRange_7 : decode cX5_requireRange 7 = .ok (.if_icmp .le 13, 3) := by decide +kernel
theorem dX5_requireRange_10 : decode cX5_requireRange 10 = .ok (.new 169, 3) := by decide +kernel
theorem dX5_requireRange_13 : decode cX5_requireRange 13 = .ok (.dup, 1) := by decide +kernel
theorem dX5_requireRange_14 : decode cX5_requireRange 14 = .ok (.ldc 171, 2) := by decide +kernel
theorem dX5_requireRange_16 : decode cX5_requireRange 16 = .ok (.invokespecial 173, 3) := by decide +kernel
theorem dX5_requireRange_19 : decode cX5_requireRange 19 = .ok (.athrow, 1) := by decide +kernel
theorem dX5_requireRange_20 : decode cX5_requireRange 20 = .ok (.return_, 1) := by decide +kernel
set_option maxRecDepth 20000 in
theorem ggX5_requireDay_X5_requireRange : GoodIn wsX5_requireDay wsX5_requireRange := goodIn_ca (goodIn_r _ [4, 5, 6] (by decide +kernel) (by decide +kernel)) (goodIn_sub (fun _ h => List.mem_cons_of_mem _ (List.mem_append_right _ h)) (by decide +kernel))
set_option maxRecDepth 20000 in
theorem gX5_requireDay_X5_requireRange : GoodIn wsX5_requireDay (va_wsS RX5 53 yX5_requireRange wsX5_requireRange) := goodIn_app (goodIn_of _ (by decide +kernel)) ggX5_requireDay_X5_requireRange
theorem dX5_requireDay_0 : decode cX5_requireDay 0 = .ok (.iload_n 0, 1) := by decide +kernel
theorem dX5_requireDay_1 : decode cX5_requireDay 1 = .ok (.iconst 0, 1) := by decide +kernel
theorem dX5_requireDay_2 : decode cX5_requireDay 2 = .ok (.sipush 9999, 3) := by decide +kernel
theorem dX5_requireDay_5 : decode cX5_requireDay 5 = .ok (.invokestatic 53, 3) := by decide +kernel
theorem dX5_requireDay_8 : decode cX5_requireDay 8 = .ok (.return_, 1) := by decide +kernel
set_option maxRecDepth 20000 in
theorem ggX5_requireAttribute_X5_requireRange : GoodIn wsX5_requireAttribute wsX5_requireRange := goodIn_ca (goodIn_r _ [4, 5, 6] (by decide +kernel) (by decide +kernel)) (goodIn_sub (fun _ h => List.mem_cons_of_mem _ (List.mem_append_right _ h)) (by decide +kernel))
set_option maxRecDepth 20000 in
theorem gX5_requireAttribute_X5_requireRange : GoodIn wsX5_requireAttribute (va_wsS RX5 53 yX5_requireRange wsX5_requireRange) := goodIn_app (goodIn_of _ (by decide +kernel)) ggX5_requireAttribute_X5_requireRange
theorem dX5_requireAttribute_0 : decode cX5_requireAttribute 0 = .ok (.iload_n 0, 1) := by decide +kernel
theorem dX5_requireAttribute_1 : decode cX5_requireAttribute 1 = .ok (.iconst 0, 1) := by decide +kernel
theorem dX5_requireAttribute_2 : decode cX5_requireAttribute 2 = .ok (.iconst 1, 1) := by decide +kernel
theorem dX5_requireAttribute_3 : decode cX5_requireAttribute 3 = .ok (.invokestatic 53, 3) := by decide +kernel
theorem dX5_requireAttribute_6 : decode cX5_requireAttribute 6 = .ok (.return_, 1) := by decide +kernel
theorem dX5_requireUnlike_0 : decode cX5_requireUnlike 0 = .ok (.iload_n 0, 1) := by decide +kernel
theorem dX5_requireUnlike_1 : decode cX5_requireUnlike 1 = .ok (.iload_n 1, 1) := by decide +kernel
theorem dX5_requireUnlike_2 : decode cX5_requireUnlike 2 = .ok (.if_icmp .ne 13, 3) := by decide +kernel
theorem dX5_requireUnlike_5 : decode cX5_requireUnlike 5 = .ok (.new 169, 3) := by decide +kernel
theorem dX5_requireUnlike_8 : decode cX5_requireUnlike 8 = .ok (.dup, 1) := by decide +kernel
theorem dX5_requireUnlike_9 : decode cX5_requireUnlike 9 = .ok (.ldc 174, 2) := by decide +kernel
theorem dX5_requireUnlike_11 : decode cX5_requireUnlike 11 = .ok (.invokespecial 173, 3) := by decide +kernel
theorem dX5_requireUnlike_14 : decode cX5_requireUnlike 14 = .ok (.athrow, 1) := by decide +kernel
theorem dX5_requireUnlike_15 : decode cX5_requireUnlike 15 = .ok (.return_, 1) := by decide +kernel
theorem dX5_requireFind_0 : decode cX5_requireFind 0 = .ok (.iload_n 1, 1) := by decide +kernel
theorem dX5_requireFind_1 : decode cX5_requireFind 1 = .ok (.ifCond .lt 14, 3) := by decide +kernel
theorem dX5_requireFind_4 : decode cX5_requireFind 4 = .ok (.iload_n 1, 1) := by decide +kernel
theorem dX5_requireFind_5 : decode cX5_requireFind 5 = .ok (.aload_n 0, 1) := by decide +kernel
theorem dX5_requireFind_6 : decode cX5_requireFind 6 = .ok (.getfield 23, 3) := by decide +kernel
theorem dX5_requireFind_9 : decode cX5_requireFind 9 = .ok (.getfield 72, 3) := by decide +kernel
theorem dX5_requireFind_12 : decode cX5_requireFind 12 = .ok (.if_icmp .lt 13, 3) := by decide +kernel
theorem dX5_requireFind_15 : decode cX5_requireFind 15 = .ok (.new 157, 3) := by decide +kernel
theorem dX5_requireFind_18 : decode cX5_requireFind 18 = .ok (.dup, 1) := by decide +kernel
theorem dX5_requireFind_19 : decode cX5_requireFind 19 = .ok (.ldc 176, 2) := by decide +kernel
theorem dX5_requireFind_21 : decode cX5_requireFind 21 = .ok (.invokespecial 161, 3) := by decide +kernel
theorem dX5_requireFind_24 : decode cX5_requireFind 24 = .ok (.athrow, 1) := by decide +kernel
theorem dX5_requireFind_25 : decode cX5_requireFind 25 = .ok (.return_, 1) := by decide +kernel
theorem dX5_requireCounting_0 : decode cX5_requireCounting 0 = .ok (.aload_n 0, 1) := by decide +kernel
theorem dX5_requireCounting_1 : decode cX5_requireCounting 1 = .ok (.getfield 46, 3) := by decide +kernel
theorem dX5_requireCounting_4 : decode cX5_requireCounting 4 = .ok (.getfield 121, 3) := by decide +kernel
theorem dX5_requireCounting_7 : decode cX5_requireCounting 7 = .ok (.iload_n 1, 1) := by decide +kernel
theorem dX5_requireCounting_8 : decode cX5_requireCounting 8 = .ok (.iaload, 1) := by decide +kernel
theorem dX5_requireCounting_9 : decode cX5_requireCounting 9 = .ok (.iconst (-1), 1) := by decide +kernel
theorem dX5_requireCounting_10 : decode cX5_requireCounting 10 = .ok (.if_icmp .ne 13, 3) := by decide +kernel
theorem dX5_requireCounting_13 : decode cX5_requireCounting 13 = .ok (.new 178, 3) := by decide +kernel
theorem dX5_requireCounting_16 : decode cX5_requireCounting 16 = .ok (.dup, 1) := by decide +kernel
theorem dX5_requireCounting_17 : decode cX5_requireCounting 17 = .ok (.ldc 180, 2) := by decide +kernel
theorem dX5_requireCounting_19 : decode cX5_requireCounting 19 = .ok (.invokespecial 182, 3) := by decide +kernel
theorem dX5_requireCounting_22 : decode cX5_requireCounting 22 = .ok (.athrow, 1) := by decide +kernel
theorem dX5_requireCounting_23 : decode cX5_requireCounting 23 = .ok (.return_, 1) := by decide +kernel
theorem dX6_init_0 : decode cX6_init 0 = .ok (.aload_n 0, 1) := by decide +kernel
theorem dX6_init_1 : decode cX6_init 1 = .ok (.invokespecial 1, 3) := by decide +kernel
theorem dX6_init_4 : decode cX6_init 4 = .ok (.aload_n 0, 1) := by decide +kernel
theorem dX6_init_5 : decode cX6_init 5 = .ok (.iconst 4, 1) := by decide +kernel
theorem dX6_init_6 : decode cX6_init 6 = .ok (.newarray .int, 2) := by decide +kernel
theorem dX6_init_8 : decode cX6_init 8 = .ok (.putfield 7, 3) := by decide +kernel
theorem dX6_init_11 : decode cX6_init 11 = .ok (.aload_n 0, 1) := by decide +kernel
theorem dX6_init_12 : decode cX6_init 12 = .ok (.iconst 4, 1) := by decide +kernel
theorem dX6_init_13 : decode cX6_init 13 = .ok (.newarray .int, 2) := by decide +kernel
theorem dX6_init_15 : decode cX6_init 15 = .ok (.putfield 13, 3) := by decide +kernel
theorem dX6_init_18 : decode cX6_init 18 = .ok (.aload_n 0, 1) := by decide +kernel
theorem dX6_init_19 : decode cX6_init 19 = .ok (.bipush 60, 2) := by decide +kernel
theorem dX6_init_21 : decode cX6_init 21 = .ok (.newarray .int, 2) := by decide +kernel
theorem dX6_init_23 : decode cX6_init 23 = .ok (.putfield 16, 3) := by decide +kernel
theorem dX6_init_26 : decode cX6_init 26 = .ok (.aload_n 0, 1) := by decide +kernel
theorem dX6_init_27 : decode cX6_init 27 = .ok (.bipush 60, 2) := by decide +kernel
theorem dX6_init_29 : decode cX6_init 29 = .ok (.newarray .int, 2) := by decide +kernel
theorem dX6_init_31 : decode cX6_init 31 = .ok (.putfield 19, 3) := by decide +kernel
theorem dX6_init_34 : decode cX6_init 34 = .ok (.aload_n 0, 1) := by decide +kernel
theorem dX6_init_35 : decode cX6_init 35 = .ok (.sipush 180, 3) := by decide +kernel
theorem dX6_init_38 : decode cX6_init 38 = .ok (.newarray .int, 2) := by decide +kernel
theorem dX6_init_40 : decode cX6_init 40 = .ok (.putfield 22, 3) := by decide +kernel
theorem dX6_init_43 : decode cX6_init 43 = .ok (.aload_n 0, 1) := by decide +kernel
theorem dX6_init_44 : decode cX6_init 44 = .ok (.bipush 120, 2) := by decide +kernel
theorem dX6_init_46 : decode cX6_init 46 = .ok (.newarray .int, 2) := by decide +kernel
theorem dX6_init_48 : decode cX6_init 48 = .ok (.putfield 25, 3) := by decide +kernel
theorem dX6_init_51 : decode cX6_init 51 = .ok (.aload_n 0, 1) := by decide +kernel
theorem dX6_init_52 : decode cX6_init 52 = .ok (.bipush 60, 2) := by decide +kernel
theorem dX6_init_54 : decode cX6_init 54 = .ok (.newarray .boolean, 2) := by decide +kernel
theorem dX6_init_56 : decode cX6_init 56 = .ok (.putfield 28, 3) := by decide +kernel
theorem dX6_init_59 : decode cX6_init 59 = .ok (.aload_n 0, 1) := by decide +kernel
theorem dX6_init_60 : decode cX6_init 60 = .ok (.sipush 3600, 3) := by decide +kernel
theorem dX6_init_63 : decode cX6_init 63 = .ok (.newarray .byte, 2) := by decide +kernel
theorem dX6_init_65 : decode cX6_init 65 = .ok (.putfield 32, 3) := by decide +kernel
theorem dX6_init_68 : decode cX6_init 68 = .ok (.aload_n 0, 1) := by decide +kernel
theorem dX6_init_69 : decode cX6_init 69 = .ok (.bipush 40, 2) := by decide +kernel
theorem dX6_init_71 : decode cX6_init 71 = .ok (.newarray .int, 2) := by decide +kernel
theorem dX6_init_73 : decode cX6_init 73 = .ok (.putfield 36, 3) := by decide +kernel
theorem dX6_init_76 : decode cX6_init 76 = .ok (.aload_n 0, 1) := by decide +kernel
theorem dX6_init_77 : decode cX6_init 77 = .ok (.bipush 40, 2) := by decide +kernel
theorem dX6_init_79 : decode cX6_init 79 = .ok (.newarray .int, 2) := by decide +kernel
theorem dX6_init_81 : decode cX6_init 81 = .ok (.putfield 39, 3) := by decide +kernel
theorem dX6_init_84 : decode cX6_init 84 = .ok (.aload_n 0, 1) := by decide +kernel
theorem dX6_init_85 : decode cX6_init 85 = .ok (.bipush 40, 2) := by decide +kernel
theorem dX6_init_87 : decode cX6_init 87 = .ok (.newarray .int, 2) := by decide +kernel
theorem dX6_init_89 : decode cX6_init 89 = .ok (.putfield 42, 3) := by decide +kernel
theorem dX6_init_92 : decode cX6_init 92 = .ok (.aload_n 0, 1) := by decide +kernel
theorem dX6_init_93 : decode cX6_init 93 = .ok (.bipush 20, 2) := by decide +kernel
theorem dX6_init_95 : decode cX6_init 95 = .ok (.newarray .int, 2) := by decide +kernel
theorem dX6_init_97 : decode cX6_init 97 = .ok (.putfield 45, 3) := by decide +kernel
theorem dX6_init_100 : decode cX6_init 100 = .ok (.aload_n 0, 1) := by decide +kernel
theorem dX6_init_101 : decode cX6_init 101 = .ok (.bipush 20, 2) := by decide +kernel
theorem dX6_init_103 : decode cX6_init 103 = .ok (.newarray .int, 2) := by decide +kernel
theorem dX6_init_105 : decode cX6_init 105 = .ok (.putfield 48, 3) := by decide +kernel
theorem dX6_init_108 : decode cX6_init 108 = .ok (.aload_n 0, 1) := by decide +kernel
theorem dX6_init_109 : decode cX6_init 109 = .ok (.bipush 20, 2) := by decide +kernel
theorem dX6_init_111 : decode cX6_init 111 = .ok (.newarray .int, 2) := by decide +kernel
theorem dX6_init_113 : decode cX6_init 113 = .ok (.putfield 51, 3) := by decide +kernel
theorem dX6_init_116 : decode cX6_init 116 = .ok (.aload_n 0, 1) := by decide +kernel
theorem dX6_init_117 : decode cX6_init 117 = .ok (.bipush 20, 2) := by decide +kernel
theorem dX6_init_119 : decode cX6_init 119 = .ok (.newarray .int, 2) := by decide +kernel
theorem dX6_init_121 : decode cX6_init 121 = .ok (.putfield 54, 3) := by decide +kernel
theorem dX6_init_124 : decode cX6_init 124 = .ok (.aload_n 0, 1) := by decide +kernel
theorem dX6_init_125 : decode cX6_init 125 = .ok (.bipush 60, 2) := by decide +kernel
theorem dX6_init_127 : decode cX6_init 127 = .ok (.newarray .int, 2) := by decide +kernel
theorem dX6_init_129 : decode cX6_init 129 = .ok (.putfield 57, 3) := by decide +kernel
theorem dX6_init_132 : decode cX6_init 132 = .ok (.aload_n 0, 1) := by decide +kernel
theorem dX6_init_133 : decode cX6_init 133 = .ok (.bipush 60, 2) := by decide +kernel
theorem dX6_init_135 : decode cX6_init 135 = .ok (.newarray .int, 2) := by decide +kernel
theorem dX6_init_137 : decode cX6_init 137 = .ok (.putfield 60, 3) := by decide +kernel
theorem dX6_init_140 : decode cX6_init 140 = .ok (.aload_n 0, 1) := by decide +kernel
theorem dX6_init_141 : decode cX6_init 141 = .ok (.bipush 60, 2) := by decide +kernel
theorem dX6_init_143 : decode cX6_init 143 = .ok (.newarray .boolean, 2) := by decide +kernel
theorem dX6_init_145 : decode cX6_init 145 = .ok (.putfield 63, 3) := by decide +kernel
theorem dX6_init_148 : decode cX6_init 148 = .ok (.iconst 0, 1) := by decide +kernel
theorem dX6_init_149 : decode cX6_init 149 = .ok (.istore_n 1, 1) := by decide +kernel
theorem dX6_init_150 : decode cX6_init 150 = .ok (.iload_n 1, 1) := by decide +kernel
theorem dX6_init_151 : decode cX6_init 151 = .ok (.iconst 4, 1) := by decide +kernel
theorem dX6_init_152 : decode cX6_init 152 = .ok (.if_icmp .ge 24, 3) := by decide +kernel
theorem dX6_init_155 : decode cX6_init 155 = .ok (.aload_n 0, 1) := by decide +kernel
theorem dX6_init_156 : decode cX6_init 156 = .ok (.getfield 7, 3) := by decide +kernel
theorem dX6_init_159 : decode cX6_init 159 = .ok (.iload_n 1, 1) := by decide +kernel
theorem dX6_init_160 : decode cX6_init 160 = .ok (.bipush 30, 2) := by decide +kernel
theorem dX6_init_162 : decode cX6_init 162 = .ok (.iastore, 1) := by decide +kernel
theorem dX6_init_163 : decode cX6_init 163 = .ok (.aload_n 0, 1) := by decide +kernel
theorem dX6_init_164 : decode cX6_init 164 = .ok (.getfield 13, 3) := by decide +kernel
theorem dX6_init_167 : decode cX6_init 167 = .ok (.iload_n 1, 1) := by decide +kernel
theorem dX6_init_168 : decode cX6_init 168 = .ok (.iload_n 1, 1) := by decide +kernel
theorem dX6_init_169 : decode cX6_init 169 = .ok (.iastore, 1) := by decide +kernel
theorem dX6_init_170 : decode cX6_init 170 = .ok (.iinc 1 1, 3) := by decide +kernel
theorem dX6_init_173 : decode cX6_init 173 = .ok (.goto (-23), 3) := by decide +kernel
theorem dX6_init_176 : decode cX6_init 176 = .ok (.return_, 1) := by decide +kernel
theorem dX6_thrown_0 : decode cX6_thrown 0 = .ok (.aload_n 0, 1) := by decide +kernel
theorem dX6_thrown_1 : decode cX6_thrown 1 = .ok (.getfield 66, 3) := by decide +kernel
theorem dX6_thrown_4 : decode cX6_thrown 4 = .ok (.ireturn, 1) := by decide +kernel
theorem dX6_refused_0 : decode cX6_refused 0 = .ok (.aload_n 0, 1) := by decide +kernel
theorem dX6_refused_1 : decode cX6_refused 1 = .ok (.iload_n 1, 1) := by decide +kernel
theorem dX6_refused_2 : decode cX6_refused 2 = .ok (.putfield 66, 3) := by decide +kernel
theorem dX6_refused_5 : decode cX6_refused 5 = .ok (.iload_n 1, 1) := by decide +kernel
theorem dX6_refused_6 : decode cX6_refused 6 = .ok (.ifCond .eq 7, 3) := by decide +kernel
theorem dX6_refused_9 : decode cX6_refused 9 = .ok (.iconst 1, 1) := by decide +kernel
theorem dX6_refused_10 : decode cX6_refused 10 = .ok (.goto 4, 3) := by decide +kernel
theorem dX6_refused_13 : decode cX6_refused 13 = .ok (.iconst 0, 1) := by decide +kernel
theorem dX6_refused_14 : decode cX6_refused 14 = .ok (.ireturn, 1) := by decide +kernel
theorem dX6_in_0 : decode cX6_in 0 = .ok (.iload_n 0, 1) := by decide +kernel
theorem dX6_in_1 : decode cX6_in 1 = .ok (.iload_n 1, 1) := by decide +kernel
theorem dX6_in_2 : decode cX6_in 2 = .ok (.if_icmp .lt 12, 3) := by decide +kernel
theorem dX6_in_5 : decode cX6_in 5 = .ok (.iload_n 0, 1) := by decide +kernel
theorem dX6_in_6 : decode cX6_in 6 = .ok (.iload_n 2, 1) := by decide +kernel
theorem dX6_in_7 : decode cX6_in 7 = .ok (.if_icmp .gt 7, 3) := by decide +kernel
theorem dX6_in_10 : decode cX6_in 10 = .ok (.iconst 1, 1) := by decide +kernel
theorem dX6_in_11 : decode cX6_in 11 = .ok (.goto 4, 3) := by decide +kernel
theorem dX6_in_14 : decode cX6_in 14 = .ok (.iconst 0, 1) := by decide +kernel
theorem dX6_in_15 : decode cX6_in 15 = .ok (.ireturn, 1) := by decide +kernel
set_option maxRecDepth 20000 in
theorem ggX6_isFind_X6_in : GoodIn wsX6_isFind wsX6_in := goodIn_r _ [5] (by decide +kernel) (by decide +kernel)
set_option maxRecDepth 20000 in
theorem gX6_isFind_X6_in : GoodIn wsX6_isFind (va_wsS RX6 73 yX6_in wsX6_in) := goodIn_app (goodIn_of _ (by decide +kernel)) ggX6_isFind_X6_in
theorem dX6_isFind_0 : decode cX6_isFind 0 = .ok (.iload_n 1, 1) := by decide +kernel
theorem dX6_isFind_1 : decode cX6_isFind 1 = .ok (.iconst 0, 1) := by decide +kernel
theorem dX6_isFind_2 : decode cX6_isFind 2 = .ok (.aload_n 0, 1) := by decide +kernel
theorem dX6_isFind_3 : decode cX6_isFind 3 = .ok (.getfield 70, 3) := by decide +kernel
theorem dX6_isFind_6 : decode cX6_isFind 6 = .ok (.iconst 1, 1) := by decide +kernel
theorem dX6_isFind_7 : decode cX6_isFind 7 = .ok (.isub, 1) := by decide +kernel
theorem dX6_isFind_8 : decode cX6_isFind 8 = .ok (.invokestatic 73, 3) := by decide +kernel
theorem dX6_isFind_11 : decode cX6_isFind 11 = .ok (.ireturn, 1) := by decide +kernel
set_option maxRecDepth 20000 in
theorem ggX6_isDay_X6_in : GoodIn wsX6_isDay wsX6_in := goodIn_r _ [4] (by decide +kernel) (by decide +kernel)
set_option maxRecDepth 20000 in
theorem gX6_isDay_X6_in : GoodIn wsX6_isDay (va_wsS RX6 73 yX6_in wsX6_in) := goodIn_app (goodIn_of _ (by decide +kernel)) ggX6_isDay_X6_in
theorem dX6_isDay_0 : decode cX6_isDay 0 = .ok (.iload_n 0, 1) := by decide +kernel
theorem dX6_isDay_1 : decode cX6_isDay 1 = .ok (.iconst 0, 1) := by decide +kernel
theorem dX6_isDay_2 : decode cX6_isDay 2 = .ok (.sipush 9999, 3) := by decide +kernel
theorem dX6_isDay_5 : decode cX6_isDay 5 = .ok (.invokestatic 73, 3) := by decide +kernel
theorem dX6_isDay_8 : decode cX6_isDay 8 = .ok (.ireturn, 1) := by decide +kernel
set_option maxRecDepth 20000 in
theorem ggX6_pass_X6_in : GoodIn wsX6_pass wsX6_in := goodIn_r _ [5] (by decide +kernel) (by decide +kernel)
set_option maxRecDepth 20000 in
theorem gX6_pass_X6_in : GoodIn wsX6_pass (va_wsS RX6 73 yX6_in wsX6_in) := goodIn_app (goodIn_of _ (by decide +kernel)) ggX6_pass_X6_in
set_option maxRecDepth 20000 in
theorem ggX6_pass_X6_refused : GoodIn wsX6_pass wsX6_refused := goodIn_r _ [9, 10, 11, 12, 13, 14, 15, 16, 17, 18, 19, 20, 21, 22, 23, 24, 25, 26, 27, 28, 29, 30, 31, 32, 33] (by decide +kernel) (by decide +kernel)
set_option maxRecDepth 20000 in
theorem gX6_pass_X6_refused : GoodIn wsX6_pass (wsV RX6 80 RX6 yX6_refused wsX6_refused) := goodIn_app (goodIn_of _ (by decide +kernel)) ggX6_pass_X6_refused
theorem dX6_pass_0 : decode cX6_pass 0 = .ok (.aload_n 0, 1) := by decide +kernel
theorem dX6_pass_1 : decode cX6_pass 1 = .ok (.iload_n 1, 1) := by decide +kernel
theorem dX6_pass_2 : decode cX6_pass 2 = .ok (.iconst 1, 1) := by decide +kernel
theorem dX6_pass_3 : decode cX6_pass 3 = .ok (.sipush 1000, 3) := by decide +kernel
theorem dX6_pass_6 : decode cX6_pass 6 = .ok (.invokestatic 73, 3) := by decide +kernel
theorem dX6_pass_9 : decode cX6_pass 9 = .ok (.ifCond .ne 7, 3) := by decide +kernel
theorem dX6_pass_12 : decode cX6_pass 12 = .ok (.iconst 1, 1) := by decide +kernel
theorem dX6_pass_13 : decode cX6_pass 13 = .ok (.goto 20, 3) := by decide +kernel
theorem dX6_pass_16 : decode cX6_pass 16 = .ok (.aload_n 0, 1) := by decide +kernel
theorem dX6_pass_17 : decode cX6_pass 17 = .ok (.getfield 77, 3) := by decide +kernel
theorem dX6_pass_20 : decode cX6_pass 20 = .ok (.iload_n 1, 1) := by decide +kernel
theorem dX6_pass_21 : decode cX6_pass 21 = .ok (.iadd, 1) := by decide +kernel
theorem dX6_pass_22 : decode cX6_pass 22 = .ok (.sipush 9999, 3) := by decide +kernel
theorem dX6_pass_25 : decode cX6_pass 25 = .ok (.if_icmp .le 7, 3) := by decide +kernel
theorem dX6_pass_28 : decode cX6_pass 28 = .ok (.iconst 2, 1) := by decide +kernel
theorem dX6_pass_29 : decode cX6_pass 29 = .ok (.goto 4, 3) := by decide +kernel
theorem dX6_pass_32 : decode cX6_pass 32 = .ok (.iconst 0, 1) := by decide +kernel
theorem dX6_pass_33 : decode cX6_pass 33 = .ok (.invokevirtual 80, 3) := by decide +kernel
theorem dX6_pass_36 : decode cX6_pass 36 = .ok (.ifCond .eq 5, 3) := by decide +kernel
theorem dX6_pass_39 : decode cX6_pass 39 = .ok (.iconst 0, 1) := by decide +kernel
theorem dX6_pass_40 : decode cX6_pass 40 = .ok (.ireturn, 1) := by decide +kernel
theorem dX6_pass_41 : decode cX6_pass 41 = .ok (.aload_n 0, 1) := by decide +kernel
theorem dX6_pass_42 : decode cX6_pass 42 = .ok (.dup, 1) := by decide +kernel
theorem dX6_pass_43 : decode cX6_pass 43 = .ok (.getfield 77, 3) := by decide +kernel
theorem dX6_pass_46 : decode cX6_pass 46 = .ok (.iload_n 1, 1) := by decide +kernel
theorem dX6_pass_47 : decode cX6_pass 47 = .ok (.iadd, 1) := by decide +kernel
theorem dX6_pass_48 : decode cX6_pass 48 = .ok (.putfield 77, 3) := by decide +kernel
theorem dX6_pass_51 : decode cX6_pass 51 = .ok (.aload_n 0, 1) := by decide +kernel
theorem dX6_pass_52 : decode cX6_pass 52 = .ok (.getfield 77, 3) := by decide +kernel
theorem dX6_pass_55 : decode cX6_pass 55 = .ok (.ireturn, 1) := by decide +kernel
theorem dX6_today_0 : decode cX6_today 0 = .ok (.aload_n 0, 1) := by decide +kernel
theorem dX6_today_1 : decode cX6_today 1 = .ok (.iconst 0, 1) := by decide +kernel
theorem dX6_today_2 : decode cX6_today 2 = .ok (.putfield 66, 3) := by decide +kernel
theorem dX6_today_5 : decode cX6_today 5 = .ok (.aload_n 0, 1) := by decide +kernel
theorem dX6_today_6 : decode cX6_today 6 = .ok (.getfield 77, 3) := by decide +kernel
theorem dX6_today_9 : decode cX6_today 9 = .ok (.ireturn, 1) := by decide +kernel
set_option maxRecDepth 20000 in
theorem ggX6_setTerm_X6_in : GoodIn wsX6_setTerm wsX6_in := goodIn_r _ [5] (by decide +kernel) (by decide +kernel)
set_option maxRecDepth 20000 in
theorem gX6_setTerm_X6_in : GoodIn wsX6_setTerm (va_wsS RX6 73 yX6_in wsX6_in) := goodIn_app (goodIn_of _ (by decide +kernel)) ggX6_setTerm_X6_in
set_option maxRecDepth 20000 in
theorem ggX6_setTerm_X6_refused : GoodIn wsX6_setTerm wsX6_refused := goodIn_r _ [9, 10, 11, 12, 13, 14, 15, 16, 17, 18, 19, 20, 21, 22, 23, 24, 25, 26, 27, 28, 29, 30, 31, 32, 33] (by decide +kernel) (by decide +kernel)
set_option maxRecDepth 20000 in
theorem gX6_setTerm_X6_refused : GoodIn wsX6_setTerm (wsV RX6 80 RX6 yX6_refused wsX6_refused) := goodIn_app (goodIn_of _ (by decide +kernel)) ggX6_setTerm_X6_refused
theorem dX6_setTerm_0 : decode cX6_setTerm 0 = .ok (.aload_n 0, 1) := by decide +kernel
theorem dX6_setTerm_1 : decode cX6_setTerm 1 = .ok (.iload_n 1, 1) := by decide +kernel
theorem dX6_setTerm_2 : decode cX6_setTerm 2 = .ok (.iconst 0, 1) := by decide +kernel
theorem dX6_setTerm_3 : decode cX6_setTerm 3 = .ok (.iconst 3, 1) := by decide +kernel
theorem dX6_setTerm_4 : decode cX6_setTerm 4 = .ok (.invokestatic 73, 3) := by decide +kernel
theorem dX6_setTerm_7 : decode cX6_setTerm 7 = .ok (.ifCond .eq 18, 3) := by decide +kernel
theorem dX6_setTerm_10 : decode cX6_setTerm 10 = .ok (.iload_n 2, 1) := by decide +kernel
theorem dX6_setTerm_11 : decode cX6_setTerm 11 = .ok (.iconst 1, 1) := by decide +kernel
theorem dX6_setTerm_12 : decode cX6_setTerm 12 = .ok (.sipush 999, 3) := by decide +kernel
theorem dX6_setTerm_15 : decode cX6_setTerm 15 = .ok (.invokestatic 73, 3) := by decide +kernel
theorem dX6_setTerm_18 : decode cX6_setTerm 18 = .ok (.ifCond .eq 7, 3) := by decide +kernel
theorem dX6_setTerm_21 : decode cX6_setTerm 21 = .ok (.iconst 0, 1) := by decide +kernel
theorem dX6_setTerm_22 : decode cX6_setTerm 22 = .ok (.goto 4, 3) := by decide +kernel
theorem dX6_setTerm_25 : decode cX6_setTerm 25 = .ok (.iconst 1, 1) := by decide +kernel
theorem dX6_setTerm_26 : decode cX6_setTerm 26 = .ok (.invokevirtual 80, 3) := by decide +kernel
theorem dX6_setTerm_29 : decode cX6_setTerm 29 = .ok (.ifCond .eq 5, 3) := by decide +kernel
theorem dX6_setTerm_32 : decode cX6_setTerm 32 = .ok (.iconst 0, 1) := by decide +kernel
theorem dX6_setTerm_33 : decode cX6_setTerm 33 = .ok (.ireturn, 1) := by decide +kernel
theorem dX6_setTerm_34 : decode cX6_setTerm 34 = .ok (.aload_n 0, 1) := by decide +kernel
theorem dX6_setTerm_35 : decode cX6_setTerm 35 = .ok (.getfield 7, 3) := by decide +kernel
theorem dX6_setTerm_38 : decode cX6_setTerm 38 = .ok (.iload_n 1, 1) := by decide +kernel
theorem dX6_setTerm_39 : decode cX6_setTerm 39 = .ok (.iaload, 1) := by decide +kernel
theorem dX6_setTerm_40 : decode cX6_setTerm 40 = .ok (.istore_n 3, 1) := by decide +kernel
theorem dX6_setTerm_41 : decode cX6_setTerm 41 = .ok (.aload_n 0, 1) := by decide +kernel
theorem dX6_setTerm_42 : decode cX6_setTerm 42 = .ok (.getfield 7, 3) := by decide +kernel
theorem dX6_setTerm_45 : decode cX6_setTerm 45 = .ok (.iload_n 1, 1) := by decide +kernel
theorem dX6_setTerm_46 : decode cX6_setTerm 46 = .ok (.iload_n 2, 1) := by decide +kernel
theorem dX6_setTerm_47 : decode cX6_setTerm 47 = .ok (.iastore, 1) := by decide +kernel
theorem dX6_setTerm_48 : decode cX6_setTerm 48 = .ok (.iload_n 3, 1) := by decide +kernel
theorem dX6_setTerm_49 : decode cX6_setTerm 49 = .ok (.ireturn, 1) := by decide +kernel
theorem dX6_rankOf_0 : decode cX6_rankOf 0 = .ok (.iconst 0, 1) := by decide +kernel
theorem dX6_rankOf_1 : decode cX6_rankOf 1 = .ok (.istore_n 2, 1) := by decide +kernel
theorem dX6_rankOf_2 : decode cX6_rankOf 2 = .ok (.aload_n 0, 1) := by decide +kernel
theorem dX6_rankOf_3 : decode cX6_rankOf 3 = .ok (.getfield 13, 3) := by decide +kernel
theorem dX6_rankOf_6 : decode cX6_rankOf 6 = .ok (.iload_n 2, 1) := by decide +kernel
theorem dX6_rankOf_7 : decode cX6_rankOf 7 = .ok (.iaload, 1) := by decide +kernel
theorem dX6_rankOf_8 : decode cX6_rankOf 8 = .ok (.iload_n 1, 1) := by decide +kernel
theorem dX6_rankOf_9 : decode cX6_rankOf 9 = .ok (.if_icmp .eq 9, 3) := by decide +kernel
theorem dX6_rankOf_12 : decode cX6_rankOf 12 = .ok (.iinc 2 1, 3) := by decide +kernel
theorem dX6_rankOf_15 : decode cX6_rankOf 15 = .ok (.goto (-13), 3) := by decide +kernel
theorem dX6_rankOf_18 : decode cX6_rankOf 18 = .ok (.iload_n 2, 1) := by decide +kernel
theorem dX6_rankOf_19 : decode cX6_rankOf 19 = .ok (.ireturn, 1) := by decide +kernel
set_option maxRecDepth 20000 in
theorem ggX6_putFirst_X6_in : GoodIn wsX6_putFirst wsX6_in := goodIn_r _ [5] (by decide +kernel) (by decide +kernel)
set_option maxRecDepth 20000 in
theorem gX6_putFirst_X6_in : GoodIn wsX6_putFirst (va_wsS RX6 73 yX6_in wsX6_in) := goodIn_app (goodIn_of _ (by decide +kernel)) ggX6_putFirst_X6_in
set_option maxRecDepth 20000 in
theorem ggX6_putFirst_X6_refused : GoodIn wsX6_putFirst wsX6_refused := goodIn_r _ [9, 10, 15, 16, 17, 18, 19, 20, 21, 22, 23, 24, 25, 26, 27, 28, 29, 30, 31, 32, 33, 34, 35, 36, 37] (by decide +kernel) (by decide +kernel)
set_option maxRecDepth 20000 in
theorem gX6_putFirst_X6_refused : GoodIn wsX6_putFirst (wsV RX6 80 RX6 yX6_refused wsX6_refused) := goodIn_app (goodIn_of _ (by decide +kernel)) ggX6_putFirst_X6_refused
set_option maxRecDepth 20000 in
theorem ggX6_putFirst_X6_rankOf : GoodIn wsX6_putFirst wsX6_rankOf := goodIn_r _ [14, 1, 15, 16, 17, 18, 19, 20, 21, 22, 23, 24, 25, 26, 27, 28, 29, 30, 31, 32, 33, 34, 35, 36, 37] (by decide +kernel) (by decide +kernel)
set_option maxRecDepth 20000 in
theorem gX6_putFirst_X6_rankOf : GoodIn wsX6_putFirst (wsV RX6 84 RX6 yX6_rankOf wsX6_rankOf) := goodIn_app (goodIn_of _ (by decide +kernel)) ggX6_putFirst_X6_rankOf
theorem dX6_putFirst_0 : decode cX6_putFirst 0 = .ok (.aload_n 0, 1) := by decide +kernel
theorem dX6_putFirst_1 : decode cX6_putFirst 1 = .ok (.iload_n 1, 1) := by decide +kernel
theorem dX6_putFirst_2 : decode cX6_putFirst 2 = .ok (.iconst 0, 1) := by decide +kernel
theorem dX6_putFirst_3 : decode cX6_putFirst 3 = .ok (.iconst 3, 1) := by decide +kernel
theorem dX6_putFirst_4 : decode cX6_putFirst 4 = .ok (.invokestatic 73, 3) := by decide +kernel
theorem dX6_putFirst_7 : decode cX6_putFirst 7 = .ok (.ifCond .eq 7, 3) := by decide +kernel
theorem dX6_putFirst_10 : decode cX6_putFirst 10 = .ok (.iconst 0, 1) := by decide +kernel
theorem dX6_putFirst_11 : decode cX6_putFirst 11 = .ok (.goto 4, 3) := by decide +kernel
theorem dX6_putFirst_14 : decode cX6_putFirst 14 = .ok (.iconst 1, 1) := by decide +kernel
theorem dX6_putFirst_15 : decode cX6_putFirst 15 = .ok (.invokevirtual 80, 3) := by decide +kernel
theorem dX6_putFirst_18 : decode cX6_putFirst 18 = .ok (.ifCond .eq 5, 3) := by decide +kernel
theorem dX6_putFirst_21 : decode cX6_putFirst 21 = .ok (.iconst 0, 1) := by decide +kernel
theorem dX6_putFirst_22 : decode cX6_putFirst 22 = .ok (.ireturn, 1) := by decide +kernel
theorem dX6_putFirst_23 : decode cX6_putFirst 23 = .ok (.aload_n 0, 1) := by decide +kernel
theorem dX6_putFirst_24 : decode cX6_putFirst 24 = .ok (.iload_n 1, 1) := by decide +kernel
theorem dX6_putFirst_25 : decode cX6_putFirst 25 = .ok (.invokevirtual 84, 3) := by decide +kernel
theorem dX6_putFirst_28 : decode cX6_putFirst 28 = .ok (.istore_n 2, 1) := by decide +kernel
theorem dX6_putFirst_29 : decode cX6_putFirst 29 = .ok (.iload_n 2, 1) := by decide +kernel
theorem dX6_putFirst_30 : decode cX6_putFirst 30 = .ok (.istore_n 3, 1) := by decide +kernel
theorem dX6_putFirst_31 : decode cX6_putFirst 31 = .ok (.iload_n 3, 1) := by decide +kernel
theorem dX6_putFirst_32 : decode cX6_putFirst 32 = .ok (.ifCond .le 23, 3) := by decide +kernel
theorem dX6_putFirst_35 : decode cX6_putFirst 35 = .ok (.aload_n 0, 1) := by decide +kernel
theorem dX6_putFirst_36 : decode cX6_putFirst 36 = .ok (.getfield 13, 3) := by decide +kernel
theorem dX6_putFirst_39 : decode cX6_putFirst 39 = .ok (.iload_n 3, 1) := by decide +kernel
theorem dX6_putFirst_40 : decode cX6_putFirst 40 = .ok (.aload_n 0, 1) := by decide +kernel
theorem dX6_putFirst_41 : decode cX6_putFirst 41 = .ok (.getfield 13, 3) := by decide +kernel
theorem dX6_putFirst_44 : decode cX6_putFirst 44 = .ok (.iload_n 3, 1) := by decide +kernel
theorem dX6_putFirst_45 : decode cX6_putFirst 45 = .ok (.iconst 1, 1) := by decide +kernel
theorem dX6_putFirst_46 : decode cX6_putFirst 46 = .ok (.isub, 1) := by decide +kernel
theorem dX6_putFirst_47 : decode cX6_putFirst 47 = .ok (.iaload, 1) := by decide +kernel
theorem dX6_putFirst_48 : decode cX6_putFirst 48 = .ok (.iastore, 1) := by decide +kernel
theorem dX6_putFirst_49 : decode cX6_putFirst 49 = .ok (.iinc 3 (-1), 3) := by decide +kernel
theorem dX6_putFirst_52 : decode cX6_putFirst 52 = .ok (.goto (-21), 3) := by decide +kernel
theorem dX6_putFirst_55 : decode cX6_putFirst 55 = .ok (.aload_n 0, 1) := by decide +kernel
theorem dX6_putFirst_56 : decode cX6_putFirst 56 = .ok (.getfield 13, 3) := by decide +kernel
theorem dX6_putFirst_59 : decode cX6_putFirst 59 = .ok (.iconst 0, 1) := by decide +kernel
theorem dX6_putFirst_60 : decode cX6_putFirst 60 = .ok (.iload_n 1, 1) := by decide +kernel
theorem dX6_putFirst_61 : decode cX6_putFirst 61 = .ok (.iastore, 1) := by decide +kernel
theorem dX6_putFirst_62 : decode cX6_putFirst 62 = .ok (.iload_n 2, 1) := by decide +kernel
theorem dX6_putFirst_63 : decode cX6_putFirst 63 = .ok (.ireturn, 1) := by decide +kernel
set_option maxRecDepth 20000 in
theorem ggX6_find_X6_in : GoodIn wsX6_find wsX6_in := goodIn_r _ [10] (by decide +kernel) (by decide +kernel)
set_option maxRecDepth 20000 in
theorem gX6_find_X6_in : GoodIn wsX6_find (va_wsS RX6 73 yX6_in wsX6_in) := goodIn_app (goodIn_of _ (by decide +kernel)) ggX6_find_X6_in
set_option maxRecDepth 20000 in
theorem ggX6_find_X6_refused : GoodIn wsX6_find wsX6_refused := goodIn_r _ [14, 15, 16, 17, 18, 19, 20, 21, 22, 23, 24, 25, 26, 27, 28, 29, 30, 31, 32, 33, 34, 35, 36, 37, 38] (by decide +kernel) (by decide +kernel)
set_option maxRecDepth 20000 in
theorem gX6_find_X6_refused : GoodIn wsX6_find (wsV RX6 80 RX6 yX6_refused wsX6_refused) := goodIn_app (goodIn_of _ (by decide +kernel)) ggX6_find_X6_refused
theorem dX6_find_0 : decode cX6_find 0 = .ok (.iload_n 1, 1) := by decide +kernel
theorem dX6_find_1 : decode cX6_find 1 = .ok (.iconst 0, 1) := by decide +kernel
theorem dX6_find_2 : decode cX6_find 2 = .ok (.iconst 3, 1) := by decide +kernel
theorem dX6_find_3 : decode cX6_find 3 = .ok (.invokestatic 73, 3) := by decide +kernel
theorem dX6_find_6 : decode cX6_find 6 = .ok (.ifCond .eq 60, 3) := by decide +kernel
theorem dX6_find_9 : decode cX6_find 9 = .ok (.iload_n 2, 1) := by decide +kernel
theorem dX6_find_10 : decode cX6_find 10 = .ok (.iconst 0, 1) := by decide +kernel
theorem dX6_find_11 : decode cX6_find 11 = .ok (.bipush 99, 2) := by decide +kernel
theorem dX6_find_13 : decode cX6_find 13 = .ok (.invokestatic 73, 3) := by decide +kernel
theorem dX6_find_16 : decode cX6_find 16 = .ok (.ifCond .eq 50, 3) := by decide +kernel
theorem dX6_find_19 : decode cX6_find 19 = .ok (.iload_n 3, 1) := by decide +kernel
theorem dX6_find_20 : decode cX6_find 20 = .ok (.iconst 0, 1) := by decide +kernel
theorem dX6_find_21 : decode cX6_find 21 = .ok (.bipush 99, 2) := by decide +kernel
theorem dX6_find_23 : decode cX6_find 23 = .ok (.invokestatic 73, 3) := by decide +kernel
theorem dX6_find_26 : decode cX6_find 26 = .ok (.ifCond .eq 40, 3) := by decide +kernel
theorem dX6_find_29 : decode cX6_find 29 = .ok (.iload 4, 2) := by decide +kernel
theorem dX6_find_31 : decode cX6_find 31 = .ok (.iconst 0, 1) := by decide +kernel
theorem dX6_find_32 : decode cX6_find 32 = .ok (.bipush 99, 2) := by decide +kernel
theorem dX6_find_34 : decode cX6_find 34 = .ok (.invokestatic 73, 3) := by decide +kernel
theorem dX6_find_37 : decode cX6_find 37 = .ok (.ifCond .eq 29, 3) := by decide +kernel
theorem dX6_find_40 : decode cX6_find 40 = .ok (.iload 5, 2) := by decide +kernel
theorem dX6_find_42 : decode cX6_find 42 = .ok (.iconst (-1), 1) := by decide +kernel
theorem dX6_find_43 : decode cX6_find 43 = .ok (.bipush 99, 2) := by decide +kernel
theorem dX6_find_45 : decode cX6_find 45 = .ok (.invokestatic 73, 3) := by decide +kernel
theorem dX6_find_48 : decode cX6_find 48 = .ok (.ifCond .eq 18, 3) := by decide +kernel
theorem dX6_find_51 : decode cX6_find 51 = .ok (.iload 6, 2) := by decide +kernel
theorem dX6_find_53 : decode cX6_find 53 = .ok (.iconst (-1), 1) := by decide +kernel
theorem dX6_find_54 : decode cX6_find 54 = .ok (.bipush 99, 2) := by decide +kernel
theorem dX6_find_56 : decode cX6_find 56 = .ok (.invokestatic 73, 3) := by decide +kernel
theorem dX6_find_59 : decode cX6_find 59 = .ok (.ifCond .eq 7, 3) := by decide +kernel
theorem dX6_find_62 : decode cX6_find 62 = .ok (.iconst 1, 1) := by decide +kernel
theorem dX6_find_63 : decode cX6_find 63 = .ok (.goto 4, 3) := by decide +kernel
theorem dX6_find_66 : decode cX6_find 66 = .ok (.iconst 0, 1) := by decide +kernel
theorem dX6_find_67 : decode cX6_find 67 = .ok (.istore 7, 2) := by decide +kernel
theorem dX6_find_69 : decode cX6_find 69 = .ok (.aload_n 0, 1) := by decide +kernel
theorem dX6_find_70 : decode cX6_find 70 = .ok (.iload 7, 2) := by decide +kernel
theorem dX6_find_72 : decode cX6_find 72 = .ok (.ifCond .ne 7, 3) := by decide +kernel
theorem dX6_find_75 : decode cX6_find 75 = .ok (.iconst 1, 1) := by decide +kernel
theorem dX6_find_76 : decode cX6_find 76 = .ok (.goto 17, 3) := by decide +kernel
theorem dX6_find_79 : decode cX6_find 79 = .ok (.aload_n 0, 1) := by decide +kernel
theorem dX6_find_80 : decode cX6_find 80 = .ok (.getfield 70, 3) := by decide +kernel
theorem dX6_find_83 : decode cX6_find 83 = .ok (.bipush 60, 2) := by decide +kernel
theorem dX6_find_85 : decode cX6_find 85 = .ok (.if_icmp .ne 7, 3) := by decide +kernel
theorem dX6_find_88 : decode cX6_find 88 = .ok (.iconst 2, 1) := by decide +kernel
theorem dX6_find_89 : decode cX6_find 89 = .ok (.goto 4, 3) := by decide +kernel
theorem dX6_find_92 : decode cX6_find 92 = .ok (.iconst 0, 1) := by decide +kernel
theorem dX6_find_93 : decode cX6_find 93 = .ok (.invokevirtual 80, 3) := by decide +kernel
theorem dX6_find_96 : decode cX6_find 96 = .ok (.ifCond .eq 5, 3) := by decide +kernel
theorem dX6_find_99 : decode cX6_find 99 = .ok (.iconst 0, 1) := by decide +kernel
theorem dX6_find_100 : decode cX6_find 100 = .ok (.ireturn, 1) := by decide +kernel
theorem dX6_find_101 : decode cX6_find 101 = .ok (.aload_n 0, 1) := by decide +kernel
theorem dX6_find_102 : decode cX6_find 102 = .ok (.getfield 16, 3) := by decide +kernel
theorem dX6_find_105 : decode cX6_find 105 = .ok (.aload_n 0, 1) := by decide +kernel
theorem dX6_find_106 : decode cX6_find 106 = .ok (.getfield 70, 3) := by decide +kernel
theorem dX6_find_109 : decode cX6_find 109 = .ok (.iload_n 1, 1) := by decide +kernel
theorem dX6_find_110 : decode cX6_find 110 = .ok (.iastore, 1) := by decide +kernel
theorem dX6_find_111 : decode cX6_find 111 = .ok (.aload_n 0, 1) := by decide +kernel
theorem dX6_find_112 : decode cX6_find 112 = .ok (.getfield 19, 3) := by decide +kernel
theorem dX6_find_115 : decode cX6_find 115 = .ok (.aload_n 0, 1) := by decide +kernel
theorem dX6_find_116 : decode cX6_find 116 = .ok (.getfield 70, 3) := by decide +kernel
theorem dX6_find_119 : decode cX6_find 119 = .ok (.aload_n 0, 1) := by decide +kernel
theorem dX6_find_120 : decode cX6_find 120 = .ok (.getfield 77, 3) := by decide +kernel
theorem dX6_find_123 : decode cX6_find 123 = .ok (.iastore, 1) := by decide +kernel
theorem dX6_find_124 : decode cX6_find 124 = .ok (.aload_n 0, 1) := by decide +kernel
theorem dX6_find_125 : decode cX6_find 125 = .ok (.getfield 22, 3) := by decide +kernel
theorem dX6_find_128 : decode cX6_find 128 = .ok (.iconst 3, 1) := by decide +kernel
theorem dX6_find_129 : decode cX6_find 129 = .ok (.aload_n 0, 1) := by decide +kernel
theorem dX6_find_130 : decode cX6_find 130 = .ok (.getfield 70, 3) := by decide +kernel
theorem dX6_find_133 : decode cX6_find 133 = .ok (.imul, 1) := by decide +kernel
theorem dX6_find_134 : decode cX6_find 134 = .ok (.iload_n 2, 1) := by decide +kernel
theorem dX6_find_135 : decode cX6_find 135 = .ok (.iastore, 1) := by decide +kernel
theorem dX6_find_136 : decode cX6_find 136 = .ok (.aload_n 0, 1) := by decide +kernel
theorem dX6_find_137 : decode cX6_find 137 = .ok (.getfield 22, 3) := by decide +kernel
theorem dX6_find_140 : decode cX6_find 140 = .ok (.iconst 3, 1) := by decide +kernel
theorem dX6_find_141 : decode cX6_find 141 = .ok (.aload_n 0, 1) := by decide +kernel
theorem dX6_find_142 : decode cX6_find 142 = .ok (.getfield 70, 3) := by decide +kernel
theorem dX6_find_145 : decode cX6_find 145 = .ok (.imul, 1) := by decide +kernel
theorem dX6_find_146 : decode cX6_find 146 = .ok (.iconst 1, 1) := by decide +kernel
theorem dX6_find_147 : decode cX6_find 147 = .ok (.iadd, 1) := by decide +kernel
theorem dX6_find_148 : decode cX6_find 148 = .ok (.iload_n 3, 1) := by decide +kernel
theorem dX6_find_149 : decode cX6_find 149 = .ok (.iastore, 1) := by decide +kernel
theorem dX6_find_150 : decode cX6_find 150 = .ok (.aload_n 0, 1) := by decide +kernel
theorem dX6_find_151 : decode cX6_find 151 = .ok (.getfield 22, 3) := by decide +kernel
theorem dX6_find_154 : decode cX6_find 154 = .ok (.iconst 3, 1) := by decide +kernel
theorem dX6_find_155 : decode cX6_find 155 = .ok (.aload_n 0, 1) := by decide +kernel
theorem dX6_find_156 : decode cX6_find 156 = .ok (.getfield 70, 3) := by decide +kernel
theorem dX6_find_159 : decode cX6_find 159 = .ok (.imul, 1) := by decide +kernel
theorem dX6_find_160 : decode cX6_find 160 = .ok (.iconst 2, 1) := by decide +kernel
theorem dX6_find_161 : decode cX6_find 161 = .ok (.iadd, 1) := by decide +kernel
theorem dX6_find_162 : decode cX6_find 162 = .ok (.iload 4, 2) := by decide +kernel
theorem dX6_find_164 : decode cX6_find 164 = .ok (.iastore, 1) := by decide +kernel
theorem dX6_find_165 : decode cX6_find 165 = .ok (.aload_n 0, 1) := by decide +kernel
theorem dX6_find_166 : decode cX6_find 166 = .ok (.getfield 25, 3) := by decide +kernel
theorem dX6_find_169 : decode cX6_find 169 = .ok (.iconst 2, 1) := by decide +kernel
theorem dX6_find_170 : decode cX6_find 170 = .ok (.aload_n 0, 1) := by decide +kernel
theorem dX6_find_171 : decode cX6_find 171 = .ok (.getfield 70, 3) := by decide +kernel
theorem dX6_find_174 : decode cX6_find 174 = .ok (.imul, 1) := by decide +kernel
theorem dX6_find_175 : decode cX6_find 175 = .ok (.iload 5, 2) := by decide +kernel
theorem dX6_find_177 : decode cX6_find 177 = .ok (.iastore, 1) := by decide +kernel
theorem dX6_find_178 : decode cX6_find 178 = .ok (.aload_n 0, 1) := by decide +kernel
theorem dX6_find_179 : decode cX6_find 179 = .ok (.getfield 25, 3) := by decide +kernel
theorem dX6_find_182 : decode cX6_find 182 = .ok (.iconst 2, 1) := by decide +kernel
theorem dX6_find_183 : decode cX6_find 183 = .ok (.aload_n 0, 1) := by decide +kernel
theorem dX6_find_184 : decode cX6_find 184 = .ok (.getfield 70, 3) := by decide +kernel
theorem dX6_find_187 : decode cX6_find 187 = .ok (.imul, 1) := by decide +kernel
theorem dX6_find_188 : decode cX6_find 188 = .ok (.iconst 1, 1) := by decide +kernel
theorem dX6_find_189 : decode cX6_find 189 = .ok (.iadd, 1) := by decide +kernel
theorem dX6_find_190 : decode cX6_find 190 = .ok (.iload 6, 2) := by decide +kernel
theorem dX6_find_192 : decode cX6_find 192 = .ok (.iastore, 1) := by decide +kernel
theorem dX6_find_193 : decode cX6_find 193 = .ok (.aload_n 0, 1) := by decide +kernel
theorem dX6_find_194 : decode cX6_find 194 = .ok (.dup, 1) := by decide +kernel
theorem dX6_find_195 : decode cX6_find 195 = .ok (.getfield 70, 3) := by decide +kernel
theorem dX6_find_198 : decode cX6_find 198 = .ok (.iconst 1, 1) := by decide +kernel
theorem dX6_find_199 : decode cX6_find 199 = .ok (.iadd, 1) := by decide +kernel
theorem dX6_find_200 : decode cX6_find 200 = .ok (.putfield 70, 3) := by decide +kernel
theorem dX6_find_203 : decode cX6_find 203 = .ok (.aload_n 0, 1) := by decide +kernel
theorem dX6_find_204 : decode cX6_find 204 = .ok (.getfield 70, 3) := by decide +kernel
theorem dX6_find_207 : decode cX6_find 207 = .ok (.iconst 1, 1) := by decide +kernel
theorem dX6_find_208 : decode cX6_find 208 = .ok (.isub, 1) := by decide +kernel
theorem dX6_find_209 : decode cX6_find 209 = .ok (.ireturn, 1) := by decide +kernel
set_option maxRecDepth 20000 in
theorem ggX6_strike_X6_isFind : GoodIn wsX6_strike wsX6_isFind := goodIn_r _ [6, 7, 8, 9, 5, 10, 16, 17, 18, 19, 20, 21, 22, 23, 24, 25, 26, 27, 28, 29, 30, 31, 32, 33, 34, 35, 36, 37, 38] (by decide +kernel) (by decide +kernel)
set_option maxRecDepth 20000 in
theorem gX6_strike_X6_isFind : GoodIn wsX6_strike (wsV RX6 88 RX6 yX6_isFind wsX6_isFind) := goodIn_app (goodIn_of _ (by decide +kernel)) ggX6_strike_X6_isFind
set_option maxRecDepth 20000 in
theorem ggX6_strike_X6_refused : GoodIn wsX6_strike wsX6_refused := goodIn_r _ [14, 15, 16, 17, 18, 19, 20, 21, 22, 23, 24, 25, 26, 27, 28, 29, 30, 31, 32, 33, 34, 35, 36, 37, 38] (by decide +kernel) (by decide +kernel)
set_option maxRecDepth 20000 in
theorem gX6_strike_X6_refused : GoodIn wsX6_strike (wsV RX6 80 RX6 yX6_refused wsX6_refused) := goodIn_app (goodIn_of _ (by decide +kernel)) ggX6_strike_X6_refused
theorem dX6_strike_0 : decode cX6_strike 0 = .ok (.aload_n 0, 1) := by decide +kernel
theorem dX6_strike_1 : decode cX6_strike 1 = .ok (.aload_n 0, 1) := by decide +kernel
theorem dX6_strike_2 : decode cX6_strike 2 = .ok (.iload_n 1, 1) := by decide +kernel
theorem dX6_strike_3 : decode cX6_strike 3 = .ok (.invokevirtual 88, 3) := by decide +kernel
theorem dX6_strike_6 : decode cX6_strike 6 = .ok (.ifCond .eq 7, 3) := by decide +kernel
theorem dX6_strike_9 : decode cX6_strike 9 = .ok (.iconst 0, 1) := by decide +kernel
theorem dX6_strike_10 : decode cX6_strike 10 = .ok (.goto 4, 3) := by decide +kernel
theorem dX6_strike_13 : decode cX6_strike 13 = .ok (.iconst 1, 1) := by decide +kernel
theorem dX6_strike_14 : decode cX6_strike 14 = .ok (.invokevirtual 80, 3) := by decide +kernel
theorem dX6_strike_17 : decode cX6_strike 17 = .ok (.ifCond .eq 5, 3) := by decide +kernel
theorem dX6_strike_20 : decode cX6_strike 20 = .ok (.iconst 0, 1) := by decide +kernel
theorem dX6_strike_21 : decode cX6_strike 21 = .ok (.ireturn, 1) := by decide +kernel
theorem dX6_strike_22 : decode cX6_strike 22 = .ok (.aload_n 0, 1) := by decide +kernel
theorem dX6_strike_23 : decode cX6_strike 23 = .ok (.getfield 28, 3) := by decide +kernel
theorem dX6_strike_26 : decode cX6_strike 26 = .ok (.iload_n 1, 1) := by decide +kernel
theorem dX6_strike_27 : decode cX6_strike 27 = .ok (.baload, 1) := by decide +kernel
theorem dX6_strike_28 : decode cX6_strike 28 = .ok (.ifCond .ne 7, 3) := by decide +kernel
theorem dX6_strike_31 : decode cX6_strike 31 = .ok (.iconst 1, 1) := by decide +kernel
theorem dX6_strike_32 : decode cX6_strike 32 = .ok (.goto 4, 3) := by decide +kernel
theorem dX6_strike_35 : decode cX6_strike 35 = .ok (.iconst 0, 1) := by decide +kernel
theorem dX6_strike_36 : decode cX6_strike 36 = .ok (.istore_n 2, 1) := by decide +kernel
theorem dX6_strike_37 : decode cX6_strike 37 = .ok (.aload_n 0, 1) := by decide +kernel
theorem dX6_strike_38 : decode cX6_strike 38 = .ok (.getfield 28, 3) := by decide +kernel
theorem dX6_strike_41 : decode cX6_strike 41 = .ok (.iload_n 1, 1) := by decide +kernel
theorem dX6_strike_42 : decode cX6_strike 42 = .ok (.iconst 1, 1) := by decide +kernel
theorem dX6_strike_43 : decode cX6_strike 43 = .ok (.bastore, 1) := by decide +kernel
theorem dX6_strike_44 : decode cX6_strike 44 = .ok (.iload_n 2, 1) := by decide +kernel
theorem dX6_strike_45 : decode cX6_strike 45 = .ok (.ireturn, 1) := by decide +kernel
set_option maxRecDepth 20000 in
theorem ggX6_tell_X6_isFind : GoodIn wsX6_tell wsX6_isFind := goodIn_r _ [6, 7, 8, 9, 5, 10, 16, 17, 18, 19, 20, 21, 22, 23, 24, 25, 26, 27, 28, 29, 30, 31, 32, 33, 34, 35, 36, 37, 38] (by decide +kernel) (by decide +kernel)
set_option maxRecDepth 20000 in
theorem gX6_tell_X6_isFind : GoodIn wsX6_tell (wsV RX6 88 RX6 yX6_isFind wsX6_isFind) := goodIn_app (goodIn_of _ (by decide +kernel)) ggX6_tell_X6_isFind
set_option maxRecDepth 20000 in
theorem ggX6_tell_X6_in : GoodIn wsX6_tell wsX6_in := goodIn_r _ [10] (by decide +kernel) (by decide +kernel)
set_option maxRecDepth 20000 in
theorem gX6_tell_X6_in : GoodIn wsX6_tell (va_wsS RX6 73 yX6_in wsX6_in) := goodIn_app (goodIn_of _ (by decide +kernel)) ggX6_tell_X6_in
set_option maxRecDepth 20000 in
theorem ggX6_tell_X6_refused : GoodIn wsX6_tell wsX6_refused := goodIn_r _ [14, 15, 16, 17, 18, 19, 20, 21, 22, 23, 24, 25, 26, 27, 28, 29, 30, 31, 32, 33, 34, 35, 36, 37, 38] (by decide +kernel) (by decide +kernel)
set_option maxRecDepth 20000 in
theorem gX6_tell_X6_refused : GoodIn wsX6_tell (wsV RX6 80 RX6 yX6_refused wsX6_refused) := goodIn_app (goodIn_of _ (by decide +kernel)) ggX6_tell_X6_refused
theorem dX6_tell_0 : decode cX6_tell 0 = .ok (.aload_n 0, 1) := by decide +kernel
theorem dX6_tell_1 : decode cX6_tell 1 = .ok (.iload_n 1, 1) := by decide +kernel
theorem dX6_tell_2 : decode cX6_tell 2 = .ok (.invokevirtual 88, 3) := by decide +kernel
theorem dX6_tell_5 : decode cX6_tell 5 = .ok (.ifCond .eq 15, 3) := by decide +kernel
theorem dX6_tell_8 : decode cX6_tell 8 = .ok (.aload_n 0, 1) := by decide +kernel
theorem dX6_tell_9 : decode cX6_tell 9 = .ok (.iload_n 2, 1) := by decide +kernel
theorem dX6_tell_10 : decode cX6_tell 10 = .ok (.invokevirtual 88, 3) := by decide +kernel
theorem dX6_tell_13 : decode cX6_tell 13 = .ok (.ifCond .eq 7, 3) := by decide +kernel
theorem dX6_tell_16 : decode cX6_tell 16 = .ok (.iconst 1, 1) := by decide +kernel
theorem dX6_tell_17 : decode cX6_tell 17 = .ok (.goto 4, 3) := by decide +kernel
theorem dX6_tell_20 : decode cX6_tell 20 = .ok (.iconst 0, 1) := by decide +kernel
theorem dX6_tell_21 : decode cX6_tell 21 = .ok (.istore 4, 2) := by decide +kernel
theorem dX6_tell_23 : decode cX6_tell 23 = .ok (.aload_n 0, 1) := by decide +kernel
theorem dX6_tell_24 : decode cX6_tell 24 = .ok (.iload 4, 2) := by decide +kernel
theorem dX6_tell_26 : decode cX6_tell 26 = .ok (.ifCond .ne 7, 3) := by decide +kernel
theorem dX6_tell_29 : decode cX6_tell 29 = .ok (.iconst 1, 1) := by decide +kernel
theorem dX6_tell_30 : decode cX6_tell 30 = .ok (.goto 22, 3) := by decide +kernel
theorem dX6_tell_33 : decode cX6_tell 33 = .ok (.iload_n 1, 1) := by decide +kernel
theorem dX6_tell_34 : decode cX6_tell 34 = .ok (.iload_n 2, 1) := by decide +kernel
theorem dX6_tell_35 : decode cX6_tell 35 = .ok (.if_icmp .eq 16, 3) := by decide +kernel
theorem dX6_tell_38 : decode cX6_tell 38 = .ok (.iload_n 3, 1) := by decide +kernel
theorem dX6_tell_39 : decode cX6_tell 39 = .ok (.iconst 0, 1) := by decide +kernel
theorem dX6_tell_40 : decode cX6_tell 40 = .ok (.iconst 2, 1) := by decide +kernel
theorem dX6_tell_41 : decode cX6_tell 41 = .ok (.invokestatic 73, 3) := by decide +kernel
theorem dX6_tell_44 : decode cX6_tell 44 = .ok (.ifCond .eq 7, 3) := by decide +kernel
theorem dX6_tell_47 : decode cX6_tell 47 = .ok (.iconst 0, 1) := by decide +kernel
theorem dX6_tell_48 : decode cX6_tell 48 = .ok (.goto 4, 3) := by decide +kernel
theorem dX6_tell_51 : decode cX6_tell 51 = .ok (.iconst 2, 1) := by decide +kernel
theorem dX6_tell_52 : decode cX6_tell 52 = .ok (.invokevirtual 80, 3) := by decide +kernel
theorem dX6_tell_55 : decode cX6_tell 55 = .ok (.ifCond .eq 5, 3) := by decide +kernel
theorem dX6_tell_58 : decode cX6_tell 58 = .ok (.iconst 0, 1) := by decide +kernel
theorem dX6_tell_59 : decode cX6_tell 59 = .ok (.ireturn, 1) := by decide +kernel
theorem dX6_tell_60 : decode cX6_tell 60 = .ok (.aload_n 0, 1) := by decide +kernel
theorem dX6_tell_61 : decode cX6_tell 61 = .ok (.getfield 32, 3) := by decide +kernel
theorem dX6_tell_64 : decode cX6_tell 64 = .ok (.bipush 60, 2) := by decide +kernel
theorem dX6_tell_66 : decode cX6_tell 66 = .ok (.iload_n 1, 1) := by decide +kernel
theorem dX6_tell_67 : decode cX6_tell 67 = .ok (.imul, 1) := by decide +kernel
theorem dX6_tell_68 : decode cX6_tell 68 = .ok (.iload_n 2, 1) := by decide +kernel
theorem dX6_tell_69 : decode cX6_tell 69 = .ok (.iadd, 1) := by decide +kernel
theorem dX6_tell_70 : decode cX6_tell 70 = .ok (.baload, 1) := by decide +kernel
theorem dX6_tell_71 : decode cX6_tell 71 = .ok (.istore 5, 2) := by decide +kernel
theorem dX6_tell_73 : decode cX6_tell 73 = .ok (.aload_n 0, 1) := by decide +kernel
theorem dX6_tell_74 : decode cX6_tell 74 = .ok (.getfield 32, 3) := by decide +kernel
theorem dX6_tell_77 : decode cX6_tell 77 = .ok (.bipush 60, 2) := by decide +kernel
theorem dX6_tell_79 : decode cX6_tell 79 = .ok (.iload_n 1, 1) := by decide +kernel
theorem dX6_tell_80 : decode cX6_tell 80 = .ok (.imul, 1) := by decide +kernel
theorem dX6_tell_81 : decode cX6_tell 81 = .ok (.iload_n 2, 1) := by decide +kernel
theorem dX6_tell_82 : decode cX6_tell 82 = .ok (.iadd, 1) := by decide +kernel
theorem dX6_tell_83 : decode cX6_tell 83 = .ok (.iload_n 3, 1) := by decide +kernel
theorem dX6_tell_84 : decode cX6_tell 84 = .ok (.i2b, 1) := by decide +kernel
theorem dX6_tell_85 : decode cX6_tell 85 = .ok (.bastore, 1) := by decide +kernel
theorem dX6_tell_86 : decode cX6_tell 86 = .ok (.aload_n 0, 1) := by decide +kernel
theorem dX6_tell_87 : decode cX6_tell 87 = .ok (.getfield 32, 3) := by decide +kernel
theorem dX6_tell_90 : decode cX6_tell 90 = .ok (.bipush 60, 2) := by decide +kernel
theorem dX6_tell_92 : decode cX6_tell 92 = .ok (.iload_n 2, 1) := by decide +kernel
theorem dX6_tell_93 : decode cX6_tell 93 = .ok (.imul, 1) := by decide +kernel
theorem dX6_tell_94 : decode cX6_tell 94 = .ok (.iload_n 1, 1) := by decide +kernel
theorem dX6_tell_95 : decode cX6_tell 95 = .ok (.iadd, 1) := by decide +kernel
theorem dX6_tell_96 : decode cX6_tell 96 = .ok (.iload_n 3, 1) := by decide +kernel
theorem dX6_tell_97 : decode cX6_tell 97 = .ok (.i2b, 1) := by decide +kernel
theorem dX6_tell_98 : decode cX6_tell 98 = .ok (.bastore, 1) := by decide +kernel
theorem dX6_tell_99 : decode cX6_tell 99 = .ok (.iload 5, 2) := by decide +kernel
theorem dX6_tell_101 : decode cX6_tell 101 = .ok (.ireturn, 1) := by decide +kernel
theorem dX6_countsOn_0 : decode cX6_countsOn 0 = .ok (.aload_n 0, 1) := by decide +kernel
theorem dX6_countsOn_1 : decode cX6_countsOn 1 = .ok (.getfield 28, 3) := by decide +kernel
theorem dX6_countsOn_4 : decode cX6_countsOn 4 = .ok (.iload_n 1, 1) := by decide +kernel
theorem dX6_countsOn_5 : decode cX6_countsOn 5 = .ok (.baload, 1) := by decide +kernel
theorem dX6_countsOn_6 : decode cX6_countsOn 6 = .ok (.ifCond .ne 39, 3) := by decide +kernel
theorem dX6_countsOn_9 : decode cX6_countsOn 9 = .ok (.aload_n 0, 1) := by decide +kernel
theorem dX6_countsOn_10 : decode cX6_countsOn 10 = .ok (.getfield 19, 3) := by decide +kernel
theorem dX6_countsOn_13 : decode cX6_countsOn 13 = .ok (.iload_n 1, 1) := by decide +kernel
theorem dX6_countsOn_14 : decode cX6_countsOn 14 = .ok (.iaload, 1) := by decide +kernel
theorem dX6_countsOn_15 : decode cX6_countsOn 15 = .ok (.iload_n 2, 1) := by decide +kernel
theorem dX6_countsOn_16 : decode cX6_countsOn 16 = .ok (.if_icmp .gt 29, 3) := by decide +kernel
theorem dX6_countsOn_19 : decode cX6_countsOn 19 = .ok (.iload_n 2, 1) := by decide +kernel
theorem dX6_countsOn_20 : decode cX6_countsOn 20 = .ok (.aload_n 0, 1) := by decide +kernel
theorem dX6_countsOn_21 : decode cX6_countsOn 21 = .ok (.getfield 19, 3) := by decide +kernel
theorem dX6_countsOn_24 : decode cX6_countsOn 24 = .ok (.iload_n 1, 1) := by decide +kernel
theorem dX6_countsOn_25 : decode cX6_countsOn 25 = .ok (.iaload, 1) := by decide +kernel
theorem dX6_countsOn_26 : decode cX6_countsOn 26 = .ok (.isub, 1) := by decide +kernel
theorem dX6_countsOn_27 : decode cX6_countsOn 27 = .ok (.aload_n 0, 1) := by decide +kernel
theorem dX6_countsOn_28 : decode cX6_countsOn 28 = .ok (.getfield 7, 3) := by decide +kernel
theorem dX6_countsOn_31 : decode cX6_countsOn 31 = .ok (.aload_n 0, 1) := by decide +kernel
theorem dX6_countsOn_32 : decode cX6_countsOn 32 = .ok (.getfield 16, 3) := by decide +kernel
theorem dX6_countsOn_35 : decode cX6_countsOn 35 = .ok (.iload_n 1, 1) := by decide +kernel
theorem dX6_countsOn_36 : decode cX6_countsOn 36 = .ok (.iaload, 1) := by decide +kernel
theorem dX6_countsOn_37 : decode cX6_countsOn 37 = .ok (.iaload, 1) := by decide +kernel
theorem dX6_countsOn_38 : decode cX6_countsOn 38 = .ok (.if_icmp .gt 7, 3) := by decide +kernel
theorem dX6_countsOn_41 : decode cX6_countsOn 41 = .ok (.iconst 1, 1) := by decide +kernel
theorem dX6_countsOn_42 : decode cX6_countsOn 42 = .ok (.goto 4, 3) := by decide +kernel
theorem dX6_countsOn_45 : decode cX6_countsOn 45 = .ok (.iconst 0, 1) := by decide +kernel
theorem dX6_countsOn_46 : decode cX6_countsOn 46 = .ok (.ireturn, 1) := by decide +kernel
set_option maxRecDepth 20000 in
theorem ggX6_counts_X6_isFind : GoodIn wsX6_counts wsX6_isFind := goodIn_r _ [5, 6, 7, 8, 4, 9, 26, 27, 28, 29, 30, 31, 32, 33, 34, 35, 36, 37, 38, 39, 40, 41, 42, 43, 44, 45, 46, 47, 48] (by decide +kernel) (by decide +kernel)
set_option maxRecDepth 20000 in
theorem gX6_counts_X6_isFind : GoodIn wsX6_counts (wsV RX6 88 RX6 yX6_isFind wsX6_isFind) := goodIn_app (goodIn_of _ (by decide +kernel)) ggX6_counts_X6_isFind
set_option maxRecDepth 20000 in
theorem ggX6_counts_X6_isDay : GoodIn wsX6_counts wsX6_isDay := goodIn_r _ [12, 7, 8, 4, 9] (by decide +kernel) (by decide +kernel)
set_option maxRecDepth 20000 in
theorem gX6_counts_X6_isDay : GoodIn wsX6_counts (va_wsS RX6 91 yX6_isDay wsX6_isDay) := goodIn_app (goodIn_of _ (by decide +kernel)) ggX6_counts_X6_isDay
set_option maxRecDepth 20000 in
theorem ggX6_counts_X6_refused : GoodIn wsX6_counts wsX6_refused := goodIn_r _ [16, 17, 26, 27, 28, 29, 30, 31, 32, 33, 34, 35, 36, 37, 38, 39, 40, 41, 42, 43, 44, 45, 46, 47, 48] (by decide +kernel) (by decide +kernel)
set_option maxRecDepth 20000 in
theorem gX6_counts_X6_refused : GoodIn wsX6_counts (wsV RX6 80 RX6 yX6_refused wsX6_refused) := goodIn_app (goodIn_of _ (by decide +kernel)) ggX6_counts_X6_refused
set_option maxRecDepth 20000 in
theorem ggX6_counts_X6_countsOn : GoodIn wsX6_counts wsX6_countsOn := goodIn_r _ [21, 22, 23, 24, 25, 26, 27, 28, 29, 30, 31, 32, 33, 34, 35, 36, 37, 38, 39, 40, 41, 42, 43, 44, 45, 46, 47, 48] (by decide +kernel) (by decide +kernel)
set_option maxRecDepth 20000 in
theorem gX6_counts_X6_countsOn : GoodIn wsX6_counts (wsV RX6 94 RX6 yX6_countsOn wsX6_countsOn) := goodIn_app (goodIn_of _ (by decide +kernel)) ggX6_counts_X6_countsOn
theorem dX6_counts_0 : decode cX6_counts 0 = .ok (.aload_n 0, 1) := by decide +kernel
theorem dX6_counts_1 : decode cX6_counts 1 = .ok (.aload_n 0, 1) := by decide +kernel
theorem dX6_counts_2 : decode cX6_counts 2 = .ok (.iload_n 1, 1) := by decide +kernel
theorem dX6_counts_3 : decode cX6_counts 3 = .ok (.invokevirtual 88, 3) := by decide +kernel
theorem dX6_counts_6 : decode cX6_counts 6 = .ok (.ifCond .ne 7, 3) := by decide +kernel
theorem dX6_counts_9 : decode cX6_counts 9 = .ok (.iconst 1, 1) := by decide +kernel
theorem dX6_counts_10 : decode cX6_counts 10 = .ok (.goto 15, 3) := by decide +kernel
theorem dX6_counts_13 : decode cX6_counts 13 = .ok (.iload_n 2, 1) := by decide +kernel
theorem dX6_counts_14 : decode cX6_counts 14 = .ok (.invokestatic 91, 3) := by decide +kernel
theorem dX6_counts_17 : decode cX6_counts 17 = .ok (.ifCond .eq 7, 3) := by decide +kernel
theorem dX6_counts_20 : decode cX6_counts 20 = .ok (.iconst 0, 1) := by decide +kernel
theorem dX6_counts_21 : decode cX6_counts 21 = .ok (.goto 4, 3) := by decide +kernel
theorem dX6_counts_24 : decode cX6_counts 24 = .ok (.iconst 2, 1) := by decide +kernel
theorem dX6_counts_25 : decode cX6_counts 25 = .ok (.invokevirtual 80, 3) := by decide +kernel
theorem dX6_counts_28 : decode cX6_counts 28 = .ok (.ifCond .ne 16, 3) := by decide +kernel
theorem dX6_counts_31 : decode cX6_counts 31 = .ok (.aload_n 0, 1) := by decide +kernel
theorem dX6_counts_32 : decode cX6_counts 32 = .ok (.iload_n 1, 1) := by decide +kernel
theorem dX6_counts_33 : decode cX6_counts 33 = .ok (.iload_n 2, 1) := by decide +kernel
theorem dX6_counts_34 : decode cX6_counts 34 = .ok (.invokevirtual 94, 3) := by decide +kernel
theorem dX6_counts_37 : decode cX6_counts 37 = .ok (.ifCond .eq 7, 3) := by decide +kernel
theorem dX6_counts_40 : decode cX6_counts 40 = .ok (.iconst 1, 1) := by decide +kernel
theorem dX6_counts_41 : decode cX6_counts 41 = .ok (.goto 4, 3) := by decide +kernel
theorem dX6_counts_44 : decode cX6_counts 44 = .ok (.iconst 0, 1) := by decide +kernel
theorem dX6_counts_45 : decode cX6_counts 45 = .ok (.ireturn, 1) := by decide +kernel
theorem dX6_haveSame_0 : decode cX6_haveSame 0 = .ok (.aload_n 0, 1) := by decide +kernel
theorem dX6_haveSame_1 : decode cX6_haveSame 1 = .ok (.getfield 22, 3) := by decide +kernel
theorem dX6_haveSame_4 : decode cX6_haveSame 4 = .ok (.iconst 3, 1) := by decide +kernel
theorem dX6_haveSame_5 : decode cX6_haveSame 5 = .ok (.iload_n 1, 1) := by decide +kernel
theorem dX6_haveSame_6 : decode cX6_haveSame 6 = .ok (.imul, 1) := by decide +kernel
theorem dX6_haveSame_7 : decode cX6_haveSame 7 = .ok (.iload_n 3, 1) := by decide +kernel
theorem dX6_haveSame_8 : decode cX6_haveSame 8 = .ok (.iadd, 1) := by decide +kernel
theorem dX6_haveSame_9 : decode cX6_haveSame 9 = .ok (.iaload, 1) := by decide +kernel
theorem dX6_haveSame_10 : decode cX6_haveSame 10 = .ok (.ifCond .eq 30, 3) := by decide +kernel
theorem dX6_haveSame_13 : decode cX6_haveSame 13 = .ok (.aload_n 0, 1) := by decide +kernel
theorem dX6_haveSame_14 : decode cX6_haveSame 14 = .ok (.getfield 22, 3) := by decide +kernel
theorem dX6_haveSame_17 : decode cX6_haveSame 17 = .ok (.iconst 3, 1) := by decide +kernel
theorem dX6_haveSame_18 : decode cX6_haveSame 18 = .ok (.iload_n 1, 1) := by decide +kernel
theorem dX6_haveSame_19 : decode cX6_haveSame 19 = .ok (.imul, 1) := by decide +kernel
theorem dX6_haveSame_20 : decode cX6_haveSame 20 = .ok (.iload_n 3, 1) := by decide +kernel
theorem dX6_haveSame_21 : decode cX6_haveSame 21 = .ok (.iadd, 1) := by decide +kernel
theorem dX6_haveSame_22 : decode cX6_haveSame 22 = .ok (.iaload, 1) := by decide +kernel
theorem dX6_haveSame_23 : decode cX6_haveSame 23 = .ok (.aload_n 0, 1) := by decide +kernel
theorem dX6_haveSame_24 : decode cX6_haveSame 24 = .ok (.getfield 22, 3) := by decide +kernel
theorem dX6_haveSame_27 : decode cX6_haveSame 27 = .ok (.iconst 3, 1) := by decide +kernel
theorem dX6_haveSame_28 : decode cX6_haveSame 28 = .ok (.iload_n 2, 1) := by decide +kernel
theorem dX6_haveSame_29 : decode cX6_haveSame 29 = .ok (.imul, 1) := by decide +kernel
theorem dX6_haveSame_30 : decode cX6_haveSame 30 = .ok (.iload_n 3, 1) := by decide +kernel
theorem dX6_haveSame_31 : decode cX6_haveSame 31 = .ok (.iadd, 1) := by decide +kernel
theorem dX6_haveSame_32 : decode cX6_haveSame 32 = .ok (.iaload, 1) := by decide +kernel
theorem dX6_haveSame_33 : decode cX6_haveSame 33 = .ok (.if_icmp .ne 7, 3) := by decide +kernel
theorem dX6_haveSame_36 : decode cX6_haveSame 36 = .ok (.iconst 1, 1) := by decide +kernel
theorem dX6_haveSame_37 : decode cX6_haveSame 37 = .ok (.goto 4, 3) := by decide +kernel
theorem dX6_haveSame_40 : decode cX6_haveSame 40 = .ok (.iconst 0, 1) := by decide +kernel
theorem dX6_haveSame_41 : decode cX6_haveSame 41 = .ok (.ireturn, 1) := by decide +kernel
set_option maxRecDepth 20000 in
theorem ggX6_areSame_X6_haveSame : GoodIn wsX6_areSame wsX6_haveSame := goodIn_r _ [7, 2, 8, 9, 10, 11, 12, 13, 14, 15, 16, 17, 18, 19, 20, 21, 22, 23, 24, 25, 26, 27, 28, 29, 30] (by decide +kernel) (by decide +kernel)
set_option maxRecDepth 20000 in
theorem gX6_areSame_X6_haveSame : GoodIn wsX6_areSame (wsV RX6 98 RX6 yX6_haveSame wsX6_haveSame) := goodIn_app (goodIn_of _ (by decide +kernel)) ggX6_areSame_X6_haveSame
theorem dX6_areSame_0 : decode cX6_areSame 0 = .ok (.aload_n 0, 1) := by decide +kernel
theorem dX6_areSame_1 : decode cX6_areSame 1 = .ok (.getfield 32, 3) := by decide +kernel
theorem dX6_areSame_4 : decode cX6_areSame 4 = .ok (.bipush 60, 2) := by decide +kernel
theorem dX6_areSame_6 : decode cX6_areSame 6 = .ok (.iload_n 1, 1) := by decide +kernel
theorem dX6_areSame_7 : decode cX6_areSame 7 = .ok (.imul, 1) := by decide +kernel
theorem dX6_areSame_8 : decode cX6_areSame 8 = .ok (.iload_n 2, 1) := by decide +kernel
theorem dX6_areSame_9 : decode cX6_areSame 9 = .ok (.iadd, 1) := by decide +kernel
theorem dX6_areSame_10 : decode cX6_areSame 10 = .ok (.baload, 1) := by decide +kernel
theorem dX6_areSame_11 : decode cX6_areSame 11 = .ok (.istore_n 3, 1) := by decide +kernel
theorem dX6_areSame_12 : decode cX6_areSame 12 = .ok (.aload_n 0, 1) := by decide +kernel
theorem dX6_areSame_13 : decode cX6_areSame 13 = .ok (.getfield 22, 3) := by decide +kernel
theorem dX6_areSame_16 : decode cX6_areSame 16 = .ok (.iconst 3, 1) := by decide +kernel
theorem dX6_areSame_17 : decode cX6_areSame 17 = .ok (.iload_n 1, 1) := by decide +kernel
theorem dX6_areSame_18 : decode cX6_areSame 18 = .ok (.imul, 1) := by decide +kernel
theorem dX6_areSame_19 : decode cX6_areSame 19 = .ok (.iaload, 1) := by decide +kernel
theorem dX6_areSame_20 : decode cX6_areSame 20 = .ok (.ifCond .eq 18, 3) := by decide +kernel
theorem dX6_areSame_23 : decode cX6_areSame 23 = .ok (.aload_n 0, 1) := by decide +kernel
theorem dX6_areSame_24 : decode cX6_areSame 24 = .ok (.getfield 22, 3) := by decide +kernel
theorem dX6_areSame_27 : decode cX6_areSame 27 = .ok (.iconst 3, 1) := by decide +kernel
theorem dX6_areSame_28 : decode cX6_areSame 28 = .ok (.iload_n 2, 1) := by decide +kernel
theorem dX6_areSame_29 : decode cX6_areSame 29 = .ok (.imul, 1) := by decide +kernel
theorem dX6_areSame_30 : decode cX6_areSame 30 = .ok (.iaload, 1) := by decide +kernel
theorem dX6_areSame_31 : decode cX6_areSame 31 = .ok (.ifCond .eq 7, 3) := by decide +kernel
theorem dX6_areSame_34 : decode cX6_areSame 34 = .ok (.iconst 1, 1) := by decide +kernel
theorem dX6_areSame_35 : decode cX6_areSame 35 = .ok (.goto 4, 3) := by decide +kernel
theorem dX6_areSame_38 : decode cX6_areSame 38 = .ok (.iconst 0, 1) := by decide +kernel
theorem dX6_areSame_39 : decode cX6_areSame 39 = .ok (.istore 4, 2) := by decide +kernel
theorem dX6_areSame_41 : decode cX6_areSame 41 = .ok (.iload 4, 2) := by decide +kernel
theorem dX6_areSame_43 : decode cX6_areSame 43 = .ok (.ifCond .eq 13, 3) := by decide +kernel
theorem dX6_areSame_46 : decode cX6_areSame 46 = .ok (.aload_n 0, 1) := by decide +kernel
theorem dX6_areSame_47 : decode cX6_areSame 47 = .ok (.iload_n 1, 1) := by decide +kernel
theorem dX6_areSame_48 : decode cX6_areSame 48 = .ok (.iload_n 2, 1) := by decide +kernel
theorem dX6_areSame_49 : decode cX6_areSame 49 = .ok (.iconst 0, 1) := by decide +kernel
theorem dX6_areSame_50 : decode cX6_areSame 50 = .ok (.invokevirtual 98, 3) := by decide +kernel
theorem dX6_areSame_53 : decode cX6_areSame 53 = .ok (.goto 28, 3) := by decide +kernel
theorem dX6_areSame_56 : decode cX6_areSame 56 = .ok (.aload_n 0, 1) := by decide +kernel
theorem dX6_areSame_57 : decode cX6_areSame 57 = .ok (.iload_n 1, 1) := by decide +kernel
theorem dX6_areSame_58 : decode cX6_areSame 58 = .ok (.iload_n 2, 1) := by decide +kernel
theorem dX6_areSame_59 : decode cX6_areSame 59 = .ok (.iconst 1, 1) := by decide +kernel
theorem dX6_areSame_60 : decode cX6_areSame 60 = .ok (.invokevirtual 98, 3) := by decide +kernel
theorem dX6_areSame_63 : decode cX6_areSame 63 = .ok (.ifCond .eq 17, 3) := by decide +kernel
theorem dX6_areSame_66 : decode cX6_areSame 66 = .ok (.aload_n 0, 1) := by decide +kernel
theorem dX6_areSame_67 : decode cX6_areSame 67 = .ok (.iload_n 1, 1) := by decide +kernel
theorem dX6_areSame_68 : decode cX6_areSame 68 = .ok (.iload_n 2, 1) := by decide +kernel
theorem dX6_areSame_69 : decode cX6_areSame 69 = .ok (.iconst 2, 1) := by decide +kernel
theorem dX6_areSame_70 : decode cX6_areSame 70 = .ok (.invokevirtual 98, 3) := by decide +kernel
theorem dX6_areSame_73 : decode cX6_areSame 73 = .ok (.ifCond .eq 7, 3) := by decide +kernel
theorem dX6_areSame_76 : decode cX6_areSame 76 = .ok (.iconst 1, 1) := by decide +kernel
theorem dX6_areSame_77 : decode cX6_areSame 77 = .ok (.goto 4, 3) := by decide +kernel
theorem dX6_areSame_80 : decode cX6_areSame 80 = .ok (.iconst 0, 1) := by decide +kernel
theorem dX6_areSame_81 : decode cX6_areSame 81 = .ok (.istore 5, 2) := by decide +kernel
theorem dX6_areSame_83 : decode cX6_areSame 83 = .ok (.iload_n 3, 1) := by decide +kernel
theorem dX6_areSame_84 : decode cX6_areSame 84 = .ok (.iconst 1, 1) := by decide +kernel
theorem dX6_areSame_85 : decode cX6_areSame 85 = .ok (.if_icmp .eq 12, 3) := by decide +kernel
theorem dX6_areSame_88 : decode cX6_areSame 88 = .ok (.iload_n 3, 1) := by decide +kernel
theorem dX6_areSame_89 : decode cX6_areSame 89 = .ok (.ifCond .ne 12, 3) := by decide +kernel
theorem dX6_areSame_92 : decode cX6_areSame 92 = .ok (.iload 5, 2) := by decide +kernel
theorem dX6_areSame_94 : decode cX6_areSame 94 = .ok (.ifCond .eq 7, 3) := by decide +kernel
theorem dX6_areSame_97 : decode cX6_areSame 97 = .ok (.iconst 1, 1) := by decide +kernel
theorem dX6_areSame_98 : decode cX6_areSame 98 = .ok (.goto 4, 3) := by decide +kernel
theorem dX6_areSame_101 : decode cX6_areSame 101 = .ok (.iconst 0, 1) := by decide +kernel
theorem dX6_areSame_102 : decode cX6_areSame 102 = .ok (.ireturn, 1) := by decide +kernel
set_option maxRecDepth 20000 in
theorem ggX6_lay_X6_countsOn : GoodIn wsX6_lay wsX6_countsOn := goodIn_r _ [7, 8, 9, 10, 11, 26, 27, 28, 29, 30, 31, 32, 33, 34, 35, 36, 37, 38, 39, 40, 41, 42, 43, 44, 45, 46, 47, 48] (by decide +kernel) (by decide +kernel)
set_option maxRecDepth 20000 in
theorem gX6_lay_X6_countsOn : GoodIn wsX6_lay (wsV RX6 94 RX6 yX6_countsOn wsX6_countsOn) := goodIn_app (goodIn_of _ (by decide +kernel)) ggX6_lay_X6_countsOn
set_option maxRecDepth 20000 in
theorem ggX6_lay_X6_areSame : GoodIn wsX6_lay wsX6_areSame := goodIn_r _ [15, 16, 17, 18, 19, 20, 6, 21, 26, 27, 28, 29, 30, 31, 32, 33, 34, 35, 36, 37, 38, 39, 40, 41, 42, 43, 44, 45, 46, 47, 48] (by decide +kernel) (by decide +kernel)
set_option maxRecDepth 20000 in
theorem gX6_lay_X6_areSame : GoodIn wsX6_lay (wsV RX6 101 RX6 yX6_areSame wsX6_areSame) := goodIn_app (goodIn_of _ (by decide +kernel)) ggX6_lay_X6_areSame
set_option maxRecDepth 20000 in
theorem ggX6_lay_X6_join : GoodIn wsX6_lay wsX6_join := goodIn_r _ [25, 1, 2, 26, 27, 28, 29, 30, 31, 32, 33, 34, 35, 36, 37, 38, 39, 40, 41, 42, 43, 44, 45, 46, 47, 48] (by decide +kernel) (by decide +kernel)
set_option maxRecDepth 20000 in
theorem gX6_lay_X6_join : GoodIn wsX6_lay (wsV RX6 104 RX6 yX6_join wsX6_join) := goodIn_app (goodIn_of _ (by decide +kernel)) ggX6_lay_X6_join
theorem dX6_lay_0 : decode cX6_lay 0 = .ok (.iconst 0, 1) := by decide +kernel
theorem dX6_lay_1 : decode cX6_lay 1 = .ok (.istore_n 2, 1) := by decide +kernel
theorem dX6_lay_2 : decode cX6_lay 2 = .ok (.iload_n 2, 1) := by decide +kernel
theorem dX6_lay_3 : decode cX6_lay 3 = .ok (.aload_n 0, 1) := by decide +kernel
theorem dX6_lay_4 : decode cX6_lay 4 = .ok (.getfield 70, 3) := by decide +kernel
theorem dX6_lay_7 : decode cX6_lay 7 = .ok (.if_icmp .ge 29, 3) := by decide +kernel
theorem dX6_lay_10 : decode cX6_lay 10 = .ok (.aload_n 0, 1) := by decide +kernel
theorem dX6_lay_11 : decode cX6_lay 11 = .ok (.getfield 57, 3) := by decide +kernel
theorem dX6_lay_14 : decode cX6_lay 14 = .ok (.iload_n 2, 1) := by decide +kernel
theorem dX6_lay_15 : decode cX6_lay 15 = .ok (.aload_n 0, 1) := by decide +kernel
theorem dX6_lay_16 : decode cX6_lay 16 = .ok (.iload_n 2, 1) := by decide +kernel
theorem dX6_lay_17 : decode cX6_lay 17 = .ok (.iload_n 1, 1) := by decide +kernel
theorem dX6_lay_18 : decode cX6_lay 18 = .ok (.invokevirtual 94, 3) := by decide +kernel
theorem dX6_lay_21 : decode cX6_lay 21 = .ok (.ifCond .eq 7, 3) := by decide +kernel
theorem dX6_lay_24 : decode cX6_lay 24 = .ok (.iload_n 2, 1) := by decide +kernel
theorem dX6_lay_25 : decode cX6_lay 25 = .ok (.goto 4, 3) := by decide +kernel
theorem dX6_lay_28 : decode cX6_lay 28 = .ok (.iconst (-1), 1) := by decide +kernel
theorem dX6_lay_29 : decode cX6_lay 29 = .ok (.iastore, 1) := by decide +kernel
theorem dX6_lay_30 : decode cX6_lay 30 = .ok (.iinc 2 1, 3) := by decide +kernel
theorem dX6_lay_33 : decode cX6_lay 33 = .ok (.goto (-31), 3) := by decide +kernel
theorem dX6_lay_36 : decode cX6_lay 36 = .ok (.iconst 0, 1) := by decide +kernel
theorem dX6_lay_37 : decode cX6_lay 37 = .ok (.istore_n 2, 1) := by decide +kernel
theorem dX6_lay_38 : decode cX6_lay 38 = .ok (.iload_n 2, 1) := by decide +kernel
theorem dX6_lay_39 : decode cX6_lay 39 = .ok (.aload_n 0, 1) := by decide +kernel
theorem dX6_lay_40 : decode cX6_lay 40 = .ok (.getfield 70, 3) := by decide +kernel
theorem dX6_lay_43 : decode cX6_lay 43 = .ok (.if_icmp .ge 92, 3) := by decide +kernel
theorem dX6_lay_46 : decode cX6_lay 46 = .ok (.iconst 0, 1) := by decide +kernel
theorem dX6_lay_47 : decode cX6_lay 47 = .ok (.istore_n 3, 1) := by decide +kernel
theorem dX6_lay_48 : decode cX6_lay 48 = .ok (.iload_n 3, 1) := by decide +kernel
theorem dX6_lay_49 : decode cX6_lay 49 = .ok (.iload_n 2, 1) := by decide +kernel
theorem dX6_lay_50 : decode cX6_lay 50 = .ok (.if_icmp .ge 79, 3) := by decide +kernel
theorem dX6_lay_53 : decode cX6_lay 53 = .ok (.aload_n 0, 1) := by decide +kernel
theorem dX6_lay_54 : decode cX6_lay 54 = .ok (.getfield 57, 3) := by decide +kernel
theorem dX6_lay_57 : decode cX6_lay 57 = .ok (.iload_n 2, 1) := by decide +kernel
theorem dX6_lay_58 : decode cX6_lay 58 = .ok (.iaload, 1) := by decide +kernel
theorem dX6_lay_59 : decode cX6_lay 59 = .ok (.ifCond .lt 31, 3) := by decide +kernel
theorem dX6_lay_62 : decode cX6_lay 62 = .ok (.aload_n 0, 1) := by decide +kernel
theorem dX6_lay_63 : decode cX6_lay 63 = .ok (.getfield 57, 3) := by decide +kernel
theorem dX6_lay_66 : decode cX6_lay 66 = .ok (.iload_n 3, 1) := by decide +kernel
theorem dX6_lay_67 : decode cX6_lay 67 = .ok (.iaload, 1) := by decide +kernel
theorem dX6_lay_68 : decode cX6_lay 68 = .ok (.ifCond .lt 22, 3) := by decide +kernel
theorem dX6_lay_71 : decode cX6_lay 71 = .ok (.aload_n 0, 1) := by decide +kernel
theorem dX6_lay_72 : decode cX6_lay 72 = .ok (.getfield 57, 3) := by decide +kernel
theorem dX6_lay_75 : decode cX6_lay 75 = .ok (.iload_n 2, 1) := by decide +kernel
theorem dX6_lay_76 : decode cX6_lay 76 = .ok (.iaload, 1) := by decide +kernel
theorem dX6_lay_77 : decode cX6_lay 77 = .ok (.aload_n 0, 1) := by decide +kernel
theorem dX6_lay_78 : decode cX6_lay 78 = .ok (.getfield 57, 3) := by decide +kernel
theorem dX6_lay_81 : decode cX6_lay 81 = .ok (.iload_n 3, 1) := by decide +kernel
theorem dX6_lay_82 : decode cX6_lay 82 = .ok (.iaload, 1) := by decide +kernel
theorem dX6_lay_83 : decode cX6_lay 83 = .ok (.if_icmp .eq 7, 3) := by decide +kernel
theorem dX6_lay_86 : decode cX6_lay 86 = .ok (.iconst 1, 1) := by decide +kernel
theorem dX6_lay_87 : decode cX6_lay 87 = .ok (.goto 4, 3) := by decide +kernel
theorem dX6_lay_90 : decode cX6_lay 90 = .ok (.iconst 0, 1) := by decide +kernel
theorem dX6_lay_91 : decode cX6_lay 91 = .ok (.istore 4, 2) := by decide +kernel
theorem dX6_lay_93 : decode cX6_lay 93 = .ok (.iload 4, 2) := by decide +kernel
theorem dX6_lay_95 : decode cX6_lay 95 = .ok (.ifCond .eq 28, 3) := by decide +kernel
theorem dX6_lay_98 : decode cX6_lay 98 = .ok (.aload_n 0, 1) := by decide +kernel
theorem dX6_lay_99 : decode cX6_lay 99 = .ok (.iload_n 2, 1) := by decide +kernel
theorem dX6_lay_100 : decode cX6_lay 100 = .ok (.iload_n 3, 1) := by decide +kernel
theorem dX6_lay_101 : decode cX6_lay 101 = .ok (.invokevirtual 101, 3) := by decide +kernel
theorem dX6_lay_104 : decode cX6_lay 104 = .ok (.ifCond .eq 19, 3) := by decide +kernel
theorem dX6_lay_107 : decode cX6_lay 107 = .ok (.aload_n 0, 1) := by decide +kernel
theorem dX6_lay_108 : decode cX6_lay 108 = .ok (.aload_n 0, 1) := by decide +kernel
theorem dX6_lay_109 : decode cX6_lay 109 = .ok (.getfield 57, 3) := by decide +kernel
theorem dX6_lay_112 : decode cX6_lay 112 = .ok (.iload_n 2, 1) := by decide +kernel
theorem dX6_lay_113 : decode cX6_lay 113 = .ok (.iaload, 1) := by decide +kernel
theorem dX6_lay_114 : decode cX6_lay 114 = .ok (.aload_n 0, 1) := by decide +kernel
theorem dX6_lay_115 : decode cX6_lay 115 = .ok (.getfield 57, 3) := by decide +kernel
theorem dX6_lay_118 : decode cX6_lay 118 = .ok (.iload_n 3, 1) := by decide +kernel
theorem dX6_lay_119 : decode cX6_lay 119 = .ok (.iaload, 1) := by decide +kernel
theorem dX6_lay_120 : decode cX6_lay 120 = .ok (.invokevirtual 104, 3) := by decide +kernel
theorem dX6_lay_123 : decode cX6_lay 123 = .ok (.iinc 3 1, 3) := by decide +kernel
theorem dX6_lay_126 : decode cX6_lay 126 = .ok (.goto (-78), 3) := by decide +kernel
theorem dX6_lay_129 : decode cX6_lay 129 = .ok (.iinc 2 1, 3) := by decide +kernel
theorem dX6_lay_132 : decode cX6_lay 132 = .ok (.goto (-94), 3) := by decide +kernel
theorem dX6_lay_135 : decode cX6_lay 135 = .ok (.return_, 1) := by decide +kernel
theorem dX6_join_0 : decode cX6_join 0 = .ok (.iload_n 1, 1) := by decide +kernel
theorem dX6_join_1 : decode cX6_join 1 = .ok (.iload_n 2, 1) := by decide +kernel
theorem dX6_join_2 : decode cX6_join 2 = .ok (.if_icmp .ge 7, 3) := by decide +kernel
theorem dX6_join_5 : decode cX6_join 5 = .ok (.iload_n 1, 1) := by decide +kernel
theorem dX6_join_6 : decode cX6_join 6 = .ok (.goto 4, 3) := by decide +kernel
theorem dX6_join_9 : decode cX6_join 9 = .ok (.iload_n 2, 1) := by decide +kernel
theorem dX6_join_10 : decode cX6_join 10 = .ok (.istore_n 3, 1) := by decide +kernel
theorem dX6_join_11 : decode cX6_join 11 = .ok (.iload_n 1, 1) := by decide +kernel
theorem dX6_join_12 : decode cX6_join 12 = .ok (.iload_n 2, 1) := by decide +kernel
theorem dX6_join_13 : decode cX6_join 13 = .ok (.if_icmp .ge 7, 3) := by decide +kernel
theorem dX6_join_16 : decode cX6_join 16 = .ok (.iload_n 2, 1) := by decide +kernel
theorem dX6_join_17 : decode cX6_join 17 = .ok (.goto 4, 3) := by decide +kernel
theorem dX6_join_20 : decode cX6_join 20 = .ok (.iload_n 1, 1) := by decide +kernel
theorem dX6_join_21 : decode cX6_join 21 = .ok (.istore 4, 2) := by decide +kernel
theorem dX6_join_23 : decode cX6_join 23 = .ok (.iconst 0, 1) := by decide +kernel
theorem dX6_join_24 : decode cX6_join 24 = .ok (.istore 5, 2) := by decide +kernel
theorem dX6_join_26 : decode cX6_join 26 = .ok (.iload 5, 2) := by decide +kernel
theorem dX6_join_28 : decode cX6_join 28 = .ok (.aload_n 0, 1) := by decide +kernel
theorem dX6_join_29 : decode cX6_join 29 = .ok (.getfield 70, 3) := by decide +kernel
theorem dX6_join_32 : decode cX6_join 32 = .ok (.if_icmp .ge 39, 3) := by decide +kernel
theorem dX6_join_35 : decode cX6_join 35 = .ok (.aload_n 0, 1) := by decide +kernel
theorem dX6_join_36 : decode cX6_join 36 = .ok (.getfield 57, 3) := by decide +kernel
theorem dX6_join_39 : decode cX6_join 39 = .ok (.iload 5, 2) := by decide +kernel
theorem dX6_join_41 : decode cX6_join 41 = .ok (.aload_n 0, 1) := by decide +kernel
theorem dX6_join_42 : decode cX6_join 42 = .ok (.getfield 57, 3) := by decide +kernel
theorem dX6_join_45 : decode cX6_join 45 = .ok (.iload 5, 2) := by decide +kernel
theorem dX6_join_47 : decode cX6_join 47 = .ok (.iaload, 1) := by decide +kernel
theorem dX6_join_48 : decode cX6_join 48 = .ok (.iload 4, 2) := by decide +kernel
theorem dX6_join_50 : decode cX6_join 50 = .ok (.if_icmp .ne 7, 3) := by decide +kernel
theorem dX6_join_53 : decode cX6_join 53 = .ok (.iload_n 3, 1) := by decide +kernel
theorem dX6_join_54 : decode cX6_join 54 = .ok (.goto 10, 3) := by decide +kernel
theorem dX6_join_57 : decode cX6_join 57 = .ok (.aload_n 0, 1) := by decide +kernel
theorem dX6_join_58 : decode cX6_join 58 = .ok (.getfield 57, 3) := by decide +kernel
theorem dX6_join_61 : decode cX6_join 61 = .ok (.iload 5, 2) := by decide +kernel
theorem dX6_join_63 : decode cX6_join 63 = .ok (.iaload, 1) := by decide +kernel
theorem dX6_join_64 : decode cX6_join 64 = .ok (.iastore, 1) := by decide +kernel
theorem dX6_join_65 : decode cX6_join 65 = .ok (.iinc 5 1, 3) := by decide +kernel
end
section
theorem dX6_join_68 : decode cX6_join 68 = .ok (.goto (-42), 3) := by decide +kernel
theorem dX6_join_71 : decode cX6_join 71 = .ok (.return_, 1) := by decide +kernel
theorem dX6_countThings_0 : decode cX6_countThings 0 = .ok (.iconst 0, 1) := by decide +kernel
theorem dX6_countThings_1 : decode cX6_countThings 1 = .ok (.istore_n 1, 1) := by decide +kernel
theorem dX6_countThings_2 : decode cX6_countThings 2 = .ok (.iconst 0, 1) := by decide +kernel
theorem dX6_countThings_3 : decode cX6_countThings 3 = .ok (.istore_n 2, 1) := by decide +kernel
theorem dX6_countThings_4 : decode cX6_countThings 4 = .ok (.iload_n 2, 1) := by decide +kernel
theorem dX6_countThings_5 : decode cX6_countThings 5 = .ok (.aload_n 0, 1) := by decide +kernel
theorem dX6_countThings_6 : decode cX6_countThings 6 = .ok (.getfield 70, 3) := by decide +kernel
theorem dX6_countThings_9 : decode cX6_countThings 9 = .ok (.if_icmp .ge 27, 3) := by decide +kernel
theorem dX6_countThings_12 : decode cX6_countThings 12 = .ok (.iload_n 1, 1) := by decide +kernel
theorem dX6_countThings_13 : decode cX6_countThings 13 = .ok (.aload_n 0, 1) := by decide +kernel
theorem dX6_countThings_14 : decode cX6_countThings 14 = .ok (.getfield 57, 3) := by decide +kernel
theorem dX6_countThings_17 : decode cX6_countThings 17 = .ok (.iload_n 2, 1) := by decide +kernel
theorem dX6_countThings_18 : decode cX6_countThings 18 = .ok (.iaload, 1) := by decide +kernel
theorem dX6_countThings_19 : decode cX6_countThings 19 = .ok (.iload_n 2, 1) := by decide +kernel
theorem dX6_countThings_20 : decode cX6_countThings 20 = .ok (.if_icmp .ne 7, 3) := by decide +kernel
theorem dX6_countThings_23 : decode cX6_countThings 23 = .ok (.iconst 1, 1) := by decide +kernel
theorem dX6_countThings_24 : decode cX6_countThings 24 = .ok (.goto 4, 3) := by decide +kernel
theorem dX6_countThings_27 : decode cX6_countThings 27 = .ok (.iconst 0, 1) := by decide +kernel
theorem dX6_countThings_28 : decode cX6_countThings 28 = .ok (.iadd, 1) := by decide +kernel
theorem dX6_countThings_29 : decode cX6_countThings 29 = .ok (.istore_n 1, 1) := by decide +kernel
theorem dX6_countThings_30 : decode cX6_countThings 30 = .ok (.iinc 2 1, 3) := by decide +kernel
theorem dX6_countThings_33 : decode cX6_countThings 33 = .ok (.goto (-29), 3) := by decide +kernel
theorem dX6_countThings_36 : decode cX6_countThings 36 = .ok (.iload_n 1, 1) := by decide +kernel
theorem dX6_countThings_37 : decode cX6_countThings 37 = .ok (.ireturn, 1) := by decide +kernel
set_option maxRecDepth 20000 in
theorem ggX6_things_X6_isDay : GoodIn wsX6_things wsX6_isDay := goodIn_r _ [4, 5, 6, 3, 7] (by decide +kernel) (by decide +kernel)
set_option maxRecDepth 20000 in
theorem gX6_things_X6_isDay : GoodIn wsX6_things (va_wsS RX6 91 yX6_isDay wsX6_isDay) := goodIn_app (goodIn_of _ (by decide +kernel)) ggX6_things_X6_isDay
set_option maxRecDepth 20000 in
theorem ggX6_things_X6_refused : GoodIn wsX6_things wsX6_refused := goodIn_r _ [11, 12, 45, 46, 47, 48, 49, 50, 51, 52, 53, 54, 55, 56, 57, 58, 59, 60, 61, 62, 63, 64, 65, 66, 67] (by decide +kernel) (by decide +kernel)
set_option maxRecDepth 20000 in
theorem gX6_things_X6_refused : GoodIn wsX6_things (wsV RX6 80 RX6 yX6_refused wsX6_refused) := goodIn_app (goodIn_of _ (by decide +kernel)) ggX6_things_X6_refused
set_option maxRecDepth 20000 in
theorem ggX6_things_X6_lay : GoodIn wsX6_things wsX6_lay := goodIn_r _ [16, 17, 18, 19, 20, 21, 3, 22, 23, 24, 25, 26, 27, 28, 29, 30, 31, 32, 33, 34, 35, 36, 37, 38, 39, 40, 45, 46, 47, 48, 49, 50, 51, 52, 53, 54, 55, 56, 57, 58, 59, 60, 61, 62, 63, 64, 65, 66, 67] (by decide +kernel) (by decide +kernel)
set_option maxRecDepth 20000 in
theorem gX6_things_X6_lay : GoodIn wsX6_things (wsV RX6 108 RX6 yX6_lay wsX6_lay) := goodIn_app (goodIn_of _ (by decide +kernel)) ggX6_things_X6_lay
set_option maxRecDepth 20000 in
theorem ggX6_things_X6_countThings : GoodIn wsX6_things wsX6_countThings := goodIn_r _ [44, 17, 18, 45, 46, 47, 48, 49, 50, 51, 52, 53, 54, 55, 56, 57, 58, 59, 60, 61, 62, 63, 64, 65, 66, 67] (by decide +kernel) (by decide +kernel)
set_option maxRecDepth 20000 in
theorem gX6_things_X6_countThings : GoodIn wsX6_things (wsV RX6 112 RX6 yX6_countThings wsX6_countThings) := goodIn_app (goodIn_of _ (by decide +kernel)) ggX6_things_X6_countThings
theorem dX6_things_0 : decode cX6_things 0 = .ok (.aload_n 0, 1) := by decide +kernel
theorem dX6_things_1 : decode cX6_things 1 = .ok (.iload_n 1, 1) := by decide +kernel
theorem dX6_things_2 : decode cX6_things 2 = .ok (.invokestatic 91, 3) := by decide +kernel
theorem dX6_things_5 : decode cX6_things 5 = .ok (.ifCond .eq 7, 3) := by decide +kernel
theorem dX6_things_8 : decode cX6_things 8 = .ok (.iconst 0, 1) := by decide +kernel
theorem dX6_things_9 : decode cX6_things 9 = .ok (.goto 4, 3) := by decide +kernel
theorem dX6_things_12 : decode cX6_things 12 = .ok (.iconst 1, 1) := by decide +kernel
theorem dX6_things_13 : decode cX6_things 13 = .ok (.invokevirtual 80, 3) := by decide +kernel
theorem dX6_things_16 : decode cX6_things 16 = .ok (.ifCond .eq 5, 3) := by decide +kernel
theorem dX6_things_19 : decode cX6_things 19 = .ok (.iconst 0, 1) := by decide +kernel
theorem dX6_things_20 : decode cX6_things 20 = .ok (.ireturn, 1) := by decide +kernel
theorem dX6_things_21 : decode cX6_things 21 = .ok (.aload_n 0, 1) := by decide +kernel
theorem dX6_things_22 : decode cX6_things 22 = .ok (.iload_n 1, 1) := by decide +kernel
theorem dX6_things_23 : decode cX6_things 23 = .ok (.invokevirtual 108, 3) := by decide +kernel
theorem dX6_things_26 : decode cX6_things 26 = .ok (.aload_n 0, 1) := by decide +kernel
theorem dX6_things_27 : decode cX6_things 27 = .ok (.invokevirtual 112, 3) := by decide +kernel
theorem dX6_things_30 : decode cX6_things 30 = .ok (.ireturn, 1) := by decide +kernel
set_option maxRecDepth 20000 in
theorem ggX6_looked_X6_isFind : GoodIn wsX6_looked wsX6_isFind := goodIn_r _ [6, 7, 8, 9, 5, 10, 40, 41, 42, 43, 44, 45, 46, 47, 48, 49, 50, 51, 52, 53, 54, 55, 56, 57, 58, 59, 60, 61, 62] (by decide +kernel) (by decide +kernel)
set_option maxRecDepth 20000 in
theorem gX6_looked_X6_isFind : GoodIn wsX6_looked (wsV RX6 88 RX6 yX6_isFind wsX6_isFind) := goodIn_app (goodIn_of _ (by decide +kernel)) ggX6_looked_X6_isFind
set_option maxRecDepth 20000 in
theorem ggX6_looked_X6_isDay : GoodIn wsX6_looked wsX6_isDay := goodIn_r _ [13, 8, 9, 5, 10] (by decide +kernel) (by decide +kernel)
set_option maxRecDepth 20000 in
theorem gX6_looked_X6_isDay : GoodIn wsX6_looked (va_wsS RX6 91 yX6_isDay wsX6_isDay) := goodIn_app (goodIn_of _ (by decide +kernel)) ggX6_looked_X6_isDay
set_option maxRecDepth 20000 in
theorem ggX6_looked_X6_lay : GoodIn wsX6_looked wsX6_lay := goodIn_r _ [17, 7, 1, 18, 19, 20, 5, 21, 22, 23, 24, 25, 26, 27, 28, 29, 30, 31, 32, 33, 34, 35, 36, 37, 38, 39, 40, 41, 42, 43, 44, 45, 46, 47, 48, 49, 50, 51, 52, 53, 54, 55, 56, 57, 58, 59, 60, 61, 62] (by decide +kernel) (by decide +kernel)
set_option maxRecDepth 20000 in
theorem gX6_looked_X6_lay : GoodIn wsX6_looked (wsV RX6 108 RX6 yX6_lay wsX6_lay) := goodIn_app (goodIn_of _ (by decide +kernel)) ggX6_looked_X6_lay
theorem dX6_looked_0 : decode cX6_looked 0 = .ok (.aload_n 0, 1) := by decide +kernel
theorem dX6_looked_1 : decode cX6_looked 1 = .ok (.iload_n 1, 1) := by decide +kernel
theorem dX6_looked_2 : decode cX6_looked 2 = .ok (.invokevirtual 88, 3) := by decide +kernel
theorem dX6_looked_5 : decode cX6_looked 5 = .ok (.ifCond .eq 14, 3) := by decide +kernel
theorem dX6_looked_8 : decode cX6_looked 8 = .ok (.iload_n 3, 1) := by decide +kernel
theorem dX6_looked_9 : decode cX6_looked 9 = .ok (.ifCond .eq 10, 3) := by decide +kernel
theorem dX6_looked_12 : decode cX6_looked 12 = .ok (.iload_n 2, 1) := by decide +kernel
theorem dX6_looked_13 : decode cX6_looked 13 = .ok (.invokestatic 91, 3) := by decide +kernel
theorem dX6_looked_16 : decode cX6_looked 16 = .ok (.ifCond .ne 17, 3) := by decide +kernel
theorem dX6_looked_19 : decode cX6_looked 19 = .ok (.aload_n 0, 1) := by decide +kernel
theorem dX6_looked_20 : decode cX6_looked 20 = .ok (.iload_n 1, 1) := by decide +kernel
theorem dX6_looked_21 : decode cX6_looked 21 = .ok (.invokevirtual 88, 3) := by decide +kernel
theorem dX6_looked_24 : decode cX6_looked 24 = .ok (.ifCond .eq 7, 3) := by decide +kernel
theorem dX6_looked_27 : decode cX6_looked 27 = .ok (.iconst 2, 1) := by decide +kernel
theorem dX6_looked_28 : decode cX6_looked 28 = .ok (.goto 4, 3) := by decide +kernel
theorem dX6_looked_31 : decode cX6_looked 31 = .ok (.iconst 1, 1) := by decide +kernel
theorem dX6_looked_32 : decode cX6_looked 32 = .ok (.ireturn, 1) := by decide +kernel
theorem dX6_looked_33 : decode cX6_looked 33 = .ok (.aload_n 0, 1) := by decide +kernel
theorem dX6_looked_34 : decode cX6_looked 34 = .ok (.iload_n 2, 1) := by decide +kernel
theorem dX6_looked_35 : decode cX6_looked 35 = .ok (.invokevirtual 108, 3) := by decide +kernel
theorem dX6_looked_38 : decode cX6_looked 38 = .ok (.aload_n 0, 1) := by decide +kernel
theorem dX6_looked_39 : decode cX6_looked 39 = .ok (.getfield 57, 3) := by decide +kernel
theorem dX6_looked_42 : decode cX6_looked 42 = .ok (.iload_n 1, 1) := by decide +kernel
theorem dX6_looked_43 : decode cX6_looked 43 = .ok (.iaload, 1) := by decide +kernel
theorem dX6_looked_44 : decode cX6_looked 44 = .ok (.ifCond .ge 7, 3) := by decide +kernel
theorem dX6_looked_47 : decode cX6_looked 47 = .ok (.iconst 3, 1) := by decide +kernel
theorem dX6_looked_48 : decode cX6_looked 48 = .ok (.goto 4, 3) := by decide +kernel
theorem dX6_looked_51 : decode cX6_looked 51 = .ok (.iconst 0, 1) := by decide +kernel
theorem dX6_looked_52 : decode cX6_looked 52 = .ok (.ireturn, 1) := by decide +kernel
set_option maxRecDepth 20000 in
theorem ggX6_thingOf_X6_looked : GoodIn wsX6_thingOf wsX6_looked := goodIn_r _ [6, 1, 7, 8, 9, 5, 10, 11, 12, 13, 14, 15, 16, 17, 18, 19, 20, 21, 22, 23, 24, 25, 26, 27, 28, 29, 30, 31, 32, 33, 34, 35, 36, 37, 38, 39, 40, 41, 42, 43, 49, 50, 51, 52, 53, 54, 55, 56, 57, 58, 59, 60, 61, 62, 63, 64, 65, 66, 67, 68, 69, 70, 71] (by decide +kernel) (by decide +kernel)
set_option maxRecDepth 20000 in
theorem gX6_thingOf_X6_looked : GoodIn wsX6_thingOf (wsV RX6 116 RX6 yX6_looked wsX6_looked) := goodIn_app (goodIn_of _ (by decide +kernel)) ggX6_thingOf_X6_looked
set_option maxRecDepth 20000 in
theorem ggX6_thingOf_X6_refused : GoodIn wsX6_thingOf wsX6_refused := goodIn_r _ [47, 48, 49, 50, 51, 52, 53, 54, 55, 56, 57, 58, 59, 60, 61, 62, 63, 64, 65, 66, 67, 68, 69, 70, 71] (by decide +kernel) (by decide +kernel)
set_option maxRecDepth 20000 in
theorem gX6_thingOf_X6_refused : GoodIn wsX6_thingOf (wsV RX6 80 RX6 yX6_refused wsX6_refused) := goodIn_app (goodIn_of _ (by decide +kernel)) ggX6_thingOf_X6_refused
theorem dX6_thingOf_0 : decode cX6_thingOf 0 = .ok (.aload_n 0, 1) := by decide +kernel
theorem dX6_thingOf_1 : decode cX6_thingOf 1 = .ok (.aload_n 0, 1) := by decide +kernel
theorem dX6_thingOf_2 : decode cX6_thingOf 2 = .ok (.iload_n 1, 1) := by decide +kernel
theorem dX6_thingOf_3 : decode cX6_thingOf 3 = .ok (.iload_n 2, 1) := by decide +kernel
theorem dX6_thingOf_4 : decode cX6_thingOf 4 = .ok (.iconst 1, 1) := by decide +kernel
theorem dX6_thingOf_5 : decode cX6_thingOf 5 = .ok (.invokevirtual 116, 3) := by decide +kernel
theorem dX6_thingOf_8 : decode cX6_thingOf 8 = .ok (.invokevirtual 80, 3) := by decide +kernel
theorem dX6_thingOf_11 : decode cX6_thingOf 11 = .ok (.ifCond .eq 7, 3) := by decide +kernel
theorem dX6_thingOf_14 : decode cX6_thingOf 14 = .ok (.iconst 0, 1) := by decide +kernel
theorem dX6_thingOf_15 : decode cX6_thingOf 15 = .ok (.goto 9, 3) := by decide +kernel
theorem dX6_thingOf_18 : decode cX6_thingOf 18 = .ok (.aload_n 0, 1) := by decide +kernel
theorem dX6_thingOf_19 : decode cX6_thingOf 19 = .ok (.getfield 57, 3) := by decide +kernel
theorem dX6_thingOf_22 : decode cX6_thingOf 22 = .ok (.iload_n 1, 1) := by decide +kernel
theorem dX6_thingOf_23 : decode cX6_thingOf 23 = .ok (.iaload, 1) := by decide +kernel
theorem dX6_thingOf_24 : decode cX6_thingOf 24 = .ok (.ireturn, 1) := by decide +kernel
set_option maxRecDepth 20000 in
theorem ggX6_isAhead_X6_rankOf : GoodIn wsX6_isAhead wsX6_rankOf := goodIn_r _ [7, 8, 9, 10, 11, 12, 13, 14, 15, 16, 17, 18, 19, 20, 21, 22, 23, 24, 25, 26, 27, 28, 29, 30, 31] (by decide +kernel) (by decide +kernel)
set_option maxRecDepth 20000 in
theorem gX6_isAhead_X6_rankOf : GoodIn wsX6_isAhead (wsV RX6 84 RX6 yX6_rankOf wsX6_rankOf) := goodIn_app (goodIn_of _ (by decide +kernel)) ggX6_isAhead_X6_rankOf
theorem dX6_isAhead_0 : decode cX6_isAhead 0 = .ok (.aload_n 0, 1) := by decide +kernel
theorem dX6_isAhead_1 : decode cX6_isAhead 1 = .ok (.aload_n 0, 1) := by decide +kernel
theorem dX6_isAhead_2 : decode cX6_isAhead 2 = .ok (.getfield 16, 3) := by decide +kernel
theorem dX6_isAhead_5 : decode cX6_isAhead 5 = .ok (.iload_n 1, 1) := by decide +kernel
theorem dX6_isAhead_6 : decode cX6_isAhead 6 = .ok (.iaload, 1) := by decide +kernel
theorem dX6_isAhead_7 : decode cX6_isAhead 7 = .ok (.invokevirtual 84, 3) := by decide +kernel
theorem dX6_isAhead_10 : decode cX6_isAhead 10 = .ok (.istore_n 3, 1) := by decide +kernel
theorem dX6_isAhead_11 : decode cX6_isAhead 11 = .ok (.aload_n 0, 1) := by decide +kernel
theorem dX6_isAhead_12 : decode cX6_isAhead 12 = .ok (.aload_n 0, 1) := by decide +kernel
theorem dX6_isAhead_13 : decode cX6_isAhead 13 = .ok (.getfield 16, 3) := by decide +kernel
theorem dX6_isAhead_16 : decode cX6_isAhead 16 = .ok (.iload_n 2, 1) := by decide +kernel
theorem dX6_isAhead_17 : decode cX6_isAhead 17 = .ok (.iaload, 1) := by decide +kernel
theorem dX6_isAhead_18 : decode cX6_isAhead 18 = .ok (.invokevirtual 84, 3) := by decide +kernel
theorem dX6_isAhead_21 : decode cX6_isAhead 21 = .ok (.istore 4, 2) := by decide +kernel
theorem dX6_isAhead_23 : decode cX6_isAhead 23 = .ok (.iload_n 3, 1) := by decide +kernel
theorem dX6_isAhead_24 : decode cX6_isAhead 24 = .ok (.iload 4, 2) := by decide +kernel
theorem dX6_isAhead_26 : decode cX6_isAhead 26 = .ok (.if_icmp .lt 44, 3) := by decide +kernel
theorem dX6_isAhead_29 : decode cX6_isAhead 29 = .ok (.iload_n 3, 1) := by decide +kernel
theorem dX6_isAhead_30 : decode cX6_isAhead 30 = .ok (.iload 4, 2) := by decide +kernel
theorem dX6_isAhead_32 : decode cX6_isAhead 32 = .ok (.if_icmp .ne 42, 3) := by decide +kernel
theorem dX6_isAhead_35 : decode cX6_isAhead 35 = .ok (.aload_n 0, 1) := by decide +kernel
theorem dX6_isAhead_36 : decode cX6_isAhead 36 = .ok (.getfield 19, 3) := by decide +kernel
theorem dX6_isAhead_39 : decode cX6_isAhead 39 = .ok (.iload_n 1, 1) := by decide +kernel
theorem dX6_isAhead_40 : decode cX6_isAhead 40 = .ok (.iaload, 1) := by decide +kernel
theorem dX6_isAhead_41 : decode cX6_isAhead 41 = .ok (.aload_n 0, 1) := by decide +kernel
theorem dX6_isAhead_42 : decode cX6_isAhead 42 = .ok (.getfield 19, 3) := by decide +kernel
theorem dX6_isAhead_45 : decode cX6_isAhead 45 = .ok (.iload_n 2, 1) := by decide +kernel
theorem dX6_isAhead_46 : decode cX6_isAhead 46 = .ok (.iaload, 1) := by decide +kernel
theorem dX6_isAhead_47 : decode cX6_isAhead 47 = .ok (.if_icmp .gt 23, 3) := by decide +kernel
theorem dX6_isAhead_50 : decode cX6_isAhead 50 = .ok (.aload_n 0, 1) := by decide +kernel
theorem dX6_isAhead_51 : decode cX6_isAhead 51 = .ok (.getfield 19, 3) := by decide +kernel
theorem dX6_isAhead_54 : decode cX6_isAhead 54 = .ok (.iload_n 1, 1) := by decide +kernel
theorem dX6_isAhead_55 : decode cX6_isAhead 55 = .ok (.iaload, 1) := by decide +kernel
theorem dX6_isAhead_56 : decode cX6_isAhead 56 = .ok (.aload_n 0, 1) := by decide +kernel
theorem dX6_isAhead_57 : decode cX6_isAhead 57 = .ok (.getfield 19, 3) := by decide +kernel
theorem dX6_isAhead_60 : decode cX6_isAhead 60 = .ok (.iload_n 2, 1) := by decide +kernel
theorem dX6_isAhead_61 : decode cX6_isAhead 61 = .ok (.iaload, 1) := by decide +kernel
theorem dX6_isAhead_62 : decode cX6_isAhead 62 = .ok (.if_icmp .ne 12, 3) := by decide +kernel
theorem dX6_isAhead_65 : decode cX6_isAhead 65 = .ok (.iload_n 1, 1) := by decide +kernel
theorem dX6_isAhead_66 : decode cX6_isAhead 66 = .ok (.iload_n 2, 1) := by decide +kernel
theorem dX6_isAhead_67 : decode cX6_isAhead 67 = .ok (.if_icmp .le 7, 3) := by decide +kernel
theorem dX6_isAhead_70 : decode cX6_isAhead 70 = .ok (.iconst 1, 1) := by decide +kernel
theorem dX6_isAhead_71 : decode cX6_isAhead 71 = .ok (.goto 4, 3) := by decide +kernel
theorem dX6_isAhead_74 : decode cX6_isAhead 74 = .ok (.iconst 0, 1) := by decide +kernel
theorem dX6_isAhead_75 : decode cX6_isAhead 75 = .ok (.ireturn, 1) := by decide +kernel
set_option maxRecDepth 20000 in
theorem ggX6_valueOf_X6_isAhead : GoodIn wsX6_valueOf wsX6_isAhead := goodIn_r _ [8, 9, 10, 11, 12, 13, 7, 14, 15, 16, 17, 18, 19, 20, 21, 22, 23, 24, 25, 26, 27, 28, 29, 30, 31, 32, 33, 34, 35, 36, 37, 38] (by decide +kernel) (by decide +kernel)
set_option maxRecDepth 20000 in
theorem gX6_valueOf_X6_isAhead : GoodIn wsX6_valueOf (wsV RX6 120 RX6 yX6_isAhead wsX6_isAhead) := goodIn_app (goodIn_of _ (by decide +kernel)) ggX6_valueOf_X6_isAhead
theorem dX6_valueOf_0 : decode cX6_valueOf 0 = .ok (.iconst (-1), 1) := by decide +kernel
theorem dX6_valueOf_1 : decode cX6_valueOf 1 = .ok (.istore_n 3, 1) := by decide +kernel
theorem dX6_valueOf_2 : decode cX6_valueOf 2 = .ok (.iconst 0, 1) := by decide +kernel
theorem dX6_valueOf_3 : decode cX6_valueOf 3 = .ok (.istore 4, 2) := by decide +kernel
theorem dX6_valueOf_5 : decode cX6_valueOf 5 = .ok (.iload 4, 2) := by decide +kernel
theorem dX6_valueOf_7 : decode cX6_valueOf 7 = .ok (.aload_n 0, 1) := by decide +kernel
theorem dX6_valueOf_8 : decode cX6_valueOf 8 = .ok (.getfield 70, 3) := by decide +kernel
theorem dX6_valueOf_11 : decode cX6_valueOf 11 = .ok (.if_icmp .ge 67, 3) := by decide +kernel
theorem dX6_valueOf_14 : decode cX6_valueOf 14 = .ok (.aload_n 0, 1) := by decide +kernel
theorem dX6_valueOf_15 : decode cX6_valueOf 15 = .ok (.getfield 57, 3) := by decide +kernel
theorem dX6_valueOf_18 : decode cX6_valueOf 18 = .ok (.iload 4, 2) := by decide +kernel
theorem dX6_valueOf_20 : decode cX6_valueOf 20 = .ok (.iaload, 1) := by decide +kernel
theorem dX6_valueOf_21 : decode cX6_valueOf 21 = .ok (.iload_n 1, 1) := by decide +kernel
theorem dX6_valueOf_22 : decode cX6_valueOf 22 = .ok (.if_icmp .ne 21, 3) := by decide +kernel
theorem dX6_valueOf_25 : decode cX6_valueOf 25 = .ok (.aload_n 0, 1) := by decide +kernel
theorem dX6_valueOf_26 : decode cX6_valueOf 26 = .ok (.getfield 25, 3) := by decide +kernel
theorem dX6_valueOf_29 : decode cX6_valueOf 29 = .ok (.iconst 2, 1) := by decide +kernel
theorem dX6_valueOf_30 : decode cX6_valueOf 30 = .ok (.iload 4, 2) := by decide +kernel
theorem dX6_valueOf_32 : decode cX6_valueOf 32 = .ok (.imul, 1) := by decide +kernel
theorem dX6_valueOf_33 : decode cX6_valueOf 33 = .ok (.iload_n 2, 1) := by decide +kernel
theorem dX6_valueOf_34 : decode cX6_valueOf 34 = .ok (.iadd, 1) := by decide +kernel
theorem dX6_valueOf_35 : decode cX6_valueOf 35 = .ok (.iaload, 1) := by decide +kernel
theorem dX6_valueOf_36 : decode cX6_valueOf 36 = .ok (.ifCond .lt 7, 3) := by decide +kernel
theorem dX6_valueOf_39 : decode cX6_valueOf 39 = .ok (.iconst 1, 1) := by decide +kernel
theorem dX6_valueOf_40 : decode cX6_valueOf 40 = .ok (.goto 4, 3) := by decide +kernel
theorem dX6_valueOf_43 : decode cX6_valueOf 43 = .ok (.iconst 0, 1) := by decide +kernel
theorem dX6_valueOf_44 : decode cX6_valueOf 44 = .ok (.istore 5, 2) := by decide +kernel
theorem dX6_valueOf_46 : decode cX6_valueOf 46 = .ok (.iload 5, 2) := by decide +kernel
theorem dX6_valueOf_48 : decode cX6_valueOf 48 = .ok (.ifCond .eq 22, 3) := by decide +kernel
theorem dX6_valueOf_51 : decode cX6_valueOf 51 = .ok (.iload_n 3, 1) := by decide +kernel
theorem dX6_valueOf_52 : decode cX6_valueOf 52 = .ok (.ifCond .lt 13, 3) := by decide +kernel
theorem dX6_valueOf_55 : decode cX6_valueOf 55 = .ok (.aload_n 0, 1) := by decide +kernel
theorem dX6_valueOf_56 : decode cX6_valueOf 56 = .ok (.iload 4, 2) := by decide +kernel
theorem dX6_valueOf_58 : decode cX6_valueOf 58 = .ok (.iload_n 3, 1) := by decide +kernel
theorem dX6_valueOf_59 : decode cX6_valueOf 59 = .ok (.invokevirtual 120, 3) := by decide +kernel
theorem dX6_valueOf_62 : decode cX6_valueOf 62 = .ok (.ifCond .eq 8, 3) := by decide +kernel
theorem dX6_valueOf_65 : decode cX6_valueOf 65 = .ok (.iload 4, 2) := by decide +kernel
theorem dX6_valueOf_67 : decode cX6_valueOf 67 = .ok (.goto 4, 3) := by decide +kernel
theorem dX6_valueOf_70 : decode cX6_valueOf 70 = .ok (.iload_n 3, 1) := by decide +kernel
theorem dX6_valueOf_71 : decode cX6_valueOf 71 = .ok (.istore_n 3, 1) := by decide +kernel
theorem dX6_valueOf_72 : decode cX6_valueOf 72 = .ok (.iinc 4 1, 3) := by decide +kernel
theorem dX6_valueOf_75 : decode cX6_valueOf 75 = .ok (.goto (-70), 3) := by decide +kernel
theorem dX6_valueOf_78 : decode cX6_valueOf 78 = .ok (.iload_n 3, 1) := by decide +kernel
theorem dX6_valueOf_79 : decode cX6_valueOf 79 = .ok (.ifCond .ge 7, 3) := by decide +kernel
theorem dX6_valueOf_82 : decode cX6_valueOf 82 = .ok (.iconst (-1), 1) := by decide +kernel
theorem dX6_valueOf_83 : decode cX6_valueOf 83 = .ok (.goto 13, 3) := by decide +kernel
theorem dX6_valueOf_86 : decode cX6_valueOf 86 = .ok (.aload_n 0, 1) := by decide +kernel
theorem dX6_valueOf_87 : decode cX6_valueOf 87 = .ok (.getfield 25, 3) := by decide +kernel
theorem dX6_valueOf_90 : decode cX6_valueOf 90 = .ok (.iconst 2, 1) := by decide +kernel
theorem dX6_valueOf_91 : decode cX6_valueOf 91 = .ok (.iload_n 3, 1) := by decide +kernel
theorem dX6_valueOf_92 : decode cX6_valueOf 92 = .ok (.imul, 1) := by decide +kernel
theorem dX6_valueOf_93 : decode cX6_valueOf 93 = .ok (.iload_n 2, 1) := by decide +kernel
theorem dX6_valueOf_94 : decode cX6_valueOf 94 = .ok (.iadd, 1) := by decide +kernel
theorem dX6_valueOf_95 : decode cX6_valueOf 95 = .ok (.iaload, 1) := by decide +kernel
theorem dX6_valueOf_96 : decode cX6_valueOf 96 = .ok (.ireturn, 1) := by decide +kernel
set_option maxRecDepth 20000 in
theorem ggX6_value_X6_in : GoodIn wsX6_value wsX6_in := goodIn_r _ [5] (by decide +kernel) (by decide +kernel)
set_option maxRecDepth 20000 in
theorem gX6_value_X6_in : GoodIn wsX6_value (va_wsS RX6 73 yX6_in wsX6_in) := goodIn_app (goodIn_of _ (by decide +kernel)) ggX6_value_X6_in
set_option maxRecDepth 20000 in
theorem ggX6_value_X6_looked : GoodIn wsX6_value wsX6_looked := goodIn_r _ [9, 1, 10, 11, 12, 4, 13, 14, 2, 3, 5, 15, 16, 17, 18, 19, 20, 21, 22, 23, 24, 25, 26, 27, 28, 29, 30, 31, 32, 33, 34, 35, 36, 37, 38, 39, 40, 41, 42, 43, 63, 64, 65, 66, 67, 68, 69, 70, 71, 72, 73, 74, 75, 76, 77, 78, 79, 80, 81, 82, 83, 84, 85] (by decide +kernel) (by decide +kernel)
set_option maxRecDepth 20000 in
theorem gX6_value_X6_looked : GoodIn wsX6_value (wsV RX6 116 RX6 yX6_looked wsX6_looked) := goodIn_app (goodIn_of _ (by decide +kernel)) ggX6_value_X6_looked
set_option maxRecDepth 20000 in
theorem ggX6_value_X6_refused : GoodIn wsX6_value wsX6_refused := goodIn_r _ [47, 48, 63, 64, 65, 66, 67, 68, 69, 70, 71, 72, 73, 74, 75, 76, 77, 78, 79, 80, 81, 82, 83, 84, 85] (by decide +kernel) (by decide +kernel)
set_option maxRecDepth 20000 in
theorem gX6_value_X6_refused : GoodIn wsX6_value (wsV RX6 80 RX6 yX6_refused wsX6_refused) := goodIn_app (goodIn_of _ (by decide +kernel)) ggX6_value_X6_refused
set_option maxRecDepth 20000 in
theorem ggX6_value_X6_valueOf : GoodIn wsX6_value wsX6_valueOf := goodIn_r _ [52, 14, 1, 53, 54, 55, 56, 4, 57, 29, 27, 58, 59, 60, 61, 62, 63, 64, 65, 66, 67, 68, 69, 70, 71, 72, 73, 74, 75, 76, 77, 78, 79, 80, 81, 82, 83, 84, 85] (by decide +kernel) (by decide +kernel)
set_option maxRecDepth 20000 in
theorem gX6_value_X6_valueOf : GoodIn wsX6_value (wsV RX6 123 RX6 yX6_valueOf wsX6_valueOf) := goodIn_app (goodIn_of _ (by decide +kernel)) ggX6_value_X6_valueOf
theorem dX6_value_0 : decode cX6_value 0 = .ok (.aload_n 0, 1) := by decide +kernel
theorem dX6_value_1 : decode cX6_value 1 = .ok (.aload_n 0, 1) := by decide +kernel
theorem dX6_value_2 : decode cX6_value 2 = .ok (.iload_n 1, 1) := by decide +kernel
theorem dX6_value_3 : decode cX6_value 3 = .ok (.iload_n 3, 1) := by decide +kernel
theorem dX6_value_4 : decode cX6_value 4 = .ok (.iload_n 2, 1) := by decide +kernel
theorem dX6_value_5 : decode cX6_value 5 = .ok (.iconst 0, 1) := by decide +kernel
theorem dX6_value_6 : decode cX6_value 6 = .ok (.iconst 1, 1) := by decide +kernel
theorem dX6_value_7 : decode cX6_value 7 = .ok (.invokestatic 73, 3) := by decide +kernel
theorem dX6_value_10 : decode cX6_value 10 = .ok (.invokevirtual 116, 3) := by decide +kernel
theorem dX6_value_13 : decode cX6_value 13 = .ok (.invokevirtual 80, 3) := by decide +kernel
theorem dX6_value_16 : decode cX6_value 16 = .ok (.ifCond .eq 7, 3) := by decide +kernel
theorem dX6_value_19 : decode cX6_value 19 = .ok (.iconst 0, 1) := by decide +kernel
theorem dX6_value_20 : decode cX6_value 20 = .ok (.goto 14, 3) := by decide +kernel
theorem dX6_value_23 : decode cX6_value 23 = .ok (.aload_n 0, 1) := by decide +kernel
theorem dX6_value_24 : decode cX6_value 24 = .ok (.aload_n 0, 1) := by decide +kernel
theorem dX6_value_25 : decode cX6_value 25 = .ok (.getfield 57, 3) := by decide +kernel
theorem dX6_value_28 : decode cX6_value 28 = .ok (.iload_n 1, 1) := by decide +kernel
theorem dX6_value_29 : decode cX6_value 29 = .ok (.iaload, 1) := by decide +kernel
theorem dX6_value_30 : decode cX6_value 30 = .ok (.iload_n 2, 1) := by decide +kernel
theorem dX6_value_31 : decode cX6_value 31 = .ok (.invokevirtual 123, 3) := by decide +kernel
theorem dX6_value_34 : decode cX6_value 34 = .ok (.ireturn, 1) := by decide +kernel
set_option maxRecDepth 20000 in
theorem ggX6_disputed_X6_in : GoodIn wsX6_disputed wsX6_in := goodIn_r _ [7] (by decide +kernel) (by decide +kernel)
set_option maxRecDepth 20000 in
theorem gX6_disputed_X6_in : GoodIn wsX6_disputed (va_wsS RX6 73 yX6_in wsX6_in) := goodIn_app (goodIn_of _ (by decide +kernel)) ggX6_disputed_X6_in
set_option maxRecDepth 20000 in
theorem ggX6_disputed_X6_isDay : GoodIn wsX6_disputed wsX6_isDay := goodIn_r _ [10, 4, 5, 6, 7] (by decide +kernel) (by decide +kernel)
set_option maxRecDepth 20000 in
theorem gX6_disputed_X6_isDay : GoodIn wsX6_disputed (va_wsS RX6 91 yX6_isDay wsX6_isDay) := goodIn_app (goodIn_of _ (by decide +kernel)) ggX6_disputed_X6_isDay
set_option maxRecDepth 20000 in
theorem ggX6_disputed_X6_refused : GoodIn wsX6_disputed wsX6_refused := goodIn_r _ [14, 15, 55, 56, 57, 58, 59, 60, 61, 62, 63, 64, 65, 66, 67, 68, 69, 70, 71, 72, 73, 74, 75, 76, 77] (by decide +kernel) (by decide +kernel)
set_option maxRecDepth 20000 in
theorem gX6_disputed_X6_refused : GoodIn wsX6_disputed (wsV RX6 80 RX6 yX6_refused wsX6_refused) := goodIn_app (goodIn_of _ (by decide +kernel)) ggX6_disputed_X6_refused
set_option maxRecDepth 20000 in
theorem ggX6_disputed_X6_lay : GoodIn wsX6_disputed wsX6_lay := goodIn_r _ [19, 1, 2, 20, 21, 22, 6, 23, 24, 25, 26, 27, 28, 29, 30, 31, 32, 33, 34, 35, 36, 37, 38, 39, 40, 41, 55, 56, 57, 58, 59, 60, 61, 62, 63, 64, 65, 66, 67, 68, 69, 70, 71, 72, 73, 74, 75, 76, 77] (by decide +kernel) (by decide +kernel)
set_option maxRecDepth 20000 in
theorem gX6_disputed_X6_lay : GoodIn wsX6_disputed (wsV RX6 108 RX6 yX6_lay wsX6_lay) := goodIn_app (goodIn_of _ (by decide +kernel)) ggX6_disputed_X6_lay
set_option maxRecDepth 20000 in
theorem ggX6_disputed_X6_valueOf : GoodIn wsX6_disputed wsX6_valueOf := goodIn_r _ [45, 1, 2, 3, 46, 47, 48, 6, 49, 27, 25, 50, 51, 52, 53, 54, 55, 56, 57, 58, 59, 60, 61, 62, 63, 64, 65, 66, 67, 68, 69, 70, 71, 72, 73, 74, 75, 76, 77] (by decide +kernel) (by decide +kernel)
set_option maxRecDepth 20000 in
theorem gX6_disputed_X6_valueOf : GoodIn wsX6_disputed (wsV RX6 123 RX6 yX6_valueOf wsX6_valueOf) := goodIn_app (goodIn_of _ (by decide +kernel)) ggX6_disputed_X6_valueOf
theorem dX6_disputed_0 : decode cX6_disputed 0 = .ok (.aload_n 0, 1) := by decide +kernel
theorem dX6_disputed_1 : decode cX6_disputed 1 = .ok (.iload_n 1, 1) := by decide +kernel
theorem dX6_disputed_2 : decode cX6_disputed 2 = .ok (.iconst 0, 1) := by decide +kernel
theorem dX6_disputed_3 : decode cX6_disputed 3 = .ok (.iconst 1, 1) := by decide +kernel
theorem dX6_disputed_4 : decode cX6_disputed 4 = .ok (.invokestatic 73, 3) := by decide +kernel
theorem dX6_disputed_7 : decode cX6_disputed 7 = .ok (.ifCond .eq 14, 3) := by decide +kernel
theorem dX6_disputed_10 : decode cX6_disputed 10 = .ok (.iload_n 2, 1) := by decide +kernel
theorem dX6_disputed_11 : decode cX6_disputed 11 = .ok (.invokestatic 91, 3) := by decide +kernel
theorem dX6_disputed_14 : decode cX6_disputed 14 = .ok (.ifCond .eq 7, 3) := by decide +kernel
theorem dX6_disputed_17 : decode cX6_disputed 17 = .ok (.iconst 0, 1) := by decide +kernel
theorem dX6_disputed_18 : decode cX6_disputed 18 = .ok (.goto 4, 3) := by decide +kernel
theorem dX6_disputed_21 : decode cX6_disputed 21 = .ok (.iconst 1, 1) := by decide +kernel
theorem dX6_disputed_22 : decode cX6_disputed 22 = .ok (.invokevirtual 80, 3) := by decide +kernel
theorem dX6_disputed_25 : decode cX6_disputed 25 = .ok (.ifCond .eq 5, 3) := by decide +kernel
theorem dX6_disputed_28 : decode cX6_disputed 28 = .ok (.iconst 0, 1) := by decide +kernel
theorem dX6_disputed_29 : decode cX6_disputed 29 = .ok (.ireturn, 1) := by decide +kernel
theorem dX6_disputed_30 : decode cX6_disputed 30 = .ok (.aload_n 0, 1) := by decide +kernel
theorem dX6_disputed_31 : decode cX6_disputed 31 = .ok (.iload_n 2, 1) := by decide +kernel
theorem dX6_disputed_32 : decode cX6_disputed 32 = .ok (.invokevirtual 108, 3) := by decide +kernel
theorem dX6_disputed_35 : decode cX6_disputed 35 = .ok (.iconst 0, 1) := by decide +kernel
theorem dX6_disputed_36 : decode cX6_disputed 36 = .ok (.istore_n 3, 1) := by decide +kernel
theorem dX6_disputed_37 : decode cX6_disputed 37 = .ok (.iconst 0, 1) := by decide +kernel
theorem dX6_disputed_38 : decode cX6_disputed 38 = .ok (.istore 4, 2) := by decide +kernel
theorem dX6_disputed_40 : decode cX6_disputed 40 = .ok (.iload 4, 2) := by decide +kernel
theorem dX6_disputed_42 : decode cX6_disputed 42 = .ok (.aload_n 0, 1) := by decide +kernel
theorem dX6_disputed_43 : decode cX6_disputed 43 = .ok (.getfield 70, 3) := by decide +kernel
theorem dX6_disputed_46 : decode cX6_disputed 46 = .ok (.if_icmp .ge 127, 3) := by decide +kernel
theorem dX6_disputed_49 : decode cX6_disputed 49 = .ok (.iconst 0, 1) := by decide +kernel
theorem dX6_disputed_50 : decode cX6_disputed 50 = .ok (.istore 5, 2) := by decide +kernel
theorem dX6_disputed_52 : decode cX6_disputed 52 = .ok (.aload_n 0, 1) := by decide +kernel
theorem dX6_disputed_53 : decode cX6_disputed 53 = .ok (.getfield 57, 3) := by decide +kernel
theorem dX6_disputed_56 : decode cX6_disputed 56 = .ok (.iload 4, 2) := by decide +kernel
theorem dX6_disputed_58 : decode cX6_disputed 58 = .ok (.iaload, 1) := by decide +kernel
theorem dX6_disputed_59 : decode cX6_disputed 59 = .ok (.iload 4, 2) := by decide +kernel
theorem dX6_disputed_61 : decode cX6_disputed 61 = .ok (.if_icmp .ne 13, 3) := by decide +kernel
theorem dX6_disputed_64 : decode cX6_disputed 64 = .ok (.aload_n 0, 1) := by decide +kernel
theorem dX6_disputed_65 : decode cX6_disputed 65 = .ok (.iload 4, 2) := by decide +kernel
theorem dX6_disputed_67 : decode cX6_disputed 67 = .ok (.iload_n 1, 1) := by decide +kernel
theorem dX6_disputed_68 : decode cX6_disputed 68 = .ok (.invokevirtual 123, 3) := by decide +kernel
theorem dX6_disputed_71 : decode cX6_disputed 71 = .ok (.goto 4, 3) := by decide +kernel
theorem dX6_disputed_74 : decode cX6_disputed 74 = .ok (.iconst (-1), 1) := by decide +kernel
theorem dX6_disputed_75 : decode cX6_disputed 75 = .ok (.istore 6, 2) := by decide +kernel
theorem dX6_disputed_77 : decode cX6_disputed 77 = .ok (.iconst 0, 1) := by decide +kernel
theorem dX6_disputed_78 : decode cX6_disputed 78 = .ok (.istore 7, 2) := by decide +kernel
theorem dX6_disputed_80 : decode cX6_disputed 80 = .ok (.iload 7, 2) := by decide +kernel
theorem dX6_disputed_82 : decode cX6_disputed 82 = .ok (.aload_n 0, 1) := by decide +kernel
theorem dX6_disputed_83 : decode cX6_disputed 83 = .ok (.getfield 70, 3) := by decide +kernel
theorem dX6_disputed_86 : decode cX6_disputed 86 = .ok (.if_icmp .ge 68, 3) := by decide +kernel
theorem dX6_disputed_89 : decode cX6_disputed 89 = .ok (.iload 6, 2) := by decide +kernel
theorem dX6_disputed_91 : decode cX6_disputed 91 = .ok (.ifCond .lt 63, 3) := by decide +kernel
theorem dX6_disputed_94 : decode cX6_disputed 94 = .ok (.iload 5, 2) := by decide +kernel
theorem dX6_disputed_96 : decode cX6_disputed 96 = .ok (.ifCond .ne 45, 3) := by decide +kernel
theorem dX6_disputed_99 : decode cX6_disputed 99 = .ok (.aload_n 0, 1) := by decide +kernel
theorem dX6_disputed_100 : decode cX6_disputed 100 = .ok (.getfield 57, 3) := by decide +kernel
theorem dX6_disputed_103 : decode cX6_disputed 103 = .ok (.iload 7, 2) := by decide +kernel
theorem dX6_disputed_105 : decode cX6_disputed 105 = .ok (.iaload, 1) := by decide +kernel
theorem dX6_disputed_106 : decode cX6_disputed 106 = .ok (.iload 4, 2) := by decide +kernel
theorem dX6_disputed_108 : decode cX6_disputed 108 = .ok (.if_icmp .ne 37, 3) := by decide +kernel
theorem dX6_disputed_111 : decode cX6_disputed 111 = .ok (.aload_n 0, 1) := by decide +kernel
theorem dX6_disputed_112 : decode cX6_disputed 112 = .ok (.getfield 25, 3) := by decide +kernel
theorem dX6_disputed_115 : decode cX6_disputed 115 = .ok (.iconst 2, 1) := by decide +kernel
theorem dX6_disputed_116 : decode cX6_disputed 116 = .ok (.iload 7, 2) := by decide +kernel
theorem dX6_disputed_118 : decode cX6_disputed 118 = .ok (.imul, 1) := by decide +kernel
theorem dX6_disputed_119 : decode cX6_disputed 119 = .ok (.iload_n 1, 1) := by decide +kernel
theorem dX6_disputed_120 : decode cX6_disputed 120 = .ok (.iadd, 1) := by decide +kernel
theorem dX6_disputed_121 : decode cX6_disputed 121 = .ok (.iaload, 1) := by decide +kernel
theorem dX6_disputed_122 : decode cX6_disputed 122 = .ok (.ifCond .lt 23, 3) := by decide +kernel
theorem dX6_disputed_125 : decode cX6_disputed 125 = .ok (.aload_n 0, 1) := by decide +kernel
theorem dX6_disputed_126 : decode cX6_disputed 126 = .ok (.getfield 25, 3) := by decide +kernel
theorem dX6_disputed_129 : decode cX6_disputed 129 = .ok (.iconst 2, 1) := by decide +kernel
theorem dX6_disputed_130 : decode cX6_disputed 130 = .ok (.iload 7, 2) := by decide +kernel
theorem dX6_disputed_132 : decode cX6_disputed 132 = .ok (.imul, 1) := by decide +kernel
theorem dX6_disputed_133 : decode cX6_disputed 133 = .ok (.iload_n 1, 1) := by decide +kernel
theorem dX6_disputed_134 : decode cX6_disputed 134 = .ok (.iadd, 1) := by decide +kernel
theorem dX6_disputed_135 : decode cX6_disputed 135 = .ok (.iaload, 1) := by decide +kernel
theorem dX6_disputed_136 : decode cX6_disputed 136 = .ok (.iload 6, 2) := by decide +kernel
theorem dX6_disputed_138 : decode cX6_disputed 138 = .ok (.if_icmp .eq 7, 3) := by decide +kernel
theorem dX6_disputed_141 : decode cX6_disputed 141 = .ok (.iconst 1, 1) := by decide +kernel
theorem dX6_disputed_142 : decode cX6_disputed 142 = .ok (.goto 4, 3) := by decide +kernel
theorem dX6_disputed_145 : decode cX6_disputed 145 = .ok (.iconst 0, 1) := by decide +kernel
theorem dX6_disputed_146 : decode cX6_disputed 146 = .ok (.istore 5, 2) := by decide +kernel
theorem dX6_disputed_148 : decode cX6_disputed 148 = .ok (.iinc 7 1, 3) := by decide +kernel
theorem dX6_disputed_151 : decode cX6_disputed 151 = .ok (.goto (-71), 3) := by decide +kernel
theorem dX6_disputed_154 : decode cX6_disputed 154 = .ok (.iload_n 3, 1) := by decide +kernel
theorem dX6_disputed_155 : decode cX6_disputed 155 = .ok (.iload 5, 2) := by decide +kernel
theorem dX6_disputed_157 : decode cX6_disputed 157 = .ok (.ifCond .eq 7, 3) := by decide +kernel
theorem dX6_disputed_160 : decode cX6_disputed 160 = .ok (.iconst 1, 1) := by decide +kernel
theorem dX6_disputed_161 : decode cX6_disputed 161 = .ok (.goto 4, 3) := by decide +kernel
theorem dX6_disputed_164 : decode cX6_disputed 164 = .ok (.iconst 0, 1) := by decide +kernel
theorem dX6_disputed_165 : decode cX6_disputed 165 = .ok (.iadd, 1) := by decide +kernel
theorem dX6_disputed_166 : decode cX6_disputed 166 = .ok (.istore_n 3, 1) := by decide +kernel
theorem dX6_disputed_167 : decode cX6_disputed 167 = .ok (.iinc 4 1, 3) := by decide +kernel
theorem dX6_disputed_170 : decode cX6_disputed 170 = .ok (.goto (-130), 3) := by decide +kernel
theorem dX6_disputed_173 : decode cX6_disputed 173 = .ok (.iload_n 3, 1) := by decide +kernel
theorem dX6_disputed_174 : decode cX6_disputed 174 = .ok (.ireturn, 1) := by decide +kernel
set_option maxRecDepth 20000 in
theorem ggX6_link_X6_isFind : GoodIn wsX6_link wsX6_isFind := goodIn_r _ [9, 10, 11, 12, 8, 13, 19, 20, 21, 22, 23, 24, 25, 26, 27, 28, 29, 30, 31, 32, 33, 34, 35, 36, 37, 38, 39, 40, 41] (by decide +kernel) (by decide +kernel)
set_option maxRecDepth 20000 in
theorem gX6_link_X6_isFind : GoodIn wsX6_link (wsV RX6 88 RX6 yX6_isFind wsX6_isFind) := goodIn_app (goodIn_of _ (by decide +kernel)) ggX6_link_X6_isFind
set_option maxRecDepth 20000 in
theorem ggX6_link_X6_in : GoodIn wsX6_link wsX6_in := goodIn_r _ [13] (by decide +kernel) (by decide +kernel)
set_option maxRecDepth 20000 in
theorem gX6_link_X6_in : GoodIn wsX6_link (va_wsS RX6 73 yX6_in wsX6_in) := goodIn_app (goodIn_of _ (by decide +kernel)) ggX6_link_X6_in
set_option maxRecDepth 20000 in
theorem ggX6_link_X6_refused : GoodIn wsX6_link wsX6_refused := goodIn_r _ [17, 18, 19, 20, 21, 22, 23, 24, 25, 26, 27, 28, 29, 30, 31, 32, 33, 34, 35, 36, 37, 38, 39, 40, 41] (by decide +kernel) (by decide +kernel)
set_option maxRecDepth 20000 in
theorem gX6_link_X6_refused : GoodIn wsX6_link (wsV RX6 80 RX6 yX6_refused wsX6_refused) := goodIn_app (goodIn_of _ (by decide +kernel)) ggX6_link_X6_refused
theorem dX6_link_0 : decode cX6_link 0 = .ok (.aload_n 0, 1) := by decide +kernel
theorem dX6_link_1 : decode cX6_link 1 = .ok (.iload_n 1, 1) := by decide +kernel
theorem dX6_link_2 : decode cX6_link 2 = .ok (.invokevirtual 88, 3) := by decide +kernel
theorem dX6_link_5 : decode cX6_link 5 = .ok (.ifCond .eq 15, 3) := by decide +kernel
theorem dX6_link_8 : decode cX6_link 8 = .ok (.aload_n 0, 1) := by decide +kernel
theorem dX6_link_9 : decode cX6_link 9 = .ok (.iload_n 2, 1) := by decide +kernel
theorem dX6_link_10 : decode cX6_link 10 = .ok (.invokevirtual 88, 3) := by decide +kernel
theorem dX6_link_13 : decode cX6_link 13 = .ok (.ifCond .eq 7, 3) := by decide +kernel
theorem dX6_link_16 : decode cX6_link 16 = .ok (.iconst 1, 1) := by decide +kernel
theorem dX6_link_17 : decode cX6_link 17 = .ok (.goto 4, 3) := by decide +kernel
theorem dX6_link_20 : decode cX6_link 20 = .ok (.iconst 0, 1) := by decide +kernel
theorem dX6_link_21 : decode cX6_link 21 = .ok (.istore 4, 2) := by decide +kernel
theorem dX6_link_23 : decode cX6_link 23 = .ok (.aload_n 0, 1) := by decide +kernel
theorem dX6_link_24 : decode cX6_link 24 = .ok (.iload 4, 2) := by decide +kernel
theorem dX6_link_26 : decode cX6_link 26 = .ok (.ifCond .ne 7, 3) := by decide +kernel
theorem dX6_link_29 : decode cX6_link 29 = .ok (.iconst 1, 1) := by decide +kernel
theorem dX6_link_30 : decode cX6_link 30 = .ok (.goto 35, 3) := by decide +kernel
theorem dX6_link_33 : decode cX6_link 33 = .ok (.iload_n 1, 1) := by decide +kernel
theorem dX6_link_34 : decode cX6_link 34 = .ok (.iload_n 2, 1) := by decide +kernel
theorem dX6_link_35 : decode cX6_link 35 = .ok (.if_icmp .eq 12, 3) := by decide +kernel
theorem dX6_link_38 : decode cX6_link 38 = .ok (.iload_n 3, 1) := by decide +kernel
theorem dX6_link_39 : decode cX6_link 39 = .ok (.iconst 0, 1) := by decide +kernel
theorem dX6_link_40 : decode cX6_link 40 = .ok (.iconst 3, 1) := by decide +kernel
theorem dX6_link_41 : decode cX6_link 41 = .ok (.invokestatic 73, 3) := by decide +kernel
theorem dX6_link_44 : decode cX6_link 44 = .ok (.ifCond .ne 7, 3) := by decide +kernel
theorem dX6_link_47 : decode cX6_link 47 = .ok (.iconst 2, 1) := by decide +kernel
theorem dX6_link_48 : decode cX6_link 48 = .ok (.goto 17, 3) := by decide +kernel
theorem dX6_link_51 : decode cX6_link 51 = .ok (.aload_n 0, 1) := by decide +kernel
theorem dX6_link_52 : decode cX6_link 52 = .ok (.getfield 127, 3) := by decide +kernel
theorem dX6_link_55 : decode cX6_link 55 = .ok (.bipush 40, 2) := by decide +kernel
theorem dX6_link_57 : decode cX6_link 57 = .ok (.if_icmp .ne 7, 3) := by decide +kernel
theorem dX6_link_60 : decode cX6_link 60 = .ok (.iconst 3, 1) := by decide +kernel
theorem dX6_link_61 : decode cX6_link 61 = .ok (.goto 4, 3) := by decide +kernel
theorem dX6_link_64 : decode cX6_link 64 = .ok (.iconst 0, 1) := by decide +kernel
theorem dX6_link_65 : decode cX6_link 65 = .ok (.invokevirtual 80, 3) := by decide +kernel
theorem dX6_link_68 : decode cX6_link 68 = .ok (.ifCond .eq 5, 3) := by decide +kernel
theorem dX6_link_71 : decode cX6_link 71 = .ok (.iconst 0, 1) := by decide +kernel
theorem dX6_link_72 : decode cX6_link 72 = .ok (.ireturn, 1) := by decide +kernel
theorem dX6_link_73 : decode cX6_link 73 = .ok (.aload_n 0, 1) := by decide +kernel
theorem dX6_link_74 : decode cX6_link 74 = .ok (.getfield 36, 3) := by decide +kernel
theorem dX6_link_77 : decode cX6_link 77 = .ok (.aload_n 0, 1) := by decide +kernel
theorem dX6_link_78 : decode cX6_link 78 = .ok (.getfield 127, 3) := by decide +kernel
theorem dX6_link_81 : decode cX6_link 81 = .ok (.iload_n 1, 1) := by decide +kernel
theorem dX6_link_82 : decode cX6_link 82 = .ok (.iastore, 1) := by decide +kernel
theorem dX6_link_83 : decode cX6_link 83 = .ok (.aload_n 0, 1) := by decide +kernel
theorem dX6_link_84 : decode cX6_link 84 = .ok (.getfield 39, 3) := by decide +kernel
theorem dX6_link_87 : decode cX6_link 87 = .ok (.aload_n 0, 1) := by decide +kernel
theorem dX6_link_88 : decode cX6_link 88 = .ok (.getfield 127, 3) := by decide +kernel
theorem dX6_link_91 : decode cX6_link 91 = .ok (.iload_n 2, 1) := by decide +kernel
theorem dX6_link_92 : decode cX6_link 92 = .ok (.iastore, 1) := by decide +kernel
theorem dX6_link_93 : decode cX6_link 93 = .ok (.aload_n 0, 1) := by decide +kernel
theorem dX6_link_94 : decode cX6_link 94 = .ok (.getfield 42, 3) := by decide +kernel
theorem dX6_link_97 : decode cX6_link 97 = .ok (.aload_n 0, 1) := by decide +kernel
theorem dX6_link_98 : decode cX6_link 98 = .ok (.getfield 127, 3) := by decide +kernel
theorem dX6_link_101 : decode cX6_link 101 = .ok (.iload_n 3, 1) := by decide +kernel
theorem dX6_link_102 : decode cX6_link 102 = .ok (.iastore, 1) := by decide +kernel
theorem dX6_link_103 : decode cX6_link 103 = .ok (.aload_n 0, 1) := by decide +kernel
theorem dX6_link_104 : decode cX6_link 104 = .ok (.dup, 1) := by decide +kernel
theorem dX6_link_105 : decode cX6_link 105 = .ok (.getfield 127, 3) := by decide +kernel
theorem dX6_link_108 : decode cX6_link 108 = .ok (.iconst 1, 1) := by decide +kernel
theorem dX6_link_109 : decode cX6_link 109 = .ok (.iadd, 1) := by decide +kernel
theorem dX6_link_110 : decode cX6_link 110 = .ok (.putfield 127, 3) := by decide +kernel
theorem dX6_link_113 : decode cX6_link 113 = .ok (.aload_n 0, 1) := by decide +kernel
theorem dX6_link_114 : decode cX6_link 114 = .ok (.getfield 127, 3) := by decide +kernel
theorem dX6_link_117 : decode cX6_link 117 = .ok (.ireturn, 1) := by decide +kernel
theorem dX6_isOf_0 : decode cX6_isOf 0 = .ok (.aload_n 0, 1) := by decide +kernel
theorem dX6_isOf_1 : decode cX6_isOf 1 = .ok (.getfield 57, 3) := by decide +kernel
theorem dX6_isOf_4 : decode cX6_isOf 4 = .ok (.aload_n 0, 1) := by decide +kernel
theorem dX6_isOf_5 : decode cX6_isOf 5 = .ok (.getfield 39, 3) := by decide +kernel
theorem dX6_isOf_8 : decode cX6_isOf 8 = .ok (.iload_n 1, 1) := by decide +kernel
theorem dX6_isOf_9 : decode cX6_isOf 9 = .ok (.iaload, 1) := by decide +kernel
theorem dX6_isOf_10 : decode cX6_isOf 10 = .ok (.iaload, 1) := by decide +kernel
theorem dX6_isOf_11 : decode cX6_isOf 11 = .ok (.istore 4, 2) := by decide +kernel
theorem dX6_isOf_13 : decode cX6_isOf 13 = .ok (.aload_n 0, 1) := by decide +kernel
theorem dX6_isOf_14 : decode cX6_isOf 14 = .ok (.getfield 57, 3) := by decide +kernel
theorem dX6_isOf_17 : decode cX6_isOf 17 = .ok (.aload_n 0, 1) := by decide +kernel
theorem dX6_isOf_18 : decode cX6_isOf 18 = .ok (.getfield 36, 3) := by decide +kernel
theorem dX6_isOf_21 : decode cX6_isOf 21 = .ok (.iload_n 1, 1) := by decide +kernel
theorem dX6_isOf_22 : decode cX6_isOf 22 = .ok (.iaload, 1) := by decide +kernel
theorem dX6_isOf_23 : decode cX6_isOf 23 = .ok (.iaload, 1) := by decide +kernel
theorem dX6_isOf_24 : decode cX6_isOf 24 = .ok (.iload_n 2, 1) := by decide +kernel
theorem dX6_isOf_25 : decode cX6_isOf 25 = .ok (.if_icmp .ne 28, 3) := by decide +kernel
theorem dX6_isOf_28 : decode cX6_isOf 28 = .ok (.aload_n 0, 1) := by decide +kernel
theorem dX6_isOf_29 : decode cX6_isOf 29 = .ok (.getfield 42, 3) := by decide +kernel
theorem dX6_isOf_32 : decode cX6_isOf 32 = .ok (.iload_n 1, 1) := by decide +kernel
theorem dX6_isOf_33 : decode cX6_isOf 33 = .ok (.iaload, 1) := by decide +kernel
theorem dX6_isOf_34 : decode cX6_isOf 34 = .ok (.iload_n 3, 1) := by decide +kernel
theorem dX6_isOf_35 : decode cX6_isOf 35 = .ok (.if_icmp .ne 18, 3) := by decide +kernel
theorem dX6_isOf_38 : decode cX6_isOf 38 = .ok (.iload 4, 2) := by decide +kernel
theorem dX6_isOf_40 : decode cX6_isOf 40 = .ok (.ifCond .lt 13, 3) := by decide +kernel
theorem dX6_isOf_43 : decode cX6_isOf 43 = .ok (.iload 4, 2) := by decide +kernel
theorem dX6_isOf_45 : decode cX6_isOf 45 = .ok (.iload_n 2, 1) := by decide +kernel
theorem dX6_isOf_46 : decode cX6_isOf 46 = .ok (.if_icmp .eq 7, 3) := by decide +kernel
theorem dX6_isOf_49 : decode cX6_isOf 49 = .ok (.iconst 1, 1) := by decide +kernel
theorem dX6_isOf_50 : decode cX6_isOf 50 = .ok (.goto 4, 3) := by decide +kernel
theorem dX6_isOf_53 : decode cX6_isOf 53 = .ok (.iconst 0, 1) := by decide +kernel
theorem dX6_isOf_54 : decode cX6_isOf 54 = .ok (.ireturn, 1) := by decide +kernel
set_option maxRecDepth 20000 in
theorem ggX6_falls_X6_isOf : GoodIn wsX6_falls wsX6_isOf := goodIn_r _ [9, 3, 4, 10, 11, 12, 13, 14, 15, 16, 17, 18, 19, 20, 21, 22, 23, 24, 25, 26, 27, 28, 29, 30, 31, 32, 33, 34] (by decide +kernel) (by decide +kernel)
set_option maxRecDepth 20000 in
theorem gX6_falls_X6_isOf : GoodIn wsX6_falls (wsV RX6 130 RX6 yX6_isOf wsX6_isOf) := goodIn_app (goodIn_of _ (by decide +kernel)) ggX6_falls_X6_isOf
theorem dX6_falls_0 : decode cX6_falls 0 = .ok (.iconst 0, 1) := by decide +kernel
theorem dX6_falls_1 : decode cX6_falls 1 = .ok (.istore_n 2, 1) := by decide +kernel
theorem dX6_falls_2 : decode cX6_falls 2 = .ok (.iconst 0, 1) := by decide +kernel
theorem dX6_falls_3 : decode cX6_falls 3 = .ok (.istore_n 3, 1) := by decide +kernel
theorem dX6_falls_4 : decode cX6_falls 4 = .ok (.iload_n 3, 1) := by decide +kernel
theorem dX6_falls_5 : decode cX6_falls 5 = .ok (.iconst 4, 1) := by decide +kernel
theorem dX6_falls_6 : decode cX6_falls 6 = .ok (.if_icmp .ge 99, 3) := by decide +kernel
theorem dX6_falls_9 : decode cX6_falls 9 = .ok (.iconst 0, 1) := by decide +kernel
theorem dX6_falls_10 : decode cX6_falls 10 = .ok (.istore 4, 2) := by decide +kernel
theorem dX6_falls_12 : decode cX6_falls 12 = .ok (.iconst 1, 1) := by decide +kernel
theorem dX6_falls_13 : decode cX6_falls 13 = .ok (.istore 5, 2) := by decide +kernel
theorem dX6_falls_15 : decode cX6_falls 15 = .ok (.iconst 0, 1) := by decide +kernel
theorem dX6_falls_16 : decode cX6_falls 16 = .ok (.istore 6, 2) := by decide +kernel
theorem dX6_falls_18 : decode cX6_falls 18 = .ok (.iload 6, 2) := by decide +kernel
theorem dX6_falls_20 : decode cX6_falls 20 = .ok (.aload_n 0, 1) := by decide +kernel
theorem dX6_falls_21 : decode cX6_falls 21 = .ok (.getfield 127, 3) := by decide +kernel
theorem dX6_falls_24 : decode cX6_falls 24 = .ok (.if_icmp .ge 55, 3) := by decide +kernel
theorem dX6_falls_27 : decode cX6_falls 27 = .ok (.aload_n 0, 1) := by decide +kernel
theorem dX6_falls_28 : decode cX6_falls 28 = .ok (.iload 6, 2) := by decide +kernel
theorem dX6_falls_30 : decode cX6_falls 30 = .ok (.iload_n 1, 1) := by decide +kernel
theorem dX6_falls_31 : decode cX6_falls 31 = .ok (.iload_n 3, 1) := by decide +kernel
theorem dX6_falls_32 : decode cX6_falls 32 = .ok (.invokevirtual 130, 3) := by decide +kernel
theorem dX6_falls_35 : decode cX6_falls 35 = .ok (.ifCond .eq 38, 3) := by decide +kernel
theorem dX6_falls_38 : decode cX6_falls 38 = .ok (.iconst 1, 1) := by decide +kernel
theorem dX6_falls_39 : decode cX6_falls 39 = .ok (.istore 4, 2) := by decide +kernel
theorem dX6_falls_41 : decode cX6_falls 41 = .ok (.iload 5, 2) := by decide +kernel
theorem dX6_falls_43 : decode cX6_falls 43 = .ok (.ifCond .eq 27, 3) := by decide +kernel
theorem dX6_falls_46 : decode cX6_falls 46 = .ok (.aload_n 0, 1) := by decide +kernel
theorem dX6_falls_47 : decode cX6_falls 47 = .ok (.getfield 63, 3) := by decide +kernel
theorem dX6_falls_50 : decode cX6_falls 50 = .ok (.aload_n 0, 1) := by decide +kernel
theorem dX6_falls_51 : decode cX6_falls 51 = .ok (.getfield 57, 3) := by decide +kernel
theorem dX6_falls_54 : decode cX6_falls 54 = .ok (.aload_n 0, 1) := by decide +kernel
theorem dX6_falls_55 : decode cX6_falls 55 = .ok (.getfield 39, 3) := by decide +kernel
theorem dX6_falls_58 : decode cX6_falls 58 = .ok (.iload 6, 2) := by decide +kernel
theorem dX6_falls_60 : decode cX6_falls 60 = .ok (.iaload, 1) := by decide +kernel
theorem dX6_falls_61 : decode cX6_falls 61 = .ok (.iaload, 1) := by decide +kernel
theorem dX6_falls_62 : decode cX6_falls 62 = .ok (.baload, 1) := by decide +kernel
theorem dX6_falls_63 : decode cX6_falls 63 = .ok (.ifCond .eq 7, 3) := by decide +kernel
theorem dX6_falls_66 : decode cX6_falls 66 = .ok (.iconst 1, 1) := by decide +kernel
theorem dX6_falls_67 : decode cX6_falls 67 = .ok (.goto 4, 3) := by decide +kernel
theorem dX6_falls_70 : decode cX6_falls 70 = .ok (.iconst 0, 1) := by decide +kernel
theorem dX6_falls_71 : decode cX6_falls 71 = .ok (.istore 5, 2) := by decide +kernel
theorem dX6_falls_73 : decode cX6_falls 73 = .ok (.iinc 6 1, 3) := by decide +kernel
theorem dX6_falls_76 : decode cX6_falls 76 = .ok (.goto (-58), 3) := by decide +kernel
theorem dX6_falls_79 : decode cX6_falls 79 = .ok (.iload_n 2, 1) := by decide +kernel
theorem dX6_falls_80 : decode cX6_falls 80 = .ok (.ifCond .ne 13, 3) := by decide +kernel
theorem dX6_falls_83 : decode cX6_falls 83 = .ok (.iload 4, 2) := by decide +kernel
theorem dX6_falls_85 : decode cX6_falls 85 = .ok (.ifCond .eq 12, 3) := by decide +kernel
theorem dX6_falls_88 : decode cX6_falls 88 = .ok (.iload 5, 2) := by decide +kernel
theorem dX6_falls_90 : decode cX6_falls 90 = .ok (.ifCond .eq 7, 3) := by decide +kernel
theorem dX6_falls_93 : decode cX6_falls 93 = .ok (.iconst 1, 1) := by decide +kernel
theorem dX6_falls_94 : decode cX6_falls 94 = .ok (.goto 4, 3) := by decide +kernel
theorem dX6_falls_97 : decode cX6_falls 97 = .ok (.iconst 0, 1) := by decide +kernel
theorem dX6_falls_98 : decode cX6_falls 98 = .ok (.istore_n 2, 1) := by decide +kernel
theorem dX6_falls_99 : decode cX6_falls 99 = .ok (.iinc 3 1, 3) := by decide +kernel
theorem dX6_falls_102 : decode cX6_falls 102 = .ok (.goto (-98), 3) := by decide +kernel
theorem dX6_falls_105 : decode cX6_falls 105 = .ok (.iload_n 2, 1) := by decide +kernel
theorem dX6_falls_106 : decode cX6_falls 106 = .ok (.ireturn, 1) := by decide +kernel
set_option maxRecDepth 20000 in
theorem ggX6_spread_X6_falls : GoodIn wsX6_spread wsX6_falls := goodIn_r _ [8, 9, 2, 3, 10, 11, 12, 13, 7, 14, 15, 16, 17, 18, 19, 20, 21, 22, 23, 24, 25, 26, 27, 28, 29, 30, 31, 32, 33, 34, 35, 36, 37, 38, 39] (by decide +kernel) (by decide +kernel)
set_option maxRecDepth 20000 in
theorem gX6_spread_X6_falls : GoodIn wsX6_spread (wsV RX6 133 RX6 yX6_falls wsX6_falls) := goodIn_app (goodIn_of _ (by decide +kernel)) ggX6_spread_X6_falls
theorem dX6_spread_0 : decode cX6_spread 0 = .ok (.iconst 0, 1) := by decide +kernel
theorem dX6_spread_1 : decode cX6_spread 1 = .ok (.istore_n 2, 1) := by decide +kernel
theorem dX6_spread_2 : decode cX6_spread 2 = .ok (.iload_n 2, 1) := by decide +kernel
theorem dX6_spread_3 : decode cX6_spread 3 = .ok (.aload_n 0, 1) := by decide +kernel
theorem dX6_spread_4 : decode cX6_spread 4 = .ok (.getfield 70, 3) := by decide +kernel
theorem dX6_spread_7 : decode cX6_spread 7 = .ok (.if_icmp .ge 25, 3) := by decide +kernel
theorem dX6_spread_10 : decode cX6_spread 10 = .ok (.aload_n 0, 1) := by decide +kernel
theorem dX6_spread_11 : decode cX6_spread 11 = .ok (.getfield 63, 3) := by decide +kernel
theorem dX6_spread_14 : decode cX6_spread 14 = .ok (.iload_n 2, 1) := by decide +kernel
theorem dX6_spread_15 : decode cX6_spread 15 = .ok (.iload_n 2, 1) := by decide +kernel
theorem dX6_spread_16 : decode cX6_spread 16 = .ok (.iload_n 1, 1) := by decide +kernel
theorem dX6_spread_17 : decode cX6_spread 17 = .ok (.if_icmp .ne 7, 3) := by decide +kernel
theorem dX6_spread_20 : decode cX6_spread 20 = .ok (.iconst 1, 1) := by decide +kernel
theorem dX6_spread_21 : decode cX6_spread 21 = .ok (.goto 4, 3) := by decide +kernel
theorem dX6_spread_24 : decode cX6_spread 24 = .ok (.iconst 0, 1) := by decide +kernel
theorem dX6_spread_25 : decode cX6_spread 25 = .ok (.bastore, 1) := by decide +kernel
theorem dX6_spread_26 : decode cX6_spread 26 = .ok (.iinc 2 1, 3) := by decide +kernel
theorem dX6_spread_29 : decode cX6_spread 29 = .ok (.goto (-27), 3) := by decide +kernel
theorem dX6_spread_32 : decode cX6_spread 32 = .ok (.iconst 1, 1) := by decide +kernel
theorem dX6_spread_33 : decode cX6_spread 33 = .ok (.istore_n 2, 1) := by decide +kernel
theorem dX6_spread_34 : decode cX6_spread 34 = .ok (.iconst 0, 1) := by decide +kernel
theorem dX6_spread_35 : decode cX6_spread 35 = .ok (.istore_n 3, 1) := by decide +kernel
theorem dX6_spread_36 : decode cX6_spread 36 = .ok (.iload_n 2, 1) := by decide +kernel
theorem dX6_spread_37 : decode cX6_spread 37 = .ok (.iload_n 3, 1) := by decide +kernel
theorem dX6_spread_38 : decode cX6_spread 38 = .ok (.if_icmp .le 68, 3) := by decide +kernel
theorem dX6_spread_41 : decode cX6_spread 41 = .ok (.iload_n 2, 1) := by decide +kernel
theorem dX6_spread_42 : decode cX6_spread 42 = .ok (.istore_n 3, 1) := by decide +kernel
theorem dX6_spread_43 : decode cX6_spread 43 = .ok (.iconst 0, 1) := by decide +kernel
theorem dX6_spread_44 : decode cX6_spread 44 = .ok (.istore 4, 2) := by decide +kernel
theorem dX6_spread_46 : decode cX6_spread 46 = .ok (.iload 4, 2) := by decide +kernel
theorem dX6_spread_48 : decode cX6_spread 48 = .ok (.aload_n 0, 1) := by decide +kernel
theorem dX6_spread_49 : decode cX6_spread 49 = .ok (.getfield 70, 3) := by decide +kernel
theorem dX6_spread_52 : decode cX6_spread 52 = .ok (.if_icmp .ge 51, 3) := by decide +kernel
theorem dX6_spread_55 : decode cX6_spread 55 = .ok (.aload_n 0, 1) := by decide +kernel
theorem dX6_spread_56 : decode cX6_spread 56 = .ok (.getfield 57, 3) := by decide +kernel
theorem dX6_spread_59 : decode cX6_spread 59 = .ok (.iload 4, 2) := by decide +kernel
theorem dX6_spread_61 : decode cX6_spread 61 = .ok (.iaload, 1) := by decide +kernel
theorem dX6_spread_62 : decode cX6_spread 62 = .ok (.iload 4, 2) := by decide +kernel
theorem dX6_spread_64 : decode cX6_spread 64 = .ok (.if_icmp .ne 33, 3) := by decide +kernel
theorem dX6_spread_67 : decode cX6_spread 67 = .ok (.aload_n 0, 1) := by decide +kernel
theorem dX6_spread_68 : decode cX6_spread 68 = .ok (.getfield 63, 3) := by decide +kernel
theorem dX6_spread_71 : decode cX6_spread 71 = .ok (.iload 4, 2) := by decide +kernel
theorem dX6_spread_73 : decode cX6_spread 73 = .ok (.baload, 1) := by decide +kernel
theorem dX6_spread_74 : decode cX6_spread 74 = .ok (.ifCond .ne 23, 3) := by decide +kernel
theorem dX6_spread_77 : decode cX6_spread 77 = .ok (.aload_n 0, 1) := by decide +kernel
theorem dX6_spread_78 : decode cX6_spread 78 = .ok (.iload 4, 2) := by decide +kernel
theorem dX6_spread_80 : decode cX6_spread 80 = .ok (.invokevirtual 133, 3) := by decide +kernel
theorem dX6_spread_83 : decode cX6_spread 83 = .ok (.ifCond .eq 14, 3) := by decide +kernel
theorem dX6_spread_86 : decode cX6_spread 86 = .ok (.aload_n 0, 1) := by decide +kernel
theorem dX6_spread_87 : decode cX6_spread 87 = .ok (.getfield 63, 3) := by decide +kernel
theorem dX6_spread_90 : decode cX6_spread 90 = .ok (.iload 4, 2) := by decide +kernel
theorem dX6_spread_92 : decode cX6_spread 92 = .ok (.iconst 1, 1) := by decide +kernel
theorem dX6_spread_93 : decode cX6_spread 93 = .ok (.bastore, 1) := by decide +kernel
theorem dX6_spread_94 : decode cX6_spread 94 = .ok (.iinc 2 1, 3) := by decide +kernel
theorem dX6_spread_97 : decode cX6_spread 97 = .ok (.iinc 4 1, 3) := by decide +kernel
theorem dX6_spread_100 : decode cX6_spread 100 = .ok (.goto (-54), 3) := by decide +kernel
theorem dX6_spread_103 : decode cX6_spread 103 = .ok (.goto (-67), 3) := by decide +kernel
theorem dX6_spread_106 : decode cX6_spread 106 = .ok (.iload_n 2, 1) := by decide +kernel
theorem dX6_spread_107 : decode cX6_spread 107 = .ok (.ireturn, 1) := by decide +kernel
set_option maxRecDepth 20000 in
theorem ggX6_impact_X6_looked : GoodIn wsX6_impact wsX6_looked := goodIn_r _ [6, 1, 7, 8, 9, 5, 10, 11, 12, 13, 14, 15, 16, 17, 18, 19, 20, 21, 22, 23, 24, 25, 26, 27, 28, 29, 30, 31, 32, 33, 34, 35, 36, 37, 38, 39, 40, 41, 42, 43, 66, 67, 68, 69, 70, 71, 72, 73, 74, 75, 76, 77, 78, 79, 80, 81, 82, 83, 84, 85, 86, 87, 88] (by decide +kernel) (by decide +kernel)
set_option maxRecDepth 20000 in
theorem gX6_impact_X6_looked : GoodIn wsX6_impact (wsV RX6 116 RX6 yX6_looked wsX6_looked) := goodIn_app (goodIn_of _ (by decide +kernel)) ggX6_impact_X6_looked
set_option maxRecDepth 20000 in
theorem ggX6_impact_X6_refused : GoodIn wsX6_impact wsX6_refused := goodIn_r _ [47, 48, 66, 67, 68, 69, 70, 71, 72, 73, 74, 75, 76, 77, 78, 79, 80, 81, 82, 83, 84, 85, 86, 87, 88] (by decide +kernel) (by decide +kernel)
set_option maxRecDepth 20000 in
theorem gX6_impact_X6_refused : GoodIn wsX6_impact (wsV RX6 80 RX6 yX6_refused wsX6_refused) := goodIn_app (goodIn_of _ (by decide +kernel)) ggX6_impact_X6_refused
set_option maxRecDepth 20000 in
theorem ggX6_impact_X6_spread : GoodIn wsX6_impact wsX6_spread := goodIn_r _ [52, 11, 53, 1, 54, 55, 56, 5, 57, 58, 59, 60, 61, 62, 63, 64, 65, 66, 67, 68, 69, 70, 71, 72, 73, 74, 75, 76, 77, 78, 79, 80, 81, 82, 83, 84, 85, 86, 87, 88] (by decide +kernel) (by decide +kernel)
set_option maxRecDepth 20000 in
theorem gX6_impact_X6_spread : GoodIn wsX6_impact (wsV RX6 136 RX6 yX6_spread wsX6_spread) := goodIn_app (goodIn_of _ (by decide +kernel)) ggX6_impact_X6_spread
theorem dX6_impact_0 : decode cX6_impact 0 = .ok (.aload_n 0, 1) := by decide +kernel
theorem dX6_impact_1 : decode cX6_impact 1 = .ok (.aload_n 0, 1) := by decide +kernel
theorem dX6_impact_2 : decode cX6_impact 2 = .ok (.iload_n 1, 1) := by decide +kernel
theorem dX6_impact_3 : decode cX6_impact 3 = .ok (.iload_n 2, 1) := by decide +kernel
theorem dX6_impact_4 : decode cX6_impact 4 = .ok (.iconst 1, 1) := by decide +kernel
theorem dX6_impact_5 : decode cX6_impact 5 = .ok (.invokevirtual 116, 3) := by decide +kernel
theorem dX6_impact_8 : decode cX6_impact 8 = .ok (.invokevirtual 80, 3) := by decide +kernel
theorem dX6_impact_11 : decode cX6_impact 11 = .ok (.ifCond .eq 7, 3) := by decide +kernel
theorem dX6_impact_14 : decode cX6_impact 14 = .ok (.iconst 0, 1) := by decide +kernel
theorem dX6_impact_15 : decode cX6_impact 15 = .ok (.goto 13, 3) := by decide +kernel
theorem dX6_impact_18 : decode cX6_impact 18 = .ok (.aload_n 0, 1) := by decide +kernel
theorem dX6_impact_19 : decode cX6_impact 19 = .ok (.aload_n 0, 1) := by decide +kernel
theorem dX6_impact_20 : decode cX6_impact 20 = .ok (.getfield 57, 3) := by decide +kernel
theorem dX6_impact_23 : decode cX6_impact 23 = .ok (.iload_n 1, 1) := by decide +kernel
theorem dX6_impact_24 : decode cX6_impact 24 = .ok (.iaload, 1) := by decide +kernel
theorem dX6_impact_25 : decode cX6_impact 25 = .ok (.invokevirtual 136, 3) := by decide +kernel
theorem dX6_impact_28 : decode cX6_impact 28 = .ok (.ireturn, 1) := by decide +kernel
set_option maxRecDepth 20000 in
theorem ggX6_failsWith_X6_isFind : GoodIn wsX6_failsWith wsX6_isFind := goodIn_r _ [7, 8, 9, 10, 6, 11, 66, 67, 68, 69, 70, 71, 72, 73, 74, 75, 76, 77, 78, 79, 80, 81, 82, 83, 84, 85, 86, 87, 88] (by decide +kernel) (by decide +kernel)
set_option maxRecDepth 20000 in
theorem gX6_failsWith_X6_isFind : GoodIn wsX6_failsWith (wsV RX6 88 RX6 yX6_isFind wsX6_isFind) := goodIn_app (goodIn_of _ (by decide +kernel)) ggX6_failsWith_X6_isFind
set_option maxRecDepth 20000 in
theorem ggX6_failsWith_X6_looked : GoodIn wsX6_failsWith wsX6_looked := goodIn_r _ [15, 1, 3, 4, 5, 6, 7, 8, 9, 10, 11, 16, 17, 18, 19, 20, 21, 22, 23, 24, 25, 26, 27, 28, 29, 30, 31, 32, 33, 34, 35, 36, 37, 38, 39, 40, 41, 42, 43, 44, 66, 67, 68, 69, 70, 71, 72, 73, 74, 75, 76, 77, 78, 79, 80, 81, 82, 83, 84, 85, 86, 87, 88] (by decide +kernel) (by decide +kernel)
set_option maxRecDepth 20000 in
theorem gX6_failsWith_X6_looked : GoodIn wsX6_failsWith (wsV RX6 116 RX6 yX6_looked wsX6_looked) := goodIn_app (goodIn_of _ (by decide +kernel)) ggX6_failsWith_X6_looked
set_option maxRecDepth 20000 in
theorem ggX6_failsWith_X6_refused : GoodIn wsX6_failsWith wsX6_refused := goodIn_r _ [48, 49, 66, 67, 68, 69, 70, 71, 72, 73, 74, 75, 76, 77, 78, 79, 80, 81, 82, 83, 84, 85, 86, 87, 88] (by decide +kernel) (by decide +kernel)
set_option maxRecDepth 20000 in
theorem gX6_failsWith_X6_refused : GoodIn wsX6_failsWith (wsV RX6 80 RX6 yX6_refused wsX6_refused) := goodIn_app (goodIn_of _ (by decide +kernel)) ggX6_failsWith_X6_refused
set_option maxRecDepth 20000 in
theorem ggX6_failsWith_X6_spread : GoodIn wsX6_failsWith wsX6_spread := goodIn_r _ [53, 8, 2, 1, 54, 55, 56, 6, 57, 58, 59, 60, 61, 62, 63, 64, 65, 66, 67, 68, 69, 70, 71, 72, 73, 74, 75, 76, 77, 78, 79, 80, 81, 82, 83, 84, 85, 86, 87, 88] (by decide +kernel) (by decide +kernel)
set_option maxRecDepth 20000 in
theorem gX6_failsWith_X6_spread : GoodIn wsX6_failsWith (wsV RX6 136 RX6 yX6_spread wsX6_spread) := goodIn_app (goodIn_of _ (by decide +kernel)) ggX6_failsWith_X6_spread
theorem dX6_failsWith_0 : decode cX6_failsWith 0 = .ok (.aload_n 0, 1) := by decide +kernel
theorem dX6_failsWith_1 : decode cX6_failsWith 1 = .ok (.iload_n 1, 1) := by decide +kernel
theorem dX6_failsWith_2 : decode cX6_failsWith 2 = .ok (.invokevirtual 88, 3) := by decide +kernel
theorem dX6_failsWith_5 : decode cX6_failsWith 5 = .ok (.ifCond .eq 15, 3) := by decide +kernel
theorem dX6_failsWith_8 : decode cX6_failsWith 8 = .ok (.aload_n 0, 1) := by decide +kernel
theorem dX6_failsWith_9 : decode cX6_failsWith 9 = .ok (.iload_n 2, 1) := by decide +kernel
theorem dX6_failsWith_10 : decode cX6_failsWith 10 = .ok (.invokevirtual 88, 3) := by decide +kernel
theorem dX6_failsWith_13 : decode cX6_failsWith 13 = .ok (.ifCond .eq 7, 3) := by decide +kernel
theorem dX6_failsWith_16 : decode cX6_failsWith 16 = .ok (.iconst 1, 1) := by decide +kernel
theorem dX6_failsWith_17 : decode cX6_failsWith 17 = .ok (.goto 4, 3) := by decide +kernel
theorem dX6_failsWith_20 : decode cX6_failsWith 20 = .ok (.iconst 0, 1) := by decide +kernel
theorem dX6_failsWith_21 : decode cX6_failsWith 21 = .ok (.istore 4, 2) := by decide +kernel
theorem dX6_failsWith_23 : decode cX6_failsWith 23 = .ok (.iload 4, 2) := by decide +kernel
theorem dX6_failsWith_25 : decode cX6_failsWith 25 = .ok (.ifCond .eq 13, 3) := by decide +kernel
theorem dX6_failsWith_28 : decode cX6_failsWith 28 = .ok (.aload_n 0, 1) := by decide +kernel
theorem dX6_failsWith_29 : decode cX6_failsWith 29 = .ok (.iload_n 1, 1) := by decide +kernel
theorem dX6_failsWith_30 : decode cX6_failsWith 30 = .ok (.iload_n 3, 1) := by decide +kernel
theorem dX6_failsWith_31 : decode cX6_failsWith 31 = .ok (.iconst 1, 1) := by decide +kernel
theorem dX6_failsWith_32 : decode cX6_failsWith 32 = .ok (.invokevirtual 116, 3) := by decide +kernel
theorem dX6_failsWith_35 : decode cX6_failsWith 35 = .ok (.goto 4, 3) := by decide +kernel
theorem dX6_failsWith_38 : decode cX6_failsWith 38 = .ok (.iconst 1, 1) := by decide +kernel
theorem dX6_failsWith_39 : decode cX6_failsWith 39 = .ok (.istore 5, 2) := by decide +kernel
theorem dX6_failsWith_41 : decode cX6_failsWith 41 = .ok (.iload 4, 2) := by decide +kernel
theorem dX6_failsWith_43 : decode cX6_failsWith 43 = .ok (.ifCond .eq 13, 3) := by decide +kernel
theorem dX6_failsWith_46 : decode cX6_failsWith 46 = .ok (.aload_n 0, 1) := by decide +kernel
theorem dX6_failsWith_47 : decode cX6_failsWith 47 = .ok (.iload_n 2, 1) := by decide +kernel
theorem dX6_failsWith_48 : decode cX6_failsWith 48 = .ok (.iload_n 3, 1) := by decide +kernel
theorem dX6_failsWith_49 : decode cX6_failsWith 49 = .ok (.iconst 1, 1) := by decide +kernel
theorem dX6_failsWith_50 : decode cX6_failsWith 50 = .ok (.invokevirtual 116, 3) := by decide +kernel
theorem dX6_failsWith_53 : decode cX6_failsWith 53 = .ok (.goto 4, 3) := by decide +kernel
theorem dX6_failsWith_56 : decode cX6_failsWith 56 = .ok (.iconst 1, 1) := by decide +kernel
theorem dX6_failsWith_57 : decode cX6_failsWith 57 = .ok (.istore 6, 2) := by decide +kernel
theorem dX6_failsWith_59 : decode cX6_failsWith 59 = .ok (.aload_n 0, 1) := by decide +kernel
theorem dX6_failsWith_60 : decode cX6_failsWith 60 = .ok (.iload 5, 2) := by decide +kernel
theorem dX6_failsWith_62 : decode cX6_failsWith 62 = .ok (.ifCond .ne 8, 3) := by decide +kernel
theorem dX6_failsWith_65 : decode cX6_failsWith 65 = .ok (.iload 6, 2) := by decide +kernel
theorem dX6_failsWith_67 : decode cX6_failsWith 67 = .ok (.goto 5, 3) := by decide +kernel
theorem dX6_failsWith_70 : decode cX6_failsWith 70 = .ok (.iload 5, 2) := by decide +kernel
theorem dX6_failsWith_72 : decode cX6_failsWith 72 = .ok (.invokevirtual 80, 3) := by decide +kernel
theorem dX6_failsWith_75 : decode cX6_failsWith 75 = .ok (.ifCond .eq 5, 3) := by decide +kernel
theorem dX6_failsWith_78 : decode cX6_failsWith 78 = .ok (.iconst 0, 1) := by decide +kernel
theorem dX6_failsWith_79 : decode cX6_failsWith 79 = .ok (.ireturn, 1) := by decide +kernel
theorem dX6_failsWith_80 : decode cX6_failsWith 80 = .ok (.aload_n 0, 1) := by decide +kernel
theorem dX6_failsWith_81 : decode cX6_failsWith 81 = .ok (.aload_n 0, 1) := by decide +kernel
theorem dX6_failsWith_82 : decode cX6_failsWith 82 = .ok (.getfield 57, 3) := by decide +kernel
theorem dX6_failsWith_85 : decode cX6_failsWith 85 = .ok (.iload_n 2, 1) := by decide +kernel
theorem dX6_failsWith_86 : decode cX6_failsWith 86 = .ok (.iaload, 1) := by decide +kernel
theorem dX6_failsWith_87 : decode cX6_failsWith 87 = .ok (.invokevirtual 136, 3) := by decide +kernel
theorem dX6_failsWith_90 : decode cX6_failsWith 90 = .ok (.pop, 1) := by decide +kernel
theorem dX6_failsWith_91 : decode cX6_failsWith 91 = .ok (.aload_n 0, 1) := by decide +kernel
theorem dX6_failsWith_92 : decode cX6_failsWith 92 = .ok (.getfield 63, 3) := by decide +kernel
theorem dX6_failsWith_95 : decode cX6_failsWith 95 = .ok (.aload_n 0, 1) := by decide +kernel
theorem dX6_failsWith_96 : decode cX6_failsWith 96 = .ok (.getfield 57, 3) := by decide +kernel
theorem dX6_failsWith_99 : decode cX6_failsWith 99 = .ok (.iload_n 1, 1) := by decide +kernel
theorem dX6_failsWith_100 : decode cX6_failsWith 100 = .ok (.iaload, 1) := by decide +kernel
theorem dX6_failsWith_101 : decode cX6_failsWith 101 = .ok (.baload, 1) := by decide +kernel
theorem dX6_failsWith_102 : decode cX6_failsWith 102 = .ok (.ireturn, 1) := by decide +kernel
set_option maxRecDepth 20000 in
theorem ggX6_wish_X6_in : GoodIn wsX6_wish wsX6_in := goodIn_r _ [9] (by decide +kernel) (by decide +kernel)
set_option maxRecDepth 20000 in
theorem gX6_wish_X6_in : GoodIn wsX6_wish (va_wsS RX6 73 yX6_in wsX6_in) := goodIn_app (goodIn_of _ (by decide +kernel)) ggX6_wish_X6_in
set_option maxRecDepth 20000 in
theorem ggX6_wish_X6_refused : GoodIn wsX6_wish wsX6_refused := goodIn_r _ [13, 14, 15, 16, 17, 18, 19, 20, 21, 22, 23, 24, 25, 26, 27, 28, 29, 30, 31, 32, 33, 34, 35, 36, 37] (by decide +kernel) (by decide +kernel)
set_option maxRecDepth 20000 in
theorem gX6_wish_X6_refused : GoodIn wsX6_wish (wsV RX6 80 RX6 yX6_refused wsX6_refused) := goodIn_app (goodIn_of _ (by decide +kernel)) ggX6_wish_X6_refused
theorem dX6_wish_0 : decode cX6_wish 0 = .ok (.iload_n 1, 1) := by decide +kernel
theorem dX6_wish_1 : decode cX6_wish 1 = .ok (.iconst 0, 1) := by decide +kernel
theorem dX6_wish_2 : decode cX6_wish 2 = .ok (.iconst 2, 1) := by decide +kernel
theorem dX6_wish_3 : decode cX6_wish 3 = .ok (.invokestatic 73, 3) := by decide +kernel
theorem dX6_wish_6 : decode cX6_wish 6 = .ok (.ifCond .eq 37, 3) := by decide +kernel
theorem dX6_wish_9 : decode cX6_wish 9 = .ok (.iload_n 2, 1) := by decide +kernel
theorem dX6_wish_10 : decode cX6_wish 10 = .ok (.iconst 1, 1) := by decide +kernel
theorem dX6_wish_11 : decode cX6_wish 11 = .ok (.bipush 99, 2) := by decide +kernel
theorem dX6_wish_13 : decode cX6_wish 13 = .ok (.invokestatic 73, 3) := by decide +kernel
theorem dX6_wish_16 : decode cX6_wish 16 = .ok (.ifCond .eq 27, 3) := by decide +kernel
theorem dX6_wish_19 : decode cX6_wish 19 = .ok (.iload_n 3, 1) := by decide +kernel
theorem dX6_wish_20 : decode cX6_wish 20 = .ok (.iconst 0, 1) := by decide +kernel
theorem dX6_wish_21 : decode cX6_wish 21 = .ok (.iconst 1, 1) := by decide +kernel
theorem dX6_wish_22 : decode cX6_wish 22 = .ok (.invokestatic 73, 3) := by decide +kernel
theorem dX6_wish_25 : decode cX6_wish 25 = .ok (.ifCond .eq 18, 3) := by decide +kernel
theorem dX6_wish_28 : decode cX6_wish 28 = .ok (.iload 4, 2) := by decide +kernel
theorem dX6_wish_30 : decode cX6_wish 30 = .ok (.iconst 0, 1) := by decide +kernel
theorem dX6_wish_31 : decode cX6_wish 31 = .ok (.bipush 99, 2) := by decide +kernel
theorem dX6_wish_33 : decode cX6_wish 33 = .ok (.invokestatic 73, 3) := by decide +kernel
theorem dX6_wish_36 : decode cX6_wish 36 = .ok (.ifCond .eq 7, 3) := by decide +kernel
theorem dX6_wish_39 : decode cX6_wish 39 = .ok (.iconst 1, 1) := by decide +kernel
theorem dX6_wish_40 : decode cX6_wish 40 = .ok (.goto 4, 3) := by decide +kernel
theorem dX6_wish_43 : decode cX6_wish 43 = .ok (.iconst 0, 1) := by decide +kernel
theorem dX6_wish_44 : decode cX6_wish 44 = .ok (.istore 5, 2) := by decide +kernel
theorem dX6_wish_46 : decode cX6_wish 46 = .ok (.aload_n 0, 1) := by decide +kernel
theorem dX6_wish_47 : decode cX6_wish 47 = .ok (.iload 5, 2) := by decide +kernel
theorem dX6_wish_49 : decode cX6_wish 49 = .ok (.ifCond .ne 7, 3) := by decide +kernel
theorem dX6_wish_52 : decode cX6_wish 52 = .ok (.iconst 1, 1) := by decide +kernel
theorem dX6_wish_53 : decode cX6_wish 53 = .ok (.goto 17, 3) := by decide +kernel
theorem dX6_wish_56 : decode cX6_wish 56 = .ok (.aload_n 0, 1) := by decide +kernel
theorem dX6_wish_57 : decode cX6_wish 57 = .ok (.getfield 139, 3) := by decide +kernel
theorem dX6_wish_60 : decode cX6_wish 60 = .ok (.bipush 20, 2) := by decide +kernel
theorem dX6_wish_62 : decode cX6_wish 62 = .ok (.if_icmp .ne 7, 3) := by decide +kernel
theorem dX6_wish_65 : decode cX6_wish 65 = .ok (.iconst 2, 1) := by decide +kernel
theorem dX6_wish_66 : decode cX6_wish 66 = .ok (.goto 4, 3) := by decide +kernel
theorem dX6_wish_69 : decode cX6_wish 69 = .ok (.iconst 0, 1) := by decide +kernel
theorem dX6_wish_70 : decode cX6_wish 70 = .ok (.invokevirtual 80, 3) := by decide +kernel
theorem dX6_wish_73 : decode cX6_wish 73 = .ok (.ifCond .eq 5, 3) := by decide +kernel
theorem dX6_wish_76 : decode cX6_wish 76 = .ok (.iconst 0, 1) := by decide +kernel
theorem dX6_wish_77 : decode cX6_wish 77 = .ok (.ireturn, 1) := by decide +kernel
theorem dX6_wish_78 : decode cX6_wish 78 = .ok (.aload_n 0, 1) := by decide +kernel
theorem dX6_wish_79 : decode cX6_wish 79 = .ok (.getfield 45, 3) := by decide +kernel
theorem dX6_wish_82 : decode cX6_wish 82 = .ok (.aload_n 0, 1) := by decide +kernel
theorem dX6_wish_83 : decode cX6_wish 83 = .ok (.getfield 139, 3) := by decide +kernel
theorem dX6_wish_86 : decode cX6_wish 86 = .ok (.iload_n 1, 1) := by decide +kernel
theorem dX6_wish_87 : decode cX6_wish 87 = .ok (.iastore, 1) := by decide +kernel
theorem dX6_wish_88 : decode cX6_wish 88 = .ok (.aload_n 0, 1) := by decide +kernel
theorem dX6_wish_89 : decode cX6_wish 89 = .ok (.getfield 48, 3) := by decide +kernel
theorem dX6_wish_92 : decode cX6_wish 92 = .ok (.aload_n 0, 1) := by decide +kernel
theorem dX6_wish_93 : decode cX6_wish 93 = .ok (.getfield 139, 3) := by decide +kernel
theorem dX6_wish_96 : decode cX6_wish 96 = .ok (.iload_n 2, 1) := by decide +kernel
theorem dX6_wish_97 : decode cX6_wish 97 = .ok (.iastore, 1) := by decide +kernel
theorem dX6_wish_98 : decode cX6_wish 98 = .ok (.aload_n 0, 1) := by decide +kernel
theorem dX6_wish_99 : decode cX6_wish 99 = .ok (.getfield 51, 3) := by decide +kernel
theorem dX6_wish_102 : decode cX6_wish 102 = .ok (.aload_n 0, 1) := by decide +kernel
theorem dX6_wish_103 : decode cX6_wish 103 = .ok (.getfield 139, 3) := by decide +kernel
theorem dX6_wish_106 : decode cX6_wish 106 = .ok (.iload_n 3, 1) := by decide +kernel
theorem dX6_wish_107 : decode cX6_wish 107 = .ok (.iastore, 1) := by decide +kernel
theorem dX6_wish_108 : decode cX6_wish 108 = .ok (.aload_n 0, 1) := by decide +kernel
theorem dX6_wish_109 : decode cX6_wish 109 = .ok (.getfield 54, 3) := by decide +kernel
theorem dX6_wish_112 : decode cX6_wish 112 = .ok (.aload_n 0, 1) := by decide +kernel
theorem dX6_wish_113 : decode cX6_wish 113 = .ok (.getfield 139, 3) := by decide +kernel
theorem dX6_wish_116 : decode cX6_wish 116 = .ok (.iload 4, 2) := by decide +kernel
theorem dX6_wish_118 : decode cX6_wish 118 = .ok (.iastore, 1) := by decide +kernel
theorem dX6_wish_119 : decode cX6_wish 119 = .ok (.aload_n 0, 1) := by decide +kernel
theorem dX6_wish_120 : decode cX6_wish 120 = .ok (.dup, 1) := by decide +kernel
theorem dX6_wish_121 : decode cX6_wish 121 = .ok (.getfield 139, 3) := by decide +kernel
theorem dX6_wish_124 : decode cX6_wish 124 = .ok (.iconst 1, 1) := by decide +kernel
theorem dX6_wish_125 : decode cX6_wish 125 = .ok (.iadd, 1) := by decide +kernel
theorem dX6_wish_126 : decode cX6_wish 126 = .ok (.putfield 139, 3) := by decide +kernel
theorem dX6_wish_129 : decode cX6_wish 129 = .ok (.aload_n 0, 1) := by decide +kernel
theorem dX6_wish_130 : decode cX6_wish 130 = .ok (.getfield 139, 3) := by decide +kernel
theorem dX6_wish_133 : decode cX6_wish 133 = .ok (.iconst 1, 1) := by decide +kernel
theorem dX6_wish_134 : decode cX6_wish 134 = .ok (.isub, 1) := by decide +kernel
theorem dX6_wish_135 : decode cX6_wish 135 = .ok (.ireturn, 1) := by decide +kernel
set_option maxRecDepth 20000 in
theorem ggX6_differing_X6_in : GoodIn wsX6_differing wsX6_in := goodIn_r _ [12] (by decide +kernel) (by decide +kernel)
set_option maxRecDepth 20000 in
theorem gX6_differing_X6_in : GoodIn wsX6_differing (va_wsS RX6 73 yX6_in wsX6_in) := goodIn_app (goodIn_of _ (by decide +kernel)) ggX6_differing_X6_in
set_option maxRecDepth 20000 in
theorem ggX6_differing_X6_isDay : GoodIn wsX6_differing wsX6_isDay := goodIn_r _ [15, 9, 10, 11, 12] (by decide +kernel) (by decide +kernel)
set_option maxRecDepth 20000 in
theorem gX6_differing_X6_isDay : GoodIn wsX6_differing (va_wsS RX6 91 yX6_isDay wsX6_isDay) := goodIn_app (goodIn_of _ (by decide +kernel)) ggX6_differing_X6_isDay
set_option maxRecDepth 20000 in
theorem ggX6_differing_X6_refused : GoodIn wsX6_differing wsX6_refused := goodIn_r _ [19, 20, 60, 61, 62, 63, 64, 65, 66, 67, 68, 69, 70, 71, 72, 73, 74, 75, 76, 77, 78, 79, 80, 81, 82] (by decide +kernel) (by decide +kernel)
set_option maxRecDepth 20000 in
theorem gX6_differing_X6_refused : GoodIn wsX6_differing (wsV RX6 80 RX6 yX6_refused wsX6_refused) := goodIn_app (goodIn_of _ (by decide +kernel)) ggX6_differing_X6_refused
set_option maxRecDepth 20000 in
theorem ggX6_differing_X6_lay : GoodIn wsX6_differing wsX6_lay := goodIn_r _ [24, 2, 3, 25, 26, 27, 11, 28, 29, 30, 31, 32, 33, 34, 35, 36, 37, 4, 38, 39, 40, 41, 42, 43, 44, 45, 60, 61, 62, 63, 64, 65, 66, 67, 68, 69, 70, 71, 72, 73, 74, 75, 76, 77, 78, 79, 80, 81, 82] (by decide +kernel) (by decide +kernel)
set_option maxRecDepth 20000 in
theorem gX6_differing_X6_lay : GoodIn wsX6_differing (wsV RX6 108 RX6 yX6_lay wsX6_lay) := goodIn_app (goodIn_of _ (by decide +kernel)) ggX6_differing_X6_lay
set_option maxRecDepth 20000 in
theorem ggX6_differing_X6_valueOf : GoodIn wsX6_differing wsX6_valueOf := goodIn_r _ [49, 2, 3, 50, 51, 52, 53, 11, 54, 32, 30, 55, 56, 57, 58, 59, 60, 61, 62, 63, 64, 65, 66, 67, 68, 69, 70, 71, 72, 73, 74, 75, 76, 77, 78, 79, 80, 81, 82] (by decide +kernel) (by decide +kernel)
set_option maxRecDepth 20000 in
theorem gX6_differing_X6_valueOf : GoodIn wsX6_differing (wsV RX6 123 RX6 yX6_valueOf wsX6_valueOf) := goodIn_app (goodIn_of _ (by decide +kernel)) ggX6_differing_X6_valueOf
theorem dX6_differing_0 : decode cX6_differing 0 = .ok (.aload_n 0, 1) := by decide +kernel
theorem dX6_differing_1 : decode cX6_differing 1 = .ok (.iload_n 1, 1) := by decide +kernel
theorem dX6_differing_2 : decode cX6_differing 2 = .ok (.iconst 0, 1) := by decide +kernel
theorem dX6_differing_3 : decode cX6_differing 3 = .ok (.aload_n 0, 1) := by decide +kernel
theorem dX6_differing_4 : decode cX6_differing 4 = .ok (.getfield 139, 3) := by decide +kernel
theorem dX6_differing_7 : decode cX6_differing 7 = .ok (.iconst 1, 1) := by decide +kernel
theorem dX6_differing_8 : decode cX6_differing 8 = .ok (.isub, 1) := by decide +kernel
theorem dX6_differing_9 : decode cX6_differing 9 = .ok (.invokestatic 73, 3) := by decide +kernel
theorem dX6_differing_12 : decode cX6_differing 12 = .ok (.ifCond .ne 7, 3) := by decide +kernel
theorem dX6_differing_15 : decode cX6_differing 15 = .ok (.iconst 1, 1) := by decide +kernel
theorem dX6_differing_16 : decode cX6_differing 16 = .ok (.goto 15, 3) := by decide +kernel
theorem dX6_differing_19 : decode cX6_differing 19 = .ok (.iload_n 2, 1) := by decide +kernel
theorem dX6_differing_20 : decode cX6_differing 20 = .ok (.invokestatic 91, 3) := by decide +kernel
theorem dX6_differing_23 : decode cX6_differing 23 = .ok (.ifCond .eq 7, 3) := by decide +kernel
theorem dX6_differing_26 : decode cX6_differing 26 = .ok (.iconst 0, 1) := by decide +kernel
theorem dX6_differing_27 : decode cX6_differing 27 = .ok (.goto 4, 3) := by decide +kernel
theorem dX6_differing_30 : decode cX6_differing 30 = .ok (.iconst 2, 1) := by decide +kernel
theorem dX6_differing_31 : decode cX6_differing 31 = .ok (.invokevirtual 80, 3) := by decide +kernel
theorem dX6_differing_34 : decode cX6_differing 34 = .ok (.ifCond .eq 5, 3) := by decide +kernel
theorem dX6_differing_37 : decode cX6_differing 37 = .ok (.iconst 0, 1) := by decide +kernel
theorem dX6_differing_38 : decode cX6_differing 38 = .ok (.ireturn, 1) := by decide +kernel
theorem dX6_differing_39 : decode cX6_differing 39 = .ok (.aload_n 0, 1) := by decide +kernel
theorem dX6_differing_40 : decode cX6_differing 40 = .ok (.iload_n 2, 1) := by decide +kernel
theorem dX6_differing_41 : decode cX6_differing 41 = .ok (.invokevirtual 108, 3) := by decide +kernel
theorem dX6_differing_44 : decode cX6_differing 44 = .ok (.iconst 0, 1) := by decide +kernel
theorem dX6_differing_45 : decode cX6_differing 45 = .ok (.istore_n 3, 1) := by decide +kernel
theorem dX6_differing_46 : decode cX6_differing 46 = .ok (.iconst 0, 1) := by decide +kernel
theorem dX6_differing_47 : decode cX6_differing 47 = .ok (.istore 4, 2) := by decide +kernel
theorem dX6_differing_49 : decode cX6_differing 49 = .ok (.iload 4, 2) := by decide +kernel
theorem dX6_differing_51 : decode cX6_differing 51 = .ok (.aload_n 0, 1) := by decide +kernel
theorem dX6_differing_52 : decode cX6_differing 52 = .ok (.getfield 70, 3) := by decide +kernel
theorem dX6_differing_55 : decode cX6_differing 55 = .ok (.if_icmp .ge 125, 3) := by decide +kernel
theorem dX6_differing_58 : decode cX6_differing 58 = .ok (.iconst 0, 1) := by decide +kernel
theorem dX6_differing_59 : decode cX6_differing 59 = .ok (.istore 5, 2) := by decide +kernel
theorem dX6_differing_61 : decode cX6_differing 61 = .ok (.iconst 0, 1) := by decide +kernel
theorem dX6_differing_62 : decode cX6_differing 62 = .ok (.istore 6, 2) := by decide +kernel
theorem dX6_differing_64 : decode cX6_differing 64 = .ok (.iload 6, 2) := by decide +kernel
theorem dX6_differing_66 : decode cX6_differing 66 = .ok (.aload_n 0, 1) := by decide +kernel
theorem dX6_differing_67 : decode cX6_differing 67 = .ok (.getfield 70, 3) := by decide +kernel
theorem dX6_differing_70 : decode cX6_differing 70 = .ok (.if_icmp .ge 70, 3) := by decide +kernel
theorem dX6_differing_73 : decode cX6_differing 73 = .ok (.iload 5, 2) := by decide +kernel
theorem dX6_differing_75 : decode cX6_differing 75 = .ok (.ifCond .ne 52, 3) := by decide +kernel
theorem dX6_differing_78 : decode cX6_differing 78 = .ok (.aload_n 0, 1) := by decide +kernel
theorem dX6_differing_79 : decode cX6_differing 79 = .ok (.getfield 57, 3) := by decide +kernel
theorem dX6_differing_82 : decode cX6_differing 82 = .ok (.iload 4, 2) := by decide +kernel
theorem dX6_differing_84 : decode cX6_differing 84 = .ok (.iaload, 1) := by decide +kernel
theorem dX6_differing_85 : decode cX6_differing 85 = .ok (.iload 4, 2) := by decide +kernel
theorem dX6_differing_87 : decode cX6_differing 87 = .ok (.if_icmp .ne 44, 3) := by decide +kernel
theorem dX6_differing_90 : decode cX6_differing 90 = .ok (.aload_n 0, 1) := by decide +kernel
theorem dX6_differing_91 : decode cX6_differing 91 = .ok (.getfield 57, 3) := by decide +kernel
theorem dX6_differing_94 : decode cX6_differing 94 = .ok (.iload 6, 2) := by decide +kernel
theorem dX6_differing_96 : decode cX6_differing 96 = .ok (.iaload, 1) := by decide +kernel
theorem dX6_differing_97 : decode cX6_differing 97 = .ok (.iload 4, 2) := by decide +kernel
theorem dX6_differing_99 : decode cX6_differing 99 = .ok (.if_icmp .ne 32, 3) := by decide +kernel
theorem dX6_differing_102 : decode cX6_differing 102 = .ok (.aload_n 0, 1) := by decide +kernel
theorem dX6_differing_103 : decode cX6_differing 103 = .ok (.getfield 22, 3) := by decide +kernel
theorem dX6_differing_106 : decode cX6_differing 106 = .ok (.iconst 3, 1) := by decide +kernel
theorem dX6_differing_107 : decode cX6_differing 107 = .ok (.iload 6, 2) := by decide +kernel
theorem dX6_differing_109 : decode cX6_differing 109 = .ok (.imul, 1) := by decide +kernel
theorem dX6_differing_110 : decode cX6_differing 110 = .ok (.aload_n 0, 1) := by decide +kernel
theorem dX6_differing_111 : decode cX6_differing 111 = .ok (.getfield 45, 3) := by decide +kernel
theorem dX6_differing_114 : decode cX6_differing 114 = .ok (.iload_n 1, 1) := by decide +kernel
theorem dX6_differing_115 : decode cX6_differing 115 = .ok (.iaload, 1) := by decide +kernel
theorem dX6_differing_116 : decode cX6_differing 116 = .ok (.iadd, 1) := by decide +kernel
theorem dX6_differing_117 : decode cX6_differing 117 = .ok (.iaload, 1) := by decide +kernel
theorem dX6_differing_118 : decode cX6_differing 118 = .ok (.aload_n 0, 1) := by decide +kernel
theorem dX6_differing_119 : decode cX6_differing 119 = .ok (.getfield 48, 3) := by decide +kernel
theorem dX6_differing_122 : decode cX6_differing 122 = .ok (.iload_n 1, 1) := by decide +kernel
theorem dX6_differing_123 : decode cX6_differing 123 = .ok (.iaload, 1) := by decide +kernel
theorem dX6_differing_124 : decode cX6_differing 124 = .ok (.if_icmp .ne 7, 3) := by decide +kernel
theorem dX6_differing_127 : decode cX6_differing 127 = .ok (.iconst 1, 1) := by decide +kernel
theorem dX6_differing_128 : decode cX6_differing 128 = .ok (.goto 4, 3) := by decide +kernel
theorem dX6_differing_131 : decode cX6_differing 131 = .ok (.iconst 0, 1) := by decide +kernel
theorem dX6_differing_132 : decode cX6_differing 132 = .ok (.istore 5, 2) := by decide +kernel
theorem dX6_differing_134 : decode cX6_differing 134 = .ok (.iinc 6 1, 3) := by decide +kernel
theorem dX6_differing_137 : decode cX6_differing 137 = .ok (.goto (-73), 3) := by decide +kernel
theorem dX6_differing_140 : decode cX6_differing 140 = .ok (.iload_n 3, 1) := by decide +kernel
theorem dX6_differing_141 : decode cX6_differing 141 = .ok (.iload 5, 2) := by decide +kernel
theorem dX6_differing_143 : decode cX6_differing 143 = .ok (.ifCond .eq 28, 3) := by decide +kernel
theorem dX6_differing_146 : decode cX6_differing 146 = .ok (.aload_n 0, 1) := by decide +kernel
theorem dX6_differing_147 : decode cX6_differing 147 = .ok (.iload 4, 2) := by decide +kernel
theorem dX6_differing_149 : decode cX6_differing 149 = .ok (.aload_n 0, 1) := by decide +kernel
theorem dX6_differing_150 : decode cX6_differing 150 = .ok (.getfield 51, 3) := by decide +kernel
theorem dX6_differing_153 : decode cX6_differing 153 = .ok (.iload_n 1, 1) := by decide +kernel
theorem dX6_differing_154 : decode cX6_differing 154 = .ok (.iaload, 1) := by decide +kernel
theorem dX6_differing_155 : decode cX6_differing 155 = .ok (.invokevirtual 123, 3) := by decide +kernel
theorem dX6_differing_158 : decode cX6_differing 158 = .ok (.aload_n 0, 1) := by decide +kernel
theorem dX6_differing_159 : decode cX6_differing 159 = .ok (.getfield 54, 3) := by decide +kernel
theorem dX6_differing_162 : decode cX6_differing 162 = .ok (.iload_n 1, 1) := by decide +kernel
theorem dX6_differing_163 : decode cX6_differing 163 = .ok (.iaload, 1) := by decide +kernel
theorem dX6_differing_164 : decode cX6_differing 164 = .ok (.if_icmp .eq 7, 3) := by decide +kernel
theorem dX6_differing_167 : decode cX6_differing 167 = .ok (.iconst 1, 1) := by decide +kernel
theorem dX6_differing_168 : decode cX6_differing 168 = .ok (.goto 4, 3) := by decide +kernel
theorem dX6_differing_171 : decode cX6_differing 171 = .ok (.iconst 0, 1) := by decide +kernel
theorem dX6_differing_172 : decode cX6_differing 172 = .ok (.iadd, 1) := by decide +kernel
theorem dX6_differing_173 : decode cX6_differing 173 = .ok (.istore_n 3, 1) := by decide +kernel
theorem dX6_differing_174 : decode cX6_differing 174 = .ok (.iinc 4 1, 3) := by decide +kernel
theorem dX6_differing_177 : decode cX6_differing 177 = .ok (.goto (-128), 3) := by decide +kernel
theorem dX6_differing_180 : decode cX6_differing 180 = .ok (.iload_n 3, 1) := by decide +kernel
theorem dX6_differing_181 : decode cX6_differing 181 = .ok (.ireturn, 1) := by decide +kernel
set_option maxRecDepth 20000 in
theorem ggX6_changed_X6_in : GoodIn wsX6_changed wsX6_in := goodIn_r _ [7] (by decide +kernel) (by decide +kernel)
set_option maxRecDepth 20000 in
theorem gX6_changed_X6_in : GoodIn wsX6_changed (va_wsS RX6 73 yX6_in wsX6_in) := goodIn_app (goodIn_of _ (by decide +kernel)) ggX6_changed_X6_in
set_option maxRecDepth 20000 in
theorem ggX6_changed_X6_isDay : GoodIn wsX6_changed wsX6_isDay := goodIn_r _ [10, 4, 5, 6, 7] (by decide +kernel) (by decide +kernel)
set_option maxRecDepth 20000 in
theorem gX6_changed_X6_isDay : GoodIn wsX6_changed (va_wsS RX6 91 yX6_isDay wsX6_isDay) := goodIn_app (goodIn_of _ (by decide +kernel)) ggX6_changed_X6_isDay
set_option maxRecDepth 20000 in
theorem ggX6_changed_X6_refused : GoodIn wsX6_changed wsX6_refused := goodIn_r _ [14, 15, 56, 57, 58, 59, 60, 61, 62, 63, 64, 65, 66, 67, 68, 69, 70, 71, 72, 73, 74, 75, 76, 77, 78] (by decide +kernel) (by decide +kernel)
set_option maxRecDepth 20000 in
theorem gX6_changed_X6_refused : GoodIn wsX6_changed (wsV RX6 80 RX6 yX6_refused wsX6_refused) := goodIn_app (goodIn_of _ (by decide +kernel)) ggX6_changed_X6_refused
set_option maxRecDepth 20000 in
theorem ggX6_changed_X6_lay : GoodIn wsX6_changed wsX6_lay := goodIn_r _ [19, 1, 3, 20, 21, 22, 6, 23, 24, 25, 26, 27, 28, 29, 30, 31, 32, 33, 34, 35, 36, 37, 38, 39, 40, 41, 56, 57, 58, 59, 60, 61, 62, 63, 64, 65, 66, 67, 68, 69, 70, 71, 72, 73, 74, 75, 76, 77, 78] (by decide +kernel) (by decide +kernel)
set_option maxRecDepth 20000 in
theorem gX6_changed_X6_lay : GoodIn wsX6_changed (wsV RX6 108 RX6 yX6_lay wsX6_lay) := goodIn_app (goodIn_of _ (by decide +kernel)) ggX6_changed_X6_lay
set_option maxRecDepth 20000 in
theorem ggX6_changed_X6_valueOf : GoodIn wsX6_changed wsX6_valueOf := goodIn_r _ [45, 1, 3, 46, 47, 48, 49, 6, 50, 27, 25, 51, 52, 53, 54, 55, 56, 57, 58, 59, 60, 61, 62, 63, 64, 65, 66, 67, 68, 69, 70, 71, 72, 73, 74, 75, 76, 77, 78] (by decide +kernel) (by decide +kernel)
set_option maxRecDepth 20000 in
theorem gX6_changed_X6_valueOf : GoodIn wsX6_changed (wsV RX6 123 RX6 yX6_valueOf wsX6_valueOf) := goodIn_app (goodIn_of _ (by decide +kernel)) ggX6_changed_X6_valueOf
theorem dX6_changed_0 : decode cX6_changed 0 = .ok (.aload_n 0, 1) := by decide +kernel
theorem dX6_changed_1 : decode cX6_changed 1 = .ok (.iload_n 1, 1) := by decide +kernel
theorem dX6_changed_2 : decode cX6_changed 2 = .ok (.iconst 0, 1) := by decide +kernel
theorem dX6_changed_3 : decode cX6_changed 3 = .ok (.iconst 1, 1) := by decide +kernel
theorem dX6_changed_4 : decode cX6_changed 4 = .ok (.invokestatic 73, 3) := by decide +kernel
theorem dX6_changed_7 : decode cX6_changed 7 = .ok (.ifCond .eq 21, 3) := by decide +kernel
theorem dX6_changed_10 : decode cX6_changed 10 = .ok (.iload_n 2, 1) := by decide +kernel
theorem dX6_changed_11 : decode cX6_changed 11 = .ok (.invokestatic 91, 3) := by decide +kernel
theorem dX6_changed_14 : decode cX6_changed 14 = .ok (.ifCond .eq 14, 3) := by decide +kernel
theorem dX6_changed_17 : decode cX6_changed 17 = .ok (.iload_n 3, 1) := by decide +kernel
theorem dX6_changed_18 : decode cX6_changed 18 = .ok (.invokestatic 91, 3) := by decide +kernel
theorem dX6_changed_21 : decode cX6_changed 21 = .ok (.ifCond .eq 7, 3) := by decide +kernel
theorem dX6_changed_24 : decode cX6_changed 24 = .ok (.iconst 0, 1) := by decide +kernel
theorem dX6_changed_25 : decode cX6_changed 25 = .ok (.goto 4, 3) := by decide +kernel
theorem dX6_changed_28 : decode cX6_changed 28 = .ok (.iconst 1, 1) := by decide +kernel
theorem dX6_changed_29 : decode cX6_changed 29 = .ok (.invokevirtual 80, 3) := by decide +kernel
theorem dX6_changed_32 : decode cX6_changed 32 = .ok (.ifCond .eq 5, 3) := by decide +kernel
theorem dX6_changed_35 : decode cX6_changed 35 = .ok (.iconst 0, 1) := by decide +kernel
theorem dX6_changed_36 : decode cX6_changed 36 = .ok (.ireturn, 1) := by decide +kernel
theorem dX6_changed_37 : decode cX6_changed 37 = .ok (.aload_n 0, 1) := by decide +kernel
theorem dX6_changed_38 : decode cX6_changed 38 = .ok (.iload_n 2, 1) := by decide +kernel
theorem dX6_changed_39 : decode cX6_changed 39 = .ok (.invokevirtual 108, 3) := by decide +kernel
theorem dX6_changed_42 : decode cX6_changed 42 = .ok (.iconst 0, 1) := by decide +kernel
theorem dX6_changed_43 : decode cX6_changed 43 = .ok (.istore 4, 2) := by decide +kernel
theorem dX6_changed_45 : decode cX6_changed 45 = .ok (.iload 4, 2) := by decide +kernel
theorem dX6_changed_47 : decode cX6_changed 47 = .ok (.aload_n 0, 1) := by decide +kernel
theorem dX6_changed_48 : decode cX6_changed 48 = .ok (.getfield 70, 3) := by decide +kernel
theorem dX6_changed_51 : decode cX6_changed 51 = .ok (.if_icmp .ge 43, 3) := by decide +kernel
theorem dX6_changed_54 : decode cX6_changed 54 = .ok (.aload_n 0, 1) := by decide +kernel
theorem dX6_changed_55 : decode cX6_changed 55 = .ok (.getfield 60, 3) := by decide +kernel
theorem dX6_changed_58 : decode cX6_changed 58 = .ok (.iload 4, 2) := by decide +kernel
theorem dX6_changed_60 : decode cX6_changed 60 = .ok (.aload_n 0, 1) := by decide +kernel
theorem dX6_changed_61 : decode cX6_changed 61 = .ok (.getfield 57, 3) := by decide +kernel
theorem dX6_changed_64 : decode cX6_changed 64 = .ok (.iload 4, 2) := by decide +kernel
theorem dX6_changed_66 : decode cX6_changed 66 = .ok (.iaload, 1) := by decide +kernel
theorem dX6_changed_67 : decode cX6_changed 67 = .ok (.ifCond .ge 8, 3) := by decide +kernel
theorem dX6_changed_70 : decode cX6_changed 70 = .ok (.bipush (-2), 2) := by decide +kernel
theorem dX6_changed_72 : decode cX6_changed 72 = .ok (.goto 15, 3) := by decide +kernel
theorem dX6_changed_75 : decode cX6_changed 75 = .ok (.aload_n 0, 1) := by decide +kernel
theorem dX6_changed_76 : decode cX6_changed 76 = .ok (.aload_n 0, 1) := by decide +kernel
theorem dX6_changed_77 : decode cX6_changed 77 = .ok (.getfield 57, 3) := by decide +kernel
theorem dX6_changed_80 : decode cX6_changed 80 = .ok (.iload 4, 2) := by decide +kernel
theorem dX6_changed_82 : decode cX6_changed 82 = .ok (.iaload, 1) := by decide +kernel
theorem dX6_changed_83 : decode cX6_changed 83 = .ok (.iload_n 1, 1) := by decide +kernel
theorem dX6_changed_84 : decode cX6_changed 84 = .ok (.invokevirtual 123, 3) := by decide +kernel
theorem dX6_changed_87 : decode cX6_changed 87 = .ok (.iastore, 1) := by decide +kernel
theorem dX6_changed_88 : decode cX6_changed 88 = .ok (.iinc 4 1, 3) := by decide +kernel
theorem dX6_changed_91 : decode cX6_changed 91 = .ok (.goto (-46), 3) := by decide +kernel
theorem dX6_changed_94 : decode cX6_changed 94 = .ok (.aload_n 0, 1) := by decide +kernel
theorem dX6_changed_95 : decode cX6_changed 95 = .ok (.iload_n 3, 1) := by decide +kernel
theorem dX6_changed_96 : decode cX6_changed 96 = .ok (.invokevirtual 108, 3) := by decide +kernel
theorem dX6_changed_99 : decode cX6_changed 99 = .ok (.iconst 0, 1) := by decide +kernel
theorem dX6_changed_100 : decode cX6_changed 100 = .ok (.istore 4, 2) := by decide +kernel
theorem dX6_changed_102 : decode cX6_changed 102 = .ok (.iconst 0, 1) := by decide +kernel
theorem dX6_changed_103 : decode cX6_changed 103 = .ok (.istore 5, 2) := by decide +kernel
theorem dX6_changed_105 : decode cX6_changed 105 = .ok (.iload 5, 2) := by decide +kernel
theorem dX6_changed_107 : decode cX6_changed 107 = .ok (.aload_n 0, 1) := by decide +kernel
theorem dX6_changed_108 : decode cX6_changed 108 = .ok (.getfield 70, 3) := by decide +kernel
theorem dX6_changed_111 : decode cX6_changed 111 = .ok (.if_icmp .ge 63, 3) := by decide +kernel
theorem dX6_changed_114 : decode cX6_changed 114 = .ok (.iload 4, 2) := by decide +kernel
theorem dX6_changed_116 : decode cX6_changed 116 = .ok (.aload_n 0, 1) := by decide +kernel
theorem dX6_changed_117 : decode cX6_changed 117 = .ok (.getfield 57, 3) := by decide +kernel
theorem dX6_changed_120 : decode cX6_changed 120 = .ok (.iload 5, 2) := by decide +kernel
theorem dX6_changed_122 : decode cX6_changed 122 = .ok (.iaload, 1) := by decide +kernel
theorem dX6_changed_123 : decode cX6_changed 123 = .ok (.ifCond .lt 41, 3) := by decide +kernel
theorem dX6_changed_126 : decode cX6_changed 126 = .ok (.aload_n 0, 1) := by decide +kernel
theorem dX6_changed_127 : decode cX6_changed 127 = .ok (.getfield 60, 3) := by decide +kernel
theorem dX6_changed_130 : decode cX6_changed 130 = .ok (.iload 5, 2) := by decide +kernel
theorem dX6_changed_132 : decode cX6_changed 132 = .ok (.iaload, 1) := by decide +kernel
theorem dX6_changed_133 : decode cX6_changed 133 = .ok (.bipush (-2), 2) := by decide +kernel
theorem dX6_changed_135 : decode cX6_changed 135 = .ok (.if_icmp .le 29, 3) := by decide +kernel
theorem dX6_changed_138 : decode cX6_changed 138 = .ok (.aload_n 0, 1) := by decide +kernel
theorem dX6_changed_139 : decode cX6_changed 139 = .ok (.aload_n 0, 1) := by decide +kernel
theorem dX6_changed_140 : decode cX6_changed 140 = .ok (.getfield 57, 3) := by decide +kernel
theorem dX6_changed_143 : decode cX6_changed 143 = .ok (.iload 5, 2) := by decide +kernel
theorem dX6_changed_145 : decode cX6_changed 145 = .ok (.iaload, 1) := by decide +kernel
theorem dX6_changed_146 : decode cX6_changed 146 = .ok (.iload_n 1, 1) := by decide +kernel
theorem dX6_changed_147 : decode cX6_changed 147 = .ok (.invokevirtual 123, 3) := by decide +kernel
theorem dX6_changed_150 : decode cX6_changed 150 = .ok (.aload_n 0, 1) := by decide +kernel
theorem dX6_changed_151 : decode cX6_changed 151 = .ok (.getfield 60, 3) := by decide +kernel
theorem dX6_changed_154 : decode cX6_changed 154 = .ok (.iload 5, 2) := by decide +kernel
theorem dX6_changed_156 : decode cX6_changed 156 = .ok (.iaload, 1) := by decide +kernel
theorem dX6_changed_157 : decode cX6_changed 157 = .ok (.if_icmp .eq 7, 3) := by decide +kernel
theorem dX6_changed_160 : decode cX6_changed 160 = .ok (.iconst 1, 1) := by decide +kernel
theorem dX6_changed_161 : decode cX6_changed 161 = .ok (.goto 4, 3) := by decide +kernel
theorem dX6_changed_164 : decode cX6_changed 164 = .ok (.iconst 0, 1) := by decide +kernel
theorem dX6_changed_165 : decode cX6_changed 165 = .ok (.iadd, 1) := by decide +kernel
theorem dX6_changed_166 : decode cX6_changed 166 = .ok (.istore 4, 2) := by decide +kernel
theorem dX6_changed_168 : decode cX6_changed 168 = .ok (.iinc 5 1, 3) := by decide +kernel
theorem dX6_changed_171 : decode cX6_changed 171 = .ok (.goto (-66), 3) := by decide +kernel
theorem dX6_changed_174 : decode cX6_changed 174 = .ok (.iload 4, 2) := by decide +kernel
theorem dX6_changed_176 : decode cX6_changed 176 = .ok (.ireturn, 1) := by decide +kernel
theorem dJ9_max_7cf53_0 : decode cJ9_max_7cf53 0 = .ok (.iload_n 0, 1) := by decide +kernel
theorem dJ9_max_7cf53_1 : decode cJ9_max_7cf53 1 = .ok (.iload_n 1, 1) := by decide +kernel
theorem dJ9_max_7cf53_2 : decode cJ9_max_7cf53 2 = .ok (.if_icmp .lt 7, 3) := by decide +kernel
theorem dJ9_max_7cf53_5 : decode cJ9_max_7cf53 5 = .ok (.iload_n 0, 1) := by decide +kernel
theorem dJ9_max_7cf53_6 : decode cJ9_max_7cf53 6 = .ok (.goto 4, 3) := by decide +kernel
theorem dJ9_max_7cf53_9 : decode cJ9_max_7cf53 9 = .ok (.iload_n 1, 1) := by decide +kernel
theorem dJ9_max_7cf53_10 : decode cJ9_max_7cf53 10 = .ok (.ireturn, 1) := by decide +kernel
theorem dJ9_min_7cf53_0 : decode cJ9_min_7cf53 0 = .ok (.iload_n 0, 1) := by decide +kernel
theorem dJ9_min_7cf53_1 : decode cJ9_min_7cf53 1 = .ok (.iload_n 1, 1) := by decide +kernel
theorem dJ9_min_7cf53_2 : decode cJ9_min_7cf53 2 = .ok (.if_icmp .gt 7, 3) := by decide +kernel
theorem dJ9_min_7cf53_5 : decode cJ9_min_7cf53 5 = .ok (.iload_n 0, 1) := by decide +kernel
theorem dJ9_min_7cf53_6 : decode cJ9_min_7cf53 6 = .ok (.goto 4, 3) := by decide +kernel
theorem dJ9_min_7cf53_9 : decode cJ9_min_7cf53 9 = .ok (.iload_n 1, 1) := by decide +kernel
theorem dJ9_min_7cf53_10 : decode cJ9_min_7cf53 10 = .ok (.ireturn, 1) := by decide +kernel
set_option maxRecDepth 20000 in
theorem ggL_pass_X5_pass : GoodIn wsL_pass wsX5_pass := goodIn_ca (goodIn_ca (goodIn_r _ [7, 8, 9, 10, 11, 12, 6, 13, 14, 15, 16, 17, 18, 19, 20, 21, 22] (by decide +kernel) (by decide +kernel)) (goodIn_sub (fun _ h => List.mem_cons_of_mem _ (List.mem_append_left _ (List.mem_append_right _ h))) (by decide +kernel))) (goodIn_sub (fun _ h => List.mem_cons_of_mem _ (List.mem_append_right _ h)) (by decide +kernel))
set_option maxRecDepth 20000 in
theorem gL_pass_X5_pass : GoodIn wsL_pass (wsV RL 7 RX5 yX5_pass wsX5_pass) := goodIn_app (goodIn_of _ (by decide +kernel)) ggL_pass_X5_pass
theorem dL_pass_0 : decode cL_pass 0 = .ok (.aload_n 2, 1) := by decide +kernel
theorem dL_pass_1 : decode cL_pass 1 = .ok (.iconst 0, 1) := by decide +kernel
theorem dL_pass_2 : decode cL_pass 2 = .ok (.aload_n 0, 1) := by decide +kernel
theorem dL_pass_3 : decode cL_pass 3 = .ok (.iload_n 1, 1) := by decide +kernel
theorem dL_pass_4 : decode cL_pass 4 = .ok (.invokevirtual 7, 3) := by decide +kernel
theorem dL_pass_7 : decode cL_pass 7 = .ok (.i2l, 1) := by decide +kernel
theorem dL_pass_8 : decode cL_pass 8 = .ok (.lastore, 1) := by decide +kernel
theorem dL_pass_9 : decode cL_pass 9 = .ok (.goto 9, 3) := by decide +kernel
theorem dL_pass_12 : decode cL_pass 12 = .ok (.astore_n 3, 1) := by decide +kernel
theorem dL_pass_13 : decode cL_pass 13 = .ok (.iconst 1, 1) := by decide +kernel
theorem dL_pass_14 : decode cL_pass 14 = .ok (.ireturn, 1) := by decide +kernel
theorem dL_pass_15 : decode cL_pass 15 = .ok (.astore_n 3, 1) := by decide +kernel
theorem dL_pass_16 : decode cL_pass 16 = .ok (.iconst 2, 1) := by decide +kernel
theorem dL_pass_17 : decode cL_pass 17 = .ok (.ireturn, 1) := by decide +kernel
theorem dL_pass_18 : decode cL_pass 18 = .ok (.iconst 0, 1) := by decide +kernel
theorem dL_pass_19 : decode cL_pass 19 = .ok (.ireturn, 1) := by decide +kernel
set_option maxRecDepth 20000 in
theorem ggL_setTerm_X5_setTerm : GoodIn wsL_setTerm wsX5_setTerm := goodIn_ca (goodIn_r _ [6, 7, 8, 9, 10, 5, 11, 12, 13, 14, 15, 16, 17, 18, 19, 20, 21, 22] (by decide +kernel) (by decide +kernel)) (goodIn_sub (fun _ h => List.mem_cons_of_mem _ (List.mem_append_right _ h)) (by decide +kernel))
set_option maxRecDepth 20000 in
theorem gL_setTerm_X5_setTerm : GoodIn wsL_setTerm (wsV RL 17 RX5 yX5_setTerm wsX5_setTerm) := goodIn_app (goodIn_of _ (by decide +kernel)) ggL_setTerm_X5_setTerm
theorem dL_setTerm_0 : decode cL_setTerm 0 = .ok (.aload_n 3, 1) := by decide +kernel
theorem dL_setTerm_1 : decode cL_setTerm 1 = .ok (.iconst 0, 1) := by decide +kernel
theorem dL_setTerm_2 : decode cL_setTerm 2 = .ok (.aload_n 0, 1) := by decide +kernel
theorem dL_setTerm_3 : decode cL_setTerm 3 = .ok (.iload_n 1, 1) := by decide +kernel
theorem dL_setTerm_4 : decode cL_setTerm 4 = .ok (.iload_n 2, 1) := by decide +kernel
theorem dL_setTerm_5 : decode cL_setTerm 5 = .ok (.invokevirtual 17, 3) := by decide +kernel
theorem dL_setTerm_8 : decode cL_setTerm 8 = .ok (.i2l, 1) := by decide +kernel
theorem dL_setTerm_9 : decode cL_setTerm 9 = .ok (.lastore, 1) := by decide +kernel
theorem dL_setTerm_10 : decode cL_setTerm 10 = .ok (.goto 7, 3) := by decide +kernel
theorem dL_setTerm_13 : decode cL_setTerm 13 = .ok (.astore 4, 2) := by decide +kernel
theorem dL_setTerm_15 : decode cL_setTerm 15 = .ok (.iconst 1, 1) := by decide +kernel
theorem dL_setTerm_16 : decode cL_setTerm 16 = .ok (.ireturn, 1) := by decide +kernel
theorem dL_setTerm_17 : decode cL_setTerm 17 = .ok (.iconst 0, 1) := by decide +kernel
theorem dL_setTerm_18 : decode cL_setTerm 18 = .ok (.ireturn, 1) := by decide +kernel
set_option maxRecDepth 20000 in
theorem ggL_putFirst_X5_putFirst : GoodIn wsL_putFirst wsX5_putFirst := goodIn_ca (goodIn_r _ [6, 7, 8, 9, 5, 10, 11, 12, 13, 14, 15, 16, 17, 18, 19, 20, 21, 22, 23, 24, 25, 26, 27] (by decide +kernel) (by decide +kernel)) (goodIn_sub (fun _ h => List.mem_cons_of_mem _ (List.mem_append_right _ h)) (by decide +kernel))
set_option maxRecDepth 20000 in
theorem gL_putFirst_X5_putFirst : GoodIn wsL_putFirst (wsV RL 21 RX5 yX5_putFirst wsX5_putFirst) := goodIn_app (goodIn_of _ (by decide +kernel)) ggL_putFirst_X5_putFirst
theorem dL_putFirst_0 : decode cL_putFirst 0 = .ok (.aload_n 2, 1) := by decide +kernel
theorem dL_putFirst_1 : decode cL_putFirst 1 = .ok (.iconst 0, 1) := by decide +kernel
theorem dL_putFirst_2 : decode cL_putFirst 2 = .ok (.aload_n 0, 1) := by decide +kernel
theorem dL_putFirst_3 : decode cL_putFirst 3 = .ok (.iload_n 1, 1) := by decide +kernel
theorem dL_putFirst_4 : decode cL_putFirst 4 = .ok (.invokevirtual 21, 3) := by decide +kernel
theorem dL_putFirst_7 : decode cL_putFirst 7 = .ok (.i2l, 1) := by decide +kernel
theorem dL_putFirst_8 : decode cL_putFirst 8 = .ok (.lastore, 1) := by decide +kernel
theorem dL_putFirst_9 : decode cL_putFirst 9 = .ok (.goto 6, 3) := by decide +kernel
theorem dL_putFirst_12 : decode cL_putFirst 12 = .ok (.astore_n 3, 1) := by decide +kernel
theorem dL_putFirst_13 : decode cL_putFirst 13 = .ok (.iconst 1, 1) := by decide +kernel
theorem dL_putFirst_14 : decode cL_putFirst 14 = .ok (.ireturn, 1) := by decide +kernel
theorem dL_putFirst_15 : decode cL_putFirst 15 = .ok (.iconst 0, 1) := by decide +kernel
theorem dL_putFirst_16 : decode cL_putFirst 16 = .ok (.ireturn, 1) := by decide +kernel
set_option maxRecDepth 20000 in
theorem ggL_find_X5_find : GoodIn wsL_find wsX5_find := goodIn_ca (goodIn_ca (goodIn_r _ [7, 8, 9, 10, 11, 12, 13, 14, 6, 15, 16, 17, 18, 19, 20, 21, 22, 23, 24, 25, 26, 27, 28, 29, 30, 31, 32, 33, 34, 35, 36, 37, 38, 39, 40, 41, 42, 43, 44, 45, 46, 47, 48, 49] (by decide +kernel) (by decide +kernel)) (goodIn_sub (fun _ h => List.mem_cons_of_mem _ (List.mem_append_left _ (List.mem_append_right _ h))) (by decide +kernel))) (goodIn_sub (fun _ h => List.mem_cons_of_mem _ (List.mem_append_right _ h)) (by decide +kernel))
set_option maxRecDepth 20000 in
theorem gL_find_X5_find : GoodIn wsL_find (wsV RL 24 RX5 yX5_find wsX5_find) := goodIn_app (goodIn_of _ (by decide +kernel)) ggL_find_X5_find
theorem dL_find_0 : decode cL_find 0 = .ok (.aload 7, 2) := by decide +kernel
theorem dL_find_2 : decode cL_find 2 = .ok (.iconst 0, 1) := by decide +kernel
theorem dL_find_3 : decode cL_find 3 = .ok (.aload_n 0, 1) := by decide +kernel
theorem dL_find_4 : decode cL_find 4 = .ok (.iload_n 1, 1) := by decide +kernel
theorem dL_find_5 : decode cL_find 5 = .ok (.iload_n 2, 1) := by decide +kernel
theorem dL_find_6 : decode cL_find 6 = .ok (.iload_n 3, 1) := by decide +kernel
theorem dL_find_7 : decode cL_find 7 = .ok (.iload 4, 2) := by decide +kernel
theorem dL_find_9 : decode cL_find 9 = .ok (.iload 5, 2) := by decide +kernel
theorem dL_find_11 : decode cL_find 11 = .ok (.iload 6, 2) := by decide +kernel
theorem dL_find_13 : decode cL_find 13 = .ok (.invokevirtual 24, 3) := by decide +kernel
theorem dL_find_16 : decode cL_find 16 = .ok (.i2l, 1) := by decide +kernel
theorem dL_find_17 : decode cL_find 17 = .ok (.lastore, 1) := by decide +kernel
theorem dL_find_18 : decode cL_find 18 = .ok (.goto 11, 3) := by decide +kernel
theorem dL_find_21 : decode cL_find 21 = .ok (.astore 8, 2) := by decide +kernel
theorem dL_find_23 : decode cL_find 23 = .ok (.iconst 1, 1) := by decide +kernel
theorem dL_find_24 : decode cL_find 24 = .ok (.ireturn, 1) := by decide +kernel
theorem dL_find_25 : decode cL_find 25 = .ok (.astore 8, 2) := by decide +kernel
theorem dL_find_27 : decode cL_find 27 = .ok (.iconst 2, 1) := by decide +kernel
theorem dL_find_28 : decode cL_find 28 = .ok (.ireturn, 1) := by decide +kernel
theorem dL_find_29 : decode cL_find 29 = .ok (.iconst 0, 1) := by decide +kernel
theorem dL_find_30 : decode cL_find 30 = .ok (.ireturn, 1) := by decide +kernel
set_option maxRecDepth 20000 in
theorem ggL_strike_X5_strike : GoodIn wsL_strike wsX5_strike := goodIn_ca (goodIn_r _ [6, 7, 8, 9, 10, 11, 5, 12, 13, 14, 15, 16, 17, 18, 19, 20, 21, 22, 23, 24, 25, 26, 27, 28, 29] (by decide +kernel) (by decide +kernel)) (goodIn_sub (fun _ h => List.mem_cons_of_mem _ (List.mem_append_right _ h)) (by decide +kernel))
set_option maxRecDepth 20000 in
theorem gL_strike_X5_strike : GoodIn wsL_strike (wsV RL 28 RX5 yX5_strike wsX5_strike) := goodIn_app (goodIn_of _ (by decide +kernel)) ggL_strike_X5_strike
theorem dL_strike_0 : decode cL_strike 0 = .ok (.aload_n 2, 1) := by decide +kernel
theorem dL_strike_1 : decode cL_strike 1 = .ok (.iconst 0, 1) := by decide +kernel
theorem dL_strike_2 : decode cL_strike 2 = .ok (.aload_n 0, 1) := by decide +kernel
theorem dL_strike_3 : decode cL_strike 3 = .ok (.iload_n 1, 1) := by decide +kernel
theorem dL_strike_4 : decode cL_strike 4 = .ok (.invokevirtual 28, 3) := by decide +kernel
theorem dL_strike_7 : decode cL_strike 7 = .ok (.ifCond .eq 7, 3) := by decide +kernel
theorem dL_strike_10 : decode cL_strike 10 = .ok (.lconst 1, 1) := by decide +kernel
theorem dL_strike_11 : decode cL_strike 11 = .ok (.goto 4, 3) := by decide +kernel
theorem dL_strike_14 : decode cL_strike 14 = .ok (.lconst 0, 1) := by decide +kernel
theorem dL_strike_15 : decode cL_strike 15 = .ok (.lastore, 1) := by decide +kernel
theorem dL_strike_16 : decode cL_strike 16 = .ok (.goto 6, 3) := by decide +kernel
theorem dL_strike_19 : decode cL_strike 19 = .ok (.astore_n 3, 1) := by decide +kernel
theorem dL_strike_20 : decode cL_strike 20 = .ok (.iconst 1, 1) := by decide +kernel
theorem dL_strike_21 : decode cL_strike 21 = .ok (.ireturn, 1) := by decide +kernel
theorem dL_strike_22 : decode cL_strike 22 = .ok (.iconst 0, 1) := by decide +kernel
theorem dL_strike_23 : decode cL_strike 23 = .ok (.ireturn, 1) := by decide +kernel
set_option maxRecDepth 20000 in
theorem ggL_tell_X5_tell : GoodIn wsL_tell wsX5_tell := goodIn_ca (goodIn_ca (goodIn_r _ [7, 8, 9, 10, 11, 12, 6, 13, 14, 15, 16, 17, 18, 19, 20, 21, 22, 23, 24, 25, 26, 27, 28, 29, 30, 31, 32, 33, 34, 35, 36, 37, 38] (by decide +kernel) (by decide +kernel)) (goodIn_sub (fun _ h => List.mem_cons_of_mem _ (List.mem_append_left _ (List.mem_append_right _ h))) (by decide +kernel))) (goodIn_sub (fun _ h => List.mem_cons_of_mem _ (List.mem_append_right _ h)) (by decide +kernel))
set_option maxRecDepth 20000 in
theorem gL_tell_X5_tell : GoodIn wsL_tell (wsV RL 34 RX5 yX5_tell wsX5_tell) := goodIn_app (goodIn_of _ (by decide +kernel)) ggL_tell_X5_tell
theorem dL_tell_0 : decode cL_tell 0 = .ok (.aload 4, 2) := by decide +kernel
theorem dL_tell_2 : decode cL_tell 2 = .ok (.iconst 0, 1) := by decide +kernel
theorem dL_tell_3 : decode cL_tell 3 = .ok (.aload_n 0, 1) := by decide +kernel
theorem dL_tell_4 : decode cL_tell 4 = .ok (.iload_n 1, 1) := by decide +kernel
theorem dL_tell_5 : decode cL_tell 5 = .ok (.iload_n 2, 1) := by decide +kernel
theorem dL_tell_6 : decode cL_tell 6 = .ok (.iload_n 3, 1) := by decide +kernel
theorem dL_tell_7 : decode cL_tell 7 = .ok (.invokevirtual 34, 3) := by decide +kernel
theorem dL_tell_10 : decode cL_tell 10 = .ok (.i2l, 1) := by decide +kernel
theorem dL_tell_11 : decode cL_tell 11 = .ok (.lastore, 1) := by decide +kernel
theorem dL_tell_12 : decode cL_tell 12 = .ok (.goto 11, 3) := by decide +kernel
theorem dL_tell_15 : decode cL_tell 15 = .ok (.astore 5, 2) := by decide +kernel
theorem dL_tell_17 : decode cL_tell 17 = .ok (.iconst 1, 1) := by decide +kernel
theorem dL_tell_18 : decode cL_tell 18 = .ok (.ireturn, 1) := by decide +kernel
theorem dL_tell_19 : decode cL_tell 19 = .ok (.astore 5, 2) := by decide +kernel
theorem dL_tell_21 : decode cL_tell 21 = .ok (.iconst 2, 1) := by decide +kernel
theorem dL_tell_22 : decode cL_tell 22 = .ok (.ireturn, 1) := by decide +kernel
theorem dL_tell_23 : decode cL_tell 23 = .ok (.iconst 0, 1) := by decide +kernel
theorem dL_tell_24 : decode cL_tell 24 = .ok (.ireturn, 1) := by decide +kernel
set_option maxRecDepth 20000 in
theorem ggL_counts_X5_counts : GoodIn wsL_counts wsX5_counts := goodIn_ca (goodIn_ca (goodIn_r _ [7, 8, 9, 10, 11, 12, 6, 13, 14, 15, 16, 17, 18, 19, 20, 21, 22, 23, 24, 25, 26, 27, 28, 29, 30, 31, 32, 33, 34, 35, 36, 37, 38, 39, 40, 41, 42, 43, 44, 45, 46, 47, 48, 49] (by decide +kernel) (by decide +kernel)) (goodIn_sub (fun _ h => List.mem_cons_of_mem _ (List.mem_append_left _ (List.mem_append_right _ h))) (by decide +kernel))) (goodIn_sub (fun _ h => List.mem_cons_of_mem _ (List.mem_append_right _ h)) (by decide +kernel))
set_option maxRecDepth 20000 in
theorem gL_counts_X5_counts : GoodIn wsL_counts (wsV RL 38 RX5 yX5_counts wsX5_counts) := goodIn_app (goodIn_of _ (by decide +kernel)) ggL_counts_X5_counts
theorem dL_counts_0 : decode cL_counts 0 = .ok (.aload_n 3, 1) := by decide +kernel
theorem dL_counts_1 : decode cL_counts 1 = .ok (.iconst 0, 1) := by decide +kernel
theorem dL_counts_2 : decode cL_counts 2 = .ok (.aload_n 0, 1) := by decide +kernel
theorem dL_counts_3 : decode cL_counts 3 = .ok (.iload_n 1, 1) := by decide +kernel
theorem dL_counts_4 : decode cL_counts 4 = .ok (.iload_n 2, 1) := by decide +kernel
theorem dL_counts_5 : decode cL_counts 5 = .ok (.invokevirtual 38, 3) := by decide +kernel
theorem dL_counts_8 : decode cL_counts 8 = .ok (.ifCond .eq 7, 3) := by decide +kernel
theorem dL_counts_11 : decode cL_counts 11 = .ok (.lconst 1, 1) := by decide +kernel
theorem dL_counts_12 : decode cL_counts 12 = .ok (.goto 4, 3) := by decide +kernel
theorem dL_counts_15 : decode cL_counts 15 = .ok (.lconst 0, 1) := by decide +kernel
theorem dL_counts_16 : decode cL_counts 16 = .ok (.lastore, 1) := by decide +kernel
theorem dL_counts_17 : decode cL_counts 17 = .ok (.goto 11, 3) := by decide +kernel
theorem dL_counts_20 : decode cL_counts 20 = .ok (.astore 4, 2) := by decide +kernel
theorem dL_counts_22 : decode cL_counts 22 = .ok (.iconst 1, 1) := by decide +kernel
theorem dL_counts_23 : decode cL_counts 23 = .ok (.ireturn, 1) := by decide +kernel
theorem dL_counts_24 : decode cL_counts 24 = .ok (.astore 4, 2) := by decide +kernel
theorem dL_counts_26 : decode cL_counts 26 = .ok (.iconst 2, 1) := by decide +kernel
theorem dL_counts_27 : decode cL_counts 27 = .ok (.ireturn, 1) := by decide +kernel
theorem dL_counts_28 : decode cL_counts 28 = .ok (.iconst 0, 1) := by decide +kernel
theorem dL_counts_29 : decode cL_counts 29 = .ok (.ireturn, 1) := by decide +kernel
set_option maxRecDepth 20000 in
theorem ggL_things_X5_things : GoodIn wsL_things wsX5_things := goodIn_ca (goodIn_r _ [6, 7, 8, 9, 10, 11, 5, 12, 13, 14, 15, 16, 17, 18, 19, 20, 21, 22, 23, 24, 25, 26, 27, 28, 29, 30, 31, 32, 33, 34, 35, 36, 37, 38, 39, 40, 41, 42, 43, 44, 45, 46, 47, 48, 49, 50, 51, 52, 53, 54, 55, 56, 57, 58, 59, 60, 61, 62, 63, 64, 65, 66, 67, 68, 69, 70, 71, 72, 73, 74, 75, 76, 77, 78, 79, 80, 81, 82, 83, 84, 85, 86, 87] (by decide +kernel) (by decide +kernel)) (goodIn_sub (fun _ h => List.mem_cons_of_mem _ (List.mem_append_right _ h)) (by decide +kernel))
set_option maxRecDepth 20000 in
theorem gL_things_X5_things : GoodIn wsL_things (wsV RL 42 RX5 yX5_things wsX5_things) := goodIn_app (goodIn_of _ (by decide +kernel)) ggL_things_X5_things
theorem dL_things_0 : decode cL_things 0 = .ok (.aload_n 2, 1) := by decide +kernel
theorem dL_things_1 : decode cL_things 1 = .ok (.iconst 0, 1) := by decide +kernel
theorem dL_things_2 : decode cL_things 2 = .ok (.aload_n 0, 1) := by decide +kernel
theorem dL_things_3 : decode cL_things 3 = .ok (.iload_n 1, 1) := by decide +kernel
theorem dL_things_4 : decode cL_things 4 = .ok (.invokevirtual 42, 3) := by decide +kernel
theorem dL_things_7 : decode cL_things 7 = .ok (.i2l, 1) := by decide +kernel
theorem dL_things_8 : decode cL_things 8 = .ok (.lastore, 1) := by decide +kernel
theorem dL_things_9 : decode cL_things 9 = .ok (.goto 6, 3) := by decide +kernel
theorem dL_things_12 : decode cL_things 12 = .ok (.astore_n 3, 1) := by decide +kernel
theorem dL_things_13 : decode cL_things 13 = .ok (.iconst 1, 1) := by decide +kernel
theorem dL_things_14 : decode cL_things 14 = .ok (.ireturn, 1) := by decide +kernel
theorem dL_things_15 : decode cL_things 15 = .ok (.iconst 0, 1) := by decide +kernel
theorem dL_things_16 : decode cL_things 16 = .ok (.ireturn, 1) := by decide +kernel
set_option maxRecDepth 20000 in
theorem ggL_thingOf_X5_thingOf : GoodIn wsL_thingOf wsX5_thingOf := goodIn_ca (goodIn_ca (goodIn_ca (goodIn_r _ [8, 9, 10, 11, 12, 13, 7, 14, 15, 16, 17, 18, 19, 20, 21, 22, 23, 24, 25, 26, 27, 28, 29, 30, 31, 32, 33, 34, 35, 36, 37, 38, 39, 40, 41, 42, 43, 44, 45, 46, 47, 48, 49, 50, 51, 52, 53, 54, 55, 56, 57, 58, 59, 60, 61, 62, 63, 64, 65, 66, 67, 68, 69, 70, 71, 72, 73, 74, 75, 76, 77, 78, 79, 80, 81, 82, 83, 84, 85, 86, 87, 88, 89, 90, 91, 92, 93, 94, 95, 96, 97, 98] (by decide +kernel) (by decide +kernel)) (goodIn_sub (fun _ h => List.mem_cons_of_mem _ (List.mem_append_left _ (List.mem_append_left _ (List.mem_append_right _ h)))) (by decide +kernel))) (goodIn_sub (fun _ h => List.mem_cons_of_mem _ (List.mem_append_left _ (List.mem_append_right _ h))) (by decide +kernel))) (goodIn_sub (fun _ h => List.mem_cons_of_mem _ (List.mem_append_right _ h)) (by decide +kernel))
set_option maxRecDepth 20000 in
theorem gL_thingOf_X5_thingOf : GoodIn wsL_thingOf (wsV RL 45 RX5 yX5_thingOf wsX5_thingOf) := goodIn_app (goodIn_of _ (by decide +kernel)) ggL_thingOf_X5_thingOf
theorem dL_thingOf_0 : decode cL_thingOf 0 = .ok (.aload_n 3, 1) := by decide +kernel
theorem dL_thingOf_1 : decode cL_thingOf 1 = .ok (.iconst 0, 1) := by decide +kernel
theorem dL_thingOf_2 : decode cL_thingOf 2 = .ok (.aload_n 0, 1) := by decide +kernel
theorem dL_thingOf_3 : decode cL_thingOf 3 = .ok (.iload_n 1, 1) := by decide +kernel
theorem dL_thingOf_4 : decode cL_thingOf 4 = .ok (.iload_n 2, 1) := by decide +kernel
theorem dL_thingOf_5 : decode cL_thingOf 5 = .ok (.invokevirtual 45, 3) := by decide +kernel
theorem dL_thingOf_8 : decode cL_thingOf 8 = .ok (.i2l, 1) := by decide +kernel
theorem dL_thingOf_9 : decode cL_thingOf 9 = .ok (.lastore, 1) := by decide +kernel
theorem dL_thingOf_10 : decode cL_thingOf 10 = .ok (.goto 15, 3) := by decide +kernel
theorem dL_thingOf_13 : decode cL_thingOf 13 = .ok (.astore 4, 2) := by decide +kernel
theorem dL_thingOf_15 : decode cL_thingOf 15 = .ok (.iconst 1, 1) := by decide +kernel
theorem dL_thingOf_16 : decode cL_thingOf 16 = .ok (.ireturn, 1) := by decide +kernel
theorem dL_thingOf_17 : decode cL_thingOf 17 = .ok (.astore 4, 2) := by decide +kernel
theorem dL_thingOf_19 : decode cL_thingOf 19 = .ok (.iconst 2, 1) := by decide +kernel
theorem dL_thingOf_20 : decode cL_thingOf 20 = .ok (.ireturn, 1) := by decide +kernel
theorem dL_thingOf_21 : decode cL_thingOf 21 = .ok (.astore 4, 2) := by decide +kernel
theorem dL_thingOf_23 : decode cL_thingOf 23 = .ok (.iconst 3, 1) := by decide +kernel
theorem dL_thingOf_24 : decode cL_thingOf 24 = .ok (.ireturn, 1) := by decide +kernel
theorem dL_thingOf_25 : decode cL_thingOf 25 = .ok (.iconst 0, 1) := by decide +kernel
theorem dL_thingOf_26 : decode cL_thingOf 26 = .ok (.ireturn, 1) := by decide +kernel
set_option maxRecDepth 20000 in
theorem ggL_value_X5_value : GoodIn wsL_value wsX5_value := goodIn_ca (goodIn_ca (goodIn_ca (goodIn_r _ [8, 9, 10, 11, 12, 13, 7, 14, 15, 16, 17, 18, 19, 20, 21, 22, 23, 24, 25, 26, 27, 28, 29, 30, 31, 32, 33, 34, 35, 36, 37, 38, 39, 40, 41, 42, 43, 44, 45, 46, 47, 48, 49, 50, 51, 52, 53, 54, 55, 56, 57, 58, 59, 60, 61, 62, 63, 64, 65, 66, 67, 68, 69, 70, 71, 72, 73, 74, 75, 76, 77, 78, 79, 80, 81, 82, 83, 84, 85, 86, 87, 88, 89, 90, 91, 92, 93, 94, 95, 96, 97, 98, 99, 100, 101, 102, 103, 104, 105, 106, 107, 108, 109, 110, 111, 112, 113, 114, 115, 116] (by decide +kernel) (by decide +kernel)) (goodIn_sub (fun _ h => List.mem_cons_of_mem _ (List.mem_append_left _ (List.mem_append_left _ (List.mem_append_right _ h)))) (by decide +kernel))) (goodIn_sub (fun _ h => List.mem_cons_of_mem _ (List.mem_append_left _ (List.mem_append_right _ h))) (by decide +kernel))) (goodIn_sub (fun _ h => List.mem_cons_of_mem _ (List.mem_append_right _ h)) (by decide +kernel))
set_option maxRecDepth 20000 in
theorem gL_value_X5_value : GoodIn wsL_value (wsV RL 50 RX5 yX5_value wsX5_value) := goodIn_app (goodIn_of _ (by decide +kernel)) ggL_value_X5_value
theorem dL_value_0 : decode cL_value 0 = .ok (.aload 4, 2) := by decide +kernel
theorem dL_value_2 : decode cL_value 2 = .ok (.iconst 0, 1) := by decide +kernel
theorem dL_value_3 : decode cL_value 3 = .ok (.aload_n 0, 1) := by decide +kernel
theorem dL_value_4 : decode cL_value 4 = .ok (.iload_n 1, 1) := by decide +kernel
theorem dL_value_5 : decode cL_value 5 = .ok (.iload_n 2, 1) := by decide +kernel
theorem dL_value_6 : decode cL_value 6 = .ok (.iload_n 3, 1) := by decide +kernel
theorem dL_value_7 : decode cL_value 7 = .ok (.invokevirtual 50, 3) := by decide +kernel
theorem dL_value_10 : decode cL_value 10 = .ok (.i2l, 1) := by decide +kernel
theorem dL_value_11 : decode cL_value 11 = .ok (.lastore, 1) := by decide +kernel
theorem dL_value_12 : decode cL_value 12 = .ok (.goto 15, 3) := by decide +kernel
theorem dL_value_15 : decode cL_value 15 = .ok (.astore 5, 2) := by decide +kernel
theorem dL_value_17 : decode cL_value 17 = .ok (.iconst 1, 1) := by decide +kernel
theorem dL_value_18 : decode cL_value 18 = .ok (.ireturn, 1) := by decide +kernel
theorem dL_value_19 : decode cL_value 19 = .ok (.astore 5, 2) := by decide +kernel
theorem dL_value_21 : decode cL_value 21 = .ok (.iconst 2, 1) := by decide +kernel
theorem dL_value_22 : decode cL_value 22 = .ok (.ireturn, 1) := by decide +kernel
theorem dL_value_23 : decode cL_value 23 = .ok (.astore 5, 2) := by decide +kernel
theorem dL_value_25 : decode cL_value 25 = .ok (.iconst 3, 1) := by decide +kernel
theorem dL_value_26 : decode cL_value 26 = .ok (.ireturn, 1) := by decide +kernel
theorem dL_value_27 : decode cL_value 27 = .ok (.iconst 0, 1) := by decide +kernel
theorem dL_value_28 : decode cL_value 28 = .ok (.ireturn, 1) := by decide +kernel
set_option maxRecDepth 20000 in
theorem ggL_disputed_X5_disputed : GoodIn wsL_disputed wsX5_disputed := goodIn_ca (goodIn_r _ [6, 7, 8, 9, 10, 11, 5, 12, 13, 14, 15, 16, 17, 18, 19, 20, 21, 22, 23, 24, 25, 26, 27, 28, 29, 30, 31, 32, 33, 34, 35, 36, 37, 38, 39, 40, 41, 42, 43, 44, 45, 46, 47, 48, 49, 50, 51, 52, 53, 54, 55, 56, 57, 58, 59, 60, 61, 62, 63, 64, 65, 66, 67, 68, 69, 70, 71, 72, 73, 74, 75, 76, 77, 78, 79, 80, 81, 82, 83, 84, 85, 86, 87, 88, 89, 90, 91, 92, 93, 94, 95, 96, 97, 98, 99] (by decide +kernel) (by decide +kernel)) (goodIn_sub (fun _ h => List.mem_cons_of_mem _ (List.mem_append_right _ h)) (by decide +kernel))
set_option maxRecDepth 20000 in
theorem gL_disputed_X5_disputed : GoodIn wsL_disputed (wsV RL 53 RX5 yX5_disputed wsX5_disputed) := goodIn_app (goodIn_of _ (by decide +kernel)) ggL_disputed_X5_disputed
theorem dL_disputed_0 : decode cL_disputed 0 = .ok (.aload_n 3, 1) := by decide +kernel
theorem dL_disputed_1 : decode cL_disputed 1 = .ok (.iconst 0, 1) := by decide +kernel
theorem dL_disputed_2 : decode cL_disputed 2 = .ok (.aload_n 0, 1) := by decide +kernel
theorem dL_disputed_3 : decode cL_disputed 3 = .ok (.iload_n 1, 1) := by decide +kernel
theorem dL_disputed_4 : decode cL_disputed 4 = .ok (.iload_n 2, 1) := by decide +kernel
theorem dL_disputed_5 : decode cL_disputed 5 = .ok (.invokevirtual 53, 3) := by decide +kernel
theorem dL_disputed_8 : decode cL_disputed 8 = .ok (.i2l, 1) := by decide +kernel
theorem dL_disputed_9 : decode cL_disputed 9 = .ok (.lastore, 1) := by decide +kernel
theorem dL_disputed_10 : decode cL_disputed 10 = .ok (.goto 7, 3) := by decide +kernel
theorem dL_disputed_13 : decode cL_disputed 13 = .ok (.astore 4, 2) := by decide +kernel
theorem dL_disputed_15 : decode cL_disputed 15 = .ok (.iconst 1, 1) := by decide +kernel
theorem dL_disputed_16 : decode cL_disputed 16 = .ok (.ireturn, 1) := by decide +kernel
theorem dL_disputed_17 : decode cL_disputed 17 = .ok (.iconst 0, 1) := by decide +kernel
theorem dL_disputed_18 : decode cL_disputed 18 = .ok (.ireturn, 1) := by decide +kernel
set_option maxRecDepth 20000 in
theorem ggL_link_X5_link : GoodIn wsL_link wsX5_link := goodIn_ca (goodIn_ca (goodIn_ca (goodIn_r _ [8, 9, 10, 11, 12, 13, 14, 15, 7, 16, 17, 18, 19, 20, 21, 22, 23, 24, 25, 26, 27, 28, 29, 30, 31, 32, 33, 34, 35, 36, 37, 38, 39, 40, 41, 42, 43, 44, 45, 46, 47, 48, 49, 50, 51, 52, 53, 54, 55, 56] (by decide +kernel) (by decide +kernel)) (goodIn_sub (fun _ h => List.mem_cons_of_mem _ (List.mem_append_left _ (List.mem_append_left _ (List.mem_append_right _ h)))) (by decide +kernel))) (goodIn_sub (fun _ h => List.mem_cons_of_mem _ (List.mem_append_left _ (List.mem_append_right _ h))) (by decide +kernel))) (goodIn_sub (fun _ h => List.mem_cons_of_mem _ (List.mem_append_right _ h)) (by decide +kernel))
set_option maxRecDepth 20000 in
theorem gL_link_X5_link : GoodIn wsL_link (wsV RL 56 RX5 yX5_link wsX5_link) := goodIn_app (goodIn_of _ (by decide +kernel)) ggL_link_X5_link
theorem dL_link_0 : decode cL_link 0 = .ok (.aload 4, 2) := by decide +kernel
theorem dL_link_2 : decode cL_link 2 = .ok (.iconst 0, 1) := by decide +kernel
theorem dL_link_3 : decode cL_link 3 = .ok (.aload_n 0, 1) := by decide +kernel
theorem dL_link_4 : decode cL_link 4 = .ok (.iload_n 1, 1) := by decide +kernel
theorem dL_link_5 : decode cL_link 5 = .ok (.iload_n 2, 1) := by decide +kernel
theorem dL_link_6 : decode cL_link 6 = .ok (.iload_n 3, 1) := by decide +kernel
theorem dL_link_7 : decode cL_link 7 = .ok (.invokevirtual 56, 3) := by decide +kernel
theorem dL_link_10 : decode cL_link 10 = .ok (.i2l, 1) := by decide +kernel
theorem dL_link_11 : decode cL_link 11 = .ok (.lastore, 1) := by decide +kernel
theorem dL_link_12 : decode cL_link 12 = .ok (.goto 15, 3) := by decide +kernel
theorem dL_link_15 : decode cL_link 15 = .ok (.astore 5, 2) := by decide +kernel
theorem dL_link_17 : decode cL_link 17 = .ok (.iconst 1, 1) := by decide +kernel
theorem dL_link_18 : decode cL_link 18 = .ok (.ireturn, 1) := by decide +kernel
theorem dL_link_19 : decode cL_link 19 = .ok (.astore 5, 2) := by decide +kernel
theorem dL_link_21 : decode cL_link 21 = .ok (.iconst 2, 1) := by decide +kernel
theorem dL_link_22 : decode cL_link 22 = .ok (.ireturn, 1) := by decide +kernel
theorem dL_link_23 : decode cL_link 23 = .ok (.astore 5, 2) := by decide +kernel
theorem dL_link_25 : decode cL_link 25 = .ok (.iconst 3, 1) := by decide +kernel
end
section

abbrev vwCl : List vw_C := [(RX0, TX0, 7), (RX1, TX1, 5), (RX2, TX2, 2), (RX3, TX3, 3), (RX4, TX4, 5), (RX5, TX5, 7), (RX6, TX6, 23)]
end
section
/-! THE WORLD: both objects, the law's out array, their cells by number; what each cell holds is a row of one memory -/
abbrev gM : Type := Nat → Nat → Int32
/-- the classes' tables, the cells' addresses, the array classes (int, boolean, byte, long, int[]), where the world begins -/
abbrev gC : Type := va_G × (Nat → Nat) × (Nat → ClassId) × Nat
def gL (g : gC) (r : Nat → Int32) : List va_E := [
  .inr (5, [.int (r 0), .ref (g.2.1 1), .ref (g.2.1 2), .ref (g.2.1 3), .ref (g.2.1 4), .ref (g.2.1 5), .ref (g.2.1 6)]),
  .inr (2, [.ref (g.2.1 7), .ref (g.2.1 8)]),
  .inr (0, [.int (r 0), .ref (g.2.1 9), .ref (g.2.1 10), .ref (g.2.1 11), .ref (g.2.1 12), .ref (g.2.1 13), .ref (g.2.1 14)]),
  .inr (1, [.int (r 0), .ref (g.2.1 15), .ref (g.2.1 16), .ref (g.2.1 17), .ref (g.2.1 18)]),
  .inr (4, [.int (r 0), .ref (g.2.1 19), .ref (g.2.1 20), .ref (g.2.1 21), .ref (g.2.1 22)]),
  .inr (3, [.ref (g.2.1 2), .ref (g.2.1 1), .ref (g.2.1 23)]),
  .inr (3, [.ref (g.2.1 2), .ref (g.2.1 1), .ref (g.2.1 24)]),
  .inl (g.2.2.1 0, 4, .inl r),
  .inl (g.2.2.1 0, 4, .inl r),
  .inl (g.2.2.1 0, 60, .inl r),
  .inl (g.2.2.1 0, 60, .inl r),
  .inl (g.2.2.1 1, 60, .inl r),
  .inl (g.2.2.1 4, 3, .inr (.inr (.inr (.inr (fun i => some (g.2.1 (26 + i))))))),
  .inl (g.2.2.1 4, 2, .inr (.inr (.inr (.inr (fun i => some (g.2.1 (29 + i))))))),
  .inl (g.2.2.1 4, 60, .inr (.inr (.inr (.inr (fun i => some (g.2.1 (50 + i))))))),
  .inl (g.2.2.1 0, 40, .inl r),
  .inl (g.2.2.1 0, 40, .inl r),
  .inl (g.2.2.1 0, 40, .inl r),
  .inl (g.2.2.1 1, 60, .inl r),
  .inl (g.2.2.1 0, 20, .inl r),
  .inl (g.2.2.1 0, 20, .inl r),
  .inl (g.2.2.1 0, 20, .inl r),
  .inl (g.2.2.1 0, 20, .inl r),
  .inl (g.2.2.1 0, 60, .inl r),
  .inl (g.2.2.1 0, 60, .inl r),
  .inl (g.2.2.1 3, 1, .inr (.inl (fun i => (r i).toInt64))),
  .inl (g.2.2.1 0, 60, .inl r),
  .inl (g.2.2.1 0, 60, .inl r),
  .inl (g.2.2.1 0, 60, .inl r),
  .inl (g.2.2.1 0, 60, .inl r),
  .inl (g.2.2.1 0, 60, .inl r),
  .inr (6, [.int (r 0), .int (r 1), .ref (g.2.1 32), .ref (g.2.1 33), .int (r 4), .ref (g.2.1 34), .ref (g.2.1 35), .ref (g.2.1 36), .ref (g.2.1 37), .ref (g.2.1 38), .ref (g.2.1 39), .int (r 11), .ref (g.2.1 40), .ref (g.2.1 41), .ref (g.2.1 42), .int (r 15), .ref (g.2.1 43), .ref (g.2.1 44), .ref (g.2.1 45), .ref (g.2.1 46), .ref (g.2.1 47), .ref (g.2.1 48), .ref (g.2.1 49)]),
  .inl (g.2.2.1 0, 4, .inl r),
  .inl (g.2.2.1 0, 4, .inl r),
  .inl (g.2.2.1 0, 60, .inl r),
  .inl (g.2.2.1 0, 60, .inl r),
  .inl (g.2.2.1 0, 180, .inl r),
  .inl (g.2.2.1 0, 120, .inl r),
  .inl (g.2.2.1 1, 60, .inl r),
  .inl (g.2.2.1 2, 3600, .inl r),
  .inl (g.2.2.1 0, 40, .inl r),
  .inl (g.2.2.1 0, 40, .inl r),
  .inl (g.2.2.1 0, 40, .inl r),
  .inl (g.2.2.1 0, 20, .inl r),
  .inl (g.2.2.1 0, 20, .inl r),
  .inl (g.2.2.1 0, 20, .inl r),
  .inl (g.2.2.1 0, 20, .inl r),
  .inl (g.2.2.1 0, 60, .inl r),
  .inl (g.2.2.1 0, 60, .inl r),
  .inl (g.2.2.1 1, 60, .inl r)]
/-- cell k, whose row is r; from 50 on the rows of told -/
def gE (g : gC) (r : Nat → Int32) (k : Nat) : va_E := (gL g r).getD k (.inl (g.2.2.1 0, 60, .inl r))
def gW (g : gC) (μ : gM) : va_W := (List.range 110).map (fun k => (g.2.1 k, gE g (μ k) k))
def gT (g : gC) : List (ClassId × FieldType) := [(g.2.2.1 0, .int), (g.2.2.1 1, .boolean), (g.2.2.1 2, .byte), (g.2.2.1 3, .long), (g.2.2.1 4, .array .int)]
def gA (g : gC) : Nat → Prop := fun q => g.2.2.2 ≤ q
def gD (g : gC) : Prop := (∀ i j : Nat, i < 110 → j < 110 → g.2.1 i = g.2.1 j → i = j) ∧ ∀ k : Nat, k < 110 → g.2.2.2 ≤ g.2.1 k
/-- a row put in the place of another; one place of a row written -/
def gR (μ : gM) (k : Nat) (r : Nat → Int32) : gM := fun a => if a = k then r else μ a
abbrev gU (μ : gM) (k i : Nat) (x : Int32) : gM := gR μ k (upd (μ k) i x)
theorem gR_s {μ : gM} {k : Nat} {r : Nat → Int32} : gR μ k r k = r := if_pos rfl
theorem gR_n {μ : gM} {k j : Nat} {r : Nat → Int32} (h : j ≠ k) : gR μ k r j = μ j := if_neg h
theorem gU_s {μ : gM} {k i : Nat} {x : Int32} : gU μ k i x k = upd (μ k) i x := gR_s
theorem gU_n {μ : gM} {k i j : Nat} {x : Int32} (h : j ≠ k) : gU μ k i x j = μ j := gR_n h
theorem gR_self {μ : gM} {k : Nat} : gR μ k (μ k) = μ := by
  funext a
  by_cases h : a = k
  · subst h; exact gR_s
  · exact gR_n h
theorem gR_R {μ : gM} {k : Nat} {r r' : Nat → Int32} : gR (gR μ k r) k r' = gR μ k r' := by
  funext a
  by_cases h : a = k
  · subst h; rw [gR_s, gR_s]
  · rw [gR_n h, gR_n h, gR_n h]
theorem gW_at {g : gC} {μ : gM} {k : Nat} (hk : k < 110) : (gW g μ)[k]? = some (g.2.1 k, gE g (μ k) k) := by
  unfold gW
  rw [List.getElem?_map, List.getElem?_range hk]
  rfl
theorem gW_of {g : gC} {μ : gM} {k : Nat} {q : Nat × va_E} (h : (gW g μ)[k]? = some q) : k < 110 ∧ q = (g.2.1 k, gE g (μ k) k) := by
  have hl : k < (gW g μ).length := (List.getElem?_eq_some_iff.mp h).1
  have hk : k < 110 := by simpa [gW] using hl
  rw [gW_at hk] at h
  exact ⟨hk, (Option.some.inj h).symm⟩
theorem gW_set {g : gC} {μ : gM} {k : Nat} {r : Nat → Int32} {x : va_E} (hk : k < 110) (hx : x = gE g r k) : (gW g μ).set k (g.2.1 k, x) = gW g (gR μ k r) := by
  subst hx
  have hl : (gW g μ).length = 110 := by simp [gW]
  apply List.ext_getElem?
  intro i
  by_cases hi : i < 110
  · by_cases he : i = k
    · subst he
      rw [List.getElem?_set_self (by rw [hl]; exact hi), gW_at hi, gR_s]
    · rw [List.getElem?_set_ne (Ne.symm he), gW_at hi, gW_at hi, gR_n he]
  · rw [List.getElem?_eq_none (by rw [List.length_set, hl]; omega), List.getElem?_eq_none (by simp [gW]; omega)]
theorem gD_va {g : gC} (h : gD g) (μ : gM) : va_D (gA g) (gW g μ) := by
  refine ⟨fun i j x y hi hj hxy => ?_, fun k q hk => ?_⟩
  · obtain ⟨h1, rfl⟩ := gW_of hi
    obtain ⟨h2, rfl⟩ := gW_of hj
    exact h.1 i j h1 h2 hxy
  · obtain ⟨h1, rfl⟩ := gW_of hk
    exact h.2 k h1
def gI (g : gC) (μ : gM) (H : Heap) : Prop := va_P g.1 vwCl (gW g μ) H
/-- the texts of the class's exceptions -/
def gSt : List (Nat × String) := [(59, "it would be later than the last day"), (75, "no more finds can come"), (135, "no more links can be told"), (152, "no more wishes can be told"), (159, "there is no such wish"), (171, "a parameter is out of range"), (174, "both finds are the same"), (176, "there is no such find"), (180, "the find does not count on that day")]
/-- the words of its throws that aren't good ones -/
def gXw : List Cond := [.castable "java/lang/IllegalStateException" "java/lang/IllegalStateException", .castable "java/lang/IllegalArgumentException" "java/lang/IllegalArgumentException", .castable "java/lang/IndexOutOfBoundsException" "java/lang/IndexOutOfBoundsException", .castable "java/util/NoSuchElementException" "java/util/NoSuchElementException", .declares (Bundle.initS "java/lang/RuntimeException"), .declares (Bundle.initS "java/lang/Exception"), .declares (Bundle.initS "java/lang/Throwable")]
/-- what holds of a state's tables and statics -/
def gX (g : gC) (U : State) : Prop := va_K g.1 vwCl (gT g) U ∧ gD g ∧ vx_Zq Bundle.tN "UNASSIGNED_STACK" Bundle.steD (gA g) U U.heap ∧ vx_Zq Bundle.tN "SUPPRESSED_SENTINEL" Bundle.listD (gA g) U U.heap ∧ (∀ q ∈ gSt, ∃ a : Nat, vk_R RX5 q.1 q.2 a U) ∧ (∀ w ∈ gXw, va_Nw w U)
def gB (g : gC) (μ : gM) (U : State) : Prop := gI g μ U.heap ∧ gX g U
/-- a method's own: the machine, its code, the tables -/
def gF (p : Program) (l : Launch) (e : Env) (R : Room) (s : State) (m : MethodId) (args : Array Value) (below : List Frame) (meth : Method) (c : Code) (cc : ByteArray) (nL : Nat) (Ts : List Cond) (own : String) (g : gC) : Prop :=
  p.tables.exec = Jvm.exec ∧ c.code = cc ∧ c.maxLocals = nL ∧ s.vm.findClass own = some m.cls ∧ (∀ w ∈ Ts, w.before args s = true) ∧ gX g s ∧ meth.locks = false
/-- at pc, with these locals and this stack, the memory being μ -/
def J (p : Program) (l : Launch) (e : Env) (R : Room) (s : State) (m : MethodId) (args : Array Value) (below : List Frame) (meth : Method) (c : Code) (Q : State → Prop) (g : gC) (nL : Nat) (μ : gM) (k n pc : Nat) (L : List (Nat × Value)) (st : List Value) : Prop :=
  ∀ (H : Heap) (locs : List Loc) (ls : Array Slot), gI g μ H → va_S (gA g) s.heap H locs → lv_has ls nL L → W p l e R s m args below meth c H locs k n Q (F0 m pc ls st)
/-- .. with an exception of class E thrown over it -/
def JX (p : Program) (l : Launch) (e : Env) (R : Room) (s : State) (m : MethodId) (args : Array Value) (below : List Frame) (meth : Method) (c : Code) (Q : State → Prop) (g : gC) (nL : Nat) (μ : gM) (k n : Nat) (E : String) (pc : Nat) (L : List (Nat × Value)) (st : List Value) : Prop :=
  ∀ (H : Heap) (locs : List Loc) (ls : Array Slot) (q : Nat) (ce : Cell), gI g μ H → va_S (gA g) s.heap H locs → lv_has ls nL L → H[q]? = some ce → ce.vm = .none → s.vm.findClass E = some ce.cls → vx_W p l e R s m args below meth c H locs k n Q (F0 m pc ls st) q
theorem nI_cl {i N : Nat} (hi : i < N) (hN : N ≤ 4096) : (nI i).toNatClampNeg = i := nI_clamp (by omega)
theorem nI_vp {i N : Nat} (hi : i < N) (hN : N ≤ 4096) : vp_in (nI i) N := vp_in_nI hi (by omega)
section GJ
variable {p : Program} {l : Launch} {e : Env} {R : Room} {s : State} {m : MethodId} {args : Array Value} {below : List Frame} {meth : Method} {c : Code} {Q : State → Prop} {g : gC} {nL : Nat} {μ : gM} {k n : Nat} {cc : ByteArray} {Ts : List Cond} {own : String} {pc : Nat} {L : List (Nat × Value)} {st : List Value}
theorem j_iconst (Z : gF p l e R s m args below meth c cc nL Ts own g) {z : Int} {v : Int32} (d : decode cc pc = .ok (.iconst z, 1)) (hv : Int32.ofInt z = v) (K : J p l e R s m args below meth c Q g nL μ k n (pc + 1) L (.int v :: st)) : J p l e R s m args below meth c Q g nL μ k n pc L (st) :=
  fun H locs ls hI hS hl => lv_iconst Z.1 Z.2.1 d hv (K H locs ls hI hS hl)
theorem j_bipush (Z : gF p l e R s m args below meth c cc nL Ts own g) {z : Int} {v : Int32} (d : decode cc pc = .ok (.bipush z, 2)) (hv : (Int8.ofInt z).toInt32 = v) (K : J p l e R s m args below meth c Q g nL μ k n (pc + 2) L (.int v :: st)) : J p l e R s m args below meth c Q g nL μ k n pc L (st) :=
  fun H locs ls hI hS hl => lv_bipush Z.1 Z.2.1 d hv (K H locs ls hI hS hl)
theorem j_sipush (Z : gF p l e R s m args below meth c cc nL Ts own g) {z : Int} {v : Int32} (d : decode cc pc = .ok (.sipush z, 3)) (hv : (Int16.ofInt z).toInt32 = v) (K : J p l e R s m args below meth c Q g nL μ k n (pc + 3) L (.int v :: st)) : J p l e R s m args below meth c Q g nL μ k n pc L (st) :=
  fun H locs ls hI hS hl => lv_sipush Z.1 Z.2.1 d hv (K H locs ls hI hS hl)
theorem j_dup (Z : gF p l e R s m args below meth c cc nL Ts own g) {va : Value} (d : decode cc pc = .ok (.dup, 1)) (hva : va.category = 1) (K : J p l e R s m args below meth c Q g nL μ k n (pc + 1) L (va :: va :: st)) : J p l e R s m args below meth c Q g nL μ k n pc L (va :: st) :=
  fun H locs ls hI hS hl => lv_dup Z.1 Z.2.1 d hva (K H locs ls hI hS hl)
theorem j_dup2 (Z : gF p l e R s m args below meth c cc nL Ts own g) {va vb : Value} (d : decode cc pc = .ok (.dup2, 1)) (hva : va.category = 1) (hvb : vb.category = 1) (K : J p l e R s m args below meth c Q g nL μ k n (pc + 1) L (va :: vb :: va :: vb :: st)) : J p l e R s m args below meth c Q g nL μ k n pc L (va :: vb :: st) :=
  fun H locs ls hI hS hl => lv_dup2_11 Z.1 Z.2.1 d hva hvb (K H locs ls hI hS hl)
theorem j_pop (Z : gF p l e R s m args below meth c cc nL Ts own g) {va : Value} (d : decode cc pc = .ok (.pop, 1)) (hva : va.category = 1) (K : J p l e R s m args below meth c Q g nL μ k n (pc + 1) L (st)) : J p l e R s m args below meth c Q g nL μ k n pc L (va :: st) :=
  fun H locs ls hI hS hl => lv_pop Z.1 Z.2.1 d hva (K H locs ls hI hS hl)
theorem j_iadd (Z : gF p l e R s m args below meth c cc nL Ts own g) {x y : Int32} (d : decode cc pc = .ok (.iadd, 1))  (K : J p l e R s m args below meth c Q g nL μ k n (pc + 1) L (.int (x + y) :: st)) : J p l e R s m args below meth c Q g nL μ k n pc L (.int y :: .int x :: st) :=
  fun H locs ls hI hS hl => lv_iadd Z.1 Z.2.1 d  (K H locs ls hI hS hl)
theorem j_isub (Z : gF p l e R s m args below meth c cc nL Ts own g) {x y : Int32} (d : decode cc pc = .ok (.isub, 1))  (K : J p l e R s m args below meth c Q g nL μ k n (pc + 1) L (.int (x - y) :: st)) : J p l e R s m args below meth c Q g nL μ k n pc L (.int y :: .int x :: st) :=
  fun H locs ls hI hS hl => lv_isub Z.1 Z.2.1 d  (K H locs ls hI hS hl)
theorem j_imul (Z : gF p l e R s m args below meth c cc nL Ts own g) {x y : Int32} (d : decode cc pc = .ok (.imul, 1))  (K : J p l e R s m args below meth c Q g nL μ k n (pc + 1) L (.int (x * y) :: st)) : J p l e R s m args below meth c Q g nL μ k n pc L (.int y :: .int x :: st) :=
  fun H locs ls hI hS hl => lv_imul Z.1 Z.2.1 d  (K H locs ls hI hS hl)
theorem j_iand (Z : gF p l e R s m args below meth c cc nL Ts own g) {x y : Int32} (d : decode cc pc = .ok (.iand, 1))  (K : J p l e R s m args below meth c Q g nL μ k n (pc + 1) L (.int (x &&& y) :: st)) : J p l e R s m args below meth c Q g nL μ k n pc L (.int y :: .int x :: st) :=
  fun H locs ls hI hS hl => lv_iand Z.1 Z.2.1 d  (K H locs ls hI hS hl)
theorem j_i2l (Z : gF p l e R s m args below meth c cc nL Ts own g) {x : Int32} (d : decode cc pc = .ok (.i2l, 1)) (hv : x.toInt64 = x.toInt64) (K : J p l e R s m args below meth c Q g nL μ k n (pc + 1) L (.long x.toInt64 :: st)) : J p l e R s m args below meth c Q g nL μ k n pc L (.int x :: st) :=
  fun H locs ls hI hS hl => lv_i2l Z.1 Z.2.1 d hv (K H locs ls hI hS hl)
theorem j_i2b (Z : gF p l e R s m args below meth c cc nL Ts own g) {x v : Int32} (d : decode cc pc = .ok (.i2b, 1)) (hv : x.toInt8.toInt32 = v) (K : J p l e R s m args below meth c Q g nL μ k n (pc + 1) L (.int v :: st)) : J p l e R s m args below meth c Q g nL μ k n pc L (.int x :: st) :=
  fun H locs ls hI hS hl => lv_i2b Z.1 Z.2.1 d hv (K H locs ls hI hS hl)
theorem j_lconst (Z : gF p l e R s m args below meth c cc nL Ts own g) {z : Fin 2} {v : Int64} (d : decode cc pc = .ok (.lconst z, 1)) (hv : Int64.ofNat (z : Nat) = v) (K : J p l e R s m args below meth c Q g nL μ k n (pc + 1) L (.long v :: st)) : J p l e R s m args below meth c Q g nL μ k n pc L (st) :=
  fun H locs ls hI hS hl => lv_lconst Z.1 Z.2.1 d hv (K H locs ls hI hS hl)
theorem j_topi {x : Int32} (K : ∀ y : Int32, y = x → J p l e R s m args below meth c Q g nL μ k n pc L (.int y :: st)) : J p l e R s m args below meth c Q g nL μ k n pc L (.int x :: st) := K x rfl
theorem j_eq {x y : Int32} (h : x = y) (K : J p l e R s m args below meth c Q g nL μ k n pc L (.int y :: st)) : J p l e R s m args below meth c Q g nL μ k n pc L (.int x :: st) := h ▸ K
theorem j_mem {μ' : gM} (h : μ = μ') (K : J p l e R s m args below meth c Q g nL μ' k n pc L st) : J p l e R s m args below meth c Q g nL μ k n pc L st := h ▸ K
theorem j_pc {q : Nat} (h : pc = q) (K : J p l e R s m args below meth c Q g nL μ k n q L st) : J p l e R s m args below meth c Q g nL μ k n pc L st := h ▸ K
theorem j_sub {L' : List (Nat × Value)} (is : List Nat) (h : lv_pick L is = L') (K : J p l e R s m args below meth c Q g nL μ k n pc L' st) : J p l e R s m args below meth c Q g nL μ k n pc L st := fun H locs ls hI hS hl => K H locs ls hI hS (lv_sub hl is h)
theorem j_wide {k' n' : Nat} (h1 : k ≤ k') (h2 : n ≤ n') (K : J p l e R s m args below meth c Q g nL μ k' n' pc L st) : J p l e R s m args below meth c Q g nL μ k n pc L st := fun H locs ls hI hS hl => W.widen h1 h2 (K H locs ls hI hS hl)
theorem j_iload_n (Z : gF p l e R s m args below meth c cc nL Ts own g) {z : Fin 4} {x : Int32} (d : decode cc pc = .ok (.iload_n z, 1)) (j : Nat) (hj : L[j]? = some ((z : Nat), .int x)) (K : J p l e R s m args below meth c Q g nL μ k n (pc + 1) L (.int x :: st)) : J p l e R s m args below meth c Q g nL μ k n pc L st :=
  fun H locs ls hI hS hl => lv_iload_n Z.1 Z.2.1 d rfl (lv_at hl j hj) (K H locs ls hI hS hl)
theorem j_iload (Z : gF p l e R s m args below meth c cc nL Ts own g) {i : Nat} {x : Int32} (d : decode cc pc = .ok (.iload i, 2)) (j : Nat) (hj : L[j]? = some (i, .int x)) (K : J p l e R s m args below meth c Q g nL μ k n (pc + 2) L (.int x :: st)) : J p l e R s m args below meth c Q g nL μ k n pc L st :=
  fun H locs ls hI hS hl => lv_iload Z.1 Z.2.1 d (lv_at hl j hj) (K H locs ls hI hS hl)
theorem j_istore_n (Z : gF p l e R s m args below meth c cc nL Ts own g) {z : Fin 4} {x : Int32} (d : decode cc pc = .ok (.istore_n z, 1)) (hn : (z : Nat) < nL) (L' : List (Nat × Value)) (hL : ((z : Nat), Value.int x) :: L.filter (fun q => !(q.1 == (z : Nat)) && !(q.1 + 1 == (z : Nat) && q.2.category == 2)) = L') (K : J p l e R s m args below meth c Q g nL μ k n (pc + 1) L' st) : J p l e R s m args below meth c Q g nL μ k n pc L (.int x :: st) :=
  fun H locs ls hI hS hl => lv_istore_n Z.1 Z.2.1 d rfl hl hn hL (fun ls' hl' => K H locs ls' hI hS hl')
theorem j_istore (Z : gF p l e R s m args below meth c cc nL Ts own g) {i : Nat} {x : Int32} (d : decode cc pc = .ok (.istore i, 2)) (hn : i < nL) (L' : List (Nat × Value)) (hL : (i, Value.int x) :: L.filter (fun q => !(q.1 == i) && !(q.1 + 1 == i && q.2.category == 2)) = L') (K : J p l e R s m args below meth c Q g nL μ k n (pc + 2) L' st) : J p l e R s m args below meth c Q g nL μ k n pc L (.int x :: st) :=
  fun H locs ls hI hS hl => lv_istore Z.1 Z.2.1 d hl hn hL (fun ls' hl' => K H locs ls' hI hS hl')
theorem j_aload_n (Z : gF p l e R s m args below meth c cc nL Ts own g) {z : Fin 4} {x : Nat} (d : decode cc pc = .ok (.aload_n z, 1)) (j : Nat) (hj : L[j]? = some ((z : Nat), .ref x)) (K : J p l e R s m args below meth c Q g nL μ k n (pc + 1) L (.ref x :: st)) : J p l e R s m args below meth c Q g nL μ k n pc L st :=
  fun H locs ls hI hS hl => lv_aload_n Z.1 Z.2.1 d rfl (lv_at hl j hj) (K H locs ls hI hS hl)
theorem j_aload (Z : gF p l e R s m args below meth c cc nL Ts own g) {i : Nat} {x : Nat} (d : decode cc pc = .ok (.aload i, 2)) (j : Nat) (hj : L[j]? = some (i, .ref x)) (K : J p l e R s m args below meth c Q g nL μ k n (pc + 2) L (.ref x :: st)) : J p l e R s m args below meth c Q g nL μ k n pc L st :=
  fun H locs ls hI hS hl => lv_aload Z.1 Z.2.1 d (lv_at hl j hj) (K H locs ls hI hS hl)
theorem j_astore_n (Z : gF p l e R s m args below meth c cc nL Ts own g) {z : Fin 4} {x : Nat} (d : decode cc pc = .ok (.astore_n z, 1)) (hn : (z : Nat) < nL) (L' : List (Nat × Value)) (hL : ((z : Nat), Value.ref x) :: L.filter (fun q => !(q.1 == (z : Nat)) && !(q.1 + 1 == (z : Nat) && q.2.category == 2)) = L') (K : J p l e R s m args below meth c Q g nL μ k n (pc + 1) L' st) : J p l e R s m args below meth c Q g nL μ k n pc L (.ref x :: st) :=
  fun H locs ls hI hS hl => lv_astore_n Z.1 Z.2.1 d rfl hl hn hL (fun ls' hl' => K H locs ls' hI hS hl')
theorem j_astore (Z : gF p l e R s m args below meth c cc nL Ts own g) {i : Nat} {x : Nat} (d : decode cc pc = .ok (.astore i, 2)) (hn : i < nL) (L' : List (Nat × Value)) (hL : (i, Value.ref x) :: L.filter (fun q => !(q.1 == i) && !(q.1 + 1 == i && q.2.category == 2)) = L') (K : J p l e R s m args below meth c Q g nL μ k n (pc + 2) L' st) : J p l e R s m args below meth c Q g nL μ k n pc L (.ref x :: st) :=
  fun H locs ls hI hS hl => lv_astore Z.1 Z.2.1 d hl hn hL (fun ls' hl' => K H locs ls' hI hS hl')
theorem j_iinc (Z : gF p l e R s m args below meth c cc nL Ts own g) {i : Nat} {z : Int} {x v : Int32} (d : decode cc pc = .ok (.iinc i z, 3)) (j : Nat) (hj : L[j]? = some (i, .int x)) (hv : x + Int32.ofInt z = v) (hn : i < nL) (L' : List (Nat × Value)) (hL : (i, Value.int v) :: L.filter (fun q => !(q.1 == i) && !(q.1 + 1 == i && q.2.category == 2)) = L') (K : J p l e R s m args below meth c Q g nL μ k n (pc + 3) L' st) : J p l e R s m args below meth c Q g nL μ k n pc L st :=
  fun H locs ls hI hS hl => lv_iinc Z.1 Z.2.1 d hl hj hv hn hL (fun ls' hl' => K H locs ls' hI hS hl')
theorem j_goto (Z : gF p l e R s m args below meth c cc nL Ts own g) {off : Int} (tgt : Nat) (d : decode cc pc = .ok (.goto off, 3)) (ht : (pc : Int) + off = (tgt : Int)) (K : J p l e R s m args below meth c Q g nL μ k n tgt L st) : J p l e R s m args below meth c Q g nL μ k n pc L st :=
  fun H locs ls hI hS hl => lv_goto Z.1 Z.2.1 d ht (K H locs ls hI hS hl)
theorem j_if_eq (Z : gF p l e R s m args below meth c cc nL Ts own g) {x : Int32} {off : Int} (tgt : Nat) (d : decode cc pc = .ok (.ifCond .eq off, 3)) (ht : (pc : Int) + off = (tgt : Int)) (KT : x = 0 → J p l e R s m args below meth c Q g nL μ k n tgt L st) (KF : ¬ x = 0 → J p l e R s m args below meth c Q g nL μ k n (pc + 3) L st) : J p l e R s m args below meth c Q g nL μ k n pc L (.int x :: st) :=
  fun H locs ls hI hS hl => lv_if_eq Z.1 Z.2.1 d ht (fun h => KT h H locs ls hI hS hl) (fun h => KF h H locs ls hI hS hl)
theorem j_icmp_eq (Z : gF p l e R s m args below meth c cc nL Ts own g) {x y : Int32} {off : Int} (tgt : Nat) (d : decode cc pc = .ok (.if_icmp .eq off, 3)) (ht : (pc : Int) + off = (tgt : Int)) (KT : x = y → J p l e R s m args below meth c Q g nL μ k n tgt L st) (KF : ¬ x = y → J p l e R s m args below meth c Q g nL μ k n (pc + 3) L st) : J p l e R s m args below meth c Q g nL μ k n pc L (.int y :: .int x :: st) :=
  fun H locs ls hI hS hl => lv_icmp_eq Z.1 Z.2.1 d ht (fun h => KT h H locs ls hI hS hl) (fun h => KF h H locs ls hI hS hl)
theorem j_if_ne (Z : gF p l e R s m args below meth c cc nL Ts own g) {x : Int32} {off : Int} (tgt : Nat) (d : decode cc pc = .ok (.ifCond .ne off, 3)) (ht : (pc : Int) + off = (tgt : Int)) (KT : ¬ x = 0 → J p l e R s m args below meth c Q g nL μ k n tgt L st) (KF : x = 0 → J p l e R s m args below meth c Q g nL μ k n (pc + 3) L st) : J p l e R s m args below meth c Q g nL μ k n pc L (.int x :: st) :=
  fun H locs ls hI hS hl => lv_if_ne Z.1 Z.2.1 d ht (fun h => KT h H locs ls hI hS hl) (fun h => KF h H locs ls hI hS hl)
theorem j_icmp_ne (Z : gF p l e R s m args below meth c cc nL Ts own g) {x y : Int32} {off : Int} (tgt : Nat) (d : decode cc pc = .ok (.if_icmp .ne off, 3)) (ht : (pc : Int) + off = (tgt : Int)) (KT : ¬ x = y → J p l e R s m args below meth c Q g nL μ k n tgt L st) (KF : x = y → J p l e R s m args below meth c Q g nL μ k n (pc + 3) L st) : J p l e R s m args below meth c Q g nL μ k n pc L (.int y :: .int x :: st) :=
  fun H locs ls hI hS hl => lv_icmp_ne Z.1 Z.2.1 d ht (fun h => KT h H locs ls hI hS hl) (fun h => KF h H locs ls hI hS hl)
theorem j_if_lt (Z : gF p l e R s m args below meth c cc nL Ts own g) {x : Int32} {off : Int} (tgt : Nat) (d : decode cc pc = .ok (.ifCond .lt off, 3)) (ht : (pc : Int) + off = (tgt : Int)) (KT : x < 0 → J p l e R s m args below meth c Q g nL μ k n tgt L st) (KF : ¬ x < 0 → J p l e R s m args below meth c Q g nL μ k n (pc + 3) L st) : J p l e R s m args below meth c Q g nL μ k n pc L (.int x :: st) :=
  fun H locs ls hI hS hl => lv_if_lt Z.1 Z.2.1 d ht (fun h => KT h H locs ls hI hS hl) (fun h => KF h H locs ls hI hS hl)
theorem j_icmp_lt (Z : gF p l e R s m args below meth c cc nL Ts own g) {x y : Int32} {off : Int} (tgt : Nat) (d : decode cc pc = .ok (.if_icmp .lt off, 3)) (ht : (pc : Int) + off = (tgt : Int)) (KT : x < y → J p l e R s m args below meth c Q g nL μ k n tgt L st) (KF : ¬ x < y → J p l e R s m args below meth c Q g nL μ k n (pc + 3) L st) : J p l e R s m args below meth c Q g nL μ k n pc L (.int y :: .int x :: st) :=
  fun H locs ls hI hS hl => lv_icmp_lt Z.1 Z.2.1 d ht (fun h => KT h H locs ls hI hS hl) (fun h => KF h H locs ls hI hS hl)
theorem j_if_ge (Z : gF p l e R s m args below meth c cc nL Ts own g) {x : Int32} {off : Int} (tgt : Nat) (d : decode cc pc = .ok (.ifCond .ge off, 3)) (ht : (pc : Int) + off = (tgt : Int)) (KT : 0 ≤ x → J p l e R s m args below meth c Q g nL μ k n tgt L st) (KF : ¬ 0 ≤ x → J p l e R s m args below meth c Q g nL μ k n (pc + 3) L st) : J p l e R s m args below meth c Q g nL μ k n pc L (.int x :: st) :=
  fun H locs ls hI hS hl => lv_if_ge Z.1 Z.2.1 d ht (fun h => KT h H locs ls hI hS hl) (fun h => KF h H locs ls hI hS hl)
theorem j_icmp_ge (Z : gF p l e R s m args below meth c cc nL Ts own g) {x y : Int32} {off : Int} (tgt : Nat) (d : decode cc pc = .ok (.if_icmp .ge off, 3)) (ht : (pc : Int) + off = (tgt : Int)) (KT : y ≤ x → J p l e R s m args below meth c Q g nL μ k n tgt L st) (KF : ¬ y ≤ x → J p l e R s m args below meth c Q g nL μ k n (pc + 3) L st) : J p l e R s m args below meth c Q g nL μ k n pc L (.int y :: .int x :: st) :=
  fun H locs ls hI hS hl => lv_icmp_ge Z.1 Z.2.1 d ht (fun h => KT h H locs ls hI hS hl) (fun h => KF h H locs ls hI hS hl)
theorem j_if_gt (Z : gF p l e R s m args below meth c cc nL Ts own g) {x : Int32} {off : Int} (tgt : Nat) (d : decode cc pc = .ok (.ifCond .gt off, 3)) (ht : (pc : Int) + off = (tgt : Int)) (KT : 0 < x → J p l e R s m args below meth c Q g nL μ k n tgt L st) (KF : ¬ 0 < x → J p l e R s m args below meth c Q g nL μ k n (pc + 3) L st) : J p l e R s m args below meth c Q g nL μ k n pc L (.int x :: st) :=
  fun H locs ls hI hS hl => lv_if_gt Z.1 Z.2.1 d ht (fun h => KT h H locs ls hI hS hl) (fun h => KF h H locs ls hI hS hl)
theorem j_icmp_gt (Z : gF p l e R s m args below meth c cc nL Ts own g) {x y : Int32} {off : Int} (tgt : Nat) (d : decode cc pc = .ok (.if_icmp .gt off, 3)) (ht : (pc : Int) + off = (tgt : Int)) (KT : y < x → J p l e R s m args below meth c Q g nL μ k n tgt L st) (KF : ¬ y < x → J p l e R s m args below meth c Q g nL μ k n (pc + 3) L st) : J p l e R s m args below meth c Q g nL μ k n pc L (.int y :: .int x :: st) :=
  fun H locs ls hI hS hl => lv_icmp_gt Z.1 Z.2.1 d ht (fun h => KT h H locs ls hI hS hl) (fun h => KF h H locs ls hI hS hl)
theorem j_if_le (Z : gF p l e R s m args below meth c cc nL Ts own g) {x : Int32} {off : Int} (tgt : Nat) (d : decode cc pc = .ok (.ifCond .le off, 3)) (ht : (pc : Int) + off = (tgt : Int)) (KT : x ≤ 0 → J p l e R s m args below meth c Q g nL μ k n tgt L st) (KF : ¬ x ≤ 0 → J p l e R s m args below meth c Q g nL μ k n (pc + 3) L st) : J p l e R s m args below meth c Q g nL μ k n pc L (.int x :: st) :=
  fun H locs ls hI hS hl => lv_if_le Z.1 Z.2.1 d ht (fun h => KT h H locs ls hI hS hl) (fun h => KF h H locs ls hI hS hl)
theorem j_icmp_le (Z : gF p l e R s m args below meth c cc nL Ts own g) {x y : Int32} {off : Int} (tgt : Nat) (d : decode cc pc = .ok (.if_icmp .le off, 3)) (ht : (pc : Int) + off = (tgt : Int)) (KT : x ≤ y → J p l e R s m args below meth c Q g nL μ k n tgt L st) (KF : ¬ x ≤ y → J p l e R s m args below meth c Q g nL μ k n (pc + 3) L st) : J p l e R s m args below meth c Q g nL μ k n pc L (.int y :: .int x :: st) :=
  fun H locs ls hI hS hl => lv_icmp_le Z.1 Z.2.1 d ht (fun h => KT h H locs ls hI hS hl) (fun h => KF h H locs ls hI hS hl)
theorem j_get (Z : gF p l e R s m args below meth c cc nL Ts own g) (a : Nat) (ha : a < 110) {ci : Nat} {fs : List Value} (he : gE g (μ a) a = .inr (ci, fs)) {C : String} {T : u_T} {N index : Nat} (hc : vwCl[ci]? = some (C, T, N)) (j : Nat) (hj : j < N) {v : Value} (hv : fs[j]? = some v) (hin : ∀ w ∈ u_ws C T N, w ∈ Ts) (hlk : Cond.fieldLink own index (T j).1 (T j).2.1 (T j).2.2.1 ∈ Ts) (d : decode cc pc = .ok (.getfield index, 3)) (K : J p l e R s m args below meth c Q g nL μ k n (pc + 3) L (v :: st)) : J p l e R s m args below meth c Q g nL μ k n pc L (.ref (g.2.1 a) :: st) :=
  fun H locs ls hI hS hl => va_get Z.1 Z.2.1 Z.2.2.2.2.1 hin Z.2.2.2.1 Z.2.2.2.2.2.1.1 hI a (by rw [gW_at ha, he]) hc j hj (Z.2.2.2.2.1 _ hlk) (fun _ h => h) hv d (K H locs ls hI hS hl)
theorem j_put (Z : gF p l e R s m args below meth c cc nL Ts own g) (a : Nat) (ha : a < 110) {ci : Nat} {fs : (Nat → Int32) → List Value} (he : ∀ r : Nat → Int32, gE g r a = .inr (ci, fs r)) {C : String} {T : u_T} {N index : Nat} (hc : vwCl[ci]? = some (C, T, N)) (ty0 : Nat → FieldType) (hty : ∀ k, k < N → parseFieldDescriptor (T k).2.2.1 = some (ty0 k)) (hnm : ∀ a, a < N → ∀ b, b < N → a ≠ b → (T a).2.1 ≠ (T b).2.1) (j : Nat) (hj : j < N) {x : Int32} (hset : (fs (μ a)).set j (.int x) = fs (upd (μ a) j x)) (hln : j < (fs (μ a)).length) (hfin : (T j).2.2.2 = false) (hd : parseFieldDescriptor (T j).2.2.1 = some .int) (hin : ∀ w ∈ u_ws C T N, w ∈ Ts) (hlk : Cond.fieldLink own index (T j).1 (T j).2.1 (T j).2.2.1 ∈ Ts) (d : decode cc pc = .ok (.putfield index, 3)) (K : J p l e R s m args below meth c Q g nL (gU μ a j x) k n (pc + 3) L st) : J p l e R s m args below meth c Q g nL μ k n pc L (.int x :: .ref (g.2.1 a) :: st) :=
  fun H locs ls hI hS hl => va_put (ty := .int) Z.1 Z.2.1 Z.2.2.2.2.1 hin ty0 hty hnm Z.2.2.2.1 Z.2.2.2.2.2.1.1 hI (gD_va Z.2.2.2.2.2.1.2.1 μ) hS a (by rw [gW_at ha, he]) hc j hj (Z.2.2.2.2.1 _ hlk) (fun _ h => h) hfin hd rfl rfl hln d (fun H1 locs1 hP _ hS1 => K H1 locs1 ls (by rw [hset, gW_set ha (he _).symm] at hP; exact hP) hS1 hl)
theorem j_ald (Z : gF p l e R s m args below meth c cc nL Ts own g) (a : Nat) (ha : a < 110) {N : Nat} {f : Nat → Option Nat} (he : gE g (μ a) a = .inl (g.2.2.1 4, N, .inr (.inr (.inr (.inr f))))) {x : Int32} (i : Nat) (hx : x = nI i) (hi : i < N) (hN : N ≤ 4096) {b : Nat} (hf : f i = some b) (d : decode cc pc = .ok (.aaload, 1)) (K : J p l e R s m args below meth c Q g nL μ k n (pc + 1) L (.ref b :: st)) : J p l e R s m args below meth c Q g nL μ k n pc L (.int x :: .ref (g.2.1 a) :: st) := by
  subst hx
  intro H locs ls hI hS hl
  have h1 := hI a _ (gW_at ha)
  rw [he] at h1
  refine W.aald (v := .ref b) (ty := .array .int) Z.1 Z.2.1 h1 ((Z.2.2.2.2.2.1.1.2 4 _ rfl).1 N (fun j => va_rf (f j))) rfl (fun q => by cases q) (by show ¬ (_ ∨ (arrV _ _ _).slots.size ≤ _); rw [arrV_size]; exact nI_vp hi hN) (by show (arrV _ _ _).slots[_]? = _; rw [nI_cl hi hN, arrV_read _ _ hi, hf]; rfl) rfl rfl d (K H locs ls hI hS hl)
theorem j_ild (Z : gF p l e R s m args below meth c cc nL Ts own g) (a : Nat) (ha : a < 110) {N : Nat} (he : ∀ r : Nat → Int32, gE g r a = .inl (g.2.2.1 0, N, .inl r)) {x : Int32} (i : Nat) (hx : x = nI i) (hi : i < N) (hN : N ≤ 4096) (d : decode cc pc = .ok (.iaload, 1)) (K : J p l e R s m args below meth c Q g nL μ k n (pc + 1) L (.int (μ a i) :: st)) : J p l e R s m args below meth c Q g nL μ k n pc L (.int x :: .ref (g.2.1 a) :: st) := by
  subst hx
  intro H locs ls hI hS hl
  refine va_iald (f := μ a) Z.1 Z.2.1 Z.2.2.2.2.2.1.1 hI a 0 (by rw [gW_at ha, he]) rfl (nI_vp hi hN) d ?_
  rw [nI_cl hi hN]
  exact K H locs ls hI hS hl
theorem j_ist (Z : gF p l e R s m args below meth c cc nL Ts own g) (a : Nat) (ha : a < 110) {N : Nat} (he : ∀ r : Nat → Int32, gE g r a = .inl (g.2.2.1 0, N, .inl r)) {x v : Int32} (i : Nat) (hx : x = nI i) (hi : i < N) (hN : N ≤ 4096) (d : decode cc pc = .ok (.iastore, 1)) (K : J p l e R s m args below meth c Q g nL (gU μ a i v) k n (pc + 1) L st) : J p l e R s m args below meth c Q g nL μ k n pc L (.int v :: .int x :: .ref (g.2.1 a) :: st) := by
  subst hx
  intro H locs ls hI hS hl
  refine va_iast (f := μ a) Z.1 Z.2.1 Z.2.2.2.2.2.1.1 hI (gD_va Z.2.2.2.2.2.1.2.1 μ) hS a 0 (by rw [gW_at ha, he]) rfl (nI_vp hi hN) d (fun H1 locs1 hP _ hS1 => ?_)
  rw [nI_cl hi hN, gW_set ha (he _).symm] at hP
  exact K H1 locs1 ls hP hS1 hl
theorem j_zld (Z : gF p l e R s m args below meth c cc nL Ts own g) (a : Nat) (ha : a < 110) {N : Nat} (he : ∀ r : Nat → Int32, gE g r a = .inl (g.2.2.1 1, N, .inl r)) {x : Int32} (i : Nat) (hx : x = nI i) (hi : i < N) (hN : N ≤ 4096) (d : decode cc pc = .ok (.baload, 1)) (K : J p l e R s m args below meth c Q g nL μ k n (pc + 1) L (.int (μ a i) :: st)) : J p l e R s m args below meth c Q g nL μ k n pc L (.int x :: .ref (g.2.1 a) :: st) := by
  subst hx
  intro H locs ls hI hS hl
  refine va_zald (f := μ a) Z.1 Z.2.1 Z.2.2.2.2.2.1.1 hI a 1 (by rw [gW_at ha, he]) rfl (nI_vp hi hN) d ?_
  rw [nI_cl hi hN]
  exact K H locs ls hI hS hl
theorem j_zst (Z : gF p l e R s m args below meth c cc nL Ts own g) (a : Nat) (ha : a < 110) {N : Nat} (he : ∀ r : Nat → Int32, gE g r a = .inl (g.2.2.1 1, N, .inl r)) {x v : Int32} (i : Nat) (hx : x = nI i) (hi : i < N) (hN : N ≤ 4096) (hz : vp_nar .boolean v = v) (d : decode cc pc = .ok (.bastore, 1)) (K : J p l e R s m args below meth c Q g nL (gU μ a i v) k n (pc + 1) L st) : J p l e R s m args below meth c Q g nL μ k n pc L (.int v :: .int x :: .ref (g.2.1 a) :: st) := by
  subst hx
  intro H locs ls hI hS hl
  refine va_zast (f := μ a) Z.1 Z.2.1 Z.2.2.2.2.2.1.1 hI (gD_va Z.2.2.2.2.2.1.2.1 μ) hS a 1 (by rw [gW_at ha, he]) rfl (nI_vp hi hN) d (fun H1 locs1 hP _ hS1 => ?_)
  rw [hz, nI_cl hi hN, gW_set ha (he _).symm] at hP
  exact K H1 locs1 ls hP hS1 hl
theorem j_bld (Z : gF p l e R s m args below meth c cc nL Ts own g) (a : Nat) (ha : a < 110) {N : Nat} (he : ∀ r : Nat → Int32, gE g r a = .inl (g.2.2.1 2, N, .inl r)) {x : Int32} (i : Nat) (hx : x = nI i) (hi : i < N) (hN : N ≤ 4096) (d : decode cc pc = .ok (.baload, 1)) (K : J p l e R s m args below meth c Q g nL μ k n (pc + 1) L (.int (μ a i) :: st)) : J p l e R s m args below meth c Q g nL μ k n pc L (.int x :: .ref (g.2.1 a) :: st) := by
  subst hx
  intro H locs ls hI hS hl
  refine va_bald (f := μ a) Z.1 Z.2.1 Z.2.2.2.2.2.1.1 hI a 2 (by rw [gW_at ha, he]) rfl (nI_vp hi hN) d ?_
  rw [nI_cl hi hN]
  exact K H locs ls hI hS hl
theorem j_bst (Z : gF p l e R s m args below meth c cc nL Ts own g) (a : Nat) (ha : a < 110) {N : Nat} (he : ∀ r : Nat → Int32, gE g r a = .inl (g.2.2.1 2, N, .inl r)) {x v : Int32} (i : Nat) (hx : x = nI i) (hi : i < N) (hN : N ≤ 4096) (hz : vp_nar .byte v = v) (d : decode cc pc = .ok (.bastore, 1)) (K : J p l e R s m args below meth c Q g nL (gU μ a i v) k n (pc + 1) L st) : J p l e R s m args below meth c Q g nL μ k n pc L (.int v :: .int x :: .ref (g.2.1 a) :: st) := by
  subst hx
  intro H locs ls hI hS hl
  refine va_bast (f := μ a) Z.1 Z.2.1 Z.2.2.2.2.2.1.1 hI (gD_va Z.2.2.2.2.2.1.2.1 μ) hS a 2 (by rw [gW_at ha, he]) rfl (nI_vp hi hN) d (fun H1 locs1 hP _ hS1 => ?_)
  rw [hz, nI_cl hi hN, gW_set ha (he _).symm] at hP
  exact K H1 locs1 ls hP hS1 hl
theorem j_lst (Z : gF p l e R s m args below meth c cc nL Ts own g) (a : Nat) (ha : a < 110) {N : Nat} (he : ∀ r : Nat → Int32, gE g r a = .inl (g.2.2.1 3, N, .inr (.inl (fun i => (r i).toInt64)))) {x v : Int32} {w : Int64} (hw : w = v.toInt64) (i : Nat) (hx : x = nI i) (hi : i < N) (hN : N ≤ 4096) (d : decode cc pc = .ok (.lastore, 1)) (K : J p l e R s m args below meth c Q g nL (gU μ a i v) k n (pc + 1) L st) : J p l e R s m args below meth c Q g nL μ k n pc L (.long w :: .int x :: .ref (g.2.1 a) :: st) := by
  subst hx
  subst hw
  intro H locs ls hI hS hl
  refine va_last (f := fun i => (μ a i).toInt64) Z.1 Z.2.1 Z.2.2.2.2.2.1.1 hI (gD_va Z.2.2.2.2.2.1.2.1 μ) hS a 3 (by rw [gW_at ha, he]) rfl (nI_vp hi hN) d (fun H1 locs1 hP _ hS1 => ?_)
  have hu : vp_updL (fun i => (μ a i).toInt64) i v.toInt64 = fun j => (upd (μ a) i v j).toInt64 := by
    funext j
    by_cases h : j = i
    · simp [vp_updL, upd, h]
    · simp [vp_updL, upd, h]
  rw [nI_cl hi hN, hu, gW_set ha (he _).symm] at hP
  exact K H1 locs1 ls hP hS1 hl
theorem j_lld (Z : gF p l e R s m args below meth c cc nL Ts own g) (a : Nat) (ha : a < 110) {N : Nat} (he : ∀ r : Nat → Int32, gE g r a = .inl (g.2.2.1 3, N, .inr (.inl (fun i => (r i).toInt64)))) {x : Int32} (i : Nat) (hx : x = nI i) (hi : i < N) (hN : N ≤ 4096) (d : decode cc pc = .ok (.laload, 1)) (K : J p l e R s m args below meth c Q g nL μ k n (pc + 1) L (.long (μ a i).toInt64 :: st)) : J p l e R s m args below meth c Q g nL μ k n pc L (.int x :: .ref (g.2.1 a) :: st) := by
  subst hx
  intro H locs ls hI hS hl
  refine va_lald (f := fun i => (μ a i).toInt64) Z.1 Z.2.1 Z.2.2.2.2.2.1.1 hI a 3 (by rw [gW_at ha, he]) rfl (nI_vp hi hN) d ?_
  rw [nI_cl hi hN]
  exact K H locs ls hI hS hl
theorem j_lcmp (Z : gF p l e R s m args below meth c cc nL Ts own g) {x y : Int64} (d : decode cc pc = .ok (.lcmp, 1)) (K : J p l e R s m args below meth c Q g nL μ k n (pc + 1) L (.int (lg_cmp x y) :: st)) : J p l e R s m args below meth c Q g nL μ k n pc L (.long y :: .long x :: st) :=
  fun H locs ls hI hS hl => W.lcmp Z.1 Z.2.1 d (K H locs ls hI hS hl)
theorem j_mmax (Z : gF p l e R s m args below meth c cc nL Ts own g) {index : Nat} (h1 : Cond.methodLink own index Lib.Math.max.name ∈ Ts) (h2 : Cond.static Lib.Math.max.name ∈ Ts) (h3 : Cond.initialized "java/lang/Math" ∈ Ts) (h4 : Cond.code Lib.Math.max.name Lib.Math.max.code 2 (some .int) ∈ Ts) (hR : 1 ≤ R.frames ∧ (st.map fun v => v.category).sum + 13 ≤ R.locals ∧ k ≤ R.cells ∧ n ≤ R.slots) {x y : Int32} (d : decode cc pc = .ok (.invokestatic index, 3)) (K : J p l e R s m args below meth c Q g nL μ k n (pc + 3) L (.int (if x < y then y else x) :: st)) : J p l e R s m args below meth c Q g nL μ k n pc L (.int y :: .int x :: st) :=
  fun H locs ls hI hS hl => va_mmax Z.1 Z.2.1 (Z.2.2.1.trans hl.1.symm) Z.2.2.2.1 (Z.2.2.2.2.1 _ h1) (Z.2.2.2.2.1 _ h2) (Z.2.2.2.2.1 _ h3) (Z.2.2.2.2.1 _ h4) hR.1 hR.2.1 hR.2.2.1 hR.2.2.2 d (K H locs ls hI hS hl)
theorem j_mmin (Z : gF p l e R s m args below meth c cc nL Ts own g) {index : Nat} (h1 : Cond.methodLink own index Lib.Math.min.name ∈ Ts) (h2 : Cond.static Lib.Math.min.name ∈ Ts) (h3 : Cond.initialized "java/lang/Math" ∈ Ts) (h4 : Cond.code Lib.Math.min.name Lib.Math.min.code 2 (some .int) ∈ Ts) (hR : 1 ≤ R.frames ∧ (st.map fun v => v.category).sum + 13 ≤ R.locals ∧ k ≤ R.cells ∧ n ≤ R.slots) {x y : Int32} (d : decode cc pc = .ok (.invokestatic index, 3)) (K : J p l e R s m args below meth c Q g nL μ k n (pc + 3) L (.int (if y < x then y else x) :: st)) : J p l e R s m args below meth c Q g nL μ k n pc L (.int y :: .int x :: st) :=
  fun H locs ls hI hS hl => va_mmin Z.1 Z.2.1 (Z.2.2.1.trans hl.1.symm) Z.2.2.2.1 (Z.2.2.2.2.1 _ h1) (Z.2.2.2.2.1 _ h2) (Z.2.2.2.2.1 _ h3) (Z.2.2.2.2.1 _ h4) hR.1 hR.2.1 hR.2.2.1 hR.2.2.2 d (K H locs ls hI hS hl)
end GJ
end
section
/-! NoSuchElementException: its constructor made and thrown (the library's road for a chain whose links all stand at entry 7, with the first link at 13) -/
theorem gNs_0 : decode gNsB 0 = .ok (.aload_n 0, 1) := by decide +kernel
theorem gNs_1 : decode gNsB 1 = .ok (.aload_n 1, 1) := by decide +kernel
theorem gNs_2 : decode gNsB 2 = .ok (.invokespecial 13, 3) := by decide +kernel
theorem gNs_5 : decode gNsB 5 = .ok (.return_, 1) := by decide +kernel
theorem gNs_t {own : String} {ic : Nat} {w : Cond} (h : w ∈ Bundle.throwableAtoms) : w ∈ gNsAll own ic := List.mem_append_left _ (List.mem_append_left _ (List.mem_append_left _ h))
theorem gNs_s {own : String} {ic : Nat} {w : Cond} (h : w ∈ Bundle.throwableSAtoms) : w ∈ gNsAll own ic := List.mem_append_left _ (List.mem_append_left _ (List.mem_append_right _ h))
theorem gNs_p {own : String} {ic : Nat} {w : Cond} (h : w ∈ Bundle.passSAtoms gNs "java/lang/RuntimeException" 13 gNsB) : w ∈ gNsAll own ic := List.mem_append_left _ (List.mem_append_right _ (List.mem_append_left _ h))
theorem gNs_c {own : String} {ic : Nat} {w : Cond} (h : w ∈ Bundle.chainSAtoms "java/lang/RuntimeException" ["java/lang/Exception"]) : w ∈ gNsAll own ic := List.mem_append_left _ (List.mem_append_right _ (List.mem_append_right _ h))
theorem gNs_o {own : String} {ic : Nat} {w : Cond} (h : w ∈ gNsOwn own ic) : w ∈ gNsAll own ic := List.mem_append_right _ h
section GN
variable {p : Program} {l : Launch} {e : Env} {R : Room} {s : State} {m : MethodId} {args : Array Value} {below : List Frame} {meth : Method} {c : Code} {T : State} {locs : List Loc} {cells slots : Nat}
set_option maxHeartbeats 4000000 in
theorem gn_ctor (X : Stand p l e R s m args below meth c T locs cells slots) (hexec : p.tables.exec = Jvm.exec) (htr : e.platform.stackTraces = false) {own : String} {ic : Nat} (hown : s.vm.findClass own = some m.cls) (h : ∀ w ∈ gNsAll own ic, w.before args s = true)
    (hlocs : ∀ x ∈ locs, ∀ cell, s.heap[x.base]? = some cell → cell.vm.isStatics = false) {a : Addr} {cX : ClassId} {kX : Class} (hfX : s.vm.findClass gNs = some cX) (hkX : s.vm.classes[cX]? = some kX) (hcell : T.heap[a]? = some (freshCell cX kX)) (hnew : s.heap.size ≤ a) {msg : Value} (hmsg : msg.isRef = true)
    {g : JFrame} (hg : g.method = m) (hsize : g.locals.size = c.maxLocals) (hlocked : g.locked = none) (hentered : g.entered = []) {rest : List Value} (hstack : g.stack = msg :: .ref a :: .ref a :: rest) (hd6 : decode c.code g.pc = .ok (.invokespecial ic, 3)) (hd9 : decode c.code (g.pc + 3) = .ok (.athrow, 1)) (hout : ∀ x ∈ c.exceptionTable.toList, covers x (g.pc + 3) = false)
    (hRframes : 5 < R.frames) (hRlocals : 2 * g.monitorRoom + ((Value.ref a :: rest).map fun v => v.category).sum + 81 ≤ R.locals) (hlocks : meth.locks = false) :
    ∃ U : State, Steps p.tables e below (T.setTop g) U ∧ U.status = .running ∧ Ended U below (.threw a) ∧ s.WarmedH U.vm ∧ s.sameButNew ({ U with vm := s.vm } : State) locs cells slots ∧ ∃ ce, U.heap[a]? = some ce ∧ s.vm.findClass gNs = some ce.cls ∧ ce.vm = .none := by
  have howns : e.platform.frameOwnsMonitors = true := by rw [X.admits.platform]
  have hfin : e.platform.finalization = false := by rw [X.admits.platform]
  have hpl : e.platform.magicAccessors = ({} : Platform).magicAccessors := by rw [X.admits.platform]
  have ho : ∀ x, x ∈ gNsOwn own ic → x.holds args s none s [] = true := fun x hx => h x (gNs_o hx)
  obtain ⟨Th, Z0, L, -, Y⟩ := ThrowableC.of_atoms (args := args) howns hfin hpl (fun x hx => h x (gNs_t hx))
  obtain ⟨Zi, M, LZ, LM, hnZ⟩ := Init0T.ofS_atoms (args := args) hpl L Y (fun x hx => h x (gNs_s hx))
  obtain ⟨P0, Ps0, hlen0, L0, hL0, hP0m, hl1, hl2⟩ := Bundle.chainS (args := args) hpl hnZ ["java/lang/Exception"] "java/lang/RuntimeException" (by decide +kernel) (by decide +kernel) (fun x hx => h x (gNs_c hx))
  obtain ⟨P1, L1, hP1m, hP1s⟩ := PassC.ofS_atoms (args := args) (s := s) hpl (X := gNs) (Y := "java/lang/RuntimeException") (by decide +kernel) (by decide +kernel) gNs_0 gNs_1 gNs_2 gNs_5 (fun x hx => h x (gNs_p hx))
  have hsup : P1.sup = P0.m := Option.some.inj (hP1s.symm.trans hP0m)
  have hfound : s.vm.findClass gNs = some P1.m.cls := findClass_of_methodNamed hP1m
  cases Option.some.inj (hfX.symm.trans hfound)
  obtain ⟨c1, kX', hc1, hk, hord, -, -, hn6⟩ := Cond.instantiable_spec (ho (.instantiable gNs 6) (by simp [gNsOwn]))
  cases Option.some.inj (hc1.symm.trans hfound)
  cases Option.some.inj (hkX.symm.trans hk)
  have hsel0 : selectMethod e.platform s.vm P1.m.cls Th.fill0 = .method Th.fill0 := by
    obtain ⟨c2, r2, m2, q1, q2, q3, q4, -⟩ := Cond.selects_spec (ho (.selects gNs Bundle.tFill0 Bundle.tFill0) (by simp [gNsOwn]))
    cases Option.some.inj (q1.symm.trans hfound)
    cases Option.some.inj (q2.symm.trans (State.methodFound?_of_named Y.fill0 (by decide)))
    cases Option.some.inj (q3.symm.trans Y.fill0)
    rw [Launch.admits_selectMethod X.admits]; exact q4
  have hselF : selectMethod e.platform s.vm P1.m.cls Th.fill = .method Th.fill := by
    obtain ⟨c2, r2, m2, q1, q2, q3, q4, -⟩ := Cond.selects_spec (ho (.selects gNs Bundle.tFill Bundle.tFill) (by simp [gNsOwn]))
    cases Option.some.inj (q1.symm.trans hfound)
    cases Option.some.inj (q2.symm.trans (State.methodFound?_of_named Y.fill (by decide)))
    cases Option.some.inj (q3.symm.trans Y.fill)
    rw [Launch.admits_selectMethod X.admits]; exact q4
  obtain ⟨cellS0, hcS0, hiss⟩ := Y.statics
  obtain ⟨u0, hu0⟩ := Cond.staticRefV Y.unassigned L.unassignedStatic L.statics hcS0 hiss (ho (.isRef (.static Bundle.tN "UNASSIGNED_STACK" Bundle.steD)) (by simp [gNsOwn]))
  obtain ⟨sen, hsen⟩ := Cond.staticRefV Y.sentinel L.sentinelStatic L.statics hcS0 hiss (ho (.isRef (.static Bundle.tN "SUPPRESSED_SENTINEL" Bundle.listD)) (by simp [gNsOwn]))
  obtain ⟨ci198, i198, fB, hk198, hg198, ha198, hsB, -, hnB, htB, hffB⟩ := Cond.ownField (t := .object "java/lang/Object") Y.found L.cls (by decide +kernel) (ho (.fieldLink Bundle.tN 198 Bundle.tN "backtrace" "Ljava/lang/Object;") (by simp [gNsOwn])) (ho (.lays Bundle.tN Bundle.tN "backtrace" "Ljava/lang/Object;") (by simp [gNsOwn])) e.platform hpl
  obtain ⟨cellS, hcS', heS, -, hkeep⟩ := X.same.2.2.2.2.2 Th.aS cellS0 hcS0
  have hcellS : T.heap[Th.aS]? = some cellS := hcS'
  have hout' : ∀ i, (⟨Th.aS, i⟩ : Loc) ∉ locs := fun i hmem => by
    have := hlocs _ hmem cellS0 hcS0
    rw [hiss] at this; cases this
  have hknownS : cellS.vm ≠ .unknown := by
    rw [heS]; intro hu
    rw [show cellS0.vm = .unknown from hu] at hiss
    cases hiss
  have hneS : Th.aS ≠ a := Nat.ne_of_lt (Nat.lt_of_lt_of_le (Array.getElem?_eq_some_iff.mp hcS0).1 hnew)
  obtain ⟨iM, hffM⟩ := Y.msg
  obtain ⟨tyC, dC, hdC, hdnC⟩ := Cond.laysAt hfound hk Y.cause (ho (.lays gNs Bundle.tN "cause" "Ljava/lang/Throwable;") (by simp [gNsOwn]))
  obtain ⟨tyS, dS, hdS, hdnS⟩ := Cond.laysAt hfound hk Y.stack (ho (.lays gNs Bundle.tN "stackTrace" Bundle.steD) (by simp [gNsOwn]))
  obtain ⟨tyP, dP, hdP, hdnP⟩ := Cond.laysAt hfound hk Y.supp (ho (.lays gNs Bundle.tN "suppressedExceptions" Bundle.listD) (by simp [gNsOwn]))
  obtain ⟨tyM, dM, hdM, hdnM⟩ := Cond.laysAt hfound hk hffM (ho (.lays gNs Bundle.tN "detailMessage" "Ljava/lang/String;") (by simp [gNsOwn]))
  obtain ⟨tyB, dB, hdB, hdnB⟩ := Cond.laysAt hfound hk hffB (ho (.lays gNs Bundle.tN "backtrace" "Ljava/lang/Object;") (by simp [gNsOwn]))
  have bC := Cond.laysApart hdB hdC hdnB hdnC (by rw [hnB, Y.causeName]; decide)
  have bS := Cond.laysApart hdB hdS hdnB hdnS (by rw [hnB, Y.stackName]; decide)
  have bP := Cond.laysApart hdB hdP hdnB hdnP (by rw [hnB, Y.suppName]; decide)
  have hskip : SkipFacts Th e.platform s (fun u => u) u0 ((preparedCellV Th.toThrowableT (freshCell P1.m.cls kX) a u0 sen).withEntry T.cur) :=
    ⟨{ ci198 := ci198, i198 := i198, fBack := fB }, ⟨hk198, hg198, ha198, hsB⟩, by
      have := fresh_default (c := P1.m.cls) tyB
      rw [htB] at this
      simpa [preparedCellV, Cell.setSlot, Cell.withEntry, Array.getElem?_setIfInBounds, bC, bS, bP, bC.symm, bS.symm, bP.symm, defaultValue] using this, fun _ _ => rfl⟩
  obtain ⟨tm, methC, cdC, kC, vm₁, hnC, -, -, -, -, -, -, -, hW₁, st1⟩ := Steps.initColdS (tb := p.tables) (e := e) (below := below) (s := s) (U := T) X.here hexec X.warmed hpl hown (t := Bundle.initS gNs) rfl rfl (by decide +kernel)
    (ho (.methodLink own ic (Bundle.initS gNs)) (by simp [gNsOwn])) (h (.instanceMethod (Bundle.initS gNs)) (gNs_p (by simp [Bundle.passSAtoms]))) (bytes := gNsB) (maxL := 2) (h (.code (Bundle.initS gNs) gNsB 2 none) (gNs_p (by simp [Bundle.passSAtoms])))
    (f := g) hg (a := a) (msg := msg) (rest := .ref a :: rest) hstack hd6
  cases Option.some.inj (hnC.symm.trans hP1m)
  have X₁ := X.noted hW₁
  obtain ⟨vm₂, X₂, st2⟩ := X₁.ctorMessageOffV hexec (g := { g with stack := .ref a :: rest }) hg hsize Th L Zi LZ M LM (P1 :: P0 :: Ps0)
    (fun P hP => by
      rcases List.mem_cons.mp hP with rfl | hP
      · exact L1
      · rcases List.mem_cons.mp hP with rfl | hP
        · exact L0
        · exact hL0 P hP) ⟨hsup, hl1, hl2⟩ (u0 := u0) (sen := sen) (self := a) hmsg (cell := freshCell P1.m.cls kX) (cellS := cellS)
    hcell (fun _ => by simp) (by simp) rfl rfl hsel0 hselF hcellS hneS hknownS (by rw [hkeep _ (hout' _)]; exact hu0) (by rw [hkeep _ (hout' _)]; exact hsen)
    (Takes.of_laid hk hord tyC (by rw [Y.causeType]; rfl)) (Takes.of_laid hk hord tyS (by rw [Y.stackType]; exact fits_refV_array _ u0)) (Takes.of_laid hk hord tyP (by rw [Y.suppType]; exact fits_refV_object _ sen))
    (Takes.of_laid hk hord tyM (by rw [Y.msgType]; exact fits_refV_object _ ⟨msg, hmsg⟩)) Y.objLocals hskip htr [] hd6
    (by simp only [List.length_cons, hlen0, List.length_nil]; omega) (by simp only [List.length_cons, hlen0, List.length_nil]; omega)
  obtain ⟨hwalk, hrun, hended, hWU, hsame⟩ := X₂.athrowLeaves hexec (g := { g with stack := .ref a :: rest, pc := g.pc + 3 }) hg hlocked hentered hout (a := a) (rest := rest) rfl hd9
  have hlt : a < ((T.setVm vm₁).setVm vm₂).heap.size := (Array.getElem?_eq_some_iff.mp hcell).1
  have hU := heapAt_setCell_self (s := (T.setVm vm₁).setVm vm₂) (plainBareV Th.toThrowableT (freshCell P1.m.cls kX) a u0 sen msg) hlt
  refine ⟨_, st1 _ (fun acts => ?_), hrun, hended, hWU, hsame.weaken (fun y hy hlt' => ?_) (Nat.le_refl _) (Nat.le_refl _), _, hU, hfound, rfl⟩
  · rw [doInvoke_state]
    exact st2 _ hwalk
  · rcases List.mem_append.mp hy with h1 | h1
    · exact h1
    · exfalso
      have hb : y.base = a := by
        simp only [List.mem_cons, List.not_mem_nil, or_false] at h1
        rcases h1 with rfl | rfl | rfl | rfl | rfl <;> rfl
      rw [hb] at hlt'
      exact Nat.not_lt.mpr hnew hlt'
end GN
theorem gNs_own {args : Array Value} {s : State} {own : String} {ic : Nat} (h1 : ∀ w ∈ gNsAt own ic, w.before args s = true) (hU : (Cond.isRef (.static Bundle.tN "UNASSIGNED_STACK" Bundle.steD)).before args s = true) (hN : (Cond.isRef (.static Bundle.tN "SUPPRESSED_SENTINEL" Bundle.listD)).before args s = true) (lU : (Cond.laysStatic Bundle.tN "UNASSIGNED_STACK" Bundle.steD).before args s = true) (lN : (Cond.laysStatic Bundle.tN "SUPPRESSED_SENTINEL" Bundle.listD).before args s = true) : ∀ w ∈ gNsAll own ic, w.before args s = true := vx_own h1 hU hN lU lN
section GN2
variable {p : Program} {l : Launch} {e : Env} {R : Room} {s : State} {m : MethodId} {args : Array Value} {below : List Frame} {meth : Method} {c : Code} {H : Heap} {locs : List Loc} {cells slots : Nat} {ls : Array Slot} {rest : List Value} {Qc : Array Value → State → Outcome → State → Prop} {XC : String → State → State → Prop} {free : Addr → Prop}
set_option maxHeartbeats 4000000 in
/-- 'throw new NoSuchElementException("text")' -/
theorem gn_throw {cc : ByteArray} {pc : Nat} (hexec : p.tables.exec = Jvm.exec) (hb : c.code = cc) (hl : l.stackTraces = false) {own text : String} {ik is ic mc ms sa : Nat} {A : Nat → Prop}
    (hown : s.vm.findClass own = some m.cls) (hk : (Cond.classLink own ik gNs).before args s = true) (hini : (Cond.initialized gNs).before args s = true) (hstr : vk_R own is text sa s) (hat : ∀ w ∈ gNsAt own ic, w.before args s = true)
    (hgood : ∀ w ∈ Cond.classLink own ik gNs :: Cond.initialized gNs :: gNsAt own ic, vx_ot w = true)
    (hU : vx_Zq Bundle.tN "UNASSIGNED_STACK" Bundle.steD A s s.heap) (hN : vx_Zq Bundle.tN "SUPPRESSED_SENTINEL" Bundle.listD A s s.heap) (hS : va_S A s.heap H locs) (hsize : ls.size = c.maxLocals)
    (d0 : decode cc pc = .ok (.new ik, 3)) (d3 : decode cc (pc + 3) = .ok (.dup, 1)) (d4 : decode cc (pc + 4) = .ok (.ldc is, 2)) (d6 : decode cc (pc + 6) = .ok (.invokespecial ic, 3)) (d9 : decode cc (pc + 9) = .ok (.athrow, 1))
    (hout : ∀ x ∈ c.exceptionTable.toList, covers x (pc + 9) = false)
    (hRframes : 5 < R.frames) (hRlocals : (rest.map fun v => v.category).sum + 82 ≤ R.locals) (hRcells : cells + 1 ≤ R.cells) (hRslots : slots + 6 ≤ R.slots) (hlocks : meth.locks = false)
    (hx : ∀ t : State, s.vm.Alike t.vm → H.size ≤ t.heap.size → (∀ q : Nat, q < H.size → t.heap[q]? = H[q]?) → XC gNs s t)
    (hf : ∀ z ∈ locs, free z.base) (hc : cells + 1 ≤ mc) (hs : slots + 6 ≤ ms) :
    W p l e R s m args below meth c H locs cells slots (vx_MQ below Qc XC args s mc ms free) (F0 m pc ls rest) := by
  intro T hT X
  have htr : e.platform.stackTraces = false := (show e.platform.stackTraces = l.stackTraces by rw [X.admits.platform]).trans hl
  have Y := vx_rebase X (R' := { frames := R.frames, locals := R.locals, cells := 1, slots := 6 }) (Nat.le_refl _) (Nat.le_refl _) hRcells hRslots
  obtain ⟨s', hA⟩ : ∃ z, z = (T.setVm s.vm).setFrames (.invoking m args :: below) := ⟨_, rfl⟩
  rw [← hA] at Y
  have hvm : s'.vm = s.vm := by rw [hA]; rfl
  have hhp : s'.heap = H := by rw [hA]; exact hT
  have hW0 : s.WarmedH s'.vm := by rw [hvm]; exact State.WarmedH.refl s
  have hat' : ∀ w ∈ gNsAt own ic, w.before args s' = true := fun w hw => vx_ot_at hW0 hvm.symm (hgood w (List.mem_cons_of_mem _ (List.mem_cons_of_mem _ hw))) (hat w hw)
  have hk' : (Cond.classLink own ik gNs).before args s' = true := vx_ot_at hW0 hvm.symm (hgood _ List.mem_cons_self) hk
  have hini' : (Cond.initialized gNs).before args s' = true := vx_ot_at hW0 hvm.symm (hgood _ (List.mem_cons_of_mem _ List.mem_cons_self)) hini
  have hU' : vx_Zq Bundle.tN "UNASSIGNED_STACK" Bundle.steD A s' s'.heap := by rw [hhp]; exact vx_Zq.moved hW0.alike (hU.kept hS.2.1)
  have hN' : vx_Zq Bundle.tN "SUPPRESSED_SENTINEL" Bundle.listD A s' s'.heap := by rw [hhp]; exact vx_Zq.moved hW0.alike (hN.kept hS.2.1)
  have h : ∀ w ∈ gNsAll own ic, w.before args s' = true := gNs_own hat' (vx_isRefq hU'.1) (vx_isRefq hN'.1) hU'.2.word hN'.2.word
  have hown' : s'.vm.findClass own = some m.cls := by rw [hvm]; exact hown
  have hins : (Cond.instantiable gNs 6).before args s' = true := h _ (gNs_o (by simp [gNsOwn]))
  obtain ⟨vm₁, cX, kX, hfX, hkX, -, -, X₁, st1⟩ := Y.newCold hexec (own := own) (C := gNs) (index := ik) (n := 6) hown' hk' hins hini'
    (g := F0 m pc ls rest) rfl (by rw [hb]; exact d0) (Nat.le_refl _) (Nat.le_refl _)
  generalize hT1 : (T.setVm vm₁).pushCell { cls := cX, slots := kX.instanceTypes.map defaultValue, vm := .none } = T1 at X₁ st1
  have hcat : (Value.ref T.heap.size).category = 1 := rfl
  have hcellA : T1.heap[T.heap.size]? = some (freshCell cX kX) := by rw [← hT1]; exact State.heap_pushCell_size _ _
  have d3' : decode c.code (pc + 3) = .ok (.dup, 1) := by rw [hb]; exact d3
  have d4' : decode c.code (pc + 4) = .ok (.ldc is, 2) := by rw [hb]; exact d4
  have hstr' : vk_R own is text sa s' := vk_R.warm hW0 hstr
  obtain ⟨U, hsteps, hrun, hend, hW, hsame, ce, hce, hO1, hO2⟩ := gn_ctor X₁ hexec htr (own := own) (ic := ic) hown' h (fun x hx => nomatch hx) hfX hkX hcellA (by rw [hhp, hT]; exact Nat.le_refl _) (msg := .ref sa) rfl
    (g := { method := m, pc := pc + 6, locals := ls, stack := .ref sa :: .ref T.heap.size :: .ref T.heap.size :: rest, locked := none }) rfl hsize rfl rfl (rest := rest) rfl
    (by rw [hb]; exact d6) (by rw [hb]; exact d9) hout hRframes (by
      have h0 : (JFrame.monitorRoom { method := m, pc := pc + 6, locals := ls, stack := .ref sa :: .ref T.heap.size :: .ref T.heap.size :: rest, locked := none }) = 0 := rfl
      rw [h0]
      simp only [List.map_cons, List.sum_cons, hcat]; omega) hlocks
  obtain ⟨f1, f2⟩ := vx_frame hsame
  rw [hhp] at f1 f2
  have hWs : s.WarmedH U.vm := State.WarmedH.trans hW0 hW
  have hcl : s.vm.findClass gNs = some ce.cls := by
    rw [hvm] at hO1
    exact hO1
  have hall : s.sameButNew ({ U with vm := s.vm } : State) locs mc ms := by
    subst hA
    obtain ⟨e1, e2⟩ := hsame
    rw [State.setFrames_setFrames] at e1
    have h2 : (T.setVm s.vm).sameButNew ({ U with vm := s.vm } : State) [] (0 + 1) (0 + 6) := ⟨e1, e2⟩
    have h3 := X.same.trans h2
    rw [List.append_nil] at h3
    exact h3.mono hc hs
  refine ⟨U, ?_, .threw T.heap.size, hrun, hend, Or.inr ⟨T.heap.size, rfl, gNs, ce, locs, hx U hWs.alike f1 (fun q hq => f2 q hq (fun z hz => nomatch hz)), hce, hO2, hcl, hWs, hall, hf⟩⟩
  refine st1 _ ?_
  show Steps p.tables e below (T1.setTop { method := m, pc := pc + 3, locals := ls, stack := .ref T.heap.size :: rest, locked := none }) _
  jvm_step X₁.here [X₁.here.top, hexec, d3', Value.category]
  exact X₁.ldcString hexec (own := own) (text := text) (index := is) (a := sa) hown' hstr'.1 hstr'.2
    (g := { method := m, pc := pc + 4, locals := ls, stack := .ref T.heap.size :: .ref T.heap.size :: rest, locked := none }) rfl d4' _ hsteps
end GN2
end
section
/-- a contract's end: the memory behind it -/
def gPB (g : gC) : gM → State → Prop := fun μ' t => gI g μ' t.heap
/-- .. where it throws -/
def gPX (g : gC) (bx : String → gM → Prop) : String → State → State → Prop := vx_X (fun _ : gM => True) (fun E u t => bx E u ∧ gI g u t.heap) (gA g)
theorem gX_same {g : gC} {u U : State} (h1 : U.vm = u.vm) (h2 : U.heap = u.heap) (h : gX g u) : gX g U := by
  obtain ⟨hK, hD, hU, hN, hs, hw⟩ := h
  have ha : u.vm.Alike U.vm := by rw [h1]; exact Vm.Alike.refl u.vm
  refine ⟨va_K.moved ha hK, hD, ?_, ?_, fun q hq => ?_, fun w hm => ?_⟩
  · rw [h2]; exact hU.moved ha
  · rw [h2]; exact hN.moved ha
  · obtain ⟨a, ha⟩ := hs q hq
    exact ⟨a, vk_R.same h1 ha⟩
  · have h9 := hw w hm
    simp only [gXw, List.mem_cons, List.not_mem_nil, or_false] at hm
    rcases hm with rfl | rfl | rfl | rfl | rfl | rfl | rfl <;> exact va_Nw.same rfl h1.symm h9
theorem gX_call {g : gC} {s U : State} {H : Heap} {locs : List Loc} (h : gX g s) (hS : va_S (gA g) s.heap H locs) (hU : U.heap = H) (hW : s.WarmedH U.vm) : gX g U := by
  obtain ⟨hK, hD, hZ, hN, hs, hw⟩ := h
  refine ⟨va_K.moved hW.alike hK, hD, ?_, ?_, fun q hq => ?_, fun w hm => ?_⟩
  · rw [hU]; exact (hZ.moved hW.alike).kept (fun a h1 h2 => hS.2.1 a h1 h2)
  · rw [hU]; exact (hN.moved hW.alike).kept (fun a h1 h2 => hS.2.1 a h1 h2)
  · obtain ⟨a, ha⟩ := hs q hq
    exact ⟨a, vk_R.warm hW ha⟩
  · have h9 := hw w hm
    simp only [gXw, List.mem_cons, List.not_mem_nil, or_false] at hm
    rcases hm with rfl | rfl | rfl | rfl | rfl | rfl | rfl
    · exact va_Nw.warmC hW h9
    · exact va_Nw.warmC hW h9
    · exact va_Nw.warmC hW h9
    · exact va_Nw.warmC hW h9
    · exact va_Nw.warmD hW h9
    · exact va_Nw.warmD hW h9
    · exact va_Nw.warmD hW h9
theorem gB_blind {As : List Value} {g : gC} {μ : gM} : FrameBlind (va_Pc As (gB g μ)) := fun a U f mk q => ⟨q.1, q.2.1, gX_same (u := U) (U := U.calling f mk a) rfl rfl q.2.2⟩

abbrev gNm : List String := ["java/lang/RuntimeException", "java/lang/Exception"]
/-- of an exception's class: what a throw needs of its words -/
def gOk (cls : String) (ik ic : Nat) (wl : List Cond) : Prop := ((Bundle.fit cls = true ∧ wl = vx_atS RX5 ic cls gNm) ∨ (cls = gNs ∧ wl = gNsAt RX5 ic)) ∧ (∀ w ∈ wl.filter (fun w => !goodWord w), w ∈ gXw) ∧ ∀ w ∈ Cond.classLink RX5 ik cls :: Cond.initialized cls :: wl, vx_ot w = true
/-- 'throw new E("text")' at pc -/
def gTh (p : Program) (l : Launch) (e : Env) (R : Room) (s : State) (m : MethodId) (args : Array Value) (below : List Frame) (meth : Method) (c : Code) (Q : State → Prop) (g : gC) (nL : Nat) (cc : ByteArray) (Ts : List Cond) (mc ms : Nat) (bx : String → gM → Prop) : Prop :=
  ∀ (cls text : String) (ik is ic : Nat) (wl : List Cond) (μ' : gM) (k n pc : Nat) (L : List (Nat × Value)) (st : List Value), gOk cls ik ic wl → (Cond.classLink RX5 ik cls ∈ Ts ∧ Cond.initialized cls ∈ Ts ∧ ∀ w ∈ wl.filter goodWord, w ∈ Ts) → (is, text) ∈ gSt →
    decode cc pc = .ok (.new ik, 3) → decode cc (pc + 3) = .ok (.dup, 1) → decode cc (pc + 4) = .ok (.ldc is, 2) → decode cc (pc + 6) = .ok (.invokespecial ic, 3) → decode cc (pc + 9) = .ok (.athrow, 1) →
    bx cls μ' → k + 1 ≤ mc → n + 6 ≤ ms → k + 1 ≤ R.cells ∧ n + 6 ≤ R.slots ∧ 5 < R.frames ∧ (st.map fun v => v.category).sum + 82 ≤ R.locals → J p l e R s m args below meth c Q g nL μ' k n pc L st
theorem gI_new {g : gC} {μ : gM} {H H1 : Heap} (h : gI g μ H) (hq : ∀ q : Nat, q < H.size → H1[q]? = H[q]?) : gI g μ H1 := h.kept (fun k q hk => hq q.1 ((h k q hk).lt))
theorem j_throw {p : Program} {l : Launch} {e : Env} {R : Room} {s : State} {m : MethodId} {args : Array Value} {below : List Frame} {meth : Method} {c : Code} {g : gC} {nL : Nat} {cc : ByteArray} {Ts : List Cond} {mc ms : Nat} {Qc : Array Value → State → Outcome → State → Prop} {bx : String → gM → Prop} (Z : gF p l e R s m args below meth c cc nL Ts RX5 g) (hl : l.stackTraces = false) (hno : ∀ x ∈ c.exceptionTable.toList, False) : gTh p l e R s m args below meth c (vx_MQ below Qc (gPX g bx) args s mc ms (gA g)) g nL cc Ts mc ms bx := by
  intro cls text ik is ic wl μ' k n pc L st ok hw hst d0 d3 d4 d6 d9 hb h1 h2 hR H locs ls hI hS hls
  obtain ⟨sa, hsa⟩ := Z.2.2.2.2.2.1.2.2.2.2.1 _ hst
  have hbad : ∀ w ∈ gXw, w.before args s = true := fun w hm => by
    have h9 := Z.2.2.2.2.2.1.2.2.2.2.2 w hm
    simp only [gXw, List.mem_cons, List.not_mem_nil, or_false] at hm
    rcases hm with rfl | rfl | rfl | rfl | rfl | rfl | rfl <;> exact va_Nw.use rfl h9
  have hx : ∀ t : State, s.vm.Alike t.vm → H.size ≤ t.heap.size → (∀ q : Nat, q < H.size → t.heap[q]? = H[q]?) → gPX g bx cls s t := fun t ht hz hq => ⟨μ', trivial, ⟨hb, gI_new hI hq⟩, ⟨Nat.le_trans hS.1 hz, fun q a1 a2 => (hq q (Nat.lt_of_lt_of_le a1 hS.1)).trans (hS.2.1 q a1 a2)⟩⟩
  have hat := vx_hat (fun w h => Z.2.2.2.2.1 w (hw.2.2 w h)) ok.2.1 hbad
  rcases ok.1 with ⟨hfit, hwl⟩ | ⟨hcl, hwl⟩
  · subst hwl
    exact vx_throwS (names := gNm) (A := gA g) Z.1 Z.2.1 hl Z.2.2.2.1 hfit (by decide +kernel) (Z.2.2.2.2.1 _ hw.1) (Z.2.2.2.2.1 _ hw.2.1) hsa hat ok.2.2 Z.2.2.2.2.2.1.2.2.1 Z.2.2.2.2.2.1.2.2.2.1 hS (hls.1.trans Z.2.2.1.symm) d0 d3 d4 d6 d9 (fun x hx => (hno x hx).elim) hR.2.2.1 hR.2.2.2 hR.1 hR.2.1 Z.2.2.2.2.2.2 hx hS.2.2 h1 h2
  · subst hcl
    subst hwl
    exact gn_throw (A := gA g) Z.1 Z.2.1 hl Z.2.2.2.1 (Z.2.2.2.2.1 _ hw.1) (Z.2.2.2.2.1 _ hw.2.1) hsa hat ok.2.2 Z.2.2.2.2.2.1.2.2.1 Z.2.2.2.2.2.1.2.2.2.1 hS (hls.1.trans Z.2.2.1.symm) d0 d3 d4 d6 d9 (fun x hx => (hno x hx).elim) hR.2.2.1 hR.2.2.2 hR.1 hR.2.1 Z.2.2.2.2.2.2 hx hS.2.2 h1 h2
theorem gOk_S : gOk "java/lang/IllegalStateException" 57 61 (vx_atS RX5 61 "java/lang/IllegalStateException" gNm) := ⟨Or.inl ⟨by decide +kernel, rfl⟩, by decide +kernel, by decide +kernel⟩
theorem gOk_A : gOk "java/lang/IllegalArgumentException" 169 173 (vx_atS RX5 173 "java/lang/IllegalArgumentException" gNm) := ⟨Or.inl ⟨by decide +kernel, rfl⟩, by decide +kernel, by decide +kernel⟩
theorem gOk_I : gOk "java/lang/IndexOutOfBoundsException" 157 161 (vx_atS RX5 161 "java/lang/IndexOutOfBoundsException" gNm) := ⟨Or.inl ⟨by decide +kernel, rfl⟩, by decide +kernel, by decide +kernel⟩
theorem gOk_N : gOk gNs 178 182 (gNsAt RX5 182) := ⟨Or.inr ⟨rfl, rfl⟩, by decide +kernel, by decide +kernel⟩
theorem g_ofI {l : Launch} {y : MethodName} {ws ws' : List Cond} {rm : Room} {As : List Value} {g : gC} {μ : gM} {mc ms nL : Nat} {cc : ByteArray} {ret : Option FieldType} {ty : FieldType} {post : Int32 → gM → Prop} (hy : plainName y.cls = true) (hw : ws = .code y cc nL ret :: ws') (hret : ret = some ty) (hn : ∀ v μ', post v μ' → narrow ty (.int v) = .int v) (hlen : (lg_sl As).length ≤ nL)
    (body : ∀ p e s m args below meth c Q, gF p l e rm s m args below meth c cc nL ws y.cls g → (∀ (v : Int32) (μ' : gM) (k n pc : Nat) (L : List (Nat × Value)), post v μ' → k ≤ mc → n ≤ ms → decode cc pc = .ok (.ireturn, 1) → J p l e rm s m args below meth c Q g nL μ' k n pc L [.int v]) → J p l e rm s m args below meth c Q g nL μ 0 0 0 (lv_args 0 As) []) : Met l y ws rm (va_Pc As (gB g μ)) (va_Qi post (gPB g) (gA g)) mc ms (gA g) := by
  refine Met.ofW (cc := cc) (maxL := nL) (ret := ret) hy hw ?_
  intro p e s m args below meth c s₁ B hml hv
  obtain ⟨rfl, hI, hX⟩ := hv
  have hts := atoms_spec (ws := ws) B.pre
  have hown : s.vm.findClass y.cls = some m.cls := findClass_of_methodNamed B.named
  have hr := B.returns
  have Z : gF p l e rm s m As.toArray below meth c cc nL ws y.cls g := ⟨B.exec, B.bytes, hml, hown, hts, hX, B.notSynchronized⟩
  rw [lg_entry_eq]
  refine body p e s m As.toArray below meth c _ Z ?_ s.heap [] _ hI va_S.rf (lv_entry As hlen)
  intro v μ' k n pc L hp h1 h2 d H locs ls hI' hS' hl'
  refine W.widen h1 h2 ?_
  exact W.zret Z.1 Z.2.1 (by rw [hr, hret]) (hn v μ' hp) (fun t ht hW => ⟨⟨v, μ', rfl, hp, by show gI _ _ _; rw [ht]; exact hI'⟩, hS'.F ht⟩) hS'.2.2 d Z.2.2.2.2.2.2
/-- .. which may throw -/
theorem g_oXI {l : Launch} {y : MethodName} {ws ws' : List Cond} {rm : Room} {As : List Value} {g : gC} {μ : gM} {mc ms nL : Nat} {cc : ByteArray} {ret : Option FieldType} {ty : FieldType} {post : Int32 → gM → Prop} {bx : String → gM → Prop} (hl : l.stackTraces = false) (hcl : y.cls = RX5) (hy : plainName y.cls = true) (hw : ws = .code y cc nL ret :: ws') (hret : ret = some ty) (hn : ∀ v μ', post v μ' → narrow ty (.int v) = .int v) (hlen : (lg_sl As).length ≤ nL)
    (body : ∀ p e s m args below meth c Q, gF p l e rm s m args below meth c cc nL ws RX5 g → (∀ (v : Int32) (μ' : gM) (k n pc : Nat) (L : List (Nat × Value)), post v μ' → k ≤ mc → n ≤ ms → decode cc pc = .ok (.ireturn, 1) → J p l e rm s m args below meth c Q g nL μ' k n pc L [.int v]) → (∀ (E : String) (μ' : gM) (k n pc : Nat) (L : List (Nat × Value)) (st : List Value), bx E μ' → k ≤ mc → n ≤ ms → JX p l e rm s m args below meth c Q g nL μ' k n E pc L st) → gTh p l e rm s m args below meth c Q g nL cc ws mc ms bx → J p l e rm s m args below meth c Q g nL μ 0 0 0 (lv_args 0 As) []) : vx_Met l y ws rm (va_Pc As (gB g μ)) (va_Qi post (gPB g) (gA g)) (gPX g bx) mc ms (gA g) := by
  refine vx_ofW (cc := cc) (maxL := nL) (ret := ret) hy hw ?_
  intro p e s m args below meth c s₁ B hml hno hv
  obtain ⟨rfl, hI, hX⟩ := hv
  have hts := atoms_spec (ws := ws) B.pre
  have hown : s.vm.findClass RX5 = some m.cls := by rw [← hcl]; exact findClass_of_methodNamed B.named
  have hr := B.returns
  have Z : gF p l e rm s m As.toArray below meth c cc nL ws RX5 g := ⟨B.exec, B.bytes, hml, hown, hts, hX, B.notSynchronized⟩
  rw [lg_entry_eq]
  refine body p e s m As.toArray below meth c _ Z ?_ ?_ ?_ s.heap [] _ hI va_S.rf (lv_entry As hlen)
  · intro v μ' k n pc L hp h1 h2 d H locs ls hI' hS' hl'
    refine W.widen h1 h2 (vx_ret ?_)
    exact W.zret Z.1 Z.2.1 (by rw [hr, hret]) (hn v μ' hp) (fun t ht hW => ⟨⟨v, μ', rfl, hp, by show gI _ _ _; rw [ht]; exact hI'⟩, hS'.F ht⟩) hS'.2.2 d Z.2.2.2.2.2.2
  · intro E μ' k n pc L st hb h1 h2 H locs ls q ce hI' hS' hl' c1 c2 c3
    exact vx_out (fun x hx => (hno x hx).elim) Z.2.2.2.2.2.2 c1 c2 c3 (fun t ht hA => ⟨μ', trivial, ⟨hb, by rw [ht]; exact hI'⟩, hS'.F ht⟩) hS'.2.2 h1 h2
  · exact j_throw Z hl (fun x hx => (hno x hx).elim)
theorem g_ofV {l : Launch} {y : MethodName} {ws ws' : List Cond} {rm : Room} {As : List Value} {g : gC} {μ : gM} {mc ms nL : Nat} {cc : ByteArray} {ret : Option FieldType} {post : gM → Prop} (hy : plainName y.cls = true) (hw : ws = .code y cc nL ret :: ws') (hret : ret = none) (hlen : (lg_sl As).length ≤ nL)
    (body : ∀ p e s m args below meth c Q, gF p l e rm s m args below meth c cc nL ws y.cls g → (∀ (μ' : gM) (k n pc : Nat) (L : List (Nat × Value)), post μ' → k ≤ mc → n ≤ ms → decode cc pc = .ok (.return_, 1) → J p l e rm s m args below meth c Q g nL μ' k n pc L []) → J p l e rm s m args below meth c Q g nL μ 0 0 0 (lv_args 0 As) []) : Met l y ws rm (va_Pc As (gB g μ)) (va_Qv post (gPB g) (gA g)) mc ms (gA g) := by
  refine Met.ofW (cc := cc) (maxL := nL) (ret := ret) hy hw ?_
  intro p e s m args below meth c s₁ B hml hv
  obtain ⟨rfl, hI, hX⟩ := hv
  have hts := atoms_spec (ws := ws) B.pre
  have hown : s.vm.findClass y.cls = some m.cls := findClass_of_methodNamed B.named
  have hr := B.returns
  have Z : gF p l e rm s m As.toArray below meth c cc nL ws y.cls g := ⟨B.exec, B.bytes, hml, hown, hts, hX, B.notSynchronized⟩
  rw [lg_entry_eq]
  refine body p e s m As.toArray below meth c _ Z ?_ s.heap [] _ hI va_S.rf (lv_entry As hlen)
  intro μ' k n pc L hp h1 h2 d H locs ls hI' hS' hl'
  refine W.widen h1 h2 ?_
  exact W.vret Z.1 Z.2.1 (by rw [hr, hret]) (fun t ht hW => ⟨⟨μ', rfl, hp, by show gI _ _ _; rw [ht]; exact hI'⟩, hS'.F ht⟩) hS'.2.2 d Z.2.2.2.2.2.2
/-- .. which may throw -/
theorem g_oXV {l : Launch} {y : MethodName} {ws ws' : List Cond} {rm : Room} {As : List Value} {g : gC} {μ : gM} {mc ms nL : Nat} {cc : ByteArray} {ret : Option FieldType} {post : gM → Prop} {bx : String → gM → Prop} (hl : l.stackTraces = false) (hcl : y.cls = RX5) (hy : plainName y.cls = true) (hw : ws = .code y cc nL ret :: ws') (hret : ret = none) (hlen : (lg_sl As).length ≤ nL)
    (body : ∀ p e s m args below meth c Q, gF p l e rm s m args below meth c cc nL ws RX5 g → (∀ (μ' : gM) (k n pc : Nat) (L : List (Nat × Value)), post μ' → k ≤ mc → n ≤ ms → decode cc pc = .ok (.return_, 1) → J p l e rm s m args below meth c Q g nL μ' k n pc L []) → (∀ (E : String) (μ' : gM) (k n pc : Nat) (L : List (Nat × Value)) (st : List Value), bx E μ' → k ≤ mc → n ≤ ms → JX p l e rm s m args below meth c Q g nL μ' k n E pc L st) → gTh p l e rm s m args below meth c Q g nL cc ws mc ms bx → J p l e rm s m args below meth c Q g nL μ 0 0 0 (lv_args 0 As) []) : vx_Met l y ws rm (va_Pc As (gB g μ)) (va_Qv post (gPB g) (gA g)) (gPX g bx) mc ms (gA g) := by
  refine vx_ofW (cc := cc) (maxL := nL) (ret := ret) hy hw ?_
  intro p e s m args below meth c s₁ B hml hno hv
  obtain ⟨rfl, hI, hX⟩ := hv
  have hts := atoms_spec (ws := ws) B.pre
  have hown : s.vm.findClass RX5 = some m.cls := by rw [← hcl]; exact findClass_of_methodNamed B.named
  have hr := B.returns
  have Z : gF p l e rm s m As.toArray below meth c cc nL ws RX5 g := ⟨B.exec, B.bytes, hml, hown, hts, hX, B.notSynchronized⟩
  rw [lg_entry_eq]
  refine body p e s m As.toArray below meth c _ Z ?_ ?_ ?_ s.heap [] _ hI va_S.rf (lv_entry As hlen)
  · intro μ' k n pc L hp h1 h2 d H locs ls hI' hS' hl'
    refine W.widen h1 h2 (vx_ret ?_)
    exact W.vret Z.1 Z.2.1 (by rw [hr, hret]) (fun t ht hW => ⟨⟨μ', rfl, hp, by show gI _ _ _; rw [ht]; exact hI'⟩, hS'.F ht⟩) hS'.2.2 d Z.2.2.2.2.2.2
  · intro E μ' k n pc L st hb h1 h2 H locs ls q ce hI' hS' hl' c1 c2 c3
    exact vx_out (fun x hx => (hno x hx).elim) Z.2.2.2.2.2.2 c1 c2 c3 (fun t ht hA => ⟨μ', trivial, ⟨hb, by rw [ht]; exact hI'⟩, hS'.F ht⟩) hS'.2.2 h1 h2
  · exact j_throw Z hl (fun x hx => (hno x hx).elim)
section GC
variable {p : Program} {l : Launch} {e : Env} {R : Room} {s : State} {m : MethodId} {args : Array Value} {below : List Frame} {meth : Method} {c : Code} {Q : State → Prop} {g : gC} {nL : Nat} {μ : gM} {k n : Nat} {cc : ByteArray} {Ts : List Cond} {own : String} {pc : Nat} {L : List (Nat × Value)} {st : List Value}
theorem j_callVi (Z : gF p l e R s m args below meth c cc nL Ts own g) {y : MethodName} {ws1 ws' : List Cond} {rm : Room} {As rest : List Value} {mc ms nA maxL index : Nat} {bytes : ByteArray} {ret : Option FieldType} {post : Int32 → gM → Prop} (a : Nat) (ha : a < 110) {ci : Nat} {fs : List Value} (he : gE g (μ a) a = .inr (ci, fs)) {C : String} {T : u_T} {N : Nat} (hc : vwCl[ci]? = some (C, T, N)) (hM : Met l y ws1 rm (va_Pc (.ref (g.2.1 a) :: As) (gB g μ)) (va_Qi post (gPB g) (gA g)) mc ms (gA g)) (hT : GoodIn Ts (wsV own index C y ws1)) (hw : ws1 = Cond.code y bytes maxL ret :: ws') (hrc : rm.cells = mc) (hrs : rm.slots = ms) (hd : y.cls = C ∧ y.cls ≠ "java/lang/invoke/MethodHandle" ∧ y.cls ≠ "java/lang/invoke/VarHandle" ∧ (parseMethodDescriptor y.desc).map (fun d => d.parameters.length) = some nA) (hR : rm.frames + 1 ≤ R.frames ∧ 8 + (maxL + 11) + rm.locals ≤ R.locals) (hn : As.length = nA) (d : decode cc pc = .ok (.invokevirtual index, 3)) {stk : List Value} (hst : stk = As.reverse ++ .ref (g.2.1 a) :: rest) (hcat : (rest.map fun v => v.category).sum ≤ 8) (hroom : k + mc ≤ R.cells ∧ n + ms ≤ R.slots) (K : ∀ (r : Int32) (μ' : gM), post r μ' → J p l e R s m args below meth c Q g nL μ' (k + mc) (n + ms) (pc + 3) L (.int r :: rest)) : J p l e R s m args below meth c Q g nL μ k n pc L stk := by
  subst hst
  intro H locs ls hI hS hl
  exact va_calli (va_runV ⟨Z.1, Z.2.1, Z.2.2.1, Z.2.2.2.1, Z.2.2.2.2.1⟩ hM (cwV nA Z.2.2.2.2.1 hT hw hrc hrs hd hR) ⟨gB_blind, va_recv Z.2.2.2.2.2.1.1 hI hc (by rw [gW_at ha, he]), fun U hU hW => ⟨rfl, by rw [hU]; exact hI, gX_call Z.2.2.2.2.2.1 hS hU hW⟩⟩ rfl hn hl.1 rfl (lv_room hcat) d hroom) hS (fun _ _ h => h) (fun _ h => h) (fun r u t H1 locs1 ht hvm hp hB hz hk hS1 => K r u hp H1 locs1 ls (by rw [← ht]; exact hB) hS1 hl)
theorem j_callVxi (Z : gF p l e R s m args below meth c cc nL Ts own g) {y : MethodName} {ws1 ws' : List Cond} {rm : Room} {As rest : List Value} {mc ms nA maxL index : Nat} {bytes : ByteArray} {ret : Option FieldType} {post : Int32 → gM → Prop} {bx : String → gM → Prop} (a : Nat) (ha : a < 110) {ci : Nat} {fs : List Value} (he : gE g (μ a) a = .inr (ci, fs)) {C : String} {T : u_T} {N : Nat} (hc : vwCl[ci]? = some (C, T, N)) (hM : vx_Met l y ws1 rm (va_Pc (.ref (g.2.1 a) :: As) (gB g μ)) (va_Qi post (gPB g) (gA g)) (gPX g bx) mc ms (gA g)) (hT : GoodIn Ts (wsV own index C y ws1)) (hw : ws1 = Cond.code y bytes maxL ret :: ws') (hrc : rm.cells = mc) (hrs : rm.slots = ms) (hd : y.cls = C ∧ y.cls ≠ "java/lang/invoke/MethodHandle" ∧ y.cls ≠ "java/lang/invoke/VarHandle" ∧ (parseMethodDescriptor y.desc).map (fun d => d.parameters.length) = some nA) (hR : rm.frames + 1 ≤ R.frames ∧ 8 + (maxL + 11) + rm.locals ≤ R.locals) (hn : As.length = nA) (d : decode cc pc = .ok (.invokevirtual index, 3)) {stk : List Value} (hst : stk = As.reverse ++ .ref (g.2.1 a) :: rest) (hcat : (rest.map fun v => v.category).sum ≤ 8) (hroom : k + mc ≤ R.cells ∧ n + ms ≤ R.slots) (KX : ∀ (E : String) (μ' : gM), bx E μ' → JX p l e R s m args below meth c Q g nL μ' (k + mc) (n + ms) E pc L rest) (K : ∀ (r : Int32) (μ' : gM), post r μ' → J p l e R s m args below meth c Q g nL μ' (k + mc) (n + ms) (pc + 3) L (.int r :: rest)) : J p l e R s m args below meth c Q g nL μ k n pc L stk := by
  subst hst
  intro H locs ls hI hS hl
  exact vx_calli (vx_runV ⟨Z.1, Z.2.1, Z.2.2.1, Z.2.2.2.1, Z.2.2.2.2.1⟩ hM (cwV nA Z.2.2.2.2.1 hT hw hrc hrs hd hR) ⟨gB_blind, va_recv Z.2.2.2.2.2.1.1 hI hc (by rw [gW_at ha, he]), fun U hU hW => ⟨rfl, by rw [hU]; exact hI, gX_call Z.2.2.2.2.2.1 hS hU hW⟩⟩ rfl hn hl.1 rfl (lv_room hcat) d hroom) hS (fun _ _ h => h) (fun _ h => h) (fun _ _ h => h) (fun E ce q9 u t H1 locs1 ht hvm hp hB hz hk hS1 e1 e2 e3 => KX E u hB.1 H1 locs1 ls q9 ce (by rw [← ht]; exact hB.2) hS1 hl e1 e2 e3) (fun r u t H1 locs1 ht hvm hp hB hz hk hS1 => K r u hp H1 locs1 ls (by rw [← ht]; exact hB) hS1 hl)
theorem j_callVv (Z : gF p l e R s m args below meth c cc nL Ts own g) {y : MethodName} {ws1 ws' : List Cond} {rm : Room} {As rest : List Value} {mc ms nA maxL index : Nat} {bytes : ByteArray} {ret : Option FieldType} {post : gM → Prop} (a : Nat) (ha : a < 110) {ci : Nat} {fs : List Value} (he : gE g (μ a) a = .inr (ci, fs)) {C : String} {T : u_T} {N : Nat} (hc : vwCl[ci]? = some (C, T, N)) (hM : Met l y ws1 rm (va_Pc (.ref (g.2.1 a) :: As) (gB g μ)) (va_Qv post (gPB g) (gA g)) mc ms (gA g)) (hT : GoodIn Ts (wsV own index C y ws1)) (hw : ws1 = Cond.code y bytes maxL ret :: ws') (hrc : rm.cells = mc) (hrs : rm.slots = ms) (hd : y.cls = C ∧ y.cls ≠ "java/lang/invoke/MethodHandle" ∧ y.cls ≠ "java/lang/invoke/VarHandle" ∧ (parseMethodDescriptor y.desc).map (fun d => d.parameters.length) = some nA) (hR : rm.frames + 1 ≤ R.frames ∧ 8 + (maxL + 11) + rm.locals ≤ R.locals) (hn : As.length = nA) (d : decode cc pc = .ok (.invokevirtual index, 3)) {stk : List Value} (hst : stk = As.reverse ++ .ref (g.2.1 a) :: rest) (hcat : (rest.map fun v => v.category).sum ≤ 8) (hroom : k + mc ≤ R.cells ∧ n + ms ≤ R.slots) (K : ∀ μ' : gM, post μ' → J p l e R s m args below meth c Q g nL μ' (k + mc) (n + ms) (pc + 3) L rest) : J p l e R s m args below meth c Q g nL μ k n pc L stk := by
  subst hst
  intro H locs ls hI hS hl
  exact va_callv (va_runV ⟨Z.1, Z.2.1, Z.2.2.1, Z.2.2.2.1, Z.2.2.2.2.1⟩ hM (cwV nA Z.2.2.2.2.1 hT hw hrc hrs hd hR) ⟨gB_blind, va_recv Z.2.2.2.2.2.1.1 hI hc (by rw [gW_at ha, he]), fun U hU hW => ⟨rfl, by rw [hU]; exact hI, gX_call Z.2.2.2.2.2.1 hS hU hW⟩⟩ rfl hn hl.1 rfl (lv_room hcat) d hroom) hS (fun _ _ h => h) (fun _ h => h) (fun u t H1 locs1 ht hvm hp hB hz hk hS1 => K u hp H1 locs1 ls (by rw [← ht]; exact hB) hS1 hl)
theorem j_callVxv (Z : gF p l e R s m args below meth c cc nL Ts own g) {y : MethodName} {ws1 ws' : List Cond} {rm : Room} {As rest : List Value} {mc ms nA maxL index : Nat} {bytes : ByteArray} {ret : Option FieldType} {post : gM → Prop} {bx : String → gM → Prop} (a : Nat) (ha : a < 110) {ci : Nat} {fs : List Value} (he : gE g (μ a) a = .inr (ci, fs)) {C : String} {T : u_T} {N : Nat} (hc : vwCl[ci]? = some (C, T, N)) (hM : vx_Met l y ws1 rm (va_Pc (.ref (g.2.1 a) :: As) (gB g μ)) (va_Qv post (gPB g) (gA g)) (gPX g bx) mc ms (gA g)) (hT : GoodIn Ts (wsV own index C y ws1)) (hw : ws1 = Cond.code y bytes maxL ret :: ws') (hrc : rm.cells = mc) (hrs : rm.slots = ms) (hd : y.cls = C ∧ y.cls ≠ "java/lang/invoke/MethodHandle" ∧ y.cls ≠ "java/lang/invoke/VarHandle" ∧ (parseMethodDescriptor y.desc).map (fun d => d.parameters.length) = some nA) (hR : rm.frames + 1 ≤ R.frames ∧ 8 + (maxL + 11) + rm.locals ≤ R.locals) (hn : As.length = nA) (d : decode cc pc = .ok (.invokevirtual index, 3)) {stk : List Value} (hst : stk = As.reverse ++ .ref (g.2.1 a) :: rest) (hcat : (rest.map fun v => v.category).sum ≤ 8) (hroom : k + mc ≤ R.cells ∧ n + ms ≤ R.slots) (KX : ∀ (E : String) (μ' : gM), bx E μ' → JX p l e R s m args below meth c Q g nL μ' (k + mc) (n + ms) E pc L rest) (K : ∀ μ' : gM, post μ' → J p l e R s m args below meth c Q g nL μ' (k + mc) (n + ms) (pc + 3) L rest) : J p l e R s m args below meth c Q g nL μ k n pc L stk := by
  subst hst
  intro H locs ls hI hS hl
  exact vx_callv (vx_runV ⟨Z.1, Z.2.1, Z.2.2.1, Z.2.2.2.1, Z.2.2.2.2.1⟩ hM (cwV nA Z.2.2.2.2.1 hT hw hrc hrs hd hR) ⟨gB_blind, va_recv Z.2.2.2.2.2.1.1 hI hc (by rw [gW_at ha, he]), fun U hU hW => ⟨rfl, by rw [hU]; exact hI, gX_call Z.2.2.2.2.2.1 hS hU hW⟩⟩ rfl hn hl.1 rfl (lv_room hcat) d hroom) hS (fun _ _ h => h) (fun _ h => h) (fun _ _ h => h) (fun E ce q9 u t H1 locs1 ht hvm hp hB hz hk hS1 e1 e2 e3 => KX E u hB.1 H1 locs1 ls q9 ce (by rw [← ht]; exact hB.2) hS1 hl e1 e2 e3) (fun u t H1 locs1 ht hvm hp hB hz hk hS1 => K u hp H1 locs1 ls (by rw [← ht]; exact hB) hS1 hl)
theorem j_callSi (Z : gF p l e R s m args below meth c cc nL Ts own g) {y : MethodName} {ws1 ws' : List Cond} {rm : Room} {As rest : List Value} {mc ms nA maxL index : Nat} {bytes : ByteArray} {ret : Option FieldType} {post : Int32 → gM → Prop} (hM : Met l y ws1 rm (va_Pc As (gB g μ)) (va_Qi post (gPB g) (gA g)) mc ms (gA g)) (hT : GoodIn Ts (va_wsS own index y ws1)) (hw : ws1 = Cond.code y bytes maxL ret :: ws') (hrc : rm.cells = mc) (hrs : rm.slots = ms) (hd : y.cls ≠ "java/lang/invoke/MethodHandle" ∧ y.cls ≠ "java/lang/invoke/VarHandle" ∧ (parseMethodDescriptor y.desc).map (fun d => d.parameters.length) = some nA) (hR : rm.frames + 1 ≤ R.frames ∧ 8 + (maxL + 11) + rm.locals ≤ R.locals) (hn : As.length = nA) (d : decode cc pc = .ok (.invokestatic index, 3)) {stk : List Value} (hst : stk = As.reverse ++ rest) (hcat : (rest.map fun v => v.category).sum ≤ 8) (hroom : k + mc ≤ R.cells ∧ n + ms ≤ R.slots) (K : ∀ (r : Int32) (μ' : gM), post r μ' → J p l e R s m args below meth c Q g nL μ' (k + mc) (n + ms) (pc + 3) L (.int r :: rest)) : J p l e R s m args below meth c Q g nL μ k n pc L stk := by
  subst hst
  intro H locs ls hI hS hl
  exact va_calli (va_runS ⟨Z.1, Z.2.1, Z.2.2.1, Z.2.2.2.1, Z.2.2.2.2.1⟩ hM (va_cwS nA Z.2.2.2.2.1 hT hw hrc hrs hd hR) ⟨gB_blind, fun U hU hW => ⟨rfl, by rw [hU]; exact hI, gX_call Z.2.2.2.2.2.1 hS hU hW⟩⟩ rfl hn hl.1 rfl (lv_room hcat) d hroom) hS (fun _ _ h => h) (fun _ h => h) (fun r u t H1 locs1 ht hvm hp hB hz hk hS1 => K r u hp H1 locs1 ls (by rw [← ht]; exact hB) hS1 hl)
theorem j_callSxi (Z : gF p l e R s m args below meth c cc nL Ts own g) {y : MethodName} {ws1 ws' : List Cond} {rm : Room} {As rest : List Value} {mc ms nA maxL index : Nat} {bytes : ByteArray} {ret : Option FieldType} {post : Int32 → gM → Prop} {bx : String → gM → Prop} (hM : vx_Met l y ws1 rm (va_Pc As (gB g μ)) (va_Qi post (gPB g) (gA g)) (gPX g bx) mc ms (gA g)) (hT : GoodIn Ts (va_wsS own index y ws1)) (hw : ws1 = Cond.code y bytes maxL ret :: ws') (hrc : rm.cells = mc) (hrs : rm.slots = ms) (hd : y.cls ≠ "java/lang/invoke/MethodHandle" ∧ y.cls ≠ "java/lang/invoke/VarHandle" ∧ (parseMethodDescriptor y.desc).map (fun d => d.parameters.length) = some nA) (hR : rm.frames + 1 ≤ R.frames ∧ 8 + (maxL + 11) + rm.locals ≤ R.locals) (hn : As.length = nA) (d : decode cc pc = .ok (.invokestatic index, 3)) {stk : List Value} (hst : stk = As.reverse ++ rest) (hcat : (rest.map fun v => v.category).sum ≤ 8) (hroom : k + mc ≤ R.cells ∧ n + ms ≤ R.slots) (KX : ∀ (E : String) (μ' : gM), bx E μ' → JX p l e R s m args below meth c Q g nL μ' (k + mc) (n + ms) E pc L rest) (K : ∀ (r : Int32) (μ' : gM), post r μ' → J p l e R s m args below meth c Q g nL μ' (k + mc) (n + ms) (pc + 3) L (.int r :: rest)) : J p l e R s m args below meth c Q g nL μ k n pc L stk := by
  subst hst
  intro H locs ls hI hS hl
  exact vx_calli (vx_runS ⟨Z.1, Z.2.1, Z.2.2.1, Z.2.2.2.1, Z.2.2.2.2.1⟩ hM (va_cwS nA Z.2.2.2.2.1 hT hw hrc hrs hd hR) ⟨gB_blind, fun U hU hW => ⟨rfl, by rw [hU]; exact hI, gX_call Z.2.2.2.2.2.1 hS hU hW⟩⟩ rfl hn hl.1 rfl (lv_room hcat) d hroom) hS (fun _ _ h => h) (fun _ h => h) (fun _ _ h => h) (fun E ce q9 u t H1 locs1 ht hvm hp hB hz hk hS1 e1 e2 e3 => KX E u hB.1 H1 locs1 ls q9 ce (by rw [← ht]; exact hB.2) hS1 hl e1 e2 e3) (fun r u t H1 locs1 ht hvm hp hB hz hk hS1 => K r u hp H1 locs1 ls (by rw [← ht]; exact hB) hS1 hl)
theorem j_callSv (Z : gF p l e R s m args below meth c cc nL Ts own g) {y : MethodName} {ws1 ws' : List Cond} {rm : Room} {As rest : List Value} {mc ms nA maxL index : Nat} {bytes : ByteArray} {ret : Option FieldType} {post : gM → Prop} (hM : Met l y ws1 rm (va_Pc As (gB g μ)) (va_Qv post (gPB g) (gA g)) mc ms (gA g)) (hT : GoodIn Ts (va_wsS own index y ws1)) (hw : ws1 = Cond.code y bytes maxL ret :: ws') (hrc : rm.cells = mc) (hrs : rm.slots = ms) (hd : y.cls ≠ "java/lang/invoke/MethodHandle" ∧ y.cls ≠ "java/lang/invoke/VarHandle" ∧ (parseMethodDescriptor y.desc).map (fun d => d.parameters.length) = some nA) (hR : rm.frames + 1 ≤ R.frames ∧ 8 + (maxL + 11) + rm.locals ≤ R.locals) (hn : As.length = nA) (d : decode cc pc = .ok (.invokestatic index, 3)) {stk : List Value} (hst : stk = As.reverse ++ rest) (hcat : (rest.map fun v => v.category).sum ≤ 8) (hroom : k + mc ≤ R.cells ∧ n + ms ≤ R.slots) (K : ∀ μ' : gM, post μ' → J p l e R s m args below meth c Q g nL μ' (k + mc) (n + ms) (pc + 3) L rest) : J p l e R s m args below meth c Q g nL μ k n pc L stk := by
  subst hst
  intro H locs ls hI hS hl
  exact va_callv (va_runS ⟨Z.1, Z.2.1, Z.2.2.1, Z.2.2.2.1, Z.2.2.2.2.1⟩ hM (va_cwS nA Z.2.2.2.2.1 hT hw hrc hrs hd hR) ⟨gB_blind, fun U hU hW => ⟨rfl, by rw [hU]; exact hI, gX_call Z.2.2.2.2.2.1 hS hU hW⟩⟩ rfl hn hl.1 rfl (lv_room hcat) d hroom) hS (fun _ _ h => h) (fun _ h => h) (fun u t H1 locs1 ht hvm hp hB hz hk hS1 => K u hp H1 locs1 ls (by rw [← ht]; exact hB) hS1 hl)
theorem j_callSxv (Z : gF p l e R s m args below meth c cc nL Ts own g) {y : MethodName} {ws1 ws' : List Cond} {rm : Room} {As rest : List Value} {mc ms nA maxL index : Nat} {bytes : ByteArray} {ret : Option FieldType} {post : gM → Prop} {bx : String → gM → Prop} (hM : vx_Met l y ws1 rm (va_Pc As (gB g μ)) (va_Qv post (gPB g) (gA g)) (gPX g bx) mc ms (gA g)) (hT : GoodIn Ts (va_wsS own index y ws1)) (hw : ws1 = Cond.code y bytes maxL ret :: ws') (hrc : rm.cells = mc) (hrs : rm.slots = ms) (hd : y.cls ≠ "java/lang/invoke/MethodHandle" ∧ y.cls ≠ "java/lang/invoke/VarHandle" ∧ (parseMethodDescriptor y.desc).map (fun d => d.parameters.length) = some nA) (hR : rm.frames + 1 ≤ R.frames ∧ 8 + (maxL + 11) + rm.locals ≤ R.locals) (hn : As.length = nA) (d : decode cc pc = .ok (.invokestatic index, 3)) {stk : List Value} (hst : stk = As.reverse ++ rest) (hcat : (rest.map fun v => v.category).sum ≤ 8) (hroom : k + mc ≤ R.cells ∧ n + ms ≤ R.slots) (KX : ∀ (E : String) (μ' : gM), bx E μ' → JX p l e R s m args below meth c Q g nL μ' (k + mc) (n + ms) E pc L rest) (K : ∀ μ' : gM, post μ' → J p l e R s m args below meth c Q g nL μ' (k + mc) (n + ms) (pc + 3) L rest) : J p l e R s m args below meth c Q g nL μ k n pc L stk := by
  subst hst
  intro H locs ls hI hS hl
  exact vx_callv (vx_runS ⟨Z.1, Z.2.1, Z.2.2.1, Z.2.2.2.1, Z.2.2.2.2.1⟩ hM (va_cwS nA Z.2.2.2.2.1 hT hw hrc hrs hd hR) ⟨gB_blind, fun U hU hW => ⟨rfl, by rw [hU]; exact hI, gX_call Z.2.2.2.2.2.1 hS hU hW⟩⟩ rfl hn hl.1 rfl (lv_room hcat) d hroom) hS (fun _ _ h => h) (fun _ h => h) (fun _ _ h => h) (fun E ce q9 u t H1 locs1 ht hvm hp hB hz hk hS1 e1 e2 e3 => KX E u hB.1 H1 locs1 ls q9 ce (by rw [← ht]; exact hB.2) hS1 hl e1 e2 e3) (fun u t H1 locs1 ht hvm hp hB hz hk hS1 => K u hp H1 locs1 ls (by rw [← ht]; exact hB) hS1 hl)
end GC
end
section
/-! what the walks say of numbers and of cells -/
def ix (x : Int32) : Nat := x.toNatClampNeg
theorem ix_nI {i : Nat} (h : i < 2 ^ 31) : ix (nI i) = i := nI_clamp h
theorem vp_ix {x : Int32} {N : Nat} (h : vp_in x N) (hN : N ≤ 4096) : x = nI (ix x) ∧ ix x < N := by
  obtain ⟨j, hj, rfl⟩ := vp_in_of h (by omega)
  rw [ix_nI (by omega)]
  exact ⟨rfl, hj⟩
def zB (b : Bool) : Int32 := if b then 1 else 0
theorem zB_0 {b : Bool} : zB b = 0 ↔ b = false := by cases b <;> decide
theorem zB_1 {b : Bool} (h : ¬ zB b = 0) : b = true := by
  cases b
  · exact absurd (by decide) h
  · rfl
theorem nB_0 {P : Prop} [Decidable P] (h : zB (!decide P) = 0) : P := by
  have h1 := zB_0.mp h
  rw [Bool.not_eq_false', decide_eq_true_eq] at h1
  exact h1
theorem nB_1 {P : Prop} [Decidable P] (h : ¬ zB (!decide P) = 0) : ¬ P := by
  have h1 := zB_1 h
  rw [Bool.not_eq_true', decide_eq_false_iff_not] at h1
  exact h1
theorem zB_n {b : Bool} : narrow .boolean (.int (zB b)) = .int (zB b) := by cases b <;> rfl
theorem zB_nar {b : Bool} : vp_nar .boolean (zB b) = zB b := by cases b <;> rfl
theorem zB_t {b : Bool} (h : b = true) : (1 : Int32) = zB b := by rw [h]; rfl
theorem zB_f {b : Bool} (h : b = false) : (0 : Int32) = zB b := by rw [h]; rfl
abbrev iMax (x y : Int32) : Int32 := if x < y then y else x
abbrev iMin (x y : Int32) : Int32 := if y < x then y else x
theorem gE_row {g : gC} {a : Nat} (h : a = 23 ∨ a = 24 ∨ a = 26 ∨ a = 27 ∨ a = 28 ∨ a = 29 ∨ a = 30 ∨ 50 ≤ a) : ∀ r : Nat → Int32, gE g r a = .inl (g.2.2.1 0, 60, .inl r) := by
  intro r
  rcases h with rfl | rfl | rfl | rfl | rfl | rfl | rfl | h
  · rfl
  · rfl
  · rfl
  · rfl
  · rfl
  · rfl
  · rfl
  · unfold gE
    rw [List.getD_eq_getElem?_getD, List.getElem?_eq_none (show (gL g r).length ≤ a from h)]
    rfl
theorem gE_th {g : gC} {r : Nat → Int32} {d : Nat} (hd : d < 2) : gE g r (5 + d) = .inr (3, [.ref (g.2.1 2), .ref (g.2.1 1), .ref (g.2.1 (23 + d))]) := by
  rcases (show d = 0 ∨ d = 1 by omega) with rfl | rfl <;> rfl
theorem upd_s {f : Nat → Int32} {i : Nat} {x : Int32} : upd f i x i = x := if_pos rfl
theorem upd_n {f : Nat → Int32} {i j : Nat} {x : Int32} (h : j ≠ i) : upd f i x j = f j := if_neg h
/-! ===== pure words ===== -/
/-- a find counts on a day -/
def standB (k cam d trm : Int32) : Bool := decide (k = 0) && !decide (d < cam) && !decide (trm < d - cam)
def fStand (μ : gM) (i : Nat) (d : Int32) : Bool := standB (μ 11 i) (μ 10 i) d (μ 7 (ix (μ 9 i)))
def shareB (x y : Int32) : Bool := decide (x ≠ 0) && decide (x = y)
/-- two finds are joined at once -/
def joinB (t s1 s2 n1 n2 a1 a2 : Int32) : Bool := if t = 0 then (if s1 ≠ 0 ∧ s2 ≠ 0 then shareB s1 s2 else shareB n1 n2 && shareB a1 a2) else decide (t = 1)
def fJoin (μ : gM) (i j : Nat) : Bool := joinB (μ (50 + i) j) (μ 26 i) (μ 26 j) (μ 27 i) (μ 27 j) (μ 28 i) (μ 28 j)
end
section
theorem lkX0_knowsSerial_28 : Cond.fieldLink RX0 28 (TX0 4).1 (TX0 4).2.1 (TX0 4).2.2.1 ∈ wsX0_knowsSerial := by decide +kernel
theorem inX0_knowsSerial_X0 : ∀ w ∈ u_ws RX0 TX0 7, w ∈ wsX0_knowsSerial := by decide +kernel
set_option maxRecDepth 100000 in
set_option maxHeartbeats 4000000 in
theorem c_X0_knowsSerial (l : Launch) (g : gC) (μ : gM) (i : Nat) (hi : i < 60) : Met l yX0_knowsSerial wsX0_knowsSerial { frames := 0, cells := 0, slots := 0, locals := 0 } (va_Pc [.ref (g.2.1 2), .int (nI i)] (gB g μ)) (va_Qi (fun (r : Int32) (μ' : gM) => r = zB (decide (μ 26 i ≠ 0)) ∧ μ' = μ) (gPB g) (gA g)) 0 0 (gA g) := by
  refine g_ofI (cc := cX0_knowsSerial) (nL := 2) (ret := (some .boolean)) (ty := .boolean) (by decide +kernel) rfl rfl (by rintro _ _ ⟨rfl, rfl⟩; exact zB_n) (Nat.le_of_ble_eq_true rfl) ?_
  intro p e s m args below meth c Q Z hR
  refine j_aload_n Z dX0_knowsSerial_0 0 rfl ?_
  refine j_get Z 2 (by decide) rfl rfl 4 (by decide) rfl inX0_knowsSerial_X0 lkX0_knowsSerial_28 dX0_knowsSerial_1 ?_
  refine j_iconst Z (v := 0) dX0_knowsSerial_4 (by decide) ?_
  refine j_ald Z 12 (by decide) rfl 0 (by decide) (by decide) (by decide) rfl dX0_knowsSerial_5 ?_
  refine j_iload_n Z dX0_knowsSerial_6 1 rfl ?_
  refine j_ild Z 26 (by decide) (fun _ => rfl) i rfl (by omega) (by decide) dX0_knowsSerial_7 ?_
  refine j_if_eq Z 15 dX0_knowsSerial_8 (by decide) (fun h8 => ?_) (fun h8 => ?_)
  · skip
    refine j_iconst Z (v := 0) dX0_knowsSerial_15 (by decide) ?_
    exact hR _ _ _ _ _ _ (⟨by first | (simp [zB, h8]; done) | (simp_all [zB]; done), rfl⟩) (by decide) (by decide) dX0_knowsSerial_16
  · skip
    refine j_iconst Z (v := 1) dX0_knowsSerial_11 (by decide) ?_
    refine j_goto Z 16 dX0_knowsSerial_12 (by decide) ?_
    exact hR _ _ _ _ _ _ (⟨by first | (simp [zB, h8]; done) | (simp_all [zB]; done), rfl⟩) (by decide) (by decide) dX0_knowsSerial_16
theorem lkX0_shareMark_28 : Cond.fieldLink RX0 28 (TX0 4).1 (TX0 4).2.1 (TX0 4).2.2.1 ∈ wsX0_shareMark := by decide +kernel
theorem inX0_shareMark_X0 : ∀ w ∈ u_ws RX0 TX0 7, w ∈ wsX0_shareMark := by decide +kernel
set_option maxRecDepth 100000 in
set_option maxHeartbeats 4000000 in
theorem c_X0_shareMark (l : Launch) (g : gC) (μ : gM) (q i j : Nat) (hq : q < 3) (hi : i < 60) (hj : j < 60) : Met l yX0_shareMark wsX0_shareMark { frames := 0, cells := 0, slots := 0, locals := 0 } (va_Pc [.ref (g.2.1 2), .int (nI q), .int (nI i), .int (nI j)] (gB g μ)) (va_Qi (fun (r : Int32) (μ' : gM) => r = zB (shareB (μ (26 + q) i) (μ (26 + q) j)) ∧ μ' = μ) (gPB g) (gA g)) 0 0 (gA g) := by
  refine g_ofI (cc := cX0_shareMark) (nL := 4) (ret := (some .boolean)) (ty := .boolean) (by decide +kernel) rfl rfl (by rintro _ _ ⟨rfl, rfl⟩; exact zB_n) (Nat.le_of_ble_eq_true rfl) ?_
  intro p e s m args below meth c Q Z hR
  refine j_aload_n Z dX0_shareMark_0 0 rfl ?_
  refine j_get Z 2 (by decide) rfl rfl 4 (by decide) rfl inX0_shareMark_X0 lkX0_shareMark_28 dX0_shareMark_1 ?_
  refine j_iload_n Z dX0_shareMark_4 1 rfl ?_
  refine j_ald Z 12 (by decide) rfl q rfl (by omega) (by decide) rfl dX0_shareMark_5 ?_
  refine j_iload_n Z dX0_shareMark_6 2 rfl ?_
  refine j_ild Z (26 + q) (by omega) (gE_row (by omega)) i rfl (by omega) (by decide) dX0_shareMark_7 ?_
  refine j_if_eq Z 34 dX0_shareMark_8 (by decide) (fun h8 => ?_) (fun h8 => ?_)
  · skip
    refine j_iconst Z (v := 0) dX0_shareMark_34 (by decide) ?_
    exact hR _ _ _ _ _ _ (⟨by first | (simp [zB, shareB, h8]; done) | (simp_all [zB, shareB]; done), rfl⟩) (by decide) (by decide) dX0_shareMark_35
  · skip
    refine j_aload_n Z dX0_shareMark_11 0 rfl ?_
    refine j_get Z 2 (by decide) rfl rfl 4 (by decide) rfl inX0_shareMark_X0 lkX0_shareMark_28 dX0_shareMark_12 ?_
    refine j_iload_n Z dX0_shareMark_15 1 rfl ?_
    refine j_ald Z 12 (by decide) rfl q rfl (by omega) (by decide) rfl dX0_shareMark_16 ?_
    refine j_iload_n Z dX0_shareMark_17 2 rfl ?_
    refine j_ild Z (26 + q) (by omega) (gE_row (by omega)) i rfl (by omega) (by decide) dX0_shareMark_18 ?_
    refine j_aload_n Z dX0_shareMark_19 0 rfl ?_
    refine j_get Z 2 (by decide) rfl rfl 4 (by decide) rfl inX0_shareMark_X0 lkX0_shareMark_28 dX0_shareMark_20 ?_
    refine j_iload_n Z dX0_shareMark_23 1 rfl ?_
    refine j_ald Z 12 (by decide) rfl q rfl (by omega) (by decide) rfl dX0_shareMark_24 ?_
    refine j_iload_n Z dX0_shareMark_25 3 rfl ?_
    refine j_ild Z (26 + q) (by omega) (gE_row (by omega)) j rfl (by omega) (by decide) dX0_shareMark_26 ?_
    refine j_icmp_ne Z 34 dX0_shareMark_27 (by decide) (fun h27 => ?_) (fun h27 => ?_)
    · skip
      refine j_iconst Z (v := 0) dX0_shareMark_34 (by decide) ?_
      exact hR _ _ _ _ _ _ (⟨by first | (simp [zB, shareB, h8, h27]; done) | (simp_all [zB, shareB]; done), rfl⟩) (by decide) (by decide) dX0_shareMark_35
    · skip
      refine j_iconst Z (v := 1) dX0_shareMark_30 (by decide) ?_
      refine j_goto Z 35 dX0_shareMark_31 (by decide) ?_
      exact hR _ _ _ _ _ _ (⟨by first | (simp [zB, shareB, h8, h27]; done) | (simp_all [zB, shareB]; done), rfl⟩) (by decide) (by decide) dX0_shareMark_35
theorem lkX0_standsOn_22 : Cond.fieldLink RX0 22 (TX0 3).1 (TX0 3).2.1 (TX0 3).2.2.1 ∈ wsX0_standsOn := by decide +kernel
theorem inX0_standsOn_X0 : ∀ w ∈ u_ws RX0 TX0 7, w ∈ wsX0_standsOn := by decide +kernel
theorem lkX0_standsOn_19 : Cond.fieldLink RX0 19 (TX0 2).1 (TX0 2).2.1 (TX0 2).2.2.1 ∈ wsX0_standsOn := by decide +kernel
theorem lkX0_standsOn_37 : Cond.fieldLink RX0 37 (TX2 0).1 (TX2 0).2.1 (TX2 0).2.2.1 ∈ wsX0_standsOn := by decide +kernel
theorem inX0_standsOn_X2 : ∀ w ∈ u_ws RX2 TX2 2, w ∈ wsX0_standsOn := by decide +kernel
theorem lkX0_standsOn_15 : Cond.fieldLink RX0 15 (TX0 1).1 (TX0 1).2.1 (TX0 1).2.2.1 ∈ wsX0_standsOn := by decide +kernel
set_option maxRecDepth 100000 in
set_option maxHeartbeats 4000000 in
theorem c_X0_standsOn (l : Launch) (g : gC) (μ : gM) (i : Nat) (d : Int32) (hi : i < 60) (hs : vp_in (μ 9 i) 4) : Met l yX0_standsOn wsX0_standsOn { frames := 0, cells := 0, slots := 0, locals := 0 } (va_Pc [.ref (g.2.1 2), .int (nI i), .int d, .ref (g.2.1 1)] (gB g μ)) (va_Qi (fun (r : Int32) (μ' : gM) => r = zB (fStand μ i d) ∧ μ' = μ) (gPB g) (gA g)) 0 0 (gA g) := by
  refine g_ofI (cc := cX0_standsOn) (nL := 4) (ret := (some .boolean)) (ty := .boolean) (by decide +kernel) rfl rfl (by rintro _ _ ⟨rfl, rfl⟩; exact zB_n) (Nat.le_of_ble_eq_true rfl) ?_
  intro p e s m args below meth c Q Z hR
  refine j_aload_n Z dX0_standsOn_0 0 rfl ?_
  refine j_get Z 2 (by decide) rfl rfl 3 (by decide) rfl inX0_standsOn_X0 lkX0_standsOn_22 dX0_standsOn_1 ?_
  refine j_iload_n Z dX0_standsOn_4 1 rfl ?_
  refine j_zld Z 11 (by decide) (fun _ => rfl) i rfl (by omega) (by decide) dX0_standsOn_5 ?_
  refine j_if_ne Z 45 dX0_standsOn_6 (by decide) (fun h6 => ?_) (fun h6 => ?_)
  · skip
    refine j_iconst Z (v := 0) dX0_standsOn_45 (by decide) ?_
    exact hR _ _ _ _ _ _ (⟨by first | (simp [zB, fStand, standB, h6]; done) | (simp_all [zB, fStand, standB]; done), rfl⟩) (by decide) (by decide) dX0_standsOn_46
  · skip
    refine j_aload_n Z dX0_standsOn_9 0 rfl ?_
    refine j_get Z 2 (by decide) rfl rfl 2 (by decide) rfl inX0_standsOn_X0 lkX0_standsOn_19 dX0_standsOn_10 ?_
    refine j_iload_n Z dX0_standsOn_13 1 rfl ?_
    refine j_ild Z 10 (by decide) (fun _ => rfl) i rfl (by omega) (by decide) dX0_standsOn_14 ?_
    refine j_iload_n Z dX0_standsOn_15 2 rfl ?_
    refine j_icmp_gt Z 45 dX0_standsOn_16 (by decide) (fun h16 => ?_) (fun h16 => ?_)
    · skip
      refine j_iconst Z (v := 0) dX0_standsOn_45 (by decide) ?_
      exact hR _ _ _ _ _ _ (⟨by first | (simp [zB, fStand, standB, h6, h16]; done) | (simp_all [zB, fStand, standB]; done), rfl⟩) (by decide) (by decide) dX0_standsOn_46
    · skip
      refine j_iload_n Z dX0_standsOn_19 2 rfl ?_
      refine j_aload_n Z dX0_standsOn_20 0 rfl ?_
      refine j_get Z 2 (by decide) rfl rfl 2 (by decide) rfl inX0_standsOn_X0 lkX0_standsOn_19 dX0_standsOn_21 ?_
      refine j_iload_n Z dX0_standsOn_24 1 rfl ?_
      refine j_ild Z 10 (by decide) (fun _ => rfl) i rfl (by omega) (by decide) dX0_standsOn_25 ?_
      refine j_isub Z dX0_standsOn_26 ?_
      refine j_aload_n Z dX0_standsOn_27 3 rfl ?_
      refine j_get Z 1 (by decide) rfl rfl 0 (by decide) rfl inX0_standsOn_X2 lkX0_standsOn_37 dX0_standsOn_28 ?_
      refine j_aload_n Z dX0_standsOn_31 0 rfl ?_
      refine j_get Z 2 (by decide) rfl rfl 1 (by decide) rfl inX0_standsOn_X0 lkX0_standsOn_15 dX0_standsOn_32 ?_
      refine j_iload_n Z dX0_standsOn_35 1 rfl ?_
      refine j_ild Z 9 (by decide) (fun _ => rfl) i rfl (by omega) (by decide) dX0_standsOn_36 ?_
      refine j_ild Z 7 (by decide) (fun _ => rfl) (ix (μ 9 i)) (vp_ix hs (by decide)).1 (vp_ix hs (by decide)).2 (by decide) dX0_standsOn_37 ?_
      refine j_icmp_gt Z 45 dX0_standsOn_38 (by decide) (fun h38 => ?_) (fun h38 => ?_)
      · skip
        refine j_iconst Z (v := 0) dX0_standsOn_45 (by decide) ?_
        exact hR _ _ _ _ _ _ (⟨by first | (simp [zB, fStand, standB, h6, h16, h38]; done) | (simp_all [zB, fStand, standB]; done), rfl⟩) (by decide) (by decide) dX0_standsOn_46
      · skip
        refine j_iconst Z (v := 1) dX0_standsOn_41 (by decide) ?_
        refine j_goto Z 46 dX0_standsOn_42 (by decide) ?_
        exact hR _ _ _ _ _ _ (⟨by first | (simp [zB, fStand, standB, h6, h16, h38]; done) | (simp_all [zB, fStand, standB]; done), rfl⟩) (by decide) (by decide) dX0_standsOn_46
theorem lkX0_joined_34 : Cond.fieldLink RX0 34 (TX0 6).1 (TX0 6).2.1 (TX0 6).2.2.1 ∈ wsX0_joined := by decide +kernel
theorem inX0_joined_X0 : ∀ w ∈ u_ws RX0 TX0 7, w ∈ wsX0_joined := by decide +kernel
set_option maxRecDepth 100000 in
set_option maxHeartbeats 4000000 in
theorem c_X0_joined (l : Launch) (g : gC) (μ : gM) (i j : Nat) (hi : i < 60) (hj : j < 60) : Met l yX0_joined wsX0_joined { frames := 1, cells := 0, slots := 0, locals := 23 } (va_Pc [.ref (g.2.1 2), .int (nI i), .int (nI j)] (gB g μ)) (va_Qi (fun (r : Int32) (μ' : gM) => r = zB (fJoin μ i j) ∧ μ' = μ) (gPB g) (gA g)) 0 0 (gA g) := by
  refine g_ofI (cc := cX0_joined) (nL := 3) (ret := (some .boolean)) (ty := .boolean) (by decide +kernel) rfl rfl (by rintro _ _ ⟨rfl, rfl⟩; exact zB_n) (Nat.le_of_ble_eq_true rfl) ?_
  intro p e s m args below meth c Q Z hR
  refine j_aload_n Z dX0_joined_0 0 rfl ?_
  refine j_get Z 2 (by decide) rfl rfl 6 (by decide) rfl inX0_joined_X0 lkX0_joined_34 dX0_joined_1 ?_
  refine j_iload_n Z dX0_joined_4 1 rfl ?_
  refine j_ald Z 14 (by decide) rfl i rfl (by omega) (by decide) rfl dX0_joined_5 ?_
  refine j_iload_n Z dX0_joined_6 2 rfl ?_
  refine j_ild Z (50 + i) (by omega) (gE_row (by omega)) j rfl (by omega) (by decide) dX0_joined_7 ?_
  refine j_if_eq Z 29 dX0_joined_8 (by decide) (fun h8 => ?_) (fun h8 => ?_)
  · skip
    refine j_aload_n Z dX0_joined_29 0 rfl ?_
    refine j_iload_n Z dX0_joined_30 1 rfl ?_
    refine j_callVi Z (As := [.int (nI i)]) (rest := []) (nA := 1) 2 (by decide) rfl rfl (c_X0_knowsSerial l g μ i (by omega)) gX0_joined_X0_knowsSerial rfl rfl rfl (by decide +kernel) (by decide) rfl dX0_joined_31 rfl (Nat.le_of_ble_eq_true rfl) (by decide) (fun r9 μ9 hp => ?_)
    have hq : r9 = zB (decide (μ 26 i ≠ 0)) ∧ μ9 = μ := hp
    refine j_mem hq.2 ?_
    refine j_eq hq.1 ?_
    clear hq hp
    refine j_if_eq Z 53 dX0_joined_34 (by decide) (fun h34 => ?_) (fun h34 => ?_)
    · skip
      refine j_aload_n Z dX0_joined_53 0 rfl ?_
      refine j_iconst Z (v := 1) dX0_joined_54 (by decide) ?_
      refine j_iload_n Z dX0_joined_55 1 rfl ?_
      refine j_iload_n Z dX0_joined_56 2 rfl ?_
      refine j_callVi Z (As := [.int 1, .int (nI i), .int (nI j)]) (rest := []) (nA := 3) 2 (by decide) rfl rfl (c_X0_shareMark l g μ 1 i j (by omega) (by omega) (by omega)) gX0_joined_X0_shareMark rfl rfl rfl (by decide +kernel) (by decide) rfl dX0_joined_57 rfl (Nat.le_of_ble_eq_true rfl) (by decide) (fun r9 μ9 hp => ?_)
      have hq : r9 = zB (shareB (μ 27 i) (μ 27 j)) ∧ μ9 = μ := hp
      refine j_mem hq.2 ?_
      refine j_eq hq.1 ?_
      clear hq hp
      refine j_if_eq Z 77 dX0_joined_60 (by decide) (fun h60 => ?_) (fun h60 => ?_)
      · skip
        refine j_iconst Z (v := 0) dX0_joined_77 (by decide) ?_
        exact hR _ _ _ _ _ _ (⟨by simp_all [zB_0, zB, fJoin, joinB], rfl⟩) (by decide) (by decide) dX0_joined_78
      · skip
        refine j_aload_n Z dX0_joined_63 0 rfl ?_
        refine j_iconst Z (v := 2) dX0_joined_64 (by decide) ?_
        refine j_iload_n Z dX0_joined_65 1 rfl ?_
        refine j_iload_n Z dX0_joined_66 2 rfl ?_
        refine j_callVi Z (As := [.int 2, .int (nI i), .int (nI j)]) (rest := []) (nA := 3) 2 (by decide) rfl rfl (c_X0_shareMark l g μ 2 i j (by omega) (by omega) (by omega)) gX0_joined_X0_shareMark rfl rfl rfl (by decide +kernel) (by decide) rfl dX0_joined_67 rfl (Nat.le_of_ble_eq_true rfl) (by decide) (fun r9 μ9 hp => ?_)
        have hq : r9 = zB (shareB (μ 28 i) (μ 28 j)) ∧ μ9 = μ := hp
        refine j_mem hq.2 ?_
        refine j_eq hq.1 ?_
        clear hq hp
        refine j_if_eq Z 77 dX0_joined_70 (by decide) (fun h70 => ?_) (fun h70 => ?_)
        · skip
          refine j_iconst Z (v := 0) dX0_joined_77 (by decide) ?_
          exact hR _ _ _ _ _ _ (⟨by simp_all [zB_0, zB, fJoin, joinB], rfl⟩) (by decide) (by decide) dX0_joined_78
        · skip
          refine j_iconst Z (v := 1) dX0_joined_73 (by decide) ?_
          refine j_goto Z 78 dX0_joined_74 (by decide) ?_
          exact hR _ _ _ _ _ _ (⟨by simp_all [zB_0, zB, fJoin, joinB], rfl⟩) (by decide) (by decide) dX0_joined_78
    · skip
      refine j_aload_n Z dX0_joined_37 0 rfl ?_
      refine j_iload_n Z dX0_joined_38 2 rfl ?_
      refine j_callVi Z (As := [.int (nI j)]) (rest := []) (nA := 1) 2 (by decide) rfl rfl (c_X0_knowsSerial l g μ j (by omega)) gX0_joined_X0_knowsSerial rfl rfl rfl (by decide +kernel) (by decide) rfl dX0_joined_39 rfl (Nat.le_of_ble_eq_true rfl) (by decide) (fun r9 μ9 hp => ?_)
      have hq : r9 = zB (decide (μ 26 j ≠ 0)) ∧ μ9 = μ := hp
      refine j_mem hq.2 ?_
      refine j_eq hq.1 ?_
      clear hq hp
      refine j_if_eq Z 53 dX0_joined_42 (by decide) (fun h42 => ?_) (fun h42 => ?_)
      · skip
        refine j_aload_n Z dX0_joined_53 0 rfl ?_
        refine j_iconst Z (v := 1) dX0_joined_54 (by decide) ?_
        refine j_iload_n Z dX0_joined_55 1 rfl ?_
        refine j_iload_n Z dX0_joined_56 2 rfl ?_
        refine j_callVi Z (As := [.int 1, .int (nI i), .int (nI j)]) (rest := []) (nA := 3) 2 (by decide) rfl rfl (c_X0_shareMark l g μ 1 i j (by omega) (by omega) (by omega)) gX0_joined_X0_shareMark rfl rfl rfl (by decide +kernel) (by decide) rfl dX0_joined_57 rfl (Nat.le_of_ble_eq_true rfl) (by decide) (fun r9 μ9 hp => ?_)
        have hq : r9 = zB (shareB (μ 27 i) (μ 27 j)) ∧ μ9 = μ := hp
        refine j_mem hq.2 ?_
        refine j_eq hq.1 ?_
        clear hq hp
        refine j_if_eq Z 77 dX0_joined_60 (by decide) (fun h60 => ?_) (fun h60 => ?_)
        · skip
          refine j_iconst Z (v := 0) dX0_joined_77 (by decide) ?_
          exact hR _ _ _ _ _ _ (⟨by simp_all [zB_0, zB, fJoin, joinB], rfl⟩) (by decide) (by decide) dX0_joined_78
        · skip
          refine j_aload_n Z dX0_joined_63 0 rfl ?_
          refine j_iconst Z (v := 2) dX0_joined_64 (by decide) ?_
          refine j_iload_n Z dX0_joined_65 1 rfl ?_
          refine j_iload_n Z dX0_joined_66 2 rfl ?_
          refine j_callVi Z (As := [.int 2, .int (nI i), .int (nI j)]) (rest := []) (nA := 3) 2 (by decide) rfl rfl (c_X0_shareMark l g μ 2 i j (by omega) (by omega) (by omega)) gX0_joined_X0_shareMark rfl rfl rfl (by decide +kernel) (by decide) rfl dX0_joined_67 rfl (Nat.le_of_ble_eq_true rfl) (by decide) (fun r9 μ9 hp => ?_)
          have hq : r9 = zB (shareB (μ 28 i) (μ 28 j)) ∧ μ9 = μ := hp
          refine j_mem hq.2 ?_
          refine j_eq hq.1 ?_
          clear hq hp
          refine j_if_eq Z 77 dX0_joined_70 (by decide) (fun h70 => ?_) (fun h70 => ?_)
          · skip
            refine j_iconst Z (v := 0) dX0_joined_77 (by decide) ?_
            exact hR _ _ _ _ _ _ (⟨by simp_all [zB_0, zB, fJoin, joinB], rfl⟩) (by decide) (by decide) dX0_joined_78
          · skip
            refine j_iconst Z (v := 1) dX0_joined_73 (by decide) ?_
            refine j_goto Z 78 dX0_joined_74 (by decide) ?_
            exact hR _ _ _ _ _ _ (⟨by simp_all [zB_0, zB, fJoin, joinB], rfl⟩) (by decide) (by decide) dX0_joined_78
      · skip
        refine j_aload_n Z dX0_joined_45 0 rfl ?_
        refine j_iconst Z (v := 0) dX0_joined_46 (by decide) ?_
        refine j_iload_n Z dX0_joined_47 1 rfl ?_
        refine j_iload_n Z dX0_joined_48 2 rfl ?_
        refine j_callVi Z (As := [.int 0, .int (nI i), .int (nI j)]) (rest := []) (nA := 3) 2 (by decide) rfl rfl (c_X0_shareMark l g μ 0 i j (by omega) (by omega) (by omega)) gX0_joined_X0_shareMark rfl rfl rfl (by decide +kernel) (by decide) rfl dX0_joined_49 rfl (Nat.le_of_ble_eq_true rfl) (by decide) (fun r9 μ9 hp => ?_)
        have hq : r9 = zB (shareB (μ 26 i) (μ 26 j)) ∧ μ9 = μ := hp
        refine j_mem hq.2 ?_
        refine j_eq hq.1 ?_
        clear hq hp
        exact hR _ _ _ _ _ _ (⟨by simp_all [zB_0, zB, fJoin, joinB], rfl⟩) (by decide) (by decide) dX0_joined_52
  · skip
    refine j_aload_n Z dX0_joined_11 0 rfl ?_
    refine j_get Z 2 (by decide) rfl rfl 6 (by decide) rfl inX0_joined_X0 lkX0_joined_34 dX0_joined_12 ?_
    refine j_iload_n Z dX0_joined_15 1 rfl ?_
    refine j_ald Z 14 (by decide) rfl i rfl (by omega) (by decide) rfl dX0_joined_16 ?_
    refine j_iload_n Z dX0_joined_17 2 rfl ?_
    refine j_ild Z (50 + i) (by omega) (gE_row (by omega)) j rfl (by omega) (by decide) dX0_joined_18 ?_
    refine j_iconst Z (v := 1) dX0_joined_19 (by decide) ?_
    refine j_icmp_ne Z 27 dX0_joined_20 (by decide) (fun h20 => ?_) (fun h20 => ?_)
    · skip
      refine j_iconst Z (v := 0) dX0_joined_27 (by decide) ?_
      exact hR _ _ _ _ _ _ (⟨by simp_all [zB_0, zB, fJoin, joinB], rfl⟩) (by decide) (by decide) dX0_joined_28
    · skip
      refine j_iconst Z (v := 1) dX0_joined_23 (by decide) ?_
      refine j_goto Z 28 dX0_joined_24 (by decide) ?_
      exact hR _ _ _ _ _ _ (⟨by simp_all [zB_0, zB, fJoin, joinB], rfl⟩) (by decide) (by decide) dX0_joined_28
theorem lkX0_putMarks_28 : Cond.fieldLink RX0 28 (TX0 4).1 (TX0 4).2.1 (TX0 4).2.2.1 ∈ wsX0_putMarks := by decide +kernel
theorem inX0_putMarks_X0 : ∀ w ∈ u_ws RX0 TX0 7, w ∈ wsX0_putMarks := by decide +kernel
set_option maxRecDepth 100000 in
set_option maxHeartbeats 4000000 in
theorem c_X0_putMarks (l : Launch) (g : gC) (μ : gM) (i : Nat) (x y z : Int32) (hi : i < 60) : Met l yX0_putMarks wsX0_putMarks { frames := 0, cells := 0, slots := 0, locals := 0 } (va_Pc [.ref (g.2.1 2), .int (nI i), .int x, .int y, .int z] (gB g μ)) (va_Qv (fun μ' : gM => μ' = gU (gU (gU μ 26 i x) 27 i y) 28 i z) (gPB g) (gA g)) 0 0 (gA g) := by
  refine g_ofV (cc := cX0_putMarks) (nL := 5) (ret := none) (by decide +kernel) rfl rfl  (Nat.le_of_ble_eq_true rfl) ?_
  intro p e s m args below meth c Q Z hR
  refine j_aload_n Z dX0_putMarks_0 0 rfl ?_
  refine j_get Z 2 (by decide) rfl rfl 4 (by decide) rfl inX0_putMarks_X0 lkX0_putMarks_28 dX0_putMarks_1 ?_
  refine j_iconst Z (v := 0) dX0_putMarks_4 (by decide) ?_
  refine j_ald Z 12 (by decide) rfl 0 (by decide) (by decide) (by decide) rfl dX0_putMarks_5 ?_
  refine j_iload_n Z dX0_putMarks_6 1 rfl ?_
  refine j_iload_n Z dX0_putMarks_7 2 rfl ?_
  refine j_ist Z 26 (by decide) (fun _ => rfl) i rfl (by omega) (by decide)  dX0_putMarks_8 ?_
  refine j_aload_n Z dX0_putMarks_9 0 rfl ?_
  refine j_get Z 2 (by decide) rfl rfl 4 (by decide) rfl inX0_putMarks_X0 lkX0_putMarks_28 dX0_putMarks_10 ?_
  refine j_iconst Z (v := 1) dX0_putMarks_13 (by decide) ?_
  refine j_ald Z 12 (by decide) rfl 1 (by decide) (by decide) (by decide) rfl dX0_putMarks_14 ?_
  refine j_iload_n Z dX0_putMarks_15 1 rfl ?_
  refine j_iload_n Z dX0_putMarks_16 3 rfl ?_
  refine j_ist Z 27 (by decide) (fun _ => rfl) i rfl (by omega) (by decide)  dX0_putMarks_17 ?_
  refine j_aload_n Z dX0_putMarks_18 0 rfl ?_
  refine j_get Z 2 (by decide) rfl rfl 4 (by decide) rfl inX0_putMarks_X0 lkX0_putMarks_28 dX0_putMarks_19 ?_
  refine j_iconst Z (v := 2) dX0_putMarks_22 (by decide) ?_
  refine j_ald Z 12 (by decide) rfl 2 (by decide) (by decide) (by decide) rfl dX0_putMarks_23 ?_
  refine j_iload_n Z dX0_putMarks_24 1 rfl ?_
  refine j_iload Z dX0_putMarks_25 4 rfl ?_
  refine j_ist Z 28 (by decide) (fun _ => rfl) i rfl (by omega) (by decide)  dX0_putMarks_27 ?_
  exact hR _ _ _ _ _ (rfl) (by decide) (by decide) dX0_putMarks_28
theorem lkX0_putAttributes_31 : Cond.fieldLink RX0 31 (TX0 5).1 (TX0 5).2.1 (TX0 5).2.2.1 ∈ wsX0_putAttributes := by decide +kernel
theorem inX0_putAttributes_X0 : ∀ w ∈ u_ws RX0 TX0 7, w ∈ wsX0_putAttributes := by decide +kernel
set_option maxRecDepth 100000 in
set_option maxHeartbeats 4000000 in
theorem c_X0_putAttributes (l : Launch) (g : gC) (μ : gM) (i : Nat) (x y : Int32) (hi : i < 60) : Met l yX0_putAttributes wsX0_putAttributes { frames := 0, cells := 0, slots := 0, locals := 0 } (va_Pc [.ref (g.2.1 2), .int (nI i), .int x, .int y] (gB g μ)) (va_Qv (fun μ' : gM => μ' = gU (gU μ 29 i x) 30 i y) (gPB g) (gA g)) 0 0 (gA g) := by
  refine g_ofV (cc := cX0_putAttributes) (nL := 4) (ret := none) (by decide +kernel) rfl rfl  (Nat.le_of_ble_eq_true rfl) ?_
  intro p e s m args below meth c Q Z hR
  refine j_aload_n Z dX0_putAttributes_0 0 rfl ?_
  refine j_get Z 2 (by decide) rfl rfl 5 (by decide) rfl inX0_putAttributes_X0 lkX0_putAttributes_31 dX0_putAttributes_1 ?_
  refine j_iconst Z (v := 0) dX0_putAttributes_4 (by decide) ?_
  refine j_ald Z 13 (by decide) rfl 0 (by decide) (by decide) (by decide) rfl dX0_putAttributes_5 ?_
  refine j_iload_n Z dX0_putAttributes_6 1 rfl ?_
  refine j_iload_n Z dX0_putAttributes_7 2 rfl ?_
  refine j_ist Z 29 (by decide) (fun _ => rfl) i rfl (by omega) (by decide)  dX0_putAttributes_8 ?_
  refine j_aload_n Z dX0_putAttributes_9 0 rfl ?_
  refine j_get Z 2 (by decide) rfl rfl 5 (by decide) rfl inX0_putAttributes_X0 lkX0_putAttributes_31 dX0_putAttributes_10 ?_
  refine j_iconst Z (v := 1) dX0_putAttributes_13 (by decide) ?_
  refine j_ald Z 13 (by decide) rfl 1 (by decide) (by decide) (by decide) rfl dX0_putAttributes_14 ?_
  refine j_iload_n Z dX0_putAttributes_15 1 rfl ?_
  refine j_iload_n Z dX0_putAttributes_16 3 rfl ?_
  refine j_ist Z 30 (by decide) (fun _ => rfl) i rfl (by omega) (by decide)  dX0_putAttributes_17 ?_
  exact hR _ _ _ _ _ (rfl) (by decide) (by decide) dX0_putAttributes_18
theorem lkX0_take_9 : Cond.fieldLink RX0 9 (TX0 0).1 (TX0 0).2.1 (TX0 0).2.2.1 ∈ wsX0_take := by decide +kernel
theorem inX0_take_X0 : ∀ w ∈ u_ws RX0 TX0 7, w ∈ wsX0_take := by decide +kernel
theorem lkX0_take_15 : Cond.fieldLink RX0 15 (TX0 1).1 (TX0 1).2.1 (TX0 1).2.2.1 ∈ wsX0_take := by decide +kernel
theorem lkX0_take_19 : Cond.fieldLink RX0 19 (TX0 2).1 (TX0 2).2.1 (TX0 2).2.2.1 ∈ wsX0_take := by decide +kernel
set_option maxRecDepth 100000 in
set_option maxHeartbeats 4000000 in
theorem c_X0_take (l : Launch) (g : gC) (μ : gM) (q : Nat) (x y : Int32) (hq : q < 60) (hc : μ 2 0 = nI q) : Met l yX0_take wsX0_take { frames := 0, cells := 0, slots := 0, locals := 0 } (va_Pc [.ref (g.2.1 2), .int x, .int y] (gB g μ)) (va_Qi (fun (r : Int32) (μ' : gM) => r = nI q ∧ μ' = gU (gU (gU μ 9 q x) 10 q y) 2 0 (nI (q + 1))) (gPB g) (gA g)) 0 0 (gA g) := by
  refine g_ofI (cc := cX0_take) (nL := 4) (ret := (some .int)) (ty := .int) (by decide +kernel) rfl rfl (fun _ _ _ => rfl) (Nat.le_of_ble_eq_true rfl) ?_
  intro p e s m args below meth c Q Z hR
  refine j_aload_n Z dX0_take_0 0 rfl ?_
  refine j_get Z 2 (by decide) rfl rfl 0 (by decide) rfl inX0_take_X0 lkX0_take_9 dX0_take_1 ?_
  refine j_eq hc ?_
  refine j_istore_n Z dX0_take_4 (by decide) [(3, .int (nI q)), (0, .ref (g.2.1 2)), (1, .int x), (2, .int y)] rfl ?_
  refine j_aload_n Z dX0_take_5 1 rfl ?_
  refine j_get Z 2 (by decide) rfl rfl 1 (by decide) rfl inX0_take_X0 lkX0_take_15 dX0_take_6 ?_
  refine j_iload_n Z dX0_take_9 0 rfl ?_
  refine j_iload_n Z dX0_take_10 2 rfl ?_
  refine j_ist Z 9 (by decide) (fun _ => rfl) q rfl (by omega) (by decide)  dX0_take_11 ?_
  refine j_aload_n Z dX0_take_12 1 rfl ?_
  refine j_get Z 2 (by decide) rfl rfl 2 (by decide) rfl inX0_take_X0 lkX0_take_19 dX0_take_13 ?_
  refine j_iload_n Z dX0_take_16 0 rfl ?_
  refine j_iload_n Z dX0_take_17 3 rfl ?_
  refine j_ist Z 10 (by decide) (fun _ => rfl) q rfl (by omega) (by decide)  dX0_take_18 ?_
  refine j_aload_n Z dX0_take_19 1 rfl ?_
  refine j_dup Z dX0_take_20 rfl ?_
  refine j_get Z 2 (by decide) rfl rfl 0 (by decide) rfl inX0_take_X0 lkX0_take_9 dX0_take_21 ?_
  refine j_eq (y := μ 2 0) (by rw [gU_n (k := 10) (j := 2) (by omega), gU_n (k := 9) (j := 2) (by omega)]) ?_
  refine j_eq hc ?_
  refine j_iconst Z (v := 1) dX0_take_24 (by decide) ?_
  refine j_iadd Z dX0_take_25 ?_
  refine j_eq (nI_1 q) ?_
  refine j_put Z 2 (by decide) (fun _ => rfl) rfl tyX0 tyX0_ok nmX0 0 (by decide) rfl (Nat.le_of_ble_eq_true rfl) rfl (by decide +kernel) inX0_take_X0 lkX0_take_9 dX0_take_26 ?_
  refine j_iload_n Z dX0_take_29 0 rfl ?_
  exact hR _ _ _ _ _ _ (⟨rfl, rfl⟩) (by decide) (by decide) dX0_take_30
end
section
/-! the sorting of finds into things, the value of a thing, and the like: pure words, and how they go on by one -/
theorem gU_R {μ : gM} {k i : Nat} {r : Nat → Int32} {x : Int32} : gU (gR μ k r) k i x = gR μ k (upd r i x) := by
  show gR (gR μ k r) k (upd (gR μ k r k) i x) = _
  rw [gR_R, gR_s]
theorem gR_id {μ : gM} {k : Nat} {r : Nat → Int32} (h : r = μ k) : μ = gR μ k r := by rw [h, gR_self]
theorem gRR_s {μ : gM} {k : Nat} {r : Nat → Int32} {F : (Nat → Int32) → Nat → Int32} : gR (gR μ k r) k (F (gR μ k r k)) = gR μ k (F r) := by rw [gR_R, gR_s]
theorem fJoin_R {μ : gM} {t i j : Nat} {r : Nat → Int32} (h : t = 23 ∨ t = 24) : fJoin (gR μ t r) i j = fJoin μ i j := by
  unfold fJoin
  rw [gR_n (k := t) (j := 50 + i) (by omega), gR_n (k := t) (j := 26) (by omega), gR_n (k := t) (j := 27) (by omega), gR_n (k := t) (j := 28) (by omega)]
theorem fStand_R {μ : gM} {t i : Nat} {x : Int32} {r : Nat → Int32} (h : t = 23 ∨ t = 24) : fStand (gR μ t r) i x = fStand μ i x := by
  unfold fStand
  rw [gR_n (k := t) (j := 11) (by omega), gR_n (k := t) (j := 10) (by omega), gR_n (k := t) (j := 9) (by omega), gR_n (k := t) (j := 7) (by omega)]
/-- of the first n finds, those of the higher thing go to the lower one -/
def sMerge (n : Nat) (x y : Int32) (th : Nat → Int32) : Nat → Int32 := fun k => if k < n ∧ th k = iMax x y then iMin x y else th k
theorem sMerge_0 {x y : Int32} {th : Nat → Int32} : th = sMerge 0 x y th := by
  funext k
  exact (if_neg (fun h => absurd h.1 (Nat.not_lt_zero k))).symm
theorem sMerge_at {n : Nat} {x y : Int32} {th : Nat → Int32} : sMerge n x y th n = th n := if_neg (fun h => absurd h.1 (Nat.lt_irrefl n))
theorem sMerge_eq {n : Nat} {x y : Int32} {th : Nat → Int32} (h : sMerge n x y th n = iMax x y) : upd (sMerge n x y th) n (iMin x y) = sMerge (n + 1) x y th := by
  rw [sMerge_at] at h
  funext k
  by_cases hk : k = n
  · subst hk
    rw [upd_s]
    exact (if_pos ⟨Nat.lt_succ_self k, h⟩).symm
  · rw [upd_n hk]
    unfold sMerge
    by_cases h2 : k < n ∧ th k = iMax x y
    · rw [if_pos h2, if_pos ⟨by omega, h2.2⟩]
    · rw [if_neg h2, if_neg (fun h3 => h2 ⟨by omega, h3.2⟩)]
theorem sMerge_ne {n : Nat} {x y : Int32} {th : Nat → Int32} (h : ¬ sMerge n x y th n = iMax x y) : sMerge n x y th = sMerge (n + 1) x y th := by
  rw [sMerge_at] at h
  funext k
  unfold sMerge
  by_cases h2 : k < n ∧ th k = iMax x y
  · rw [if_pos h2, if_pos ⟨by omega, h2.2⟩]
  · rw [if_neg h2, if_neg (fun h3 => ?_)]
    by_cases hk : k = n
    · subst hk
      exact h h3.2
    · exact h2 ⟨by omega, h3.2⟩
/-- find f is held against an earlier one e -/
def sStep (n : Nat) (jn : Nat → Nat → Bool) (f e : Nat) (th : Nat → Int32) : Nat → Int32 := if ¬ th e = -1 ∧ ¬ th e = th f ∧ jn e f = true then sMerge n (th e) (th f) th else th
def sIn (n : Nat) (jn : Nat → Nat → Bool) (f : Nat) (th : Nat → Int32) : Nat → Nat → Int32
  | 0 => th
  | e + 1 => sStep n jn f e (sIn n jn f th e)
def sOut (n : Nat) (jn : Nat → Nat → Bool) (th : Nat → Int32) : Nat → Nat → Int32
  | 0 => th
  | f + 1 => if ¬ sOut n jn th f f = -1 then sIn n jn f (sOut n jn th f) f else sOut n jn th f
theorem sOut_1 {n : Nat} {jn : Nat → Nat → Bool} {th : Nat → Int32} : sOut n jn th 1 = th := by
  show (if ¬ sOut n jn th 0 0 = -1 then sIn n jn 0 (sOut n jn th 0) 0 else sOut n jn th 0) = th
  by_cases h : ¬ sOut n jn th 0 0 = -1
  · rw [if_pos h]; rfl
  · rw [if_neg h]; rfl
theorem sOut_end {n i : Nat} {jn : Nat → Nat → Bool} {th : Nat → Int32} (h1 : n ≤ i) (h2 : i ≤ n ∨ i = 1) : sOut n jn th i = sOut n jn th n := by
  by_cases h : i = n
  · rw [h]
  · have hi : i = 1 := by omega
    have hn : n = 0 := by omega
    subst hi
    subst hn
    exact sOut_1
theorem sStep_1 {n f e : Nat} {jn : Nat → Nat → Bool} {th : Nat → Int32} (h : ¬ th e = -1 ∧ ¬ th e = th f ∧ jn e f = true) : sMerge n (th e) (th f) th = sStep n jn f e th := (if_pos h).symm
theorem sStep_0 {n f e : Nat} {jn : Nat → Nat → Bool} {th : Nat → Int32} (h : ¬ (¬ th e = -1 ∧ ¬ th e = th f ∧ jn e f = true)) : th = sStep n jn f e th := (if_neg h).symm
/-- of the first n finds, those that count are things of their own -/
def s0 (n : Nat) (sb : Nat → Bool) (th : Nat → Int32) : Nat → Int32 := fun k => if k < n then (if sb k = true then nI k else -1) else th k
theorem s0_0 {sb : Nat → Bool} {th : Nat → Int32} : th = s0 0 sb th := by
  funext k
  exact (if_neg (Nat.not_lt_zero k)).symm
theorem s0_s {n : Nat} {sb : Nat → Bool} {th : Nat → Int32} {x : Int32} (h : x = if sb n = true then nI n else -1) : upd (s0 n sb th) n x = s0 (n + 1) sb th := by
  subst h
  funext k
  by_cases hk : k = n
  · subst hk
    rw [upd_s]
    exact (if_pos (Nat.lt_succ_self k)).symm
  · rw [upd_n hk]
    unfold s0
    by_cases h2 : k < n
    · rw [if_pos h2, if_pos (show k < n + 1 by omega)]
    · rw [if_neg h2, if_neg (show ¬ k < n + 1 by omega)]
/-- the things of a day, over n finds -/
def sAll (n : Nat) (jn : Nat → Nat → Bool) (sb : Nat → Bool) (th : Nat → Int32) : Nat → Int32 := sOut n jn (s0 n sb th) n
def fSort (μ : gM) (n : Nat) (x : Int32) (th : Nat → Int32) : Nat → Int32 := sAll n (fJoin μ) (fun k => fStand μ k x) th
/-- the place of a find's source -/
def fPl (μ : gM) (i : Nat) : Int32 := μ 8 (ix (μ 9 i))
def tellB (th tl : Nat → Int32) (x : Int32) (i : Nat) : Bool := decide (th i = x) && decide (¬ tl i = -1)
/-- the find whose value a thing has, of the first ones -/
def aBest (th tl pl : Nat → Int32) (x : Int32) : Nat → Int32
  | 0 => -1
  | i + 1 => if tellB th tl x i = true ∧ (aBest th tl pl x i = -1 ∨ ¬ pl (ix (aBest th tl pl x i)) < pl i) then nI i else aBest th tl pl x i
theorem aBest_in {th tl pl : Nat → Int32} {x : Int32} : ∀ n : Nat, aBest th tl pl x n = -1 ∨ ∃ j : Nat, j < n ∧ aBest th tl pl x n = nI j
  | 0 => Or.inl rfl
  | n + 1 => by
    unfold aBest
    by_cases h : tellB th tl x n = true ∧ (aBest th tl pl x n = -1 ∨ ¬ pl (ix (aBest th tl pl x n)) < pl n)
    · rw [if_pos h]; exact Or.inr ⟨n, Nat.lt_succ_self n, rfl⟩
    · rw [if_neg h]
      rcases aBest_in (th := th) (tl := tl) (pl := pl) (x := x) n with h1 | ⟨j, h1, h2⟩
      · exact Or.inl h1
      · exact Or.inr ⟨j, by omega, h2⟩
theorem aBest_vp {th tl pl : Nat → Int32} {x : Int32} {n : Nat} {b : Int32} (hb : b = aBest th tl pl x n) (hn : n ≤ 60) (h : ¬ b = -1) : vp_in b 60 := by
  rcases aBest_in (th := th) (tl := tl) (pl := pl) (x := x) n with h1 | ⟨j, h1, h2⟩
  · exact absurd (hb.trans h1) h
  · rw [hb, h2]; exact vp_in_nI (by omega) (by omega)
def aVal (th tl pl : Nat → Int32) (x : Int32) (n : Nat) : Int32 := if aBest th tl pl x n = -1 then -1 else tl (ix (aBest th tl pl x n))
def fVal (μ : gM) (t a n : Nat) (x : Int32) : Int32 := aVal (μ t) (μ (29 + a)) (fPl μ) x n
/-- the last value told of a thing, and whether an unlike one was told before it -/
def uSeen (th tl : Nat → Int32) (x : Int32) : Nat → Int32
  | 0 => -1
  | i + 1 => if tellB th tl x i = true then tl i else uSeen th tl x i
def uBad (th tl : Nat → Int32) (x : Int32) : Nat → Bool
  | 0 => false
  | i + 1 => uBad th tl x i || (tellB th tl x i && !decide (uSeen th tl x i = -1) && !decide (tl i = uSeen th tl x i))
theorem uBad_up {th tl : Nat → Int32} {x : Int32} {i n : Nat} (h : uBad th tl x i = true) (hn : i ≤ n) : uBad th tl x n = true := by
  induction n with
  | zero => rw [← Nat.le_zero.mp hn]; exact h
  | succ n ih =>
    by_cases hi : i = n + 1
    · rw [← hi]; exact h
    · show (uBad th tl x n || _) = true
      rw [ih (by omega)]; rfl
/-- a thing has a mark with a value -/
def hMark (th mk : Nat → Int32) (x v : Int32) : Nat → Bool
  | 0 => false
  | i + 1 => hMark th mk x v i || (decide (th i = x) && decide (mk i = v))
theorem hMark_up {th mk : Nat → Int32} {x v : Int32} {i n : Nat} (h : hMark th mk x v i = true) (hn : i ≤ n) : hMark th mk x v n = true := by
  induction n with
  | zero => rw [← Nat.le_zero.mp hn]; exact h
  | succ n ih =>
    by_cases hi : i = n + 1
    · rw [← hi]; exact h
    · show (hMark th mk x v n || _) = true
      rw [ih (by omega)]; rfl
/-- how many numbers below n are such -/
def cB (p : Nat → Bool) : Nat → Nat
  | 0 => 0
  | i + 1 => cB p i + (if p i = true then 1 else 0)
theorem cB_le (p : Nat → Bool) : ∀ n : Nat, cB p n ≤ n
  | 0 => Nat.le_refl 0
  | n + 1 => by
    have h := cB_le p n
    show cB p n + (if p n = true then 1 else 0) ≤ n + 1
    by_cases h2 : p n = true
    · rw [if_pos h2]; omega
    · rw [if_neg h2]; omega
theorem cB_1 {p : Nat → Bool} {i : Nat} (h : p i = true) : cB p i + 1 = cB p (i + 1) := by
  show _ = cB p i + (if p i = true then 1 else 0)
  rw [if_pos h]
theorem cB_0 {p : Nat → Bool} {i : Nat} (h : ¬ p i = true) : cB p i = cB p (i + 1) := by
  show _ = cB p i + (if p i = true then 1 else 0)
  rw [if_neg h]; rfl
end
section
theorem lkX3_isThing_9 : Cond.fieldLink RX3 9 (TX3 2).1 (TX3 2).2.1 (TX3 2).2.2.1 ∈ wsX3_isThing := by decide +kernel
theorem inX3_isThing_X3 : ∀ w ∈ u_ws RX3 TX3 3, w ∈ wsX3_isThing := by decide +kernel
set_option maxRecDepth 100000 in
set_option maxHeartbeats 4000000 in
theorem c_X3_isThing (l : Launch) (g : gC) (μ : gM) (d : Nat) (hd : d < 2) (i : Nat) (hi : i < 60) : Met l yX3_isThing wsX3_isThing { frames := 0, cells := 0, slots := 0, locals := 0 } (va_Pc [.ref (g.2.1 (5 + d)), .int (nI i)] (gB g μ)) (va_Qi (fun (r : Int32) (μ' : gM) => r = zB (decide (μ (23 + d) i = nI i)) ∧ μ' = μ) (gPB g) (gA g)) 0 0 (gA g) := by
  refine g_ofI (cc := cX3_isThing) (nL := 2) (ret := (some .boolean)) (ty := .boolean) (by decide +kernel) rfl rfl (by rintro _ _ ⟨rfl, rfl⟩; exact zB_n) (Nat.le_of_ble_eq_true rfl) ?_
  intro p e s m args below meth c Q Z hR
  refine j_aload_n Z dX3_isThing_0 0 rfl ?_
  refine j_get Z (5 + d) (by omega) (gE_th hd) rfl 2 (by decide) rfl inX3_isThing_X3 lkX3_isThing_9 dX3_isThing_1 ?_
  refine j_iload_n Z dX3_isThing_4 1 rfl ?_
  refine j_ild Z (23 + d) (by omega) (gE_row (by omega)) i rfl (by omega) (by decide) dX3_isThing_5 ?_
  refine j_iload_n Z dX3_isThing_6 1 rfl ?_
  refine j_icmp_ne Z 14 dX3_isThing_7 (by decide) (fun h7 => ?_) (fun h7 => ?_)
  · skip
    refine j_iconst Z (v := 0) dX3_isThing_14 (by decide) ?_
    exact hR _ _ _ _ _ _ (⟨by first | (simp [zB, h7]; done) | (simp_all [zB]; done), rfl⟩) (by decide) (by decide) dX3_isThing_15
  · skip
    refine j_iconst Z (v := 1) dX3_isThing_10 (by decide) ?_
    refine j_goto Z 15 dX3_isThing_11 (by decide) ?_
    exact hR _ _ _ _ _ _ (⟨by first | (simp [zB, h7]; done) | (simp_all [zB]; done), rfl⟩) (by decide) (by decide) dX3_isThing_15
theorem lkX3_tells_9 : Cond.fieldLink RX3 9 (TX3 2).1 (TX3 2).2.1 (TX3 2).2.2.1 ∈ wsX3_tells := by decide +kernel
theorem inX3_tells_X3 : ∀ w ∈ u_ws RX3 TX3 3, w ∈ wsX3_tells := by decide +kernel
theorem lkX3_tells_15 : Cond.fieldLink RX3 15 (TX3 0).1 (TX3 0).2.1 (TX3 0).2.2.1 ∈ wsX3_tells := by decide +kernel
theorem lkX3_tells_61 : Cond.fieldLink RX3 61 (TX0 5).1 (TX0 5).2.1 (TX0 5).2.2.1 ∈ wsX3_tells := by decide +kernel
theorem inX3_tells_X0 : ∀ w ∈ u_ws RX0 TX0 7, w ∈ wsX3_tells := by decide +kernel
set_option maxRecDepth 100000 in
set_option maxHeartbeats 4000000 in
theorem c_X3_tells (l : Launch) (g : gC) (μ : gM) (d : Nat) (hd : d < 2) (x : Int32) (a i : Nat) (ha : a < 2) (hi : i < 60) : Met l yX3_tells wsX3_tells { frames := 0, cells := 0, slots := 0, locals := 0 } (va_Pc [.ref (g.2.1 (5 + d)), .int x, .int (nI a), .int (nI i)] (gB g μ)) (va_Qi (fun (r : Int32) (μ' : gM) => r = zB (tellB (μ (23 + d)) (μ (29 + a)) x i) ∧ μ' = μ) (gPB g) (gA g)) 0 0 (gA g) := by
  refine g_ofI (cc := cX3_tells) (nL := 4) (ret := (some .boolean)) (ty := .boolean) (by decide +kernel) rfl rfl (by rintro _ _ ⟨rfl, rfl⟩; exact zB_n) (Nat.le_of_ble_eq_true rfl) ?_
  intro p e s m args below meth c Q Z hR
  refine j_aload_n Z dX3_tells_0 0 rfl ?_
  refine j_get Z (5 + d) (by omega) (gE_th hd) rfl 2 (by decide) rfl inX3_tells_X3 lkX3_tells_9 dX3_tells_1 ?_
  refine j_iload_n Z dX3_tells_4 3 rfl ?_
  refine j_ild Z (23 + d) (by omega) (gE_row (by omega)) i rfl (by omega) (by decide) dX3_tells_5 ?_
  refine j_iload_n Z dX3_tells_6 1 rfl ?_
  refine j_icmp_ne Z 29 dX3_tells_7 (by decide) (fun h7 => ?_) (fun h7 => ?_)
  · skip
    refine j_iconst Z (v := 0) dX3_tells_29 (by decide) ?_
    exact hR _ _ _ _ _ _ (⟨by first | (simp [zB, tellB, h7]; done) | (simp_all [zB, tellB]; done), rfl⟩) (by decide) (by decide) dX3_tells_30
  · skip
    refine j_aload_n Z dX3_tells_10 0 rfl ?_
    refine j_get Z (5 + d) (by omega) (gE_th hd) rfl 0 (by decide) rfl inX3_tells_X3 lkX3_tells_15 dX3_tells_11 ?_
    refine j_get Z 2 (by decide) rfl rfl 5 (by decide) rfl inX3_tells_X0 lkX3_tells_61 dX3_tells_14 ?_
    refine j_iload_n Z dX3_tells_17 2 rfl ?_
    refine j_ald Z 13 (by decide) rfl a rfl (by omega) (by decide) rfl dX3_tells_18 ?_
    refine j_iload_n Z dX3_tells_19 3 rfl ?_
    refine j_ild Z (29 + a) (by omega) (gE_row (by omega)) i rfl (by omega) (by decide) dX3_tells_20 ?_
    refine j_iconst Z (v := -1) dX3_tells_21 (by decide) ?_
    refine j_icmp_eq Z 29 dX3_tells_22 (by decide) (fun h22 => ?_) (fun h22 => ?_)
    · skip
      refine j_iconst Z (v := 0) dX3_tells_29 (by decide) ?_
      exact hR _ _ _ _ _ _ (⟨by first | (simp [zB, tellB, h7, h22]; done) | (simp_all [zB, tellB]; done), rfl⟩) (by decide) (by decide) dX3_tells_30
    · skip
      refine j_iconst Z (v := 1) dX3_tells_25 (by decide) ?_
      refine j_goto Z 30 dX3_tells_26 (by decide) ?_
      exact hR _ _ _ _ _ _ (⟨by first | (simp [zB, tellB, h7, h22]; done) | (simp_all [zB, tellB]; done), rfl⟩) (by decide) (by decide) dX3_tells_30
theorem lkX3_goesBefore_19 : Cond.fieldLink RX3 19 (TX3 1).1 (TX3 1).2.1 (TX3 1).2.2.1 ∈ wsX3_goesBefore := by decide +kernel
theorem inX3_goesBefore_X3 : ∀ w ∈ u_ws RX3 TX3 3, w ∈ wsX3_goesBefore := by decide +kernel
theorem lkX3_goesBefore_65 : Cond.fieldLink RX3 65 (TX2 1).1 (TX2 1).2.1 (TX2 1).2.2.1 ∈ wsX3_goesBefore := by decide +kernel
theorem inX3_goesBefore_X2 : ∀ w ∈ u_ws RX2 TX2 2, w ∈ wsX3_goesBefore := by decide +kernel
theorem lkX3_goesBefore_15 : Cond.fieldLink RX3 15 (TX3 0).1 (TX3 0).2.1 (TX3 0).2.2.1 ∈ wsX3_goesBefore := by decide +kernel
theorem lkX3_goesBefore_70 : Cond.fieldLink RX3 70 (TX0 1).1 (TX0 1).2.1 (TX0 1).2.2.1 ∈ wsX3_goesBefore := by decide +kernel
theorem inX3_goesBefore_X0 : ∀ w ∈ u_ws RX0 TX0 7, w ∈ wsX3_goesBefore := by decide +kernel
set_option maxRecDepth 100000 in
set_option maxHeartbeats 4000000 in
theorem c_X3_goesBefore (l : Launch) (g : gC) (μ : gM) (d : Nat) (hd : d < 2) (i j : Nat) (hi : i < 60) (hj : j < 60) (hs : ∀ k, vp_in (μ 9 k) 4) : Met l yX3_goesBefore wsX3_goesBefore { frames := 0, cells := 0, slots := 0, locals := 0 } (va_Pc [.ref (g.2.1 (5 + d)), .int (nI i), .int (nI j)] (gB g μ)) (va_Qi (fun (r : Int32) (μ' : gM) => r = zB (!decide (fPl μ j < fPl μ i)) ∧ μ' = μ) (gPB g) (gA g)) 0 0 (gA g) := by
  refine g_ofI (cc := cX3_goesBefore) (nL := 5) (ret := (some .boolean)) (ty := .boolean) (by decide +kernel) rfl rfl (by rintro _ _ ⟨rfl, rfl⟩; exact zB_n) (Nat.le_of_ble_eq_true rfl) ?_
  intro p e s m args below meth c Q Z hR
  refine j_aload_n Z dX3_goesBefore_0 0 rfl ?_
  refine j_get Z (5 + d) (by omega) (gE_th hd) rfl 1 (by decide) rfl inX3_goesBefore_X3 lkX3_goesBefore_19 dX3_goesBefore_1 ?_
  refine j_get Z 1 (by decide) rfl rfl 1 (by decide) rfl inX3_goesBefore_X2 lkX3_goesBefore_65 dX3_goesBefore_4 ?_
  refine j_aload_n Z dX3_goesBefore_7 0 rfl ?_
  refine j_get Z (5 + d) (by omega) (gE_th hd) rfl 0 (by decide) rfl inX3_goesBefore_X3 lkX3_goesBefore_15 dX3_goesBefore_8 ?_
  refine j_get Z 2 (by decide) rfl rfl 1 (by decide) rfl inX3_goesBefore_X0 lkX3_goesBefore_70 dX3_goesBefore_11 ?_
  refine j_iload_n Z dX3_goesBefore_14 1 rfl ?_
  refine j_ild Z 9 (by decide) (fun _ => rfl) i rfl (by omega) (by decide) dX3_goesBefore_15 ?_
  refine j_ild Z 8 (by decide) (fun _ => rfl) (ix (μ 9 i)) (vp_ix (hs i) (by decide)).1 (vp_ix (hs i) (by decide)).2 (by decide) dX3_goesBefore_16 ?_
  refine j_istore_n Z dX3_goesBefore_17 (by decide) [(3, .int (μ 8 (ix (μ 9 i)))), (0, .ref (g.2.1 (5 + d))), (1, .int (nI i)), (2, .int (nI j))] rfl ?_
  refine j_aload_n Z dX3_goesBefore_18 1 rfl ?_
  refine j_get Z (5 + d) (by omega) (gE_th hd) rfl 1 (by decide) rfl inX3_goesBefore_X3 lkX3_goesBefore_19 dX3_goesBefore_19 ?_
  refine j_get Z 1 (by decide) rfl rfl 1 (by decide) rfl inX3_goesBefore_X2 lkX3_goesBefore_65 dX3_goesBefore_22 ?_
  refine j_aload_n Z dX3_goesBefore_25 1 rfl ?_
  refine j_get Z (5 + d) (by omega) (gE_th hd) rfl 0 (by decide) rfl inX3_goesBefore_X3 lkX3_goesBefore_15 dX3_goesBefore_26 ?_
  refine j_get Z 2 (by decide) rfl rfl 1 (by decide) rfl inX3_goesBefore_X0 lkX3_goesBefore_70 dX3_goesBefore_29 ?_
  refine j_iload_n Z dX3_goesBefore_32 3 rfl ?_
  refine j_ild Z 9 (by decide) (fun _ => rfl) j rfl (by omega) (by decide) dX3_goesBefore_33 ?_
  refine j_ild Z 8 (by decide) (fun _ => rfl) (ix (μ 9 j)) (vp_ix (hs j) (by decide)).1 (vp_ix (hs j) (by decide)).2 (by decide) dX3_goesBefore_34 ?_
  refine j_istore Z dX3_goesBefore_35 (by decide) [(4, .int (μ 8 (ix (μ 9 j)))), (3, .int (μ 8 (ix (μ 9 i)))), (0, .ref (g.2.1 (5 + d))), (1, .int (nI i)), (2, .int (nI j))] rfl ?_
  refine j_iload_n Z dX3_goesBefore_37 1 rfl ?_
  refine j_iload Z dX3_goesBefore_38 0 rfl ?_
  refine j_icmp_gt Z 47 dX3_goesBefore_40 (by decide) (fun h40 => ?_) (fun h40 => ?_)
  · skip
    refine j_iconst Z (v := 0) dX3_goesBefore_47 (by decide) ?_
    exact hR _ _ _ _ _ _ (⟨by first | (simp [zB, fPl, h40]; done) | (simp_all [zB, fPl]; done), rfl⟩) (by decide) (by decide) dX3_goesBefore_48
  · skip
    refine j_iconst Z (v := 1) dX3_goesBefore_43 (by decide) ?_
    refine j_goto Z 48 dX3_goesBefore_44 (by decide) ?_
    exact hR _ _ _ _ _ _ (⟨by first | (simp [zB, fPl, h40]; done) | (simp_all [zB, fPl]; done), rfl⟩) (by decide) (by decide) dX3_goesBefore_48
theorem mmaX3_merge_45 : Cond.methodLink RX3 45 Lib.Math.min.name ∈ wsX3_merge := by decide +kernel
theorem mmbX3_merge_45 : Cond.static Lib.Math.min.name ∈ wsX3_merge := by decide +kernel
theorem mmcX3_merge_45 : Cond.initialized "java/lang/Math" ∈ wsX3_merge := by decide +kernel
theorem mmeX3_merge_45 : Cond.code Lib.Math.min.name Lib.Math.min.code 2 (some .int) ∈ wsX3_merge := by decide +kernel
theorem mmaX3_merge_51 : Cond.methodLink RX3 51 Lib.Math.max.name ∈ wsX3_merge := by decide +kernel
theorem mmbX3_merge_51 : Cond.static Lib.Math.max.name ∈ wsX3_merge := by decide +kernel
theorem mmcX3_merge_51 : Cond.initialized "java/lang/Math" ∈ wsX3_merge := by decide +kernel
theorem mmeX3_merge_51 : Cond.code Lib.Math.max.name Lib.Math.max.code 2 (some .int) ∈ wsX3_merge := by decide +kernel
theorem lkX3_merge_15 : Cond.fieldLink RX3 15 (TX3 0).1 (TX3 0).2.1 (TX3 0).2.2.1 ∈ wsX3_merge := by decide +kernel
theorem inX3_merge_X3 : ∀ w ∈ u_ws RX3 TX3 3, w ∈ wsX3_merge := by decide +kernel
theorem lkX3_merge_23 : Cond.fieldLink RX3 23 (TX0 0).1 (TX0 0).2.1 (TX0 0).2.2.1 ∈ wsX3_merge := by decide +kernel
theorem inX3_merge_X0 : ∀ w ∈ u_ws RX0 TX0 7, w ∈ wsX3_merge := by decide +kernel
theorem lkX3_merge_9 : Cond.fieldLink RX3 9 (TX3 2).1 (TX3 2).2.1 (TX3 2).2.2.1 ∈ wsX3_merge := by decide +kernel
set_option maxRecDepth 100000 in
set_option maxHeartbeats 4000000 in
theorem c_X3_merge (l : Launch) (g : gC) (μ : gM) (d : Nat) (hd : d < 2) (cnt : Nat) (hcnt : cnt ≤ 60) (hc : μ 2 0 = nI cnt) (x y : Int32) : Met l yX3_merge wsX3_merge { frames := 1, cells := 0, slots := 0, locals := 21 } (va_Pc [.ref (g.2.1 (5 + d)), .int x, .int y] (gB g μ)) (va_Qv (fun μ' : gM => μ' = gR μ (23 + d) (sMerge cnt x y (μ (23 + d)))) (gPB g) (gA g)) 0 0 (gA g) := by
  refine g_ofV (cc := cX3_merge) (nL := 6) (ret := none) (by decide +kernel) rfl rfl  (Nat.le_of_ble_eq_true rfl) ?_
  intro p e s m args below meth c Q Z hR
  refine j_iload_n Z dX3_merge_0 1 rfl ?_
  refine j_iload_n Z dX3_merge_1 2 rfl ?_
  refine j_mmin Z mmaX3_merge_45 mmbX3_merge_45 mmcX3_merge_45 mmeX3_merge_45 (by decide) dX3_merge_2 ?_
  refine j_istore_n Z dX3_merge_5 (by decide) [(3, .int (iMin x y)), (0, .ref (g.2.1 (5 + d))), (1, .int x), (2, .int y)] rfl ?_
  refine j_iload_n Z dX3_merge_6 2 rfl ?_
  refine j_iload_n Z dX3_merge_7 3 rfl ?_
  refine j_mmax Z mmaX3_merge_51 mmbX3_merge_51 mmcX3_merge_51 mmeX3_merge_51 (by decide) dX3_merge_8 ?_
  refine j_istore Z dX3_merge_11 (by decide) [(4, .int (iMax x y)), (3, .int (iMin x y)), (0, .ref (g.2.1 (5 + d))), (1, .int x), (2, .int y)] rfl ?_
  refine j_iconst Z (v := 0) dX3_merge_13 (by decide) ?_
  refine j_istore Z dX3_merge_14 (by decide) [(5, .int 0), (4, .int (iMax x y)), (3, .int (iMin x y)), (0, .ref (g.2.1 (5 + d))), (1, .int x), (2, .int y)] rfl ?_
  have lp16 : ∀ (n0 i : Nat) (r : Nat → Int32), r = sMerge i x y (μ (23 + d)) → cnt + 2 ≤ i + n0 → i ≤ cnt → J p l e { frames := 1, cells := 0, slots := 0, locals := 21 } s m args below meth c Q g 6 (gR μ (23 + d) r) (0) (0) 16 [(0, .ref (g.2.1 (5 + d))), (1, .int x), (2, .int y), (3, .int (iMin x y)), (4, .int (iMax x y)), (5, .int (nI i))] [] := by
    intro n0
    induction n0 with
    | zero => intro i r er hn hg; exact absurd hn (by omega)
    | succ n0 ih =>
      intro i r er hn hg
      refine j_iload Z dX3_merge_16 5 rfl ?_
      refine j_aload_n Z dX3_merge_18 0 rfl ?_
      refine j_get Z (5 + d) (by omega) (gE_th hd) rfl 0 (by decide) rfl inX3_merge_X3 lkX3_merge_15 dX3_merge_19 ?_
      refine j_get Z 2 (by decide) rfl rfl 0 (by decide) rfl inX3_merge_X0 lkX3_merge_23 dX3_merge_22 ?_
      refine j_eq (y := μ 2 0) (by rw [gR_n (k := (23 + d)) (j := 2) (by omega)]) ?_
      refine j_eq hc ?_
      refine j_icmp_ge Z 54 dX3_merge_25 (by decide) (fun h25 => ?_) (fun h25 => ?_)
      · skip
        have hic : i = cnt := by
          have hq := (nI_leI (a := cnt) (b := i) (by omega) (by omega)).mp h25
          omega
        rw [hic] at er
        exact hR _ _ _ _ _ (by rw [er]) (by decide) (by decide) dX3_merge_54
      · skip
        have hlt : i < cnt := by
          rcases Nat.lt_or_ge i cnt with q9 | q9
          · exact q9
          · exact absurd (nI_le q9 (by omega)) h25
        refine j_aload_n Z dX3_merge_28 0 rfl ?_
        refine j_get Z (5 + d) (by omega) (gE_th hd) rfl 2 (by decide) rfl inX3_merge_X3 lkX3_merge_9 dX3_merge_29 ?_
        refine j_iload Z dX3_merge_32 5 rfl ?_
        refine j_ild Z (23 + d) (by omega) (gE_row (by omega)) i rfl (by omega) (by decide) dX3_merge_34 ?_
        refine j_eq (y := r i) (by rw [gR_s]) ?_
        refine j_iload Z dX3_merge_35 4 rfl ?_
        refine j_icmp_ne Z 48 dX3_merge_37 (by decide) (fun h37 => ?_) (fun h37 => ?_)
        · skip
          refine j_iinc Z dX3_merge_48 5 rfl (nI_1 i) (by decide) [(5, .int (nI (i + 1))), (0, .ref (g.2.1 (5 + d))), (1, .int x), (2, .int y), (3, .int (iMin x y)), (4, .int (iMax x y))] rfl ?_
          refine j_goto Z 16 dX3_merge_51 (by decide) ?_
          refine j_sub [1, 2, 3, 4, 5, 0] rfl ?_
          exact ih (i + 1) (r) (by rw [er] at h37 ⊢; exact sMerge_ne h37)  (by omega) (by omega)
        · skip
          refine j_aload_n Z dX3_merge_40 0 rfl ?_
          refine j_get Z (5 + d) (by omega) (gE_th hd) rfl 2 (by decide) rfl inX3_merge_X3 lkX3_merge_9 dX3_merge_41 ?_
          refine j_iload Z dX3_merge_44 5 rfl ?_
          refine j_iload_n Z dX3_merge_46 3 rfl ?_
          refine j_ist Z (23 + d) (by omega) (gE_row (by omega)) i rfl (by omega) (by decide)  dX3_merge_47 ?_
          refine j_mem (μ' := (gR μ (23 + d) (upd r i (iMin x y)))) gU_R ?_
          refine j_iinc Z dX3_merge_48 5 rfl (nI_1 i) (by decide) [(5, .int (nI (i + 1))), (0, .ref (g.2.1 (5 + d))), (1, .int x), (2, .int y), (3, .int (iMin x y)), (4, .int (iMax x y))] rfl ?_
          refine j_goto Z 16 dX3_merge_51 (by decide) ?_
          refine j_sub [1, 2, 3, 4, 5, 0] rfl ?_
          exact ih (i + 1) (upd r i (iMin x y)) (by rw [er] at h37 ⊢; exact sMerge_eq h37)  (by omega) (by omega)
  refine j_sub [3, 4, 5, 2, 1, 0] rfl ?_
  refine j_mem (gR_id (k := (23 + d)) (r := μ (23 + d)) rfl) ?_
  exact lp16 (cnt + 2) 0 (μ (23 + d)) (sMerge_0)  (by omega) (by omega)
theorem lkX3_joinToEarlier_9 : Cond.fieldLink RX3 9 (TX3 2).1 (TX3 2).2.1 (TX3 2).2.2.1 ∈ wsX3_joinToEarlier := by decide +kernel
theorem inX3_joinToEarlier_X3 : ∀ w ∈ u_ws RX3 TX3 3, w ∈ wsX3_joinToEarlier := by decide +kernel
theorem lkX3_joinToEarlier_15 : Cond.fieldLink RX3 15 (TX3 0).1 (TX3 0).2.1 (TX3 0).2.2.1 ∈ wsX3_joinToEarlier := by decide +kernel
set_option maxRecDepth 100000 in
set_option maxHeartbeats 4000000 in
theorem c_X3_joinToEarlier (l : Launch) (g : gC) (μ : gM) (d : Nat) (hd : d < 2) (cnt : Nat) (hcnt : cnt ≤ 60) (hc : μ 2 0 = nI cnt) (f : Nat) (hf : f < cnt) : Met l yX3_joinToEarlier wsX3_joinToEarlier { frames := 2, cells := 0, slots := 0, locals := 46 } (va_Pc [.ref (g.2.1 (5 + d)), .int (nI f)] (gB g μ)) (va_Qv (fun μ' : gM => μ' = gR μ (23 + d) (sIn cnt (fJoin μ) f (μ (23 + d)) f)) (gPB g) (gA g)) 0 0 (gA g) := by
  refine g_ofV (cc := cX3_joinToEarlier) (nL := 3) (ret := none) (by decide +kernel) rfl rfl  (Nat.le_of_ble_eq_true rfl) ?_
  intro p e s m args below meth c Q Z hR
  refine j_iconst Z (v := 0) dX3_joinToEarlier_0 (by decide) ?_
  refine j_istore_n Z dX3_joinToEarlier_1 (by decide) [(2, .int 0), (0, .ref (g.2.1 (5 + d))), (1, .int (nI f))] rfl ?_
  have lp2 : ∀ (n0 i : Nat) (r : Nat → Int32), r = sIn cnt (fJoin μ) f (μ (23 + d)) i → f + 2 ≤ i + n0 → i ≤ f → J p l e { frames := 2, cells := 0, slots := 0, locals := 46 } s m args below meth c Q g 3 (gR μ (23 + d) r) (0) (0) 2 [(0, .ref (g.2.1 (5 + d))), (1, .int (nI f)), (2, .int (nI i))] [] := by
    intro n0
    induction n0 with
    | zero => intro i r er hn hg; exact absurd hn (by omega)
    | succ n0 ih =>
      intro i r er hn hg
      refine j_iload_n Z dX3_joinToEarlier_2 2 rfl ?_
      refine j_iload_n Z dX3_joinToEarlier_3 1 rfl ?_
      refine j_icmp_ge Z 66 dX3_joinToEarlier_4 (by decide) (fun h4 => ?_) (fun h4 => ?_)
      · skip
        have hic : i = f := by
          have hq := (nI_leI (a := f) (b := i) (by omega) (by omega)).mp h4
          omega
        rw [hic] at er
        exact hR _ _ _ _ _ (by rw [er]) (by decide) (by decide) dX3_joinToEarlier_66
      · skip
        have hlt : i < f := by
          rcases Nat.lt_or_ge i f with q9 | q9
          · exact q9
          · exact absurd (nI_le q9 (by omega)) h4
        refine j_aload_n Z dX3_joinToEarlier_7 0 rfl ?_
        refine j_get Z (5 + d) (by omega) (gE_th hd) rfl 2 (by decide) rfl inX3_joinToEarlier_X3 lkX3_joinToEarlier_9 dX3_joinToEarlier_8 ?_
        refine j_iload_n Z dX3_joinToEarlier_11 2 rfl ?_
        refine j_ild Z (23 + d) (by omega) (gE_row (by omega)) i rfl (by omega) (by decide) dX3_joinToEarlier_12 ?_
        refine j_eq (y := r i) (by rw [gR_s]) ?_
        refine j_iconst Z (v := -1) dX3_joinToEarlier_13 (by decide) ?_
        refine j_icmp_eq Z 60 dX3_joinToEarlier_14 (by decide) (fun h14 => ?_) (fun h14 => ?_)
        · skip
          refine j_iinc Z dX3_joinToEarlier_60 2 rfl (nI_1 i) (by decide) [(2, .int (nI (i + 1))), (0, .ref (g.2.1 (5 + d))), (1, .int (nI f))] rfl ?_
          refine j_goto Z 2 dX3_joinToEarlier_63 (by decide) ?_
          refine j_sub [1, 2, 0] rfl ?_
          exact ih (i + 1) (r) (by show _ = sStep cnt (fJoin μ) f i (sIn cnt (fJoin μ) f (μ (23 + d)) i); rw [← er]; exact sStep_0 (fun q => by simp_all [zB_0]))  (by omega) (by omega)
        · skip
          refine j_aload_n Z dX3_joinToEarlier_17 0 rfl ?_
          refine j_get Z (5 + d) (by omega) (gE_th hd) rfl 2 (by decide) rfl inX3_joinToEarlier_X3 lkX3_joinToEarlier_9 dX3_joinToEarlier_18 ?_
          refine j_iload_n Z dX3_joinToEarlier_21 2 rfl ?_
          refine j_ild Z (23 + d) (by omega) (gE_row (by omega)) i rfl (by omega) (by decide) dX3_joinToEarlier_22 ?_
          refine j_eq (y := r i) (by rw [gR_s]) ?_
          refine j_aload_n Z dX3_joinToEarlier_23 0 rfl ?_
          refine j_get Z (5 + d) (by omega) (gE_th hd) rfl 2 (by decide) rfl inX3_joinToEarlier_X3 lkX3_joinToEarlier_9 dX3_joinToEarlier_24 ?_
          refine j_iload_n Z dX3_joinToEarlier_27 1 rfl ?_
          refine j_ild Z (23 + d) (by omega) (gE_row (by omega)) f rfl (by omega) (by decide) dX3_joinToEarlier_28 ?_
          refine j_eq (y := r f) (by rw [gR_s]) ?_
          refine j_icmp_eq Z 60 dX3_joinToEarlier_29 (by decide) (fun h29 => ?_) (fun h29 => ?_)
          · skip
            refine j_iinc Z dX3_joinToEarlier_60 2 rfl (nI_1 i) (by decide) [(2, .int (nI (i + 1))), (0, .ref (g.2.1 (5 + d))), (1, .int (nI f))] rfl ?_
            refine j_goto Z 2 dX3_joinToEarlier_63 (by decide) ?_
            refine j_sub [1, 2, 0] rfl ?_
            exact ih (i + 1) (r) (by show _ = sStep cnt (fJoin μ) f i (sIn cnt (fJoin μ) f (μ (23 + d)) i); rw [← er]; exact sStep_0 (fun q => by simp_all [zB_0]))  (by omega) (by omega)
          · skip
            refine j_aload_n Z dX3_joinToEarlier_32 0 rfl ?_
            refine j_get Z (5 + d) (by omega) (gE_th hd) rfl 0 (by decide) rfl inX3_joinToEarlier_X3 lkX3_joinToEarlier_15 dX3_joinToEarlier_33 ?_
            refine j_iload_n Z dX3_joinToEarlier_36 2 rfl ?_
            refine j_iload_n Z dX3_joinToEarlier_37 1 rfl ?_
            refine j_callVi Z (As := [.int (nI i), .int (nI f)]) (rest := []) (nA := 2) 2 (by decide) rfl rfl (c_X0_joined l g (gR μ (23 + d) r) i f (by omega) (by omega)) gX3_joinToEarlier_X0_joined rfl rfl rfl (by decide +kernel) (by decide) rfl dX3_joinToEarlier_38 rfl (Nat.le_of_ble_eq_true rfl) (by decide) (fun r9 μ9 hp => ?_)
            have hq : r9 = zB (fJoin (gR μ (23 + d) r) i f) ∧ μ9 = (gR μ (23 + d) r) := hp
            rw [fJoin_R (by omega)] at hq
            refine j_mem hq.2 ?_
            refine j_eq hq.1 ?_
            clear hq hp
            refine j_if_eq Z 60 dX3_joinToEarlier_41 (by decide) (fun h41 => ?_) (fun h41 => ?_)
            · skip
              refine j_iinc Z dX3_joinToEarlier_60 2 rfl (nI_1 i) (by decide) [(2, .int (nI (i + 1))), (0, .ref (g.2.1 (5 + d))), (1, .int (nI f))] rfl ?_
              refine j_goto Z 2 dX3_joinToEarlier_63 (by decide) ?_
              refine j_sub [1, 2, 0] rfl ?_
              exact ih (i + 1) (r) (by show _ = sStep cnt (fJoin μ) f i (sIn cnt (fJoin μ) f (μ (23 + d)) i); rw [← er]; exact sStep_0 (fun q => by simp_all [zB_0]))  (by omega) (by omega)
            · skip
              refine j_aload_n Z dX3_joinToEarlier_44 0 rfl ?_
              refine j_aload_n Z dX3_joinToEarlier_45 0 rfl ?_
              refine j_get Z (5 + d) (by omega) (gE_th hd) rfl 2 (by decide) rfl inX3_joinToEarlier_X3 lkX3_joinToEarlier_9 dX3_joinToEarlier_46 ?_
              refine j_iload_n Z dX3_joinToEarlier_49 2 rfl ?_
              refine j_ild Z (23 + d) (by omega) (gE_row (by omega)) i rfl (by omega) (by decide) dX3_joinToEarlier_50 ?_
              refine j_eq (y := r i) (by rw [gR_s]) ?_
              refine j_aload_n Z dX3_joinToEarlier_51 0 rfl ?_
              refine j_get Z (5 + d) (by omega) (gE_th hd) rfl 2 (by decide) rfl inX3_joinToEarlier_X3 lkX3_joinToEarlier_9 dX3_joinToEarlier_52 ?_
              refine j_iload_n Z dX3_joinToEarlier_55 1 rfl ?_
              refine j_ild Z (23 + d) (by omega) (gE_row (by omega)) f rfl (by omega) (by decide) dX3_joinToEarlier_56 ?_
              refine j_eq (y := r f) (by rw [gR_s]) ?_
              refine j_callVv Z (As := [.int (r i), .int (r f)]) (rest := []) (nA := 2) (5 + d) (by omega) (gE_th hd) rfl (c_X3_merge l g (gR μ (23 + d) r) d hd cnt hcnt (by rw [gR_n (k := (23 + d)) (j := 2) (by omega)]; exact hc) (r i) (r f)) gX3_joinToEarlier_X3_merge rfl rfl rfl (by decide +kernel) (by decide) rfl dX3_joinToEarlier_57 rfl (Nat.le_of_ble_eq_true rfl) (by decide) (fun μ9 hp => ?_)
              have hq : μ9 = gR (gR μ (23 + d) r) (23 + d) (sMerge cnt (r i) (r f) ((gR μ (23 + d) r) (23 + d))) := hp
              rw [gR_R, gR_s] at hq
              refine j_mem hq ?_
              clear hq hp
              refine j_iinc Z dX3_joinToEarlier_60 2 rfl (nI_1 i) (by decide) [(2, .int (nI (i + 1))), (0, .ref (g.2.1 (5 + d))), (1, .int (nI f))] rfl ?_
              refine j_goto Z 2 dX3_joinToEarlier_63 (by decide) ?_
              refine j_sub [1, 2, 0] rfl ?_
              exact ih (i + 1) (sMerge cnt (r i) (r f) r) (by show _ = sStep cnt (fJoin μ) f i (sIn cnt (fJoin μ) f (μ (23 + d)) i); rw [← er]; exact sStep_1 ⟨h14, h29, by simpa [zB_0] using h41⟩)  (by omega) (by omega)
  refine j_sub [1, 2, 0] rfl ?_
  refine j_mem (gR_id (k := (23 + d)) (r := μ (23 + d)) rfl) ?_
  exact lp2 (f + 2) 0 (μ (23 + d)) (rfl)  (by omega) (by omega)
theorem lkX3_sortFor_15 : Cond.fieldLink RX3 15 (TX3 0).1 (TX3 0).2.1 (TX3 0).2.2.1 ∈ wsX3_sortFor := by decide +kernel
theorem inX3_sortFor_X3 : ∀ w ∈ u_ws RX3 TX3 3, w ∈ wsX3_sortFor := by decide +kernel
theorem lkX3_sortFor_23 : Cond.fieldLink RX3 23 (TX0 0).1 (TX0 0).2.1 (TX0 0).2.2.1 ∈ wsX3_sortFor := by decide +kernel
theorem inX3_sortFor_X0 : ∀ w ∈ u_ws RX0 TX0 7, w ∈ wsX3_sortFor := by decide +kernel
theorem lkX3_sortFor_9 : Cond.fieldLink RX3 9 (TX3 2).1 (TX3 2).2.1 (TX3 2).2.2.1 ∈ wsX3_sortFor := by decide +kernel
theorem lkX3_sortFor_19 : Cond.fieldLink RX3 19 (TX3 1).1 (TX3 1).2.1 (TX3 1).2.2.1 ∈ wsX3_sortFor := by decide +kernel
set_option maxRecDepth 100000 in
set_option maxHeartbeats 4000000 in
theorem c_X3_sortFor (l : Launch) (g : gC) (μ : gM) (d : Nat) (hd : d < 2) (cnt : Nat) (hcnt : cnt ≤ 60) (hc : μ 2 0 = nI cnt) (x : Int32) (hs : ∀ k, vp_in (μ 9 k) 4) : Met l yX3_sortFor wsX3_sortFor { frames := 3, cells := 0, slots := 0, locals := 68 } (va_Pc [.ref (g.2.1 (5 + d)), .int x] (gB g μ)) (va_Qv (fun μ' : gM => μ' = gR μ (23 + d) (fSort μ cnt x (μ (23 + d)))) (gPB g) (gA g)) 0 0 (gA g) := by
  refine g_ofV (cc := cX3_sortFor) (nL := 3) (ret := none) (by decide +kernel) rfl rfl  (Nat.le_of_ble_eq_true rfl) ?_
  intro p e s m args below meth c Q Z hR
  refine j_iconst Z (v := 0) dX3_sortFor_0 (by decide) ?_
  refine j_istore_n Z dX3_sortFor_1 (by decide) [(2, .int 0), (0, .ref (g.2.1 (5 + d))), (1, .int x)] rfl ?_
  have lp2 : ∀ (n0 i : Nat) (r : Nat → Int32), r = s0 i (fun k => fStand μ k x) (μ (23 + d)) → cnt + 2 ≤ i + n0 → i ≤ cnt → J p l e { frames := 3, cells := 0, slots := 0, locals := 68 } s m args below meth c Q g 3 (gR μ (23 + d) r) (0) (0) 2 [(0, .ref (g.2.1 (5 + d))), (1, .int x), (2, .int (nI i))] [] := by
    intro n0
    induction n0 with
    | zero => intro i r er hn hg; exact absurd hn (by omega)
    | succ n0 ih =>
      intro i r er hn hg
      refine j_iload_n Z dX3_sortFor_2 2 rfl ?_
      refine j_aload_n Z dX3_sortFor_3 0 rfl ?_
      refine j_get Z (5 + d) (by omega) (gE_th hd) rfl 0 (by decide) rfl inX3_sortFor_X3 lkX3_sortFor_15 dX3_sortFor_4 ?_
      refine j_get Z 2 (by decide) rfl rfl 0 (by decide) rfl inX3_sortFor_X0 lkX3_sortFor_23 dX3_sortFor_7 ?_
      refine j_eq (y := μ 2 0) (by rw [gR_n (k := (23 + d)) (j := 2) (by omega)]) ?_
      refine j_eq hc ?_
      refine j_icmp_ge Z 46 dX3_sortFor_10 (by decide) (fun h10 => ?_) (fun h10 => ?_)
      · skip
        have hic : i = cnt := by
          have hq := (nI_leI (a := cnt) (b := i) (by omega) (by omega)).mp h10
          omega
        rw [hic] at er
        refine j_iconst Z (v := 1) dX3_sortFor_46 (by decide) ?_
        refine j_istore_n Z dX3_sortFor_47 (by decide) [(2, .int 1), (0, .ref (g.2.1 (5 + d))), (1, .int x)] rfl ?_
        have lq48 : ∀ (n0 f : Nat) (r2 : Nat → Int32), r2 = sOut cnt (fJoin μ) (s0 cnt (fun k => fStand μ k x) (μ (23 + d))) f → cnt + 2 ≤ f + n0 → f ≤ cnt ∨ f = 1 → J p l e { frames := 3, cells := 0, slots := 0, locals := 68 } s m args below meth c Q g 3 (gR μ (23 + d) r2) (0) (0) 48 [(0, .ref (g.2.1 (5 + d))), (1, .int x), (2, .int (nI f))] [] := by
          intro n0
          induction n0 with
          | zero => intro f r2 er2 hn hg; exact absurd hn (by omega)
          | succ n0 ih =>
            intro f r2 er2 hn hg
            refine j_iload_n Z dX3_sortFor_48 2 rfl ?_
            refine j_aload_n Z dX3_sortFor_49 0 rfl ?_
            refine j_get Z (5 + d) (by omega) (gE_th hd) rfl 0 (by decide) rfl inX3_sortFor_X3 lkX3_sortFor_15 dX3_sortFor_50 ?_
            refine j_get Z 2 (by decide) rfl rfl 0 (by decide) rfl inX3_sortFor_X0 lkX3_sortFor_23 dX3_sortFor_53 ?_
            refine j_eq (y := μ 2 0) (by rw [gR_n (k := (23 + d)) (j := 2) (by omega)]) ?_
            refine j_eq hc ?_
            refine j_icmp_ge Z 80 dX3_sortFor_56 (by decide) (fun h56 => ?_) (fun h56 => ?_)
            · skip
              have hge : cnt ≤ f := (nI_leI (a := cnt) (b := f) (by omega) (by omega)).mp h56
              exact hR _ _ _ _ _ (by rw [er2, sOut_end hge hg]; rfl) (by decide) (by decide) dX3_sortFor_80
            · skip
              have hlt : f < cnt := by
                rcases Nat.lt_or_ge f cnt with q9 | q9
                · exact q9
                · exact absurd (nI_le q9 (by omega)) h56
              refine j_aload_n Z dX3_sortFor_59 0 rfl ?_
              refine j_get Z (5 + d) (by omega) (gE_th hd) rfl 2 (by decide) rfl inX3_sortFor_X3 lkX3_sortFor_9 dX3_sortFor_60 ?_
              refine j_iload_n Z dX3_sortFor_63 2 rfl ?_
              refine j_ild Z (23 + d) (by omega) (gE_row (by omega)) f rfl (by omega) (by decide) dX3_sortFor_64 ?_
              refine j_eq (y := r2 f) (by rw [gR_s]) ?_
              refine j_iconst Z (v := -1) dX3_sortFor_65 (by decide) ?_
              refine j_icmp_eq Z 74 dX3_sortFor_66 (by decide) (fun h66 => ?_) (fun h66 => ?_)
              · skip
                refine j_iinc Z dX3_sortFor_74 2 rfl (nI_1 f) (by decide) [(2, .int (nI (f + 1))), (0, .ref (g.2.1 (5 + d))), (1, .int x)] rfl ?_
                refine j_goto Z 48 dX3_sortFor_77 (by decide) ?_
                refine j_sub [1, 2, 0] rfl ?_
                exact ih (f + 1) (r2) (by show _ = if ¬ sOut cnt (fJoin μ) (s0 cnt (fun k => fStand μ k x) (μ (23 + d))) f f = -1 then _ else _; rw [← er2, if_neg (fun q => q h66)])  (by omega) (by omega)
              · skip
                refine j_aload_n Z dX3_sortFor_69 0 rfl ?_
                refine j_iload_n Z dX3_sortFor_70 2 rfl ?_
                refine j_callVv Z (As := [.int (nI f)]) (rest := []) (nA := 1) (5 + d) (by omega) (gE_th hd) rfl (c_X3_joinToEarlier l g (gR μ (23 + d) r2) d hd cnt hcnt (by rw [gR_n (k := (23 + d)) (j := 2) (by omega)]; exact hc) f (by omega)) gX3_sortFor_X3_joinToEarlier rfl rfl rfl (by decide +kernel) (by decide) rfl dX3_sortFor_71 rfl (Nat.le_of_ble_eq_true rfl) (by decide) (fun μ9 hp => ?_)
                have hq : μ9 = gR (gR μ (23 + d) r2) (23 + d) (sIn cnt (fJoin (gR μ (23 + d) r2)) f ((gR μ (23 + d) r2) (23 + d)) f) := hp
                rw [gR_R, gR_s, show fJoin (gR μ (23 + d) r2) = fJoin μ from funext fun _ => funext fun _ => fJoin_R (by omega)] at hq
                refine j_mem hq ?_
                clear hq hp
                refine j_iinc Z dX3_sortFor_74 2 rfl (nI_1 f) (by decide) [(2, .int (nI (f + 1))), (0, .ref (g.2.1 (5 + d))), (1, .int x)] rfl ?_
                refine j_goto Z 48 dX3_sortFor_77 (by decide) ?_
                refine j_sub [1, 2, 0] rfl ?_
                exact ih (f + 1) (sIn cnt (fJoin μ) f r2 f) (by show _ = if ¬ sOut cnt (fJoin μ) (s0 cnt (fun k => fStand μ k x) (μ (23 + d))) f f = -1 then _ else _; rw [← er2, if_pos h66])  (by omega) (by omega)
        refine j_sub [1, 2, 0] rfl ?_
        exact lq48 (cnt + 2) 1 (r) (er.trans sOut_1.symm)  (by omega) (by omega)
      · skip
        have hlt : i < cnt := by
          rcases Nat.lt_or_ge i cnt with q9 | q9
          · exact q9
          · exact absurd (nI_le q9 (by omega)) h10
        refine j_aload_n Z dX3_sortFor_13 0 rfl ?_
        refine j_get Z (5 + d) (by omega) (gE_th hd) rfl 2 (by decide) rfl inX3_sortFor_X3 lkX3_sortFor_9 dX3_sortFor_14 ?_
        refine j_iload_n Z dX3_sortFor_17 2 rfl ?_
        refine j_aload_n Z dX3_sortFor_18 0 rfl ?_
        refine j_get Z (5 + d) (by omega) (gE_th hd) rfl 0 (by decide) rfl inX3_sortFor_X3 lkX3_sortFor_15 dX3_sortFor_19 ?_
        refine j_iload_n Z dX3_sortFor_22 2 rfl ?_
        refine j_iload_n Z dX3_sortFor_23 1 rfl ?_
        refine j_aload_n Z dX3_sortFor_24 0 rfl ?_
        refine j_get Z (5 + d) (by omega) (gE_th hd) rfl 1 (by decide) rfl inX3_sortFor_X3 lkX3_sortFor_19 dX3_sortFor_25 ?_
        refine j_callVi Z (As := [.int (nI i), .int x, .ref (g.2.1 1)]) (rest := [.int (nI i), .ref (g.2.1 (23 + d))]) (nA := 3) 2 (by decide) rfl rfl (c_X0_standsOn l g (gR μ (23 + d) r) i x (by omega) (by rw [gR_n (k := (23 + d)) (j := 9) (by omega)]; exact hs _)) gX3_sortFor_X0_standsOn rfl rfl rfl (by decide +kernel) (by decide) rfl dX3_sortFor_28 rfl (Nat.le_of_ble_eq_true rfl) (by decide) (fun r9 μ9 hp => ?_)
        have hq : r9 = zB (fStand (gR μ (23 + d) r) i x) ∧ μ9 = (gR μ (23 + d) r) := hp
        rw [fStand_R (by omega)] at hq
        refine j_mem hq.2 ?_
        refine j_eq hq.1 ?_
        clear hq hp
        refine j_if_eq Z 38 dX3_sortFor_31 (by decide) (fun h31 => ?_) (fun h31 => ?_)
        · skip
          refine j_iconst Z (v := -1) dX3_sortFor_38 (by decide) ?_
          refine j_ist Z (23 + d) (by omega) (gE_row (by omega)) i rfl (by omega) (by decide)  dX3_sortFor_39 ?_
          refine j_mem (μ' := (gR μ (23 + d) (upd r i (-1)))) gU_R ?_
          refine j_iinc Z dX3_sortFor_40 2 rfl (nI_1 i) (by decide) [(2, .int (nI (i + 1))), (0, .ref (g.2.1 (5 + d))), (1, .int x)] rfl ?_
          refine j_goto Z 2 dX3_sortFor_43 (by decide) ?_
          refine j_sub [1, 2, 0] rfl ?_
          exact ih (i + 1) (upd r i (-1)) (by rw [er]; exact s0_s (by simp_all [zB_0]))  (by omega) (by omega)
        · skip
          refine j_iload_n Z dX3_sortFor_34 2 rfl ?_
          refine j_goto Z 39 dX3_sortFor_35 (by decide) ?_
          refine j_ist Z (23 + d) (by omega) (gE_row (by omega)) i rfl (by omega) (by decide)  dX3_sortFor_39 ?_
          refine j_mem (μ' := (gR μ (23 + d) (upd r i (nI i)))) gU_R ?_
          refine j_iinc Z dX3_sortFor_40 2 rfl (nI_1 i) (by decide) [(2, .int (nI (i + 1))), (0, .ref (g.2.1 (5 + d))), (1, .int x)] rfl ?_
          refine j_goto Z 2 dX3_sortFor_43 (by decide) ?_
          refine j_sub [1, 2, 0] rfl ?_
          exact ih (i + 1) (upd r i (nI i)) (by rw [er]; exact s0_s (by simp_all [zB_0]))  (by omega) (by omega)
  refine j_sub [1, 2, 0] rfl ?_
  refine j_mem (gR_id (k := (23 + d)) (r := μ (23 + d)) rfl) ?_
  exact lp2 (cnt + 2) 0 (μ (23 + d)) (s0_0)  (by omega) (by omega)
theorem lkX3_attributeOf_15 : Cond.fieldLink RX3 15 (TX3 0).1 (TX3 0).2.1 (TX3 0).2.2.1 ∈ wsX3_attributeOf := by decide +kernel
theorem inX3_attributeOf_X3 : ∀ w ∈ u_ws RX3 TX3 3, w ∈ wsX3_attributeOf := by decide +kernel
theorem lkX3_attributeOf_23 : Cond.fieldLink RX3 23 (TX0 0).1 (TX0 0).2.1 (TX0 0).2.2.1 ∈ wsX3_attributeOf := by decide +kernel
theorem inX3_attributeOf_X0 : ∀ w ∈ u_ws RX0 TX0 7, w ∈ wsX3_attributeOf := by decide +kernel
theorem lkX3_attributeOf_61 : Cond.fieldLink RX3 61 (TX0 5).1 (TX0 5).2.1 (TX0 5).2.2.1 ∈ wsX3_attributeOf := by decide +kernel
set_option maxRecDepth 100000 in
set_option maxHeartbeats 4000000 in
theorem c_X3_attributeOf (l : Launch) (g : gC) (μ : gM) (d : Nat) (hd : d < 2) (cnt : Nat) (hcnt : cnt ≤ 60) (hc : μ 2 0 = nI cnt) (x : Int32) (a : Nat) (ha : a < 2) (hs : ∀ k, vp_in (μ 9 k) 4) : Met l yX3_attributeOf wsX3_attributeOf { frames := 1, cells := 0, slots := 0, locals := 24 } (va_Pc [.ref (g.2.1 (5 + d)), .int x, .int (nI a)] (gB g μ)) (va_Qi (fun (r : Int32) (μ' : gM) => r = fVal μ (23 + d) a cnt x ∧ μ' = μ) (gPB g) (gA g)) 0 0 (gA g) := by
  refine g_ofI (cc := cX3_attributeOf) (nL := 5) (ret := (some .int)) (ty := .int) (by decide +kernel) rfl rfl (fun _ _ _ => rfl) (Nat.le_of_ble_eq_true rfl) ?_
  intro p e s m args below meth c Q Z hR
  refine j_iconst Z (v := -1) dX3_attributeOf_0 (by decide) ?_
  refine j_istore_n Z dX3_attributeOf_1 (by decide) [(3, .int (-1)), (0, .ref (g.2.1 (5 + d))), (1, .int x), (2, .int (nI a))] rfl ?_
  refine j_iconst Z (v := 0) dX3_attributeOf_2 (by decide) ?_
  refine j_istore Z dX3_attributeOf_3 (by decide) [(4, .int 0), (3, .int (-1)), (0, .ref (g.2.1 (5 + d))), (1, .int x), (2, .int (nI a))] rfl ?_
  have lp5 : ∀ (n0 i : Nat) (b : Int32), b = aBest (μ (23 + d)) (μ (29 + a)) (fPl μ) x i → cnt + 2 ≤ i + n0 → i ≤ cnt → J p l e { frames := 1, cells := 0, slots := 0, locals := 24 } s m args below meth c Q g 5 μ (0) (0) 5 [(0, .ref (g.2.1 (5 + d))), (1, .int x), (2, .int (nI a)), (3, .int b), (4, .int (nI i))] [] := by
    intro n0
    induction n0 with
    | zero => intro i b eb hn hg; exact absurd hn (by omega)
    | succ n0 ih =>
      intro i b eb hn hg
      refine j_iload Z dX3_attributeOf_5 4 rfl ?_
      refine j_aload_n Z dX3_attributeOf_7 0 rfl ?_
      refine j_get Z (5 + d) (by omega) (gE_th hd) rfl 0 (by decide) rfl inX3_attributeOf_X3 lkX3_attributeOf_15 dX3_attributeOf_8 ?_
      refine j_get Z 2 (by decide) rfl rfl 0 (by decide) rfl inX3_attributeOf_X0 lkX3_attributeOf_23 dX3_attributeOf_11 ?_
      refine j_eq hc ?_
      refine j_icmp_ge Z 52 dX3_attributeOf_14 (by decide) (fun h14 => ?_) (fun h14 => ?_)
      · skip
        have hic : i = cnt := by
          have hq := (nI_leI (a := cnt) (b := i) (by omega) (by omega)).mp h14
          omega
        rw [hic] at eb
        refine j_iload_n Z dX3_attributeOf_52 3 rfl ?_
        refine j_iconst Z (v := -1) dX3_attributeOf_53 (by decide) ?_
        refine j_icmp_ne Z 61 dX3_attributeOf_54 (by decide) (fun h54 => ?_) (fun h54 => ?_)
        · skip
          refine j_aload_n Z dX3_attributeOf_61 0 rfl ?_
          refine j_get Z (5 + d) (by omega) (gE_th hd) rfl 0 (by decide) rfl inX3_attributeOf_X3 lkX3_attributeOf_15 dX3_attributeOf_62 ?_
          refine j_get Z 2 (by decide) rfl rfl 5 (by decide) rfl inX3_attributeOf_X0 lkX3_attributeOf_61 dX3_attributeOf_65 ?_
          refine j_iload_n Z dX3_attributeOf_68 2 rfl ?_
          refine j_ald Z 13 (by decide) rfl a rfl (by omega) (by decide) rfl dX3_attributeOf_69 ?_
          refine j_iload_n Z dX3_attributeOf_70 3 rfl ?_
          refine j_ild Z (29 + a) (by omega) (gE_row (by omega)) (ix b) (vp_ix (aBest_vp eb (by omega) h54) (by decide)).1 (vp_ix (aBest_vp eb (by omega) h54) (by decide)).2 (by decide) dX3_attributeOf_71 ?_
          exact hR _ _ _ _ _ _ (⟨by unfold fVal aVal; rw [← eb]; first | exact (if_pos h54).symm | exact (if_neg h54).symm, rfl⟩) (by decide) (by decide) dX3_attributeOf_72
        · skip
          refine j_iconst Z (v := -1) dX3_attributeOf_57 (by decide) ?_
          refine j_goto Z 72 dX3_attributeOf_58 (by decide) ?_
          exact hR _ _ _ _ _ _ (⟨by unfold fVal aVal; rw [← eb]; first | exact (if_pos h54).symm | exact (if_neg h54).symm, rfl⟩) (by decide) (by decide) dX3_attributeOf_72
      · skip
        have hlt : i < cnt := by
          rcases Nat.lt_or_ge i cnt with q9 | q9
          · exact q9
          · exact absurd (nI_le q9 (by omega)) h14
        refine j_aload_n Z dX3_attributeOf_17 0 rfl ?_
        refine j_iload_n Z dX3_attributeOf_18 1 rfl ?_
        refine j_iload_n Z dX3_attributeOf_19 2 rfl ?_
        refine j_iload Z dX3_attributeOf_20 4 rfl ?_
        refine j_callVi Z (As := [.int x, .int (nI a), .int (nI i)]) (rest := []) (nA := 3) (5 + d) (by omega) (gE_th hd) rfl (c_X3_tells l g μ d hd x a i (by omega) (by omega)) gX3_attributeOf_X3_tells rfl rfl rfl (by decide +kernel) (by decide) rfl dX3_attributeOf_22 rfl (Nat.le_of_ble_eq_true rfl) (by decide) (fun r9 μ9 hp => ?_)
        have hq : r9 = zB (tellB (μ (23 + d)) (μ (29 + a)) x i) ∧ μ9 = μ := hp
        refine j_mem hq.2 ?_
        refine j_eq hq.1 ?_
        clear hq hp
        refine j_if_eq Z 46 dX3_attributeOf_25 (by decide) (fun h25 => ?_) (fun h25 => ?_)
        · skip
          refine j_iinc Z dX3_attributeOf_46 4 rfl (nI_1 i) (by decide) [(4, .int (nI (i + 1))), (0, .ref (g.2.1 (5 + d))), (1, .int x), (2, .int (nI a)), (3, .int b)] rfl ?_
          refine j_goto Z 5 dX3_attributeOf_49 (by decide) ?_
          refine j_sub [1, 2, 3, 4, 0] rfl ?_
          exact ih (i + 1) (b) (by show _ = if tellB _ _ _ _ = true ∧ (aBest (μ (23 + d)) (μ (29 + a)) (fPl μ) x i = -1 ∨ ¬ fPl μ (ix (aBest (μ (23 + d)) (μ (29 + a)) (fPl μ) x i)) < _) then _ else aBest (μ (23 + d)) (μ (29 + a)) (fPl μ) x i; rw [← eb]; exact (if_neg (fun q => by have h9 := zB_0.mp h25; rw [q.1] at h9; cases h9)).symm)  (by omega) (by omega)
        · skip
          refine j_iload_n Z dX3_attributeOf_28 3 rfl ?_
          refine j_iconst Z (v := -1) dX3_attributeOf_29 (by decide) ?_
          refine j_icmp_eq Z 43 dX3_attributeOf_30 (by decide) (fun h30 => ?_) (fun h30 => ?_)
          · skip
            refine j_iload Z dX3_attributeOf_43 4 rfl ?_
            refine j_istore_n Z dX3_attributeOf_45 (by decide) [(3, .int (nI i)), (0, .ref (g.2.1 (5 + d))), (1, .int x), (2, .int (nI a)), (4, .int (nI i))] rfl ?_
            refine j_iinc Z dX3_attributeOf_46 4 rfl (nI_1 i) (by decide) [(4, .int (nI (i + 1))), (3, .int (nI i)), (0, .ref (g.2.1 (5 + d))), (1, .int x), (2, .int (nI a))] rfl ?_
            refine j_goto Z 5 dX3_attributeOf_49 (by decide) ?_
            refine j_sub [2, 3, 4, 1, 0] rfl ?_
            exact ih (i + 1) (nI i) (by show _ = if tellB _ _ _ _ = true ∧ (aBest (μ (23 + d)) (μ (29 + a)) (fPl μ) x i = -1 ∨ ¬ fPl μ (ix (aBest (μ (23 + d)) (μ (29 + a)) (fPl μ) x i)) < _) then _ else aBest (μ (23 + d)) (μ (29 + a)) (fPl μ) x i; rw [← eb]; exact (if_pos ⟨zB_1 h25, Or.inl h30⟩).symm)  (by omega) (by omega)
          · skip
            have hb60 := vp_ix (aBest_vp eb (by omega) h30) (by decide)
            refine j_aload_n Z dX3_attributeOf_33 0 rfl ?_
            refine j_iload Z dX3_attributeOf_34 4 rfl ?_
            refine j_iload_n Z dX3_attributeOf_36 3 rfl ?_
            refine j_eq hb60.1 ?_
            refine j_callVi Z (As := [.int (nI i), .int (nI (ix b))]) (rest := []) (nA := 2) (5 + d) (by omega) (gE_th hd) rfl (c_X3_goesBefore l g μ d hd i (ix b) (by omega) hb60.2 hs) gX3_attributeOf_X3_goesBefore rfl rfl rfl (by decide +kernel) (by decide) rfl dX3_attributeOf_37 rfl (Nat.le_of_ble_eq_true rfl) (by decide) (fun r9 μ9 hp => ?_)
            have hq : r9 = zB (!decide (fPl μ (ix b) < fPl μ i)) ∧ μ9 = μ := hp
            refine j_mem hq.2 ?_
            refine j_eq hq.1 ?_
            clear hq hp
            refine j_if_eq Z 46 dX3_attributeOf_40 (by decide) (fun h40 => ?_) (fun h40 => ?_)
            · skip
              refine j_iinc Z dX3_attributeOf_46 4 rfl (nI_1 i) (by decide) [(4, .int (nI (i + 1))), (0, .ref (g.2.1 (5 + d))), (1, .int x), (2, .int (nI a)), (3, .int b)] rfl ?_
              refine j_goto Z 5 dX3_attributeOf_49 (by decide) ?_
              refine j_sub [1, 2, 3, 4, 0] rfl ?_
              exact ih (i + 1) (b) (by show _ = if tellB _ _ _ _ = true ∧ (aBest (μ (23 + d)) (μ (29 + a)) (fPl μ) x i = -1 ∨ ¬ fPl μ (ix (aBest (μ (23 + d)) (μ (29 + a)) (fPl μ) x i)) < _) then _ else aBest (μ (23 + d)) (μ (29 + a)) (fPl μ) x i; rw [← eb]; exact (if_neg (fun q => q.2.elim h30 (fun q2 => q2 (nB_0 h40)))).symm)  (by omega) (by omega)
            · skip
              refine j_iload Z dX3_attributeOf_43 4 rfl ?_
              refine j_istore_n Z dX3_attributeOf_45 (by decide) [(3, .int (nI i)), (0, .ref (g.2.1 (5 + d))), (1, .int x), (2, .int (nI a)), (4, .int (nI i))] rfl ?_
              refine j_iinc Z dX3_attributeOf_46 4 rfl (nI_1 i) (by decide) [(4, .int (nI (i + 1))), (3, .int (nI i)), (0, .ref (g.2.1 (5 + d))), (1, .int x), (2, .int (nI a))] rfl ?_
              refine j_goto Z 5 dX3_attributeOf_49 (by decide) ?_
              refine j_sub [2, 3, 4, 1, 0] rfl ?_
              exact ih (i + 1) (nI i) (by show _ = if tellB _ _ _ _ = true ∧ (aBest (μ (23 + d)) (μ (29 + a)) (fPl μ) x i = -1 ∨ ¬ fPl μ (ix (aBest (μ (23 + d)) (μ (29 + a)) (fPl μ) x i)) < _) then _ else aBest (μ (23 + d)) (μ (29 + a)) (fPl μ) x i; rw [← eb]; exact (if_pos ⟨zB_1 h25, Or.inr (nB_1 h40)⟩).symm)  (by omega) (by omega)
  refine j_sub [2, 3, 4, 1, 0] rfl ?_
  exact lp5 (cnt + 2) 0 (-1) (rfl)  (by omega) (by omega)
theorem lkX3_hasUnlikeValues_15 : Cond.fieldLink RX3 15 (TX3 0).1 (TX3 0).2.1 (TX3 0).2.2.1 ∈ wsX3_hasUnlikeValues := by decide +kernel
theorem inX3_hasUnlikeValues_X3 : ∀ w ∈ u_ws RX3 TX3 3, w ∈ wsX3_hasUnlikeValues := by decide +kernel
theorem lkX3_hasUnlikeValues_23 : Cond.fieldLink RX3 23 (TX0 0).1 (TX0 0).2.1 (TX0 0).2.2.1 ∈ wsX3_hasUnlikeValues := by decide +kernel
theorem inX3_hasUnlikeValues_X0 : ∀ w ∈ u_ws RX0 TX0 7, w ∈ wsX3_hasUnlikeValues := by decide +kernel
theorem lkX3_hasUnlikeValues_61 : Cond.fieldLink RX3 61 (TX0 5).1 (TX0 5).2.1 (TX0 5).2.2.1 ∈ wsX3_hasUnlikeValues := by decide +kernel
set_option maxRecDepth 100000 in
set_option maxHeartbeats 4000000 in
theorem c_X3_hasUnlikeValues (l : Launch) (g : gC) (μ : gM) (d : Nat) (hd : d < 2) (cnt : Nat) (hcnt : cnt ≤ 60) (hc : μ 2 0 = nI cnt) (x : Int32) (a : Nat) (ha : a < 2) : Met l yX3_hasUnlikeValues wsX3_hasUnlikeValues { frames := 1, cells := 0, slots := 0, locals := 23 } (va_Pc [.ref (g.2.1 (5 + d)), .int x, .int (nI a)] (gB g μ)) (va_Qi (fun (r : Int32) (μ' : gM) => r = zB (uBad (μ (23 + d)) (μ (29 + a)) x cnt) ∧ μ' = μ) (gPB g) (gA g)) 0 0 (gA g) := by
  refine g_ofI (cc := cX3_hasUnlikeValues) (nL := 6) (ret := (some .boolean)) (ty := .boolean) (by decide +kernel) rfl rfl (by rintro _ _ ⟨rfl, rfl⟩; exact zB_n) (Nat.le_of_ble_eq_true rfl) ?_
  intro p e s m args below meth c Q Z hR
  refine j_iconst Z (v := -1) dX3_hasUnlikeValues_0 (by decide) ?_
  refine j_istore_n Z dX3_hasUnlikeValues_1 (by decide) [(3, .int (-1)), (0, .ref (g.2.1 (5 + d))), (1, .int x), (2, .int (nI a))] rfl ?_
  refine j_iconst Z (v := 0) dX3_hasUnlikeValues_2 (by decide) ?_
  refine j_istore Z dX3_hasUnlikeValues_3 (by decide) [(4, .int 0), (3, .int (-1)), (0, .ref (g.2.1 (5 + d))), (1, .int x), (2, .int (nI a))] rfl ?_
  have lp5 : ∀ (n0 i : Nat) (b : Int32), b = uSeen (μ (23 + d)) (μ (29 + a)) x i → uBad (μ (23 + d)) (μ (29 + a)) x i = false → cnt + 2 ≤ i + n0 → i ≤ cnt → J p l e { frames := 1, cells := 0, slots := 0, locals := 23 } s m args below meth c Q g 6 μ (0) (0) 5 [(0, .ref (g.2.1 (5 + d))), (1, .int x), (2, .int (nI a)), (3, .int b), (4, .int (nI i))] [] := by
    intro n0
    induction n0 with
    | zero => intro i b eb hbad hn hg; exact absurd hn (by omega)
    | succ n0 ih =>
      intro i b eb hbad hn hg
      refine j_iload Z dX3_hasUnlikeValues_5 4 rfl ?_
      refine j_aload_n Z dX3_hasUnlikeValues_7 0 rfl ?_
      refine j_get Z (5 + d) (by omega) (gE_th hd) rfl 0 (by decide) rfl inX3_hasUnlikeValues_X3 lkX3_hasUnlikeValues_15 dX3_hasUnlikeValues_8 ?_
      refine j_get Z 2 (by decide) rfl rfl 0 (by decide) rfl inX3_hasUnlikeValues_X0 lkX3_hasUnlikeValues_23 dX3_hasUnlikeValues_11 ?_
      refine j_eq hc ?_
      refine j_icmp_ge Z 64 dX3_hasUnlikeValues_14 (by decide) (fun h14 => ?_) (fun h14 => ?_)
      · skip
        have hic : i = cnt := by
          have hq := (nI_leI (a := cnt) (b := i) (by omega) (by omega)).mp h14
          omega
        rw [hic] at eb
        refine j_iconst Z (v := 0) dX3_hasUnlikeValues_64 (by decide) ?_
        exact hR _ _ _ _ _ _ (⟨zB_f (by rw [← hic]; exact hbad), rfl⟩) (by decide) (by decide) dX3_hasUnlikeValues_65
      · skip
        have hlt : i < cnt := by
          rcases Nat.lt_or_ge i cnt with q9 | q9
          · exact q9
          · exact absurd (nI_le q9 (by omega)) h14
        refine j_aload_n Z dX3_hasUnlikeValues_17 0 rfl ?_
        refine j_iload_n Z dX3_hasUnlikeValues_18 1 rfl ?_
        refine j_iload_n Z dX3_hasUnlikeValues_19 2 rfl ?_
        refine j_iload Z dX3_hasUnlikeValues_20 4 rfl ?_
        refine j_callVi Z (As := [.int x, .int (nI a), .int (nI i)]) (rest := []) (nA := 3) (5 + d) (by omega) (gE_th hd) rfl (c_X3_tells l g μ d hd x a i (by omega) (by omega)) gX3_hasUnlikeValues_X3_tells rfl rfl rfl (by decide +kernel) (by decide) rfl dX3_hasUnlikeValues_22 rfl (Nat.le_of_ble_eq_true rfl) (by decide) (fun r9 μ9 hp => ?_)
        have hq : r9 = zB (tellB (μ (23 + d)) (μ (29 + a)) x i) ∧ μ9 = μ := hp
        refine j_mem hq.2 ?_
        refine j_eq hq.1 ?_
        clear hq hp
        refine j_if_eq Z 58 dX3_hasUnlikeValues_25 (by decide) (fun h25 => ?_) (fun h25 => ?_)
        · skip
          refine j_iinc Z dX3_hasUnlikeValues_58 4 rfl (nI_1 i) (by decide) [(4, .int (nI (i + 1))), (0, .ref (g.2.1 (5 + d))), (1, .int x), (2, .int (nI a)), (3, .int b)] rfl ?_
          refine j_goto Z 5 dX3_hasUnlikeValues_61 (by decide) ?_
          refine j_sub [1, 2, 3, 4, 0] rfl ?_
          exact ih (i + 1) (b) (by simp_all [uSeen, zB_0]) (by simp_all [uBad, zB_0]) (by omega) (by omega)
        · skip
          refine j_aload_n Z dX3_hasUnlikeValues_28 0 rfl ?_
          refine j_get Z (5 + d) (by omega) (gE_th hd) rfl 0 (by decide) rfl inX3_hasUnlikeValues_X3 lkX3_hasUnlikeValues_15 dX3_hasUnlikeValues_29 ?_
          refine j_get Z 2 (by decide) rfl rfl 5 (by decide) rfl inX3_hasUnlikeValues_X0 lkX3_hasUnlikeValues_61 dX3_hasUnlikeValues_32 ?_
          refine j_iload_n Z dX3_hasUnlikeValues_35 2 rfl ?_
          refine j_ald Z 13 (by decide) rfl a rfl (by omega) (by decide) rfl dX3_hasUnlikeValues_36 ?_
          refine j_iload Z dX3_hasUnlikeValues_37 4 rfl ?_
          refine j_ild Z (29 + a) (by omega) (gE_row (by omega)) i rfl (by omega) (by decide) dX3_hasUnlikeValues_39 ?_
          refine j_istore Z dX3_hasUnlikeValues_40 (by decide) [(5, .int (μ (29 + a) i)), (0, .ref (g.2.1 (5 + d))), (1, .int x), (2, .int (nI a)), (3, .int b), (4, .int (nI i))] rfl ?_
          refine j_iload_n Z dX3_hasUnlikeValues_42 4 rfl ?_
          refine j_iconst Z (v := -1) dX3_hasUnlikeValues_43 (by decide) ?_
          refine j_icmp_eq Z 55 dX3_hasUnlikeValues_44 (by decide) (fun h44 => ?_) (fun h44 => ?_)
          · skip
            refine j_iload Z dX3_hasUnlikeValues_55 0 rfl ?_
            refine j_istore_n Z dX3_hasUnlikeValues_57 (by decide) [(3, .int (μ (29 + a) i)), (5, .int (μ (29 + a) i)), (0, .ref (g.2.1 (5 + d))), (1, .int x), (2, .int (nI a)), (4, .int (nI i))] rfl ?_
            refine j_iinc Z dX3_hasUnlikeValues_58 5 rfl (nI_1 i) (by decide) [(4, .int (nI (i + 1))), (3, .int (μ (29 + a) i)), (5, .int (μ (29 + a) i)), (0, .ref (g.2.1 (5 + d))), (1, .int x), (2, .int (nI a))] rfl ?_
            refine j_goto Z 5 dX3_hasUnlikeValues_61 (by decide) ?_
            refine j_sub [3, 4, 5, 1, 0] rfl ?_
            exact ih (i + 1) (μ (29 + a) i) (by simp_all [uSeen, zB_0]) (by simp_all [uBad, zB_0]) (by omega) (by omega)
          · skip
            refine j_iload Z dX3_hasUnlikeValues_47 0 rfl ?_
            refine j_iload_n Z dX3_hasUnlikeValues_49 4 rfl ?_
            refine j_icmp_eq Z 55 dX3_hasUnlikeValues_50 (by decide) (fun h50 => ?_) (fun h50 => ?_)
            · skip
              refine j_iload Z dX3_hasUnlikeValues_55 0 rfl ?_
              refine j_istore_n Z dX3_hasUnlikeValues_57 (by decide) [(3, .int (μ (29 + a) i)), (5, .int (μ (29 + a) i)), (0, .ref (g.2.1 (5 + d))), (1, .int x), (2, .int (nI a)), (4, .int (nI i))] rfl ?_
              refine j_iinc Z dX3_hasUnlikeValues_58 5 rfl (nI_1 i) (by decide) [(4, .int (nI (i + 1))), (3, .int (μ (29 + a) i)), (5, .int (μ (29 + a) i)), (0, .ref (g.2.1 (5 + d))), (1, .int x), (2, .int (nI a))] rfl ?_
              refine j_goto Z 5 dX3_hasUnlikeValues_61 (by decide) ?_
              refine j_sub [3, 4, 5, 1, 0] rfl ?_
              exact ih (i + 1) (μ (29 + a) i) (by simp_all [uSeen, zB_0]) (by simp_all [uBad, zB_0]) (by omega) (by omega)
            · skip
              refine j_iconst Z (v := 1) dX3_hasUnlikeValues_53 (by decide) ?_
              exact hR _ _ _ _ _ _ (⟨zB_t (uBad_up (i := i + 1) (by simp_all [uBad, zB_0]) (by omega)), rfl⟩) (by decide) (by decide) dX3_hasUnlikeValues_54
  refine j_sub [2, 3, 4, 1, 0] rfl ?_
  exact lp5 (cnt + 2) 0 (-1) (rfl) (rfl) (by omega) (by omega)
theorem lkX3_hasMark_15 : Cond.fieldLink RX3 15 (TX3 0).1 (TX3 0).2.1 (TX3 0).2.2.1 ∈ wsX3_hasMark := by decide +kernel
theorem inX3_hasMark_X3 : ∀ w ∈ u_ws RX3 TX3 3, w ∈ wsX3_hasMark := by decide +kernel
theorem lkX3_hasMark_23 : Cond.fieldLink RX3 23 (TX0 0).1 (TX0 0).2.1 (TX0 0).2.2.1 ∈ wsX3_hasMark := by decide +kernel
theorem inX3_hasMark_X0 : ∀ w ∈ u_ws RX0 TX0 7, w ∈ wsX3_hasMark := by decide +kernel
theorem lkX3_hasMark_9 : Cond.fieldLink RX3 9 (TX3 2).1 (TX3 2).2.1 (TX3 2).2.2.1 ∈ wsX3_hasMark := by decide +kernel
theorem lkX3_hasMark_73 : Cond.fieldLink RX3 73 (TX0 4).1 (TX0 4).2.1 (TX0 4).2.2.1 ∈ wsX3_hasMark := by decide +kernel
set_option maxRecDepth 100000 in
set_option maxHeartbeats 4000000 in
theorem c_X3_hasMark (l : Launch) (g : gC) (μ : gM) (d : Nat) (hd : d < 2) (cnt : Nat) (hcnt : cnt ≤ 60) (hc : μ 2 0 = nI cnt) (x y : Int32) (q : Nat) (hq : q < 3) : Met l yX3_hasMark wsX3_hasMark { frames := 0, cells := 0, slots := 0, locals := 0 } (va_Pc [.ref (g.2.1 (5 + d)), .int x, .int (nI q), .int y] (gB g μ)) (va_Qi (fun (r : Int32) (μ' : gM) => r = zB (hMark (μ (23 + d)) (μ (26 + q)) x y cnt) ∧ μ' = μ) (gPB g) (gA g)) 0 0 (gA g) := by
  refine g_ofI (cc := cX3_hasMark) (nL := 5) (ret := (some .boolean)) (ty := .boolean) (by decide +kernel) rfl rfl (by rintro _ _ ⟨rfl, rfl⟩; exact zB_n) (Nat.le_of_ble_eq_true rfl) ?_
  intro p e s m args below meth c Q Z hR
  refine j_iconst Z (v := 0) dX3_hasMark_0 (by decide) ?_
  refine j_istore Z dX3_hasMark_1 (by decide) [(4, .int 0), (0, .ref (g.2.1 (5 + d))), (1, .int x), (2, .int (nI q)), (3, .int y)] rfl ?_
  have lp3 : ∀ (n0 i : Nat) , hMark (μ (23 + d)) (μ (26 + q)) x y i = false → cnt + 2 ≤ i + n0 → i ≤ cnt → J p l e { frames := 0, cells := 0, slots := 0, locals := 0 } s m args below meth c Q g 5 μ (0) (0) 3 [(0, .ref (g.2.1 (5 + d))), (1, .int x), (2, .int (nI q)), (3, .int y), (4, .int (nI i))] [] := by
    intro n0
    induction n0 with
    | zero => intro i hbad hn hg; exact absurd hn (by omega)
    | succ n0 ih =>
      intro i hbad hn hg
      refine j_iload Z dX3_hasMark_3 4 rfl ?_
      refine j_aload_n Z dX3_hasMark_5 0 rfl ?_
      refine j_get Z (5 + d) (by omega) (gE_th hd) rfl 0 (by decide) rfl inX3_hasMark_X3 lkX3_hasMark_15 dX3_hasMark_6 ?_
      refine j_get Z 2 (by decide) rfl rfl 0 (by decide) rfl inX3_hasMark_X0 lkX3_hasMark_23 dX3_hasMark_9 ?_
      refine j_eq hc ?_
      refine j_icmp_ge Z 50 dX3_hasMark_12 (by decide) (fun h12 => ?_) (fun h12 => ?_)
      · skip
        have hic : i = cnt := by
          have hq := (nI_leI (a := cnt) (b := i) (by omega) (by omega)).mp h12
          omega
        refine j_iconst Z (v := 0) dX3_hasMark_50 (by decide) ?_
        exact hR _ _ _ _ _ _ (⟨zB_f (by rw [← hic]; exact hbad), rfl⟩) (by decide) (by decide) dX3_hasMark_51
      · skip
        have hlt : i < cnt := by
          rcases Nat.lt_or_ge i cnt with q9 | q9
          · exact q9
          · exact absurd (nI_le q9 (by omega)) h12
        refine j_aload_n Z dX3_hasMark_15 0 rfl ?_
        refine j_get Z (5 + d) (by omega) (gE_th hd) rfl 2 (by decide) rfl inX3_hasMark_X3 lkX3_hasMark_9 dX3_hasMark_16 ?_
        refine j_iload Z dX3_hasMark_19 4 rfl ?_
        refine j_ild Z (23 + d) (by omega) (gE_row (by omega)) i rfl (by omega) (by decide) dX3_hasMark_21 ?_
        refine j_iload_n Z dX3_hasMark_22 1 rfl ?_
        refine j_icmp_ne Z 44 dX3_hasMark_23 (by decide) (fun h23 => ?_) (fun h23 => ?_)
        · skip
          refine j_iinc Z dX3_hasMark_44 4 rfl (nI_1 i) (by decide) [(4, .int (nI (i + 1))), (0, .ref (g.2.1 (5 + d))), (1, .int x), (2, .int (nI q)), (3, .int y)] rfl ?_
          refine j_goto Z 3 dX3_hasMark_47 (by decide) ?_
          refine j_sub [1, 2, 3, 4, 0] rfl ?_
          exact ih (i + 1)   (by simp_all [hMark]) (by omega) (by omega)
        · skip
          refine j_aload_n Z dX3_hasMark_26 0 rfl ?_
          refine j_get Z (5 + d) (by omega) (gE_th hd) rfl 0 (by decide) rfl inX3_hasMark_X3 lkX3_hasMark_15 dX3_hasMark_27 ?_
          refine j_get Z 2 (by decide) rfl rfl 4 (by decide) rfl inX3_hasMark_X0 lkX3_hasMark_73 dX3_hasMark_30 ?_
          refine j_iload_n Z dX3_hasMark_33 2 rfl ?_
          refine j_ald Z 12 (by decide) rfl q rfl (by omega) (by decide) rfl dX3_hasMark_34 ?_
          refine j_iload Z dX3_hasMark_35 4 rfl ?_
          refine j_ild Z (26 + q) (by omega) (gE_row (by omega)) i rfl (by omega) (by decide) dX3_hasMark_37 ?_
          refine j_iload_n Z dX3_hasMark_38 3 rfl ?_
          refine j_icmp_ne Z 44 dX3_hasMark_39 (by decide) (fun h39 => ?_) (fun h39 => ?_)
          · skip
            refine j_iinc Z dX3_hasMark_44 4 rfl (nI_1 i) (by decide) [(4, .int (nI (i + 1))), (0, .ref (g.2.1 (5 + d))), (1, .int x), (2, .int (nI q)), (3, .int y)] rfl ?_
            refine j_goto Z 3 dX3_hasMark_47 (by decide) ?_
            refine j_sub [1, 2, 3, 4, 0] rfl ?_
            exact ih (i + 1)   (by simp_all [hMark]) (by omega) (by omega)
          · skip
            refine j_iconst Z (v := 1) dX3_hasMark_42 (by decide) ?_
            exact hR _ _ _ _ _ _ (⟨zB_t (hMark_up (i := i + 1) (by simp_all [hMark]) (by omega)), rfl⟩) (by decide) (by decide) dX3_hasMark_43
  refine j_sub [1, 2, 3, 4, 0] rfl ?_
  exact lp3 (cnt + 2) 0   (rfl) (by omega) (by omega)
end
section
/-! links, failures, the order of sources: pure words -/
def holdB (th nd nn : Nat → Int32) (i : Nat) : Bool := decide (¬ th (ix (nd i)) = -1) && decide (¬ th (ix (nn i)) = -1) && decide (¬ th (ix (nd i)) = th (ix (nn i)))
/-- link i keeps thing x up in group y -/
def blockB (th nd nn gp f : Nat → Int32) (x y : Int32) (i : Nat) : Bool := decide (gp i = y) && decide (th (ix (nd i)) = x) && holdB th nd nn i && decide (f (ix (th (ix (nn i)))) = 0)
def lostN (th nd nn gp f : Nat → Int32) (x y : Int32) : Nat → Bool
  | 0 => true
  | i + 1 => lostN th nd nn gp f x y i && !blockB th nd nn gp f x y i
theorem lostN_dn {th nd nn gp f : Nat → Int32} {x y : Int32} {i n : Nat} (h : lostN th nd nn gp f x y i = false) (hn : i ≤ n) : lostN th nd nn gp f x y n = false := by
  induction n with
  | zero => rw [← Nat.le_zero.mp hn]; exact h
  | succ n ih =>
    by_cases hi : i = n + 1
    · rw [← hi]; exact h
    · show (lostN th nd nn gp f x y n && _) = false
      rw [ih (by omega)]; rfl
/-- link i lets its thing fail -/
def fmC (th nd nn gp : Nat → Int32) (lc : Nat) (f : Nat → Int32) (i : Nat) : Bool := holdB th nd nn i && decide (f (ix (th (ix (nd i)))) = 0) && lostN th nd nn gp f (th (ix (nd i))) (gp i) lc
/-- a round over the first links -/
def fmN (th nd nn gp : Nat → Int32) (lc : Nat) (f : Nat → Int32) : Nat → Nat → Int32
  | 0 => f
  | i + 1 => if fmC th nd nn gp lc (fmN th nd nn gp lc f i) i = true then upd (fmN th nd nn gp lc f i) (ix (th (ix (nd i)))) 1 else fmN th nd nn gp lc f i
def fmM (th nd nn gp : Nat → Int32) (lc : Nat) (f : Nat → Int32) : Nat → Bool
  | 0 => false
  | i + 1 => fmM th nd nn gp lc f i || fmC th nd nn gp lc (fmN th nd nn gp lc f i) i
/-- rounds while more fails -/
def fRun (th nd nn gp : Nat → Int32) (lc : Nat) : Nat → (Nat → Int32) → Bool → Nat → Int32
  | 0, f, _ => f
  | n + 1, f, b => if b = true then fRun th nd nn gp lc n (fmN th nd nn gp lc f lc) (fmM th nd nn gp lc f lc) else f
theorem fRun_f {th nd nn gp : Nat → Int32} {lc n : Nat} {f : Nat → Int32} {b : Bool} (h : b = false) : fRun th nd nn gp lc n f b = f := by
  cases n with
  | zero => rfl
  | succ n => exact if_neg (by rw [h]; decide)
theorem fRun_t {th nd nn gp : Nat → Int32} {lc n m : Nat} {f : Nat → Int32} {b : Bool} (h : b = true) (hn : n = m + 1) : fRun th nd nn gp lc n f b = fRun th nd nn gp lc m (fmN th nd nn gp lc f lc) (fmM th nd nn gp lc f lc) := by
  subst hn
  exact if_pos h
theorem fRun_0 {th nd nn gp : Nat → Int32} {lc n : Nat} {f : Nat → Int32} {b : Bool} (hn : n = 0) : fRun th nd nn gp lc n f b = f := by
  subst hn
  rfl
/-- zeros to n -/
def zRow (n : Nat) (f : Nat → Int32) : Nat → Int32 := fun k => if k < n then 0 else f k
theorem zRow_0 {f : Nat → Int32} : f = zRow 0 f := by
  funext k
  exact (if_neg (Nat.not_lt_zero k)).symm
theorem zRow_s {n : Nat} {f : Nat → Int32} : upd (zRow n f) n 0 = zRow (n + 1) f := by
  funext k
  by_cases hk : k = n
  · subst hk
    rw [upd_s]
    exact (if_pos (Nat.lt_succ_self k)).symm
  · rw [upd_n hk]
    unfold zRow
    by_cases h2 : k < n
    · rw [if_pos h2, if_pos (by omega)]
    · rw [if_neg h2, if_neg (by omega)]
/-- what fails with thing q -/
def fFail (μ : gM) (lc q : Nat) : Nat → Int32 := fRun (μ 23) (μ 15) (μ 16) (μ 17) lc 60 (upd (zRow 60 (μ 18)) q 1) true
/-- the places ahead of b go back by one -/
def pMv (n : Nat) (b : Int32) (pl : Nat → Int32) : Nat → Int32 := fun k => if k < n ∧ pl k < b then pl k + 1 else pl k
theorem pMv_0 {b : Int32} {pl : Nat → Int32} : pl = pMv 0 b pl := by
  funext k
  exact (if_neg (fun h => absurd h.1 (Nat.not_lt_zero k))).symm
theorem pMv_at {n : Nat} {b : Int32} {pl : Nat → Int32} : pMv n b pl n = pl n := if_neg (fun h => absurd h.1 (Nat.lt_irrefl n))
theorem pMv_lt {n : Nat} {b : Int32} {pl : Nat → Int32} (h : pMv n b pl n < b) : upd (pMv n b pl) n (pMv n b pl n + 1) = pMv (n + 1) b pl := by
  rw [pMv_at] at h ⊢
  funext k
  by_cases hk : k = n
  · subst hk
    rw [upd_s]
    exact (if_pos ⟨Nat.lt_succ_self k, h⟩).symm
  · rw [upd_n hk]
    unfold pMv
    by_cases h2 : k < n ∧ pl k < b
    · rw [if_pos h2, if_pos ⟨by omega, h2.2⟩]
    · rw [if_neg h2, if_neg (fun h3 => h2 ⟨by omega, h3.2⟩)]
theorem pMv_ge {n : Nat} {b : Int32} {pl : Nat → Int32} (h : b ≤ pMv n b pl n) : pMv n b pl = pMv (n + 1) b pl := by
  rw [pMv_at] at h
  funext k
  unfold pMv
  by_cases h2 : k < n ∧ pl k < b
  · rw [if_pos h2, if_pos ⟨by omega, h2.2⟩]
  · rw [if_neg h2, if_neg (fun h3 => ?_)]
    by_cases hk : k = n
    · subst hk
      exact absurd h (Int32.not_le.mpr h3.2)
    · exact h2 ⟨by omega, h3.2⟩
end
section
theorem lkX1_holds_33 : Cond.fieldLink RX1 33 (TX3 2).1 (TX3 2).2.1 (TX3 2).2.2.1 ∈ wsX1_holds := by decide +kernel
theorem inX1_holds_X3 : ∀ w ∈ u_ws RX3 TX3 3, w ∈ wsX1_holds := by decide +kernel
theorem lkX1_holds_15 : Cond.fieldLink RX1 15 (TX1 1).1 (TX1 1).2.1 (TX1 1).2.2.1 ∈ wsX1_holds := by decide +kernel
theorem inX1_holds_X1 : ∀ w ∈ u_ws RX1 TX1 5, w ∈ wsX1_holds := by decide +kernel
theorem lkX1_holds_19 : Cond.fieldLink RX1 19 (TX1 2).1 (TX1 2).2.1 (TX1 2).2.2.1 ∈ wsX1_holds := by decide +kernel
set_option maxRecDepth 100000 in
set_option maxHeartbeats 4000000 in
theorem c_X1_holds (l : Launch) (g : gC) (μ : gM) (i : Nat) (hi : i < 40) (h1 : ∀ k, vp_in (μ 15 k) 60) (h2 : ∀ k, vp_in (μ 16 k) 60)  : Met l yX1_holds wsX1_holds { frames := 0, cells := 0, slots := 0, locals := 0 } (va_Pc [.ref (g.2.1 3), .int (nI i), .ref (g.2.1 5)] (gB g μ)) (va_Qi (fun (r : Int32) (μ' : gM) => r = zB (holdB (μ 23) (μ 15) (μ 16) i) ∧ μ' = μ) (gPB g) (gA g)) 0 0 (gA g) := by
  refine g_ofI (cc := cX1_holds) (nL := 5) (ret := (some .boolean)) (ty := .boolean) (by decide +kernel) rfl rfl (by rintro _ _ ⟨rfl, rfl⟩; exact zB_n) (Nat.le_of_ble_eq_true rfl) ?_
  intro p e s m args below meth c Q Z hR
  refine j_aload_n Z dX1_holds_0 2 rfl ?_
  refine j_get Z 5 (by decide) rfl rfl 2 (by decide) rfl inX1_holds_X3 lkX1_holds_33 dX1_holds_1 ?_
  refine j_aload_n Z dX1_holds_4 0 rfl ?_
  refine j_get Z 3 (by decide) rfl rfl 1 (by decide) rfl inX1_holds_X1 lkX1_holds_15 dX1_holds_5 ?_
  refine j_iload_n Z dX1_holds_8 1 rfl ?_
  refine j_ild Z 15 (by decide) (fun _ => rfl) i rfl (by omega) (by decide) dX1_holds_9 ?_
  refine j_ild Z 23 (by decide) (fun _ => rfl) (ix (μ 15 i)) (vp_ix (h1 i) (by decide)).1 (vp_ix (h1 i) (by decide)).2 (by decide) dX1_holds_10 ?_
  refine j_istore_n Z dX1_holds_11 (by decide) [(3, .int (μ 23 (ix (μ 15 i)))), (0, .ref (g.2.1 3)), (1, .int (nI i)), (2, .ref (g.2.1 5))] rfl ?_
  refine j_aload_n Z dX1_holds_12 3 rfl ?_
  refine j_get Z 5 (by decide) rfl rfl 2 (by decide) rfl inX1_holds_X3 lkX1_holds_33 dX1_holds_13 ?_
  refine j_aload_n Z dX1_holds_16 1 rfl ?_
  refine j_get Z 3 (by decide) rfl rfl 2 (by decide) rfl inX1_holds_X1 lkX1_holds_19 dX1_holds_17 ?_
  refine j_iload_n Z dX1_holds_20 2 rfl ?_
  refine j_ild Z 16 (by decide) (fun _ => rfl) i rfl (by omega) (by decide) dX1_holds_21 ?_
  refine j_ild Z 23 (by decide) (fun _ => rfl) (ix (μ 16 i)) (vp_ix (h2 i) (by decide)).1 (vp_ix (h2 i) (by decide)).2 (by decide) dX1_holds_22 ?_
  refine j_istore Z dX1_holds_23 (by decide) [(4, .int (μ 23 (ix (μ 16 i)))), (3, .int (μ 23 (ix (μ 15 i)))), (0, .ref (g.2.1 3)), (1, .int (nI i)), (2, .ref (g.2.1 5))] rfl ?_
  refine j_iload_n Z dX1_holds_25 1 rfl ?_
  refine j_iconst Z (v := -1) dX1_holds_26 (by decide) ?_
  refine j_icmp_eq Z 46 dX1_holds_27 (by decide) (fun h27 => ?_) (fun h27 => ?_)
  · skip
    refine j_iconst Z (v := 0) dX1_holds_46 (by decide) ?_
    exact hR _ _ _ _ _ _ (⟨by first | (simp [zB, holdB, h27]; done) | (simp_all [zB, holdB]; done), rfl⟩) (by decide) (by decide) dX1_holds_47
  · skip
    refine j_iload Z dX1_holds_30 0 rfl ?_
    refine j_iconst Z (v := -1) dX1_holds_32 (by decide) ?_
    refine j_icmp_eq Z 46 dX1_holds_33 (by decide) (fun h33 => ?_) (fun h33 => ?_)
    · skip
      refine j_iconst Z (v := 0) dX1_holds_46 (by decide) ?_
      exact hR _ _ _ _ _ _ (⟨by first | (simp [zB, holdB, h27, h33]; done) | (simp_all [zB, holdB]; done), rfl⟩) (by decide) (by decide) dX1_holds_47
    · skip
      refine j_iload_n Z dX1_holds_36 1 rfl ?_
      refine j_iload Z dX1_holds_37 0 rfl ?_
      refine j_icmp_eq Z 46 dX1_holds_39 (by decide) (fun h39 => ?_) (fun h39 => ?_)
      · skip
        refine j_iconst Z (v := 0) dX1_holds_46 (by decide) ?_
        exact hR _ _ _ _ _ _ (⟨by first | (simp [zB, holdB, h27, h33, h39]; done) | (simp_all [zB, holdB]; done), rfl⟩) (by decide) (by decide) dX1_holds_47
      · skip
        refine j_iconst Z (v := 1) dX1_holds_42 (by decide) ?_
        refine j_goto Z 47 dX1_holds_43 (by decide) ?_
        exact hR _ _ _ _ _ _ (⟨by first | (simp [zB, holdB, h27, h33, h39]; done) | (simp_all [zB, holdB]; done), rfl⟩) (by decide) (by decide) dX1_holds_47
theorem lkX1_lost_9 : Cond.fieldLink RX1 9 (TX1 0).1 (TX1 0).2.1 (TX1 0).2.2.1 ∈ wsX1_lost := by decide +kernel
theorem inX1_lost_X1 : ∀ w ∈ u_ws RX1 TX1 5, w ∈ wsX1_lost := by decide +kernel
theorem lkX1_lost_22 : Cond.fieldLink RX1 22 (TX1 3).1 (TX1 3).2.1 (TX1 3).2.2.1 ∈ wsX1_lost := by decide +kernel
theorem lkX1_lost_33 : Cond.fieldLink RX1 33 (TX3 2).1 (TX3 2).2.1 (TX3 2).2.2.1 ∈ wsX1_lost := by decide +kernel
theorem inX1_lost_X3 : ∀ w ∈ u_ws RX3 TX3 3, w ∈ wsX1_lost := by decide +kernel
theorem lkX1_lost_15 : Cond.fieldLink RX1 15 (TX1 1).1 (TX1 1).2.1 (TX1 1).2.2.1 ∈ wsX1_lost := by decide +kernel
theorem lkX1_lost_25 : Cond.fieldLink RX1 25 (TX1 4).1 (TX1 4).2.1 (TX1 4).2.2.1 ∈ wsX1_lost := by decide +kernel
theorem lkX1_lost_19 : Cond.fieldLink RX1 19 (TX1 2).1 (TX1 2).2.1 (TX1 2).2.2.1 ∈ wsX1_lost := by decide +kernel
set_option maxRecDepth 100000 in
set_option maxHeartbeats 4000000 in
theorem c_X1_lost (l : Launch) (g : gC) (μ : gM) (x y : Int32) (lc : Nat) (hlc : lc ≤ 40) (hl : μ 3 0 = nI lc) (h1 : ∀ k, vp_in (μ 15 k) 60) (h2 : ∀ k, vp_in (μ 16 k) 60) (h4 : ∀ k, k < lc → μ 23 (ix (μ 16 k)) = -1 ∨ vp_in (μ 23 (ix (μ 16 k))) 60)  : Met l yX1_lost wsX1_lost { frames := 1, cells := 0, slots := 0, locals := 24 } (va_Pc [.ref (g.2.1 3), .int x, .int y, .ref (g.2.1 5)] (gB g μ)) (va_Qi (fun (r : Int32) (μ' : gM) => r = zB (lostN (μ 23) (μ 15) (μ 16) (μ 17) (μ 18) x y lc) ∧ μ' = μ) (gPB g) (gA g)) 0 0 (gA g) := by
  refine g_ofI (cc := cX1_lost) (nL := 5) (ret := (some .boolean)) (ty := .boolean) (by decide +kernel) rfl rfl (by rintro _ _ ⟨rfl, rfl⟩; exact zB_n) (Nat.le_of_ble_eq_true rfl) ?_
  intro p e s m args below meth c Q Z hR
  refine j_iconst Z (v := 0) dX1_lost_0 (by decide) ?_
  refine j_istore Z dX1_lost_1 (by decide) [(4, .int 0), (0, .ref (g.2.1 3)), (1, .int x), (2, .int y), (3, .ref (g.2.1 5))] rfl ?_
  have lp3 : ∀ (n0 i : Nat) , lostN (μ 23) (μ 15) (μ 16) (μ 17) (μ 18) x y i = true → lc + 2 ≤ i + n0 → i ≤ lc → J p l e { frames := 1, cells := 0, slots := 0, locals := 24 } s m args below meth c Q g 5 μ (0) (0) 3 [(0, .ref (g.2.1 3)), (1, .int x), (2, .int y), (3, .ref (g.2.1 5)), (4, .int (nI i))] [] := by
    intro n0
    induction n0 with
    | zero => intro i hok hn hg; exact absurd hn (by omega)
    | succ n0 ih =>
      intro i hok hn hg
      refine j_iload Z dX1_lost_3 4 rfl ?_
      refine j_aload_n Z dX1_lost_5 0 rfl ?_
      refine j_get Z 3 (by decide) rfl rfl 0 (by decide) rfl inX1_lost_X1 lkX1_lost_9 dX1_lost_6 ?_
      refine j_eq hl ?_
      refine j_icmp_ge Z 77 dX1_lost_9 (by decide) (fun h9 => ?_) (fun h9 => ?_)
      · skip
        have hic : i = lc := by
          have hq := (nI_leI (a := lc) (b := i) (by omega) (by omega)).mp h9
          omega
        refine j_iconst Z (v := 1) dX1_lost_77 (by decide) ?_
        exact hR _ _ _ _ _ _ (⟨zB_t (by rw [← hic]; exact hok), rfl⟩) (by decide) (by decide) dX1_lost_78
      · skip
        have hlt : i < lc := by
          rcases Nat.lt_or_ge i lc with q9 | q9
          · exact q9
          · exact absurd (nI_le q9 (by omega)) h9
        refine j_aload_n Z dX1_lost_12 0 rfl ?_
        refine j_get Z 3 (by decide) rfl rfl 3 (by decide) rfl inX1_lost_X1 lkX1_lost_22 dX1_lost_13 ?_
        refine j_iload Z dX1_lost_16 4 rfl ?_
        refine j_ild Z 17 (by decide) (fun _ => rfl) i rfl (by omega) (by decide) dX1_lost_18 ?_
        refine j_iload_n Z dX1_lost_19 2 rfl ?_
        refine j_icmp_ne Z 71 dX1_lost_20 (by decide) (fun h20 => ?_) (fun h20 => ?_)
        · skip
          refine j_iinc Z dX1_lost_71 4 rfl (nI_1 i) (by decide) [(4, .int (nI (i + 1))), (0, .ref (g.2.1 3)), (1, .int x), (2, .int y), (3, .ref (g.2.1 5))] rfl ?_
          refine j_goto Z 3 dX1_lost_74 (by decide) ?_
          refine j_sub [1, 2, 3, 4, 0] rfl ?_
          exact ih (i + 1)   (by show (lostN _ _ _ _ _ _ _ _ && !blockB _ _ _ _ _ _ _ _) = true; rw [hok]; simp_all [blockB, zB_0]) (by omega) (by omega)
        · skip
          refine j_aload_n Z dX1_lost_23 3 rfl ?_
          refine j_get Z 5 (by decide) rfl rfl 2 (by decide) rfl inX1_lost_X3 lkX1_lost_33 dX1_lost_24 ?_
          refine j_aload_n Z dX1_lost_27 0 rfl ?_
          refine j_get Z 3 (by decide) rfl rfl 1 (by decide) rfl inX1_lost_X1 lkX1_lost_15 dX1_lost_28 ?_
          refine j_iload Z dX1_lost_31 4 rfl ?_
          refine j_ild Z 15 (by decide) (fun _ => rfl) i rfl (by omega) (by decide) dX1_lost_33 ?_
          refine j_ild Z 23 (by decide) (fun _ => rfl) (ix (μ 15 i)) (vp_ix (h1 i) (by decide)).1 (vp_ix (h1 i) (by decide)).2 (by decide) dX1_lost_34 ?_
          refine j_iload_n Z dX1_lost_35 1 rfl ?_
          refine j_icmp_ne Z 71 dX1_lost_36 (by decide) (fun h36 => ?_) (fun h36 => ?_)
          · skip
            refine j_iinc Z dX1_lost_71 4 rfl (nI_1 i) (by decide) [(4, .int (nI (i + 1))), (0, .ref (g.2.1 3)), (1, .int x), (2, .int y), (3, .ref (g.2.1 5))] rfl ?_
            refine j_goto Z 3 dX1_lost_74 (by decide) ?_
            refine j_sub [1, 2, 3, 4, 0] rfl ?_
            exact ih (i + 1)   (by show (lostN _ _ _ _ _ _ _ _ && !blockB _ _ _ _ _ _ _ _) = true; rw [hok]; simp_all [blockB, zB_0]) (by omega) (by omega)
          · skip
            refine j_aload_n Z dX1_lost_39 0 rfl ?_
            refine j_iload Z dX1_lost_40 4 rfl ?_
            refine j_aload_n Z dX1_lost_42 3 rfl ?_
            refine j_callVi Z (As := [.int (nI i), .ref (g.2.1 5)]) (rest := []) (nA := 2) 3 (by decide) rfl rfl (c_X1_holds l g μ i (by omega) h1 h2) gX1_lost_X1_holds rfl rfl rfl (by decide +kernel) (by decide) rfl dX1_lost_43 rfl (Nat.le_of_ble_eq_true rfl) (by decide) (fun r9 μ9 hp => ?_)
            have hq : r9 = zB (holdB (μ 23) (μ 15) (μ 16) i) ∧ μ9 = μ := hp
            refine j_mem hq.2 ?_
            refine j_eq hq.1 ?_
            clear hq hp
            refine j_if_eq Z 71 dX1_lost_46 (by decide) (fun h46 => ?_) (fun h46 => ?_)
            · skip
              refine j_iinc Z dX1_lost_71 4 rfl (nI_1 i) (by decide) [(4, .int (nI (i + 1))), (0, .ref (g.2.1 3)), (1, .int x), (2, .int y), (3, .ref (g.2.1 5))] rfl ?_
              refine j_goto Z 3 dX1_lost_74 (by decide) ?_
              refine j_sub [1, 2, 3, 4, 0] rfl ?_
              exact ih (i + 1)   (by show (lostN _ _ _ _ _ _ _ _ && !blockB _ _ _ _ _ _ _ _) = true; rw [hok]; simp_all [blockB, zB_0]) (by omega) (by omega)
            · skip
              refine j_aload_n Z dX1_lost_49 0 rfl ?_
              refine j_get Z 3 (by decide) rfl rfl 4 (by decide) rfl inX1_lost_X1 lkX1_lost_25 dX1_lost_50 ?_
              refine j_aload_n Z dX1_lost_53 3 rfl ?_
              refine j_get Z 5 (by decide) rfl rfl 2 (by decide) rfl inX1_lost_X3 lkX1_lost_33 dX1_lost_54 ?_
              refine j_aload_n Z dX1_lost_57 0 rfl ?_
              refine j_get Z 3 (by decide) rfl rfl 2 (by decide) rfl inX1_lost_X1 lkX1_lost_19 dX1_lost_58 ?_
              refine j_iload Z dX1_lost_61 4 rfl ?_
              refine j_ild Z 16 (by decide) (fun _ => rfl) i rfl (by omega) (by decide) dX1_lost_63 ?_
              refine j_ild Z 23 (by decide) (fun _ => rfl) (ix (μ 16 i)) (vp_ix (h2 i) (by decide)).1 (vp_ix (h2 i) (by decide)).2 (by decide) dX1_lost_64 ?_
              refine j_zld Z 18 (by decide) (fun _ => rfl) (ix (μ 23 (ix (μ 16 i)))) (vp_ix ((h4 i hlt).resolve_left (by simp_all [zB_0, holdB])) (by decide)).1 (vp_ix ((h4 i hlt).resolve_left (by simp_all [zB_0, holdB])) (by decide)).2 (by decide) dX1_lost_65 ?_
              refine j_if_ne Z 71 dX1_lost_66 (by decide) (fun h66 => ?_) (fun h66 => ?_)
              · skip
                refine j_iinc Z dX1_lost_71 4 rfl (nI_1 i) (by decide) [(4, .int (nI (i + 1))), (0, .ref (g.2.1 3)), (1, .int x), (2, .int y), (3, .ref (g.2.1 5))] rfl ?_
                refine j_goto Z 3 dX1_lost_74 (by decide) ?_
                refine j_sub [1, 2, 3, 4, 0] rfl ?_
                exact ih (i + 1)   (by show (lostN _ _ _ _ _ _ _ _ && !blockB _ _ _ _ _ _ _ _) = true; rw [hok]; simp_all [blockB, zB_0]) (by omega) (by omega)
              · skip
                refine j_iconst Z (v := 0) dX1_lost_69 (by decide) ?_
                exact hR _ _ _ _ _ _ (⟨zB_f (lostN_dn (i := i + 1) (by show (lostN _ _ _ _ _ _ _ _ && !blockB _ _ _ _ _ _ _ _) = false; rw [hok]; simp_all [blockB, zB_0]) (by omega)), rfl⟩) (by decide) (by decide) dX1_lost_70
  refine j_sub [1, 2, 3, 4, 0] rfl ?_
  exact lp3 (lc + 2) 0   (rfl) (by omega) (by omega)
theorem lkX1_failMore_9 : Cond.fieldLink RX1 9 (TX1 0).1 (TX1 0).2.1 (TX1 0).2.2.1 ∈ wsX1_failMore := by decide +kernel
theorem inX1_failMore_X1 : ∀ w ∈ u_ws RX1 TX1 5, w ∈ wsX1_failMore := by decide +kernel
theorem lkX1_failMore_33 : Cond.fieldLink RX1 33 (TX3 2).1 (TX3 2).2.1 (TX3 2).2.2.1 ∈ wsX1_failMore := by decide +kernel
theorem inX1_failMore_X3 : ∀ w ∈ u_ws RX3 TX3 3, w ∈ wsX1_failMore := by decide +kernel
theorem lkX1_failMore_15 : Cond.fieldLink RX1 15 (TX1 1).1 (TX1 1).2.1 (TX1 1).2.2.1 ∈ wsX1_failMore := by decide +kernel
theorem lkX1_failMore_25 : Cond.fieldLink RX1 25 (TX1 4).1 (TX1 4).2.1 (TX1 4).2.2.1 ∈ wsX1_failMore := by decide +kernel
theorem lkX1_failMore_22 : Cond.fieldLink RX1 22 (TX1 3).1 (TX1 3).2.1 (TX1 3).2.2.1 ∈ wsX1_failMore := by decide +kernel
set_option maxRecDepth 100000 in
set_option maxHeartbeats 4000000 in
theorem c_X1_failMore (l : Launch) (g : gC) (μ : gM) (lc : Nat) (hlc : lc ≤ 40) (hl : μ 3 0 = nI lc) (h1 : ∀ k, vp_in (μ 15 k) 60) (h2 : ∀ k, vp_in (μ 16 k) 60) (h3 : ∀ k, k < lc → μ 23 (ix (μ 15 k)) = -1 ∨ vp_in (μ 23 (ix (μ 15 k))) 60) (h4 : ∀ k, k < lc → μ 23 (ix (μ 16 k)) = -1 ∨ vp_in (μ 23 (ix (μ 16 k))) 60)  : Met l yX1_failMore wsX1_failMore { frames := 2, cells := 0, slots := 0, locals := 48 } (va_Pc [.ref (g.2.1 3), .ref (g.2.1 5)] (gB g μ)) (va_Qi (fun (r : Int32) (μ' : gM) => r = zB (fmM (μ 23) (μ 15) (μ 16) (μ 17) lc (μ 18) lc) ∧ μ' = gR μ 18 (fmN (μ 23) (μ 15) (μ 16) (μ 17) lc (μ 18) lc)) (gPB g) (gA g)) 0 0 (gA g) := by
  refine g_ofI (cc := cX1_failMore) (nL := 5) (ret := (some .boolean)) (ty := .boolean) (by decide +kernel) rfl rfl (by rintro _ _ ⟨rfl, rfl⟩; exact zB_n) (Nat.le_of_ble_eq_true rfl) ?_
  intro p e s m args below meth c Q Z hR
  refine j_iconst Z (v := 0) dX1_failMore_0 (by decide) ?_
  refine j_istore_n Z dX1_failMore_1 (by decide) [(2, .int 0), (0, .ref (g.2.1 3)), (1, .ref (g.2.1 5))] rfl ?_
  refine j_iconst Z (v := 0) dX1_failMore_2 (by decide) ?_
  refine j_istore_n Z dX1_failMore_3 (by decide) [(3, .int 0), (2, .int 0), (0, .ref (g.2.1 3)), (1, .ref (g.2.1 5))] rfl ?_
  have lp4 : ∀ (n0 i : Nat) (f : Nat → Int32) (b : Bool), f = fmN (μ 23) (μ 15) (μ 16) (μ 17) lc (μ 18) i → b = fmM (μ 23) (μ 15) (μ 16) (μ 17) lc (μ 18) i → lc + 2 ≤ i + n0 → i ≤ lc → J p l e { frames := 2, cells := 0, slots := 0, locals := 48 } s m args below meth c Q g 5 (gR μ 18 f) (0) (0) 4 [(0, .ref (g.2.1 3)), (1, .ref (g.2.1 5)), (2, .int (zB b)), (3, .int (nI i))] [] := by
    intro n0
    induction n0 with
    | zero => intro i f b ef eb hn hg; exact absurd hn (by omega)
    | succ n0 ih =>
      intro i f b ef eb hn hg
      refine j_iload_n Z dX1_failMore_4 3 rfl ?_
      refine j_aload_n Z dX1_failMore_5 0 rfl ?_
      refine j_get Z 3 (by decide) rfl rfl 0 (by decide) rfl inX1_failMore_X1 lkX1_failMore_9 dX1_failMore_6 ?_
      refine j_eq (y := μ 3 0) (by rw [gR_n (k := 18) (j := 3) (by omega)]) ?_
      refine j_eq hl ?_
      refine j_icmp_ge Z 76 dX1_failMore_9 (by decide) (fun h9 => ?_) (fun h9 => ?_)
      · skip
        have hic : i = lc := by
          have hq := (nI_leI (a := lc) (b := i) (by omega) (by omega)).mp h9
          omega
        rw [hic] at ef eb
        refine j_iload_n Z dX1_failMore_76 2 rfl ?_
        exact hR _ _ _ _ _ _ (⟨by rw [eb], by rw [ef]⟩) (by decide) (by decide) dX1_failMore_77
      · skip
        have hlt : i < lc := by
          rcases Nat.lt_or_ge i lc with q9 | q9
          · exact q9
          · exact absurd (nI_le q9 (by omega)) h9
        refine j_aload_n Z dX1_failMore_12 1 rfl ?_
        refine j_get Z 5 (by decide) rfl rfl 2 (by decide) rfl inX1_failMore_X3 lkX1_failMore_33 dX1_failMore_13 ?_
        refine j_aload_n Z dX1_failMore_16 0 rfl ?_
        refine j_get Z 3 (by decide) rfl rfl 1 (by decide) rfl inX1_failMore_X1 lkX1_failMore_15 dX1_failMore_17 ?_
        refine j_iload_n Z dX1_failMore_20 3 rfl ?_
        refine j_ild Z 15 (by decide) (fun _ => rfl) i rfl (by omega) (by decide) dX1_failMore_21 ?_
        refine j_eq (y := μ 15 i) (by rw [gR_n (k := 18) (j := 15) (by omega)]) ?_
        refine j_ild Z 23 (by decide) (fun _ => rfl) (ix (μ 15 i)) (vp_ix (h1 i) (by decide)).1 (vp_ix (h1 i) (by decide)).2 (by decide) dX1_failMore_22 ?_
        refine j_eq (y := μ 23 (ix (μ 15 i))) (by rw [gR_n (k := 18) (j := 23) (by omega)]) ?_
        refine j_istore Z dX1_failMore_23 (by decide) [(4, .int (μ 23 (ix (μ 15 i)))), (0, .ref (g.2.1 3)), (1, .ref (g.2.1 5)), (2, .int (zB b)), (3, .int (nI i))] rfl ?_
        refine j_aload_n Z dX1_failMore_25 1 rfl ?_
        refine j_iload_n Z dX1_failMore_26 4 rfl ?_
        refine j_aload_n Z dX1_failMore_27 2 rfl ?_
        refine j_callVi Z (As := [.int (nI i), .ref (g.2.1 5)]) (rest := []) (nA := 2) 3 (by decide) rfl rfl (c_X1_holds l g (gR μ 18 f) i (by omega) h1 h2) gX1_failMore_X1_holds rfl rfl rfl (by decide +kernel) (by decide) rfl dX1_failMore_28 rfl (Nat.le_of_ble_eq_true rfl) (by decide) (fun r9 μ9 hp => ?_)
        have hq : r9 = zB (holdB (μ 23) (μ 15) (μ 16) i) ∧ μ9 = (gR μ 18 f) := hp
        refine j_mem hq.2 ?_
        refine j_eq hq.1 ?_
        clear hq hp
        refine j_if_eq Z 70 dX1_failMore_31 (by decide) (fun h31 => ?_) (fun h31 => ?_)
        · skip
          refine j_iinc Z dX1_failMore_70 4 rfl (nI_1 i) (by decide) [(3, .int (nI (i + 1))), (4, .int (μ 23 (ix (μ 15 i)))), (0, .ref (g.2.1 3)), (1, .ref (g.2.1 5)), (2, .int (zB b))] rfl ?_
          refine j_goto Z 4 dX1_failMore_73 (by decide) ?_
          refine j_sub [2, 3, 4, 0] rfl ?_
          exact ih (i + 1) (f) (b) (by show _ = if fmC _ _ _ _ _ (fmN (μ 23) (μ 15) (μ 16) (μ 17) lc (μ 18) i) _ = true then _ else _; rw [← ef]; refine (if_neg ?_).symm; simp_all [fmC, zB_0]) (by show _ = (fmM (μ 23) (μ 15) (μ 16) (μ 17) lc (μ 18) i || fmC _ _ _ _ _ (fmN (μ 23) (μ 15) (μ 16) (μ 17) lc (μ 18) i) _); rw [← ef, ← eb]; simp_all [fmC, zB_0])  (by omega) (by omega)
        · skip
          refine j_aload_n Z dX1_failMore_34 1 rfl ?_
          refine j_get Z 3 (by decide) rfl rfl 4 (by decide) rfl inX1_failMore_X1 lkX1_failMore_25 dX1_failMore_35 ?_
          refine j_iload Z dX1_failMore_38 0 rfl ?_
          refine j_zld Z 18 (by decide) (fun _ => rfl) (ix (μ 23 (ix (μ 15 i)))) (vp_ix ((h3 i hlt).resolve_left (by simp_all [zB_0, holdB])) (by decide)).1 (vp_ix ((h3 i hlt).resolve_left (by simp_all [zB_0, holdB])) (by decide)).2 (by decide) dX1_failMore_40 ?_
          refine j_eq (y := f (ix (μ 23 (ix (μ 15 i))))) (by rw [gR_s]) ?_
          refine j_if_ne Z 70 dX1_failMore_41 (by decide) (fun h41 => ?_) (fun h41 => ?_)
          · skip
            refine j_iinc Z dX1_failMore_70 4 rfl (nI_1 i) (by decide) [(3, .int (nI (i + 1))), (4, .int (μ 23 (ix (μ 15 i)))), (0, .ref (g.2.1 3)), (1, .ref (g.2.1 5)), (2, .int (zB b))] rfl ?_
            refine j_goto Z 4 dX1_failMore_73 (by decide) ?_
            refine j_sub [2, 3, 4, 0] rfl ?_
            exact ih (i + 1) (f) (b) (by show _ = if fmC _ _ _ _ _ (fmN (μ 23) (μ 15) (μ 16) (μ 17) lc (μ 18) i) _ = true then _ else _; rw [← ef]; refine (if_neg ?_).symm; simp_all [fmC, zB_0]) (by show _ = (fmM (μ 23) (μ 15) (μ 16) (μ 17) lc (μ 18) i || fmC _ _ _ _ _ (fmN (μ 23) (μ 15) (μ 16) (μ 17) lc (μ 18) i) _); rw [← ef, ← eb]; simp_all [fmC, zB_0])  (by omega) (by omega)
          · skip
            refine j_aload_n Z dX1_failMore_44 1 rfl ?_
            refine j_iload Z dX1_failMore_45 0 rfl ?_
            refine j_aload_n Z dX1_failMore_47 1 rfl ?_
            refine j_get Z 3 (by decide) rfl rfl 3 (by decide) rfl inX1_failMore_X1 lkX1_failMore_22 dX1_failMore_48 ?_
            refine j_iload_n Z dX1_failMore_51 4 rfl ?_
            refine j_ild Z 17 (by decide) (fun _ => rfl) i rfl (by omega) (by decide) dX1_failMore_52 ?_
            refine j_eq (y := μ 17 i) (by rw [gR_n (k := 18) (j := 17) (by omega)]) ?_
            refine j_aload_n Z dX1_failMore_53 2 rfl ?_
            refine j_callVi Z (As := [.int (μ 23 (ix (μ 15 i))), .int (μ 17 i), .ref (g.2.1 5)]) (rest := []) (nA := 3) 3 (by decide) rfl rfl (c_X1_lost l g (gR μ 18 f) (μ 23 (ix (μ 15 i))) (μ 17 i) lc hlc hl h1 h2 h4) gX1_failMore_X1_lost rfl rfl rfl (by decide +kernel) (by decide) rfl dX1_failMore_54 rfl (Nat.le_of_ble_eq_true rfl) (by decide) (fun r9 μ9 hp => ?_)
            have hq : r9 = zB (lostN (μ 23) (μ 15) (μ 16) (μ 17) f (μ 23 (ix (μ 15 i))) (μ 17 i) lc) ∧ μ9 = (gR μ 18 f) := hp
            refine j_mem hq.2 ?_
            refine j_eq hq.1 ?_
            clear hq hp
            refine j_if_eq Z 70 dX1_failMore_57 (by decide) (fun h57 => ?_) (fun h57 => ?_)
            · skip
              refine j_iinc Z dX1_failMore_70 4 rfl (nI_1 i) (by decide) [(3, .int (nI (i + 1))), (4, .int (μ 23 (ix (μ 15 i)))), (0, .ref (g.2.1 3)), (1, .ref (g.2.1 5)), (2, .int (zB b))] rfl ?_
              refine j_goto Z 4 dX1_failMore_73 (by decide) ?_
              refine j_sub [2, 3, 4, 0] rfl ?_
              exact ih (i + 1) (f) (b) (by show _ = if fmC _ _ _ _ _ (fmN (μ 23) (μ 15) (μ 16) (μ 17) lc (μ 18) i) _ = true then _ else _; rw [← ef]; refine (if_neg ?_).symm; simp_all [fmC, zB_0]) (by show _ = (fmM (μ 23) (μ 15) (μ 16) (μ 17) lc (μ 18) i || fmC _ _ _ _ _ (fmN (μ 23) (μ 15) (μ 16) (μ 17) lc (μ 18) i) _); rw [← ef, ← eb]; simp_all [fmC, zB_0])  (by omega) (by omega)
            · skip
              refine j_aload_n Z dX1_failMore_60 1 rfl ?_
              refine j_get Z 3 (by decide) rfl rfl 4 (by decide) rfl inX1_failMore_X1 lkX1_failMore_25 dX1_failMore_61 ?_
              refine j_iload Z dX1_failMore_64 0 rfl ?_
              refine j_iconst Z (v := 1) dX1_failMore_66 (by decide) ?_
              refine j_zst Z 18 (by decide) (fun _ => rfl) (ix (μ 23 (ix (μ 15 i)))) (vp_ix ((h3 i hlt).resolve_left (by simp_all [zB_0, holdB])) (by decide)).1 (vp_ix ((h3 i hlt).resolve_left (by simp_all [zB_0, holdB])) (by decide)).2 (by decide) (by decide) dX1_failMore_67 ?_
              refine j_mem (μ' := (gR μ 18 (upd f (ix (μ 23 (ix (μ 15 i)))) 1))) gU_R ?_
              refine j_iconst Z (v := 1) dX1_failMore_68 (by decide) ?_
              refine j_istore_n Z dX1_failMore_69 (by decide) [(2, .int 1), (4, .int (μ 23 (ix (μ 15 i)))), (0, .ref (g.2.1 3)), (1, .ref (g.2.1 5)), (3, .int (nI i))] rfl ?_
              refine j_iinc Z dX1_failMore_70 4 rfl (nI_1 i) (by decide) [(3, .int (nI (i + 1))), (2, .int 1), (4, .int (μ 23 (ix (μ 15 i)))), (0, .ref (g.2.1 3)), (1, .ref (g.2.1 5))] rfl ?_
              refine j_goto Z 4 dX1_failMore_73 (by decide) ?_
              refine j_sub [3, 4, 1, 0] rfl ?_
              exact ih (i + 1) (upd f (ix (μ 23 (ix (μ 15 i)))) 1) (true) (by show _ = if fmC _ _ _ _ _ (fmN (μ 23) (μ 15) (μ 16) (μ 17) lc (μ 18) i) _ = true then _ else _; rw [← ef]; refine (if_pos ?_).symm; simp_all [fmC, zB_0]) (by show _ = (fmM (μ 23) (μ 15) (μ 16) (μ 17) lc (μ 18) i || fmC _ _ _ _ _ (fmN (μ 23) (μ 15) (μ 16) (μ 17) lc (μ 18) i) _); rw [← ef, ← eb]; simp_all [fmC, zB_0])  (by omega) (by omega)
  refine j_sub [2, 3, 1, 0] rfl ?_
  refine j_mem (gR_id (k := 18) (r := μ 18) rfl) ?_
  exact lp4 (lc + 2) 0 (μ 18) (false) (rfl) (rfl)  (by omega) (by omega)
theorem lkX1_failFrom_25 : Cond.fieldLink RX1 25 (TX1 4).1 (TX1 4).2.1 (TX1 4).2.2.1 ∈ wsX1_failFrom := by decide +kernel
theorem inX1_failFrom_X1 : ∀ w ∈ u_ws RX1 TX1 5, w ∈ wsX1_failFrom := by decide +kernel
set_option maxRecDepth 100000 in
set_option maxHeartbeats 4000000 in
theorem c_X1_failFrom (l : Launch) (g : gC) (μ : gM) (q : Nat) (hq : q < 60) (lc : Nat) (hlc : lc ≤ 40) (hl : μ 3 0 = nI lc) (h1 : ∀ k, vp_in (μ 15 k) 60) (h2 : ∀ k, vp_in (μ 16 k) 60) (h3 : ∀ k, k < lc → μ 23 (ix (μ 15 k)) = -1 ∨ vp_in (μ 23 (ix (μ 15 k))) 60) (h4 : ∀ k, k < lc → μ 23 (ix (μ 16 k)) = -1 ∨ vp_in (μ 23 (ix (μ 16 k))) 60)  : Met l yX1_failFrom wsX1_failFrom { frames := 3, cells := 0, slots := 0, locals := 72 } (va_Pc [.ref (g.2.1 3), .int (nI q), .ref (g.2.1 5)] (gB g μ)) (va_Qv (fun μ' : gM => μ' = gR μ 18 (fFail μ lc q)) (gPB g) (gA g)) 0 0 (gA g) := by
  refine g_ofV (cc := cX1_failFrom) (nL := 5) (ret := none) (by decide +kernel) rfl rfl  (Nat.le_of_ble_eq_true rfl) ?_
  intro p e s m args below meth c Q Z hR
  refine j_iconst Z (v := 0) dX1_failFrom_0 (by decide) ?_
  refine j_istore_n Z dX1_failFrom_1 (by decide) [(3, .int 0), (0, .ref (g.2.1 3)), (1, .int (nI q)), (2, .ref (g.2.1 5))] rfl ?_
  have lp2 : ∀ (n0 i : Nat) (f : Nat → Int32), f = zRow i (μ 18) → 60 + 2 ≤ i + n0 → i ≤ 60 → J p l e { frames := 3, cells := 0, slots := 0, locals := 72 } s m args below meth c Q g 5 (gR μ 18 f) (0) (0) 2 [(0, .ref (g.2.1 3)), (1, .int (nI q)), (2, .ref (g.2.1 5)), (3, .int (nI i))] [] := by
    intro n0
    induction n0 with
    | zero => intro i f ef hn hg; exact absurd hn (by omega)
    | succ n0 ih =>
      intro i f ef hn hg
      refine j_iload_n Z dX1_failFrom_2 3 rfl ?_
      refine j_bipush Z (v := 60) dX1_failFrom_3 (by decide) ?_
      refine j_icmp_ge Z 21 dX1_failFrom_5 (by decide) (fun h5 => ?_) (fun h5 => ?_)
      · skip
        have hic : i = 60 := by
          have hq := (nI_leI (a := 60) (b := i) (by omega) (by omega)).mp h5
          omega
        rw [hic] at ef
        refine j_aload_n Z dX1_failFrom_21 0 rfl ?_
        refine j_get Z 3 (by decide) rfl rfl 4 (by decide) rfl inX1_failFrom_X1 lkX1_failFrom_25 dX1_failFrom_22 ?_
        refine j_iload_n Z dX1_failFrom_25 1 rfl ?_
        refine j_iconst Z (v := 1) dX1_failFrom_26 (by decide) ?_
        refine j_zst Z 18 (by decide) (fun _ => rfl) q rfl (by omega) (by decide) (by decide) dX1_failFrom_27 ?_
        refine j_mem (μ' := (gR μ 18 (upd f q 1))) gU_R ?_
        refine j_iconst Z (v := 1) dX1_failFrom_28 (by decide) ?_
        refine j_istore_n Z dX1_failFrom_29 (by decide) [(3, .int 1), (0, .ref (g.2.1 3)), (1, .int (nI q)), (2, .ref (g.2.1 5))] rfl ?_
        refine j_iconst Z (v := 0) dX1_failFrom_30 (by decide) ?_
        refine j_istore Z dX1_failFrom_31 (by decide) [(4, .int 0), (3, .int 1), (0, .ref (g.2.1 3)), (1, .int (nI q)), (2, .ref (g.2.1 5))] rfl ?_
        have lq33 : ∀ (n0 i : Nat) (f : Nat → Int32) (b : Bool), fRun (μ 23) (μ 15) (μ 16) (μ 17) lc (60 - i) f b = fRun (μ 23) (μ 15) (μ 16) (μ 17) lc 60 (upd (zRow 60 (μ 18)) q 1) true → 60 + 2 ≤ i + n0 → i ≤ 60 → J p l e { frames := 3, cells := 0, slots := 0, locals := 72 } s m args below meth c Q g 5 (gR μ 18 f) (0) (0) 33 [(0, .ref (g.2.1 3)), (1, .int (nI q)), (2, .ref (g.2.1 5)), (3, .int (zB b)), (4, .int (nI i))] [] := by
          intro n0
          induction n0 with
          | zero => intro i f b hF hn hg; exact absurd hn (by omega)
          | succ n0 ih =>
            intro i f b hF hn hg
            refine j_iload_n Z dX1_failFrom_33 3 rfl ?_
            refine j_if_eq Z 56 dX1_failFrom_34 (by decide) (fun h34 => ?_) (fun h34 => ?_)
            · skip
              have hmo := fRun_f (th := μ 23) (nd := μ 15) (nn := μ 16) (gp := μ 17) (lc := lc) (n := 60 - i) (f := f) (zB_0.mp h34)
              exact hR _ _ _ _ _ (by show _ = gR μ 18 (fFail μ lc q); rw [show fFail μ lc q = _ from hF.symm, hmo]) (by decide) (by decide) dX1_failFrom_56
            · skip
              refine j_iload Z dX1_failFrom_37 4 rfl ?_
              refine j_bipush Z (v := 60) dX1_failFrom_39 (by decide) ?_
              refine j_icmp_ge Z 56 dX1_failFrom_41 (by decide) (fun h41 => ?_) (fun h41 => ?_)
              · skip
                have hic : i = 60 := by
                  have hq := (nI_leI (a := 60) (b := i) (by omega) (by omega)).mp h41
                  omega
                exact hR _ _ _ _ _ (by show _ = gR μ 18 (fFail μ lc q); rw [show fFail μ lc q = _ from hF.symm, fRun_0 (by omega)]) (by decide) (by decide) dX1_failFrom_56
              · skip
                have hlt : i < 60 := by
                  rcases Nat.lt_or_ge i 60 with q9 | q9
                  · exact q9
                  · exact absurd (nI_le q9 (by omega)) h41
                refine j_aload_n Z dX1_failFrom_44 0 rfl ?_
                refine j_aload_n Z dX1_failFrom_45 2 rfl ?_
                refine j_callVi Z (As := [.ref (g.2.1 5)]) (rest := []) (nA := 1) 3 (by decide) rfl rfl (c_X1_failMore l g (gR μ 18 f) lc hlc hl h1 h2 h3 h4) gX1_failFrom_X1_failMore rfl rfl rfl (by decide +kernel) (by decide) rfl dX1_failFrom_46 rfl (Nat.le_of_ble_eq_true rfl) (by decide) (fun r9 μ9 hp => ?_)
                have hq : r9 = zB (fmM (μ 23) (μ 15) (μ 16) (μ 17) lc f lc) ∧ μ9 = gR (gR μ 18 f) 18 (fmN (μ 23) (μ 15) (μ 16) (μ 17) lc f lc) := hp
                rw [gR_R] at hq
                refine j_mem hq.2 ?_
                refine j_eq hq.1 ?_
                clear hq hp
                refine j_istore_n Z dX1_failFrom_49 (by decide) [(3, .int (zB (fmM (μ 23) (μ 15) (μ 16) (μ 17) lc f lc))), (0, .ref (g.2.1 3)), (1, .int (nI q)), (2, .ref (g.2.1 5)), (4, .int (nI i))] rfl ?_
                refine j_iinc Z dX1_failFrom_50 4 rfl (nI_1 i) (by decide) [(4, .int (nI (i + 1))), (3, .int (zB (fmM (μ 23) (μ 15) (μ 16) (μ 17) lc f lc))), (0, .ref (g.2.1 3)), (1, .int (nI q)), (2, .ref (g.2.1 5))] rfl ?_
                refine j_goto Z 33 dX1_failFrom_53 (by decide) ?_
                refine j_sub [2, 3, 4, 1, 0] rfl ?_
                exact ih (i + 1) (fmN (μ 23) (μ 15) (μ 16) (μ 17) lc f lc) ((fmM (μ 23) (μ 15) (μ 16) (μ 17) lc f lc))  (by rw [← hF]; exact (fRun_t (by simpa [zB_0] using h34) (by omega)).symm) (by omega) (by omega)
        refine j_sub [2, 3, 4, 1, 0] rfl ?_
        rw [ef]
        exact lq33 (60 + 2) 0 (upd (zRow 60 (μ 18)) q 1) (true)  (rfl) (by omega) (by omega)
      · skip
        have hlt : i < 60 := by
          rcases Nat.lt_or_ge i 60 with q9 | q9
          · exact q9
          · exact absurd (nI_le q9 (by omega)) h5
        refine j_aload_n Z dX1_failFrom_8 0 rfl ?_
        refine j_get Z 3 (by decide) rfl rfl 4 (by decide) rfl inX1_failFrom_X1 lkX1_failFrom_25 dX1_failFrom_9 ?_
        refine j_iload_n Z dX1_failFrom_12 3 rfl ?_
        refine j_iconst Z (v := 0) dX1_failFrom_13 (by decide) ?_
        refine j_zst Z 18 (by decide) (fun _ => rfl) i rfl (by omega) (by decide) (by decide) dX1_failFrom_14 ?_
        refine j_mem (μ' := (gR μ 18 (upd f i 0))) gU_R ?_
        refine j_iinc Z dX1_failFrom_15 3 rfl (nI_1 i) (by decide) [(3, .int (nI (i + 1))), (0, .ref (g.2.1 3)), (1, .int (nI q)), (2, .ref (g.2.1 5))] rfl ?_
        refine j_goto Z 2 dX1_failFrom_18 (by decide) ?_
        refine j_sub [1, 2, 3, 0] rfl ?_
        exact ih (i + 1) (upd f i 0) (by rw [ef]; exact zRow_s)  (by omega) (by omega)
  refine j_sub [1, 2, 3, 0] rfl ?_
  refine j_mem (gR_id (k := 18) (r := μ 18) rfl) ?_
  exact lp2 (60 + 2) 0 (μ 18) (zRow_0)  (by omega) (by omega)
theorem lkX1_failures_25 : Cond.fieldLink RX1 25 (TX1 4).1 (TX1 4).2.1 (TX1 4).2.2.1 ∈ wsX1_failures := by decide +kernel
theorem inX1_failures_X1 : ∀ w ∈ u_ws RX1 TX1 5, w ∈ wsX1_failures := by decide +kernel
set_option maxRecDepth 100000 in
set_option maxHeartbeats 4000000 in
theorem c_X1_failures (l : Launch) (g : gC) (μ : gM)  : Met l yX1_failures wsX1_failures { frames := 0, cells := 0, slots := 0, locals := 0 } (va_Pc [.ref (g.2.1 3)] (gB g μ)) (va_Qi (fun (r : Int32) (μ' : gM) => r = nI (cB (fun k => !decide (μ 18 k = 0)) 60) ∧ μ' = μ) (gPB g) (gA g)) 0 0 (gA g) := by
  refine g_ofI (cc := cX1_failures) (nL := 3) (ret := (some .int)) (ty := .int) (by decide +kernel) rfl rfl (fun _ _ _ => rfl) (Nat.le_of_ble_eq_true rfl) ?_
  intro p e s m args below meth c Q Z hR
  refine j_iconst Z (v := 0) dX1_failures_0 (by decide) ?_
  refine j_istore_n Z dX1_failures_1 (by decide) [(1, .int 0), (0, .ref (g.2.1 3))] rfl ?_
  refine j_iconst Z (v := 0) dX1_failures_2 (by decide) ?_
  refine j_istore_n Z dX1_failures_3 (by decide) [(2, .int 0), (1, .int 0), (0, .ref (g.2.1 3))] rfl ?_
  have lp4 : ∀ (n0 i : Nat) (b : Nat), b = cB (fun k => !decide (μ 18 k = 0)) i → 60 + 2 ≤ i + n0 → i ≤ 60 → J p l e { frames := 0, cells := 0, slots := 0, locals := 0 } s m args below meth c Q g 3 μ (0) (0) 4 [(0, .ref (g.2.1 3)), (1, .int (nI b)), (2, .int (nI i))] [] := by
    intro n0
    induction n0 with
    | zero => intro i b eb hn hg; exact absurd hn (by omega)
    | succ n0 ih =>
      intro i b eb hn hg
      refine j_iload_n Z dX1_failures_4 2 rfl ?_
      refine j_bipush Z (v := 60) dX1_failures_5 (by decide) ?_
      refine j_icmp_ge Z 28 dX1_failures_7 (by decide) (fun h7 => ?_) (fun h7 => ?_)
      · skip
        have hic : i = 60 := by
          have hq := (nI_leI (a := 60) (b := i) (by omega) (by omega)).mp h7
          omega
        rw [hic] at eb
        refine j_iload_n Z dX1_failures_28 1 rfl ?_
        exact hR _ _ _ _ _ _ (⟨by rw [eb], rfl⟩) (by decide) (by decide) dX1_failures_29
      · skip
        have hlt : i < 60 := by
          rcases Nat.lt_or_ge i 60 with q9 | q9
          · exact q9
          · exact absurd (nI_le q9 (by omega)) h7
        refine j_aload_n Z dX1_failures_10 0 rfl ?_
        refine j_get Z 3 (by decide) rfl rfl 4 (by decide) rfl inX1_failures_X1 lkX1_failures_25 dX1_failures_11 ?_
        refine j_iload_n Z dX1_failures_14 2 rfl ?_
        refine j_zld Z 18 (by decide) (fun _ => rfl) i rfl (by omega) (by decide) dX1_failures_15 ?_
        refine j_if_eq Z 22 dX1_failures_16 (by decide) (fun h16 => ?_) (fun h16 => ?_)
        · skip
          refine j_iinc Z dX1_failures_22 2 rfl (nI_1 i) (by decide) [(2, .int (nI (i + 1))), (0, .ref (g.2.1 3)), (1, .int (nI b))] rfl ?_
          refine j_goto Z 4 dX1_failures_25 (by decide) ?_
          refine j_sub [1, 2, 0] rfl ?_
          exact ih (i + 1) (b) (by rw [eb]; exact cB_0 (by simp_all))  (by omega) (by omega)
        · skip
          refine j_iinc Z dX1_failures_19 1 rfl (nI_1 b) (by decide) [(1, .int (nI (b + 1))), (0, .ref (g.2.1 3)), (2, .int (nI i))] rfl ?_
          refine j_iinc Z dX1_failures_22 2 rfl (nI_1 i) (by decide) [(2, .int (nI (i + 1))), (1, .int (nI (b + 1))), (0, .ref (g.2.1 3))] rfl ?_
          refine j_goto Z 4 dX1_failures_25 (by decide) ?_
          refine j_sub [2, 1, 0] rfl ?_
          exact ih (i + 1) (b + 1) (by rw [eb]; exact cB_1 (by simp_all))  (by omega) (by omega)
  refine j_sub [2, 1, 0] rfl ?_
  exact lp4 (60 + 2) 0 (0) (rfl)  (by omega) (by omega)
theorem lkX1_add_15 : Cond.fieldLink RX1 15 (TX1 1).1 (TX1 1).2.1 (TX1 1).2.2.1 ∈ wsX1_add := by decide +kernel
theorem inX1_add_X1 : ∀ w ∈ u_ws RX1 TX1 5, w ∈ wsX1_add := by decide +kernel
theorem lkX1_add_9 : Cond.fieldLink RX1 9 (TX1 0).1 (TX1 0).2.1 (TX1 0).2.2.1 ∈ wsX1_add := by decide +kernel
theorem lkX1_add_19 : Cond.fieldLink RX1 19 (TX1 2).1 (TX1 2).2.1 (TX1 2).2.2.1 ∈ wsX1_add := by decide +kernel
theorem lkX1_add_22 : Cond.fieldLink RX1 22 (TX1 3).1 (TX1 3).2.1 (TX1 3).2.2.1 ∈ wsX1_add := by decide +kernel
set_option maxRecDepth 100000 in
set_option maxHeartbeats 4000000 in
theorem c_X1_add (l : Launch) (g : gC) (μ : gM) (lc : Nat) (hlc : lc < 40) (hl : μ 3 0 = nI lc) (x y z : Int32) : Met l yX1_add wsX1_add { frames := 0, cells := 0, slots := 0, locals := 0 } (va_Pc [.ref (g.2.1 3), .int x, .int y, .int z] (gB g μ)) (va_Qv (fun μ' : gM => μ' = gU (gU (gU (gU μ 15 lc x) 16 lc y) 17 lc z) 3 0 (nI (lc + 1))) (gPB g) (gA g)) 0 0 (gA g) := by
  refine g_ofV (cc := cX1_add) (nL := 4) (ret := none) (by decide +kernel) rfl rfl  (Nat.le_of_ble_eq_true rfl) ?_
  intro p e s m args below meth c Q Z hR
  refine j_aload_n Z dX1_add_0 0 rfl ?_
  refine j_get Z 3 (by decide) rfl rfl 1 (by decide) rfl inX1_add_X1 lkX1_add_15 dX1_add_1 ?_
  refine j_aload_n Z dX1_add_4 0 rfl ?_
  refine j_get Z 3 (by decide) rfl rfl 0 (by decide) rfl inX1_add_X1 lkX1_add_9 dX1_add_5 ?_
  refine j_eq hl ?_
  refine j_iload_n Z dX1_add_8 1 rfl ?_
  refine j_ist Z 15 (by decide) (fun _ => rfl) lc rfl (by omega) (by decide)  dX1_add_9 ?_
  refine j_aload_n Z dX1_add_10 0 rfl ?_
  refine j_get Z 3 (by decide) rfl rfl 2 (by decide) rfl inX1_add_X1 lkX1_add_19 dX1_add_11 ?_
  refine j_aload_n Z dX1_add_14 0 rfl ?_
  refine j_get Z 3 (by decide) rfl rfl 0 (by decide) rfl inX1_add_X1 lkX1_add_9 dX1_add_15 ?_
  refine j_eq (y := μ 3 0) (by rw [gU_n (k := 15) (j := 3) (by omega)]) ?_
  refine j_eq hl ?_
  refine j_iload_n Z dX1_add_18 2 rfl ?_
  refine j_ist Z 16 (by decide) (fun _ => rfl) lc rfl (by omega) (by decide)  dX1_add_19 ?_
  refine j_aload_n Z dX1_add_20 0 rfl ?_
  refine j_get Z 3 (by decide) rfl rfl 3 (by decide) rfl inX1_add_X1 lkX1_add_22 dX1_add_21 ?_
  refine j_aload_n Z dX1_add_24 0 rfl ?_
  refine j_get Z 3 (by decide) rfl rfl 0 (by decide) rfl inX1_add_X1 lkX1_add_9 dX1_add_25 ?_
  refine j_eq (y := μ 3 0) (by rw [gU_n (k := 16) (j := 3) (by omega), gU_n (k := 15) (j := 3) (by omega)]) ?_
  refine j_eq hl ?_
  refine j_iload_n Z dX1_add_28 3 rfl ?_
  refine j_ist Z 17 (by decide) (fun _ => rfl) lc rfl (by omega) (by decide)  dX1_add_29 ?_
  refine j_aload_n Z dX1_add_30 0 rfl ?_
  refine j_dup Z dX1_add_31 rfl ?_
  refine j_get Z 3 (by decide) rfl rfl 0 (by decide) rfl inX1_add_X1 lkX1_add_9 dX1_add_32 ?_
  refine j_eq (y := μ 3 0) (by rw [gU_n (k := 17) (j := 3) (by omega), gU_n (k := 16) (j := 3) (by omega), gU_n (k := 15) (j := 3) (by omega)]) ?_
  refine j_eq hl ?_
  refine j_iconst Z (v := 1) dX1_add_35 (by decide) ?_
  refine j_iadd Z dX1_add_36 ?_
  refine j_eq (nI_1 lc) ?_
  refine j_put Z 3 (by decide) (fun _ => rfl) rfl tyX1 tyX1_ok nmX1 0 (by decide) rfl (Nat.le_of_ble_eq_true rfl) rfl (by decide +kernel) inX1_add_X1 lkX1_add_9 dX1_add_37 ?_
  exact hR _ _ _ _ _ (rfl) (by decide) (by decide) dX1_add_40
theorem lkX4_add_9 : Cond.fieldLink RX4 9 (TX4 0).1 (TX4 0).2.1 (TX4 0).2.2.1 ∈ wsX4_add := by decide +kernel
theorem inX4_add_X4 : ∀ w ∈ u_ws RX4 TX4 5, w ∈ wsX4_add := by decide +kernel
theorem lkX4_add_15 : Cond.fieldLink RX4 15 (TX4 1).1 (TX4 1).2.1 (TX4 1).2.2.1 ∈ wsX4_add := by decide +kernel
theorem lkX4_add_19 : Cond.fieldLink RX4 19 (TX4 2).1 (TX4 2).2.1 (TX4 2).2.2.1 ∈ wsX4_add := by decide +kernel
theorem lkX4_add_22 : Cond.fieldLink RX4 22 (TX4 3).1 (TX4 3).2.1 (TX4 3).2.2.1 ∈ wsX4_add := by decide +kernel
theorem lkX4_add_25 : Cond.fieldLink RX4 25 (TX4 4).1 (TX4 4).2.1 (TX4 4).2.2.1 ∈ wsX4_add := by decide +kernel
set_option maxRecDepth 100000 in
set_option maxHeartbeats 4000000 in
theorem c_X4_add (l : Launch) (g : gC) (μ : gM) (wc : Nat) (hwc : wc < 20) (hw : μ 4 0 = nI wc) (x y z w : Int32) : Met l yX4_add wsX4_add { frames := 0, cells := 0, slots := 0, locals := 0 } (va_Pc [.ref (g.2.1 4), .int x, .int y, .int z, .int w] (gB g μ)) (va_Qi (fun (r : Int32) (μ' : gM) => r = nI wc ∧ μ' = gU (gU (gU (gU (gU μ 19 wc x) 20 wc y) 21 wc z) 22 wc w) 4 0 (nI (wc + 1))) (gPB g) (gA g)) 0 0 (gA g) := by
  refine g_ofI (cc := cX4_add) (nL := 6) (ret := (some .int)) (ty := .int) (by decide +kernel) rfl rfl (fun _ _ _ => rfl) (Nat.le_of_ble_eq_true rfl) ?_
  intro p e s m args below meth c Q Z hR
  refine j_aload_n Z dX4_add_0 0 rfl ?_
  refine j_get Z 4 (by decide) rfl rfl 0 (by decide) rfl inX4_add_X4 lkX4_add_9 dX4_add_1 ?_
  refine j_eq hw ?_
  refine j_istore Z dX4_add_4 (by decide) [(5, .int (nI wc)), (0, .ref (g.2.1 4)), (1, .int x), (2, .int y), (3, .int z), (4, .int w)] rfl ?_
  refine j_aload_n Z dX4_add_6 1 rfl ?_
  refine j_get Z 4 (by decide) rfl rfl 1 (by decide) rfl inX4_add_X4 lkX4_add_15 dX4_add_7 ?_
  refine j_iload Z dX4_add_10 0 rfl ?_
  refine j_iload_n Z dX4_add_12 2 rfl ?_
  refine j_ist Z 19 (by decide) (fun _ => rfl) wc rfl (by omega) (by decide)  dX4_add_13 ?_
  refine j_aload_n Z dX4_add_14 1 rfl ?_
  refine j_get Z 4 (by decide) rfl rfl 2 (by decide) rfl inX4_add_X4 lkX4_add_19 dX4_add_15 ?_
  refine j_iload Z dX4_add_18 0 rfl ?_
  refine j_iload_n Z dX4_add_20 3 rfl ?_
  refine j_ist Z 20 (by decide) (fun _ => rfl) wc rfl (by omega) (by decide)  dX4_add_21 ?_
  refine j_aload_n Z dX4_add_22 1 rfl ?_
  refine j_get Z 4 (by decide) rfl rfl 3 (by decide) rfl inX4_add_X4 lkX4_add_22 dX4_add_23 ?_
  refine j_iload Z dX4_add_26 0 rfl ?_
  refine j_iload_n Z dX4_add_28 4 rfl ?_
  refine j_ist Z 21 (by decide) (fun _ => rfl) wc rfl (by omega) (by decide)  dX4_add_29 ?_
  refine j_aload_n Z dX4_add_30 1 rfl ?_
  refine j_get Z 4 (by decide) rfl rfl 4 (by decide) rfl inX4_add_X4 lkX4_add_25 dX4_add_31 ?_
  refine j_iload Z dX4_add_34 0 rfl ?_
  refine j_iload Z dX4_add_36 5 rfl ?_
  refine j_ist Z 22 (by decide) (fun _ => rfl) wc rfl (by omega) (by decide)  dX4_add_38 ?_
  refine j_aload_n Z dX4_add_39 1 rfl ?_
  refine j_dup Z dX4_add_40 rfl ?_
  refine j_get Z 4 (by decide) rfl rfl 0 (by decide) rfl inX4_add_X4 lkX4_add_9 dX4_add_41 ?_
  refine j_eq (y := μ 4 0) (by rw [gU_n (k := 22) (j := 4) (by omega), gU_n (k := 21) (j := 4) (by omega), gU_n (k := 20) (j := 4) (by omega), gU_n (k := 19) (j := 4) (by omega)]) ?_
  refine j_eq hw ?_
  refine j_iconst Z (v := 1) dX4_add_44 (by decide) ?_
  refine j_iadd Z dX4_add_45 ?_
  refine j_eq (nI_1 wc) ?_
  refine j_put Z 4 (by decide) (fun _ => rfl) rfl tyX4 tyX4_ok nmX4 0 (by decide) rfl (Nat.le_of_ble_eq_true rfl) rfl (by decide +kernel) inX4_add_X4 lkX4_add_9 dX4_add_46 ?_
  refine j_iload Z dX4_add_49 0 rfl ?_
  exact hR _ _ _ _ _ _ (⟨rfl, rfl⟩) (by decide) (by decide) dX4_add_51
theorem lkX4_isMissedBy_15 : Cond.fieldLink RX4 15 (TX4 1).1 (TX4 1).2.1 (TX4 1).2.2.1 ∈ wsX4_isMissedBy := by decide +kernel
theorem inX4_isMissedBy_X4 : ∀ w ∈ u_ws RX4 TX4 5, w ∈ wsX4_isMissedBy := by decide +kernel
theorem lkX4_isMissedBy_19 : Cond.fieldLink RX4 19 (TX4 2).1 (TX4 2).2.1 (TX4 2).2.2.1 ∈ wsX4_isMissedBy := by decide +kernel
theorem lkX4_isMissedBy_22 : Cond.fieldLink RX4 22 (TX4 3).1 (TX4 3).2.1 (TX4 3).2.2.1 ∈ wsX4_isMissedBy := by decide +kernel
theorem lkX4_isMissedBy_25 : Cond.fieldLink RX4 25 (TX4 4).1 (TX4 4).2.1 (TX4 4).2.2.1 ∈ wsX4_isMissedBy := by decide +kernel
set_option maxRecDepth 100000 in
set_option maxHeartbeats 4000000 in
theorem c_X4_isMissedBy (l : Launch) (g : gC) (μ : gM) (cnt : Nat) (hcnt : cnt ≤ 60) (hc : μ 2 0 = nI cnt) (x : Int32) (i : Nat) (hi : i < 20) (hs : ∀ k, vp_in (μ 9 k) 4) (hm : ∀ k, vp_in (μ 19 k) 3) (hat : ∀ k, vp_in (μ 21 k) 2) : Met l yX4_isMissedBy wsX4_isMissedBy { frames := 2, cells := 0, slots := 0, locals := 48 } (va_Pc [.ref (g.2.1 4), .int x, .int (nI i), .ref (g.2.1 5)] (gB g μ)) (va_Qi (fun (r : Int32) (μ' : gM) => r = zB (hMark (μ 23) (μ (26 + ix (μ 19 i))) x (μ 20 i) cnt && !decide (fVal μ 23 (ix (μ 21 i)) cnt x = μ 22 i)) ∧ μ' = μ) (gPB g) (gA g)) 0 0 (gA g) := by
  refine g_ofI (cc := cX4_isMissedBy) (nL := 4) (ret := (some .boolean)) (ty := .boolean) (by decide +kernel) rfl rfl (by rintro _ _ ⟨rfl, rfl⟩; exact zB_n) (Nat.le_of_ble_eq_true rfl) ?_
  intro p e s m args below meth c Q Z hR
  refine j_aload_n Z dX4_isMissedBy_0 3 rfl ?_
  refine j_iload_n Z dX4_isMissedBy_1 1 rfl ?_
  refine j_aload_n Z dX4_isMissedBy_2 0 rfl ?_
  refine j_get Z 4 (by decide) rfl rfl 1 (by decide) rfl inX4_isMissedBy_X4 lkX4_isMissedBy_15 dX4_isMissedBy_3 ?_
  refine j_iload_n Z dX4_isMissedBy_6 2 rfl ?_
  refine j_ild Z 19 (by decide) (fun _ => rfl) i rfl (by omega) (by decide) dX4_isMissedBy_7 ?_
  refine j_eq (vp_ix (hm i) (by decide)).1 ?_
  refine j_aload_n Z dX4_isMissedBy_8 0 rfl ?_
  refine j_get Z 4 (by decide) rfl rfl 2 (by decide) rfl inX4_isMissedBy_X4 lkX4_isMissedBy_19 dX4_isMissedBy_9 ?_
  refine j_iload_n Z dX4_isMissedBy_12 2 rfl ?_
  refine j_ild Z 20 (by decide) (fun _ => rfl) i rfl (by omega) (by decide) dX4_isMissedBy_13 ?_
  refine j_callVi Z (As := [.int x, .int (nI (ix (μ 19 i))), .int (μ 20 i)]) (rest := []) (nA := 3) 5 (by decide) rfl rfl (c_X3_hasMark l g μ 0 (by decide) cnt hcnt hc x (μ 20 i) (ix (μ 19 i)) (vp_ix (hm i) (by decide)).2) gX4_isMissedBy_X3_hasMark rfl rfl rfl (by decide +kernel) (by decide) rfl dX4_isMissedBy_14 rfl (Nat.le_of_ble_eq_true rfl) (by decide) (fun r9 μ9 hp => ?_)
  have hq : r9 = zB (hMark (μ 23) (μ (26 + ix (μ 19 i))) x (μ 20 i) cnt) ∧ μ9 = μ := hp
  refine j_mem hq.2 ?_
  refine j_eq hq.1 ?_
  clear hq hp
  refine j_if_eq Z 44 dX4_isMissedBy_17 (by decide) (fun h17 => ?_) (fun h17 => ?_)
  · skip
    refine j_iconst Z (v := 0) dX4_isMissedBy_44 (by decide) ?_
    exact hR _ _ _ _ _ _ (⟨by simp_all [zB_0, zB], rfl⟩) (by decide) (by decide) dX4_isMissedBy_45
  · skip
    refine j_aload_n Z dX4_isMissedBy_20 3 rfl ?_
    refine j_iload_n Z dX4_isMissedBy_21 1 rfl ?_
    refine j_aload_n Z dX4_isMissedBy_22 0 rfl ?_
    refine j_get Z 4 (by decide) rfl rfl 3 (by decide) rfl inX4_isMissedBy_X4 lkX4_isMissedBy_22 dX4_isMissedBy_23 ?_
    refine j_iload_n Z dX4_isMissedBy_26 2 rfl ?_
    refine j_ild Z 21 (by decide) (fun _ => rfl) i rfl (by omega) (by decide) dX4_isMissedBy_27 ?_
    refine j_eq (vp_ix (hat i) (by decide)).1 ?_
    refine j_callVi Z (As := [.int x, .int (nI (ix (μ 21 i)))]) (rest := []) (nA := 2) 5 (by decide) rfl rfl (c_X3_attributeOf l g μ 0 (by decide) cnt hcnt hc x (ix (μ 21 i)) (vp_ix (hat i) (by decide)).2 hs) gX4_isMissedBy_X3_attributeOf rfl rfl rfl (by decide +kernel) (by decide) rfl dX4_isMissedBy_28 rfl (Nat.le_of_ble_eq_true rfl) (by decide) (fun r9 μ9 hp => ?_)
    have hq : r9 = fVal μ 23 (ix (μ 21 i)) cnt x ∧ μ9 = μ := hp
    refine j_mem hq.2 ?_
    refine j_eq hq.1 ?_
    clear hq hp
    refine j_aload_n Z dX4_isMissedBy_31 0 rfl ?_
    refine j_get Z 4 (by decide) rfl rfl 4 (by decide) rfl inX4_isMissedBy_X4 lkX4_isMissedBy_25 dX4_isMissedBy_32 ?_
    refine j_iload_n Z dX4_isMissedBy_35 2 rfl ?_
    refine j_ild Z 22 (by decide) (fun _ => rfl) i rfl (by omega) (by decide) dX4_isMissedBy_36 ?_
    refine j_icmp_eq Z 44 dX4_isMissedBy_37 (by decide) (fun h37 => ?_) (fun h37 => ?_)
    · skip
      refine j_iconst Z (v := 0) dX4_isMissedBy_44 (by decide) ?_
      exact hR _ _ _ _ _ _ (⟨by simp_all [zB_0, zB], rfl⟩) (by decide) (by decide) dX4_isMissedBy_45
    · skip
      refine j_iconst Z (v := 1) dX4_isMissedBy_40 (by decide) ?_
      refine j_goto Z 45 dX4_isMissedBy_41 (by decide) ?_
      exact hR _ _ _ _ _ _ (⟨by simp_all [zB_0, zB], rfl⟩) (by decide) (by decide) dX4_isMissedBy_45
theorem lkX2_moveToFront_15 : Cond.fieldLink RX2 15 (TX2 1).1 (TX2 1).2.1 (TX2 1).2.2.1 ∈ wsX2_moveToFront := by decide +kernel
theorem inX2_moveToFront_X2 : ∀ w ∈ u_ws RX2 TX2 2, w ∈ wsX2_moveToFront := by decide +kernel
set_option maxRecDepth 100000 in
set_option maxHeartbeats 4000000 in
theorem c_X2_moveToFront (l : Launch) (g : gC) (μ : gM) (q : Nat) (hq : q < 4) : Met l yX2_moveToFront wsX2_moveToFront { frames := 0, cells := 0, slots := 0, locals := 0 } (va_Pc [.ref (g.2.1 1), .int (nI q)] (gB g μ)) (va_Qi (fun (r : Int32) (μ' : gM) => r = μ 8 q ∧ μ' = gR μ 8 (upd (pMv 4 (μ 8 q) (μ 8)) q 0)) (gPB g) (gA g)) 0 0 (gA g) := by
  refine g_ofI (cc := cX2_moveToFront) (nL := 4) (ret := (some .int)) (ty := .int) (by decide +kernel) rfl rfl (fun _ _ _ => rfl) (Nat.le_of_ble_eq_true rfl) ?_
  intro p e s m args below meth c Q Z hR
  refine j_aload_n Z dX2_moveToFront_0 0 rfl ?_
  refine j_get Z 1 (by decide) rfl rfl 1 (by decide) rfl inX2_moveToFront_X2 lkX2_moveToFront_15 dX2_moveToFront_1 ?_
  refine j_iload_n Z dX2_moveToFront_4 1 rfl ?_
  refine j_ild Z 8 (by decide) (fun _ => rfl) q rfl (by omega) (by decide) dX2_moveToFront_5 ?_
  refine j_istore_n Z dX2_moveToFront_6 (by decide) [(2, .int (μ 8 q)), (0, .ref (g.2.1 1)), (1, .int (nI q))] rfl ?_
  refine j_iconst Z (v := 0) dX2_moveToFront_7 (by decide) ?_
  refine j_istore_n Z dX2_moveToFront_8 (by decide) [(3, .int 0), (2, .int (μ 8 q)), (0, .ref (g.2.1 1)), (1, .int (nI q))] rfl ?_
  have lp9 : ∀ (n0 i : Nat) (r : Nat → Int32), r = pMv i (μ 8 q) (μ 8) → 4 + 2 ≤ i + n0 → i ≤ 4 → J p l e { frames := 0, cells := 0, slots := 0, locals := 0 } s m args below meth c Q g 4 (gR μ 8 r) (0) (0) 9 [(0, .ref (g.2.1 1)), (1, .int (nI q)), (2, .int (μ 8 q)), (3, .int (nI i))] [] := by
    intro n0
    induction n0 with
    | zero => intro i r er hn hg; exact absurd hn (by omega)
    | succ n0 ih =>
      intro i r er hn hg
      refine j_iload_n Z dX2_moveToFront_9 3 rfl ?_
      refine j_iconst Z (v := 4) dX2_moveToFront_10 (by decide) ?_
      refine j_icmp_ge Z 40 dX2_moveToFront_11 (by decide) (fun h11 => ?_) (fun h11 => ?_)
      · skip
        have hic : i = 4 := by
          have hq := (nI_leI (a := 4) (b := i) (by omega) (by omega)).mp h11
          omega
        rw [hic] at er
        refine j_aload_n Z dX2_moveToFront_40 0 rfl ?_
        refine j_get Z 1 (by decide) rfl rfl 1 (by decide) rfl inX2_moveToFront_X2 lkX2_moveToFront_15 dX2_moveToFront_41 ?_
        refine j_iload_n Z dX2_moveToFront_44 1 rfl ?_
        refine j_iconst Z (v := 0) dX2_moveToFront_45 (by decide) ?_
        refine j_ist Z 8 (by decide) (fun _ => rfl) q rfl (by omega) (by decide)  dX2_moveToFront_46 ?_
        refine j_mem (μ' := (gR μ 8 (upd r q 0))) gU_R ?_
        refine j_iload_n Z dX2_moveToFront_47 2 rfl ?_
        exact hR _ _ _ _ _ _ (⟨rfl, by rw [er]⟩) (by decide) (by decide) dX2_moveToFront_48
      · skip
        have hlt : i < 4 := by
          rcases Nat.lt_or_ge i 4 with q9 | q9
          · exact q9
          · exact absurd (nI_le q9 (by omega)) h11
        refine j_aload_n Z dX2_moveToFront_14 0 rfl ?_
        refine j_get Z 1 (by decide) rfl rfl 1 (by decide) rfl inX2_moveToFront_X2 lkX2_moveToFront_15 dX2_moveToFront_15 ?_
        refine j_iload_n Z dX2_moveToFront_18 3 rfl ?_
        refine j_ild Z 8 (by decide) (fun _ => rfl) i rfl (by omega) (by decide) dX2_moveToFront_19 ?_
        refine j_eq (y := r i) (by rw [gR_s]) ?_
        refine j_iload_n Z dX2_moveToFront_20 2 rfl ?_
        refine j_icmp_ge Z 34 dX2_moveToFront_21 (by decide) (fun h21 => ?_) (fun h21 => ?_)
        · skip
          refine j_iinc Z dX2_moveToFront_34 3 rfl (nI_1 i) (by decide) [(3, .int (nI (i + 1))), (0, .ref (g.2.1 1)), (1, .int (nI q)), (2, .int (μ 8 q))] rfl ?_
          refine j_goto Z 9 dX2_moveToFront_37 (by decide) ?_
          refine j_sub [1, 2, 3, 0] rfl ?_
          exact ih (i + 1) (r) (by rw [er] at h21 ⊢; exact pMv_ge h21)  (by omega) (by omega)
        · skip
          refine j_aload_n Z dX2_moveToFront_24 0 rfl ?_
          refine j_get Z 1 (by decide) rfl rfl 1 (by decide) rfl inX2_moveToFront_X2 lkX2_moveToFront_15 dX2_moveToFront_25 ?_
          refine j_iload_n Z dX2_moveToFront_28 3 rfl ?_
          refine j_dup2 Z dX2_moveToFront_29 rfl rfl ?_
          refine j_ild Z 8 (by decide) (fun _ => rfl) i rfl (by omega) (by decide) dX2_moveToFront_30 ?_
          refine j_eq (y := r i) (by rw [gR_s]) ?_
          refine j_iconst Z (v := 1) dX2_moveToFront_31 (by decide) ?_
          refine j_iadd Z dX2_moveToFront_32 ?_
          refine j_ist Z 8 (by decide) (fun _ => rfl) i rfl (by omega) (by decide)  dX2_moveToFront_33 ?_
          refine j_mem (μ' := (gR μ 8 (upd r i ((r i) + 1)))) gU_R ?_
          refine j_iinc Z dX2_moveToFront_34 3 rfl (nI_1 i) (by decide) [(3, .int (nI (i + 1))), (0, .ref (g.2.1 1)), (1, .int (nI q)), (2, .int (μ 8 q))] rfl ?_
          refine j_goto Z 9 dX2_moveToFront_37 (by decide) ?_
          refine j_sub [1, 2, 3, 0] rfl ?_
          exact ih (i + 1) (upd r i ((r i) + 1)) (by rw [er] at h21 ⊢; exact pMv_lt (Int32.not_le.mp h21))  (by omega) (by omega)
  refine j_sub [2, 3, 1, 0] rfl ?_
  refine j_mem (gR_id (k := 8) (r := μ 8) rfl) ?_
  exact lp9 (4 + 2) 0 (μ 8) (pMv_0)  (by omega) (by omega)
end
