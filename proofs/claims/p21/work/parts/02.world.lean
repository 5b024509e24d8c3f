/-! THE WORLD: two registers, the law's three numbers, their cells by number; what each cell holds is a row of one memory. The first register's cells: 0 to 24, 26 to 30, 50 to 109; the law's numbers: 25; the second's: where gs sends the first's -/
abbrev gM : Type := Nat → Nat → Int32
/-- the classes' tables, the cells' addresses, the array classes (int, boolean, -, -, int[]), where the world begins -/
abbrev gC : Type := va_G × (Nat → Nat) × (Nat → ClassId) × Nat
/-- the two registers change places -/
def gs (k : Nat) : Nat := if k < 19 then k + 31 else if k < 25 then k + 91 else if k = 25 then 25 else if k < 31 then k + 90 else if k < 50 then k - 31 else if k < 110 then k + 71 else if k < 116 then k - 91 else if k < 121 then k - 90 else if k < 181 then k - 71 else k
theorem gs_gs (k : Nat) : gs (gs k) = k := by
  have f : ∀ j, (k < 19 ∧ j = k + 31) ∨ (19 ≤ k ∧ k < 25 ∧ j = k + 91) ∨ (k = 25 ∧ j = k) ∨ (26 ≤ k ∧ k < 31 ∧ j = k + 90) ∨ (31 ≤ k ∧ k < 50 ∧ j = k - 31) ∨ (50 ≤ k ∧ k < 110 ∧ j = k + 71) ∨ (110 ≤ k ∧ k < 116 ∧ j = k - 91) ∨ (116 ≤ k ∧ k < 121 ∧ j = k - 90) ∨ (121 ≤ k ∧ k < 181 ∧ j = k - 71) ∨ (181 ≤ k ∧ j = k) → gs j = k := by
    intro j h
    unfold gs
    repeat' split
    all_goals omega
  refine f (gs k) ?_
  unfold gs
  repeat' split
  all_goals omega
theorem gs_lt {k : Nat} (h : k < 181) : gs k < 181 := by
  unfold gs
  repeat' split
  all_goals omega
def gL (g : gC) (r : Nat → Int32) : List va_E := [
  .inr (5, [.int (r 0), .ref (g.2.1 1), .ref (g.2.1 2), .ref (g.2.1 3), .ref (g.2.1 4), .ref (g.2.1 5), .ref (g.2.1 6)]),
  .inr (2, [.ref (g.2.1 7), .ref (g.2.1 8)]),
  .inr (0, [.int (r 0), .ref (g.2.1 9), .ref (g.2.1 10), .ref (g.2.1 11), .ref (g.2.1 12), .ref (g.2.1 13), .ref (g.2.1 14)]),
  .inr (1, [.int (r 0), .ref (g.2.1 15), .ref (g.2.1 16), .ref (g.2.1 17), .ref (g.2.1 18)]),
  .inr (4, [.int (r 0), .ref (g.2.1 19), .ref (g.2.1 20), .ref (g.2.1 21), .ref (g.2.1 22)]),
  .inr (3, [.ref (g.2.1 2), .ref (g.2.1 1), .ref (g.2.1 23)]),
  .inr (3, [.ref (g.2.1 2), .ref (g.2.1 1), .ref (g.2.1 24)]),
  .inl (g.2.2.1 0, 4, .inl r),
  .inl (g.2.2.1 0, 4, .inl r),
  .inl (g.2.2.1 0, 60, .inl r),
  .inl (g.2.2.1 0, 60, .inl r),
  .inl (g.2.2.1 1, 60, .inl r),
  .inl (g.2.2.1 4, 3, .inr (.inr (.inr (.inr (fun i => some (g.2.1 (26 + i))))))),
  .inl (g.2.2.1 4, 2, .inr (.inr (.inr (.inr (fun i => some (g.2.1 (29 + i))))))),
  .inl (g.2.2.1 4, 60, .inr (.inr (.inr (.inr (fun i => some (g.2.1 (50 + i))))))),
  .inl (g.2.2.1 0, 40, .inl r),
  .inl (g.2.2.1 0, 40, .inl r),
  .inl (g.2.2.1 0, 40, .inl r),
  .inl (g.2.2.1 1, 60, .inl r),
  .inl (g.2.2.1 0, 20, .inl r),
  .inl (g.2.2.1 0, 20, .inl r),
  .inl (g.2.2.1 0, 20, .inl r),
  .inl (g.2.2.1 0, 20, .inl r),
  .inl (g.2.2.1 0, 60, .inl r),
  .inl (g.2.2.1 0, 60, .inl r),
  .inl (g.2.2.1 0, 3, .inl r),
  .inl (g.2.2.1 0, 60, .inl r),
  .inl (g.2.2.1 0, 60, .inl r),
  .inl (g.2.2.1 0, 60, .inl r),
  .inl (g.2.2.1 0, 60, .inl r),
  .inl (g.2.2.1 0, 60, .inl r),
  .inr (5, [.int (r 0), .ref (g.2.1 (gs 1)), .ref (g.2.1 (gs 2)), .ref (g.2.1 (gs 3)), .ref (g.2.1 (gs 4)), .ref (g.2.1 (gs 5)), .ref (g.2.1 (gs 6))]),
  .inr (2, [.ref (g.2.1 (gs 7)), .ref (g.2.1 (gs 8))]),
  .inr (0, [.int (r 0), .ref (g.2.1 (gs 9)), .ref (g.2.1 (gs 10)), .ref (g.2.1 (gs 11)), .ref (g.2.1 (gs 12)), .ref (g.2.1 (gs 13)), .ref (g.2.1 (gs 14))]),
  .inr (1, [.int (r 0), .ref (g.2.1 (gs 15)), .ref (g.2.1 (gs 16)), .ref (g.2.1 (gs 17)), .ref (g.2.1 (gs 18))]),
  .inr (4, [.int (r 0), .ref (g.2.1 (gs 19)), .ref (g.2.1 (gs 20)), .ref (g.2.1 (gs 21)), .ref (g.2.1 (gs 22))]),
  .inr (3, [.ref (g.2.1 (gs 2)), .ref (g.2.1 (gs 1)), .ref (g.2.1 (gs 23))]),
  .inr (3, [.ref (g.2.1 (gs 2)), .ref (g.2.1 (gs 1)), .ref (g.2.1 (gs 24))]),
  .inl (g.2.2.1 0, 4, .inl r),
  .inl (g.2.2.1 0, 4, .inl r),
  .inl (g.2.2.1 0, 60, .inl r),
  .inl (g.2.2.1 0, 60, .inl r),
  .inl (g.2.2.1 1, 60, .inl r),
  .inl (g.2.2.1 4, 3, .inr (.inr (.inr (.inr (fun i => some (g.2.1 (gs (26 + i)))))))),
  .inl (g.2.2.1 4, 2, .inr (.inr (.inr (.inr (fun i => some (g.2.1 (gs (29 + i)))))))),
  .inl (g.2.2.1 4, 60, .inr (.inr (.inr (.inr (fun i => some (g.2.1 (gs (50 + i)))))))),
  .inl (g.2.2.1 0, 40, .inl r),
  .inl (g.2.2.1 0, 40, .inl r),
  .inl (g.2.2.1 0, 40, .inl r),
  .inl (g.2.2.1 1, 60, .inl r)]
/-- cell k, whose row is r; from 50 on rows of numbers, 110 to 113 shorter ones -/
def gE (g : gC) (r : Nat → Int32) (k : Nat) : va_E := if 110 ≤ k ∧ k < 114 then .inl (g.2.2.1 0, 20, .inl r) else (gL g r).getD k (.inl (g.2.2.1 0, 60, .inl r))
def gW (g : gC) (μ : gM) : va_W := (List.range 181).map (fun k => (g.2.1 k, gE g (μ k) k))
def gT (g : gC) : List (ClassId × FieldType) := [(g.2.2.1 0, .int), (g.2.2.1 1, .boolean), (g.2.2.1 2, .int), (g.2.2.1 3, .int), (g.2.2.1 4, .array .int)]
def gA (g : gC) : Nat → Prop := fun q => g.2.2.2 ≤ q
def gD (g : gC) : Prop := (∀ i j : Nat, i < 181 → j < 181 → g.2.1 i = g.2.1 j → i = j) ∧ ∀ k : Nat, k < 181 → g.2.2.2 ≤ g.2.1 k
/-- a row put in the place of another; one place of a row written -/
def gR (μ : gM) (k : Nat) (r : Nat → Int32) : gM := fun a => if a = k then r else μ a
abbrev gU (μ : gM) (k i : Nat) (x : Int32) : gM := gR μ k (upd (μ k) i x)
theorem gR_s {μ : gM} {k : Nat} {r : Nat → Int32} : gR μ k r k = r := if_pos rfl
theorem gR_n {μ : gM} {k j : Nat} {r : Nat → Int32} (h : j ≠ k) : gR μ k r j = μ j := if_neg h
theorem gU_s {μ : gM} {k i : Nat} {x : Int32} : gU μ k i x k = upd (μ k) i x := gR_s
theorem gU_n {μ : gM} {k i j : Nat} {x : Int32} (h : j ≠ k) : gU μ k i x j = μ j := gR_n h
theorem gR_self {μ : gM} {k : Nat} : gR μ k (μ k) = μ := by
  funext a
  by_cases h : a = k
  · subst h; exact gR_s
  · exact gR_n h
theorem gR_R {μ : gM} {k : Nat} {r r' : Nat → Int32} : gR (gR μ k r) k r' = gR μ k r' := by
  funext a
  by_cases h : a = k
  · subst h; rw [gR_s, gR_s]
  · rw [gR_n h, gR_n h, gR_n h]
theorem gW_at {g : gC} {μ : gM} {k : Nat} (hk : k < 181) : (gW g μ)[k]? = some (g.2.1 k, gE g (μ k) k) := by
  unfold gW
  rw [List.getElem?_map, List.getElem?_range hk]
  rfl
theorem gW_of {g : gC} {μ : gM} {k : Nat} {q : Nat × va_E} (h : (gW g μ)[k]? = some q) : k < 181 ∧ q = (g.2.1 k, gE g (μ k) k) := by
  have hl : k < (gW g μ).length := (List.getElem?_eq_some_iff.mp h).1
  have hk : k < 181 := by simpa [gW] using hl
  rw [gW_at hk] at h
  exact ⟨hk, (Option.some.inj h).symm⟩
theorem gW_set {g : gC} {μ : gM} {k : Nat} {r : Nat → Int32} {x : va_E} (hk : k < 181) (hx : x = gE g r k) : (gW g μ).set k (g.2.1 k, x) = gW g (gR μ k r) := by
  subst hx
  have hl : (gW g μ).length = 181 := by simp [gW]
  apply List.ext_getElem?
  intro i
  by_cases hi : i < 181
  · by_cases he : i = k
    · subst he
      rw [List.getElem?_set_self (by rw [hl]; exact hi), gW_at hi, gR_s]
    · rw [List.getElem?_set_ne (Ne.symm he), gW_at hi, gW_at hi, gR_n he]
  · rw [List.getElem?_eq_none (by rw [List.length_set, hl]; omega), List.getElem?_eq_none (by simp [gW]; omega)]
theorem gD_va {g : gC} (h : gD g) (μ : gM) : va_D (gA g) (gW g μ) := by
  refine ⟨fun i j x y hi hj hxy => ?_, fun k q hk => ?_⟩
  · obtain ⟨h1, rfl⟩ := gW_of hi
    obtain ⟨h2, rfl⟩ := gW_of hj
    exact h.1 i j h1 h2 hxy
  · obtain ⟨h1, rfl⟩ := gW_of hk
    exact h.2 k h1
def gI (g : gC) (μ : gM) (H : Heap) : Prop := va_P g.1 vwCl (gW g μ) H
/-- the texts of the class's exceptions -/
def gSt : List (Nat × String) := [(59, "it would be later than the last day"), (75, "no more finds can come"), (135, "no more links can be told"), (152, "no more wishes can be told"), (159, "there is no such wish"), (171, "a parameter is out of range"), (174, "both finds are the same"), (176, "there is no such find"), (180, "the find does not count on that day")]
/-- the words of its throws that aren't good ones -/
def gXw : List Cond := [.castable "java/lang/IllegalStateException" "java/lang/IllegalStateException", .castable "java/lang/IllegalArgumentException" "java/lang/IllegalArgumentException", .castable "java/lang/IndexOutOfBoundsException" "java/lang/IndexOutOfBoundsException", .castable "java/util/NoSuchElementException" "java/util/NoSuchElementException", .declares (Bundle.initS "java/lang/RuntimeException"), .declares (Bundle.initS "java/lang/Exception"), .declares (Bundle.initS "java/lang/Throwable")]
/-- what holds of a state's tables and statics -/
def gX (g : gC) (U : State) : Prop := va_K g.1 vwCl (gT g) U ∧ gD g ∧ vx_Zq Bundle.tN "UNASSIGNED_STACK" Bundle.steD (gA g) U U.heap ∧ vx_Zq Bundle.tN "SUPPRESSED_SENTINEL" Bundle.listD (gA g) U U.heap ∧ (∀ q ∈ gSt, ∃ a : Nat, vk_R RX5 q.1 q.2 a U) ∧ (∀ w ∈ gXw, va_Nw w U)
def gB (g : gC) (μ : gM) (U : State) : Prop := gI g μ U.heap ∧ gX g U
/-- a method's own: the machine, its code, the tables -/
def gF (p : Program) (l : Launch) (e : Env) (R : Room) (s : State) (m : MethodId) (args : Array Value) (below : List Frame) (meth : Method) (c : Code) (cc : ByteArray) (nL : Nat) (Ts : List Cond) (own : String) (g : gC) : Prop :=
  p.tables.exec = Jvm.exec ∧ c.code = cc ∧ c.maxLocals = nL ∧ s.vm.findClass own = some m.cls ∧ (∀ w ∈ Ts, w.before args s = true) ∧ gX g s ∧ meth.locks = false
/-- at pc, with these locals and this stack, the memory being μ -/
def J (p : Program) (l : Launch) (e : Env) (R : Room) (s : State) (m : MethodId) (args : Array Value) (below : List Frame) (meth : Method) (c : Code) (Q : State → Prop) (g : gC) (nL : Nat) (μ : gM) (k n pc : Nat) (L : List (Nat × Value)) (st : List Value) : Prop :=
  ∀ (H : Heap) (locs : List Loc) (ls : Array Slot), gI g μ H → va_S (gA g) s.heap H locs → lv_has ls nL L → W p l e R s m args below meth c H locs k n Q (F0 m pc ls st)
/-- .. with an exception of class E thrown over it -/
def JX (p : Program) (l : Launch) (e : Env) (R : Room) (s : State) (m : MethodId) (args : Array Value) (below : List Frame) (meth : Method) (c : Code) (Q : State → Prop) (g : gC) (nL : Nat) (μ : gM) (k n : Nat) (E : String) (pc : Nat) (L : List (Nat × Value)) (st : List Value) : Prop :=
  ∀ (H : Heap) (locs : List Loc) (ls : Array Slot) (q : Nat) (ce : Cell), gI g μ H → va_S (gA g) s.heap H locs → lv_has ls nL L → H[q]? = some ce → ce.vm = .none → s.vm.findClass E = some ce.cls → vx_W p l e R s m args below meth c H locs k n Q (F0 m pc ls st) q
theorem nI_cl {i N : Nat} (hi : i < N) (hN : N ≤ 4096) : (nI i).toNatClampNeg = i := nI_clamp (by omega)
theorem nI_vp {i N : Nat} (hi : i < N) (hN : N ≤ 4096) : vp_in (nI i) N := vp_in_nI hi (by omega)
section GJ
variable {p : Program} {l : Launch} {e : Env} {R : Room} {s : State} {m : MethodId} {args : Array Value} {below : List Frame} {meth : Method} {c : Code} {Q : State → Prop} {g : gC} {nL : Nat} {μ : gM} {k n : Nat} {cc : ByteArray} {Ts : List Cond} {own : String} {pc : Nat} {L : List (Nat × Value)} {st : List Value}
theorem j_iconst (Z : gF p l e R s m args below meth c cc nL Ts own g) {z : Int} {v : Int32} (d : decode cc pc = .ok (.iconst z, 1)) (hv : Int32.ofInt z = v) (K : J p l e R s m args below meth c Q g nL μ k n (pc + 1) L (.int v :: st)) : J p l e R s m args below meth c Q g nL μ k n pc L (st) :=
  fun H locs ls hI hS hl => lv_iconst Z.1 Z.2.1 d hv (K H locs ls hI hS hl)
theorem j_bipush (Z : gF p l e R s m args below meth c cc nL Ts own g) {z : Int} {v : Int32} (d : decode cc pc = .ok (.bipush z, 2)) (hv : (Int8.ofInt z).toInt32 = v) (K : J p l e R s m args below meth c Q g nL μ k n (pc + 2) L (.int v :: st)) : J p l e R s m args below meth c Q g nL μ k n pc L (st) :=
  fun H locs ls hI hS hl => lv_bipush Z.1 Z.2.1 d hv (K H locs ls hI hS hl)
theorem j_sipush (Z : gF p l e R s m args below meth c cc nL Ts own g) {z : Int} {v : Int32} (d : decode cc pc = .ok (.sipush z, 3)) (hv : (Int16.ofInt z).toInt32 = v) (K : J p l e R s m args below meth c Q g nL μ k n (pc + 3) L (.int v :: st)) : J p l e R s m args below meth c Q g nL μ k n pc L (st) :=
  fun H locs ls hI hS hl => lv_sipush Z.1 Z.2.1 d hv (K H locs ls hI hS hl)
theorem j_dup (Z : gF p l e R s m args below meth c cc nL Ts own g) {va : Value} (d : decode cc pc = .ok (.dup, 1)) (hva : va.category = 1) (K : J p l e R s m args below meth c Q g nL μ k n (pc + 1) L (va :: va :: st)) : J p l e R s m args below meth c Q g nL μ k n pc L (va :: st) :=
  fun H locs ls hI hS hl => lv_dup Z.1 Z.2.1 d hva (K H locs ls hI hS hl)
theorem j_dup2 (Z : gF p l e R s m args below meth c cc nL Ts own g) {va vb : Value} (d : decode cc pc = .ok (.dup2, 1)) (hva : va.category = 1) (hvb : vb.category = 1) (K : J p l e R s m args below meth c Q g nL μ k n (pc + 1) L (va :: vb :: va :: vb :: st)) : J p l e R s m args below meth c Q g nL μ k n pc L (va :: vb :: st) :=
  fun H locs ls hI hS hl => lv_dup2_11 Z.1 Z.2.1 d hva hvb (K H locs ls hI hS hl)
theorem j_pop (Z : gF p l e R s m args below meth c cc nL Ts own g) {va : Value} (d : decode cc pc = .ok (.pop, 1)) (hva : va.category = 1) (K : J p l e R s m args below meth c Q g nL μ k n (pc + 1) L (st)) : J p l e R s m args below meth c Q g nL μ k n pc L (va :: st) :=
  fun H locs ls hI hS hl => lv_pop Z.1 Z.2.1 d hva (K H locs ls hI hS hl)
theorem j_iadd (Z : gF p l e R s m args below meth c cc nL Ts own g) {x y : Int32} (d : decode cc pc = .ok (.iadd, 1))  (K : J p l e R s m args below meth c Q g nL μ k n (pc + 1) L (.int (x + y) :: st)) : J p l e R s m args below meth c Q g nL μ k n pc L (.int y :: .int x :: st) :=
  fun H locs ls hI hS hl => lv_iadd Z.1 Z.2.1 d  (K H locs ls hI hS hl)
theorem j_isub (Z : gF p l e R s m args below meth c cc nL Ts own g) {x y : Int32} (d : decode cc pc = .ok (.isub, 1))  (K : J p l e R s m args below meth c Q g nL μ k n (pc + 1) L (.int (x - y) :: st)) : J p l e R s m args below meth c Q g nL μ k n pc L (.int y :: .int x :: st) :=
  fun H locs ls hI hS hl => lv_isub Z.1 Z.2.1 d  (K H locs ls hI hS hl)
theorem j_imul (Z : gF p l e R s m args below meth c cc nL Ts own g) {x y : Int32} (d : decode cc pc = .ok (.imul, 1))  (K : J p l e R s m args below meth c Q g nL μ k n (pc + 1) L (.int (x * y) :: st)) : J p l e R s m args below meth c Q g nL μ k n pc L (.int y :: .int x :: st) :=
  fun H locs ls hI hS hl => lv_imul Z.1 Z.2.1 d  (K H locs ls hI hS hl)
theorem j_iand (Z : gF p l e R s m args below meth c cc nL Ts own g) {x y : Int32} (d : decode cc pc = .ok (.iand, 1))  (K : J p l e R s m args below meth c Q g nL μ k n (pc + 1) L (.int (x &&& y) :: st)) : J p l e R s m args below meth c Q g nL μ k n pc L (.int y :: .int x :: st) :=
  fun H locs ls hI hS hl => lv_iand Z.1 Z.2.1 d  (K H locs ls hI hS hl)
theorem j_topi {x : Int32} (K : ∀ y : Int32, y = x → J p l e R s m args below meth c Q g nL μ k n pc L (.int y :: st)) : J p l e R s m args below meth c Q g nL μ k n pc L (.int x :: st) := K x rfl
theorem j_eq {x y : Int32} (h : x = y) (K : J p l e R s m args below meth c Q g nL μ k n pc L (.int y :: st)) : J p l e R s m args below meth c Q g nL μ k n pc L (.int x :: st) := h ▸ K
theorem j_mem {μ' : gM} (h : μ = μ') (K : J p l e R s m args below meth c Q g nL μ' k n pc L st) : J p l e R s m args below meth c Q g nL μ k n pc L st := h ▸ K
theorem j_pc {q : Nat} (h : pc = q) (K : J p l e R s m args below meth c Q g nL μ k n q L st) : J p l e R s m args below meth c Q g nL μ k n pc L st := h ▸ K
theorem j_sub {L' : List (Nat × Value)} (is : List Nat) (h : lv_pick L is = L') (K : J p l e R s m args below meth c Q g nL μ k n pc L' st) : J p l e R s m args below meth c Q g nL μ k n pc L st := fun H locs ls hI hS hl => K H locs ls hI hS (lv_sub hl is h)
theorem j_wide {k' n' : Nat} (h1 : k ≤ k') (h2 : n ≤ n') (K : J p l e R s m args below meth c Q g nL μ k' n' pc L st) : J p l e R s m args below meth c Q g nL μ k n pc L st := fun H locs ls hI hS hl => W.widen h1 h2 (K H locs ls hI hS hl)
theorem j_iload_n (Z : gF p l e R s m args below meth c cc nL Ts own g) {z : Fin 4} {x : Int32} (d : decode cc pc = .ok (.iload_n z, 1)) (j : Nat) (hj : L[j]? = some ((z : Nat), .int x)) (K : J p l e R s m args below meth c Q g nL μ k n (pc + 1) L (.int x :: st)) : J p l e R s m args below meth c Q g nL μ k n pc L st :=
  fun H locs ls hI hS hl => lv_iload_n Z.1 Z.2.1 d rfl (lv_at hl j hj) (K H locs ls hI hS hl)
theorem j_iload (Z : gF p l e R s m args below meth c cc nL Ts own g) {i : Nat} {x : Int32} (d : decode cc pc = .ok (.iload i, 2)) (j : Nat) (hj : L[j]? = some (i, .int x)) (K : J p l e R s m args below meth c Q g nL μ k n (pc + 2) L (.int x :: st)) : J p l e R s m args below meth c Q g nL μ k n pc L st :=
  fun H locs ls hI hS hl => lv_iload Z.1 Z.2.1 d (lv_at hl j hj) (K H locs ls hI hS hl)
theorem j_istore_n (Z : gF p l e R s m args below meth c cc nL Ts own g) {z : Fin 4} {x : Int32} (d : decode cc pc = .ok (.istore_n z, 1)) (hn : (z : Nat) < nL) (L' : List (Nat × Value)) (hL : ((z : Nat), Value.int x) :: L.filter (fun q => !(q.1 == (z : Nat)) && !(q.1 + 1 == (z : Nat) && q.2.category == 2)) = L') (K : J p l e R s m args below meth c Q g nL μ k n (pc + 1) L' st) : J p l e R s m args below meth c Q g nL μ k n pc L (.int x :: st) :=
  fun H locs ls hI hS hl => lv_istore_n Z.1 Z.2.1 d rfl hl hn hL (fun ls' hl' => K H locs ls' hI hS hl')
theorem j_istore (Z : gF p l e R s m args below meth c cc nL Ts own g) {i : Nat} {x : Int32} (d : decode cc pc = .ok (.istore i, 2)) (hn : i < nL) (L' : List (Nat × Value)) (hL : (i, Value.int x) :: L.filter (fun q => !(q.1 == i) && !(q.1 + 1 == i && q.2.category == 2)) = L') (K : J p l e R s m args below meth c Q g nL μ k n (pc + 2) L' st) : J p l e R s m args below meth c Q g nL μ k n pc L (.int x :: st) :=
  fun H locs ls hI hS hl => lv_istore Z.1 Z.2.1 d hl hn hL (fun ls' hl' => K H locs ls' hI hS hl')
theorem j_aload_n (Z : gF p l e R s m args below meth c cc nL Ts own g) {z : Fin 4} {x : Nat} (d : decode cc pc = .ok (.aload_n z, 1)) (j : Nat) (hj : L[j]? = some ((z : Nat), .ref x)) (K : J p l e R s m args below meth c Q g nL μ k n (pc + 1) L (.ref x :: st)) : J p l e R s m args below meth c Q g nL μ k n pc L st :=
  fun H locs ls hI hS hl => lv_aload_n Z.1 Z.2.1 d rfl (lv_at hl j hj) (K H locs ls hI hS hl)
theorem j_aload (Z : gF p l e R s m args below meth c cc nL Ts own g) {i : Nat} {x : Nat} (d : decode cc pc = .ok (.aload i, 2)) (j : Nat) (hj : L[j]? = some (i, .ref x)) (K : J p l e R s m args below meth c Q g nL μ k n (pc + 2) L (.ref x :: st)) : J p l e R s m args below meth c Q g nL μ k n pc L st :=
  fun H locs ls hI hS hl => lv_aload Z.1 Z.2.1 d (lv_at hl j hj) (K H locs ls hI hS hl)
theorem j_astore_n (Z : gF p l e R s m args below meth c cc nL Ts own g) {z : Fin 4} {x : Nat} (d : decode cc pc = .ok (.astore_n z, 1)) (hn : (z : Nat) < nL) (L' : List (Nat × Value)) (hL : ((z : Nat), Value.ref x) :: L.filter (fun q => !(q.1 == (z : Nat)) && !(q.1 + 1 == (z : Nat) && q.2.category == 2)) = L') (K : J p l e R s m args below meth c Q g nL μ k n (pc + 1) L' st) : J p l e R s m args below meth c Q g nL μ k n pc L (.ref x :: st) :=
  fun H locs ls hI hS hl => lv_astore_n Z.1 Z.2.1 d rfl hl hn hL (fun ls' hl' => K H locs ls' hI hS hl')
theorem j_astore (Z : gF p l e R s m args below meth c cc nL Ts own g) {i : Nat} {x : Nat} (d : decode cc pc = .ok (.astore i, 2)) (hn : i < nL) (L' : List (Nat × Value)) (hL : (i, Value.ref x) :: L.filter (fun q => !(q.1 == i) && !(q.1 + 1 == i && q.2.category == 2)) = L') (K : J p l e R s m args below meth c Q g nL μ k n (pc + 2) L' st) : J p l e R s m args below meth c Q g nL μ k n pc L (.ref x :: st) :=
  fun H locs ls hI hS hl => lv_astore Z.1 Z.2.1 d hl hn hL (fun ls' hl' => K H locs ls' hI hS hl')
theorem j_iinc (Z : gF p l e R s m args below meth c cc nL Ts own g) {i : Nat} {z : Int} {x v : Int32} (d : decode cc pc = .ok (.iinc i z, 3)) (j : Nat) (hj : L[j]? = some (i, .int x)) (hv : x + Int32.ofInt z = v) (hn : i < nL) (L' : List (Nat × Value)) (hL : (i, Value.int v) :: L.filter (fun q => !(q.1 == i) && !(q.1 + 1 == i && q.2.category == 2)) = L') (K : J p l e R s m args below meth c Q g nL μ k n (pc + 3) L' st) : J p l e R s m args below meth c Q g nL μ k n pc L st :=
  fun H locs ls hI hS hl => lv_iinc Z.1 Z.2.1 d hl hj hv hn hL (fun ls' hl' => K H locs ls' hI hS hl')
theorem j_goto (Z : gF p l e R s m args below meth c cc nL Ts own g) {off : Int} (tgt : Nat) (d : decode cc pc = .ok (.goto off, 3)) (ht : (pc : Int) + off = (tgt : Int)) (K : J p l e R s m args below meth c Q g nL μ k n tgt L st) : J p l e R s m args below meth c Q g nL μ k n pc L st :=
  fun H locs ls hI hS hl => lv_goto Z.1 Z.2.1 d ht (K H locs ls hI hS hl)
theorem j_if_eq (Z : gF p l e R s m args below meth c cc nL Ts own g) {x : Int32} {off : Int} (tgt : Nat) (d : decode cc pc = .ok (.ifCond .eq off, 3)) (ht : (pc : Int) + off = (tgt : Int)) (KT : x = 0 → J p l e R s m args below meth c Q g nL μ k n tgt L st) (KF : ¬ x = 0 → J p l e R s m args below meth c Q g nL μ k n (pc + 3) L st) : J p l e R s m args below meth c Q g nL μ k n pc L (.int x :: st) :=
  fun H locs ls hI hS hl => lv_if_eq Z.1 Z.2.1 d ht (fun h => KT h H locs ls hI hS hl) (fun h => KF h H locs ls hI hS hl)
theorem j_icmp_eq (Z : gF p l e R s m args below meth c cc nL Ts own g) {x y : Int32} {off : Int} (tgt : Nat) (d : decode cc pc = .ok (.if_icmp .eq off, 3)) (ht : (pc : Int) + off = (tgt : Int)) (KT : x = y → J p l e R s m args below meth c Q g nL μ k n tgt L st) (KF : ¬ x = y → J p l e R s m args below meth c Q g nL μ k n (pc + 3) L st) : J p l e R s m args below meth c Q g nL μ k n pc L (.int y :: .int x :: st) :=
  fun H locs ls hI hS hl => lv_icmp_eq Z.1 Z.2.1 d ht (fun h => KT h H locs ls hI hS hl) (fun h => KF h H locs ls hI hS hl)
theorem j_if_ne (Z : gF p l e R s m args below meth c cc nL Ts own g) {x : Int32} {off : Int} (tgt : Nat) (d : decode cc pc = .ok (.ifCond .ne off, 3)) (ht : (pc : Int) + off = (tgt : Int)) (KT : ¬ x = 0 → J p l e R s m args below meth c Q g nL μ k n tgt L st) (KF : x = 0 → J p l e R s m args below meth c Q g nL μ k n (pc + 3) L st) : J p l e R s m args below meth c Q g nL μ k n pc L (.int x :: st) :=
  fun H locs ls hI hS hl => lv_if_ne Z.1 Z.2.1 d ht (fun h => KT h H locs ls hI hS hl) (fun h => KF h H locs ls hI hS hl)
theorem j_icmp_ne (Z : gF p l e R s m args below meth c cc nL Ts own g) {x y : Int32} {off : Int} (tgt : Nat) (d : decode cc pc = .ok (.if_icmp .ne off, 3)) (ht : (pc : Int) + off = (tgt : Int)) (KT : ¬ x = y → J p l e R s m args below meth c Q g nL μ k n tgt L st) (KF : x = y → J p l e R s m args below meth c Q g nL μ k n (pc + 3) L st) : J p l e R s m args below meth c Q g nL μ k n pc L (.int y :: .int x :: st) :=
  fun H locs ls hI hS hl => lv_icmp_ne Z.1 Z.2.1 d ht (fun h => KT h H locs ls hI hS hl) (fun h => KF h H locs ls hI hS hl)
theorem j_if_lt (Z : gF p l e R s m args below meth c cc nL Ts own g) {x : Int32} {off : Int} (tgt : Nat) (d : decode cc pc = .ok (.ifCond .lt off, 3)) (ht : (pc : Int) + off = (tgt : Int)) (KT : x < 0 → J p l e R s m args below meth c Q g nL μ k n tgt L st) (KF : ¬ x < 0 → J p l e R s m args below meth c Q g nL μ k n (pc + 3) L st) : J p l e R s m args below meth c Q g nL μ k n pc L (.int x :: st) :=
  fun H locs ls hI hS hl => lv_if_lt Z.1 Z.2.1 d ht (fun h => KT h H locs ls hI hS hl) (fun h => KF h H locs ls hI hS hl)
theorem j_icmp_lt (Z : gF p l e R s m args below meth c cc nL Ts own g) {x y : Int32} {off : Int} (tgt : Nat) (d : decode cc pc = .ok (.if_icmp .lt off, 3)) (ht : (pc : Int) + off = (tgt : Int)) (KT : x < y → J p l e R s m args below meth c Q g nL μ k n tgt L st) (KF : ¬ x < y → J p l e R s m args below meth c Q g nL μ k n (pc + 3) L st) : J p l e R s m args below meth c Q g nL μ k n pc L (.int y :: .int x :: st) :=
  fun H locs ls hI hS hl => lv_icmp_lt Z.1 Z.2.1 d ht (fun h => KT h H locs ls hI hS hl) (fun h => KF h H locs ls hI hS hl)
theorem j_if_ge (Z : gF p l e R s m args below meth c cc nL Ts own g) {x : Int32} {off : Int} (tgt : Nat) (d : decode cc pc = .ok (.ifCond .ge off, 3)) (ht : (pc : Int) + off = (tgt : Int)) (KT : 0 ≤ x → J p l e R s m args below meth c Q g nL μ k n tgt L st) (KF : ¬ 0 ≤ x → J p l e R s m args below meth c Q g nL μ k n (pc + 3) L st) : J p l e R s m args below meth c Q g nL μ k n pc L (.int x :: st) :=
  fun H locs ls hI hS hl => lv_if_ge Z.1 Z.2.1 d ht (fun h => KT h H locs ls hI hS hl) (fun h => KF h H locs ls hI hS hl)
theorem j_icmp_ge (Z : gF p l e R s m args below meth c cc nL Ts own g) {x y : Int32} {off : Int} (tgt : Nat) (d : decode cc pc = .ok (.if_icmp .ge off, 3)) (ht : (pc : Int) + off = (tgt : Int)) (KT : y ≤ x → J p l e R s m args below meth c Q g nL μ k n tgt L st) (KF : ¬ y ≤ x → J p l e R s m args below meth c Q g nL μ k n (pc + 3) L st) : J p l e R s m args below meth c Q g nL μ k n pc L (.int y :: .int x :: st) :=
  fun H locs ls hI hS hl => lv_icmp_ge Z.1 Z.2.1 d ht (fun h => KT h H locs ls hI hS hl) (fun h => KF h H locs ls hI hS hl)
theorem j_if_gt (Z : gF p l e R s m args below meth c cc nL Ts own g) {x : Int32} {off : Int} (tgt : Nat) (d : decode cc pc = .ok (.ifCond .gt off, 3)) (ht : (pc : Int) + off = (tgt : Int)) (KT : 0 < x → J p l e R s m args below meth c Q g nL μ k n tgt L st) (KF : ¬ 0 < x → J p l e R s m args below meth c Q g nL μ k n (pc + 3) L st) : J p l e R s m args below meth c Q g nL μ k n pc L (.int x :: st) :=
  fun H locs ls hI hS hl => lv_if_gt Z.1 Z.2.1 d ht (fun h => KT h H locs ls hI hS hl) (fun h => KF h H locs ls hI hS hl)
theorem j_icmp_gt (Z : gF p l e R s m args below meth c cc nL Ts own g) {x y : Int32} {off : Int} (tgt : Nat) (d : decode cc pc = .ok (.if_icmp .gt off, 3)) (ht : (pc : Int) + off = (tgt : Int)) (KT : y < x → J p l e R s m args below meth c Q g nL μ k n tgt L st) (KF : ¬ y < x → J p l e R s m args below meth c Q g nL μ k n (pc + 3) L st) : J p l e R s m args below meth c Q g nL μ k n pc L (.int y :: .int x :: st) :=
  fun H locs ls hI hS hl => lv_icmp_gt Z.1 Z.2.1 d ht (fun h => KT h H locs ls hI hS hl) (fun h => KF h H locs ls hI hS hl)
theorem j_if_le (Z : gF p l e R s m args below meth c cc nL Ts own g) {x : Int32} {off : Int} (tgt : Nat) (d : decode cc pc = .ok (.ifCond .le off, 3)) (ht : (pc : Int) + off = (tgt : Int)) (KT : x ≤ 0 → J p l e R s m args below meth c Q g nL μ k n tgt L st) (KF : ¬ x ≤ 0 → J p l e R s m args below meth c Q g nL μ k n (pc + 3) L st) : J p l e R s m args below meth c Q g nL μ k n pc L (.int x :: st) :=
  fun H locs ls hI hS hl => lv_if_le Z.1 Z.2.1 d ht (fun h => KT h H locs ls hI hS hl) (fun h => KF h H locs ls hI hS hl)
theorem j_icmp_le (Z : gF p l e R s m args below meth c cc nL Ts own g) {x y : Int32} {off : Int} (tgt : Nat) (d : decode cc pc = .ok (.if_icmp .le off, 3)) (ht : (pc : Int) + off = (tgt : Int)) (KT : x ≤ y → J p l e R s m args below meth c Q g nL μ k n tgt L st) (KF : ¬ x ≤ y → J p l e R s m args below meth c Q g nL μ k n (pc + 3) L st) : J p l e R s m args below meth c Q g nL μ k n pc L (.int y :: .int x :: st) :=
  fun H locs ls hI hS hl => lv_icmp_le Z.1 Z.2.1 d ht (fun h => KT h H locs ls hI hS hl) (fun h => KF h H locs ls hI hS hl)
theorem j_get (Z : gF p l e R s m args below meth c cc nL Ts own g) (a : Nat) (ha : a < 181) {ci : Nat} {fs : List Value} (he : gE g (μ a) a = .inr (ci, fs)) {C : String} {T : u_T} {N index : Nat} (hc : vwCl[ci]? = some (C, T, N)) (j : Nat) (hj : j < N) {v : Value} (hv : fs[j]? = some v) (hin : ∀ w ∈ u_ws C T N, w ∈ Ts) (hlk : Cond.fieldLink own index (T j).1 (T j).2.1 (T j).2.2.1 ∈ Ts) (d : decode cc pc = .ok (.getfield index, 3)) (K : J p l e R s m args below meth c Q g nL μ k n (pc + 3) L (v :: st)) : J p l e R s m args below meth c Q g nL μ k n pc L (.ref (g.2.1 a) :: st) :=
  fun H locs ls hI hS hl => va_get Z.1 Z.2.1 Z.2.2.2.2.1 hin Z.2.2.2.1 Z.2.2.2.2.2.1.1 hI a (by rw [gW_at ha, he]) hc j hj (Z.2.2.2.2.1 _ hlk) (fun _ h => h) hv d (K H locs ls hI hS hl)
theorem j_put (Z : gF p l e R s m args below meth c cc nL Ts own g) (a : Nat) (ha : a < 181) {ci : Nat} {fs : (Nat → Int32) → List Value} (he : ∀ r : Nat → Int32, gE g r a = .inr (ci, fs r)) {C : String} {T : u_T} {N index : Nat} (hc : vwCl[ci]? = some (C, T, N)) (ty0 : Nat → FieldType) (hty : ∀ k, k < N → parseFieldDescriptor (T k).2.2.1 = some (ty0 k)) (hnm : ∀ a, a < N → ∀ b, b < N → a ≠ b → (T a).2.1 ≠ (T b).2.1) (j : Nat) (hj : j < N) {x : Int32} (hset : (fs (μ a)).set j (.int x) = fs (upd (μ a) j x)) (hln : j < (fs (μ a)).length) (hfin : (T j).2.2.2 = false) (hd : parseFieldDescriptor (T j).2.2.1 = some .int) (hin : ∀ w ∈ u_ws C T N, w ∈ Ts) (hlk : Cond.fieldLink own index (T j).1 (T j).2.1 (T j).2.2.1 ∈ Ts) (d : decode cc pc = .ok (.putfield index, 3)) (K : J p l e R s m args below meth c Q g nL (gU μ a j x) k n (pc + 3) L st) : J p l e R s m args below meth c Q g nL μ k n pc L (.int x :: .ref (g.2.1 a) :: st) :=
  fun H locs ls hI hS hl => va_put (ty := .int) Z.1 Z.2.1 Z.2.2.2.2.1 hin ty0 hty hnm Z.2.2.2.1 Z.2.2.2.2.2.1.1 hI (gD_va Z.2.2.2.2.2.1.2.1 μ) hS a (by rw [gW_at ha, he]) hc j hj (Z.2.2.2.2.1 _ hlk) (fun _ h => h) hfin hd rfl rfl hln d (fun H1 locs1 hP _ hS1 => K H1 locs1 ls (by rw [hset, gW_set ha (he _).symm] at hP; exact hP) hS1 hl)
theorem j_ald (Z : gF p l e R s m args below meth c cc nL Ts own g) (a : Nat) (ha : a < 181) {N : Nat} {f : Nat → Option Nat} (he : gE g (μ a) a = .inl (g.2.2.1 4, N, .inr (.inr (.inr (.inr f))))) {x : Int32} (i : Nat) (hx : x = nI i) (hi : i < N) (hN : N ≤ 4096) {b : Nat} (hf : f i = some b) (d : decode cc pc = .ok (.aaload, 1)) (K : J p l e R s m args below meth c Q g nL μ k n (pc + 1) L (.ref b :: st)) : J p l e R s m args below meth c Q g nL μ k n pc L (.int x :: .ref (g.2.1 a) :: st) := by
  subst hx
  intro H locs ls hI hS hl
  have h1 := hI a _ (gW_at ha)
  rw [he] at h1
  refine W.aald (v := .ref b) (ty := .array .int) Z.1 Z.2.1 h1 ((Z.2.2.2.2.2.1.1.2 4 _ rfl).1 N (fun j => va_rf (f j))) rfl (fun q => by cases q) (by show ¬ (_ ∨ (arrV _ _ _).slots.size ≤ _); rw [arrV_size]; exact nI_vp hi hN) (by show (arrV _ _ _).slots[_]? = _; rw [nI_cl hi hN, arrV_read _ _ hi, hf]; rfl) rfl rfl d (K H locs ls hI hS hl)
theorem j_ild (Z : gF p l e R s m args below meth c cc nL Ts own g) (a : Nat) (ha : a < 181) {N : Nat} (he : ∀ r : Nat → Int32, gE g r a = .inl (g.2.2.1 0, N, .inl r)) {x : Int32} (i : Nat) (hx : x = nI i) (hi : i < N) (hN : N ≤ 4096) (d : decode cc pc = .ok (.iaload, 1)) (K : J p l e R s m args below meth c Q g nL μ k n (pc + 1) L (.int (μ a i) :: st)) : J p l e R s m args below meth c Q g nL μ k n pc L (.int x :: .ref (g.2.1 a) :: st) := by
  subst hx
  intro H locs ls hI hS hl
  refine va_iald (f := μ a) Z.1 Z.2.1 Z.2.2.2.2.2.1.1 hI a 0 (by rw [gW_at ha, he]) rfl (nI_vp hi hN) d ?_
  rw [nI_cl hi hN]
  exact K H locs ls hI hS hl
theorem j_ist (Z : gF p l e R s m args below meth c cc nL Ts own g) (a : Nat) (ha : a < 181) {N : Nat} (he : ∀ r : Nat → Int32, gE g r a = .inl (g.2.2.1 0, N, .inl r)) {x v : Int32} (i : Nat) (hx : x = nI i) (hi : i < N) (hN : N ≤ 4096) (d : decode cc pc = .ok (.iastore, 1)) (K : J p l e R s m args below meth c Q g nL (gU μ a i v) k n (pc + 1) L st) : J p l e R s m args below meth c Q g nL μ k n pc L (.int v :: .int x :: .ref (g.2.1 a) :: st) := by
  subst hx
  intro H locs ls hI hS hl
  refine va_iast (f := μ a) Z.1 Z.2.1 Z.2.2.2.2.2.1.1 hI (gD_va Z.2.2.2.2.2.1.2.1 μ) hS a 0 (by rw [gW_at ha, he]) rfl (nI_vp hi hN) d (fun H1 locs1 hP _ hS1 => ?_)
  rw [nI_cl hi hN, gW_set ha (he _).symm] at hP
  exact K H1 locs1 ls hP hS1 hl
theorem j_zld (Z : gF p l e R s m args below meth c cc nL Ts own g) (a : Nat) (ha : a < 181) {N : Nat} (he : ∀ r : Nat → Int32, gE g r a = .inl (g.2.2.1 1, N, .inl r)) {x : Int32} (i : Nat) (hx : x = nI i) (hi : i < N) (hN : N ≤ 4096) (d : decode cc pc = .ok (.baload, 1)) (K : J p l e R s m args below meth c Q g nL μ k n (pc + 1) L (.int (μ a i) :: st)) : J p l e R s m args below meth c Q g nL μ k n pc L (.int x :: .ref (g.2.1 a) :: st) := by
  subst hx
  intro H locs ls hI hS hl
  refine va_zald (f := μ a) Z.1 Z.2.1 Z.2.2.2.2.2.1.1 hI a 1 (by rw [gW_at ha, he]) rfl (nI_vp hi hN) d ?_
  rw [nI_cl hi hN]
  exact K H locs ls hI hS hl
theorem j_zst (Z : gF p l e R s m args below meth c cc nL Ts own g) (a : Nat) (ha : a < 181) {N : Nat} (he : ∀ r : Nat → Int32, gE g r a = .inl (g.2.2.1 1, N, .inl r)) {x v : Int32} (i : Nat) (hx : x = nI i) (hi : i < N) (hN : N ≤ 4096) (hz : vp_nar .boolean v = v) (d : decode cc pc = .ok (.bastore, 1)) (K : J p l e R s m args below meth c Q g nL (gU μ a i v) k n (pc + 1) L st) : J p l e R s m args below meth c Q g nL μ k n pc L (.int v :: .int x :: .ref (g.2.1 a) :: st) := by
  subst hx
  intro H locs ls hI hS hl
  refine va_zast (f := μ a) Z.1 Z.2.1 Z.2.2.2.2.2.1.1 hI (gD_va Z.2.2.2.2.2.1.2.1 μ) hS a 1 (by rw [gW_at ha, he]) rfl (nI_vp hi hN) d (fun H1 locs1 hP _ hS1 => ?_)
  rw [hz, nI_cl hi hN, gW_set ha (he _).symm] at hP
  exact K H1 locs1 ls hP hS1 hl
theorem j_mmax (Z : gF p l e R s m args below meth c cc nL Ts own g) {index : Nat} (h1 : Cond.methodLink own index Lib.Math.max.name ∈ Ts) (h2 : Cond.static Lib.Math.max.name ∈ Ts) (h3 : Cond.initialized "java/lang/Math" ∈ Ts) (h4 : Cond.code Lib.Math.max.name Lib.Math.max.code 2 (some .int) ∈ Ts) (hR : 1 ≤ R.frames ∧ (st.map fun v => v.category).sum + 13 ≤ R.locals ∧ k ≤ R.cells ∧ n ≤ R.slots) {x y : Int32} (d : decode cc pc = .ok (.invokestatic index, 3)) (K : J p l e R s m args below meth c Q g nL μ k n (pc + 3) L (.int (if x < y then y else x) :: st)) : J p l e R s m args below meth c Q g nL μ k n pc L (.int y :: .int x :: st) :=
  fun H locs ls hI hS hl => va_mmax Z.1 Z.2.1 (Z.2.2.1.trans hl.1.symm) Z.2.2.2.1 (Z.2.2.2.2.1 _ h1) (Z.2.2.2.2.1 _ h2) (Z.2.2.2.2.1 _ h3) (Z.2.2.2.2.1 _ h4) hR.1 hR.2.1 hR.2.2.1 hR.2.2.2 d (K H locs ls hI hS hl)
theorem j_mmin (Z : gF p l e R s m args below meth c cc nL Ts own g) {index : Nat} (h1 : Cond.methodLink own index Lib.Math.min.name ∈ Ts) (h2 : Cond.static Lib.Math.min.name ∈ Ts) (h3 : Cond.initialized "java/lang/Math" ∈ Ts) (h4 : Cond.code Lib.Math.min.name Lib.Math.min.code 2 (some .int) ∈ Ts) (hR : 1 ≤ R.frames ∧ (st.map fun v => v.category).sum + 13 ≤ R.locals ∧ k ≤ R.cells ∧ n ≤ R.slots) {x y : Int32} (d : decode cc pc = .ok (.invokestatic index, 3)) (K : J p l e R s m args below meth c Q g nL μ k n (pc + 3) L (.int (if y < x then y else x) :: st)) : J p l e R s m args below meth c Q g nL μ k n pc L (.int y :: .int x :: st) :=
  fun H locs ls hI hS hl => va_mmin Z.1 Z.2.1 (Z.2.2.1.trans hl.1.symm) Z.2.2.2.1 (Z.2.2.2.2.1 _ h1) (Z.2.2.2.2.1 _ h2) (Z.2.2.2.2.1 _ h3) (Z.2.2.2.2.1 _ h4) hR.1 hR.2.1 hR.2.2.1 hR.2.2.2 d (K H locs ls hI hS hl)
theorem j_ldc (Z : gF p l e R s m args below meth c cc nL Ts own g) {index : Nat} {v : Int32} (hc : Cond.constant own index v ∈ Ts) (d : decode cc pc = .ok (.ldc index, 2)) (K : J p l e R s m args below meth c Q g nL μ k n (pc + 2) L (.int v :: st)) : J p l e R s m args below meth c Q g nL μ k n pc L st :=
  fun H locs ls hI hS hl => lv_ldc Z.1 Z.2.1 Z.2.2.2.1 (Z.2.2.2.2.1 _ hc) d (K H locs ls hI hS hl)
theorem j_ineg (Z : gF p l e R s m args below meth c cc nL Ts own g) {x : Int32} (d : decode cc pc = .ok (.ineg, 1)) (K : J p l e R s m args below meth c Q g nL μ k n (pc + 1) L (.int (-x) :: st)) : J p l e R s m args below meth c Q g nL μ k n pc L (.int x :: st) :=
  fun H locs ls hI hS hl => lv_ineg Z.1 Z.2.1 d (K H locs ls hI hS hl)
/-- a quotient and a remainder of numbers that aren't negative -/
theorem nI_div {a b : Nat} (ha : a < 2 ^ 31) (hb : b < 2 ^ 31) : nI a / nI b = nI (a / b) := by
  apply Int32.toInt_inj.mp
  have h1 : a / b ≤ a := Nat.div_le_self a b
  rw [Int32.toInt_div, nI_toInt ha, nI_toInt hb, nI_toInt (by omega), ← Int.ofNat_tdiv]
  generalize a / b = q at h1
  exact Int.bmod_eq_of_le (by omega) (by omega)
theorem nI_mulN {a b : Nat} (h : a * b < 2 ^ 31) : nI a * nI b = nI (a * b) := by
  show Int32.ofNat a * Int32.ofNat b = Int32.ofNat (a * b)
  rw [Int32.ofNat_mul]
theorem nI_rem {a b : Nat} (ha : a < 2 ^ 31) (hb : b < 2 ^ 31) : nI a - nI a / nI b * nI b = nI (a % b) := by
  have h1 : a / b * b ≤ a := Nat.div_mul_le_self a b
  have h2 : a = a % b + a / b * b := by rw [Nat.mul_comm]; exact (Nat.mod_add_div a b).symm
  rw [nI_div ha hb, nI_mulN (by omega)]
  have e : nI a = nI (a % b) + nI (a / b * b) := by
    show Int32.ofNat a = Int32.ofNat (a % b) + Int32.ofNat (a / b * b)
    rw [← Int32.ofNat_add, ← h2]
  rw [e, Int32.add_sub_cancel]
theorem j_idivN (Z : gF p l e R s m args below meth c cc nL Ts own g) {a b : Nat} {y : Int32} (d : decode cc pc = .ok (.idiv, 1)) (hy : y = nI b) (ha : a < 2 ^ 31) (hb : b < 2 ^ 31) (hb0 : 0 < b) (K : J p l e R s m args below meth c Q g nL μ k n (pc + 1) L (.int (nI (a / b)) :: st)) : J p l e R s m args below meth c Q g nL μ k n pc L (.int y :: .int (nI a) :: st) := by
  subst hy
  intro H locs ls hI hS hl
  refine lv_idiv Z.1 Z.2.1 d (fun q => ?_) ?_
  · have := (nI_eq hb (show 0 < 2 ^ 31 by decide)).mp q
    omega
  · rw [nI_div ha hb]; exact K H locs ls hI hS hl
theorem j_iremN (Z : gF p l e R s m args below meth c cc nL Ts own g) {a b : Nat} {y : Int32} (d : decode cc pc = .ok (.irem, 1)) (hy : y = nI b) (ha : a < 2 ^ 31) (hb : b < 2 ^ 31) (hb0 : 0 < b) (K : J p l e R s m args below meth c Q g nL μ k n (pc + 1) L (.int (nI (a % b)) :: st)) : J p l e R s m args below meth c Q g nL μ k n pc L (.int y :: .int (nI a) :: st) := by
  subst hy
  intro H locs ls hI hS hl
  refine lv_irem Z.1 Z.2.1 d (fun q => ?_) ?_
  · have := (nI_eq hb (show 0 < 2 ^ 31 by decide)).mp q
    omega
  · rw [nI_rem ha hb]; exact K H locs ls hI hS hl
end GJ
